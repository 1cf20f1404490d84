/-! shares in a row -/
section shares
variable {G : Gl} {l : Launch} {d : Nat} {S : Sg} {m : Nat → Nat} {P : Int32 → Sg → Prop} {F : Int32 → Int32 → Sg → Prop}
/-- a row of p numbers c laid, on the one side -/
def RwSt (S : Sg) (x p : Nat) (c : Nat → Nat) (T : Sg) : Prop := (∀ a, a ≠ 8 + x ∧ a ≠ 18 + x → T.1 a = S.1 a) ∧ T.2 = S.2 ∧ T.1 (8 + x) 1 = nI p ∧ ∀ i, i < p → T.1 (18 + x) i = nI (c i)
/-- shares c, on the other side -/
def ShSt (T : Sg) (c : Nat → Nat) (U : Sg) : Prop := (∀ a, a ≠ 98 → U.1 a = T.1 a) ∧ U.2 = T.2 ∧ ∀ i, i < 6 → U.1 98 i = nI (c i)
/-- one more for one of them -/
def up1 (c : Nat → Nat) (j : Nat) : Nat → Nat := fun i => if i = j then c i + 1 else c i
theorem RwSt.up {x p : Nat} {c : Nat → Nat} {T : Sg} (h : RwSt S x p c T) {j : Nat} (hj : j < p) : RwSt S x p (up1 c j) (u2 T.1 (18 + x) j (T.1 (18 + x) j + nI 1), T.2) := by
  refine ⟨fun a ha => ?_, h.2.1, ?_, fun i hi => ?_⟩ <;> dsimp only
  · rw [u2_o _ (by omega)]
    exact h.1 a ha
  · rw [u2_o _ (by omega)]
    exact h.2.2.1
  · unfold up1
    by_cases q : i = j
    · subst q
      rw [u2_s, if_pos rfl, h.2.2.2 i hi, z_add]
    · rw [u2_n _ q, if_neg q]
      exact h.2.2.2 i hi
theorem ShSt.up {T : Sg} {c : Nat → Nat} {U : Sg} (h : ShSt T c U) {j : Nat} (hj : j < 6) : ShSt T (up1 c j) (u2 U.1 98 j (U.1 98 j + nI 1), U.2) := by
  refine ⟨fun a ha => ?_, h.2.1, fun i hi => ?_⟩ <;> dsimp only
  · rw [u2_o _ (by omega)]
    exact h.1 a ha
  · unfold up1
    by_cases q : i = j
    · subst q
      rw [u2_s, if_pos rfl, h.2.2 i hi, z_add]
    · rw [u2_n _ q, if_neg q]
      exact h.2.2 i hi
theorem RwSt.lv {x p : Nat} {c : Nat → Nat} {T : Sg} (h : RwSt S x p c T) (hx : x < 6) (hv : LV S 28 m) : LV T 28 m := hv.fr (A := fun a => a ≠ 8 + x ∧ a ≠ 18 + x) h.1 (fun k h1 h2 => by show k ≠ 8 + x ∧ k ≠ 18 + x; omega)
theorem RwSt.mv {x p : Nat} {c : Nat → Nat} {T : Sg} (h : RwSt S x p c T) (hx : x < 6) (hu : MV S m) : MV T m := by
  intro k hk
  rw [h.1 93 (by omega)]
  exact hu k hk
theorem ShSt.mv {T : Sg} {c : Nat → Nat} {U : Sg} (h : ShSt T c U) (hu : MV T m) : MV U m := by
  intro k hk
  rw [h.1 93 (by omega)]
  exact hu k hk
/-- the shares laid in a row -/
def lsS (U : Sg) (x p i : Nat) : Sg := (u1 (lyS U x p 40).1 89 (fun a => if 40 * x ≤ a ∧ a < 40 * x + i then U.1 98 (a - 40 * x) else (lyS U x p 40).1 89 a), U.2)
theorem lyS_o {U : Sg} {x p i k : Nat} (h : k ≠ 88 ∧ k ≠ 89) : (lyS U x p i).1 k = U.1 k := by
  unfold lyS
  dsimp only
  rw [u1_o _ h.2, u2_o _ h.1]
theorem lsS_o {U : Sg} {x p i k : Nat} (h : k ≠ 88 ∧ k ≠ 89) : (lsS U x p i).1 k = U.1 k := by
  unfold lsS
  dsimp only
  rw [u1_o _ h.2, lyS_o h]
theorem u_laysShares {U : Sg} {x : Nat} (hx : x < 6) (hu : MV U m) (hI : IV m) {Q : Sg → Prop} (h : Q (lsS U x (m 7) (m 7))) : Ct G l mX5_laysShares (d + 2) [.ref 7, .int (nI x)] U (QV Q) := by
  have hp := hI.p6
  have hl : ∀ (q i : Nat), i + q = m 7 → Ev G l mX5_laysShares (d + 2) 14 [some (.ref 7), some (.int (nI x)), some (.int (nI i))] [] (lsS U x (m 7) i) (QV Q) := by
    have e7 : ∀ i, (lsS U x (m 7) i).1 93 7 = nI (m 7) := fun i => by rw [lsS_o (by omega)]; exact hu 7 (by omega)
    intro q
    induction q with
    | zero =>
      intro i hi
      obtain rfl : i = m 7 := by omega
      exact bX5_laysShares_14 _ _ ⟨fun _ => h, fun z => absurd (by rw [e7]; exact (z_le (by omega) (by omega)).mpr (Nat.le_refl _)) z⟩
    | succ q ih =>
      intro i hi
      refine bX5_laysShares_14 _ _ ⟨fun z => ?_, fun _ => ⟨i, ix_nI (by omega) (by omega), 40 * x + i, ix_i (z_row 40 x i) (by omega) (by omega), fun S2 e => ?_⟩⟩
      · rw [e7, z_le (by omega) (by omega)] at z
        omega
      · have e3 : S2 = lsS U x (m 7) (i + 1) := by
          rw [e, lsS_o (by omega)]
          unfold lsS
          dsimp only
          rw [u2_u1]
          congr 2
          funext b
          by_cases q1 : b = 40 * x + i
          · rw [if_pos q1, if_pos (by omega), q1, Nat.add_sub_cancel_left]
          · rw [if_neg q1]
            by_cases q2 : 40 * x ≤ b ∧ b < 40 * x + i
            · rw [if_pos q2, if_pos (by omega)]
            · rw [if_neg q2, if_neg (by omega)]
        rw [e3, z_add]
        exact ih (i + 1) (by omega)
  refine bX5_laysShares_0 _ ?_
  rw [hu 7 (by omega)]
  refine v_lays hx ?_
  have h0 := hl (m 7) 0 (by omega)
  rw [show lsS U x (m 7) 0 = lyS U x (m 7) 40 by
    unfold lsS
    rw [u1_id _ _ (by funext k; rw [if_neg (by omega)])]
    rfl] at h0
  exact h0
theorem R.shared (hR : R S) {x p : Nat} (hx : x < 6) (hp : p ≤ 6) {c : Nat → Nat} {T U : Sg} (hT : RwSt S x p c T) (hU : ShSt T c U) : R (lsS U x p p) := by
  have gU : ∀ k, k ≠ 98 ∧ k ≠ 8 + x ∧ k ≠ 18 + x → U.1 k = S.1 k := fun k hk => (hU.1 k hk.1).trans (hT.1 k hk.2)
  have hR9 : R (u1 S.1 98 (U.1 98), S.2) := hR.scr (fun k hk => by dsimp only; rw [u1_o _ (by omega)]) rfl
  have g2 : (lsS U x p p).2 = S.2 := hU.2.1.trans hT.2.1
  have g88 : ∀ y, (lsS U x p p).1 88 y = if y = x then nI p else S.1 88 y := by
    intro y
    unfold lsS lyS
    dsimp only
    rw [u1_o _ (by omega), u1_o _ (by omega)]
    by_cases q : y = x
    · rw [if_pos q, q, u2_s]
    · rw [if_neg q, u2_n _ q, gU _ (by omega)]
  refine R.rows hR9 hx (fun k hk => ?_) (fun y hy => ?_) (fun y i hy hyx hi => ?_) ?_ ?_ ?_ ?_
  · rw [lsS_o (by omega)]
    dsimp only
    by_cases q : k = 98
    · rw [q, u1_s]
    · rw [u1_o _ q, gU _ (by omega)]
  · rw [g88, if_neg hy]
    dsimp only
    rw [u1_o _ (by omega)]
  · unfold lsS lyS
    dsimp only
    rw [u1_s, if_neg (by omega), u1_s, if_neg (by omega), u1_o _ (by omega), gU _ (by omega)]
  · refine ⟨?_, Or.inr ⟨p, by omega, ?_, fun i hi => ?_⟩⟩
    · rw [lsS_o (by omega), g88, if_pos rfl, hU.1 _ (by omega)]
      exact hT.2.2.1
    · rw [g88, if_pos rfl]
    · rw [lsS_o (by omega), hU.1 _ (by omega), hT.2.2.2 i hi]
      unfold lsS
      dsimp only
      rw [u1_s, if_pos (by omega), Nat.add_sub_cancel_left, hU.2.2 i (by omega)]
  · refine RF.fr hR.2.2.1 ?_ ?_ ?_ ?_ <;> rw [lsS_o (by omega), gU _ (by omega)]
  · have := hR.2.2.2.1
    unfold RQ at this ⊢
    rw [lsS_o (by omega), lsS_o (by omega), gU _ (by omega), gU _ (by omega)]
    exact this
  · have := hR.2.2.2.2.1
    unfold RL2 at this ⊢
    rw [g2]
    exact this
end shares
