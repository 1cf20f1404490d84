/-! peace -/
section peace
variable {G : Gl} {l : Launch} {d : Nat} {S : Sg} {m : Nat → Nat} {P : Int32 → Sg → Prop} {F : Int32 → Int32 → Sg → Prop}
def sAll (m : Nat → Nat) : Nat := sIn m (sBels m (m 1) (m 2))
/-- crowns by votes -/
def sCr (m : Nat → Nat) (n i : Nat) : Nat := if sBel m i (m 1) (m 2) = true then sVo m i * n / sAll m else 0
def sLf (m : Nat → Nat) (n : Nat) : Nat → Int32
  | 0 => nI n
  | k + 1 => if sBel m k (m 1) (m 2) = true then sLf m n k - nI (sCr m n k) else sLf m n k
/-- what is left, and the shares, behind k of them -/
def sPs (m : Nat → Nat) (n : Nat) : Nat → Int32 × (Nat → Nat)
  | 0 => (sLf m n (m 7), fun i => if i < m 7 then sCr m n i else 0)
  | k + 1 => if sBel m k (m 1) (m 2) = true ∧ ¬ (sPs m n k).1 ≤ nI 0 then ((sPs m n k).1 + (-1), up1 (sPs m n k).2 k) else sPs m n k
theorem sPs_end {m : Nat → Nat} {n k : Nat} (h : (sPs m n k).1 ≤ nI 0) : ∀ q, sPs m n (k + q) = sPs m n k
  | 0 => rfl
  | q + 1 => by
    have ih := sPs_end h q
    show (if _ ∧ ¬ (sPs m n (k + q)).1 ≤ nI 0 then _ else sPs m n (k + q)) = _
    rw [if_neg (fun z => z.2 (by rw [ih]; exact h)), ih]
theorem sCr_le {m : Nat → Nat} (hI : IV m) {n i : Nat} (hn : n < 100) (hi : i < 6) : sCr m n i ≤ 1800 := by
  unfold sCr
  split
  · have h1 := sVo_le (hI.2 i hi)
    have h2 : sVo m i * n ≤ 18 * 100 := Nat.mul_le_mul h1 (by omega)
    exact Nat.le_trans (Nat.div_le_self _ _) h2
  · omega
theorem sPs_le {m : Nat → Nat} (hI : IV m) {n : Nat} (hn : n < 100) : ∀ k, ∀ i, (sPs m n k).2 i ≤ 1800 + k
  | 0, i => by
    have := hI.p6
    show (if i < m 7 then sCr m n i else 0) ≤ _
    split
    · exact sCr_le hI hn (by omega)
    · omega
  | k + 1, i => by
    have h := sPs_le hI hn k i
    unfold sPs
    split
    · dsimp only [up1]
      split <;> omega
    · omega
/-- a row of which the first k are laid -/
def RwK (S : Sg) (x p k : Nat) (c : Nat → Nat) (T : Sg) : Prop := RwSt S x p (fun i => if i < k then c i else 0) T
theorem t_crowns_1 {x n : Nat} (hx : x < 6) (hn : n < 100) (hv : LV S 28 m) (hI : IV m) (ha : 0 < sAll m) {Q : Sg → Prop} (h : ∀ T, RwSt S x (m 7) (fun i => if i < m 7 then sCr m n i else 0) T → Ev G l mX4_shareCrowns (d + 4) 87 [some (.ref 0), some (.int (nI n)), some (.int (nI (sAll m))), some (.ref (8 + x)), some (.int (sLf m n (m 7))), some (.int (nI 0))] [] T (QV Q)) : ∀ (q k : Nat), k + q = m 7 → ∀ T, RwK S x (m 7) k (sCr m n) T → Ev G l mX4_shareCrowns (d + 4) 18 [some (.ref 0), some (.int (nI n)), some (.int (nI (sAll m))), some (.ref (8 + x)), some (.int (sLf m n k)), some (.int (nI k))] [] T (QV Q) := by
  have hp := hI.p6
  have hra : RowAt (8 + x) := ra_F sh1 (ix_nI hx (by decide))
  have hln : ln (8 + x + 10) = 40 := ln_row hx
  have hal : sAll m ≤ 108 := sIn_le hI _
  intro q
  induction q with
  | zero =>
    intro k hk T hT
    obtain rfl : k = m 7 := by omega
    exact bX4_shareCrowns_18 _ _ _ hra _ _ ⟨fun _ => h T hT, fun z => absurd (by rw [(hT.lv hx hv).p]; exact (z_le (by omega) (by omega)).mpr (Nat.le_refl _)) z⟩
  | succ q ih =>
    intro k hk T hT
    have h9 := ih (k + 1) (by omega)
    rw [sLf] at h9
    have hvT := hT.lv hx hv
    have hV := sVo_le (hI.2 k (by omega))
    refine bX4_shareCrowns_18 _ _ _ hra _ _ ⟨fun z => ?_, fun _ => ⟨fun z => ?_, fun _ => t_belongs la28 hvT hI (by omega) ?_⟩⟩
    · rw [hvT.p, z_le (by omega) (by omega)] at z
      omega
    · rw [z_le (by omega) (by omega)] at z
      omega
    · rw [b2_0, z_add]
      refine ⟨fun z => ?_, fun z => t_votes la28 hvT hI (by omega) ⟨?_, k, ix_nI (by omega) (by omega), fun T2 e2 => ?_⟩⟩
      · rw [if_neg (by rw [z]; decide)] at h9
        refine h9 T ⟨hT.1, hT.2.1, hT.2.2.1, fun i hi => ?_⟩
        rw [hT.2.2.2 i hi]
        congr 1
        dsimp only
        by_cases q1 : i = k
        · subst q1
          rw [if_neg (by omega), if_pos (by omega), sCr, if_neg (by rw [z]; decide)]
        · by_cases q2 : i < k
          · rw [if_pos q2, if_pos (by omega)]
          · rw [if_neg q2, if_neg (by omega)]
      · intro y
        have := (z_eq (a := sAll m) (b := 0) (by omega) (by omega)).mp y
        omega
      · have z1 := (Bool.not_eq_false _).mp z
        rw [if_pos z1] at h9
        have l1 := mul_lt' hV (b := n) (by omega)
        have e3 : nI (sVo m k) * nI n / nI (sAll m) = nI (sCr m n k) := by
          rw [z_mul, z_div l1 ha (by omega), sCr, if_pos z1]
        rw [e3, show 8 + x + 10 = 18 + x by omega] at e2
        have e4 : T2.1 (8 + x + 10) k = nI (sCr m n k) := by
          rw [e2, show 8 + x + 10 = 18 + x by omega]
          dsimp only
          rw [u2_s]
        rw [e4]
        refine h9 T2 ?_
        rw [e2]
        refine ⟨fun a ha => ?_, hT.2.1, ?_, fun i hi => ?_⟩ <;> dsimp only
        · rw [u2_o _ (by omega)]
          exact hT.1 a ha
        · rw [u2_o _ (by omega)]
          exact hT.2.2.1
        · by_cases q1 : i = k
          · rw [q1, u2_s, if_pos (by omega)]
          · rw [u2_n _ q1, hT.2.2.2 i hi]
            dsimp only
            by_cases q2 : i < k
            · rw [if_pos q2, if_pos (by omega)]
            · rw [if_neg q2, if_neg (by omega)]
theorem t_crowns_2 {x n : Nat} (hx : x < 6) (hn : n < 100) (hv : LV S 28 m) (hI : IV m) {Q : Sg → Prop} (h : ∀ T, RwSt S x (m 7) (sPs m n (m 7)).2 T → Q T) : ∀ (q k : Nat), k + q = m 7 → ∀ T, RwSt S x (m 7) (sPs m n k).2 T → Ev G l mX4_shareCrowns (d + 4) 87 [some (.ref 0), some (.int (nI n)), some (.int (nI (sAll m))), some (.ref (8 + x)), some (.int (sPs m n k).1), some (.int (nI k))] [] T (QV Q) := by
  have hp := hI.p6
  have hra : RowAt (8 + x) := ra_F sh1 (ix_nI hx (by decide))
  have hln : ln (8 + x + 10) = 40 := ln_row hx
  intro q
  induction q with
  | zero =>
    intro k hk T hT
    obtain rfl : k = m 7 := by omega
    exact bX4_shareCrowns_87 _ _ _ hra _ _ ⟨fun _ => h T hT, fun z => absurd (by rw [(hT.lv hx hv).p]; exact (z_le (by omega) (by omega)).mpr (Nat.le_refl _)) z⟩
  | succ q ih =>
    intro k hk T hT
    have h9 := ih (k + 1) (by omega)
    rw [sPs] at h9
    have hvT := hT.lv hx hv
    refine bX4_shareCrowns_87 _ _ _ hra _ _ ⟨fun z => ?_, fun _ => ⟨fun z => ?_, fun zl => t_belongs la28 hvT hI (by omega) ?_⟩⟩
    · rw [hvT.p, z_le (by omega) (by omega)] at z
      omega
    · refine h T ?_
      have := sPs_end z (q + 1)
      rw [hk] at this
      rw [this]
      exact hT
    · rw [b2_0, z_add]
      refine ⟨fun z => ?_, fun z => ⟨k, ix_nI (by omega) (by omega), fun T2 e2 => ?_⟩⟩
      · rw [if_neg (fun y => by rw [z] at y; exact absurd y.1 (by decide))] at h9
        exact h9 T hT
      · rw [if_pos ⟨(Bool.not_eq_false _).mp z, zl⟩] at h9
        refine h9 T2 ?_
        rw [e2, show 8 + x + 10 = 18 + x by omega]
        exact hT.up (by omega)
theorem t_shareCrowns {x n : Nat} (hx : x < 6) (hn : n < 100) (hv : LV S 28 m) (hI : IV m) (ha : 0 < sAll m) {Q : Sg → Prop} (h : ∀ T, RwSt S x (m 7) (sPs m n (m 7)).2 T → Q T) : Ct G l mX4_shareCrowns (d + 4) [.ref 0, .int (nI n), .int (nI (sAll m)), .ref (8 + x)] S (QV Q) := by
  have hp := hI.p6
  have hra : RowAt (8 + x) := ra_F sh1 (ix_nI hx (by decide))
  refine bX4_shareCrowns_0 _ _ _ hra ?_
  rw [hv.p]
  refine t_layAnew hra (by omega) (by rw [ln_row hx]; omega) ?_
  refine t_crowns_1 hx hn hv hI ha (fun T hT => t_crowns_2 hx hn hv hI h (m 7) 0 (by omega) T hT) (m 7) 0 (by omega) _ ?_
  refine ⟨fun a ha => ?_, rfl, ?_, fun i hi => ?_⟩ <;> unfold lanS <;> dsimp only
  · rw [u1_o _ (by omega), u2_o _ (by omega)]
  · rw [u1_o _ (by omega), u2_s]
  · rw [show 8 + x + 10 = 18 + x by omega, u1_s, if_pos hi]
    rfl
theorem bit_hi {m : Nat → Nat} {i : Nat} (h : m 7 ≤ i) : bit (sBels m (m 1) (m 2)) i = 0 := by
  have := sBit_lt m (m 1) (m 2) (m 7)
  have h2 : 2 ^ m 7 ≤ 2 ^ i := Nat.pow_le_pow_right (by omega) h
  exact bit_top (by unfold sBels; omega)
/-- whether one is one of people who belongs, by the bits -/
def sHb (m : Nat → Nat) (i : Nat) : Bool := decide (i < m 7 ∧ sBel m i (m 1) (m 2) = true)
theorem u_hb (hI : IV m) {i : Nat} (hi : i < 30) {T : Sg} {Q : Int32 → Sg → Prop} (h : Q (b2 (sHb m i)) T) : Ct G l mX5_has (d + 1) [.int (nI (sBels m (m 1) (m 2))), .int (nI i)] T (QI Q) := by
  have hs := sBels_lt hI (m 1) (m 2)
  refine u_has (by omega) (by omega) ?_
  have e : decide (bit (sBels m (m 1) (m 2)) i = 1) = sHb m i := by
    unfold sHb
    by_cases q : i < m 7
    · exact decide_eq_decide.mpr ((bit_sBit m (m 1) (m 2) (m 7) i q).trans ⟨fun z => ⟨q, z⟩, fun z => z.2⟩)
    · rw [bit_hi (by omega)]
      rw [decide_eq_false (by omega), decide_eq_false (fun z => q z.1)]
  rw [e]
  exact h
theorem u_crowns_1 {T : Sg} {n : Nat} {i2 : Int32} (hn : n < 100) (hu : MV T m) (hI : IV m) (ha : 0 < sAll m) (h : ∀ U, ShSt T (fun i => if i < m 7 then sCr m n i else 0) U → Ev G l mX5_peace (d + 3) 111 [some (.ref 7), some (.int (nI n)), some (.int i2), some (.int (nI (sBels m (m 1) (m 2)))), some (.int (nI (sAll m))), some (.int (sLf m n (m 7))), some (.int (nI 0)), none] [] U (QI P)) : ∀ (q k : Nat), k + q = 6 → ∀ U, ((∀ a, a ≠ 98 → U.1 a = T.1 a) ∧ U.2 = T.2 ∧ ∀ j, j < k → U.1 98 j = nI (if j < m 7 then sCr m n j else 0)) → Ev G l mX5_peace (d + 3) 52 [some (.ref 7), some (.int (nI n)), some (.int i2), some (.int (nI (sBels m (m 1) (m 2)))), some (.int (nI (sAll m))), some (.int (sLf m n (if k ≤ m 7 then k else m 7))), some (.int (nI k)), none] [] U (QI P) := by
  have hp := hI.p6
  have hal : sAll m ≤ 108 := sIn_le hI _
  intro q
  induction q with
  | zero =>
    intro k hk U hU
    obtain rfl : k = 6 := by omega
    refine bX5_peace_52 _ _ _ _ _ _ ⟨fun _ => ?_, fun z => absurd (by decide) z⟩
    rw [show (if 6 ≤ m 7 then 6 else m 7) = m 7 by split <;> omega]
    exact h U hU
  | succ q ih =>
    intro k hk U hU
    have h9 := ih (k + 1) (by omega)
    have hV := sVo_le (hI.2 k (by omega))
    have huU : MV U m := fun a ha => by rw [hU.1 93 (by omega)]; exact hu a ha
    have hst : ∀ (v : Nat) (T2 : Sg), v = (if k < m 7 then sCr m n k else 0) → T2 = (u2 U.1 98 k (nI v), U.2) → ((∀ a, a ≠ 98 → T2.1 a = T.1 a) ∧ T2.2 = T.2 ∧ ∀ j, j < k + 1 → T2.1 98 j = nI (if j < m 7 then sCr m n j else 0)) := by
      intro v T2 ev e2
      rw [e2]
      refine ⟨fun a ha => ?_, hU.2.1, fun j hj => ?_⟩ <;> dsimp only
      · rw [u2_o _ ha]
        exact hU.1 a ha
      · by_cases q1 : j = k
        · rw [q1, u2_s, ev]
        · rw [u2_n _ q1]
          exact hU.2.2 j (by omega)
    refine bX5_peace_52 _ _ _ _ _ _ ⟨fun z => ?_, fun _ => u_hb hI (by omega) ?_⟩
    · rw [z_le (by omega) (by omega)] at z
      omega
    · rw [b2_0, z_add]
      refine ⟨fun z => ⟨k, ix_nI (by omega) (by omega), fun T2 e2 => ?_⟩, fun z => u_votesOf huU hI (by omega) ⟨?_, k, ix_nI (by omega) (by omega), fun T2 e2 => ?_⟩⟩
      · have z1 := of_decide_eq_false z
        have ev : 0 = (if k < m 7 then sCr m n k else 0) := by
          split
          · next w => rw [sCr, if_neg (fun y => z1 ⟨w, y⟩)]
          · rfl
        have e4 : T2.1 98 k = nI 0 := by rw [e2]; dsimp only; rw [u2_s]
        rw [e4]
        have e5 : sLf m n (if k ≤ m 7 then k else m 7) - nI 0 = sLf m n (if k + 1 ≤ m 7 then k + 1 else m 7) := by
          rw [show ∀ x : Int32, x - nI 0 = x from fun x => Int32.sub_zero x]
          by_cases w : k + 1 ≤ m 7
          · rw [if_pos w, if_pos (by omega), sLf, if_neg (fun y => z1 ⟨by omega, y⟩)]
          · rw [if_neg w]
            split
            · next w2 => rw [show k = m 7 by omega]
            · rfl
        rw [e5]
        exact h9 T2 (hst 0 T2 ev e2)
      · intro y
        have := (z_eq (a := sAll m) (b := 0) (by omega) (by omega)).mp y
        omega
      · have z1 := of_decide_eq_true ((Bool.not_eq_false _).mp z)
        have l1 := mul_lt' hV (b := n) (by omega)
        have e3 : nI (sVo m k) * nI n / nI (sAll m) = nI (sCr m n k) := by
          rw [z_mul, z_div l1 ha (by omega), sCr, if_pos z1.2]
        rw [e3] at e2
        have e4 : T2.1 98 k = nI (sCr m n k) := by rw [e2]; dsimp only; rw [u2_s]
        rw [e4]
        have e5 : sLf m n (if k ≤ m 7 then k else m 7) - nI (sCr m n k) = sLf m n (if k + 1 ≤ m 7 then k + 1 else m 7) := by
          rw [if_pos (by omega), if_pos (by omega), sLf, if_pos z1.2]
        rw [e5]
        exact h9 T2 (hst _ T2 (by rw [if_pos z1.1]) e2)
theorem u_crowns_2 {T : Sg} {n : Nat} {i2 : Int32} (hI : IV m) (h : ∀ U v, ShSt T (sPs m n (m 7)).2 U → Ev G l mX5_peace (d + 3) 111 [some (.ref 7), some (.int (nI n)), some (.int i2), some (.int (nI (sBels m (m 1) (m 2)))), some (.int (nI (sAll m))), some (.int v), some (.int (nI 6)), none] [] U (QI P)) : ∀ (q k : Nat), k + q = 6 → ∀ U, ShSt T (sPs m n (if k ≤ m 7 then k else m 7)).2 U → Ev G l mX5_peace (d + 3) 111 [some (.ref 7), some (.int (nI n)), some (.int i2), some (.int (nI (sBels m (m 1) (m 2)))), some (.int (nI (sAll m))), some (.int (sPs m n (if k ≤ m 7 then k else m 7)).1), some (.int (nI k)), none] [] U (QI P) := by
  have hp := hI.p6
  intro q
  induction q with
  | zero =>
    intro k hk U hU
    obtain rfl : k = 6 := by omega
    rw [show (if 6 ≤ m 7 then 6 else m 7) = m 7 by split <;> omega] at hU ⊢
    exact h U _ hU
  | succ q ih =>
    intro k hk U hU
    have h9 := ih (k + 1) (by omega)
    have hsame : ¬ (k < m 7 ∧ sBel m k (m 1) (m 2) = true ∧ ¬ (sPs m n k).1 ≤ nI 0) → sPs m n (if k + 1 ≤ m 7 then k + 1 else m 7) = sPs m n (if k ≤ m 7 then k else m 7) := by
      intro w
      by_cases w1 : k + 1 ≤ m 7
      · rw [if_pos w1, if_pos (by omega), sPs, if_neg (fun y => w ⟨by omega, y⟩)]
      · rw [if_neg w1]
        split
        · next w2 => rw [show k = m 7 by omega]
        · rfl
    refine bX5_peace_111 _ _ _ _ _ _ ⟨fun z => ?_, fun _ => u_hb hI (by omega) ?_⟩
    · rw [z_le (by omega) (by omega)] at z
      omega
    · rw [b2_0, z_add]
      refine ⟨fun z => ?_, fun z => ⟨fun z2 => ?_, fun z2 => ⟨k, ix_nI (by omega) (by omega), fun T2 e2 => ?_⟩⟩⟩
      · have z1 := of_decide_eq_false z
        rw [hsame (fun y => z1 ⟨y.1, y.2.1⟩)] at h9
        exact h9 U hU
      · have z1 := of_decide_eq_true ((Bool.not_eq_false _).mp z)
        rw [hsame (fun y => y.2.2 (by rw [if_pos (by omega)] at z2; exact z2))] at h9
        exact h9 U hU
      · have z1 := of_decide_eq_true ((Bool.not_eq_false _).mp z)
        rw [if_pos (by omega)] at z2 hU ⊢
        rw [if_pos (by omega), sPs, if_pos ⟨z1.2, z2⟩] at h9
        refine h9 T2 ?_
        rw [e2]
        exact hU.up (by omega)
end peace
