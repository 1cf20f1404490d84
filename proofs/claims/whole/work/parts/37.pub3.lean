/-! rows and texts laid; what is told -/
section pub3
variable {G : Gl} {l : Launch} {d : Nat} {S : Sg} {P : Int32 → Sg → Prop} {F : Int32 → Int32 → Sg → Prop}
theorem u2_u1 (f : Nat → Nat → Int32) (K : Nat) (g : Nat → Int32) (i : Nat) (v : Int32) : u2 (u1 f K g) K i v = u1 f K (fun b => if b = i then v else g b) := by
  funext a b
  by_cases q : a = K
  · subst q
    simp [u2, u1]
  · simp [u2, u1, q]
theorem u1_id (f : Nat → Nat → Int32) (K : Nat) {g : Nat → Int32} (h : g = f K) : u1 f K g = f := by
  funext a
  by_cases q : a = K
  · subst q
    simp [u1, h]
  · simp [u1, q]
/-- a Row laid anew -/
def lanS (S : Sg) (k n : Nat) (v : Int32) (i : Nat) : Sg := (u1 (u2 S.1 k 1 (nI n)) (k + 10) (fun a => if a < i then v else S.1 (k + 10) a), S.2)
theorem t_layAnew_l {k n : Nat} {v : Int32} (hk : RowAt k) (hn : n ≤ 60) (hl : n ≤ ln (k + 10)) {P : Sg → Prop} (h : P (lanS S k n v n)) : ∀ (q i : Nat), i + q = n → Ev G l mX3_layAnew (d + 1) 19 [some (.ref k), some (.int (nI n)), some (.int v), some (.int (nI i))] [] (lanS S k n v i) (QV P) := by
  have hb := ra_l hk
  have e1 : ∀ i, (lanS S k n v i).1 k 1 = nI n := by
    intro i
    show u1 (u2 S.1 k 1 (nI n)) (k + 10) _ k 1 = _
    rw [u1_o _ (by omega), u2_s]
  intro q
  induction q with
  | zero =>
    intro i hi
    refine bX3_layAnew_19 k hk _ _ _ ⟨fun _ => ?_, fun z => ?_⟩
    · rw [show i = n by omega]
      exact h
    · rw [e1, z_le (by omega) (by omega)] at z
      omega
  | succ q ih =>
    intro i hi
    refine bX3_layAnew_19 k hk _ _ _ ⟨fun z => ?_, fun _ => ⟨i, ix_nI (by omega) (by omega), fun S2 e2 => ?_⟩⟩
    · rw [e1, z_le (by omega) (by omega)] at z
      omega
    · have e3 : S2 = lanS S k n v (i + 1) := by
        rw [e2]
        show (u2 (u1 (u2 S.1 k 1 (nI n)) (k + 10) _) (k + 10) i v, S.2) = _
        rw [u2_u1]
        unfold lanS
        congr 2
        funext b
        by_cases q1 : b = i
        · simp [q1]
        · by_cases q2 : b < i
          · simp [q1, q2, show b < i + 1 by omega]
          · simp [q1, q2, show ¬ b < i + 1 by omega]
      rw [e3, z_add]
      exact ih (i + 1) (by omega)
theorem t_layAnew {k n : Nat} {v : Int32} (hk : RowAt k) (hn : n ≤ 60) (hl : n ≤ ln (k + 10)) {P : Sg → Prop} (h : P (lanS S k n v n)) : Ct G l mX3_layAnew (d + 1) [.ref k, .int (nI n), .int v] S (QV P) := by
  have hb := ra_l hk
  refine bX3_layAnew_0 k hk _ _ (fun S1 e1 => ?_)
  have e2 : S1 = lanS S k n v 0 := by
    rw [e1]
    have q1 : ¬ nI (ln (k + 10)) < nI n := by
      rw [z_lt (by omega) (by omega)]
      omega
    have q2 : (if nI 0 < nI n then nI n else nI 0) = nI n := by
      by_cases q : 0 < n
      · rw [if_pos (by rw [z_lt (by omega) (by omega)]; exact q)]
      · rw [show n = 0 by omega]
        simp
    rw [if_neg q1, q2]
    unfold lanS
    rw [u1_id]
    funext a
    simp [u2_o]
  rw [e2]
  exact t_layAnew_l hk hn hl h n 0 (by omega)
theorem z_big {x : Int32} {n : Nat} (h0 : nI 0 ≤ x) (h : x ≤ nI n) (hn : n < 1000) : ∃ j, j ≤ n ∧ x = nI j := by
  obtain ⟨j, hj, rfl⟩ := z_ofx h0
  rw [z_le hj (by omega)] at h
  exact ⟨j, h, rfl⟩
/-- the reference's rows laid: 40 places from one on -/
def lyS (S : Sg) (x n i : Nat) : Sg := (u1 (u2 S.1 88 x (nI n)) 89 (fun a => if 40 * x ≤ a ∧ a < 40 * x + i then nI 0 else S.1 89 a), S.2)
theorem v_lays_l {x n : Nat} (hx : x < 6) {P : Sg → Prop} (h : P (lyS S x n 40)) : ∀ (q i : Nat), i + q = 40 → Ev G l mX5_lays (d + 1) 9 [some (.ref 7), some (.int (nI x)), some (.int (nI n)), some (.int (nI i))] [] (lyS S x n i) (QV P) := by
  intro q
  induction q with
  | zero =>
    intro i hi
    refine bX5_lays_9 _ _ _ ⟨fun _ => ?_, fun z => ?_⟩
    · rw [show i = 40 by omega]
      exact h
    · rw [z_le (by omega) (by omega)] at z
      omega
  | succ q ih =>
    intro i hi
    refine bX5_lays_9 _ _ _ ⟨fun z => ?_, fun _ => ⟨40 * x + i, ix_i (z_row 40 x i) (by omega) (by omega), fun S2 e2 => ?_⟩⟩
    · rw [z_le (by omega) (by omega)] at z
      omega
    · have e3 : S2 = lyS S x n (i + 1) := by
        rw [e2]
        show (u2 (u1 (u2 S.1 88 x (nI n)) 89 _) 89 (40 * x + i) (nI 0), S.2) = _
        rw [u2_u1]
        unfold lyS
        congr 2
        funext b
        by_cases q1 : b = 40 * x + i
        · simp [q1]
        · by_cases q2 : 40 * x ≤ b ∧ b < 40 * x + i
          · simp [q1, q2, show b < 40 * x + (i + 1) by omega]
          · rw [if_neg q1, if_neg q2, if_neg (by omega)]
      rw [e3, z_add]
      exact ih (i + 1) (by omega)
theorem v_lays {x n : Nat} (hx : x < 6) {P : Sg → Prop} (h : P (lyS S x n 40)) : Ct G l mX5_lays (d + 1) [.ref 7, .int (nI x), .int (nI n)] S (QV P) := by
  refine bX5_lays_0 _ _ ⟨x, ix_nI hx (by omega), fun S1 e1 => ?_⟩
  have e2 : S1 = lyS S x n 0 := by
    rw [e1]
    unfold lyS
    rw [u1_id]
    funext a
    rw [if_neg (by omega), u2_o _ (by omega)]
  rw [e2]
  exact v_lays_l hx h 40 0 (by omega)
theorem R.laid (hR : R S) {x n : Nat} (hx : x < 6) (hn : n ≤ 40) : R (lyS (lanS S (8 + x) n (nI 0) n) x n 40) := by
  have ed : ∀ k, k ≠ 8 + x ∧ k ≠ 18 + x ∧ k ≠ 88 ∧ k ≠ 89 → (lyS (lanS S (8 + x) n (nI 0) n) x n 40).1 k = S.1 k := by
    intro k hk
    unfold lyS lanS
    dsimp only
    rw [u1_o _ (by omega), u2_o _ (by omega), u1_o _ (by omega), u2_o _ (by omega)]
  refine hR.rows hx (fun k hk => ed k (by omega)) (fun y hy => ?_) (fun y i hy hyx hi => ?_) ⟨?_, Or.inr ⟨n, hn, ?_, fun i hi => ?_⟩⟩ (hR.2.2.1.fr (ed _ (by omega)) (ed _ (by omega)) (ed _ (by omega)) (ed _ (by omega))) ?_ hR.2.2.2.2.1
  · unfold lyS lanS
    dsimp only
    rw [u1_o _ (by omega), u2_n _ hy, u1_o _ (by omega), u2_o _ (by omega)]
  · unfold lyS lanS
    dsimp only
    rw [u1_s]
    show (if 40 * x ≤ 40 * y + i ∧ 40 * y + i < 40 * x + 40 then nI 0 else u1 (u2 S.1 (8 + x) 1 (nI n)) (8 + x + 10) _ 89 _) = _
    rw [if_neg (by omega), u1_o _ (by omega), u2_o _ (by omega)]
  · unfold lyS lanS
    dsimp only
    rw [u1_o _ (by omega), u2_o _ (by omega), u1_o _ (by omega), u2_s, u1_o _ (by omega), u2_s]
  · unfold lyS lanS
    dsimp only
    rw [u1_o _ (by omega), u2_s]
  · unfold lyS lanS
    dsimp only
    rw [u1_o _ (by omega), u2_o _ (by omega), show 18 + x = 8 + x + 10 by omega, u1_s, u1_s, if_pos hi, if_pos (by omega)]
  · unfold RQ
    rw [ed 0 (by omega), ed 7 (by omega)]
    exact hR.2.2.2.1
theorem pm_row (hR : R S) (i1 i2 : Int32) (h : ∀ r S', R S' → F r r S') : Ct G l mX4_row (d + 20) [.ref 0, .int i1, .int i2] S (QI (fun r T => Ct G l mX5_row (d + 20) [.ref 7, .int i1, .int i2] T (QI (fun r2 T2 => F r r2 T2)))) := by
  refine bX4_row_0 _ _ (t_isRow _ ?_)
  rcases o_cases i1 6 (by omega) with q | ⟨j, hj, rfl⟩
  · rw [b2n_n q]
    refine ⟨fun _ => bX5_row_0 _ _ (u_isRow _ ?_), fun z => absurd rfl z⟩
    rw [b2n_n q]
    exact ⟨fun _ => h _ _ hR, fun z => absurd rfl z⟩
  · rw [b2n_y hj (by omega)]
    refine ⟨fun z => absurd z (by decide), fun _ => ⟨fun q40 => ⟨fun q0 => ⟨j, ix_nI hj (by omega), ?_⟩, fun q0 => t_refuse (by omega) (bX5_row_0 _ _ (u_isRow _ ?_))⟩, fun q40 => bX5_row_0 _ _ (u_isRow _ ?_)⟩⟩
    · obtain ⟨n, hn, rfl⟩ := z_big q0 q40 (by omega)
      refine t_layAnew ⟨by omega, by omega⟩ (by omega) (by rw [ln_row hj]; exact hn) (bX5_row_0 _ _ (u_isRow _ ?_))
      rw [b2n_y hj (by omega)]
      exact ⟨fun z => absurd z (by decide), fun _ => ⟨fun _ => ⟨fun _ => v_lays hj (h _ _ (hR.laid hj hn)), fun z => absurd q0 z⟩, fun z => absurd q40 z⟩⟩
    · rw [b2n_y hj (by omega)]
      exact ⟨fun z => absurd z (by decide), fun _ => ⟨fun _ => ⟨fun z => absurd z q0, fun _ => u_finds (by omega) (h _ _ (hR.found (by omega)))⟩, fun z => absurd q40 z⟩⟩
    · rw [b2n_y hj (by omega)]
      exact ⟨fun z => absurd z (by decide), fun _ => ⟨fun z => absurd z q40, fun _ => h _ _ hR⟩⟩
/-- the reference's texts laid -/
def lxS (S : Sg) (x n i : Nat) : Sg := (u1 (u2 S.1 91 x (nI n)) 92 (fun a => if 60 * x ≤ a ∧ a < 60 * x + i then nI 32 else S.1 92 a), S.2)
theorem u_text_l {x n : Nat} (hx : x < 4) (h : P (nI n) (lxS S x n 60)) : ∀ (q i : Nat), i + q = 60 → Ev G l mX5_text (d + 1) 34 [some (.ref 7), some (.int (nI x)), some (.int (nI n)), some (.int (nI i))] [] (lxS S x n i) (QI P) := by
  intro q
  induction q with
  | zero =>
    intro i hi
    refine bX5_text_34 _ _ _ ⟨fun _ => ?_, fun z => ?_⟩
    · rw [show i = 60 by omega]
      exact h
    · rw [z_le (by omega) (by omega)] at z
      omega
  | succ q ih =>
    intro i hi
    refine bX5_text_34 _ _ _ ⟨fun z => ?_, fun _ => ⟨60 * x + i, ix_i (z_row 60 x i) (by omega) (by omega), fun S2 e2 => ?_⟩⟩
    · rw [z_le (by omega) (by omega)] at z
      omega
    · have e3 : S2 = lxS S x n (i + 1) := by
        rw [e2]
        show (u2 (u1 (u2 S.1 91 x (nI n)) 92 _) 92 (60 * x + i) (nI 32), S.2) = _
        rw [u2_u1]
        unfold lxS
        congr 2
        funext b
        by_cases q1 : b = 60 * x + i
        · simp [q1]
        · by_cases q2 : 60 * x ≤ b ∧ b < 60 * x + i
          · simp [q1, q2, show b < 60 * x + (i + 1) by omega]
          · rw [if_neg q1, if_neg q2, if_neg (by omega)]
      rw [e3, z_add]
      exact ih (i + 1) (by omega)
theorem R.laidT (hR : R S) {x n : Nat} (hx : x < 4) (hn : n ≤ 60) : R (lxS (lanS S (14 + x) n (nI 32) n) x n 60) := by
  have ed : ∀ k, k ≠ 14 + x ∧ k ≠ 24 + x ∧ k ≠ 91 ∧ k ≠ 92 → (lxS (lanS S (14 + x) n (nI 32) n) x n 60).1 k = S.1 k := by
    intro k hk
    unfold lxS lanS
    dsimp only
    rw [u1_o _ (by omega), u2_o _ (by omega), u1_o _ (by omega), u2_o _ (by omega)]
  refine hR.txts hx (fun k hk => ed k (by omega)) (fun y hy => ?_) (fun y i hy hyx hi => ?_) ⟨?_, Or.inr ⟨n, hn, ?_, fun i hi => ?_⟩⟩ rfl
  · unfold lxS lanS
    dsimp only
    rw [u1_o _ (by omega), u2_n _ hy, u1_o _ (by omega), u2_o _ (by omega)]
  · unfold lxS lanS
    dsimp only
    rw [u1_s]
    show (if 60 * x ≤ 60 * y + i ∧ 60 * y + i < 60 * x + 60 then nI 32 else u1 (u2 S.1 (14 + x) 1 (nI n)) (14 + x + 10) _ 92 _) = _
    rw [if_neg (by omega), u1_o _ (by omega), u2_o _ (by omega)]
  · unfold lxS lanS
    dsimp only
    rw [u1_o _ (by omega), u2_o _ (by omega), u1_o _ (by omega), u2_s, u1_o _ (by omega), u2_s]
  · unfold lxS lanS
    dsimp only
    rw [u1_o _ (by omega), u2_s]
  · unfold lxS lanS
    dsimp only
    rw [u1_o _ (by omega), u2_o _ (by omega), show 24 + x = 14 + x + 10 by omega, u1_s, u1_s, if_pos hi, if_pos (by omega)]
theorem pm_text (hR : R S) (i1 i2 : Int32) (h : ∀ r S', R S' → F r r S') : Ct G l mX4_text (d + 20) [.ref 0, .int i1, .int i2] S (QI (fun r T => Ct G l mX5_text (d + 20) [.ref 7, .int i1, .int i2] T (QI (fun r2 T2 => F r r2 T2)))) := by
  refine bX4_text_0 _ _ (t_isText _ ?_)
  rcases o_cases i1 4 (by omega) with q | ⟨j, hj, rfl⟩
  · rw [b2n_n q]
    refine ⟨fun _ => bX5_text_0 _ _ (u_isText _ ?_), fun z => absurd rfl z⟩
    rw [b2n_n q]
    exact ⟨fun _ => h _ _ hR, fun z => absurd rfl z⟩
  · rw [b2n_y hj (by omega)]
    refine ⟨fun z => absurd z (by decide), fun _ => ⟨fun q40 => ⟨fun q0 => ⟨j, ix_nI hj (by omega), ?_⟩, fun q0 => t_refuse (by omega) (bX5_text_0 _ _ (u_isText _ ?_))⟩, fun q40 => bX5_text_0 _ _ (u_isText _ ?_)⟩⟩
    · obtain ⟨n, hn, rfl⟩ := z_big q0 q40 (by omega)
      refine t_layAnew ⟨by omega, by omega⟩ (by omega) (by rw [ln_txt hj]; exact hn) (bX5_text_0 _ _ (u_isText _ ?_))
      rw [b2n_y hj (by omega)]
      refine ⟨fun z => absurd z (by decide), fun _ => ⟨fun _ => ⟨fun _ => ⟨j, ix_nI hj (by omega), fun S2 e2 => ?_⟩, fun z => absurd q0 z⟩, fun z => absurd q40 z⟩⟩
      have e3 : S2 = lxS (lanS S (14 + j) n (nI 32) n) j n 0 := by
        rw [e2]
        unfold lxS
        rw [u1_id]
        funext a
        rw [if_neg (by omega), u2_o _ (by omega)]
      rw [e3]
      exact u_text_l hj (h _ _ (hR.laidT hj hn)) 60 0 (by omega)
    · rw [b2n_y hj (by omega)]
      exact ⟨fun z => absurd z (by decide), fun _ => ⟨fun _ => ⟨fun z => absurd z q0, fun _ => u_finds (by omega) (h _ _ (hR.found (by omega)))⟩, fun z => absurd q40 z⟩⟩
    · rw [b2n_y hj (by omega)]
      exact ⟨fun z => absurd z (by decide), fun _ => ⟨fun z => absurd z q40, fun _ => h _ _ hR⟩⟩
theorem pm_asked (hR : R S) (h : ∀ r S', R S' → F r r S') : Ct G l mX4_asked (d + 20) [.ref 0] S (QI (fun r T => Ct G l mX5_asked (d + 20) [.ref 7] T (QI (fun r2 T2 => F r r2 T2)))) := by
  refine bX4_asked_0 (bX5_asked_0 ?_)
  rw [hR.2.2.2.1]
  exact h _ _ hR
theorem pm_finding (hR : R S) (h : ∀ r S', R S' → F r r S') : Ct G l mX4_finding (d + 20) [.ref 0] S (QI (fun r T => Ct G l mX5_finding (d + 20) [.ref 7] T (QI (fun r2 T2 => F r r2 T2)))) := by
  refine bX4_finding_0 (bX5_finding_0 ?_)
  rw [hR.2.2.1.1]
  exact h _ _ hR
theorem pm_upper (hR : R S) {F : Int64 → Int64 → Sg → Prop} (h : ∀ r S', R S' → F r r S') : Ct G l mX4_upper (d + 20) [.ref 0] S (QL (fun r T => Ct G l mX5_upper (d + 20) [.ref 7] T (QL (fun r2 T2 => F r r2 T2)))) := by
  refine bX4_upper_0 (bX5_upper_0 ?_)
  rw [hR.2.2.2.2.1.1]
  exact h _ _ hR
theorem pm_lower (hR : R S) {F : Int64 → Int64 → Sg → Prop} (h : ∀ r S', R S' → F r r S') : Ct G l mX4_lower (d + 20) [.ref 0] S (QL (fun r T => Ct G l mX5_lower (d + 20) [.ref 7] T (QL (fun r2 T2 => F r r2 T2)))) := by
  refine bX4_lower_0 (bX5_lower_0 ?_)
  rw [hR.2.2.2.2.1.2]
  exact h _ _ hR
theorem pm_findings (hR : R S) (i1 : Int32) (h : ∀ r S', R S' → F r r S') : Ct G l mX4_findings (d + 20) [.ref 0, .int i1] S (QI (fun r T => Ct G l mX5_findings (d + 20) [.ref 7, .int i1] T (QI (fun r2 T2 => F r r2 T2)))) := by
  have key : ∀ r, r = b2 (decide (¬ i1 < nI 1 ∧ ¬ nI 5 < i1)) → ((¬ (r = nI 0)) → ix i1 (i1).toNatClampNeg 6) := by
    intro r hr z
    rw [hr, b2_0] at z
    simp at z
    obtain ⟨z1, z2⟩ := z
    obtain ⟨j, hj, rfl⟩ := z_ofx (x := i1) (by
      rw [Int32.le_iff_toInt_le] at z1 ⊢
      have a1 : (nI 0).toInt = 0 := rfl
      have a2 : (nI 1).toInt = 1 := rfl
      omega)
    rw [z_le hj (by omega)] at z2
    rw [nI_clamp (by omega)]
    exact ix_nI (by omega) (by omega)
  refine bX4_findings_0 _ ⟨fun q => ?_, fun q => ⟨fun q2 => ?_, fun q2 => ?_⟩⟩
  · refine bX5_findings_0 _ (u_in _ _ _ ⟨key _ rfl, fun x ex => ?_⟩)
    rw [if_pos (by rw [b2_0]; exact decide_eq_false (fun z => z.1 q))] at ex
    rw [ex]
    exact h _ _ hR
  · have hx := key _ rfl (by rw [decide_eq_true ⟨q, z_nlt.mpr q2⟩]; decide)
    refine ⟨_, hx, bX5_findings_0 _ (u_in _ _ _ ⟨key _ rfl, fun x ex => ?_⟩)⟩
    rw [if_neg (by rw [decide_eq_true ⟨q, z_nlt.mpr q2⟩]; decide)] at ex
    rw [ex]
    have h1 : 1 ≤ i1.toNatClampNeg := by
      apply Classical.byContradiction
      intro z
      have z0 : i1 = nI 0 := by
        have := hx
        obtain ⟨j, hj, rfl⟩ := z_ofx (z_nlt.mp hx.1)
        rw [nI_clamp hj] at z
        rw [show j = 0 by omega]
      rw [z0] at q
      exact q (by decide)
    rw [hR.2.2.1.2 _ h1 (by have := hx.2.2; omega)]
    exact h _ _ hR
  · refine bX5_findings_0 _ (u_in _ _ _ ⟨key _ rfl, fun x ex => ?_⟩)
    rw [if_pos (by rw [b2_0]; exact decide_eq_false (fun z => z.2 (z_nle.mp q2)))] at ex
    rw [ex]
    exact h _ _ hR
end pub3
