/-! seats -/
section seats
variable {G : Gl} {l : Launch} {d : Nat} {S : Sg} {m : Nat → Nat} {P : Int32 → Sg → Prop} {F : Int32 → Int32 → Sg → Prop}
/-- whether the nth comes ahead of the best so far (one more than its number; 0: none) -/
def sAh (m : Nat → Nat) (c : Nat → Nat) (n b : Nat) : Bool := decide ((sBel m n (m 1) (m 2) = true ∧ 0 < sVo m n) ∧ (b = 0 ∨ sVo m (b - 1) * (c n + 1) < sVo m n * (c (b - 1) + 1)))
def sNx (m : Nat → Nat) (c : Nat → Nat) : Nat → Nat
  | 0 => 0
  | n + 1 => if sAh m c n (sNx m c n) = true then n + 1 else sNx m c n
theorem sNx_le (m : Nat → Nat) (c : Nat → Nat) : ∀ n, sNx m c n ≤ n
  | 0 => Nat.le_refl 0
  | n + 1 => by
    have := sNx_le m c n
    unfold sNx
    split <;> omega
/-- the seats, how many, after k turns -/
def sCs (m : Nat → Nat) : Nat → (Nat → Nat) × Nat
  | 0 => (fun _ => 0, 0)
  | k + 1 => if sNx m (sCs m k).1 (m 7) = 0 then sCs m k else (up1 (sCs m k).1 (sNx m (sCs m k).1 (m 7) - 1), (sCs m k).2 + 1)
theorem sCs_le (m : Nat → Nat) : ∀ k, (sCs m k).2 ≤ k ∧ ∀ i, (sCs m k).1 i ≤ k
  | 0 => ⟨Nat.le_refl 0, fun _ => Nat.le_refl 0⟩
  | k + 1 => by
    have h := sCs_le m k
    unfold sCs
    split
    · exact ⟨by omega, fun i => by have := h.2 i; omega⟩
    · refine ⟨by have := h.1; dsimp only; omega, fun i => ?_⟩
      have := h.2 i
      dsimp only [up1]
      split <;> omega
def dn (b : Nat) : Int32 := if b = 0 then -1 else nI (b - 1)
def un (b : Nat) : Int32 := if b = 0 then -9 else nI (b - 1)
theorem dn_lt {b : Nat} (hb : b < 1000) : dn b < nI 0 ↔ b = 0 := by
  unfold dn
  by_cases q : b = 0
  · rw [if_pos q]
    exact ⟨fun _ => q, fun _ => by decide⟩
  · rw [if_neg q]
    exact ⟨fun z => absurd z (n_in (by omega)), fun z => absurd z q⟩
theorem un_9 {b : Nat} (hb : b < 1000) : un b = -9 ↔ b = 0 := by
  unfold un
  by_cases q : b = 0
  · rw [if_pos q]
    exact ⟨fun _ => q, fun _ => rfl⟩
  · rw [if_neg q]
    exact ⟨fun z => absurd z (z_m9_eq (by omega)), fun z => absurd z q⟩
theorem mul_lt' {a b : Nat} (ha : a ≤ 18) (hb : b ≤ 100) : a * b < 2147483648 := by
  have : a * b ≤ 18 * 100 := Nat.mul_le_mul ha hb
  omega
theorem t_next_l {T : Sg} {x : Nat} {c : Nat → Nat} (hx : x < 6) (hv : LV T 28 m) (hI : IV m) (hc : ∀ i, i < m 7 → T.1 (8 + x + 10) i = nI (c i)) (hc9 : ∀ i, c i ≤ 90) (h : P (dn (sNx m c (m 7))) T) : ∀ (k n : Nat), n + k = m 7 → Ev G l mX4_nextSeated (d + 4) 4 [some (.ref 0), some (.ref (8 + x)), some (.int (dn (sNx m c n))), some (.int (nI n))] [] T (QI P) := by
  have hp := hI.p6
  have hra : RowAt (8 + x) := ra_F sh1 (ix_nI hx (by decide))
  have hln : ln (8 + x + 10) = 40 := ln_row hx
  intro k
  induction k with
  | zero =>
    intro n hn
    obtain rfl : n = m 7 := by omega
    exact bX4_nextSeated_4 _ hra _ _ ⟨fun _ => h, fun z => absurd (by rw [hv.p]; exact (z_le (by omega) (by omega)).mpr (Nat.le_refl _)) z⟩
  | succ k ih =>
    intro n hn
    have h9 := ih (n + 1) (by omega)
    rw [sNx] at h9
    have gb := sNx_le m c n
    have hV := sVo_le (hI.2 n (by omega))
    refine bX4_nextSeated_4 _ hra _ _ ⟨fun z => ?_, fun _ => t_belongs la28 hv hI (by omega) ?_⟩
    · rw [hv.p, z_le (by omega) (by omega)] at z
      omega
    · rw [b2_0, z_add, dn_lt (by omega)]
      refine ⟨fun q => ?_, fun q => t_votes la28 hv hI (by omega) ?_⟩
      · rw [if_neg (by unfold sAh; exact fun y => absurd ((of_decide_eq_true y).1.1) (by rw [q]; decide))] at h9
        exact h9
      · have q1 := (Bool.not_eq_false _).mp q
        rw [z_le (by omega) (by omega)]
        refine ⟨fun q2 => ?_, fun q2 => ⟨fun q3 => ?_, fun q3 => t_votes la28 hv hI (by omega) ?_⟩⟩
        · rw [if_neg (by unfold sAh; exact fun y => absurd ((of_decide_eq_true y).1.2) (by omega))] at h9
          exact h9
        · rw [if_pos (by unfold sAh; exact decide_eq_true ⟨⟨q1, by omega⟩, Or.inl q3⟩), dn, if_neg (by omega), Nat.add_sub_cancel] at h9
          exact h9
        · have hVb := sVo_le (hI.2 (sNx m c n - 1) (by omega))
          have e1 : dn (sNx m c n) = nI (sNx m c n - 1) := by rw [dn, if_neg q3]
          rw [e1]
          refine ⟨sNx m c n - 1, ix_nI (by omega) (by omega), t_votes la28 hv hI (by omega) ⟨n, ix_nI (by omega) (by omega), fun y ey => ?_⟩⟩
          have e : y = dn (if sAh m c n (sNx m c n) = true then n + 1 else sNx m c n) := by
            have c1 := hc9 n
            have c2 := hc9 (sNx m c n - 1)
            rw [hc n (by omega), hc (sNx m c n - 1) (by omega)] at ey
            simp only [z_add, z_mul] at ey
            have l1 := mul_lt' hV (b := c (sNx m c n - 1) + 1) (by omega)
            have l2 := mul_lt' hVb (b := c n + 1) (by omega)
            rw [ey]
            simp (disch := assumption) only [z_le]
            by_cases w : sVo m n * (c (sNx m c n - 1) + 1) ≤ sVo m (sNx m c n - 1) * (c n + 1)
            · rw [if_pos w, if_neg (by unfold sAh; exact fun z => by have := (of_decide_eq_true z).2; omega), dn, if_neg q3]
            · rw [if_neg w, if_pos (by unfold sAh; exact decide_eq_true ⟨⟨q1, by omega⟩, Or.inr (by omega)⟩), dn, if_neg (by omega), Nat.add_sub_cancel]
          rw [e]
          exact h9
theorem t_seats_l {x n : Nat} (hx : x < 6) (hn : n ≤ 20) {i2 : Int32} (hv : LV S 28 m) (hI : IV m) (h : ∀ T, RwSt S x (m 7) (sCs m n).1 T → P (nI (sCs m n).2) T) : ∀ (q k : Nat), k + q = n → ∀ T, RwSt S x (m 7) (sCs m k).1 T → Ev G l mX4_seats (d + 5) 57 [some (.ref 0), some (.int (nI n)), some (.int i2), some (.ref (8 + x)), some (.int (nI (sCs m k).2)), some (.int (nI k)), none] [] T (QI P) := by
  have hp := hI.p6
  have hra : RowAt (8 + x) := ra_F sh1 (ix_nI hx (by decide))
  have hln : ln (8 + x + 10) = 40 := ln_row hx
  intro q
  induction q with
  | zero =>
    intro k hk T hT
    obtain rfl : k = n := by omega
    exact bX4_seats_57 _ _ _ hra _ _ ⟨fun _ => h T hT, fun z => absurd ((z_le (by omega) (by omega)).mpr (Nat.le_refl _)) z⟩
  | succ q ih =>
    intro k hk T hT
    have h9 := ih (k + 1) (by omega)
    rw [sCs] at h9
    have hle := sCs_le m k
    have gb := sNx_le m (sCs m k).1 (m 7)
    refine bX4_seats_57 _ _ _ hra _ _ ⟨fun z => ?_, fun _ => ?_⟩
    · rw [z_le (by omega) (by omega)] at z
      omega
    · refine bX4_nextSeated_0 _ hra ?_
      refine t_next_l hx (hT.lv hx hv) hI (c := (sCs m k).1) (fun i hi => by rw [show 8 + x + 10 = 18 + x by omega]; exact hT.2.2.2 i hi) (fun i => by have := hle.2 i; omega) ?_ (m 7) 0 (by omega)
      rw [dn_lt (by omega), z_add]
      refine ⟨fun z => ?_, fun z => ?_⟩
      · rw [if_pos z] at h9
        exact h9 T hT
      · rw [if_neg z] at h9
        rw [show dn (sNx m (sCs m k).1 (m 7)) = nI (sNx m (sCs m k).1 (m 7) - 1) by rw [dn, if_neg z]]
        refine ⟨sNx m (sCs m k).1 (m 7) - 1, ix_nI (by omega) (by omega), fun T2 e2 => ?_⟩
        rw [z_add]
        refine h9 T2 ?_
        rw [e2, show 8 + x + 10 = 18 + x by omega]
        exact hT.up (by omega)
theorem u_zero_l {T : Sg} {i1 i2 : Int32} (h : ∀ U, ShSt T (fun _ => 0) U → Ev G l mX5_seats (d + 1) 31 [some (.ref 7), some (.int i1), some (.int i2), some (.int (nI 6)), none, none, none, none, none, none] [] U (QI P)) : ∀ (q i : Nat), i + q = 6 → ∀ U, ((∀ a, a ≠ 98 → U.1 a = T.1 a) ∧ U.2 = T.2 ∧ ∀ j, j < i → U.1 98 j = nI 0) → Ev G l mX5_seats (d + 1) 31 [some (.ref 7), some (.int i1), some (.int i2), some (.int (nI i)), none, none, none, none, none, none] [] U (QI P) := by
  intro q
  induction q with
  | zero =>
    intro i hi U hU
    obtain rfl : i = 6 := by omega
    exact h U hU
  | succ q ih =>
    intro i hi U hU
    refine bX5_seats_31 _ _ _ ⟨fun z => ?_, fun _ => ⟨i, ix_nI (by omega) (by omega), fun U2 e2 => ?_⟩⟩
    · rw [z_le (by omega) (by omega)] at z
      omega
    · rw [z_add]
      refine ih (i + 1) (by omega) U2 ?_
      rw [e2]
      refine ⟨fun a ha => ?_, hU.2.1, fun j hj => ?_⟩ <;> dsimp only
      · rw [u2_o _ ha]
        exact hU.1 a ha
      · by_cases q1 : j = i
        · rw [q1, u2_s]
        · rw [u2_n _ q1]
          exact hU.2.2 j (by omega)
theorem u_pick_l {U : Sg} {c : Nat → Nat} {i1 i2 i4 i5 : Int32} (hu : MV U m) (hI : IV m) (hc : ∀ i, i < 6 → U.1 98 i = nI (c i)) (hc9 : ∀ i, c i ≤ 90) (h : Ev G l mX5_seats (d + 3) 74 [some (.ref 7), some (.int i1), some (.int i2), some (.int (nI (sBels m (m 1) (m 2)))), some (.int i4), some (.int i5), some (.int (un (sNx m c (m 7)))), some (.int (nI (m 7))), none, none] [] U (QI P)) : ∀ (k n : Nat), n + k = m 7 → Ev G l mX5_seats (d + 3) 74 [some (.ref 7), some (.int i1), some (.int i2), some (.int (nI (sBels m (m 1) (m 2)))), some (.int i4), some (.int i5), some (.int (un (sNx m c n))), some (.int (nI n)), none, none] [] U (QI P) := by
  have hp := hI.p6
  have hs := sBels_lt hI (m 1) (m 2)
  intro k
  induction k with
  | zero =>
    intro n hn
    obtain rfl : n = m 7 := by omega
    exact h
  | succ k ih =>
    intro n hn
    have h9 := ih (n + 1) (by omega)
    rw [sNx] at h9
    have gb := sNx_le m c n
    have hV := sVo_le (hI.2 n (by omega))
    have hbit : (bit (sBels m (m 1) (m 2)) n = 1) ↔ sBel m n (m 1) (m 2) = true := bit_sBit m _ _ _ n (by omega)
    have hno : ∀ i8, sAh m c n (sNx m c n) = false → Ev G l mX5_seats (d + 3) 162 [some (.ref 7), some (.int i1), some (.int i2), some (.int (nI (sBels m (m 1) (m 2)))), some (.int i4), some (.int i5), some (.int (un (sNx m c n))), some (.int (nI n)), some (.int i8), none] [] U (QI P) := by
      intro i8 q
      rw [q, if_neg (by decide)] at h9
      refine bX5_seats_162 _ _ _ _ _ _ _ _ (bX5_seats_163 _ _ _ _ _ _ _ _ _ (fun x ex => ?_))
      rw [if_pos rfl] at ex
      rw [ex, z_add]
      exact h9
    refine bX5_seats_74 _ _ _ _ _ _ _ ⟨fun z => ?_, fun _ => u_has (by omega) (by omega) ?_⟩
    · rw [hu 7 (by omega), z_le (by omega) (by omega)] at z
      omega
    · rw [b2_0]
      refine ⟨fun q => ?_, fun q => u_votesOf hu hI (by omega) (fun x ex => ?_)⟩
      · refine bX5_seats_108 _ _ _ _ _ _ _ (bX5_seats_109 _ _ _ _ _ _ _ _ ⟨fun _ => hno _ ?_, fun z => absurd rfl z⟩)
        unfold sAh
        exact decide_eq_false (fun y => (of_decide_eq_false q) (hbit.mpr y.1.1))
      · have q1 : sBel m n (m 1) (m 2) = true := hbit.mp (by simpa using q)
        simp (disch := omega) only [z_le] at ex
        by_cases q2 : sVo m n ≤ 0
        · have e1 : x = nI 0 := by rw [ex]; simp [q2]
          rw [e1]
          refine ⟨fun _ => hno _ ?_, fun z => absurd rfl z⟩
          unfold sAh
          exact decide_eq_false (fun y => absurd y.1.2 (by omega))
        · have e1 : x = nI 1 := by rw [ex]; simp [q2]
          rw [e1, un_9 (by omega)]
          refine ⟨fun z => absurd z (by decide), fun _ => ⟨fun q3 => ?_, fun q3 => u_votesOf hu hI (by omega) ?_⟩⟩
          · rw [if_pos (by unfold sAh; exact decide_eq_true ⟨⟨q1, by omega⟩, Or.inl q3⟩), un, if_neg (by omega), Nat.add_sub_cancel] at h9
            refine bX5_seats_158 _ _ _ _ _ _ _ _ (bX5_seats_163 _ _ _ _ _ _ _ _ _ (fun y ey => ?_))
            rw [if_neg (by decide)] at ey
            rw [ey, z_add]
            exact h9
          · have hVb := sVo_le (hI.2 (sNx m c n - 1) (by omega))
            have e2 : un (sNx m c n) = nI (sNx m c n - 1) := by rw [un, if_neg q3]
            rw [e2]
            refine ⟨sNx m c n - 1, ix_nI (by omega) (by omega), u_votesOf hu hI (by omega) ⟨n, ix_nI (by omega) (by omega), fun y ey z ez => ?_⟩⟩
            have e : z = un (if sAh m c n (sNx m c n) = true then n + 1 else sNx m c n) := by
              have c1 := hc9 n
              have c2 := hc9 (sNx m c n - 1)
              rw [hc n (by omega), hc (sNx m c n - 1) (by omega)] at ey
              simp only [z_add, z_mul] at ey
              have l1 := mul_lt' hV (b := c (sNx m c n - 1) + 1) (by omega)
              have l2 := mul_lt' hVb (b := c n + 1) (by omega)
              rw [ez, ey]
              simp (disch := assumption) only [z_le]
              by_cases w : sVo m n * (c (sNx m c n - 1) + 1) ≤ sVo m (sNx m c n - 1) * (c n + 1)
              · rw [if_pos w, if_pos rfl, if_neg (by unfold sAh; exact fun z => by have := (of_decide_eq_true z).2; omega), un, if_neg q3]
              · rw [if_neg w, if_neg (by decide), if_pos (by unfold sAh; exact decide_eq_true ⟨⟨q1, by omega⟩, Or.inr (by omega)⟩), un, if_neg (by omega), Nat.add_sub_cancel]
            rw [e, z_add]
            exact h9
theorem u_seats_l {T : Sg} {x n : Nat} (hx : x < 6) (hn : n ≤ 20) (hu : MV T m) (hI : IV m) (h : ∀ U, ShSt T (sCs m n).1 U → P (nI (sCs m n).2) (lsS U x (m 7) (m 7))) : ∀ (q k : Nat), k + q = n → ∀ U, ShSt T (sCs m k).1 U → Ev G l mX5_seats (d + 5) 61 [some (.ref 7), some (.int (nI n)), some (.int (nI x)), some (.int (nI (sBels m (m 1) (m 2)))), some (.int (nI (sCs m k).2)), some (.int (nI k)), none, none, none, none] [] U (QI P) := by
  have hp := hI.p6
  intro q
  induction q with
  | zero =>
    intro k hk U hU
    obtain rfl : k = n := by omega
    exact bX5_seats_61 _ _ _ _ _ ⟨fun _ => u_laysShares hx (hU.mv hu) hI (h U hU), fun z => absurd ((z_le (by omega) (by omega)).mpr (Nat.le_refl _)) z⟩
  | succ q ih =>
    intro k hk U hU
    have h9 := ih (k + 1) (by omega)
    rw [sCs] at h9
    have hle := sCs_le m k
    have gb := sNx_le m (sCs m k).1 (m 7)
    have hu2 := hU.mv hu
    refine bX5_seats_61 _ _ _ _ _ ⟨fun z => ?_, fun _ => ?_⟩
    · rw [z_le (by omega) (by omega)] at z
      omega
    · refine u_pick_l hu2 hI (c := (sCs m k).1) hU.2.2 (fun i => by have := hle.2 i; omega) ?_ (m 7) 0 (by omega)
      refine bX5_seats_74 _ _ _ _ _ _ _ ⟨fun _ => ?_, fun z => absurd (by rw [hu2 7 (by omega)]; exact (z_le (by omega) (by omega)).mpr (Nat.le_refl _)) z⟩
      rw [un_9 (by omega), z_add, z_add]
      refine ⟨fun z => ?_, fun z => ?_⟩
      · rw [if_pos z] at h9
        exact h9 U hU
      · rw [if_neg z] at h9
        rw [show un (sNx m (sCs m k).1 (m 7)) = nI (sNx m (sCs m k).1 (m 7) - 1) by rw [un, if_neg z]]
        refine ⟨sNx m (sCs m k).1 (m 7) - 1, ix_nI (by omega) (by omega), fun U2 e2 => ?_⟩
        refine h9 U2 ?_
        rw [e2]
        exact hU.up (by omega)
theorem pm_seats (hR : R S) (i1 i2 : Int32) (h : ∀ r S', R S' → F r r S') : Ct G l mX4_seats (d + 20) [.ref 0, .int i1, .int i2] S (QI (fun r T => Ct G l mX5_seats (d + 20) [.ref 7, .int i1, .int i2] T (QI (fun r2 T2 => F r r2 T2)))) := by
  obtain ⟨m, hv, hu, hI⟩ := hR.nv
  have hp := hI.p6
  rcases o_cases i1 21 (by omega) with q | ⟨n, hn, rfl⟩
  · have hm : Ct G l mX5_seats (d + 20) [.ref 7, .int i1, .int i2] S (QI (fun r2 T2 => F (-1) r2 T2)) := by
      refine bX5_seats_0 _ _ (u_inN _ 21 20 rfl (by omega) ?_)
      rw [b2n_n q]
      exact ⟨fun _ => h _ _ hR, fun z => absurd rfl z⟩
    refine bX4_seats_0 _ _ ⟨fun _ => hm, fun q0 => ⟨fun _ => hm, fun q5 => ?_⟩⟩
    exact absurd (q.resolve_left q0) (fun z => q5 (by
      rcases z_cases i1 21 (by omega) with w | w | ⟨j, hj, rfl⟩
      · exact absurd w q0
      · exact fa_trans (by decide) w
      · exact absurd z ((z_le_succ _ (by omega)).mp ((z_le (by omega) (by omega)).mpr (by omega)))))
  refine bX4_seats_0 _ _ ⟨fun q => absurd q (n_in (by omega)), fun _ => ⟨fun q => absurd q (by rw [z_lt (by omega) (by omega)]; omega), fun _ => t_isRow _ ?_⟩⟩
  rcases o_cases i2 6 (by omega) with q | ⟨x, hx, rfl⟩
  · rw [b2n_n q]
    refine ⟨fun z => absurd rfl z, fun _ => bX5_seats_0 _ _ (u_inN _ 21 20 rfl (by omega) ?_)⟩
    rw [b2n_y hn (by omega)]
    refine ⟨fun z => absurd z (by decide), fun _ => u_isRow _ ?_⟩
    rw [b2n_n q]
    exact ⟨fun z => absurd rfl z, fun _ => h _ _ hR⟩
  rw [b2n_y hx (by omega)]
  refine ⟨fun _ => t_isThere la28 hv hI ?_, fun z => absurd z (by decide)⟩
  have hm : ∀ {T : Sg} {Q : Int32 → Sg → Prop}, MV T m → (0 < m 0 → Ev G l mX5_seats (d + 20) 31 [some (.ref 7), some (.int (nI n)), some (.int (nI x)), some (.int (nI 0)), none, none, none, none, none, none] [] T (QI Q)) → (¬ 0 < m 0 → Q (-4) T) → Ct G l mX5_seats (d + 20) [.ref 7, .int (nI n), .int (nI x)] T (QI Q) := by
    intro T Q hu2 g1 g2
    refine bX5_seats_0 _ _ (u_inN _ 21 20 rfl (by omega) ?_)
    rw [b2n_y hn (by omega)]
    refine ⟨fun z => absurd z (by decide), fun _ => u_isRow _ ?_⟩
    rw [b2n_y hx (by omega)]
    refine ⟨fun _ => u_are hu2 hI ?_, fun z => absurd z (by decide)⟩
    by_cases hc : 0 < m 0
    · rw [b2y hc]
      exact ⟨fun _ => g1 hc, fun z => absurd z (by decide)⟩
    · rw [b2f hc]
      exact ⟨fun z => absurd rfl z, fun _ => g2 hc⟩
  by_cases hc : 0 < m 0
  · rw [b2y hc]
    refine ⟨fun _ => ⟨x, ix_nI hx (by omega), ?_⟩, fun z => absurd z (by decide)⟩
    have hra : RowAt (8 + x) := ra_F sh1 (ix_nI hx (by decide))
    rw [hv.p]
    refine t_layAnew hra (by omega) (by rw [ln_row hx]; omega) ?_
    have h0 : RwSt S x (m 7) (sCs m 0).1 (lanS S (8 + x) (m 7) (nI 0) (m 7)) := by
      refine ⟨fun a ha => ?_, rfl, ?_, fun i hi => ?_⟩ <;> unfold lanS <;> dsimp only
      · rw [u1_o _ (by omega), u2_o _ (by omega)]
      · rw [u1_o _ (by omega), u2_s]
      · rw [show 8 + x + 10 = 18 + x by omega, u1_s, if_pos hi]
        rfl
    refine t_seats_l (d := d + 15) hx (by omega) hv hI (fun T hT => ?_) n 0 (by omega) _ h0
    have huT := hT.mv hx hu
    refine hm huT (fun _ => ?_) (fun z => absurd hc z)
    refine u_zero_l (T := T) (fun U hU => ?_) 6 0 (by omega) T ⟨fun _ _ => rfl, rfl, fun j hj => absurd hj (Nat.not_lt_zero j)⟩
    refine bX5_seats_31 _ _ _ ⟨fun _ => u_belongersNow (hU.mv huT) hI ?_, fun z => absurd (by decide) z⟩
    exact u_seats_l (d := d + 15) hx (by omega) huT hI (fun V hV => h _ _ (hR.shared hx hp hT hV)) n 0 (by omega) U hU
  · rw [b2f hc]
    exact ⟨fun z => absurd rfl z, fun _ => hm hu (fun z => absurd z hc) (fun _ => h _ _ hR)⟩
end seats
