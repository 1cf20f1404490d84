/-! seats -/
section seats
variable {G : Gl} {l : Launch} {d : Nat} {S : Sg} {m : Nat → Nat} {P : Int32 → Sg → Prop} {F : Int32 → Int32 → Sg → Prop}
/-- whether the nth comes ahead of the best so far (one more than its number; 0: none) -/
def sAh (m : Nat → Nat) (c : Nat → Nat) (n b : Nat) : Bool := decide ((sBel m n (m 1) (m 2) = true ∧ 0 < sVo m n) ∧ (b = 0 ∨ sVo m (b - 1) * (c n + 1) < sVo m n * (c (b - 1) + 1)))
def sNx (m : Nat → Nat) (c : Nat → Nat) : Nat → Nat
  | 0 => 0
  | n + 1 => if sAh m c n (sNx m c n) = true then n + 1 else sNx m c n
theorem sNx_le (m : Nat → Nat) (c : Nat → Nat) : ∀ n, sNx m c n ≤ n
  | 0 => Nat.le_refl 0
  | n + 1 => by
    have := sNx_le m c n
    unfold sNx
    split <;> omega
/-- the seats, how many, after k turns -/
def sCs (m : Nat → Nat) : Nat → (Nat → Nat) × Nat
  | 0 => (fun _ => 0, 0)
  | k + 1 => if sNx m (sCs m k).1 (m 7) = 0 then sCs m k else (up1 (sCs m k).1 (sNx m (sCs m k).1 (m 7) - 1), (sCs m k).2 + 1)
theorem sCs_le (m : Nat → Nat) : ∀ k, (sCs m k).2 ≤ k ∧ ∀ i, (sCs m k).1 i ≤ k
  | 0 => ⟨Nat.le_refl 0, fun _ => Nat.le_refl 0⟩
  | k + 1 => by
    have h := sCs_le m k
    unfold sCs
    split
    · exact ⟨by omega, fun i => by have := h.2 i; omega⟩
    · refine ⟨by have := h.1; dsimp only; omega, fun i => ?_⟩
      have := h.2 i
      dsimp only [up1]
      split <;> omega
def dn (b : Nat) : Int32 := if b = 0 then -1 else nI (b - 1)
def un (b : Nat) : Int32 := if b = 0 then -9 else nI (b - 1)
theorem dn_lt {b : Nat} (hb : b < 1000) : dn b < nI 0 ↔ b = 0 := by
  unfold dn
  by_cases q : b = 0
  · rw [if_pos q]
    exact ⟨fun _ => q, fun _ => by decide⟩
  · rw [if_neg q]
    exact ⟨fun z => absurd z (n_in (by omega)), fun z => absurd z q⟩
theorem un_9 {b : Nat} (hb : b < 1000) : un b = -9 ↔ b = 0 := by
  unfold un
  by_cases q : b = 0
  · rw [if_pos q]
    exact ⟨fun _ => q, fun _ => rfl⟩
  · rw [if_neg q]
    exact ⟨fun z => absurd z (z_m9_eq (by omega)), fun z => absurd z q⟩
theorem mul_lt' {a b : Nat} (ha : a ≤ 18) (hb : b ≤ 100) : a * b < 2147483648 := by
  have : a * b ≤ 18 * 100 := Nat.mul_le_mul ha hb
  omega
theorem t_next_l {T : Sg} {x : Nat} {c : Nat → Nat} (hx : x < 6) (hv : LV T 28 m) (hI : IV m) (hc : ∀ i, i < m 7 → T.1 (8 + x + 10) i = nI (c i)) (hc9 : ∀ i, c i ≤ 90) (h : P (dn (sNx m c (m 7))) T) : ∀ (k n : Nat), n + k = m 7 → Ev G l mX4_nextSeated (d + 4) 4 [some (.ref 0), some (.ref (8 + x)), some (.int (dn (sNx m c n))), some (.int (nI n))] [] T (QI P) := by
  have hp := hI.p6
  have hra : RowAt (8 + x) := ra_F sh1 (ix_nI hx (by decide))
  have hln : ln (8 + x + 10) = 40 := ln_row hx
  intro k
  induction k with
  | zero =>
    intro n hn
    obtain rfl : n = m 7 := by omega
    exact bX4_nextSeated_4 _ hra _ _ ⟨fun _ => h, fun z => absurd (by rw [hv.p]; exact (z_le (by omega) (by omega)).mpr (Nat.le_refl _)) z⟩
  | succ k ih =>
    intro n hn
    have h9 := ih (n + 1) (by omega)
    rw [sNx] at h9
    have gb := sNx_le m c n
    have hV := sVo_le (hI.2 n (by omega))
    refine bX4_nextSeated_4 _ hra _ _ ⟨fun z => ?_, fun _ => t_belongs la28 hv hI (by omega) ?_⟩
    · rw [hv.p, z_le (by omega) (by omega)] at z
      omega
    · rw [b2_0, z_add, dn_lt (by omega)]
      refine ⟨fun q => ?_, fun q => t_votes la28 hv hI (by omega) ?_⟩
      · rw [if_neg (by unfold sAh; exact fun y => absurd ((of_decide_eq_true y).1.1) (by rw [q]; decide))] at h9
        exact h9
      · have q1 := (Bool.not_eq_false _).mp q
        rw [z_le (by omega) (by omega)]
        refine ⟨fun q2 => ?_, fun q2 => ⟨fun q3 => ?_, fun q3 => t_votes la28 hv hI (by omega) ?_⟩⟩
        · rw [if_neg (by unfold sAh; exact fun y => absurd ((of_decide_eq_true y).1.2) (by omega))] at h9
          exact h9
        · rw [if_pos (by unfold sAh; exact decide_eq_true ⟨⟨q1, by omega⟩, Or.inl q3⟩), dn, if_neg (by omega), Nat.add_sub_cancel] at h9
          exact h9
        · have hVb := sVo_le (hI.2 (sNx m c n - 1) (by omega))
          have e1 : dn (sNx m c n) = nI (sNx m c n - 1) := by rw [dn, if_neg q3]
          rw [e1]
          refine ⟨sNx m c n - 1, ix_nI (by omega) (by omega), t_votes la28 hv hI (by omega) ⟨n, ix_nI (by omega) (by omega), fun y ey => ?_⟩⟩
          have e : y = dn (if sAh m c n (sNx m c n) = true then n + 1 else sNx m c n) := by
            have c1 := hc9 n
            have c2 := hc9 (sNx m c n - 1)
            rw [hc n (by omega), hc (sNx m c n - 1) (by omega)] at ey
            simp only [z_add, z_mul] at ey
            have l1 := mul_lt' hV (b := c (sNx m c n - 1) + 1) (by omega)
            have l2 := mul_lt' hVb (b := c n + 1) (by omega)
            rw [ey]
            simp (disch := assumption) only [z_le]
            by_cases w : sVo m n * (c (sNx m c n - 1) + 1) ≤ sVo m (sNx m c n - 1) * (c n + 1)
            · rw [if_pos w, if_neg (by unfold sAh; exact fun z => by have := (of_decide_eq_true z).2; omega), dn, if_neg q3]
            · rw [if_neg w, if_pos (by unfold sAh; exact decide_eq_true ⟨⟨q1, by omega⟩, Or.inr (by omega)⟩), dn, if_neg (by omega), Nat.add_sub_cancel]
          rw [e]
          exact h9
theorem t_seats_l {x n : Nat} (hx : x < 6) (hn : n ≤ 20) {i2 : Int32} (hv : LV S 28 m) (hI : IV m) (h : ∀ T, RwSt S x (m 7) (sCs m n).1 T → P (nI (sCs m n).2) T) : ∀ (q k : Nat), k + q = n → ∀ T, RwSt S x (m 7) (sCs m k).1 T → Ev G l mX4_seats (d + 5) 57 [some (.ref 0), some (.int (nI n)), some (.int i2), some (.ref (8 + x)), some (.int (nI (sCs m k).2)), some (.int (nI k)), none] [] T (QI P) := by
  have hp := hI.p6
  have hra : RowAt (8 + x) := ra_F sh1 (ix_nI hx (by decide))
  have hln : ln (8 + x + 10) = 40 := ln_row hx
  intro q
  induction q with
  | zero =>
    intro k hk T hT
    obtain rfl : k = n := by omega
    exact bX4_seats_57 _ _ _ hra _ _ ⟨fun _ => h T hT, fun z => absurd ((z_le (by omega) (by omega)).mpr (Nat.le_refl _)) z⟩
  | succ q ih =>
    intro k hk T hT
    have h9 := ih (k + 1) (by omega)
    rw [sCs] at h9
    have hle := sCs_le m k
    have gb := sNx_le m (sCs m k).1 (m 7)
    refine bX4_seats_57 _ _ _ hra _ _ ⟨fun z => ?_, fun _ => ?_⟩
    · rw [z_le (by omega) (by omega)] at z
      omega
    · refine bX4_nextSeated_0 _ hra ?_
      refine t_next_l hx (hT.lv hx hv) hI (c := (sCs m k).1) (fun i hi => by rw [show 8 + x + 10 = 18 + x by omega]; exact hT.2.2.2 i hi) (fun i => by have := hle.2 i; omega) ?_ (m 7) 0 (by omega)
      rw [dn_lt (by omega), z_add]
      refine ⟨fun z => ?_, fun z => ?_⟩
      · rw [if_pos z] at h9
        exact h9 T hT
      · rw [if_neg z] at h9
        rw [show dn (sNx m (sCs m k).1 (m 7)) = nI (sNx m (sCs m k).1 (m 7) - 1) by rw [dn, if_neg z]]
        refine ⟨sNx m (sCs m k).1 (m 7) - 1, ix_nI (by omega) (by omega), fun T2 e2 => ?_⟩
        rw [z_add]
        refine h9 T2 ?_
        rw [e2, show 8 + x + 10 = 18 + x by omega]
        exact hT.up (by omega)
end seats
