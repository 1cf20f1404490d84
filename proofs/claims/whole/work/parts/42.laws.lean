/-! laws, ways -/
section laws
variable {G : Gl} {l : Launch} {d : Nat} {S : Sg} {m : Nat → Nat} {L : Nat} {P : Int32 → Sg → Prop} {F : Int32 → Int32 → Sg → Prop}
theorem free_all : ∀ a, a < 8 → ∀ b, b < 8 → ∃ c, c < 8 ∧ nI 7 &&& ((nI a ||| nI b) ^^^ (-1)) = nI c := by decide +kernel
/-- the laws passed of the first n -/
def sPas (m : Nat → Nat) (free all : Nat) : Nat → Nat
  | 0 => 0
  | n + 1 => sPas m free all n + (if bit free n = 1 ∧ all < 2 * sFor m n (m 7) then 2 ^ n else 0)
theorem sPas_lt (m : Nat → Nat) (f a : Nat) : ∀ n, sPas m f a n < 2 ^ n
  | 0 => by simp [sPas]
  | n + 1 => by
    have := sPas_lt m f a n
    unfold sPas
    rw [Nat.pow_succ]
    split <;> omega
theorem t_laws_l (hv : LV S 28 m) (hI : IV m) {f : Nat} (hf : f < 8) (h : P (nI f) (u2 S.1 0 9 (nI (sPas m f (sIn m (sBels m (m 1) (m 2))) 3)), S.2)) : ∀ (k i : Nat), i + k = 3 → Ev G l mX4_laws (d + 5) 61 [some (.ref 0), some (.int (nI f)), some (.int (nI (sIn m (sBels m (m 1) (m 2))))), some (.int (nI (sPas m f (sIn m (sBels m (m 1) (m 2))) i))), some (.int (nI (2 ^ i)))] [] S (QI P) := by
  have g1 := sIn_le hI (sBels m (m 1) (m 2))
  have hp := hI.p6
  intro k
  induction k with
  | zero =>
    intro i hi
    obtain rfl : i = 3 := by omega
    refine bX4_laws_61 _ _ _ _ ⟨fun _ S1 e1 => ?_, fun q => ?_⟩
    · rw [e1]
      exact h
    · exact absurd (by decide) q
  | succ k ih =>
    intro i hi
    have h9 := ih (i + 1) (by omega)
    rw [sPas] at h9
    have hlt := sPas_lt m f (sIn m (sBels m (m 1) (m 2))) i
    have h4 : 2 ^ i ≤ 4 := by
      have : 2 ^ i ≤ 2 ^ 2 := Nat.pow_le_pow_right (by omega) (by omega)
      omega
    have e2 : nI (2 ^ i) * nI 2 = nI (2 ^ (i + 1)) := by rw [z_mul, Nat.pow_succ]
    have hb := bit_le f i
    have hle : f &&& 2 ^ i ≤ f := Nat.and_le_left
    have gF := sFor_le hI i (m 7) hp
    refine bX4_laws_61 _ _ _ _ ⟨fun q => ?_, fun _ => ⟨fun q => ?_, fun q => t_votesFor la28 hv hI (by omega) (fun x ex => ?_)⟩⟩
    · rw [z_lt (by omega) (by omega)] at q
      omega
    · rw [z_and, z_eq (by omega) (by omega), and_pow f hf i (by omega)] at q
      rw [if_neg (by omega)] at h9
      rw [e2]
      exact h9
    · rw [z_and, z_eq (by omega) (by omega), and_pow f hf i (by omega)] at q
      rw [e2]
      have e3 : x = nI (sPas m f (sIn m (sBels m (m 1) (m 2))) i + (if bit f i = 1 ∧ sIn m (sBels m (m 1) (m 2)) < 2 * sFor m i (m 7) then 2 ^ i else 0)) := by
        rw [ex, z_mul, z_or, or_pow hlt]
        simp (disch := omega) only [z_le]
        by_cases z : sIn m (sBels m (m 1) (m 2)) < 2 * sFor m i (m 7)
        · rw [if_neg (by omega), if_pos ⟨by omega, z⟩]
        · rw [if_pos (by omega), if_neg (fun y => z y.2)]
          simp
      rw [e3]
      exact h9
theorem u_laws_in (hu : MV S m) (hI : IV m) {i3 : Int32} {f q : Nat} (hq : q < 3) {Z : Prop} (h : Ev G l mX5_laws (d + 5) 51 [some (.ref 7), some (.int (nI (sBels m (m 1) (m 2)))), some (.int (nI f)), some (.int i3), some (.int (nI q)), some (.int (nI (sFor m q (m 7)))), some (.int (nI (m 7)))] [] S (QI P)) : ∀ (k i : Nat), i + k = m 7 → Ev G l mX5_laws (d + 5) 51 [some (.ref 7), some (.int (nI (sBels m (m 1) (m 2)))), some (.int (nI f)), some (.int i3), some (.int (nI q)), some (.int (nI (sFor m q i))), some (.int (nI i))] [] S (QI P) := by
  have hp := hI.p6
  have hs := sBels_lt hI (m 1) (m 2)
  intro k
  induction k with
  | zero =>
    intro i hi
    obtain rfl : i = m 7 := by omega
    exact h
  | succ k ih =>
    intro i hi
    have h9 := ih (i + 1) (by omega)
    rw [sFor] at h9
    obtain ⟨-, -, -, -, h5, -⟩ := hI.2 i (by omega)
    have hbit : (bit (sBels m (m 1) (m 2)) i = 1) ↔ sBel m i (m 1) (m 2) = true := by
      sorry
    refine bX5_laws_51 _ _ _ _ _ _ ⟨fun z => ?_, fun _ => u_has (by omega) (by omega) ?_⟩
    · rw [hu 7 (by omega), z_le (by omega) (by omega)] at z
      omega
    · rw [b2_0, z_add, z_add, Nat.add_zero]
      refine ⟨fun z => ?_, fun z => ⟨14 + 5 * i, ix_i (z_at i 4) (by omega) (by omega), ?_⟩⟩
      · rw [if_neg (fun y => (of_decide_eq_false z) (hbit.mpr y.1))] at h9
        exact h9
      · rw [hu _ (by omega)]
        have z1 : sBel m i (m 1) (m 2) = true := hbit.mp (by simpa using z)
        refine u_has (by omega) (by omega) ?_
        rw [b2_0]
        refine ⟨fun y => ?_, fun y => ?_⟩
        · rw [if_neg (fun w => (of_decide_eq_false y) w.2)] at h9
          exact h9
        · rw [if_pos ⟨z1, by simpa using y⟩] at h9
          refine u_votesOf hu hI (by omega) ?_
          rw [z_add]
          exact h9
end laws
