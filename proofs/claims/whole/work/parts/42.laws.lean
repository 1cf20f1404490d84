/-! laws, ways -/
section laws
variable {G : Gl} {l : Launch} {d : Nat} {S : Sg} {m : Nat → Nat} {L : Nat} {P : Int32 → Sg → Prop} {F : Int32 → Int32 → Sg → Prop}
theorem bit_add_pow (s : Nat) {i n : Nat} (h : i < n) : bit (s + 2 ^ n) i = bit s i := by
  obtain ⟨k, rfl⟩ : ∃ k, n = i + (k + 1) := ⟨n - i - 1, by omega⟩
  unfold bit
  rw [Nat.pow_add, Nat.add_mul_div_left _ _ (Nat.pow_pos (by omega)), Nat.pow_succ]
  omega
theorem bit_top {s n : Nat} (h : s < 2 ^ n) : bit s n = 0 := by
  unfold bit
  rw [Nat.div_eq_of_lt h]
theorem bit_top' {s n : Nat} (h : s < 2 ^ n) : bit (s + 2 ^ n) n = 1 := by
  unfold bit
  rw [Nat.add_div_right _ (Nat.pow_pos (by omega)), Nat.div_eq_of_lt h]
theorem bit_sBit (m : Nat → Nat) (w e : Nat) : ∀ n i, i < n → (bit (sBit m w e n) i = 1 ↔ sBel m i w e = true)
  | 0, _, h => absurd h (Nat.not_lt_zero _)
  | n + 1, i, h => by
    have hl := sBit_lt m w e n
    unfold sBit
    by_cases q : i = n
    · subst q
      by_cases z : sBel m i w e = true
      · rw [if_pos z, bit_top' hl]
        simp [z]
      · rw [if_neg z, Nat.add_zero, bit_top hl]
        simp [z]
    · have ih := bit_sBit m w e n i (by omega)
      split
      · rw [bit_add_pow _ (by omega)]
        exact ih
      · exact ih
theorem free_all : ∀ a, a < 8 → ∀ b, b < 8 → ∃ c, c < 8 ∧ nI 7 &&& ((nI a ||| nI b) ^^^ (-1)) = nI c := by decide +kernel
/-- the laws passed of the first n -/
def sPas (m : Nat → Nat) (free all : Nat) : Nat → Nat
  | 0 => 0
  | n + 1 => sPas m free all n + (if bit free n = 1 ∧ all < 2 * sFor m n (m 7) then 2 ^ n else 0)
theorem sPas_lt (m : Nat → Nat) (f a : Nat) : ∀ n, sPas m f a n < 2 ^ n
  | 0 => by simp [sPas]
  | n + 1 => by
    have := sPas_lt m f a n
    unfold sPas
    rw [Nat.pow_succ]
    split <;> omega
theorem t_laws_l (hv : LV S 28 m) (hI : IV m) {f : Nat} (hf : f < 8) (h : P (nI f) (u2 S.1 0 9 (nI (sPas m f (sIn m (sBels m (m 1) (m 2))) 3)), S.2)) : ∀ (k i : Nat), i + k = 3 → Ev G l mX4_laws (d + 5) 61 [some (.ref 0), some (.int (nI f)), some (.int (nI (sIn m (sBels m (m 1) (m 2))))), some (.int (nI (sPas m f (sIn m (sBels m (m 1) (m 2))) i))), some (.int (nI (2 ^ i)))] [] S (QI P) := by
  have g1 := sIn_le hI (sBels m (m 1) (m 2))
  have hp := hI.p6
  intro k
  induction k with
  | zero =>
    intro i hi
    obtain rfl : i = 3 := by omega
    refine bX4_laws_61 _ _ _ _ ⟨fun _ S1 e1 => ?_, fun q => ?_⟩
    · rw [e1]
      exact h
    · exact absurd (by decide) q
  | succ k ih =>
    intro i hi
    have h9 := ih (i + 1) (by omega)
    rw [sPas] at h9
    have hlt := sPas_lt m f (sIn m (sBels m (m 1) (m 2))) i
    have h4 : 2 ^ i ≤ 4 := by
      have : 2 ^ i ≤ 2 ^ 2 := Nat.pow_le_pow_right (by omega) (by omega)
      omega
    have e2 : nI (2 ^ i) * nI 2 = nI (2 ^ (i + 1)) := by rw [z_mul, Nat.pow_succ]
    have hb := bit_le f i
    have hle : f &&& 2 ^ i ≤ f := Nat.and_le_left
    have gF := sFor_le hI i (m 7) hp
    refine bX4_laws_61 _ _ _ _ ⟨fun q => ?_, fun _ => ⟨fun q => ?_, fun q => t_votesFor la28 hv hI (by omega) (fun x ex => ?_)⟩⟩
    · rw [z_lt (by omega) (by omega)] at q
      omega
    · rw [z_and, z_eq (by omega) (by omega), and_pow f hf i (by omega)] at q
      rw [if_neg (by omega)] at h9
      rw [e2]
      exact h9
    · rw [z_and, z_eq (by omega) (by omega), and_pow f hf i (by omega)] at q
      rw [e2]
      have e3 : x = nI (sPas m f (sIn m (sBels m (m 1) (m 2))) i + (if bit f i = 1 ∧ sIn m (sBels m (m 1) (m 2)) < 2 * sFor m i (m 7) then 2 ^ i else 0)) := by
        rw [ex, z_mul, z_or, or_pow hlt]
        simp (disch := omega) only [z_le]
        by_cases z : sIn m (sBels m (m 1) (m 2)) < 2 * sFor m i (m 7)
        · rw [if_neg (by omega), if_pos ⟨by omega, z⟩]
        · rw [if_pos (by omega), if_neg (fun y => z y.2)]
          simp
      rw [e3]
      exact h9
theorem u_laws_in (hu : MV S m) (hI : IV m) {i3 : Int32} {f q : Nat} (hq : q < 3) (h : Ev G l mX5_laws (d + 5) 51 [some (.ref 7), some (.int (nI (sBels m (m 1) (m 2)))), some (.int (nI f)), some (.int i3), some (.int (nI q)), some (.int (nI (sFor m q (m 7)))), some (.int (nI (m 7)))] [] S (QI P)) : ∀ (k i : Nat), i + k = m 7 → Ev G l mX5_laws (d + 5) 51 [some (.ref 7), some (.int (nI (sBels m (m 1) (m 2)))), some (.int (nI f)), some (.int i3), some (.int (nI q)), some (.int (nI (sFor m q i))), some (.int (nI i))] [] S (QI P) := by
  have hp := hI.p6
  have hs := sBels_lt hI (m 1) (m 2)
  intro k
  induction k with
  | zero =>
    intro i hi
    obtain rfl : i = m 7 := by omega
    exact h
  | succ k ih =>
    intro i hi
    have h9 := ih (i + 1) (by omega)
    rw [sFor] at h9
    obtain ⟨-, -, -, -, h5, -⟩ := hI.2 i (by omega)
    have hbit : (bit (sBels m (m 1) (m 2)) i = 1) ↔ sBel m i (m 1) (m 2) = true := bit_sBit m _ _ _ i (by omega)
    refine bX5_laws_51 _ _ _ _ _ _ ⟨fun z => ?_, fun _ => u_has (by omega) (by omega) ?_⟩
    · rw [hu 7 (by omega), z_le (by omega) (by omega)] at z
      omega
    · rw [b2_0, z_add, z_add, Nat.add_zero]
      refine ⟨fun z => ?_, fun z => ⟨14 + 5 * i, ix_i (z_at i 4) (by omega) (by omega), ?_⟩⟩
      · rw [if_neg (fun y => (of_decide_eq_false z) (hbit.mpr y.1))] at h9
        exact h9
      · rw [hu _ (by omega)]
        have z1 : sBel m i (m 1) (m 2) = true := hbit.mp (by simpa using z)
        refine u_has (by omega) (by omega) ?_
        rw [b2_0]
        refine ⟨fun y => ?_, fun y => ?_⟩
        · rw [if_neg (fun w => (of_decide_eq_false y) w.2)] at h9
          exact h9
        · rw [if_pos ⟨z1, by simpa using y⟩] at h9
          refine u_votesOf hu hI (by omega) ?_
          rw [z_add]
          exact h9
theorem shl_q : ∀ q, q < 3 → (nI 1) <<< ((nI q) &&& 31) = nI (2 ^ q) := by decide
theorem u_laws_out (hu : MV S m) (hI : IV m) {f : Nat} (hf : f < 8) (h : P (nI f) (u2 S.1 7 11 (nI (sPas m f (sIn m (sBels m (m 1) (m 2))) 3)), S.2)) : ∀ (k q : Nat), q + k = 3 → Ev G l mX5_laws (d + 5) 39 [some (.ref 7), some (.int (nI (sBels m (m 1) (m 2)))), some (.int (nI f)), some (.int (nI (sPas m f (sIn m (sBels m (m 1) (m 2))) q))), some (.int (nI q)), none, none] [] S (QI P) := by
  have hp := hI.p6
  have hs := sBels_lt hI (m 1) (m 2)
  have g1 := sIn_le hI (sBels m (m 1) (m 2))
  intro k
  induction k with
  | zero =>
    intro q hq
    obtain rfl : q = 3 := by omega
    refine bX5_laws_39 _ _ _ _ ⟨fun _ => u_tells _ _ h, fun z => absurd (by decide) z⟩
  | succ k ih =>
    intro q hq
    have h9 := ih (q + 1) (by omega)
    rw [sPas] at h9
    have hlt := sPas_lt m f (sIn m (sBels m (m 1) (m 2))) q
    have gF := sFor_le hI q (m 7) hp
    refine bX5_laws_39 _ _ _ _ ⟨fun z => absurd z (by rw [z_le (by omega) (by omega)]; omega), fun _ => ?_⟩
    refine u_laws_in hu hI (by omega) ?_ (m 7) 0 (by omega)
    refine bX5_laws_51 _ _ _ _ _ _ ⟨fun _ => u_has (by omega) (by omega) ?_, fun z => absurd (by rw [hu 7 (by omega)]; exact (z_le (by omega) (by omega)).mpr (Nat.le_refl _)) z⟩
    rw [b2_0, z_add]
    refine ⟨fun z => ?_, fun z => u_votesIn hu hI (by omega) (fun x ex => ?_)⟩
    · rw [if_neg (fun y => (of_decide_eq_false z) y.1)] at h9
      rw [show nI (sPas m f (sIn m (sBels m (m 1) (m 2))) q) ||| nI 0 = nI (sPas m f (sIn m (sBels m (m 1) (m 2))) q) by rw [z_or, Nat.or_zero]]
      exact h9
    · have z1 : bit f q = 1 := by simpa using z
      have e3 : nI (sPas m f (sIn m (sBels m (m 1) (m 2))) q) ||| x = nI (sPas m f (sIn m (sBels m (m 1) (m 2))) q + (if bit f q = 1 ∧ sIn m (sBels m (m 1) (m 2)) < 2 * sFor m q (m 7) then 2 ^ q else 0)) := by
        rw [ex, z_mul, shl_q q (by omega)]
        simp (disch := omega) only [z_le]
        by_cases z : sIn m (sBels m (m 1) (m 2)) < 2 * sFor m q (m 7)
        · rw [if_neg (by omega), if_pos ⟨z1, z⟩, z_or, or_pow hlt]
        · rw [if_pos (by omega), if_neg (fun y => z y.2), z_or, Nat.or_zero, Nat.add_zero]
      rw [e3]
      exact h9
theorem pm_laws (hR : R S) (h : ∀ r S', R S' → F r r S') : Ct G l mX4_laws (d + 20) [.ref 0] S (QI (fun r T => Ct G l mX5_laws (d + 20) [.ref 7] T (QI (fun r2 T2 => F r r2 T2)))) := by
  obtain ⟨m, hv, hu, hI⟩ := hR.nv
  obtain ⟨h0, h1, h2, g3, g4, -⟩ := hI.1
  refine bX4_laws_0 (t_isThere la28 hv hI ?_)
  by_cases hc : 0 < m 0
  · rw [b2y hc]
    refine ⟨fun _ => ?_, fun z => absurd z (by decide)⟩
    obtain ⟨f, hf, ef⟩ := free_all (m 3) (by omega) (m 4) (by omega)
    rw [hv.w, hv.e, hv.wl, hv.el, ef]
    refine t_votesBelonging la28 hv hI h1 (by omega) ?_
    refine t_laws_l hv hI hf ?_ 3 0 (by omega)
    have e93 : ∀ v, u2 S.1 0 9 v 93 = S.1 93 := fun v => u2_o _ (by omega)
    have hu2 : ∀ v, MV (u2 S.1 0 9 v, S.2) m := by
      intro v a ha
      show u2 S.1 0 9 v 93 a = _
      rw [e93]
      exact hu a ha
    refine bX5_laws_0 (u_are (hu2 _) hI ?_)
    rw [b2y hc]
    refine ⟨fun _ => u_belongersNow (hu2 _) hI ?_, fun z => absurd z (by decide)⟩
    rw [hu2 _ 3 (by omega), hu2 _ 4 (by omega), ef]
    exact u_laws_out (hu2 _) hI hf (h _ _ (hR.asked _)) 3 0 (by omega)
  · rw [b2f hc]
    refine ⟨fun z => absurd rfl z, fun _ => bX5_laws_0 (u_are hu hI ?_)⟩
    rw [b2f hc]
    exact ⟨fun z => absurd rfl z, fun _ => h _ _ hR⟩
end laws
