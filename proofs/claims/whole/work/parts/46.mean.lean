/-! mean, copy -/
section mean
variable {G : Gl} {l : Launch} {d : Nat} {S : Sg} {P : Int32 → Sg → Prop} {F : Int32 → Int32 → Sg → Prop}
def sLong (f : Nat → Int32) : Nat → Int64
  | 0 => lN 0
  | n + 1 => sLong f n + (f n).toInt64
theorem t_sum_l {k n : Nat} (hk : RowAt k) (hn : n ≤ 60) (hl : n ≤ ln (k + 10)) (hs : S.1 k 1 = nI n) {P : Int64 → Sg → Prop} (h : P (sLong (S.1 (k + 10)) n) S) : ∀ (q i : Nat), i + q = n → Ev G l mX3_sum (d + 1) 4 [some (.ref k), some (.long (sLong (S.1 (k + 10)) i)), none, some (.int (nI i))] [] S (QL P) := by
  have hb := ra_l hk
  intro q
  induction q with
  | zero =>
    intro i hi
    obtain rfl : i = n := by omega
    refine bX3_sum_4 k hk _ _ ⟨fun _ => h, fun z => ?_⟩
    rw [hs, z_le (by omega) (by omega)] at z
    omega
  | succ q ih =>
    intro i hi
    refine bX3_sum_4 k hk _ _ ⟨fun z => ?_, fun _ => ⟨i, ix_nI (by omega) (by omega), ?_⟩⟩
    · rw [hs, z_le (by omega) (by omega)] at z
      omega
    · rw [z_add]
      exact ih (i + 1) (by omega)
theorem sLong_cong {f g : Nat → Int32} : ∀ n, (∀ i, i < n → f i = g i) → sLong f n = sLong g n
  | 0, _ => rfl
  | n + 1, h => by
    rw [sLong, sLong, sLong_cong n (fun i hi => h i (by omega)), h n (by omega)]
theorem u_mean_l {j n : Nat} (hj : j < 6) (hn : n ≤ 40) (h0 : 0 < n) (hs : S.1 88 j = nI n) (h : P (nI 1) (u2 S.1 7 11 (sLong (fun i => S.1 89 (40 * j + i)) n / (nI n).toInt64).toInt32, S.2)) : ∀ (q i : Nat), i + q = n → Ev G l mX5_mean (d + 2) 44 [some (.ref 7), some (.int (nI j)), some (.long (sLong (fun i => S.1 89 (40 * j + i)) i)), none, some (.int (nI i))] [] S (QI P) := by
  intro q
  induction q with
  | zero =>
    intro i hi
    obtain rfl : i = n := by omega
    refine bX5_mean_44 _ _ _ ⟨j, ix_nI hj (by omega), fun _ => ⟨?_, u_tells _ _ ?_⟩, fun z => ?_⟩
    · rw [hs]
      intro z
      have : nI i = 0 := by
        have h3 : (nI i).toInt64.toInt = (0 : Int64).toInt := by rw [z]
        rw [Int32.toInt_toInt64, nI_toInt (by omega)] at h3
        have h4 : ((0 : Int64).toInt) = 0 := by decide
        omega
      have h5 := (z_eq (a := i) (b := 0) (by omega) (by omega)).mp this
      omega
    · rw [hs]
      exact h
    · rw [hs, z_le (by omega) (by omega)] at z
      omega
  | succ q ih =>
    intro i hi
    refine bX5_mean_44 _ _ _ ⟨j, ix_nI hj (by omega), fun z => ?_, fun _ => ⟨40 * j + i, ix_i (z_row 40 j i) (by omega) (by omega), ?_⟩⟩
    · rw [hs, z_le (by omega) (by omega)] at z
      omega
    · rw [z_add]
      exact ih (i + 1) (by omega)
theorem pm_mean (hR : R S) (i1 : Int32) (h : ∀ r S', R S' → F r r S') : Ct G l mX4_mean (d + 20) [.ref 0, .int i1] S (QI (fun r T => Ct G l mX5_mean (d + 20) [.ref 7, .int i1] T (QI (fun r2 T2 => F r r2 T2)))) := by
  refine bX4_mean_0 _ ?_
  rcases o_cases i1 6 (by omega) with q | ⟨j, hj, rfl⟩
  · refine t_rm_bad sh1 q ⟨fun z => absurd z (by decide), fun _ => bX5_mean_0 _ (u_isRow _ ?_)⟩
    rw [b2n_n q]
    exact ⟨fun z => absurd rfl z, fun _ => h _ _ hR⟩
  have hr := hR.1 j hj
  have e1 : S.1 (rf 1 j) 1 = S.1 88 j := hr.1
  rcases hr.sz with ⟨z, -⟩ | ⟨n, hn, en, -, hc⟩
  · refine t_rm_miss sh1 hj (e1.trans z) ⟨fun z => absurd z (by decide), fun _ => bX5_mean_0 _ (u_isRow _ ?_)⟩
    rw [b2n_y hj (by omega)]
    refine ⟨fun _ => ⟨j, ix_nI hj (by omega), fun q => ?_, fun _ => u_finds (by omega) (h _ _ (hR.found (by omega)))⟩, fun z => absurd z (by decide)⟩
    rw [fdD_88 1 88 (by omega), z] at q
    exact absurd q n_m1
  · refine t_rm_ok sh1 hj (n := n) (by omega) (e1.trans en) ⟨fun _ => ⟨j, ix_nI hj (by omega), fun q => ?_, fun q => ?_⟩, fun z => absurd rfl z⟩
    · have e1' : S.1 (8 + j) 1 = nI n := e1.trans en
      rw [e1', z_eq (by omega) (by omega)] at q
      have hl : n ≤ ln (8 + j + 10) := by rw [ln_row hj]; omega
      refine bX3_sum_0 (8 + j) (ra_F sh1 (ix_nI hj (by decide))) (t_sum_l (ra_F sh1 (ix_nI hj (by decide))) (by omega) hl e1' ?_ n 0 (by omega))
      have ec : sLong (S.1 (rf 1 j + 10)) n = sLong (fun i => S.1 89 (40 * j + i)) n := sLong_cong n (fun i hi => by show S.1 (8 + j + 10) i = _; rw [show 8 + j + 10 = 18 + j by omega]; exact hc i hi)
      rw [ec, e1']
      refine ⟨fun z => ?_, fun S1 eS => ?_⟩
      · have h3 : (nI n).toInt64.toInt = (0 : Int64).toInt := by rw [z]
        rw [Int32.toInt_toInt64, nI_toInt (by omega)] at h3
        have h4 : ((0 : Int64).toInt) = 0 := by decide
        omega
      · subst eS
        have e88 : ∀ v, u2 S.1 0 9 v 88 = S.1 88 := fun v => u2_o _ (by omega)
        have e89 : ∀ v, u2 S.1 0 9 v 89 = S.1 89 := fun v => u2_o _ (by omega)
        refine bX5_mean_0 _ (u_isRow _ ?_)
        rw [b2n_y hj (by omega)]
        refine ⟨fun _ => ⟨j, ix_nI hj (by omega), fun _ => ⟨fun _ => ?_, fun z => ?_⟩, fun z => ?_⟩, fun z => absurd z (by decide)⟩
        · refine u_mean_l hj hn (by omega) (by dsimp only; rw [e88]; exact en) ?_ n 0 (by omega)
          dsimp only
          rw [e89]
          exact h _ _ (hR.asked _)
        · dsimp only at z
          rw [e88, en, z_eq (by omega) (by omega)] at z
          omega
        · dsimp only at z
          rw [e88, en] at z
          exact absurd (n_le (by omega)) z
    · have e1' : S.1 (8 + j) 1 = nI n := e1.trans en
      rw [e1', z_eq (by omega) (by omega)] at q
      subst q
      refine t_refuse (by omega) (bX5_mean_0 _ (u_isRow _ ?_))
      rw [b2n_y hj (by omega)]
      refine ⟨fun _ => ⟨j, ix_nI hj (by omega), fun _ => ⟨fun z => ?_, fun _ => u_finds (by omega) (h _ _ (hR.found (by omega)))⟩, fun z => ?_⟩, fun z => absurd z (by decide)⟩
      · rw [fdD_88 4 88 (by omega), en] at z
        exact absurd rfl z
      · rw [fdD_88 4 88 (by omega), en] at z
        exact absurd (n_le (by omega)) z
end mean
