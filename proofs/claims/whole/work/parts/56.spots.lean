/-! spots -/
section spots
variable {G : Gl} {l : Launch} {d : Nat} {S : Sg} {m : Nat → Nat} {P : Int32 → Sg → Prop} {F : Int32 → Int32 → Sg → Prop}
theorem t_spots_l (hv : LV S 28 m) (hI : IV m) {i x t : Nat} (hi : i < m 7) (hx : x < 6) (ht : 3 * t ≤ 40) (hP : Pap (fun k => S.1 89 (40 * x + k)) m t) (hs : S.1 (8 + x) 1 = nI (3 * t)) (hf : ∀ k, k < 3 * t → S.1 (8 + x + 10) k = S.1 89 (40 * x + k)) {i3 : Int32} (h : P (nI (sSet (gS S m x t i) (m 0))) S) : ∀ (q k : Nat), k + q = m 0 → Ev G l mX4_spots (d + 5) 19 [some (.ref 0), some (.int (nI i)), some (.int (nI x)), some (.int i3), some (.int (nI (sSet (gS S m x t i) k))), some (.int (nI k))] [] S (QI P) := by
  have hp := hI.p6
  have h00 := hI.1.1
  obtain ⟨v1, v2, v3, -, -, -⟩ := hI.2 i (by omega)
  intro q
  induction q with
  | zero =>
    intro k hk
    obtain rfl : k = m 0 := by omega
    exact bX4_spots_19 _ _ _ _ _ ⟨fun _ => h, fun z => absurd (by rw [hv.c]; exact (z_le (by omega) (by omega)).mpr (Nat.le_refl _)) z⟩
  | succ q ih =>
    intro k hk
    have h9 := ih (k + 1) (by omega)
    refine bX4_spots_19 _ _ _ _ _ ⟨fun z => ?_, fun _ => ⟨i, ix_nI (by omega) (by omega), x, ix_nI hx (by omega), ?_⟩⟩
    · rw [hv.c, z_le (by omega) (by omega)] at z
      omega
    · have k2 : S.1 29 i = nI (m (10 + 5 * i)) := hv.k hi
      have k3 : S.1 31 i = nI (m (12 + 5 * i)) := hv.fi hi
      rw [k2, k3]
      refine t_agrees hx hv hI ht hs hf hP (by omega) (by omega) (by omega) (fun y ey => ?_)
      simp only [b2_0] at ey
      rw [z_add]
      cases g : gS S m x t i k
      · rw [if_pos (show sGo m _ t _ k _ = false from g), sSet_n g] at ey
        rw [ey]
        exact h9
      · rw [if_neg (by rw [show sGo m _ t _ k _ = true from g]; decide), sSet_y (by omega) g] at ey
        rw [ey]
        exact h9
theorem u_spots_l (hu : MV S m) (hI : IV m) {i x t : Nat} (hi : i < m 7) (hx : x < 6) (ht : 3 * t ≤ 40) (hP : Pap (fun k => S.1 89 (40 * x + k)) m t) (hs2 : S.1 88 x = nI (3 * t)) {i3 : Int32} (h : P (nI (sSet (gS S m x t i) (m 0))) S) : ∀ (q k : Nat), k + q = m 0 → Ev G l mX5_spots (d + 5) 19 [some (.ref 7), some (.int (nI i)), some (.int (nI x)), some (.int i3), some (.int (nI (sSet (gS S m x t i) k))), some (.int (nI k))] [] S (QI P) := by
  have hp := hI.p6
  have h00 := hI.1.1
  obtain ⟨v1, v2, v3, -, -, -⟩ := hI.2 i (by omega)
  intro q
  induction q with
  | zero =>
    intro k hk
    obtain rfl : k = m 0 := by omega
    exact bX5_spots_19 _ _ _ _ _ ⟨fun _ => h, fun z => absurd (by rw [hu 0 (by omega)]; exact (z_le (by omega) (by omega)).mpr (Nat.le_refl _)) z⟩
  | succ q ih =>
    intro k hk
    have h9 := ih (k + 1) (by omega)
    refine bX5_spots_19 _ _ _ _ _ ⟨fun z => ?_, fun _ => ⟨10 + 5 * i, ix_i (z_at0 i) (by omega) (by omega), ?_⟩⟩
    · rw [hu 0 (by omega), z_le (by omega) (by omega)] at z
      omega
    · rw [hu _ (by omega)]
      refine u_goes hx hu hI (by omega) ht hs2 hP (by omega) (by omega) (fun y ey => ?_)
      simp only [b2_0] at ey
      rw [z_add]
      cases g : gS S m x t i k
      · rw [if_pos (show sGo m _ t _ k _ = false from g)] at ey
        rw [ey, z_or, Nat.or_zero, sSet_n g]
        exact h9
      · rw [if_neg (by rw [show sGo m _ t _ k _ = true from g]; decide)] at ey
        rw [ey, sSet_y (by omega) g]
        exact h9
theorem pm_spots (hR : R S) (i1 i2 : Int32) (h : ∀ r S', R S' → F r r S') : Ct G l mX4_spots (d + 20) [.ref 0, .int i1, .int i2] S (QI (fun r T => Ct G l mX5_spots (d + 20) [.ref 7, .int i1, .int i2] T (QI (fun r2 T2 => F r r2 T2)))) := by
  obtain ⟨m, hv, hu, hI⟩ := hR.nv
  rcases papers_cases (G := G) (l := l) (d := d + 13) hR hv hu hI i1 i2 with ⟨r, T1, T2, hr, hRT, g1, g2⟩ | ⟨i, x, t, hi, hx, ht, rfl, rfl, hP, hs, hs2, hf, g1, g2⟩
  · refine bX4_spots_0 _ _ (g1 _ ⟨fun z => absurd z hr, fun _ => bX5_spots_0 _ _ (g2 _ ⟨fun z => absurd z hr, fun _ => h _ _ hRT⟩)⟩)
  · refine bX4_spots_0 _ _ (g1 _ ⟨fun _ => t_spots_l hv hI hi hx ht hP hs hf ?_ (m 0) 0 (by omega), fun z => absurd rfl z⟩)
    refine bX5_spots_0 _ _ (g2 _ ⟨fun _ => u_spots_l hu hI hi hx ht hP hs2 (h _ _ hR) (m 0) 0 (by omega), fun z => absurd rfl z⟩)
end spots
