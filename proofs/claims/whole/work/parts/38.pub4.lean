/-! what a land tells -/
section pub4
variable {G : Gl} {l : Launch} {d : Nat} {S : Sg} {m : Nat → Nat} {P : Int32 → Sg → Prop} {F : Int32 → Int32 → Sg → Prop}
theorem b2y {p : Prop} [Decidable p] (h : p) : b2 (decide p) = nI 1 := by simp [b2, h]
theorem b2f {p : Prop} [Decidable p] (h : ¬ p) : b2 (decide p) = nI 0 := by simp [b2, h]
theorem b2c (b : Bool) : (if b2 b = nI 0 then nI 0 else nI 1) = b2 b := by cases b <;> decide
theorem z_le_succ (i : Int32) {n : Nat} (hn : n < 1000) : i ≤ nI n ↔ ¬ nI (n + 1) ≤ i := by
  rw [Int32.le_iff_toInt_le, Int32.le_iff_toInt_le, nI_toInt (by omega), nI_toInt (by omega)]
  omega
theorem pm_belong (hR : R S) (h : ∀ r S', R S' → F r r S') : Ct G l mX4_belong (d + 20) [.ref 0] S (QI (fun r T => Ct G l mX5_belong (d + 20) [.ref 7] T (QI (fun r2 T2 => F r r2 T2)))) := by
  obtain ⟨m, hv, hu, hI⟩ := hR.nv
  obtain ⟨h0, h1, h2, -⟩ := hI.1
  refine bX4_belong_0 ?_
  rw [hv.w, hv.e]
  exact t_belonging la28 hv hI h1 (by omega) (bX5_belong_0 (u_belongersNow hu hI (h _ _ hR)))
theorem u_coastHas (hu : MV S m) (hI : IV m) {j : Nat} (hj : j < 6) (h : P (nI (match j with
    | 0 => m 1
    | 1 => m 2
    | 2 => m 2 - m 1
    | 3 => sIn m (sBels m (m 1) (m 2))
    | 4 => sOf m 0 (m 1) (m 1) (m 2)
    | _ => sOf m (m 2) (m 0) (m 1) (m 2))) S) : Ct G l mX5_coastHas (d + 6) [.ref 7, .int (nI j)] S (QI P) := by
  obtain ⟨h0, h1, h2, -⟩ := hI.1
  have hb := sBels_lt hI (m 1) (m 2)
  refine bX5_coastHas_0 _ ?_
  rw [hu 1 (by omega), hu 2 (by omega), hu 0 (by omega), z_sub h1]
  rcases (show j = 0 ∨ j = 1 ∨ j = 2 ∨ j = 3 ∨ j = 4 ∨ j = 5 by omega) with rfl | rfl | rfl | rfl | rfl | rfl
  · exact ⟨fun _ => h, fun q => absurd rfl q⟩
  · exact ⟨fun q => absurd q (by decide), fun _ => ⟨fun _ => h, fun q => absurd rfl q⟩⟩
  · exact ⟨fun q => absurd q (by decide), fun _ => ⟨fun q => absurd q (by decide), fun _ => ⟨fun _ => h, fun q => absurd rfl q⟩⟩⟩
  · exact ⟨fun q => absurd q (by decide), fun _ => ⟨fun q => absurd q (by decide), fun _ => ⟨fun q => absurd q (by decide), fun _ => ⟨fun _ => u_belongersNow hu hI (u_votesIn hu hI (by omega) h), fun q => absurd rfl q⟩⟩⟩⟩
  · exact ⟨fun q => absurd q (by decide), fun _ => ⟨fun q => absurd q (by decide), fun _ => ⟨fun q => absurd q (by decide), fun _ => ⟨fun q => absurd q (by decide), fun _ => ⟨fun _ => u_votesOut hu hI (by omega) (by omega) h1 (by omega) h, fun q => absurd rfl q⟩⟩⟩⟩⟩
  · exact ⟨fun q => absurd q (by decide), fun _ => ⟨fun q => absurd q (by decide), fun _ => ⟨fun q => absurd q (by decide), fun _ => ⟨fun q => absurd q (by decide), fun _ => ⟨fun q => absurd q (by decide), fun _ => u_votesOut hu hI (by omega) (by omega) h1 (by omega) h⟩⟩⟩⟩⟩
theorem t_coast (hv : LV S 28 m) (hI : IV m) (hc : 0 < m 0) {j : Nat} (hj : j < 6) (h : P (nI (match j with
    | 0 => m 1
    | 1 => m 2
    | 2 => m 2 - m 1
    | 3 => sIn m (sBels m (m 1) (m 2))
    | 4 => sOf m 0 (m 1) (m 1) (m 2)
    | _ => sOf m (m 2) (m 0) (m 1) (m 2))) S) : Ct G l mX4_coast (d + 6) [.ref 0, .int (nI j)] S (QI P) := by
  obtain ⟨h0, h1, h2, -⟩ := hI.1
  refine bX4_coast_0 _ ⟨fun q => absurd q (n_in (by omega)), fun _ => ⟨fun _ => t_isThere la28 hv hI ?_, fun q => absurd (by rw [z_le (by omega) (by omega)]; omega) q⟩⟩
  rw [b2y hc, hv.w, hv.e]
  refine ⟨fun _ => ?_, fun q => absurd q (by decide)⟩
  rcases (show j = 0 ∨ j = 1 ∨ j = 2 ∨ j = 3 ∨ j = 4 ∨ j = 5 by omega) with rfl | rfl | rfl | rfl | rfl | rfl
  · exact ⟨fun _ => h, fun q => absurd rfl q⟩
  · exact ⟨fun q => absurd q (by decide), fun _ => ⟨fun _ => h, fun q => absurd rfl q⟩⟩
  · exact ⟨fun q => absurd q (by decide), fun _ => ⟨fun q => absurd q (by decide), fun _ => ⟨fun _ => t_strip la28 hv hI h, fun q => absurd rfl q⟩⟩⟩
  · exact ⟨fun q => absurd q (by decide), fun _ => ⟨fun q => absurd q (by decide), fun _ => ⟨fun q => absurd q (by decide), fun _ => ⟨fun _ => t_votesBelonging la28 hv hI h1 (by omega) h, fun q => absurd rfl q⟩⟩⟩⟩
  · exact ⟨fun q => absurd q (by decide), fun _ => ⟨fun q => absurd q (by decide), fun _ => ⟨fun q => absurd q (by decide), fun _ => ⟨fun q => absurd q (by decide), fun _ => ⟨fun _ => t_votesOfWest la28 hv hI h1 (by omega) h, fun q => absurd rfl q⟩⟩⟩⟩⟩
  · exact ⟨fun q => absurd q (by decide), fun _ => ⟨fun q => absurd q (by decide), fun _ => ⟨fun q => absurd q (by decide), fun _ => ⟨fun q => absurd q (by decide), fun _ => ⟨fun q => absurd q (by decide), fun _ => t_votesOfEast la28 hv hI h1 (by omega) h⟩⟩⟩⟩⟩
theorem pm_coast (hR : R S) (i : Int32) (h : ∀ r S', R S' → F r r S') : Ct G l mX4_coast (d + 20) [.ref 0, .int i] S (QI (fun r T => Ct G l mX5_coast (d + 20) [.ref 7, .int i] T (QI (fun r2 T2 => F r r2 T2)))) := by
  obtain ⟨m, hv, hu, hI⟩ := hR.nv
  rcases o_cases i 6 (by omega) with q | ⟨j, hj, rfl⟩
  · have hm : Ct G l mX5_coast (d + 20) [.ref 7, .int i] S (QI (fun r2 T2 => F (-1) r2 T2)) := by
      refine bX5_coast_0 _ (u_inN _ 6 5 rfl (by omega) ?_)
      rw [b2n_n q]
      exact ⟨fun z => absurd rfl z, fun _ => h _ _ hR⟩
    refine bX4_coast_0 _ ⟨fun _ => hm, fun q0 => ⟨fun q5 => ?_, fun _ => hm⟩⟩
    exact absurd (q.resolve_left q0) ((z_le_succ i (by omega)).mp q5)
  · by_cases hc : 0 < m 0
    · refine t_coast hv hI hc hj (bX5_coast_0 _ (u_inN _ 6 5 rfl (by omega) ?_))
      rw [b2n_y hj (by omega)]
      refine ⟨fun _ => u_are hu hI ?_, fun z => absurd z (by decide)⟩
      rw [b2y hc]
      exact ⟨fun z => absurd z (by decide), fun _ => u_coastHas hu hI hj (h _ _ hR)⟩
    · refine bX4_coast_0 _ ⟨fun q => absurd q (n_in (by omega)), fun _ => ⟨fun _ => t_isThere la28 hv hI ?_, fun q => absurd (by rw [z_le (by omega) (by omega)]; omega) q⟩⟩
      rw [b2f hc]
      refine ⟨fun z => absurd rfl z, fun _ => bX5_coast_0 _ (u_inN _ 6 5 rfl (by omega) ?_)⟩
      rw [b2n_y hj (by omega)]
      refine ⟨fun _ => u_are hu hI ?_, fun z => absurd z (by decide)⟩
      rw [b2f hc]
      exact ⟨fun _ => h _ _ hR, fun z => absurd rfl z⟩
/-- of one of people, by a number -/
def sOne (m : Nat → Nat) (i w : Nat) : Int32 := match w with
  | 0 => nI (m (10 + 5 * i))
  | 1 => nI (m (11 + 5 * i))
  | 2 => nI (m (12 + 5 * i))
  | 3 => nI (sVo m i)
  | 4 => nI (m (14 + 5 * i))
  | _ => b2 (sBel m i (m 1) (m 2))
theorem t_ofOne (hv : LV S 28 m) (hI : IV m) {i w : Nat} (hi : i < m 7) (hw : w < 6) (h : P (sOne m i w) S) : Ct G l mX4_ofOne (d + 4) [.ref 0, .int (nI i), .int (nI w)] S (QI P) := by
  have hp := hI.p6
  have k1 : S.1 29 i = _ := hv.k hi
  have k2 : S.1 30 i = _ := hv.cl hi
  have k3 : S.1 31 i = _ := hv.fi hi
  have k5 : S.1 33 i = _ := hv.lw hi
  have hx : ix (nI i) i 6 := ix_nI (by omega) (by omega)
  refine bX4_ofOne_0 _ _ ?_
  rcases (show w = 0 ∨ w = 1 ∨ w = 2 ∨ w = 3 ∨ w = 4 ∨ w = 5 by omega) with rfl | rfl | rfl | rfl | rfl | rfl
  · exact ⟨fun _ => ⟨i, hx, by rw [k1]; exact h⟩, fun q => absurd rfl q⟩
  · exact ⟨fun q => absurd q (by decide), fun _ => ⟨fun _ => ⟨i, hx, by rw [k2]; exact h⟩, fun q => absurd rfl q⟩⟩
  · exact ⟨fun q => absurd q (by decide), fun _ => ⟨fun q => absurd q (by decide), fun _ => ⟨fun _ => ⟨i, hx, by rw [k3]; exact h⟩, fun q => absurd rfl q⟩⟩⟩
  · exact ⟨fun q => absurd q (by decide), fun _ => ⟨fun q => absurd q (by decide), fun _ => ⟨fun q => absurd q (by decide), fun _ => ⟨fun _ => t_votes la28 hv hI hi h, fun q => absurd rfl q⟩⟩⟩⟩
  · exact ⟨fun q => absurd q (by decide), fun _ => ⟨fun q => absurd q (by decide), fun _ => ⟨fun q => absurd q (by decide), fun _ => ⟨fun q => absurd q (by decide), fun _ => ⟨fun _ => ⟨i, hx, by rw [k5]; exact h⟩, fun q => absurd rfl q⟩⟩⟩⟩⟩
  · refine ⟨fun q => absurd q (by decide), fun _ => ⟨fun q => absurd q (by decide), fun _ => ⟨fun q => absurd q (by decide), fun _ => ⟨fun q => absurd q (by decide), fun _ => ⟨fun q => absurd q (by decide), fun _ => t_belongs la28 hv hI hi (fun x ex => ?_)⟩⟩⟩⟩⟩
    rw [ex, b2c]
    exact h
theorem u_oneHas (hu : MV S m) (hI : IV m) {i w : Nat} (hi : i < 6) (hw : w < 6) (h : P (sOne m i w) S) : Ct G l mX5_oneHas (d + 4) [.ref 7, .int (nI i), .int (nI w)] S (QI P) := by
  obtain ⟨h0, h1, h2, -⟩ := hI.1
  have ha : ∀ c, c < 5 → ((nI 10) + ((nI 5) * nI i)) + nI c = nI (10 + c + 5 * i) := fun c _ => z_at i c
  refine bX5_oneHas_0 _ _ ?_
  rw [hu 1 (by omega), hu 2 (by omega)]
  rcases (show w = 0 ∨ w = 1 ∨ w = 2 ∨ w = 3 ∨ w = 4 ∨ w = 5 by omega) with rfl | rfl | rfl | rfl | rfl | rfl
  · exact ⟨fun q => absurd q (by decide), fun _ => ⟨fun q => absurd q (by decide), fun _ => ⟨fun q => absurd q (by decide), fun _ => ⟨10 + 5 * i, ix_i (z_at i 0) (by omega) (by omega), by rw [hu _ (by omega)]; exact h⟩⟩⟩⟩
  · exact ⟨fun q => absurd q (by decide), fun _ => ⟨fun q => absurd q (by decide), fun _ => ⟨fun q => absurd q (by decide), fun _ => ⟨11 + 5 * i, ix_i (z_at i 1) (by omega) (by omega), by rw [hu _ (by omega)]; exact h⟩⟩⟩⟩
  · exact ⟨fun q => absurd q (by decide), fun _ => ⟨fun q => absurd q (by decide), fun _ => ⟨fun q => absurd q (by decide), fun _ => ⟨12 + 5 * i, ix_i (z_at i 2) (by omega) (by omega), by rw [hu _ (by omega)]; exact h⟩⟩⟩⟩
  · exact ⟨fun _ => u_votesOf hu hI hi h, fun q => absurd rfl q⟩
  · exact ⟨fun q => absurd q (by decide), fun _ => ⟨fun _ => ⟨14 + 5 * i, ix_i (z_at i 4) (by omega) (by omega), by rw [hu _ (by omega)]; exact h⟩, fun q => absurd rfl q⟩⟩
  · refine ⟨fun q => absurd q (by decide), fun _ => ⟨fun q => absurd q (by decide), fun _ => ⟨fun _ => u_belongs hu hI hi h1 (by omega) (fun x ex => ?_), fun q => absurd rfl q⟩⟩⟩
    rw [ex, b2c]
    exact h
theorem hasOne_y {m : Nat → Nat} (hI : IV m) {j : Nat} (hj : j < m 7) : b2 (decide (¬ nI j < nI 0 ∧ ¬ nI (m 7) ≤ nI j)) = nI 1 := by
  have := hI.p6
  exact b2n_y hj (by omega)
theorem hasOne_n {m : Nat → Nat} {i : Int32} (h : i < nI 0 ∨ nI (m 7) ≤ i) : b2 (decide (¬ i < nI 0 ∧ ¬ nI (m 7) ≤ i)) = nI 0 := b2n_n h
theorem pm_one (hR : R S) (i w : Int32) (h : ∀ r S', R S' → F r r S') : Ct G l mX4_one (d + 20) [.ref 0, .int i, .int w] S (QI (fun r T => Ct G l mX5_one (d + 20) [.ref 7, .int i, .int w] T (QI (fun r2 T2 => F r r2 T2)))) := by
  obtain ⟨m, hv, hu, hI⟩ := hR.nv
  have hp := hI.p6
  refine bX4_one_0 _ _ (t_hasOne la28 hv _ ?_)
  rcases o_cases i (m 7) (by omega) with q | ⟨j, hj, rfl⟩
  · rw [hasOne_n q]
    refine ⟨fun _ => bX5_one_0 _ _ (u_isOne hu hI _ ?_), fun z => absurd rfl z⟩
    rw [hasOne_n q]
    exact ⟨fun _ => h _ _ hR, fun z => absurd rfl z⟩
  · rw [hasOne_y hI hj]
    refine ⟨fun z => absurd z (by decide), fun _ => ?_⟩
    rcases o_cases w 6 (by omega) with q | ⟨k, hk, rfl⟩
    · have hm : Ct G l mX5_one (d + 20) [.ref 7, .int (nI j), .int w] S (QI (fun r2 T2 => F (-1) r2 T2)) := by
        refine bX5_one_0 _ _ (u_isOne hu hI _ ?_)
        rw [hasOne_y hI hj]
        refine ⟨fun z => absurd z (by decide), fun _ => u_inN _ 6 5 rfl (by omega) ?_⟩
        rw [b2n_n q]
        exact ⟨fun _ => h _ _ hR, fun z => absurd rfl z⟩
      exact ⟨fun _ => hm, fun q0 => ⟨fun q5 => absurd (q.resolve_left q0) ((z_le_succ w (by omega)).mp q5), fun _ => hm⟩⟩
    · refine ⟨fun q => absurd q (n_in (by omega)), fun _ => ⟨fun _ => t_ofOne hv hI hj hk (fun S1 e1 => ?_), fun q => absurd (by rw [z_le (by omega) (by omega)]; omega) q⟩⟩
      subst e1
      have e93 : u2 S.1 0 9 (sOne m j k) 93 = S.1 93 := u2_o _ (by omega)
      have hu2 : MV (u2 S.1 0 9 (sOne m j k), S.2) m := by
        intro a ha
        show u2 S.1 0 9 (sOne m j k) 93 a = _
        rw [e93]
        exact hu a ha
      refine bX5_one_0 _ _ (u_isOne hu2 hI _ ?_)
      rw [hasOne_y hI hj]
      refine ⟨fun z => absurd z (by decide), fun _ => u_inN _ 6 5 rfl (by omega) ?_⟩
      rw [b2n_y hk (by omega)]
      exact ⟨fun z => absurd z (by decide), fun _ => u_oneHas hu2 hI (by omega) hk (u_tells _ _ (h _ _ (hR.asked _)))⟩
end pub4
