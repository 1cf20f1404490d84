/-! papers, both sides -/
section heads
variable {G : Gl} {l : Launch} {d : Nat} {S : Sg} {m : Nat → Nat}
theorem z_rem3 {n : Nat} (hn : n ≤ 40) : nI n - nI n / nI 3 * nI 3 = nI (n % 3) := z_rem (by omega) (by omega) (by omega)
theorem papers_cases (hR : R S) (hv : LV S 28 m) (hu : MV S m) (hI : IV m) (i1 i2 : Int32) :
    (∃ r T1 T2, ¬ r = nI 0 ∧ R T2 ∧ (∀ P : Int32 → Sg → Prop, P r T1 → Ct G l mX4_refusePapers (d + 6) [.ref 0, .int i1, .int i2] S (QI P)) ∧ (∀ Q : Int32 → Sg → Prop, Q r T2 → Ct G l mX5_barred (d + 6) [.ref 7, .int i1, .int i2] T1 (QI Q))) ∨
    (∃ i x t, i < m 7 ∧ x < 6 ∧ 3 * t ≤ 40 ∧ i1 = nI i ∧ i2 = nI x ∧ Pap (fun k => S.1 89 (40 * x + k)) m t ∧ S.1 (8 + x) 1 = nI (3 * t) ∧ S.1 88 x = nI (3 * t) ∧ (∀ k, k < 3 * t → S.1 (8 + x + 10) k = S.1 89 (40 * x + k)) ∧ (∀ P : Int32 → Sg → Prop, P (nI 0) S → Ct G l mX4_refusePapers (d + 6) [.ref 0, .int i1, .int i2] S (QI P)) ∧ (∀ Q : Int32 → Sg → Prop, Q (nI 0) S → Ct G l mX5_barred (d + 6) [.ref 7, .int i1, .int i2] S (QI Q))) := by
  have hp := hI.p6
  rcases o_cases i1 (m 7) (by omega) with q | ⟨i, hi, rfl⟩
  · refine Or.inl ⟨-1, S, S, by decide, hR, fun P h => bX4_refusePapers_0 _ _ (t_hasOne la28 hv _ ?_), fun Q h => bX5_barred_0 _ _ (u_isOne hu hI _ ?_)⟩
    · rw [hasOne_n q]
      exact ⟨fun z => absurd rfl z, fun _ => h⟩
    · rw [hasOne_n q]
      exact ⟨fun _ => h, fun z => absurd rfl z⟩
  rcases o_cases i2 6 (by omega) with q | ⟨x, hx, rfl⟩
  · refine Or.inl ⟨-1, S, S, by decide, hR, fun P h => bX4_refusePapers_0 _ _ (t_hasOne la28 hv _ ?_), fun Q h => bX5_barred_0 _ _ (u_isOne hu hI _ ?_)⟩
    · rw [hasOne_y hI hi]
      exact ⟨fun _ => t_rm_bad sh1 q ⟨fun z => absurd z (by decide), fun _ => h⟩, fun z => absurd z (by decide)⟩
    · rw [hasOne_y hI hi]
      refine ⟨fun z => absurd z (by decide), fun _ => u_isRow _ ?_⟩
      rw [b2n_n q]
      exact ⟨fun z => absurd rfl z, fun _ => h⟩
  have hr := hR.1 x hx
  have e1 : S.1 (rf 1 x) 1 = S.1 88 x := hr.1
  have mb : ∀ {T : Sg} {Q : Int32 → Sg → Prop}, MV T m → (∃ n22, ix (nI x) n22 6 ∧ ((nI 0 ≤ T.1 88 n22 → ((T.1 88 n22 - T.1 88 n22 / nI 3 * nI 3) = nI 0 → Ev G l mX5_barred (d + 6) 54 [some (.ref 7), some (.int (nI i)), some (.int (nI x)), some (.int (nI 1)), some (.int (nI 0)), none] [] T (QI Q)) ∧ (¬ (T.1 88 n22 - T.1 88 n22 / nI 3 * nI 3) = nI 0 → Ct G l mX5_finds (d + 5) [.ref 7, .int (nI 5)] T (QI Q))) ∧ (¬ nI 0 ≤ T.1 88 n22 → Ct G l mX5_finds (d + 5) [.ref 7, .int (nI 1)] T (QI Q)))) → Ct G l mX5_barred (d + 6) [.ref 7, .int (nI i), .int (nI x)] T (QI Q) := by
    intro T Q huT hk
    refine bX5_barred_0 _ _ (u_isOne huT hI _ ?_)
    rw [hasOne_y hI hi]
    refine ⟨fun z => absurd z (by decide), fun _ => u_isRow _ ?_⟩
    rw [b2n_y hx (by omega)]
    exact ⟨fun _ => hk, fun z => absurd z (by decide)⟩
  have muF : ∀ f, MV (fdD S f) m := fun f k hk => by rw [fdD_88 f 93 (by omega)]; exact hu k hk
  rcases hr.sz with ⟨z, -⟩ | ⟨n, hn, en, -, hc⟩
  · refine Or.inl ⟨-3, fdD S 1, fdM (fdD S 1) 1, by decide, hR.found (by omega), fun P h => bX4_refusePapers_0 _ _ (t_hasOne la28 hv _ ?_), fun Q h => mb (muF 1) ⟨x, ix_nI hx (by omega), fun y => ?_, fun _ => u_finds (by omega) h⟩⟩
    · rw [hasOne_y hI hi]
      exact ⟨fun _ => t_rm_miss sh1 hx (e1.trans z) ⟨fun z => absurd z (by decide), fun _ => h⟩, fun z => absurd z (by decide)⟩
    · rw [fdD_88 1 88 (by omega), z] at y
      exact absurd y n_m1
  have e2 : S.1 (8 + x) 1 = nI n := e1.trans en
  by_cases h3 : n % 3 = 0
  · obtain ⟨t, rfl⟩ : ∃ t, n = 3 * t := ⟨n / 3, by omega⟩
    have hcc : ∀ k, k < 3 * t → S.1 (8 + x + 10) k = S.1 89 (40 * x + k) := fun k hk => by rw [show 8 + x + 10 = 18 + x by omega]; exact hc k hk
    have hd : ∀ P : Int32 → Sg → Prop, ((∀ k, k < t → GoodP m (fun k => S.1 89 (40 * x + k)) k) → P (nI 0) S) → (¬ (∀ k, k < t → GoodP m (fun k => S.1 89 (40 * x + k)) k) → P (-3) (fdD S 3)) → Ct G l mX4_refusePapers (d + 6) [.ref 0, .int (nI i), .int (nI x)] S (QI P) := by
      intro P a1 a0
      refine bX4_refusePapers_0 _ _ (t_hasOne la28 hv _ ?_)
      rw [hasOne_y hI hi]
      refine ⟨fun _ => t_rm_ok sh1 hx (n := 3 * t) (by omega) (e1.trans en) ⟨fun _ => ⟨x, ix_nI hx (by omega), ?_⟩, fun z => absurd rfl z⟩, fun z => absurd z (by decide)⟩
      rw [e2, z_rem3 hn, h3]
      exact ⟨fun _ => t_papers_l (d := d + 3) (f := fun k => S.1 89 (40 * x + k)) hx hv hI hn e2 hcc a1 a0 t 0 (by omega) (fun j hj => absurd hj (Nat.not_lt_zero j)), fun z => absurd rfl z⟩
    by_cases hg : ∀ k, k < t → GoodP m (fun k => S.1 89 (40 * x + k)) k
    · refine Or.inr ⟨i, x, t, hi, hx, hn, rfl, rfl, good_pap hI hg, e2, en, hcc, fun P h => hd P (fun _ => h) (fun y => absurd hg y), fun Q h => mb hu ⟨x, ix_nI hx (by omega), fun _ => ?_, fun y => absurd (by rw [en]; exact n_le (by omega)) y⟩⟩
      rw [en, z_rem3 hn, h3]
      exact ⟨fun _ => u_barred_l (d := d + 2) (f := fun k => S.1 89 (40 * x + k)) hx hu hn en (fun _ _ => rfl) (fun _ => h) (fun y => absurd hg y) t 0 _ (by omega) (Or.inl ⟨rfl, fun j hj => absurd hj (Nat.not_lt_zero j)⟩), fun z => absurd rfl z⟩
    · refine Or.inl ⟨-3, fdD S 3, fdM (fdD S 3) 3, by decide, hR.found (by omega), fun P h => hd P (fun y => absurd y hg) (fun _ => h), fun Q h => mb (muF 3) ⟨x, ix_nI hx (by omega), fun _ => ?_, fun y => absurd (by rw [fdD_88 3 88 (by omega), en]; exact n_le (by omega)) y⟩⟩
      rw [fdD_88 3 88 (by omega), en, z_rem3 hn, h3]
      exact ⟨fun _ => u_barred_l (d := d + 2) (f := fun k => S.1 89 (40 * x + k)) hx (muF 3) hn (by rw [fdD_88 3 88 (by omega)]; exact en) (fun _ _ => by rw [fdD_88 3 89 (by omega)]) (fun y => absurd y hg) (fun _ => h) t 0 _ (by omega) (Or.inl ⟨rfl, fun j hj => absurd hj (Nat.not_lt_zero j)⟩), fun z => absurd rfl z⟩
  · have h4 : ¬ nI (n % 3) = nI 0 := by rw [z_eq (by omega) (by omega)]; exact h3
    refine Or.inl ⟨-3, fdD S 5, fdM (fdD S 5) 5, by decide, hR.found (by omega), fun P h => bX4_refusePapers_0 _ _ (t_hasOne la28 hv _ ?_), fun Q h => mb (muF 5) ⟨x, ix_nI hx (by omega), fun _ => ?_, fun y => absurd (by rw [fdD_88 5 88 (by omega), en]; exact n_le (by omega)) y⟩⟩
    · rw [hasOne_y hI hi]
      refine ⟨fun _ => t_rm_ok sh1 hx (n := n) (by omega) (e1.trans en) ⟨fun _ => ⟨x, ix_nI hx (by omega), ?_⟩, fun z => absurd rfl z⟩, fun z => absurd z (by decide)⟩
      rw [e2, z_rem3 hn]
      exact ⟨fun y => absurd y h4, fun _ => t_refuse (by omega) h⟩
    · rw [fdD_88 5 88 (by omega), en, z_rem3 hn]
      exact ⟨fun y => absurd y h4, fun _ => u_finds (by omega) h⟩
end heads
