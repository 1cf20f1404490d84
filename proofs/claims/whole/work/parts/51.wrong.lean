/-! peace, who is wronged -/
section wrong
variable {G : Gl} {l : Launch} {d : Nat} {S : Sg} {m : Nat → Nat} {P : Int32 → Sg → Prop} {F : Int32 → Int32 → Sg → Prop}
def sW1 (m c : Nat → Nat) (i j : Nat) : Prop := sBel m j (m 1) (m 2) = true ∧ c i < c j ∧ sVo m j ≤ sVo m i
def sWr (m c : Nat → Nat) (i : Nat) : Prop := ∃ j, j < m 7 ∧ sW1 m c i j
def sWB (m c : Nat → Nat) (i : Nat) : Prop := sBel m i (m 1) (m 2) = true ∧ sWr m c i
theorem t_wrong_l {T : Sg} {x i : Nat} {c : Nat → Nat} (hx : x < 6) (hv : LV T 28 m) (hI : IV m) (hi : i < m 7) (hc : ∀ i, i < m 7 → T.1 (8 + x + 10) i = nI (c i)) (hc9 : ∀ i, c i ≤ 9000) (h1 : sWr m c i → P (nI 1) T) (h0 : ¬ sWr m c i → P (nI 0) T) : ∀ (q k : Nat), k + q = m 7 → (∀ j, j < k → ¬ sW1 m c i j) → Ev G l mX4_isWronged (d + 4) 2 [some (.ref 0), some (.int (nI i)), some (.ref (8 + x)), some (.int (nI k))] [] T (QI P) := by
  have hp := hI.p6
  have hra : RowAt (8 + x) := ra_F sh1 (ix_nI hx (by decide))
  have hln : ln (8 + x + 10) = 40 := ln_row hx
  have hVi := sVo_le (hI.2 i (by omega))
  intro q
  induction q with
  | zero =>
    intro k hk hno
    obtain rfl : k = m 7 := by omega
    exact bX4_isWronged_2 _ _ hra _ ⟨fun _ => h0 (fun ⟨j, hj, z⟩ => hno j hj z), fun z => absurd (by rw [hv.p]; exact (z_le (by omega) (by omega)).mpr (Nat.le_refl _)) z⟩
  | succ q ih =>
    intro k hk hno
    have hVk := sVo_le (hI.2 k (by omega))
    have h9 : ¬ sW1 m c i k → Ev G l mX4_isWronged (d + 4) 2 [some (.ref 0), some (.int (nI i)), some (.ref (8 + x)), some (.int (nI (k + 1)))] [] T (QI P) := fun w => ih (k + 1) (by omega) (fun j hj => by
      by_cases q : j = k
      · rw [q]; exact w
      · exact hno j (by omega))
    have c1 := hc9 i
    have c2 := hc9 k
    refine bX4_isWronged_2 _ _ hra _ ⟨fun z => ?_, fun _ => t_belongs la28 hv hI (by omega) ?_⟩
    · rw [hv.p, z_le (by omega) (by omega)] at z
      omega
    · rw [b2_0, z_add]
      refine ⟨fun z => h9 (fun y => by rw [sW1, z] at y; exact absurd y.1 (by decide)), fun z => ⟨i, ix_nI (by omega) (by omega), k, ix_nI (by omega) (by omega), ?_⟩⟩
      rw [hc i hi, hc k (by omega), z_le (by omega) (by omega)]
      refine ⟨fun z2 => h9 (fun y => by have := y.2.1; omega), fun z2 => t_votes la28 hv hI (by omega) (t_votes la28 hv hI hi ?_)⟩
      rw [z_lt (by omega) (by omega)]
      exact ⟨fun z3 => h9 (fun y => by have := y.2.2; omega), fun z3 => h1 ⟨k, by omega, (Bool.not_eq_false _).mp z, by omega, by omega⟩⟩
theorem t_peace_l {T : Sg} {x : Nat} {c : Nat → Nat} {i1 i2 i3 : Int32} (hx : x < 6) (hv : LV T 28 m) (hI : IV m) (hc : ∀ i, i < m 7 → T.1 (8 + x + 10) i = nI (c i)) (hc9 : ∀ i, c i ≤ 9000) (h1 : ∀ i, i < m 7 → sWB m c i → (∀ j, j < i → ¬ sWB m c j) → P (nI (c i)) T) (h0 : (∀ j, j < m 7 → ¬ sWB m c j) → P (-9) T) : ∀ (q k : Nat), k + q = m 7 → (∀ j, j < k → ¬ sWB m c j) → Ev G l mX4_peace (d + 5) 80 [some (.ref 0), some (.int i1), some (.int i2), some (.int i3), some (.ref (8 + x)), some (.int (nI k))] [] T (QI P) := by
  have hp := hI.p6
  have hra : RowAt (8 + x) := ra_F sh1 (ix_nI hx (by decide))
  have hln : ln (8 + x + 10) = 40 := ln_row hx
  intro q
  induction q with
  | zero =>
    intro k hk hno
    obtain rfl : k = m 7 := by omega
    exact bX4_peace_80 _ _ _ _ hra _ ⟨fun _ => h0 hno, fun z => absurd (by rw [hv.p]; exact (z_le (by omega) (by omega)).mpr (Nat.le_refl _)) z⟩
  | succ q ih =>
    intro k hk hno
    have h9 : ¬ sWB m c k → Ev G l mX4_peace (d + 5) 80 [some (.ref 0), some (.int i1), some (.int i2), some (.int i3), some (.ref (8 + x)), some (.int (nI (k + 1)))] [] T (QI P) := fun w => ih (k + 1) (by omega) (fun j hj => by
      by_cases q : j = k
      · rw [q]; exact w
      · exact hno j (by omega))
    refine bX4_peace_80 _ _ _ _ hra _ ⟨fun z => ?_, fun _ => t_belongs la28 hv hI (by omega) ?_⟩
    · rw [hv.p, z_le (by omega) (by omega)] at z
      omega
    · rw [b2_0, z_add]
      refine ⟨fun z => h9 (fun y => by rw [sWB, z] at y; exact absurd y.1 (by decide)), fun z => bX4_isWronged_0 _ _ hra ?_⟩
      refine t_wrong_l hx hv hI (i := k) (by omega) hc hc9 (fun w => ⟨fun y => absurd y (by decide), fun _ => ⟨k, ix_nI (by omega) (by omega), ?_⟩⟩) (fun w => ⟨fun _ => h9 (fun y => w y.2), fun y => absurd rfl y⟩) (m 7) 0 (by omega) (fun j hj => absurd hj (Nat.not_lt_zero j))
      rw [hc k (by omega)]
      exact h1 k (by omega) ⟨(Bool.not_eq_false _).mp z, w⟩ hno
theorem u_wrong_l {V : Sg} {i : Nat} {c : Nat → Nat} {i1 i2 i4 i5 : Int32} (hu : MV V m) (hI : IV m) (hi : i < m 7) (hc : ∀ i, i < 6 → V.1 98 i = nI (c i)) (hc9 : ∀ i, c i ≤ 9000) (h1 : sWB m c i → P (nI (c i)) V) (h0 : ¬ sWB m c i → Ev G l mX5_peace (d + 3) 160 [some (.ref 7), some (.int i1), some (.int i2), some (.int (nI (sBels m (m 1) (m 2)))), some (.int i4), some (.int i5), some (.int (nI (i + 1))), none] [] V (QI P)) : ∀ (q k : Nat), k + q = m 7 → (∀ j, j < k → ¬ (sBel m i (m 1) (m 2) = true ∧ sW1 m c i j)) → Ev G l mX5_peace (d + 3) 175 [some (.ref 7), some (.int i1), some (.int i2), some (.int (nI (sBels m (m 1) (m 2)))), some (.int i4), some (.int i5), some (.int (nI i)), some (.int (nI k))] [] V (QI P) := by
  have hp := hI.p6
  have hVi := sVo_le (hI.2 i (by omega))
  intro q
  induction q with
  | zero =>
    intro k hk hno
    obtain rfl : k = m 7 := by omega
    refine bX5_peace_175 _ _ _ _ _ _ _ ⟨fun _ => ?_, fun z => absurd (by rw [hu 7 (by omega)]; exact (z_le (by omega) (by omega)).mpr (Nat.le_refl _)) z⟩
    rw [z_add]
    exact h0 (fun ⟨y, j, hj, z⟩ => hno j hj ⟨y, z⟩)
  | succ q ih =>
    intro k hk hno
    have hVk := sVo_le (hI.2 k (by omega))
    have h9 : ¬ (sBel m i (m 1) (m 2) = true ∧ sW1 m c i k) → Ev G l mX5_peace (d + 3) 175 [some (.ref 7), some (.int i1), some (.int i2), some (.int (nI (sBels m (m 1) (m 2)))), some (.int i4), some (.int i5), some (.int (nI i)), some (.int (nI (k + 1)))] [] V (QI P) := fun w => ih (k + 1) (by omega) (fun j hj => by
      by_cases q : j = k
      · rw [q]; exact w
      · exact hno j (by omega))
    have c1 := hc9 i
    have c2 := hc9 k
    refine bX5_peace_175 _ _ _ _ _ _ _ ⟨fun z => ?_, fun _ => u_hb hI (by omega) ?_⟩
    · rw [hu 7 (by omega), z_le (by omega) (by omega)] at z
      omega
    · rw [b2_0, z_add]
      refine ⟨fun z => h9 (fun y => (of_decide_eq_false z) ⟨hi, y.1⟩), fun z => u_hb hI (by omega) ?_⟩
      have zi := of_decide_eq_true ((Bool.not_eq_false _).mp z)
      rw [b2_0]
      refine ⟨fun z => h9 (fun y => (of_decide_eq_false z) ⟨by omega, y.2.1⟩), fun z => ⟨i, ix_nI (by omega) (by omega), k, ix_nI (by omega) (by omega), ?_⟩⟩
      have zk := of_decide_eq_true ((Bool.not_eq_false _).mp z)
      rw [hc i (by omega), hc k (by omega), z_le (by omega) (by omega)]
      refine ⟨fun z2 => h9 (fun y => by have := y.2.2.1; omega), fun z2 => u_votesOf hu hI (by omega) (u_votesOf hu hI (by omega) ?_)⟩
      rw [z_lt (by omega) (by omega)]
      exact ⟨fun z3 => h9 (fun y => by have := y.2.2.2; omega), fun z3 => by rw [hc i (by omega)]; exact h1 ⟨zi.2, k, by omega, zk.2, by omega, by omega⟩⟩
theorem u_peace_l {V : Sg} {c : Nat → Nat} {i1 i2 i4 i5 : Int32} (hu : MV V m) (hI : IV m) (hc : ∀ i, i < 6 → V.1 98 i = nI (c i)) (hc9 : ∀ i, c i ≤ 9000) (h1 : ∀ i, i < m 7 → sWB m c i → (∀ j, j < i → ¬ sWB m c j) → P (nI (c i)) V) (h0 : (∀ j, j < m 7 → ¬ sWB m c j) → P (-9) V) : ∀ (q k : Nat), k + q = m 7 → (∀ j, j < k → ¬ sWB m c j) → Ev G l mX5_peace (d + 3) 160 [some (.ref 7), some (.int i1), some (.int i2), some (.int (nI (sBels m (m 1) (m 2)))), some (.int i4), some (.int i5), some (.int (nI k)), none] [] V (QI P) := by
  have hp := hI.p6
  intro q
  induction q with
  | zero =>
    intro k hk hno
    obtain rfl : k = m 7 := by omega
    exact bX5_peace_160 _ _ _ _ _ _ ⟨fun _ => h0 hno, fun z => absurd (by rw [hu 7 (by omega)]; exact (z_le (by omega) (by omega)).mpr (Nat.le_refl _)) z⟩
  | succ q ih =>
    intro k hk hno
    refine bX5_peace_160 _ _ _ _ _ _ ⟨fun z => ?_, fun _ => ?_⟩
    · rw [hu 7 (by omega), z_le (by omega) (by omega)] at z
      omega
    · refine u_wrong_l hu hI (i := k) (by omega) hc hc9 (fun w => h1 k (by omega) w hno) (fun w => ih (k + 1) (by omega) (fun j hj => ?_)) (m 7) 0 (by omega) (fun j hj => absurd hj (Nat.not_lt_zero j))
      by_cases q : j = k
      · rw [q]; exact w
      · exact hno j (by omega)
theorem pm_peace (hR : R S) (i1 i2 : Int32) (h : ∀ r S', R S' → F r r S') : Ct G l mX4_peace (d + 20) [.ref 0, .int i1, .int i2] S (QI (fun r T => Ct G l mX5_peace (d + 20) [.ref 7, .int i1, .int i2] T (QI (fun r2 T2 => F r r2 T2)))) := by
  obtain ⟨m, hv, hu, hI⟩ := hR.nv
  obtain ⟨g0, g1, g2, -⟩ := hI.1
  have hp := hI.p6
  have hal : sAll m ≤ 108 := sIn_le hI _
  have hs := sBels_lt hI (m 1) (m 2)
  rcases o_cases i1 100 (by omega) with q | ⟨n, hn, rfl⟩
  · have hm : Ct G l mX5_peace (d + 20) [.ref 7, .int i1, .int i2] S (QI (fun r2 T2 => F (-1) r2 T2)) := by
      refine bX5_peace_0 _ _ (u_inN _ 100 99 rfl (by omega) ?_)
      rw [b2n_n q]
      exact ⟨fun _ => h _ _ hR, fun z => absurd rfl z⟩
    refine bX4_peace_0 _ _ ⟨fun _ => hm, fun q0 => ⟨fun _ => hm, fun q5 => ?_⟩⟩
    exact absurd (q.resolve_left q0) (fun z => q5 (by
      rcases z_cases i1 100 (by omega) with w | w | ⟨j, hj, rfl⟩
      · exact absurd w q0
      · exact fa_trans (by decide) w
      · exact absurd z ((z_le_succ _ (by omega)).mp ((z_le (by omega) (by omega)).mpr (by omega)))))
  refine bX4_peace_0 _ _ ⟨fun q => absurd q (n_in (by omega)), fun _ => ⟨fun q => absurd q (by rw [z_lt (by omega) (by omega)]; omega), fun _ => t_isRow _ ?_⟩⟩
  rcases o_cases i2 6 (by omega) with q | ⟨x, hx, rfl⟩
  · rw [b2n_n q]
    refine ⟨fun z => absurd rfl z, fun _ => bX5_peace_0 _ _ (u_inN _ 100 99 rfl (by omega) ?_)⟩
    rw [b2n_y hn (by omega)]
    refine ⟨fun z => absurd z (by decide), fun _ => u_isRow _ ?_⟩
    rw [b2n_n q]
    exact ⟨fun z => absurd rfl z, fun _ => h _ _ hR⟩
  rw [b2n_y hx (by omega)]
  refine ⟨fun _ => t_isThere la28 hv hI ?_, fun z => absurd z (by decide)⟩
  have hm : ∀ {T : Sg} {Q : Int32 → Sg → Prop}, MV T m → (0 < m 0 → 0 < sAll m → Ev G l mX5_peace (d + 20) 52 [some (.ref 7), some (.int (nI n)), some (.int (nI x)), some (.int (nI (sBels m (m 1) (m 2)))), some (.int (nI (sAll m))), some (.int (nI n)), some (.int (nI 0)), none] [] T (QI Q)) → (¬ (0 < m 0 ∧ 0 < sAll m) → Q (-4) T) → Ct G l mX5_peace (d + 20) [.ref 7, .int (nI n), .int (nI x)] T (QI Q) := by
    intro T Q hu2 k1 k2
    refine bX5_peace_0 _ _ (u_inN _ 100 99 rfl (by omega) ?_)
    rw [b2n_y hn (by omega)]
    refine ⟨fun z => absurd z (by decide), fun _ => u_isRow _ ?_⟩
    rw [b2n_y hx (by omega)]
    refine ⟨fun _ => u_belongersNow hu2 hI (u_votesIn hu2 hI (by omega) (u_are hu2 hI ?_)), fun z => absurd z (by decide)⟩
    rw [b2_0, z_eq (by have : sIn m (sBels m (m 1) (m 2)) ≤ 108 := hal; omega) (by omega)]
    refine ⟨fun z => k2 (fun y => (of_decide_eq_false z) y.1), fun z => ⟨fun z2 => ?_, fun z2 => k2 (fun y => ?_)⟩⟩
    · exact k1 (of_decide_eq_true ((Bool.not_eq_false _).mp z)) (Nat.pos_of_ne_zero z2)
    · have y2 : 0 < sIn m (sBels m (m 1) (m 2)) := y.2
      omega
  by_cases hc : 0 < m 0
  · rw [b2y hc]
    refine ⟨fun _ => ?_, fun z => absurd z (by decide)⟩
    rw [hv.w, hv.e]
    refine t_votesBelonging la28 hv hI g1 (by omega) ?_
    show (nI 0 < nI (sAll m) → _) ∧ (¬ nI 0 < nI (sAll m) → _)
    rw [z_lt (by omega) (by omega)]
    refine ⟨fun hA => ⟨x, ix_nI hx (by omega), ?_⟩, fun hA => hm hu (fun _ y => absurd y hA) (fun _ => h _ _ hR)⟩
    refine t_shareCrowns hx hn hv hI hA (fun T hT => ?_)
    have hc9 : ∀ i, (sPs m n (m 7)).2 i ≤ 9000 := fun i => by have := sPs_le hI hn (m 7) i; omega
    have huT := hT.mv hx hu
    have hmod : ∀ {Q : Int32 → Sg → Prop}, (∀ V, R V → (∀ i, i < m 7 → sWB m (sPs m n (m 7)).2 i → (∀ j, j < i → ¬ sWB m (sPs m n (m 7)).2 j) → Q (nI ((sPs m n (m 7)).2 i)) V) ∧ ((∀ j, j < m 7 → ¬ sWB m (sPs m n (m 7)).2 j) → Q (-9) V) → True) → (∀ V, R V → (∀ r, ((∃ i, i < m 7 ∧ sWB m (sPs m n (m 7)).2 i ∧ (∀ j, j < i → ¬ sWB m (sPs m n (m 7)).2 j) ∧ r = nI ((sPs m n (m 7)).2 i)) ∨ ((∀ j, j < m 7 → ¬ sWB m (sPs m n (m 7)).2 j) ∧ r = -9)) → Q r V)) → Ct G l mX5_peace (d + 20) [.ref 7, .int (nI n), .int (nI x)] T (QI Q) := by
      intro Q _ k
      refine hm huT (fun _ _ => ?_) (fun z => absurd ⟨hc, hA⟩ z)
      have b1 := u_crowns_1 (d := d + 17) (G := G) (l := l) (P := Q) (T := T) (n := n) (i2 := nI x) hn huT hI hA (fun U hU => ?_) 6 0 (by omega) T ⟨fun _ _ => rfl, rfl, fun j hj => absurd hj (Nat.not_lt_zero j)⟩
      · rw [if_pos (Nat.zero_le _)] at b1
        exact b1
      · have b2' := u_crowns_2 (d := d + 17) (G := G) (l := l) (P := Q) (T := T) (n := n) (i2 := nI x) hI (fun U2 v hU2 => ?_) 6 0 (by omega) U (by rw [if_pos (Nat.zero_le _)]; exact hU)
        · rw [if_pos (Nat.zero_le _)] at b2'
          exact b2'
        · refine bX5_peace_111 _ _ _ _ _ _ ⟨fun _ => ?_, fun z => absurd (by decide) z⟩
          refine u_laysShares hx (hU2.mv huT) hI ?_
          have hRV := hR.shared hx hp hT hU2
          have huV : MV (lsS U2 x (m 7) (m 7)) m := by
            intro k2 hk
            rw [lsS_o (by omega)]
            exact hU2.mv huT k2 hk
          refine u_peace_l (d := d + 17) huV hI (c := (sPs m n (m 7)).2) (fun i hi => by rw [lsS_o (by omega)]; exact hU2.2.2 i hi) hc9 (fun i hi hw hno => ?_) (fun hno => ?_) (m 7) 0 (by omega) (fun j hj => absurd hj (Nat.not_lt_zero j))
          · exact k _ hRV _ (Or.inl ⟨i, hi, hw, hno, rfl⟩)
          · exact k _ hRV _ (Or.inr ⟨hno, rfl⟩)
    refine t_peace_l (d := d + 15) (c := (sPs m n (m 7)).2) hx (hT.lv hx hv) hI (fun i hi => by rw [show 8 + x + 10 = 18 + x by omega]; exact hT.2.2.2 i hi) hc9 (fun i hi hw hno => ?_) (fun hno => ?_) (m 7) 0 (by omega) (fun j hj => absurd hj (Nat.not_lt_zero j))
    · refine hmod (fun _ _ _ => trivial) (fun V hRV r hr => ?_)
      rcases hr with ⟨i', hi', hw', hno', rfl⟩ | ⟨hno', -⟩
      · have : i' = i := by
          apply Classical.byContradiction
          intro q
          rcases Nat.lt_or_gt_of_ne q with w | w
          · exact hno i' w hw'
          · exact hno' i w hw
        subst this
        exact h _ _ hRV
      · exact absurd hw (hno' i hi)
    · refine hmod (fun _ _ _ => trivial) (fun V hRV r hr => ?_)
      rcases hr with ⟨i', hi', hw', -, -⟩ | ⟨-, rfl⟩
      · exact absurd hw' (hno i' hi')
      · exact h _ _ hRV
  · rw [b2f hc]
    exact ⟨fun z => absurd rfl z, fun _ => hm hu (fun z => absurd z hc) (fun _ => h _ _ hR)⟩
end wrong
