/-! marks, counts -/
section pub5
variable {G : Gl} {l : Launch} {d : Nat} {S : Sg} {m : Nat → Nat} {P : Int32 → Sg → Prop} {F : Int32 → Int32 → Sg → Prop}
theorem u_distance (hu : MV S m) (hI : IV m) {c : Nat} (hc : c < 100) (h : P (nI (sFar m c)) S) : Ct G l mX5_distance (d + 2) [.ref 7, .int (nI c)] S (QI P) := by
  obtain ⟨h0, h1, h2, -⟩ := hI.1
  refine bX5_distance_0 _ ?_
  rw [hu 1 (by omega), hu 2 (by omega)]
  simp (disch := omega) only [z_eq]
  unfold sFar at h
  refine ⟨fun q x ex => ?_, fun q => u_off (by omega) (by omega) ?_⟩
  · rw [if_neg q] at h
    have e : x = nI (if c < m 1 then m 1 - c else if m 2 ≤ c then c + 1 - m 2 else 0) := by
      rw [ex]
      simp (disch := omega) only [z_le, z_lt]
      rcases (show c < m 1 ∨ (m 1 ≤ c ∧ c < m 2) ∨ m 2 ≤ c by omega) with q1 | q1 | q1
      · rw [if_neg (by omega), if_pos q1, z_sub (by omega)]
      · rw [if_pos (by omega), if_pos (by omega), if_neg (by omega), if_neg (by omega)]
      · rw [if_pos (by omega), if_neg (by omega), if_neg (by omega), if_pos q1, z_sub q1, z_add]
        congr 1
        omega
    rw [e]; exact h
  · rw [if_pos q] at h
    exact h
theorem u_mark_l (hu : MV S m) (hI : IV m) {j : Nat} (hj : j < m 7) (i2 i5 : Int32) (h : P (nI (sOth m j (m 7))) S) : ∀ (k i : Nat), i + k = m 7 → Ev G l mX5_mark (d + 1) 152 [some (.ref 7), some (.int (nI j)), some (.int i2), some (.int ((nI 10) + ((nI 5) * nI j))), some (.int (nI (sOth m j i))), some (.int i5), some (.int (nI i))] [] S (QI P) := by
  have hp := hI.p6
  intro k
  induction k with
  | zero =>
    intro i hi
    refine bX5_mark_152 _ _ _ _ _ _ ⟨fun _ => ?_, fun q => ?_⟩
    · rw [show i = m 7 by omega]
      exact h
    · rw [hu 7 (by omega), z_le (by omega) (by omega)] at q
      omega
  | succ k ih =>
    intro i hi
    have h9 := ih (i + 1) (by omega)
    rw [sOth] at h9
    obtain ⟨-, h2, -⟩ := hI.2 i (by omega)
    obtain ⟨-, h3, -⟩ := hI.2 j (by omega)
    have ci : (((nI 10) + ((nI 5) * nI i)) + nI 1).toNatClampNeg = 11 + 5 * i := by rw [z_at, nI_clamp (by omega)]
    have cj : (((nI 10) + ((nI 5) * nI j)) + nI 1).toNatClampNeg = 11 + 5 * j := by rw [z_at, nI_clamp (by omega)]
    refine bX5_mark_152 _ _ _ _ _ _ ⟨fun q => ?_, fun _ => ?_⟩
    · rw [hu 7 (by omega), z_le (by omega) (by omega)] at q
      omega
    · rw [ci, cj, hu _ (by omega), hu _ (by omega)]
      refine ⟨fun _ => ix_i (z_at i 1) (by omega) (by omega), fun _ => ix_i (z_at j 1) (by omega) (by omega), fun x ex => ?_⟩
      have e' : nI (sOth m j i) + x = nI (sOth m j i + (if i ≠ j ∧ m (11 + 5 * i) = m (11 + 5 * j) then 1 else 0)) := by
        rw [ex]
        simp (disch := omega) only [z_eq]
        by_cases q1 : i = j <;> by_cases q2 : m (11 + 5 * i) = m (11 + 5 * j) <;> simp [q1, q2, z_add]
      rw [e', z_add]
      exact h9
theorem k_cases (x : Int32) : (x < nI 1 ∨ nI 5 < x) ∨ ∃ k, 1 ≤ k ∧ k ≤ 5 ∧ x = nI k := by
  by_cases q1 : x < nI 1
  · exact Or.inl (Or.inl q1)
  · by_cases q2 : nI 5 < x
    · exact Or.inl (Or.inr q2)
    · obtain ⟨j, hj, rfl⟩ := z_ofx (x := x) (by
        have q1 := z_nlt.mp q1
        rw [Int32.le_iff_toInt_le] at q1 ⊢
        have a1 : (nI 0).toInt = 0 := rfl
        have a2 : (nI 1).toInt = 1 := rfl
        omega)
      rw [z_lt (by omega) hj] at q2
      rw [z_lt hj (by omega)] at q1
      exact Or.inr ⟨j, by omega, by omega, rfl⟩
theorem abs_sub {a b : Nat} (ha : a < 1000) (hb : b < 1000) : (if 0 ≤ (nI a - nI b) then (nI a - nI b) else 0 - (nI a - nI b)) = nI (if a < b then b - a else a - b) := by
  by_cases q1 : a < b
  · rw [if_neg (by show ¬ nI 0 ≤ _; rw [z_le_sub (by omega) (by omega) (by omega)]; omega), if_pos q1]
    have : (0 : Int32) - (nI a - nI b) = nI b - nI a := by
      rw [Int32.sub_eq_add_neg, Int32.neg_sub, Int32.zero_add]
    rw [this, z_sub (by omega)]
  · rw [if_pos (by show nI 0 ≤ _; rw [z_le_sub (by omega) (by omega) (by omega)]; omega), z_sub (by omega), if_neg q1]
theorem pm_mark (hR : R S) (i w : Int32) (h : ∀ r S', R S' → F r r S') : Ct G l mX4_mark (d + 20) [.ref 0, .int i, .int w] S (QI (fun r T => Ct G l mX5_mark (d + 20) [.ref 7, .int i, .int w] T (QI (fun r2 T2 => F r r2 T2)))) := by
  obtain ⟨m, hv, hu, hI⟩ := hR.nv
  have hp := hI.p6
  obtain ⟨g0, g1, g2, -⟩ := hI.1
  refine bX4_mark_0 _ _ (t_hasOne la28 hv _ ?_)
  rcases o_cases i (m 7) (by omega) with q | ⟨j, hj, rfl⟩
  · rw [hasOne_n q]
    refine ⟨fun _ => bX5_mark_0 _ _ (u_isOne hu hI _ ?_), fun z => absurd rfl z⟩
    rw [hasOne_n q]
    exact ⟨fun _ => h _ _ hR, fun z => absurd rfl z⟩
  rw [hasOne_y hI hj]
  refine ⟨fun z => absurd z (by decide), fun _ => ?_⟩
  rcases k_cases w with q | ⟨k, hk1, hk5, rfl⟩
  · have hm : Ct G l mX5_mark (d + 20) [.ref 7, .int (nI j), .int w] S (QI (fun r2 T2 => F (-1) r2 T2)) := by
      refine bX5_mark_0 _ _ (u_isOne hu hI _ ?_)
      rw [hasOne_y hI hj]
      refine ⟨fun z => absurd z (by decide), fun _ => u_in _ _ _ ?_⟩
      rw [b2f (fun z => q.elim z.1 z.2)]
      exact ⟨fun z => absurd rfl z, fun _ => h _ _ hR⟩
    exact ⟨fun _ => hm, fun q0 => ⟨fun q5 => absurd (q.resolve_left q0) (z_nlt.mpr q5), fun _ => hm⟩⟩
  obtain ⟨i1, i2, i3, -⟩ := hI.2 j (by omega)
  have c30 : S.1 30 j = _ := hv.cl hj
  have c31 : S.1 31 j = _ := hv.fi hj
  have hx : ix (nI j) j 6 := ix_nI (by omega) (by omega)
  refine ⟨fun q => absurd q (by rw [z_lt (by omega) (by omega)]; omega), fun _ => ⟨fun _ => t_isOf la28 hv hI hj (by omega) ?_, fun q => absurd (by rw [z_le (by omega) (by omega)]; omega) q⟩⟩
  have e33 : sIs m j k = decide (m (10 + 5 * j) = k ∨ (m (10 + 5 * j) = 4 ∧ k = 1) ∨ (m (10 + 5 * j) = 5 ∧ k = 2)) := rfl
  cases hs : sIs m j k
  · refine ⟨fun z => absurd rfl z, fun _ => t_refuse (by omega) (bX5_mark_0 _ _ (u_isOne (m := m) ?_ hI _ ?_))⟩
    · intro a ha
      rw [fdD_88 3 93 (by omega)]
      exact hu a ha
    · rw [hasOne_y hI hj]
      refine ⟨fun z => absurd z (by decide), fun _ => u_in _ _ _ ?_⟩
      rw [b2y ⟨by rw [z_lt (by omega) (by omega)]; omega, by rw [z_lt (by omega) (by omega)]; omega⟩]
      refine ⟨fun _ => ⟨10 + 5 * j, ix_i (z_at0 j) (by omega) (by omega), ?_⟩, fun z => absurd z (by decide)⟩
      rw [fdD_88 3 93 (by omega), hu _ (by omega)]
      refine u_isOf (by omega) (by omega) ?_
      rw [← e33, hs]
      exact ⟨fun z => absurd rfl z, fun _ => u_finds (by omega) (h _ _ (hR.found (by omega)))⟩
  · have hm : ∀ {Q : Int32 → Sg → Prop}, ((nI k = nI 1 → ∃ n103 : Nat, ix (((nI 10) + ((nI 5) * nI j)) + (nI 1)) n103 400 ∧ (∃ n111 : Nat, ix (((nI 10) + ((nI 5) * nI j)) + (nI 2)) n111 400 ∧ (∀ x112 : Int32, x112 = (if (S.1 93 n103) = (S.1 93 n111) then (nI 0) else (nI 1)) → (Q x112 S)))) ∧ (¬ nI k = nI 1 → (nI k = nI 2 → ∃ n129 : Nat, ix (((nI 10) + ((nI 5) * nI j)) + (nI 1)) n129 400 ∧ (Ct G l mX5_distance (d + 19) [.ref 7, .int (S.1 93 n129)] S (QI (fun r130 T130 => Q r130 T130)))) ∧ (¬ nI k = nI 2 → (nI k = nI 3 → ∀ x137 : Int32, x137 = (if (nI 3) ≤ ((S.1 93 2) - (S.1 93 1)) then (nI 0) else ((nI 3) - ((S.1 93 2) - (S.1 93 1)))) → (Q x137 S)) ∧ (¬ nI k = nI 3 → (nI k = nI 4 → Ev G l mX5_mark (d + 20) 152 [some (.ref 7), some (.int (nI j)), some (.int (nI k)), some (.int ((nI 10) + ((nI 5) * nI j))), some (.int (nI 0)), some (.int ((S.1 93 2) - (S.1 93 1))), some (.int (nI 0))] [] S (QI Q)) ∧ (¬ nI k = nI 4 → ∃ n221 : Nat, ix (((nI 10) + ((nI 5) * nI j)) + (nI 1)) n221 400 ∧ (Ct G l mX5_off (d + 19) [.int (S.1 93 n221), .int (((S.1 93 1) + (S.1 93 2)) / (nI 2))] S (QI (fun r237 T237 => Q r237 T237)))))))) → Ct G l mX5_mark (d + 20) [.ref 7, .int (nI j), .int (nI k)] S (QI Q) := by
      intro Q hQ
      refine bX5_mark_0 _ _ (u_isOne hu hI _ ?_)
      rw [hasOne_y hI hj]
      refine ⟨fun z => absurd z (by decide), fun _ => u_in _ _ _ ?_⟩
      rw [b2y ⟨by rw [z_lt (by omega) (by omega)]; omega, by rw [z_lt (by omega) (by omega)]; omega⟩]
      refine ⟨fun _ => ⟨10 + 5 * j, ix_i (z_at0 j) (by omega) (by omega), ?_⟩, fun z => absurd z (by decide)⟩
      rw [hu (10 + 5 * j) (by omega)]
      refine u_isOf (by omega) (by omega) ?_
      rw [← e33, hs]
      exact ⟨fun _ => hQ, fun z => absurd z (by decide)⟩
    refine ⟨fun _ => ?_, fun z => absurd z (by decide)⟩
    rcases (show k = 1 ∨ k = 2 ∨ k = 3 ∨ k = 4 ∨ k = 5 by omega) with rfl | rfl | rfl | rfl | rfl
    · refine ⟨fun _ => ⟨j, hx, fun x ex => hm ⟨fun _ => ⟨11 + 5 * j, ix_i (z_at j 1) (by omega) (by omega), 12 + 5 * j, ix_i (z_at j 2) (by omega) (by omega), fun y ey => ?_⟩, fun q => absurd rfl q⟩⟩, fun q => absurd rfl q⟩
      rw [hu _ (by omega), hu _ (by omega)] at ey
      rw [c30, c31] at ex
      rw [ex, ey]
      exact h _ _ hR
    · refine ⟨fun q => absurd q (by decide), fun _ => ⟨fun _ => ⟨j, hx, ?_⟩, fun q => absurd rfl q⟩⟩
      rw [c30]
      refine t_farFromStrip la28 hv hI (by omega) (hm ⟨fun q => absurd q (by decide), fun _ => ⟨fun _ => ⟨11 + 5 * j, ix_i (z_at j 1) (by omega) (by omega), ?_⟩, fun q => absurd rfl q⟩⟩)
      rw [hu _ (by omega)]
      exact u_distance hu hI (by omega) (h _ _ hR)
    · refine ⟨fun q => absurd q (by decide), fun _ => ⟨fun q => absurd q (by decide), fun _ => ⟨fun _ => t_strip la28 hv hI ?_, fun q => absurd rfl q⟩⟩⟩
      have e1 : (if nI 0 < nI 3 - nI (m 2 - m 1) then nI 3 - nI (m 2 - m 1) else nI 0) = nI (3 - (m 2 - m 1)) := by
        by_cases q : m 2 - m 1 < 3
        · rw [if_pos (by rw [z_lt_sub (by omega) (by omega) (by omega)]; omega), z_sub (by omega)]
        · rw [if_neg (by rw [z_lt_sub (by omega) (by omega) (by omega)]; omega)]
          congr 1
          omega
      rw [e1]
      refine hm ⟨fun q => absurd q (by decide), fun _ => ⟨fun q => absurd q (by decide), fun _ => ⟨fun _ x ex => ?_, fun q => absurd rfl q⟩⟩⟩
      have e2 : x = nI (3 - (m 2 - m 1)) := by
        rw [ex, hu 2 (by omega), hu 1 (by omega), z_sub g1]
        by_cases q : m 2 - m 1 < 3
        · rw [if_neg (by rw [z_le (by omega) (by omega)]; omega), z_sub (by omega)]
        · rw [if_pos (by rw [z_le (by omega) (by omega)]; omega)]
          congr 1
          omega
      rw [e2]
      exact h _ _ hR
    · refine ⟨fun q => absurd q (by decide), fun _ => ⟨fun q => absurd q (by decide), fun _ => ⟨fun q => absurd q (by decide), fun _ => ⟨fun _ => t_othersWith la28 hv hI hj ?_, fun q => absurd rfl q⟩⟩⟩⟩
      exact hm ⟨fun q => absurd q (by decide), fun _ => ⟨fun q => absurd q (by decide), fun _ => ⟨fun q => absurd q (by decide), fun _ => ⟨fun _ => u_mark_l hu hI hj _ _ (h _ _ hR) (m 7) 0 (by omega), fun q => absurd rfl q⟩⟩⟩⟩
    · refine ⟨fun q => absurd q (by decide), fun _ => ⟨fun q => absurd q (by decide), fun _ => ⟨fun q => absurd q (by decide), fun _ => ⟨fun q => absurd q (by decide), fun _ => ⟨j, hx, ?_⟩⟩⟩⟩⟩
      rw [hv.w, hv.e, c30]
      refine t_middleOf (by omega) (by omega) ?_
      rw [abs_sub (by omega) (by omega)]
      refine hm ⟨fun q => absurd q (by decide), fun _ => ⟨fun q => absurd q (by decide), fun _ => ⟨fun q => absurd q (by decide), fun _ => ⟨fun q => absurd q (by decide), fun _ => ⟨11 + 5 * j, ix_i (z_at j 1) (by omega) (by omega), ?_⟩⟩⟩⟩⟩
      rw [hu (11 + 5 * j) (by omega), hu 1 (by omega), hu 2 (by omega), z_add, z_div (by omega) (by omega) (by omega)]
      exact u_off (by omega) (by omega) (h _ _ hR)
/-- how many of the first n hold -/
def cnt (p : Nat → Bool) : Nat → Nat
  | 0 => 0
  | n + 1 => cnt p n + (if p n = true then 1 else 0)
theorem cnt_le (p : Nat → Bool) : ∀ n, cnt p n ≤ n
  | 0 => Nat.le_refl 0
  | n + 1 => by
    have := cnt_le p n
    unfold cnt
    split <;> omega
theorem cnt_eq {p q : Nat → Bool} : ∀ n, (∀ i, i < n → p i = q i) → cnt p n = cnt q n
  | 0, _ => rfl
  | n + 1, h => by
    unfold cnt
    rw [cnt_eq n (fun i hi => h i (by omega)), h n (by omega)]
theorem t_thereOf_l {K : Nat} (hK : ShelfAt K) (h : P (nI (cnt (fun j => decide (nI 0 ≤ S.1 (rf K j) 1)) (ln K))) S) : ∀ (k i : Nat), i + k = ln K → Ev G l mX4_thereOf (d + 2) 4 [some (.ref K), some (.int (nI (cnt (fun j => decide (nI 0 ≤ S.1 (rf K j) 1)) i))), some (.int (nI i))] [] S (QI P) := by
  have hl := shelf_ln hK
  intro k
  induction k with
  | zero =>
    intro i hi
    refine bX4_thereOf_4 K hK _ _ ⟨fun _ => ?_, fun q => ?_⟩
    · rw [show i = ln K by omega]
      exact h
    · rw [z_le (by omega) (by omega)] at q
      omega
  | succ k ih =>
    intro i hi
    have h9 := ih (i + 1) (by omega)
    rw [cnt] at h9
    have hx : ix (nI i) i (ln K) := ix_nI (by omega) (by omega)
    refine bX4_thereOf_4 K hK _ _ ⟨fun q => ?_, fun _ => ⟨i, hx, t_isMissing (ra_F hK hx) (fun z x ex => ?_) (fun z x ex => ?_)⟩⟩
    · rw [z_le (by omega) (by omega)] at q
      omega
    · rw [if_pos rfl, z_add] at ex
      rw [if_pos (decide_eq_true z)] at h9
      rw [ex, z_add]
      exact h9
    · rw [if_neg (by decide)] at ex
      rw [if_neg (by simpa using z)] at h9
      rw [ex, z_add]
      exact h9
theorem t_keptLands_l (p : Nat → Bool) (hp : ∀ k, k < 3 → (p k = true ∧ ¬ S.1 (52 + 12 * k) 0 ≤ nI 0) ∨ (p k = false ∧ S.1 (52 + 12 * k) 0 ≤ nI 0)) (h : P (nI (cnt p 3)) S) : ∀ (k i : Nat), i + k = 3 → Ev G l mX4_keptLands (d + 2) 4 [some (.ref 0), some (.int (nI (cnt p i))), some (.int (nI i))] [] S (QI P) := by
  intro k
  induction k with
  | zero =>
    intro i hi
    refine bX4_keptLands_4 _ _ ⟨fun _ => ?_, fun q => ?_⟩
    · rw [show i = 3 by omega]
      exact h
    · rw [z_le (by omega) (by omega)] at q
      omega
  | succ k ih =>
    intro i hi
    have h9 := ih (i + 1) (by omega)
    rw [cnt] at h9
    have hx : ix (nI i) i 3 := ix_nI (by omega) (by omega)
    refine bX4_keptLands_4 _ _ ⟨fun q => ?_, fun _ => ⟨i, hx, bX1_isThere_0 _ (la_3 hx) (fun y ey x ex => ?_)⟩⟩
    · rw [z_le (by omega) (by omega)] at q
      omega
    · rcases hp i (by omega) with ⟨h1, h2⟩ | ⟨h1, h2⟩
      · rw [if_neg h2] at ey
        rw [ey, if_neg (by decide), z_add] at ex
        rw [if_pos h1] at h9
        rw [ex, z_add]
        exact h9
      · rw [if_pos h2] at ey
        rw [ey, if_pos rfl] at ex
        rw [if_neg (by simp [h1])] at h9
        rw [ex, z_add]
        exact h9
theorem u_count_112 (hu : MV S m) (hI : IV m) (w : Int32) (h : P (nI (sLad m (m 7))) S) : ∀ (k i : Nat), i + k = m 7 → Ev G l mX5_count (d + 2) 112 [some (.ref 7), some (.int w), some (.int (nI (sLad m i))), some (.int (nI i))] [] S (QI P) := by
  have hp := hI.p6
  intro k
  induction k with
  | zero =>
    intro i hi
    refine bX5_count_112 _ _ _ ⟨fun _ => ?_, fun q => ?_⟩
    · rw [show i = m 7 by omega]
      exact h
    · rw [hu 7 (by omega), z_le (by omega) (by omega)] at q
      omega
  | succ k ih =>
    intro i hi
    obtain ⟨h1, -⟩ := hI.2 i (by omega)
    refine bX5_count_112 _ _ _ ⟨fun q => ?_, fun _ => ⟨10 + 5 * i, ix_i (z_at0 i) (by omega) (by omega), ?_⟩⟩
    · rw [hu 7 (by omega), z_le (by omega) (by omega)] at q
      omega
    · rw [hu _ (by omega)]
      refine u_isOf (by omega) (by omega) (fun x ex => ?_)
      have e : nI (sLad m i) + x = nI (sLad m (i + 1)) := by
        rw [ex, b2c, sLad]
        show nI (sLad m i) + b2 (sIs m i 2) = _
        cases sIs m i 2 <;> simp [b2, z_add]
      rw [e, z_add]
      exact ih (i + 1) (by omega)
theorem u_count_159 (w : Int32) (h : P (nI (cnt (fun j => decide (nI 0 ≤ S.1 88 j)) 6)) S) : ∀ (k i : Nat), i + k = 6 → Ev G l mX5_count (d + 1) 159 [some (.ref 7), some (.int w), some (.int (nI (cnt (fun j => decide (nI 0 ≤ S.1 88 j)) i))), some (.int (nI i))] [] S (QI P) := by
  intro k
  induction k with
  | zero =>
    intro i hi
    refine bX5_count_159 _ _ _ ⟨fun _ => ?_, fun q => ?_⟩
    · rw [show i = 6 by omega]
      exact h
    · rw [z_le (by omega) (by omega)] at q
      omega
  | succ k ih =>
    intro i hi
    have h9 := ih (i + 1) (by omega)
    rw [cnt] at h9
    refine bX5_count_159 _ _ _ ⟨fun q => ?_, fun _ => ⟨i, ix_nI (by omega) (by omega), fun x ex => ?_⟩⟩
    · rw [z_le (by omega) (by omega)] at q
      omega
    · rw [ex]
      by_cases q : nI 0 ≤ S.1 88 i
      · rw [if_pos q, z_add, z_add]
        rw [if_pos (decide_eq_true q)] at h9
        exact h9
      · rw [if_neg q, z_add, z_add]
        rw [if_neg (by simpa using q)] at h9
        exact h9
theorem u_count_192 (w : Int32) (h : P (nI (cnt (fun j => decide (nI 0 ≤ S.1 91 j)) 4)) S) : ∀ (k i : Nat), i + k = 4 → Ev G l mX5_count (d + 1) 192 [some (.ref 7), some (.int w), some (.int (nI (cnt (fun j => decide (nI 0 ≤ S.1 91 j)) i))), some (.int (nI i))] [] S (QI P) := by
  intro k
  induction k with
  | zero =>
    intro i hi
    refine bX5_count_192 _ _ _ ⟨fun _ => ?_, fun q => ?_⟩
    · rw [show i = 4 by omega]
      exact h
    · rw [z_le (by omega) (by omega)] at q
      omega
  | succ k ih =>
    intro i hi
    have h9 := ih (i + 1) (by omega)
    rw [cnt] at h9
    refine bX5_count_192 _ _ _ ⟨fun q => ?_, fun _ => ⟨i, ix_nI (by omega) (by omega), fun x ex => ?_⟩⟩
    · rw [z_le (by omega) (by omega)] at q
      omega
    · rw [ex]
      by_cases q : nI 0 ≤ S.1 91 i
      · rw [if_pos q, z_add, z_add]
        rw [if_pos (decide_eq_true q)] at h9
        exact h9
      · rw [if_neg q, z_add, z_add]
        rw [if_neg (by simpa using q)] at h9
        exact h9
theorem u_count_224 (w : Int32) (h : P (nI (cnt (fun j => decide (¬ S.1 96 j = nI 0)) 3)) S) : ∀ (k i : Nat), i + k = 3 → Ev G l mX5_count (d + 1) 224 [some (.ref 7), some (.int w), some (.int (nI (cnt (fun j => decide (¬ S.1 96 j = nI 0)) i))), some (.int (nI i))] [] S (QI P) := by
  intro k
  induction k with
  | zero =>
    intro i hi
    refine bX5_count_224 _ _ _ ⟨fun _ => ?_, fun q => ?_⟩
    · rw [show i = 3 by omega]
      exact h
    · rw [z_le (by omega) (by omega)] at q
      omega
  | succ k ih =>
    intro i hi
    have h9 := ih (i + 1) (by omega)
    rw [cnt] at h9
    refine bX5_count_224 _ _ _ ⟨fun q => ?_, fun _ => ⟨i, ix_nI (by omega) (by omega), fun x ex => ?_⟩⟩
    · rw [z_le (by omega) (by omega)] at q
      omega
    · rw [ex]
      by_cases q : S.1 96 i = nI 0
      · rw [if_pos q, z_add, z_add]
        rw [if_neg (by simpa using q)] at h9
        exact h9
      · rw [if_neg q, z_add, z_add]
        rw [if_pos (by simpa using q)] at h9
        exact h9
/-- the counts told, by what; -1 else -/
def sCnt (S : Sg) (m : Nat → Nat) (w : Nat) : Int32 := match w with
  | 0 => nI (m 7)
  | 1 => nI (m 0)
  | 2 => nI (m 8)
  | 3 => nI (m 9)
  | 4 => nI (m 1)
  | 5 => nI (m 2)
  | 6 => nI (sBels m (m 1) (m 2))
  | 7 => nI (sLad m (m 7))
  | 8 => nI (cnt (fun j => decide (nI 0 ≤ S.1 88 j)) 6)
  | 9 => nI (cnt (fun j => decide (nI 0 ≤ S.1 91 j)) 4)
  | _ => nI (cnt (fun j => decide (¬ S.1 96 j = nI 0)) 3)
theorem kn {j k : Nat} (h : j ≠ k) (hj : j < 1000) (hk : k < 1000) : ¬ nI j = nI k := by
  rw [z_eq (by omega) (by omega)]
  exact h
theorem t_count (hR : R S) (hv : LV S 28 m) (hI : IV m) {w : Nat} (hw : w < 11) (h : P (sCnt S m w) S) : Ct G l mX4_count (d + 5) [.ref 0, .int (nI w)] S (QI P) := by
  obtain ⟨h0, h1, h2, -⟩ := hI.1
  have n34 : S.1 34 5 = _ := hv.n
  refine bX4_count_0 _ ?_
  rw [hv.p, hv.c, hv.y, n34, hv.w, hv.e]
  rcases (show w = 0 ∨ w = 1 ∨ w = 2 ∨ w = 3 ∨ w = 4 ∨ w = 5 ∨ w = 6 ∨ w = 7 ∨ w = 8 ∨ w = 9 ∨ w = 10 by omega) with rfl | rfl | rfl | rfl | rfl | rfl | rfl | rfl | rfl | rfl | rfl
  · exact ⟨fun _ => h, fun q => absurd rfl q⟩
  · exact ⟨fun q => absurd q (by decide), fun _ => ⟨fun _ => h, fun q => absurd rfl q⟩⟩
  · exact ⟨fun q => absurd q (by decide), fun _ => ⟨fun q => absurd q (by decide), fun _ => ⟨fun _ => h, fun q => absurd rfl q⟩⟩⟩
  · exact ⟨fun q => absurd q (by decide), fun _ => ⟨fun q => absurd q (by decide), fun _ => ⟨fun q => absurd q (by decide), fun _ => ⟨fun _ => h, fun q => absurd rfl q⟩⟩⟩⟩
  · exact ⟨fun q => absurd q (by decide), fun _ => ⟨fun q => absurd q (by decide), fun _ => ⟨fun q => absurd q (by decide), fun _ => ⟨fun q => absurd q (by decide), fun _ => ⟨fun _ => h, fun q => absurd rfl q⟩⟩⟩⟩⟩
  · exact ⟨fun q => absurd q (by decide), fun _ => ⟨fun q => absurd q (by decide), fun _ => ⟨fun q => absurd q (by decide), fun _ => ⟨fun q => absurd q (by decide), fun _ => ⟨fun q => absurd q (by decide), fun _ => ⟨fun _ => h, fun q => absurd rfl q⟩⟩⟩⟩⟩⟩
  · refine ⟨fun q => absurd q (by decide), fun _ => ⟨fun q => absurd q (by decide), fun _ => ⟨fun q => absurd q (by decide), fun _ => ⟨fun q => absurd q (by decide), fun _ => ⟨fun q => absurd q (by decide), fun _ => ⟨fun q => absurd q (by decide), fun _ => ⟨fun _ => bX4_belong_0 ?_, fun q => absurd rfl q⟩⟩⟩⟩⟩⟩⟩
    rw [hv.w, hv.e]
    exact t_belonging la28 hv hI h1 (by omega) h
  · exact ⟨fun q => absurd q (by decide), fun _ => ⟨fun q => absurd q (by decide), fun _ => ⟨fun q => absurd q (by decide), fun _ => ⟨fun q => absurd q (by decide), fun _ => ⟨fun q => absurd q (by decide), fun _ => ⟨fun q => absurd q (by decide), fun _ => ⟨fun q => absurd q (by decide), fun _ => ⟨fun _ => t_ladies la28 hv hI h, fun q => absurd rfl q⟩⟩⟩⟩⟩⟩⟩⟩
  · refine ⟨fun q => absurd q (by decide), fun _ => ⟨fun q => absurd q (by decide), fun _ => ⟨fun q => absurd q (by decide), fun _ => ⟨fun q => absurd q (by decide), fun _ => ⟨fun q => absurd q (by decide), fun _ => ⟨fun q => absurd q (by decide), fun _ => ⟨fun q => absurd q (by decide), fun _ => ⟨fun q => absurd q (by decide), fun _ => ⟨fun _ => bX4_thereOf_0 1 sh1 (t_thereOf_l sh1 ?_ 6 0 rfl), fun q => absurd rfl q⟩⟩⟩⟩⟩⟩⟩⟩⟩
    rw [cnt_eq (q := fun j => decide (nI 0 ≤ S.1 88 j)) (ln 1) (fun i hi => by
      have := (hR.1 i hi).1
      show decide (nI 0 ≤ S.1 (8 + i) 1) = _
      rw [this])]
    exact h
  · refine ⟨fun q => absurd q (by decide), fun _ => ⟨fun q => absurd q (by decide), fun _ => ⟨fun q => absurd q (by decide), fun _ => ⟨fun q => absurd q (by decide), fun _ => ⟨fun q => absurd q (by decide), fun _ => ⟨fun q => absurd q (by decide), fun _ => ⟨fun q => absurd q (by decide), fun _ => ⟨fun q => absurd q (by decide), fun _ => ⟨fun q => absurd q (by decide), fun _ => ⟨fun _ => bX4_thereOf_0 2 sh2 (t_thereOf_l sh2 ?_ 4 0 rfl), fun q => absurd rfl q⟩⟩⟩⟩⟩⟩⟩⟩⟩⟩
    rw [cnt_eq (q := fun j => decide (nI 0 ≤ S.1 91 j)) (ln 2) (fun i hi => by
      have := (hR.2.1 i hi).1
      show decide (nI 0 ≤ S.1 (14 + i) 1) = _
      rw [this])]
    exact h
  · refine ⟨fun q => absurd q (by decide), fun _ => ⟨fun q => absurd q (by decide), fun _ => ⟨fun q => absurd q (by decide), fun _ => ⟨fun q => absurd q (by decide), fun _ => ⟨fun q => absurd q (by decide), fun _ => ⟨fun q => absurd q (by decide), fun _ => ⟨fun q => absurd q (by decide), fun _ => ⟨fun q => absurd q (by decide), fun _ => ⟨fun q => absurd q (by decide), fun _ => ⟨fun q => absurd q (by decide), fun _ => ⟨fun _ => bX4_keptLands_0 (t_keptLands_l (fun j => decide (¬ S.1 96 j = nI 0)) (fun k hk => ?_) h 3 0 rfl), fun q => absurd rfl q⟩⟩⟩⟩⟩⟩⟩⟩⟩⟩⟩
    rcases hR.2.2.2.2.2.2 k hk with ⟨q1, q2⟩ | ⟨q1, H, n, q2, q3, q4, -⟩
    · exact Or.inr ⟨by simp [q1], by rw [q2]; decide⟩
    · refine Or.inl ⟨by rw [q1]; decide, ?_⟩
      have := (q3.2.1 n (Nat.le_refl n)).1.1.1
      rw [q4.1.c, z_le (by omega) (by omega)]
      omega
theorem u_count (hu : MV S m) (hI : IV m) {w : Nat} (hw : w < 11) (h : P (sCnt S m w) S) : Ct G l mX5_count (d + 6) [.ref 7, .int (nI w)] S (QI P) := by
  refine bX5_count_0 _ ?_
  rw [hu 7 (by omega), hu 0 (by omega), hu 8 (by omega), hu 9 (by omega), hu 1 (by omega), hu 2 (by omega)]
  rcases (show w = 0 ∨ w = 1 ∨ w = 2 ∨ w = 3 ∨ w = 4 ∨ w = 5 ∨ w = 6 ∨ w = 7 ∨ w = 8 ∨ w = 9 ∨ w = 10 by omega) with rfl | rfl | rfl | rfl | rfl | rfl | rfl | rfl | rfl | rfl | rfl
  · exact ⟨fun _ => h, fun q => absurd rfl q⟩
  · exact ⟨fun q => absurd q (by decide), fun _ => ⟨fun _ => h, fun q => absurd rfl q⟩⟩
  · exact ⟨fun q => absurd q (by decide), fun _ => ⟨fun q => absurd q (by decide), fun _ => ⟨fun _ => h, fun q => absurd rfl q⟩⟩⟩
  · exact ⟨fun q => absurd q (by decide), fun _ => ⟨fun q => absurd q (by decide), fun _ => ⟨fun q => absurd q (by decide), fun _ => ⟨fun _ => h, fun q => absurd rfl q⟩⟩⟩⟩
  · exact ⟨fun q => absurd q (by decide), fun _ => ⟨fun q => absurd q (by decide), fun _ => ⟨fun q => absurd q (by decide), fun _ => ⟨fun q => absurd q (by decide), fun _ => ⟨fun _ => h, fun q => absurd rfl q⟩⟩⟩⟩⟩
  · exact ⟨fun q => absurd q (by decide), fun _ => ⟨fun q => absurd q (by decide), fun _ => ⟨fun q => absurd q (by decide), fun _ => ⟨fun q => absurd q (by decide), fun _ => ⟨fun q => absurd q (by decide), fun _ => ⟨fun _ => h, fun q => absurd rfl q⟩⟩⟩⟩⟩⟩
  · exact ⟨fun q => absurd q (by decide), fun _ => ⟨fun q => absurd q (by decide), fun _ => ⟨fun q => absurd q (by decide), fun _ => ⟨fun q => absurd q (by decide), fun _ => ⟨fun q => absurd q (by decide), fun _ => ⟨fun q => absurd q (by decide), fun _ => ⟨fun _ => u_belongersNow hu hI h, fun q => absurd rfl q⟩⟩⟩⟩⟩⟩⟩
  · exact ⟨fun q => absurd q (by decide), fun _ => ⟨fun q => absurd q (by decide), fun _ => ⟨fun q => absurd q (by decide), fun _ => ⟨fun q => absurd q (by decide), fun _ => ⟨fun q => absurd q (by decide), fun _ => ⟨fun q => absurd q (by decide), fun _ => ⟨fun q => absurd q (by decide), fun _ => ⟨fun _ => u_count_112 hu hI _ h (m 7) 0 (by omega), fun q => absurd rfl q⟩⟩⟩⟩⟩⟩⟩⟩
  · exact ⟨fun q => absurd q (by decide), fun _ => ⟨fun q => absurd q (by decide), fun _ => ⟨fun q => absurd q (by decide), fun _ => ⟨fun q => absurd q (by decide), fun _ => ⟨fun q => absurd q (by decide), fun _ => ⟨fun q => absurd q (by decide), fun _ => ⟨fun q => absurd q (by decide), fun _ => ⟨fun q => absurd q (by decide), fun _ => ⟨fun _ => u_count_159 _ h 6 0 rfl, fun q => absurd rfl q⟩⟩⟩⟩⟩⟩⟩⟩⟩
  · exact ⟨fun q => absurd q (by decide), fun _ => ⟨fun q => absurd q (by decide), fun _ => ⟨fun q => absurd q (by decide), fun _ => ⟨fun q => absurd q (by decide), fun _ => ⟨fun q => absurd q (by decide), fun _ => ⟨fun q => absurd q (by decide), fun _ => ⟨fun q => absurd q (by decide), fun _ => ⟨fun q => absurd q (by decide), fun _ => ⟨fun q => absurd q (by decide), fun _ => ⟨fun _ => u_count_192 _ h 4 0 rfl, fun q => absurd rfl q⟩⟩⟩⟩⟩⟩⟩⟩⟩⟩
  · exact ⟨fun q => absurd q (by decide), fun _ => ⟨fun q => absurd q (by decide), fun _ => ⟨fun q => absurd q (by decide), fun _ => ⟨fun q => absurd q (by decide), fun _ => ⟨fun q => absurd q (by decide), fun _ => ⟨fun q => absurd q (by decide), fun _ => ⟨fun q => absurd q (by decide), fun _ => ⟨fun q => absurd q (by decide), fun _ => ⟨fun q => absurd q (by decide), fun _ => ⟨fun q => absurd q (by decide), fun _ => ⟨fun _ => u_count_224 _ h 3 0 rfl, fun q => absurd rfl q⟩⟩⟩⟩⟩⟩⟩⟩⟩⟩⟩
theorem pm_count (hR : R S) (i : Int32) (h : ∀ r S', R S' → F r r S') : Ct G l mX4_count (d + 20) [.ref 0, .int i] S (QI (fun r T => Ct G l mX5_count (d + 20) [.ref 7, .int i] T (QI (fun r2 T2 => F r r2 T2)))) := by
  obtain ⟨m, hv, hu, hI⟩ := hR.nv
  rcases o_cases i 11 (by omega) with q | ⟨j, hj, rfl⟩
  · have hne : ∀ k, k < 11 → ¬ i = nI k := fun k hk e => n_bad q hk (by omega) e
    refine bX4_count_0 _ ⟨fun z => absurd z (hne 0 (by omega)), fun _ => ⟨fun z => absurd z (hne 1 (by omega)), fun _ => ⟨fun z => absurd z (hne 2 (by omega)), fun _ => ⟨fun z => absurd z (hne 3 (by omega)), fun _ => ⟨fun z => absurd z (hne 4 (by omega)), fun _ => ⟨fun z => absurd z (hne 5 (by omega)), fun _ => ⟨fun z => absurd z (hne 6 (by omega)), fun _ => ⟨fun z => absurd z (hne 7 (by omega)), fun _ => ⟨fun z => absurd z (hne 8 (by omega)), fun _ => ⟨fun z => absurd z (hne 9 (by omega)), fun _ => ⟨fun z => absurd z (hne 10 (by omega)), fun _ => ?_⟩⟩⟩⟩⟩⟩⟩⟩⟩⟩⟩
    exact bX5_count_0 _ ⟨fun z => absurd z (hne 0 (by omega)), fun _ => ⟨fun z => absurd z (hne 1 (by omega)), fun _ => ⟨fun z => absurd z (hne 2 (by omega)), fun _ => ⟨fun z => absurd z (hne 3 (by omega)), fun _ => ⟨fun z => absurd z (hne 4 (by omega)), fun _ => ⟨fun z => absurd z (hne 5 (by omega)), fun _ => ⟨fun z => absurd z (hne 6 (by omega)), fun _ => ⟨fun z => absurd z (hne 7 (by omega)), fun _ => ⟨fun z => absurd z (hne 8 (by omega)), fun _ => ⟨fun z => absurd z (hne 9 (by omega)), fun _ => ⟨fun z => absurd z (hne 10 (by omega)), fun _ => h _ _ hR⟩⟩⟩⟩⟩⟩⟩⟩⟩⟩⟩
  · exact t_count hR hv hI hj (u_count hu hI hj (h _ _ hR))
end pub5
