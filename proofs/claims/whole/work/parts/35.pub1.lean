/-! rows and texts -/
section pub1
variable {G : Gl} {l : Launch} {d : Nat} {S : Sg} {P : Int32 → Sg → Prop}
theorem t_isMissing {k : Nat} (hk : RowAt k) (h0 : nI 0 ≤ S.1 k 1 → P (nI 0) S) (h1 : ¬ nI 0 ≤ S.1 k 1 → P (nI 1) S) : Ct G l mX3_isMissing (d + 1) [.ref k] S (QI P) := by
  refine bX3_isMissing_0 k hk (fun x ex => ?_)
  by_cases q : nI 0 ≤ S.1 k 1
  · rw [if_pos q] at ex
    rw [ex]; exact h0 q
  · rw [if_neg q] at ex
    rw [ex]; exact h1 q
theorem t_hasPlace {k : Nat} (hk : RowAt k) (i : Int32) (h0 : (i < nI 0 ∨ S.1 k 1 ≤ i) → P (nI 0) S) (h1 : ¬ i < nI 0 → ¬ S.1 k 1 ≤ i → P (nI 1) S) : Ct G l mX3_hasPlace (d + 1) [.ref k, .int i] S (QI P) := by
  refine bX3_hasPlace_0 k hk _ (fun x ex => ?_)
  by_cases q : i < nI 0
  · rw [if_pos q] at ex
    rw [ex]; exact h0 (Or.inl q)
  · rw [if_neg q] at ex
    by_cases q2 : S.1 k 1 ≤ i
    · rw [if_pos q2] at ex
      rw [ex]; exact h0 (Or.inr q2)
    · rw [if_neg q2] at ex
      rw [ex]; exact h1 q q2
theorem shelf_ln {F : Nat} (hF : ShelfAt F) : ln F ≤ 6 ∧ 0 < ln F := by rcases hF with rfl | rfl <;> decide
theorem t_refuseMissing {F : Nat} (hF : ShelfAt F) (i : Int32) (hbad : (i < nI 0 ∨ nI (ln F) ≤ i) → P (-1) S) (hmiss : ∀ j, j < ln F → i = nI j → ¬ nI 0 ≤ S.1 (rf F j) 1 → P (-3) (fdD S 1)) (hok : ∀ j, j < ln F → i = nI j → nI 0 ≤ S.1 (rf F j) 1 → P (nI 0) S) : Ct G l mX4_refuseMissing (d + 2) [.ref 0, .ref F, .int i] S (QI P) := by
  have hl := shelf_ln hF
  refine bX4_refuseMissing_0 F hF _ ⟨fun q => hbad (Or.inl q), fun q => ⟨fun q2 => ?_, fun q2 => hbad (Or.inr (z_nlt.mp q2))⟩⟩
  obtain ⟨j, hj, rfl⟩ := z_ofx (z_nlt.mp q)
  rw [z_lt hj (by omega)] at q2
  have hx := ix_nI (n := j) (len := ln F) q2 (by omega)
  refine ⟨j, hx, t_isMissing (ra_F hF hx) (fun g => ⟨fun _ => hok j q2 rfl g, fun z => absurd rfl z⟩) (fun g => ⟨fun z => absurd z (by decide), fun _ => t_refuse (by omega) (hmiss j q2 rfl g)⟩)⟩
theorem t_refusePlace {F : Nat} (hF : ShelfAt F) (i i2 : Int32) (hbad : (i < nI 0 ∨ nI (ln F) ≤ i) → P (-1) S) (hmiss : ∀ j, j < ln F → i = nI j → ¬ nI 0 ≤ S.1 (rf F j) 1 → P (-3) (fdD S 1))
    (hbey : ∀ j, j < ln F → i = nI j → nI 0 ≤ S.1 (rf F j) 1 → (i2 < nI 0 ∨ S.1 (rf F j) 1 ≤ i2) → P (-3) (fdD S 2)) (hok : ∀ j, j < ln F → i = nI j → nI 0 ≤ S.1 (rf F j) 1 → ¬ i2 < nI 0 → ¬ S.1 (rf F j) 1 ≤ i2 → P (nI 0) S) : Ct G l mX4_refusePlace (d + 3) [.ref 0, .ref F, .int i, .int i2] S (QI P) := by
  have hl := shelf_ln hF
  refine bX4_refusePlace_0 F hF _ _ (t_refuseMissing hF i (fun q => ⟨fun z => absurd z (by decide), fun _ => hbad q⟩) (fun j hj e q => ⟨fun z => absurd z (by decide), fun _ => hmiss j hj e q⟩) (fun j hj e q => ⟨fun _ => ?_, fun z => absurd rfl z⟩))
  subst e
  have hx := ix_nI (n := j) (len := ln F) hj (by omega)
  exact ⟨j, hx, t_hasPlace (ra_F hF hx) i2 (fun z => ⟨fun _ => t_refuse (by omega) (hbey j hj rfl q z), fun y => absurd rfl y⟩) (fun z1 z2 => ⟨fun y => absurd y (by decide), fun _ => hok j hj rfl q z1 z2⟩)⟩
/-- a size, and what is not above it less 1 -/
theorem u_inS (i s : Int32) (hs : ∃ n, n ≤ 60 ∧ s = nI n) (h0 : (i < nI 0 ∨ s ≤ i) → P (nI 0) S) (h1 : ¬ i < nI 0 → ¬ s ≤ i → P (nI 1) S) : Ct G l mX5_in (d + 1) [.int i, .int (nI 0), .int (s - nI 1)] S (QI P) := by
  obtain ⟨n, hn, rfl⟩ := hs
  refine u_in _ _ _ ?_
  by_cases q : i < nI 0
  · rw [decide_eq_false (fun z => z.1 q)]
    exact h0 (Or.inl q)
  · by_cases q2 : nI n ≤ i
    · rw [decide_eq_false (fun z => (z_npred i (by omega) q).mp z.2 q2)]
      exact h0 (Or.inr q2)
    · rw [decide_eq_true ⟨q, (z_npred i (by omega) q).mpr q2⟩]
      exact h1 q q2
theorem RR.sz {x : Nat} (h : RR S x) : (S.1 88 x = -1 ∧ ¬ nI 0 ≤ S.1 88 x) ∨ ∃ n, n ≤ 40 ∧ S.1 88 x = nI n ∧ nI 0 ≤ S.1 88 x ∧ ∀ i, i < n → S.1 (18 + x) i = S.1 89 (40 * x + i) := by
  rcases h.2 with h | ⟨n, h1, h2, h3⟩
  · exact Or.inl ⟨h, by rw [h]; decide⟩
  · exact Or.inr ⟨n, h1, h2, by rw [h2, z_le (by omega) (by omega)]; omega, h3⟩
theorem RT.sz {x : Nat} (h : RT S x) : (S.1 91 x = -1 ∧ ¬ nI 0 ≤ S.1 91 x) ∨ ∃ n, n ≤ 60 ∧ S.1 91 x = nI n ∧ nI 0 ≤ S.1 91 x ∧ ∀ i, i < n → S.1 (24 + x) i = S.1 92 (60 * x + i) := by
  rcases h.2 with h | ⟨n, h1, h2, h3⟩
  · exact Or.inl ⟨h, by rw [h]; decide⟩
  · exact Or.inr ⟨n, h1, h2, by rw [h2, z_le (by omega) (by omega)]; omega, h3⟩
theorem z_row (c j i : Nat) : nI c * nI j + nI i = nI (c * j + i) := by rw [z_mul, z_add]
theorem fdD_88 (f k : Nat) (h : k ≠ 0 ∧ k ≠ 6) : (fdD S f).1 k = S.1 k := by
  show u2 (u2 S.1 0 8 (nI f)) 6 f (S.1 6 f + nI 1) k = _
  rw [u2_o _ h.2, u2_o _ h.1]
variable {F : Int32 → Int32 → Sg → Prop}
theorem R.szs (h : R S) : ∀ j, j < 6 → nI 0 ≤ S.1 88 j → ∃ n, n ≤ 40 ∧ S.1 88 j = nI n := by
  intro j hj q
  rcases (h.1 j hj).sz with ⟨-, z⟩ | ⟨n, h1, h2, -⟩
  · exact absurd q z
  · exact ⟨n, h1, h2⟩
theorem R.szt (h : R S) : ∀ j, j < 4 → nI 0 ≤ S.1 91 j → ∃ n, n ≤ 60 ∧ S.1 91 j = nI n := by
  intro j hj q
  rcases (h.2.1 j hj).sz with ⟨-, z⟩ | ⟨n, h1, h2, -⟩
  · exact absurd q z
  · exact ⟨n, h1, h2⟩
theorem n_bad {i : Int32} {j n : Nat} (hb : i < nI 0 ∨ nI n ≤ i) (hj : j < n) (hn : n < 1000) (e : i = nI j) : False := by
  subst e
  rcases hb with q | q
  · rw [z_lt (by omega) (by omega)] at q; omega
  · rw [z_le (by omega) (by omega)] at q; omega
theorem n_m1 : ¬ nI 0 ≤ (-1 : Int32) := by decide
theorem n_le {n : Nat} (h : n < 1000) : nI 0 ≤ nI n := by rw [z_le (by omega) (by omega)]; omega
theorem n_in {i : Nat} (hi : i < 1000) : ¬ nI i < nI 0 := by rw [z_lt (by omega) (by omega)]; omega
theorem n_nle {i n : Nat} (hi : i < n) (hn : n < 1000) : ¬ nI n ≤ nI i := by rw [z_le (by omega) (by omega)]; omega
section rp
variable {K : Nat}
theorem t_rm_bad (hF : ShelfAt K) {i : Int32} (hb : i < nI 0 ∨ nI (ln K) ≤ i) (h : P (-1) S) : Ct G l mX4_refuseMissing (d + 2) [.ref 0, .ref K, .int i] S (QI P) := by
  have hl := shelf_ln hF
  exact t_refuseMissing hF i (fun _ => h) (fun j hj e _ => (n_bad hb hj (by omega) e).elim) (fun j hj e _ => (n_bad hb hj (by omega) e).elim)
theorem t_rm_miss (hF : ShelfAt K) {j : Nat} (hj : j < ln K) (hs : S.1 (rf K j) 1 = -1) (h : P (-3) (fdD S 1)) : Ct G l mX4_refuseMissing (d + 2) [.ref 0, .ref K, .int (nI j)] S (QI P) := by
  have hl := shelf_ln hF
  refine t_refuseMissing hF _ (fun q => (n_bad q hj (by omega) rfl).elim) (fun _ _ _ _ => h) (fun j2 hj2 e q => ?_)
  rw [z_eq (by omega) (by omega)] at e
  subst e
  rw [hs] at q
  exact absurd q n_m1
theorem t_rm_ok (hF : ShelfAt K) {j n : Nat} (hj : j < ln K) (hn : n ≤ 60) (hs : S.1 (rf K j) 1 = nI n) (h : P (nI 0) S) : Ct G l mX4_refuseMissing (d + 2) [.ref 0, .ref K, .int (nI j)] S (QI P) := by
  have hl := shelf_ln hF
  refine t_refuseMissing hF _ (fun q => (n_bad q hj (by omega) rfl).elim) (fun j2 hj2 e q => ?_) (fun _ _ _ _ => h)
  rw [z_eq (by omega) (by omega)] at e
  subst e
  rw [hs] at q
  exact absurd (n_le (by omega)) q
theorem t_rp_bad (hF : ShelfAt K) {i : Int32} (i2 : Int32) (hb : i < nI 0 ∨ nI (ln K) ≤ i) (h : P (-1) S) : Ct G l mX4_refusePlace (d + 3) [.ref 0, .ref K, .int i, .int i2] S (QI P) := by
  have hl := shelf_ln hF
  exact t_refusePlace hF i i2 (fun _ => h) (fun j hj e _ => (n_bad hb hj (by omega) e).elim) (fun j hj e _ _ => (n_bad hb hj (by omega) e).elim) (fun j hj e _ _ _ => (n_bad hb hj (by omega) e).elim)
theorem t_rp_miss (hF : ShelfAt K) {j : Nat} (i2 : Int32) (hj : j < ln K) (hs : S.1 (rf K j) 1 = -1) (h : P (-3) (fdD S 1)) : Ct G l mX4_refusePlace (d + 3) [.ref 0, .ref K, .int (nI j), .int i2] S (QI P) := by
  have hl := shelf_ln hF
  refine t_refusePlace hF _ i2 (fun q => (n_bad q hj (by omega) rfl).elim) (fun _ _ _ _ => h) (fun j2 hj2 e q _ => ?_) (fun j2 hj2 e q _ _ => ?_)
  all_goals
    rw [z_eq (by omega) (by omega)] at e
    subst e
    rw [hs] at q
    exact absurd q n_m1
theorem t_rp_bey (hF : ShelfAt K) {j n : Nat} {i2 : Int32} (hj : j < ln K) (hn : n ≤ 60) (hs : S.1 (rf K j) 1 = nI n) (hb : i2 < nI 0 ∨ nI n ≤ i2) (h : P (-3) (fdD S 2)) : Ct G l mX4_refusePlace (d + 3) [.ref 0, .ref K, .int (nI j), .int i2] S (QI P) := by
  have hl := shelf_ln hF
  refine t_refusePlace hF _ i2 (fun q => (n_bad q hj (by omega) rfl).elim) (fun j2 hj2 e q => ?_) (fun _ _ _ _ _ => h) (fun j2 hj2 e q q2 q3 => ?_)
  all_goals
    rw [z_eq (by omega) (by omega)] at e
    subst e
  · rw [hs] at q
    exact absurd (n_le (by omega)) q
  · rw [hs] at q3
    exact (hb.elim q2 q3).elim
theorem t_rp_ok (hF : ShelfAt K) {j n i : Nat} (hj : j < ln K) (hn : n ≤ 60) (hs : S.1 (rf K j) 1 = nI n) (hi : i < n) (h : P (nI 0) S) : Ct G l mX4_refusePlace (d + 3) [.ref 0, .ref K, .int (nI j), .int (nI i)] S (QI P) := by
  have hl := shelf_ln hF
  refine t_refusePlace hF _ _ (fun q => (n_bad q hj (by omega) rfl).elim) (fun j2 hj2 e q => ?_) (fun j2 hj2 e q q2 => ?_) (fun _ _ _ _ _ _ => h)
  all_goals
    rw [z_eq (by omega) (by omega)] at e
    subst e
  · rw [hs] at q
    exact absurd (n_le (by omega)) q
  · rw [hs] at q2
    exact (n_bad q2 hi (by omega) rfl).elim
theorem u_at_bad {i : Int32} (i2 : Int32) (hb : i < nI 0 ∨ nI 6 ≤ i) (h : P (-1) S) : Ct G l mX5_at (d + 3) [.ref 7, .int i, .int i2] S (QI P) := by
  refine bX5_at_0 _ _ (u_isRow _ ?_)
  rw [b2n_n hb]
  exact ⟨fun z => absurd rfl z, fun _ => h⟩
theorem u_at_miss {j : Nat} (i2 : Int32) (hj : j < 6) (hs : S.1 88 j = -1) (h : P (-3) (fdM S 1)) : Ct G l mX5_at (d + 3) [.ref 7, .int (nI j), .int i2] S (QI P) := by
  refine bX5_at_0 _ _ (u_isRow _ ?_)
  rw [b2n_y hj (by omega)]
  refine ⟨fun _ => ⟨j, ix_nI hj (by omega), fun q => ?_, fun q => u_finds (by omega) h⟩, fun z => absurd z (by decide)⟩
  rw [hs] at q
  exact absurd q n_m1
theorem u_at_bey {j n : Nat} {i2 : Int32} (hj : j < 6) (hn : n ≤ 60) (hs : S.1 88 j = nI n) (hb : i2 < nI 0 ∨ nI n ≤ i2) (h : P (-3) (fdM S 2)) : Ct G l mX5_at (d + 3) [.ref 7, .int (nI j), .int i2] S (QI P) := by
  refine bX5_at_0 _ _ (u_isRow _ ?_)
  rw [b2n_y hj (by omega)]
  refine ⟨fun _ => ⟨j, ix_nI hj (by omega), fun q => ?_, fun q => ?_⟩, fun z => absurd z (by decide)⟩
  · rw [hs]
    refine u_inS i2 _ ⟨n, hn, rfl⟩ (fun _ => ⟨fun _ => u_finds (by omega) h, fun y => absurd rfl y⟩) (fun z1 z2 => (hb.elim z1 z2).elim)
  · rw [hs] at q
    exact absurd (n_le (by omega)) q
theorem u_at_ok {j n i : Nat} (hj : j < 6) (hn : n ≤ 40) (hs : S.1 88 j = nI n) (hi : i < n) (h : P (nI 1) (u2 S.1 7 11 (S.1 89 (40 * j + i)), S.2)) : Ct G l mX5_at (d + 3) [.ref 7, .int (nI j), .int (nI i)] S (QI P) := by
  refine bX5_at_0 _ _ (u_isRow _ ?_)
  rw [b2n_y hj (by omega)]
  refine ⟨fun _ => ⟨j, ix_nI hj (by omega), fun q => ?_, fun q => ?_⟩, fun z => absurd z (by decide)⟩
  · rw [hs]
    refine u_inS _ _ ⟨n, by omega, rfl⟩ (fun z => (n_bad z hi (by omega) rfl).elim) (fun z1 z2 => ⟨fun y => absurd y (by decide), fun _ => ⟨40 * j + i, ix_i (z_row 40 j i) (by omega) (by omega), u_tells _ _ h⟩⟩)
  · rw [hs] at q
    exact absurd (n_le (by omega)) q
end rp
theorem sh1 : ShelfAt 1 := Or.inl rfl
theorem sh2 : ShelfAt 2 := Or.inr rfl
theorem ln_row {j : Nat} (h : j < 6) : ln (8 + j + 10) = 40 := by
  unfold ln
  rw [if_neg (by omega), if_pos (by omega)]
theorem ln_txt {j : Nat} (h : j < 4) : ln (14 + j + 10) = 60 := by
  unfold ln
  rw [if_neg (by omega), if_neg (by omega), if_pos (by omega)]
theorem o_cases (i : Int32) (n : Nat) (hn : n < 1000) : (i < nI 0 ∨ nI n ≤ i) ∨ ∃ j, j < n ∧ i = nI j := by
  rcases z_cases i n (by omega) with q | q | q
  · exact Or.inl (Or.inl q)
  · exact Or.inl (Or.inr q)
  · exact Or.inr q
theorem pm_at (hR : R S) (i1 i2 : Int32) (h : ∀ r S', R S' → F r r S') : Ct G l mX4_at (d + 20) [.ref 0, .int i1, .int i2] S (QI (fun r T => Ct G l mX5_at (d + 20) [.ref 7, .int i1, .int i2] T (QI (fun r2 T2 => F r r2 T2)))) := by
  refine bX4_at_0 _ _ ?_
  rcases o_cases i1 6 (by omega) with q | ⟨j, hj, rfl⟩
  · exact t_rp_bad sh1 i2 q ⟨fun z => absurd z (by decide), fun _ => u_at_bad i2 q (h _ _ hR)⟩
  have hr := hR.1 j hj
  have e1 : S.1 (rf 1 j) 1 = S.1 88 j := hr.1
  rcases hr.sz with ⟨z, -⟩ | ⟨n, hn, en, -, hc⟩
  · exact t_rp_miss sh1 i2 hj (e1.trans z) ⟨fun z => absurd z (by decide), fun _ => u_at_miss i2 hj (by rw [fdD_88 1 88 (by omega)]; exact z) (h _ _ (hR.found (by omega)))⟩
  rcases o_cases i2 n (by omega) with q | ⟨i, hi, rfl⟩
  · exact t_rp_bey sh1 hj (by omega) (e1.trans en) q ⟨fun z => absurd z (by decide), fun _ => u_at_bey hj (n := n) (by omega) (by rw [fdD_88 2 88 (by omega)]; exact en) q (h _ _ (hR.found (by omega)))⟩
  · refine t_rp_ok sh1 hj (by omega) (e1.trans en) hi ⟨fun _ => ⟨j, ix_nI hj (by omega), i, ix_nI (by rw [ln_row hj]; omega) (by rw [ln_row hj]; omega), fun S1 e1 => ?_⟩, fun z => absurd rfl z⟩
    subst e1
    rw [show 8 + j + 10 = 18 + j by omega, hc i hi]
    have e88 : u2 S.1 0 9 (S.1 89 (40 * j + i)) 88 = S.1 88 := u2_o _ (by omega)
    have e89 : u2 S.1 0 9 (S.1 89 (40 * j + i)) 89 = S.1 89 := u2_o _ (by omega)
    refine u_at_ok hj hn (by show u2 S.1 0 9 (S.1 89 (40 * j + i)) 88 j = _; rw [e88]; exact en) hi ?_
    show F (nI 1) (nI 1) (u2 (u2 S.1 0 9 (S.1 89 (40 * j + i))) 7 11 (u2 S.1 0 9 (S.1 89 (40 * j + i)) 89 (40 * j + i)), S.2)
    rw [e89]
    exact h _ _ (hR.asked _)
end pub1
