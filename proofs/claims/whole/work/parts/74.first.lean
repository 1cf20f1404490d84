/-! the first state: what the constructors leave, by places -/
def pi (k : Nat) : Nat := if k < 8 then (if k < 3 then k else if k = 3 then 15 else if k = 7 then 87 else 24 + k) else if k < 18 then 15 + 2 * k else if k < 28 then 2 * k - 4 else if k < 40 then k - 25 else if k < 52 then k - 24 else if k < 88 then k - 1 else k
theorem pi_lt : ∀ k, k < 104 → pi k < 104 := by decide +kernel
def ip (i : Nat) : Nat := ((List.range 104).find? (fun k => pi k == i)).getD 0
theorem ip_pi : ∀ k, k < 104 → ip (pi k) = k := by decide +kernel
theorem pi_inj {i j : Nat} (hi : i < 104) (hj : j < 104) (h : pi i = pi j) : i = j := by
  rw [← ip_pi i hi, h, ip_pi j hj]
theorem pi_row {k : Nat} (h1 : 8 ≤ k) (h2 : k < 18) : pi k = 15 + 2 * k := by
  unfold pi
  rw [if_neg (by omega), if_pos h2]
theorem pi_rowa {k : Nat} (h1 : 18 ≤ k) (h2 : k < 28) : pi k = 2 * k - 4 := by
  unfold pi
  rw [if_neg (by omega), if_neg (by omega), if_pos h2]
theorem pi_land {k : Nat} (h1 : 28 ≤ k) (h2 : k < 40) : pi k = k - 25 := by
  unfold pi
  rw [if_neg (by omega), if_neg (by omega), if_neg (by omega), if_pos h2]
theorem pi_draft {k : Nat} (h1 : 40 ≤ k) (h2 : k < 52) : pi k = k - 24 := by
  unfold pi
  rw [if_neg (by omega), if_neg (by omega), if_neg (by omega), if_neg (by omega), if_pos h2]
theorem pi_kept {k : Nat} (h1 : 52 ≤ k) (h2 : k < 88) : pi k = k - 1 := by
  unfold pi
  rw [if_neg (by omega), if_neg (by omega), if_neg (by omega), if_neg (by omega), if_neg (by omega), if_pos h2]
theorem pi_mod {k : Nat} (h1 : 88 ≤ k) : pi k = k := by
  unfold pi
  rw [if_neg (by omega), if_neg (by omega), if_neg (by omega), if_neg (by omega), if_neg (by omega), if_neg (by omega)]
def S0 : Sg := (fun k i => if (k = 88 ∧ i < 6) ∨ (k = 91 ∧ i < 4) ∨ (8 ≤ k ∧ k < 18 ∧ i = 1) then -1 else 0, fun k i => if (k = 0 ∧ i = 11) ∨ (k = 7 ∧ i = 13) then 1 else 0)
theorem S0_z {k i : Nat} (h : ¬ ((k = 88 ∧ i < 6) ∨ (k = 91 ∧ i < 4) ∨ (8 ≤ k ∧ k < 18 ∧ i = 1))) : S0.1 k i = 0 := if_neg h
theorem S0_m {k i : Nat} (h : (k = 88 ∧ i < 6) ∨ (k = 91 ∧ i < 4) ∨ (8 ≤ k ∧ k < 18 ∧ i = 1)) : S0.1 k i = -1 := if_pos h
theorem S0_2z {k i : Nat} (h : ¬ ((k = 0 ∧ i = 11) ∨ (k = 7 ∧ i = 13))) : S0.2 k i = 0 := if_neg h
theorem S0_2o {k i : Nat} (h : (k = 0 ∧ i = 11) ∨ (k = 7 ∧ i = 13)) : S0.2 k i = 1 := if_pos h
theorem S0_f {k : Nat} (h : k ≠ 88 ∧ k ≠ 91 ∧ ¬ (8 ≤ k ∧ k < 18)) : S0.1 k = fun _ => 0 := by
  funext i
  exact S0_z (by omega)
theorem IV_0 : IV (fun _ => 0) := by
  refine ⟨?_, fun i hi => ?_⟩
  · unfold IVh
    simp
  · unfold IVp
    simp
theorem R_0 : R S0 := by
  refine ⟨fun x hx => ?_, fun y hy => ?_, ⟨?_, fun f h1 h2 => ?_⟩, ?_, ⟨?_, ?_⟩, ?_, fun k hk => Or.inl ⟨?_, ?_⟩⟩
  · have e : S0.1 88 x = -1 := S0_m (by omega)
    exact ⟨by rw [e]; exact S0_m (by omega), Or.inl e⟩
  · have e : S0.1 91 y = -1 := S0_m (by omega)
    exact ⟨by rw [e]; exact S0_m (by omega), Or.inl e⟩
  · rw [S0_z (by omega), S0_z (by omega)]
  · rw [S0_z (by omega), S0_z (by omega)]
  · show S0.1 0 9 = S0.1 7 11
    rw [S0_z (by omega), S0_z (by omega)]
  · rw [S0_2z (by omega), S0_2z (by omega)]
  · rw [S0_2o (by omega), S0_2o (by omega)]
  · refine ⟨fun _ _ => 0, 0, ⟨by omega, fun d hd => ⟨IV_0, show 0 = d by omega⟩, fun _ _ _ _ _ => rfl⟩, ⟨⟨?_, fun i hi => absurd hi (Nat.not_lt_zero i)⟩, fun d hd => absurd hd (Nat.not_lt_zero d)⟩, fun k hk => ?_, fun d hd => absurd hd (Nat.not_lt_zero d)⟩
    · unfold LVh
      simp (disch := omega) only [S0_z, nI_z, and_self]
    · rw [S0_z (by omega), nI_z]
  · rw [S0_z (by omega), nI_z]
  · rw [S0_z (by omega), nI_z]
/-- the same cell, its array's slots past the end aside -/
theorem at_ra {D : Nv} {cl : List vw_C} {q t N : Nat} {r r' : Nat → Option Nat} {H : Heap} (h : va_at D.1 cl (q, ra D t N r) H) (hr : ∀ j, j < N → r j = r' j) : va_at D.1 cl (q, ra D t N r') H := by
  have h' : H[q]? = some (arrV (D.2 t) N (fun j => va_rf (r j))) := h
  show H[q]? = some (arrV (D.2 t) N (fun j => va_rf (r' j)))
  rw [h']
  unfold arrV
  congr 2
  apply Array.ext
  · simp
  · intro j h1 h2
    simp only [Array.getElem_ofFn]
    rw [hr j (by simpa using h1)]
def GF (D : Nv) (F : Fw) (t b L : Nat) (xs : Nat → Int32) : Gl := (((D.1, fun k => if k = 200 then t else if k = 201 then b else (F (pi k)).1), D.2), (L, xs))
section first
variable {D : Nv} {F : Fw} {t b L : Nat} {xs : Nat → Int32}
theorem GF_a {k : Nat} (h : k < 104) : gA (GF D F t b L xs) k = (F (pi k)).1 := by
  show (if k = 200 then t else if k = 201 then b else (F (pi k)).1) = _
  rw [if_neg (by omega), if_neg (by omega)]
theorem GF_l {k i : Nat} (h : k < 104) (hr : rf k i < 104) (h2 : fk (kd k) i = 2) : vlu (GF D F t b L xs) S0 k i = .ref (F (pi (rf k i))).1 := by
  unfold vlu
  rw [h2, if_neg (by omega), if_neg (by omega), GF_a hr]
theorem vlu_i {G : Gl} {S : Sg} {k i : Nat} (h2 : fk (kd k) i = 0) : vlu G S k i = .int (S.1 k i) := if_pos h2
theorem vlu_l {G : Gl} {S : Sg} {k i : Nat} (h2 : fk (kd k) i = 1) : vlu G S k i = .long (S.2 k i) := by
  unfold vlu
  rw [h2, if_neg (by omega), if_pos rfl]
theorem ent_o {G : Gl} {S : Sg} {k c : Nat} (h : kd k = c) (hc : c < 6) : ent G S k = ob c (vlu G S k) := by
  unfold ent
  rw [h, if_pos hc]
  rfl
theorem ent_a {k : Nat} (h : kd k = 10) : ent (GF D F t b L xs) S0 k = ia D (ln k) (S0.1 k) := by
  unfold ent
  rw [h]
  rfl
theorem kd_row {k : Nat} (h1 : 8 ≤ k) (h2 : k < 18) : kd k = 3 := by
  unfold kd
  rw [if_neg (by omega), if_pos h2]
theorem kd_rowa {k : Nat} (h1 : 18 ≤ k) (h2 : k < 28) : kd k = 10 := by
  unfold kd
  rw [if_neg (by omega), if_neg (by omega), if_pos h2]
theorem kd_ld {k : Nat} (h1 : 28 ≤ k) (h2 : k < 88) : kd k = if (k - 28) % 12 = 0 then 1 else if (k - 28) % 12 = 6 then 0 else 10 := by
  unfold kd
  rw [if_neg (by omega), if_neg (by omega), if_neg (by omega), if_pos h2]
theorem rf_ld {k i : Nat} (h1 : 28 ≤ k) : rf k i = if (k - 28) % 12 = 0 then k + (i - 8) else k + (i + 1) := by
  unfold rf
  rw [if_neg (by omega), if_neg (by omega)]
theorem ln_ld {k : Nat} (h1 : 28 ≤ k) (h2 : k < 88) : ln k = if (k - 28) % 12 < 6 then 6 else 40 := by
  unfold ln
  rw [if_neg (by omega), if_neg (by omega), if_neg (by omega), if_pos h2]
/-- a LAND of twelve places -/
theorem ent_land {p m : Nat} (hp : 28 ≤ p ∧ p + 12 ≤ 88 ∧ (p - 28) % 12 = 0) (hpi : ∀ j, j < 12 → pi (p + j) = m + j) (h : LdF D F m (m + 1)) : ∀ j, j < 12 → (F (pi (p + j))).2 = ent (GF D F t b L xs) S0 (p + j) := by
  obtain ⟨hp1, hp2, hp3⟩ := hp
  intro j hj
  rw [hpi j hj]
  rcases (show j = 0 ∨ j = 6 ∨ (0 < j ∧ j < 6) ∨ 6 < j by omega) with rfl | rfl | q | q
  · have hk : kd (p + 0) = 1 := by rw [kd_ld (by omega) (by omega), if_pos (by omega)]
    rw [ent_o hk (by omega)]
    refine h.1.trans (ob_ext fun i hi => ?_)
    have hi : i < 15 := hi
    by_cases z : i < 9
    · rw [if_pos z, vlu_i (by rw [hk]; exact if_pos z), S0_z (by omega)]
    · have e : rf (p + 0) i = p + (i - 8) := by rw [rf_ld (by omega), if_pos (by omega)]; omega
      rw [if_neg z, GF_l (by omega) (by omega) (by rw [hk]; exact if_neg z), e, hpi _ (by omega), show m + 1 + (i - 9) = m + (i - 8) by omega]
  · have hk : kd (p + 6) = 0 := by rw [kd_ld (by omega) (by omega), if_neg (by omega), if_pos (by omega)]
    rw [ent_o hk (by omega)]
    refine h.2.2.1.trans (ob_ext fun i hi => ?_)
    have hi : i < 6 := hi
    by_cases z : i < 5
    · have e : rf (p + 6) i = p + (7 + i) := by rw [rf_ld (by omega), if_neg (by omega)]; omega
      rw [if_pos z, GF_l (by omega) (by omega) (by rw [hk]; exact if_pos z), e, hpi _ (by omega), show m + 1 + 6 + i = m + (7 + i) by omega]
    · rw [if_neg z, vlu_i (by rw [hk]; exact if_neg z), S0_z (by omega)]
  · have hk : kd (p + j) = 10 := by rw [kd_ld (by omega) (by omega), if_neg (by omega), if_neg (by omega)]
    rw [ent_a hk, ln_ld (by omega) (by omega), if_pos (by omega), S0_f (by omega), ← h.2.1 (j - 1) (by omega), show m + 1 + (j - 1) = m + j by omega]
  · have hk : kd (p + j) = 10 := by rw [kd_ld (by omega) (by omega), if_neg (by omega), if_neg (by omega)]
    rw [ent_a hk, ln_ld (by omega) (by omega), if_neg (by omega), S0_f (by omega), ← h.2.2.2 (j - 7) (by omega), show m + 1 + 6 + (j - 7) = m + j by omega]
/-- Rows, ten of them over one run of places -/
theorem ent_row {k : Nat} (h1 : 8 ≤ k) (h2 : k < 18) (h : (F (15 + 2 * k)).2 = ob 3 (fun i => if i = 0 then .ref (F (15 + 2 * k + 1)).1 else .int (-1))) : (F (pi k)).2 = ent (GF D F t b L xs) S0 k := by
  have hk := kd_row h1 h2
  rw [pi_row h1 h2, ent_o hk (by omega)]
  refine h.trans (ob_ext fun i hi => ?_)
  have hi : i < 2 := hi
  by_cases z : i = 0
  · have e : rf k i = k + 10 := by
      unfold rf
      rw [if_neg (by omega), if_pos h2]
    rw [if_pos z, GF_l (by omega) (by omega) (by rw [hk]; exact if_pos z), e, pi_rowa (by omega) (by omega), show 2 * (k + 10) - 4 = 15 + 2 * k + 1 by omega]
  · rw [if_neg z, vlu_i (by rw [hk]; exact if_neg z), S0_m (by omega)]
theorem ent_rowa {k len : Nat} (h1 : 18 ≤ k) (h2 : k < 28) (hl : ln k = len) (h : (F (2 * k - 4)).2 = ia D len (fun _ => 0)) : (F (pi k)).2 = ent (GF D F t b L xs) S0 k := by
  rw [pi_rowa h1 h2, ent_a (kd_rowa h1 h2), hl, S0_f (by omega)]
  exact h
theorem ent_mod {j : Nat} (hj : j < 16) (h : (F (88 + j)).2 = .inl (D.2 (if j = 8 then 1 else 0), (ln (88 + j), .inl (fun a => if j = 0 ∧ a < 6 ∨ j = 3 ∧ a < 4 then -1 else 0)))) : (F (pi (88 + j))).2 = ent (GF D F t b L xs) S0 (88 + j) := by
  rw [pi_mod (by omega)]
  have e : S0.1 (88 + j) = fun a => if j = 0 ∧ a < 6 ∨ j = 3 ∧ a < 4 then -1 else 0 := by
    funext a
    by_cases z : j = 0 ∧ a < 6 ∨ j = 3 ∧ a < 4
    · rw [if_pos z, S0_m (by omega)]
    · rw [if_neg z, S0_z (by omega)]
  by_cases z : j = 8
  · subst z
    have hk : kd (88 + 8) = 11 := rfl
    unfold ent
    rw [hk, e]
    exact h
  · have hk : kd (88 + j) = 10 := by
      unfold kd
      rw [if_neg (by omega), if_neg (by omega), if_neg (by omega), if_neg (by omega), if_neg (by omega), if_pos (by omega)]
    rw [if_neg z] at h
    rw [ent_a hk, e]
    exact h
theorem ent_model (h : (F 87).2 = ob 5 (fun j => if j < 10 then .ref (F (88 + j)).1 else if j < 12 then .int 0 else if j = 12 then .long 0 else if j = 13 then .long 1 else if j < 20 then .ref (F (88 + (j - 4))).1 else .int 0)) : (F (pi 7)).2 = ent (GF D F t b L xs) S0 7 := by
  rw [ent_o (c := 5) rfl (by omega)]
  refine h.trans (ob_ext fun i hi => ?_)
  have hi : i < 22 := hi
  have e1 : i < 10 → rf 7 i = 88 + i := fun z => if_pos z
  have e2 : ¬ i < 10 → rf 7 i = 84 + i := fun z => if_neg z
  have f1 : i < 10 → fk (kd 7) i = 2 := fun z => if_pos z
  have f2 : ¬ i < 10 → i < 12 → fk (kd 7) i = 0 := fun z z2 => (if_neg z).trans (if_pos z2)
  have f4 : ¬ i < 10 → ¬ i < 12 → ¬ i < 14 → i < 20 → fk (kd 7) i = 2 := fun z z2 z3 z4 => (if_neg z).trans ((if_neg z2).trans ((if_neg z3).trans (if_pos z4)))
  have f5 : ¬ i < 10 → ¬ i < 12 → ¬ i < 14 → ¬ i < 20 → fk (kd 7) i = 0 := fun z z2 z3 z4 => (if_neg z).trans ((if_neg z2).trans ((if_neg z3).trans (if_neg z4)))
  rcases (show i < 10 ∨ (10 ≤ i ∧ i < 12) ∨ i = 12 ∨ i = 13 ∨ (14 ≤ i ∧ i < 20) ∨ 20 ≤ i by omega) with z | z | z | z | z | z
  · have e := e1 z
    rw [if_pos z, GF_l (k := 7) (i := i) (by omega) (by omega) (f1 z), e, pi_mod (by omega)]
  · rw [if_neg (by omega), if_pos z.2, vlu_i (k := 7) (i := i) (f2 (by omega) (by omega)), S0_z (by omega)]
  · subst z
    exact ((vlu_l rfl).trans (congrArg Value.long (S0_2z (by omega)))).symm
  · subst z
    exact ((vlu_l rfl).trans (congrArg Value.long (S0_2o (by omega)))).symm
  · have e := e2 (by omega)
    rw [if_neg (by omega), if_neg (by omega), if_neg (by omega), if_neg (by omega), if_pos z.2, GF_l (k := 7) (i := i) (by omega) (by omega) (f4 (by omega) (by omega) (by omega) (by omega)), e, pi_mod (by omega), show 88 + (i - 4) = 84 + i by omega]
  · rw [if_neg (by omega), if_neg (by omega), if_neg (by omega), if_neg (by omega), if_neg (by omega), vlu_i (k := 7) (i := i) (f5 (by omega) (by omega) (by omega) (by omega)), S0_z (by omega)]
theorem ent_strip (h : (F 0).2 = ob 4 (tb4 F 1)) : (F (pi 0)).2 = ent (GF D F t b L xs) S0 0 := by
  rw [ent_o (c := 4) rfl (by omega)]
  refine h.trans (ob_ext fun i hi => ?_)
  have hi : i < 12 := hi
  unfold tb4
  rcases (show i = 0 ∨ i = 1 ∨ i = 2 ∨ i = 3 ∨ i = 4 ∨ i = 5 ∨ i = 6 ∨ i = 7 ∨ i = 8 ∨ i = 9 ∨ i = 10 ∨ i = 11 by omega) with rfl | rfl | rfl | rfl | rfl | rfl | rfl | rfl | rfl | rfl | rfl | rfl
  · exact (GF_l (k := 0) (i := 0) (by omega) (by decide) rfl).symm
  · exact (GF_l (k := 0) (i := 1) (by omega) (by decide) rfl).symm
  · exact (GF_l (k := 0) (i := 2) (by omega) (by decide) rfl).symm
  · exact (GF_l (k := 0) (i := 3) (by omega) (by decide) rfl).symm
  · exact (GF_l (k := 0) (i := 4) (by omega) (by decide) rfl).symm
  · exact (GF_l (k := 0) (i := 5) (by omega) (by decide) rfl).symm
  · exact (GF_l (k := 0) (i := 6) (by omega) (by decide) rfl).symm
  · exact (GF_l (k := 0) (i := 7) (by omega) (by decide) rfl).symm
  · exact ((vlu_i (k := 0) (i := 8) rfl).trans (congrArg Value.int (S0_z (by omega)))).symm
  · exact ((vlu_i (k := 0) (i := 9) rfl).trans (congrArg Value.int (S0_z (by omega)))).symm
  · exact ((vlu_l (k := 0) (i := 10) rfl).trans (congrArg Value.long (S0_2z (by omega)))).symm
  · exact ((vlu_l (k := 0) (i := 11) rfl).trans (congrArg Value.long (S0_2o (by omega)))).symm
/-- each place as the state says -/
theorem at_all {H : Heap} (h0 : StF D F 0 1) (h7 : MdF D F 87 88) (hP : ∀ i, i < 104 → va_at D.1 vwCl (F i) H) : ∀ k, k < 104 → va_at D.1 vwCl (gA (GF D F t b L xs) k, ent (GF D F t b L xs) S0 k) H := by
  intro k hk
  have hq := hP (pi k) (pi_lt k hk)
  rw [GF_a hk]
  have fin : (F (pi k)).2 = ent (GF D F t b L xs) S0 k → va_at D.1 vwCl ((F (pi k)).1, ent (GF D F t b L xs) S0 k) H := fun e => by rw [← e]; exact hq
  obtain ⟨s1, s2, s3, s4, s5, s6, s7, s8, s9⟩ := h0
  rcases (show k = 0 ∨ k = 1 ∨ k = 2 ∨ k = 3 ∨ k = 4 ∨ k = 5 ∨ k = 6 ∨ k = 7 ∨ (8 ≤ k ∧ k < 14) ∨ (14 ≤ k ∧ k < 18) ∨ (18 ≤ k ∧ k < 24) ∨ (24 ≤ k ∧ k < 28) ∨ (28 ≤ k ∧ k < 40) ∨ (40 ≤ k ∧ k < 52) ∨ (52 ≤ k ∧ k < 64) ∨ (64 ≤ k ∧ k < 76) ∨ (76 ≤ k ∧ k < 88) ∨ 88 ≤ k by omega) with rfl | rfl | rfl | rfl | rfl | rfl | rfl | rfl | z | z | z | z | z | z | z | z | z | z
  · exact fin (ent_strip s1)
  · have e : F (pi 1) = ((F 1).1, ra D 2 6 (fun j => if j < 6 then some (F (31 + 2 * j)).1 else none)) := Prod.ext rfl s2.1
    rw [e] at hq
    refine at_ra hq fun j hj => ?_
    show _ = some (gA (GF D F t b L xs) (8 + j))
    have hj : j < 6 := hj
    rw [if_pos hj, GF_a (by omega), pi_row (by omega) (by omega), show 15 + 2 * (8 + j) = 31 + 2 * j by omega]
  · have e : F (pi 2) = ((F 2).1, ra D 2 4 (fun j => if j < 4 then some (F (43 + 2 * j)).1 else none)) := Prod.ext rfl s3.1
    rw [e] at hq
    refine at_ra hq fun j hj => ?_
    show _ = some (gA (GF D F t b L xs) (14 + j))
    have hj : j < 4 := hj
    rw [if_pos hj, GF_a (by omega), pi_row (by omega) (by omega), show 15 + 2 * (14 + j) = 43 + 2 * j by omega]
  · have e : F (pi 3) = ((F 15).1, ra D 3 3 (fun j => if j < 3 then some (F (51 + 12 * j)).1 else none)) := Prod.ext rfl s5.1
    rw [e] at hq
    refine at_ra hq fun j hj => ?_
    show _ = some (gA (GF D F t b L xs) (52 + 12 * j))
    have hj : j < 3 := hj
    rw [if_pos hj, GF_a (by omega), pi_kept (by omega) (by omega), show 52 + 12 * j - 1 = 51 + 12 * j by omega]
  · refine fin ?_
    rw [ent_o (c := 2) rfl (by omega)]
    refine Eq.trans s7 (ob_ext fun i hi => ?_)
    have hi : i < 1 := hi
    obtain rfl : i = 0 := by omega
    exact ((vlu_i rfl).trans (congrArg Value.int (S0_z (by omega)))).symm
  · refine fin ?_
    rw [ent_a rfl, S0_f (by omega)]
    exact s8
  · refine fin ?_
    rw [ent_a rfl, S0_f (by omega)]
    exact s9
  · exact fin (ent_model h7.1)
  · have := (s2.2 (k - 8) (by omega)).1
    rw [show 1 + 30 + 2 * (k - 8) = 15 + 2 * k by omega] at this
    exact fin (ent_row (by omega) (by omega) this)
  · have := (s3.2 (k - 14) (by omega)).1
    rw [show 1 + 42 + 2 * (k - 14) = 15 + 2 * k by omega] at this
    exact fin (ent_row (by omega) (by omega) this)
  · have := (s2.2 (k - 18) (by omega)).2
    rw [show 1 + 30 + 2 * (k - 18) + 1 = 2 * k - 4 by omega] at this
    refine fin (ent_rowa (by omega) (by omega) ?_ this)
    unfold ln
    rw [if_neg (by omega), if_pos (by omega)]
  · have := (s3.2 (k - 24) (by omega)).2
    rw [show 1 + 42 + 2 * (k - 24) + 1 = 2 * k - 4 by omega] at this
    refine fin (ent_rowa (by omega) (by omega) ?_ this)
    unfold ln
    rw [if_neg (by omega), if_neg (by omega), if_pos (by omega)]
  · have := ent_land (D := D) (t := t) (b := b) (L := L) (xs := xs) (p := 28) (m := 3) (by omega) (fun j hj => by rw [pi_land (by omega) (by omega)]; omega) s4 (k - 28) (by omega)
    rw [show 28 + (k - 28) = k by omega] at this
    exact fin this
  · have := ent_land (D := D) (t := t) (b := b) (L := L) (xs := xs) (p := 40) (m := 16) (by omega) (fun j hj => by rw [pi_draft (by omega) (by omega)]; omega) s6 (k - 40) (by omega)
    rw [show 40 + (k - 40) = k by omega] at this
    exact fin this
  · have := ent_land (D := D) (t := t) (b := b) (L := L) (xs := xs) (p := 52) (m := 51) (by omega) (fun j hj => by rw [pi_kept (by omega) (by omega)]; omega) (s5.2 0 (by omega)) (k - 52) (by omega)
    rw [show 52 + (k - 52) = k by omega] at this
    exact fin this
  · have := ent_land (D := D) (t := t) (b := b) (L := L) (xs := xs) (p := 64) (m := 63) (by omega) (fun j hj => by rw [pi_kept (by omega) (by omega)]; omega) (s5.2 1 (by omega)) (k - 64) (by omega)
    rw [show 64 + (k - 64) = k by omega] at this
    exact fin this
  · have := ent_land (D := D) (t := t) (b := b) (L := L) (xs := xs) (p := 76) (m := 75) (by omega) (fun j hj => by rw [pi_kept (by omega) (by omega)]; omega) (s5.2 2 (by omega)) (k - 76) (by omega)
    rw [show 76 + (k - 76) = k by omega] at this
    exact fin this
  · have := ent_mod (t := t) (b := b) (L := L) (xs := xs) (j := k - 88) (by omega) (h7.2 (k - 88) (by omega))
    rw [show 88 + (k - 88) = k by omega] at this
    exact fin this
end first
