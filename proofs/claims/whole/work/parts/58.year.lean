/-! notes, ages: the reference's deeds; year, step, walk -/
section year
variable {G : Gl} {l : Launch} {d : Nat} {S : Sg} {H : Nat → Nat → Nat} {n : Nat} {m : Nat → Nat} {F : Int32 → Int32 → Sg → Prop}
theorem u1_put (f : Nat → Nat → Int32) (k : Nat) (g : Nat → Int32) (i : Nat) (v : Int32) : u2 (u1 f k g) k i v = u1 f k (upd g i v) := by
  funext a b
  by_cases h : a = k
  · subst h
    simp [u2, u1, upd]
  · simp [u2, u1, h]
theorem u2_as1 (f : Nat → Nat → Int32) (k i : Nat) (v : Int32) : u2 f k i v = u1 f k (upd (f k) i v) := by
  funext a b
  by_cases h : a = k
  · subst h
    simp [u2, u1, upd]
  · simp [u2, u1, h]
theorem u1_u1 (f : Nat → Nat → Int32) (k : Nat) (g g' : Nat → Int32) : u1 (u1 f k g) k g' = u1 f k g' := by
  funext a
  by_cases h : a = k <;> simp [u1, h]
def ntM (M : Nat → Int32) (n i : Nat) : Nat → Int32 := fun j => if j < 40 + 9 * n ∨ 43 + 9 * n + i ≤ j then M j else if j = 40 + 9 * n then M 1 else if j = 41 + 9 * n then M 2 else if j = 42 + 9 * n then M 8 else M (11 + 5 * (j - (43 + 9 * n)))
theorem ntM_lo (M : Nat → Int32) {n i j : Nat} (h : j < 40 + 9 * n) : ntM M n i j = M j := if_pos (Or.inl h)
theorem ntM_0 (M : Nat → Int32) (n : Nat) : upd (upd (upd M (40 + 9 * n) (M 1)) (41 + 9 * n) (M 2)) (42 + 9 * n) (M 8) = ntM M n 0 := by
  funext j
  unfold ntM upd
  rcases (show j = 40 + 9 * n ∨ j = 41 + 9 * n ∨ j = 42 + 9 * n ∨ (j < 40 + 9 * n ∨ 43 + 9 * n + 0 ≤ j) by omega) with q | q | q | q
  · rw [if_neg (by omega), if_neg (by omega), if_pos q, if_neg (by omega), if_pos q]
  · rw [if_neg (by omega), if_pos q, if_neg (by omega), if_neg (by omega), if_pos q]
  · rw [if_pos q, if_neg (by omega), if_neg (by omega), if_neg (by omega), if_pos q]
  · rw [if_neg (by omega), if_neg (by omega), if_neg (by omega), if_pos q]
theorem ntM_s (M : Nat → Int32) (n i : Nat) : upd (ntM M n i) (43 + 9 * n + i) (M (11 + 5 * i)) = ntM M n (i + 1) := by
  funext j
  by_cases q : j = 43 + 9 * n + i
  · subst q
    unfold ntM upd
    rw [if_pos rfl, if_neg (by omega), if_neg (by omega), if_neg (by omega), if_neg (by omega)]
    congr 2
    omega
  · unfold upd
    rw [if_neg q]
    unfold ntM
    by_cases q2 : j < 40 + 9 * n ∨ 43 + 9 * n + i ≤ j
    · rw [if_pos q2, if_pos (show j < 40 + 9 * n ∨ 43 + 9 * n + (i + 1) ≤ j by omega)]
    · rw [if_neg q2, if_neg (show ¬ (j < 40 + 9 * n ∨ 43 + 9 * n + (i + 1) ≤ j) by omega)]
theorem u_notes_l {T : Sg} {M : Nat → Int32} (hn : n < 40) {Q : Sg → Prop} (h9 : M 9 = nI n) (h : Q (u1 T.1 93 (upd (ntM M n 6) 9 (nI (n + 1))), T.2)) : ∀ (k i : Nat), i + k = 6 → Ev G l mX5_notes (d + 1) 57 [some (.ref 7), some (.int (nI (40 + 9 * n))), some (.int (nI i))] [] (u1 T.1 93 (ntM M n i), T.2) (QV Q) := by
  intro k
  induction k with
  | zero =>
    intro i hi
    obtain rfl : i = 6 := by omega
    refine bX5_notes_57 _ _ ⟨fun _ S1 e1 => ?_, fun q => absurd (by decide) q⟩
    subst e1
    show Q (u2 (u1 T.1 93 (ntM M n 6)) 93 9 (u1 T.1 93 (ntM M n 6) 93 9 + nI 1), T.2)
    rw [u1_s, u1_put, ntM_lo M (by omega), h9, z_add]
    exact h
  | succ k ih =>
    intro i hi
    refine bX5_notes_57 _ _ ⟨fun q => ?_, fun _ => ⟨11 + 5 * i, ix_i (z_at i 1) (by omega) (by omega), 43 + 9 * n + i, ix_i (by rw [z_add, z_add]; congr 1; omega) (by omega) (by omega), fun S1 e1 => ?_⟩⟩
    · rw [z_le (by omega) (by omega)] at q
      omega
    · subst e1
      rw [z_add]
      show Ev G l mX5_notes (d + 1) 57 _ [] (u2 (u1 T.1 93 (ntM M n i)) 93 (43 + 9 * n + i) (u1 T.1 93 (ntM M n i) 93 (11 + 5 * i)), T.2) (QV Q)
      rw [u1_s, u1_put, ntM_lo M (by omega), ntM_s]
      exact ih (i + 1) (by omega)
theorem u_notes {Q : Sg → Prop} (hM : MH (S.1 93) H n) (hH : HI H n) (hn : n < 40) (h : ∀ M', (∀ k, k < 40 → k ≠ 9 → M' k = S.1 93 k) → M' 9 = nI (n + 1) → (∀ e, e < n + 1 → MD M' H e) → Q (u1 S.1 93 M', S.2)) : Ct G l mX5_notes (d + 1) [.ref 7] S (QV Q) := by
  have h9 : S.1 93 9 = nI n := by rw [hM.1 9 (by omega), (hH.2.1 n (Nat.le_refl n)).2]
  refine bX5_notes_0 ?_
  rw [h9]
  have ea : nI 40 + nI 9 * nI n = nI (40 + 9 * n) := by rw [z_mul, z_add]
  rw [ea]
  refine ⟨40 + 9 * n, ix_nI (by omega) (by omega), fun S1 e1 => ⟨41 + 9 * n, ix_i (by rw [z_add]; congr 1; omega) (by omega) (by omega), fun S2 e2 => ⟨42 + 9 * n, ix_i (by rw [z_add]; congr 1; omega) (by omega) (by omega), fun S3 e3 => ?_⟩⟩⟩
  have e : S3 = (u1 S.1 93 (ntM (S.1 93) n 0), S.2) := by
    rw [← ntM_0, e3, e2, e1]
    simp (disch := omega) only [u2_n, u2_as1, u1_u1, u1_s, pk_un]
  rw [e]
  clear e e1 e2 e3
  refine u_notes_l hn h9 (h _ (fun k hk q => ?_) pk_us (fun b he => ?_)) 6 0 rfl
  · rw [pk_un q, ntM_lo _ (by omega)]
  · have hd : ∀ j, 40 + 9 * n ≤ j → upd (ntM (S.1 93) n 6) 9 (nI (n + 1)) j = ntM (S.1 93) n 6 j := fun j hj => pk_un (by omega)
    by_cases q : b = n
    · subst q
      refine ⟨?_, ?_, ?_, fun i hi => ?_⟩
      · rw [hd _ (by omega), ntM, if_neg (by omega), if_pos rfl, hM.1 1 (by omega)]
      · rw [hd _ (by omega), ntM, if_neg (by omega), if_neg (by omega), if_pos rfl, hM.1 2 (by omega)]
      · rw [hd _ (by omega), ntM, if_neg (by omega), if_neg (by omega), if_neg (by omega), if_pos rfl, hM.1 8 (by omega)]
      · rw [hd _ (by omega), ntM, if_neg (by omega), if_neg (by omega), if_neg (by omega), if_neg (by omega), show 43 + 9 * b + i - (43 + 9 * b) = i by omega, hM.1 _ (by omega)]
    · have := hM.2 b (by omega)
      have hlo : ∀ j, 40 ≤ j → j < 40 + 9 * n → upd (ntM (S.1 93) n 6) 9 (nI (n + 1)) j = S.1 93 j := fun j h1 h2 => by rw [pk_un (by omega), ntM_lo _ h2]
      exact ⟨by rw [hlo _ (by omega) (by omega)]; exact this.1, by rw [hlo _ (by omega) (by omega)]; exact this.2.1, by rw [hlo _ (by omega) (by omega)]; exact this.2.2.1, fun i hi => by rw [hlo _ (by omega) (by omega)]; exact this.2.2.2 i hi⟩
theorem MH.push {M : Nat → Int32} {m' : Nat → Nat} (hk : ∀ k, k < 40 → M k = nI (m' k)) (hd : ∀ e, e < n + 1 → MD M H e) : MH M (hx H n m') (n + 1) := by
  refine ⟨fun k q => by rw [hx_n]; exact hk k q, fun e he => ?_⟩
  have := hd e he
  unfold MD at this ⊢
  rw [hx_o (by omega)]
  exact this
theorem MD.mv {M M' : Nat → Int32} {e : Nat} (h : MD M H e) (hj : ∀ j, 40 ≤ j → M' j = M j) : MD M' H e :=
  ⟨by rw [hj _ (by omega)]; exact h.1, by rw [hj _ (by omega)]; exact h.2.1, by rw [hj _ (by omega)]; exact h.2.2.1, fun i hi => by rw [hj _ (by omega)]; exact h.2.2.2 i hi⟩
/-- a deed is done on both sides -/
theorem R.deed (hR : R S) {T : Sg} {M' : Nat → Int32} (hf : ∀ k, k ≠ 28 → k ≠ 30 → ¬ (34 ≤ k ∧ k < 40) → T.1 k = S.1 k) (h2 : T.2 = S.2) (hH : HI H n) (hd : DV T 28 H n) (hm : MH M' H n) : R (u1 T.1 93 M', T.2) := by
  have E : ∀ k, k < 28 ∨ (52 ≤ k ∧ k < 93) ∨ (95 ≤ k ∧ k ≤ 97) → (u1 T.1 93 M', T.2).1 k = S.1 k := fun k hk => by
    show u1 T.1 93 M' k = _
    rw [u1_o _ (by omega)]
    exact hf k (by omega) (by omega) (by omega)
  refine ⟨fun x hx => (hR.1 x hx).fr E (by omega), fun y hy => (hR.2.1 y hy).fr E (by omega), hR.2.2.1.fr (E _ (by omega)) (E _ (by omega)) (E _ (by omega)) (E _ (by omega)), ?_, ?_, ⟨H, n, hH, hd.fr (A := fun k => k ≠ 93) (fun k hk => u1_o _ hk) (fun k _ _ => by omega), ?_⟩, fun k hk => (hR.2.2.2.2.2.2 k hk).fr E ⟨fun j h1 h2 => by omega, by omega, by omega⟩⟩
  · unfold RQ
    rw [E 0 (by omega), E 7 (by omega)]
    exact hR.2.2.2.1
  · unfold RL2
    rw [show (u1 T.1 93 M', T.2).2 = S.2 from h2]
    exact hR.2.2.2.2.1
  · show MH (u1 T.1 93 M' 93) H n
    rw [u1_s]
    exact hm
theorem IV.chg {m' : Nat → Nat} (hI : IV m) (h9 : m' 9 = m 9 + 1) (hn : m 9 < 40) (hc : 0 < m 0) (h1 : m' 1 ≤ m' 2) (h2 : m' 2 ≤ m 0) (h8 : m' 8 ≤ m 8 + 1)
    (hs : ∀ k, k < 40 → (k = 0 ∨ (3 ≤ k ∧ k ≤ 7) ∨ (10 ≤ k ∧ (k - 10) % 5 ≠ 1)) → m' k = m k) (hl : ∀ i, i < 6 → m' (11 + 5 * i) ≤ 8 ∧ (i < m 7 → m' (11 + 5 * i) < m 0)) : IV m' := by
  obtain ⟨a0, a1, a2, a3, a4, a5, a6, a7, a8, a9, a10, a11⟩ := hI.1
  refine ⟨?_, fun i hi => ?_⟩
  · unfold IVh
    rw [hs 0 (by omega) (by omega), hs 3 (by omega) (by omega), hs 4 (by omega) (by omega), hs 5 (by omega) (by omega), hs 6 (by omega) (by omega), hs 7 (by omega) (by omega)]
    refine ⟨a0, h1, h2, a3, a4, a5, a6, a7, by omega, by omega, by omega, a11⟩
  · obtain ⟨b0, b1, b2, b3, b4, b5⟩ := hI.2 i hi
    obtain ⟨c1, c2⟩ := hl i hi
    unfold IVp
    rw [hs (10 + 5 * i) (by omega) (by omega), hs (12 + 5 * i) (by omega) (by omega), hs (13 + 5 * i) (by omega) (by omega), hs (14 + 5 * i) (by omega) (by omega), hs 7 (by omega) (by omega), hs 0 (by omega) (by omega)]
    exact ⟨b0, c1, b2, b3, b4, fun q => ⟨c2 q, (b5 q).2⟩⟩
/-! the year and how many deeds don't count for what belongs -/
theorem sBy_c {m1 : Nat → Nat} (e : ∀ k, k ≠ 8 → k ≠ 9 → m1 k = m k) : sBy m1 = sBy m := by
  funext k c f w e'
  simp only [sBy, e 5 (by omega) (by omega), e 6 (by omega) (by omega)]
theorem sBel_c {m1 : Nat → Nat} (e : ∀ k, k ≠ 8 → k ≠ 9 → m1 k = m k) (i w e' : Nat) : sBel m1 i w e' = sBel m i w e' := by
  simp only [sBel, sBy_c e, e (10 + 5 * i) (by omega) (by omega), e (11 + 5 * i) (by omega) (by omega), e (12 + 5 * i) (by omega) (by omega)]
theorem sVo_c {m1 : Nat → Nat} (e : ∀ k, k ≠ 8 → k ≠ 9 → m1 k = m k) (i : Nat) : sVo m1 i = sVo m i := by
  simp only [sVo, e (10 + 5 * i) (by omega) (by omega), e (13 + 5 * i) (by omega) (by omega)]
theorem sBit_c {m1 : Nat → Nat} (e : ∀ k, k ≠ 8 → k ≠ 9 → m1 k = m k) (w e' : Nat) : ∀ k, sBit m1 w e' k = sBit m w e' k
  | 0 => rfl
  | k + 1 => by rw [sBit, sBit, sBit_c e w e' k, sBel_c e]
theorem sSum_c {m1 : Nat → Nat} (e : ∀ k, k ≠ 8 → k ≠ 9 → m1 k = m k) (s : Nat) : ∀ k, sSum m1 s k = sSum m s k
  | 0 => rfl
  | k + 1 => by rw [sSum, sSum, sSum_c e s k, sVo_c e]
theorem sOut_c {m1 : Nat → Nat} (e : ∀ k, k ≠ 8 → k ≠ 9 → m1 k = m k) (a b w e' : Nat) : ∀ k, sOut m1 a b w e' k = sOut m a b w e' k
  | 0 => rfl
  | k + 1 => by rw [sOut, sOut, sOut_c e a b w e' k, sVo_c e, sBel_c e, e (11 + 5 * k) (by omega) (by omega)]
theorem sBels_c {m1 : Nat → Nat} (e : ∀ k, k ≠ 8 → k ≠ 9 → m1 k = m k) (w e' : Nat) : sBels m1 w e' = sBels m w e' := by rw [sBels, sBels, sBit_c e, e 7 (by omega) (by omega)]
theorem sIn_c {m1 : Nat → Nat} (e : ∀ k, k ≠ 8 → k ≠ 9 → m1 k = m k) (s : Nat) : sIn m1 s = sIn m s := by rw [sIn, sIn, sSum_c e, e 7 (by omega) (by omega)]
theorem sOf_c {m1 : Nat → Nat} (e : ∀ k, k ≠ 8 → k ≠ 9 → m1 k = m k) (a b w e' : Nat) : sOf m1 a b w e' = sOf m a b w e' := by rw [sOf, sOf, sOut_c e, e 7 (by omega) (by omega)]
theorem sWb_c {m1 : Nat → Nat} (e : ∀ k, k ≠ 8 → k ≠ 9 → m1 k = m k) (w e' : Nat) : sWb m1 w e' = sWb m w e' := by rw [sWb, sWb, sOf_c e, sIn_c e, sBels_c e]
theorem sEb_c {m1 : Nat → Nat} (e : ∀ k, k ≠ 8 → k ≠ 9 → m1 k = m k) (w e' : Nat) : sEb m1 w e' = sEb m w e' := by rw [sEb, sEb, sOf_c e, sIn_c e, sBels_c e, e 0 (by omega) (by omega)]
theorem sW'_c {m1 : Nat → Nat} (e : ∀ k, k ≠ 8 → k ≠ 9 → m1 k = m k) (w e' : Nat) : sW' m1 w e' = sW' m w e' := by rw [sW', sW', sWb_c e]
theorem sE'_c {m1 : Nat → Nat} (e : ∀ k, k ≠ 8 → k ≠ 9 → m1 k = m k) (w e' : Nat) : sE' m1 w e' = sE' m w e' := by rw [sE', sE', sWb_c e, sEb_c e, e 0 (by omega) (by omega)]
/-- a YEAR on -/
def yr (m : Nat → Nat) : Nat → Nat := fun k => if k = 1 then sW' m (m 1) (m 2) else if k = 2 then sE' m (m 1) (m 2) else if k = 8 then m 8 + 1 else if k = 9 then m 9 + 1 else m k
theorem yr_o {k : Nat} (h : k ≠ 1 ∧ k ≠ 2 ∧ k ≠ 8 ∧ k ≠ 9) : yr m k = m k := by
  unfold yr
  rw [if_neg h.1, if_neg h.2.1, if_neg h.2.2.1, if_neg h.2.2.2]
theorem yr_IV (hI : IV m) (hn : m 9 < 40) (hc : 0 < m 0) : IV (yr m) := by
  obtain ⟨h1, h2⟩ := sWE hI hI.1.2.1 hI.1.2.2.1
  refine hI.chg rfl hn hc h1 h2 (Nat.le_refl _) (fun k hk q => yr_o (by omega)) (fun i hi => ?_)
  rw [yr_o (by omega)]
  exact ⟨(hI.2 i hi).2.1, fun q => ((hI.2 i hi).2.2.2.2.2 q).1⟩
theorem yr_HI (hH : HI H n) (hn : n < 40) (hc : 0 < H n 0) : HI (hx H n (yr (H n))) (n + 1) := by
  obtain ⟨hI, e9⟩ := hH.2.1 n (Nat.le_refl n)
  exact hH.push hn (yr_IV hI (by omega) hc) (by show H n 9 + 1 = _; rw [e9]) (fun k hk q => yr_o (by omega))
theorem t_passYear {P : Sg → Prop} {L : Nat} (hL : LandAt L) (hd : DV S L H n) (hH : HI H n) (hn : n < 40) (hc : 0 < H n 0)
    (h : ∀ T : Sg, DV T L (hx H n (yr (H n))) (n + 1) → (∀ k, k ≠ L → k ≠ L + 2 → ¬ (L + 6 ≤ k ∧ k < L + 12) → T.1 k = S.1 k) → T.2 = S.2 → P T) : Ct G l mX1_passYear (d + 6) [.ref L] S (QV P) := by
  have hv := hd.1
  obtain ⟨hI, e9⟩ := hH.2.1 n (Nat.le_refl n)
  have h12 := hI.1.2.2.2.2.2.2.2.2.2.2.2 hc
  obtain ⟨-, -, k1, k2, k3, -⟩ := sLat_ok hI hI.1.2.1 hI.1.2.2.1
  refine bX1_passYear_0 L hL (t_coasts hL hv hI (t_yearOn hL hv hI hI.1.2.1 hI.1.2.2.1 (t_westOf k3 (t_eastOf k3 ?_))))
  rw [hv.w, hv.e, k1, k2]
  exact t_act hL hd hH hn (wk := 0) (by omega) (m' := yr (H n)) (i_as _ _) (i_as _ _) (z_add _ _) (by rw [z_add]; rfl) (by show H n 9 + 1 = _; rw [e9]) (fun k hk q => yr_o (by omega)) h
theorem u_ages {Q : Sg → Prop} (hv : MV S m) (hI : IV m) (h : Q (u1 S.1 93 (upd (upd (upd (S.1 93) 1 (nI (sW' m (m 1) (m 2)))) 2 (nI (sE' m (m 1) (m 2)))) 8 (nI (m 8 + 1))), S.2)) : Ct G l mX5_ages (d + 6) [.ref 7] S (QV Q) := by
  obtain ⟨-, -, k1, k2, k3, -⟩ := sLat_ok hI hI.1.2.1 hI.1.2.2.1
  refine bX5_ages_0 ?_
  rw [hv 1 (by omega), hv 2 (by omega)]
  refine u_later hv hI hI.1.2.1 hI.1.2.2.1 (fun S1 e1 S2 e2 S3 e3 => ?_)
  rw [z_div (by omega) (by omega) (by omega), k1] at e1
  rw [z_rem (by omega) (by omega) (by omega), k2] at e2
  have e : S3 = (u1 S.1 93 (upd (upd (upd (S.1 93) 1 (nI (sW' m (m 1) (m 2)))) 2 (nI (sE' m (m 1) (m 2)))) 8 (nI (m 8 + 1))), S.2) := by
    rw [e3, e2, e1]
    simp (disch := omega) only [u2_n, u2_as1, u1_u1, u1_s, pk_un]
    rw [hv 8 (by omega), z_add]
  rw [e]
  exact h
theorem u_ages_n {T : Sg} {M' : Nat → Int32} (hH : HI H n) (hn : n < 40) (hc : 0 < H n 0) (k1 : ∀ k, k < 40 → k ≠ 9 → M' k = nI (H n k)) (k2 : M' 9 = nI (n + 1)) (k3 : ∀ e, e < n + 1 → MD M' H e) {Q : Sg → Prop} (h : ∀ M'', MH M'' (hx H n (yr (H n))) (n + 1) → Q (u1 T.1 93 M'', T.2)) : Ct G l mX5_ages (d + 6) [.ref 7] (u1 T.1 93 M', T.2) (QV Q) := by
  obtain ⟨hI, e9⟩ := hH.2.1 n (Nat.le_refl n)
  have e1 : ∀ k, k ≠ 8 → k ≠ 9 → (fun k => if k = 9 then n + 1 else H n k) k = H n k := fun k _ q => if_neg q
  have hu : MV (u1 T.1 93 M', T.2) (fun k => if k = 9 then n + 1 else H n k) := by
    intro k hk
    show u1 T.1 93 M' 93 k = _
    rw [u1_s]
    by_cases q : k = 9
    · subst q
      exact k2
    · rw [k1 k hk q]
      simp only [if_neg q]
  have hI1 : IV (fun k => if k = 9 then n + 1 else H n k) := by
    refine hI.chg (by show n + 1 = _; omega) (by omega) hc hI.1.2.1 hI.1.2.2.1 (by show H n 8 ≤ _; omega) (fun k hk q => if_neg (by omega)) (fun i hi => ?_)
    have q9 : ¬ 11 + 5 * i = 9 := by omega
    simp only [if_neg q9]
    exact ⟨(hI.2 i hi).2.1, fun q => ((hI.2 i hi).2.2.2.2.2 q).1⟩
  refine u_ages hu hI1 ?_
  show Q (u1 (u1 T.1 93 M') 93 (upd (upd (upd (u1 T.1 93 M' 93) 1 (nI (sW' (fun k => if k = 9 then n + 1 else H n k) (H n 1) (H n 2)))) 2 (nI (sE' (fun k => if k = 9 then n + 1 else H n k) (H n 1) (H n 2)))) 8 (nI (H n 8 + 1))), T.2)
  rw [u1_s, u1_u1, sW'_c e1, sE'_c e1]
  refine h _ (MH.push (fun k hk => ?_) (fun e he => (k3 e he).mv (fun j hj => by rw [pk_un (by omega), pk_un (by omega), pk_un (by omega)])))
  rcases (show k = 1 ∨ k = 2 ∨ k = 8 ∨ k = 9 ∨ (k ≠ 1 ∧ k ≠ 2 ∧ k ≠ 8 ∧ k ≠ 9) by omega) with rfl | rfl | rfl | rfl | q
  · rw [pk_un (by omega), pk_un (by omega), pk_us]
    rfl
  · rw [pk_un (by omega), pk_us]
    rfl
  · rw [pk_us]
    rfl
  · rw [pk_un (by omega), pk_un (by omega), pk_un (by omega), k2]
    show _ = nI (H n 9 + 1)
    rw [e9]
  · rw [pk_un q.2.2.1, pk_un q.2.1, pk_un q.1, k1 k hk q.2.2.2, yr_o q]
theorem pm_year (hR : R S) (h : ∀ r S', R S' → F r r S') : Ct G l mX4_year (d + 20) [.ref 0] S (QI (fun r T => Ct G l mX5_year (d + 20) [.ref 7] T (QI (fun r2 T2 => F r r2 T2)))) := by
  obtain ⟨H, n, hH, hD, hM⟩ := hR.2.2.2.2.2.1
  obtain ⟨hI, e9⟩ := hH.2.1 n (Nat.le_refl n)
  have hv := hD.1
  have hu : MV S (H n) := hM.1
  have h40 := hH.1
  refine bX4_year_0 (t_isThere la28 hv hI ?_)
  by_cases hc : 0 < H n 0
  · rw [b2y hc]
    refine ⟨fun _ => t_hasRoomFor la28 hv hI (n := 1) (by omega) ?_, fun z => absurd z (by decide)⟩
    by_cases hf : n < 40
    · rw [b2y (by omega)]
      refine ⟨fun _ => t_passYear la28 hD hH hf hc (fun T hT hf2 h2 => ?_), fun z => absurd z (by decide)⟩
      have hIy := yr_IV hI (by omega) hc
      have hvT := hT.1
      rw [hx_n] at hvT
      refine t_strip la28 hvT hIy ?_
      have e93 : T.1 93 = S.1 93 := hf2 93 (by omega) (by omega) (by omega)
      have hMT : MH (T.1 93) H n := by rw [e93]; exact hM
      have huT : MV T (H n) := hMT.1
      refine bX5_year_0 (u_are huT hI ?_)
      rw [b2y hc]
      refine ⟨fun _ => ⟨fun _ => u_notes hMT hH hf (fun M' k1 k2 k3 => ?_), fun q => ?_⟩, fun z => absurd z (by decide)⟩
      · refine u_ages_n hH hf hc (fun k hk q => by rw [k1 k hk q]; exact huT k hk) k2 k3 (fun M2 hM2 => ?_)
        have a1 := hM2.1 1 (by omega)
        have a2 := hM2.1 2 (by omega)
        rw [hx_n] at a1 a2
        show F _ (u1 T.1 93 M2 93 2 - u1 T.1 93 M2 93 1) _
        rw [u1_s, a1, a2, z_sub hIy.1.2.1]
        exact h _ _ (hR.deed hf2 h2 (yr_HI hH hf hc) hT hM2)
      · rw [huT 9 (by omega), e9, z_eq (by omega) (by omega)] at q
        omega
    · rw [b2f (by omega)]
      refine ⟨fun z => absurd rfl z, fun _ => bX5_year_0 (u_are hu hI ?_)⟩
      rw [b2y hc]
      refine ⟨fun _ => ⟨fun q => ?_, fun _ => h _ _ hR⟩, fun z => absurd z (by decide)⟩
      rw [hu 9 (by omega), e9, show n = 40 by omega] at q
      exact absurd rfl q
  · rw [b2f hc]
    refine ⟨fun z => absurd rfl z, fun _ => bX5_year_0 (u_are hu hI ?_)⟩
    rw [b2f hc]
    exact ⟨fun z => absurd rfl z, fun _ => h _ _ hR⟩
end year
