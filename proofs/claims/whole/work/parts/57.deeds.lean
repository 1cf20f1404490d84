/-! deeds: done, taken back, taken over; histories -/
section deeds
variable {G : Gl} {l : Launch} {d : Nat} {S : Sg} {L : Nat} {H : Nat → Nat → Nat} {n : Nat}
theorem i_eq_sub {a b w : Int32} (h : a + w = b) : w = b - a := by
  rw [← h, Int32.add_comm, Int32.add_sub_cancel]
theorem i_as (a b : Int32) : a + (b - a) = b := by
  rw [Int32.add_comm, Int32.sub_add_cancel]
theorem i_ss (a b : Int32) : a - (a - b) = b := by
  rw [Int32.sub_eq_add_neg, Int32.neg_sub, i_as]
/-- a history with one more -/
def hx (H : Nat → Nat → Nat) (n : Nat) (m' : Nat → Nat) : Nat → Nat → Nat := fun d => if d ≤ n then H d else m'
theorem hx_o {m' : Nat → Nat} {e : Nat} (h : e ≤ n) : hx H n m' e = H e := if_pos h
theorem hx_n {m' : Nat → Nat} : hx H n m' (n + 1) = m' := if_neg (by omega)
theorem HI.push (h : HI H n) (hn : n < 40) {m' : Nat → Nat} (hI : IV m') (h9 : m' 9 = n + 1) (hs : ∀ k, k < 40 → (k = 0 ∨ (3 ≤ k ∧ k ≤ 7) ∨ (10 ≤ k ∧ (k - 10) % 5 ≠ 1)) → m' k = H n k) : HI (hx H n m') (n + 1) := by
  refine ⟨by omega, fun e he => ?_, fun e he k hk hst => ?_⟩
  · by_cases q : e ≤ n
    · rw [hx_o q]; exact h.2.1 e q
    · obtain rfl : e = n + 1 := by omega
      rw [hx_n]; exact ⟨hI, h9⟩
  · rw [hx_n]
    by_cases q : e ≤ n
    · rw [hx_o q, hs k hk hst]; exact h.2.2 e q k hk hst
    · obtain rfl : e = n + 1 := by omega
      rw [hx_n]
theorem HI.cut (h : HI H n) {t : Nat} (ht : t ≤ n) : HI H t :=
  ⟨by have := h.1; omega, fun e he => h.2.1 e (by omega), fun e he k hk hs => by rw [h.2.2 e (by omega) k hk hs, h.2.2 t ht k hk hs]⟩
theorem DV.act {T : Sg} (hd : DV S L H n) (hH : HI H n) {wk : Nat} (hw : wk < H n 7) {wI eI yI cI : Int32} {m' : Nat → Nat}
    (h1 : nI (H n 1) + wI = nI (m' 1)) (h2 : nI (H n 2) + eI = nI (m' 2)) (h8 : nI (H n 8) + yI = nI (m' 8)) (hc : nI (H n (11 + 5 * wk)) + cI = nI (m' (11 + 5 * wk))) (h9 : m' 9 = n + 1)
    (hs : ∀ k, k < 40 → (k ≠ 1 ∧ k ≠ 2 ∧ k ≠ 8 ∧ k ≠ 9 ∧ k ≠ 11 + 5 * wk) → m' k = H n k)
    (fL1 : T.1 L 1 = S.1 L 1 + wI) (fL2 : T.1 L 2 = S.1 L 2 + eI) (fL7 : T.1 L 7 = S.1 L 7 + yI) (fLo : ∀ i, i ≠ 1 → i ≠ 2 → i ≠ 7 → T.1 L i = S.1 L i)
    (fc : T.1 (L + 2) wk = S.1 (L + 2) wk + cI) (fco : ∀ i, i ≠ wk → T.1 (L + 2) i = S.1 (L + 2) i) (fn : T.1 (L + 6) 5 = nI (n + 1))
    (fo : ∀ k, k = L + 1 ∨ k = L + 3 ∨ k = L + 4 ∨ k = L + 5 → T.1 k = S.1 k)
    (g7 : T.1 (L + 7) n = wI) (g8 : T.1 (L + 8) n = eI) (g9 : T.1 (L + 9) n = yI) (g10 : T.1 (L + 10) n = nI wk) (g11 : T.1 (L + 11) n = cI)
    (go : ∀ j, j ≠ n → ∀ k, L + 7 ≤ k → k < L + 12 → T.1 k j = S.1 k j) : DV T L (hx H n m') (n + 1) := by
  have hv := hd.1
  obtain ⟨hI, e9⟩ := hH.2.1 n (Nat.le_refl n)
  have hp := hI.p6
  have e7 : m' 7 = H n 7 := hs 7 (by omega) (by omega)
  refine ⟨?_, fun e he => ?_⟩
  · rw [hx_n]
    refine ⟨⟨?_, ?_, ?_, ?_, ?_, ?_, ?_, ?_, ?_, ?_⟩, fun i hi => ⟨?_, ?_, ?_, ?_, ?_⟩⟩
    · rw [fLo 0 (by omega) (by omega) (by omega), hv.c, hs 0 (by omega) (by omega)]
    · rw [fL1, hv.w, h1]
    · rw [fL2, hv.e, h2]
    · rw [fLo 3 (by omega) (by omega) (by omega), hv.fw, hs 5 (by omega) (by omega)]
    · rw [fLo 4 (by omega) (by omega) (by omega), hv.fe, hs 6 (by omega) (by omega)]
    · rw [fLo 5 (by omega) (by omega) (by omega), hv.wl, hs 3 (by omega) (by omega)]
    · rw [fLo 6 (by omega) (by omega) (by omega), hv.el, hs 4 (by omega) (by omega)]
    · rw [fL7, hv.y, h8]
    · rw [fLo 8 (by omega) (by omega) (by omega), hv.p, e7]
    · rw [fn, h9]
    · rw [fo (L + 1) (by omega), hv.k (by omega), hs _ (by omega) (by omega)]
    · by_cases q : i = wk
      · subst q
        rw [fc, hv.cl hw, hc]
      · rw [fco i q, hv.cl (by omega), hs (11 + 5 * i) (by omega) (by omega)]
    · rw [fo (L + 3) (by omega), hv.fi (by omega), hs _ (by omega) (by omega)]
    · rw [fo (L + 4) (by omega), hv.td (by omega), hs _ (by omega) (by omega)]
    · rw [fo (L + 5) (by omega), hv.lw (by omega), hs _ (by omega) (by omega)]
  · by_cases q : e = n
    · subst q
      unfold DD
      rw [hx_n, hx_o (Nat.le_refl e)]
      exact ⟨by rw [g7]; exact i_eq_sub h1, by rw [g8]; exact i_eq_sub h2, by rw [g9]; exact i_eq_sub h8, wk, by omega, g10, by rw [g11]; exact i_eq_sub hc, fun i hi hne => hs _ (by omega) (by omega)⟩
    · have := hd.2 e (by omega)
      unfold DD at this ⊢
      rw [hx_o (by omega : e + 1 ≤ n), hx_o (by omega : e ≤ n), hx_n, e7, go e q (L + 7) (by omega) (by omega), go e q (L + 8) (by omega) (by omega), go e q (L + 9) (by omega) (by omega), go e q (L + 10) (by omega) (by omega), go e q (L + 11) (by omega) (by omega)]
      exact this
theorem t_act {P : Sg → Prop} (hL : LandAt L) (hd : DV S L H n) (hH : HI H n) (hn : n < 40) {wk : Nat} (hw : wk < H n 7) {wI eI yI cI : Int32} {m' : Nat → Nat}
    (h1 : nI (H n 1) + wI = nI (m' 1)) (h2 : nI (H n 2) + eI = nI (m' 2)) (h8 : nI (H n 8) + yI = nI (m' 8)) (hc : nI (H n (11 + 5 * wk)) + cI = nI (m' (11 + 5 * wk))) (h9 : m' 9 = n + 1)
    (hs : ∀ k, k < 40 → (k ≠ 1 ∧ k ≠ 2 ∧ k ≠ 8 ∧ k ≠ 9 ∧ k ≠ 11 + 5 * wk) → m' k = H n k)
    (h : ∀ T : Sg, DV T L (hx H n m') (n + 1) → (∀ k, k ≠ L → k ≠ L + 2 → ¬ (L + 6 ≤ k ∧ k < L + 12) → T.1 k = S.1 k) → T.2 = S.2 → P T) :
    Ct G l mX1_act (d + 2) [.ref L, .int wI, .int eI, .int yI, .int (nI wk), .int cI] S (QV P) := by
  have hv := hd.1
  obtain ⟨hI, e9⟩ := hH.2.1 n (Nat.le_refl n)
  have hp := hI.p6
  refine bX1_act_0 L hL _ _ _ _ _ (t_hasRoomFor hL hv hI (n := 1) (by omega) ?_)
  rw [decide_eq_true (by omega)]
  refine ⟨fun z => absurd z (by decide), fun _ => t_hasOne hL hv _ ?_⟩
  rw [decide_eq_true ⟨n_in (by omega), n_nle hw (by omega)⟩]
  refine ⟨fun _ => ⟨n, ix_i (hv.n.trans (by rw [e9])) hn (by omega), fun S1 e1 S2 e2 S3 e3 S4 e4 S5 e5 S6 e6 S7 e7 S8 e8 S9 e9' => ⟨wk, ix_nI (by omega) (by omega), fun S10 e10 => ?_⟩⟩, fun z => absurd z (by decide)⟩
  have hN := hv.n
  rw [e9] at hN
  subst e1 e2 e3 e4 e5 e6 e7 e8 e9' e10
  refine h _ (hd.act hH hw h1 h2 h8 hc h9 hs ?_ ?_ ?_ (fun i q1 q2 q3 => ?_) ?_ (fun i q => ?_) ?_ (fun k hk => ?_) ?_ ?_ ?_ ?_ ?_ (fun j q k q1 q2 => ?_)) (fun k q1 q2 q3 => ?_) rfl
  · simp (disch := omega) only [u2_o, u2_s, u2_n]
  · simp (disch := omega) only [u2_o, u2_s, u2_n]
  · simp (disch := omega) only [u2_o, u2_s, u2_n]
  · simp (disch := omega) only [u2_o, u2_s, u2_n]
  · simp (disch := omega) only [u2_o, u2_s, u2_n]
  · simp (disch := omega) only [u2_o, u2_s, u2_n]
  · simp (disch := omega) only [u2_o, u2_s, u2_n]
    rw [hN, z_add]
  · simp (disch := omega) only [u2_o, u2_s, u2_n]
  · simp (disch := omega) only [u2_o, u2_s, u2_n, Nat.add_assoc, Nat.reduceAdd]
  · simp (disch := omega) only [u2_o, u2_s, u2_n, Nat.add_assoc, Nat.reduceAdd]
  · simp (disch := omega) only [u2_o, u2_s, u2_n, Nat.add_assoc, Nat.reduceAdd]
  · simp (disch := omega) only [u2_o, u2_s, u2_n, Nat.add_assoc, Nat.reduceAdd]
  · simp (disch := omega) only [u2_o, u2_s, u2_n, Nat.add_assoc, Nat.reduceAdd]
  · rcases (show k = L + 7 ∨ k = L + 8 ∨ k = L + 9 ∨ k = L + 10 ∨ k = L + 11 by omega) with rfl | rfl | rfl | rfl | rfl <;> simp (disch := omega) only [u2_o, u2_s, u2_n, Nat.add_assoc, Nat.reduceAdd]
  · simp (disch := omega) only [u2_o]
theorem DV.back {T : Sg} {k : Nat} (hd : DV S L H (k + 1)) (hH : HI H (k + 1)) {wk : Nat} (hw : wk < H (k + 1) 7)
    (a1 : S.1 (L + 7) k = nI (H (k + 1) 1) - nI (H k 1)) (a2 : S.1 (L + 8) k = nI (H (k + 1) 2) - nI (H k 2)) (a3 : S.1 (L + 9) k = nI (H (k + 1) 8) - nI (H k 8))
    (b2 : S.1 (L + 11) k = nI (H (k + 1) (11 + 5 * wk)) - nI (H k (11 + 5 * wk))) (b3 : ∀ i, i < H (k + 1) 7 → i ≠ wk → H (k + 1) (11 + 5 * i) = H k (11 + 5 * i))
    (fL1 : T.1 L 1 = S.1 L 1 - S.1 (L + 7) k) (fL2 : T.1 L 2 = S.1 L 2 - S.1 (L + 8) k) (fL7 : T.1 L 7 = S.1 L 7 - S.1 (L + 9) k) (fLo : ∀ i, i ≠ 1 → i ≠ 2 → i ≠ 7 → T.1 L i = S.1 L i)
    (fc : T.1 (L + 2) wk = S.1 (L + 2) wk - S.1 (L + 11) k) (fco : ∀ i, i ≠ wk → T.1 (L + 2) i = S.1 (L + 2) i) (fn : T.1 (L + 6) 5 = nI k)
    (fo : ∀ j, j = L + 1 ∨ j = L + 3 ∨ j = L + 4 ∨ j = L + 5 ∨ (L + 7 ≤ j ∧ j < L + 12) → T.1 j = S.1 j) : DV T L H k := by
  have hv := hd.1
  obtain ⟨hI, e9⟩ := hH.2.1 k (by omega)
  have hp := hI.p6
  have hs := hH.2.2 k (by omega)
  have e7 := hs 7 (by omega) (by omega)
  refine ⟨?_, fun e he => ?_⟩
  · refine ⟨⟨?_, ?_, ?_, ?_, ?_, ?_, ?_, ?_, ?_, ?_⟩, fun i hi => ⟨?_, ?_, ?_, ?_, ?_⟩⟩
    · rw [fLo 0 (by omega) (by omega) (by omega), hv.c, hs 0 (by omega) (by omega)]
    · rw [fL1, hv.w, a1, i_ss]
    · rw [fL2, hv.e, a2, i_ss]
    · rw [fLo 3 (by omega) (by omega) (by omega), hv.fw, hs 5 (by omega) (by omega)]
    · rw [fLo 4 (by omega) (by omega) (by omega), hv.fe, hs 6 (by omega) (by omega)]
    · rw [fLo 5 (by omega) (by omega) (by omega), hv.wl, hs 3 (by omega) (by omega)]
    · rw [fLo 6 (by omega) (by omega) (by omega), hv.el, hs 4 (by omega) (by omega)]
    · rw [fL7, hv.y, a3, i_ss]
    · rw [fLo 8 (by omega) (by omega) (by omega), hv.p, e7]
    · rw [fn, e9]
    · rw [fo (L + 1) (by omega), hv.k (by omega), hs _ (by omega) (by omega)]
    · by_cases q : i = wk
      · subst q
        rw [fc, hv.cl hw, b2, i_ss]
      · rw [fco i q, hv.cl (by omega), b3 i (by omega) q]
    · rw [fo (L + 3) (by omega), hv.fi (by omega), hs _ (by omega) (by omega)]
    · rw [fo (L + 4) (by omega), hv.td (by omega), hs _ (by omega) (by omega)]
    · rw [fo (L + 5) (by omega), hv.lw (by omega), hs _ (by omega) (by omega)]
  · have := hd.2 e (by omega)
    unfold DD at this ⊢
    rw [fo (L + 7) (by omega), fo (L + 8) (by omega), fo (L + 9) (by omega), fo (L + 10) (by omega), fo (L + 11) (by omega), e7]
    exact this
theorem t_takeBack_l {P : Sg → Prop} (hL : LandAt L) (hH : HI H n) {t : Nat} (ht : t ≤ n)
    (h : ∀ T : Sg, DV T L H t → (∀ k, k ≠ L → k ≠ L + 2 → k ≠ L + 6 → T.1 k = S.1 k) → T.2 = S.2 → P T) : ∀ (k j : Nat), j + k = n - t → ∀ T : Sg, DV T L H (t + k) → (∀ k, k ≠ L → k ≠ L + 2 → k ≠ L + 6 → T.1 k = S.1 k) → T.2 = S.2 →
    Ev G l mX1_takeBack (d + 1) 2 [some (.ref L), some (.int (nI (n - t))), some (.int (nI j)), none] [] T (QV P) := by
  have h40 := hH.1
  intro k
  induction k with
  | zero =>
    intro j hj T hT hf h2
    refine bX1_takeBack_2 L hL _ _ ⟨fun _ => h T hT hf h2, fun q => ?_⟩
    rw [z_le (by omega) (by omega)] at q
    omega
  | succ k ih =>
    intro j hj T hT hf h2
    have hH1 := hH.cut (t := t + k + 1) (by omega)
    obtain ⟨hI, e9⟩ := hH1.2.1 (t + k + 1) (Nat.le_refl _)
    have hp := hI.p6
    have hN := hT.1.n
    rw [show t + (k + 1) = t + k + 1 by omega] at hT hN
    rw [e9] at hN
    obtain ⟨a1, a2, a3, wk, hw, b1, b2, b3⟩ := hT.2 (t + k) (by omega)
    refine bX1_takeBack_2 L hL _ _ ⟨fun q => ?_, fun _ => ⟨fun q => ?_, fun _ => ⟨t + k, ix_i (by rw [hN, z_sub (by omega)]; rfl) (by omega) (by omega), fun S1 e1 S2 e2 S3 e3 => ⟨wk, ?_, fun S4 e4 S5 e5 => ?_⟩⟩⟩⟩
    · rw [z_le (by omega) (by omega)] at q
      omega
    · rw [hN, z_le (by omega) (by omega)] at q
      omega
    · subst e1 e2 e3
      simp (disch := omega) only [u2_o, Nat.add_assoc, Nat.reduceAdd]
      rw [b1]
      exact ix_nI (by omega) (by omega)
    · subst e1 e2 e3 e4 e5
      rw [z_add]
      refine ih (j + 1) (by omega) _ (hT.back hH1 hw a1 a2 a3 b2 b3 ?_ ?_ ?_ (fun i q1 q2 q3 => ?_) ?_ (fun i q => ?_) ?_ (fun k hk => ?_)) (fun i q1 q2 q3 => ?_) h2
      · simp (disch := omega) only [u2_o, u2_s, u2_n, Nat.add_assoc, Nat.reduceAdd]
      · simp (disch := omega) only [u2_o, u2_s, u2_n, Nat.add_assoc, Nat.reduceAdd]
      · simp (disch := omega) only [u2_o, u2_s, u2_n, Nat.add_assoc, Nat.reduceAdd]
      · simp (disch := omega) only [u2_o, u2_s, u2_n, Nat.add_assoc, Nat.reduceAdd]
      · simp (disch := omega) only [u2_o, u2_s, u2_n, Nat.add_assoc, Nat.reduceAdd]
      · simp (disch := omega) only [u2_o, u2_s, u2_n, Nat.add_assoc, Nat.reduceAdd]
      · simp (disch := omega) only [u2_o, u2_s, u2_n, Nat.add_assoc, Nat.reduceAdd]
        rw [hN, z_sub (by omega)]
        rfl
      · simp (disch := omega) only [u2_o, u2_s, u2_n, Nat.add_assoc, Nat.reduceAdd]
      · rw [← hf i q1 q2 q3]
        simp (disch := omega) only [u2_o, u2_s, u2_n, Nat.add_assoc, Nat.reduceAdd]
theorem t_takeBack {P : Sg → Prop} (hL : LandAt L) (hH : HI H n) (hd : DV S L H n) {t : Nat} (ht : t ≤ n)
    (h : ∀ T : Sg, DV T L H t → (∀ k, k ≠ L → k ≠ L + 2 → k ≠ L + 6 → T.1 k = S.1 k) → T.2 = S.2 → P T) : Ct G l mX1_takeBack (d + 1) [.ref L, .int (nI (n - t))] S (QV P) :=
  bX1_takeBack_0 L hL _ (t_takeBack_l hL hH ht h (n - t) 0 (by omega) S (by rw [show t + (n - t) = n by omega]; exact hd) (fun _ _ _ _ => rfl) rfl)
theorem DV.mv {T : Sg} {L0 : Nat} (hd : DV S L H n) (h40 : n ≤ 40) (hp : H n 7 ≤ 6) (f0 : ∀ i, i < 9 → T.1 L0 i = S.1 L i) (f1 : ∀ j, 1 ≤ j → j ≤ 5 → ∀ i, i < 6 → T.1 (L0 + j) i = S.1 (L + j) i) (f6 : T.1 (L0 + 6) 5 = S.1 (L + 6) 5) (f7 : ∀ j, 7 ≤ j → j ≤ 11 → ∀ i, i < 40 → T.1 (L0 + j) i = S.1 (L + j) i) : DV T L0 H n := by
  refine ⟨⟨?_, fun i hi => ?_⟩, fun e he => ?_⟩
  · have := hd.1.1
    unfold LVh at this ⊢
    rw [f0 0 (by omega), f0 1 (by omega), f0 2 (by omega), f0 3 (by omega), f0 4 (by omega), f0 5 (by omega), f0 6 (by omega), f0 7 (by omega), f0 8 (by omega), f6]
    exact this
  · have := hd.1.2 i hi
    unfold LVp at this ⊢
    rw [f1 1 (by omega) (by omega) i (by omega), f1 2 (by omega) (by omega) i (by omega), f1 3 (by omega) (by omega) i (by omega), f1 4 (by omega) (by omega) i (by omega), f1 5 (by omega) (by omega) i (by omega)]
    exact this
  · have := hd.2 e he
    unfold DD at this ⊢
    rw [f7 7 (by omega) (by omega) e (by omega), f7 8 (by omega) (by omega) e (by omega), f7 9 (by omega) (by omega) e (by omega), f7 10 (by omega) (by omega) e (by omega), f7 11 (by omega) (by omega) e (by omega)]
    exact this
theorem cpy0 (f g : Nat → Int32) {n i : Nat} (h : i < n) : va_cpy f g 0 0 n i = f i := by
  unfold va_cpy
  rw [if_pos (by omega), Nat.sub_zero, Nat.zero_add]
theorem cb_s {L0 L j : Nat} (hne : L0 ≠ L) {S T T' : Sg} (h : (∀ i, i < j → T.1 L0 i = S.1 L i) ∧ (∀ k, k ≠ L0 → T.1 k = S.1 k) ∧ T.2 = S.2) (e : T' = (u2 T.1 L0 j (T.1 L j), T.2)) : (∀ i, i < j + 1 → T'.1 L0 i = S.1 L i) ∧ (∀ k, k ≠ L0 → T'.1 k = S.1 k) ∧ T'.2 = S.2 := by
  subst e
  refine ⟨fun i hi => ?_, fun k hk => ?_, h.2.2⟩
  · show u2 T.1 L0 j (T.1 L j) L0 i = _
    by_cases q : i = j
    · subst q
      rw [u2_s, h.2.1 L (Ne.symm hne)]
    · rw [u2_n _ q]
      exact h.1 i (by omega)
  · show u2 T.1 L0 j (T.1 L j) k = _
    rw [u2_o _ hk]
    exact h.2.1 k hk
theorem ca_s {a b N j : Nat} (hab : a + 6 ≤ b ∨ b + 6 ≤ a) (hj : j < 5) {S T T' : Sg} (h : (∀ q, 1 ≤ q → q ≤ j → ∀ i, i < N → T.1 (a + q) i = S.1 (b + q) i) ∧ (∀ k, ¬ (a + 1 ≤ k ∧ k < a + 1 + j) → T.1 k = S.1 k) ∧ T.2 = S.2) (e : T' = (u1 T.1 (a + (j + 1)) (va_cpy (T.1 (b + (j + 1))) (T.1 (a + (j + 1))) 0 0 N), T.2)) : (∀ q, 1 ≤ q → q ≤ j + 1 → ∀ i, i < N → T'.1 (a + q) i = S.1 (b + q) i) ∧ (∀ k, ¬ (a + 1 ≤ k ∧ k < a + 1 + (j + 1)) → T'.1 k = S.1 k) ∧ T'.2 = S.2 := by
  subst e
  refine ⟨fun q h1 h2 i hi => ?_, fun k hk => ?_, h.2.2⟩
  · show u1 T.1 (a + (j + 1)) _ (a + q) i = _
    by_cases z : q = j + 1
    · subst z
      rw [u1_s, cpy0 _ _ hi, h.2.1 (b + (j + 1)) (by omega)]
    · rw [u1_o _ (by omega)]
      exact h.1 q h1 (by omega) i hi
  · show u1 T.1 (a + (j + 1)) _ k = _
    rw [u1_o _ (by omega)]
    exact h.2.1 k (by omega)
theorem t_becomeAs {P : Sg → Prop} {L0 : Nat} (hL0 : LandAt L0) (hL : LandAt L) (hne : L0 ≠ L)
    (h : ∀ T : Sg, (∀ i, i < 9 → T.1 L0 i = S.1 L i) → (∀ j, 1 ≤ j → j ≤ 5 → ∀ i, i < 6 → T.1 (L0 + j) i = S.1 (L + j) i) → T.1 (L0 + 6) 5 = S.1 (L + 6) 5 → (∀ j, 7 ≤ j → j ≤ 11 → ∀ i, i < 40 → T.1 (L0 + j) i = S.1 (L + j) i) → (∀ k, ¬ (L0 ≤ k ∧ k < L0 + 12) → T.1 k = S.1 k) → T.2 = S.2 → P T) :
    Ct G l mX1_becomeAs (d + 2) [.ref L0, .ref L] S (QV P) := by
  have hl : L0 + 12 ≤ L ∨ L + 12 ≤ L0 := by
    unfold LandAt at hL0 hL
    omega
  refine bX1_becomeAs_0 L0 hL0 L hL (fun S1 e1 S2 e2 S3 e3 S4 e4 S5 e5 S6 e6 S7 e7 S8 e8 S9 e9 S10 e10 S11 e11 S12 e12 S13 e13 S14 e14 => ?_)
  have K9 := cb_s hne (cb_s hne (cb_s hne (cb_s hne (cb_s hne (cb_s hne (cb_s hne (cb_s hne (cb_s (j := 0) hne ⟨fun i hi => absurd hi (Nat.not_lt_zero i), fun _ _ => rfl, rfl⟩ e1) e2) e3) e4) e5) e6) e7) e8) e9
  have hab : L0 + 6 ≤ L ∨ L + 6 ≤ L0 := by omega
  have K14 := ca_s hab (by omega) (ca_s hab (by omega) (ca_s hab (by omega) (ca_s hab (by omega) (ca_s (S := S9) (N := 6) (j := 0) hab (by omega) ⟨fun q h1 h2 => by omega, fun _ _ => rfl, rfl⟩ e10) e11) e12) e13) e14
  clear e1 e2 e3 e4 e5 e6 e7 e8 e9 e10 e11 e12 e13 e14
  refine bX0_becomeAs_0 (L0 + 6) (la_deeds hL0) (L + 6) (la_deeds hL) (fun T1 e1 T2 e2 T3 e3 T4 e4 T5 e5 T6 e6 => ?_)
  have hcd : L0 + 6 + 6 ≤ L + 6 ∨ L + 6 + 6 ≤ L0 + 6 := by omega
  have K6 := ca_s hcd (by omega) (ca_s hcd (by omega) (ca_s hcd (by omega) (ca_s hcd (by omega) (ca_s (S := T1) (N := 40) (j := 0) hcd (by omega) ⟨fun q h1 h2 => by omega, fun _ _ => rfl, rfl⟩ e2) e3) e4) e5) e6
  clear e2 e3 e4 e5 e6
  obtain ⟨a1, a2, a3⟩ := K9
  obtain ⟨b1, b2, b3⟩ := K14
  obtain ⟨c1, c2, c3⟩ := K6
  have f1 : ∀ k, k ≠ L0 + 6 → T1.1 k = S14.1 k := fun k hk => by
    rw [e1]
    exact u2_o _ hk
  have f2 : T1.1 (L0 + 6) 5 = S14.1 (L + 6) 5 := by
    rw [e1]
    exact u2_s _
  have f3 : T1.2 = S14.2 := by rw [e1]
  refine h _ (fun i hi => ?_) (fun j h1 h2 i hi => ?_) ?_ (fun j h1 h2 i hi => ?_) (fun k hk => ?_) ((c3.trans f3).trans (b3.trans a3))
  · rw [c2 _ (by omega), f1 _ (by omega), b2 _ (by omega)]
    exact a1 i hi
  · rw [c2 _ (by omega), f1 _ (by omega), b1 j h1 (by omega) i hi, a2 _ (by omega)]
  · rw [c2 _ (by omega), f2, b2 _ (by omega), a2 _ (by omega)]
  · have := c1 (j - 6) (by omega) (by omega) i hi
    rw [show L0 + 6 + (j - 6) = L0 + j by omega, show L + 6 + (j - 6) = L + j by omega] at this
    rw [this, f1 _ (by omega), b2 _ (by omega), a2 _ (by omega)]
  · rw [c2 _ (by omega), f1 _ (by omega), b2 _ (by omega), a2 _ (by omega)]
end deeds
