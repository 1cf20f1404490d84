/-! undo, keep, on -/
section keep
variable {G : Gl} {l : Launch} {d : Nat} {S : Sg} {H : Nat → Nat → Nat} {n : Nat} {m : Nat → Nat} {P : Int32 → Sg → Prop} {F : Int32 → Int32 → Sg → Prop}
/-- what undo() has brought back, up to a cell -/
def UdI (M Mi : Nat → Int32) (H : Nat → Nat → Nat) (t i : Nat) : Prop := (∀ k, k < 40 → k ≠ 9 → (∀ j, i ≤ j → j < 6 → k ≠ 11 + 5 * j) → Mi k = nI (H t k)) ∧ ∀ j, 40 ≤ j → Mi j = M j
theorem u_undo_l {T : Sg} {M : Nat → Int32} {t : Nat} (hn : n ≤ 40) (ht : t < n) (hM : MD M H t) {v : Int32} (h : ∀ Mi, UdI M Mi H t 6 → P v (u1 T.1 93 (upd Mi 9 (nI t)), T.2)) : ∀ (k i : Nat), i + k = 6 → ∀ Mi, UdI M Mi H t i → Ev G l mX5_undo (d + 2) 83 [some (.ref 7), some (.int (nI t)), some (.int v), some (.int (nI (40 + 9 * t))), some (.int (nI i))] [] (u1 T.1 93 Mi, T.2) (QI P) := by
  intro k
  induction k with
  | zero =>
    intro i hi Mi hMi
    obtain rfl : i = 6 := by omega
    refine bX5_undo_83 _ _ _ _ ⟨fun _ S1 e1 => ?_, fun q => absurd (by decide) q⟩
    have e : S1 = (u1 T.1 93 (upd Mi 9 (nI t)), T.2) := by
      rw [e1]
      simp only [u1_put]
    rw [e]
    exact h Mi hMi
  | succ k ih =>
    intro i hi Mi hMi
    refine bX5_undo_83 _ _ _ _ ⟨fun q => ?_, fun _ => ⟨43 + 9 * t + i, ix_i (by rw [z_add, z_add]; congr 1; omega) (by omega) (by omega), 11 + 5 * i, ix_i (z_at i 1) (by omega) (by omega), fun S1 e1 => ?_⟩⟩
    · rw [z_le (by omega) (by omega)] at q
      omega
    · have e : S1 = (u1 T.1 93 (upd Mi (11 + 5 * i) (nI (H t (11 + 5 * i)))), T.2) := by
        rw [e1]
        simp only [u1_put, u1_s]
        rw [hMi.2 _ (by omega), hM.2.2.2 i (by omega)]
      rw [e, z_add]
      refine ih (i + 1) (by omega) _ ⟨fun a ha h9 hc => ?_, fun a ha => ?_⟩
      · by_cases q : a = 11 + 5 * i
        · subst q
          exact pk_us
        · rw [pk_un q]
          refine hMi.1 a ha h9 (fun j h1 h2 => ?_)
          by_cases q2 : j = i
          · subst q2
            exact q
          · exact hc j (by omega) h2
      · rw [pk_un (by omega)]
        exact hMi.2 a ha
theorem u_undo {T : Sg} {t : Nat} (hH : HI H n) (hM : MH (T.1 93) H n) (ht : t < n) (h : ∀ M', MH M' H t → P (nI (n - t)) (u1 T.1 93 M', T.2)) : Ct G l mX5_undo (d + 2) [.ref 7, .int (nI t)] T (QI P) := by
  have h40 := hH.1
  have e9 : T.1 93 9 = nI n := by rw [hM.1 9 (by omega), (hH.2.1 n (Nat.le_refl n)).2]
  have hMt := hM.2 t ht
  refine bX5_undo_0 _ ?_
  rw [e9]
  refine u_in _ _ _ ?_
  rw [b2y ⟨n_in (by omega), by rw [z_lt (by omega) (by omega)]; omega⟩, e9, z_sub (by omega)]
  refine ⟨fun _ => ⟨fun q => ?_, fun _ => ⟨40 + 9 * t, ix_i (by rw [z_mul, z_add]) (by omega) (by omega), fun S1 e1 => ⟨41 + 9 * t, ix_i (by rw [z_mul, z_add, z_add]; congr 1; omega) (by omega) (by omega), fun S2 e2 => ⟨42 + 9 * t, ix_i (by rw [z_mul, z_add, z_add]; congr 1; omega) (by omega) (by omega), fun S3 e3 => ?_⟩⟩⟩⟩, fun z => absurd z (by decide)⟩
  · rw [z_le (by omega) (by omega)] at q
    omega
  · have e : S3 = (u1 T.1 93 (upd (upd (upd (T.1 93) 1 (nI (H t 1))) 2 (nI (H t 2))) 8 (nI (H t 8))), T.2) := by
      rw [e3, e2, e1]
      simp (disch := omega) only [u2_n, u2_as1, u1_u1, u1_s, pk_un]
      rw [hMt.1, hMt.2.1, hMt.2.2.1]
    rw [e, z_mul, z_add]
    refine u_undo_l h40 ht hMt (fun Mi hMi => h _ ⟨fun k hk => ?_, fun e he => ?_⟩) 6 0 rfl _ ⟨fun k hk h9 hc => ?_, fun j hj => ?_⟩
    · by_cases q : k = 9
      · subst q
        rw [pk_us, (hH.2.1 t (by omega)).2]
      · rw [pk_un q]
        exact hMi.1 k hk q (fun j h1 h2 => by omega)
    · refine (hM.2 e (by omega)).mv (fun j hj => ?_)
      rw [pk_un (by omega), hMi.2 j hj]
    · rcases (show k = 1 ∨ k = 2 ∨ k = 8 ∨ (k ≠ 1 ∧ k ≠ 2 ∧ k ≠ 8) by omega) with rfl | rfl | rfl | q
      · rw [pk_un (by omega), pk_un (by omega), pk_us]
      · rw [pk_un (by omega), pk_us]
      · rw [pk_us]
      · rw [pk_un q.2.2, pk_un q.2.1, pk_un q.1, hM.1 k hk, hH.2.2 t (by omega) k hk]
        refine Classical.byContradiction (fun z => ?_)
        exact hc ((k - 11) / 5) (by omega) (by omega) (by omega)
    · rw [pk_un (by omega), pk_un (by omega), pk_un (by omega)]
theorem pm_undo (hR : R S) (i : Int32) (h : ∀ r S', R S' → F r r S') : Ct G l mX4_undo (d + 20) [.ref 0, .int i] S (QI (fun r T => Ct G l mX5_undo (d + 20) [.ref 7, .int i] T (QI (fun r2 T2 => F r r2 T2)))) := by
  obtain ⟨H, n, hH, hD, hM⟩ := hR.2.2.2.2.2.1
  obtain ⟨hI, e9⟩ := hH.2.1 n (Nat.le_refl n)
  have hu : MV S (H n) := hM.1
  have h40 := hH.1
  have e34 : S.1 34 5 = nI n := by
    have := hD.1.n
    rw [e9] at this
    exact this
  have u9 : S.1 93 9 = nI n := by rw [hu 9 (by omega), e9]
  refine bX4_undo_0 _ ?_
  rw [e34]
  rcases o_cases i (n + 1) (by omega) with q | ⟨t, ht, rfl⟩
  · have hm : Ct G l mX5_undo (d + 20) [.ref 7, .int i] S (QI (fun r2 T2 => F (-1) r2 T2)) := by
      refine bX5_undo_0 _ ?_
      rw [u9]
      refine u_in _ _ _ ?_
      rw [b2f (fun z => q.elim z.1 (fun q => z.2 (z_nle.mp (fun w => (z_le_succ i (by omega)).mp w q))))]
      exact ⟨fun z => absurd rfl z, fun _ => h _ _ hR⟩
    refine ⟨fun _ => hm, fun q0 => ⟨fun z => ?_, fun _ => hm⟩⟩
    exact absurd (q.resolve_left q0) ((z_le_succ i (by omega)).mp z)
  · refine ⟨fun z => absurd z (n_in (by omega)), fun _ => ⟨fun _ => ?_, fun z => absurd (by rw [z_le (by omega) (by omega)]; omega) z⟩⟩
    rw [z_sub (by omega)]
    refine t_takeBack la28 hH hD (t := t) (by omega) (fun T hT hf2 h2 => ?_)
    have e93 : T.1 93 = S.1 93 := hf2 93 (by omega) (by omega) (by omega)
    have hMT : MH (T.1 93) H n := by rw [e93]; exact hM
    by_cases q : t < n
    · exact u_undo hH hMT q (fun M' hM' => h _ _ (hR.deed (fun k a b c => hf2 k (by omega) (by omega) (by omega)) h2 (hH.cut (by omega)) hT hM'))
    · obtain rfl : t = n := by omega
      refine bX5_undo_0 _ ?_
      rw [e93, u9]
      refine u_in _ _ _ ?_
      rw [b2y ⟨n_in (by omega), by rw [z_lt (by omega) (by omega)]; omega⟩, e93, u9, z_sub (Nat.le_refl _), Nat.sub_self]
      refine ⟨fun _ => ⟨fun _ => ?_, fun z => absurd (by decide) z⟩, fun z => absurd z (by decide)⟩
      have := hR.deed (T := T) (M' := T.1 93) (fun k a b c => hf2 k (by omega) (by omega) (by omega)) h2 hH hT hMT
      rw [u1_id _ _ rfl] at this
      exact h _ _ this
theorem MH.cg {M M' : Nat → Int32} (h : MH M H n) (hn : n ≤ 40) (e : ∀ j, j < 400 → M' j = M j) : MH M' H n := by
  refine ⟨fun k hk => by rw [e k (by omega)]; exact h.1 k hk, fun d hd => ?_⟩
  have := h.2 d hd
  exact ⟨by rw [e _ (by omega)]; exact this.1, by rw [e _ (by omega)]; exact this.2.1, by rw [e _ (by omega)]; exact this.2.2.1, fun i hi => by rw [e _ (by omega)]; exact this.2.2.2 i hi⟩
theorem cpy_s (f g : Nat → Int32) (a b i : Nat) : upd (va_cpy f g a b i) (b + i) (f (a + i)) = va_cpy f g a b (i + 1) := by
  funext j
  unfold upd va_cpy
  by_cases q : j = b + i
  · subst q
    rw [if_pos rfl, if_pos (show b ≤ b + i ∧ b + i < b + (i + 1) by omega), show b + i - b = i by omega]
  · rw [if_neg q]
    by_cases q2 : b ≤ j ∧ j < b + i
    · rw [if_pos q2, if_pos (show b ≤ j ∧ j < b + (i + 1) by omega)]
    · rw [if_neg q2, if_neg (show ¬ (b ≤ j ∧ j < b + (i + 1)) by omega)]
theorem cpy_in (f g : Nat → Int32) {a b n j : Nat} (h : j < n) : va_cpy f g a b n (b + j) = f (a + j) := by
  unfold va_cpy
  rw [if_pos (show b ≤ b + j ∧ b + j < b + n by omega), show b + j - b = j by omega]
theorem cpy_out (f g : Nat → Int32) {a b n j : Nat} (h : j < b ∨ b + n ≤ j) : va_cpy f g a b n j = g j := by
  unfold va_cpy
  rw [if_neg (show ¬ (b ≤ j ∧ j < b + n) by omega)]
theorem u_copies {A0 A2 a b : Nat} (h0 : kd A0 = 10) (h2 : kd A2 = 10) (hne : A0 ≠ A2) (l0 : ln A0 ≤ 1200) (l2 : ln A2 ≤ 1200) (ha : a + 400 ≤ ln A0) (hb : b + 400 ≤ ln A2) {Q : Sg → Prop} (h : Q (u1 S.1 A2 (va_cpy (S.1 A0) (S.1 A2) a b 400), S.2)) : Ct G l mX5_copies (d + 1) [.ref A0, .int (nI a), .ref A2, .int (nI b)] S (QV Q) := by
  have hl : ∀ (k i : Nat), i + k = 400 → Ev G l mX5_copies (d + 1) 3 [some (.ref A0), some (.int (nI a)), some (.ref A2), some (.int (nI b)), some (.int (nI i))] [] (u1 S.1 A2 (va_cpy (S.1 A0) (S.1 A2) a b i), S.2) (QV Q) := by
    intro k
    induction k with
    | zero =>
      intro i hi
      obtain rfl : i = 400 := by omega
      exact bX5_copies_3 A0 h0 _ A2 h2 _ _ ⟨fun _ => h, fun q => absurd (by decide) q⟩
    | succ k ih =>
      intro i hi
      refine bX5_copies_3 A0 h0 _ A2 h2 _ _ ⟨fun q => ?_, fun _ => ⟨a + i, ix_i (z_add a i) (by omega) (by omega), b + i, ix_i (z_add b i) (by omega) (by omega), fun S1 e1 => ?_⟩⟩
      · rw [z_le (by omega) (by omega)] at q
        omega
      · have e : S1 = (u1 S.1 A2 (va_cpy (S.1 A0) (S.1 A2) a b (i + 1)), S.2) := by
          rw [e1, ← cpy_s]
          simp only [u1_put]
          rw [u1_o _ hne]
        rw [e, z_add]
        exact ih (i + 1) (by omega)
  refine bX5_copies_0 A0 h0 _ A2 h2 _ ?_
  have := hl 400 0 rfl
  rw [u1_id _ _ (by funext j; exact cpy_out _ _ (by omega))] at this
  exact this
/-- a LAND is kept on both sides -/
theorem R.keep (hR : R S) {T : Sg} {k : Nat} (hf : ∀ a, ¬ (52 + 12 * k ≤ a ∧ a < 64 + 12 * k) → a ≠ 95 → a ≠ 96 → T.1 a = S.1 a) (h95 : ∀ k', k' < 3 → k' ≠ k → ∀ j, j < 400 → T.1 95 (400 * k' + j) = S.1 95 (400 * k' + j)) (h96 : ∀ k', k' ≠ k → T.1 96 k' = S.1 96 k') (h2 : T.2 = S.2) (hk : k < 3) (hK : RK T k) : R T := by
  have E : ∀ a, a < 52 ∨ (88 ≤ a ∧ a < 95) ∨ a = 97 → T.1 a = S.1 a := fun a ha => hf a (by omega) (by omega) (by omega)
  refine ⟨fun x hx => (hR.1 x hx).fr E (by omega), fun y hy => (hR.2.1 y hy).fr E (by omega), hR.2.2.1.fr (E _ (by omega)) (E _ (by omega)) (E _ (by omega)) (E _ (by omega)), ?_, ?_, hR.2.2.2.2.2.1.fr E ⟨fun k h1 h2 => by omega, by omega⟩, fun k' hk' => ?_⟩
  · unfold RQ
    rw [E 0 (by omega), E 7 (by omega)]
    exact hR.2.2.2.1
  · unfold RL2
    rw [h2]
    exact hR.2.2.2.2.1
  · by_cases q : k' = k
    · subst q
      exact hK
    · have E2 : ∀ a, (52 + 12 * k' ≤ a ∧ a < 64 + 12 * k') → T.1 a = S.1 a := fun a ha => hf a (by omega) (by omega) (by omega)
      rcases hR.2.2.2.2.2.2 k' hk' with ⟨q1, q2⟩ | ⟨q1, H, n, q2, q3, q4, q5⟩
      · exact Or.inl ⟨by rw [h96 k' q]; exact q1, by rw [E2 _ (by omega)]; exact q2⟩
      · exact Or.inr ⟨by rw [h96 k' q]; exact q1, H, n, q2, q3, q4.fr E2 (fun a a1 a2 => by omega), q5.cg q3.1 (fun j hj => h95 k' hk' q j hj)⟩
theorem kd_93 : kd 93 = 10 := rfl
theorem kd_95 : kd 95 = 10 := rfl
theorem ln_93 : ln 93 = 400 := rfl
theorem ln_95 : ln 95 = 1200 := rfl
theorem pm_keep (hR : R S) (i : Int32) (h : ∀ r S', R S' → F r r S') : Ct G l mX4_keep (d + 20) [.ref 0, .int i] S (QI (fun r T => Ct G l mX5_keep (d + 20) [.ref 7, .int i] T (QI (fun r2 T2 => F r r2 T2)))) := by
  obtain ⟨H, n, hH, hD, hM⟩ := hR.2.2.2.2.2.1
  obtain ⟨hI, e9⟩ := hH.2.1 n (Nat.le_refl n)
  have hv := hD.1
  have hu : MV S (H n) := hM.1
  have h40 := hH.1
  refine bX4_keep_0 _ (t_isKept _ ?_)
  rcases o_cases i 3 (by omega) with q | ⟨k, hk, rfl⟩
  · rw [b2n_n q]
    refine ⟨fun z => absurd rfl z, fun _ => bX5_keep_0 _ (u_inN _ 3 2 rfl (by omega) ?_)⟩
    rw [b2n_n q]
    exact ⟨fun z => absurd rfl z, fun _ => h _ _ hR⟩
  rw [b2n_y hk (by omega)]
  refine ⟨fun _ => t_isThere la28 hv hI ?_, fun z => absurd z (by decide)⟩
  by_cases hc : 0 < H n 0
  · rw [b2y hc]
    have hL : LandAt (52 + 12 * k) := by unfold LandAt; omega
    refine ⟨fun _ => ⟨k, ix_nI hk (by omega), t_becomeAs hL la28 (by omega) (fun T t0 t1 t6 t7 tf t2 => ?_)⟩, fun z => absurd z (by decide)⟩
    have hDT : DV T (52 + 12 * k) H n := hD.mv h40 hI.p6 t0 t1 t6 t7
    have e34 : T.1 34 5 = nI n := by
      rw [tf 34 (by omega)]
      have := hv.n
      rw [e9] at this
      exact this
    have e93 : T.1 93 = S.1 93 := tf 93 (by omega)
    have huT : MV T (H n) := by
      intro a ha
      rw [e93]
      exact hu a ha
    rw [e34]
    refine bX5_keep_0 _ (u_inN _ 3 2 rfl (by omega) ?_)
    rw [b2n_y hk (by omega)]
    refine ⟨fun _ => u_are huT hI ?_, fun z => absurd z (by decide)⟩
    rw [b2y hc, z_mul]
    refine ⟨fun _ => u_copies kd_93 kd_95 (by omega) (by rw [ln_93]; omega) (by rw [ln_95]; omega) (by rw [ln_93]; omega) (by rw [ln_95]; omega) ⟨k, ix_nI hk (by omega), fun S1 e1 => ?_⟩, fun z => absurd z (by decide)⟩
    have e : S1.1 = u2 (u1 T.1 95 (va_cpy (T.1 93) (T.1 95) 0 (400 * k) 400)) 96 k (nI 1) := by rw [e1]
    have e2 : S1.2 = T.2 := by rw [e1]
    clear e1
    have e95 : S1.1 95 = va_cpy (T.1 93) (T.1 95) 0 (400 * k) 400 := by
      rw [e, u2_o _ (by omega), u1_s]
    have eo : ∀ a, a ≠ 95 → a ≠ 96 → S1.1 a = T.1 a := fun a h1 h2 => by
      rw [e, u2_o _ h2, u1_o _ h1]
    rw [eo 93 (by omega) (by omega), huT 9 (by omega), e9]
    refine h _ _ (hR.keep (k := k) (fun a a1 a2 a3 => ?_) (fun k' hk' hne j hj => ?_) (fun k' hne => ?_) (e2.trans t2) hk (Or.inr ⟨?_, H, n, hc, hH, ?_, ?_⟩))
    · rw [eo a a2 a3]
      exact tf a (by omega)
    · rw [e95, cpy_out _ _ (by omega), tf 95 (by omega)]
    · rw [e, u2_n _ hne, u1_o _ (by omega), tf 96 (by omega)]
    · rw [e, u2_s]
    · exact hDT.fr (A := fun a => a ≠ 95 ∧ a ≠ 96) (fun a ha => eo a ha.1 ha.2) (fun a a1 a2 => by omega)
    · refine hM.cg h40 (fun j hj => ?_)
      rw [e95, cpy_in _ _ hj, e93, Nat.zero_add]
  · rw [b2f hc]
    refine ⟨fun z => absurd rfl z, fun _ => bX5_keep_0 _ (u_inN _ 3 2 rfl (by omega) ?_)⟩
    rw [b2n_y hk (by omega)]
    refine ⟨fun _ => u_are hu hI ?_, fun z => absurd z (by decide)⟩
    rw [b2f hc]
    exact ⟨fun z => absurd rfl z, fun _ => h _ _ hR⟩
theorem R.deed2 (hR : R S) {T : Sg} {M' : Nat → Int32} (hf : ∀ k, ¬ (28 ≤ k ∧ k < 40) → T.1 k = S.1 k) (h2 : T.2 = S.2) (hH : HI H n) (hd : DV T 28 H n) (hm : MH M' H n) : R (u1 T.1 93 M', T.2) := by
  have E : ∀ k, k < 28 ∨ (52 ≤ k ∧ k < 93) ∨ (95 ≤ k ∧ k ≤ 97) → (u1 T.1 93 M', T.2).1 k = S.1 k := fun k hk => by
    show u1 T.1 93 M' k = _
    rw [u1_o _ (by omega)]
    exact hf k (by omega)
  refine ⟨fun x hx => (hR.1 x hx).fr E (by omega), fun y hy => (hR.2.1 y hy).fr E (by omega), hR.2.2.1.fr (E _ (by omega)) (E _ (by omega)) (E _ (by omega)) (E _ (by omega)), ?_, ?_, ⟨H, n, hH, hd.fr (A := fun k => k ≠ 93) (fun k hk => u1_o _ hk) (fun k _ _ => by omega), ?_⟩, fun k hk => (hR.2.2.2.2.2.2 k hk).fr E ⟨fun j h1 h2 => by omega, by omega, by omega⟩⟩
  · unfold RQ
    rw [E 0 (by omega), E 7 (by omega)]
    exact hR.2.2.2.1
  · unfold RL2
    rw [show (u1 T.1 93 M', T.2).2 = S.2 from h2]
    exact hR.2.2.2.2.1
  · show MH (u1 T.1 93 M' 93) H n
    rw [u1_s]
    exact hm
theorem pm_on (hR : R S) (i : Int32) (h : ∀ r S', R S' → F r r S') : Ct G l mX4_on (d + 20) [.ref 0, .int i] S (QI (fun r T => Ct G l mX5_on (d + 20) [.ref 7, .int i] T (QI (fun r2 T2 => F r r2 T2)))) := by
  refine bX4_on_0 _ (t_isKept _ ?_)
  rcases o_cases i 3 (by omega) with q | ⟨k, hk, rfl⟩
  · rw [b2n_n q]
    refine ⟨fun z => absurd rfl z, fun _ => bX5_on_0 _ (u_inN _ 3 2 rfl (by omega) ?_)⟩
    rw [b2n_n q]
    exact ⟨fun z => absurd rfl z, fun _ => h _ _ hR⟩
  rw [b2n_y hk (by omega)]
  have hL : LandAt (52 + 12 * k) := by unfold LandAt; omega
  refine ⟨fun _ => ⟨k, ix_nI hk (by omega), ?_⟩, fun z => absurd z (by decide)⟩
  rcases hR.2.2.2.2.2.2 k hk with ⟨q1, q2⟩ | ⟨q1, H, n, hc, hH, hD, hM⟩
  · refine bX1_isThere_0 _ hL (fun x ex => ?_)
    rw [q2] at ex
    have ex' : x = nI 0 := by
      rw [ex]
      decide
    subst ex'
    refine ⟨fun z => absurd rfl z, fun _ => t_refuse (by omega) (bX5_on_0 _ (u_inN _ 3 2 rfl (by omega) ?_))⟩
    rw [b2n_y hk (by omega)]
    refine ⟨fun _ => ⟨k, ix_nI hk (by omega), fun z => ?_, fun _ => u_finds (by omega) (h _ _ (hR.found (by omega)))⟩, fun z => absurd z (by decide)⟩
    rw [fdD_88 1 96 (by omega)] at z
    exact absurd q1 z
  · obtain ⟨hI, e9⟩ := hH.2.1 n (Nat.le_refl n)
    have h40 := hH.1
    refine t_isThere hL hD.1 hI ?_
    rw [b2y hc]
    refine ⟨fun _ => t_becomeAs la28 hL (by omega) (fun T t0 t1 t6 t7 tf t2 => ?_), fun z => absurd z (by decide)⟩
    have hDT : DV T 28 H n := hD.mv h40 hI.p6 t0 t1 t6 t7
    have e34 : T.1 34 5 = nI n := by
      have := hDT.1.n
      rw [e9] at this
      exact this
    rw [e34]
    refine bX5_on_0 _ (u_inN _ 3 2 rfl (by omega) ?_)
    rw [b2n_y hk (by omega)]
    refine ⟨fun _ => ⟨k, ix_nI hk (by omega), fun _ => ?_, fun z => ?_⟩, fun z => absurd z (by decide)⟩
    · rw [z_mul]
      refine u_copies kd_95 kd_93 (by omega) (by rw [ln_95]; omega) (by rw [ln_93]; omega) (by rw [ln_95]; omega) (by rw [ln_93]; omega) ?_
      have hm : MH (va_cpy (T.1 95) (T.1 93) (400 * k) 0 400) H n := hM.cg h40 (fun j hj => by
        have := cpy_in (T.1 95) (T.1 93) (a := 400 * k) (b := 0) hj
        rw [Nat.zero_add] at this
        rw [this, tf 95 (by omega)])
      show F (nI n) (u1 T.1 93 (va_cpy (T.1 95) (T.1 93) (400 * k) 0 400) 93 9) _
      rw [u1_s, hm.1 9 (by omega), e9]
      exact h _ _ (hR.deed2 tf t2 hH hDT hm)
    · rw [tf 96 (by omega), q1] at z
      exact absurd z (by decide)
end keep
