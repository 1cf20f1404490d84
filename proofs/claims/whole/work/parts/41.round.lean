/-! begun from the kit's COUNTS.to-paste -/
theorem fb_holes : ∀ (m n : Nat) (f : Nat → Nat), (∀ i, i < n → f i < m) → (∀ i j, i < j → j < n → f i ≠ f j) → n ≤ m := by
  intro m
  induction m with
  | zero =>
    intro n f h1 _
    rcases Nat.eq_zero_or_pos n with h | h
    · omega
    · exact absurd (h1 0 h) (Nat.not_lt_zero _)
  | succ m ih =>
    intro n f h1 h2
    by_cases hx : ∃ i, i < n ∧ f i = m
    · obtain ⟨a, ha, hfa⟩ := hx
      have hg := ih (n - 1) (fun i => if i < a then f i else f (i + 1)) (by
        intro i hi
        by_cases q : i < a
        · simp only [if_pos q]
          have b1 := h1 i (by omega)
          have b2 := h2 i a q ha
          omega
        · simp only [if_neg q]
          have b1 := h1 (i + 1) (by omega)
          have b2 := h2 a (i + 1) (by omega) (by omega)
          omega) (by
        intro i j hij hj
        by_cases q : i < a
        · by_cases r : j < a
          · simp only [if_pos q, if_pos r]
            exact h2 i j hij (by omega)
          · simp only [if_pos q, if_neg r]
            exact h2 i (j + 1) (by omega) (by omega)
        · have r : ¬ j < a := by omega
          simp only [if_neg q, if_neg r]
          exact h2 (i + 1) (j + 1) (by omega) (by omega))
      omega
    · have hg := ih n f (fun i hi => by
        have b1 := h1 i hi
        have b2 : f i ≠ m := fun e => hx ⟨i, hi, e⟩
        omega) h2
      omega
/-- two of them in one place -/
theorem fb_twice {m n : Nat} {f : Nat → Nat} (h : ∀ i, i < n → f i < m) (hm : m < n) : ∃ i j, i < j ∧ j < n ∧ f i = f j := by
  refine Classical.byContradiction fun hx => ?_
  have := fb_holes m n f h (fun i j hij hj e => hx ⟨i, j, hij, hj, e⟩)
  omega
section round
variable {G : Gl} {l : Launch} {d : Nat} {S : Sg} {m : Nat → Nat} {P : Int32 → Sg → Prop} {F : Int32 → Int32 → Sg → Prop}
def idx (c : Nat) : Nat := (c % 10) * (c % 10 + 1) / 2 + c / 10
theorem idx_all : ∀ c, c < 100 → c / 10 ≤ c % 10 → idx c < 55 ∧ ∀ e, e < 100 → e / 10 ≤ e % 10 → idx c = idx e → c = e := by decide +kernel
theorem first_rep {m : Nat → Nat} (hI : IV m) : ∃ J X, X < J ∧ J ≤ 55 ∧ ys m X = ys m J ∧ ∀ j, j < J → ∀ i, i < j → ys m i ≠ ys m j := by
  obtain ⟨i, j, hij, hj, e⟩ := fb_twice (m := 55) (n := 56) (f := fun n => idx (ys m n)) (fun i _ => (idx_all _ (okC_ys hI i).2.2 (okC_ys hI i).1).1) (by omega)
  have e2 : ys m i = ys m j := (idx_all _ (okC_ys hI i).2.2 (okC_ys hI i).1).2 _ (okC_ys hI j).2.2 (okC_ys hI j).1 e
  obtain ⟨J, ⟨X, h1, h2⟩, h3⟩ := pk_least (fun j => ∃ i, i < j ∧ ys m i = ys m j) ⟨j, i, hij, e2⟩
  have hJ : J ≤ j := by
    apply Classical.byContradiction
    intro q
    exact h3 j (by omega) ⟨i, hij, e2⟩
  exact ⟨J, X, h1, by omega, h2, fun a ha b hb q => h3 a ha ⟨b, hb, q⟩⟩
/-- alike but at one place -/
def But (k : Nat) (S T : Sg) : Prop := (∀ a, a ≠ k → T.1 a = S.1 a) ∧ T.2 = S.2
theorem But.rf (k : Nat) (S : Sg) : But k S S := ⟨fun _ _ => rfl, rfl⟩
theorem But.put {k : Nat} {S T : Sg} (h : But k S T) (i : Nat) (v : Int32) : But k S (u2 T.1 k i v, T.2) := ⟨fun a ha => by
  show u2 T.1 k i v a = _
  rw [u2_o _ ha]
  exact h.1 a ha, h.2⟩
theorem m1_pred {i : Nat} : nI (i + 1) - nI 1 = nI i + (0 : Int32) := by
  rw [Int32.add_zero]
  exact nI_pred i
/-- looking back: none alike -/
theorem t_round_in {S T : Sg} {J : Nat} (hT : But 5 S T) {y : Nat} (hy : y ≤ 55) (hys : ∀ i, i ≤ y → T.1 5 i = nI (ys m i)) (hne : ∀ i, i < y → ys m i ≠ ys m y) (hb : ∀ i, ys m i < 100) (h : Ev G l mX4_round (d + 6) 28 [some (.ref 0), some (.int (nI (y + 1))), none] [] T (QI P)) : ∀ i, i ≤ y → Ev G l mX4_round (d + 6) 59 [some (.ref 0), some (.int (nI y)), some (.int (nI i + (-1)))] [] T (QI P) := by
  intro i
  induction i with
  | zero =>
    intro _
    refine bX4_round_59 _ _ ⟨fun _ => ?_, fun q => absurd (by decide) q⟩
    rw [z_add]
    exact h
  | succ i ih =>
    intro hi
    have b1 := hb i
    have b2 := hb y
    rw [z_add_m1]
    refine bX4_round_59 _ _ ⟨fun q => absurd q (n_in (by omega)), fun _ => ⟨i, ix_nI (by omega) (by omega), y, ix_nI (by omega) (by omega), fun _ => ih (by omega), fun q => ?_⟩⟩
    rw [hys i (by omega), hys y (by omega), z_eq (by omega) (by omega)] at q
    exact absurd q (hne i (by omega))
/-- looking back: the one alike -/
theorem t_round_hit {S T : Sg} (hT : But 5 S T) {X J : Nat} (hJ : J ≤ 55) (hX : X < J) (hys : ∀ i, i ≤ J → T.1 5 i = nI (ys m i)) (he : ys m X = ys m J) (hne : ∀ i, i < J → i ≠ X → ys m i ≠ ys m J) (hb : ∀ i, ys m i < 100) (h : P (nI J) (u2 T.1 0 9 (nI (J - X)), T.2)) : ∀ k, X + 1 + k ≤ J → Ev G l mX4_round (d + 6) 59 [some (.ref 0), some (.int (nI J)), some (.int (nI (X + 1 + k) + (-1)))] [] T (QI P) := by
  intro k
  induction k with
  | zero =>
    intro hi
    have b1 := hb X
    have b2 := hb J
    rw [show X + 1 + 0 = X + 1 by omega, z_add_m1]
    refine bX4_round_59 _ _ ⟨fun q => absurd q (n_in (by omega)), fun _ => ⟨X, ix_nI (by omega) (by omega), J, ix_nI (by omega) (by omega), fun q => ?_, fun _ S1 e1 => ?_⟩⟩
    · rw [hys X (by omega), hys J (by omega), he] at q
      exact absurd rfl q
    · rw [e1, z_sub (by omega)]
      exact h
  | succ k ih =>
    intro hi
    have b1 := hb (X + 1 + k)
    have b2 := hb J
    rw [show X + 1 + (k + 1) = (X + 1 + k) + 1 by omega, z_add_m1]
    refine bX4_round_59 _ _ ⟨fun q => absurd q (n_in (by omega)), fun _ => ⟨X + 1 + k, ix_nI (by omega) (by omega), J, ix_nI (by omega) (by omega), fun _ => ih (by omega), fun q => ?_⟩⟩
    rw [hys _ (by omega), hys J (by omega), z_eq (by omega) (by omega)] at q
    exact absurd q (hne _ (by omega) (by omega))
theorem t_round_l (hI : IV m) (hv : LV S 28 m) {J X : Nat} (hX : X < J) (hJ : J ≤ 55) (he : ys m X = ys m J) (hmin : ∀ j, j < J → ∀ i, i < j → ys m i ≠ ys m j) (h : ∀ T, But 5 S T → P (nI J) (u2 T.1 0 9 (nI (J - X)), T.2)) : ∀ (k y : Nat), y + k = J → 1 ≤ y → ∀ T, But 5 S T → (∀ i, i < y → T.1 5 i = nI (ys m i)) → Ev G l mX4_round (d + 6) 28 [some (.ref 0), some (.int (nI y)), none] [] T (QI P) := by
  have hb : ∀ i, ys m i < 100 := fun i => (okC_ys hI i).2.2
  intro k
  induction k with
  | zero =>
    intro y hy h1 T hT hys
    obtain rfl : y = J := by omega
    have hvT : LV T 28 m := hv.fr (A := fun k => k ≠ 5) hT.1 (fun k a b => by omega)
    refine bX4_round_28 _ ⟨fun q => ?_, fun _ => ⟨y - 1, ix_i (z_sub h1) (by omega) (by omega), ?_⟩⟩
    · rw [z_lt (by omega) (by omega)] at q
      omega
    · rw [hys (y - 1) (by omega)]
      refine t_yearOn' la28 hvT hI (okC_ys hI _) ⟨y, ix_nI (by omega) (by omega), fun S1 e1 => ?_⟩
      have en : nxt m (ys m (y - 1)) = ys m y := by
        conv => rhs; rw [show y = (y - 1) + 1 by omega]
        rfl
      rw [en] at e1
      have hT1 : But 5 S S1 := by rw [e1]; exact hT.put _ _
      have hys1 : ∀ i, i ≤ y → S1.1 5 i = nI (ys m i) := by
        intro i hi
        rw [e1]
        show u2 T.1 5 y _ 5 i = _
        by_cases q : i = y
        · subst q
          rw [u2_s]
        · rw [u2_n _ q]
          exact hys i (by omega)
      have hne : ∀ i, i < y → i ≠ X → ys m i ≠ ys m y := by
        intro i hi hiX q
        rw [← he] at q
        rcases Nat.lt_or_ge i X with z | z
        · exact hmin X hX i z q
        · exact hmin i hi X (by omega) q.symm
      have e2 : nI y - nI 1 = nI (X + 1 + (y - X - 1)) + (-1) := by
        rw [show X + 1 + (y - X - 1) = (y - 1) + 1 by omega, z_add_m1, z_sub h1]
      rw [e2]
      exact t_round_hit hT1 hJ hX hys1 he hne hb (h _ hT1) (y - X - 1) (by omega)
  | succ k ih =>
    intro y hy h1 T hT hys
    have hvT : LV T 28 m := hv.fr (A := fun k => k ≠ 5) hT.1 (fun k a b => by omega)
    refine bX4_round_28 _ ⟨fun q => ?_, fun _ => ⟨y - 1, ix_i (z_sub h1) (by omega) (by omega), ?_⟩⟩
    · rw [z_lt (by omega) (by omega)] at q
      omega
    · rw [hys (y - 1) (by omega)]
      refine t_yearOn' la28 hvT hI (okC_ys hI _) ⟨y, ix_nI (by omega) (by omega), fun S1 e1 => ?_⟩
      have en : nxt m (ys m (y - 1)) = ys m y := by
        conv => rhs; rw [show y = (y - 1) + 1 by omega]
        rfl
      rw [en] at e1
      have hT1 : But 5 S S1 := by rw [e1]; exact hT.put _ _
      have hys1 : ∀ i, i ≤ y → S1.1 5 i = nI (ys m i) := by
        intro i hi
        rw [e1]
        show u2 T.1 5 y _ 5 i = _
        by_cases q : i = y
        · subst q
          rw [u2_s]
        · rw [u2_n _ q]
          exact hys i (by omega)
      have e2 : nI y - nI 1 = nI y + (-1) := by
        conv => rhs; rw [show y = (y - 1) + 1 by omega, z_add_m1]
        rw [z_sub h1]
      rw [e2]
      exact t_round_in (J := J) hT1 (by omega) hys1 (fun i hi => hmin y (by omega) i hi) hb (ih (y + 1) (by omega) (by omega) S1 hT1 (fun i hi => hys1 i (by omega))) y (Nat.le_refl y)
/-- the reference: none alike, from one on -/
theorem u_round_in {T : Sg} {y : Nat} (hy : y ≤ 55) (hys : ∀ i, i ≤ y → T.1 99 i = nI (ys m i)) (hne : ∀ i, i < y → ys m i ≠ ys m y) (hb : ∀ i, ys m i < 100) (h : Ev G l mX5_round (d + 7) 23 [some (.ref 7), some (.int (nI (y + 1))), none] [] T (QI P)) : ∀ k i, i + k = y → Ev G l mX5_round (d + 7) 63 [some (.ref 7), some (.int (nI y)), some (.int (nI i))] [] T (QI P) := by
  intro k
  induction k with
  | zero =>
    intro i hi
    refine bX5_round_63 _ _ ⟨fun _ => ?_, fun q => ?_⟩
    · rw [z_add]
      exact h
    · rw [z_le (by omega) (by omega)] at q
      omega
  | succ k ih =>
    intro i hi
    have b1 := hb i
    have b2 := hb y
    refine bX5_round_63 _ _ ⟨fun q => ?_, fun _ => ⟨i, ix_nI (by omega) (by omega), y, ix_nI (by omega) (by omega), fun _ => ?_, fun q => ?_⟩⟩
    · rw [z_le (by omega) (by omega)] at q
      omega
    · rw [z_add]
      exact ih (i + 1) (by omega)
    · rw [hys i (by omega), hys y (by omega), z_eq (by omega) (by omega)] at q
      exact absurd q (hne i (by omega))
theorem u_round_hit {T : Sg} {X J : Nat} (hJ : J ≤ 55) (hX : X < J) (hys : ∀ i, i ≤ J → T.1 99 i = nI (ys m i)) (he : ys m X = ys m J) (hne : ∀ i, i < J → i ≠ X → ys m i ≠ ys m J) (hb : ∀ i, ys m i < 100) (h : P (nI J) (u2 T.1 7 11 (nI (J - X)), T.2)) : ∀ k i, i + k = X → Ev G l mX5_round (d + 7) 63 [some (.ref 7), some (.int (nI J)), some (.int (nI i))] [] T (QI P) := by
  intro k
  induction k with
  | zero =>
    intro i hi
    obtain rfl : i = X := by omega
    refine bX5_round_63 _ _ ⟨fun q => ?_, fun _ => ⟨i, ix_nI (by omega) (by omega), J, ix_nI (by omega) (by omega), fun q => ?_, fun _ => u_tells _ _ ?_⟩⟩
    · rw [z_le (by omega) (by omega)] at q
      omega
    · rw [hys i (by omega), hys J (by omega), he] at q
      exact absurd rfl q
    · rw [z_sub (by omega)]
      exact h
  | succ k ih =>
    intro i hi
    have b1 := hb i
    have b2 := hb J
    refine bX5_round_63 _ _ ⟨fun q => ?_, fun _ => ⟨i, ix_nI (by omega) (by omega), J, ix_nI (by omega) (by omega), fun _ => ?_, fun q => ?_⟩⟩
    · rw [z_le (by omega) (by omega)] at q
      omega
    · rw [z_add]
      exact ih (i + 1) (by omega)
    · rw [hys i (by omega), hys J (by omega), z_eq (by omega) (by omega)] at q
      exact absurd q (hne i (by omega) (by omega))
theorem u_round_l (hI : IV m) (hu : MV S m) {J X : Nat} (hX : X < J) (hJ : J ≤ 55) (he : ys m X = ys m J) (hmin : ∀ j, j < J → ∀ i, i < j → ys m i ≠ ys m j) (h : ∀ T, But 99 S T → P (nI J) (u2 T.1 7 11 (nI (J - X)), T.2)) : ∀ (k y : Nat), y + k = J → 1 ≤ y → ∀ T, But 99 S T → (∀ i, i < y → T.1 99 i = nI (ys m i)) → Ev G l mX5_round (d + 7) 23 [some (.ref 7), some (.int (nI y)), none] [] T (QI P) := by
  have hb : ∀ i, ys m i < 100 := fun i => (okC_ys hI i).2.2
  intro k
  induction k with
  | zero =>
    intro y hy h1 T hT hys
    obtain rfl : y = J := by omega
    have hvT : MV T m := fun a ha => by rw [hT.1 93 (by omega)]; exact hu a ha
    refine bX5_round_23 _ ⟨fun q => ?_, fun _ => ⟨y - 1, ix_i (z_sub h1) (by omega) (by omega), ?_⟩⟩
    · rw [z_le (by omega) (by omega)] at q
      omega
    · rw [hys (y - 1) (by omega)]
      refine u_later' hvT hI (okC_ys hI _) ⟨y, ix_nI (by omega) (by omega), fun S1 e1 => ?_⟩
      have en : nxt m (ys m (y - 1)) = ys m y := by
        conv => rhs; rw [show y = (y - 1) + 1 by omega]
        rfl
      rw [en] at e1
      have hT1 : But 99 S S1 := by rw [e1]; exact hT.put _ _
      have hys1 : ∀ i, i ≤ y → S1.1 99 i = nI (ys m i) := by
        intro i hi
        rw [e1]
        show u2 T.1 99 y _ 99 i = _
        by_cases q : i = y
        · subst q
          rw [u2_s]
        · rw [u2_n _ q]
          exact hys i (by omega)
      have hne : ∀ i, i < y → i ≠ X → ys m i ≠ ys m y := by
        intro i hi hiX q
        rw [← he] at q
        rcases Nat.lt_or_ge i X with z | z
        · exact hmin X hX i z q
        · exact hmin i hi X (by omega) q.symm
      exact u_round_hit hJ hX hys1 he hne hb (h _ hT1) X 0 (by omega)
  | succ k ih =>
    intro y hy h1 T hT hys
    have hvT : MV T m := fun a ha => by rw [hT.1 93 (by omega)]; exact hu a ha
    refine bX5_round_23 _ ⟨fun q => ?_, fun _ => ⟨y - 1, ix_i (z_sub h1) (by omega) (by omega), ?_⟩⟩
    · rw [z_le (by omega) (by omega)] at q
      omega
    · rw [hys (y - 1) (by omega)]
      refine u_later' hvT hI (okC_ys hI _) ⟨y, ix_nI (by omega) (by omega), fun S1 e1 => ?_⟩
      have en : nxt m (ys m (y - 1)) = ys m y := by
        conv => rhs; rw [show y = (y - 1) + 1 by omega]
        rfl
      rw [en] at e1
      have hT1 : But 99 S S1 := by rw [e1]; exact hT.put _ _
      have hys1 : ∀ i, i ≤ y → S1.1 99 i = nI (ys m i) := by
        intro i hi
        rw [e1]
        show u2 T.1 99 y _ 99 i = _
        by_cases q : i = y
        · subst q
          rw [u2_s]
        · rw [u2_n _ q]
          exact hys i (by omega)
      exact u_round_in (by omega) hys1 (fun i hi => hmin y (by omega) i hi) hb (ih (y + 1) (by omega) (by omega) S1 hT1 (fun i hi => hys1 i (by omega))) y 0 (by omega)
theorem R.scr (h : R S) {S' : Sg} (E : ∀ k, (k < 4) ∨ (6 ≤ k ∧ k < 40) ∨ (52 ≤ k ∧ k < 90) ∨ (91 ≤ k ∧ k ≤ 93) ∨ (95 ≤ k ∧ k ≤ 97) → S'.1 k = S.1 k) (h2 : S'.2 = S.2) : R S' := by
  refine h.fr (fun k hk => E k (by omega)) (h.2.2.1.fr (E _ (by omega)) (E _ (by omega)) (E _ (by omega)) (E _ (by omega))) ?_ ?_
  · unfold RQ
    rw [E 0 (by omega), E 7 (by omega)]
    exact h.2.2.2.1
  · unfold RL2
    rw [h2]
    exact h.2.2.2.2.1
theorem pm_round (hR : R S) (h : ∀ r S', R S' → F r r S') : Ct G l mX4_round (d + 20) [.ref 0] S (QI (fun r T => Ct G l mX5_round (d + 20) [.ref 7] T (QI (fun r2 T2 => F r r2 T2)))) := by
  obtain ⟨m, hv, hu, hI⟩ := hR.nv
  have h0 := hI.1.1
  refine bX4_round_0 (t_isThere la28 hv hI ?_)
  by_cases hc : 0 < m 0
  · rw [b2y hc]
    refine ⟨fun _ => t_coasts la28 hv hI (fun S1 e1 => ?_), fun z => absurd z (by decide)⟩
    obtain ⟨J, X, hX, hJ, he, hmin⟩ := first_rep hI
    refine t_round_l hI hv hX hJ he hmin (fun T hT => ?_) (J - 1) 1 (by omega) (by omega) S1 (by rw [e1]; exact (But.rf 5 S).put _ _) (fun i hi => ?_)
    · have huT : MV (u2 T.1 0 9 (nI (J - X)), T.2) m := by
        refine mv_put (S := T) (fun a ha => ?_) (by omega)
        rw [hT.1 93 (by omega)]
        exact hu a ha
      refine bX5_round_0 (u_are huT hI ?_)
      rw [b2y hc]
      refine ⟨fun _ => u_coastsIn huT hI (by omega) (fun S2 e2 => ?_), fun z => absurd z (by decide)⟩
      refine u_round_l hI huT hX hJ he hmin (fun T2 hT2 => h _ _ ?_) (J - 1) 1 (by omega) (by omega) S2 (by rw [e2]; exact (But.rf 99 _).put _ _) (fun i hi => ?_)
      · refine (hR.asked (nI (J - X))).scr (fun k hk => ?_) (by show T2.2 = S.2; rw [hT2.2]; exact hT.2)
        show u2 T2.1 7 11 (nI (J - X)) k = u2 (u2 S.1 0 9 (nI (J - X))) 7 11 (nI (J - X)) k
        have a1 : T2.1 k = u2 T.1 0 9 (nI (J - X)) k := hT2.1 k (by omega)
        have a2 : T.1 k = S.1 k := hT.1 k (by omega)
        funext b
        by_cases q7 : k = 7
        · subst q7
          by_cases qb : b = 11
          · subst qb
            rw [u2_s, u2_s]
          · rw [u2_n _ qb, u2_n _ qb, a1, u2_o _ (by omega), u2_o _ (by omega), a2]
        · rw [u2_o _ q7, u2_o _ q7, a1]
          by_cases q0 : k = 0
          · subst q0
            by_cases qb : b = 9
            · subst qb
              rw [u2_s, u2_s]
            · rw [u2_n _ qb, u2_n _ qb, a2]
          · rw [u2_o _ q0, u2_o _ q0, a2]
      · obtain rfl : i = 0 := by omega
        rw [e2]
        simp only [u2_s]
    · obtain rfl : i = 0 := by omega
      rw [e1]
      simp only [u2_s]
      rfl
  · rw [b2f hc]
    refine ⟨fun z => absurd rfl z, fun _ => bX5_round_0 (u_are hu hI ?_)⟩
    rw [b2f hc]
    exact ⟨fun z => absurd rfl z, fun _ => h _ _ hR⟩
end round
