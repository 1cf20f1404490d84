/-! fewest -/
section few
variable {G : Gl} {l : Launch} {d : Nat} {S : Sg} {m : Nat → Nat} {L : Nat} {P : Int32 → Sg → Prop} {F : Int32 → Int32 → Sg → Prop}
/-- how many of the first n bits -/
def sPop (s : Nat) : Nat → Nat
  | 0 => 0
  | n + 1 => sPop s n + bit s n
theorem sPop_le (s : Nat) : ∀ n, sPop s n ≤ n
  | 0 => Nat.le_refl 0
  | n + 1 => by
    have := sPop_le s n
    have := bit_le s n
    unfold sPop
    omega
theorem u_ones_l {s : Nat} (hs : s < 2147483648) (h : P (nI (sPop s 24)) S) : ∀ (k i : Nat), i + k = 24 → Ev G l mX5_ones (d + 1) 4 [some (.int (nI s)), some (.int (nI (sPop s i))), some (.int (nI i))] [] S (QI P) := by
  intro k
  induction k with
  | zero =>
    intro i hi
    obtain rfl : i = 24 := by omega
    exact bX5_ones_4 _ _ _ ⟨fun _ => h, fun q => absurd (by decide) q⟩
  | succ k ih =>
    intro i hi
    refine bX5_ones_4 _ _ _ ⟨fun q => ?_, fun _ => ?_⟩
    · rw [z_le (by omega) (by omega)] at q
      omega
    · rw [t_bit hs (by omega), z_add, z_add]
      exact ih (i + 1) (by omega)
theorem u_ones {s : Nat} (hs : s < 2147483648) (h : P (nI (sPop s 24)) S) : Ct G l mX5_ones (d + 1) [.int (nI s)] S (QI P) :=
  bX5_ones_0 _ (u_ones_l hs h 24 0 (by omega))
def bc1 (i0 : Int32) : Int32 := (i0 - ((((i0).toUInt32 >>> (((nI 1) : Int32).toUInt32 &&& Int32.toUInt32 31)).toInt32) &&& (nI 1431655765)))
def bc2 (v9 : Int32) : Int32 := ((v9 &&& (nI 858993459)) + ((((v9).toUInt32 >>> (((nI 2) : Int32).toUInt32 &&& Int32.toUInt32 31)).toInt32) &&& (nI 858993459)))
def bc3 (v23 : Int32) : Int32 := ((v23 + (((v23).toUInt32 >>> (((nI 4) : Int32).toUInt32 &&& Int32.toUInt32 31)).toInt32)) &&& (nI 252645135))
def bc4 (v33 : Int32) : Int32 := (v33 + (((v33).toUInt32 >>> (((nI 8) : Int32).toUInt32 &&& Int32.toUInt32 31)).toInt32))
def bc5 (v40 : Int32) : Int32 := (v40 + (((v40).toUInt32 >>> (((nI 16) : Int32).toUInt32 &&& Int32.toUInt32 31)).toInt32))
theorem bc_all : ∀ s, s < 64 → (bc5 (bc4 (bc3 (bc2 (bc1 (nI s)))))) &&& (nI 63) = nI (sPop s 24) := by decide +kernel
theorem t_bitCount {s : Nat} (hs : s < 64) (h : P (nI (sPop s 24)) S) : Ct G l mJ6_bitCount_0f7a4 (d + 1) [.int (nI s)] S (QI P) := by
  refine bJ6_bitCount_0f7a4_0 _ (fun v1 e1 v2 e2 v3 e3 v4 e4 v5 e5 => ?_)
  have e : v5 &&& nI 63 = nI (sPop s 24) := by
    rw [← bc_all s hs, e5, e4, e3, e2, e1]
    rfl
  rw [e]
  exact h
/-- whether the nth is better than the best of those ahead -/
def sBett (m : Nat → Nat) (a t n b : Nat) : Bool := decide ((nI n &&& (nI a ^^^ (-1))) = nI 0 ∧ t < 2 * sIn m n ∧ (b = 0 ∨ sPop n 24 < sPop b 24))
def sBest (m : Nat → Nat) (a t : Nat) : Nat → Nat
  | 0 => 0
  | n + 1 => if sBett m a t n (sBest m a t n) = true then n else sBest m a t n
theorem sBest_le (m : Nat → Nat) (a t : Nat) : ∀ n, sBest m a t n ≤ n
  | 0 => Nat.le_refl 0
  | n + 1 => by
    have := sBest_le m a t n
    unfold sBest
    split <;> omega
theorem sBest_lt (m : Nat → Nat) (a t n : Nat) : sBest m a t (n + 1) ≤ n := by
  have := sBest_le m a t n
  unfold sBest
  split <;> omega
theorem sIn_0 (m : Nat → Nat) : sIn m 0 = 0 := by
  have : ∀ n, sSum m 0 n = 0 := by
    intro n
    induction n with
    | zero => rfl
    | succ n ih =>
      rw [sSum, ih, if_neg]
      unfold bit
      rw [Nat.zero_div]
      decide
  exact this _
theorem sBest_1 (m : Nat → Nat) (a t : Nat) : sBest m a t 1 = 0 := by
  rw [sBest, if_neg]
  · rfl
  · rw [sBett, sIn_0]
    simp
theorem t_fewest_l (hv : LV S 28 m) (hI : IV m) {a t : Nat} (ha : a < 64) (ht : t ≤ 108) (h : Ev G l mX4_fewest (d + 4) 32 [some (.ref 0), some (.int (nI a)), some (.int (nI t)), some (.int (nI (sBest m a t (a + 1)))), some (.int (nI (a + 1)))] [] S (QI P)) : ∀ (k n : Nat), n + k = a + 1 → Ev G l mX4_fewest (d + 4) 32 [some (.ref 0), some (.int (nI a)), some (.int (nI t)), some (.int (nI (sBest m a t n))), some (.int (nI n))] [] S (QI P) := by
  intro k
  induction k with
  | zero =>
    intro n hn
    obtain rfl : n = a + 1 := by omega
    exact h
  | succ k ih =>
    intro n hn
    have h9 := ih (n + 1) (by omega)
    rw [sBest] at h9
    have gb := sBest_le m a t n
    have gv := sIn_le hI n
    have gp := sPop_le n 24
    have gq := sPop_le (sBest m a t n) 24
    refine bX4_fewest_32 _ _ _ _ ⟨fun q => ?_, fun _ => ⟨fun q => ?_, fun q => t_votesOf la28 hv hI (by omega) ?_⟩⟩
    · rw [z_lt (by omega) (by omega)] at q
      omega
    · rw [if_neg (by unfold sBett; exact fun y => q (of_decide_eq_true y).1)] at h9
      rw [z_add]
      exact h9
    · rw [z_mul, z_le (by omega) (by omega), z_add]
      refine ⟨fun q2 => ?_, fun q2 => ⟨fun q3 => ?_, fun q3 => t_bitCount (by omega) (t_bitCount (by omega) (fun x ex => ?_))⟩⟩
      · rw [if_neg (by unfold sBett; exact fun y => absurd (of_decide_eq_true y).2.1 (by omega))] at h9
        exact h9
      · rw [z_eq (by omega) (by omega)] at q3
        rw [if_pos (by unfold sBett; exact decide_eq_true ⟨q, by omega, Or.inl q3⟩)] at h9
        exact h9
      · rw [z_eq (by omega) (by omega)] at q3
        have e : x = nI (if sBett m a t n (sBest m a t n) = true then n else sBest m a t n) := by
          rw [ex]
          simp (disch := omega) only [z_le]
          by_cases w : sPop (sBest m a t n) 24 ≤ sPop n 24
          · rw [if_pos w, if_neg (by unfold sBett; exact fun y => by have := (of_decide_eq_true y).2.2; omega)]
          · rw [if_neg w, if_pos (by unfold sBett; exact decide_eq_true ⟨q, by omega, Or.inr (by omega)⟩)]
        rw [e]
        exact h9
/-- the model's best -/
def bm (b : Nat) : Int32 := if b = 0 then -9 else nI b
theorem bm_9 {b : Nat} (hb : b < 1000) : bm b = -9 ↔ b = 0 := by
  unfold bm
  by_cases q : b = 0
  · simp [q]
  · rw [if_neg q]
    exact ⟨fun z => absurd z (z_m9_eq (by omega)), fun z => absurd z q⟩
theorem u_fewest_l (hu : MV S m) (hI : IV m) {a t : Nat} (ha : a < 64) (ht : t ≤ 108) (h : Ev G l mX5_fewest (d + 4) 27 [some (.ref 7), some (.int (nI a)), some (.int (nI t)), some (.int (bm (sBest m a t (a + 1)))), some (.int (nI (a + 1))), none] [] S (QI P)) : ∀ (k n : Nat), n + k = a + 1 → Ev G l mX5_fewest (d + 4) 27 [some (.ref 7), some (.int (nI a)), some (.int (nI t)), some (.int (bm (sBest m a t n))), some (.int (nI n)), none] [] S (QI P) := by
  intro k
  induction k with
  | zero =>
    intro n hn
    obtain rfl : n = a + 1 := by omega
    exact h
  | succ k ih =>
    intro n hn
    have h9 := ih (n + 1) (by omega)
    rw [sBest] at h9
    have gb := sBest_le m a t n
    have gv := sIn_le hI n
    have gp := sPop_le n 24
    have gq := sPop_le (sBest m a t n) 24
    have hno : sBett m a t n (sBest m a t n) = false → Ev G l mX5_fewest (d + 4) 76 [some (.ref 7), some (.int (nI a)), some (.int (nI t)), some (.int (bm (sBest m a t n))), some (.int (nI n)), none] [] S (QI P) := by
      intro q
      rw [q, if_neg (by decide)] at h9
      refine bX5_fewest_76 _ _ _ _ (bX5_fewest_77 _ _ _ _ _ (fun x ex => ?_))
      rw [if_pos rfl] at ex
      rw [ex, z_add]
      exact h9
    refine bX5_fewest_27 _ _ _ _ ⟨fun q => ?_, fun _ => ⟨fun q => ?_, fun q => u_votesIn hu hI (by omega) ?_⟩⟩
    · rw [z_lt (by omega) (by omega)] at q
      omega
    · exact hno (by unfold sBett; exact decide_eq_false (fun y => q y.1))
    · rw [z_mul, z_le (by omega) (by omega), z_add, bm_9 (by omega)]
      refine ⟨fun q2 => ?_, fun q2 => ⟨fun q3 => ?_, fun q3 => u_ones (by omega) ?_⟩⟩
      · exact hno (by unfold sBett; exact decide_eq_false (fun y => absurd y.2.1 (by omega)))
      · rw [if_pos (by unfold sBett; exact decide_eq_true ⟨q, by omega, Or.inl q3⟩)] at h9
        have hn0 : n ≠ 0 := by
          intro z
          subst z
          rw [sIn_0] at q2
          omega
        rw [bm, if_neg hn0] at h9
        refine bX5_fewest_72 _ _ _ _ (bX5_fewest_77 _ _ _ _ _ (fun x ex => ?_))
        rw [if_neg (by decide)] at ex
        rw [ex, z_add]
        exact h9
      · rw [show bm (sBest m a t n) = nI (sBest m a t n) by rw [bm, if_neg q3]]
        refine u_ones (by omega) (fun x ex y ey => ?_)
        have e : y = bm (if sBett m a t n (sBest m a t n) = true then n else sBest m a t n) := by
          rw [ey, ex]
          simp (disch := omega) only [z_le]
          by_cases w : sPop (sBest m a t n) 24 ≤ sPop n 24
          · rw [if_pos w, if_pos rfl, if_neg (by unfold sBett; exact fun y => by have := (of_decide_eq_true y).2.2; omega), bm, if_neg q3]
          · have hn0 : n ≠ 0 := by
              intro z
              subst z
              omega
            rw [if_neg w, if_neg (by decide), if_pos (by unfold sBett; exact decide_eq_true ⟨q, by omega, Or.inr (by omega)⟩), bm, if_neg hn0]
        rw [e]
        exact h9
theorem R.u9 (hu : MV S m) (v : Int32) : MV (u2 S.1 0 9 v, S.2) m := by
  intro a ha
  show u2 S.1 0 9 v 93 a = _
  rw [u2_o _ (by omega)]
  exact hu a ha
theorem pm_fewest (hR : R S) (h : ∀ r S', R S' → F r r S') : Ct G l mX4_fewest (d + 20) [.ref 0] S (QI (fun r T => Ct G l mX5_fewest (d + 20) [.ref 7] T (QI (fun r2 T2 => F r r2 T2)))) := by
  obtain ⟨m, hv, hu, hI⟩ := hR.nv
  obtain ⟨h0, h1, h2, -⟩ := hI.1
  have ha := sBels_lt hI (m 1) (m 2)
  have ht := sIn_le hI (sBels m (m 1) (m 2))
  refine bX4_fewest_0 (t_isThere la28 hv hI ?_)
  by_cases hc : 0 < m 0
  · rw [b2y hc]
    refine ⟨fun _ => ?_, fun z => absurd z (by decide)⟩
    refine bX4_belong_0 ?_
    rw [hv.w, hv.e]
    refine t_belonging la28 hv hI h1 (by omega) (t_votesOf la28 hv hI (by omega) ?_)
    have gb := sBest_lt m (sBels m (m 1) (m 2)) (sIn m (sBels m (m 1) (m 2))) (sBels m (m 1) (m 2))
    have hm : ∀ {T : Sg} {Q : Int32 → Sg → Prop}, MV T m → (∀ r T2, r = (if sBest m (sBels m (m 1) (m 2)) (sIn m (sBels m (m 1) (m 2))) (sBels m (m 1) (m 2) + 1) = 0 then -9 else nI (sPop (sBest m (sBels m (m 1) (m 2)) (sIn m (sBels m (m 1) (m 2))) (sBels m (m 1) (m 2) + 1)) 24)) → T2 = (if sBest m (sBels m (m 1) (m 2)) (sIn m (sBels m (m 1) (m 2))) (sBels m (m 1) (m 2) + 1) = 0 then T else (u2 T.1 7 11 (nI (sBest m (sBels m (m 1) (m 2)) (sIn m (sBels m (m 1) (m 2))) (sBels m (m 1) (m 2) + 1))), T.2)) → Q r T2) → Ct G l mX5_fewest (d + 20) [.ref 7] T (QI Q) := by
      intro T Q hu2 hQ
      refine bX5_fewest_0 (u_are hu2 hI ?_)
      rw [b2y hc]
      refine ⟨fun _ => u_belongersNow hu2 hI (u_votesIn hu2 hI (by omega) ?_), fun z => absurd z (by decide)⟩
      refine u_fewest_l hu2 hI ha ht ?_ (sBels m (m 1) (m 2) + 1) 0 (by omega)
      refine bX5_fewest_27 _ _ _ _ ⟨fun _ => ?_, fun q => absurd ((z_lt (by omega) (by omega)).mpr (by omega)) q⟩
      rw [bm_9 (by omega)]
      refine ⟨fun q => ?_, fun q => ?_⟩
      · rw [show bm (sBest m (sBels m (m 1) (m 2)) (sIn m (sBels m (m 1) (m 2))) (sBels m (m 1) (m 2) + 1)) = nI _ by rw [bm, if_neg q]]
        refine u_ones (by omega) (u_tells _ _ (hQ _ _ ?_ ?_))
        · rw [if_neg q]
        · rw [if_neg q]
      · refine hQ _ _ ?_ ?_
        · rw [if_pos q]
        · rw [if_pos q]
    have := t_fewest_l (d := d + 16) (G := G) (l := l) (P := fun r T => Ct G l mX5_fewest (d + 20) [.ref 7] T (QI (fun r2 T2 => F r r2 T2))) hv hI ha ht ?_ (sBels m (m 1) (m 2)) 1 (by omega)
    · rw [sBest_1] at this
      exact this
    · refine bX4_fewest_32 _ _ _ _ ⟨fun _ => ?_, fun q => absurd ((z_lt (by omega) (by omega)).mpr (by omega)) q⟩
      rw [z_eq (by omega) (by omega)]
      refine ⟨fun q S1 e1 => ?_, fun q => ?_⟩
      · subst e1
        refine t_bitCount (by omega) (hm (R.u9 hu _) (fun r T2 er eT => ?_))
        rw [if_neg q] at er eT
        rw [er, eT]
        exact h _ _ (hR.asked _)
      · refine hm hu (fun r T2 er eT => ?_)
        rw [if_pos q] at er eT
        rw [er, eT]
        exact h _ _ hR
  · rw [b2f hc]
    refine ⟨fun z => absurd rfl z, fun _ => bX5_fewest_0 (u_are hu hI ?_)⟩
    rw [b2f hc]
    exact ⟨fun z => absurd rfl z, fun _ => h _ _ hR⟩
end few
