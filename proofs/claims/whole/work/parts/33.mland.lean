/-! the same of the reference, method by method -/
section mland
variable {G : Gl} {l : Launch} {d : Nat} {S : Sg} {m : Nat → Nat} {P : Int32 → Sg → Prop}
theorem u_in (a b c : Int32) (h : P (b2 (decide (¬ a < b ∧ ¬ c < a))) S) : Ct G l mX5_in (d + 1) [.int a, .int b, .int c] S (QI P) := by
  refine bX5_in_0 _ _ _ (fun x ex => ?_)
  have e : x = b2 (decide (¬ a < b ∧ ¬ c < a)) := by
    rw [ex, b2]
    grind
  rw [e]; exact h
theorem u_has {s i : Nat} (hs : s < 2147483648) (hi : i < 32) (h : P (b2 (decide (bit s i = 1))) S) : Ct G l mX5_has (d + 1) [.int (nI s), .int (nI i)] S (QI P) := by
  refine bX5_has_0 _ _ (fun x ex => ?_)
  have hb := bit_le s i
  have e : x = b2 (decide (bit s i = 1)) := by
    rw [ex, t_bit hs hi, b2]
    simp (disch := omega) only [z_eq]
    grind
  rw [e]; exact h
theorem u_off {a b : Nat} (ha : a < 1000) (hb : b < 1000) (h : P (nI (if a < b then b - a else a - b)) S) : Ct G l mX5_off (d + 1) [.int (nI a), .int (nI b)] S (QI P) := by
  refine bX5_off_0 _ _ (fun x ex => ?_)
  have e : x = nI (if a < b then b - a else a - b) := by
    rw [ex]
    simp (disch := omega) only [z_le]
    by_cases q : a ≤ b
    · rw [if_pos q, z_sub q]
      congr 1
      split <;> omega
    · rw [if_neg q, z_sub (by omega), if_neg (by omega)]
  rw [e]; exact h
theorem u_are (hv : MV S m) (hI : IV m) (h : P (b2 (decide (0 < m 0))) S) : Ct G l mX5_are (d + 1) [.ref 7] S (QI P) := by
  refine bX5_are_0 (fun x ex => ?_)
  have e : x = b2 (decide (0 < m 0)) := by
    have h0 := hI.1.1
    rw [ex, hv 0 (by omega), b2]
    simp (disch := omega) only [z_le]
    grind
  rw [e]; exact h
theorem z_le_pred {a n : Nat} (ha : a < 1000000) (hn : n < 1000000) : ¬ (nI n - nI 1 < nI a) ↔ a < n := by
  rw [z_sub_lt (by omega) (by omega) (by omega)]
  omega
/-- not above n - 1 is below n -/
theorem z_npred (x : Int32) {n : Nat} (hn : n < 1000000) (h0 : ¬ x < nI 0) : (¬ (nI n - nI 1 < x)) ↔ ¬ nI n ≤ x := by
  obtain ⟨j, h1, rfl⟩ := z_ofx (z_nlt.mp h0)
  rw [z_le (by omega) h1]
  by_cases q : j < 1000000
  · rw [z_sub_lt (by omega) (by omega) (by omega)]
    omega
  · constructor
    · intro q2
      exfalso
      apply q2
      rw [Int32.lt_iff_toInt_lt, z_subT (by omega) (by omega), nI_toInt (by omega)]
      omega
    · intro q2
      omega
theorem u_isOne (hv : MV S m) (hI : IV m) (i : Int32) (h : P (b2 (decide (¬ i < nI 0 ∧ ¬ nI (m 7) ≤ i))) S) : Ct G l mX5_isOne (d + 2) [.ref 7, .int i] S (QI P) := by
  have hp := hI.p6
  refine bX5_isOne_0 _ (u_in _ _ _ ⟨b2_zb _, ?_⟩)
  rw [hv 7 (by omega)]
  have e : decide (¬ i < nI 0 ∧ ¬ nI (m 7) - nI 1 < i) = decide (¬ i < nI 0 ∧ ¬ nI (m 7) ≤ i) := by
    apply decide_eq_decide.mpr
    constructor
    · rintro ⟨a, b⟩
      exact ⟨a, (z_npred i (by omega) a).mp b⟩
    · rintro ⟨a, b⟩
      exact ⟨a, (z_npred i (by omega) a).mpr b⟩
  rw [e]; exact h
theorem u_isCell (hv : MV S m) (hI : IV m) (i : Int32) (h : P (b2 (decide (¬ i < nI 0 ∧ ¬ nI (m 0) ≤ i))) S) : Ct G l mX5_isCell (d + 2) [.ref 7, .int i] S (QI P) := by
  have hp := hI.1.1
  refine bX5_isCell_0 _ (u_in _ _ _ ⟨b2_zb _, ?_⟩)
  rw [hv 0 (by omega)]
  have e : decide (¬ i < nI 0 ∧ ¬ nI (m 0) - nI 1 < i) = decide (¬ i < nI 0 ∧ ¬ nI (m 0) ≤ i) := by
    apply decide_eq_decide.mpr
    constructor
    · rintro ⟨a, b⟩
      exact ⟨a, (z_npred i (by omega) a).mp b⟩
    · rintro ⟨a, b⟩
      exact ⟨a, (z_npred i (by omega) a).mpr b⟩
  rw [e]; exact h
theorem z_tr {a b c : Int32} (h1 : ¬ c < a) (h2 : ¬ b < c) : ¬ b < a := by
  rw [Int32.lt_iff_toInt_lt] at *
  omega
theorem u_areCoasts (hv : MV S m) (a b : Int32) (h : P (b2 (decide (¬ a < nI 0 ∧ ¬ b < a ∧ ¬ nI (m 0) < b))) S) : Ct G l mX5_areCoasts (d + 2) [.ref 7, .int a, .int b] S (QI P) := by
  refine bX5_areCoasts_0 _ _ (u_in _ _ _ ?_)
  rw [hv 0 (by omega), b2_0]
  refine ⟨fun q => ?_, fun q => u_in _ _ _ (fun x ex => ?_)⟩
  · have e : nI 0 = b2 (decide (¬ a < nI 0 ∧ ¬ b < a ∧ ¬ nI (m 0) < b)) := by
      have : decide (¬ a < nI 0 ∧ ¬ b < a ∧ ¬ nI (m 0) < b) = false := by
        apply decide_eq_false
        rintro ⟨h1, h2, h3⟩
        exact (of_decide_eq_false q) ⟨h1, z_tr h2 h3⟩
      rw [this]
      rfl
    rw [e]; exact h
  · have e : x = b2 (decide (¬ a < nI 0 ∧ ¬ b < a ∧ ¬ nI (m 0) < b)) := by
      rw [ex]
      simp only [b2_0]
      rw [b2]
      simp at q
      grind
    rw [e]; exact h
theorem u_isOf {a k : Nat} (ha : a < 100) (hk : k < 100) (h : P (b2 (decide (a = k ∨ (a = 4 ∧ k = 1) ∨ (a = 5 ∧ k = 2)))) S) : Ct G l mX5_isOf (d + 1) [.int (nI a), .int (nI k)] S (QI P) := by
  refine bX5_isOf_0 _ _ (fun x ex => ?_)
  have e : x = b2 (decide (a = k ∨ (a = 4 ∧ k = 1) ∨ (a = 5 ∧ k = 2))) := by
    rw [ex, b2]
    simp (disch := omega) only [z_eq]
    grind
  rw [e]; exact h
theorem u_belongsBy (hv : MV S m) (hI : IV m) {k c f w e : Nat} (hk : k < 6) (hc : c < 100) (hf : f < 100) (hwe : w ≤ e) (he : e < 100) (h : P (b2 (sBy m k c f w e)) S) : Ct G l mX5_belongsBy (d + 2) [.ref 7, .int (nI k), .int (nI c), .int (nI f), .int (nI w), .int (nI e)] S (QI P) := by
  obtain ⟨h0, h1, h2, -, -, h5, h6, -⟩ := hI.1
  refine bX5_belongsBy_0 _ _ _ _ _ (u_in _ _ _ (u_in _ _ _ (u_in _ _ _ ?_)))
  rw [hv 5 (by omega), hv 6 (by omega)]
  have e1 : decide (¬ nI c < nI w ∧ ¬ nI e - nI 1 < nI c) = decide (w ≤ c ∧ c < e) := by
    simp (disch := omega) only [z_lt, z_sub_lt]
    grind
  have e2 : decide (¬ nI f < nI (m 5) ∧ ¬ nI (m 6) - nI 1 < nI f) = decide (m 5 ≤ f ∧ f < m 6) := by
    simp (disch := omega) only [z_lt, z_sub_lt]
    grind
  have e3 : decide (¬ nI c < nI w - nI 1 ∧ ¬ nI e < nI c) = decide (w ≤ c + 1 ∧ c ≤ e) := by
    simp (disch := omega) only [z_lt, z_lt_sub]
    grind
  rw [e1, e2, e3]
  clear e1 e2 e3
  simp (disch := omega) only [z_eq, b2_0]
  refine ⟨fun q => ⟨b2_zb _, ?_⟩, fun q1 => ⟨fun q => ⟨b2_zb _, ?_⟩, fun q2 => ⟨fun q x ex => ?_, fun q3 => ⟨fun q x ex => ?_, fun q4 => ⟨fun q x ex => ?_, fun q5 => ⟨b2_zb _, ?_⟩⟩⟩⟩⟩⟩
  · simpa [sBy, q] using h
  · simpa [sBy, q] using h
  · have e : x = b2 (sBy m k c f w e) := by
      rw [ex, z_sub hwe]
      simp (disch := omega) only [z_le]
      simp only [sBy, q, b2]
      clear ex hv hI h
      by_cases a1 : w ≤ c ∧ c < e
      · by_cases a2 : e - w ≤ 2
        · simp [a1, a2, show ¬ w + 2 < e by omega]
        · simp [a1, a2, show w + 2 < e by omega]
      · simp [a1]
    rw [e]; exact h
  · have e : x = b2 (sBy m k c f w e) := by
      rw [ex]
      simp (disch := omega) only [z_lt]
      simp only [sBy, q, b2]
      grind
    rw [e]; exact h
  · have e : x = b2 (sBy m k c f w e) := by
      rw [ex]
      simp (disch := omega) only [z_add, z_div, z_eq]
      simp only [sBy, q, b2]
      grind
    rw [e]; exact h
  · simpa [sBy, q1, q2, q3, q4, q5] using h
theorem z_at (i c : Nat) : (nI 10 + nI 5 * nI i) + nI c = nI (10 + c + 5 * i) := by
  rw [z_mul, z_add, z_add]
  congr 1
  omega
theorem z_at0 (i : Nat) : (nI 10 + nI 5 * nI i) = nI (10 + 5 * i) := by
  rw [z_mul, z_add]
theorem u_belongs (hv : MV S m) (hI : IV m) {i w e : Nat} (hi : i < 6) (hwe : w ≤ e) (he : e < 100) (h : P (b2 (sBel m i w e)) S) : Ct G l mX5_belongs (d + 3) [.ref 7, .int (nI i), .int (nI w), .int (nI e)] S (QI P) := by
  obtain ⟨h1, h2, h3, -⟩ := hI.2 i hi
  refine bX5_belongs_0 _ _ _ ⟨10 + 5 * i, ix_i (z_at0 i) (by omega) (by omega), 11 + 5 * i, ix_i (z_at i 1) (by omega) (by omega), 12 + 5 * i, ix_i (z_at i 2) (by omega) (by omega), ?_⟩
  rw [hv _ (by omega), hv _ (by omega), hv _ (by omega)]
  exact u_belongsBy hv hI (by omega) (by omega) (by omega) hwe he ⟨b2_zb _, h⟩
theorem u_votesOf (hv : MV S m) (hI : IV m) {i : Nat} (hi : i < 6) (h : P (nI (sVo m i)) S) : Ct G l mX5_votesOf (d + 1) [.ref 7, .int (nI i)] S (QI P) := by
  obtain ⟨h1, -, -, h4, -, -⟩ := hI.2 i hi
  refine bX5_votesOf_0 _ ⟨13 + 5 * i, ix_i (z_at i 3) (by omega) (by omega), 10 + 5 * i, ix_i (z_at0 i) (by omega) (by omega), ?_⟩
  rw [hv _ (by omega), hv _ (by omega)]
  simp (disch := omega) only [z_eq, z_div, z_mul, z_add]
  unfold sVo at h
  refine ⟨fun q => ?_, fun q2 => ⟨fun q => ?_, fun q3 => ⟨fun q => ?_, fun q4 => ⟨fun q => ?_, fun q5 => ?_⟩⟩⟩⟩ <;> simp_all [Nat.mul_comm]
theorem u_belongers_l (hv : MV S m) (hI : IV m) {w e : Nat} (hwe : w ≤ e) (he : e < 100) (h : P (nI (sBels m w e)) S) : ∀ (k i : Nat), i + k = m 7 → Ev G l mX5_belongers (d + 4) 5 [some (.ref 7), some (.int (nI w)), some (.int (nI e)), some (.int (nI (sBit m w e i))), some (.int (nI i))] [] S (QI P) := by
  have hp := hI.p6
  intro k
  induction k with
  | zero =>
    intro i hi
    refine bX5_belongers_5 _ _ _ _ ⟨fun _ => ?_, fun q => ?_⟩
    · rw [show i = m 7 by omega]
      exact h
    · rw [hv 7 (by omega), z_le (by omega) (by omega)] at q
      omega
  | succ k ih =>
    intro i hi
    refine bX5_belongers_5 _ _ _ _ ⟨fun q => ?_, fun _ => ?_⟩
    · rw [hv 7 (by omega), z_le (by omega) (by omega)] at q
      omega
    · refine u_belongs hv hI (by omega) hwe he (fun x ex => ?_)
      have hb := sBit_lt m w e i
      have h64 : 2 ^ i ≤ 64 := pow_le64 (by omega)
      have e' : nI (sBit m w e i) ||| x = nI (sBit m w e (i + 1)) := by
        rw [ex, sBit]
        rw [z_shl (by omega) (by omega), Nat.one_mul]
        simp only [b2_0]
        cases sBel m i w e
        · simp
          rw [z_or, Nat.or_zero]
        · simp
          rw [z_or, or_pow hb]
      rw [e', z_add]
      exact ih (i + 1) (by omega)
theorem u_belongers (hv : MV S m) (hI : IV m) {w e : Nat} (hwe : w ≤ e) (he : e < 100) (h : P (nI (sBels m w e)) S) : Ct G l mX5_belongers (d + 4) [.ref 7, .int (nI w), .int (nI e)] S (QI P) :=
  bX5_belongers_0 _ _ (u_belongers_l hv hI hwe he h (m 7) 0 (by omega))
theorem u_belongersNow (hv : MV S m) (hI : IV m) (h : P (nI (sBels m (m 1) (m 2))) S) : Ct G l mX5_belongersNow (d + 5) [.ref 7] S (QI P) := by
  obtain ⟨h0, h1, h2, -⟩ := hI.1
  refine bX5_belongersNow_0 ?_
  rw [hv 1 (by omega), hv 2 (by omega)]
  exact u_belongers hv hI h1 (by omega) h
theorem u_votesIn_l (hv : MV S m) (hI : IV m) {s : Nat} (hs : s < 2147483648) (h : P (nI (sIn m s)) S) : ∀ (k i : Nat), i + k = m 7 → Ev G l mX5_votesIn (d + 2) 4 [some (.ref 7), some (.int (nI s)), some (.int (nI (sSum m s i))), some (.int (nI i))] [] S (QI P) := by
  have hp := hI.p6
  intro k
  induction k with
  | zero =>
    intro i hi
    refine bX5_votesIn_4 _ _ _ ⟨fun _ => ?_, fun q => ?_⟩
    · rw [show i = m 7 by omega]
      exact h
    · rw [hv 7 (by omega), z_le (by omega) (by omega)] at q
      omega
  | succ k ih =>
    intro i hi
    have hb := bit_le s i
    have h2 := ih (i + 1) (by omega)
    rw [sSum] at h2
    refine bX5_votesIn_4 _ _ _ ⟨fun q => ?_, fun _ => u_has hs (by omega) ?_⟩
    · rw [hv 7 (by omega), z_le (by omega) (by omega)] at q
      omega
    · rw [b2_0, z_add, z_add]
      refine ⟨fun q => ?_, fun q => ?_⟩
      · simp at q
        rw [if_neg q] at h2
        exact h2
      · simp at q
        rw [if_pos q] at h2
        refine u_votesOf hv hI (by omega) ?_
        rw [z_add]
        exact h2
theorem u_votesIn (hv : MV S m) (hI : IV m) {s : Nat} (hs : s < 2147483648) (h : P (nI (sIn m s)) S) : Ct G l mX5_votesIn (d + 2) [.ref 7, .int (nI s)] S (QI P) :=
  bX5_votesIn_0 _ (u_votesIn_l hv hI hs h (m 7) 0 (by omega))
theorem u_votesOut_l (hv : MV S m) (hI : IV m) {a b w e : Nat} (ha : a < 100) (hb : b < 100) (hwe : w ≤ e) (he : e < 100) (h : P (nI (sOf m a b w e)) S) : ∀ (k i : Nat), i + k = m 7 → Ev G l mX5_votesOut (d + 4) 6 [some (.ref 7), some (.int (nI a)), some (.int (nI b - nI 1)), some (.int (nI w)), some (.int (nI e)), some (.int (nI (sOut m a b w e i))), some (.int (nI i))] [] S (QI P) := by
  have hp := hI.p6
  intro k
  induction k with
  | zero =>
    intro i hi
    refine bX5_votesOut_6 _ _ _ _ _ _ ⟨fun _ => ?_, fun q => ?_⟩
    · rw [show i = m 7 by omega]
      exact h
    · rw [hv 7 (by omega), z_le (by omega) (by omega)] at q
      omega
  | succ k ih =>
    intro i hi
    obtain ⟨h1, h2, h3, -⟩ := hI.2 i (by omega)
    have h9 := ih (i + 1) (by omega)
    rw [sOut] at h9
    refine bX5_votesOut_6 _ _ _ _ _ _ ⟨fun q => ?_, fun _ => ⟨11 + 5 * i, ix_i (z_at i 1) (by omega) (by omega), u_in _ _ _ ?_⟩⟩
    · rw [hv 7 (by omega), z_le (by omega) (by omega)] at q
      omega
    · rw [hv _ (by omega), b2_0, z_add, z_add, Nat.add_zero]
      simp (disch := omega) only [z_lt, z_sub_lt]
      refine ⟨fun q => ?_, fun q => u_belongs hv hI (by omega) hwe he ?_⟩
      · rw [if_neg (by intro z; simp at q; omega)] at h9
        exact h9
      · rw [b2_0]
        simp only [decide_eq_false_iff_not, Decidable.not_not] at q
        refine ⟨fun q3 => ?_, fun q3 => ?_⟩
        · rw [if_neg (fun z => q3 z.2)] at h9
          exact h9
        · rw [if_pos ⟨by omega, q3⟩] at h9
          refine u_votesOf hv hI (by omega) ?_
          rw [z_add]
          exact h9
theorem u_votesOut (hv : MV S m) (hI : IV m) {a b w e : Nat} (ha : a < 100) (hb : b < 100) (hwe : w ≤ e) (he : e < 100) (h : P (nI (sOf m a b w e)) S) : Ct G l mX5_votesOut (d + 4) [.ref 7, .int (nI a), .int (nI b - nI 1), .int (nI w), .int (nI e)] S (QI P) :=
  bX5_votesOut_0 _ _ _ _ (u_votesOut_l hv hI ha hb hwe he h (m 7) 0 (by omega))
theorem u_later (hv : MV S m) (hI : IV m) {w e : Nat} (hwe : w ≤ e) (he : e ≤ m 0) (h : P (nI (sLat m w e)) S) : Ct G l mX5_later (d + 5) [.ref 7, .int (nI w), .int (nI e)] S (QI P) := by
  have h0 := hI.1.1
  have g1 := sIn_le hI (sBels m w e)
  have g2 := sOf_le hI 0 w w e
  have g3 := sOf_le hI e (m 0) w e
  have g4 := sBels_lt hI w e
  refine bX5_later_0 _ _ (u_belongers hv hI hwe (by omega) (u_votesIn hv hI (by omega) (u_votesOut hv hI (by omega) (by omega) hwe (by omega) (fun x ex => ?_))))
  rw [hv 0 (by omega)]
  refine u_votesOut hv hI (by omega) (by omega) hwe (by omega) (fun y ey w1 ew e1 ee e2 ee2 => ?_)
  have ex' : x = b2 (sWb m w e) := by
    rw [ex, b2, sWb]
    simp (disch := omega) only [z_le]
    grind
  have ey' : y = b2 (sEb m w e) := by
    rw [ey, b2, sEb]
    simp (disch := omega) only [z_le]
    grind
  have ew' : w1 = nI (sW' m w e) := by
    rw [ew, ex', z_sub hwe]
    simp (disch := omega) only [b2_0, z_le, z_add]
    unfold sW'
    cases sWb m w e
    · by_cases q : w < e
      · rw [if_pos rfl, if_neg (by omega)]
        simp [q]
      · rw [if_pos rfl, if_pos (by omega)]
        simp [q]
    · by_cases q : 0 < w
      · rw [if_neg (by simp), if_neg (by omega), z_sub (by omega)]
        simp
      · rw [if_neg (by simp), if_pos (by omega)]
        simp
        rw [show w = 0 by omega]
  rw [hv 0 (by omega)] at ee
  have ee' : e2 = nI (sE' m w e) := by
    rw [ee2, ee, ex', ey', z_sub hwe]
    simp (disch := omega) only [b2_0, z_le, z_add, z_eq]
    unfold sE'
    cases sEb m w e
    · by_cases q : w < e
      · rw [z_sub (a := e) (b := 1) (by omega)]
        by_cases q2 : w + 1 = e
        · cases sWb m w e <;> simp [q, q2, show e - w = 1 by omega]
        · cases sWb m w e <;> simp [q, q2, show ¬ e - w = 1 by omega, show ¬ e ≤ w by omega] <;> omega
      · have : e = w := by omega
        subst this
        cases sWb m e e <;> simp
    · by_cases q : e < m 0
      · cases sWb m w e <;> simp [q, show ¬ m 0 ≤ e by omega]
      · cases sWb m w e <;> simp [q, show m 0 ≤ e by omega]
  obtain ⟨k1, k2, -⟩ := sLat_ok hI hwe he
  rw [ew', ee', z_mul, z_add]
  exact h
end mland
