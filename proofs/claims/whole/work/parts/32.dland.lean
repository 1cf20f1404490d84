/-! the Land of the class that landed, method by method -/
section dland
variable {G : Gl} {l : Launch} {d : Nat} {S : Sg} {m : Nat → Nat} {L : Nat} {P : Int32 → Sg → Prop}
theorem t_middleOf {a b : Nat} (ha : a < 1000) (hb : b < 1000) (h : P (nI ((a + b) / 2)) S) : Ct G l mX4_middleOf (d + 1) [.int (nI a), .int (nI b)] S (QI P) := by
  refine bX4_middleOf_0 _ _ ?_
  simp (disch := omega) only [z_add, z_div]
  exact h
theorem t_coastsOf {a b : Nat} (ha : a < 1000) (hb : b < 1000) (h : P (nI (10 * a + b)) S) : Ct G l mX4_coastsOf (d + 1) [.int (nI a), .int (nI b)] S (QI P) := by
  refine bX4_coastsOf_0 _ _ ?_
  simp (disch := omega) only [z_add, z_mul]
  exact h
theorem t_westOf {a : Nat} (ha : a < 1000) (h : P (nI (a / 10)) S) : Ct G l mX4_westOf (d + 1) [.int (nI a)] S (QI P) := by
  refine bX4_westOf_0 _ ?_
  simp (disch := omega) only [z_div]
  exact h
theorem t_eastOf {a : Nat} (ha : a < 1000) (h : P (nI (a % 10)) S) : Ct G l mX4_eastOf (d + 1) [.int (nI a)] S (QI P) := by
  refine bX4_eastOf_0 _ ?_
  simp (disch := omega) only [z_rem]
  exact h
theorem t_isThere (hL : LandAt L) (hv : LV S L m) (hI : IV m) (h : P (b2 (decide (0 < m 0))) S) : Ct G l mX1_isThere (d + 1) [.ref L] S (QI P) := by
  refine bX1_isThere_0 L hL (fun x ex => ?_)
  have e : x = b2 (decide (0 < m 0)) := by
    have h0 := hI.1.1
    rw [ex, hv.c, b2]
    simp (disch := omega) only [z_le]
    grind
  rw [e]; exact h
theorem t_hasCell (hL : LandAt L) (hv : LV S L m) (i : Int32) (h : P (b2 (decide (¬ i < nI 0 ∧ ¬ nI (m 0) ≤ i))) S) : Ct G l mX1_hasCell (d + 1) [.ref L, .int i] S (QI P) := by
  refine bX1_hasCell_0 L hL _ (fun x ex => ?_)
  have e : x = b2 (decide (¬ i < nI 0 ∧ ¬ nI (m 0) ≤ i)) := by
    rw [ex, hv.c, b2]
    grind
  rw [e]; exact h
theorem t_hasOne (hL : LandAt L) (hv : LV S L m) (i : Int32) (h : P (b2 (decide (¬ i < nI 0 ∧ ¬ nI (m 7) ≤ i))) S) : Ct G l mX1_hasOne (d + 1) [.ref L, .int i] S (QI P) := by
  refine bX1_hasOne_0 L hL _ (fun x ex => ?_)
  have e : x = b2 (decide (¬ i < nI 0 ∧ ¬ nI (m 7) ≤ i)) := by
    rw [ex, hv.p, b2]
    grind
  rw [e]; exact h
theorem t_hasRoomFor (hL : LandAt L) (hv : LV S L m) (hI : IV m) {n : Nat} (hn : n < 1000) (h : P (b2 (decide (m 9 + n ≤ 40))) S) : Ct G l mX1_hasRoomFor (d + 1) [.ref L, .int (nI n)] S (QI P) := by
  refine bX1_hasRoomFor_0 L hL _ (fun x ex => ?_)
  have e : x = b2 (decide (m 9 + n ≤ 40)) := by
    have h0 := hI.1.2.2.2.2.2.2.2.2.2.1
    rw [ex, hv.n, b2]
    simp (disch := omega) only [z_add, z_lt]
    grind
  rw [e]; exact h
theorem t_canBeCoasts (hL : LandAt L) (hv : LV S L m) (a b : Int32) (h : P (b2 (decide (¬ a < nI 0 ∧ ¬ b < a ∧ ¬ nI (m 0) < b))) S) : Ct G l mX1_canBeCoasts (d + 1) [.ref L, .int a, .int b] S (QI P) := by
  refine bX1_canBeCoasts_0 L hL _ _ (fun x ex => ?_)
  have e : x = b2 (decide (¬ a < nI 0 ∧ ¬ b < a ∧ ¬ nI (m 0) < b)) := by
    rw [ex, hv.c, b2]
    grind
  rw [e]; exact h
theorem t_strip (hL : LandAt L) (hv : LV S L m) (hI : IV m) (h : P (nI (m 2 - m 1)) S) : Ct G l mX1_strip (d + 1) [.ref L] S (QI P) := by
  refine bX1_strip_0 L hL ?_
  have h0 := hI.1.2.1
  rw [hv.e, hv.w, z_sub h0]
  exact h
theorem t_coasts (hL : LandAt L) (hv : LV S L m) (hI : IV m) (h : P (nI (10 * m 1 + m 2)) S) : Ct G l mX1_coasts (d + 2) [.ref L] S (QI P) := by
  refine bX1_coasts_0 L hL ?_
  obtain ⟨h0, h1, h2, -⟩ := hI.1
  rw [hv.e, hv.w]
  exact t_coastsOf (by omega) (by omega) h
def sIs (m : Nat → Nat) (i k : Nat) : Bool := decide (m (10 + 5 * i) = k ∨ (m (10 + 5 * i) = 4 ∧ k = 1) ∨ (m (10 + 5 * i) = 5 ∧ k = 2))
theorem t_isOf (hL : LandAt L) (hv : LV S L m) (hI : IV m) {i k : Nat} (hi : i < m 7) (hk : 0 < k ∧ k < 6) (h : P (b2 (sIs m i k)) S) : Ct G l mX1_isOf (d + 1) [.ref L, .int (nI i), .int (nI k)] S (QI P) := by
  have hp := hI.p6
  have h1 := (hI.2 i (by omega)).1
  refine bX1_isOf_0 L hL _ _ ⟨i, ix_nI (by omega) (by omega), fun q => ?_, fun _ x ex => ?_⟩
  · rw [z_eq (by omega) (by omega)] at q
    omega
  · have e : x = b2 (sIs m i k) := by
      rw [ex, hv.k hi, b2, sIs]
      simp (disch := omega) only [z_eq]
      grind
    rw [e]; exact h
def sLad (m : Nat → Nat) : Nat → Nat
  | 0 => 0
  | n + 1 => sLad m n + (if sIs m n 2 = true then 1 else 0)
theorem sLad_le (m : Nat → Nat) : ∀ n, sLad m n ≤ n
  | 0 => Nat.le_refl 0
  | n + 1 => by
    have := sLad_le m n
    unfold sLad
    split <;> omega
theorem t_ladies_l (hL : LandAt L) (hv : LV S L m) (hI : IV m) (h : P (nI (sLad m (m 7))) S) : ∀ (k i : Nat), i + k = m 7 → Ev G l mX1_ladies (d + 2) 4 [some (.ref L), some (.int (nI (sLad m i))), some (.int (nI i))] [] S (QI P) := by
  have hp := hI.p6
  intro k
  induction k with
  | zero =>
    intro i hi
    refine bX1_ladies_4 L hL _ _ ⟨fun _ => ?_, fun q => ?_⟩
    · rw [show i = m 7 by omega]
      exact h
    · rw [hv.p, z_le (by omega) (by omega)] at q
      omega
  | succ k ih =>
    intro i hi
    refine bX1_ladies_4 L hL _ _ ⟨fun q => ?_, fun _ => ?_⟩
    · rw [hv.p, z_le (by omega) (by omega)] at q
      omega
    · refine t_isOf hL hv hI (by omega) (by omega) (fun x ex => ?_)
      have e : x = nI (sLad m (i + 1)) := by
        rw [ex, sLad]
        simp only [b2_0]
        cases sIs m i 2 <;> simp [z_add]
      rw [e, z_add]
      exact ih (i + 1) (by omega)
theorem t_ladies (hL : LandAt L) (hv : LV S L m) (hI : IV m) (h : P (nI (sLad m (m 7))) S) : Ct G l mX1_ladies (d + 2) [.ref L] S (QI P) :=
  bX1_ladies_0 L hL (t_ladies_l hL hv hI h (m 7) 0 (by omega))
theorem t_votes (hL : LandAt L) (hv : LV S L m) (hI : IV m) {i : Nat} (hi : i < m 7) (h : P (nI (sVo m i)) S) : Ct G l mX1_votes (d + 1) [.ref L, .int (nI i)] S (QI P) := by
  have hp := hI.p6
  obtain ⟨h1, -, -, h4, -, -⟩ := hI.2 i (by omega)
  refine bX1_votes_0 L hL _ ⟨i, ix_nI (by omega) (by omega), ?_⟩
  rw [hv.k hi, hv.td hi]
  simp (disch := omega) only [z_eq, z_div, z_mul, z_add]
  unfold sVo at h
  refine ⟨fun q => ?_, fun q2 => ⟨fun q => ?_, fun q3 => ⟨fun q => ?_, fun q4 => ⟨fun q => ?_, fun q5 => ?_⟩⟩⟩⟩ <;> simp_all
theorem t_wouldBelong (hL : LandAt L) (hv : LV S L m) (hI : IV m) {k c f w e : Nat} (hk : k < 6) (hc : c < 100) (hf : f < 100) (hwe : w ≤ e) (he : e < 100) (h : P (b2 (sBy m k c f w e)) S) : Ct G l mX1_wouldBelong (d + 2) [.ref L, .int (nI k), .int (nI c), .int (nI f), .int (nI w), .int (nI e)] S (QI P) := by
  obtain ⟨h0, h1, h2, -, -, h5, h6, -⟩ := hI.1
  refine bX1_wouldBelong_0 L hL _ _ _ _ _ (fun x3 e3 x24 e24 x47 e47 => ?_)
  rw [hv.fw, hv.fe] at e24
  have e3' : x3 = b2 (decide (w ≤ c ∧ c < e)) := by
    rw [e3, b2]
    simp (disch := omega) only [z_lt, z_le]
    grind
  have e24' : x24 = b2 (decide (m 5 ≤ f ∧ f < m 6)) := by
    rw [e24, b2]
    simp (disch := omega) only [z_lt, z_le]
    grind
  have e47' : x47 = b2 (decide (c + 1 = w ∨ c = e)) := by
    rw [e47, b2]
    simp (disch := omega) only [z_eq_sub, z_eq]
    grind
  subst e3'
  subst e24'
  subst e47'
  clear e3 e24 e47
  simp (disch := omega) only [z_eq, b2_0]
  refine ⟨fun q => ?_, fun q1 => ⟨fun q x ex => ?_, fun q2 => ⟨fun q x ex => ?_, fun q3 => ⟨fun q x ex => ?_, fun q4 => ⟨fun q => ?_, fun q5 => ?_⟩⟩⟩⟩⟩
  · subst q
    simpa [sBy] using h
  · have e : x = b2 (sBy m k c f w e) := by
      rw [ex]
      simp only [sBy, q1, q, if_true, if_false, b2]
      grind
    rw [e]; exact h
  · have e : x = b2 (sBy m k c f w e) := by
      rw [ex, z_sub hwe]
      simp (disch := omega) only [z_lt]
      simp only [sBy, q, b2]
      grind
    rw [e]; exact h
  · have e : x = b2 (sBy m k c f w e) := by
      rw [ex]
      simp (disch := omega) only [z_lt]
      simp only [sBy, q, b2]
      grind
    rw [e]; exact h
  · have K : ∀ i6 i7 i8 : Int32, (w ≤ c + 1 ∧ c ≤ e) → Ev G l mX1_wouldBelong (d + 2) 146 [some (.ref L), some (.int (nI k)), some (.int (nI c)), some (.int (nI f)), some (.int (nI w)), some (.int (nI e)), some (.int i6), some (.int i7), some (.int i8)] [] S (QI P) := by
      intro i6 i7 i8 hq
      refine bX1_wouldBelong_146 L hL _ _ _ _ _ _ _ _ (t_middleOf (by omega) (by omega) (fun x ex => ?_))
      have e' : x = b2 (sBy m k c f w e) := by
        rw [ex]
        simp (disch := omega) only [z_eq]
        simp only [sBy, q, b2]
        grind
      rw [e']; exact h
    refine ⟨fun z => K _ _ _ (by simp at z; omega), fun z => ⟨fun y => ?_, fun y => K _ _ _ (by simp at y; omega)⟩⟩
    have e' : nI 0 = b2 (sBy m k c f w e) := by
      simp at z y
      simp only [sBy, q, b2]
      grind
    rw [e']; exact h
  · have e : b2 (decide (w ≤ c ∧ c < e)) = b2 (sBy m k c f w e) := by
      simp [sBy, q1, q2, q3, q4, q5]
    rw [e]; exact h
theorem t_belongs (hL : LandAt L) (hv : LV S L m) (hI : IV m) {i : Nat} (hi : i < m 7) (h : P (b2 (sBel m i (m 1) (m 2))) S) : Ct G l mX1_belongs (d + 3) [.ref L, .int (nI i)] S (QI P) := by
  have hp := hI.p6
  obtain ⟨h1, h2, h3, -⟩ := hI.2 i (by omega)
  obtain ⟨g0, g1, g2, -⟩ := hI.1
  refine bX1_belongs_0 L hL _ ⟨i, ix_nI (by omega) (by omega), ?_⟩
  rw [hv.k hi, hv.cl hi, hv.fi hi, hv.w, hv.e]
  exact t_wouldBelong hL hv hI (by omega) (by omega) (by omega) (by omega) (by omega) ⟨b2_zb _, h⟩
theorem t_belonging_l (hL : LandAt L) (hv : LV S L m) (hI : IV m) {w e : Nat} (hwe : w ≤ e) (he : e < 100) (h : P (nI (sBels m w e)) S) : ∀ (k i : Nat), i + k = m 7 → Ev G l mX1_belonging (d + 3) 5 [some (.ref L), some (.int (nI w)), some (.int (nI e)), some (.int (nI (sBit m w e i))), some (.int (nI i))] [] S (QI P) := by
  have hp := hI.p6
  intro k
  induction k with
  | zero =>
    intro i hi
    refine bX1_belonging_5 L hL _ _ _ _ ⟨fun _ => ?_, fun q => ?_⟩
    · rw [show i = m 7 by omega]
      exact h
    · rw [hv.p, z_le (by omega) (by omega)] at q
      omega
  | succ k ih =>
    intro i hi
    obtain ⟨h1, h2, h3, -⟩ := hI.2 i (by omega)
    refine bX1_belonging_5 L hL _ _ _ _ ⟨fun q => ?_, fun _ => ⟨i, ix_nI (by omega) (by omega), ?_⟩⟩
    · rw [hv.p, z_le (by omega) (by omega)] at q
      omega
    · rw [hv.k (by omega), hv.cl (by omega), hv.fi (by omega)]
      refine t_wouldBelong hL hv hI (by omega) (by omega) (by omega) hwe he (fun x ex => ?_)
      have hb := sBit_lt m w e i
      have h64 : 2 ^ i ≤ 64 := pow_le64 (by omega)
      have e' : x = nI (sBit m w e (i + 1)) := by
        rw [ex, sBit]
        rw [z_shl (by omega) (by omega), Nat.one_mul, z_or, or_pow hb]
        show (if b2 (sBel m i w e) = nI 0 then _ else _) = _
        simp only [b2_0]
        cases sBel m i w e <;> simp
      rw [e', z_add]
      exact ih (i + 1) (by omega)
theorem t_belonging (hL : LandAt L) (hv : LV S L m) (hI : IV m) {w e : Nat} (hwe : w ≤ e) (he : e < 100) (h : P (nI (sBels m w e)) S) : Ct G l mX1_belonging (d + 3) [.ref L, .int (nI w), .int (nI e)] S (QI P) :=
  bX1_belonging_0 L hL _ _ (t_belonging_l hL hv hI hwe he h (m 7) 0 (by omega))
theorem t_bit {s i : Nat} (hs : s < 2147483648) (hi : i < 32) : (nI s >>> (nI i &&& 31)) &&& nI 1 = nI (bit s i) := by
  have : s / 2 ^ i ≤ s := Nat.div_le_self _ _
  rw [z_shr hs hi, z_and1 (by omega), bit]
theorem t_votesOf_l (hL : LandAt L) (hv : LV S L m) (hI : IV m) {s : Nat} (hs : s < 2147483648) (h : P (nI (sIn m s)) S) : ∀ (k i : Nat), i + k = m 7 → Ev G l mX1_votesOf (d + 2) 4 [some (.ref L), some (.int (nI s)), some (.int (nI (sSum m s i))), some (.int (nI i))] [] S (QI P) := by
  have hp := hI.p6
  intro k
  induction k with
  | zero =>
    intro i hi
    refine bX1_votesOf_4 L hL _ _ _ ⟨fun _ => ?_, fun q => ?_⟩
    · rw [show i = m 7 by omega]
      exact h
    · rw [hv.p, z_le (by omega) (by omega)] at q
      omega
  | succ k ih =>
    intro i hi
    have hb := bit_le s i
    refine bX1_votesOf_4 L hL _ _ _ ⟨fun q => ?_, fun _ => ?_⟩
    · rw [hv.p, z_le (by omega) (by omega)] at q
      omega
    · rw [t_bit hs (by omega)]
      have h2 := ih (i + 1) (by omega)
      rw [sSum] at h2
      refine ⟨fun q => ?_, fun q => ?_⟩
      · rw [z_eq (by omega) (by omega)] at q
        rw [if_neg (by omega)] at h2
        rw [z_add]
        exact h2
      · rw [z_eq (by omega) (by omega)] at q
        rw [if_pos (by omega)] at h2
        refine t_votes hL hv hI (by omega) ?_
        rw [z_add, z_add]
        exact h2
theorem t_votesOf (hL : LandAt L) (hv : LV S L m) (hI : IV m) {s : Nat} (hs : s < 2147483648) (h : P (nI (sIn m s)) S) : Ct G l mX1_votesOf (d + 2) [.ref L, .int (nI s)] S (QI P) :=
  bX1_votesOf_0 L hL _ (t_votesOf_l hL hv hI hs h (m 7) 0 (by omega))
/-- the most votes of some -/
def sMost (m : Nat → Nat) (s : Nat) : Nat → Nat
  | 0 => 0
  | n + 1 => if bit s n = 1 then max (sMost m s n) (sVo m n) else sMost m s n
theorem sMost_le {m : Nat → Nat} (h : IV m) (s : Nat) : ∀ n, n ≤ 6 → sMost m s n ≤ 18
  | 0, _ => by simp [sMost]
  | n + 1, hn => by
    have h1 := sMost_le h s n (by omega)
    have h2 := sVo_le (h.2 n (by omega))
    unfold sMost
    split <;> omega
theorem t_mostVotesIn_l (hL : LandAt L) (hv : LV S L m) (hI : IV m) {s : Nat} (hs : s < 2147483648) (h : P (nI (sMost m s (m 7))) S) : ∀ (k i : Nat), i + k = m 7 → Ev G l mX1_mostVotesIn (d + 2) 4 [some (.ref L), some (.int (nI s)), some (.int (nI (sMost m s i))), some (.int (nI i))] [] S (QI P) := by
  have hp := hI.p6
  intro k
  induction k with
  | zero =>
    intro i hi
    refine bX1_mostVotesIn_4 L hL _ _ _ ⟨fun _ => ?_, fun q => ?_⟩
    · rw [show i = m 7 by omega]
      exact h
    · rw [hv.p, z_le (by omega) (by omega)] at q
      omega
  | succ k ih =>
    intro i hi
    have hb := bit_le s i
    refine bX1_mostVotesIn_4 L hL _ _ _ ⟨fun q => ?_, fun _ => ?_⟩
    · rw [hv.p, z_le (by omega) (by omega)] at q
      omega
    · rw [t_bit hs (by omega)]
      have h2 := ih (i + 1) (by omega)
      rw [sMost] at h2
      refine ⟨fun q => ?_, fun q => ?_⟩
      · rw [z_eq (by omega) (by omega)] at q
        rw [if_neg (by omega)] at h2
        rw [z_add]
        exact h2
      · rw [z_eq (by omega) (by omega)] at q
        rw [if_pos (by omega)] at h2
        have b1 := sMost_le hI s i (by omega)
        have b3 := sVo_le (hI.2 i (by omega))
        refine t_votes hL hv hI (by omega) ?_
        have e : (if nI (sMost m s i) < nI (sVo m i) then nI (sVo m i) else nI (sMost m s i)) = nI (max (sMost m s i) (sVo m i)) := by
          simp (disch := omega) only [z_lt]
          split
          · rw [Nat.max_eq_right (by omega)]
          · rw [Nat.max_eq_left (by omega)]
        rw [z_add, e]
        exact h2
theorem t_mostVotesIn (hL : LandAt L) (hv : LV S L m) (hI : IV m) {s : Nat} (hs : s < 2147483648) (h : P (nI (sMost m s (m 7))) S) : Ct G l mX1_mostVotesIn (d + 2) [.ref L, .int (nI s)] S (QI P) :=
  bX1_mostVotesIn_0 L hL _ (t_mostVotesIn_l hL hv hI hs h (m 7) 0 (by omega))
theorem t_votesBelonging (hL : LandAt L) (hv : LV S L m) (hI : IV m) {w e : Nat} (hwe : w ≤ e) (he : e < 100) (h : P (nI (sIn m (sBels m w e))) S) : Ct G l mX1_votesBelonging (d + 4) [.ref L, .int (nI w), .int (nI e)] S (QI P) := by
  have := sBels_lt hI w e
  exact bX1_votesBelonging_0 L hL _ _ (t_belonging hL hv hI hwe he (t_votesOf hL hv hI (by omega) h))
theorem t_votesOfStrangers_l (hL : LandAt L) (hv : LV S L m) (hI : IV m) {a b w e : Nat} (ha : a < 100) (hb : b < 100) (hwe : w ≤ e) (he : e < 100) (h : P (nI (sOf m a b w e)) S) : ∀ (k i : Nat), i + k = m 7 → Ev G l mX1_votesOfStrangers (d + 3) 6 [some (.ref L), some (.int (nI a)), some (.int (nI b)), some (.int (nI w)), some (.int (nI e)), some (.int (nI (sOut m a b w e i))), some (.int (nI i))] [] S (QI P) := by
  have hp := hI.p6
  intro k
  induction k with
  | zero =>
    intro i hi
    refine bX1_votesOfStrangers_6 L hL _ _ _ _ _ _ ⟨fun _ => ?_, fun q => ?_⟩
    · rw [show i = m 7 by omega]
      exact h
    · rw [hv.p, z_le (by omega) (by omega)] at q
      omega
  | succ k ih =>
    intro i hi
    obtain ⟨h1, h2, h3, -⟩ := hI.2 i (by omega)
    have h9 := ih (i + 1) (by omega)
    rw [sOut] at h9
    refine bX1_votesOfStrangers_6 L hL _ _ _ _ _ _ ⟨fun q => ?_, fun _ => ⟨i, ix_nI (by omega) (by omega), ?_⟩⟩
    · rw [hv.p, z_le (by omega) (by omega)] at q
      omega
    · rw [hv.k (by omega), hv.cl (by omega), hv.fi (by omega), z_add]
      simp (disch := omega) only [z_lt, z_le]
      refine ⟨fun q => ?_, fun q => ⟨fun q2 => ?_, fun q2 => ?_⟩⟩
      · rw [if_neg (by omega)] at h9
        exact h9
      · rw [if_neg (by omega)] at h9
        exact h9
      · refine t_wouldBelong hL hv hI (by omega) (by omega) (by omega) hwe he ?_
        have hq : (b2 (sBy m (m (10 + 5 * i)) (m (11 + 5 * i)) (m (12 + 5 * i)) w e) = nI 0) ↔ sBel m i w e = false := b2_0 _
        rw [hq]
        refine ⟨fun q3 => ?_, fun q3 => ?_⟩
        · rw [if_neg (fun z => q3 z.2)] at h9
          exact h9
        · rw [if_pos ⟨by omega, q3⟩] at h9
          refine t_votes hL hv hI (by omega) ?_
          rw [z_add]
          exact h9
theorem t_votesOfStrangers (hL : LandAt L) (hv : LV S L m) (hI : IV m) {a b w e : Nat} (ha : a < 100) (hb : b < 100) (hwe : w ≤ e) (he : e < 100) (h : P (nI (sOf m a b w e)) S) : Ct G l mX1_votesOfStrangers (d + 3) [.ref L, .int (nI a), .int (nI b), .int (nI w), .int (nI e)] S (QI P) :=
  bX1_votesOfStrangers_0 L hL _ _ _ _ (t_votesOfStrangers_l hL hv hI ha hb hwe he h (m 7) 0 (by omega))
theorem t_votesOfWest (hL : LandAt L) (hv : LV S L m) (hI : IV m) {w e : Nat} (hwe : w ≤ e) (he : e < 100) (h : P (nI (sOf m 0 w w e)) S) : Ct G l mX1_votesOfWest (d + 4) [.ref L, .int (nI w), .int (nI e)] S (QI P) :=
  bX1_votesOfWest_0 L hL _ _ (t_votesOfStrangers hL hv hI (by omega) (by omega) hwe he h)
theorem t_votesOfEast (hL : LandAt L) (hv : LV S L m) (hI : IV m) {w e : Nat} (hwe : w ≤ e) (he : e < 100) (h : P (nI (sOf m e (m 0) w e)) S) : Ct G l mX1_votesOfEast (d + 4) [.ref L, .int (nI w), .int (nI e)] S (QI P) := by
  have h0 := hI.1.1
  refine bX1_votesOfEast_0 L hL _ _ ?_
  rw [hv.c]
  exact t_votesOfStrangers hL hv hI (by omega) (by omega) hwe he h
/-- votes of those who belong and would have a law -/
def sFor (m : Nat → Nat) (q : Nat) : Nat → Nat
  | 0 => 0
  | n + 1 => sFor m q n + (if sBel m n (m 1) (m 2) = true ∧ bit (m (14 + 5 * n)) q = 1 then sVo m n else 0)
theorem sFor_le {m : Nat → Nat} (h : IV m) (q : Nat) : ∀ n, n ≤ 6 → sFor m q n ≤ 18 * n
  | 0, _ => by simp [sFor]
  | n + 1, hn => by
    have h1 := sFor_le h q n (by omega)
    have h2 := sVo_le (h.2 n (by omega))
    unfold sFor
    split <;> omega
theorem and_pow : ∀ x, x < 8 → ∀ q, q < 3 → ((x &&& 2 ^ q = 0) ↔ bit x q = 0) := by decide +kernel
theorem t_votesFor_l (hL : LandAt L) (hv : LV S L m) (hI : IV m) {q : Nat} (hq : q < 3) (h : P (nI (sFor m q (m 7))) S) : ∀ (k i : Nat), i + k = m 7 → Ev G l mX1_votesFor (d + 4) 4 [some (.ref L), some (.int (nI (2 ^ q))), some (.int (nI (sFor m q i))), some (.int (nI i))] [] S (QI P) := by
  have hp := hI.p6
  intro k
  induction k with
  | zero =>
    intro i hi
    refine bX1_votesFor_4 L hL _ _ _ ⟨fun _ => ?_, fun q => ?_⟩
    · rw [show i = m 7 by omega]
      exact h
    · rw [hv.p, z_le (by omega) (by omega)] at q
      omega
  | succ k ih =>
    intro i hi
    have h9 := ih (i + 1) (by omega)
    rw [sFor] at h9
    obtain ⟨h1, h2, h3, h4, h5, -⟩ := hI.2 i (by omega)
    refine bX1_votesFor_4 L hL _ _ _ ⟨fun q => ?_, fun _ => ?_⟩
    · rw [hv.p, z_le (by omega) (by omega)] at q
      omega
    · refine t_belongs hL hv hI (by omega) ?_
      rw [z_add, b2_0]
      refine ⟨fun z => ?_, fun z => ⟨i, ix_nI (by omega) (by omega), ?_⟩⟩
      · rw [if_neg (fun y => by rw [z] at y; exact absurd y.1 (by simp))] at h9
        exact h9
      · rw [hv.lw (by omega), z_and]
        have ha := and_pow (m (14 + 5 * i)) (by omega) q hq
        have hb := bit_le (m (14 + 5 * i)) q
        have hle : m (14 + 5 * i) &&& 2 ^ q ≤ m (14 + 5 * i) := Nat.and_le_left
        rw [z_eq (by omega) (by omega), ha]
        refine ⟨fun y => ?_, fun y => ?_⟩
        · rw [if_neg (fun x => by omega)] at h9
          exact h9
        · rw [if_pos ⟨by simpa using z, by omega⟩] at h9
          refine t_votes hL hv hI (by omega) ?_
          rw [z_add]
          exact h9
theorem t_votesFor (hL : LandAt L) (hv : LV S L m) (hI : IV m) {q : Nat} (hq : q < 3) (h : P (nI (sFor m q (m 7))) S) : Ct G l mX1_votesFor (d + 4) [.ref L, .int (nI (2 ^ q))] S (QI P) :=
  bX1_votesFor_0 L hL _ (t_votesFor_l hL hv hI hq h (m 7) 0 (by omega))
/-- how far a cell is from the strip -/
def sFar (m : Nat → Nat) (c : Nat) : Nat := if m 1 = m 2 then (if c < m 1 then m 1 - c else c - m 1) else if c < m 1 then m 1 - c else if m 2 ≤ c then c + 1 - m 2 else 0
theorem t_farFromStrip (hL : LandAt L) (hv : LV S L m) (hI : IV m) {c : Nat} (hc : c < 100) (h : P (nI (sFar m c)) S) : Ct G l mX1_farFromStrip (d + 1) [.ref L, .int (nI c)] S (QI P) := by
  obtain ⟨h0, h1, h2, -⟩ := hI.1
  refine bX1_farFromStrip_0 L hL _ ?_
  rw [hv.e, hv.w]
  simp (disch := omega) only [z_eq]
  unfold sFar at h
  refine ⟨fun q => ?_, fun q => ?_⟩
  · rw [if_neg (by omega)] at h
    rw [z_sub (a := m 2) (b := 1) (by omega)]
    rcases (show c < m 1 ∨ (m 1 ≤ c ∧ c < m 2) ∨ m 2 ≤ c by omega) with q1 | q1 | q1
    · rw [if_pos q1] at h
      have e1 : (if nI (m 1) - nI c < nI c - nI (m 2 - 1) then nI c - nI (m 2 - 1) else nI (m 1) - nI c) = nI (m 1 - c) := by
        rw [z_sub (a := m 1) (b := c) (by omega), if_neg (by rw [z_lt_sub (by omega) (by omega) (by omega)]; omega)]
      rw [e1, if_pos (by rw [z_lt (by omega) (by omega)]; omega)]
      exact h
    · rw [if_neg (by omega), if_neg (by omega)] at h
      rw [if_neg]
      · exact h
      · split
        · rw [z_lt_sub (by omega) (by omega) (by omega)]; omega
        · rw [z_lt_sub (by omega) (by omega) (by omega)]; omega
    · rw [if_neg (by omega), if_pos q1] at h
      have e1 : (if nI (m 1) - nI c < nI c - nI (m 2 - 1) then nI c - nI (m 2 - 1) else nI (m 1) - nI c) = nI (c - (m 2 - 1)) := by
        rw [z_sub (a := c) (b := m 2 - 1) (by omega), if_pos (by rw [z_sub_lt (by omega) (by omega) (by omega)]; omega)]
      rw [e1, if_pos (by rw [z_lt (by omega) (by omega)]; omega)]
      rw [show c - (m 2 - 1) = c + 1 - m 2 by omega]
      exact h
  · rw [if_pos q.symm] at h
    by_cases q1 : c < m 1
    · rw [if_pos q1] at h
      rw [if_neg (by show ¬ nI 0 ≤ _; rw [z_le_sub (by omega) (by omega) (by omega)]; omega)]
      have : (0 : Int32) - (nI c - nI (m 1)) = nI (m 1) - nI c := by
        rw [Int32.sub_eq_add_neg, Int32.neg_sub, Int32.zero_add]
      rw [this, z_sub (by omega)]
      exact h
    · rw [if_neg q1] at h
      rw [if_pos (by show nI 0 ≤ _; rw [z_le_sub (by omega) (by omega) (by omega)]; omega), z_sub (by omega)]
      exact h
def sOth (m : Nat → Nat) (i : Nat) : Nat → Nat
  | 0 => 0
  | n + 1 => sOth m i n + (if n ≠ i ∧ m (11 + 5 * n) = m (11 + 5 * i) then 1 else 0)
theorem sOth_le (m : Nat → Nat) (i : Nat) : ∀ n, sOth m i n ≤ n
  | 0 => Nat.le_refl 0
  | n + 1 => by
    have := sOth_le m i n
    unfold sOth
    split <;> omega
theorem t_othersWith_l (hL : LandAt L) (hv : LV S L m) (hI : IV m) {j : Nat} (hj : j < m 7) (h : P (nI (sOth m j (m 7))) S) : ∀ (k i : Nat), i + k = m 7 → Ev G l mX1_othersWith (d + 1) 4 [some (.ref L), some (.int (nI j)), some (.int (nI (sOth m j i))), some (.int (nI i))] [] S (QI P) := by
  have hp := hI.p6
  intro k
  induction k with
  | zero =>
    intro i hi
    refine bX1_othersWith_4 L hL _ _ _ ⟨fun _ => ?_, fun q => ?_⟩
    · rw [show i = m 7 by omega]
      exact h
    · rw [hv.p, z_le (by omega) (by omega)] at q
      omega
  | succ k ih =>
    intro i hi
    have h9 := ih (i + 1) (by omega)
    rw [sOth] at h9
    obtain ⟨-, h2, -⟩ := hI.2 i (by omega)
    obtain ⟨-, h3, -⟩ := hI.2 j (by omega)
    have ci : (nI i).toNatClampNeg = i := nI_clamp (by omega)
    have cj : (nI j).toNatClampNeg = j := nI_clamp (by omega)
    refine bX1_othersWith_4 L hL _ _ _ ⟨fun q => ?_, fun _ => ?_⟩
    · rw [hv.p, z_le (by omega) (by omega)] at q
      omega
    · rw [ci, cj, hv.cl (by omega), hv.cl hj]
      refine ⟨fun _ => ix_nI (by omega) (by omega), fun _ => ix_nI (by omega) (by omega), fun x ex => ?_⟩
      have e' : x = nI (sOth m j i + (if i ≠ j ∧ m (11 + 5 * i) = m (11 + 5 * j) then 1 else 0)) := by
        rw [ex]
        simp (disch := omega) only [z_eq, z_add]
        by_cases q1 : i = j <;> by_cases q2 : m (11 + 5 * i) = m (11 + 5 * j) <;> simp [q1, q2]
      rw [e', z_add]
      exact h9
theorem t_othersWith (hL : LandAt L) (hv : LV S L m) (hI : IV m) {j : Nat} (hj : j < m 7) (h : P (nI (sOth m j (m 7))) S) : Ct G l mX1_othersWith (d + 1) [.ref L, .int (nI j)] S (QI P) :=
  bX1_othersWith_0 L hL _ (t_othersWith_l hL hv hI hj h (m 7) 0 (by omega))
/-- whether a side can move: s 0 the west, 1 the east; back or on -/
def sCan (m : Nat → Nat) (s : Nat) (back : Bool) (w e : Nat) : Bool := if back = true then (if s = 0 then decide (0 < w) else decide (e < m 0)) else decide (w < e)
def byI (back : Bool) : Int32 := if back = true then nI 1 else -1
theorem t_canMove (hL : LandAt L) (hv : LV S L m) (hI : IV m) {s w e : Nat} (back : Bool) (hs : s < 2) (hw : w < 100) (he : e < 100) (h : P (b2 (sCan m s back w e)) S) : Ct G l mX1_canMove (d + 1) [.ref L, .int (nI s), .int (byI back), .int (nI w), .int (nI e)] S (QI P) := by
  have h0 := hI.1.1
  refine bX1_canMove_0 L hL _ _ _ _ ⟨fun q x ex => ?_, fun q x ex => ?_⟩
  · have hb : back = true := by
      cases back
      · exact absurd rfl q
      · rfl
    have e' : x = b2 (sCan m s back w e) := by
      rw [ex, hv.c, sCan, if_pos hb, b2]
      simp (disch := omega) only [z_eq, z_le]
      grind
    rw [e']; exact h
  · have hb : back = false := by
      cases back
      · rfl
      · exact absurd q (by decide)
    have e' : x = b2 (sCan m s back w e) := by
      rw [ex, sCan, hb, b2]
      simp (disch := omega) only [z_le]
      grind
    rw [e']; exact h
theorem sLat_ok {m : Nat → Nat} (hI : IV m) {w e : Nat} (hwe : w ≤ e) (he : e ≤ m 0) : sW' m w e ≤ sE' m w e ∧ sE' m w e ≤ 9 ∧ sLat m w e / 10 = sW' m w e ∧ sLat m w e % 10 = sE' m w e ∧ sLat m w e < 1000 ∧ sLat m w e / 10 ≤ sLat m w e % 10 ∧ sLat m w e % 10 ≤ m 0 := by
  have h0 := hI.1.1
  obtain ⟨h1, h2⟩ := sWE hI hwe he
  unfold sLat
  omega
theorem t_yearOn (hL : LandAt L) (hv : LV S L m) (hI : IV m) {w e : Nat} (hwe : w ≤ e) (he : e ≤ m 0) (h : P (nI (sLat m w e)) S) : Ct G l mX1_yearOn (d + 5) [.ref L, .int (nI (10 * w + e))] S (QI P) := by
  have h0 := hI.1.1
  have g1 := sIn_le hI (sBels m w e)
  have g2 := sOf_le hI 0 w w e
  have g3 := sOf_le hI e (m 0) w e
  refine bX1_yearOn_0 L hL _ (t_westOf (by omega) (t_eastOf (by omega) ?_))
  rw [show (10 * w + e) / 10 = w by omega, show (10 * w + e) % 10 = e by omega]
  refine t_votesBelonging hL hv hI hwe (by omega) (t_votesOfWest hL hv hI hwe (by omega) (fun x ex => t_votesOfEast hL hv hI hwe (by omega) (fun y ey z ez => ?_)))
  have ex' : x = byI (sWb m w e) := by
    rw [ex, byI, sWb]
    simp (disch := omega) only [z_le]
    grind
  have ey' : y = byI (sEb m w e) := by
    rw [ey, byI, sEb]
    simp (disch := omega) only [z_le]
    grind
  have ez' : z = b2 (decide (sWb m w e = false ∧ sEb m w e = false ∧ w + 1 = e)) := by
    rw [ez, ex', ey', byI, byI, b2]
    simp (disch := omega) only [z_sub_eq]
    cases sWb m w e <;> cases sEb m w e <;> by_cases q : 1 + w = e <;> simp [q] <;> (try decide) <;> omega
  subst ex'
  subst ey'
  subst ez'
  refine t_canMove hL hv hI (s := 0) _ (by omega) (by omega) (by omega) (fun x1 ex1 => t_canMove hL hv hI (s := 1) _ (by omega) (by omega) (by omega) (fun y1 ey1 => ?_))
  have ex1' : x1 = nI (sW' m w e) := by
    rw [ex1]
    simp only [b2_0]
    unfold sCan sW' byI
    cases sWb m w e
    · by_cases q : w < e <;> simp [q]
      exact (nI_1 w)
    · by_cases q : 0 < w
      · simp [q]
        exact z_sub (by omega)
      · simp [q]
        rw [show w = 0 by omega]
  have ey1' : y1 = nI (sE' m w e) := by
    rw [ey1]
    simp only [b2_0]
    unfold sCan sE' byI
    cases sEb m w e
    · cases sWb m w e
      · by_cases q : w < e
        · by_cases q2 : w + 1 = e
          · simp [q, q2]
          · simp [q, q2]
            rw [show e = (e - 1) + 1 by omega, z_add_m1]
            simp
        · simp [q]
      · by_cases q : w < e
        · simp [q]
          rw [show e = (e - 1) + 1 by omega, z_add_m1]
          simp
        · simp [q]
    · by_cases q : e < m 0 <;> simp [q]
      exact nI_1 e
  rw [ex1', ey1']
  obtain ⟨k1, k2, -⟩ := sLat_ok hI hwe he
  exact t_coastsOf (by omega) (by omega) h
end dland
