/-! ways -/
section ways
variable {G : Gl} {l : Launch} {d : Nat} {S : Sg} {m : Nat → Nat} {L : Nat} {P : Int32 → Sg → Prop} {F : Int32 → Int32 → Sg → Prop}
/-- how many of the first n are in a cell and do not belong -/
def sNb (m : Nat → Nat) (c : Nat) : Nat → Nat
  | 0 => 0
  | n + 1 => sNb m c n + (if m (11 + 5 * n) = c ∧ sBel m n (m 1) (m 2) = false then 1 else 0)
theorem sNb_le (m : Nat → Nat) (c : Nat) : ∀ n, sNb m c n ≤ n
  | 0 => Nat.le_refl 0
  | n + 1 => by
    have := sNb_le m c n
    unfold sNb
    split <;> omega
theorem sNb_mono (m : Nat → Nat) (c : Nat) (i : Nat) : ∀ k, sNb m c i ≤ sNb m c (i + k)
  | 0 => Nat.le_refl _
  | k + 1 => by
    have := sNb_mono m c i k
    show sNb m c i ≤ sNb m c (i + k) + _
    omega
def sCost (m : Nat → Nat) (c : Nat) : Nat := if m 1 ≤ c ∧ c < m 2 then 1 else (if m 2 ≤ c then 3 else 2) + (if 0 < sNb m c (m 7) then 1 else 0)
theorem sCost_le (m : Nat → Nat) (c : Nat) : sCost m c ≤ 4 := by
  unfold sCost
  repeat' split
  all_goals omega
/-- whether a cell is entered -/
def sOn (f t c : Nat) : Bool := if t ≤ f then decide (c < f ∧ t ≤ c) else decide (f < c ∧ c ≤ t)
def sWay (m : Nat → Nat) (f t : Nat) : Nat → Nat
  | 0 => 0
  | n + 1 => sWay m f t n + (if sOn f t n = true then sCost m n else 0)
theorem sWay_le (m : Nat → Nat) (f t : Nat) : ∀ n, sWay m f t n ≤ 4 * n
  | 0 => Nat.le_refl 0
  | n + 1 => by
    have := sWay_le m f t n
    have := sCost_le m n
    unfold sWay
    split <;> omega
theorem sWay_low {m : Nat → Nat} {f t : Nat} : ∀ n, (∀ i, i < n → sOn f t i = false) → sWay m f t n = 0
  | 0, _ => rfl
  | n + 1, h => by
    have h1 := sWay_low (m := m) n (fun i hi => h i (by omega))
    have h2 := h n (by omega)
    unfold sWay
    rw [h1, h2]
    rfl
theorem sWay_high {m : Nat → Nat} {f t i : Nat} : ∀ k, (∀ j, i ≤ j → j < i + k → sOn f t j = false) → sWay m f t (i + k) = sWay m f t i
  | 0, _ => rfl
  | k + 1, h => by
    have h1 := sWay_high (m := m) k (fun j h1 h2 => h j h1 (by omega))
    have h2 := h (i + k) (by omega) (by omega)
    show sWay m f t (i + k) + (if sOn f t (i + k) = true then sCost m (i + k) else 0) = _
    rw [h1, h2]
    rfl
def sFarW (m : Nat → Nat) (f : Nat) : Nat → Nat
  | 0 => 0
  | n + 1 => sFarW m f n + sWay m f n (m 0)
theorem sFarW_le {m : Nat → Nat} (hI : IV m) (f : Nat) : ∀ n, sFarW m f n ≤ 36 * n
  | 0 => Nat.le_refl 0
  | n + 1 => by
    have := sFarW_le hI f n
    have := sWay_le m f n (m 0)
    have := hI.1.1
    unfold sFarW
    omega
theorem t_enter_l (hL : LandAt L) (hv : LV S L m) (hI : IV m) {c b : Nat} (hc : c < 100) (hb : b < 100) (h : P (nI (b + (if 0 < sNb m c (m 7) then 1 else 0))) S) : ∀ (k i : Nat), i + k = m 7 → sNb m c i = 0 → Ev G l mX1_enterLong (d + 4) 34 [some (.ref L), some (.int (nI c)), some (.int (nI b)), some (.int (nI i))] [] S (QI P) := by
  have hp := hI.p6
  intro k
  induction k with
  | zero =>
    intro i hi hz
    obtain rfl : i = m 7 := by omega
    rw [hz] at h
    refine bX1_enterLong_34 L hL _ _ _ ⟨fun _ => h, fun q => absurd (by rw [hv.p]; exact (z_le (by omega) (by omega)).mpr (Nat.le_refl _)) q⟩
  | succ k ih =>
    intro i hi hz
    have hi7 : i < m 7 := by omega
    obtain ⟨-, p1, -, -, -, -⟩ := hI.2 i (by omega)
    have hs : sNb m c (i + 1) = sNb m c i + (if m (11 + 5 * i) = c ∧ sBel m i (m 1) (m 2) = false then 1 else 0) := rfl
    refine bX1_enterLong_34 L hL _ _ _ ⟨fun q => ?_, fun _ => ⟨i, ix_nI (by omega) (by omega), ?_⟩⟩
    · rw [hv.p, z_le (by omega) (by omega)] at q
      omega
    · rw [hv.cl hi7, z_eq (by omega) (by omega), z_add]
      refine ⟨fun q => ?_, fun q => t_belongs hL hv hI hi7 ?_⟩
      · exact ih (i + 1) (by omega) (by rw [hs, if_neg (fun y => q y.1)]; omega)
      · simp only [b2_0]
        refine ⟨fun z => ?_, fun z => ?_⟩
        · exact ih (i + 1) (by omega) (by rw [hs, if_neg (fun y => z y.2)]; omega)
        · have h2 := sNb_mono m c (i + 1) (m 7 - (i + 1))
          rw [hs, if_pos ⟨q, z⟩, show i + 1 + (m 7 - (i + 1)) = m 7 by omega] at h2
          rw [if_pos (by omega)] at h
          rw [z_add]
          exact h
theorem t_enterLong (hL : LandAt L) (hv : LV S L m) (hI : IV m) {c : Nat} (hc : c < 100) (h : P (nI (sCost m c)) S) : Ct G l mX1_enterLong (d + 4) [.ref L, .int (nI c)] S (QI P) := by
  obtain ⟨h0, h1, h2, -⟩ := hI.1
  have h3 : ¬ (m 1 ≤ c ∧ c < m 2) → Ev G l mX1_enterLong (d + 4) 18 [some (.ref L), some (.int (nI c)), none, none] [] S (QI P) := by
    intro q
    refine bX1_enterLong_18 L hL _ (fun x ex => ?_)
    have e : x = nI (if m 2 ≤ c then 3 else 2) := by
      rw [ex, hv.w]
      simp (disch := omega) only [z_le]
      by_cases z : m 2 ≤ c
      · rw [if_pos (by omega), if_pos z]
      · rw [if_neg (by omega), if_neg z]
    rw [e]
    rw [sCost, if_neg q] at h
    exact t_enter_l hL hv hI hc (by split <;> omega) h (m 7) 0 (by omega) rfl
  refine bX1_enterLong_0 L hL _ ?_
  rw [hv.w, hv.e, z_lt (by omega) (by omega), z_le (by omega) (by omega)]
  refine ⟨fun q => h3 (by omega), fun q => ⟨fun q2 => h3 (by omega), fun q2 => ?_⟩⟩
  rw [sCost, if_pos (by omega)] at h
  exact h
theorem z_pm1 (a : Nat) : nI a + (-1) = nI a - nI 1 := (Int32.sub_eq_add_neg (a := nI a) (b := nI 1)).symm
theorem t_way_b (hL : LandAt L) (hv : LV S L m) (hI : IV m) {f t : Nat} (hf : f < 100) (ht : t ≤ f) (h : P (nI (sWay m f t (m 0))) S) : ∀ (k c a : Nat), t + k = c → c ≤ f → a + sWay m f t c = sWay m f t (m 0) → Ev G l mX1_wayLong (d + 5) 33 [some (.ref L), some (.int (nI f)), some (.int (nI t)), some (.int (nI a)), some (.int (nI c - nI 1))] [] S (QI P) := by
  intro k
  induction k with
  | zero =>
    intro c a hc _ ha
    refine bX1_wayLong_33 L hL _ _ _ _ ⟨fun _ => ?_, fun q => absurd ((z_sub_lt (by omega) (by omega) (by omega)).mpr (by omega)) q⟩
    rw [sWay_low c (fun i hi => by unfold sOn; rw [if_pos ht]; exact decide_eq_false (by omega)), Nat.add_zero] at ha
    rw [ha]
    exact h
  | succ k ih =>
    intro c a hc hcf ha
    obtain ⟨e, rfl⟩ : ∃ e, c = e + 1 := ⟨c - 1, by omega⟩
    rw [sWay, show sOn f t e = true by unfold sOn; rw [if_pos ht]; exact decide_eq_true (by omega), if_pos rfl] at ha
    refine bX1_wayLong_33 L hL _ _ _ _ ⟨fun q => ?_, fun _ => ?_⟩
    · rw [z_sub_lt (by omega) (by omega) (by omega)] at q
      omega
    · rw [z_sub (by omega : 1 ≤ e + 1), Nat.add_sub_cancel, z_pm1]
      refine t_enterLong hL hv hI (by omega) ?_
      rw [z_add]
      exact ih e _ (by omega) (by omega) (by omega)
theorem t_way_f (hL : LandAt L) (hv : LV S L m) (hI : IV m) {f t : Nat} (hf : f < 100) (ht : t < m 0) (hft : f < t) (h : P (nI (sWay m f t (m 0))) S) : ∀ (k c : Nat), c + k = t + 1 → f < c → Ev G l mX1_wayLong (d + 5) 7 [some (.ref L), some (.int (nI f)), some (.int (nI t)), some (.int (nI (sWay m f t c))), some (.int (nI c))] [] S (QI P) := by
  have h0 := hI.1.1
  intro k
  induction k with
  | zero =>
    intro c hc hfc
    refine bX1_wayLong_7 L hL _ _ _ _ ⟨fun _ => ?_, fun q => absurd ((z_lt (by omega) (by omega)).mpr (by omega)) q⟩
    refine bX1_wayLong_33 L hL _ _ _ _ ⟨fun _ => ?_, fun q => absurd ((z_sub_lt (by omega) (by omega) (by omega)).mpr (by omega)) q⟩
    have := sWay_high (m := m) (f := f) (t := t) (i := c) (m 0 - c) (fun j h1 h2 => by unfold sOn; rw [if_neg (by omega)]; exact decide_eq_false (by omega))
    rw [show c + (m 0 - c) = m 0 by omega] at this
    rw [← this]
    exact h
  | succ k ih =>
    intro c hc hfc
    have h9 := ih (c + 1) (by omega) (by omega)
    rw [sWay, show sOn f t c = true by unfold sOn; rw [if_neg (by omega)]; exact decide_eq_true (by omega), if_pos rfl] at h9
    refine bX1_wayLong_7 L hL _ _ _ _ ⟨fun q => ?_, fun _ => t_enterLong hL hv hI (by omega) ?_⟩
    · rw [z_lt (by omega) (by omega)] at q
      omega
    · rw [z_add, z_add]
      exact h9
theorem t_wayLong (hL : LandAt L) (hv : LV S L m) (hI : IV m) {f t : Nat} (hf : f < m 0) (ht : t < m 0) (h : P (nI (sWay m f t (m 0))) S) : Ct G l mX1_wayLong (d + 5) [.ref L, .int (nI f), .int (nI t)] S (QI P) := by
  have h0 := hI.1.1
  refine bX1_wayLong_0 L hL _ _ ?_
  rw [z_add]
  by_cases q : f < t
  · have := t_way_f (d := d) (G := G) (l := l) hL hv hI (by omega) ht q h (t - f) (f + 1) (by omega) (by omega)
    rw [sWay_low (f + 1) (fun i hi => by unfold sOn; rw [if_neg (by omega)]; exact decide_eq_false (by omega))] at this
    exact this
  · refine bX1_wayLong_7 L hL _ _ _ _ ⟨fun _ => ?_, fun q => absurd ((z_lt (by omega) (by omega)).mpr (by omega)) q⟩
    refine t_way_b hL hv hI (by omega) (by omega) h (f - t) f 0 (by omega) (by omega) ?_
    have := sWay_high (m := m) (f := f) (t := t) (i := f) (m 0 - f) (fun j h1 h2 => by unfold sOn; rw [if_pos (by omega)]; exact decide_eq_false (by omega))
    rw [show f + (m 0 - f) = m 0 by omega] at this
    omega
theorem t_far_l (hL : LandAt L) (hv : LV S L m) (hI : IV m) {f : Nat} (hf : f < m 0) (h : P (nI (sFarW m f (m 0))) S) : ∀ (k c : Nat), c + k = m 0 → Ev G l mX1_farLong (d + 6) 4 [some (.ref L), some (.int (nI f)), some (.int (nI (sFarW m f c))), some (.int (nI c))] [] S (QI P) := by
  have h0 := hI.1.1
  intro k
  induction k with
  | zero =>
    intro c hc
    obtain rfl : c = m 0 := by omega
    exact bX1_farLong_4 L hL _ _ _ ⟨fun _ => h, fun q => absurd (by rw [hv.c]; exact (z_le (by omega) (by omega)).mpr (Nat.le_refl _)) q⟩
  | succ k ih =>
    intro c hc
    have h9 := ih (c + 1) (by omega)
    rw [sFarW] at h9
    refine bX1_farLong_4 L hL _ _ _ ⟨fun q => ?_, fun _ => t_wayLong hL hv hI hf (by omega) ?_⟩
    · rw [hv.c, z_le (by omega) (by omega)] at q
      omega
    · rw [z_add, z_add]
      exact h9
theorem t_farLong (hL : LandAt L) (hv : LV S L m) (hI : IV m) {f : Nat} (hf : f < m 0) (h : P (nI (sFarW m f (m 0))) S) : Ct G l mX1_farLong (d + 6) [.ref L, .int (nI f)] S (QI P) :=
  bX1_farLong_0 L hL _ (t_far_l hL hv hI hf h (m 0) 0 (by omega))
theorem u_cost_l (hu : MV S m) (hI : IV m) {c : Nat} (hc : c < 100) (hn : ¬ (m 1 ≤ c ∧ c < m 2)) (h : P (nI (sCost m c)) S) : ∀ (k i : Nat), i + k = m 7 → Ev G l mX5_costOf (d + 4) 27 [some (.ref 7), some (.int (nI c)), some (.int (nI (sNb m c i))), some (.int (nI i))] [] S (QI P) := by
  have hp := hI.p6
  obtain ⟨h0, h1, h2, -⟩ := hI.1
  intro k
  induction k with
  | zero =>
    intro i hi
    obtain rfl : i = m 7 := by omega
    have hl := sNb_le m c (m 7)
    refine bX5_costOf_27 _ _ _ ⟨fun _ x ex y ey => ?_, fun q => absurd (by rw [hu 7 (by omega)]; exact (z_le (by omega) (by omega)).mpr (Nat.le_refl _)) q⟩
    have e : x + y = nI (sCost m c) := by
      rw [ex, ey, sCost, if_neg hn, hu 1 (by omega)]
      simp (disch := omega) only [z_le]
      have : (m 1 ≤ c) = (m 2 ≤ c) := propext ⟨fun _ => by omega, fun _ => by omega⟩
      simp only [this]
      by_cases z : m 2 ≤ c <;> by_cases w : 0 < sNb m c (m 7)
      all_goals simp only [z, if_pos, if_false, w]
      · rw [if_neg (by omega), z_add]
      · rw [if_pos (by omega), z_add]
      · rw [if_neg (by omega), z_add]
      · rw [if_pos (by omega), z_add]
    rw [e]
    exact h
  | succ k ih =>
    intro i hi
    have h9 := ih (i + 1) (by omega)
    rw [sNb] at h9
    obtain ⟨-, p1, -, -, -, -⟩ := hI.2 i (by omega)
    refine bX5_costOf_27 _ _ _ ⟨fun q => ?_, fun _ => ⟨11 + 5 * i, ix_i (z_at i 1) (by omega) (by omega), ?_⟩⟩
    · rw [hu 7 (by omega), z_le (by omega) (by omega)] at q
      omega
    · rw [hu _ (by omega), hu 1 (by omega), hu 2 (by omega), z_eq (by omega) (by omega), z_add]
      refine ⟨fun q => ?_, fun q => u_belongs hu hI (by omega) h1 (by omega) (fun x ex => ?_)⟩
      · rw [if_neg (fun y => q y.1)] at h9
        rw [z_add]
        exact h9
      · simp only [b2_0] at ex
        by_cases z : sBel m i (m 1) (m 2) = false
        · rw [if_pos z] at ex
          rw [if_pos ⟨q, z⟩] at h9
          rw [ex, z_add, z_add]
          exact h9
        · rw [if_neg z] at ex
          rw [if_neg (fun y => z y.2)] at h9
          rw [ex, z_add, z_add]
          exact h9
theorem u_costOf (hu : MV S m) (hI : IV m) {c : Nat} (hc : c < 100) (h : P (nI (sCost m c)) S) : Ct G l mX5_costOf (d + 4) [.ref 7, .int (nI c)] S (QI P) := by
  obtain ⟨h0, h1, h2, -⟩ := hI.1
  refine bX5_costOf_0 _ (u_in _ _ _ ?_)
  rw [hu 1 (by omega), hu 2 (by omega), b2_0]
  simp (disch := omega) only [z_lt, z_sub_lt]
  refine ⟨fun q => ?_, fun q => ?_⟩
  · have := of_decide_eq_false q
    exact u_cost_l hu hI hc (by omega) h (m 7) 0 (by omega)
  · have : ¬ c < m 1 ∧ ¬ m 2 < 1 + c := by simpa using q
    rw [sCost, if_pos (by omega)] at h
    exact h
theorem u_way_l (hu : MV S m) (hI : IV m) {f t : Nat} (hf : f < 100) (ht : t < 100) (h : P (nI (sWay m f t (m 0))) S) : ∀ (k c : Nat), c + k = m 0 → Ev G l mX5_wayTo (d + 5) 5 [some (.ref 7), some (.int (nI f)), some (.int (nI t)), some (.int (nI (sWay m f t c))), some (.int (nI c)), none] [] S (QI P) := by
  have h0 := hI.1.1
  intro k
  induction k with
  | zero =>
    intro c hc
    obtain rfl : c = m 0 := by omega
    exact bX5_wayTo_5 _ _ _ _ ⟨fun _ => h, fun q => absurd (by rw [hu 0 (by omega)]; exact (z_le (by omega) (by omega)).mpr (Nat.le_refl _)) q⟩
  | succ k ih =>
    intro c hc
    have h9 := ih (c + 1) (by omega)
    rw [sWay] at h9
    refine bX5_wayTo_5 _ _ _ _ ⟨fun q => ?_, fun _ x ex => ?_⟩
    · rw [hu 0 (by omega), z_le (by omega) (by omega)] at q
      omega
    · have e : x = b2 (sOn f t c) := by
        rw [ex, sOn, b2]
        simp (disch := omega) only [z_le, z_lt]
        grind
      rw [e, b2_0, z_add]
      refine ⟨fun q => ?_, fun q => u_costOf hu hI (by omega) ?_⟩
      · rw [if_neg (by rw [q]; decide)] at h9
        rw [z_add]
        exact h9
      · rw [if_pos (by simpa using q)] at h9
        rw [z_add, z_add]
        exact h9
theorem u_wayTo (hu : MV S m) (hI : IV m) {f t : Nat} (hf : f < 100) (ht : t < 100) (h : P (nI (sWay m f t (m 0))) S) : Ct G l mX5_wayTo (d + 5) [.ref 7, .int (nI f), .int (nI t)] S (QI P) :=
  bX5_wayTo_0 _ _ (u_way_l hu hI hf ht h (m 0) 0 (by omega))
theorem u_far_l (hu : MV S m) (hI : IV m) {f : Nat} (hf : f < 100) (h : P (nI (sFarW m f (m 0))) S) : ∀ (k c : Nat), c + k = m 0 → Ev G l mX5_farFrom (d + 6) 4 [some (.ref 7), some (.int (nI f)), some (.int (nI (sFarW m f c))), some (.int (nI c))] [] S (QI P) := by
  have h0 := hI.1.1
  intro k
  induction k with
  | zero =>
    intro c hc
    obtain rfl : c = m 0 := by omega
    exact bX5_farFrom_4 _ _ _ ⟨fun _ => h, fun q => absurd (by rw [hu 0 (by omega)]; exact (z_le (by omega) (by omega)).mpr (Nat.le_refl _)) q⟩
  | succ k ih =>
    intro c hc
    have h9 := ih (c + 1) (by omega)
    rw [sFarW] at h9
    refine bX5_farFrom_4 _ _ _ ⟨fun q => ?_, fun _ => u_wayTo hu hI hf (by omega) ?_⟩
    · rw [hu 0 (by omega), z_le (by omega) (by omega)] at q
      omega
    · rw [z_add, z_add]
      exact h9
theorem u_farFrom (hu : MV S m) (hI : IV m) {f : Nat} (hf : f < 100) (h : P (nI (sFarW m f (m 0))) S) : Ct G l mX5_farFrom (d + 6) [.ref 7, .int (nI f)] S (QI P) :=
  bX5_farFrom_0 _ (u_far_l hu hI hf h (m 0) 0 (by omega))
theorem hasCell_y {m : Nat → Nat} (hI : IV m) {j : Nat} (hj : j < m 0) : b2 (decide (¬ nI j < nI 0 ∧ ¬ nI (m 0) ≤ nI j)) = nI 1 := by
  have := hI.1.1
  exact b2n_y hj (by omega)
theorem hasCell_n {m : Nat → Nat} {i : Int32} (h : i < nI 0 ∨ nI (m 0) ≤ i) : b2 (decide (¬ i < nI 0 ∧ ¬ nI (m 0) ≤ i)) = nI 0 := b2n_n h
theorem pm_way (hR : R S) (i j : Int32) (h : ∀ r S', R S' → F r r S') : Ct G l mX4_way (d + 20) [.ref 0, .int i, .int j] S (QI (fun r T => Ct G l mX5_way (d + 20) [.ref 7, .int i, .int j] T (QI (fun r2 T2 => F r r2 T2)))) := by
  obtain ⟨m, hv, hu, hI⟩ := hR.nv
  have h0 := hI.1.1
  refine bX4_way_0 _ _ (t_hasCell la28 hv _ ?_)
  rcases o_cases i (m 0) (by omega) with q | ⟨a, ha, rfl⟩
  · rw [hasCell_n q]
    refine ⟨fun _ => bX5_way_0 _ _ (u_isCell hu hI _ ?_), fun z => absurd rfl z⟩
    rw [hasCell_n q]
    exact ⟨fun _ => h _ _ hR, fun z => absurd rfl z⟩
  · rw [hasCell_y hI ha]
    refine ⟨fun z => absurd z (by decide), fun _ => t_hasCell la28 hv _ ?_⟩
    rcases o_cases j (m 0) (by omega) with q | ⟨b, hb, rfl⟩
    · rw [hasCell_n q]
      refine ⟨fun z => absurd rfl z, fun _ => bX5_way_0 _ _ (u_isCell hu hI _ ?_)⟩
      rw [hasCell_y hI ha]
      refine ⟨fun z => absurd z (by decide), fun _ => u_isCell hu hI _ ?_⟩
      rw [hasCell_n q]
      exact ⟨fun _ => h _ _ hR, fun z => absurd rfl z⟩
    · rw [hasCell_y hI hb]
      refine ⟨fun _ => t_wayLong la28 hv hI ha hb (bX5_way_0 _ _ (u_isCell hu hI _ ?_)), fun z => absurd z (by decide)⟩
      rw [hasCell_y hI ha]
      refine ⟨fun z => absurd z (by decide), fun _ => u_isCell hu hI _ ?_⟩
      rw [hasCell_y hI hb]
      exact ⟨fun z => absurd z (by decide), fun _ => u_wayTo hu hI (by omega) (by omega) (h _ _ hR)⟩
/-- the first cell of the least way, of the first n + 1 -/
def sNear (m : Nat → Nat) : Nat → Nat
  | 0 => 0
  | n + 1 => if sFarW m (sNear m n) (m 0) ≤ sFarW m (n + 1) (m 0) then sNear m n else n + 1
theorem sNear_le (m : Nat → Nat) : ∀ n, sNear m n ≤ n
  | 0 => Nat.le_refl 0
  | n + 1 => by
    have := sNear_le m n
    unfold sNear
    split <;> omega
theorem t_near_l (hv : LV S 28 m) (hI : IV m) {f : Nat} (hf : f < m 0) (h : P (nI (sFarW m f (m 0))) (u2 S.1 0 9 (nI (sNear m (m 0 - 1))), S.2)) : ∀ (k c : Nat), c + 1 + k = m 0 → Ev G l mX4_far (d + 7) 17 [some (.ref 0), some (.int (nI f)), some (.int (nI (sNear m c))), some (.int (nI (c + 1)))] [] S (QI P) := by
  have h0 := hI.1.1
  intro k
  induction k with
  | zero =>
    intro c hc
    rw [show m 0 - 1 = c by omega] at h
    refine bX4_far_17 _ _ _ ⟨fun _ S1 e1 => ?_, fun q => absurd (by rw [hv.c]; exact (z_le (by omega) (by omega)).mpr (by omega)) q⟩
    subst e1
    refine t_farLong la28 (hv.fr (A := fun k => k ≠ 0) (fun k hk => u2_o _ hk) (fun k h1 h2 => by show k ≠ 0; omega)) hI hf h
  | succ k ih =>
    intro c hc
    have h9 := ih (c + 1) (by omega)
    rw [sNear] at h9
    have hn := sNear_le m c
    have b1 := sFarW_le hI (c + 1) (m 0)
    have b2 := sFarW_le hI (sNear m c) (m 0)
    refine bX4_far_17 _ _ _ ⟨fun q => ?_, fun _ => t_farLong la28 hv hI (by omega) (t_farLong la28 hv hI (by omega) (fun x ex => ?_))⟩
    · rw [hv.c, z_le (by omega) (by omega)] at q
      omega
    · simp (disch := omega) only [z_le, ← apply_ite nI] at ex
      rw [ex, z_add]
      exact h9
theorem u_near_l (hu : MV S m) (hI : IV m) {f : Nat} (hf : f < m 0) (h : P (nI (sFarW m f (m 0))) (u2 S.1 7 11 (nI (sNear m (m 0 - 1))), S.2)) : ∀ (k c : Nat), c + 1 + k = m 0 → Ev G l mX5_far (d + 7) 14 [some (.ref 7), some (.int (nI f)), some (.int (nI (sNear m c))), some (.int (nI (c + 1)))] [] S (QI P) := by
  have h0 := hI.1.1
  intro k
  induction k with
  | zero =>
    intro c hc
    rw [show m 0 - 1 = c by omega] at h
    exact bX5_far_14 _ _ _ ⟨fun _ => u_farFrom hu hI (by omega) (u_tells _ _ h), fun q => absurd (by rw [hu 0 (by omega)]; exact (z_le (by omega) (by omega)).mpr (by omega)) q⟩
  | succ k ih =>
    intro c hc
    have h9 := ih (c + 1) (by omega)
    rw [sNear] at h9
    have hn := sNear_le m c
    have b1 := sFarW_le hI (c + 1) (m 0)
    have b2 := sFarW_le hI (sNear m c) (m 0)
    refine bX5_far_14 _ _ _ ⟨fun q => ?_, fun _ => u_farFrom hu hI (by omega) (u_farFrom hu hI (by omega) (fun x ex => ?_))⟩
    · rw [hu 0 (by omega), z_le (by omega) (by omega)] at q
      omega
    · simp (disch := omega) only [z_le, ← apply_ite nI] at ex
      rw [ex, z_add]
      exact h9
theorem pm_far (hR : R S) (i : Int32) (h : ∀ r S', R S' → F r r S') : Ct G l mX4_far (d + 20) [.ref 0, .int i] S (QI (fun r T => Ct G l mX5_far (d + 20) [.ref 7, .int i] T (QI (fun r2 T2 => F r r2 T2)))) := by
  obtain ⟨m, hv, hu, hI⟩ := hR.nv
  have h0 := hI.1.1
  refine bX4_far_0 _ (t_hasCell la28 hv _ ?_)
  rcases o_cases i (m 0) (by omega) with q | ⟨a, ha, rfl⟩
  · rw [hasCell_n q]
    refine ⟨fun z => absurd rfl z, fun _ => bX5_far_0 _ (u_isCell hu hI _ ?_)⟩
    rw [hasCell_n q]
    exact ⟨fun z => absurd rfl z, fun _ => h _ _ hR⟩
  · rw [hasCell_y hI ha]
    refine ⟨fun _ => t_near_l hv hI ha ?_ (m 0 - 1) 0 (by omega), fun z => absurd z (by decide)⟩
    have hu2 : ∀ v, MV (u2 S.1 0 9 v, S.2) m := by
      intro v a ha
      show u2 S.1 0 9 v 93 a = _
      rw [u2_o _ (by omega)]
      exact hu a ha
    refine bX5_far_0 _ (u_isCell (hu2 _) hI _ ?_)
    rw [hasCell_y hI ha]
    exact ⟨fun _ => u_near_l (hu2 _) hI ha (h _ _ (hR.asked _)) (m 0 - 1) 0 (by omega), fun z => absurd z (by decide)⟩
end ways
