/-! years aside -/
section years
variable {G : Gl} {l : Launch} {d : Nat} {S : Sg} {m : Nat → Nat} {L : Nat} {P : Int32 → Sg → Prop} {F : Int32 → Int32 → Sg → Prop}
/-- both coasts in one number are well -/
def okC (m : Nat → Nat) (c : Nat) : Prop := c / 10 ≤ c % 10 ∧ c % 10 ≤ m 0 ∧ c < 100
def nxt (m : Nat → Nat) (c : Nat) : Nat := sLat m (c / 10) (c % 10)
def ys (m : Nat → Nat) : Nat → Nat
  | 0 => 10 * m 1 + m 2
  | n + 1 => nxt m (ys m n)
theorem okC_nxt {m : Nat → Nat} (hI : IV m) {c : Nat} (h : okC m c) : okC m (nxt m c) := by
  have h0 := hI.1.1
  obtain ⟨h1, h2, h3⟩ := h
  obtain ⟨a1, a2, a3, a4, a5, a6, a7⟩ := sLat_ok hI h1 h2
  unfold okC nxt
  omega
theorem okC_ys {m : Nat → Nat} (hI : IV m) : ∀ n, okC m (ys m n)
  | 0 => by
    obtain ⟨h0, h1, h2, -⟩ := hI.1
    unfold okC ys
    omega
  | n + 1 => okC_nxt hI (okC_ys hI n)
theorem t_yearOn' (hL : LandAt L) (hv : LV S L m) (hI : IV m) {c : Nat} (hc : okC m c) (h : P (nI (nxt m c)) S) : Ct G l mX1_yearOn (d + 5) [.ref L, .int (nI c)] S (QI P) := by
  have e : c = 10 * (c / 10) + c % 10 := by omega
  rw [e]
  exact t_yearOn hL hv hI hc.1 hc.2.1 h
theorem u_later' (hv : MV S m) (hI : IV m) {c : Nat} (hc : okC m c) (h : P (nI (nxt m c)) S) : Ct G l mX5_later (d + 5) [.ref 7, .int (nI c / nI 10), .int (nI c - nI c / nI 10 * nI 10)] S (QI P) := by
  have := hc.2.2
  rw [z_rem (by omega) (by omega) (by omega), z_div (by omega) (by omega) (by omega)]
  exact u_later hv hI hc.1 hc.2.1 h
theorem u_coastsIn_l (hu : MV S m) (hI : IV m) {n : Nat} (hn : n < 1000) (h : P (nI (ys m n)) S) : ∀ (k i : Nat), i + k = n → Ev G l mX5_coastsIn (d + 6) 19 [some (.ref 7), some (.int (nI n)), some (.int (nI (ys m i))), some (.int (nI i))] [] S (QI P) := by
  intro k
  induction k with
  | zero =>
    intro i hi
    refine bX5_coastsIn_19 _ _ _ ⟨fun _ => ?_, fun q => ?_⟩
    · rw [show i = n by omega]
      exact h
    · rw [z_le (by omega) (by omega)] at q
      omega
  | succ k ih =>
    intro i hi
    refine bX5_coastsIn_19 _ _ _ ⟨fun q => ?_, fun _ => u_later' hu hI (okC_ys hI i) ?_⟩
    · rw [z_le (by omega) (by omega)] at q
      omega
    · rw [z_add]
      exact ih (i + 1) (by omega)
theorem u_coastsIn (hu : MV S m) (hI : IV m) {n : Nat} (hn : n < 1000) (h : P (nI (ys m n)) S) : Ct G l mX5_coastsIn (d + 6) [.ref 7, .int (nI n)] S (QI P) := by
  refine bX5_coastsIn_0 _ ?_
  rw [hu 1 (by omega), hu 2 (by omega), z_mul, z_add]
  exact u_coastsIn_l hu hI hn h n 0 (by omega)
theorem t_then_l (hv : LV S 28 m) (hI : IV m) {n : Nat} (hn : n < 1000) (h : ∀ v, v = nI (sBels m (ys m n / 10) (ys m n % 10)) → P (nI (ys m n)) (u2 S.1 0 9 v, S.2)) : ∀ (k i : Nat), i + k = n → Ev G l mX4_then (d + 6) 35 [some (.ref 0), some (.int (nI n)), some (.int (nI (ys m i))), some (.int (nI i))] [] S (QI P) := by
  have h0 := hI.1.1
  intro k
  induction k with
  | zero =>
    intro i hi
    refine bX4_then_35 _ _ _ ⟨fun _ => ?_, fun q => ?_⟩
    · rw [show i = n by omega]
      obtain ⟨a1, a2, a3⟩ := okC_ys hI n
      refine t_westOf (by omega) (t_eastOf (by omega) (t_belonging la28 hv hI a1 (by omega) (fun S1 e1 => ?_)))
      rw [e1]
      exact h _ rfl
    · rw [z_le (by omega) (by omega)] at q
      omega
  | succ k ih =>
    intro i hi
    refine bX4_then_35 _ _ _ ⟨fun q => ?_, fun _ => t_yearOn' la28 hv hI (okC_ys hI i) ?_⟩
    · rw [z_le (by omega) (by omega)] at q
      omega
    · rw [z_add]
      exact ih (i + 1) (by omega)
theorem mv_put {S : Sg} (hu : MV S m) {k i : Nat} {v : Int32} (hk : k ≠ 93) : MV (u2 S.1 k i v, S.2) m := by
  intro a ha
  show u2 S.1 k i v 93 a = _
  rw [u2_o _ (Ne.symm hk)]
  exact hu a ha
theorem pm_then (hR : R S) (i : Int32) (h : ∀ r S', R S' → F r r S') : Ct G l mX4_then (d + 20) [.ref 0, .int i] S (QI (fun r T => Ct G l mX5_then (d + 20) [.ref 7, .int i] T (QI (fun r2 T2 => F r r2 T2)))) := by
  obtain ⟨m, hv, hu, hI⟩ := hR.nv
  have h0 := hI.1.1
  rcases o_cases i 31 (by omega) with q | ⟨n, hn, rfl⟩
  · have hm : Ct G l mX5_then (d + 20) [.ref 7, .int i] S (QI (fun r2 T2 => F (-1) r2 T2)) := by
      refine bX5_then_0 _ (u_inN _ 31 30 rfl (by omega) ?_)
      rw [b2n_n q]
      exact ⟨fun z => absurd rfl z, fun _ => h _ _ hR⟩
    exact bX4_then_0 _ ⟨fun _ => hm, fun q0 => ⟨fun q5 => absurd (q.resolve_left q0) ((z_le_succ i (by omega)).mp q5), fun _ => hm⟩⟩
  · refine bX4_then_0 _ ⟨fun q => absurd q (n_in (by omega)), fun _ => ⟨fun _ => t_isThere la28 hv hI ?_, fun q => absurd (by rw [z_le (by omega) (by omega)]; omega) q⟩⟩
    by_cases hc : 0 < m 0
    · rw [b2y hc]
      refine ⟨fun _ => t_coasts la28 hv hI (t_then_l hv hI (by omega) (fun v ev => ?_) n 0 (by omega)), fun z => absurd z (by decide)⟩
      have hu2 := mv_put (i := 9) (v := v) hu (show (0 : Nat) ≠ 93 by omega)
      obtain ⟨a1, a2, a3⟩ := okC_ys hI n
      refine bX5_then_0 _ (u_inN _ 31 30 rfl (by omega) ?_)
      rw [b2n_y hn (by omega)]
      refine ⟨fun _ => u_are hu2 hI ?_, fun z => absurd z (by decide)⟩
      rw [b2y hc]
      refine ⟨fun _ => u_coastsIn hu2 hI (by omega) ?_, fun z => absurd z (by decide)⟩
      rw [z_rem (by omega) (by omega) (by omega), z_div (by omega) (by omega) (by omega)]
      refine u_belongers hu2 hI a1 (by omega) (u_tells _ _ ?_)
      rw [← ev]
      exact h _ _ (hR.asked v)
    · rw [b2f hc]
      refine ⟨fun z => absurd rfl z, fun _ => bX5_then_0 _ (u_inN _ 31 30 rfl (by omega) ?_)⟩
      rw [b2n_y hn (by omega)]
      refine ⟨fun _ => u_are hu hI ?_, fun z => absurd z (by decide)⟩
      rw [b2f hc]
      exact ⟨fun z => absurd rfl z, fun _ => h _ _ hR⟩
/-- in how many years first, of the first n -/
theorem when_l (hv : LV S 28 m) (hI : IV m) (hu : MV S m) {a b : Nat} (hab : a ≤ b ∧ b ≤ m 0) (hP : ∀ r, F r r S) : ∀ (k i : Nat), i + k = 31 →
    ∃ r, (∀ {Q : Int32 → Sg → Prop}, Q r S → Ev G l mX4_when (d + 6) 45 [some (.ref 0), some (.int (nI a)), some (.int (nI b)), some (.int (nI (10 * a + b))), some (.int (nI (ys m i))), some (.int (nI i))] [] S (QI Q)) ∧ (∀ {Q : Int32 → Sg → Prop}, Q r S → Ev G l mX5_when (d + 6) 30 [some (.ref 7), some (.int (nI a)), some (.int (nI b)), some (.int (nI (ys m i))), some (.int (nI i))] [] S (QI Q)) := by
  have h0 := hI.1.1
  intro k
  induction k with
  | zero =>
    intro i hi
    refine ⟨-9, fun hq => bX4_when_45 _ _ _ _ _ ⟨fun _ => hq, fun q => ?_⟩, fun hq => bX5_when_30 _ _ _ _ ⟨fun _ => hq, fun q => ?_⟩⟩
    · rw [z_lt (by omega) (by omega)] at q
      omega
    · rw [z_le (by omega) (by omega)] at q
      omega
  | succ k ih =>
    intro i hi
    have ho := okC_ys hI i
    have ho3 := ho.2.2
    by_cases he : ys m i = 10 * a + b
    · refine ⟨nI i, fun hq => bX4_when_45 _ _ _ _ _ ⟨fun q => ?_, fun _ => ⟨fun z => absurd (by rw [he]) z, fun _ => hq⟩⟩, fun hq => bX5_when_30 _ _ _ _ ⟨fun q => ?_, fun _ => ⟨fun z => absurd (by rw [he, z_mul, z_add]) z, fun _ => hq⟩⟩⟩
      · rw [z_lt (by omega) (by omega)] at q
        omega
      · rw [z_le (by omega) (by omega)] at q
        omega
    · obtain ⟨r, h1, h2⟩ := ih (i + 1) (by omega)
      refine ⟨r, fun hq => bX4_when_45 _ _ _ _ _ ⟨fun q => ?_, fun _ => ⟨fun _ => t_yearOn' la28 hv hI ho ?_, fun z => ?_⟩⟩, fun hq => bX5_when_30 _ _ _ _ ⟨fun q => ?_, fun _ => ⟨fun _ => u_later' hu hI ho ?_, fun z => ?_⟩⟩⟩
      · rw [z_lt (by omega) (by omega)] at q
        omega
      · rw [z_add]
        exact h1 hq
      · rw [z_eq (by omega) (by omega)] at z
        omega
      · rw [z_le (by omega) (by omega)] at q
        omega
      · rw [z_add]
        exact h2 hq
      · rw [z_mul, z_add, z_eq (by omega) (by omega)] at z
        omega
theorem pm_when (hR : R S) (a b : Int32) (h : ∀ r S', R S' → F r r S') : Ct G l mX4_when (d + 20) [.ref 0, .int a, .int b] S (QI (fun r T => Ct G l mX5_when (d + 20) [.ref 7, .int a, .int b] T (QI (fun r2 T2 => F r r2 T2)))) := by
  obtain ⟨m, hv, hu, hI⟩ := hR.nv
  have h0 := hI.1.1
  refine bX4_when_0 _ _ (t_isThere la28 hv hI ?_)
  by_cases hc : 0 < m 0
  · rw [b2y hc]
    refine ⟨fun _ => t_canBeCoasts la28 hv _ _ ?_, fun z => absurd z (by decide)⟩
    by_cases hq : (¬ a < nI 0 ∧ ¬ b < a ∧ ¬ nI (m 0) < b)
    · rw [b2y hq]
      obtain ⟨q1, q2, q3⟩ := id hq
      obtain ⟨a', ha, rfl⟩ := z_ofx (z_nlt.mp q1)
      obtain ⟨b', hb, rfl⟩ := z_ofx (x := b) (by
        have := z_nlt.mp q2
        have := z_nlt.mp q1
        rw [Int32.le_iff_toInt_le] at *
        omega)
      rw [z_lt (by omega) hb] at q3
      rw [z_lt hb ha] at q2
      obtain ⟨r, h1, h2⟩ := when_l (G := G) (l := l) (d := d + 14) hv hI hu (a := a') (b := b') ⟨by omega, by omega⟩ (fun r => h r S hR) 31 0 rfl
      refine ⟨fun _ => t_coastsOf (by omega) (by omega) (t_coasts la28 hv hI (h1 ?_)), fun z => absurd z (by decide)⟩
      refine bX5_when_0 _ _ (u_are hu hI ?_)
      rw [b2y hc]
      refine ⟨fun _ => u_areCoasts hu _ _ ?_, fun z => absurd z (by decide)⟩
      rw [b2y hq]
      exact ⟨fun _ => u_coastsIn hu hI (by omega) (h2 (h _ _ hR)), fun z => absurd z (by decide)⟩
    · rw [b2f hq]
      refine ⟨fun z => absurd rfl z, fun _ => bX5_when_0 _ _ (u_are hu hI ?_)⟩
      rw [b2y hc]
      refine ⟨fun _ => u_areCoasts hu _ _ ?_, fun z => absurd z (by decide)⟩
      rw [b2f hq]
      exact ⟨fun z => absurd rfl z, fun _ => h _ _ hR⟩
  · rw [b2f hc]
    refine ⟨fun z => absurd rfl z, fun _ => bX5_when_0 _ _ (u_are hu hI ?_)⟩
    rw [b2f hc]
    exact ⟨fun z => absurd rfl z, fun _ => h _ _ hR⟩
end years
