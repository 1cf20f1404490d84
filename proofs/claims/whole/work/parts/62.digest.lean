/-! digest -/
section digest
variable {G : Gl} {l : Launch} {d : Nat} {S : Sg} {m : Nat → Nat} {P : Int64 → Sg → Prop}
/-- h = 31 h + v, for each v -/
def fo (f : Nat → Int32) (h : Int64) : Nat → Int64
  | 0 => h
  | k + 1 => lN 31 * fo f h k + (f k).toInt64
theorem fo_cong {f g : Nat → Int32} (h : Int64) : ∀ n, (∀ i, i < n → f i = g i) → fo f h n = fo g h n
  | 0, _ => rfl
  | n + 1, e => by rw [fo, fo, fo_cong h n (fun i hi => e i (by omega)), e n (by omega)]
def sCo (m : Nat → Nat) (j : Nat) : Int32 := nI (match j with
    | 0 => m 1
    | 1 => m 2
    | 2 => m 2 - m 1
    | 3 => sIn m (sBels m (m 1) (m 2))
    | 4 => sOf m 0 (m 1) (m 1) (m 2)
    | _ => sOf m (m 2) (m 0) (m 1) (m 2))
def dg2 (m : Nat → Nat) (h : Int64) : Int64 := if 0 < m 0 then fo (fun k => sCo m (3 + k)) h 3 else h
def sFl (m : Nat → Nat) (k : Nat) : Int32 := sOne m (k / 6) (k % 6)
def kv (S : Sg) (k : Nat) : Int32 := if S.1 96 k = nI 0 then -1 else S.1 95 (400 * k + 9)
def rwD (sz : Int32) (f : Nat → Int32) (h : Int64) : Int64 := fo f (lN 31 * h + sz.toInt64) sz.toNatClampNeg
def rD (S : Sg) (h : Int64) : Nat → Int64
  | 0 => h
  | k + 1 => rwD (S.1 88 k) (fun i => S.1 89 (40 * k + i)) (rD S h k)
def tD (S : Sg) (h : Int64) : Nat → Int64
  | 0 => h
  | k + 1 => rwD (S.1 91 k) (fun i => S.1 92 (60 * k + i)) (tD S h k)
theorem rwD_m1 (f : Nat → Int32) (h : Int64) : rwD (-1) f h = lN 31 * h + (-1 : Int32).toInt64 := rfl
theorem rwD_n (f : Nat → Int32) (h : Int64) {n : Nat} (hn : n < 1000) : rwD (nI n) f h = fo f (lN 31 * h + (nI n).toInt64) n := by
  unfold rwD
  rw [nI_clamp (by omega)]
def dgA (S : Sg) (m : Nat → Nat) : Int64 := tD S (rD S (fo (kv S) (fo (sFl m) (dg2 m (fo (sCnt S m) (lN 17) 11)) (6 * m 7)) 3) 6) 4
theorem t_digestOn_l {k n : Nat} (hk : RowAt k) (hn : n ≤ 60) (hl : n ≤ ln (k + 10)) (hs : S.1 k 1 = nI n) {a h0 : Int64} (h : P (fo (S.1 (k + 10)) h0 n) S) : ∀ (q i : Nat), i + q = n → Ev G l mX3_digestOn (d + 1) 15 [some (.ref k), some (.long a), none, some (.long (fo (S.1 (k + 10)) h0 i)), none, some (.int (nI i))] [] S (QL P) := by
  have hb := ra_l hk
  intro q
  induction q with
  | zero =>
    intro i hi
    obtain rfl : i = n := by omega
    refine bX3_digestOn_15 k hk _ _ _ ⟨fun _ => h, fun z => ?_⟩
    rw [hs, z_le (by omega) (by omega)] at z
    omega
  | succ q ih =>
    intro i hi
    refine bX3_digestOn_15 k hk _ _ _ ⟨fun z => ?_, fun _ => ⟨i, ix_nI (by omega) (by omega), ?_⟩⟩
    · rw [hs, z_le (by omega) (by omega)] at z
      omega
    · rw [z_add]
      exact ih (i + 1) (by omega)
theorem t_digestOn {k n : Nat} (hk : RowAt k) (hn : n ≤ 60) (hl : n ≤ ln (k + 10)) {f : Nat → Int32} (hs : S.1 k 1 = -1 ∨ (S.1 k 1 = nI n ∧ ∀ i, i < n → S.1 (k + 10) i = f i)) {a : Int64} (h : P (rwD (S.1 k 1) f a) S) : Ct G l mX3_digestOn (d + 1) [.ref k, .long a] S (QL P) := by
  refine bX3_digestOn_0 k hk _ ?_
  rcases hs with hs | ⟨hs, hf⟩
  · refine bX3_digestOn_15 k hk _ _ _ ⟨fun _ => ?_, fun z => ?_⟩
    · rw [hs] at h ⊢
      exact h
    · rw [hs] at z
      exact absurd (by decide) z
  · rw [hs, rwD_n _ _ (by omega), ← fo_cong _ n hf] at h
    rw [hs]
    exact t_digestOn_l hk hn hl hs h n 0 (by omega)
theorem t_dg6 (hR : R S) (hv : LV S 28 m) (hI : IV m) {h0 : Int64} (h : Ev G l mX4_digest (d + 10) 33 [some (.ref 0), some (.long (fo (sCnt S m) h0 11)), none, some (.int (nI 3)), none] [] S (QL P)) : ∀ (q k : Nat), k + q = 11 → Ev G l mX4_digest (d + 10) 6 [some (.ref 0), some (.long (fo (sCnt S m) h0 k)), none, some (.int (nI k)), none] [] S (QL P) := by
  intro q
  induction q with
  | zero =>
    intro k hk
    obtain rfl : k = 11 := by omega
    exact bX4_digest_6 _ _ ⟨fun _ => h, fun z => absurd (by decide) z⟩
  | succ q ih =>
    intro k hk
    refine bX4_digest_6 _ _ ⟨fun z => ?_, fun _ => t_count hR hv hI (by omega) ?_⟩
    · rw [z_lt (by omega) (by omega)] at z
      omega
    · rw [z_add]
      exact ih (k + 1) (by omega)
theorem t_co (hv : LV S 28 m) (hI : IV m) (hc : 0 < m 0) {j : Nat} (hj : j < 6) {P : Int32 → Sg → Prop} (h : P (sCo m j) S) : Ct G l mX4_coast (d + 6) [.ref 0, .int (nI j)] S (QI P) := by
  rcases (show j = 0 ∨ j = 1 ∨ j = 2 ∨ j = 3 ∨ j = 4 ∨ j = 5 by omega) with rfl | rfl | rfl | rfl | rfl | rfl
  · exact t_coast hv hI hc (j := 0) hj h
  · exact t_coast hv hI hc (j := 1) hj h
  · exact t_coast hv hI hc (j := 2) hj h
  · exact t_coast hv hI hc (j := 3) hj h
  · exact t_coast hv hI hc (j := 4) hj h
  · exact t_coast hv hI hc (j := 5) hj h
theorem u_co (hu : MV S m) (hI : IV m) {j : Nat} (hj : j < 6) {P : Int32 → Sg → Prop} (h : P (sCo m j) S) : Ct G l mX5_coastHas (d + 6) [.ref 7, .int (nI j)] S (QI P) := by
  rcases (show j = 0 ∨ j = 1 ∨ j = 2 ∨ j = 3 ∨ j = 4 ∨ j = 5 by omega) with rfl | rfl | rfl | rfl | rfl | rfl
  · exact u_coastHas hu hI (j := 0) hj h
  · exact u_coastHas hu hI (j := 1) hj h
  · exact u_coastHas hu hI (j := 2) hj h
  · exact u_coastHas hu hI (j := 3) hj h
  · exact u_coastHas hu hI (j := 4) hj h
  · exact u_coastHas hu hI (j := 5) hj h
theorem t_dg33_l (hv : LV S 28 m) (hI : IV m) (hc : 0 < m 0) {h0 : Int64} (h : Ev G l mX4_digest (d + 10) 69 [some (.ref 0), some (.long (fo (fun k => sCo m (3 + k)) h0 3)), none, some (.int (nI 0)), none] [] S (QL P)) : ∀ (q k : Nat), k + q = 3 → Ev G l mX4_digest (d + 10) 33 [some (.ref 0), some (.long (fo (fun k => sCo m (3 + k)) h0 k)), none, some (.int (nI (3 + k))), none] [] S (QL P) := by
  intro q
  induction q with
  | zero =>
    intro k hk
    obtain rfl : k = 3 := by omega
    exact bX4_digest_33 _ _ ⟨fun _ => h, fun z => absurd (by decide) z⟩
  | succ q ih =>
    intro k hk
    refine bX4_digest_33 _ _ ⟨fun z => ?_, fun _ => t_isThere la28 hv hI ?_⟩
    · rw [z_lt (by omega) (by omega)] at z
      omega
    · rw [b2y hc]
      refine ⟨fun z => absurd z (by decide), fun _ => t_co hv hI hc (by omega) ?_⟩
      rw [z_add]
      exact ih (k + 1) (by omega)
theorem t_dg33 (hv : LV S 28 m) (hI : IV m) {h0 : Int64} (h : Ev G l mX4_digest (d + 10) 69 [some (.ref 0), some (.long (dg2 m h0)), none, some (.int (nI 0)), none] [] S (QL P)) : Ev G l mX4_digest (d + 10) 33 [some (.ref 0), some (.long h0), none, some (.int (nI 3)), none] [] S (QL P) := by
  unfold dg2 at h
  by_cases hc : 0 < m 0
  · rw [if_pos hc] at h
    exact t_dg33_l hv hI hc h 3 0 rfl
  · rw [if_neg hc] at h
    refine bX4_digest_33 _ _ ⟨fun z => absurd z (by decide), fun _ => t_isThere la28 hv hI ?_⟩
    rw [b2f hc]
    exact ⟨fun _ => h, fun z => absurd rfl z⟩
theorem t_dg83 (hv : LV S 28 m) (hI : IV m) {h0 : Int64} {i : Nat} (hi : i < m 7) (h : Ev G l mX4_digest (d + 10) 69 [some (.ref 0), some (.long (fo (sFl m) h0 (6 * (i + 1)))), none, some (.int (nI (i + 1))), none] [] S (QL P)) : ∀ (q k : Nat), k + q = 6 → Ev G l mX4_digest (d + 10) 83 [some (.ref 0), some (.long (fo (sFl m) h0 (6 * i + k))), none, some (.int (nI i)), some (.int (nI k))] [] S (QL P) := by
  have hp := hI.p6
  intro q
  induction q with
  | zero =>
    intro k hk
    obtain rfl : k = 6 := by omega
    refine bX4_digest_83 _ _ _ ⟨fun _ => ?_, fun z => absurd (by decide) z⟩
    rw [z_add]
    exact h
  | succ q ih =>
    intro k hk
    refine bX4_digest_83 _ _ _ ⟨fun z => ?_, fun _ => t_ofOne hv hI hi (by omega) ?_⟩
    · rw [z_lt (by omega) (by omega)] at z
      omega
    · rw [z_add]
      have := ih (k + 1) (by omega)
      rw [show 6 * i + (k + 1) = (6 * i + k) + 1 by omega, fo, sFl, show (6 * i + k) / 6 = i by omega, show (6 * i + k) % 6 = k by omega] at this
      exact this
theorem t_dg69 (hv : LV S 28 m) (hI : IV m) {h0 : Int64} (h : Ev G l mX4_digest (d + 10) 118 [some (.ref 0), some (.long (fo (sFl m) h0 (6 * m 7))), none, some (.int (nI 0)), none] [] S (QL P)) : ∀ (q i : Nat), i + q = m 7 → Ev G l mX4_digest (d + 10) 69 [some (.ref 0), some (.long (fo (sFl m) h0 (6 * i))), none, some (.int (nI i)), none] [] S (QL P) := by
  have hp := hI.p6
  intro q
  induction q with
  | zero =>
    intro i hi
    obtain rfl : i = m 7 := by omega
    refine bX4_digest_69 _ _ ⟨fun _ => h, fun z => ?_⟩
    rw [hv.p, z_le (by omega) (by omega)] at z
    omega
  | succ q ih =>
    intro i hi
    refine bX4_digest_69 _ _ ⟨fun z => ?_, fun _ => ?_⟩
    · rw [hv.p, z_le (by omega) (by omega)] at z
      omega
    · exact t_dg83 hv hI (by omega) (ih (i + 1) (by omega)) 6 0 rfl
theorem t_dg118 (hR : R S) {h0 : Int64} (h : Ev G l mX4_digest (d + 10) 167 [some (.ref 0), some (.long (fo (kv S) h0 3)), none, some (.int (nI 0)), none] [] S (QL P)) : ∀ (q k : Nat), k + q = 3 → Ev G l mX4_digest (d + 10) 118 [some (.ref 0), some (.long (fo (kv S) h0 k)), none, some (.int (nI k)), none] [] S (QL P) := by
  intro q
  induction q with
  | zero =>
    intro k hk
    obtain rfl : k = 3 := by omega
    exact bX4_digest_118 _ _ ⟨fun _ => h, fun z => absurd (by decide) z⟩
  | succ q ih =>
    intro k hk
    have hL : LandAt (52 + 12 * k) := by unfold LandAt; omega
    have hn := ih (k + 1) (by omega)
    refine bX4_digest_118 _ _ ⟨fun z => ?_, fun _ => ⟨k, ix_nI (by omega) (by omega), ?_⟩⟩
    · rw [z_le (by omega) (by omega)] at z
      omega
    · rw [fo, kv] at hn
      rcases hR.2.2.2.2.2.2 k (by omega) with ⟨q1, q2⟩ | ⟨q1, H, n, hc, hH, hD, hM⟩
      · refine bX1_isThere_0 _ hL (fun x ex x2 e2 => ?_)
        rw [q2] at ex
        have ex' : x = nI 0 := by
          rw [ex]
          decide
        rw [ex', if_pos rfl] at e2
        rw [if_pos q1] at hn
        subst e2
        rw [z_add]
        exact hn
      · obtain ⟨hI, e9⟩ := hH.2.1 n (Nat.le_refl n)
        refine t_isThere hL hD.1 hI (fun x2 e2 => ?_)
        rw [b2y hc, if_neg (by decide), hD.1.n, e9] at e2
        rw [if_neg (by rw [q1]; decide)] at hn
        have a9 : S.1 95 (400 * k + 9) = nI (H n 9) := hM.1 9 (by omega)
        rw [a9, e9] at hn
        subst e2
        rw [z_add]
        exact hn
theorem t_dg167 (hR : R S) {h0 : Int64} (h : Ev G l mX4_digest (d + 10) 192 [some (.ref 0), some (.long (rD S h0 6)), none, some (.int (nI 0)), none] [] S (QL P)) : ∀ (q k : Nat), k + q = 6 → Ev G l mX4_digest (d + 10) 167 [some (.ref 0), some (.long (rD S h0 k)), none, some (.int (nI k)), none] [] S (QL P) := by
  intro q
  induction q with
  | zero =>
    intro k hk
    obtain rfl : k = 6 := by omega
    exact bX4_digest_167 _ _ ⟨fun _ => h, fun z => absurd (by decide) z⟩
  | succ q ih =>
    intro k hk
    have hr := hR.1 k (by omega)
    have hn := ih (k + 1) (by omega)
    refine bX4_digest_167 _ _ ⟨fun z => ?_, fun _ => ⟨k, ix_nI (by omega) (by omega), ?_⟩⟩
    · rw [z_le (by omega) (by omega)] at z
      omega
    · rw [rD, ← hr.1] at hn
      rcases hr.2 with z | ⟨n, a1, a2, a3⟩
      · refine t_digestOn (n := 0) (f := fun i => S.1 89 (40 * k + i)) (ra_1 (ix_nI (show k < 6 by omega) (by omega))) (by omega) (by omega) (Or.inl (hr.1.trans z)) ?_
        rw [z_add]
        exact hn
      · refine t_digestOn (n := n) (f := fun i => S.1 89 (40 * k + i)) (ra_1 (ix_nI (show k < 6 by omega) (by omega))) (by omega) (by rw [ln_row (by omega)]; omega) (Or.inr ⟨hr.1.trans a2, fun i hi => by rw [show 8 + k + 10 = 18 + k by omega]; exact a3 i hi⟩) ?_
        rw [z_add]
        exact hn
theorem t_dg192 (hR : R S) {h0 : Int64} (h : P (tD S h0 4) S) : ∀ (q k : Nat), k + q = 4 → Ev G l mX4_digest (d + 10) 192 [some (.ref 0), some (.long (tD S h0 k)), none, some (.int (nI k)), none] [] S (QL P) := by
  intro q
  induction q with
  | zero =>
    intro k hk
    obtain rfl : k = 4 := by omega
    exact bX4_digest_192 _ _ ⟨fun _ => h, fun z => absurd (by decide) z⟩
  | succ q ih =>
    intro k hk
    have hr := hR.2.1 k (by omega)
    have hn := ih (k + 1) (by omega)
    refine bX4_digest_192 _ _ ⟨fun z => ?_, fun _ => ⟨k, ix_nI (by omega) (by omega), ?_⟩⟩
    · rw [z_le (by omega) (by omega)] at z
      omega
    · rw [tD, ← hr.1] at hn
      rcases hr.2 with z | ⟨n, a1, a2, a3⟩
      · refine t_digestOn (n := 0) (f := fun i => S.1 92 (60 * k + i)) (ra_2 (ix_nI (show k < 4 by omega) (by omega))) (by omega) (by omega) (Or.inl (hr.1.trans z)) ?_
        rw [z_add]
        exact hn
      · refine t_digestOn (n := n) (f := fun i => S.1 92 (60 * k + i)) (ra_2 (ix_nI (show k < 4 by omega) (by omega))) (by omega) (by rw [ln_txt (by omega)]; omega) (Or.inr ⟨hr.1.trans a2, fun i hi => by rw [show 14 + k + 10 = 24 + k by omega]; exact a3 i hi⟩) ?_
        rw [z_add]
        exact hn
theorem t_digest (hR : R S) (hv : LV S 28 m) (hI : IV m) (h : P (dgA S m) S) : Ct G l mX4_digest (d + 10) [.ref 0] S (QL P) :=
  bX4_digest_0 (t_dg6 hR hv hI (t_dg33 hv hI (t_dg69 hv hI (t_dg118 hR (t_dg167 hR (t_dg192 hR h 4 0 rfl) 6 0 rfl) 3 0 rfl) (m 7) 0 (by omega))) 11 0 rfl)
theorem u_dg6 (hu : MV S m) (hI : IV m) {h0 : Int64} (h : Ev G l mX5_digest (d + 10) 33 [some (.ref 7), some (.long (fo (sCnt S m) h0 11)), none, some (.int (nI 3)), none] [] S (QL P)) : ∀ (q k : Nat), k + q = 11 → Ev G l mX5_digest (d + 10) 6 [some (.ref 7), some (.long (fo (sCnt S m) h0 k)), none, some (.int (nI k)), none] [] S (QL P) := by
  intro q
  induction q with
  | zero =>
    intro k hk
    obtain rfl : k = 11 := by omega
    exact bX5_digest_6 _ _ ⟨fun _ => h, fun z => absurd (by decide) z⟩
  | succ q ih =>
    intro k hk
    refine bX5_digest_6 _ _ ⟨fun z => ?_, fun _ => u_count hu hI (by omega) ?_⟩
    · rw [z_le (by omega) (by omega)] at z
      omega
    · rw [z_add]
      exact ih (k + 1) (by omega)
theorem u_dg33_l (hu : MV S m) (hI : IV m) (hc : 0 < m 0) {h0 : Int64} (h : Ev G l mX5_digest (d + 10) 67 [some (.ref 7), some (.long (fo (fun k => sCo m (3 + k)) h0 3)), none, some (.int (nI 0)), none] [] S (QL P)) : ∀ (q k : Nat), k + q = 3 → Ev G l mX5_digest (d + 10) 33 [some (.ref 7), some (.long (fo (fun k => sCo m (3 + k)) h0 k)), none, some (.int (nI (3 + k))), none] [] S (QL P) := by
  intro q
  induction q with
  | zero =>
    intro k hk
    obtain rfl : k = 3 := by omega
    exact bX5_digest_33 _ _ ⟨fun _ => h, fun z => absurd (by decide) z⟩
  | succ q ih =>
    intro k hk
    refine bX5_digest_33 _ _ ⟨fun z => ?_, fun _ => u_are hu hI ?_⟩
    · rw [z_le (by omega) (by omega)] at z
      omega
    · rw [b2y hc]
      refine ⟨fun z => absurd z (by decide), fun _ => u_co hu hI (by omega) ?_⟩
      rw [z_add]
      exact ih (k + 1) (by omega)
theorem u_dg33 (hu : MV S m) (hI : IV m) {h0 : Int64} (h : Ev G l mX5_digest (d + 10) 67 [some (.ref 7), some (.long (dg2 m h0)), none, some (.int (nI 0)), none] [] S (QL P)) : Ev G l mX5_digest (d + 10) 33 [some (.ref 7), some (.long h0), none, some (.int (nI 3)), none] [] S (QL P) := by
  unfold dg2 at h
  by_cases hc : 0 < m 0
  · rw [if_pos hc] at h
    exact u_dg33_l hu hI hc h 3 0 rfl
  · rw [if_neg hc] at h
    refine bX5_digest_33 _ _ ⟨fun z => absurd z (by decide), fun _ => u_are hu hI ?_⟩
    rw [b2f hc]
    exact ⟨fun _ => h, fun z => absurd rfl z⟩
theorem u_dg67 (hu : MV S m) (hI : IV m) {h0 : Int64} (h : Ev G l mX5_digest (d + 10) 109 [some (.ref 7), some (.long (fo (sFl m) h0 (6 * m 7))), none, some (.int (nI 0)), none] [] S (QL P)) : ∀ (q k : Nat), k + q = 6 * m 7 → Ev G l mX5_digest (d + 10) 67 [some (.ref 7), some (.long (fo (sFl m) h0 k)), none, some (.int (nI k)), none] [] S (QL P) := by
  have hp := hI.p6
  have e7 := hu 7 (by omega)
  intro q
  induction q with
  | zero =>
    intro k hk
    obtain rfl : k = 6 * m 7 := by omega
    refine bX5_digest_67 _ _ ⟨fun _ => h, fun z => ?_⟩
    rw [e7, z_mul, z_le (by omega) (by omega)] at z
    omega
  | succ q ih =>
    intro k hk
    refine bX5_digest_67 _ _ ⟨fun z => ?_, fun _ => ?_⟩
    · rw [e7, z_mul, z_le (by omega) (by omega)] at z
      omega
    · rw [z_rem (by omega) (by omega) (by omega), z_div (by omega) (by omega) (by omega)]
      refine u_oneHas hu hI (by omega) (Nat.mod_lt _ (by omega)) ?_
      rw [z_add]
      exact ih (k + 1) (by omega)
theorem u_dg109 {h0 : Int64} (h : Ev G l mX5_digest (d + 10) 156 [some (.ref 7), some (.long (fo (kv S) h0 3)), none, some (.int (nI 0)), none] [] S (QL P)) : ∀ (q k : Nat), k + q = 3 → Ev G l mX5_digest (d + 10) 109 [some (.ref 7), some (.long (fo (kv S) h0 k)), none, some (.int (nI k)), none] [] S (QL P) := by
  intro q
  induction q with
  | zero =>
    intro k hk
    obtain rfl : k = 3 := by omega
    exact bX5_digest_109 _ _ ⟨fun _ => h, fun z => absurd (by decide) z⟩
  | succ q ih =>
    intro k hk
    have ea : (nI 400) * (nI k) + nI 9 = nI (400 * k + 9) := by rw [z_mul, z_add]
    refine bX5_digest_109 _ _ ⟨fun z => ?_, fun _ => ⟨k, ix_nI (by omega) (by omega), fun _ => ?_, fun x ex => ?_⟩⟩
    · rw [z_le (by omega) (by omega)] at z
      omega
    · rw [ea, nI_clamp (by omega)]
      exact ix_nI (by omega) (by omega)
    · rw [ea, nI_clamp (by omega)] at ex
      subst ex
      rw [z_add]
      exact ih (k + 1) (by omega)
theorem u_dg179 (hR : R S) {j n : Nat} (hj : j < 6) (hn : n ≤ 40) (hs : S.1 88 j = nI n) {h0 : Int64} (h : Ev G l mX5_digest (d + 10) 156 [some (.ref 7), some (.long (fo (fun i => S.1 89 (40 * j + i)) h0 n)), none, some (.int (nI (j + 1))), none] [] S (QL P)) : ∀ (q k : Nat), k + q = n → Ev G l mX5_digest (d + 10) 179 [some (.ref 7), some (.long (fo (fun i => S.1 89 (40 * j + i)) h0 k)), none, some (.int (nI j)), some (.int (nI k))] [] S (QL P) := by
  intro q
  induction q with
  | zero =>
    intro k hk
    obtain rfl : k = n := by omega
    refine bX5_digest_179 _ _ _ ⟨j, ix_nI hj (by omega), fun _ => ?_, fun z => ?_⟩
    · rw [z_add]
      exact h
    · rw [hs, z_le (by omega) (by omega)] at z
      omega
  | succ q ih =>
    intro k hk
    refine bX5_digest_179 _ _ _ ⟨j, ix_nI hj (by omega), fun z => ?_, fun _ => ⟨40 * j + k, ix_i (z_row 40 j k) (by omega) (by omega), ?_⟩⟩
    · rw [hs, z_le (by omega) (by omega)] at z
      omega
    · rw [z_add]
      exact ih (k + 1) (by omega)
theorem u_dg156 (hR : R S) {h0 : Int64} (h : Ev G l mX5_digest (d + 10) 224 [some (.ref 7), some (.long (rD S h0 6)), none, some (.int (nI 0)), none] [] S (QL P)) : ∀ (q k : Nat), k + q = 6 → Ev G l mX5_digest (d + 10) 156 [some (.ref 7), some (.long (rD S h0 k)), none, some (.int (nI k)), none] [] S (QL P) := by
  intro q
  induction q with
  | zero =>
    intro k hk
    obtain rfl : k = 6 := by omega
    exact bX5_digest_156 _ _ ⟨fun _ => h, fun z => absurd (by decide) z⟩
  | succ q ih =>
    intro k hk
    have hr := hR.1 k (by omega)
    have hn := ih (k + 1) (by omega)
    refine bX5_digest_156 _ _ ⟨fun z => ?_, fun _ => ⟨k, ix_nI (by omega) (by omega), ?_⟩⟩
    · rw [z_le (by omega) (by omega)] at z
      omega
    · rw [rD] at hn
      rcases hr.2 with z | ⟨n, a1, a2, a3⟩
      · rw [z, rwD_m1] at hn
        rw [z]
        refine bX5_digest_179 _ _ _ ⟨k, ix_nI (by omega) (by omega), fun _ => ?_, fun y => ?_⟩
        · rw [z_add]
          exact hn
        · rw [z] at y
          exact absurd (by decide) y
      · rw [a2, rwD_n _ _ (by omega)] at hn
        rw [a2]
        exact u_dg179 hR (by omega) a1 a2 hn n 0 (by omega)
theorem u_dg246 (hR : R S) {j n : Nat} (hj : j < 4) (hn : n ≤ 60) (hs : S.1 91 j = nI n) {h0 : Int64} (h : Ev G l mX5_digest (d + 10) 224 [some (.ref 7), some (.long (fo (fun i => S.1 92 (60 * j + i)) h0 n)), none, some (.int (nI (j + 1))), none] [] S (QL P)) : ∀ (q k : Nat), k + q = n → Ev G l mX5_digest (d + 10) 246 [some (.ref 7), some (.long (fo (fun i => S.1 92 (60 * j + i)) h0 k)), none, some (.int (nI j)), some (.int (nI k))] [] S (QL P) := by
  intro q
  induction q with
  | zero =>
    intro k hk
    obtain rfl : k = n := by omega
    refine bX5_digest_246 _ _ _ ⟨j, ix_nI hj (by omega), fun _ => ?_, fun z => ?_⟩
    · rw [z_add]
      exact h
    · rw [hs, z_le (by omega) (by omega)] at z
      omega
  | succ q ih =>
    intro k hk
    refine bX5_digest_246 _ _ _ ⟨j, ix_nI hj (by omega), fun z => ?_, fun _ => ⟨60 * j + k, ix_i (z_row 60 j k) (by omega) (by omega), ?_⟩⟩
    · rw [hs, z_le (by omega) (by omega)] at z
      omega
    · rw [z_add]
      exact ih (k + 1) (by omega)
theorem u_dg224 (hR : R S) {h0 : Int64} (h : P (tD S h0 4) S) : ∀ (q k : Nat), k + q = 4 → Ev G l mX5_digest (d + 10) 224 [some (.ref 7), some (.long (tD S h0 k)), none, some (.int (nI k)), none] [] S (QL P) := by
  intro q
  induction q with
  | zero =>
    intro k hk
    obtain rfl : k = 4 := by omega
    exact bX5_digest_224 _ _ ⟨fun _ => h, fun z => absurd (by decide) z⟩
  | succ q ih =>
    intro k hk
    have hr := hR.2.1 k (by omega)
    have hn := ih (k + 1) (by omega)
    refine bX5_digest_224 _ _ ⟨fun z => ?_, fun _ => ⟨k, ix_nI (by omega) (by omega), ?_⟩⟩
    · rw [z_le (by omega) (by omega)] at z
      omega
    · rw [tD] at hn
      rcases hr.2 with z | ⟨n, a1, a2, a3⟩
      · rw [z, rwD_m1] at hn
        rw [z]
        refine bX5_digest_246 _ _ _ ⟨k, ix_nI (by omega) (by omega), fun _ => ?_, fun y => ?_⟩
        · rw [z_add]
          exact hn
        · rw [z] at y
          exact absurd (by decide) y
      · rw [a2, rwD_n _ _ (by omega)] at hn
        rw [a2]
        exact u_dg246 hR (by omega) a1 a2 hn n 0 (by omega)
theorem u_digest (hR : R S) (hu : MV S m) (hI : IV m) (h : P (dgA S m) S) : Ct G l mX5_digest (d + 10) [.ref 7] S (QL P) :=
  bX5_digest_0 (u_dg6 hu hI (u_dg33 hu hI (u_dg67 hu hI (u_dg109 (u_dg156 hR (u_dg224 hR h 4 0 rfl) 6 0 rfl) 3 0 rfl) (6 * m 7) 0 (by omega))) 11 0 rfl)
theorem pm_digest (hR : R S) {F : Int64 → Int64 → Sg → Prop} (h : ∀ r S', R S' → F r r S') : Ct G l mX4_digest (d + 20) [.ref 0] S (QL (fun r T => Ct G l mX5_digest (d + 20) [.ref 7] T (QL (fun r2 T2 => F r r2 T2)))) := by
  obtain ⟨m, hv, hu, hI⟩ := hR.nv
  exact t_digest (d := d + 10) hR hv hI (u_digest (d := d + 10) hR hu hI (h _ _ hR))
end digest
