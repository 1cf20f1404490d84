/-! kinds, spots -/
section kinds
variable {G : Gl} {l : Launch} {d : Nat} {S : Sg} {m : Nat → Nat} {P : Int32 → Sg → Prop} {F : Int32 → Int32 → Sg → Prop}
def sSet (g : Nat → Bool) : Nat → Nat
  | 0 => 0
  | n + 1 => sSet g n + (if g n = true then 2 ^ n else 0)
theorem sSet_lt (g : Nat → Bool) : ∀ n, sSet g n < 2 ^ n
  | 0 => by simp [sSet]
  | n + 1 => by
    have := sSet_lt g n
    unfold sSet
    rw [Nat.pow_succ]
    split <;> omega
theorem shl_q9 : ∀ q, q < 10 → (nI 1) <<< ((nI q) &&& 31) = nI (2 ^ q) := by decide
theorem sSet_y {g : Nat → Bool} {n : Nat} (hn : n < 10) (h : g n = true) : nI (sSet g n) ||| ((nI 1) <<< ((nI n) &&& 31)) = nI (sSet g (n + 1)) := by
  rw [shl_q9 n hn, z_or, or_pow (sSet_lt g n), sSet, if_pos h]
theorem sSet_n {g : Nat → Bool} {n : Nat} (h : g n = false) : nI (sSet g n) = nI (sSet g (n + 1)) := by
  rw [sSet, h]
  simp
def sGo (m : Nat → Nat) (f : Nat → Int32) (t kk c fi : Nat) : Bool := decide (∀ k, k < t → sAg m f kk c fi k = true)
theorem t_agrees {x t kk c fi : Nat} (hx : x < 6) (hv : LV S 28 m) (hI : IV m) (ht : 3 * t ≤ 40) (hs : S.1 (8 + x) 1 = nI (3 * t)) (hf : ∀ i, i < 3 * t → S.1 (8 + x + 10) i = S.1 89 (40 * x + i)) (hP : Pap (fun k => S.1 89 (40 * x + k)) m t) (hk : kk < 6) (hc : c < 100) (hfi : fi < 100) (h : P (b2 (sGo m (fun k => S.1 89 (40 * x + k)) t kk c fi)) S) : Ct G l mX4_agrees (d + 4) [.ref 0, .int (nI kk), .int (nI c), .int (nI fi), .ref (8 + x)] S (QI P) := by
  have hra : RowAt (8 + x) := ra_F sh1 (ix_nI hx (by decide))
  refine bX4_agrees_0 _ _ _ _ hra ?_
  refine t_agrees_l (f := fun k => S.1 89 (40 * x + k)) hx hv hI ht hs hf hP hk hc hfi (fun w => ?_) (fun w => ?_) t 0 (by omega) (fun j hj => absurd hj (Nat.not_lt_zero j))
  · rw [sGo, decide_eq_true w] at h
    exact h
  · rw [sGo, decide_eq_false w] at h
    exact h
theorem u_goes {x t kk c i : Nat} (hx : x < 6) (hu : MV S m) (hI : IV m) (hi : i < 6) (ht : 3 * t ≤ 40) (hs : S.1 88 x = nI (3 * t)) (hP : Pap (fun k => S.1 89 (40 * x + k)) m t) (hk : kk < 6) (hc : c < 100) (h : P (b2 (sGo m (fun k => S.1 89 (40 * x + k)) t kk c (m (12 + 5 * i)))) S) : Ct G l mX5_goesWith (d + 4) [.ref 7, .int (nI i), .int (nI x), .int (nI kk), .int (nI c)] S (QI P) := by
  refine bX5_goesWith_0 _ _ _ _ ?_
  refine u_goes_l (f := fun k => S.1 89 (40 * x + k)) hx hu hI hi ht hs (fun _ _ => rfl) hP hk hc rfl (fun w => ?_) (fun w => ?_) t 0 _ (by omega) (Or.inl ⟨rfl, fun j hj => absurd hj (Nat.not_lt_zero j)⟩)
  · rw [sGo, decide_eq_true w] at h
    exact h
  · rw [sGo, decide_eq_false w] at h
    exact h
section loops
def gK (S : Sg) (m : Nat → Nat) (x t i : Nat) : Nat → Bool := fun k => sGo m (fun k => S.1 89 (40 * x + k)) t k (m (11 + 5 * i)) (m (12 + 5 * i))
def gS (S : Sg) (m : Nat → Nat) (x t i : Nat) : Nat → Bool := fun c => sGo m (fun k => S.1 89 (40 * x + k)) t (m (10 + 5 * i)) c (m (12 + 5 * i))
theorem t_kinds_l (hv : LV S 28 m) (hI : IV m) {i x t : Nat} (hi : i < m 7) (hx : x < 6) (ht : 3 * t ≤ 40) (hP : Pap (fun k => S.1 89 (40 * x + k)) m t) (hs : S.1 (8 + x) 1 = nI (3 * t)) (hf : ∀ k, k < 3 * t → S.1 (8 + x + 10) k = S.1 89 (40 * x + k)) {i3 : Int32} (h : P (nI (sSet (gK S m x t i) 6)) S) : ∀ (q k : Nat), k + q = 6 → Ev G l mX4_kinds (d + 5) 19 [some (.ref 0), some (.int (nI i)), some (.int (nI x)), some (.int i3), some (.int (nI (sSet (gK S m x t i) k))), some (.int (nI k))] [] S (QI P) := by
  have hp := hI.p6
  obtain ⟨v1, v2, v3, -, -, -⟩ := hI.2 i (by omega)
  intro q
  induction q with
  | zero =>
    intro k hk
    obtain rfl : k = 6 := by omega
    exact bX4_kinds_19 _ _ _ _ _ ⟨fun _ => h, fun z => absurd (by decide) z⟩
  | succ q ih =>
    intro k hk
    have h9 := ih (k + 1) (by omega)
    refine bX4_kinds_19 _ _ _ _ _ ⟨fun z => ?_, fun _ => ⟨i, ix_nI (by omega) (by omega), x, ix_nI hx (by omega), ?_⟩⟩
    · rw [z_lt (by omega) (by omega)] at z
      omega
    · have k2 : S.1 30 i = nI (m (11 + 5 * i)) := hv.cl hi
      have k3 : S.1 31 i = nI (m (12 + 5 * i)) := hv.fi hi
      rw [k2, k3]
      refine t_agrees hx hv hI ht hs hf hP (by omega) (by omega) (by omega) (fun y ey => ?_)
      simp only [b2_0] at ey
      rw [z_add]
      cases g : gK S m x t i k
      · rw [if_pos (show sGo m _ t k _ _ = false from g), sSet_n g] at ey
        rw [ey]
        exact h9
      · rw [if_neg (by rw [show sGo m _ t k _ _ = true from g]; decide), sSet_y (by omega) g] at ey
        rw [ey]
        exact h9
theorem u_kinds_l (hu : MV S m) (hI : IV m) {i x t : Nat} (hi : i < m 7) (hx : x < 6) (ht : 3 * t ≤ 40) (hP : Pap (fun k => S.1 89 (40 * x + k)) m t) (hs2 : S.1 88 x = nI (3 * t)) {i3 : Int32} (h : P (nI (sSet (gK S m x t i) 6)) S) : ∀ (q k : Nat), k + q = 6 → Ev G l mX5_kinds (d + 5) 19 [some (.ref 7), some (.int (nI i)), some (.int (nI x)), some (.int i3), some (.int (nI (sSet (gK S m x t i) k))), some (.int (nI k))] [] S (QI P) := by
  have hp := hI.p6
  obtain ⟨v1, v2, v3, -, -, -⟩ := hI.2 i (by omega)
  intro q
  induction q with
  | zero =>
    intro k hk
    obtain rfl : k = 6 := by omega
    exact bX5_kinds_19 _ _ _ _ _ ⟨fun _ => h, fun z => absurd (by decide) z⟩
  | succ q ih =>
    intro k hk
    have h9 := ih (k + 1) (by omega)
    refine bX5_kinds_19 _ _ _ _ _ ⟨fun z => ?_, fun _ => ⟨11 + 5 * i, ix_i (z_at i 1) (by omega) (by omega), ?_⟩⟩
    · rw [z_le (by omega) (by omega)] at z
      omega
    · rw [hu _ (by omega)]
      refine u_goes hx hu hI (by omega) ht hs2 hP (by omega) (by omega) (fun y ey => ?_)
      simp only [b2_0] at ey
      rw [z_add]
      cases g : gK S m x t i k
      · rw [if_pos (show sGo m _ t k _ _ = false from g)] at ey
        rw [ey, z_or, Nat.or_zero, sSet_n g]
        exact h9
      · rw [if_neg (by rw [show sGo m _ t k _ _ = true from g]; decide)] at ey
        rw [ey, sSet_y (by omega) g]
        exact h9
end loops
theorem pm_kinds (hR : R S) (i1 i2 : Int32) (h : ∀ r S', R S' → F r r S') : Ct G l mX4_kinds (d + 20) [.ref 0, .int i1, .int i2] S (QI (fun r T => Ct G l mX5_kinds (d + 20) [.ref 7, .int i1, .int i2] T (QI (fun r2 T2 => F r r2 T2)))) := by
  obtain ⟨m, hv, hu, hI⟩ := hR.nv
  rcases papers_cases (G := G) (l := l) (d := d + 13) hR hv hu hI i1 i2 with ⟨r, T1, T2, hr, hRT, g1, g2⟩ | ⟨i, x, t, hi, hx, ht, rfl, rfl, hP, hs, hs2, hf, g1, g2⟩
  · refine bX4_kinds_0 _ _ (g1 _ ⟨fun z => absurd z hr, fun _ => bX5_kinds_0 _ _ (g2 _ ⟨fun z => absurd z hr, fun _ => h _ _ hRT⟩)⟩)
  · refine bX4_kinds_0 _ _ (g1 _ ⟨fun _ => t_kinds_l hv hI hi hx ht hP hs hf ?_ 6 0 (by omega), fun z => absurd rfl z⟩)
    refine bX5_kinds_0 _ _ (g2 _ ⟨fun _ => u_kinds_l hu hI hi hx ht hP hs2 (h _ _ hR) 6 0 (by omega), fun z => absurd rfl z⟩)
end kinds
