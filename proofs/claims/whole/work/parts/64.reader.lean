/-! reading: the document's words in numbers, the class's Reader -/
section reader
variable {G : Gl} {l : Launch} {d : Nat} {S T : Sg} {n : Nat} {c : Nat → Int32} {y : Nat} {P : Int32 → Sg → Prop}
theorem clamp_def (x : Int32) : x.toNatClampNeg = x.toInt.toNat := rfl
theorem cl_pos {x : Int32} {k : Nat} (h : x.toNatClampNeg = k) (hk : 0 < k) : x = nI k ∧ k < 2147483648 := by
  rw [clamp_def] at h
  have h0 : nI 0 ≤ x := by
    rw [Int32.le_iff_toInt_le, nI_toInt (by omega)]
    omega
  obtain ⟨j, hj, rfl⟩ := z_ofx h0
  rw [nI_toInt (by omega)] at h
  obtain rfl : j = k := by omega
  exact ⟨rfl, hj⟩
theorem cl_eq {x : Int32} {k j : Nat} (h : x.toNatClampNeg = k) (hj : 0 < j) (hj2 : j < 2147483648) : x = nI j ↔ k = j := by
  constructor
  · intro e
    rw [← h, e, nI_clamp (by omega)]
  · intro e
    exact (cl_pos (h.trans e) hj).1
/-- the byte at a place; 0: none that counts -/
def ch (n : Nat) (c : Nat → Int32) (q : Nat) : Nat := if q < n then (c q).toNatClampNeg else 0
theorem ch_lt {q : Nat} (h : 0 < ch n c q) : q < n := by
  unfold ch at h
  split at h
  · assumption
  · omega
def sk (n : Nat) (c : Nat → Int32) : Nat → Nat → Nat
  | 0, q => q
  | f + 1, q => if ch n c q = 32 then sk n c f (q + 1) else q
theorem sk_le : ∀ (f q : Nat), q ≤ n → sk n c f q ≤ n
  | 0, q, h => h
  | f + 1, q, h => by
    unfold sk
    split
    · have := ch_lt (n := n) (c := c) (q := q) (by omega)
      exact sk_le f (q + 1) (by omega)
    · exact h
def Tx (y n : Nat) (c : Nat → Int32) (T : Sg) : Prop := y < 4 ∧ n ≤ 60 ∧ T.1 (14 + y) 1 = nI n ∧ (∀ i, i < n → T.1 (24 + y) i = c i) ∧ T.1 91 y = nI n ∧ ∀ i, i < n → T.1 92 (60 * y + i) = c i
theorem Tx.fr (h : Tx y n c S) (e1 : T.1 (14 + y) = S.1 (14 + y)) (e2 : T.1 (24 + y) = S.1 (24 + y)) (e3 : T.1 91 = S.1 91) (e4 : T.1 92 = S.1 92) : Tx y n c T := by
  unfold Tx at h ⊢
  rw [e1, e2, e3, e4]
  exact h
theorem t_here (hT : Tx y n c S) {q : Nat} (hq : S.1 4 0 = nI q) (hqn : q ≤ n) (h : ∀ x : Int32, x.toNatClampNeg = ch n c q → P x S) : Ct G l mX2_here (d + 2) [.ref 4, .ref (14 + y)] S (QI P) := by
  obtain ⟨hy, hn, h1, h2, -, -⟩ := hT
  have hra : RowAt (14 + y) := by unfold RowAt; omega
  refine bX2_here_0 (14 + y) hra (t_hasPlace hra _ (fun z => ⟨fun w => absurd rfl w, fun x ex => ?_⟩) (fun z1 z2 => ⟨fun _ => ?_, fun x ex => ?_⟩))
  · rw [if_pos rfl] at ex
    rw [hq, h1, z_lt (by omega) (by omega), z_le (by omega) (by omega)] at z
    refine h x ?_
    rw [ex, ch, if_neg (by omega)]
    rfl
  · rw [hq, h1, z_le (by omega) (by omega)] at z2
    rw [hq, nI_clamp (by omega)]
    exact ix_nI (by rw [ln_txt hy]; omega) (by rw [ln_txt hy]; omega)
  · rw [hq, h1, z_le (by omega) (by omega)] at z2
    rw [if_neg (by decide), hq, nI_clamp (by omega), show 14 + y + 10 = 24 + y by omega, h2 q (by omega)] at ex
    refine h x ?_
    rw [ex, ch, if_pos (by omega)]
/-- a figure of a range -/
def fig (n : Nat) (c : Nat → Int32) (q lo hi : Nat) : Bool := decide (48 + lo ≤ ch n c q ∧ ch n c q ≤ 48 + hi)
def vl (n : Nat) (c : Nat → Int32) (q : Nat) : Nat := ch n c q - 48
theorem fig_c {x : Int32} {k lo hi : Nat} (hx : x.toNatClampNeg = k) (hlh : lo ≤ hi) (hh : hi ≤ 9) : (¬ (x - nI 48) < nI lo ∧ ¬ nI hi < (x - nI 48)) ↔ (48 + lo ≤ k ∧ k ≤ 48 + hi) := by
  constructor
  · rintro ⟨h1, h2⟩
    obtain ⟨j, j1, j2, e⟩ := rng_in (by omega) hlh h1 h2
    have e2 : x = nI (j + 48) := by
      rw [← z_add, ← e, Int32.sub_add_cancel]
    rw [e2, nI_clamp (by omega)] at hx
    omega
  · rintro ⟨h1, h2⟩
    rw [(cl_pos hx (by omega)).1, z_sub (by omega), z_lt (by omega) (by omega), z_lt (by omega) (by omega)]
    omega
theorem u2_same (f : Nat → Nat → Int32) (k i : Nat) : u2 f k i (f k i) = f := by
  funext a b
  unfold u2
  split
  · rename_i h
    rw [h.1, h.2]
  · rfl
theorem u2_at {f : Nat → Nat → Int32} {k i : Nat} {v : Int32} (h : f k i = v) : u2 f k i v = f := by
  rw [← h]
  exact u2_same f k i
theorem u2_u2 (f : Nat → Nat → Int32) (k i : Nat) (v w : Int32) : u2 (u2 f k i v) k i w = u2 f k i w := by
  funext a b
  unfold u2
  split
  · rfl
  · rfl
theorem sg_s {f : Nat → Nat → Int32} {g : Nat → Nat → Int64} {k i : Nat} {v : Int32} : ((u2 f k i v, g) : Sg).1 k i = v := by
  show u2 f k i v k i = v
  exact u2_s f
theorem sg_n {f : Nat → Nat → Int32} {g : Nat → Nat → Int64} {k i b : Nat} {v : Int32} (h : b ≠ i) : ((u2 f k i v, g) : Sg).1 k b = f k b := by
  show u2 f k i v k b = _
  exact u2_n f h
theorem sg_o {f : Nat → Nat → Int32} {g : Nat → Nat → Int64} {k i a : Nat} {v : Int32} (h : a ≠ k) : ((u2 f k i v, g) : Sg).1 a = f a := by
  show u2 f k i v a = _
  exact u2_o f h
theorem t_figure (hT : Tx y n c S) {q : Nat} (hq : S.1 4 0 = nI q) (hqn : q ≤ n) {lo hi : Nat} (hlh : lo ≤ hi) (hh : hi ≤ 9) (h1 : fig n c q lo hi = true → P (nI (vl n c q)) (u2 S.1 4 0 (nI (q + 1)), S.2)) (h0 : fig n c q lo hi = false → P (-1) S) : Ct G l mX2_figure (d + 3) [.ref 4, .ref (14 + y), .int (nI lo), .int (nI hi)] S (QI P) := by
  have hra : RowAt (14 + y) := by
    have := hT.1
    unfold RowAt
    omega
  refine bX2_figure_0 (14 + y) hra _ _ (t_here hT hq hqn (fun x ex => ?_))
  have hc := fig_c ex hlh hh
  refine ⟨fun z => h0 (decide_eq_false (fun w => (hc.mpr w).1 z)), fun z => ⟨fun z2 S1 e1 => ?_, fun z2 => h0 (decide_eq_false (fun w => z2 (z_nlt.mp (hc.mpr w).2)))⟩⟩
  have w := hc.mp ⟨z, z_nlt.mpr z2⟩
  have ek := (cl_pos ex (by omega)).1
  rw [e1, ek, z_sub (by omega), hq, z_add]
  exact h1 (decide_eq_true w)
theorem t_skip_l {Q : Sg → Prop} : ∀ (f q : Nat), n ≤ q + f → ∀ T : Sg, Tx y n c T → T.1 4 0 = nI q → q ≤ n → Q (u2 T.1 4 0 (nI (sk n c f q)), T.2) → Ct G l mX2_skipBlanks (d + 3) [.ref 4, .ref (14 + y)] T (QV Q) := by
  intro f
  induction f with
  | zero =>
    intro q hf T hT hq hqn h
    have hra : RowAt (14 + y) := by
      have := hT.1
      unfold RowAt
      omega
    have hn := hT.2.1
    refine bX2_skipBlanks_0 (14 + y) hra ⟨fun _ => ?_, fun z => ?_⟩
    · unfold sk at h
      rw [u2_at hq] at h
      exact h
    · rw [hq, hT.2.2.1, z_le (by omega) (by omega)] at z
      omega
  | succ f ih =>
    intro q hf T hT hq hqn h
    have hra : RowAt (14 + y) := by
      have := hT.1
      unfold RowAt
      omega
    have hn := hT.2.1
    unfold sk at h
    refine bX2_skipBlanks_0 (14 + y) hra ⟨fun z => ?_, fun z => t_here hT hq hqn (fun x ex => ?_)⟩
    · rw [hq, hT.2.2.1, z_le (by omega) (by omega)] at z
      rw [if_neg (by unfold ch; rw [if_neg (by omega)]; omega), u2_at hq] at h
      exact h
    · rw [cl_eq ex (by omega) (by omega)]
      refine ⟨fun w => ?_, fun w S1 e1 => ?_⟩
      · rw [if_neg w, u2_at hq] at h
        exact h
      · rw [if_pos w] at h
        have hl := ch_lt (n := n) (c := c) (q := q) (by omega)
        rw [hq, z_add] at e1
        refine ih (q + 1) (by omega) S1 ?_ ?_ (by omega) ?_
        · have y4 := hT.1
          refine hT.fr ?_ ?_ ?_ ?_ <;> rw [e1] <;> exact sg_o (by omega)
        · rw [e1]
          exact sg_s
        · rw [e1]
          show Q (u2 (u2 T.1 4 0 (nI (q + 1))) 4 0 (nI (sk n c f (q + 1))), T.2)
          rw [u2_u2]
          exact h
theorem t_skip {Q : Sg → Prop} {q : Nat} (hT : Tx y n c T) (hq : T.1 4 0 = nI q) (hqn : q ≤ n) (h : Q (u2 T.1 4 0 (nI (sk n c 61 q)), T.2)) : Ct G l mX2_skipBlanks (d + 3) [.ref 4, .ref (14 + y)] T (QV Q) :=
  t_skip_l 61 q (by have := hT.2.1; omega) T hT hq hqn h
def G4 (S T : Sg) (q : Nat) : Prop := (∀ k, k ≠ 4 → ¬ (40 ≤ k ∧ k < 52) → T.1 k = S.1 k) ∧ T.2 = S.2 ∧ T.1 4 0 = nI q
theorem G4.mv {q : Nat} (h : G4 S T q) (q' : Nat) : G4 S (u2 T.1 4 0 (nI q'), T.2) q' := ⟨fun k h1 h2 => by
  show u2 T.1 4 0 (nI q') k = _
  rw [u2_o _ h1]
  exact h.1 k h1 h2, h.2.1, sg_s⟩
theorem G4.put {q k i : Nat} {v : Int32} (h : G4 S T q) (hk : 40 ≤ k ∧ k < 52) : G4 S (u2 T.1 k i v, T.2) q := ⟨fun a h1 h2 => by
  show u2 T.1 k i v a = _
  rw [u2_o _ (by omega)]
  exact h.1 a h1 h2, h.2.1, by
  show u2 T.1 k i v 4 0 = _
  rw [u2_o _ (by omega)]
  exact h.2.2⟩
theorem G4.tx {q : Nat} (h : G4 S T q) (hT : Tx y n c S) : Tx y n c T := by
  have := hT.1
  exact hT.fr (h.1 _ (by omega) (by omega)) (h.1 _ (by omega) (by omega)) (h.1 _ (by omega) (by omega)) (h.1 _ (by omega) (by omega))
/-- how the reading goes on by a figure: whether all is well, the place -/
def nx (b : Bool) (q : Nat) : Nat := if b = true then q + 1 else q
def st (n : Nat) (c : Nat → Int32) (s : Bool × Nat) (lo hi : Nat) : Bool × Nat := (s.1 && fig n c s.2 lo hi, nx (s.1 && fig n c s.2 lo hi) s.2)
theorem st_f {s : Bool × Nat} {lo hi : Nat} (h : s.1 = false) : st n c s lo hi = (false, s.2) := by
  unfold st nx
  rw [h]
  rfl
theorem st_t {s : Bool × Nat} {lo hi : Nat} (h : s.1 = true) (hf : fig n c s.2 lo hi = true) : st n c s lo hi = (true, s.2 + 1) := by
  unfold st nx
  rw [h, hf]
  rfl
theorem st_n {s : Bool × Nat} {lo hi : Nat} (hf : fig n c s.2 lo hi = false) : st n c s lo hi = (false, s.2) := by
  unfold st nx
  rw [hf, Bool.and_false]
  rfl
theorem fig_lt {q lo hi : Nat} (h : fig n c q lo hi = true) : q < n ∧ lo ≤ vl n c q ∧ vl n c q ≤ hi := by
  have h := of_decide_eq_true h
  have := ch_lt (n := n) (c := c) (q := q) (by omega)
  unfold vl
  omega
theorem st_le {s : Bool × Nat} {lo hi : Nat} (h : s.2 ≤ n) : (st n c s lo hi).2 ≤ n := by
  cases hf : fig n c s.2 lo hi
  · rw [st_n hf]
    exact h
  · cases hs : s.1
    · rw [st_f hs]
      exact h
    · rw [st_t hs hf]
      have := fig_lt hf
      show s.2 + 1 ≤ n
      omega
theorem st_1 {s : Bool × Nat} {lo hi : Nat} (h : (st n c s lo hi).1 = true) : s.1 = true ∧ lo ≤ vl n c s.2 ∧ vl n c s.2 ≤ hi := by
  have h : (s.1 && fig n c s.2 lo hi) = true := h
  rw [Bool.and_eq_true] at h
  exact ⟨h.1, (fig_lt h.2).2⟩
/-- a LAND as it is read, nobody in it -/
def hdM (C W E a b : Nat) : Nat → Nat := fun k => if k = 0 then C else if k = 1 then W else if k = 2 then E else if k = 3 then a else if k = 4 then b else if k = 5 then W else if k = 6 then E else 0
theorem neg1 : (-1 : Int32) < nI 0 := by decide
theorem nle1 : ¬ nI 0 ≤ (-1 : Int32) := by decide
theorem t_rs135 {s : Bool × Nat} {s0 : Int32} {C W E a v : Nat} (hy : y < 4) (hg : G4 S T s.2) (hs : s.1 = true → s0 = nI v ∧ v ≤ 7) (hf : s.1 = false → s0 = -1) (h0 : s.1 = true → T.1 40 0 = nI C ∧ T.1 40 1 = nI W ∧ T.1 40 2 = nI E ∧ T.1 40 5 = nI a) (h : ∀ T' : Sg, G4 S T' s.2 → (s.1 = true → LV T' 40 (hdM C W E a v)) → P (b2 s.1) T') : Ev G l mX2_readSides (d + 5) 135 [some (.ref 4), some (.ref (14 + y)), some (.ref 40)] [.int s0, .ref 40] T (QI P) := by
  have hra : RowAt (14 + y) := by unfold RowAt; omega
  refine bX2_readSides_135 (14 + y) hra 40 la40 _ 40 la40 (fun S1 e1 S2 e2 S3 e3 S4 e4 S5 e5 S6 e6 x ex => ?_)
  have hg6 : G4 S S6 s.2 := by
    rw [e6, e5, e4, e3, e2, e1]
    exact (((((hg.put (by omega)).put (by omega)).put (by omega)).put (by omega)).put (by omega)).put (by omega)
  have hx6 : S6.1 40 6 = s0 := by
    rw [e6, e5, e4, e3, e2, e1]
    simp (disch := omega) only [u2_o, u2_s, u2_n]
  rw [hx6] at ex
  cases hb : s.1
  · rw [hf hb, if_pos neg1] at ex
    subst ex
    rw [hb] at h
    exact h S6 hg6 (fun z => absurd z Bool.false_ne_true)
  · obtain ⟨a1, a2⟩ := hs hb
    obtain ⟨c0, c1, c2, c5⟩ := h0 hb
    rw [a1, if_neg (n_in (by omega))] at ex
    subst ex
    rw [hb] at h
    refine h S6 hg6 (fun _ => ⟨?_, fun i hi => absurd hi (Nat.not_lt_zero i)⟩)
    rw [e6, e5, e4, e3, e2, e1]
    refine ⟨?_, ?_, ?_, ?_, ?_, ?_, ?_, ?_, ?_, ?_⟩
    · simp (disch := omega) only [u2_o, u2_s, u2_n]
      exact c0
    · simp (disch := omega) only [u2_o, u2_s, u2_n]
      exact c1
    · simp (disch := omega) only [u2_o, u2_s, u2_n]
      exact c2
    · simp (disch := omega) only [u2_o, u2_s, u2_n]
      exact c1
    · simp (disch := omega) only [u2_o, u2_s, u2_n]
      exact c2
    · simp (disch := omega) only [u2_o, u2_s, u2_n]
      exact c5
    · simp (disch := omega) only [u2_o, u2_s, u2_n]
      exact a1
    · simp (disch := omega) only [u2_o, u2_s, u2_n]
      rfl
    · simp (disch := omega) only [u2_o, u2_s, u2_n]
      rfl
    · simp (disch := omega) only [u2_o, u2_s, u2_n]
      rfl
theorem t_rs112 {s : Bool × Nat} {s0 : Int32} {C W E v : Nat} (hX : Tx y n c S) (hsn : s.2 ≤ n) (hg : G4 S T s.2) (hs : s.1 = true → s0 = nI v ∧ v ≤ 7) (hf : s.1 = false → s0 = -1) (h0 : s.1 = true → T.1 40 0 = nI C ∧ T.1 40 1 = nI W ∧ T.1 40 2 = nI E) (h : ∀ T' : Sg, G4 S T' (st n c s 0 7).2 → ((st n c s 0 7).1 = true → LV T' 40 (hdM C W E v (vl n c s.2))) → P (b2 (st n c s 0 7).1) T') : Ev G l mX2_readSides (d + 5) 112 [some (.ref 4), some (.ref (14 + y)), some (.ref 40)] [.int s0, .ref 40] T (QI P) := by
  have hy := hX.1
  have hra : RowAt (14 + y) := by unfold RowAt; omega
  refine bX2_readSides_112 (14 + y) hra 40 la40 _ 40 la40 (fun S1 e1 => ?_)
  have hg1 : G4 S S1 s.2 := by
    rw [e1]
    exact hg.put (by omega)
  have hx1 : S1.1 40 5 = s0 := by
    rw [e1]
    exact sg_s
  have ho : ∀ i, i ≠ 5 → S1.1 40 i = T.1 40 i := fun i hi => by
    rw [e1]
    exact sg_n hi
  rw [hx1]
  cases hb : s.1
  · rw [hf hb]
    refine ⟨fun z => absurd z nle1, fun _ => t_rs135 (s := (false, s.2)) (C := C) (W := W) (E := E) (a := v) (v := vl n c s.2) hy hg1 (fun z => absurd z Bool.false_ne_true) (fun _ => rfl) (fun z => absurd z Bool.false_ne_true) (fun T' a1 a2 => ?_)⟩
    rw [st_f hb] at h
    exact h T' a1 a2
  · obtain ⟨a1, a2⟩ := hs hb
    obtain ⟨c0, c1, c2⟩ := h0 hb
    rw [a1] at hx1 ⊢
    refine ⟨fun _ => t_figure (hg1.tx hX) hg1.2.2 hsn (by omega) (by omega) (fun z => ?_) (fun z => ?_), fun z => absurd (n_le (by omega)) z⟩
    · rw [st_t hb z] at h
      refine t_rs135 (s := (true, s.2 + 1)) (C := C) (W := W) (E := E) (a := v) (v := vl n c s.2) hy (hg1.mv _) (fun _ => ⟨rfl, (fig_lt z).2.2⟩) (fun z => absurd z.symm Bool.false_ne_true) (fun _ => ?_) h
      simp (disch := omega) only [u2_o]
      exact ⟨(ho _ (by omega)).trans c0, (ho _ (by omega)).trans c1, (ho _ (by omega)).trans c2, hx1⟩
    · rw [st_n z] at h
      exact t_rs135 (s := (false, s.2)) (C := C) (W := W) (E := E) (a := v) (v := vl n c s.2) hy hg1 (fun z => absurd z Bool.false_ne_true) (fun _ => rfl) (fun z => absurd z Bool.false_ne_true) h
theorem t_rs89 {s : Bool × Nat} {s0 : Int32} {C W v : Nat} (hX : Tx y n c S) (hsn : s.2 ≤ n) (hg : G4 S T s.2) (hs : s.1 = true → s0 = nI v ∧ v ≤ 9) (hf : s.1 = false → s0 = -1) (h0 : s.1 = true → T.1 40 0 = nI C ∧ T.1 40 1 = nI W) (h : ∀ T' : Sg, G4 S T' (st n c (st n c s 0 7) 0 7).2 → ((st n c (st n c s 0 7) 0 7).1 = true → LV T' 40 (hdM C W v (vl n c s.2) (vl n c (st n c s 0 7).2))) → P (b2 (st n c (st n c s 0 7) 0 7).1) T') : Ev G l mX2_readSides (d + 5) 89 [some (.ref 4), some (.ref (14 + y)), some (.ref 40)] [.int s0, .ref 40] T (QI P) := by
  have hy := hX.1
  have hra : RowAt (14 + y) := by unfold RowAt; omega
  refine bX2_readSides_89 (14 + y) hra 40 la40 _ 40 la40 (fun S1 e1 => ?_)
  have hg1 : G4 S S1 s.2 := by
    rw [e1]
    exact hg.put (by omega)
  have hx1 : S1.1 40 2 = s0 := by
    rw [e1]
    exact sg_s
  have ho : ∀ i, i ≠ 2 → S1.1 40 i = T.1 40 i := fun i hi => by
    rw [e1]
    exact sg_n hi
  rw [hx1]
  cases hb : s.1
  · rw [hf hb]
    rw [st_f (s := s) hb] at h
    exact ⟨fun z => absurd z nle1, fun _ => t_rs112 (s := (false, s.2)) (C := C) (W := W) (E := v) (v := vl n c s.2) hX hsn hg1 (fun z => absurd z Bool.false_ne_true) (fun _ => rfl) (fun z => absurd z Bool.false_ne_true) h⟩
  · obtain ⟨a1, a2⟩ := hs hb
    obtain ⟨c0, c1⟩ := h0 hb
    rw [a1] at hx1 ⊢
    refine ⟨fun _ => t_figure (hg1.tx hX) hg1.2.2 hsn (by omega) (by omega) (fun z => ?_) (fun z => ?_), fun z => absurd (n_le (by omega)) z⟩
    · rw [st_t hb z] at h
      refine t_rs112 (s := (true, s.2 + 1)) (C := C) (W := W) (E := v) (v := vl n c s.2) hX (fig_lt z).1 (hg1.mv _) (fun _ => ⟨rfl, (fig_lt z).2.2⟩) (fun z => absurd z.symm Bool.false_ne_true) (fun _ => ?_) h
      simp (disch := omega) only [u2_o]
      exact ⟨(ho _ (by omega)).trans c0, (ho _ (by omega)).trans c1, hx1⟩
    · rw [st_n z] at h
      exact t_rs112 (s := (false, s.2)) (C := C) (W := W) (E := v) (v := vl n c s.2) hX hsn hg1 (fun z => absurd z Bool.false_ne_true) (fun _ => rfl) (fun z => absurd z Bool.false_ne_true) h
theorem t_rs61 {s : Bool × Nat} {s0 : Int32} {C v : Nat} (hX : Tx y n c S) (hsn : s.2 ≤ n) (hg : G4 S T s.2) (hC : C ≤ 9) (hs : s.1 = true → s0 = nI v ∧ v ≤ C) (hf : s.1 = false → s0 = -1) (h0 : s.1 = true → T.1 40 0 = nI C) (h : ∀ T' : Sg, G4 S T' (st n c (st n c (st n c s v C) 0 7) 0 7).2 → ((st n c (st n c (st n c s v C) 0 7) 0 7).1 = true → LV T' 40 (hdM C v (vl n c s.2) (vl n c (st n c s v C).2) (vl n c (st n c (st n c s v C) 0 7).2))) → P (b2 (st n c (st n c (st n c s v C) 0 7) 0 7).1) T') : Ev G l mX2_readSides (d + 5) 61 [some (.ref 4), some (.ref (14 + y)), some (.ref 40)] [.int s0, .ref 40] T (QI P) := by
  have hy := hX.1
  have hra : RowAt (14 + y) := by unfold RowAt; omega
  refine bX2_readSides_61 (14 + y) hra 40 la40 _ 40 la40 (fun S1 e1 => ?_)
  have hg1 : G4 S S1 s.2 := by
    rw [e1]
    exact hg.put (by omega)
  have hx1 : S1.1 40 1 = s0 := by
    rw [e1]
    exact sg_s
  have ho : ∀ i, i ≠ 1 → S1.1 40 i = T.1 40 i := fun i hi => by
    rw [e1]
    exact sg_n hi
  rw [hx1]
  cases hb : s.1
  · rw [hf hb]
    rw [st_f (s := s) hb] at h
    exact ⟨fun z => absurd z nle1, fun _ => t_rs89 (s := (false, s.2)) (C := C) (W := v) (v := vl n c s.2) hX hsn hg1 (fun z => absurd z Bool.false_ne_true) (fun _ => rfl) (fun z => absurd z Bool.false_ne_true) h⟩
  · obtain ⟨a1, a2⟩ := hs hb
    have c0 := h0 hb
    rw [a1] at hx1 ⊢
    rw [ho 0 (by omega), c0]
    refine ⟨fun _ => t_figure (hg1.tx hX) hg1.2.2 hsn a2 hC (fun z => ?_) (fun z => ?_), fun z => absurd (n_le (by omega)) z⟩
    · rw [st_t hb z] at h
      refine t_rs89 (s := (true, s.2 + 1)) (C := C) (W := v) (v := vl n c s.2) hX (fig_lt z).1 (hg1.mv _) (fun _ => ⟨rfl, Nat.le_trans (fig_lt z).2.2 hC⟩) (fun z => absurd z.symm Bool.false_ne_true) (fun _ => ?_) h
      simp (disch := omega) only [u2_o]
      exact ⟨(ho _ (by omega)).trans c0, hx1⟩
    · rw [st_n z] at h
      exact t_rs89 (s := (false, s.2)) (C := C) (W := v) (v := vl n c s.2) hX hsn hg1 (fun z => absurd z Bool.false_ne_true) (fun _ => rfl) (fun z => absurd z Bool.false_ne_true) h
/-! the head -/
def h0 (n : Nat) (c : Nat → Int32) : Bool × Nat := (decide (ch n c (sk n c 61 0) = 110), nx (decide (ch n c (sk n c 61 0) = 110)) (sk n c 61 0))
def h1 (n : Nat) (c : Nat → Int32) : Bool × Nat := st n c (h0 n c) 3 9
def h2 (n : Nat) (c : Nat → Int32) : Bool × Nat := st n c (h1 n c) 0 (vl n c (h0 n c).2)
def h3 (n : Nat) (c : Nat → Int32) : Bool × Nat := st n c (h2 n c) (vl n c (h1 n c).2) (vl n c (h0 n c).2)
def h4 (n : Nat) (c : Nat → Int32) : Bool × Nat := st n c (h3 n c) 0 7
def h5 (n : Nat) (c : Nat → Int32) : Bool × Nat := st n c (h4 n c) 0 7
def hM (n : Nat) (c : Nat → Int32) : Nat → Nat := hdM (vl n c (h0 n c).2) (vl n c (h1 n c).2) (vl n c (h2 n c).2) (vl n c (h3 n c).2) (vl n c (h4 n c).2)
theorem h0_le : (h0 n c).2 ≤ n := by
  have := sk_le (n := n) (c := c) 61 0 (by omega)
  unfold h0 nx
  split
  · rename_i z
    have := ch_lt (n := n) (c := c) (q := sk n c 61 0) (by have := of_decide_eq_true z; omega)
    show sk n c 61 0 + 1 ≤ n
    omega
  · exact this
theorem t_readSides (hX : Tx y n c S) (hq : S.1 4 0 = nI 0) (h : ∀ T' : Sg, G4 S T' (h5 n c).2 → ((h5 n c).1 = true → LV T' 40 (hM n c)) → P (b2 (h5 n c).1) T') : Ct G l mX2_readSides (d + 5) [.ref 4, .ref (14 + y), .ref 40] S (QI P) := by
  have hy := hX.1
  have hra : RowAt (14 + y) := by unfold RowAt; omega
  have hs0 := sk_le (n := n) (c := c) 61 0 (by omega)
  have hgS : G4 S S 0 := ⟨fun _ _ _ => rfl, rfl, hq⟩
  have hg0 := hgS.mv (sk n c 61 0)
  refine bX2_readSides_0 (14 + y) hra 40 la40 (t_skip hX hq (Nat.zero_le n) (t_here (hg0.tx hX) hg0.2.2 hs0 (fun x ex => ?_)))
  have e0 : h0 n c = (decide (ch n c (sk n c 61 0) = 110), nx (decide (ch n c (sk n c 61 0) = 110)) (sk n c 61 0)) := rfl
  have e1 : h1 n c = st n c (h0 n c) 3 9 := rfl
  have e2 : h2 n c = st n c (h1 n c) 0 (vl n c (h0 n c).2) := rfl
  have e3 : h3 n c = st n c (h2 n c) (vl n c (h1 n c).2) (vl n c (h0 n c).2) := rfl
  have e4 : h4 n c = st n c (h3 n c) 0 7 := rfl
  have e5 : h5 n c = st n c (h4 n c) 0 7 := rfl
  rw [cl_eq ex (by omega) (by omega)]
  refine ⟨fun z S1 eS => ?_, fun z => ?_⟩
  · have hl := ch_lt (n := n) (c := c) (q := sk n c 61 0) (by omega)
    have e0' : h0 n c = (true, sk n c 61 0 + 1) := by
      rw [e0, decide_eq_true z]
      rfl
    have hgA : G4 S S1 (h0 n c).2 := by
      rw [eS, e0', hg0.2.2, z_add]
      exact hg0.mv _
    refine t_figure (hgA.tx hX) hgA.2.2 h0_le (by omega) (by omega) (fun w => fun S2 eS2 => ?_) (fun w => fun S2 eS2 => ?_)
    · have e1' : h1 n c = (true, (h0 n c).2 + 1) := by
        rw [e1]
        exact st_t (by rw [e0']) w
      have hgB : G4 S S2 (h1 n c).2 := by
        rw [eS2, e1']
        exact (hgA.mv _).put (by omega)
      have hx0 : S2.1 40 0 = nI (vl n c (h0 n c).2) := by
        rw [eS2]
        exact sg_s
      have hle1 : (h1 n c).2 ≤ n := by
        rw [e1]
        exact st_le h0_le
      rw [hx0]
      refine ⟨fun _ => t_figure (hgB.tx hX) hgB.2.2 hle1 (Nat.zero_le _) (fig_lt w).2.2 (fun w2 => ?_) (fun w2 => ?_), fun z => absurd (n_le (by have := (fig_lt w).2.2; omega)) z⟩
      · have e2' : h2 n c = (true, (h1 n c).2 + 1) := by
          rw [e2]
          exact st_t (by rw [e1']) w2
        refine t_rs61 (s := h2 n c) (C := vl n c (h0 n c).2) (v := vl n c (h1 n c).2) hX (by rw [e2]; exact st_le hle1) (by rw [e2']; exact hgB.mv _) (fig_lt w).2.2 (fun _ => ⟨rfl, (fig_lt w2).2.2⟩) (fun z => absurd z.symm (by rw [e2']; exact Bool.false_ne_true)) (fun _ => ?_) h
        simp (disch := omega) only [u2_o]
        exact hx0
      · have e2' : h2 n c = (false, (h1 n c).2) := by
          rw [e2]
          exact st_n w2
        exact t_rs61 (s := h2 n c) (C := vl n c (h0 n c).2) (v := vl n c (h1 n c).2) hX (by rw [e2]; exact st_le hle1) (by rw [e2']; exact hgB) (fig_lt w).2.2 (fun z => absurd z (by rw [e2']; exact Bool.false_ne_true)) (fun _ => rfl) (fun z => absurd z (by rw [e2']; exact Bool.false_ne_true)) h
    · have e1' : h1 n c = (false, (h0 n c).2) := by
        rw [e1]
        exact st_n w
      have e2' : h2 n c = (false, (h1 n c).2) := by
        rw [e2]
        exact st_f (by rw [e1'])
      have e3' : h3 n c = (false, (h2 n c).2) := by
        rw [e3]
        exact st_f (by rw [e2'])
      have e4' : h4 n c = (false, (h3 n c).2) := by
        rw [e4]
        exact st_f (by rw [e3'])
      have e5' : h5 n c = (false, (h4 n c).2) := by
        rw [e5]
        exact st_f (by rw [e4'])
      have hx0 : S2.1 40 0 = -1 := by
        rw [eS2]
        exact sg_s
      rw [hx0]
      refine ⟨fun z => absurd z nle1, fun _ => t_rs61 (s := (false, (h0 n c).2)) (C := 0) (v := 0) hX h0_le (by rw [eS2]; exact hgA.put (by omega)) (by omega) (fun z => absurd z Bool.false_ne_true) (fun _ => rfl) (fun z => absurd z Bool.false_ne_true) (fun T' a1 a2 => ?_)⟩
      rw [st_f (s := ((false, (h0 n c).2) : Bool × Nat)) rfl, st_f (s := ((false, (h0 n c).2) : Bool × Nat)) rfl, st_f (s := ((false, (h0 n c).2) : Bool × Nat)) rfl] at a1
      have hq5 : (h5 n c).2 = (h0 n c).2 := by rw [e5', e4', e3', e2', e1']
      have hb5 : (h5 n c).1 = false := by rw [e5']
      rw [st_f (s := ((false, (h0 n c).2) : Bool × Nat)) rfl, st_f (s := ((false, (h0 n c).2) : Bool × Nat)) rfl, st_f (s := ((false, (h0 n c).2) : Bool × Nat)) rfl]
      rw [hq5, hb5] at h
      exact h T' a1 (fun z => absurd z Bool.false_ne_true)
  · have e0' : h0 n c = (false, sk n c 61 0) := by
      rw [e0, decide_eq_false z]
      rfl
    have e1' : h1 n c = (false, (h0 n c).2) := by
      rw [e1]
      exact st_f (by rw [e0'])
    have e2' : h2 n c = (false, (h1 n c).2) := by
      rw [e2]
      exact st_f (by rw [e1'])
    have e3' : h3 n c = (false, (h2 n c).2) := by
      rw [e3]
      exact st_f (by rw [e2'])
    have e4' : h4 n c = (false, (h3 n c).2) := by
      rw [e4]
      exact st_f (by rw [e3'])
    have e5' : h5 n c = (false, (h4 n c).2) := by
      rw [e5]
      exact st_f (by rw [e4'])
    have hq5 : (h5 n c).2 = sk n c 61 0 := by rw [e5', e4', e3', e2', e1', e0']
    have hb5 : (h5 n c).1 = false := by rw [e5']
    rw [hq5, hb5] at h
    exact h _ hg0 (fun z => absurd z Bool.false_ne_true)
end reader
