/-! reading: the reference -/
section mread
variable {G : Gl} {l : Launch} {d : Nat} {S T : Sg} {n : Nat} {c : Nat → Int32} {y : Nat} {m : Nat → Nat} {P : Int32 → Sg → Prop}
theorem pair_f {s : Bool × Nat} (h : s.1 = false) : s = (false, s.2) := by rw [← h]
theorem b2t : ¬ b2 true = nI 0 := by decide
theorem b2ff : b2 false = nI 0 := rfl
/-- alike but for the reader's places -/
def K7 (S T : Sg) (s : Bool × Nat) : Prop := (∀ k, k ≠ 7 → k ≠ 94 → T.1 k = S.1 k) ∧ T.2 = S.2 ∧ (∀ i, i ≠ 20 → i ≠ 21 → T.1 7 i = S.1 7 i) ∧ T.1 7 20 = nI s.2 ∧ T.1 7 21 = b2 s.1
theorem K7.tx {s : Bool × Nat} (h : K7 S T s) (hT : Tx y n c S) : Tx y n c T := by
  have := hT.1
  exact hT.fr (h.1 _ (by omega) (by omega)) (h.1 _ (by omega) (by omega)) (h.1 _ (by omega) (by omega)) (h.1 _ (by omega) (by omega))
theorem K7.put {s : Bool × Nat} (h : K7 S T s) (i : Nat) (v : Int32) : K7 S (u2 T.1 94 i v, T.2) s := by
  refine ⟨fun k h1 h2 => ?_, h.2.1, fun j h1 h2 => ?_, ?_, ?_⟩
  · show u2 T.1 94 i v k = _
    rw [u2_o _ h2]
    exact h.1 k h1 h2
  · show u2 T.1 94 i v 7 j = _
    rw [u2_o _ (by omega)]
    exact h.2.2.1 j h1 h2
  · show u2 T.1 94 i v 7 20 = _
    rw [u2_o _ (by omega)]
    exact h.2.2.2.1
  · show u2 T.1 94 i v 7 21 = _
    rw [u2_o _ (by omega)]
    exact h.2.2.2.2
/-- another place, another state -/
theorem K7.mv {s : Bool × Nat} (h : K7 S T s) (b : Bool) (q : Nat) : K7 S (u2 (u2 T.1 7 21 (b2 b)) 7 20 (nI q), T.2) (b, q) := by
  refine ⟨fun k h1 h2 => ?_, h.2.1, fun j h1 h2 => ?_, ?_, ?_⟩
  · show u2 (u2 T.1 7 21 (b2 b)) 7 20 (nI q) k = _
    rw [u2_o _ h1, u2_o _ h1]
    exact h.1 k h1 h2
  · show u2 (u2 T.1 7 21 (b2 b)) 7 20 (nI q) 7 j = _
    rw [u2_n _ h1, u2_n _ h2]
    exact h.2.2.1 j h1 h2
  · show u2 (u2 T.1 7 21 (b2 b)) 7 20 (nI q) 7 20 = _
    rw [u2_s]
  · show u2 (u2 T.1 7 21 (b2 b)) 7 20 (nI q) 7 21 = _
    rw [u2_n _ (by omega), u2_s]
theorem u_look {s : Bool × Nat} (hX : Tx y n c T) (hk : K7 S T s) (hsn : s.2 ≤ n) (h : ∀ x : Int32, x.toNatClampNeg = ch n c s.2 → P x T) : Ct G l mX5_look (d + 1) [.ref 7, .int (nI y)] T (QI P) := by
  obtain ⟨hy, hn, -, -, h1, h2⟩ := hX
  have ea : (nI 60 * nI y) + T.1 7 20 = nI (60 * y + s.2) := by rw [hk.2.2.2.1, z_mul, z_add]
  refine bX5_look_0 _ ⟨y, ix_nI hy (by omega), fun z => ?_, fun x ex => ?_⟩
  · rw [h1, hk.2.2.2.1, z_le (by omega) (by omega)] at z
    rw [ea, nI_clamp (by omega)]
    exact ix_nI (by omega) (by omega)
  · rw [ea, nI_clamp (by omega), h1, hk.2.2.2.1] at ex
    simp (disch := omega) only [z_le] at ex
    refine h x ?_
    by_cases q : s.2 < n
    · rw [if_neg (by omega), h2 _ q] at ex
      rw [ex, ch, if_pos q]
    · rw [if_pos (by omega)] at ex
      rw [ex, ch, if_neg q]
      rfl
theorem u_skip_l {Q : Sg → Prop} : ∀ (f q : Nat), n ≤ q + f → ∀ T : Sg, Tx y n c S → K7 S T (true, q) → q ≤ n → (∀ T' : Sg, K7 S T' (true, sk n c f q) → T'.1 94 = T.1 94 → Q T') → Ct G l mX5_skips (d + 2) [.ref 7, .int (nI y)] T (QV Q) := by
  intro f
  induction f with
  | zero =>
    intro q hf T hX hk hqn h
    refine bX5_skips_0 _ ⟨fun z => ?_, fun _ => u_look (s := (true, q)) (hk.tx hX) hk hqn (fun x ex => ⟨fun _ => h T hk rfl, fun z => ?_⟩)⟩
    · rw [hk.2.2.2.2] at z
      exact absurd z b2t
    · rw [cl_eq ex (by omega) (by omega)] at z
      have := ch_lt (n := n) (c := c) (q := q) (by show 0 < ch n c (true, q).2; omega)
      omega
  | succ f ih =>
    intro q hf T hX hk hqn h
    unfold sk at h
    refine bX5_skips_0 _ ⟨fun z => ?_, fun _ => u_look (s := (true, q)) (hk.tx hX) hk hqn (fun x ex => ?_)⟩
    · rw [hk.2.2.2.2] at z
      exact absurd z b2t
    · rw [cl_eq ex (by omega) (by omega)]
      refine ⟨fun w => ?_, fun w S1 e1 => ?_⟩
      · rw [if_neg w] at h
        exact h T hk rfl
      · rw [if_pos w] at h
        have hl := ch_lt (n := n) (c := c) (q := q) (by show 0 < ch n c (true, q).2; omega)
        have eS : S1 = (u2 (u2 T.1 7 21 (b2 true)) 7 20 (nI (q + 1)), T.2) := by
          rw [e1, u2_at hk.2.2.2.2, hk.2.2.2.1, z_add]
        have hk1 : K7 S S1 (true, q + 1) := by
          rw [eS]
          exact hk.mv true (q + 1)
        refine ih (q + 1) (by omega) S1 hX hk1 (by omega) (fun T' a1 a2 => h T' a1 (a2.trans ?_))
        rw [e1]
        exact sg_o (by omega)
theorem u_skip {Q : Sg → Prop} {s : Bool × Nat} (hX : Tx y n c S) (hk : K7 S T s) (hsn : s.2 ≤ n) (h : ∀ T' : Sg, K7 S T' (s.1, if s.1 = true then sk n c 61 s.2 else s.2) → T'.1 94 = T.1 94 → Q T') : Ct G l mX5_skips (d + 2) [.ref 7, .int (nI y)] T (QV Q) := by
  cases hb : s.1
  · rw [hb] at h
    refine bX5_skips_0 _ ⟨fun _ => h T ?_ rfl, fun z => ?_⟩
    · have hk' : K7 S T (s.1, s.2) := hk
      rw [hb] at hk'
      exact hk'
    · rw [hk.2.2.2.2, hb] at z
      exact absurd rfl z
  · rw [hb, if_pos rfl] at h
    refine u_skip_l 61 s.2 (by have := hX.2.1; omega) T hX ?_ hsn h
    rw [← hb]
    exact hk
/-- a figure, well or not -/
theorem u_figure {s : Bool × Nat} {lo hi : Int32} {a b : Nat} (hX : Tx y n c S) (hk : K7 S T s) (hsn : s.2 ≤ n) (hr : s.1 = true → lo = nI a ∧ hi = nI b ∧ a ≤ b ∧ b ≤ 9) (h : ∀ (x : Int32) (T' : Sg), K7 S T' (st n c s a b) → T'.1 94 = T.1 94 → ((st n c s a b).1 = true → x = nI (vl n c s.2)) → P x T') : Ct G l mX5_figure (d + 2) [.ref 7, .int (nI y), .int lo, .int hi] T (QI P) := by
  refine bX5_figure_0 _ _ _ (u_look (hk.tx hX) hk hsn (fun x ex => ?_))
  have hno : fig n c s.2 a b = false ∨ s.1 = false → ∀ s0, s0 = nI 0 → Ev G l mX5_figure (d + 2) 48 [some (.ref 7), some (.int (nI y)), some (.int lo), some (.int hi), some (.int (x - nI 48))] [.int s0, .ref 7] T (QI P) := by
    intro hor s0 hs0
    have e : st n c s a b = (false, s.2) := by
      rcases hor with w | w
      · exact st_n w
      · exact st_f w
    subst hs0
    refine bX5_figure_48 _ _ _ _ _ ⟨zb_0, fun S1 e1 x60 e60 S2 e2 => ?_⟩
    have h21 : S1.1 7 21 = nI 0 := by
      rw [e1]
      exact sg_s
    have h20 : S1.1 7 20 = nI s.2 := by
      rw [e1]
      exact (sg_n (by omega)).trans hk.2.2.2.1
    rw [h21, if_pos rfl] at e60
    rw [e60, h20, z_add] at e2
    rw [e] at h
    have eS : S2 = (u2 (u2 T.1 7 21 (b2 false)) 7 20 (nI s.2), T.2) := by
      rw [e2, e1]
      rfl
    refine h _ S2 (by rw [eS]; exact hk.mv false s.2) ?_ (fun z => absurd z Bool.false_ne_true)
    rw [e2, e1]
    exact (sg_o (by omega)).trans (sg_o (by omega))
  cases hb : s.1
  · refine ⟨fun _ => bX5_figure_47 _ _ _ _ (hno (Or.inr hb) _ rfl), fun z => ?_⟩
    rw [hk.2.2.2.2, hb] at z
    exact absurd rfl z
  · obtain ⟨rfl, rfl, hab, hb9⟩ := hr hb
    refine ⟨fun z => ?_, fun _ => u_look (hk.tx hX) hk hsn (fun x2 ex2 => u_in _ _ _ ?_)⟩
    · rw [hk.2.2.2.2, hb] at z
      exact absurd z b2t
    · have hc := fig_c ex hab hb9
      have h57 := fig_c (lo := 0) (hi := 9) ex2 (by omega) (by omega)
      cases hf : fig n c s.2 a b
      · by_cases q : ¬ x2 < nI 48 ∧ ¬ nI 57 < x2
        · rw [b2y q]
          refine ⟨fun z => absurd z (by decide), fun _ => u_in _ _ _ (fun x40 e40 => ?_)⟩
          rw [b2f (fun w => of_decide_eq_false hf (hc.mp w)), if_pos rfl] at e40
          intro S1 e1 x60 e60 S2 e2
          have e : st n c s a b = (false, s.2) := st_n hf
          subst e40
          have h21 : S1.1 7 21 = nI 0 := by
            rw [e1]
            exact sg_s
          have h20 : S1.1 7 20 = nI s.2 := by
            rw [e1]
            exact (sg_n (by omega)).trans hk.2.2.2.1
          rw [h21, if_pos rfl] at e60
          rw [e60, h20, z_add] at e2
          rw [e] at h
          have eS : S2 = (u2 (u2 T.1 7 21 (b2 false)) 7 20 (nI s.2), T.2) := by
            rw [e2, e1]
            rfl
          refine h _ S2 (by rw [eS]; exact hk.mv false s.2) ?_ (fun z => absurd z Bool.false_ne_true)
          rw [e2, e1]
          exact (sg_o (by omega)).trans (sg_o (by omega))
        · rw [b2f q]
          exact ⟨fun _ => bX5_figure_47 _ _ _ _ (hno (Or.inl hf) _ rfl), fun z => absurd rfl z⟩
      · have hw := of_decide_eq_true hf
        have hx2 := (cl_pos ex2 (by omega)).1
        have hx1 := (cl_pos ex (by omega)).1
        have q : ¬ x2 < nI 48 ∧ ¬ nI 57 < x2 := by
          rw [hx2, z_lt (by omega) (by omega), z_lt (by omega) (by omega)]
          omega
        rw [b2y q]
        refine ⟨fun z => absurd z (by decide), fun _ => u_in _ _ _ (fun x40 e40 => ?_)⟩
        rw [b2y (hc.mpr hw), if_neg (by decide)] at e40
        intro S1 e1 x60 e60 S2 e2
        have e : st n c s a b = (true, s.2 + 1) := st_t hb hf
        subst e40
        have h21 : S1.1 7 21 = nI 1 := by
          rw [e1]
          exact sg_s
        have h20 : S1.1 7 20 = nI s.2 := by
          rw [e1]
          exact (sg_n (by omega)).trans hk.2.2.2.1
        rw [h21, if_neg (by decide)] at e60
        rw [e60, h20, z_add] at e2
        rw [e] at h
        have eS : S2 = (u2 (u2 T.1 7 21 (b2 true)) 7 20 (nI (s.2 + 1)), T.2) := by
          rw [e2, e1]
          rfl
        refine h _ S2 (by rw [eS]; exact hk.mv true (s.2 + 1)) ?_ (fun _ => ?_)
        · rw [e2, e1]
          exact (sg_o (by omega)).trans (sg_o (by omega))
        · rw [hx1, z_sub (by omega)]
          rfl
theorem h0_1 : (h0 n c).1 = decide (ch n c (sk n c 61 0) = 110) := rfl
theorem h0_2 : (h0 n c).2 = nx (decide (ch n c (sk n c 61 0) = 110)) (sk n c 61 0) := rfl
theorem u_rh0 {S1 S2 : Sg} {x x13 x33 : Int32} {q : Nat} (k1 : K7 S T (true, q)) {k : Nat} (ex : x.toNatClampNeg = k) (e13 : x13 = if x = nI 110 then nI 1 else nI 0) (e1 : S1 = (u2 T.1 7 21 x13, T.2)) (e33 : x33 = if S1.1 7 21 = nI 0 then nI 0 else nI 1) (e2 : S2 = (u2 S1.1 7 20 (S1.1 7 20 + x33), S1.2)) : K7 S S2 (decide (k = 110), nx (decide (k = 110)) q) ∧ S2.1 94 = T.1 94 := by
  have e13' : x13 = b2 (decide (k = 110)) := by
    rw [e13]
    by_cases q : k = 110
    · rw [if_pos ((cl_eq ex (by omega) (by omega)).mpr q), b2y q]
    · rw [if_neg (fun z => q ((cl_eq ex (by omega) (by omega)).mp z)), b2f q]
  have h21 : S1.1 7 21 = b2 (decide (k = 110)) := by
    rw [e1, ← e13']
    exact sg_s
  have h20 : S1.1 7 20 = nI q := by
    rw [e1]
    exact (sg_n (by omega)).trans k1.2.2.2.1
  have e2' : (S1.1 7 20) + x33 = nI (nx (decide (k = 110)) q) := by
    rw [h20, e33, h21]
    unfold nx
    cases decide (k = 110)
    · rw [if_pos b2ff, z_add]
      rfl
    · rw [if_neg b2t, z_add]
      rfl
  have eS : S2 = (u2 (u2 T.1 7 21 (b2 (decide (k = 110)))) 7 20 (nI (nx (decide (k = 110)) q)), T.2) := by
    rw [e2, e2', e1, e13']
  refine ⟨by rw [eS]; exact k1.mv _ _, ?_⟩
  rw [e2, e1]
  exact (sg_o (by omega)).trans (sg_o (by omega))
theorem hM_0 : hM n c 0 = vl n c (h0 n c).2 := rfl
theorem hM_1 : hM n c 1 = vl n c (h1 n c).2 := rfl
theorem hM_2 : hM n c 2 = vl n c (h2 n c).2 := rfl
theorem hM_3 : hM n c 3 = vl n c (h3 n c).2 := rfl
theorem hM_4 : hM n c 4 = vl n c (h4 n c).2 := rfl
theorem hM_5 : hM n c 5 = vl n c (h1 n c).2 := rfl
theorem hM_6 : hM n c 6 = vl n c (h2 n c).2 := rfl
theorem hM_7 : hM n c 7 = 0 := rfl
theorem u_readsHead {Q : Sg → Prop} (hX : Tx y n c S) (hk : K7 S T (true, 0)) (h0' : ∀ k, k < 40 → T.1 94 k = nI 0) (h : ∀ T' : Sg, K7 S T' ((h5 n c).1, if (h5 n c).1 = true then sk n c 61 (h5 n c).2 else (h5 n c).2) → ((h5 n c).1 = true → ∀ k, k < 40 → T'.1 94 k = nI (hM n c k)) → Q T') : Ct G l mX5_readsHead (d + 3) [.ref 7, .int (nI y)] T (QV Q) := by
  have hs0 := sk_le (n := n) (c := c) 61 0 (by omega)
  refine bX5_readsHead_0 _ (u_skip_l 61 0 (by have := hX.2.1; omega) T hX hk (Nat.zero_le n) (fun T1 k1 d1 => u_look (k1.tx hX) k1 hs0 (fun x ex x13 e13 S1 e1 x33 e33 S2 e2 => ?_)))
  have hk0 : K7 S S2 (h0 n c) ∧ S2.1 94 = T1.1 94 := by
    have e : h0 n c = (decide (ch n c (sk n c 61 0) = 110), nx (decide (ch n c (sk n c 61 0) = 110)) (sk n c 61 0)) := rfl
    rw [e]
    exact u_rh0 k1 ex e13 e1 e33 e2
  rw [d1] at hk0
  obtain ⟨k2, d2⟩ := hk0
  clear e1 e2 e13 e33
  have hn1 : (h1 n c).2 ≤ n := st_le h0_le
  have hn2 : (h2 n c).2 ≤ n := st_le hn1
  have hn3 : (h3 n c).2 ≤ n := st_le hn2
  have hn4 : (h4 n c).2 ≤ n := st_le hn3
  have hn5 : (h5 n c).2 ≤ n := st_le hn4
  refine u_figure (a := 3) (b := 9) hX k2 h0_le (fun _ => ⟨rfl, rfl, by omega, by omega⟩) (fun x1 A1 a1 b1 c1 B1 f1 => ?_)
  have a1' : K7 S B1 (h1 n c) := by
    rw [f1]
    exact a1.put _ _
  have v10 : B1.1 94 0 = x1 := by
    rw [f1]
    exact sg_s
  rw [v10]
  refine u_figure (a := 0) (b := vl n c (h0 n c).2) hX a1' hn1 (fun z => ⟨rfl, c1 z, Nat.zero_le _, (st_1 z).2.2⟩) (fun x2 A2 a2 b2' c2 B2 f2 => ?_)
  have a2' : K7 S B2 (h2 n c) := by
    rw [f2]
    exact a2.put _ _
  have v21 : B2.1 94 1 = x2 := by
    rw [f2]
    exact sg_s
  have v20 : B2.1 94 0 = x1 := by
    rw [f2, ← v10, ← b2']
    exact sg_n (by omega)
  rw [v21, v20]
  refine u_figure (a := vl n c (h1 n c).2) (b := vl n c (h0 n c).2) hX a2' hn2 (fun z => ⟨c2 z, c1 (st_1 z).1, (st_1 z).2.2, (st_1 (st_1 z).1).2.2⟩) (fun x3 A3 a3 b3 c3 B3 f3 => ?_)
  have a3' : K7 S B3 (h3 n c) := by
    rw [f3]
    exact a3.put _ _
  refine u_figure (a := 0) (b := 7) hX a3' hn3 (fun z => ⟨rfl, rfl, by omega, by omega⟩) (fun x4 A4 a4 b4 c4 B4 f4 => ?_)
  have a4' : K7 S B4 (h4 n c) := by
    rw [f4]
    exact a4.put _ _
  refine u_figure (a := 0) (b := 7) hX a4' hn4 (fun z => ⟨rfl, rfl, by omega, by omega⟩) (fun x5 A5 a5 b5 c5 B5 f5 B6 f6 B7 f7 => ?_)
  have a7' : K7 S B7 (h5 n c) := by
    rw [f7, f6, f5]
    exact ((a5.put _ _).put _ _).put _ _
  refine u_skip hX a7' hn5 (fun T' t1 t2 => h T' t1 (fun hb k hk40 => ?_))
  have g5 := c5 hb
  have g4 := c4 (st_1 hb).1
  have g3 := c3 (st_1 (st_1 hb).1).1
  have g2 := c2 (st_1 (st_1 (st_1 hb).1).1).1
  have g1 := c1 (st_1 (st_1 (st_1 (st_1 hb).1).1).1).1
  have r1 : ∀ j, j ≠ 0 → B1.1 94 j = T.1 94 j := fun j hj => by
    rw [f1, ← d2, ← b1]
    exact sg_n hj
  have r2 : ∀ j, j ≠ 1 → B2.1 94 j = B1.1 94 j := fun j hj => by
    rw [f2, ← b2']
    exact sg_n hj
  have r3 : ∀ j, j ≠ 2 → B3.1 94 j = B2.1 94 j := fun j hj => by
    rw [f3, ← b3]
    exact sg_n hj
  have s3 : B3.1 94 2 = x3 := by
    rw [f3]
    exact sg_s
  have r4 : ∀ j, j ≠ 3 → B4.1 94 j = B3.1 94 j := fun j hj => by
    rw [f4, ← b4]
    exact sg_n hj
  have s4 : B4.1 94 3 = x4 := by
    rw [f4]
    exact sg_s
  have r5 : ∀ j, j ≠ 4 → B5.1 94 j = B4.1 94 j := fun j hj => by
    rw [f5, ← b5]
    exact sg_n hj
  have s5 : B5.1 94 4 = x5 := by
    rw [f5]
    exact sg_s
  have r6 : ∀ j, j ≠ 5 → B6.1 94 j = B5.1 94 j := fun j hj => by
    rw [f6]
    exact sg_n hj
  have s6 : B6.1 94 5 = B5.1 94 1 := by
    rw [f6]
    exact sg_s
  have r7 : ∀ j, j ≠ 6 → B7.1 94 j = B6.1 94 j := fun j hj => by
    rw [f7]
    exact sg_n hj
  have s7 : B7.1 94 6 = B6.1 94 2 := by
    rw [f7]
    exact sg_s
  rw [t2]
  rcases (show k = 0 ∨ k = 1 ∨ k = 2 ∨ k = 3 ∨ k = 4 ∨ k = 5 ∨ k = 6 ∨ 7 ≤ k by omega) with rfl | rfl | rfl | rfl | rfl | rfl | rfl | q
  · rw [r7 _ (by omega), r6 _ (by omega), r5 _ (by omega), r4 _ (by omega), r3 _ (by omega), v20, g1, hM_0]
  · rw [r7 _ (by omega), r6 _ (by omega), r5 _ (by omega), r4 _ (by omega), r3 _ (by omega), v21, g2, hM_1]
  · rw [r7 _ (by omega), r6 _ (by omega), r5 _ (by omega), r4 _ (by omega), s3, g3, hM_2]
  · rw [r7 _ (by omega), r6 _ (by omega), r5 _ (by omega), s4, g4, hM_3]
  · rw [r7 _ (by omega), r6 _ (by omega), s5, g5, hM_4]
  · rw [r7 _ (by omega), s6, r5 _ (by omega), r4 _ (by omega), r3 _ (by omega), v21, g2, hM_5]
  · rw [s7, r6 _ (by omega), r5 _ (by omega), r4 _ (by omega), s3, g3, hM_6]
  · rw [r7 _ (by omega), r6 _ (by omega), r5 _ (by omega), r4 _ (by omega), r3 _ (by omega), r2 _ (by omega), r1 _ (by omega), h0' k hk40]
    unfold hM hdM
    rw [if_neg (by omega), if_neg (by omega), if_neg (by omega), if_neg (by omega), if_neg (by omega)]
    by_cases q5 : k = 5
    · omega
    · rw [if_neg q5, if_neg (by omega)]
theorem u_kindOf {x : Int32} {k : Nat} (hx : x.toNatClampNeg = k) (h : P (if knd k = 6 then -9 else nI (knd k)) S) : Ct G l mX5_kindOf (d + 1) [.int x] S (QI P) := by
  refine bX5_kindOf_0 _ (fun r er => ?_)
  have e : r = if knd k = 6 then -9 else nI (knd k) := by
    rw [er]
    have c1 := cl_eq hx (j := 112) (by omega) (by omega)
    have c2 := cl_eq hx (j := 111) (by omega) (by omega)
    have c3 := cl_eq hx (j := 108) (by omega) (by omega)
    have c4 := cl_eq hx (j := 104) (by omega) (by omega)
    have c5 := cl_eq hx (j := 116) (by omega) (by omega)
    have c6 := cl_eq hx (j := 102) (by omega) (by omega)
    simp only [c1, c2, c3, c4, c5, c6]
    unfold knd
    by_cases q1 : k = 112
    · simp [q1]
    · by_cases q2 : k = 111
      · simp [q2]
      · by_cases q3 : k = 108
        · simp [q3]
        · by_cases q4 : k = 104
          · simp [q4]
          · by_cases q5 : k = 116
            · simp [q5]
            · by_cases q6 : k = 102
              · simp [q6]
              · simp [q1, q2, q3, q4, q5, q6]
  rw [e]
  exact h
theorem u_readsOne {Q : Sg → Prop} {s : Bool × Nat} (hX : Tx y n c S) (hk : K7 S T s) (hst : s.1 = true) (hsn : s.2 ≤ n) (hp : m 7 ≤ 6) (hc : 1 ≤ m 0 ∧ m 0 ≤ 9) (hd : ∀ k, k < 40 → T.1 94 k = nI (m k))
    (h : ∀ T' : Sg, K7 S T' ((o3 n c s m).1, if (o3 n c s m).1 = true then sk n c 61 (o3 n c s m).2 else (o3 n c s m).2) → ((o3 n c s m).1 = true → ∀ k, k < 40 → T'.1 94 k = nI (oM n c s m k)) → Q T') : Ct G l mX5_readsOne (d + 3) [.ref 7, .int (nI y)] T (QV Q) := by
  have hkl := knd_le (ch n c s.2)
  refine bX5_readsOne_0 _ (u_look (hk.tx hX) hk hsn (fun x ex => u_kindOf ex (fun x14 e14 S1 e1 x52 e52 S2 e2 => ?_)))
  have hb0 : (o0 n c s m).1 = decide (knd (ch n c s.2) < 6 ∧ m 7 < 6) := by
    unfold o0
    rw [hst, Bool.true_and]
  have hk0 : K7 S S2 (o0 n c s m) ∧ S2.1 94 = T.1 94 := by
    have e14' : x14 = b2 (o0 n c s m).1 := by
      rw [e14, hk.2.2.2.2, hst, hd 7 (by omega), if_neg (by decide), hb0]
      by_cases q : knd (ch n c s.2) = 6
      · rw [if_pos (by rw [if_pos q]), b2f (by omega)]
      · rw [if_neg (by rw [if_neg q]; exact z_m9_eq (by omega))]
        by_cases q2 : m 7 < 6
        · rw [if_neg (by rw [z_le (by omega) (by omega)]; omega), b2y (by omega)]
        · rw [if_pos (by rw [z_le (by omega) (by omega)]; omega), b2f (by omega)]
    have h21 : S1.1 7 21 = b2 (o0 n c s m).1 := by
      rw [e1, ← e14']
      exact sg_s
    have h20 : S1.1 7 20 = nI s.2 := by
      rw [e1]
      exact (sg_n (by omega)).trans hk.2.2.2.1
    have e2' : (S1.1 7 20) + x52 = nI (o0 n c s m).2 := by
      rw [h20, e52, h21]
      have e0 : (o0 n c s m).2 = nx (o0 n c s m).1 s.2 := rfl
      rw [e0]
      cases (o0 n c s m).1
      · rw [if_pos b2ff, z_add]
        rfl
      · rw [if_neg b2t, z_add]
        rfl
    have eS : S2 = (u2 (u2 T.1 7 21 (b2 (o0 n c s m).1)) 7 20 (nI (o0 n c s m).2), T.2) := by
      rw [e2, e2', e1, e14']
    refine ⟨by rw [eS]; exact hk.mv _ _, ?_⟩
    rw [e2, e1]
    exact (sg_o (by omega)).trans (sg_o (by omega))
  obtain ⟨k2, d2⟩ := hk0
  clear e1 e2 e14 e52
  have hn0 : (o0 n c s m).2 ≤ n := o0_le hsn
  have hn1 : (o1 n c s m).2 ≤ n := st_le hn0
  have hn2 : (o2 n c s m).2 ≤ n := st_le hn1
  have hn3 : (o3 n c s m).2 ≤ n := st_le hn2
  have hS0 : S2.1 94 0 = nI (m 0) := by
    rw [d2]
    exact hd 0 (by omega)
  rw [hS0, z_sub hc.1]
  refine u_figure (a := 0) (b := m 0 - 1) hX k2 hn0 (fun _ => ⟨rfl, rfl, Nat.zero_le _, by omega⟩) (fun x1 A1 a1 b1 c1 => ?_)
  refine u_figure (a := 0) (b := 9) hX a1 hn1 (fun _ => ⟨rfl, rfl, Nat.zero_le _, by omega⟩) (fun x2 A2 a2 b2' c2 => ?_)
  refine u_figure (a := 0) (b := 7) hX a2 hn2 (fun _ => ⟨rfl, rfl, Nat.zero_le _, by omega⟩) (fun x3 A3 a3 b3 c3 => ?_)
  have a3' : K7 S A3 (o3 n c s m) := a3
  have hD : ∀ k, k < 40 → A3.1 94 k = nI (m k) := fun k hk40 => by
    rw [b3, b2', b1, d2]
    exact hd k hk40
  cases hb : (o3 n c s m).1
  · refine ⟨fun _ => bX5_readsOne_181 _ _ _ _ _ (u_skip hX a3' hn3 (fun T' t1 t2 => h T' t1 (fun z => ?_))), fun z => ?_⟩
    · rw [hb] at z
      exact absurd z Bool.false_ne_true
    · rw [a3'.2.2.2.2, hb] at z
      exact absurd rfl z
  · have g3 := c3 hb
    have g2 := c2 (st_1 hb).1
    have g1 := c1 (st_1 (st_1 hb).1).1
    have p0 := (st_1 (st_1 (st_1 hb).1).1).1
    rw [hb0] at p0
    obtain ⟨p1, p2⟩ := of_decide_eq_true p0
    rw [hD 7 (by omega), if_neg (by omega : ¬ knd (ch n c s.2) = 6), g1, g2, g3]
    refine ⟨fun z => ?_, fun _ => ⟨10 + 5 * m 7, ix_i (z_at0 _) (by omega) (by omega), fun B1 f1 => ⟨11 + 5 * m 7, ix_i (z_at _ 1) (by omega) (by omega), fun B2 f2 => ⟨12 + 5 * m 7, ix_i (z_at _ 2) (by omega) (by omega), fun B3 f3 => ⟨13 + 5 * m 7, ix_i (z_at _ 3) (by omega) (by omega), fun B4 f4 => ⟨14 + 5 * m 7, ix_i (z_at _ 4) (by omega) (by omega), fun B5 f5 B6 f6 => bX5_readsOne_181 _ _ _ _ _ ?_⟩⟩⟩⟩⟩⟩
    · rw [a3'.2.2.2.2, hb] at z
      exact absurd z b2t
    · have a6 : K7 S B6 (o3 n c s m) := by
        rw [f6, f5, f4, f3, f2, f1]
        exact (((((a3'.put _ _).put _ _).put _ _).put _ _).put _ _).put _ _
      refine u_skip hX a6 hn3 (fun T' t1 t2 => h T' t1 (fun _ k hk40 => ?_))
      rw [t2]
      have r1 : ∀ j, j ≠ 10 + 5 * m 7 → B1.1 94 j = A3.1 94 j := fun j hj => by
        rw [f1]
        exact sg_n hj
      have s1 : B1.1 94 (10 + 5 * m 7) = nI (knd (ch n c s.2)) := by
        rw [f1]
        exact sg_s
      have r2 : ∀ j, j ≠ 11 + 5 * m 7 → B2.1 94 j = B1.1 94 j := fun j hj => by
        rw [f2]
        exact sg_n hj
      have s2 : B2.1 94 (11 + 5 * m 7) = nI (vl n c (o0 n c s m).2) := by
        rw [f2]
        exact sg_s
      have r3 : ∀ j, j ≠ 12 + 5 * m 7 → B3.1 94 j = B2.1 94 j := fun j hj => by
        rw [f3]
        exact sg_n hj
      have s3 : B3.1 94 (12 + 5 * m 7) = nI (vl n c (o0 n c s m).2) := by
        rw [f3]
        exact sg_s
      have r4 : ∀ j, j ≠ 13 + 5 * m 7 → B4.1 94 j = B3.1 94 j := fun j hj => by
        rw [f4]
        exact sg_n hj
      have s4 : B4.1 94 (13 + 5 * m 7) = nI (vl n c (o1 n c s m).2) := by
        rw [f4]
        exact sg_s
      have r5 : ∀ j, j ≠ 14 + 5 * m 7 → B5.1 94 j = B4.1 94 j := fun j hj => by
        rw [f5]
        exact sg_n hj
      have s5 : B5.1 94 (14 + 5 * m 7) = nI (vl n c (o2 n c s m).2) := by
        rw [f5]
        exact sg_s
      have r6 : ∀ j, j ≠ 7 → B6.1 94 j = B5.1 94 j := fun j hj => by
        rw [f6]
        exact sg_n hj
      have s6 : B6.1 94 7 = B5.1 94 7 + nI 1 := by
        rw [f6]
        exact sg_s
      unfold oM
      rcases (show k = 7 ∨ k = 10 + 5 * m 7 ∨ k = 11 + 5 * m 7 ∨ k = 12 + 5 * m 7 ∨ k = 13 + 5 * m 7 ∨ k = 14 + 5 * m 7 ∨ (k ≠ 7 ∧ (k < 10 + 5 * m 7 ∨ 15 + 5 * m 7 ≤ k)) by omega) with q | q | q | q | q | q | q
      · subst q
        rw [s6, r5 _ (by omega), r4 _ (by omega), r3 _ (by omega), r2 _ (by omega), r1 _ (by omega), hD 7 (by omega), z_add, ad_7]
      · rw [q, r6 _ (by omega), r5 _ (by omega), r4 _ (by omega), r3 _ (by omega), r2 _ (by omega), s1, ad_0]
      · rw [q, r6 _ (by omega), r5 _ (by omega), r4 _ (by omega), r3 _ (by omega), s2, ad_1]
      · rw [q, r6 _ (by omega), r5 _ (by omega), r4 _ (by omega), s3, ad_2]
      · rw [q, r6 _ (by omega), r5 _ (by omega), s4, ad_3]
      · rw [q, r6 _ (by omega), s5, ad_4]
      · rw [r6 _ (by omega), r5 _ (by omega), r4 _ (by omega), r3 _ (by omega), r2 _ (by omega), r1 _ (by omega), hD k hk40, ad_o q]
theorem u_people (i2 : Int32) : ∀ (f : Nat) (s : Bool × Nat) (m : Nat → Nat), s.1 = true → m 7 + f = 7 → s.2 ≤ n → ∀ T : Sg, Tx y n c S → K7 S T s → (∀ k, k < 40 → T.1 94 k = nI (m k)) → JV m → (s.2 < n ∨ 0 < m 7) →
    (∀ T' : Sg, K7 S T' (pls n c f s m).1 → ((pls n c f s m).1.1 = true → ∀ k, k < 40 → T'.1 94 k = nI ((pls n c f s m).2 k)) → P (if (pls n c f s m).1.1 = true then -9 else nI (pls n c f s m).1.2) T') →
    Ev G l mX5_reads (d + 4) 49 [some (.ref 7), some (.int (nI y)), some (.int i2)] [] T (QI P) := by
  intro f
  induction f with
  | zero =>
    intro s m hst hf hsn T hX hk hd hJ hor h
    have := hJ.1.2.2.2.2.2.2.2.2.1
    omega
  | succ f ih =>
    intro s m hst hf hsn T hX hk hd hJ hor h
    have hy := hX.1
    have hn := hX.2.1
    have h7 := hJ.1.2.2.2.2.2.2.2.2.1
    have hXT := hk.tx hX
    unfold pls at h
    refine bX5_reads_49 _ _ ⟨fun z => ?_, fun _ => ⟨y, ix_nI hy (by omega), fun z => ?_, fun z => ?_⟩⟩
    · rw [hk.2.2.2.2, hst] at z
      exact absurd z b2t
    · rw [hXT.2.2.2.2.1, hk.2.2.2.1, z_le (by omega) (by omega)] at z
      rw [if_neg (by omega), decide_eq_true (by omega : 0 < m 7), if_pos rfl] at h
      refine bX5_reads_77 _ _ (fun x ex => ?_)
      rw [hk.2.2.2.2, hst, if_neg (by decide)] at ex
      rw [ex]
      refine h T ?_ (fun _ => hd)
      rw [← hst]
      exact hk
    · rw [hXT.2.2.2.2.1, hk.2.2.2.1, z_le (by omega) (by omega)] at z
      rw [if_pos (by omega)] at h
      refine u_readsOne hX hk hst hsn h7 (by have := hJ.1; omega) hd (fun T' t1 t2 => ?_)
      cases ho : (o3 n c s m).1
      · rw [if_neg (by rw [ho]; exact Bool.false_ne_true), ho, if_neg Bool.false_ne_true] at h
        rw [ho, if_neg Bool.false_ne_true] at t1
        refine bX5_reads_49 _ _ ⟨fun _ => bX5_reads_77 _ _ (fun x ex => ?_), fun w => ?_⟩
        · rw [t1.2.2.2.2, if_pos b2ff, t1.2.2.2.1] at ex
          rw [ex]
          refine h T' ?_ (fun w => absurd w Bool.false_ne_true)
          have e : o3 n c s m = (false, (o3 n c s m).2) := pair_f ho
          rw [e]
          exact t1
        · rw [t1.2.2.2.2] at w
          exact absurd rfl w
      · rw [if_pos ho] at h
        rw [ho, if_pos rfl] at t1
        have hle := sk_le (n := n) (c := c) 61 _ (o3_le (m := m) (c := c) hsn)
        exact ih (true, sk n c 61 (o3 n c s m).2) (oM n c s m) rfl (by unfold oM; rw [ad_7]; omega) hle T' hX t1 (t2 ho) (oM_JV hJ ho).1 (Or.inr (by unfold oM; rw [ad_7]; omega)) h
theorem u_rfin {q : Nat} {i2 : Int32} (hk : K7 S T (false, q)) (h : P (nI q) T) : Ev G l mX5_reads (d + 4) 49 [some (.ref 7), some (.int (nI y)), some (.int i2)] [] T (QI P) := by
  refine bX5_reads_49 _ _ ⟨fun _ => bX5_reads_77 _ _ (fun x ex => ?_), fun w => ?_⟩
  · rw [hk.2.2.2.2, if_pos b2ff, hk.2.2.2.1] at ex
    rw [ex]
    exact h
  · rw [hk.2.2.2.2] at w
    exact absurd rfl w
theorem u_first (i2 : Int32) {q0 : Nat} (hX : Tx y n c S) (hk : K7 S T (true, q0)) (hle : q0 ≤ n) (hJ : JV m) (h70 : m 7 = 0) (hd : ∀ k, k < 40 → T.1 94 k = nI (m k))
    (h : ∀ T' : Sg, K7 S T' (pls n c 7 (true, q0) m).1 → ((pls n c 7 (true, q0) m).1.1 = true → ∀ k, k < 40 → T'.1 94 k = nI ((pls n c 7 (true, q0) m).2 k)) → P (if (pls n c 7 (true, q0) m).1.1 = true then -9 else nI (pls n c 7 (true, q0) m).1.2) T') :
    Ct G l mX5_readsOne (d + 3) [.ref 7, .int (nI y)] T (QV (fun T46 => Ev G l mX5_reads (d + 4) 49 [some (.ref 7), some (.int (nI y)), some (.int i2)] [] T46 (QI P))) := by
  refine u_readsOne hX hk rfl hle (by have := hJ.1; omega) (by have := hJ.1; omega) hd (fun T2 r1 r2 => ?_)
  unfold pls at h
  have hlo := o3_le (m := m) (c := c) (s := (true, q0)) hle
  cases ho : (o3 n c (true, q0) m).1
  · rw [ho, if_neg Bool.false_ne_true] at r1
    have e : (if (true, q0).2 < n then (if (o3 n c (true, q0) m).1 = true then pls n c 6 (true, sk n c 61 (o3 n c (true, q0) m).2) (oM n c (true, q0) m) else (o3 n c (true, q0) m, m)) else ((decide (0 < m 7), (true, q0).2), m)).1 = (false, (o3 n c (true, q0) m).2) := by
      by_cases q : (true, q0).2 < n
      · rw [if_pos q, if_neg (by rw [ho]; exact Bool.false_ne_true)]
        exact pair_f ho
      · rw [if_neg q, h70, decide_eq_false (Nat.lt_irrefl 0)]
        have q2 : ¬ q0 < n := q
        have hch : ch n c q0 = 0 := by
          unfold ch
          rw [if_neg q2]
        have e0' : o0 n c (true, q0) m = (false, q0) := by
          unfold o0
          have : ¬ (knd (ch n c (true, q0).2) < 6 ∧ m 7 < 6) := by
            show ¬ (knd (ch n c q0) < 6 ∧ m 7 < 6)
            rw [hch, knd_0]
            omega
          rw [decide_eq_false this]
          rfl
        have e3' : o3 n c (true, q0) m = (false, q0) := by
          unfold o3 o2 o1
          rw [e0', st_f rfl, st_f rfl, st_f rfl]
        rw [e3']
    rw [e, if_neg Bool.false_ne_true] at h
    exact u_rfin r1 (h T2 r1 (fun w => absurd w Bool.false_ne_true))
  · rw [ho, if_pos rfl] at r1
    have hq : (true, q0).2 < n := by
      obtain ⟨p2, -, -⟩ := st_1 ho
      obtain ⟨p1, -, -⟩ := st_1 p2
      obtain ⟨p0, -, -⟩ := st_1 p1
      have p0 : ((true, q0).1 && decide (knd (ch n c (true, q0).2) < 6 ∧ m 7 < 6)) = true := p0
      rw [Bool.and_eq_true] at p0
      exact ch_lt (knd_pos (of_decide_eq_true p0.2).1)
    rw [if_pos hq, if_pos ho] at h
    have hle2 := sk_le (n := n) (c := c) 61 _ hlo
    have hJ2 := (oM_JV hJ ho).1
    have r2' := r2 ho
    have h71 : oM n c (true, q0) m 7 = 1 := by
      unfold oM
      rw [ad_7, h70]
    exact u_people _ 6 (true, sk n c 61 (o3 n c (true, q0) m).2) (oM n c (true, q0) m) rfl (by omega) hle2 T2 hX r1 r2' hJ2 (Or.inr (by omega)) h
/-- what follows the head, its outcome told by names -/
theorem u_afterHead (i2 : Int32) {s5 : Bool × Nat} {q0 : Nat} {rd : (Bool × Nat) × (Nat → Nat)} (hX : Tx y n c S) (e : rd = if s5.1 = true then pls n c 7 (true, q0) m else (s5, m)) (hk : K7 S T (s5.1, if s5.1 = true then q0 else s5.2)) (hle : q0 ≤ n) (hJ : s5.1 = true → JV m) (h70 : m 7 = 0) (hd : s5.1 = true → ∀ k, k < 40 → T.1 94 k = nI (m k))
    (h : ∀ T' : Sg, K7 S T' rd.1 → (rd.1.1 = true → ∀ k, k < 40 → T'.1 94 k = nI (rd.2 k)) → P (if rd.1.1 = true then -9 else nI rd.1.2) T') :
    ((T.1 7 21) = (nI 0) → Ev G l mX5_reads (d + 4) 49 [some (.ref 7), some (.int (nI y)), some (.int i2)] [] T (QI P)) ∧ (¬ ((T.1 7 21) = (nI 0)) → Ct G l mX5_readsOne (d + 3) [.ref 7, .int (nI y)] T (QV (fun T46 => Ev G l mX5_reads (d + 4) 49 [some (.ref 7), some (.int (nI y)), some (.int i2)] [] T46 (QI P)))) := by
  cases hb : s5.1
  · rw [if_neg (by rw [hb]; exact Bool.false_ne_true)] at e
    rw [hb, if_neg Bool.false_ne_true] at hk
    subst e
    rw [pair_f hb] at h
    refine ⟨fun _ => u_rfin hk (h T hk (fun w => absurd w Bool.false_ne_true)), fun w => ?_⟩
    rw [hk.2.2.2.2] at w
    exact absurd rfl w
  · rw [if_pos hb] at e
    rw [hb, if_pos rfl] at hk
    subst e
    refine ⟨fun w => ?_, fun _ => u_first i2 hX hk hle (hJ hb) h70 (hd hb) h⟩
    rw [hk.2.2.2.2] at w
    exact absurd w b2t
theorem rdr_eq : rdr n c = if (h5 n c).1 = true then pls n c 7 (true, sk n c 61 (h5 n c).2) (hM n c) else (h5 n c, hM n c) := rfl
theorem h5_le : (h5 n c).2 ≤ n := st_le (st_le (st_le (st_le (st_le h0_le))))
theorem u_reads (hX : Tx y n c S) (h : ∀ T' : Sg, K7 S T' (rdr n c).1 → ((rdr n c).1.1 = true → ∀ k, k < 40 → T'.1 94 k = nI ((rdr n c).2 k)) → P (if (rdr n c).1.1 = true then -9 else nI (rdr n c).1.2) T') : Ct G l mX5_reads (d + 4) [.ref 7, .int (nI y)] S (QI P) := by
  have hl : ∀ (k i : Nat), i + k = 400 → ∀ T : Sg, (∀ a, a ≠ 94 → T.1 a = S.1 a) → T.2 = S.2 → (∀ j, j < i → T.1 94 j = nI 0) → Ev G l mX5_reads (d + 4) 2 [some (.ref 7), some (.int (nI y)), some (.int (nI i))] [] T (QI P) := by
    intro k
    induction k with
    | zero =>
      intro i hi T f1 f2 f3
      obtain rfl : i = 400 := by omega
      refine bX5_reads_2 _ _ ⟨fun _ S1 e1 S2 e2 => ?_, fun z => absurd (by decide) z⟩
      have hk : K7 S S2 (true, 0) := by
        rw [e2, e1]
        refine ⟨fun a h1 h2 => ?_, f2, fun j h1 h2 => ?_, ?_, ?_⟩
        · exact (sg_o h1).trans ((sg_o h1).trans (f1 a h2))
        · refine (sg_n h2).trans ((sg_n h1).trans ?_)
          rw [f1 7 (by omega)]
        · exact (sg_n (by omega)).trans sg_s
        · exact sg_s
      have hz : ∀ j, j < 40 → S2.1 94 j = nI 0 := fun j hj => by
        rw [e2, e1]
        have : (u2 (u2 T.1 7 20 (nI 0)) 7 21 (nI 1)) 94 j = T.1 94 j := by rw [u2_o _ (by omega), u2_o _ (by omega)]
        exact this.trans (f3 j (by omega))
      exact u_readsHead hX hk hz (fun T' t1 t2 => u_afterHead _ hX rdr_eq t1 (sk_le 61 _ h5_le) hM_JV hM_7 t2 h)
    | succ k ih =>
      intro i hi T f1 f2 f3
      refine bX5_reads_2 _ _ ⟨fun z => ?_, fun _ => ⟨i, ix_nI (by omega) (by omega), fun S1 e1 => ?_⟩⟩
      · rw [z_le (by omega) (by omega)] at z
        omega
      · rw [z_add]
        refine ih (i + 1) (by omega) S1 (fun a ha => ?_) (by rw [e1]; exact f2) (fun j hj => ?_)
        · rw [e1]
          exact (sg_o ha).trans (f1 a ha)
        · rw [e1]
          by_cases q : j = i
          · subst q
            exact sg_s
          · exact (sg_n q).trans (f3 j (by omega))
  exact bX5_reads_0 _ (hl 400 0 rfl S (fun _ _ => rfl) rfl (fun j hj => absurd hj (Nat.not_lt_zero j)))
theorem pls_le : ∀ (f : Nat) (s : Bool × Nat) (m : Nat → Nat), s.2 ≤ n → (pls n c f s m).1.2 ≤ n := by
  intro f
  induction f with
  | zero =>
    intro s m h
    exact h
  | succ f ih =>
    intro s m h
    unfold pls
    by_cases q : s.2 < n
    · rw [if_pos q]
      by_cases q2 : (o3 n c s m).1 = true
      · rw [if_pos q2]
        exact ih _ _ (sk_le 61 _ (o3_le h))
      · rw [if_neg q2]
        exact o3_le h
    · rw [if_neg q]
      exact h
theorem rdr_le : (rdr n c).1.2 ≤ n := by
  rw [rdr_eq]
  by_cases q : (h5 n c).1 = true
  · rw [if_pos q]
    exact pls_le 7 _ _ (sk_le 61 _ h5_le)
  · rw [if_neg q]
    exact h5_le
end mread
