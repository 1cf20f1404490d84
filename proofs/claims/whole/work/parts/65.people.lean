/-! reading people: the class -/
section people
variable {G : Gl} {l : Launch} {d : Nat} {S T : Sg} {n : Nat} {c : Nat → Int32} {y : Nat} {m : Nat → Nat} {P : Int32 → Sg → Prop}
def knd (k : Nat) : Nat := if k = 112 then 0 else if k = 111 then 1 else if k = 108 then 2 else if k = 104 then 3 else if k = 116 then 4 else if k = 102 then 5 else 6
def lv (i : Nat) : Nat := if i = 0 then 112 else if i = 1 then 111 else if i = 2 then 108 else if i = 3 then 104 else if i = 4 then 116 else 102
theorem knd_lv : ∀ i, i < 6 → knd (lv i) = i := by decide
theorem lv_r : ∀ i, i < 6 → 0 < lv i ∧ lv i < 200 := by decide
theorem lv_let : ∀ i, i < 6 → letF i = .int (nI (lv i)) := by
  intro i hi
  rcases (show i = 0 ∨ i = 1 ∨ i = 2 ∨ i = 3 ∨ i = 4 ∨ i = 5 by omega) with rfl | rfl | rfl | rfl | rfl | rfl <;> rfl
theorem knd_6 {k : Nat} (h : ∀ i, i < 6 → k ≠ lv i) : knd k = 6 := by
  have a0 : k ≠ 112 := h 0 (by omega)
  have a1 : k ≠ 111 := h 1 (by omega)
  have a2 : k ≠ 108 := h 2 (by omega)
  have a3 : k ≠ 104 := h 3 (by omega)
  have a4 : k ≠ 116 := h 4 (by omega)
  have a5 : k ≠ 102 := h 5 (by omega)
  unfold knd
  rw [if_neg a0, if_neg a1, if_neg a2, if_neg a3, if_neg a4, if_neg a5]
theorem knd_le (k : Nat) : knd k ≤ 6 := by
  unfold knd
  repeat' split
  all_goals omega
theorem knd_0 : knd 0 = 6 := by decide
theorem knd_pos {k : Nat} (h : knd k < 6) : 0 < k := by
  rcases Nat.eq_zero_or_pos k with z | z
  · subst z
    exact absurd h (by decide)
  · exact z
theorem t_kindOf {x : Int32} {k : Nat} (hx : x.toNatClampNeg = k) (h : P (if knd k = 6 then -1 else nI (knd k)) S) : Ct G l mX2_kindOf (d + 1) [.int x] S (QI P) := by
  have hl : ∀ (j i : Nat), i + j = 6 → (∀ a, a < i → k ≠ lv a) → Ev G l mX2_kindOf (d + 1) 2 [some (.int x), some (.int (nI i))] [] S (QI P) := by
    intro j
    induction j with
    | zero =>
      intro i hi ha
      obtain rfl : i = 6 := by omega
      rw [if_pos (knd_6 ha)] at h
      refine r_iload_n (μ := mX2_kindOf) (pc := 2) dX2_kindOf_2 rfl rfl ?_
      refine r_iconst (μ := mX2_kindOf) (pc := 3) (v := nI 5) dX2_kindOf_3 rfl ?_
      refine r_icmp_gt (μ := mX2_kindOf) (pc := 4) (tgt := 24) dX2_kindOf_4 (by decide) ⟨fun q => ?_, fun q => absurd (by decide) q⟩
      refine r_iconst (μ := mX2_kindOf) (pc := 24) (v := -1) dX2_kindOf_24 rfl ?_
      exact r_iret (μ := mX2_kindOf) (pc := 25) dX2_kindOf_25 rfl h
    | succ j ih =>
      intro i hi ha
      have hlr := lv_r i (by omega)
      refine r_iload_n (μ := mX2_kindOf) (pc := 2) dX2_kindOf_2 rfl rfl ?_
      refine r_iconst (μ := mX2_kindOf) (pc := 3) (v := nI 5) dX2_kindOf_3 rfl ?_
      refine r_icmp_gt (μ := mX2_kindOf) (pc := 4) (tgt := 24) dX2_kindOf_4 (by decide) ⟨fun q => ?_, fun q => ?_⟩
      · rw [z_lt (by omega) (by omega)] at q
        omega
      · refine r_letters (μ := mX2_kindOf) (pc := 7) dX2_kindOf_7 ⟨rfl, rfl⟩ ?_
        refine r_iload_n (μ := mX2_kindOf) (pc := 10) dX2_kindOf_10 rfl rfl ?_
        refine r_letter (μ := mX2_kindOf) (pc := 11) dX2_kindOf_11 (ix_nI (show i < 6 by omega) (by omega)) (lv_let i (by omega)) ?_
        refine r_iload_n (μ := mX2_kindOf) (pc := 12) dX2_kindOf_12 rfl rfl ?_
        refine r_icmp_ne (μ := mX2_kindOf) (pc := 13) (tgt := 18) dX2_kindOf_13 (by decide) ⟨fun q => ?_, fun q => ?_⟩
        · refine r_iinc (μ := mX2_kindOf) (pc := 18) (y := nI 1) (ls' := [some (.int x), some (.int (nI i + nI 1))]) dX2_kindOf_18 rfl rfl (Nat.le_of_ble_eq_true rfl) rfl rfl ?_
          refine r_goto (μ := mX2_kindOf) (pc := 21) (tgt := 2) dX2_kindOf_21 (by decide) ?_
          rw [z_add]
          refine ih (i + 1) (by omega) (fun a h2 => ?_)
          by_cases z : a = i
          · subst z
            intro e
            exact q ((cl_eq hx hlr.1 (by omega)).mpr e).symm
          · exact ha a (by omega)
        · have e := (cl_eq hx hlr.1 (by omega)).mp q.symm
          rw [e, knd_lv i (by omega), if_neg (by omega)] at h
          refine r_iload_n (μ := mX2_kindOf) (pc := 16) dX2_kindOf_16 rfl rfl ?_
          exact r_iret (μ := mX2_kindOf) (pc := 17) dX2_kindOf_17 rfl h
  show Ev G l mX2_kindOf (d + 1) 0 [some (.int x), none] [] S (QI P)
  refine r_iconst (μ := mX2_kindOf) (pc := 0) (v := nI 0) dX2_kindOf_0 rfl ?_
  refine r_istore_n (μ := mX2_kindOf) (pc := 1) (ls' := [some (.int x), some (.int (nI 0))]) dX2_kindOf_1 rfl (Nat.le_of_ble_eq_true rfl) rfl rfl ?_
  exact hl 6 0 rfl (fun a h2 => absurd h2 (Nat.not_lt_zero a))
/-- one more of PEOPLE -/
def adM (m : Nat → Nat) (kd cl vt v : Nat) : Nat → Nat := fun j => if j = 10 + 5 * m 7 then kd else if j = 11 + 5 * m 7 ∨ j = 12 + 5 * m 7 then cl else if j = 13 + 5 * m 7 then vt else if j = 14 + 5 * m 7 then v else if j = 7 then m 7 + 1 else m j
section ad
variable {kd cl vt v : Nat}
theorem ad_0 : adM m kd cl vt v (10 + 5 * m 7) = kd := if_pos rfl
theorem ad_1 : adM m kd cl vt v (11 + 5 * m 7) = cl := by
  unfold adM
  rw [if_neg (by omega), if_pos (Or.inl rfl)]
theorem ad_2 : adM m kd cl vt v (12 + 5 * m 7) = cl := by
  unfold adM
  rw [if_neg (by omega), if_pos (Or.inr rfl)]
theorem ad_3 : adM m kd cl vt v (13 + 5 * m 7) = vt := by
  unfold adM
  rw [if_neg (by omega), if_neg (by omega), if_pos rfl]
theorem ad_4 : adM m kd cl vt v (14 + 5 * m 7) = v := by
  unfold adM
  rw [if_neg (by omega), if_neg (by omega), if_neg (by omega), if_pos rfl]
theorem ad_7 : adM m kd cl vt v 7 = m 7 + 1 := by
  unfold adM
  rw [if_neg (by omega), if_neg (by omega), if_neg (by omega), if_neg (by omega), if_pos rfl]
theorem ad_o {j : Nat} (h : j ≠ 7 ∧ (j < 10 + 5 * m 7 ∨ 15 + 5 * m 7 ≤ j)) : adM m kd cl vt v j = m j := by
  unfold adM
  rw [if_neg (by omega), if_neg (by omega), if_neg (by omega), if_neg (by omega), if_neg (by omega)]
end ad
def o0 (n : Nat) (c : Nat → Int32) (s : Bool × Nat) (m : Nat → Nat) : Bool × Nat := (s.1 && decide (knd (ch n c s.2) < 6 ∧ m 7 < 6), nx (s.1 && decide (knd (ch n c s.2) < 6 ∧ m 7 < 6)) s.2)
def o1 (n : Nat) (c : Nat → Int32) (s : Bool × Nat) (m : Nat → Nat) : Bool × Nat := st n c (o0 n c s m) 0 (m 0 - 1)
def o2 (n : Nat) (c : Nat → Int32) (s : Bool × Nat) (m : Nat → Nat) : Bool × Nat := st n c (o1 n c s m) 0 9
def o3 (n : Nat) (c : Nat → Int32) (s : Bool × Nat) (m : Nat → Nat) : Bool × Nat := st n c (o2 n c s m) 0 7
def oM (n : Nat) (c : Nat → Int32) (s : Bool × Nat) (m : Nat → Nat) : Nat → Nat := adM m (knd (ch n c s.2)) (vl n c (o0 n c s m).2) (vl n c (o1 n c s m).2) (vl n c (o2 n c s m).2)
theorem o0_le {s : Bool × Nat} (h : s.2 ≤ n) : (o0 n c s m).2 ≤ n := by
  unfold o0 nx
  split
  · rename_i z
    rw [Bool.and_eq_true] at z
    have := knd_pos (of_decide_eq_true z.2).1
    have := ch_lt (n := n) (c := c) this
    show s.2 + 1 ≤ n
    omega
  · exact h
theorem o3_le {s : Bool × Nat} (h : s.2 ≤ n) : (o3 n c s m).2 ≤ n := st_le (st_le (st_le (o0_le h)))
theorem t_ro82 {s : Bool × Nat} {s0 i5 i6 : Int32} {kd cl vt v : Nat} (hy : y < 4) (hg : G4 S T s.2) (hv : LV T 40 m) (hp : m 7 < 6) (hs : s.1 = true → s0 = nI v ∧ v ≤ 7 ∧ i5 = nI cl ∧ i6 = nI vt) (hf : s.1 = false → s0 = -1)
    (h : ∀ T' : Sg, G4 S T' s.2 → T'.1 40 8 = nI (m 7) → (s.1 = true → LV (u2 T'.1 40 8 (nI (m 7 + 1)), T'.2) 40 (adM m kd cl vt v)) → P (b2 s.1) T') :
    Ev G l mX2_readOne (d + 5) 82 [some (.ref 4), some (.ref (14 + y)), some (.ref 40), some (.int (nI (m 7))), some (.int (nI kd)), some (.int i5), some (.int i6), none] [.int s0] T (QI P) := by
  have hra : RowAt (14 + y) := by unfold RowAt; omega
  refine bX2_readOne_82 (14 + y) hra 40 la40 _ _ _ _ _ ⟨fun z => ?_, fun z => ?_⟩
  · have hb : s.1 = true := by
      cases hb : s.1
      · rw [hf hb] at z
        exact absurd z nle1
      · rfl
    obtain ⟨rfl, a2, rfl, rfl⟩ := hs hb
    refine ⟨m 7, ix_nI hp (by omega), fun S1 e1 S2 e2 S3 e3 S4 e4 S5 e5 => ?_⟩
    rw [hb] at h
    have hg5 : G4 S S5 s.2 := by
      rw [e5, e4, e3, e2, e1]
      exact ((((hg.put (by omega)).put (by omega)).put (by omega)).put (by omega)).put (by omega)
    refine h S5 hg5 ?_ (fun _ => ?_)
    · rw [e5, e4, e3, e2, e1]
      simp (disch := omega) only [u2_o]
      exact hv.p
    · rw [e5, e4, e3, e2, e1]
      refine ⟨⟨?_, ?_, ?_, ?_, ?_, ?_, ?_, ?_, ?_, ?_⟩, fun i hi => ?_⟩
      · simp (disch := omega) only [u2_o, u2_s, u2_n]
        rw [ad_o (by omega)]
        exact hv.c
      · simp (disch := omega) only [u2_o, u2_s, u2_n]
        rw [ad_o (by omega)]
        exact hv.w
      · simp (disch := omega) only [u2_o, u2_s, u2_n]
        rw [ad_o (by omega)]
        exact hv.e
      · simp (disch := omega) only [u2_o, u2_s, u2_n]
        rw [ad_o (by omega)]
        exact hv.fw
      · simp (disch := omega) only [u2_o, u2_s, u2_n]
        rw [ad_o (by omega)]
        exact hv.fe
      · simp (disch := omega) only [u2_o, u2_s, u2_n]
        rw [ad_o (by omega)]
        exact hv.wl
      · simp (disch := omega) only [u2_o, u2_s, u2_n]
        rw [ad_o (by omega)]
        exact hv.el
      · simp (disch := omega) only [u2_o, u2_s, u2_n]
        rw [ad_o (by omega)]
        exact hv.y
      · simp (disch := omega) only [u2_o, u2_s, u2_n]
        rw [ad_7]
      · simp (disch := omega) only [u2_o, u2_s, u2_n]
        rw [ad_o (by omega)]
        exact hv.n
      · rw [ad_7] at hi
        by_cases q : i = m 7
        · subst q
          refine ⟨?_, ?_, ?_, ?_, ?_⟩
          · simp (disch := omega) only [u2_o, u2_s]
            rw [ad_0]
          · simp (disch := omega) only [u2_o, u2_s]
            rw [ad_1]
          · simp (disch := omega) only [u2_o, u2_s]
            rw [ad_2]
          · simp (disch := omega) only [u2_o, u2_s]
            rw [ad_3]
          · simp (disch := omega) only [u2_o, u2_s]
            rw [ad_4]
        · refine ⟨?_, ?_, ?_, ?_, ?_⟩
          · simp (disch := omega) only [u2_o, u2_n]
            rw [ad_o (by omega)]
            exact hv.k (by omega)
          · simp (disch := omega) only [u2_o, u2_n]
            rw [ad_o (by omega)]
            exact hv.cl (by omega)
          · simp (disch := omega) only [u2_o, u2_n]
            rw [ad_o (by omega)]
            exact hv.fi (by omega)
          · simp (disch := omega) only [u2_o, u2_n]
            rw [ad_o (by omega)]
            exact hv.td (by omega)
          · simp (disch := omega) only [u2_o, u2_n]
            rw [ad_o (by omega)]
            exact hv.lw (by omega)
  · have hb : s.1 = false := by
      cases hb : s.1
      · rfl
      · rw [(hs hb).1] at z
        exact absurd (n_le (by have := (hs hb).2.1; omega)) z
    rw [hb] at h
    exact h T hg hv.p (fun w => absurd w Bool.false_ne_true)
theorem G4.lv {q q' : Nat} {L : Nat} (hv : LV T 40 m) : LV (u2 T.1 4 0 (nI q'), T.2) 40 m := hv.fr (A := fun k => k ≠ 4) (fun k hk => sg_o hk) (fun k a b => by omega)
theorem t_ro63 {s : Bool × Nat} {s0 i5 : Int32} {kd cl v : Nat} (hX : Tx y n c S) (hsn : s.2 ≤ n) (hg : G4 S T s.2) (hv : LV T 40 m) (hp : m 7 < 6) (hs : s.1 = true → s0 = nI v ∧ v ≤ 9 ∧ i5 = nI cl) (hf : s.1 = false → s0 = -1)
    (h : ∀ T' : Sg, G4 S T' (st n c s 0 7).2 → T'.1 40 8 = nI (m 7) → ((st n c s 0 7).1 = true → LV (u2 T'.1 40 8 (nI (m 7 + 1)), T'.2) 40 (adM m kd cl v (vl n c s.2))) → P (b2 (st n c s 0 7).1) T') :
    Ev G l mX2_readOne (d + 5) 63 [some (.ref 4), some (.ref (14 + y)), some (.ref 40), some (.int (nI (m 7))), some (.int (nI kd)), some (.int i5), none, none] [.int s0] T (QI P) := by
  have hy := hX.1
  have hra : RowAt (14 + y) := by unfold RowAt; omega
  refine bX2_readOne_63 (14 + y) hra 40 la40 _ _ _ _ ?_
  cases hb : s.1
  · rw [hf hb]
    rw [st_f (s := s) hb] at h
    exact ⟨fun z => absurd z nle1, fun _ => t_ro82 (s := (false, s.2)) (cl := cl) (vt := v) (v := vl n c s.2) hy hg hv hp (fun z => absurd z Bool.false_ne_true) (fun _ => rfl) h⟩
  · obtain ⟨rfl, a2, rfl⟩ := hs hb
    refine ⟨fun _ => t_figure (hg.tx hX) hg.2.2 hsn (by omega) (by omega) (fun z => ?_) (fun z => ?_), fun z => absurd (n_le (by omega)) z⟩
    · rw [st_t hb z] at h
      exact t_ro82 (s := (true, s.2 + 1)) (cl := cl) (vt := v) (v := vl n c s.2) hy (hg.mv _) (hv.fr (A := fun k => k ≠ 4) (fun k hk => sg_o hk) (fun k a b => by omega)) hp (fun _ => ⟨rfl, (fig_lt z).2.2, rfl, rfl⟩) (fun z => absurd z.symm Bool.false_ne_true) h
    · rw [st_n z] at h
      exact t_ro82 (s := (false, s.2)) (cl := cl) (vt := v) (v := vl n c s.2) hy hg hv hp (fun z => absurd z Bool.false_ne_true) (fun _ => rfl) h
theorem t_readOne {s : Bool × Nat} (hX : Tx y n c S) (hsn : s.2 ≤ n) (hst : s.1 = true) (hg : G4 S T s.2) (hv : LV T 40 m) (hp : m 7 < 6) (hc : 1 ≤ m 0 ∧ m 0 ≤ 9)
    (h : ∀ T' : Sg, G4 S T' (o3 n c s m).2 → T'.1 40 8 = nI (m 7) → ((o3 n c s m).1 = true → LV (u2 T'.1 40 8 (nI (m 7 + 1)), T'.2) 40 (oM n c s m)) → P (b2 (o3 n c s m).1) T') :
    Ct G l mX2_readOne (d + 5) [.ref 4, .ref (14 + y), .ref 40] T (QI P) := by
  have hy := hX.1
  have hra : RowAt (14 + y) := by unfold RowAt; omega
  have e0 : o0 n c s m = (s.1 && decide (knd (ch n c s.2) < 6 ∧ m 7 < 6), nx (s.1 && decide (knd (ch n c s.2) < 6 ∧ m 7 < 6)) s.2) := rfl
  have e1 : o1 n c s m = st n c (o0 n c s m) 0 (m 0 - 1) := rfl
  have e2 : o2 n c s m = st n c (o1 n c s m) 0 9 := rfl
  have e3 : o3 n c s m = st n c (o2 n c s m) 0 7 := rfl
  have hk := knd_le (ch n c s.2)
  refine bX2_readOne_0 (14 + y) hra 40 la40 (t_here (hg.tx hX) hg.2.2 hsn (fun x ex => t_kindOf ex ?_))
  rw [hv.p]
  by_cases q : knd (ch n c s.2) = 6
  · rw [if_pos q]
    have e0' : o0 n c s m = (false, s.2) := by
      rw [e0, decide_eq_false (by omega), Bool.and_false]
      rfl
    have e1' : o1 n c s m = (false, s.2) := by
      rw [e1, e0']
      exact st_f rfl
    have e2' : o2 n c s m = (false, s.2) := by
      rw [e2, e1']
      exact st_f rfl
    have e3' : o3 n c s m = (false, s.2) := by
      rw [e3, e2']
      exact st_f rfl
    rw [e3'] at h
    exact ⟨fun z => absurd z nle1, fun _ => h T hg hv.p (fun z => absurd z Bool.false_ne_true)⟩
  · rw [if_neg q]
    have e0' : o0 n c s m = (true, s.2 + 1) := by
      rw [e0, hst, decide_eq_true (by omega)]
      rfl
    refine ⟨fun _ S1 eS => ?_, fun z => absurd (n_le (by omega)) z⟩
    have hgA : G4 S S1 (o0 n c s m).2 := by
      rw [eS, hg.2.2, z_add, e0']
      exact hg.mv _
    have hvA : LV S1 40 m := hv.fr (A := fun k => k ≠ 4) (fun k hk => by rw [eS]; exact sg_o hk) (fun k a b => by omega)
    rw [hvA.c, z_sub hc.1]
    refine t_figure (hgA.tx hX) hgA.2.2 (o0_le hsn) (Nat.zero_le _) (by omega) (fun w => ?_) (fun w => ?_)
    · have e1' : o1 n c s m = (true, (o0 n c s m).2 + 1) := by
        rw [e1]
        exact st_t (by rw [e0']) w
      have hgB : G4 S (u2 S1.1 4 0 (nI ((o0 n c s m).2 + 1)), S1.2) (o1 n c s m).2 := by
        rw [e1']
        exact hgA.mv _
      have hvB : LV (u2 S1.1 4 0 (nI ((o0 n c s m).2 + 1)), S1.2) 40 m := hvA.fr (A := fun k => k ≠ 4) (fun k hk => sg_o hk) (fun k a b => by omega)
      have hw := (fig_lt w).2.2
      refine ⟨fun _ => t_figure (hgB.tx hX) hgB.2.2 (st_le (o0_le hsn)) (by omega) (by omega) (fun w2 => ?_) (fun w2 => ?_), fun z => absurd (n_le (by omega)) z⟩
      · have e2' : o2 n c s m = (true, (o1 n c s m).2 + 1) := by
          rw [e2]
          exact st_t (by rw [e1']) w2
        exact t_ro63 (s := o2 n c s m) (cl := vl n c (o0 n c s m).2) (v := vl n c (o1 n c s m).2) hX (st_le (st_le (o0_le hsn))) (by rw [e2']; exact hgB.mv _) (hvB.fr (A := fun k => k ≠ 4) (fun k hk => sg_o hk) (fun k a b => by omega)) hp (fun _ => ⟨rfl, (fig_lt w2).2.2, rfl⟩) (fun z => absurd z.symm (by rw [e2']; exact Bool.false_ne_true)) h
      · have e2' : o2 n c s m = (false, (o1 n c s m).2) := by
          rw [e2]
          exact st_n w2
        exact t_ro63 (s := o2 n c s m) (cl := vl n c (o0 n c s m).2) (v := vl n c (o1 n c s m).2) hX (st_le (st_le (o0_le hsn))) (by rw [e2']; exact hgB) hvB hp (fun z => absurd z (by rw [e2']; exact Bool.false_ne_true)) (fun _ => rfl) h
    · have e1' : o1 n c s m = (false, (o0 n c s m).2) := by
        rw [e1]
        exact st_n w
      have e2' : o2 n c s m = (false, (o0 n c s m).2) := by
        rw [e2, e1']
        exact st_f rfl
      exact ⟨fun z => absurd z nle1, fun _ => t_ro63 (s := o2 n c s m) (cl := vl n c (o0 n c s m).2) (v := vl n c (o1 n c s m).2) hX (st_le (st_le (o0_le hsn))) (by rw [e2']; exact hgA) hvA hp (fun z => absurd z (by rw [e2']; exact Bool.false_ne_true)) (fun _ => rfl) h⟩
/-- what holds of a LAND while it is read -/
def JV (m : Nat → Nat) : Prop := (m 0 ≤ 9 ∧ 3 ≤ m 0 ∧ m 1 ≤ m 2 ∧ m 2 ≤ m 0 ∧ m 3 ≤ 7 ∧ m 4 ≤ 7 ∧ m 5 ≤ m 6 ∧ m 6 ≤ m 0 ∧ m 7 ≤ 6 ∧ m 8 = 0 ∧ m 9 = 0) ∧ ∀ i, i < 6 → IVp m i
theorem JV.iv (h : JV m) (hp : 0 < m 7) : IV m := by
  obtain ⟨⟨a0, a1, a2, a3, a4, a5, a6, a7, a8, a9, a10⟩, hI⟩ := h
  exact ⟨⟨a0, a2, a3, a4, a5, a6, a7, a8, by omega, by omega, by omega, by omega⟩, hI⟩
theorem oM_JV {s : Bool × Nat} (h : JV m) (ho : (o3 n c s m).1 = true) : JV (oM n c s m) ∧ m 7 < 6 := by
  obtain ⟨p2, -, v3⟩ := st_1 ho
  obtain ⟨p1, -, v2⟩ := st_1 p2
  obtain ⟨p0, -, v1⟩ := st_1 p1
  have p0 : (s.1 && decide (knd (ch n c s.2) < 6 ∧ m 7 < 6)) = true := p0
  rw [Bool.and_eq_true] at p0
  obtain ⟨k1, k2⟩ := of_decide_eq_true p0.2
  obtain ⟨⟨a0, a1, a2, a3, a4, a5, a6, a7, a8, a9, a10⟩, hI⟩ := h
  refine ⟨⟨?_, fun i hi => ?_⟩, k2⟩
  · unfold oM
    rw [ad_7, ad_o (by omega), ad_o (by omega), ad_o (by omega), ad_o (by omega), ad_o (by omega), ad_o (by omega), ad_o (by omega), ad_o (by omega), ad_o (by omega)]
    omega
  · unfold IVp oM
    by_cases q : i = m 7
    · subst q
      rw [ad_0, ad_1, ad_2, ad_3, ad_4, ad_7, ad_o (by omega)]
      omega
    · rw [ad_o (by omega), ad_o (by omega), ad_o (by omega), ad_o (by omega), ad_o (by omega), ad_7, ad_o (by omega)]
      obtain ⟨b0, b1, b2, b3, b4, b5⟩ := hI i hi
      exact ⟨b0, b1, b2, b3, b4, fun z => b5 (by omega)⟩
/-- the PEOPLE, one after another -/
def pls (n : Nat) (c : Nat → Int32) : Nat → (Bool × Nat) → (Nat → Nat) → (Bool × Nat) × (Nat → Nat)
  | 0, s, m => (s, m)
  | f + 1, s, m => if s.2 < n then (if (o3 n c s m).1 = true then pls n c f (true, sk n c 61 (o3 n c s m).2) (oM n c s m) else (o3 n c s m, m)) else ((decide (0 < m 7), s.2), m)
theorem t_people : ∀ (f : Nat) (s : Bool × Nat) (m : Nat → Nat), s.1 = true → m 7 + f = 7 → s.2 ≤ n → ∀ T : Sg, Tx y n c S → G4 S T s.2 → LV T 40 m → JV m →
    (∀ T' : Sg, G4 S T' (pls n c f s m).1.2 → ((pls n c f s m).1.1 = true → LV T' 40 (pls n c f s m).2) → P (b2 (pls n c f s m).1.1) T') →
    Ev G l mX2_readPeople (d + 6) 5 [some (.ref 4), some (.ref (14 + y)), some (.ref 40)] [] T (QI P) := by
  intro f
  induction f with
  | zero =>
    intro s m hst hf hsn T hX hg hv hJ h
    have := hJ.1.2.2.2.2.2.2.2.2.1
    omega
  | succ f ih =>
    intro s m hst hf hsn T hX hg hv hJ h
    have hy := hX.1
    have hn := hX.2.1
    have hra : RowAt (14 + y) := by unfold RowAt; omega
    have hXT := hg.tx hX
    have h7 := hJ.1.2.2.2.2.2.2.2.2.1
    unfold pls at h
    have K54 : (m 7 = 6 ∨ n ≤ s.2) → Ev G l mX2_readPeople (d + 6) 54 [some (.ref 4), some (.ref (14 + y)), some (.ref 40)] [] T (QI P) := by
      intro hor
      refine bX2_readPeople_54 (14 + y) hra 40 la40 (fun x ex => ?_)
      rw [hv.p, hg.2.2, hXT.2.2.1] at ex
      simp (disch := omega) only [z_lt, z_le] at ex
      by_cases q : s.2 < n
      · rw [if_pos q] at h
        have e0' : o0 n c s m = (false, s.2) := by
          unfold o0
          rw [decide_eq_false (by omega), Bool.and_false]
          rfl
        have e3' : o3 n c s m = (false, s.2) := by
          unfold o3 o2 o1
          rw [e0', st_f rfl, st_f rfl, st_f rfl]
        rw [e3', if_neg (by exact Bool.false_ne_true)] at h
        rw [if_neg (by omega), if_pos q] at ex
        rw [ex]
        exact h T hg (fun z => absurd z Bool.false_ne_true)
      · rw [if_neg q] at h
        by_cases q0 : 0 < m 7
        · rw [if_neg (by omega), if_neg q] at ex
          rw [decide_eq_true q0] at h
          rw [ex]
          exact h T hg (fun _ => hv)
        · rw [if_pos (by omega)] at ex
          rw [decide_eq_false q0] at h
          rw [ex]
          exact h T hg (fun z => absurd z Bool.false_ne_true)
    refine bX2_readPeople_5 (14 + y) hra 40 la40 ⟨fun z => ?_, fun z => ⟨fun z2 => ?_, fun z2 => ?_⟩⟩
    · rw [hv.p, z_le (by omega) (by omega)] at z
      exact K54 (by omega)
    · rw [hXT.2.2.1, hg.2.2, z_le (by omega) (by omega)] at z2
      exact K54 (by omega)
    · rw [hv.p, z_le (by omega) (by omega)] at z
      rw [hXT.2.2.1, hg.2.2, z_le (by omega) (by omega)] at z2
      rw [if_pos (by omega)] at h
      refine t_readOne hX hsn hst hg hv (by omega) (by have := hJ.1; omega) (fun T' t1 t2 t3 => ?_)
      cases ho : (o3 n c s m).1
      · rw [if_neg (by rw [ho]; exact Bool.false_ne_true), ho] at h
        exact ⟨fun z => absurd rfl z, fun _ => h T' t1 (fun z => absurd z Bool.false_ne_true)⟩
      · rw [if_pos ho] at h
        refine ⟨fun _ S1 eS => ?_, fun z => absurd z (by decide)⟩
        have t3 := t3 ho
        rw [t2, z_add] at eS
        rw [← eS] at t3
        have hg1 : G4 S S1 (o3 n c s m).2 := by
          rw [eS]
          exact t1.put (by omega)
        have hle := sk_le (n := n) (c := c) 61 _ (o3_le (m := m) (c := c) hsn)
        refine t_skip (hg1.tx hX) hg1.2.2 (o3_le hsn) ?_
        exact ih (true, sk n c 61 (o3 n c s m).2) (oM n c s m) rfl (by unfold oM; rw [ad_7]; omega) hle _ hX (hg1.mv _) (t3.fr (A := fun k => k ≠ 4) (fun k hk => sg_o hk) (fun k a b => by omega)) (oM_JV hJ ho).1 h
theorem hM_JV (h : (h5 n c).1 = true) : JV (hM n c) := by
  obtain ⟨p4, -, v5⟩ := st_1 h
  obtain ⟨p3, -, v4⟩ := st_1 p4
  obtain ⟨p2, w3, v3⟩ := st_1 p3
  obtain ⟨p1, w2, v2⟩ := st_1 p2
  obtain ⟨p0, w1, v1⟩ := st_1 p1
  refine ⟨⟨v1, w1, w3, v3, v4, v5, w3, v3, Nat.zero_le _, rfl, rfl⟩, fun i hi => ?_⟩
  have e : ∀ k, 10 ≤ k → hM n c k = 0 := fun k hk => by
    unfold hM hdM
    rw [if_neg (by omega), if_neg (by omega), if_neg (by omega), if_neg (by omega), if_neg (by omega), if_neg (by omega), if_neg (by omega)]
  unfold IVp
  rw [e _ (by omega), e _ (by omega), e _ (by omega), e _ (by omega), e _ (by omega), show hM n c 7 = 0 from rfl]
  omega
/-- what is read off a TEXT -/
def rdr (n : Nat) (c : Nat → Int32) : (Bool × Nat) × (Nat → Nat) := if (h5 n c).1 = true then pls n c 7 (true, sk n c 61 (h5 n c).2) (hM n c) else (h5 n c, hM n c)
theorem pls_JV : ∀ (f : Nat) (s : Bool × Nat) (m : Nat → Nat), m 7 + f = 7 → JV m → (pls n c f s m).1.1 = true → JV (pls n c f s m).2 ∧ 0 < (pls n c f s m).2 7 := by
  intro f
  induction f with
  | zero =>
    intro s m hf hJ h
    have := hJ.1.2.2.2.2.2.2.2.2.1
    omega
  | succ f ih =>
    intro s m hf hJ h
    unfold pls at h ⊢
    by_cases q : s.2 < n
    · rw [if_pos q] at h ⊢
      by_cases q2 : (o3 n c s m).1 = true
      · rw [if_pos q2] at h ⊢
        exact ih _ _ (by unfold oM; rw [ad_7]; omega) (oM_JV hJ q2).1 h
      · rw [if_neg q2] at h
        exact absurd h q2
    · rw [if_neg q] at h ⊢
      exact ⟨hJ, of_decide_eq_true h⟩
theorem rdr_JV (h : (rdr n c).1.1 = true) : JV (rdr n c).2 ∧ 0 < (rdr n c).2 7 := by
  unfold rdr at h ⊢
  by_cases q : (h5 n c).1 = true
  · rw [if_pos q] at h ⊢
    exact pls_JV 7 _ _ rfl (hM_JV q) h
  · rw [if_neg q] at h
    exact absurd h q
theorem t_read (hX : Tx y n c S) (h : ∀ T' : Sg, G4 S T' (rdr n c).1.2 → ((rdr n c).1.1 = true → LV T' 40 (rdr n c).2) → P (b2 (rdr n c).1.1) T') : Ct G l mX2_read (d + 8) [.ref 4, .ref (14 + y), .ref 40] S (QI P) := by
  have hy := hX.1
  have hra : RowAt (14 + y) := by unfold RowAt; omega
  refine bX2_read_0 (14 + y) hra 40 la40 (fun S1 e1 => ?_)
  have hg0 : G4 S S1 0 := by
    rw [e1]
    exact ⟨fun k h1 h2 => sg_o h1, rfl, sg_s⟩
  have hX1 := hg0.tx hX
  have h5n : (h5 n c).2 ≤ n := st_le (st_le (st_le (st_le (st_le h0_le))))
  refine t_readSides hX1 hg0.2.2 (fun T a1 a2 => ?_)
  have hgT : G4 S T (h5 n c).2 := ⟨fun k h1 h2 => (a1.1 k h1 h2).trans (hg0.1 k h1 h2), a1.2.1.trans hg0.2.1, a1.2.2⟩
  unfold rdr at h
  cases hb : (h5 n c).1
  · rw [if_neg (by rw [hb]; exact Bool.false_ne_true), hb] at h
    exact ⟨fun _ => h T hgT (fun z => absurd z Bool.false_ne_true), fun z => absurd rfl z⟩
  · rw [if_pos hb] at h
    have hle := sk_le (n := n) (c := c) 61 _ h5n
    refine ⟨fun z => absurd z (by decide), fun _ => bX2_readPeople_0 (14 + y) hra 40 la40 (t_skip (hgT.tx hX) hgT.2.2 h5n ?_)⟩
    refine t_people 7 (true, sk n c 61 (h5 n c).2) (hM n c) rfl rfl hle _ hX (hgT.mv _) ((a2 hb).fr (A := fun k => k ≠ 4) (fun k hk => sg_o hk) (fun k a b => by omega)) (hM_JV hb) (fun T' t1 t2 x ex => ?_)
    rw [b2c] at ex
    rw [ex]
    exact h T' t1 t2
end people
