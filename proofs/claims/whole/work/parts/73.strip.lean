/-! the class's constructor -/
def RwF (D : Nv) (F : Fw) (p base N len t : Nat) : Prop := (F p).2 = ra D 2 N (fun j => if j < t then some (F (base + 2 * j)).1 else none) ∧ ∀ j, j < t → (F (base + 2 * j)).2 = ob 3 (fun i => if i = 0 then .ref (F (base + 2 * j + 1)).1 else .int (-1)) ∧ (F (base + 2 * j + 1)).2 = ia D len (fun _ => 0)
def KpF (D : Nv) (F : Fw) (p base N t : Nat) : Prop := (F p).2 = ra D 3 N (fun j => if j < t then some (F (base + 12 * j)).1 else none) ∧ ∀ j, j < t → LdF D F (base + 12 * j) (base + 12 * j + 1)
theorem ra_ext {D : Nv} {t N : Nat} {r r' : Nat → Option Nat} (h : ∀ j, r j = r' j) : ra D t N r = ra D t N r' := congrArg _ (funext h)
theorem RwF.zero {D : Nv} {F : Fw} {p base N len : Nat} (h : (F p).2 = ra D 2 N (fun _ => none)) : RwF D F p base N len 0 := ⟨h.trans (ra_ext fun j => (if_neg (Nat.not_lt_zero j)).symm), fun j hj => absurd hj (Nat.not_lt_zero j)⟩
theorem KpF.zero {D : Nv} {F : Fw} {p base N : Nat} (h : (F p).2 = ra D 3 N (fun _ => none)) : KpF D F p base N 0 := ⟨h.trans (ra_ext fun j => (if_neg (Nat.not_lt_zero j)).symm), fun j hj => absurd hj (Nat.not_lt_zero j)⟩
theorem RwF.mv {D : Nv} {F F' : Fw} {p base N len t : Nat} (h : RwF D F p base N len t) (hp : F' p = F p) (hb : ∀ j, base ≤ j → j < base + 2 * t → F' j = F j) : RwF D F' p base N len t := by
  refine ⟨?_, fun j hj => ?_⟩
  · rw [hp, h.1]
    refine ra_ext fun j => ?_
    by_cases q : j < t
    · rw [if_pos q, if_pos q, hb (base + 2 * j) (by omega) (by omega)]
    · rw [if_neg q, if_neg q]
  · rw [hb (base + 2 * j) (by omega) (by omega), hb (base + 2 * j + 1) (by omega) (by omega)]
    exact h.2 j hj
theorem RwF.next {D : Nv} {F F3 : Fw} {p base N len t n q q' pa : Nat} (h : RwF D F p base N len t) (hn : n = base + 2 * t) (hp : p < base) (h3 : F3 p = (pa, ra D 2 N (va_up (fun j => if j < t then some (F (base + 2 * j)).1 else none) t (some q)))) (h4 : F3 n = (q, ob 3 (fun j => if j = 0 then .ref q' else .int (-1)))) (h5 : F3 (n + 1) = (q', ia D len (fun _ => 0))) (ho : ∀ j, j < n → j ≠ p → F3 j = F j) : RwF D F3 p base N len (t + 1) := by
  refine ⟨?_, fun j hj => ?_⟩
  · rw [h3]
    refine ra_ext fun j => ?_
    unfold va_up
    by_cases e : j = t
    · subst e
      rw [if_pos rfl, if_pos (by omega), ← hn, h4]
    · rw [if_neg e]
      show (if j < t then some (F (base + 2 * j)).1 else none) = _
      by_cases e2 : j < t
      · rw [if_pos e2, if_pos (by omega), ho (base + 2 * j) (by omega) (by omega)]
      · rw [if_neg e2, if_neg (by omega)]
  · by_cases e : j = t
    · subst e
      rw [← hn, h4, h5]
      exact ⟨rfl, rfl⟩
    · rw [ho (base + 2 * j) (by omega) (by omega), ho (base + 2 * j + 1) (by omega) (by omega)]
      exact h.2 j (by omega)
theorem KpF.next {D : Nv} {F F3 : Fw} {p base N t n q pa : Nat} (h : KpF D F p base N t) (hn : n = base + 12 * t) (hp : p < base) (h3 : F3 p = (pa, ra D 3 N (va_up (fun j => if j < t then some (F (base + 12 * j)).1 else none) t (some q)))) (h4 : (F3 n).1 = q) (h5 : LdF D F3 n (n + 1)) (ho : ∀ j, j < n → j ≠ p → F3 j = F j) : KpF D F3 p base N (t + 1) := by
  refine ⟨?_, fun j hj => ?_⟩
  · rw [h3]
    refine ra_ext fun j => ?_
    unfold va_up
    by_cases e : j = t
    · subst e
      rw [if_pos rfl, if_pos (by omega), ← hn, h4]
    · rw [if_neg e]
      show (if j < t then some (F (base + 12 * j)).1 else none) = _
      by_cases e2 : j < t
      · rw [if_pos e2, if_pos (by omega), ho (base + 12 * j) (by omega) (by omega)]
      · rw [if_neg e2, if_neg (by omega)]
  · by_cases e : j = t
    · subst e
      rw [← hn]
      exact h5
    · exact (h.2 j (by omega)).mv (ho _ (by omega) (by omega)) (fun a h1 h2 => ho a (by omega) (by omega))

theorem c_X4_a {D : Nv} {l : Launch} {d i0 p base x k sl : Nat} {f : Fw} {G : Nat → Value} {E : En} (hd : 0 < d) (hi0 : i0 < base) (hp : p < base) (hne : p ≠ i0) (hf : f i0 = (x, ob 4 G)) (hG : G 0 = .ref (f p).1) (kk : ∀ F : Fw, RwF D F p base 6 40 6 → (F p).1 = (f p).1 → (∀ j, j < base → j ≠ p → F j = f j) → Ek D l mX4_init d 129 [some (.ref x), some (.int (nI 6))] [] (base + 12) F k sl E) : ∀ (r t n : Nat) (F : Fw), t + r = 6 → n = base + 2 * t → RwF D F p base 6 40 t → (F p).1 = (f p).1 → (∀ j, j < base → j ≠ p → F j = f j) → Ek D l mX4_init d 100 [some (.ref x), some (.int (nI t))] [] n F (k + 2 * r) (sl + 42 * r) E := by
  intro r
  induction r with
  | zero =>
    intro t n F ht hn hR hF hO
    obtain rfl : t = 6 := by omega
    subst hn
    refine k_iload dX4_init_100 rfl rfl ?_
    refine k_bipush (v := nI 6) dX4_init_101 (by decide +kernel) ?_
    refine k_icmp_ge (tgt := 129) dX4_init_103 (by decide) ⟨fun _ => kk F hR hF hO, fun z => ?_⟩
    exact absurd ((z_le (by omega) (by omega)).mpr (Nat.le_refl _)) z
  | succ r ih =>
    intro t n F ht hn hR hF hO
    rw [show k + 2 * (r + 1) = (k + 2 * r + 1) + 1 by omega, show sl + 42 * (r + 1) = ((sl + 42 * r) + 40) + 2 by omega]
    refine k_iload dX4_init_100 rfl rfl ?_
    refine k_bipush (v := nI 6) dX4_init_101 (by decide +kernel) ?_
    refine k_icmp_ge (tgt := 129) dX4_init_103 (by decide) ⟨fun z => ?_, fun _ => ?_⟩
    · have := (z_le (by omega) (by omega)).mp z
      omega
    refine k_aload dX4_init_106 rfl rfl ?_
    refine k_get flX4_11 dX4_init_107 (i0 := i0) (by omega) ((hO i0 hi0 (Ne.symm hne)).trans hf) (by decide) (by decide) hG ?_
    refine k_iload dX4_init_110 rfl rfl ?_
    refine k_new (c := 3) (k := k + 2 * r + 1) (sl := sl + 42 * r + 40) (by decide) nwX4_9 dX4_init_111 ?_
    intro q
    refine k_dup dX4_init_114 rfl ?_
    refine k_bipush (v := nI 40) dX4_init_115 (by decide +kernel) ?_
    refine k_newa (idx := 0) (N := 40) (k := k + 2 * r) (sl := sl + 42 * r) dX4_init_117 wAI rfl (by omega) ?_
    intro q'
    refine k_call (k := k + 2 * r) (sl := sl + 42 * r) (k2 := 0) (s2 := 0) (d2 := 0) (as := [.ref q']) (st := [.ref q, .int (nI t), .ref (f p).1]) ciX4_60 dX4_init_119 rfl okX3_init hd (Nat.le_of_ble_eq_true rfl) rfl (c_X3 (i0 := n) (y := q') (by omega) ((up_o (by omega)).trans up_s)) ?_
    rintro n' F2 ⟨rfl, hx, h2, hO2⟩
    have h2n : F2 n = (q, ob 3 (fun j => if j = 0 then .ref q' else .int (-1))) := Prod.ext hx h2
    have h2a : F2 (n + 1) = (q', ia D 40 (fun _ => 0)) := (hO2 (n + 1) (by omega) (by omega)).trans up_s
    have h2o : ∀ j, j < n → F2 j = F j := fun j hj => by rw [hO2 j (by omega) (by omega), up_o (by omega), up_o (by omega)]
    have hFp : F2 p = ((f p).1, ra D 2 6 (fun j => if j < t then some (F (base + 2 * j)).1 else none)) := (h2o p (by omega)).trans (Prod.ext hF hR.1)
    refine k_aast (i0 := p) (qk := n) (cc := 3) (t := 2) dX4_init_122 (by omega) hFp (by omega) h2n (by decide) rfl (ix_nI (n := t) (by omega) (by omega)) ?_
    refine k_iinc (y := nI 1) (ls' := [some (.ref x), some (.int (nI (t + 1)))]) dX4_init_123 rfl (by decide +kernel) (by decide) rfl (by rw [z_add]; rfl) ?_
    refine k_goto (tgt := 100) dX4_init_126 (by decide) ?_
    refine ih (t + 1) _ _ (by omega) (by omega) (hR.next hn hp up_s ((up_o (by omega)).trans h2n) ((up_o (by omega)).trans h2a) (fun j h1 h3 => (up_o h3).trans (h2o j h1))) (by rw [up_s]) (fun j h1 h3 => (up_o h3).trans ((h2o j (by omega)).trans (hO j h1 h3)))
theorem c_X4_b {D : Nv} {l : Launch} {d i0 p base x k sl : Nat} {f : Fw} {G : Nat → Value} {E : En} (hd : 0 < d) (hi0 : i0 < base) (hp : p < base) (hne : p ≠ i0) (hf : f i0 = (x, ob 4 G)) (hG : G 1 = .ref (f p).1) (kk : ∀ F : Fw, RwF D F p base 4 60 4 → (F p).1 = (f p).1 → (∀ j, j < base → j ≠ p → F j = f j) → Ek D l mX4_init d 159 [some (.ref x), some (.int (nI 4))] [] (base + 8) F k sl E) : ∀ (r t n : Nat) (F : Fw), t + r = 4 → n = base + 2 * t → RwF D F p base 4 60 t → (F p).1 = (f p).1 → (∀ j, j < base → j ≠ p → F j = f j) → Ek D l mX4_init d 131 [some (.ref x), some (.int (nI t))] [] n F (k + 2 * r) (sl + 62 * r) E := by
  intro r
  induction r with
  | zero =>
    intro t n F ht hn hR hF hO
    obtain rfl : t = 4 := by omega
    subst hn
    refine k_iload dX4_init_131 rfl rfl ?_
    refine k_iconst (v := nI 4) dX4_init_132 (by decide +kernel) ?_
    refine k_icmp_ge (tgt := 159) dX4_init_133 (by decide) ⟨fun _ => kk F hR hF hO, fun z => ?_⟩
    exact absurd ((z_le (by omega) (by omega)).mpr (Nat.le_refl _)) z
  | succ r ih =>
    intro t n F ht hn hR hF hO
    rw [show k + 2 * (r + 1) = (k + 2 * r + 1) + 1 by omega, show sl + 62 * (r + 1) = ((sl + 62 * r) + 60) + 2 by omega]
    refine k_iload dX4_init_131 rfl rfl ?_
    refine k_iconst (v := nI 4) dX4_init_132 (by decide +kernel) ?_
    refine k_icmp_ge (tgt := 159) dX4_init_133 (by decide) ⟨fun z => ?_, fun _ => ?_⟩
    · have := (z_le (by omega) (by omega)).mp z
      omega
    refine k_aload dX4_init_136 rfl rfl ?_
    refine k_get flX4_15 dX4_init_137 (i0 := i0) (by omega) ((hO i0 hi0 (Ne.symm hne)).trans hf) (by decide) (by decide) hG ?_
    refine k_iload dX4_init_140 rfl rfl ?_
    refine k_new (c := 3) (k := k + 2 * r + 1) (sl := sl + 62 * r + 60) (by decide) nwX4_9 dX4_init_141 ?_
    intro q
    refine k_dup dX4_init_144 rfl ?_
    refine k_bipush (v := nI 60) dX4_init_145 (by decide +kernel) ?_
    refine k_newa (idx := 0) (N := 60) (k := k + 2 * r) (sl := sl + 62 * r) dX4_init_147 wAI rfl (by omega) ?_
    intro q'
    refine k_call (k := k + 2 * r) (sl := sl + 62 * r) (k2 := 0) (s2 := 0) (d2 := 0) (as := [.ref q']) (st := [.ref q, .int (nI t), .ref (f p).1]) ciX4_60 dX4_init_149 rfl okX3_init hd (Nat.le_of_ble_eq_true rfl) rfl (c_X3 (i0 := n) (y := q') (by omega) ((up_o (by omega)).trans up_s)) ?_
    rintro n' F2 ⟨rfl, hx, h2, hO2⟩
    have h2n : F2 n = (q, ob 3 (fun j => if j = 0 then .ref q' else .int (-1))) := Prod.ext hx h2
    have h2a : F2 (n + 1) = (q', ia D 60 (fun _ => 0)) := (hO2 (n + 1) (by omega) (by omega)).trans up_s
    have h2o : ∀ j, j < n → F2 j = F j := fun j hj => by rw [hO2 j (by omega) (by omega), up_o (by omega), up_o (by omega)]
    have hFp : F2 p = ((f p).1, ra D 2 4 (fun j => if j < t then some (F (base + 2 * j)).1 else none)) := (h2o p (by omega)).trans (Prod.ext hF hR.1)
    refine k_aast (i0 := p) (qk := n) (cc := 3) (t := 2) dX4_init_152 (by omega) hFp (by omega) h2n (by decide) rfl (ix_nI (n := t) (by omega) (by omega)) ?_
    refine k_iinc (y := nI 1) (ls' := [some (.ref x), some (.int (nI (t + 1)))]) dX4_init_153 rfl (by decide +kernel) (by decide) rfl (by rw [z_add]; rfl) ?_
    refine k_goto (tgt := 131) dX4_init_156 (by decide) ?_
    refine ih (t + 1) _ _ (by omega) (by omega) (hR.next hn hp up_s ((up_o (by omega)).trans h2n) ((up_o (by omega)).trans h2a) (fun j h1 h3 => (up_o h3).trans (h2o j h1))) (by rw [up_s]) (fun j h1 h3 => (up_o h3).trans ((h2o j (by omega)).trans (hO j h1 h3)))
theorem c_X4_c {D : Nv} {l : Launch} {d i0 p base x k sl : Nat} {f : Fw} {G : Nat → Value} {E : En} (hd : 1 < d) (hi0 : i0 < base) (hp : p < base) (hne : p ≠ i0) (hf : f i0 = (x, ob 4 G)) (hG : G 3 = .ref (f p).1) (kk : ∀ F : Fw, KpF D F p base 3 3 → (F p).1 = (f p).1 → (∀ j, j < base → j ≠ p → F j = f j) → Ek D l mX4_init d 185 [some (.ref x), some (.int (nI 3))] [] (base + 36) F k sl E) : ∀ (r t n : Nat) (F : Fw), t + r = 3 → n = base + 12 * t → KpF D F p base 3 t → (F p).1 = (f p).1 → (∀ j, j < base → j ≠ p → F j = f j) → Ek D l mX4_init d 161 [some (.ref x), some (.int (nI t))] [] n F (k + 12 * r) (sl + 251 * r) E := by
  intro r
  induction r with
  | zero =>
    intro t n F ht hn hR hF hO
    obtain rfl : t = 3 := by omega
    subst hn
    refine k_iload dX4_init_161 rfl rfl ?_
    refine k_iconst (v := nI 3) dX4_init_162 (by decide +kernel) ?_
    refine k_icmp_ge (tgt := 185) dX4_init_163 (by decide) ⟨fun _ => kk F hR hF hO, fun z => ?_⟩
    exact absurd ((z_le (by omega) (by omega)).mpr (Nat.le_refl _)) z
  | succ r ih =>
    intro t n F ht hn hR hF hO
    rw [show k + 12 * (r + 1) = (k + 12 * r + 11) + 1 by omega, show sl + 251 * (r + 1) = ((sl + 251 * r) + 236) + 15 by omega]
    refine k_iload dX4_init_161 rfl rfl ?_
    refine k_iconst (v := nI 3) dX4_init_162 (by decide +kernel) ?_
    refine k_icmp_ge (tgt := 185) dX4_init_163 (by decide) ⟨fun z => ?_, fun _ => ?_⟩
    · have := (z_le (by omega) (by omega)).mp z
      omega
    refine k_aload dX4_init_166 rfl rfl ?_
    refine k_get flX4_25 dX4_init_167 (i0 := i0) (by omega) ((hO i0 hi0 (Ne.symm hne)).trans hf) (by decide) (by decide) hG ?_
    refine k_iload dX4_init_170 rfl rfl ?_
    refine k_new (c := 1) (k := k + 12 * r + 11) (sl := sl + 251 * r + 236) (by decide) nwX4_18 dX4_init_171 ?_
    intro q
    refine k_dup dX4_init_174 rfl ?_
    refine k_callN (k := k + 12 * r) (sl := sl + 251 * r) (k2 := 11) (s2 := 236) (d2 := 1) (as := []) (st := [.ref q, .int (nI t), .ref (f p).1]) ciX4_20 dX4_init_175 rfl okX1_init hd (Nat.le_of_ble_eq_true rfl) rfl (c_X1 (i0 := n) (by omega) up_s (by omega)) ?_
    rintro n' F2 ⟨rfl, hx, h2, hO2⟩
    have h2n : F2 n = (q, (F2 n).2) := Prod.ext hx rfl
    rw [h2.1] at h2n
    have h2o : ∀ j, j < n → F2 j = F j := fun j hj => by rw [hO2 j (by omega) (by omega), up_o (by omega)]
    have hFp : F2 p = ((f p).1, ra D 3 3 (fun j => if j < t then some (F (base + 12 * j)).1 else none)) := (h2o p (by omega)).trans (Prod.ext hF hR.1)
    refine k_aast (i0 := p) (qk := n) (cc := 1) (t := 3) dX4_init_178 (by omega) hFp (by omega) h2n (by decide) rfl (ix_nI (n := t) (by omega) (by omega)) ?_
    refine k_iinc (y := nI 1) (ls' := [some (.ref x), some (.int (nI (t + 1)))]) dX4_init_179 rfl (by decide +kernel) (by decide) rfl (by rw [z_add]; rfl) ?_
    refine k_goto (tgt := 161) dX4_init_182 (by decide) ?_
    refine ih (t + 1) _ _ (by omega) (by omega) (hR.next hn hp up_s (by rw [up_o (by omega)]; exact hx) (h2.mv (up_o (by omega)) (fun j h1 h3 => up_o (by omega))) (fun j h1 h3 => (up_o h3).trans (h2o j h1))) (by rw [up_s]) (fun j h1 h3 => (up_o h3).trans ((h2o j (by omega)).trans (hO j h1 h3)))
def tb4 (F : Fw) (b : Nat) : Nat → Value := fun j => if j < 2 then .ref (F (b + j)).1 else if j = 2 then .ref (F (b + 2)).1 else if j = 3 then .ref (F (b + 14)).1 else if j = 4 then .ref (F (b + 15)).1 else if j < 8 then .ref (F (b + (22 + j))).1 else if j < 10 then .int 0 else if j = 10 then .long 0 else .long 1
theorem tb4_mv {F F' : Fw} {b : Nat} (h : ∀ j, j < 30 → (F' (b + j)).1 = (F (b + j)).1) : tb4 F' b = tb4 F b := by
  funext j
  unfold tb4
  rw [h 2 (by omega), h 14 (by omega), h 15 (by omega)]
  by_cases q : j < 8
  · rw [h (22 + j) (by omega), h j (by omega)]
  · simp (disch := omega) only [if_neg]
def M0F (D : Nv) (F : Fw) (b : Nat) : Prop := (F b).2 = ra D 2 6 (fun _ => none) ∧ (F (b + 1)).2 = ra D 2 4 (fun _ => none) ∧ LdF D F (b + 2) (b + 3) ∧ (F (b + 14)).2 = ra D 3 3 (fun _ => none) ∧ LdF D F (b + 15) (b + 16) ∧ (F (b + 27)).2 = ob 2 (fun _ => .int 0) ∧ (F (b + 28)).2 = ia D 56 (fun _ => 0) ∧ (F (b + 29)).2 = ia D 6 (fun _ => 0)
def StF (D : Nv) (F : Fw) (i0 b : Nat) : Prop := (F i0).2 = ob 4 (tb4 F b) ∧ RwF D F b (b + 30) 6 40 6 ∧ RwF D F (b + 1) (b + 42) 4 60 4 ∧ LdF D F (b + 2) (b + 3) ∧ KpF D F (b + 14) (b + 50) 3 3 ∧ LdF D F (b + 15) (b + 16) ∧ (F (b + 27)).2 = ob 2 (fun _ => .int 0) ∧ (F (b + 28)).2 = ia D 56 (fun _ => 0) ∧ (F (b + 29)).2 = ia D 6 (fun _ => 0)
theorem c_X4_t {D : Nv} {l : Launch} {d i0 b x : Nat} {f : Fw} {Q : Nat → Fw → Prop} (hd : 1 < d) (hi0 : i0 < b) (hf : f i0 = (x, ob 4 (tb4 f b))) (hM : M0F D f b) (hQ : ∀ F : Fw, (F i0).1 = x → StF D F i0 b → (∀ j, j < b → j ≠ i0 → F j = f j) → Q (b + 86) F) : Ek D l mX4_init d 98 [some (.ref x), none] [] (b + 30) f 56 1253 (fun pc _ st n' f' => decode mX4_init.2.1 pc = .ok (.return_, 1) ∧ st = [] ∧ Q n' f') := by
  obtain ⟨m1, m2, m3, m4, m5, m6, m7, m8⟩ := hM
  refine k_iconst (v := nI 0) dX4_init_98 (by decide +kernel) ?_
  refine k_istore (ls' := [some (.ref x), some (.int (nI 0))]) dX4_init_99 rfl (by decide) rfl rfl ?_
  refine c_X4_a (i0 := i0) (p := b) (base := b + 30) (k := 44) (sl := 1001) (by omega) (by omega) (by omega) (by omega) hf rfl ?_ 6 0 _ _ rfl rfl (RwF.zero m1) rfl (fun _ _ _ => rfl)
  intro F1 r1 e1 o1
  refine k_iconst (v := nI 0) dX4_init_129 (by decide +kernel) ?_
  refine k_istore (ls' := [some (.ref x), some (.int (nI 0))]) dX4_init_130 rfl (by decide) rfl rfl ?_
  have f1 : F1 i0 = (x, ob 4 (tb4 f b)) := (o1 i0 (by omega) (by omega)).trans hf
  have a1 : ∀ j, j < 30 → (F1 (b + j)).1 = (f (b + j)).1 := fun j hj => by
    by_cases z : j = 0
    · subst z
      exact e1
    · rw [o1 (b + j) (by omega) (by omega)]
  refine c_X4_b (i0 := i0) (p := b + 1) (base := b + 42) (k := 36) (sl := 753) (by omega) (by omega) (by omega) (by omega) f1 ?_ ?_ 4 0 _ _ rfl rfl (RwF.zero (by rw [o1 _ (by omega) (by omega)]; exact m2)) rfl (fun _ _ _ => rfl)
  · show Value.ref (f (b + 1)).1 = _
    rw [a1 1 (by omega)]
  intro F2 r2 e2 o2
  refine k_iconst (v := nI 0) dX4_init_159 (by decide +kernel) ?_
  refine k_istore (ls' := [some (.ref x), some (.int (nI 0))]) dX4_init_160 rfl (by decide) rfl rfl ?_
  have f2 : F2 i0 = (x, ob 4 (tb4 f b)) := (o2 i0 (by omega) (by omega)).trans f1
  have a2 : ∀ j, j < 30 → (F2 (b + j)).1 = (f (b + j)).1 := fun j hj => by
    by_cases z : j = 1
    · subst z
      exact e2.trans (a1 1 (by omega))
    · rw [o2 (b + j) (by omega) (by omega)]
      exact a1 j hj
  refine c_X4_c (i0 := i0) (p := b + 14) (base := b + 50) (k := 0) (sl := 0) (by omega) (by omega) (by omega) (by omega) f2 ?_ ?_ 3 0 _ _ rfl rfl (KpF.zero (by rw [o2 _ (by omega) (by omega), o1 _ (by omega) (by omega)]; exact m4)) rfl (fun _ _ _ => rfl)
  · show Value.ref (f (b + 14)).1 = _
    rw [a2 14 (by omega)]
  intro F3 r3 e3 o3
  have f3 : F3 i0 = (x, ob 4 (tb4 f b)) := (o3 i0 (by omega) (by omega)).trans f2
  have a3 : ∀ j, j < 30 → (F3 (b + j)).1 = (f (b + j)).1 := fun j hj => by
    by_cases z : j = 14
    · subst z
      exact e3.trans (a2 14 (by omega))
    · rw [o3 (b + j) (by omega) (by omega)]
      exact a2 j hj
  have o : ∀ j, j < b + 30 → j ≠ b → j ≠ b + 1 → j ≠ b + 14 → F3 j = f j := fun j h1 h2 h3 h4 => by rw [o3 j (by omega) (by omega), o2 j (by omega) (by omega), o1 j (by omega) (by omega)]
  refine k_ret dX4_init_185 (hQ F3 (by rw [f3]) ⟨by rw [f3, tb4_mv a3], ?_, ?_, ?_, r3, ?_, ?_, ?_, ?_⟩ (fun j h1 h2 => o j (by omega) (by omega) (by omega) (by omega)))
  · refine r1.mv ?_ (fun j h1 h2 => ?_)
    · rw [o3 _ (by omega) (by omega), o2 _ (by omega) (by omega)]
    · rw [o3 _ (by omega) (by omega), o2 _ (by omega) (by omega)]
  · refine r2.mv ?_ (fun j h1 h2 => ?_)
    · rw [o3 _ (by omega) (by omega)]
    · rw [o3 _ (by omega) (by omega)]
  · exact m3.mv (o _ (by omega) (by omega) (by omega) (by omega)) (fun j h1 h2 => o _ (by omega) (by omega) (by omega) (by omega))
  · exact m5.mv (o _ (by omega) (by omega) (by omega) (by omega)) (fun j h1 h2 => o _ (by omega) (by omega) (by omega) (by omega))
  · rw [o _ (by omega) (by omega) (by omega) (by omega)]
    exact m6
  · rw [o _ (by omega) (by omega) (by omega) (by omega)]
    exact m7
  · rw [o _ (by omega) (by omega) (by omega) (by omega)]
    exact m8
theorem c_X4 {D : Nv} {l : Launch} {d n i0 x : Nat} {f : Fw} {g : Nat → Value} (hi0 : i0 < n) (hf : f i0 = (x, ob 4 g)) (hd : 1 < d) : Ck D l mX4_init d [.ref x] n f 86 1831 (fun n' F => n' = n + 86 ∧ (F i0).1 = x ∧ StF D F i0 n ∧ ∀ j, j < n → j ≠ i0 → F j = f j) := by
  show Ek D l mX4_init d 0 [some (.ref x), none] [] n f 86 1831 _
  refine k_aload dX4_init_0 rfl rfl ?_
  refine k_obj oiX4 dX4_init_1 ?_
  refine k_aload dX4_init_4 rfl rfl ?_
  refine k_bipush (v := nI 6) dX4_init_5 (by decide +kernel) ?_
  refine k_newq (N := 6) (t := 2) (k := 85) (sl := 1825) nqX4_9 dX4_init_7 rfl rfl (by omega) ?_
  intro q0
  refine k_putF flX4_11 dX4_init_10 (i0 := i0) (by omega) ((up_o (by omega)).trans hf) (by decide) (by decide) rfl rfl rfl rfl rfl ?_
  refine k_aload dX4_init_13 rfl rfl ?_
  refine k_iconst (v := nI 4) dX4_init_14 (by decide +kernel) ?_
  refine k_newq (N := 4) (t := 2) (k := 84) (sl := 1821) nqX4_9 dX4_init_15 rfl rfl (by omega) ?_
  intro q1
  refine k_putF flX4_15 dX4_init_18 (i0 := i0) (by omega) ((up_o (by omega)).trans up_s) (by decide) (by decide) rfl rfl rfl rfl rfl ?_
  refine k_aload dX4_init_21 rfl rfl ?_
  refine k_new (c := 1) (k := 83) (sl := 1806) (by decide) nwX4_18 dX4_init_22 ?_
  intro p0
  refine k_dup dX4_init_25 rfl ?_
  refine k_callN (k := 72) (sl := 1570) (k2 := 11) (s2 := 236) (d2 := 1) (as := []) (st := [.ref p0, .ref x]) ciX4_20 dX4_init_26 rfl okX1_init (by omega) (Nat.le_of_ble_eq_true rfl) rfl (c_X1 (i0 := n + 2) (by omega) up_s (by omega)) ?_
  rintro n0 F0 ⟨rfl, hx0, hL0, hO0⟩
  have hL0 : LdF D F0 (n + 2) (n + 3) := hL0
  refine k_putF flX4_21 dX4_init_29 (i0 := i0) (by omega) ((hO0 i0 (by omega) (by omega)).trans ((up_o (by omega)).trans up_s)) (by decide) (by decide) rfl rfl rfl rfl rfl ?_
  refine k_aload dX4_init_32 rfl rfl ?_
  refine k_iconst (v := nI 3) dX4_init_33 (by decide +kernel) ?_
  refine k_newq (N := 3) (t := 3) (k := 71) (sl := 1567) nqX4_18 dX4_init_34 rfl rfl (by omega) ?_
  intro q2
  refine k_putF flX4_25 dX4_init_37 (i0 := i0) (by omega) ((up_o (by omega)).trans up_s) (by decide) (by decide) rfl rfl rfl rfl rfl ?_
  refine k_aload dX4_init_40 rfl rfl ?_
  refine k_new (c := 1) (k := 70) (sl := 1552) (by decide) nwX4_18 dX4_init_41 ?_
  intro p1
  refine k_dup dX4_init_44 rfl ?_
  refine k_callN (k := 59) (sl := 1316) (k2 := 11) (s2 := 236) (d2 := 1) (as := []) (st := [.ref p1, .ref x]) ciX4_20 dX4_init_45 rfl okX1_init (by omega) (Nat.le_of_ble_eq_true rfl) rfl (c_X1 (i0 := n + 15) (by omega) up_s (by omega)) ?_
  rintro n1 F1 ⟨rfl, hx1, hL1, hO1⟩
  have hL1 : LdF D F1 (n + 15) (n + 16) := hL1
  refine k_putF flX4_29 dX4_init_48 (i0 := i0) (by omega) ((hO1 i0 (by omega) (by omega)).trans ((up_o (by omega)).trans up_s)) (by decide) (by decide) rfl rfl rfl rfl rfl ?_
  refine k_aload dX4_init_51 rfl rfl ?_
  refine k_new (c := 2) (k := 58) (sl := 1315) (by decide) nwX4_32 dX4_init_52 ?_
  intro p2
  refine k_dup dX4_init_55 rfl ?_
  refine k_callN (k := 58) (sl := 1315) (k2 := 0) (s2 := 0) (d2 := 0) (as := []) (st := [.ref p2, .ref x]) ciX4_34 dX4_init_56 rfl okX2_init (by omega) (Nat.le_of_ble_eq_true rfl) rfl (c_X2 (i0 := n + 27) (by omega) up_s) ?_
  rintro n2 F2 ⟨rfl, hx2, hL2, hO2⟩
  refine k_putF flX4_35 dX4_init_59 (i0 := i0) (by omega) ((hO2 i0 (by omega) (by omega)).trans ((up_o (by omega)).trans up_s)) (by decide) (by decide) rfl rfl rfl rfl rfl ?_
  refine k_aload dX4_init_62 rfl rfl ?_
  refine k_bipush (v := nI 56) dX4_init_63 (by decide +kernel) ?_
  refine k_newa (idx := 0) (N := 56) (k := 57) (sl := 1259) dX4_init_65 wAI rfl (by omega) ?_
  intro q3
  refine k_putF flX4_39 dX4_init_67 (i0 := i0) (by omega) ((up_o (by omega)).trans up_s) (by decide) (by decide) rfl rfl rfl rfl rfl ?_
  refine k_aload dX4_init_70 rfl rfl ?_
  refine k_bipush (v := nI 6) dX4_init_71 (by decide +kernel) ?_
  refine k_newa (idx := 0) (N := 6) (k := 56) (sl := 1253) dX4_init_73 wAI rfl (by omega) ?_
  intro q4
  refine k_putF flX4_43 dX4_init_75 (i0 := i0) (by omega) ((up_o (by omega)).trans up_s) (by decide) (by decide) rfl rfl rfl rfl rfl ?_
  refine k_aload dX4_init_78 rfl rfl ?_
  refine k_iconst (v := nI 0) dX4_init_79 (by decide +kernel) ?_
  refine k_put flX4_46 dX4_init_80 (i0 := i0) (by omega) up_s (by decide) (by decide) rfl rfl rfl ?_
  refine k_aload dX4_init_83 rfl rfl ?_
  refine k_iconst (v := nI 0) dX4_init_84 (by decide +kernel) ?_
  refine k_put flX4_50 dX4_init_85 (i0 := i0) (by omega) up_s (by decide) (by decide) rfl rfl rfl ?_
  refine k_aload dX4_init_88 rfl rfl ?_
  refine k_lconst (v := 0) dX4_init_89 (by decide +kernel) ?_
  refine k_put flX4_53 dX4_init_90 (i0 := i0) (by omega) up_s (by decide) (by decide) rfl rfl rfl ?_
  refine k_aload dX4_init_93 rfl rfl ?_
  refine k_lconst (v := 1) dX4_init_94 (by decide +kernel) ?_
  refine k_put flX4_57 dX4_init_95 (i0 := i0) (by omega) up_s (by decide) (by decide) rfl rfl rfl ?_
  refine c_X4_t (i0 := i0) (b := n) (x := x) hd hi0 ?_ ⟨?_, ?_, ?_, ?_, ?_, ?_, ?_, ?_⟩ (fun F h1 h2 h3 => ⟨rfl, h1, h2, fun j h4 h5 => (h3 j h4 h5).trans ?_⟩)
  · refine up_s.trans (Prod.ext rfl (ob_ext fun j hj => ?_))
    have hj : j < 12 := hj
    rcases (show j = 0 ∨ j = 1 ∨ j = 2 ∨ j = 3 ∨ j = 4 ∨ j = 5 ∨ j = 6 ∨ j = 7 ∨ j = 8 ∨ j = 9 ∨ j = 10 ∨ j = 11 by omega) with rfl | rfl | rfl | rfl | rfl | rfl | rfl | rfl | rfl | rfl | rfl | rfl <;> simp (disch := omega) [uv_e, uv_o, up_e, up_o, hO0, hO1, hO2, hx0, hx1, hx2, tb4, nI_z]
  · simp (disch := omega) [uv_e, uv_o, up_e, up_o, hO0, hO1, hO2, hx0, hx1, hx2]
  · simp (disch := omega) [uv_e, uv_o, up_e, up_o, hO0, hO1, hO2, hx0, hx1, hx2]
  · exact hL0.mv (by simp (disch := omega) only [up_e, up_o, hO0, hO1, hO2]) (fun j h1 h2 => by simp (disch := omega) only [up_e, up_o, hO0, hO1, hO2])
  · simp (disch := omega) [uv_e, uv_o, up_e, up_o, hO0, hO1, hO2, hx0, hx1, hx2]
  · exact hL1.mv (by simp (disch := omega) only [up_e, up_o, hO0, hO1, hO2]) (fun j h1 h2 => by simp (disch := omega) only [up_e, up_o, hO0, hO1, hO2])
  · simp (disch := omega) only [up_o]
    exact hL2
  · simp (disch := omega) [uv_e, uv_o, up_e, up_o, hO0, hO1, hO2, hx0, hx1, hx2]
  · simp (disch := omega) [uv_e, uv_o, up_e, up_o, hO0, hO1, hO2, hx0, hx1, hx2]
  · simp (disch := omega) only [up_e, up_o, hO0, hO1, hO2]
