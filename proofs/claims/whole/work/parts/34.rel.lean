/-! how the two sides' states go together -/
theorem u1_o (f : Nat → Nat → Int32) {k : Nat} {g : Nat → Int32} {a : Nat} (h : a ≠ k) : u1 f k g a = f a := by simp [u1, h]
theorem u1_s (f : Nat → Nat → Int32) {k : Nat} {g : Nat → Int32} : u1 f k g k = g := by simp [u1]
def HI (H : Nat → Nat → Nat) (n : Nat) : Prop := n ≤ 40 ∧ (∀ d, d ≤ n → IV (H d) ∧ H d 9 = d) ∧ ∀ d, d ≤ n → ∀ k, k < 40 → (k = 0 ∨ (3 ≤ k ∧ k ≤ 7) ∨ (10 ≤ k ∧ (k - 10) % 5 ≠ 1)) → H d k = H n k
def DD (S : Sg) (L : Nat) (H : Nat → Nat → Nat) (n d : Nat) : Prop :=
  S.1 (L + 7) d = nI (H (d + 1) 1) - nI (H d 1) ∧ S.1 (L + 8) d = nI (H (d + 1) 2) - nI (H d 2) ∧ S.1 (L + 9) d = nI (H (d + 1) 8) - nI (H d 8) ∧
  ∃ wk, wk < H n 7 ∧ S.1 (L + 10) d = nI wk ∧ S.1 (L + 11) d = nI (H (d + 1) (11 + 5 * wk)) - nI (H d (11 + 5 * wk)) ∧ ∀ i, i < H n 7 → i ≠ wk → H (d + 1) (11 + 5 * i) = H d (11 + 5 * i)
def DV (S : Sg) (L : Nat) (H : Nat → Nat → Nat) (n : Nat) : Prop := LV S L (H n) ∧ ∀ d, d < n → DD S L H n d
def MD (M : Nat → Int32) (H : Nat → Nat → Nat) (d : Nat) : Prop := M (40 + 9 * d) = nI (H d 1) ∧ M (41 + 9 * d) = nI (H d 2) ∧ M (42 + 9 * d) = nI (H d 8) ∧ ∀ i, i < 6 → M (43 + 9 * d + i) = nI (H d (11 + 5 * i))
def MH (M : Nat → Int32) (H : Nat → Nat → Nat) (n : Nat) : Prop := (∀ k, k < 40 → M k = nI (H n k)) ∧ ∀ d, d < n → MD M H d
def LR (S : Sg) (L : Nat) (M : Nat → Int32) (H : Nat → Nat → Nat) (n : Nat) : Prop := HI H n ∧ DV S L H n ∧ MH M H n
def RR (S : Sg) (x : Nat) : Prop := S.1 (8 + x) 1 = S.1 88 x ∧ (S.1 88 x = -1 ∨ ∃ n, n ≤ 40 ∧ S.1 88 x = nI n ∧ ∀ i, i < n → S.1 (18 + x) i = S.1 89 (40 * x + i))
def RT (S : Sg) (y : Nat) : Prop := S.1 (14 + y) 1 = S.1 91 y ∧ (S.1 91 y = -1 ∨ ∃ n, n ≤ 60 ∧ S.1 91 y = nI n ∧ ∀ i, i < n → S.1 (24 + y) i = S.1 92 (60 * y + i))
def RF (S : Sg) : Prop := S.1 0 8 = S.1 7 10 ∧ ∀ f, 1 ≤ f → f ≤ 5 → S.1 6 f = S.1 97 f
def RQ (S : Sg) : Prop := S.1 0 9 = S.1 7 11
def RL2 (S : Sg) : Prop := S.2 0 10 = S.2 7 12 ∧ S.2 0 11 = S.2 7 13
def RN (S : Sg) : Prop := ∃ H n, LR S 28 (S.1 93) H n
def RK (S : Sg) (k : Nat) : Prop := (S.1 96 k = nI 0 ∧ S.1 (52 + 12 * k) 0 = nI 0) ∨ (S.1 96 k = nI 1 ∧ ∃ H n, 0 < H n 0 ∧ LR S (52 + 12 * k) (fun j => S.1 95 (400 * k + j)) H n)
def R (S : Sg) : Prop := (∀ x, x < 6 → RR S x) ∧ (∀ y, y < 4 → RT S y) ∧ RF S ∧ RQ S ∧ RL2 S ∧ RN S ∧ ∀ k, k < 3 → RK S k
section fr
variable {S S' : Sg} {A : Nat → Prop}
theorem LV.fr {L : Nat} {m : Nat → Nat} (h : LV S L m) (E : ∀ k, A k → S'.1 k = S.1 k) (hA : ∀ k, L ≤ k → k < L + 12 → A k) : LV S' L m := by
  have e0 := E L (hA _ (by omega) (by omega))
  have e1 := E (L + 1) (hA _ (by omega) (by omega))
  have e2 := E (L + 2) (hA _ (by omega) (by omega))
  have e3 := E (L + 3) (hA _ (by omega) (by omega))
  have e4 := E (L + 4) (hA _ (by omega) (by omega))
  have e5 := E (L + 5) (hA _ (by omega) (by omega))
  have e6 := E (L + 6) (hA _ (by omega) (by omega))
  refine ⟨?_, fun i hi => ?_⟩
  · have := h.1
    unfold LVh at this ⊢
    rw [e0, e6]
    exact this
  · have := h.2 i hi
    unfold LVp at this ⊢
    rw [e1, e2, e3, e4, e5]
    exact this
theorem DV.fr {L : Nat} {H : Nat → Nat → Nat} {n : Nat} (h : DV S L H n) (E : ∀ k, A k → S'.1 k = S.1 k) (hA : ∀ k, L ≤ k → k < L + 12 → A k) : DV S' L H n := by
  refine ⟨h.1.fr E hA, fun d hd => ?_⟩
  have := h.2 d hd
  unfold DD at this ⊢
  rw [E (L + 7) (hA _ (by omega) (by omega)), E (L + 8) (hA _ (by omega) (by omega)), E (L + 9) (hA _ (by omega) (by omega)), E (L + 10) (hA _ (by omega) (by omega)), E (L + 11) (hA _ (by omega) (by omega))]
  exact this
theorem RR.fr {x : Nat} (h : RR S x) (E : ∀ k, A k → S'.1 k = S.1 k) (hA : A (8 + x) ∧ A (18 + x) ∧ A 88 ∧ A 89) : RR S' x := by
  unfold RR at h ⊢
  rw [E _ hA.1, E _ hA.2.1, E _ hA.2.2.1, E _ hA.2.2.2]
  exact h
theorem RT.fr {y : Nat} (h : RT S y) (E : ∀ k, A k → S'.1 k = S.1 k) (hA : A (14 + y) ∧ A (24 + y) ∧ A 91 ∧ A 92) : RT S' y := by
  unfold RT at h ⊢
  rw [E _ hA.1, E _ hA.2.1, E _ hA.2.2.1, E _ hA.2.2.2]
  exact h
theorem RN.fr (h : RN S) (E : ∀ k, A k → S'.1 k = S.1 k) (hA : (∀ k, 28 ≤ k → k < 40 → A k) ∧ A 93) : RN S' := by
  obtain ⟨H, n, h1, h2, h3⟩ := h
  refine ⟨H, n, h1, h2.fr E hA.1, ?_⟩
  rw [E _ hA.2]
  exact h3
theorem RK.fr {k : Nat} (h : RK S k) (E : ∀ k, A k → S'.1 k = S.1 k) (hA : (∀ j, 52 + 12 * k ≤ j → j < 52 + 12 * k + 12 → A j) ∧ A 95 ∧ A 96) : RK S' k := by
  rcases h with ⟨h1, h2⟩ | ⟨h1, H, n, h0, h2, h3, h4⟩
  · exact Or.inl ⟨by rw [E _ hA.2.2]; exact h1, by rw [E _ (hA.1 _ (by omega) (by omega))]; exact h2⟩
  · refine Or.inr ⟨by rw [E _ hA.2.2]; exact h1, H, n, h0, h2, h3.fr E hA.1, ?_⟩
    rw [E _ hA.2.1]
    exact h4
/-- only scratch places, and places 0, 6, 7, 97, have changed -/
theorem R.fr (h : R S) (E : ∀ k, (8 ≤ k ∧ k < 40) ∨ (52 ≤ k ∧ k < 90) ∨ (91 ≤ k ∧ k ≤ 93) ∨ k = 95 ∨ k = 96 → S'.1 k = S.1 k) (hF : RF S') (hQ : RQ S') (hL : RL2 S') : R S' :=
  ⟨fun x hx => (h.1 x hx).fr E (by omega), fun y hy => (h.2.1 y hy).fr E (by omega), hF, hQ, hL, h.2.2.2.2.2.1.fr E ⟨fun k h1 h2 => by omega, by omega⟩, fun k hk => (h.2.2.2.2.2.2 k hk).fr E ⟨fun j h1 h2 => by omega, by omega, by omega⟩⟩
end fr
section told
variable {S : Sg}
theorem R.nv (h : R S) : ∃ m, LV S 28 m ∧ MV S m ∧ IV m := by
  obtain ⟨H, n, h1, h2, h3⟩ := h.2.2.2.2.2.1
  exact ⟨H n, h2.1, h3.1, (h1.2.1 n (Nat.le_refl n)).1⟩
theorem R.asked (h : R S) (v : Int32) : R (u2 (u2 S.1 0 9 v) 7 11 v, S.2) := by
  refine h.fr (fun k hk => ?_) ?_ ?_ h.2.2.2.2.1
  · show u2 (u2 S.1 0 9 v) 7 11 v k = S.1 k
    rw [u2_o _ (by omega), u2_o _ (by omega)]
  · have := h.2.2.1
    refine ⟨?_, fun f h1 h2 => ?_⟩
    · show u2 (u2 S.1 0 9 v) 7 11 v 0 8 = u2 (u2 S.1 0 9 v) 7 11 v 7 10
      rw [u2_n _ (by omega), u2_o _ (by omega), u2_n _ (by omega), u2_o _ (by omega)]
      exact this.1
    · show u2 (u2 S.1 0 9 v) 7 11 v 6 f = u2 (u2 S.1 0 9 v) 7 11 v 97 f
      rw [u2_o _ (by omega), u2_o _ (by omega), u2_o _ (by omega), u2_o _ (by omega)]
      exact this.2 f h1 h2
  · show u2 (u2 S.1 0 9 v) 7 11 v 0 9 = u2 (u2 S.1 0 9 v) 7 11 v 7 11
    rw [u2_s, u2_o _ (by omega), u2_s]
/-- a finding on the one side, on the other -/
def fdD (S : Sg) (f : Nat) : Sg := (u2 (u2 S.1 0 8 (nI f)) 6 f (S.1 6 f + nI 1), S.2)
def fdM (S : Sg) (f : Nat) : Sg := (u2 (u2 S.1 7 10 (nI f)) 97 f (S.1 97 f + nI 1), S.2)
theorem R.found (h : R S) {f : Nat} (hf : 1 ≤ f ∧ f ≤ 5) : R (fdM (fdD S f) f) := by
  have e97 : (fdD S f).1 97 = S.1 97 := by
    show u2 (u2 S.1 0 8 (nI f)) 6 f (S.1 6 f + nI 1) 97 = _
    rw [u2_o _ (by omega), u2_o _ (by omega)]
  refine h.fr (fun k hk => ?_) ?_ ?_ h.2.2.2.2.1
  · show u2 (u2 (u2 (u2 S.1 0 8 (nI f)) 6 f (S.1 6 f + nI 1)) 7 10 (nI f)) 97 f ((fdD S f).1 97 f + nI 1) k = S.1 k
    rw [u2_o _ (by omega), u2_o _ (by omega), u2_o _ (by omega), u2_o _ (by omega)]
  · have := h.2.2.1
    refine ⟨?_, fun g h1 h2 => ?_⟩
    · show u2 (u2 (u2 (u2 S.1 0 8 (nI f)) 6 f (S.1 6 f + nI 1)) 7 10 (nI f)) 97 f ((fdD S f).1 97 f + nI 1) 0 8 = u2 (u2 (u2 (u2 S.1 0 8 (nI f)) 6 f (S.1 6 f + nI 1)) 7 10 (nI f)) 97 f ((fdD S f).1 97 f + nI 1) 7 10
      rw [u2_o _ (by omega), u2_o _ (by omega), u2_o _ (by omega), u2_s, u2_o _ (by omega), u2_s]
    · show u2 (u2 (u2 (u2 S.1 0 8 (nI f)) 6 f (S.1 6 f + nI 1)) 7 10 (nI f)) 97 f ((fdD S f).1 97 f + nI 1) 6 g = u2 (u2 (u2 (u2 S.1 0 8 (nI f)) 6 f (S.1 6 f + nI 1)) 7 10 (nI f)) 97 f ((fdD S f).1 97 f + nI 1) 97 g
      rw [u2_o _ (by omega), u2_o _ (by omega)]
      by_cases q : g = f
      · subst q
        rw [u2_s, u2_s, e97, this.2 g h1 h2]
      · rw [u2_n _ q, u2_n _ q, u2_o _ (by omega), u2_o _ (by omega), u2_o _ (by omega), u2_o _ (by omega)]
        exact this.2 g h1 h2
  · have := h.2.2.2.1
    show u2 (u2 (u2 (u2 S.1 0 8 (nI f)) 6 f (S.1 6 f + nI 1)) 7 10 (nI f)) 97 f ((fdD S f).1 97 f + nI 1) 0 9 = u2 (u2 (u2 (u2 S.1 0 8 (nI f)) 6 f (S.1 6 f + nI 1)) 7 10 (nI f)) 97 f ((fdD S f).1 97 f + nI 1) 7 11
    rw [u2_o _ (by omega), u2_o _ (by omega), u2_o _ (by omega), u2_n _ (by omega), u2_o _ (by omega), u2_n _ (by omega), u2_o _ (by omega), u2_o _ (by omega)]
    exact this
theorem R.longs (h : R S) (a b : Int64) : R (S.1, u2 (u2 (u2 (u2 S.2 0 10 a) 0 11 b) 7 12 a) 7 13 b) := by
  refine h.fr (fun k hk => rfl) h.2.2.1 h.2.2.2.1 ⟨?_, ?_⟩
  · show u2 (u2 (u2 (u2 S.2 0 10 a) 0 11 b) 7 12 a) 7 13 b 0 10 = u2 (u2 (u2 (u2 S.2 0 10 a) 0 11 b) 7 12 a) 7 13 b 7 12
    rw [u2_o _ (by omega), u2_o _ (by omega), u2_n _ (by omega), u2_s, u2_n _ (by omega), u2_s]
  · show u2 (u2 (u2 (u2 S.2 0 10 a) 0 11 b) 7 12 a) 7 13 b 0 11 = u2 (u2 (u2 (u2 S.2 0 10 a) 0 11 b) 7 12 a) 7 13 b 7 13
    rw [u2_o _ (by omega), u2_o _ (by omega), u2_s, u2_s]
end told
section basics
variable {G : Gl} {l : Launch} {d : Nat} {S : Sg} {P : Int32 → Sg → Prop}
theorem t_refuse {f : Nat} (hf : 1 ≤ f ∧ f ≤ 5) (h : P (-3) (fdD S f)) : Ct G l mX4_refuse (d + 1) [.ref 0, .int (nI f)] S (QI P) := by
  refine bX4_refuse_0 _ ⟨fun q => ?_, fun _ => ⟨fun q => ?_, fun _ S1 e1 => ⟨f, ix_nI (by omega) (by omega), fun S2 e2 => ?_⟩⟩⟩
  · rw [z_lt (by omega) (by omega)] at q
    omega
  · rw [z_lt (by omega) (by omega)] at q
    omega
  · subst e1
    subst e2
    have e6 : u2 S.1 0 8 (nI f) 6 f = S.1 6 f := by rw [u2_o _ (by omega)]
    show P (-3) (u2 (u2 S.1 0 8 (nI f)) 6 f (u2 S.1 0 8 (nI f) 6 f + nI 1), S.2)
    rw [e6]
    exact h
theorem u_finds {f : Nat} (hf : 1 ≤ f ∧ f ≤ 5) (h : P (-3) (fdM S f)) : Ct G l mX5_finds (d + 1) [.ref 7, .int (nI f)] S (QI P) := by
  refine bX5_finds_0 _ (fun S1 e1 => ⟨f, ix_nI (by omega) (by omega), fun S2 e2 => ?_⟩)
  subst e1
  subst e2
  have e6 : u2 S.1 7 10 (nI f) 97 f = S.1 97 f := by rw [u2_o _ (by omega)]
  show P (-3) (u2 (u2 S.1 7 10 (nI f)) 97 f (u2 S.1 7 10 (nI f) 97 f + nI 1), S.2)
  rw [e6]
  exact h
theorem u_tells (a b : Int32) (h : P a (u2 S.1 7 11 b, S.2)) : Ct G l mX5_tells (d + 1) [.ref 7, .int a, .int b] S (QI P) := by
  refine bX5_tells_0 _ _ (fun S1 e1 => ?_)
  subst e1
  exact h
/-- whether a number is one of n -/
def b2n (i : Int32) (n : Nat) : Int32 := b2 (decide (¬ i < nI 0 ∧ ¬ nI n ≤ i))
theorem b2n_y {j n : Nat} (h : j < n) (hn : n < 1000) : b2n (nI j) n = nI 1 := by
  have : (¬ nI j < nI 0 ∧ ¬ nI n ≤ nI j) := by
    rw [z_lt (by omega) (by omega), z_le (by omega) (by omega)]
    omega
  simp [b2n, b2, this]
theorem b2n_n {i : Int32} {n : Nat} (h : i < nI 0 ∨ nI n ≤ i) : b2n i n = nI 0 := by
  have : ¬ (¬ i < nI 0 ∧ ¬ nI n ≤ i) := fun q => h.elim q.1 q.2
  rw [b2n, decide_eq_false this]
  rfl
theorem t_isRow (i : Int32) (h : P (b2n i 6) S) : Ct G l mX4_isRow (d + 1) [.int i] S (QI P) := by
  refine bX4_isRow_0 _ (fun x ex => ?_)
  have e : x = b2n i 6 := by
    rw [ex, b2n, b2]
    grind
  rw [e]; exact h
theorem t_isText (i : Int32) (h : P (b2n i 4) S) : Ct G l mX4_isText (d + 1) [.int i] S (QI P) := by
  refine bX4_isText_0 _ (fun x ex => ?_)
  have e : x = b2n i 4 := by
    rw [ex, b2n, b2]
    grind
  rw [e]; exact h
theorem t_isKept (i : Int32) (h : P (b2n i 3) S) : Ct G l mX4_isKept (d + 1) [.int i] S (QI P) := by
  refine bX4_isKept_0 _ (fun x ex => ?_)
  have e : x = b2n i 3 := by
    rw [ex, b2n, b2]
    grind
  rw [e]; exact h
/-- in (0, n - 1) with a number written -/
theorem u_inN (i : Int32) (n k : Nat) (hk : k + 1 = n) (hn : n < 100000) (h : P (b2n i n) S) : Ct G l mX5_in (d + 1) [.int i, .int (nI 0), .int (nI k)] S (QI P) := by
  refine u_in _ _ _ ?_
  have e : decide (¬ i < nI 0 ∧ ¬ nI k < i) = decide (¬ i < nI 0 ∧ ¬ nI n ≤ i) := by
    apply decide_eq_decide.mpr
    rw [show nI k = nI n - nI 1 by rw [z_sub (by omega)]; congr 1; omega]
    constructor
    · rintro ⟨a, b⟩
      exact ⟨a, (z_npred i (by omega) a).mp b⟩
    · rintro ⟨a, b⟩
      exact ⟨a, (z_npred i (by omega) a).mpr b⟩
  rw [e]; exact h
theorem b2n_zb (i : Int32) (n : Nat) : zb (b2n i n) := b2_zb _
theorem u_isRow (i : Int32) (h : P (b2n i 6) S) : Ct G l mX5_isRow (d + 2) [.int i] S (QI P) :=
  bX5_isRow_0 _ (u_inN _ 6 5 rfl (by omega) ⟨b2n_zb _ _, h⟩)
theorem u_isText (i : Int32) (h : P (b2n i 4) S) : Ct G l mX5_isText (d + 2) [.int i] S (QI P) :=
  bX5_isText_0 _ (u_inN _ 4 3 rfl (by omega) ⟨b2n_zb _ _, h⟩)
end basics
