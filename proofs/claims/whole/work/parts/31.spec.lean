/-! what a LAND is, in numbers: 0 cells, 1 west, 2 east, 3, 4 laws of the sides, 5, 6 first coasts, 7 people, 8 year, 9 deeds; 10 + 5 i .. one of people: kind, cell, first cell, votes told, laws -/
def IVp (m : Nat → Nat) (i : Nat) : Prop := m (10 + 5 * i) ≤ 5 ∧ m (11 + 5 * i) ≤ 8 ∧ m (12 + 5 * i) ≤ 8 ∧ m (13 + 5 * i) ≤ 9 ∧ m (14 + 5 * i) ≤ 7 ∧ (i < m 7 → m (11 + 5 * i) < m 0 ∧ m (12 + 5 * i) < m 0)
def IVh (m : Nat → Nat) : Prop := m 0 ≤ 9 ∧ m 1 ≤ m 2 ∧ m 2 ≤ m 0 ∧ m 3 ≤ 7 ∧ m 4 ≤ 7 ∧ m 5 ≤ m 6 ∧ m 6 ≤ m 0 ∧ m 7 ≤ 6 ∧ m 8 ≤ m 9 ∧ m 9 ≤ 40 ∧ (m 0 = 0 → m 7 = 0 ∧ m 9 = 0) ∧ (0 < m 0 → 3 ≤ m 0 ∧ 1 ≤ m 7)
def IV (m : Nat → Nat) : Prop := IVh m ∧ ∀ i, i < 6 → IVp m i
def LVh (S : Sg) (L : Nat) (m : Nat → Nat) : Prop :=
  S.1 L 0 = nI (m 0) ∧ S.1 L 1 = nI (m 1) ∧ S.1 L 2 = nI (m 2) ∧ S.1 L 3 = nI (m 5) ∧ S.1 L 4 = nI (m 6) ∧ S.1 L 5 = nI (m 3) ∧ S.1 L 6 = nI (m 4) ∧ S.1 L 7 = nI (m 8) ∧ S.1 L 8 = nI (m 7) ∧ S.1 (L + 6) 5 = nI (m 9)
def LVp (S : Sg) (L : Nat) (m : Nat → Nat) (i : Nat) : Prop := S.1 (L + 1) i = nI (m (10 + 5 * i)) ∧ S.1 (L + 2) i = nI (m (11 + 5 * i)) ∧ S.1 (L + 3) i = nI (m (12 + 5 * i)) ∧ S.1 (L + 4) i = nI (m (13 + 5 * i)) ∧ S.1 (L + 5) i = nI (m (14 + 5 * i))
def LV (S : Sg) (L : Nat) (m : Nat → Nat) : Prop := LVh S L m ∧ ∀ i, i < m 7 → LVp S L m i
def MV (S : Sg) (m : Nat → Nat) : Prop := ∀ k, k < 40 → S.1 93 k = nI (m k)
section acc
variable {S : Sg} {L : Nat} {m : Nat → Nat}
theorem LV.c (h : LV S L m) : S.1 L 0 = nI (m 0) := h.1.1
theorem LV.w (h : LV S L m) : S.1 L 1 = nI (m 1) := h.1.2.1
theorem LV.e (h : LV S L m) : S.1 L 2 = nI (m 2) := h.1.2.2.1
theorem LV.fw (h : LV S L m) : S.1 L 3 = nI (m 5) := h.1.2.2.2.1
theorem LV.fe (h : LV S L m) : S.1 L 4 = nI (m 6) := h.1.2.2.2.2.1
theorem LV.wl (h : LV S L m) : S.1 L 5 = nI (m 3) := h.1.2.2.2.2.2.1
theorem LV.el (h : LV S L m) : S.1 L 6 = nI (m 4) := h.1.2.2.2.2.2.2.1
theorem LV.y (h : LV S L m) : S.1 L 7 = nI (m 8) := h.1.2.2.2.2.2.2.2.1
theorem LV.p (h : LV S L m) : S.1 L 8 = nI (m 7) := h.1.2.2.2.2.2.2.2.2.1
theorem LV.n (h : LV S L m) : S.1 (L + 6) 5 = nI (m 9) := h.1.2.2.2.2.2.2.2.2.2
theorem LV.k {i : Nat} (h : LV S L m) (hi : i < m 7) : S.1 (L + 1) i = nI (m (10 + 5 * i)) := (h.2 i hi).1
theorem LV.cl {i : Nat} (h : LV S L m) (hi : i < m 7) : S.1 (L + 2) i = nI (m (11 + 5 * i)) := (h.2 i hi).2.1
theorem LV.fi {i : Nat} (h : LV S L m) (hi : i < m 7) : S.1 (L + 3) i = nI (m (12 + 5 * i)) := (h.2 i hi).2.2.1
theorem LV.td {i : Nat} (h : LV S L m) (hi : i < m 7) : S.1 (L + 4) i = nI (m (13 + 5 * i)) := (h.2 i hi).2.2.2.1
theorem LV.lw {i : Nat} (h : LV S L m) (hi : i < m 7) : S.1 (L + 5) i = nI (m (14 + 5 * i)) := (h.2 i hi).2.2.2.2
theorem IV.p6 (h : IV m) : m 7 ≤ 6 := h.1.2.2.2.2.2.2.2.1
end acc
/-! the words of the document, in numbers -/
def sBy (m : Nat → Nat) (k c f w e : Nat) : Bool :=
  if k = 1 then decide (m 5 ≤ f ∧ f < m 6)
  else if k = 2 then decide (w ≤ c + 1 ∧ c ≤ e)
  else if k = 3 then decide ((w ≤ c ∧ c < e) ∧ w + 2 < e)
  else if k = 4 then decide ((m 5 ≤ f ∧ f < m 6) ∧ w ≤ c)
  else if k = 5 then decide ((w ≤ c + 1 ∧ c ≤ e) ∧ c = (w + e) / 2)
  else decide (w ≤ c ∧ c < e)
def sBel (m : Nat → Nat) (i w e : Nat) : Bool := sBy m (m (10 + 5 * i)) (m (11 + 5 * i)) (m (12 + 5 * i)) w e
def sVo (m : Nat → Nat) (i : Nat) : Nat :=
  if m (10 + 5 * i) = 2 then m (13 + 5 * i) / 2
  else if m (10 + 5 * i) = 3 then 1
  else if m (10 + 5 * i) = 4 then m (13 + 5 * i) * 2
  else if m (10 + 5 * i) = 5 then m (13 + 5 * i) / 2 + 1
  else m (13 + 5 * i)
def sBit (m : Nat → Nat) (w e : Nat) : Nat → Nat
  | 0 => 0
  | n + 1 => sBit m w e n + (if sBel m n w e = true then 2 ^ n else 0)
def bit (s i : Nat) : Nat := s / 2 ^ i % 2
def sSum (m : Nat → Nat) (s : Nat) : Nat → Nat
  | 0 => 0
  | n + 1 => sSum m s n + (if bit s n = 1 then sVo m n else 0)
def sOut (m : Nat → Nat) (a b w e : Nat) : Nat → Nat
  | 0 => 0
  | n + 1 => sOut m a b w e n + (if (a ≤ m (11 + 5 * n) ∧ m (11 + 5 * n) < b) ∧ sBel m n w e = false then sVo m n else 0)
def sBels (m : Nat → Nat) (w e : Nat) : Nat := sBit m w e (m 7)
def sIn (m : Nat → Nat) (s : Nat) : Nat := sSum m s (m 7)
def sOf (m : Nat → Nat) (a b w e : Nat) : Nat := sOut m a b w e (m 7)
def sWb (m : Nat → Nat) (w e : Nat) : Bool := decide (sOf m 0 w w e < sIn m (sBels m w e))
def sEb (m : Nat → Nat) (w e : Nat) : Bool := decide (sOf m e (m 0) w e < sIn m (sBels m w e))
def sW' (m : Nat → Nat) (w e : Nat) : Nat := if sWb m w e = true then w - 1 else if w < e then w + 1 else w
def sE' (m : Nat → Nat) (w e : Nat) : Nat := if sEb m w e = true then (if e < m 0 then e + 1 else e) else if w < e then (if w + 1 = e ∧ sWb m w e = false then e else e - 1) else e
def sLat (m : Nat → Nat) (w e : Nat) : Nat := 10 * sW' m w e + sE' m w e
theorem bit_le (s i : Nat) : bit s i ≤ 1 := by
  unfold bit
  omega
theorem sVo_le {m : Nat → Nat} {i : Nat} (h : IVp m i) : sVo m i ≤ 18 := by
  obtain ⟨-, -, -, h, -, -⟩ := h
  unfold sVo
  repeat' split
  all_goals omega
theorem sBit_lt (m : Nat → Nat) (w e : Nat) : ∀ n, sBit m w e n < 2 ^ n
  | 0 => by simp [sBit]
  | n + 1 => by
    have := sBit_lt m w e n
    unfold sBit
    rw [Nat.pow_succ]
    split <;> omega
theorem sSum_le {m : Nat → Nat} (h : IV m) (s : Nat) : ∀ n, n ≤ 6 → sSum m s n ≤ 18 * n
  | 0, _ => by simp [sSum]
  | n + 1, hn => by
    have h1 := sSum_le h s n (by omega)
    have h2 := sVo_le (h.2 n (by omega))
    unfold sSum
    split <;> omega
theorem sOut_le {m : Nat → Nat} (h : IV m) (a b w e : Nat) : ∀ n, n ≤ 6 → sOut m a b w e n ≤ 18 * n
  | 0, _ => by simp [sOut]
  | n + 1, hn => by
    have h1 := sOut_le h a b w e n (by omega)
    have h2 := sVo_le (h.2 n (by omega))
    unfold sOut
    split <;> omega
theorem sIn_le {m : Nat → Nat} (h : IV m) (s : Nat) : sIn m s ≤ 108 := by
  have h1 := h.p6
  have h2 := sSum_le h s (m 7) h1
  unfold sIn
  omega
theorem sOf_le {m : Nat → Nat} (h : IV m) (a b w e : Nat) : sOf m a b w e ≤ 108 := by
  have h1 := h.p6
  have h2 := sOut_le h a b w e (m 7) h1
  unfold sOf
  omega
theorem pow_le64 {n : Nat} (h : n ≤ 6) : 2 ^ n ≤ 64 := by
  have : 2 ^ n ≤ 2 ^ 6 := Nat.pow_le_pow_right (by omega) h
  omega
theorem sBels_lt {m : Nat → Nat} (h : IV m) (w e : Nat) : sBels m w e < 64 := by
  have h1 := h.p6
  have h2 := sBit_lt m w e (m 7)
  have h3 := pow_le64 h1
  unfold sBels
  omega
theorem sWE {m : Nat → Nat} (h : IV m) {w e : Nat} (hw : w ≤ e) (he : e ≤ m 0) : sW' m w e ≤ sE' m w e ∧ sE' m w e ≤ m 0 := by
  unfold sW' sE'
  cases sWb m w e <;> cases sEb m w e <;> simp <;> (repeat' split) <;> omega
theorem or_pow {a n : Nat} (h : a < 2 ^ n) : a ||| 2 ^ n = a + 2 ^ n := by
  have := fa_or_sum (a := a) (k := n) 1 h
  rw [Nat.or_comm]
  have h2 := Nat.two_pow_add_eq_or_of_lt h 1
  simpa [Nat.add_comm] using h2.symm
