/-! the state of both classes as two functions: ints and longs by place and slot; the references are fixed -/
abbrev Sg : Type := (Nat → Nat → Int32) × (Nat → Nat → Int64)
abbrev Gl : Type := ((va_G × (Nat → Nat)) × (Nat → ClassId)) × (Nat × (Nat → Int32))
def gD (G : Gl) : va_G := G.1.1.1
def gA (G : Gl) (k : Nat) : Nat := G.1.1.2 k
def gC (G : Gl) (t : Nat) : ClassId := G.1.2 t
def gL (G : Gl) : Nat := G.2.1
def gX (G : Gl) : Nat → Int32 := G.2.2
/-- what stands at a place: 0 .. 5 an object of that class, 10 ints, 11 booleans, 12 Rows, 13 Lands -/
def kd (k : Nat) : Nat :=
  if k < 8 then (match k with
    | 0 => 4
    | 1 => 12
    | 2 => 12
    | 3 => 13
    | 4 => 2
    | 5 => 10
    | 6 => 10
    | _ => 5)
  else if k < 18 then 3
  else if k < 28 then 10
  else if k < 88 then (if (k - 28) % 12 = 0 then 1 else if (k - 28) % 12 = 6 then 0 else 10)
  else if k = 96 then 11 else if k < 104 then 10 else 99
def ln (k : Nat) : Nat :=
  if k < 8 then (match k with
    | 1 => 6
    | 2 => 4
    | 3 => 3
    | 5 => 56
    | _ => 6)
  else if k < 24 then 40
  else if k < 28 then 60
  else if k < 88 then (if (k - 28) % 12 < 6 then 6 else 40)
  else match k - 88 with
    | 0 => 6
    | 1 => 240
    | 2 => 40
    | 3 => 4
    | 4 => 240
    | 5 => 400
    | 6 => 400
    | 7 => 1200
    | 8 => 3
    | 9 => 6
    | 10 => 6
    | 11 => 62
    | _ => 7
def rf (k i : Nat) : Nat :=
  if k < 8 then (match k with
    | 0 => (match i with
      | 0 => 1
      | 1 => 2
      | 2 => 28
      | 3 => 3
      | 4 => 40
      | 5 => 4
      | 6 => 5
      | _ => 6)
    | 1 => 8 + i
    | 2 => 14 + i
    | 3 => 52 + 12 * i
    | _ => if i < 10 then 88 + i else 84 + i)
  else if k < 18 then k + 10
  else if (k - 28) % 12 = 0 then k + (i - 8) else k + (i + 1)
def cN (c : Nat) : Nat := match c with
  | 0 => 6
  | 1 => 15
  | 2 => 1
  | 3 => 2
  | 4 => 12
  | _ => 22
def cC (c : Nat) : String := match c with
  | 0 => RX0
  | 1 => RX1
  | 2 => RX2
  | 3 => RX3
  | 4 => RX4
  | _ => RX5
def cT (c : Nat) : u_T := match c with
  | 0 => TX0
  | 1 => TX1
  | 2 => TX2
  | 3 => TX3
  | 4 => TX4
  | _ => TX5
def cTy (c : Nat) : Nat → FieldType := match c with
  | 0 => tyX0
  | 1 => tyX1
  | 2 => tyX2
  | 3 => tyX3
  | 4 => tyX4
  | _ => tyX5
/-- of what sort a field is: 0 int, 1 long, 2 reference -/
def fk (c i : Nat) : Nat := match c with
  | 0 => if i < 5 then 2 else 0
  | 1 => if i < 9 then 0 else 2
  | 2 => 0
  | 3 => if i = 0 then 2 else 0
  | 4 => if i < 8 then 2 else if i < 10 then 0 else 1
  | _ => if i < 10 then 2 else if i < 12 then 0 else if i < 14 then 1 else if i < 20 then 2 else 0
def vlu (G : Gl) (S : Sg) (k i : Nat) : Value := if fk (kd k) i = 0 then .int (S.1 k i) else if fk (kd k) i = 1 then .long (S.2 k i) else .ref (gA G (rf k i))
def ent (G : Gl) (S : Sg) (k : Nat) : va_E :=
  if kd k < 6 then .inr (kd k, (List.range (cN (kd k))).map (vlu G S k))
  else .inl (gC G (kd k - 10), (ln k, if kd k < 12 then .inl (S.1 k) else .inr (.inr (.inr (.inr (fun i => some (gA G (rf k i))))))))
def wld (G : Gl) (S : Sg) : va_W := (List.range 104).map (fun k => (gA G k, ent G S k))
def tyL (G : Gl) : List (ClassId × FieldType) := [(gC G 0, .int), (gC G 1, .boolean), (gC G 2, .object "ShyStrip$Row"), (gC G 3, .object "ShyStrip$Land")]
def Aw (G : Gl) : Nat → Prop := fun q => ∃ k, k < 104 ∧ q = gA G k
def letF (k : Nat) : Value := .int (match k with
  | 0 => 112
  | 1 => 111
  | 2 => 108
  | 3 => 104
  | 4 => 116
  | _ => 102)
def u2 {α : Type} (f : Nat → Nat → α) (k i : Nat) (v : α) : Nat → Nat → α := fun a b => if a = k ∧ b = i then v else f a b
theorem u2_o {α : Type} (f : Nat → Nat → α) {k i : Nat} {v : α} {a : Nat} (h : a ≠ k) : u2 f k i v a = f a := by
  funext b
  simp [u2, h]
theorem u2_s {α : Type} (f : Nat → Nat → α) {k i : Nat} {v : α} : u2 f k i v k i = v := by simp [u2]
theorem u2_n {α : Type} (f : Nat → Nat → α) {k i : Nat} {v : α} {b : Nat} (h : b ≠ i) : u2 f k i v k b = f k b := by simp [u2, h]
theorem kd_lt {k : Nat} (h : kd k < 14) : k < 104 := by
  apply Classical.byContradiction
  intro hk
  have : kd k = 99 := by
    unfold kd
    rw [if_neg (by omega), if_neg (by omega), if_neg (by omega), if_neg (by omega), if_neg (by omega), if_neg (by omega)]
  omega
def gtb : List Cond := lw_tbl.filter goodWord
theorem inl0 : ∀ w ∈ u_ws RX0 TX0 6, w ∈ gtb := by decide +kernel
theorem inl1 : ∀ w ∈ u_ws RX1 TX1 15, w ∈ gtb := by decide +kernel
theorem inl2 : ∀ w ∈ u_ws RX2 TX2 1, w ∈ gtb := by decide +kernel
theorem inl3 : ∀ w ∈ u_ws RX3 TX3 2, w ∈ gtb := by decide +kernel
theorem inl4 : ∀ w ∈ u_ws RX4 TX4 12, w ∈ gtb := by decide +kernel
theorem inl5 : ∀ w ∈ u_ws RX5 TX5 22, w ∈ gtb := by decide +kernel
def ClsOk (c : Nat) : Prop := vwCl[c]? = some (cC c, cT c, cN c) ∧ (∀ w ∈ u_ws (cC c) (cT c) (cN c), w ∈ gtb) ∧ (∀ k, k < cN c → parseFieldDescriptor (cT c k).2.2.1 = some (cTy c k)) ∧ (∀ a, a < cN c → ∀ b, b < cN c → a ≠ b → (cT c a).2.1 ≠ (cT c b).2.1)
theorem cls_ok {c : Nat} (h : c < 6) : ClsOk c := by
  rcases (show c = 0 ∨ c = 1 ∨ c = 2 ∨ c = 3 ∨ c = 4 ∨ c = 5 by omega) with rfl | rfl | rfl | rfl | rfl | rfl
  · exact ⟨rfl, inl0, tyX0_ok, nmX0⟩
  · exact ⟨rfl, inl1, tyX1_ok, nmX1⟩
  · exact ⟨rfl, inl2, tyX2_ok, nmX2⟩
  · exact ⟨rfl, inl3, tyX3_ok, nmX3⟩
  · exact ⟨rfl, inl4, tyX4_ok, nmX4⟩
  · exact ⟨rfl, inl5, tyX5_ok, nmX5⟩
theorem tbl_in : GoodIn gtb gtb := fun _ hw => ⟨hw, good_of_word (List.mem_filter.mp hw).2⟩
theorem map_range_set {α : Type} (f g : Nat → α) (n i : Nat) (x : α) (hi : i < n) (h1 : g i = x) (h2 : ∀ a, a ≠ i → g a = f a) : (List.range n).map g = ((List.range n).map f).set i x := by
  apply List.ext_getElem?
  intro a
  by_cases ha : a = i
  · subst ha
    rw [List.getElem?_set_self (by simpa using hi)]
    simp [hi, h1]
  · rw [List.getElem?_set_ne (Ne.symm ha)]
    by_cases hl : a < n
    · simp [hl, h2 a ha]
    · rw [List.getElem?_eq_none (by simp; omega), List.getElem?_eq_none (by simp; omega)]
theorem wld_at (G : Gl) (S : Sg) {k : Nat} (hk : k < 104) : (wld G S)[k]? = some (gA G k, ent G S k) := by
  simp [wld, hk]
theorem wld_upd (G : Gl) {S S' : Sg} {k : Nat} {e : va_E} (hk : k < 104) (he : ent G S' k = e) (ho : ∀ j, j ≠ k → ent G S' j = ent G S j) : wld G S' = (wld G S).set k (gA G k, e) :=
  map_range_set _ _ 104 k _ hk (by rw [he]) (fun a ha => by rw [ho a ha])
theorem ent_congr (G : Gl) {S S' : Sg} {j : Nat} (h1 : S'.1 j = S.1 j) (h2 : S'.2 j = S.2 j) : ent G S' j = ent G S j := by
  have hv : vlu G S' j = vlu G S j := by
    funext i
    unfold vlu
    rw [h1, h2]
  unfold ent
  rw [hv, h1]
theorem ent_obj (G : Gl) (S : Sg) {k c : Nat} (h : kd k = c) (hc : c < 6) : ent G S k = .inr (c, (List.range (cN c)).map (vlu G S k)) := by
  unfold ent
  rw [h, if_pos hc]
theorem ent_arr (G : Gl) (S : Sg) {k c : Nat} (h : kd k = c) (h1 : 10 ≤ c) (hc : c < 12) : ent G S k = .inl (gC G (c - 10), (ln k, .inl (S.1 k))) := by
  unfold ent
  rw [h, if_neg (by omega), if_pos hc]
theorem ent_rarr (G : Gl) (S : Sg) {k c : Nat} (h : kd k = c) (h1 : 12 ≤ c) : ent G S k = .inl (gC G (c - 10), (ln k, .inr (.inr (.inr (.inr (fun i => some (gA G (rf k i)))))))) := by
  unfold ent
  rw [h, if_neg (by omega), if_neg (by omega)]
theorem wld_putI (G : Gl) (S : Sg) {k c i : Nat} {v : Int32} (h : kd k = c) (hc : c < 6) (hi : i < cN c) (hf : fk c i = 0) : wld G (u2 S.1 k i v, S.2) = (wld G S).set k (gA G k, .inr (c, ((List.range (cN c)).map (vlu G S k)).set i (.int v))) := by
  refine wld_upd G (kd_lt (by omega)) ?_ (fun j hj => ent_congr G (u2_o _ hj) rfl)
  rw [ent_obj G _ h hc]
  congr 2
  refine map_range_set _ _ _ i _ hi ?_ (fun a ha => ?_)
  · unfold vlu
    rw [h, if_pos hf]
    show Value.int (u2 S.1 k i v k i) = _
    rw [u2_s]
  · unfold vlu
    show (if fk (kd k) a = 0 then Value.int (u2 S.1 k i v k a) else _) = _
    rw [u2_n _ ha]
theorem wld_putL (G : Gl) (S : Sg) {k c i : Nat} {v : Int64} (h : kd k = c) (hc : c < 6) (hi : i < cN c) (hf : fk c i = 1) : wld G (S.1, u2 S.2 k i v) = (wld G S).set k (gA G k, .inr (c, ((List.range (cN c)).map (vlu G S k)).set i (.long v))) := by
  refine wld_upd G (kd_lt (by omega)) ?_ (fun j hj => ent_congr G rfl (u2_o _ hj))
  rw [ent_obj G _ h hc]
  congr 2
  refine map_range_set _ _ _ i _ hi ?_ (fun a ha => ?_)
  · unfold vlu
    rw [h, if_neg (by omega), if_pos hf]
    show Value.long (u2 S.2 k i v k i) = _
    rw [u2_s]
  · unfold vlu
    show (if fk (kd k) a = 0 then Value.int (S.1 k a) else if fk (kd k) a = 1 then Value.long (u2 S.2 k i v k a) else _) = _
    rw [u2_n _ ha]
theorem wld_ast (G : Gl) (S : Sg) {k c i : Nat} {v : Int32} (h : kd k = c) (h1 : 10 ≤ c) (hc : c < 12) : wld G (u2 S.1 k i v, S.2) = (wld G S).set k (gA G k, .inl (gC G (c - 10), (ln k, .inl (upd (S.1 k) i v)))) := by
  refine wld_upd G (kd_lt (by omega)) ?_ (fun j hj => ent_congr G (u2_o _ hj) rfl)
  rw [ent_arr G _ h h1 hc]
  have : (u2 S.1 k i v, S.2).1 k = upd (S.1 k) i v := by
    funext b
    simp [u2, upd]
  rw [this]
/-- a whole row of ints anew -/
def u1 (f : Nat → Nat → Int32) (k : Nat) (g : Nat → Int32) : Nat → Nat → Int32 := fun a => if a = k then g else f a
theorem wld_row (G : Gl) (S : Sg) {k c : Nat} {g : Nat → Int32} (h : kd k = c) (h1 : 10 ≤ c) (hc : c < 12) : wld G (u1 S.1 k g, S.2) = (wld G S).set k (gA G k, .inl (gC G (c - 10), (ln k, .inl g))) := by
  refine wld_upd G (kd_lt (by omega)) ?_ (fun j hj => ent_congr G (by simp [u1, hj]) rfl)
  rw [ent_arr G _ h h1 hc]
  have : (u1 S.1 k g, S.2).1 k = g := by simp [u1]
  rw [this]
theorem wld_D (G : Gl) (S : Sg) {A : Nat → Prop} (hinj : ∀ i j, i < 104 → j < 104 → gA G i = gA G j → i = j) (hA : ∀ q, Aw G q → A q) : va_D A (wld G S) := by
  have key : ∀ (k : Nat) (q : Nat × va_E), (wld G S)[k]? = some q → k < 104 ∧ q.1 = gA G k := by
    intro k q hq
    have hk : k < 104 := by
      have := (List.getElem?_eq_some_iff.mp hq).1
      simpa [wld] using this
    rw [wld_at G S hk] at hq
    cases hq
    exact ⟨hk, rfl⟩
  refine ⟨fun i j p q hi hj hpq => ?_, fun k q hq => ?_⟩
  · obtain ⟨a1, a2⟩ := key i p hi
    obtain ⟨b1, b2⟩ := key j q hj
    exact hinj i j a1 b1 (by rw [← a2, ← b2]; exact hpq)
  · obtain ⟨a1, a2⟩ := key k q hq
    exact hA _ ⟨k, a1, a2⟩
