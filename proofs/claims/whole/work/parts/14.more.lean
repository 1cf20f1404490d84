section more
variable {G : Gl} {l : Launch} {μ : Mt} {d pc : Nat} {ls : List (Option Value)} {st : List Value} {S : Sg} {Q : Option Value → Sg → Prop}
/-- the words of a call of Math's -/
def MW (own : String) (idx : Nat) (y : MethodName) (cd : ByteArray) (n : Nat) : Prop := Cond.methodLink own idx y ∈ gtb ∧ Cond.static y ∈ gtb ∧ Cond.initialized "java/lang/Math" ∈ gtb ∧ Cond.code y cd n (some .int) ∈ gtb
theorem cat_cv (G : Gl) (st : List Value) : ((st.map (cv G)).map fun v => v.category) = st.map fun v => v.category := by
  rw [List.map_map]
  exact List.map_congr_left (fun v _ => cv_cat G v)
theorem r_mmax {idx : Nat} {x y : Int32} (hw : MW μ.1.cls idx Lib.Math.max.name Lib.Math.max.code 2) (hd : decode μ.2.1 pc = .ok (.invokestatic idx, 3)) (hst : (st.map fun v => v.category).sum ≤ 8) (h : Ev G l μ d (pc + 3) ls (.int (if x < y then y else x) :: st) S Q) : Ev G l μ d pc ls (.int y :: .int x :: st) S Q := by
  intro A p e R s m args below meth c0 H locs cells slots Z la C hW hS hl hend
  have h5 := C.2.2.2.2.2.1
  exact va_mmax C.1 C.2.1 (C.2.2.1.trans hl.1.symm) C.2.2.2.1 (C.2.2.2.2.1 _ hw.1) (C.2.2.2.2.1 _ hw.2.1) (C.2.2.2.2.1 _ hw.2.2.1) (C.2.2.2.2.1 _ hw.2.2.2) (by omega) (by rw [cat_cv]; omega) h5.2.2.1 h5.2.2.2 hd (h C hW hS hl hend)
theorem r_mmin {idx : Nat} {x y : Int32} (hw : MW μ.1.cls idx Lib.Math.min.name Lib.Math.min.code 2) (hd : decode μ.2.1 pc = .ok (.invokestatic idx, 3)) (hst : (st.map fun v => v.category).sum ≤ 8) (h : Ev G l μ d (pc + 3) ls (.int (if y < x then y else x) :: st) S Q) : Ev G l μ d pc ls (.int y :: .int x :: st) S Q := by
  intro A p e R s m args below meth c0 H locs cells slots Z la C hW hS hl hend
  have h5 := C.2.2.2.2.2.1
  exact va_mmin C.1 C.2.1 (C.2.2.1.trans hl.1.symm) C.2.2.2.1 (C.2.2.2.2.1 _ hw.1) (C.2.2.2.2.1 _ hw.2.1) (C.2.2.2.2.1 _ hw.2.2.1) (C.2.2.2.2.1 _ hw.2.2.2) (by omega) (by rw [cat_cv]; omega) h5.2.2.1 h5.2.2.2 hd (h C hW hS hl hend)
theorem r_mabs {idx : Nat} {x : Int32} (hw : MW μ.1.cls idx Lib.Math.abs.name Lib.Math.abs.code 1) (hd : decode μ.2.1 pc = .ok (.invokestatic idx, 3)) (hst : (st.map fun v => v.category).sum ≤ 8) (h : Ev G l μ d (pc + 3) ls (.int (if 0 ≤ x then x else 0 - x) :: st) S Q) : Ev G l μ d pc ls (.int x :: st) S Q := by
  intro A p e R s m args below meth c0 H locs cells slots Z la C hW hS hl hend
  have h5 := C.2.2.2.2.2.1
  exact va_mabs C.1 C.2.1 (C.2.2.1.trans hl.1.symm) C.2.2.2.1 (C.2.2.2.2.1 _ hw.1) (C.2.2.2.2.1 _ hw.2.1) (C.2.2.2.2.1 _ hw.2.2.1) (C.2.2.2.2.1 _ hw.2.2.2) (by omega) (by rw [cat_cv]; omega) h5.2.2.1 h5.2.2.2 hd (h C hW hS hl hend)
def zb (x : Int32) : Prop := narrow .boolean (.int x) = .int x
theorem zb_0 : zb 0 := rfl
theorem zb_1 : zb 1 := rfl
theorem zb_if {c : Prop} [Decidable c] {a b : Int32} (ha : zb a) (hb : zb b) : zb (if c then a else b) := by split <;> assumption
theorem zb_f {x : Int32} (h : zb x) : fits .boolean (.int x) = true := by
  rw [← h]
  exact fits_narrow_boolean x
theorem zb_n {x : Int32} (h : zb x) : vp_nar .boolean x = x := by
  unfold vp_nar
  rw [h]
theorem cat8 {st : List Value} {n : Nat} (h : (st.map fun v => v.category).sum = n) (hn : n ≤ 8) : (st.map fun v => v.category).sum ≤ 8 := by omega
/-- the places of the Lands, Rows, Deeds -/
def LandAt (k : Nat) : Prop := k = 28 ∨ k = 40 ∨ k = 52 ∨ k = 64 ∨ k = 76
def DeedsAt (k : Nat) : Prop := k = 34 ∨ k = 46 ∨ k = 58 ∨ k = 70 ∨ k = 82
def RowAt (k : Nat) : Prop := 8 ≤ k ∧ k < 18
def ShelfAt (k : Nat) : Prop := k = 1 ∨ k = 2
theorem la_kd {k : Nat} (h : LandAt k) : kd k = 1 := by rcases h with rfl | rfl | rfl | rfl | rfl <;> rfl
theorem la_rf9 {k : Nat} (h : LandAt k) : rf k 9 = k + 1 := by rcases h with rfl | rfl | rfl | rfl | rfl <;> rfl
theorem la_rf10 {k : Nat} (h : LandAt k) : rf k 10 = k + 2 := by rcases h with rfl | rfl | rfl | rfl | rfl <;> rfl
theorem la_rf11 {k : Nat} (h : LandAt k) : rf k 11 = k + 3 := by rcases h with rfl | rfl | rfl | rfl | rfl <;> rfl
theorem la_rf12 {k : Nat} (h : LandAt k) : rf k 12 = k + 4 := by rcases h with rfl | rfl | rfl | rfl | rfl <;> rfl
theorem la_rf13 {k : Nat} (h : LandAt k) : rf k 13 = k + 5 := by rcases h with rfl | rfl | rfl | rfl | rfl <;> rfl
theorem la_rf14 {k : Nat} (h : LandAt k) : rf k 14 = k + 6 := by rcases h with rfl | rfl | rfl | rfl | rfl <;> rfl
theorem la_k1 {k : Nat} (h : LandAt k) : kd (k + 1) = 10 := by rcases h with rfl | rfl | rfl | rfl | rfl <;> rfl
theorem la_k2 {k : Nat} (h : LandAt k) : kd (k + 2) = 10 := by rcases h with rfl | rfl | rfl | rfl | rfl <;> rfl
theorem la_k3 {k : Nat} (h : LandAt k) : kd (k + 3) = 10 := by rcases h with rfl | rfl | rfl | rfl | rfl <;> rfl
theorem la_k4 {k : Nat} (h : LandAt k) : kd (k + 4) = 10 := by rcases h with rfl | rfl | rfl | rfl | rfl <;> rfl
theorem la_k5 {k : Nat} (h : LandAt k) : kd (k + 5) = 10 := by rcases h with rfl | rfl | rfl | rfl | rfl <;> rfl
theorem la_l1 {k : Nat} (h : LandAt k) : ln (k + 1) = 6 := by rcases h with rfl | rfl | rfl | rfl | rfl <;> rfl
theorem la_l2 {k : Nat} (h : LandAt k) : ln (k + 2) = 6 := by rcases h with rfl | rfl | rfl | rfl | rfl <;> rfl
theorem la_l3 {k : Nat} (h : LandAt k) : ln (k + 3) = 6 := by rcases h with rfl | rfl | rfl | rfl | rfl <;> rfl
theorem la_l4 {k : Nat} (h : LandAt k) : ln (k + 4) = 6 := by rcases h with rfl | rfl | rfl | rfl | rfl <;> rfl
theorem la_l5 {k : Nat} (h : LandAt k) : ln (k + 5) = 6 := by rcases h with rfl | rfl | rfl | rfl | rfl <;> rfl
theorem la_deeds {k : Nat} (h : LandAt k) : DeedsAt (k + 6) := by
  unfold LandAt at h
  unfold DeedsAt
  omega
theorem de_kd {k : Nat} (h : DeedsAt k) : kd k = 0 := by rcases h with rfl | rfl | rfl | rfl | rfl <;> rfl
theorem de_rf0 {k : Nat} (h : DeedsAt k) : rf k 0 = k + 1 := by rcases h with rfl | rfl | rfl | rfl | rfl <;> rfl
theorem de_rf1 {k : Nat} (h : DeedsAt k) : rf k 1 = k + 2 := by rcases h with rfl | rfl | rfl | rfl | rfl <;> rfl
theorem de_rf2 {k : Nat} (h : DeedsAt k) : rf k 2 = k + 3 := by rcases h with rfl | rfl | rfl | rfl | rfl <;> rfl
theorem de_rf3 {k : Nat} (h : DeedsAt k) : rf k 3 = k + 4 := by rcases h with rfl | rfl | rfl | rfl | rfl <;> rfl
theorem de_rf4 {k : Nat} (h : DeedsAt k) : rf k 4 = k + 5 := by rcases h with rfl | rfl | rfl | rfl | rfl <;> rfl
theorem de_k1 {k : Nat} (h : DeedsAt k) : kd (k + 1) = 10 := by rcases h with rfl | rfl | rfl | rfl | rfl <;> rfl
theorem de_k2 {k : Nat} (h : DeedsAt k) : kd (k + 2) = 10 := by rcases h with rfl | rfl | rfl | rfl | rfl <;> rfl
theorem de_k3 {k : Nat} (h : DeedsAt k) : kd (k + 3) = 10 := by rcases h with rfl | rfl | rfl | rfl | rfl <;> rfl
theorem de_k4 {k : Nat} (h : DeedsAt k) : kd (k + 4) = 10 := by rcases h with rfl | rfl | rfl | rfl | rfl <;> rfl
theorem de_k5 {k : Nat} (h : DeedsAt k) : kd (k + 5) = 10 := by rcases h with rfl | rfl | rfl | rfl | rfl <;> rfl
theorem de_l1 {k : Nat} (h : DeedsAt k) : ln (k + 1) = 40 := by rcases h with rfl | rfl | rfl | rfl | rfl <;> rfl
theorem de_l2 {k : Nat} (h : DeedsAt k) : ln (k + 2) = 40 := by rcases h with rfl | rfl | rfl | rfl | rfl <;> rfl
theorem de_l3 {k : Nat} (h : DeedsAt k) : ln (k + 3) = 40 := by rcases h with rfl | rfl | rfl | rfl | rfl <;> rfl
theorem de_l4 {k : Nat} (h : DeedsAt k) : ln (k + 4) = 40 := by rcases h with rfl | rfl | rfl | rfl | rfl <;> rfl
theorem de_l5 {k : Nat} (h : DeedsAt k) : ln (k + 5) = 40 := by rcases h with rfl | rfl | rfl | rfl | rfl <;> rfl
theorem ra_cases {k : Nat} (h : RowAt k) : k = 8 ∨ k = 9 ∨ k = 10 ∨ k = 11 ∨ k = 12 ∨ k = 13 ∨ k = 14 ∨ k = 15 ∨ k = 16 ∨ k = 17 := by
  have h1 := h.1
  have h2 := h.2
  omega
theorem ra_kd {k : Nat} (h : RowAt k) : kd k = 3 := by rcases ra_cases h with rfl | rfl | rfl | rfl | rfl | rfl | rfl | rfl | rfl | rfl <;> rfl
theorem ra_rf {k : Nat} (h : RowAt k) : rf k 0 = k + 10 := by rcases ra_cases h with rfl | rfl | rfl | rfl | rfl | rfl | rfl | rfl | rfl | rfl <;> rfl
theorem ra_k {k : Nat} (h : RowAt k) : kd (k + 10) = 10 := by rcases ra_cases h with rfl | rfl | rfl | rfl | rfl | rfl | rfl | rfl | rfl | rfl <;> rfl
theorem ra_l {k : Nat} (h : RowAt k) : ln (k + 10) < 2 ^ 31 := by rcases ra_cases h with rfl | rfl | rfl | rfl | rfl | rfl | rfl | rfl | rfl | rfl <;> decide
theorem sh_kd {k : Nat} (h : ShelfAt k) : kd k = 12 := by rcases h with rfl | rfl <;> rfl
theorem ra_1 {n : Nat} {e : Int32} (h : ix e n 6) : RowAt (8 + n) := by
  have := h.2.2
  unfold RowAt
  omega
theorem ra_2 {n : Nat} {e : Int32} (h : ix e n 4) : RowAt (14 + n) := by
  have := h.2.2
  unfold RowAt
  omega
theorem ra_F {k n : Nat} {e : Int32} (hk : ShelfAt k) (h : ix e n (ln k)) : RowAt (rf k n) := by
  rcases hk with rfl | rfl
  · exact ra_1 h
  · exact ra_2 h
theorem la_3 {n : Nat} {e : Int32} (h : ix e n 3) : LandAt (52 + 12 * n) := by
  have := h.2.2
  unfold LandAt
  omega
theorem la28 : LandAt 28 := by unfold LandAt; omega
theorem la40 : LandAt 40 := by unfold LandAt; omega
theorem ix_ln {i : Int32} {n len k : Nat} (h : ix i n len) (e : ln k = len) : ix i n (ln k) := e ▸ h
theorem nm_S {T : Sg} (h : ∀ S' : Sg, S' = T → Ev G l μ d pc ls st S' Q) : Ev G l μ d pc ls st T Q := h T rfl
theorem nm_i {x : Int32} (h : ∀ y : Int32, y = x → Ev G l μ d pc ls (.int y :: st) S Q) : Ev G l μ d pc ls (.int x :: st) S Q := h x rfl
theorem nm_l {x : Int64} (h : ∀ y : Int64, y = x → Ev G l μ d pc ls (.long y :: st) S Q) : Ev G l μ d pc ls (.long x :: st) S Q := h x rfl
def lsub : List (Option Value) → List (Option Value) → Prop
  | [], _ => True
  | none :: t, _ :: t' => lsub t t'
  | some v :: t, x :: t' => x = some v ∧ lsub t t'
  | _ :: _, [] => False
theorem ls_0 {l : List (Option Value)} : lsub [] l := trivial
theorem ls_n {t t' : List (Option Value)} {x : Option Value} (h : lsub t t') : lsub (none :: t) (x :: t') := h
theorem ls_s {t t' : List (Option Value)} {v : Value} (h : lsub t t') : lsub (some v :: t) (some v :: t') := ⟨rfl, h⟩
theorem lsub_at : ∀ (a b : List (Option Value)), lsub a b → ∀ (j : Nat) (v : Value), a[j]? = some (some v) → b[j]? = some (some v)
  | [], _, _, j, v, hj => by simp at hj
  | none :: t, [], h, j, v, hj => h.elim
  | some w :: t, [], h, j, v, hj => h.elim
  | none :: t, x :: t', h, 0, v, hj => by simp at hj
  | none :: t, x :: t', h, j + 1, v, hj => by
    simp only [List.getElem?_cons_succ] at hj ⊢
    exact lsub_at t t' h j v hj
  | some w :: t, x :: t', h, 0, v, hj => by
    simp only [List.getElem?_cons_zero, Option.some.injEq] at hj ⊢
    rw [h.1, hj]
  | some w :: t, x :: t', h, j + 1, v, hj => by
    simp only [List.getElem?_cons_succ] at hj ⊢
    exact lsub_at t t' h.2 j v hj
theorem Ev.sub {ls' : List (Option Value)} (hs : lsub ls' ls) (h : Ev G l μ d pc ls' st S Q) : Ev G l μ d pc ls st S Q := Ev.less (lsub_at ls' ls hs) h
def FI (own : String) (idx c i : Nat) : Prop := FL own idx c i ∧ c < 6 ∧ i < cN c ∧ fk c i = 0
def FJ (own : String) (idx c i : Nat) : Prop := FL own idx c i ∧ c < 6 ∧ i < cN c ∧ fk c i = 1
def FR (own : String) (idx c i : Nat) : Prop := FL own idx c i ∧ c < 6 ∧ i < cN c ∧ fk c i = 2
theorem g_I {idx k c i : Nat} (hF : FI μ.1.cls idx c i) (hd : decode μ.2.1 pc = .ok (.getfield idx, 3)) (hk : kd k = c) (h : Ev G l μ d (pc + 3) ls (.int (S.1 k i) :: st) S Q) : Ev G l μ d pc ls (.ref k :: st) S Q := r_getI c hF.1 hd hk hF.2.1 hF.2.2.1 hF.2.2.2 h
theorem g_L {idx k c i : Nat} (hF : FJ μ.1.cls idx c i) (hd : decode μ.2.1 pc = .ok (.getfield idx, 3)) (hk : kd k = c) (h : Ev G l μ d (pc + 3) ls (.long (S.2 k i) :: st) S Q) : Ev G l μ d pc ls (.ref k :: st) S Q := r_getL c hF.1 hd hk hF.2.1 hF.2.2.1 hF.2.2.2 h
theorem g_R {idx k k' c i : Nat} (hF : FR μ.1.cls idx c i) (hd : decode μ.2.1 pc = .ok (.getfield idx, 3)) (hk : kd k = c) (hr : rf k i = k') (h : Ev G l μ d (pc + 3) ls (.ref k' :: st) S Q) : Ev G l μ d pc ls (.ref k :: st) S Q := r_getR c hF.1 hd hk hF.2.1 hF.2.2.1 hF.2.2.2 hr h
theorem p_I {idx k c i : Nat} {v : Int32} (hF : FI μ.1.cls idx c i) (hw : (cT c i).2.2.2 = false ∧ cTy c i = .int) (hd : decode μ.2.1 pc = .ok (.putfield idx, 3)) (hk : kd k = c) (h : Ev G l μ d (pc + 3) ls st (u2 S.1 k i v, S.2) Q) : Ev G l μ d pc ls (.int v :: .ref k :: st) S Q := r_putI c hF.1 hd hk hF.2.1 hF.2.2.1 hF.2.2.2 hw.1 (by rw [hw.2]; rfl) (by rw [hw.2]; rfl) h
theorem p_Z {idx k c i : Nat} {v : Int32} (hF : FI μ.1.cls idx c i) (hw : (cT c i).2.2.2 = false ∧ cTy c i = .boolean) (hv : zb v) (hd : decode μ.2.1 pc = .ok (.putfield idx, 3)) (hk : kd k = c) (h : Ev G l μ d (pc + 3) ls st (u2 S.1 k i v, S.2) Q) : Ev G l μ d pc ls (.int v :: .ref k :: st) S Q := r_putI c hF.1 hd hk hF.2.1 hF.2.2.1 hF.2.2.2 hw.1 (by rw [hw.2]; exact hv) (by rw [hw.2]; exact zb_f hv) h
theorem p_L {idx k c i : Nat} {v : Int64} (hF : FJ μ.1.cls idx c i) (hw : (cT c i).2.2.2 = false ∧ cTy c i = .long) (hd : decode μ.2.1 pc = .ok (.putfield idx, 3)) (hk : kd k = c) (h : Ev G l μ d (pc + 3) ls st (S.1, u2 S.2 k i v) Q) : Ev G l μ d pc ls (.long v :: .ref k :: st) S Q := r_putL c hF.1 hd hk hF.2.1 hF.2.2.1 hF.2.2.2 hw.1 hw.2 h
end more
