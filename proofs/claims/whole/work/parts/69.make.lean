/-! constructors: walks over a world that grows; its cells by the order of their making -/
abbrev Fw : Type := Nat → Nat × va_E
def dW (n : Nat) (f : Fw) : va_W := (List.range n).map f
def up (f : Fw) (i : Nat) (x : Nat × va_E) : Fw := fun j => if j = i then x else f j
theorem up_s {f : Fw} {i : Nat} {x : Nat × va_E} : up f i x i = x := if_pos rfl
theorem up_o {f : Fw} {i j : Nat} {x : Nat × va_E} (h : j ≠ i) : up f i x j = f j := if_neg h
theorem dW_at {n i : Nat} {f : Fw} (h : i < n) : (dW n f)[i]? = some (f i) := by simp [dW, h]
theorem dW_push {n : Nat} {f : Fw} {x : Nat × va_E} : dW n f ++ [x] = dW (n + 1) (up f n x) := by
  unfold dW
  rw [List.range_succ, List.map_append]
  congr 1
  · apply List.map_congr_left
    intro a ha
    have := List.mem_range.mp ha
    rw [up_o (by omega)]
  · simp [up_s]
theorem dW_set {n i : Nat} {f : Fw} {x : Nat × va_E} (h : i < n) : (dW n f).set i x = dW n (up f i x) :=
  (map_range_set f (up f i x) n i x h up_s (fun a ha => up_o ha)).symm
/-- an object by its fields -/
def ob (c : Nat) (g : Nat → Value) : va_E := .inr (c, (List.range (cN c)).map g)
def uv (g : Nat → Value) (i : Nat) (v : Value) : Nat → Value := fun j => if j = i then v else g j
theorem uv_s {g : Nat → Value} {i : Nat} {v : Value} : uv g i v i = v := if_pos rfl
theorem uv_o {g : Nat → Value} {i j : Nat} {v : Value} (h : j ≠ i) : uv g i v j = g j := if_neg h
theorem ob_set {c i : Nat} {g : Nat → Value} {v : Value} (h : i < cN c) : ((List.range (cN c)).map g).set i v = (List.range (cN c)).map (uv g i v) :=
  (map_range_set g (uv g i v) (cN c) i v h uv_s (fun a ha => uv_o ha)).symm
theorem vp_V_map {N j : Nat} {g : Nat → Value} (h : j < N) : vp_V ((List.range N).map g) j = g j := by
  unfold vp_V
  simp [List.getD, h]
abbrev Nv : Type := va_G × (Nat → ClassId)
def ia (D : Nv) (len : Nat) (r : Nat → Int32) : va_E := .inl (D.2 0, (len, .inl r))
def za (D : Nv) (len : Nat) (r : Nat → Int32) : va_E := .inl (D.2 1, (len, .inl r))
def ra (D : Nv) (t len : Nat) (r : Nat → Option Nat) : va_E := .inl (D.2 t, (len, .inr (.inr (.inr (.inr r)))))
def g0 (D : Nv) : Gl := (((D.1, fun k => k), D.2), (0, fun _ => 0))
/-- the links to the nest mates' private constructors -/
def nestK : List (String × Nat × MethodName × String) := [("ShyStrip", 20, ⟨"ShyStrip$Land", "<init>", "()V"⟩, "ShyStrip"), ("ShyStrip$Land", 57, ⟨"ShyStrip$Deeds", "<init>", "()V"⟩, "ShyStrip"), ("ShyStrip", 34, ⟨"ShyStrip$Reader", "<init>", "()V"⟩, "ShyStrip")]
def Nk (U : State) : Prop := (∀ q ∈ nestK, va_Nw (.methodLinkNest q.1 q.2.1 q.2.2.1 q.2.2.2) U) ∧ va_AO "ShyStrip$Row" U ∧ va_AO "ShyStrip$Land" U
theorem Nk.warm {s U : State} (hW : s.WarmedH U.vm) (h : Nk s) : Nk U := ⟨fun q hq => va_Nw.warmM hW (h.1 q hq), va_AO.moved hW.alike h.2.1, va_AO.moved hW.alike h.2.2⟩
theorem Nk.same {u U : State} (hv : u.vm = U.vm) (h : Nk u) : Nk U := by
  have ha : u.vm.Alike U.vm := by rw [← hv]; exact Vm.Alike.refl u.vm
  exact ⟨fun q hq => va_Nw.same rfl hv (h.1 q hq), va_AO.moved ha h.2.1, va_AO.moved ha h.2.2⟩
def Cy (D : Nv) (μ : Mt) (d : Nat) (A : Nat → Prop) (p : Program) (R : Room) (s : State) (m : MethodId) (args : Array Value) (meth : Method) (c : Code) : Prop :=
  p.tables.exec = Jvm.exec ∧ c.code = μ.2.1 ∧ c.maxLocals = μ.2.2.1 ∧ s.vm.findClass μ.1.cls = some m.cls ∧ (∀ w ∈ gtb, w.before args s = true) ∧ (d + 1 ≤ R.frames ∧ 100 * (d + 1) ≤ R.locals) ∧ (∀ q, s.heap.size ≤ q → A q) ∧ va_K D.1 vwCl (tyL (g0 D)) s ∧ (μ.1.name = "<init>" → meth.name = "<init>") ∧ Nk s
abbrev En : Type := Nat → List (Option Value) → List Value → Nat → Fw → Prop
/-- from here on, by at most so many cells more, of so many slots, the method comes to a place, with what E says -/
def Ek (D : Nv) (l : Launch) (μ : Mt) (d pc : Nat) (ls : List (Option Value)) (st : List Value) (n : Nat) (f : Fw) (k sl : Nat) (E : En) : Prop :=
  ∀ ⦃A : Nat → Prop⦄ ⦃p : Program⦄ ⦃e : Env⦄ ⦃R : Room⦄ ⦃s : State⦄ ⦃m : MethodId⦄ ⦃args : Array Value⦄ ⦃below : List Frame⦄ ⦃meth : Method⦄ ⦃c : Code⦄ ⦃H : Heap⦄ ⦃locs : List Loc⦄ ⦃cells slots : Nat⦄ ⦃Z : State → Prop⦄ ⦃la : Array Slot⦄,
    Cy D μ d A p R s m args meth c → va_P D.1 vwCl (dW n f) H → va_D A (dW n f) → va_S A s.heap H locs → lv_has la μ.2.2.1 (lcs (g0 D) 0 ls) → (cells + k ≤ R.cells ∧ slots + sl ≤ R.slots) →
    (∀ (pc' : Nat) (ls' : List (Option Value)) (st' : List Value) (n' : Nat) (f' : Fw) (H' : Heap) (locs' : List Loc) (la' : Array Slot), E pc' ls' st' n' f' → va_P D.1 vwCl (dW n' f') H' → va_D A (dW n' f') → va_S A s.heap H' locs' → lv_has la' μ.2.2.1 (lcs (g0 D) 0 ls') → W p l e R s m args below meth c H' locs' (cells + k) (slots + sl) Z (F0 m pc' la' st')) →
    W p l e R s m args below meth c H locs cells slots Z (F0 m pc la st)
section krules
variable {D : Nv} {l : Launch} {μ : Mt} {d pc : Nat} {ls : List (Option Value)} {st : List Value} {n : Nat} {f : Fw} {k sl : Nat} {E : En}
theorem k_end (h : E pc ls st n f) : Ek D l μ d pc ls st n f k sl E := by
  intro A p e R s m args below meth c H locs cells slots Z la C hP hD hS hl hr hend
  exact W.widen (k := cells + k) (n := slots + sl) (by omega) (by omega) (hend _ _ _ _ _ _ _ _ h hP hD hS hl)
theorem k_aload {i x : Nat} {j : Fin 4} (hd : decode μ.2.1 pc = .ok (.aload_n j, 1)) (hi : (j : Nat) = i) (hl0 : ls[i]? = some (some (.ref x))) (h : Ek D l μ d (pc + 1) ls (.ref x :: st) n f k sl E) : Ek D l μ d pc ls st n f k sl E := by
  intro A p e R s m args below meth c H locs cells slots Z la C hP hD hS hl hr hend
  exact lv_aload_n C.1 C.2.1 hd hi (lc_at hl hl0) (h C hP hD hS hl hr hend)
theorem k_iload {i : Nat} {x : Int32} {j : Fin 4} (hd : decode μ.2.1 pc = .ok (.iload_n j, 1)) (hi : (j : Nat) = i) (hl0 : ls[i]? = some (some (.int x))) (h : Ek D l μ d (pc + 1) ls (.int x :: st) n f k sl E) : Ek D l μ d pc ls st n f k sl E := by
  intro A p e R s m args below meth c H locs cells slots Z la C hP hD hS hl hr hend
  exact lv_iload_n C.1 C.2.1 hd hi (lc_at hl hl0) (h C hP hD hS hl hr hend)
theorem k_iconst {i : Int} {v : Int32} (hd : decode μ.2.1 pc = .ok (.iconst i, 1)) (hv : Int32.ofInt i = v) (h : Ek D l μ d (pc + 1) ls (.int v :: st) n f k sl E) : Ek D l μ d pc ls st n f k sl E := by
  intro A p e R s m args below meth c H locs cells slots Z la C hP hD hS hl hr hend
  exact lv_iconst C.1 C.2.1 hd hv (h C hP hD hS hl hr hend)
theorem k_bipush {i : Int} {v : Int32} (hd : decode μ.2.1 pc = .ok (.bipush i, 2)) (hv : (Int8.ofInt i).toInt32 = v) (h : Ek D l μ d (pc + 2) ls (.int v :: st) n f k sl E) : Ek D l μ d pc ls st n f k sl E := by
  intro A p e R s m args below meth c H locs cells slots Z la C hP hD hS hl hr hend
  exact lv_bipush C.1 C.2.1 hd hv (h C hP hD hS hl hr hend)
theorem k_sipush {i : Int} {v : Int32} (hd : decode μ.2.1 pc = .ok (.sipush i, 3)) (hv : (Int16.ofInt i).toInt32 = v) (h : Ek D l μ d (pc + 3) ls (.int v :: st) n f k sl E) : Ek D l μ d pc ls st n f k sl E := by
  intro A p e R s m args below meth c H locs cells slots Z la C hP hD hS hl hr hend
  exact lv_sipush C.1 C.2.1 hd hv (h C hP hD hS hl hr hend)
theorem k_lconst {i : Fin 2} {v : Int64} (hd : decode μ.2.1 pc = .ok (.lconst i, 1)) (hv : Int64.ofNat (i : Nat) = v) (h : Ek D l μ d (pc + 1) ls (.long v :: st) n f k sl E) : Ek D l μ d pc ls st n f k sl E := by
  intro A p e R s m args below meth c H locs cells slots Z la C hP hD hS hl hr hend
  exact lv_lconst C.1 C.2.1 hd hv (h C hP hD hS hl hr hend)
theorem k_dup {v : Value} (hd : decode μ.2.1 pc = .ok (.dup, 1)) (hv : v.category = 1) (h : Ek D l μ d (pc + 1) ls (v :: v :: st) n f k sl E) : Ek D l μ d pc ls (v :: st) n f k sl E := by
  intro A p e R s m args below meth c H locs cells slots Z la C hP hD hS hl hr hend
  exact lv_dup C.1 C.2.1 hd hv (h C hP hD hS hl hr hend)
theorem k_istore {i : Nat} {x : Int32} {j : Fin 4} {ls' : List (Option Value)} (hd : decode μ.2.1 pc = .ok (.istore_n j, 1)) (hi : (j : Nat) = i) (hn : i < μ.2.2.1) (hok : okS ls i = true) (hls : (ls.set i (some (.int x))) = ls') (h : Ek D l μ d (pc + 1) ls' st n f k sl E) : Ek D l μ d pc ls (.int x :: st) n f k sl E := by
  intro A p e R s m args below meth c H locs cells slots Z la C hP hD hS hl hr hend
  subst hls
  exact lv_istore_n C.1 C.2.1 hd hi hl hn rfl (fun ls2 hl2 => h C hP hD hS (lv_less hl2 (lc_set hok)) hr hend)
theorem k_astore {i x : Nat} {j : Fin 4} {ls' : List (Option Value)} (hd : decode μ.2.1 pc = .ok (.astore_n j, 1)) (hi : (j : Nat) = i) (hn : i < μ.2.2.1) (hok : okS ls i = true) (hls : (ls.set i (some (.ref x))) = ls') (h : Ek D l μ d (pc + 1) ls' st n f k sl E) : Ek D l μ d pc ls (.ref x :: st) n f k sl E := by
  intro A p e R s m args below meth c H locs cells slots Z la C hP hD hS hl hr hend
  subst hls
  exact lv_astore_n C.1 C.2.1 hd hi hl hn rfl (fun ls2 hl2 => h C hP hD hS (lv_less hl2 (lc_set (G := g0 D) (v := .ref x) hok)) hr hend)
theorem k_iinc {i : Nat} {a : Int} {x y : Int32} {ls' : List (Option Value)} (hd : decode μ.2.1 pc = .ok (.iinc i a, 3)) (hl0 : ls[i]? = some (some (.int x))) (hv : Int32.ofInt a = y) (hn : i < μ.2.2.1) (hok : okS ls i = true) (hls : ls.set i (some (.int (x + y))) = ls') (h : Ek D l μ d (pc + 3) ls' st n f k sl E) : Ek D l μ d pc ls st n f k sl E := by
  intro A p e R s m args below meth c H locs cells slots Z la C hP hD hS hl hr hend
  subst hls
  subst hv
  obtain ⟨q, hk⟩ := lc_place (G := g0 D) hl0
  exact lv_iinc (v := x + Int32.ofInt a) C.1 C.2.1 hd hl hk rfl hn rfl (fun ls2 hl2 => h C hP hD hS (lv_less hl2 (lc_set hok)) hr hend)
theorem k_goto {off : Int} {tgt : Nat} (hd : decode μ.2.1 pc = .ok (.goto off, 3)) (ht : (pc : Int) + off = (tgt : Int)) (h : Ek D l μ d tgt ls st n f k sl E) : Ek D l μ d pc ls st n f k sl E := by
  intro A p e R s m args below meth c H locs cells slots Z la C hP hD hS hl hr hend
  exact lv_goto C.1 C.2.1 hd ht (h C hP hD hS hl hr hend)
theorem k_icmp_ge {x y : Int32} {off : Int} {tgt : Nat} (hd : decode μ.2.1 pc = .ok (.if_icmp .ge off, 3)) (ht : (pc : Int) + off = (tgt : Int)) (h : (y ≤ x → Ek D l μ d tgt ls st n f k sl E) ∧ (¬ (y ≤ x) → Ek D l μ d (pc + 3) ls st n f k sl E)) : Ek D l μ d pc ls (.int y :: .int x :: st) n f k sl E := by
  intro A p e R s m args below meth c H locs cells slots Z la C hP hD hS hl hr hend
  exact lv_icmp_ge C.1 C.2.1 hd ht (fun q => h.1 q C hP hD hS hl hr hend) (fun q => h.2 q C hP hD hS hl hr hend)
def OW (own : String) (idx : Nat) : Prop := Cond.methodLink own idx objectInit ∈ gtb ∧ Cond.instanceMethod objectInit ∈ gtb ∧ Cond.code objectInit ⟨#[0xb1]⟩ 1 none ∈ gtb
theorem k_obj {idx x : Nat} (hw : OW μ.1.cls idx) (hd : decode μ.2.1 pc = .ok (.invokespecial idx, 3)) (h : Ek D l μ d (pc + 3) ls [] n f k sl E) : Ek D l μ d pc ls [.ref x] n f k sl E := by
  intro A p e R s m args below meth c H locs cells slots Z la C hP hD hS hl hr hend
  have hR := C.2.2.2.2.2.1
  refine W.objInit C.1 C.2.1 C.2.2.2.1 (C.2.2.2.2.1 _ hw.1) (C.2.2.2.2.1 _ hw.2.1) (C.2.2.2.2.1 _ hw.2.2) rfl (hl.1.trans C.2.2.1.symm) rfl hd (by omega) (Nat.le_trans (show _ ≤ 100 from Nat.le_of_ble_eq_true rfl) (by omega)) ?_
  refine W.eq (g2 := F0 m (pc + 3) la []) rfl ?_
  exact h C hP hD hS hl hr hend
theorem k_newa {N idx : Nat} {v : Int32} (hd : decode μ.2.1 pc = .ok (.newarray .int, 2)) (hw : Cond.arrayClass .int ∈ gtb) (hv : v = nI N) (hN : N ≤ 2000) (h : ∀ q : Nat, Ek D l μ d (pc + 2) ls (.ref q :: st) (n + 1) (up f n (q, ia D N (fun _ => 0))) k sl E) : Ek D l μ d pc ls (.int v :: st) n f (k + 1) (sl + N) E := by
  intro A p e R s m args below meth c H locs cells slots Z la C hP hD hS hl hr hend
  subst hv
  have hK := C.2.2.2.2.2.2.2.1
  refine va_newa (atype := .int) (ty := .int) (a0 := (N, .inl (fun _ => 0))) C.1 C.2.1 (C.2.2.2.2.1 _ hw) rfl hK hP hD hS C.2.2.2.2.2.2.1 (fun cA => by rw [vp_cell_i]; rfl) (nI_pos (by omega)) (nI_clamp (by omega)) (by show N * 4 ≤ _; omega) (by omega) (by omega) hd ?_
  intro q cA H1 hK1 hP1 hD1 hS1
  have e0 := (hK.2 0 _ rfl).2
  have e1 := (hK1.2 4 (cA, .int) rfl).2
  have e : cA = D.2 0 := Option.some.inj (e1.symm.trans e0)
  subst e
  rw [dW_push] at hP1 hD1
  refine h q C hP1 hD1 hS1 hl (by omega) (fun pc' ls' st' n' f' H' locs' la' a1 a2 a3 a4 a5 => ?_)
  have := hend pc' ls' st' n' f' H' locs' la' a1 a2 a3 a4 a5
  rw [show cells + 1 + k = cells + (k + 1) by omega, show slots + N + sl = slots + (sl + N) by omega]
  exact this
theorem k_newz {N idx : Nat} {v : Int32} (hd : decode μ.2.1 pc = .ok (.newarray .boolean, 2)) (hw : Cond.arrayClass .boolean ∈ gtb) (hv : v = nI N) (hN : N ≤ 2000) (h : ∀ q : Nat, Ek D l μ d (pc + 2) ls (.ref q :: st) (n + 1) (up f n (q, za D N (fun _ => 0))) k sl E) : Ek D l μ d pc ls (.int v :: st) n f (k + 1) (sl + N) E := by
  intro A p e R s m args below meth c H locs cells slots Z la C hP hD hS hl hr hend
  subst hv
  have hK := C.2.2.2.2.2.2.2.1
  refine va_newa (atype := .boolean) (ty := .boolean) (a0 := (N, .inl (fun _ => 0))) C.1 C.2.1 (C.2.2.2.2.1 _ hw) rfl hK hP hD hS C.2.2.2.2.2.2.1 (fun cA => by rw [vp_cell_i]; rfl) (nI_pos (by omega)) (nI_clamp (by omega)) (by show N * 1 ≤ _; omega) (by omega) (by omega) hd ?_
  intro q cA H1 hK1 hP1 hD1 hS1
  have e0 := (hK.2 1 _ rfl).2
  have e1 := (hK1.2 4 (cA, .boolean) rfl).2
  have e : cA = D.2 1 := Option.some.inj (e1.symm.trans e0)
  subst e
  rw [dW_push] at hP1 hD1
  refine h q C hP1 hD1 hS1 hl (by omega) (fun pc' ls' st' n' f' H' locs' la' a1 a2 a3 a4 a5 => ?_)
  have := hend pc' ls' st' n' f' H' locs' la' a1 a2 a3 a4 a5
  rw [show cells + 1 + k = cells + (k + 1) by omega, show slots + N + sl = slots + (sl + N) by omega]
  exact this
theorem k_newq {N idx t : Nat} {Cn : String} {v : Int32} (hw : Cond.classLink μ.1.cls idx Cn ∈ gtb ∧ (Cn = "ShyStrip$Row" ∨ Cn = "ShyStrip$Land")) (hd : decode μ.2.1 pc = .ok (.anewarray idx, 3)) (ht : (tyL (g0 D))[t]? = some (D.2 t, .object Cn)) (hv : v = nI N) (hN : N ≤ 2000) (h : ∀ q : Nat, Ek D l μ d (pc + 3) ls (.ref q :: st) (n + 1) (up f n (q, ra D t N (fun _ => none))) k sl E) : Ek D l μ d pc ls (.int v :: st) n f (k + 1) (sl + N) E := by
  intro A p e R s m args below meth c H locs cells slots Z la C hP hD hS hl hr hend
  subst hv
  have hK := C.2.2.2.2.2.2.2.1
  have hAO : va_AO Cn s := by
    have hNk := C.2.2.2.2.2.2.2.2.2
    rcases hw.2 with z | z
    · rw [z]; exact hNk.2.1
    · rw [z]; exact hNk.2.2
  refine va_newq (C := Cn) C.1 C.2.1 C.2.2.2.1 (C.2.2.2.2.1 _ hw.1) hAO hK hP hD hS C.2.2.2.2.2.2.1 (nI_pos (by omega)) (nI_clamp (by omega)) (by omega) (by omega) (by omega) hd ?_
  intro q cA H1 hK1 hP1 hD1 hS1
  obtain ⟨-, -, -, -, -, e0⟩ := (hK.2 t _ ht).2
  obtain ⟨-, -, -, -, -, e1⟩ := (hK1.2 4 (cA, .object Cn) rfl).2
  have e : cA = D.2 t := Option.some.inj (e1.symm.trans e0)
  subst e
  rw [dW_push] at hP1 hD1
  refine h q C hP1 hD1 hS1 hl (by omega) (fun pc' ls' st' n' f' H' locs' la' a1 a2 a3 a4 a5 => ?_)
  have := hend pc' ls' st' n' f' H' locs' la' a1 a2 a3 a4 a5
  rw [show cells + 1 + k = cells + (k + 1) by omega, show slots + N + sl = slots + (sl + N) by omega]
  exact this
theorem k_new {c idx : Nat} (hc : c < 6) (hw : Cond.classLink μ.1.cls idx (cC c) ∈ gtb ∧ Cond.instantiable (cC c) (cN c) ∈ gtb ∧ Cond.initialized (cC c) ∈ gtb) (hd : decode μ.2.1 pc = .ok (.new idx, 3)) (h : ∀ q : Nat, Ek D l μ d (pc + 3) ls (.ref q :: st) (n + 1) (up f n (q, ob c (fun j => defaultValue (cTy c j)))) k sl E) : Ek D l μ d pc ls st n f (k + 1) (sl + cN c) E := by
  intro A p e R s m args below meth c0 H locs cells slots Z la C hP hD hS hl hr hend
  have hK := C.2.2.2.2.2.2.2.1
  obtain ⟨hcl, hin, hty, hnm⟩ := cls_ok hc
  refine va_new (ci := c) (fs := (List.range (cN c)).map (fun j => defaultValue (cTy c j))) C.1 C.2.1 C.2.2.2.2.1 hin (cTy c) hty C.2.2.2.1 (C.2.2.2.2.1 _ hw.1) (C.2.2.2.2.1 _ hw.2.1) (C.2.2.2.2.1 _ hw.2.2) hK hP hD hS C.2.2.2.2.2.2.1 hcl (fun j hj => (vp_V_map (g := fun j => defaultValue (cTy c j)) hj).symm) (by omega) (by omega) hd ?_
  intro q H1 hP1 hD1 hS1
  rw [dW_push] at hP1 hD1
  refine h q C hP1 hD1 hS1 hl (by omega) (fun pc' ls' st' n' f' H' locs' la' a1 a2 a3 a4 a5 => ?_)
  have := hend pc' ls' st' n' f' H' locs' la' a1 a2 a3 a4 a5
  rw [show cells + 1 + k = cells + (k + 1) by omega, show slots + cN c + sl = slots + (sl + cN c) by omega]
  exact this
theorem k_put {c i idx i0 x : Nat} {v : Value} {g : Nat → Value} (hF : FL μ.1.cls idx c i) (hd : decode μ.2.1 pc = .ok (.putfield idx, 3)) (hi0 : i0 < n) (hf : f i0 = (x, ob c g)) (hc : c < 6) (hi : i < cN c) (hfin : (cT c i).2.2.2 = false) (hn : narrow (cTy c i) v = v) (hfit : fits (cTy c i) v = true) (h : Ek D l μ d (pc + 3) ls st n (up f i0 (x, ob c (uv g i v))) k sl E) : Ek D l μ d pc ls (v :: .ref x :: st) n f k sl E := by
  intro A p e R s m args below meth c0 H locs cells slots Z la C hP hD hS hl hr hend
  obtain ⟨hcl, hin, hty, hnm⟩ := cls_ok hc
  refine va_put (ty := cTy c i) C.1 C.2.1 C.2.2.2.2.1 hin (cTy c) hty hnm C.2.2.2.1 C.2.2.2.2.2.2.2.1 hP hD hS i0 (ci := c) ((dW_at hi0).trans (by rw [hf]; rfl)) hcl i hi (C.2.2.2.2.1 _ hF) (fun _ h => h) hfin (hty i hi) hn hfit (by simpa using hi) hd ?_
  intro H1 locs1 hP1 hD1 hS1
  rw [dW_set hi0, ob_set hi] at hP1 hD1
  exact h C hP1 hD1 hS1 hl hr hend
theorem k_putF {c i idx i0 x : Nat} {v : Value} {g : Nat → Value} (hF : FL μ.1.cls idx c i) (hd : decode μ.2.1 pc = .ok (.putfield idx, 3)) (hi0 : i0 < n) (hf : f i0 = (x, ob c g)) (hc : c < 6) (hi : i < cN c) (hfin : (cT c i).2.2.2 = true) (hnm0 : μ.1.name = "<init>") (hdecl : (cT c i).1 = μ.1.cls) (hn : narrow (cTy c i) v = v) (hfit : fits (cTy c i) v = true) (h : Ek D l μ d (pc + 3) ls st n (up f i0 (x, ob c (uv g i v))) k sl E) : Ek D l μ d pc ls (v :: .ref x :: st) n f k sl E := by
  intro A p e R s m args below meth c0 H locs cells slots Z la C hP hD hS hl hr hend
  obtain ⟨hcl, hin, hty, hnm⟩ := cls_ok hc
  refine va_putF (ty := cTy c i) C.1 C.2.1 C.2.2.2.2.1 hin (cTy c) hty hnm C.2.2.2.1 C.2.2.2.2.2.2.2.1 hP hD hS i0 (ci := c) ((dW_at hi0).trans (by rw [hf]; rfl)) hcl i hi (C.2.2.2.2.1 _ hF) (fun _ h => h) hfin (C.2.2.2.2.2.2.2.2.1 hnm0) hdecl (hty i hi) hn hfit (by simpa using hi) hd ?_
  intro H1 locs1 hP1 hD1 hS1
  rw [dW_set hi0, ob_set hi] at hP1 hD1
  exact h C hP1 hD1 hS1 hl hr hend
theorem k_get {c i idx i0 x : Nat} {w : Value} {g : Nat → Value} (hF : FL μ.1.cls idx c i) (hd : decode μ.2.1 pc = .ok (.getfield idx, 3)) (hi0 : i0 < n) (hf : f i0 = (x, ob c g)) (hc : c < 6) (hi : i < cN c) (hw : g i = w) (h : Ek D l μ d (pc + 3) ls (w :: st) n f k sl E) : Ek D l μ d pc ls (.ref x :: st) n f k sl E := by
  intro A p e R s m args below meth c0 H locs cells slots Z la C hP hD hS hl hr hend
  obtain ⟨hcl, hin, hty, hnm⟩ := cls_ok hc
  refine va_get C.1 C.2.1 C.2.2.2.2.1 hin C.2.2.2.1 C.2.2.2.2.2.2.2.1 hP i0 (ci := c) ((dW_at hi0).trans (by rw [hf]; rfl)) hcl i hi (C.2.2.2.2.1 _ hF) (fun _ h => h) (v := w) (by simp [hi, hw]) hd ?_
  exact h C hP hD hS hl hr hend
theorem k_iast {i0 q len j : Nat} {i v : Int32} {r : Nat → Int32} (hd : decode μ.2.1 pc = .ok (.iastore, 1)) (hi0 : i0 < n) (hf : f i0 = (q, ia D len r)) (hix : ix i j len) (h : Ek D l μ d (pc + 1) ls st n (up f i0 (q, ia D len (upd r j v))) k sl E) : Ek D l μ d pc ls (.int v :: .int i :: .ref q :: st) n f k sl E := by
  intro A p e R s m args below meth c0 H locs cells slots Z la C hP hD hS hl hr hend
  refine va_iast C.1 C.2.1 C.2.2.2.2.2.2.2.1 hP hD hS i0 0 ((dW_at hi0).trans (by rw [hf]; rfl)) rfl (ix_in hix) hd ?_
  intro H1 locs1 hP1 hD1 hS1
  rw [hix.2.1, dW_set hi0] at hP1 hD1
  exact h C hP1 hD1 hS1 hl hr hend
theorem k_aast {i0 q t len j qk v cc : Nat} {i : Int32} {r : Nat → Option Nat} {g : Nat → Value} (hd : decode μ.2.1 pc = .ok (.aastore, 1)) (hi0 : i0 < n) (hf : f i0 = (q, ra D t len r)) (hqk : qk < n) (hfk : f qk = (v, ob cc g)) (hc : cc < 6) (ht : (tyL (g0 D))[t]? = some (D.2 t, .object (cC cc))) (hix : ix i j len) (h : Ek D l μ d (pc + 1) ls st n (up f i0 (q, ra D t len (va_up r j (some v)))) k sl E) : Ek D l μ d pc ls (.ref v :: .int i :: .ref q :: st) n f k sl E := by
  intro A p e R s m args below meth c0 H locs cells slots Z la C hP hD hS hl hr hend
  obtain ⟨hcl, hin, hty, hnm⟩ := cls_ok hc
  refine va_astq (ci := cc) C.1 C.2.1 C.2.2.2.2.2.2.2.1 hP hD hS i0 t qk ((dW_at hi0).trans (by rw [hf]; rfl)) ht ((dW_at hqk).trans (by rw [hfk]; rfl)) hcl (ix_in hix) hd ?_
  intro H1 locs1 hP1 hD1 hS1
  rw [hix.2.1, dW_set hi0] at hP1 hD1
  exact h C hP1 hD1 hS1 hl hr hend
/-- a constructor's contract -/
def Ck (D : Nv) (l : Launch) (μ : Mt) (d : Nat) (as : List Value) (n : Nat) (f : Fw) (k sl : Nat) (Q : Nat → Fw → Prop) : Prop := Ek D l μ d 0 (ini μ.2.2.1 as) [] n f k sl (fun pc _ st n' f' => decode μ.2.1 pc = .ok (.return_, 1) ∧ st = [] ∧ Q n' f')
def rmK (d k sl : Nat) : Room := { frames := d + 1, cells := k, slots := sl, locals := 100 * (d + 1) }
def PcK (D : Nv) (as : List Value) (n : Nat) (f : Fw) (sz : Nat) : Array Value → State → Prop := va_Pc as (fun U => U.heap.size = sz ∧ va_P D.1 vwCl (dW n f) U.heap ∧ va_D (fun _ => True) (dW n f) ∧ va_K D.1 vwCl (tyL (g0 D)) U ∧ Nk U)
def QcK (D : Nv) (n : Nat) (f : Fw) (sz : Nat) (Q : Nat → Fw → Prop) : Array Value → State → Outcome → State → Prop := va_Qv (fun u : Nat × Fw => Q u.1 u.2) (fun u t => va_P D.1 vwCl (dW u.1 u.2) t.heap ∧ va_D (va_A (dW n f) sz) (dW u.1 u.2)) (va_A (dW n f) sz)
def CkOk (μ : Mt) (n : Nat) : Prop := plainName μ.1.cls = true ∧ μ.2.2.2 = none ∧ n ≤ μ.2.2.1 ∧ μ.1.name = "<init>"
theorem g0_map (D : Nv) (as : List Value) : as.map (cv (g0 D)) = as := by
  induction as with
  | nil => rfl
  | cons v t ih =>
    rw [List.map_cons, ih]
    cases v <;> rfl
theorem ck_met {as : List Value} {sz : Nat} {Q : Nat → Fw → Prop} (hok : CkOk μ (lg_sl as).length) (h : Ck D l μ d as n f k sl Q) : Met l μ.1 (Cond.code μ.1 μ.2.1 μ.2.2.1 none :: gtb) (rmK d k sl) (PcK D as n f sz) (QcK D n f sz Q) k sl (va_A (dW n f) sz) := by
  refine Met.ofW (cc := μ.2.1) (maxL := μ.2.2.1) (ret := none) hok.1 rfl ?_
  intro p e s m args below meth c s₁ B hml hv
  obtain ⟨rfl, hsz, hP, hD0, hK, hN⟩ := hv
  have hx := B.exec
  have hb := B.bytes
  have hr := B.returns
  have hts0 := atoms_spec (ws := Cond.code μ.1 μ.2.1 μ.2.2.1 none :: gtb) B.pre
  have hts : ∀ w ∈ gtb, w.before as.toArray s = true := fun w hw => hts0 w (List.mem_cons_of_mem _ hw)
  have hown : s.vm.findClass μ.1.cls = some m.cls := findClass_of_methodNamed B.named
  have hlocks := B.notSynchronized
  have hin : meth.name = μ.1.name := (name_of_methodNamed B.named B.method).1
  subst hsz
  have hD := hD0.self (sz := s.heap.size)
  have hl := lv_entry as (n := μ.2.2.1) hok.2.2.1
  rw [lg_entry_eq]
  generalize (lg_sl as ++ List.replicate (μ.2.2.1 - (lg_sl as).length) Slot.unset).toArray = la at hl ⊢
  have hl2 : lv_has la μ.2.2.1 (lcs (g0 D) 0 (ini μ.2.2.1 as)) := lv_less hl (by
    have := ini_sub (g0 D) as μ.2.2.1 0
    rw [g0_map] at this
    exact this)
  refine h (A := va_A (dW n f) s.heap.size) ⟨hx, hb, hml, hown, hts, ⟨Nat.le_refl _, Nat.le_refl _⟩, fun q hq => Or.inr hq, hK, fun z => hin.trans z, hN⟩ hP hD va_S.rf hl2 (by rw [Nat.zero_add, Nat.zero_add]; exact ⟨Nat.le_refl _, Nat.le_refl _⟩) ?_
  intro pc' ls' st' n' f' H' locs' la' hE hP' hD' hS' hl'
  obtain ⟨e1, rfl, hQ⟩ := hE
  rw [Nat.zero_add, Nat.zero_add]
  exact W.vret hx hb hr (fun t ht hW => ⟨⟨(n', f'), rfl, hQ, by rw [ht]; exact hP', hD'⟩, hS'.F ht⟩) hS'.2.2 e1 hlocks
/-- a call's words -/
def CI (own : String) (idx : Nat) (μ2 : Mt) (n : Nat) : Prop := CB own idx μ2 n ∧ Cond.instanceMethod μ2.1 ∈ gtb
theorem k_call {μ2 : Mt} {d2 idx na x k2 s2 : Nat} {as stk : List Value} {Q2 : Nat → Fw → Prop} (cw : CI μ.1.cls idx μ2 na) (hd : decode μ.2.1 pc = .ok (.invokespecial idx, 3)) (hn : as.length = na) (hok : CkOk μ2 (lg_sl (.ref x :: as)).length) (hd2 : d2 < d) (hst : (st.map fun v => v.category).sum ≤ 8) (hstk : stk = as.reverse ++ .ref x :: st)
    (hm : Ck D l μ2 d2 (.ref x :: as) n f k2 s2 Q2) (kk : ∀ n' f', Q2 n' f' → Ek D l μ d (pc + 3) ls st n' f' k sl E) : Ek D l μ d pc ls stk n f (k + k2) (sl + s2) E := by
  intro A p e R s m args below meth c H locs cells slots Z la C hP hD hS hl hr hend
  subst hstk
  obtain ⟨⟨w1, w2, w3, w4, w5, w6⟩, w7⟩ := cw
  have hts := C.2.2.2.2.1
  have hR := C.2.2.2.2.2.1
  have hA := C.2.2.2.2.2.2.1
  have hK := C.2.2.2.2.2.2.2.1
  have hNk := C.2.2.2.2.2.2.2.2.2
  rw [hok.2.1] at w3
  have hFc : ∀ q, va_A (dW n f) H.size q → A q := by
    intro q hq
    rcases hq with ⟨i, e, h⟩ | h
    · exact hD.2 i _ h
    · exact hA q (Nat.le_trans hS.1 h)
  refine va_callv (va_runI (Ts := gtb) (own := μ.1.cls) (As := as) (rest := st) ⟨C.1, C.2.1, C.2.2.1, C.2.2.2.1, C.2.2.2.2.1⟩ (ck_met (sz := H.size) hok hm) (n := na) ⟨⟨rfl, rfl, ?_, ?_, ?_, List.mem_cons_self, hts _ w3, hts _ w2, w4, fun sig h => ?_, hts _ w1⟩, hok.2.2.2, hts _ w7⟩ ⟨fun a U g mk q => ?_, fun U hU hW => ⟨rfl, by rw [hU], by rw [hU]; exact hP, hD.weaken (fun _ _ _ _ => trivial), va_K.moved hW.alike hK, Nk.warm hW hNk⟩⟩ rfl hn (hl.1) rfl (lv_room hst) hd ⟨by omega, by omega⟩) hS (fun q _ h => hFc q h) hFc ?_
  · show d2 + 1 + 1 ≤ _
    omega
  · show 8 + (_ + 11) + 100 * (d2 + 1) ≤ _
    omega
  · intro w hw
    refine pay_in hts tbl_in w ?_
    rcases List.mem_cons.mp hw with h | h
    · rw [h]; exact w3
    · exact h
  · rw [h] at w5
    exact (Option.some.inj w5).symm
  · obtain ⟨q0, q1, q2, q3, q4, q5⟩ := q
    exact ⟨q0, q1, q2, q3, va_K.moved (u := U) (U := U.calling g mk a) (Vm.Alike.refl U.vm) q4, Nk.same (u := U) (U := U.calling g mk a) rfl q5⟩
  · intro u t H1 locs1 ht hvm hw hB hz1 hk1 hS1
    obtain ⟨hP1, hD1⟩ := hB
    rw [ht] at hP1
    have hD2 : va_D A (dW u.1 u.2) := hD1.weaken (fun _ _ _ h => hFc _ h)
    refine kk u.1 u.2 hw C hP1 hD2 hS1 hl (by omega) (fun pc' ls' st' n' f' H' locs' la' a1 a2 a3 a4 a5 => ?_)
    have := hend pc' ls' st' n' f' H' locs' la' a1 a2 a3 a4 a5
    rw [show cells + k2 + k = cells + (k + k2) by omega, show slots + s2 + sl = slots + (sl + s2) by omega]
    exact this
def CIN (own : String) (idx : Nat) (μ2 : Mt) (n : Nat) : Prop := (own, idx, μ2.1, "ShyStrip") ∈ nestK ∧ Cond.initialized μ2.1.cls ∈ gtb ∧ Cond.code μ2.1 μ2.2.1 μ2.2.2.1 μ2.2.2.2 ∈ gtb ∧ (μ2.1.cls ≠ "java/lang/invoke/MethodHandle" ∧ μ2.1.cls ≠ "java/lang/invoke/VarHandle") ∧ (parseMethodDescriptor μ2.1.desc).map (fun d => d.parameters.length) = some n ∧ μ2.2.2.1 ≤ 80 ∧ Cond.instanceMethod μ2.1 ∈ gtb
theorem k_callN {μ2 : Mt} {d2 idx na x k2 s2 : Nat} {as stk : List Value} {Q2 : Nat → Fw → Prop} (cw : CIN μ.1.cls idx μ2 na) (hd : decode μ.2.1 pc = .ok (.invokespecial idx, 3)) (hn : as.length = na) (hok : CkOk μ2 (lg_sl (.ref x :: as)).length) (hd2 : d2 < d) (hst : (st.map fun v => v.category).sum ≤ 8) (hstk : stk = as.reverse ++ .ref x :: st)
    (hm : Ck D l μ2 d2 (.ref x :: as) n f k2 s2 Q2) (kk : ∀ n' f', Q2 n' f' → Ek D l μ d (pc + 3) ls st n' f' k sl E) : Ek D l μ d pc ls stk n f (k + k2) (sl + s2) E := by
  intro A p e R s m args below meth c H locs cells slots Z la C hP hD hS hl hr hend
  subst hstk
  obtain ⟨w1, w2, w3, w4, w5, w6, w7⟩ := cw
  have hts := C.2.2.2.2.1
  have hR := C.2.2.2.2.2.1
  have hA := C.2.2.2.2.2.2.1
  have hK := C.2.2.2.2.2.2.2.1
  have hNk := C.2.2.2.2.2.2.2.2.2
  rw [hok.2.1] at w3
  have hFc : ∀ q, va_A (dW n f) H.size q → A q := by
    intro q hq
    rcases hq with ⟨i, e, h⟩ | h
    · exact hD.2 i _ h
    · exact hA q (Nat.le_trans hS.1 h)
  refine va_callv (va_runIN (Ts := gtb) (own := μ.1.cls) (host := "ShyStrip") (As := as) (rest := st) ⟨C.1, C.2.1, C.2.2.1, C.2.2.2.1, C.2.2.2.2.1⟩ (ck_met (sz := H.size) hok hm) (n := na) ⟨⟨⟨rfl, rfl, ?_, ?_, ?_, List.mem_cons_self⟩, hts _ w3, hts _ w2, w4, fun sig h => ?_, va_Nw.use rfl (hNk.1 _ w1)⟩, hok.2.2.2, hts _ w7⟩ ⟨fun a U g mk q => ?_, fun U hU hW => ⟨rfl, by rw [hU], by rw [hU]; exact hP, hD.weaken (fun _ _ _ _ => trivial), va_K.moved hW.alike hK, Nk.warm hW hNk⟩⟩ rfl hn (hl.1) rfl (lv_room hst) hd ⟨by omega, by omega⟩) hS (fun q _ h => hFc q h) hFc ?_
  · show d2 + 1 + 1 ≤ _
    omega
  · show 8 + (_ + 11) + 100 * (d2 + 1) ≤ _
    omega
  · intro w hw
    refine pay_in hts tbl_in w ?_
    rcases List.mem_cons.mp hw with h | h
    · rw [h]; exact w3
    · exact h
  · rw [h] at w5
    exact (Option.some.inj w5).symm
  · obtain ⟨q0, q1, q2, q3, q4, q5⟩ := q
    exact ⟨q0, q1, q2, q3, va_K.moved (u := U) (U := U.calling g mk a) (Vm.Alike.refl U.vm) q4, Nk.same (u := U) (U := U.calling g mk a) rfl q5⟩
  · intro u t H1 locs1 ht hvm hw hB hz1 hk1 hS1
    obtain ⟨hP1, hD1⟩ := hB
    rw [ht] at hP1
    have hD2 : va_D A (dW u.1 u.2) := hD1.weaken (fun _ _ _ h => hFc _ h)
    refine kk u.1 u.2 hw C hP1 hD2 hS1 hl (by omega) (fun pc' ls' st' n' f' H' locs' la' a1 a2 a3 a4 a5 => ?_)
    have := hend pc' ls' st' n' f' H' locs' la' a1 a2 a3 a4 a5
    rw [show cells + k2 + k = cells + (k + k2) by omega, show slots + s2 + sl = slots + (sl + s2) by omega]
    exact this
theorem k_ret {Q : Nat → Fw → Prop} (hd : decode μ.2.1 pc = .ok (.return_, 1)) (h : Q n f) : Ek D l μ d pc ls [] n f k sl (fun pc _ st n' f' => decode μ.2.1 pc = .ok (.return_, 1) ∧ st = [] ∧ Q n' f') := k_end ⟨hd, rfl, h⟩
end krules
