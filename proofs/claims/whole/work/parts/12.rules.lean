/-! the rules: an instruction each -/
section rules
variable {G : Gl} {l : Launch} {μ : Mt} {d pc : Nat} {ls : List (Option Value)} {st : List Value} {S : Sg} {Q : Option Value → Sg → Prop}
/-- an index that is a number below a length -/
def ix (i : Int32) (n len : Nat) : Prop := ¬ i < 0 ∧ i.toNatClampNeg = n ∧ n < len
theorem ix_in {i : Int32} {n len : Nat} (h : ix i n len) : vp_in i len := fun q => q.elim h.1 (fun z => absurd h.2.2 (by rw [← h.2.1]; exact Nat.not_lt.mpr z))
theorem ix_nI {n len : Nat} (h : n < len) (hb : len ≤ 2147483648) : ix (nI n) n len := ⟨nI_pos (by omega), nI_clamp (by omega), h⟩
theorem ix_i {i : Int32} {n len : Nat} (e : i = nI n) (h : n < len) (hb : len ≤ 2147483648) : ix i n len := e ▸ ix_nI h hb

theorem r_iconst {n : Int} {v : Int32} (hd : decode μ.2.1 pc = .ok (.iconst n, 1)) (hv : Int32.ofInt n = v) (h : Ev G l μ d (pc + 1) ls (.int v :: st) S Q) : Ev G l μ d pc ls (st) S Q := by
  intro A p e R s m args below meth c H locs cells slots Z la C hW hS hl hend
  exact lv_iconst C.1 C.2.1 hd hv (h C hW hS hl hend)
theorem r_bipush {n : Int} {v : Int32} (hd : decode μ.2.1 pc = .ok (.bipush n, 2)) (hv : (Int8.ofInt n).toInt32 = v) (h : Ev G l μ d (pc + 2) ls (.int v :: st) S Q) : Ev G l μ d pc ls (st) S Q := by
  intro A p e R s m args below meth c H locs cells slots Z la C hW hS hl hend
  exact lv_bipush C.1 C.2.1 hd hv (h C hW hS hl hend)
theorem r_sipush {n : Int} {v : Int32} (hd : decode μ.2.1 pc = .ok (.sipush n, 3)) (hv : (Int16.ofInt n).toInt32 = v) (h : Ev G l μ d (pc + 3) ls (.int v :: st) S Q) : Ev G l μ d pc ls (st) S Q := by
  intro A p e R s m args below meth c H locs cells slots Z la C hW hS hl hend
  exact lv_sipush C.1 C.2.1 hd hv (h C hW hS hl hend)
theorem r_lconst {n : Fin 2} {v : Int64} (hd : decode μ.2.1 pc = .ok (.lconst n, 1)) (hv : Int64.ofNat (n : Nat) = v) (h : Ev G l μ d (pc + 1) ls (.long v :: st) S Q) : Ev G l μ d pc ls (st) S Q := by
  intro A p e R s m args below meth c H locs cells slots Z la C hW hS hl hend
  exact lv_lconst C.1 C.2.1 hd hv (h C hW hS hl hend)
theorem r_iload_n {k : Fin 4} {i : Nat} {x : Int32} (hd : decode μ.2.1 pc = .ok (.iload_n k, 1)) (hi : (k : Nat) = i) (hl0 : ls[i]? = some (some (.int x))) (h : Ev G l μ d (pc + 1) ls (.int x :: st) S Q) : Ev G l μ d pc ls (st) S Q := by
  intro A p e R s m args below meth c H locs cells slots Z la C hW hS hl hend
  exact lv_iload_n C.1 C.2.1 hd hi (lc_at hl hl0) (h C hW hS hl hend)
theorem r_iload {i : Nat} {x : Int32} (hd : decode μ.2.1 pc = .ok (.iload i, 2)) (hl0 : ls[i]? = some (some (.int x))) (h : Ev G l μ d (pc + 2) ls (.int x :: st) S Q) : Ev G l μ d pc ls (st) S Q := by
  intro A p e R s m args below meth c H locs cells slots Z la C hW hS hl hend
  exact lv_iload C.1 C.2.1 hd (lc_at hl hl0) (h C hW hS hl hend)
theorem r_lload_n {k : Fin 4} {i : Nat} {x : Int64} (hd : decode μ.2.1 pc = .ok (.lload_n k, 1)) (hi : (k : Nat) = i) (hl0 : ls[i]? = some (some (.long x))) (h : Ev G l μ d (pc + 1) ls (.long x :: st) S Q) : Ev G l μ d pc ls (st) S Q := by
  intro A p e R s m args below meth c H locs cells slots Z la C hW hS hl hend
  exact lv_lload_n C.1 C.2.1 hd hi (lc_at hl hl0) (h C hW hS hl hend)
theorem r_lload {i : Nat} {x : Int64} (hd : decode μ.2.1 pc = .ok (.lload i, 2)) (hl0 : ls[i]? = some (some (.long x))) (h : Ev G l μ d (pc + 2) ls (.long x :: st) S Q) : Ev G l μ d pc ls (st) S Q := by
  intro A p e R s m args below meth c H locs cells slots Z la C hW hS hl hend
  exact lv_lload C.1 C.2.1 hd (lc_at hl hl0) (h C hW hS hl hend)
theorem r_aload_n {k : Fin 4} {i x : Nat} (hd : decode μ.2.1 pc = .ok (.aload_n k, 1)) (hi : (k : Nat) = i) (hl0 : ls[i]? = some (some (.ref x))) (h : Ev G l μ d (pc + 1) ls (.ref x :: st) S Q) : Ev G l μ d pc ls (st) S Q := by
  intro A p e R s m args below meth c H locs cells slots Z la C hW hS hl hend
  exact lv_aload_n C.1 C.2.1 hd hi (lc_at hl hl0) (h C hW hS hl hend)
theorem r_aload {i x : Nat} (hd : decode μ.2.1 pc = .ok (.aload i, 2)) (hl0 : ls[i]? = some (some (.ref x))) (h : Ev G l μ d (pc + 2) ls (.ref x :: st) S Q) : Ev G l μ d pc ls (st) S Q := by
  intro A p e R s m args below meth c H locs cells slots Z la C hW hS hl hend
  exact lv_aload C.1 C.2.1 hd (lc_at hl hl0) (h C hW hS hl hend)
theorem r_istore_n {k : Fin 4} {i : Nat} {x : Int32} {ls' : List (Option Value)} (hd : decode μ.2.1 pc = .ok (.istore_n k, 1)) (hi : (k : Nat) = i) (hn : i < μ.2.2.1) (hok : okS ls i = true) (hls : (ls.set i (some (.int x))) = ls') (h : Ev G l μ d (pc + 1) ls' st S Q) : Ev G l μ d pc ls (.int x :: st) S Q := by
  intro A p e R s m args below meth c H locs cells slots Z la C hW hS hl hend
  subst hls
  exact lv_istore_n C.1 C.2.1 hd hi hl hn rfl (fun ls2 hl2 => h C hW hS (lv_less hl2 (lc_set hok)) hend)
theorem r_istore {i : Nat} {x : Int32} {ls' : List (Option Value)} (hd : decode μ.2.1 pc = .ok (.istore i, 2))  (hn : i < μ.2.2.1) (hok : okS ls i = true) (hls : (ls.set i (some (.int x))) = ls') (h : Ev G l μ d (pc + 2) ls' st S Q) : Ev G l μ d pc ls (.int x :: st) S Q := by
  intro A p e R s m args below meth c H locs cells slots Z la C hW hS hl hend
  subst hls
  exact lv_istore C.1 C.2.1 hd hl hn rfl (fun ls2 hl2 => h C hW hS (lv_less hl2 (lc_set hok)) hend)
theorem r_lstore_n {k : Fin 4} {i : Nat} {x : Int64} {ls' : List (Option Value)} (hd : decode μ.2.1 pc = .ok (.lstore_n k, 1)) (hi : (k : Nat) = i) (hn : i + 1 < μ.2.2.1) (hok : okS ls i = true) (hls : ((ls.set i (some (.long x))).set (i + 1) none) = ls') (h : Ev G l μ d (pc + 1) ls' st S Q) : Ev G l μ d pc ls (.long x :: st) S Q := by
  intro A p e R s m args below meth c H locs cells slots Z la C hW hS hl hend
  subst hls
  exact lv_lstore_n C.1 C.2.1 hd hi hl hn rfl (fun ls2 hl2 => h C hW hS (lv_less hl2 (lc_set2 hok)) hend)
theorem r_lstore {i : Nat} {x : Int64} {ls' : List (Option Value)} (hd : decode μ.2.1 pc = .ok (.lstore i, 2))  (hn : i + 1 < μ.2.2.1) (hok : okS ls i = true) (hls : ((ls.set i (some (.long x))).set (i + 1) none) = ls') (h : Ev G l μ d (pc + 2) ls' st S Q) : Ev G l μ d pc ls (.long x :: st) S Q := by
  intro A p e R s m args below meth c H locs cells slots Z la C hW hS hl hend
  subst hls
  exact lv_lstore C.1 C.2.1 hd hl hn rfl (fun ls2 hl2 => h C hW hS (lv_less hl2 (lc_set2 hok)) hend)
theorem r_astore_n {k : Fin 4} {i x : Nat} {ls' : List (Option Value)} (hd : decode μ.2.1 pc = .ok (.astore_n k, 1)) (hi : (k : Nat) = i) (hn : i < μ.2.2.1) (hok : okS ls i = true) (hls : (ls.set i (some (.ref x))) = ls') (h : Ev G l μ d (pc + 1) ls' st S Q) : Ev G l μ d pc ls (.ref x :: st) S Q := by
  intro A p e R s m args below meth c H locs cells slots Z la C hW hS hl hend
  subst hls
  exact lv_astore_n C.1 C.2.1 hd hi hl hn rfl (fun ls2 hl2 => h C hW hS (lv_less hl2 (lc_set hok)) hend)
theorem r_astore {i x : Nat} {ls' : List (Option Value)} (hd : decode μ.2.1 pc = .ok (.astore i, 2))  (hn : i < μ.2.2.1) (hok : okS ls i = true) (hls : (ls.set i (some (.ref x))) = ls') (h : Ev G l μ d (pc + 2) ls' st S Q) : Ev G l μ d pc ls (.ref x :: st) S Q := by
  intro A p e R s m args below meth c H locs cells slots Z la C hW hS hl hend
  subst hls
  exact lv_astore C.1 C.2.1 hd hl hn rfl (fun ls2 hl2 => h C hW hS (lv_less hl2 (lc_set hok)) hend)
theorem lc_place {G : Gl} {ls : List (Option Value)} {i : Nat} {v : Value} (h : ls[i]? = some (some v)) : ∃ k : Nat, (lcs G 0 ls)[k]? = some (i, cv G v) := by
  have hm : (i, cv G v) ∈ lcs G 0 ls := (lcs_mem G ls 0 i _).mpr ⟨i, v, h, by omega, rfl⟩
  exact List.getElem?_of_mem hm
theorem r_iinc {i : Nat} {n : Int} {x y : Int32} {ls' : List (Option Value)} (hd : decode μ.2.1 pc = .ok (.iinc i n, 3)) (hl0 : ls[i]? = some (some (.int x))) (hv : Int32.ofInt n = y) (hn : i < μ.2.2.1) (hok : okS ls i = true) (hls : ls.set i (some (.int (x + y))) = ls') (h : Ev G l μ d (pc + 3) ls' st S Q) : Ev G l μ d pc ls st S Q := by
  intro A p e R s m args below meth c H locs cells slots Z la C hW hS hl hend
  subst hls
  subst hv
  obtain ⟨k, hk⟩ := lc_place (G := G) hl0
  exact lv_iinc (v := x + Int32.ofInt n) C.1 C.2.1 hd hl hk rfl hn rfl (fun ls2 hl2 => h C hW hS (lv_less hl2 (lc_set hok)) hend)
theorem r_iadd {x y : Int32} (hd : decode μ.2.1 pc = .ok (.iadd, 1))  (h : Ev G l μ d (pc + 1) ls (.int (x + y) :: st) S Q) : Ev G l μ d pc ls (.int y :: .int x :: st) S Q := by
  intro A p e R s m args below meth c H locs cells slots Z la C hW hS hl hend
  exact lv_iadd C.1 C.2.1 hd (h C hW hS hl hend)
theorem r_isub {x y : Int32} (hd : decode μ.2.1 pc = .ok (.isub, 1))  (h : Ev G l μ d (pc + 1) ls (.int (x - y) :: st) S Q) : Ev G l μ d pc ls (.int y :: .int x :: st) S Q := by
  intro A p e R s m args below meth c H locs cells slots Z la C hW hS hl hend
  exact lv_isub C.1 C.2.1 hd (h C hW hS hl hend)
theorem r_imul {x y : Int32} (hd : decode μ.2.1 pc = .ok (.imul, 1))  (h : Ev G l μ d (pc + 1) ls (.int (x * y) :: st) S Q) : Ev G l μ d pc ls (.int y :: .int x :: st) S Q := by
  intro A p e R s m args below meth c H locs cells slots Z la C hW hS hl hend
  exact lv_imul C.1 C.2.1 hd (h C hW hS hl hend)
theorem r_iand {x y : Int32} (hd : decode μ.2.1 pc = .ok (.iand, 1))  (h : Ev G l μ d (pc + 1) ls (.int (x &&& y) :: st) S Q) : Ev G l μ d pc ls (.int y :: .int x :: st) S Q := by
  intro A p e R s m args below meth c H locs cells slots Z la C hW hS hl hend
  exact lv_iand C.1 C.2.1 hd (h C hW hS hl hend)
theorem r_ior {x y : Int32} (hd : decode μ.2.1 pc = .ok (.ior, 1))  (h : Ev G l μ d (pc + 1) ls (.int (x ||| y) :: st) S Q) : Ev G l μ d pc ls (.int y :: .int x :: st) S Q := by
  intro A p e R s m args below meth c H locs cells slots Z la C hW hS hl hend
  exact lv_ior C.1 C.2.1 hd (h C hW hS hl hend)
theorem r_ixor {x y : Int32} (hd : decode μ.2.1 pc = .ok (.ixor, 1))  (h : Ev G l μ d (pc + 1) ls (.int (x ^^^ y) :: st) S Q) : Ev G l μ d pc ls (.int y :: .int x :: st) S Q := by
  intro A p e R s m args below meth c H locs cells slots Z la C hW hS hl hend
  exact lv_ixor C.1 C.2.1 hd (h C hW hS hl hend)
theorem r_ishl {x y : Int32} (hd : decode μ.2.1 pc = .ok (.ishl, 1))  (h : Ev G l μ d (pc + 1) ls (.int (x <<< (y &&& 31)) :: st) S Q) : Ev G l μ d pc ls (.int y :: .int x :: st) S Q := by
  intro A p e R s m args below meth c H locs cells slots Z la C hW hS hl hend
  exact lv_ishl C.1 C.2.1 hd (h C hW hS hl hend)
theorem r_ishr {x y : Int32} (hd : decode μ.2.1 pc = .ok (.ishr, 1))  (h : Ev G l μ d (pc + 1) ls (.int (x >>> (y &&& 31)) :: st) S Q) : Ev G l μ d pc ls (.int y :: .int x :: st) S Q := by
  intro A p e R s m args below meth c H locs cells slots Z la C hW hS hl hend
  exact lv_ishr C.1 C.2.1 hd (h C hW hS hl hend)
theorem r_idiv {x y : Int32} (hd : decode μ.2.1 pc = .ok (.idiv, 1)) (hne : ¬ y = 0) (h : Ev G l μ d (pc + 1) ls (.int (x / y) :: st) S Q) : Ev G l μ d pc ls (.int y :: .int x :: st) S Q := by
  intro A p e R s m args below meth c H locs cells slots Z la C hW hS hl hend
  exact lv_idiv C.1 C.2.1 hd hne (h C hW hS hl hend)
theorem r_irem {x y : Int32} (hd : decode μ.2.1 pc = .ok (.irem, 1)) (hne : ¬ y = 0) (h : Ev G l μ d (pc + 1) ls (.int (x - x / y * y) :: st) S Q) : Ev G l μ d pc ls (.int y :: .int x :: st) S Q := by
  intro A p e R s m args below meth c H locs cells slots Z la C hW hS hl hend
  exact lv_irem C.1 C.2.1 hd hne (h C hW hS hl hend)
theorem r_ineg {x : Int32} (hd : decode μ.2.1 pc = .ok (.ineg, 1))  (h : Ev G l μ d (pc + 1) ls (.int (0 - x) :: st) S Q) : Ev G l μ d pc ls (.int x :: st) S Q := by
  intro A p e R s m args below meth c H locs cells slots Z la C hW hS hl hend
  exact lv_ineg C.1 C.2.1 hd (h C hW hS hl hend)
theorem r_iushr {x y : Int32} (hd : decode μ.2.1 pc = .ok (.iushr, 1))  (h : Ev G l μ d (pc + 1) ls (.int ((x.toUInt32 >>> (y.toUInt32 &&& Int32.toUInt32 31)).toInt32) :: st) S Q) : Ev G l μ d pc ls (.int y :: .int x :: st) S Q := by
  intro A p e R s m args below meth c H locs cells slots Z la C hW hS hl hend
  exact lv_iushr C.1 C.2.1 hd rfl (h C hW hS hl hend)
theorem r_ladd {x y : Int64} (hd : decode μ.2.1 pc = .ok (.ladd, 1))  (h : Ev G l μ d (pc + 1) ls (.long (x + y) :: st) S Q) : Ev G l μ d pc ls (.long y :: .long x :: st) S Q := by
  intro A p e R s m args below meth c H locs cells slots Z la C hW hS hl hend
  exact lv_ladd C.1 C.2.1 hd (h C hW hS hl hend)
theorem r_lmul {x y : Int64} (hd : decode μ.2.1 pc = .ok (.lmul, 1))  (h : Ev G l μ d (pc + 1) ls (.long (x * y) :: st) S Q) : Ev G l μ d pc ls (.long y :: .long x :: st) S Q := by
  intro A p e R s m args below meth c H locs cells slots Z la C hW hS hl hend
  exact lv_lmul C.1 C.2.1 hd (h C hW hS hl hend)
theorem r_ldiv {x y : Int64} (hd : decode μ.2.1 pc = .ok (.ldiv, 1)) (hne : ¬ y = 0) (h : Ev G l μ d (pc + 1) ls (.long (x / y) :: st) S Q) : Ev G l μ d pc ls (.long y :: .long x :: st) S Q := by
  intro A p e R s m args below meth c H locs cells slots Z la C hW hS hl hend
  exact lv_ldiv C.1 C.2.1 hd hne (h C hW hS hl hend)
theorem r_lrem {x y : Int64} (hd : decode μ.2.1 pc = .ok (.lrem, 1)) (hne : ¬ y = 0) (h : Ev G l μ d (pc + 1) ls (.long (x - x / y * y) :: st) S Q) : Ev G l μ d pc ls (.long y :: .long x :: st) S Q := by
  intro A p e R s m args below meth c H locs cells slots Z la C hW hS hl hend
  exact lv_lrem C.1 C.2.1 hd hne (h C hW hS hl hend)
theorem r_i2l {x : Int32} (hd : decode μ.2.1 pc = .ok (.i2l, 1))  (h : Ev G l μ d (pc + 1) ls (.long x.toInt64 :: st) S Q) : Ev G l μ d pc ls (.int x :: st) S Q := by
  intro A p e R s m args below meth c H locs cells slots Z la C hW hS hl hend
  exact lv_i2l C.1 C.2.1 hd rfl (h C hW hS hl hend)
theorem r_l2i {x : Int64} (hd : decode μ.2.1 pc = .ok (.l2i, 1))  (h : Ev G l μ d (pc + 1) ls (.int x.toInt32 :: st) S Q) : Ev G l μ d pc ls (.long x :: st) S Q := by
  intro A p e R s m args below meth c H locs cells slots Z la C hW hS hl hend
  exact lv_l2i C.1 C.2.1 hd rfl (h C hW hS hl hend)
theorem r_i2b {x : Int32} (hd : decode μ.2.1 pc = .ok (.i2b, 1))  (h : Ev G l μ d (pc + 1) ls (.int x.toInt8.toInt32 :: st) S Q) : Ev G l μ d pc ls (.int x :: st) S Q := by
  intro A p e R s m args below meth c H locs cells slots Z la C hW hS hl hend
  exact lv_i2b C.1 C.2.1 hd rfl (h C hW hS hl hend)
theorem r_lcmp {x y : Int64} (hd : decode μ.2.1 pc = .ok (.lcmp, 1))  (h : Ev G l μ d (pc + 1) ls (.int (lg_cmp x y) :: st) S Q) : Ev G l μ d pc ls (.long y :: .long x :: st) S Q := by
  intro A p e R s m args below meth c H locs cells slots Z la C hW hS hl hend
  exact W.lcmp C.1 C.2.1 hd (h C hW hS hl hend)
theorem r_dup {v : Value} (hd : decode μ.2.1 pc = .ok (.dup, 1)) (hv : v.category = 1) (h : Ev G l μ d (pc + 1) ls (v :: v :: st) S Q) : Ev G l μ d pc ls (v :: st) S Q := by
  intro A p e R s m args below meth c H locs cells slots Z la C hW hS hl hend
  exact lv_dup C.1 C.2.1 hd (by rw [cv_cat]; exact hv) (h C hW hS hl hend)
theorem r_dup2_11 {v w : Value} (hd : decode μ.2.1 pc = .ok (.dup2, 1)) (hv : v.category = 1) (hw : w.category = 1) (h : Ev G l μ d (pc + 1) ls (v :: w :: v :: w :: st) S Q) : Ev G l μ d pc ls (v :: w :: st) S Q := by
  intro A p e R s m args below meth c H locs cells slots Z la C hW hS hl hend
  exact lv_dup2_11 C.1 C.2.1 hd (by rw [cv_cat]; exact hv) (by rw [cv_cat]; exact hw) (h C hW hS hl hend)
theorem r_dup2_2 {v : Value} (hd : decode μ.2.1 pc = .ok (.dup2, 1)) (hv : v.category = 2) (h : Ev G l μ d (pc + 1) ls (v :: v :: st) S Q) : Ev G l μ d pc ls (v :: st) S Q := by
  intro A p e R s m args below meth c H locs cells slots Z la C hW hS hl hend
  exact lv_dup2_2 C.1 C.2.1 hd (by rw [cv_cat]; exact hv) (h C hW hS hl hend)
theorem r_if_eq {x : Int32} {off : Int} {tgt : Nat} (hd : decode μ.2.1 pc = .ok (.ifCond .eq off, 3)) (ht : (pc : Int) + off = (tgt : Int)) (h : (x = nI 0 → Ev G l μ d tgt ls st S Q) ∧ (¬ (x = nI 0) → Ev G l μ d (pc + 3) ls st S Q)) : Ev G l μ d pc ls (.int x :: st) S Q := by
  intro A p e R s m args below meth c H locs cells slots Z la C hW hS hl hend
  exact lv_if_eq C.1 C.2.1 hd ht (fun q => h.1 q C hW hS hl hend) (fun q => h.2 q C hW hS hl hend)
theorem r_icmp_eq {x y : Int32} {off : Int} {tgt : Nat} (hd : decode μ.2.1 pc = .ok (.if_icmp .eq off, 3)) (ht : (pc : Int) + off = (tgt : Int)) (h : (x = y → Ev G l μ d tgt ls st S Q) ∧ (¬ (x = y) → Ev G l μ d (pc + 3) ls st S Q)) : Ev G l μ d pc ls (.int y :: .int x :: st) S Q := by
  intro A p e R s m args below meth c H locs cells slots Z la C hW hS hl hend
  exact lv_icmp_eq C.1 C.2.1 hd ht (fun q => h.1 q C hW hS hl hend) (fun q => h.2 q C hW hS hl hend)
theorem r_if_ne {x : Int32} {off : Int} {tgt : Nat} (hd : decode μ.2.1 pc = .ok (.ifCond .ne off, 3)) (ht : (pc : Int) + off = (tgt : Int)) (h : (¬ x = nI 0 → Ev G l μ d tgt ls st S Q) ∧ (x = nI 0 → Ev G l μ d (pc + 3) ls st S Q)) : Ev G l μ d pc ls (.int x :: st) S Q := by
  intro A p e R s m args below meth c H locs cells slots Z la C hW hS hl hend
  exact lv_if_ne C.1 C.2.1 hd ht (fun q => h.1 q C hW hS hl hend) (fun q => h.2 q C hW hS hl hend)
theorem r_icmp_ne {x y : Int32} {off : Int} {tgt : Nat} (hd : decode μ.2.1 pc = .ok (.if_icmp .ne off, 3)) (ht : (pc : Int) + off = (tgt : Int)) (h : (¬ x = y → Ev G l μ d tgt ls st S Q) ∧ (x = y → Ev G l μ d (pc + 3) ls st S Q)) : Ev G l μ d pc ls (.int y :: .int x :: st) S Q := by
  intro A p e R s m args below meth c H locs cells slots Z la C hW hS hl hend
  exact lv_icmp_ne C.1 C.2.1 hd ht (fun q => h.1 q C hW hS hl hend) (fun q => h.2 q C hW hS hl hend)
theorem r_if_lt {x : Int32} {off : Int} {tgt : Nat} (hd : decode μ.2.1 pc = .ok (.ifCond .lt off, 3)) (ht : (pc : Int) + off = (tgt : Int)) (h : (x < nI 0 → Ev G l μ d tgt ls st S Q) ∧ (¬ (x < nI 0) → Ev G l μ d (pc + 3) ls st S Q)) : Ev G l μ d pc ls (.int x :: st) S Q := by
  intro A p e R s m args below meth c H locs cells slots Z la C hW hS hl hend
  exact lv_if_lt C.1 C.2.1 hd ht (fun q => h.1 q C hW hS hl hend) (fun q => h.2 q C hW hS hl hend)
theorem r_icmp_lt {x y : Int32} {off : Int} {tgt : Nat} (hd : decode μ.2.1 pc = .ok (.if_icmp .lt off, 3)) (ht : (pc : Int) + off = (tgt : Int)) (h : (x < y → Ev G l μ d tgt ls st S Q) ∧ (¬ (x < y) → Ev G l μ d (pc + 3) ls st S Q)) : Ev G l μ d pc ls (.int y :: .int x :: st) S Q := by
  intro A p e R s m args below meth c H locs cells slots Z la C hW hS hl hend
  exact lv_icmp_lt C.1 C.2.1 hd ht (fun q => h.1 q C hW hS hl hend) (fun q => h.2 q C hW hS hl hend)
theorem r_if_ge {x : Int32} {off : Int} {tgt : Nat} (hd : decode μ.2.1 pc = .ok (.ifCond .ge off, 3)) (ht : (pc : Int) + off = (tgt : Int)) (h : (nI 0 ≤ x → Ev G l μ d tgt ls st S Q) ∧ (¬ (nI 0 ≤ x) → Ev G l μ d (pc + 3) ls st S Q)) : Ev G l μ d pc ls (.int x :: st) S Q := by
  intro A p e R s m args below meth c H locs cells slots Z la C hW hS hl hend
  exact lv_if_ge C.1 C.2.1 hd ht (fun q => h.1 q C hW hS hl hend) (fun q => h.2 q C hW hS hl hend)
theorem r_icmp_ge {x y : Int32} {off : Int} {tgt : Nat} (hd : decode μ.2.1 pc = .ok (.if_icmp .ge off, 3)) (ht : (pc : Int) + off = (tgt : Int)) (h : (y ≤ x → Ev G l μ d tgt ls st S Q) ∧ (¬ (y ≤ x) → Ev G l μ d (pc + 3) ls st S Q)) : Ev G l μ d pc ls (.int y :: .int x :: st) S Q := by
  intro A p e R s m args below meth c H locs cells slots Z la C hW hS hl hend
  exact lv_icmp_ge C.1 C.2.1 hd ht (fun q => h.1 q C hW hS hl hend) (fun q => h.2 q C hW hS hl hend)
theorem r_if_gt {x : Int32} {off : Int} {tgt : Nat} (hd : decode μ.2.1 pc = .ok (.ifCond .gt off, 3)) (ht : (pc : Int) + off = (tgt : Int)) (h : (nI 0 < x → Ev G l μ d tgt ls st S Q) ∧ (¬ (nI 0 < x) → Ev G l μ d (pc + 3) ls st S Q)) : Ev G l μ d pc ls (.int x :: st) S Q := by
  intro A p e R s m args below meth c H locs cells slots Z la C hW hS hl hend
  exact lv_if_gt C.1 C.2.1 hd ht (fun q => h.1 q C hW hS hl hend) (fun q => h.2 q C hW hS hl hend)
theorem r_icmp_gt {x y : Int32} {off : Int} {tgt : Nat} (hd : decode μ.2.1 pc = .ok (.if_icmp .gt off, 3)) (ht : (pc : Int) + off = (tgt : Int)) (h : (y < x → Ev G l μ d tgt ls st S Q) ∧ (¬ (y < x) → Ev G l μ d (pc + 3) ls st S Q)) : Ev G l μ d pc ls (.int y :: .int x :: st) S Q := by
  intro A p e R s m args below meth c H locs cells slots Z la C hW hS hl hend
  exact lv_icmp_gt C.1 C.2.1 hd ht (fun q => h.1 q C hW hS hl hend) (fun q => h.2 q C hW hS hl hend)
theorem r_if_le {x : Int32} {off : Int} {tgt : Nat} (hd : decode μ.2.1 pc = .ok (.ifCond .le off, 3)) (ht : (pc : Int) + off = (tgt : Int)) (h : (x ≤ nI 0 → Ev G l μ d tgt ls st S Q) ∧ (¬ (x ≤ nI 0) → Ev G l μ d (pc + 3) ls st S Q)) : Ev G l μ d pc ls (.int x :: st) S Q := by
  intro A p e R s m args below meth c H locs cells slots Z la C hW hS hl hend
  exact lv_if_le C.1 C.2.1 hd ht (fun q => h.1 q C hW hS hl hend) (fun q => h.2 q C hW hS hl hend)
theorem r_icmp_le {x y : Int32} {off : Int} {tgt : Nat} (hd : decode μ.2.1 pc = .ok (.if_icmp .le off, 3)) (ht : (pc : Int) + off = (tgt : Int)) (h : (x ≤ y → Ev G l μ d tgt ls st S Q) ∧ (¬ (x ≤ y) → Ev G l μ d (pc + 3) ls st S Q)) : Ev G l μ d pc ls (.int y :: .int x :: st) S Q := by
  intro A p e R s m args below meth c H locs cells slots Z la C hW hS hl hend
  exact lv_icmp_le C.1 C.2.1 hd ht (fun q => h.1 q C hW hS hl hend) (fun q => h.2 q C hW hS hl hend)
theorem r_goto {off : Int} {tgt : Nat} (hd : decode μ.2.1 pc = .ok (.goto off, 3)) (ht : (pc : Int) + off = (tgt : Int)) (h : Ev G l μ d tgt ls st S Q) : Ev G l μ d pc ls st S Q := by
  intro A p e R s m args below meth c H locs cells slots Z la C hW hS hl hend
  exact lv_goto C.1 C.2.1 hd ht (h C hW hS hl hend)
theorem r_ldcw {index : Nat} {v : Int32} (hd : decode μ.2.1 pc = .ok (.ldc_w index, 3)) (hw : Cond.constant μ.1.cls index v ∈ gtb) (h : Ev G l μ d (pc + 3) ls (.int v :: st) S Q) : Ev G l μ d pc ls st S Q := by
  intro A p e R s m args below meth c H locs cells slots Z la C hW hS hl hend
  exact lv_ldcw C.1 C.2.1 C.2.2.2.1 (C.2.2.2.2.1 _ hw) hd (h C hW hS hl hend)
theorem r_ldc {index : Nat} {v : Int32} (hd : decode μ.2.1 pc = .ok (.ldc index, 2)) (hw : Cond.constant μ.1.cls index v ∈ gtb) (h : Ev G l μ d (pc + 2) ls (.int v :: st) S Q) : Ev G l μ d pc ls st S Q := by
  intro A p e R s m args below meth c H locs cells slots Z la C hW hS hl hend
  exact lv_ldc C.1 C.2.1 C.2.2.2.1 (C.2.2.2.2.1 _ hw) hd (h C hW hS hl hend)
theorem r_ldc2 {index : Nat} {v : Int64} (hd : decode μ.2.1 pc = .ok (.ldc2_w index, 3)) (hw : Cond.constantLong μ.1.cls index v ∈ gtb) (h : Ev G l μ d (pc + 3) ls (.long v :: st) S Q) : Ev G l μ d pc ls st S Q := by
  intro A p e R s m args below meth c H locs cells slots Z la C hW hS hl hend
  exact lv_ldc2 C.1 C.2.1 C.2.2.2.1 (C.2.2.2.2.1 _ hw) hd (h C hW hS hl hend)
/-- a switch over lo, lo + 1, .. -/
def swc (P : Nat → Prop) (x : Int32) (D : Prop) : List (Int32 × Nat) → Prop
  | [] => D
  | q :: ts => (x = q.1 → P q.2) ∧ (¬ x = q.1 → swc P x D ts)
def swok : Int → List (Int32 × Nat) → Bool
  | _, [] => true
  | lo, q :: ts => q.1.toInt == lo && swok (lo + 1) ts
theorem swc_in {P : Nat → Prop} {x : Int32} {D : Prop} : ∀ (ts : List (Int32 × Nat)) (lo : Int) (j : Nat) (t : Int32 × Nat), swok lo ts = true → swc P x D ts → ts[j]? = some t → x.toInt = lo + j → P t.2
  | [], lo, j, t, _, _, h, _ => by simp at h
  | q :: ts, lo, 0, t, ho, hs, h, hx => by
    simp only [swok, Bool.and_eq_true, beq_iff_eq] at ho
    simp at h
    subst h
    exact hs.1 (Int32.toInt_inj.mp (by rw [ho.1, hx]; simp))
  | q :: ts, lo, j + 1, t, ho, hs, h, hx => by
    simp only [swok, Bool.and_eq_true, beq_iff_eq] at ho
    refine swc_in ts (lo + 1) j t ho.2 (hs.2 (fun e => ?_)) (by simpa using h) (by rw [hx]; push_cast; omega)
    rw [e, ho.1] at hx
    push_cast at hx
    omega
theorem swc_out {P : Nat → Prop} {x : Int32} {D : Prop} : ∀ (ts : List (Int32 × Nat)) (lo : Int), swok lo ts = true → swc P x D ts → (x.toInt < lo ∨ lo + ts.length ≤ x.toInt) → D
  | [], _, _, h, _ => h
  | q :: ts, lo, ho, hs, hx => by
    simp only [swok, Bool.and_eq_true, beq_iff_eq] at ho
    simp only [List.length_cons] at hx
    push_cast at hx
    refine swc_out ts (lo + 1) ho.2 (hs.2 (fun e => ?_)) (by omega)
    rw [e, ho.1] at hx
    omega
theorem r_ts {x : Int32} {lo hi dflt : Int} {offs : Array Int} {len td : Nat} (ts : List (Int32 × Nat)) (hd : decode μ.2.1 pc = .ok (.tableswitch dflt lo hi offs, len)) (hok : swok lo ts = true) (hhi : lo + ts.length = hi + 1) (ho : offs.toList = ts.map (fun q => (q.2 : Int) - pc)) (htd : (pc : Int) + dflt = td)
    (h : swc (fun t => Ev G l μ d t ls st S Q) x (Ev G l μ d td ls st S Q) ts) : Ev G l μ d pc ls (.int x :: st) S Q := by
  intro A p e R s m args below meth c H locs cells slots Z la C hW hS hl hend
  by_cases h1 : x.toInt < lo
  · exact lv_tableOut C.1 C.2.1 hd (Or.inl h1) htd (swc_out ts lo hok h (Or.inl h1) C hW hS hl hend)
  · by_cases h2 : hi < x.toInt
    · exact lv_tableOut C.1 C.2.1 hd (Or.inr h2) htd (swc_out ts lo hok h (Or.inr (by omega)) C hW hS hl hend)
    · have hj : (x.toInt - lo).toNat < ts.length := by omega
      have hq : ts[(x.toInt - lo).toNat]? = some ts[(x.toInt - lo).toNat] := List.getElem?_eq_getElem hj
      generalize hqe : ts[(x.toInt - lo).toNat] = q at hq
      have hoff : offs[(x.toInt - lo).toNat]? = some ((q.2 : Int) - pc) := by
        rw [← Array.getElem?_toList, ho, List.getElem?_map, hq]
        rfl
      exact lv_tableIn C.1 C.2.1 hd h1 h2 hoff (by omega) (swc_in ts lo _ q hok h hq (by omega) C hW hS hl hend)
end rules
