/-! the rules of fields, arrays and calls -/
section mem
variable {G : Gl} {l : Launch} {μ : Mt} {d pc : Nat} {ls : List (Option Value)} {st : List Value} {S : Sg} {Q : Option Value → Sg → Prop}
/-- a place of the constant pool is a field of a class -/
def FL (own : String) (idx c i : Nat) : Prop := Cond.fieldLink own idx (cT c i).1 (cT c i).2.1 (cT c i).2.2.1 ∈ gtb
theorem vlu_I {k c i : Nat} (h : kd k = c) (hf : fk c i = 0) : vlu G S k i = .int (S.1 k i) := by
  unfold vlu
  rw [h, if_pos hf]
theorem vlu_L {k c i : Nat} (h : kd k = c) (hf : fk c i = 1) : vlu G S k i = .long (S.2 k i) := by
  unfold vlu
  rw [h, if_neg (by omega), if_pos hf]
theorem vlu_R {k c i : Nat} (h : kd k = c) (hf : fk c i = 2) : vlu G S k i = .ref (gA G (rf k i)) := by
  unfold vlu
  rw [h, if_neg (by omega), if_neg (by omega)]
theorem fld_at {k c i : Nat} (hi : i < cN c) : ((List.range (cN c)).map (vlu G S k))[i]? = some (vlu G S k i) := by simp [hi]
theorem r_getV {idx k c i : Nat} {v w : Value} (hd : decode μ.2.1 pc = .ok (.getfield idx, 3)) (hF : FL μ.1.cls idx c i) (hk : kd k = c) (hc : c < 6) (hi : i < cN c) (hv : vlu G S k i = w) (hw : cv G v = w) (h : Ev G l μ d (pc + 3) ls (v :: st) S Q) : Ev G l μ d pc ls (.ref k :: st) S Q := by
  intro A p e R s m args below meth c0 H locs cells slots Z la C hW hS hl hend
  obtain ⟨hcl, hin, hty, hnm⟩ := cls_ok hc
  refine va_get C.1 C.2.1 C.2.2.2.2.1 hin C.2.2.2.1 C.2.2.2.2.2.2.2.2.1.1 hW k (ci := c) ?_ hcl i hi (C.2.2.2.2.1 _ hF) (fun _ h => h) (fs := (List.range (cN c)).map (vlu G S k)) (v := w) ?_ hd ?_
  · exact (wld_at G S (kd_lt (by omega))).trans (by rw [ent_obj G S hk hc])
  · rw [fld_at hi, hv]
  · have := h C hW hS hl hend
    rw [List.map_cons, hw] at this
    exact this
theorem r_getI {idx k i : Nat} (c : Nat) (hF : FL μ.1.cls idx c i) (hd : decode μ.2.1 pc = .ok (.getfield idx, 3)) (hk : kd k = c) (hc : c < 6) (hi : i < cN c) (hf : fk c i = 0) (h : Ev G l μ d (pc + 3) ls (.int (S.1 k i) :: st) S Q) : Ev G l μ d pc ls (.ref k :: st) S Q :=
  r_getV hd hF hk hc hi (vlu_I hk hf) rfl h
theorem r_getL {idx k i : Nat} (c : Nat) (hF : FL μ.1.cls idx c i) (hd : decode μ.2.1 pc = .ok (.getfield idx, 3)) (hk : kd k = c) (hc : c < 6) (hi : i < cN c) (hf : fk c i = 1) (h : Ev G l μ d (pc + 3) ls (.long (S.2 k i) :: st) S Q) : Ev G l μ d pc ls (.ref k :: st) S Q :=
  r_getV hd hF hk hc hi (vlu_L hk hf) rfl h
theorem r_getR {idx k i k' : Nat} (c : Nat) (hF : FL μ.1.cls idx c i) (hd : decode μ.2.1 pc = .ok (.getfield idx, 3)) (hk : kd k = c) (hc : c < 6) (hi : i < cN c) (hf : fk c i = 2) (hr : rf k i = k') (h : Ev G l μ d (pc + 3) ls (.ref k' :: st) S Q) : Ev G l μ d pc ls (.ref k :: st) S Q :=
  r_getV hd hF hk hc hi (vlu_R hk hf) (by rw [hr]; rfl) h
theorem r_putI {idx k i : Nat} {v : Int32} (c : Nat) (hF : FL μ.1.cls idx c i) (hd : decode μ.2.1 pc = .ok (.putfield idx, 3)) (hk : kd k = c) (hc : c < 6) (hi : i < cN c) (hf : fk c i = 0) (hfin : (cT c i).2.2.2 = false) (hn : narrow (cTy c i) (.int v) = .int v) (hfit : fits (cTy c i) (.int v) = true) (h : Ev G l μ d (pc + 3) ls st (u2 S.1 k i v, S.2) Q) : Ev G l μ d pc ls (.int v :: .ref k :: st) S Q := by
  intro A p e R s m args below meth c0 H locs cells slots Z la C hW hS hl hend
  obtain ⟨hcl, hin, hty, hnm⟩ := cls_ok hc
  refine va_put (ty := cTy c i) C.1 C.2.1 C.2.2.2.2.1 hin (cTy c) hty hnm C.2.2.2.1 C.2.2.2.2.2.2.2.2.1.1 hW (wld_D G S C.2.2.2.2.2.2.2.1 C.2.2.2.2.2.2.1) hS k (ci := c) ((wld_at G S (kd_lt (by omega))).trans (by rw [ent_obj G S hk hc])) hcl i hi (C.2.2.2.2.1 _ hF) (fun _ h => h) hfin (hty i hi) hn hfit (by simpa using hi) hd ?_
  intro H1 locs1 hP hD hS1
  have hP2 : Wd G (u2 S.1 k i v, S.2) H1 := by
    unfold Wd
    rw [wld_putI G S hk hc hi hf]
    exact hP
  exact h C hP2 hS1 hl hend
theorem r_putL {idx k i : Nat} {v : Int64} (c : Nat) (hF : FL μ.1.cls idx c i) (hd : decode μ.2.1 pc = .ok (.putfield idx, 3)) (hk : kd k = c) (hc : c < 6) (hi : i < cN c) (hf : fk c i = 1) (hfin : (cT c i).2.2.2 = false) (hty0 : cTy c i = .long) (h : Ev G l μ d (pc + 3) ls st (S.1, u2 S.2 k i v) Q) : Ev G l μ d pc ls (.long v :: .ref k :: st) S Q := by
  intro A p e R s m args below meth c0 H locs cells slots Z la C hW hS hl hend
  obtain ⟨hcl, hin, hty, hnm⟩ := cls_ok hc
  refine va_put (ty := cTy c i) C.1 C.2.1 C.2.2.2.2.1 hin (cTy c) hty hnm C.2.2.2.1 C.2.2.2.2.2.2.2.2.1.1 hW (wld_D G S C.2.2.2.2.2.2.2.1 C.2.2.2.2.2.2.1) hS k (ci := c) ((wld_at G S (kd_lt (by omega))).trans (by rw [ent_obj G S hk hc])) hcl i hi (C.2.2.2.2.1 _ hF) (fun _ h => h) hfin (hty i hi) (by rw [hty0]; rfl) (by rw [hty0]; rfl) (by simpa using hi) hd ?_
  intro H1 locs1 hP hD hS1
  have hP2 : Wd G (S.1, u2 S.2 k i v) H1 := by
    unfold Wd
    rw [wld_putL G S hk hc hi hf]
    exact hP
  exact h C hP2 hS1 hl hend
theorem r_iald {k n : Nat} {i : Int32} (hd : decode μ.2.1 pc = .ok (.iaload, 1)) (hk : kd k = 10) (hix : ix i n (ln k)) (h : Ev G l μ d (pc + 1) ls (.int (S.1 k n) :: st) S Q) : Ev G l μ d pc ls (.int i :: .ref k :: st) S Q := by
  intro A p e R s m args below meth c0 H locs cells slots Z la C hW hS hl hend
  refine va_iald C.1 C.2.1 C.2.2.2.2.2.2.2.2.1.1 hW k 0 ((wld_at G S (kd_lt (by omega))).trans (by rw [ent_arr G S hk (by omega) (by omega)])) rfl (ix_in hix) hd ?_
  rw [hix.2.1]
  exact h C hW hS hl hend
theorem r_iast {k n : Nat} {i v : Int32} (hd : decode μ.2.1 pc = .ok (.iastore, 1)) (hk : kd k = 10) (hix : ix i n (ln k)) (h : Ev G l μ d (pc + 1) ls st (u2 S.1 k n v, S.2) Q) : Ev G l μ d pc ls (.int v :: .int i :: .ref k :: st) S Q := by
  intro A p e R s m args below meth c0 H locs cells slots Z la C hW hS hl hend
  refine va_iast C.1 C.2.1 C.2.2.2.2.2.2.2.2.1.1 hW (wld_D G S C.2.2.2.2.2.2.2.1 C.2.2.2.2.2.2.1) hS k 0 ((wld_at G S (kd_lt (by omega))).trans (by rw [ent_arr G S hk (by omega) (by omega)])) rfl (ix_in hix) hd ?_
  intro H1 locs1 hP hD hS1
  rw [hix.2.1] at hP
  have hP2 : Wd G (u2 S.1 k n v, S.2) H1 := by
    unfold Wd
    rw [wld_ast G S hk (by omega) (by omega)]
    exact hP
  exact h C hP2 hS1 hl hend
theorem r_zald {k n : Nat} {i : Int32} (hd : decode μ.2.1 pc = .ok (.baload, 1)) (hk : kd k = 11) (hix : ix i n (ln k)) (h : Ev G l μ d (pc + 1) ls (.int (S.1 k n) :: st) S Q) : Ev G l μ d pc ls (.int i :: .ref k :: st) S Q := by
  intro A p e R s m args below meth c0 H locs cells slots Z la C hW hS hl hend
  refine va_zald C.1 C.2.1 C.2.2.2.2.2.2.2.2.1.1 hW k 1 ((wld_at G S (kd_lt (by omega))).trans (by rw [ent_arr G S hk (by omega) (by omega)])) rfl (ix_in hix) hd ?_
  rw [hix.2.1]
  exact h C hW hS hl hend
theorem r_zast {k n : Nat} {i v : Int32} (hd : decode μ.2.1 pc = .ok (.bastore, 1)) (hk : kd k = 11) (hix : ix i n (ln k)) (hv : vp_nar .boolean v = v) (h : Ev G l μ d (pc + 1) ls st (u2 S.1 k n v, S.2) Q) : Ev G l μ d pc ls (.int v :: .int i :: .ref k :: st) S Q := by
  intro A p e R s m args below meth c0 H locs cells slots Z la C hW hS hl hend
  refine va_zast C.1 C.2.1 C.2.2.2.2.2.2.2.2.1.1 hW (wld_D G S C.2.2.2.2.2.2.2.1 C.2.2.2.2.2.2.1) hS k 1 ((wld_at G S (kd_lt (by omega))).trans (by rw [ent_arr G S hk (by omega) (by omega)])) rfl (ix_in hix) hd ?_
  intro H1 locs1 hP hD hS1
  rw [hix.2.1, hv] at hP
  have hP2 : Wd G (u2 S.1 k n v, S.2) H1 := by
    unfold Wd
    rw [wld_ast G S hk (by omega) (by omega)]
    exact hP
  exact h C hP2 hS1 hl hend
theorem r_aald {k n k' : Nat} {i : Int32} (hd : decode μ.2.1 pc = .ok (.aaload, 1)) (hk : kd k = 12 ∨ kd k = 13) (hix : ix i n (ln k)) (hr : rf k n = k') (h : Ev G l μ d (pc + 1) ls (.ref k' :: st) S Q) : Ev G l μ d pc ls (.int i :: .ref k :: st) S Q := by
  intro A p e R s m args below meth c0 H locs cells slots Z la C hW hS hl hend
  rcases hk with hk | hk
  · refine va_aldq C.1 C.2.1 C.2.2.2.2.2.2.2.2.1.1 hW k 2 ((wld_at G S (kd_lt (by omega))).trans (by rw [ent_rarr G S hk (by omega)])) rfl (ix_in hix) hd ?_
    rw [hix.2.1, hr]
    exact h C hW hS hl hend
  · refine va_aldq C.1 C.2.1 C.2.2.2.2.2.2.2.2.1.1 hW k 3 ((wld_at G S (kd_lt (by omega))).trans (by rw [ent_rarr G S hk (by omega)])) rfl (ix_in hix) hd ?_
    rw [hix.2.1, hr]
    exact h C hW hS hl hend
theorem r_alen {k : Nat} {v : Int32} (hd : decode μ.2.1 pc = .ok (.arraylength, 1)) (hk : 10 ≤ kd k ∧ kd k < 14) (hv : nI (ln k) = v) (h : Ev G l μ d (pc + 1) ls (.int v :: st) S Q) : Ev G l μ d pc ls (.ref k :: st) S Q := by
  intro A p e R s m args below meth c0 H locs cells slots Z la C hW hS hl hend
  have hn : ¬ kd k < 6 := by omega
  rcases (show kd k = 10 ∨ kd k = 11 ∨ kd k = 12 ∨ kd k = 13 by omega) with q | q | q | q
  all_goals
    refine va_alen (x := (ln k, if kd k < 12 then .inl (S.1 k) else .inr (.inr (.inr (.inr (fun i => some (gA G (rf k i)))))))) C.1 C.2.1 C.2.2.2.2.2.2.2.2.1.1 hW k (kd k - 10) ((wld_at G S (kd_lt (by omega))).trans (by unfold ent; rw [if_neg hn])) (by rw [q]; rfl) hv hd ?_
    exact h C hW hS hl hend
theorem r_letters {idx : Nat} (hd : decode μ.2.1 pc = .ok (.getstatic idx, 3)) (hF : μ.1.cls = "ShyStrip$Reader" ∧ idx = 107) (h : Ev G l μ d (pc + 3) ls (.ref 200 :: st) S Q) : Ev G l μ d pc ls st S Q := by
  intro A p e R s m args below meth c0 H locs cells slots Z la C hW hS hl hend
  obtain ⟨h1, rfl⟩ := hF
  exact va_getsN C.1 C.2.1 C.2.2.2.2.2.2.2.2.1.2.1 hS C.2.2.2.1 (by rw [h1]; exact va_Nw.use rfl C.2.2.2.2.2.2.2.2.1.2.2.2.2) (fun _ h => h) hd (h C hW hS hl hend)
theorem r_letter {n : Nat} {i v : Int32} (hd : decode μ.2.1 pc = .ok (.iaload, 1)) (hix : ix i n 6) (hv : letF n = .int v) (h : Ev G l μ d (pc + 1) ls (.int v :: st) S Q) : Ev G l μ d pc ls (.int i :: .ref 200 :: st) S Q := by
  intro A p e R s m args below meth c0 H locs cells slots Z la C hW hS hl hend
  exact va_ti C.1 C.2.1 C.2.2.2.2.2.2.2.2.1.2.2.1 hS (ix_in hix) (by rw [hix.2.1]; exact hv) hd (h C hW hS hl hend)
theorem r_script {n : Nat} {i : Int32} (hlaw : μ.1.name = "law") (hd : decode μ.2.1 pc = .ok (.iaload, 1)) (hix : ix i n (gL G)) (h : Ev G l μ d (pc + 1) ls (.int (gX G n) :: st) S Q) : Ev G l μ d pc ls (.int i :: .ref 201 :: st) S Q := by
  intro A p e R s m args below meth c0 H locs cells slots Z la C hW hS hl hend
  obtain ⟨hX, hb1, hb2⟩ := C.2.2.2.2.2.2.2.2.2 hlaw
  refine va_sld C.1 C.2.1 hX hb1 hb2 hS (ix_in hix) hd ?_
  rw [hix.2.1]
  exact h C hW hS hl hend
theorem r_scriptLen (hlaw : μ.1.name = "law") (hd : decode μ.2.1 pc = .ok (.arraylength, 1)) (h : Ev G l μ d (pc + 1) ls (.int (nI (gL G)) :: st) S Q) : Ev G l μ d pc ls (.ref 201 :: st) S Q := by
  intro A p e R s m args below meth c0 H locs cells slots Z la C hW hS hl hend
  obtain ⟨hX, hb1, hb2⟩ := C.2.2.2.2.2.2.2.2.2 hlaw
  exact va_slen C.1 C.2.1 hX hb1 hb2 hS hd (h C hW hS hl hend)
theorem r_copy {idx k0 k1 a b n : Nat} {sp dp x : Int32} (hd : decode μ.2.1 pc = .ok (.invokestatic idx, 3)) (hlink : Cond.methodLink μ.1.cls idx arraycopyName ∈ gtb) (hnat : Cond.native arraycopyName ∈ gtb) (hstt : Cond.static arraycopyName ∈ gtb) (hini : Cond.initialized "java/lang/System" ∈ gtb)
    (hk0 : kd k0 = 10) (hk1 : kd k1 = 10) (hsp : sp = nI a) (hdp : dp = nI b) (hx : x = nI n) (h1 : a + n ≤ ln k0) (h2 : b + n ≤ ln k1) (h3 : ln k0 < 2 ^ 31) (h4 : ln k1 < 2 ^ 31) (hst : (st.map fun v => v.category).sum ≤ 8) (h : Ev G l μ d (pc + 3) ls st (u1 S.1 k1 (va_cpy (S.1 k0) (S.1 k1) a b n), S.2) Q) : Ev G l μ d pc ls (.int x :: .int dp :: .ref k1 :: .int sp :: .ref k0 :: st) S Q := by
  intro A p e R s m args below meth c0 H locs cells slots Z la C hW hS hl hend
  subst hsp
  subst hdp
  subst hx
  have ca : (nI a).toNatClampNeg = a := nI_clamp (by omega)
  have cb : (nI b).toNatClampNeg = b := nI_clamp (by omega)
  have cn : (nI n).toNatClampNeg = n := nI_clamp (by omega)
  have hcat : ((st.map (cv G)).map fun v => v.category) = st.map fun v => v.category := by
    rw [List.map_map]
    exact List.map_congr_left (fun v _ => cv_cat G v)
  refine va_copyi (ty := .int) C.1 C.2.1 (C.2.2.1.trans hl.1.symm) C.2.2.2.1 (C.2.2.2.2.1 _ hlink) (C.2.2.2.2.1 _ hnat) (C.2.2.2.2.1 _ hstt) (C.2.2.2.2.1 _ hini) C.2.2.2.2.2.2.2.2.1.1 hW (wld_D G S C.2.2.2.2.2.2.2.1 C.2.2.2.2.2.2.1) hS k0 k1 0 0 ((wld_at G S (kd_lt (by omega))).trans (by rw [ent_arr G S hk0 (by omega) (by omega)])) ((wld_at G S (kd_lt (by omega))).trans (by rw [ent_arr G S hk1 (by omega) (by omega)])) rfl rfl rfl (nI_pos (by omega)) (nI_pos (by omega)) (nI_pos (by omega)) (by rw [ca, cn]; exact h1) (by rw [cb, cn]; exact h2) (fun _ _ => rfl) (by have := C.2.2.2.2.2.1.1; omega) ?_ hd ?_
  · rw [hcat]
    have h5 := C.2.2.2.2.2.1.2.1
    have h6 : nativeFrameWords "java/lang/System" "arraycopy" 5 ≤ 60 := by decide +kernel
    omega
  · intro H1 locs1 hP hD hS1
    rw [ca, cb, cn] at hP
    have hP2 : Wd G (u1 S.1 k1 (va_cpy (S.1 k0) (S.1 k1) a b n), S.2) H1 := by
      unfold Wd
      rw [wld_row G S hk1 (by omega) (by omega)]
      exact hP
    exact h C hP2 hS1 hl hend
/-- a method's ends -/
def QI (P : Int32 → Sg → Prop) : Option Value → Sg → Prop := fun v S => ∃ x, v = some (.int x) ∧ P x S
def QL (P : Int64 → Sg → Prop) : Option Value → Sg → Prop := fun v S => ∃ x, v = some (.long x) ∧ P x S
def QV (P : Sg → Prop) : Option Value → Sg → Prop := fun v S => v = none ∧ P S
theorem r_iret {x : Int32} {P : Int32 → Sg → Prop} (hd : decode μ.2.1 pc = .ok (.ireturn, 1)) (hr : μ.2.2.2 = some .int) (h : P x S) : Ev G l μ d pc ls [.int x] S (QI P) := by
  intro A p e R s m args below meth c0 H locs cells slots Z la C hW hS hl hend
  exact hend (some (.int x)) S H locs pc la ⟨x, rfl, h⟩ hW hS ⟨hd, .int, hr, rfl⟩
theorem r_zret {x : Int32} {P : Int32 → Sg → Prop} (hd : decode μ.2.1 pc = .ok (.ireturn, 1)) (hr : μ.2.2.2 = some .boolean) (hx : narrow .boolean (.int x) = .int x) (h : P x S) : Ev G l μ d pc ls [.int x] S (QI P) := by
  intro A p e R s m args below meth c0 H locs cells slots Z la C hW hS hl hend
  exact hend (some (.int x)) S H locs pc la ⟨x, rfl, h⟩ hW hS ⟨hd, .boolean, hr, hx⟩
theorem r_lret {x : Int64} {P : Int64 → Sg → Prop} (hd : decode μ.2.1 pc = .ok (.lreturn, 1)) (hr : μ.2.2.2 = some .long) (h : P x S) : Ev G l μ d pc ls [.long x] S (QL P) := by
  intro A p e R s m args below meth c0 H locs cells slots Z la C hW hS hl hend
  exact hend (some (.long x)) S H locs pc la ⟨x, rfl, h⟩ hW hS ⟨hd, hr⟩
theorem r_vret {P : Sg → Prop} (hd : decode μ.2.1 pc = .ok (.return_, 1)) (hr : μ.2.2.2 = none) (h : P S) : Ev G l μ d pc ls [] S (QV P) := by
  intro A p e R s m args below meth c0 H locs cells slots Z la C hW hS hl hend
  exact hend none S H locs pc la ⟨rfl, h⟩ hW hS ⟨hd, hr⟩
theorem Ev.mono {Q' : Option Value → Sg → Prop} (hQ : ∀ v S', Q v S' → Q' v S') (h : Ev G l μ d pc ls st S Q) : Ev G l μ d pc ls st S Q' := by
  intro A p e R s m args below meth c0 H locs cells slots Z la C hW hS hl hend
  exact h C hW hS hl (fun v S' H' locs' pc' la' hq => hend v S' H' locs' pc' la' (hQ v S' hq))
/-- fewer locals known -/
theorem Ev.less {ls' : List (Option Value)} (hs : ∀ (j : Nat) (v : Value), ls'[j]? = some (some v) → ls[j]? = some (some v)) (h : Ev G l μ d pc ls' st S Q) : Ev G l μ d pc ls st S Q := by
  intro A p e R s m args below meth c0 H locs cells slots Z la C hW hS hl hend
  refine h C hW hS (lv_less hl ?_) hend
  rintro ⟨i, w⟩ hq
  obtain ⟨j, v, h1, h2, h3⟩ := (lcs_mem G ls' 0 i w).mp hq
  exact (lcs_mem G ls 0 i w).mpr ⟨j, v, hs j v h1, h2, h3⟩
/-- a call's words -/
def CB (own : String) (idx : Nat) (μ2 : Mt) (n : Nat) : Prop := Cond.methodLink own idx μ2.1 ∈ gtb ∧ Cond.initialized μ2.1.cls ∈ gtb ∧ Cond.code μ2.1 μ2.2.1 μ2.2.2.1 μ2.2.2.2 ∈ gtb ∧ (μ2.1.cls ≠ "java/lang/invoke/MethodHandle" ∧ μ2.1.cls ≠ "java/lang/invoke/VarHandle") ∧ (parseMethodDescriptor μ2.1.desc).map (fun d => d.parameters.length) = some n ∧ μ2.2.2.1 ≤ 80
def CV (own : String) (idx : Nat) (μ2 : Mt) (n : Nat) : Prop := CB own idx μ2 n ∧ Cond.instanceMethod μ2.1 ∈ gtb ∧ Cond.selects μ2.1.cls μ2.1 μ2.1 ∈ gtb
def CS (own : String) (idx : Nat) (μ2 : Mt) (n : Nat) : Prop := CB own idx μ2 n ∧ Cond.static μ2.1 ∈ gtb
theorem callB {A : Nat → Prop} {p : Program} {R : Room} {s : State} {m : MethodId} {args : Array Value} {c0 : Code} {cells slots : Nat} {μ2 : Mt} {idx n d2 : Nat} (C : Cx G μ d A p R s m args c0 cells slots) (cb : CB μ.1.cls idx μ2 n) (hd2 : d2 < d) :
    CallB R s args μ.1.cls idx μ2.1 μ2.2.1 μ2.2.2.1 μ2.2.2.2 (Cond.code μ2.1 μ2.2.1 μ2.2.2.1 μ2.2.2.2 :: gtb) (rmD d2) 0 0 n := by
  obtain ⟨h1, h2, h3, h4, h5, h6⟩ := cb
  have hts := C.2.2.2.2.1
  have hR := C.2.2.2.2.2.1
  refine ⟨rfl, rfl, ?_, ?_, ?_, List.mem_cons_self, hts _ h3, hts _ h2, h4, fun sig h => ?_, hts _ h1⟩
  · show d2 + 1 + 1 ≤ _
    omega
  · show 8 + (_ + 11) + 100 * (d2 + 1) ≤ _
    omega
  · intro w hw
    refine pay_in hts tbl_in w ?_
    rcases List.mem_cons.mp hw with h | h
    · rw [h]; exact h3
    · exact h
  · rw [h] at h5
    exact (Option.some.inj h5).symm
theorem run_call {A : Nat → Prop} {p : Program} {e : Env} {R : Room} {s : State} {m : MethodId} {args a : Array Value} {below : List Frame} {meth : Method} {c : Code} {H : Heap} {locs : List Loc} {cells slots : Nat} {Z : State → Prop} {la : Array Slot} {st0 rest : List Value} {Q2 : Option Value → Sg → Prop}
    (hr : va_Run p l e R s m args below meth c H locs cells slots 0 0 (F0 m pc la st0) rest (QcD G Q2 a) (Aw G)) (hS : va_S A s.heap H locs) (hA : ∀ q, Aw G q → A q)
    (kk : ∀ (v : Option Value) (S' : Sg) (H1 : Heap) (locs1 : List Loc), Q2 v S' → (vL v).map (cv G) = vL v → Wd G S' H1 → va_S A s.heap H1 locs1 → W p l e R s m args below meth c H1 locs1 cells slots Z (F0 m (pc + 3) la (vL v ++ rest))) : W p l e R s m args below meth c H locs cells slots Z (F0 m pc la st0) := by
  intro T hT X
  obtain ⟨v0, st₀, t, T', L, h0, X', hL, e1, e2, ⟨⟨v, S', hv, hq, hw, hvv⟩, hz, hk⟩, stp⟩ := hr T hT X
  cases hv
  rw [h0] at hz hk
  obtain ⟨t2, a1, b1⟩ := kk v0 S' T'.heap (locs ++ L) hq hvv (by rw [e1]; exact hw)
    ⟨Nat.le_trans hS.1 (by rw [e1]; exact hz), fun q h1 h2 => by rw [e1, hk q (Nat.lt_of_lt_of_le h1 hS.1) (fun z => h2 (hA q z))]; exact hS.2.1 q h1 h2, fun q hq => by
      rcases List.mem_append.mp hq with h | h
      · exact hS.2.2 q h
      · exact hA _ (hL q h)⟩ T' rfl X'
  refine ⟨t2, stp t2 ?_, b1⟩
  have hvl : v0.toList = vL v0 := by cases v0 <;> rfl
  rw [hvl]
  exact a1
theorem pre_of {A : Nat → Prop} {p : Program} {R : Room} {s : State} {m : MethodId} {args : Array Value} {c0 : Code} {cells slots : Nat} {H : Heap} {locs : List Loc} (C : Cx G μ d A p R s m args c0 cells slots) (hW : Wd G S H) (hS : va_S A s.heap H locs) (as : List Value) {U : State} (hU : U.heap = H) (hWm : s.WarmedH U.vm) : PcD G as S (as.map (cv G)).toArray U := by
  have hKn := C.2.2.2.2.2.2.2.2.1
  refine ⟨rfl, by rw [hU]; exact hW, C.2.2.2.2.2.2.2.1, ?_⟩
  rw [hU]
  exact Kn.warm hWm ((hKn.kept hS.2.1).narrow C.2.2.2.2.2.2.1)
theorem r_callV {μ2 : Mt} {d2 idx k n : Nat} {as stk : List Value} {Q2 : Option Value → Sg → Prop} (c : Nat) (cw : CV μ.1.cls idx μ2 n) (hd : decode μ.2.1 pc = .ok (.invokevirtual idx, 3)) (hn : as.length = n) (hk : kd k = c) (hc : c < 6) (hcl : cC c = μ2.1.cls) (hok : MtOk μ2 (lg_sl (.ref k :: as)).length) (hd2 : d2 < d) (hst : (st.map fun v => v.category).sum ≤ 8) (hstk : stk = as.reverse ++ .ref k :: st)
    (hm : Ct G l μ2 d2 (.ref k :: as) S Q2) (kk : ∀ v S', Q2 v S' → Ev G l μ d (pc + 3) ls (vL v ++ st) S' Q) : Ev G l μ d pc ls stk S Q := by
  intro A p e R s m args below meth c0 H locs cells slots Z la C hW hS hl hend
  subst hstk
  have hcat : ((st.map (cv G)).map fun v => v.category) = st.map fun v => v.category := by
    rw [List.map_map]
    exact List.map_congr_left (fun v _ => cv_cat G v)
  obtain ⟨hvc, hin, hty, hnm⟩ := cls_ok hc
  have hrecv := va_recv (ci := c) C.2.2.2.2.2.2.2.2.1.1 hW hvc ((wld_at G S (k := k) (kd_lt (by omega))).trans (by rw [ent_obj G S hk hc]))
  refine run_call (va_runV (Ts := gtb) (own := μ.1.cls) (C := μ2.1.cls) (As := as.map (cv G)) (rest := st.map (cv G)) ⟨C.1, C.2.1, C.2.2.1, C.2.2.2.1, C.2.2.2.2.1⟩ (ct_met hok hm) (n := n) ⟨callB C cw.1 hd2, C.2.2.2.2.1 _ cw.2.1, C.2.2.2.2.1 _ cw.2.2⟩ ⟨pcD_blind G _ S, by rw [← hcl]; exact hrecv, fun U hU hWm => pre_of C hW hS (.ref k :: as) hU hWm⟩ rfl (by simpa using hn) hl.1 (by simp [cv]) (lv_room (by rw [hcat]; exact hst)) hd ⟨by have := C.2.2.2.2.2.1; omega, by have := C.2.2.2.2.2.1; omega⟩) hS C.2.2.2.2.2.2.1 ?_
  intro v S' H1 locs1 hq hvv hW1 hS1
  have h1 := kk v S' hq C hW1 hS1 hl hend
  rw [List.map_append, hvv] at h1
  exact h1
theorem r_callS {μ2 : Mt} {d2 idx n : Nat} {as stk : List Value} {Q2 : Option Value → Sg → Prop} (cw : CS μ.1.cls idx μ2 n) (hd : decode μ.2.1 pc = .ok (.invokestatic idx, 3)) (hn : as.length = n) (hok : MtOk μ2 (lg_sl as).length) (hd2 : d2 < d) (hst : (st.map fun v => v.category).sum ≤ 8) (hstk : stk = as.reverse ++ st)
    (hm : Ct G l μ2 d2 as S Q2) (kk : ∀ v S', Q2 v S' → Ev G l μ d (pc + 3) ls (vL v ++ st) S' Q) : Ev G l μ d pc ls stk S Q := by
  intro A p e R s m args below meth c0 H locs cells slots Z la C hW hS hl hend
  subst hstk
  have hcat : ((st.map (cv G)).map fun v => v.category) = st.map fun v => v.category := by
    rw [List.map_map]
    exact List.map_congr_left (fun v _ => cv_cat G v)
  refine run_call (va_runS (Ts := gtb) (own := μ.1.cls) (As := as.map (cv G)) (rest := st.map (cv G)) ⟨C.1, C.2.1, C.2.2.1, C.2.2.2.1, C.2.2.2.2.1⟩ (ct_met hok hm) (n := n) ⟨callB C cw.1 hd2, C.2.2.2.2.1 _ cw.2⟩ ⟨pcD_blind G _ S, fun U hU hWm => pre_of C hW hS as hU hWm⟩ rfl (by simpa using hn) hl.1 (by simp) (lv_room (by rw [hcat]; exact hst)) hd ⟨by have := C.2.2.2.2.2.1; omega, by have := C.2.2.2.2.2.1; omega⟩) hS C.2.2.2.2.2.2.1 ?_
  intro v S' H1 locs1 hq hvv hW1 hS1
  have h1 := kk v S' hq C hW1 hS1 hl hend
  rw [List.map_append, hvv] at h1
  exact h1
/-- a call of a nest mate's private static method -/
def CN (own : String) (idx : Nat) (μ2 : Mt) (n : Nat) : Prop := (own, idx, μ2.1, "ShyStrip") ∈ nestM ∧ Cond.initialized μ2.1.cls ∈ gtb ∧ Cond.code μ2.1 μ2.2.1 μ2.2.2.1 μ2.2.2.2 ∈ gtb ∧ (μ2.1.cls ≠ "java/lang/invoke/MethodHandle" ∧ μ2.1.cls ≠ "java/lang/invoke/VarHandle") ∧ (parseMethodDescriptor μ2.1.desc).map (fun d => d.parameters.length) = some n ∧ μ2.2.2.1 ≤ 80 ∧ Cond.static μ2.1 ∈ gtb
theorem r_callN {μ2 : Mt} {d2 idx n : Nat} {as stk : List Value} {Q2 : Option Value → Sg → Prop} (cw : CN μ.1.cls idx μ2 n) (hd : decode μ.2.1 pc = .ok (.invokestatic idx, 3)) (hn : as.length = n) (hok : MtOk μ2 (lg_sl as).length) (hd2 : d2 < d) (hst : (st.map fun v => v.category).sum ≤ 8) (hstk : stk = as.reverse ++ st)
    (hm : Ct G l μ2 d2 as S Q2) (kk : ∀ v S', Q2 v S' → Ev G l μ d (pc + 3) ls (vL v ++ st) S' Q) : Ev G l μ d pc ls stk S Q := by
  intro A p e R s m args below meth c0 H locs cells slots Z la C hW hS hl hend
  subst hstk
  have hcat : ((st.map (cv G)).map fun v => v.category) = st.map fun v => v.category := by
    rw [List.map_map]
    exact List.map_congr_left (fun v _ => cv_cat G v)
  obtain ⟨h1, h2, h3, h4, h5, h6, h7⟩ := cw
  have hts := C.2.2.2.2.1
  have hR := C.2.2.2.2.2.1
  refine run_call (va_runSN (Ts := gtb) (own := μ.1.cls) (host := "ShyStrip") (As := as.map (cv G)) (rest := st.map (cv G)) ⟨C.1, C.2.1, C.2.2.1, C.2.2.2.1, C.2.2.2.2.1⟩ (ct_met hok hm) (n := n) ⟨⟨⟨rfl, rfl, ?_, ?_, ?_, List.mem_cons_self⟩, hts _ h3, hts _ h2, h4, fun sig h => ?_, va_Nw.use rfl (C.2.2.2.2.2.2.2.2.1.2.2.2.1 _ h1)⟩, hts _ h7, trivial⟩ ⟨pcD_blind G _ S, fun U hU hWm => pre_of C hW hS as hU hWm⟩ rfl (by simpa using hn) hl.1 (by simp) (lv_room (by rw [hcat]; exact hst)) hd ⟨by omega, by omega⟩) hS C.2.2.2.2.2.2.1 ?_
  · show d2 + 1 + 1 ≤ _
    omega
  · show 8 + (_ + 11) + 100 * (d2 + 1) ≤ _
    omega
  · intro w hw
    refine pay_in hts tbl_in w ?_
    rcases List.mem_cons.mp hw with h | h
    · rw [h]; exact h3
    · exact h
  · rw [h] at h5
    exact (Option.some.inj h5).symm
  · intro v S' H1 locs1 hq hvv hW1 hS1
    have h1 := kk v S' hq C hW1 hS1 hl hend
    rw [List.map_append, hvv] at h1
    exact h1
/-- a call's value taken up -/
theorem k_I {P : Int32 → Sg → Prop} (h : ∀ x S', P x S' → Ev G l μ d pc ls (.int x :: st) S' Q) : ∀ v S', QI P v S' → Ev G l μ d pc ls (vL v ++ st) S' Q := by
  rintro v S' ⟨x, rfl, hp⟩
  exact h x S' hp
theorem k_L {P : Int64 → Sg → Prop} (h : ∀ x S', P x S' → Ev G l μ d pc ls (.long x :: st) S' Q) : ∀ v S', QL P v S' → Ev G l μ d pc ls (vL v ++ st) S' Q := by
  rintro v S' ⟨x, rfl, hp⟩
  exact h x S' hp
theorem k_V {P : Sg → Prop} (h : ∀ S', P S' → Ev G l μ d pc ls st S' Q) : ∀ v S', QV P v S' → Ev G l μ d pc ls (vL v ++ st) S' Q := by
  rintro v S' ⟨rfl, hp⟩
  exact h S' hp
end mem
