/-! Ev: a method's frame at a place of its code, locals and stack by places of the world, comes to its end with Q -/
abbrev Mt : Type := MethodName × ByteArray × Nat × Option FieldType
def cv (G : Gl) (v : Value) : Value := match v with
  | .ref k => .ref (gA G k)
  | w => w
def lcs (G : Gl) : Nat → List (Option Value) → List (Nat × Value)
  | _, [] => []
  | i, none :: t => lcs G (i + 1) t
  | i, some v :: t => (i, cv G v) :: lcs G (i + 1) t
theorem lcs_mem (G : Gl) : ∀ (ls : List (Option Value)) (a i : Nat) (w : Value), (i, w) ∈ lcs G a ls ↔ ∃ j v, ls[j]? = some (some v) ∧ i = a + j ∧ w = cv G v
  | [], a, i, w => by simp [lcs]
  | none :: t, a, i, w => by
    unfold lcs
    rw [lcs_mem G t (a + 1) i w]
    constructor
    · rintro ⟨j, v, h1, h2, h3⟩
      exact ⟨j + 1, v, by simpa using h1, by omega, h3⟩
    · rintro ⟨j, v, h1, h2, h3⟩
      cases j with
      | zero => simp at h1
      | succ j => exact ⟨j, v, by simpa using h1, by omega, h3⟩
  | some v0 :: t, a, i, w => by
    unfold lcs
    rw [List.mem_cons, lcs_mem G t (a + 1) i w]
    constructor
    · rintro (h | ⟨j, v, h1, h2, h3⟩)
      · cases h
        exact ⟨0, v0, by simp, by omega, rfl⟩
      · exact ⟨j + 1, v, by simpa using h1, by omega, h3⟩
    · rintro ⟨j, v, h1, h2, h3⟩
      cases j with
      | zero =>
        simp at h1
        subst h1
        exact Or.inl (by rw [h2, h3]; rfl)
      | succ j => exact Or.inr ⟨j, v, by simpa using h1, by omega, h3⟩
theorem lv_less {la : Array Slot} {n : Nat} {l l' : List (Nat × Value)} (h : lv_has la n l) (hs : ∀ q ∈ l', q ∈ l) : lv_has la n l' := ⟨h.1, h.2.1, fun q hq => h.2.2 q (hs q hq)⟩
theorem lc_at {G : Gl} {la : Array Slot} {n i : Nat} {ls : List (Option Value)} {v : Value} (h : lv_has la n (lcs G 0 ls)) (hi : ls[i]? = some (some v)) : la[i]? = some (.val (cv G v)) :=
  h.2.2 (i, cv G v) ((lcs_mem G ls 0 i _).mpr ⟨i, v, hi, by omega, rfl⟩)
theorem cv_cat (G : Gl) (v : Value) : (cv G v).category = v.category := by cases v <;> rfl
/-- no long stands right ahead of a local -/
def okS (ls : List (Option Value)) (i : Nat) : Bool := match i with
  | 0 => true
  | i + 1 => match ls[i]? with
    | some (some v) => v.category != 2
    | _ => true
theorem lc_set {G : Gl} {ls : List (Option Value)} {i : Nat} {v : Value} (hok : okS ls i = true) : ∀ q ∈ lcs G 0 (ls.set i (some v)), q ∈ (i, cv G v) :: (lcs G 0 ls).filter (fun q => !(q.1 == i) && !(q.1 + 1 == i && q.2.category == 2)) := by
  rintro ⟨j, w⟩ hq
  obtain ⟨j', u, h1, h2, h3⟩ := (lcs_mem G _ 0 j w).mp hq
  obtain rfl : j = j' := by omega
  by_cases hj : j = i
  · subst hj
    rw [List.getElem?_set] at h1
    split at h1
    · split at h1
      · cases h1
        rw [h3]
        exact List.mem_cons_self
      · cases h1
    · rename_i hne
      exact absurd rfl hne
  · rw [List.getElem?_set_ne (Ne.symm hj)] at h1
    refine List.mem_cons_of_mem _ (List.mem_filter.mpr ⟨(lcs_mem G ls 0 j w).mpr ⟨j, u, h1, by omega, h3⟩, ?_⟩)
    simp only [Bool.and_eq_true, Bool.not_eq_true', beq_eq_false_iff_ne, ne_eq, Bool.and_eq_false_iff]
    refine ⟨hj, ?_⟩
    by_cases h4 : j + 1 = i
    · right
      subst h4
      simp only [okS, h1, bne_iff_ne, ne_eq] at hok
      rw [h3, cv_cat]
      exact hok
    · exact Or.inl h4
theorem lc_set2 {G : Gl} {ls : List (Option Value)} {i : Nat} {v : Value} (hok : okS ls i = true) : ∀ q ∈ lcs G 0 ((ls.set i (some v)).set (i + 1) none), q ∈ (i, cv G v) :: (lcs G 0 ls).filter (fun q => !(q.1 == i) && (!(q.1 == i + 1) && !(q.1 + 1 == i && q.2.category == 2))) := by
  rintro ⟨j, w⟩ hq
  obtain ⟨j', u, h1, h2, h3⟩ := (lcs_mem G _ 0 j w).mp hq
  obtain rfl : j = j' := by omega
  have hj1 : j ≠ i + 1 := by
    intro h
    subst h
    rw [List.getElem?_set] at h1
    split at h1
    · split at h1
      · cases h1
      · cases h1
    · rename_i hne
      exact absurd rfl hne
  rw [List.getElem?_set_ne (Ne.symm hj1)] at h1
  by_cases hj : j = i
  · subst hj
    rw [List.getElem?_set] at h1
    split at h1
    · split at h1
      · cases h1
        rw [h3]
        exact List.mem_cons_self
      · cases h1
    · rename_i hne
      exact absurd rfl hne
  · rw [List.getElem?_set_ne (Ne.symm hj)] at h1
    refine List.mem_cons_of_mem _ (List.mem_filter.mpr ⟨(lcs_mem G ls 0 j w).mpr ⟨j, u, h1, by omega, h3⟩, ?_⟩)
    simp only [Bool.and_eq_true, Bool.not_eq_true', beq_eq_false_iff_ne, ne_eq, Bool.and_eq_false_iff]
    refine ⟨hj, hj1, ?_⟩
    by_cases h4 : j + 1 = i
    · right
      subst h4
      simp only [okS, h1, bne_iff_ne, ne_eq] at hok
      rw [h3, cv_cat]
      exact hok
    · exact Or.inl h4
/-- the links to private members of a nest mate -/
def nestM : List (String × Nat × MethodName × String) := [("ShyStrip$Land", 83, ⟨"ShyStrip", "middleOf", "(II)I"⟩, "ShyStrip"), ("ShyStrip$Land", 65, ⟨"ShyStrip", "coastsOf", "(II)I"⟩, "ShyStrip"), ("ShyStrip$Land", 116, ⟨"ShyStrip", "westOf", "(I)I"⟩, "ShyStrip"), ("ShyStrip$Land", 119, ⟨"ShyStrip", "eastOf", "(I)I"⟩, "ShyStrip")]
def Nt (U : State) : Prop := (∀ q ∈ nestM, va_Nw (.methodLinkNest q.1 q.2.1 q.2.2.1 q.2.2.2) U) ∧ va_Nw (.fieldLinkNest "ShyStrip$Reader" 107 "ShyStrip" "LETTERS" "[I" "ShyStrip") U
theorem Nt.warm {s U : State} (hW : s.WarmedH U.vm) (h : Nt s) : Nt U := ⟨fun q hq => va_Nw.warmM hW (h.1 q hq), va_Nw.warmF hW h.2⟩
theorem Nt.same {u U : State} (hv : u.vm = U.vm) (h : Nt u) : Nt U := ⟨fun q hq => va_Nw.same rfl hv (h.1 q hq), va_Nw.same rfl hv h.2⟩
def Kn (A : Nat → Prop) (G : Gl) (U : State) (H : Heap) : Prop := va_K (gD G) vwCl (tyL G) U ∧ va_Z "ShyStrip" "LETTERS" "[I" (.ref (gA G 200)) A U H ∧ va_T .int (gA G 200) 6 letF A U H ∧ Nt U
theorem Kn.warm {A : Nat → Prop} {G : Gl} {s U : State} {H : Heap} (hW : s.WarmedH U.vm) (h : Kn A G s H) : Kn A G U H := ⟨va_K.moved hW.alike h.1, va_Z.moved hW.alike h.2.1, va_T.moved hW.alike h.2.2.1, Nt.warm hW h.2.2.2⟩
theorem Kn.same {A : Nat → Prop} {G : Gl} {u U : State} {H : Heap} (hv : u.vm = U.vm) (h : Kn A G u H) : Kn A G U H := by
  have ha : u.vm.Alike U.vm := by rw [← hv]; exact Vm.Alike.refl u.vm
  exact ⟨va_K.moved ha h.1, va_Z.moved ha h.2.1, va_T.moved ha h.2.2.1, Nt.same hv h.2.2.2⟩
theorem Kn.kept {A : Nat → Prop} {G : Gl} {U : State} {H H1 : Heap} (h : Kn A G U H) (hq : ∀ a : Nat, a < H.size → ¬ A a → H1[a]? = H[a]?) : Kn A G U H1 := ⟨h.1, h.2.1.kept hq, h.2.2.1.kept hq, h.2.2.2⟩
theorem Kn.narrow {A B : Nat → Prop} {G : Gl} {U : State} {H : Heap} (h : Kn A G U H) (hAB : ∀ q, B q → A q) : Kn B G U H := ⟨h.1, h.2.1.narrow hAB, h.2.2.1.narrow hAB, h.2.2.2⟩
def Wd (G : Gl) (S : Sg) (H : Heap) : Prop := va_P (gD G) vwCl (wld G S) H
/-- what stays the same all along a method's run -/
def Cx (G : Gl) (μ : Mt) (d : Nat) (A : Nat → Prop) (p : Program) (R : Room) (s : State) (m : MethodId) (args : Array Value) (c : Code) (cells slots : Nat) : Prop :=
  p.tables.exec = Jvm.exec ∧ c.code = μ.2.1 ∧ c.maxLocals = μ.2.2.1 ∧ s.vm.findClass μ.1.cls = some m.cls ∧ (∀ w ∈ gtb, w.before args s = true) ∧
  (d + 1 ≤ R.frames ∧ 100 * (d + 1) ≤ R.locals ∧ cells ≤ R.cells ∧ slots ≤ R.slots) ∧ (∀ q, Aw G q → A q) ∧ (∀ i j, i < 104 → j < 104 → gA G i = gA G j → i = j) ∧ Kn A G s s.heap ∧
  (μ.1.name = "law" → va_X (gA G 201) (gL G) (gX G) s s.heap ∧ gA G 201 < s.heap.size ∧ ¬ A (gA G 201))
/-- the code's return at a place, of a value -/
def RetAt (μ : Mt) (pc : Nat) (v : Option Value) : Prop := match v with
  | none => decode μ.2.1 pc = .ok (.return_, 1) ∧ μ.2.2.2 = none
  | some (.int x) => decode μ.2.1 pc = .ok (.ireturn, 1) ∧ ∃ ty, μ.2.2.2 = some ty ∧ narrow ty (.int x) = .int x
  | some (.long _) => decode μ.2.1 pc = .ok (.lreturn, 1) ∧ μ.2.2.2 = some .long
  | _ => False
def vL (v : Option Value) : List Value := match v with
  | none => []
  | some w => [w]
def Ev (G : Gl) (l : Launch) (μ : Mt) (d pc : Nat) (ls : List (Option Value)) (st : List Value) (S : Sg) (Q : Option Value → Sg → Prop) : Prop :=
  ∀ ⦃A : Nat → Prop⦄ ⦃p : Program⦄ ⦃e : Env⦄ ⦃R : Room⦄ ⦃s : State⦄ ⦃m : MethodId⦄ ⦃args : Array Value⦄ ⦃below : List Frame⦄ ⦃meth : Method⦄ ⦃c : Code⦄ ⦃H : Heap⦄ ⦃locs : List Loc⦄ ⦃cells slots : Nat⦄ ⦃Z : State → Prop⦄ ⦃la : Array Slot⦄,
    Cx G μ d A p R s m args c cells slots → Wd G S H → va_S A s.heap H locs → lv_has la μ.2.2.1 (lcs G 0 ls) →
    (∀ (v : Option Value) (S' : Sg) (H' : Heap) (locs' : List Loc) (pc' : Nat) (la' : Array Slot), Q v S' → Wd G S' H' → va_S A s.heap H' locs' → RetAt μ pc' v → W p l e R s m args below meth c H' locs' cells slots Z (F0 m pc' la' (vL v))) →
    W p l e R s m args below meth c H locs cells slots Z (F0 m pc la (st.map (cv G)))
/-- the locals at the entry -/
def ini : Nat → List Value → List (Option Value)
  | n, [] => List.replicate n none
  | n, v :: t => if v.category = 2 then some v :: none :: ini (n - 2) t else some v :: ini (n - 1) t
theorem ini_sub (G : Gl) : ∀ (as : List Value) (n a : Nat), ∀ q ∈ lcs G a (ini n as), q ∈ lv_args a (as.map (cv G))
  | [], n, a => by
    intro q hq
    obtain ⟨i, w⟩ := q
    obtain ⟨j, v, h1, -⟩ := (lcs_mem G _ a i w).mp hq
    unfold ini at h1
    rw [List.getElem?_replicate] at h1
    split at h1 <;> cases h1
  | v :: t, n, a => by
    intro q hq
    unfold ini at hq
    split at hq
    · rename_i hc
      unfold lcs at hq
      simp only [List.map_cons, lv_args, cv_cat, if_pos hc]
      rcases List.mem_cons.mp hq with h | h
      · rw [h]
        exact List.mem_cons_self
      · unfold lcs at h
        exact List.mem_cons_of_mem _ (ini_sub G t _ _ q h)
    · rename_i hc
      unfold lcs at hq
      simp only [List.map_cons, lv_args, cv_cat, if_neg hc]
      rcases List.mem_cons.mp hq with h | h
      · rw [h]
        exact List.mem_cons_self
      · exact List.mem_cons_of_mem _ (ini_sub G t _ _ q h)
/-- a method's contract: from its entry -/
def Ct (G : Gl) (l : Launch) (μ : Mt) (d : Nat) (as : List Value) (S : Sg) (Q : Option Value → Sg → Prop) : Prop := Ev G l μ d 0 (ini μ.2.2.1 as) [] S Q
def rmD (d : Nat) : Room := { frames := d + 1, cells := 0, slots := 0, locals := 100 * (d + 1) }
def PcD (G : Gl) (as : List Value) (S : Sg) : Array Value → State → Prop := va_Pc (as.map (cv G)) (fun U => Wd G S U.heap ∧ (∀ i j, i < 104 → j < 104 → gA G i = gA G j → i = j) ∧ Kn (Aw G) G U U.heap)
def QcD (G : Gl) (Q : Option Value → Sg → Prop) : Array Value → State → Outcome → State → Prop := fun _ st oc t => (∃ (v : Option Value) (S' : Sg), oc = .returned v ∧ Q v S' ∧ Wd G S' t.heap ∧ (vL v).map (cv G) = vL v) ∧ va_F (Aw G) st t
theorem pcD_blind (G : Gl) (as : List Value) (S : Sg) : FrameBlind (PcD G as S) := by
  intro a U g mk h
  obtain ⟨h1, h2, h3, h4⟩ := h
  exact ⟨h1, h2, h3, Kn.same (u := U) (U := U.calling g mk a) rfl h4⟩
/-- the lengths of a call's values fit the callee's locals -/
def MtOk (μ : Mt) (n : Nat) : Prop := plainFor μ.1 = true ∧ μ.1.name ≠ "law" ∧ n ≤ μ.2.2.1
theorem met_ofWF {l : Launch} {y : MethodName} {ws ws' : List Cond} {rm : Room} {Pc : Array Value → State → Prop} {Qc : Array Value → State → Outcome → State → Prop} {mc ms : Nat} {free : Addr → Prop} {cc : ByteArray} {maxL : Nat} {ret : Option FieldType}
    (hy : plainFor y = true) (hw : ws = Cond.code y cc maxL ret :: ws')
    (body : ∀ p e s m args below meth c s₁, BodyLoose p l y (headSpec ws rm) cc maxL ret e s m args below meth c s₁ → c.maxLocals = maxL → Pc args s →
      W p l e (headSpec ws rm).room s m args below meth c s.heap [] 0 0 (MQ below Qc args s mc ms free) (entryFrame m args maxL)) : Met l y ws rm Pc Qc mc ms free := by
  refine MetFree.of_bodySF (code := cc) (maxLocals := maxL) (ret := ret) hy ?_ ?_
  · intro args s m h hn
    obtain ⟨meth, c, h1, h2, h3, h4, h5, h6, -, -⟩ := Cond.code_spec hn (atoms_spec (ws := ws) h _ (by rw [hw]; exact List.mem_cons_self))
    exact ⟨meth, c, h1, h2, h3, h4, h5, h6⟩
  · intro p e s m args below meth c s₁ B hml hP _
    have hh0 : s₁.heap = s.heap := by rw [B.state]; rfl
    obtain ⟨t, a1, o, b1, b2, b3⟩ := body p e s m args below meth c s₁ B hml hP s₁ hh0 (Stand.of_body B)
    exact ⟨t, o, a1, b1, b2, ⟨b3.1, b3.2⟩⟩
theorem ct_met {G : Gl} {l : Launch} {μ : Mt} {d : Nat} {as : List Value} {S : Sg} {Q : Option Value → Sg → Prop} (hok : MtOk μ (lg_sl as).length) (h : Ct G l μ d as S Q) :
    Met l μ.1 (Cond.code μ.1 μ.2.1 μ.2.2.1 μ.2.2.2 :: gtb) (rmD d) (PcD G as S) (QcD G Q) 0 0 (Aw G) := by
  refine met_ofWF (cc := μ.2.1) (maxL := μ.2.2.1) (ret := μ.2.2.2) hok.1 rfl ?_
  intro p e s m args below meth c s₁ B hml hv
  obtain ⟨rfl, hW, hinj, hK⟩ := hv
  have hx := B.exec
  have hb := B.bytes
  have hr := B.returns
  have hts0 := atoms_spec (ws := Cond.code μ.1 μ.2.1 μ.2.2.1 μ.2.2.2 :: gtb) B.pre
  have hts : ∀ w ∈ gtb, w.before ((as.map (cv G)).toArray) s = true := fun w hw => hts0 w (List.mem_cons_of_mem _ hw)
  have hown : s.vm.findClass μ.1.cls = some m.cls := findClass_of_methodNamed B.named
  have hlocks := B.notSynchronized
  have hlen : (lg_sl (as.map (cv G))).length = (lg_sl as).length := by
    clear hW hok h hts0 hts B
    induction as with
    | nil => rfl
    | cons v t ih =>
      simp only [lg_sl, List.map_cons, List.flatMap_cons, List.length_append, cv_cat] at ih ⊢
      rw [ih]
      split <;> rfl
  have hl := lv_entry (as.map (cv G)) (n := μ.2.2.1) (by rw [hlen]; exact hok.2.2)
  rw [lg_entry_eq]
  generalize (lg_sl (as.map (cv G)) ++ List.replicate (μ.2.2.1 - (lg_sl (as.map (cv G))).length) Slot.unset).toArray = la at hl ⊢
  have hl2 : lv_has la μ.2.2.1 (lcs G 0 (ini μ.2.2.1 as)) := lv_less hl (ini_sub G as _ 0)
  refine h (A := Aw G) ⟨hx, hb, hml, hown, hts, ⟨Nat.le_refl _, Nat.le_refl _, Nat.le_refl _, Nat.le_refl _⟩, fun _ h => h, hinj, hK, fun q => absurd q hok.2.1⟩ hW va_S.rf hl2 ?_
  intro v S' H' locs' pc' la' hQ hW' hS' hR
  have hq : ∀ t : State, t.heap = H' → s.WarmedH t.vm → QcD G Q ((as.map (cv G)).toArray) s (.returned v) t := by
    intro t ht hvm
    have hvv : (vL v).map (cv G) = vL v := by
      cases v with
      | none => rfl
      | some w =>
        cases w with
        | ref a => exact False.elim hR
        | _ => rfl
    exact ⟨⟨v, S', rfl, hQ, by rw [ht]; exact hW', hvv⟩, by rw [ht]; exact hS'.1, fun q h1 h2 => by rw [ht]; exact hS'.2.1 q h1 h2⟩
  cases v with
  | none => exact W.vret hx hb (by rw [hr]; exact hR.2) hq hS'.2.2 hR.1 hlocks
  | some v =>
    cases v with
    | int x =>
      obtain ⟨h1, ty, h2, h3⟩ := hR
      exact W.zret hx hb (ty := ty) (by rw [hr]; exact h2) h3 hq hS'.2.2 h1 hlocks
    | long x => exact W.lret hx hb (by rw [hr]; exact hR.2) hq hS'.2.2 hR.1 hlocks
    | _ => exact False.elim hR
