/-! the law from its entry to its loop -/
theorem tw1 {w : Cond} (i : Nat) (h : tables_1_1[i]? = some w) : w ∈ lw_tbl := List.mem_append_right _ (show w ∈ tables_1_1 ++ (tables_1_2 ++ (tables_1_3 ++ (tables_1_4 ++ tables_1_5))) from by simp only [List.mem_append]; have := List.mem_of_getElem? h; simp [this])
theorem tw2 {w : Cond} (i : Nat) (h : tables_1_2[i]? = some w) : w ∈ lw_tbl := List.mem_append_right _ (show w ∈ tables_1_1 ++ (tables_1_2 ++ (tables_1_3 ++ (tables_1_4 ++ tables_1_5))) from by simp only [List.mem_append]; have := List.mem_of_getElem? h; simp [this])
theorem gt_tw {w : Cond} (h : w ∈ gtb) : w ∈ lw_tbl := (List.mem_filter.mp h).1
section entry
variable {s : State} {args : Array Value}
theorem nk_of (hts : ∀ w ∈ lw_tbl, w.before args s = true) : Nk s := by
  refine ⟨fun q hq => ?_, va_AO.of (hts _ (tw1 19 (by decide +kernel))), va_AO.of (hts _ (tw1 133 (by decide +kernel)))⟩
  unfold nestK at hq
  simp only [List.mem_cons, List.not_mem_nil, or_false] at hq
  rcases hq with rfl | rfl | rfl
  · exact va_Nw.of rfl (hts _ (tw1 22 (by decide +kernel)))
  · exact va_Nw.of rfl (hts _ (tw1 28 (by decide +kernel)))
  · exact va_Nw.of rfl (hts _ (tw1 136 (by decide +kernel)))
theorem nt_of (hts : ∀ w ∈ lw_tbl, w.before args s = true) : Nt s := by
  refine ⟨fun q hq => ?_, va_Nw.of rfl (hts _ (tw2 73 (by decide +kernel)))⟩
  unfold nestM at hq
  simp only [List.mem_cons, List.not_mem_nil, or_false] at hq
  rcases hq with rfl | rfl | rfl | rfl
  · exact va_Nw.of rfl (hts _ (tw2 113 (by decide +kernel)))
  · exact va_Nw.of rfl (hts _ (tw2 192 (by decide +kernel)))
  · exact va_Nw.of rfl (hts _ (tw2 199 (by decide +kernel)))
  · exact va_Nw.of rfl (hts _ (tw2 202 (by decide +kernel)))
theorem arr_i (h : (Cond.arrayClass .int).before args s = true) : ∃ cA, ArrOfT s cA .int ∧ va_RA s cA .int := by
  obtain ⟨cA, kA, comp, hf, hk, hkind⟩ := Cond.arrayClass_spec h
  exact ⟨cA, fun n z => ⟨fun k h => (by cases h), kA, hk, comp, hkind⟩, hf⟩
theorem arr_z (h : (Cond.arrayClass .boolean).before args s = true) : ∃ cA, ArrOfT s cA .boolean ∧ va_RA s cA .boolean := by
  obtain ⟨cA, kA, comp, hf, hk, hkind⟩ := Cond.arrayClass_spec h
  exact ⟨cA, fun n z => ⟨fun k h => (by cases h), kA, hk, comp, hkind⟩, hf⟩
theorem arr_o {C : String} (h : (Cond.arrayOver (.object C)).before args s = true) : ∃ cA, ArrOfT s cA (.object C) ∧ va_RA s cA (.object C) := by
  obtain ⟨comp, c, k, h1, h2, h3, h4, h5⟩ := Cond.arrayOver_spec h
  exact ⟨c, fun n z => ⟨fun k h => (by cases h), k, h3, comp, h4⟩, k, comp, h3, h4, h1, h5⟩
theorem u_kn (hts : ∀ w ∈ lw_tbl, w.before args s = true) : ∀ c : Nat, ∃ q : ClassId × (Nat → Nat), c < 6 → u_Kn s (cC c) (cT c) (cN c) q.1 q.2 := by
  have hg : ∀ w ∈ gtb, w.before args s = true := fun w hw => hts w (gt_tw hw)
  have H : ∀ c, c < 6 → Cond.instantiable (cC c) (cN c) ∈ gtb → ∃ q : ClassId × (Nat → Nat), u_Kn s (cC c) (cT c) (cN c) q.1 q.2 := by
    intro c hc hi
    obtain ⟨cc, iS, h⟩ := u_known (C := cC c) (T := cT c) (N := cN c) (n := cN c) hg (cls_ok hc).2.1 (hg _ hi)
    exact ⟨(cc, iS), h⟩
  have a0 := H 0 (by omega) nwX1_55.2.1
  have a1 := H 1 (by omega) nwX4_18.2.1
  have a2 := H 2 (by omega) nwX4_32.2.1
  have a3 := H 3 (by omega) nwX4_9.2.1
  have a4 := H 4 (by omega) nwL_7.2.1
  have a5 := H 5 (by omega) nwL_10.2.1
  intro c
  rcases (show c = 0 ∨ c = 1 ∨ c = 2 ∨ c = 3 ∨ c = 4 ∨ c = 5 ∨ 6 ≤ c by omega) with rfl | rfl | rfl | rfl | rfl | rfl | h
  · exact ⟨a0.choose, fun _ => a0.choose_spec⟩
  · exact ⟨a1.choose, fun _ => a1.choose_spec⟩
  · exact ⟨a2.choose, fun _ => a2.choose_spec⟩
  · exact ⟨a3.choose, fun _ => a3.choose_spec⟩
  · exact ⟨a4.choose, fun _ => a4.choose_spec⟩
  · exact ⟨a5.choose, fun _ => a5.choose_spec⟩
  · exact ⟨a0.choose, fun z => absurd z (by omega)⟩
theorem d_of (hts : ∀ w ∈ lw_tbl, w.before args s = true) : ∃ D : Nv, va_K D.1 vwCl (tyL (g0 D)) s := by
  obtain ⟨g, hg⟩ := Classical.axiomOfChoice (u_kn hts)
  obtain ⟨cI, i1, i2⟩ := arr_i (hts _ (gt_tw wAI))
  obtain ⟨cZ, z1, z2⟩ := arr_z (hts _ (gt_tw wAZ))
  obtain ⟨cR, r1, r2⟩ := arr_o (C := "ShyStrip$Row") (hts _ (tw1 19 (by decide +kernel)))
  obtain ⟨cL, l1, l2⟩ := arr_o (C := "ShyStrip$Land") (hts _ (tw1 133 (by decide +kernel)))
  refine ⟨((fun c => (g c).1, fun c => (g c).2), fun t => match t with
    | 0 => cI
    | 1 => cZ
    | 2 => cR
    | _ => cL), fun c q hq => ?_, fun k q hq => ?_⟩
  · have hc : c < 6 := (List.getElem?_eq_some_iff.mp hq).1
    have e := (cls_ok hc).1
    rw [hq] at e
    cases e
    exact hg c hc
  · match k, hq with
    | 0, hq => cases hq; exact ⟨i1, i2⟩
    | 1, hq => cases hq; exact ⟨z1, z2⟩
    | 2, hq => cases hq; exact ⟨r1, r2⟩
    | 3, hq => cases hq; exact ⟨l1, l2⟩
    | k + 4, hq => simp [tyL] at hq
end entry
theorem law_pre {D : Nv} {l : Launch} {b : Nat} {f : Fw} : Ek D l mL_law 21 0 [some (.ref b), none, none, none] [] 0 f 104 4500 (fun pc ls st n F => pc = 18 ∧ ls = [some (.ref b), some (.ref (F 0).1), some (.ref (F 87).1), some (.int (nI 0))] ∧ st = [] ∧ n = 104 ∧ StF D F 0 1 ∧ MdF D F 87 88) := by
  refine k_new (c := 4) (k := 103) (sl := 4488) (by decide) nwL_7 dL_law_0 ?_
  intro x
  refine k_dup dL_law_3 rfl ?_
  refine k_call (k := 17) (sl := 2657) (k2 := 86) (s2 := 1831) (d2 := 2) (as := []) (st := [.ref x]) ciL_9 dL_law_4 rfl okX4_init (by omega) (Nat.le_of_ble_eq_true rfl) rfl (c_X4 (i0 := 0) (by omega) up_s (by omega)) ?_
  rintro n1 F1 ⟨rfl, hx, h1, hO1⟩
  refine k_astore (ls' := [some (.ref b), some (.ref x), none, none]) dL_law_7 rfl (by decide) rfl rfl ?_
  refine k_new (c := 5) (k := 16) (sl := 2635) (by decide) nwL_10 dL_law_8 ?_
  intro y
  refine k_dup dL_law_11 rfl ?_
  refine k_call (k := 0) (sl := 0) (k2 := 16) (s2 := 2635) (d2 := 0) (as := []) (st := [.ref y]) ciL_12 dL_law_12 rfl okX5_init (by omega) (Nat.le_of_ble_eq_true rfl) rfl (c_X5 (i0 := 87) (by omega) up_s rfl) ?_
  rintro n2 F2 ⟨rfl, hy, h2, hO2⟩
  refine k_astore (ls' := [some (.ref b), some (.ref x), some (.ref y), none]) dL_law_15 rfl (by decide) rfl rfl ?_
  refine k_iconst (v := nI 0) dL_law_16 (by decide +kernel) ?_
  refine k_istore (ls' := [some (.ref b), some (.ref x), some (.ref y), some (.int (nI 0))]) dL_law_17 rfl (by decide) rfl rfl ?_
  have o : ∀ j, j < 87 → F2 j = F1 j := fun j hj => (hO2 j (by omega) (by omega)).trans (up_o (by omega))
  refine k_end ⟨rfl, ?_, rfl, rfl, ?_, h2⟩
  · rw [o 0 (by omega), hx, hy]
  · obtain ⟨s1, s2, s3, s4, s5, s6, s7, s8, s9⟩ := h1
    refine ⟨?_, s2.mv (o _ (by omega)) (fun j _ _ => o j (by omega)), s3.mv (o _ (by omega)) (fun j _ _ => o j (by omega)), s4.mv (o _ (by omega)) (fun j _ _ => o j (by omega)), ?_, s6.mv (o _ (by omega)) (fun j _ _ => o j (by omega)), ?_, ?_, ?_⟩
    · rw [o 0 (by omega), s1]
      exact congrArg _ (tb4_mv (fun j hj => by rw [o _ (by omega)])).symm
    · refine ⟨?_, fun j hj => (s5.2 j hj).mv (o _ (by omega)) (fun a _ _ => o a (by omega))⟩
      rw [o _ (by omega), s5.1]
      refine ra_ext fun j => ?_
      by_cases q : j < 3
      · rw [if_pos q, if_pos q, o _ (by omega)]
      · rw [if_neg q, if_neg q]
    · rw [o _ (by omega)]; exact s7
    · rw [o _ (by omega)]; exact s8
    · rw [o _ (by omega)]; exact s9
