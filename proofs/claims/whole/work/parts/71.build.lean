/-! the constructors of the parts: Deeds, Land, Reader, Row -/
theorem up_e {f : Fw} {i j : Nat} {x : Nat × va_E} (h : j = i) : up f i x j = x := if_pos h
theorem uv_e {g : Nat → Value} {i j : Nat} {v : Value} (h : j = i) : uv g i v j = v := if_pos h
theorem ob_ext {c : Nat} {g g' : Nat → Value} (h : ∀ j, j < cN c → g j = g' j) : ob c g = ob c g' := by
  unfold ob
  congr 2
  apply List.map_congr_left
  intro a ha
  exact h a (List.mem_range.mp ha)
def DeF (D : Nv) (F : Fw) (i b : Nat) : Prop := (F i).2 = ob 0 (fun j => if j < 5 then .ref (F (b + j)).1 else .int 0) ∧ ∀ j, j < 5 → (F (b + j)).2 = ia D 40 (fun _ => 0)
def LdF (D : Nv) (F : Fw) (i b : Nat) : Prop := (F i).2 = ob 1 (fun j => if j < 9 then .int 0 else .ref (F (b + (j - 9))).1) ∧ (∀ j, j < 5 → (F (b + j)).2 = ia D 6 (fun _ => 0)) ∧ DeF D F (b + 5) (b + 6)
theorem DeF.mv {D : Nv} {F F' : Fw} {i b : Nat} (h : DeF D F i b) (hi : F' i = F i) (hb : ∀ j, b ≤ j → j < b + 5 → F' j = F j) : DeF D F' i b := by
  refine ⟨?_, fun j hj => ?_⟩
  · rw [hi, h.1]
    refine ob_ext fun j hj => ?_
    by_cases q : j < 5
    · rw [if_pos q, if_pos q, hb (b + j) (by omega) (by omega)]
    · rw [if_neg q, if_neg q]
  · rw [hb (b + j) (by omega) (by omega)]
    exact h.2 j hj
theorem LdF.mv {D : Nv} {F F' : Fw} {i b : Nat} (h : LdF D F i b) (hi : F' i = F i) (hb : ∀ j, b ≤ j → j < b + 11 → F' j = F j) : LdF D F' i b := by
  refine ⟨?_, fun j hj => ?_, ?_⟩
  · rw [hi, h.1]
    refine ob_ext fun j hj => ?_
    have hj : j < 15 := hj
    by_cases q : j < 9
    · rw [if_pos q, if_pos q]
    · rw [if_neg q, if_neg q, hb (b + (j - 9)) (by omega) (by omega)]
  · rw [hb (b + j) (by omega) (by omega)]
    exact h.2.1 j hj
  · exact h.2.2.mv (hb _ (by omega) (by omega)) (fun j h1 h2 => hb j (by omega) (by omega))

theorem nI_z : nI 0 = 0 := by decide +kernel
theorem c_X0 {D : Nv} {l : Launch} {d n i0 x : Nat} {f : Fw} {g : Nat → Value} (hi0 : i0 < n) (hf : f i0 = (x, ob 0 g)) : Ck D l mX0_init d [.ref x] n f 5 200 (fun n' F => n' = n + 5 ∧ (F i0).1 = x ∧ DeF D F i0 n ∧ ∀ j, j < n → j ≠ i0 → F j = f j) := by
  show Ek D l mX0_init d 0 [some (.ref x)] [] n f 5 200 _
  refine k_aload dX0_init_0 rfl rfl ?_
  refine k_obj oiX0 dX0_init_1 ?_
  refine k_aload dX0_init_4 rfl rfl ?_
  refine k_bipush (v := nI 40) dX0_init_5 (by decide +kernel) ?_
  refine k_newa (idx := 0) (N := 40) (k := 4) (sl := 160) dX0_init_7 wAI rfl (by omega) ?_
  intro q0
  refine k_putF flX0_9 dX0_init_9 (i0 := i0) (by omega) ((up_o (by omega)).trans hf) (by decide) (by decide) rfl rfl rfl rfl rfl ?_
  refine k_aload dX0_init_12 rfl rfl ?_
  refine k_bipush (v := nI 40) dX0_init_13 (by decide +kernel) ?_
  refine k_newa (idx := 0) (N := 40) (k := 3) (sl := 120) dX0_init_15 wAI rfl (by omega) ?_
  intro q1
  refine k_putF flX0_15 dX0_init_17 (i0 := i0) (by omega) ((up_o (by omega)).trans up_s) (by decide) (by decide) rfl rfl rfl rfl rfl ?_
  refine k_aload dX0_init_20 rfl rfl ?_
  refine k_bipush (v := nI 40) dX0_init_21 (by decide +kernel) ?_
  refine k_newa (idx := 0) (N := 40) (k := 2) (sl := 80) dX0_init_23 wAI rfl (by omega) ?_
  intro q2
  refine k_putF flX0_18 dX0_init_25 (i0 := i0) (by omega) ((up_o (by omega)).trans up_s) (by decide) (by decide) rfl rfl rfl rfl rfl ?_
  refine k_aload dX0_init_28 rfl rfl ?_
  refine k_bipush (v := nI 40) dX0_init_29 (by decide +kernel) ?_
  refine k_newa (idx := 0) (N := 40) (k := 1) (sl := 40) dX0_init_31 wAI rfl (by omega) ?_
  intro q3
  refine k_putF flX0_21 dX0_init_33 (i0 := i0) (by omega) ((up_o (by omega)).trans up_s) (by decide) (by decide) rfl rfl rfl rfl rfl ?_
  refine k_aload dX0_init_36 rfl rfl ?_
  refine k_bipush (v := nI 40) dX0_init_37 (by decide +kernel) ?_
  refine k_newa (idx := 0) (N := 40) (k := 0) (sl := 0) dX0_init_39 wAI rfl (by omega) ?_
  intro q4
  refine k_putF flX0_24 dX0_init_41 (i0 := i0) (by omega) ((up_o (by omega)).trans up_s) (by decide) (by decide) rfl rfl rfl rfl rfl ?_
  refine k_aload dX0_init_44 rfl rfl ?_
  refine k_iconst (v := nI 0) dX0_init_45 (by decide +kernel) ?_
  refine k_put flX0_27 dX0_init_46 (i0 := i0) (by omega) up_s (by decide) (by decide) rfl rfl rfl ?_
  refine k_ret dX0_init_49 ⟨rfl, by rw [up_s], ⟨?_, ?_⟩, ?_⟩
  · rw [up_s]
    refine ob_ext fun j hj => ?_
    have hj : j < 6 := hj
    rcases (show j = 0 ∨ j = 1 ∨ j = 2 ∨ j = 3 ∨ j = 4 ∨ j = 5 by omega) with rfl | rfl | rfl | rfl | rfl | rfl <;> simp (disch := omega) [uv_e, uv_o, up_e, up_o, nI_z]
  · intro j hj
    rcases (show j = 0 ∨ j = 1 ∨ j = 2 ∨ j = 3 ∨ j = 4 by omega) with rfl | rfl | rfl | rfl | rfl <;> simp (disch := omega) [uv_e, uv_o, up_e, up_o]
  · intro j h1 h2
    simp (disch := omega) only [up_o]
theorem c_X1 {D : Nv} {l : Launch} {d n i0 x : Nat} {f : Fw} {g : Nat → Value} (hi0 : i0 < n) (hf : f i0 = (x, ob 1 g)) (hd : 0 < d) : Ck D l mX1_init d [.ref x] n f 11 236 (fun n' F => n' = n + 11 ∧ (F i0).1 = x ∧ LdF D F i0 n ∧ ∀ j, j < n → j ≠ i0 → F j = f j) := by
  show Ek D l mX1_init d 0 [some (.ref x)] [] n f 11 236 _
  refine k_aload dX1_init_0 rfl rfl ?_
  refine k_obj oiX1 dX1_init_1 ?_
  refine k_aload dX1_init_4 rfl rfl ?_
  refine k_iconst (v := nI 0) dX1_init_5 (by decide +kernel) ?_
  refine k_put flX1_9 dX1_init_6 (i0 := i0) (by omega) hf (by decide) (by decide) rfl rfl rfl ?_
  refine k_aload dX1_init_9 rfl rfl ?_
  refine k_iconst (v := nI 0) dX1_init_10 (by decide +kernel) ?_
  refine k_put flX1_15 dX1_init_11 (i0 := i0) (by omega) up_s (by decide) (by decide) rfl rfl rfl ?_
  refine k_aload dX1_init_14 rfl rfl ?_
  refine k_iconst (v := nI 0) dX1_init_15 (by decide +kernel) ?_
  refine k_put flX1_18 dX1_init_16 (i0 := i0) (by omega) up_s (by decide) (by decide) rfl rfl rfl ?_
  refine k_aload dX1_init_19 rfl rfl ?_
  refine k_iconst (v := nI 0) dX1_init_20 (by decide +kernel) ?_
  refine k_put flX1_21 dX1_init_21 (i0 := i0) (by omega) up_s (by decide) (by decide) rfl rfl rfl ?_
  refine k_aload dX1_init_24 rfl rfl ?_
  refine k_iconst (v := nI 0) dX1_init_25 (by decide +kernel) ?_
  refine k_put flX1_24 dX1_init_26 (i0 := i0) (by omega) up_s (by decide) (by decide) rfl rfl rfl ?_
  refine k_aload dX1_init_29 rfl rfl ?_
  refine k_iconst (v := nI 0) dX1_init_30 (by decide +kernel) ?_
  refine k_put flX1_27 dX1_init_31 (i0 := i0) (by omega) up_s (by decide) (by decide) rfl rfl rfl ?_
  refine k_aload dX1_init_34 rfl rfl ?_
  refine k_iconst (v := nI 0) dX1_init_35 (by decide +kernel) ?_
  refine k_put flX1_30 dX1_init_36 (i0 := i0) (by omega) up_s (by decide) (by decide) rfl rfl rfl ?_
  refine k_aload dX1_init_39 rfl rfl ?_
  refine k_iconst (v := nI 0) dX1_init_40 (by decide +kernel) ?_
  refine k_put flX1_33 dX1_init_41 (i0 := i0) (by omega) up_s (by decide) (by decide) rfl rfl rfl ?_
  refine k_aload dX1_init_44 rfl rfl ?_
  refine k_iconst (v := nI 0) dX1_init_45 (by decide +kernel) ?_
  refine k_put flX1_36 dX1_init_46 (i0 := i0) (by omega) up_s (by decide) (by decide) rfl rfl rfl ?_
  refine k_aload dX1_init_49 rfl rfl ?_
  refine k_bipush (v := nI 6) dX1_init_50 (by decide +kernel) ?_
  refine k_newa (idx := 0) (N := 6) (k := 10) (sl := 230) dX1_init_52 wAI rfl (by omega) ?_
  intro q0
  refine k_putF flX1_39 dX1_init_54 (i0 := i0) (by omega) ((up_o (by omega)).trans up_s) (by decide) (by decide) rfl rfl rfl rfl rfl ?_
  refine k_aload dX1_init_57 rfl rfl ?_
  refine k_bipush (v := nI 6) dX1_init_58 (by decide +kernel) ?_
  refine k_newa (idx := 0) (N := 6) (k := 9) (sl := 224) dX1_init_60 wAI rfl (by omega) ?_
  intro q1
  refine k_putF flX1_43 dX1_init_62 (i0 := i0) (by omega) ((up_o (by omega)).trans up_s) (by decide) (by decide) rfl rfl rfl rfl rfl ?_
  refine k_aload dX1_init_65 rfl rfl ?_
  refine k_bipush (v := nI 6) dX1_init_66 (by decide +kernel) ?_
  refine k_newa (idx := 0) (N := 6) (k := 8) (sl := 218) dX1_init_68 wAI rfl (by omega) ?_
  intro q2
  refine k_putF flX1_46 dX1_init_70 (i0 := i0) (by omega) ((up_o (by omega)).trans up_s) (by decide) (by decide) rfl rfl rfl rfl rfl ?_
  refine k_aload dX1_init_73 rfl rfl ?_
  refine k_bipush (v := nI 6) dX1_init_74 (by decide +kernel) ?_
  refine k_newa (idx := 0) (N := 6) (k := 7) (sl := 212) dX1_init_76 wAI rfl (by omega) ?_
  intro q3
  refine k_putF flX1_49 dX1_init_78 (i0 := i0) (by omega) ((up_o (by omega)).trans up_s) (by decide) (by decide) rfl rfl rfl rfl rfl ?_
  refine k_aload dX1_init_81 rfl rfl ?_
  refine k_bipush (v := nI 6) dX1_init_82 (by decide +kernel) ?_
  refine k_newa (idx := 0) (N := 6) (k := 6) (sl := 206) dX1_init_84 wAI rfl (by omega) ?_
  intro q4
  refine k_putF flX1_52 dX1_init_86 (i0 := i0) (by omega) ((up_o (by omega)).trans up_s) (by decide) (by decide) rfl rfl rfl rfl rfl ?_
  refine k_aload dX1_init_89 rfl rfl ?_
  refine k_new (c := 0) (k := 5) (sl := 200) (by decide) nwX1_55 dX1_init_90 ?_
  intro q
  refine k_dup dX1_init_93 rfl ?_
  refine k_callN (k := 0) (sl := 0) (d2 := 0) (as := []) (st := [.ref q, .ref x]) ciX1_57 dX1_init_94 rfl okX0_init hd (Nat.le_of_ble_eq_true rfl) rfl (c_X0 (i0 := n+1+1+1+1+1) (by omega) up_s) ?_
  rintro n' F ⟨rfl, hx, hD, hO⟩
  have hx5 : (F (n + 5)).1 = q := hx
  have hD5 : DeF D F (n + 5) (n + 6) := hD
  refine k_putF flX1_58 dX1_init_97 (i0 := i0) (by omega) ((hO i0 (by omega) (by omega)).trans ((up_o (by omega)).trans up_s)) (by decide) (by decide) rfl rfl rfl rfl rfl ?_
  refine k_ret dX1_init_100 ⟨rfl, by rw [up_s], ⟨?_, ?_, ?_⟩, ?_⟩
  · rw [up_s]
    refine ob_ext fun j hj => ?_
    have hj : j < 15 := hj
    rcases (show j = 0 ∨ j = 1 ∨ j = 2 ∨ j = 3 ∨ j = 4 ∨ j = 5 ∨ j = 6 ∨ j = 7 ∨ j = 8 ∨ j = 9 ∨ j = 10 ∨ j = 11 ∨ j = 12 ∨ j = 13 ∨ j = 14 by omega) with rfl | rfl | rfl | rfl | rfl | rfl | rfl | rfl | rfl | rfl | rfl | rfl | rfl | rfl | rfl <;> simp (disch := omega) [uv_e, uv_o, up_e, up_o, nI_z, hO, hx5]
  · intro j hj
    rcases (show j = 0 ∨ j = 1 ∨ j = 2 ∨ j = 3 ∨ j = 4 by omega) with rfl | rfl | rfl | rfl | rfl <;> simp (disch := omega) [uv_e, uv_o, up_e, up_o, hO]
  · exact hD5.mv (up_o (by omega)) (fun j h1 h2 => up_o (by omega))
  · intro j h1 h2
    simp (disch := omega) only [up_o, hO]
theorem c_X2 {D : Nv} {l : Launch} {d n i0 x : Nat} {f : Fw} {g : Nat → Value} (hi0 : i0 < n) (hf : f i0 = (x, ob 2 g)) : Ck D l mX2_init d [.ref x] n f 0 0 (fun n' F => n' = n ∧ (F i0).1 = x ∧ (F i0).2 = ob 2 (fun _ => .int 0) ∧ ∀ j, j < n → j ≠ i0 → F j = f j) := by
  show Ek D l mX2_init d 0 [some (.ref x)] [] n f 0 0 _
  refine k_aload dX2_init_0 rfl rfl ?_
  refine k_obj oiX2 dX2_init_1 ?_
  refine k_aload dX2_init_4 rfl rfl ?_
  refine k_iconst (v := nI 0) dX2_init_5 (by decide +kernel) ?_
  refine k_put flX2_9 dX2_init_6 (i0 := i0) (by omega) hf (by decide) (by decide) rfl rfl rfl ?_
  refine k_ret dX2_init_9 ⟨rfl, by rw [up_s], ?_, ?_⟩
  · rw [up_s]
    refine ob_ext fun j hj => ?_
    have hj : j < 1 := hj
    obtain rfl : j = 0 := by omega
    simp (disch := omega) [uv_e, nI_z]
  · intro j h1 h2
    simp (disch := omega) only [up_o]
theorem c_X3 {D : Nv} {l : Launch} {d n i0 x y : Nat} {f : Fw} {g : Nat → Value} (hi0 : i0 < n) (hf : f i0 = (x, ob 3 g)) : Ck D l mX3_init d [.ref x, .ref y] n f 0 0 (fun n' F => n' = n ∧ (F i0).1 = x ∧ (F i0).2 = ob 3 (fun j => if j = 0 then .ref y else .int (-1)) ∧ ∀ j, j < n → j ≠ i0 → F j = f j) := by
  show Ek D l mX3_init d 0 [some (.ref x), some (.ref y)] [] n f 0 0 _
  refine k_aload dX3_init_0 rfl rfl ?_
  refine k_obj oiX3 dX3_init_1 ?_
  refine k_aload dX3_init_4 rfl rfl ?_
  refine k_iconst (v := -1) dX3_init_5 (by decide +kernel) ?_
  refine k_put flX3_9 dX3_init_6 (i0 := i0) (by omega) hf (by decide) (by decide) rfl rfl rfl ?_
  refine k_aload dX3_init_9 rfl rfl ?_
  refine k_aload dX3_init_10 rfl rfl ?_
  refine k_putF flX3_13 dX3_init_11 (i0 := i0) (by omega) up_s (by decide) (by decide) rfl rfl rfl rfl rfl ?_
  refine k_ret dX3_init_14 ⟨rfl, by rw [up_s], ?_, ?_⟩
  · rw [up_s]
    refine ob_ext fun j hj => ?_
    have hj : j < 2 := hj
    rcases (show j = 0 ∨ j = 1 by omega) with rfl | rfl <;> simp (disch := omega) [uv_e, uv_o]
  · intro j h1 h2
    simp (disch := omega) only [up_o]
