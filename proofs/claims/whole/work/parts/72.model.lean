/-! the constructor of the reference -/
theorem c_X5_a {D : Nv} {l : Launch} {d n i0 b x p k sl : Nat} {f : Fw} {G : Nat → Value} {E : En} (hi0 : i0 < n) (hb : b < n) (hne : b ≠ i0) (hf : f i0 = (x, ob 5 G)) (hG : G 0 = .ref p) (kk : ∀ F : Fw, F b = (p, ia D 6 (fun a => if a < 6 then -1 else 0)) → (∀ j, j ≠ b → F j = f j) → Ek D l mX5_init d 156 [some (.ref x), some (.int (nI 6))] [] n F k sl E) : ∀ (r t : Nat) (F : Fw), t + r = 6 → F b = (p, ia D 6 (fun a => if a < t then -1 else 0)) → (∀ j, j ≠ b → F j = f j) → Ek D l mX5_init d 137 [some (.ref x), some (.int (nI t))] [] n F k sl E := by
  intro r
  induction r with
  | zero =>
    intro t F ht hF hO
    obtain rfl : t = 6 := by omega
    refine k_iload dX5_init_137 rfl rfl ?_
    refine k_bipush (v := nI 6) dX5_init_138 (by decide +kernel) ?_
    refine k_icmp_ge (tgt := 156) dX5_init_140 (by decide) ⟨fun _ => kk F hF hO, fun z => ?_⟩
    exact absurd ((z_le (by omega) (by omega)).mpr (Nat.le_refl _)) z
  | succ r ih =>
    intro t F ht hF hO
    refine k_iload dX5_init_137 rfl rfl ?_
    refine k_bipush (v := nI 6) dX5_init_138 (by decide +kernel) ?_
    refine k_icmp_ge (tgt := 156) dX5_init_140 (by decide) ⟨fun z => ?_, fun _ => ?_⟩
    · have := (z_le (by omega) (by omega)).mp z
      omega
    refine k_aload dX5_init_143 rfl rfl ?_
    refine k_get flX5_7 dX5_init_144 (i0 := i0) hi0 ((hO i0 (Ne.symm hne)).trans hf) (by decide) (by decide) hG ?_
    refine k_iload dX5_init_147 rfl rfl ?_
    refine k_iconst (v := -1) dX5_init_148 (by decide +kernel) ?_
    refine k_iast dX5_init_149 (i0 := b) hb hF (ix_nI (n := t) (by omega) (by omega)) ?_
    refine k_iinc (y := nI 1) (ls' := [some (.ref x), some (.int (nI (t + 1)))]) dX5_init_150 rfl (by decide +kernel) (by decide) rfl (by rw [z_add]; rfl) ?_
    refine k_goto (tgt := 137) dX5_init_153 (by decide) ?_
    refine ih (t + 1) _ (by omega) ?_ (fun j hj => (up_o hj).trans (hO j hj))
    rw [up_s]
    congr 2
    funext a
    unfold upd
    by_cases q : a = t
    · rw [if_pos q, if_pos (by omega)]
    · rw [if_neg q]
      show (if a < t then (-1 : Int32) else 0) = _
      by_cases q2 : a < t
      · rw [if_pos q2, if_pos (by omega)]
      · rw [if_neg q2, if_neg (by omega)]
theorem c_X5_b {D : Nv} {l : Launch} {d n i0 b x p k sl : Nat} {f : Fw} {G : Nat → Value} {E : En} (hi0 : i0 < n) (hb : b < n) (hne : b ≠ i0) (hf : f i0 = (x, ob 5 G)) (hG : G 3 = .ref p) (kk : ∀ F : Fw, F b = (p, ia D 4 (fun a => if a < 4 then -1 else 0)) → (∀ j, j ≠ b → F j = f j) → Ek D l mX5_init d 176 [some (.ref x), some (.int (nI 4))] [] n F k sl E) : ∀ (r t : Nat) (F : Fw), t + r = 4 → F b = (p, ia D 4 (fun a => if a < t then -1 else 0)) → (∀ j, j ≠ b → F j = f j) → Ek D l mX5_init d 158 [some (.ref x), some (.int (nI t))] [] n F k sl E := by
  intro r
  induction r with
  | zero =>
    intro t F ht hF hO
    obtain rfl : t = 4 := by omega
    refine k_iload dX5_init_158 rfl rfl ?_
    refine k_iconst (v := nI 4) dX5_init_159 (by decide +kernel) ?_
    refine k_icmp_ge (tgt := 176) dX5_init_160 (by decide) ⟨fun _ => kk F hF hO, fun z => ?_⟩
    exact absurd ((z_le (by omega) (by omega)).mpr (Nat.le_refl _)) z
  | succ r ih =>
    intro t F ht hF hO
    refine k_iload dX5_init_158 rfl rfl ?_
    refine k_iconst (v := nI 4) dX5_init_159 (by decide +kernel) ?_
    refine k_icmp_ge (tgt := 176) dX5_init_160 (by decide) ⟨fun z => ?_, fun _ => ?_⟩
    · have := (z_le (by omega) (by omega)).mp z
      omega
    refine k_aload dX5_init_163 rfl rfl ?_
    refine k_get flX5_19 dX5_init_164 (i0 := i0) hi0 ((hO i0 (Ne.symm hne)).trans hf) (by decide) (by decide) hG ?_
    refine k_iload dX5_init_167 rfl rfl ?_
    refine k_iconst (v := -1) dX5_init_168 (by decide +kernel) ?_
    refine k_iast dX5_init_169 (i0 := b) hb hF (ix_nI (n := t) (by omega) (by omega)) ?_
    refine k_iinc (y := nI 1) (ls' := [some (.ref x), some (.int (nI (t + 1)))]) dX5_init_170 rfl (by decide +kernel) (by decide) rfl (by rw [z_add]; rfl) ?_
    refine k_goto (tgt := 158) dX5_init_173 (by decide) ?_
    refine ih (t + 1) _ (by omega) ?_ (fun j hj => (up_o hj).trans (hO j hj))
    rw [up_s]
    congr 2
    funext a
    unfold upd
    by_cases q : a = t
    · rw [if_pos q, if_pos (by omega)]
    · rw [if_neg q]
      show (if a < t then (-1 : Int32) else 0) = _
      by_cases q2 : a < t
      · rw [if_pos q2, if_pos (by omega)]
      · rw [if_neg q2, if_neg (by omega)]
def MdF (D : Nv) (F : Fw) (i b : Nat) : Prop := (F i).2 = ob 5 (fun j => if j < 10 then .ref (F (b + j)).1 else if j < 12 then .int 0 else if j = 12 then .long 0 else if j = 13 then .long 1 else if j < 20 then .ref (F (b + (j - 4))).1 else .int 0) ∧ ∀ j, j < 16 → (F (b + j)).2 = .inl (D.2 (if j = 8 then 1 else 0), (ln (88 + j), .inl (fun a => if j = 0 ∧ a < 6 ∨ j = 3 ∧ a < 4 then -1 else 0)))
theorem c_X5 {D : Nv} {l : Launch} {d n i0 x : Nat} {f : Fw} {g : Nat → Value} (hi0 : i0 < n) (hf : f i0 = (x, ob 5 g)) (hg : g = fun j => defaultValue (cTy 5 j)) : Ck D l mX5_init d [.ref x] n f 16 2635 (fun n' F => n' = n + 16 ∧ (F i0).1 = x ∧ MdF D F i0 n ∧ ∀ j, j < n → j ≠ i0 → F j = f j) := by
  show Ek D l mX5_init d 0 [some (.ref x), none] [] n f 16 2635 _
  refine k_aload dX5_init_0 rfl rfl ?_
  refine k_obj oiX5 dX5_init_1 ?_
  refine k_aload dX5_init_4 rfl rfl ?_
  refine k_bipush (v := nI 6) dX5_init_5 (by decide +kernel) ?_
  refine k_newa (idx := 0) (N := 6) (k := 15) (sl := 2629) dX5_init_7 wAI rfl (by omega) ?_
  intro q0
  refine k_putF flX5_7 dX5_init_9 (i0 := i0) (by omega) ((up_o (by omega)).trans hf) (by decide) (by decide) rfl rfl rfl rfl rfl ?_
  refine k_aload dX5_init_12 rfl rfl ?_
  refine k_sipush (v := nI 240) dX5_init_13 (by decide +kernel) ?_
  refine k_newa (idx := 0) (N := 240) (k := 14) (sl := 2389) dX5_init_16 wAI rfl (by omega) ?_
  intro q1
  refine k_putF flX5_13 dX5_init_18 (i0 := i0) (by omega) ((up_o (by omega)).trans up_s) (by decide) (by decide) rfl rfl rfl rfl rfl ?_
  refine k_aload dX5_init_21 rfl rfl ?_
  refine k_bipush (v := nI 40) dX5_init_22 (by decide +kernel) ?_
  refine k_newa (idx := 0) (N := 40) (k := 13) (sl := 2349) dX5_init_24 wAI rfl (by omega) ?_
  intro q2
  refine k_putF flX5_16 dX5_init_26 (i0 := i0) (by omega) ((up_o (by omega)).trans up_s) (by decide) (by decide) rfl rfl rfl rfl rfl ?_
  refine k_aload dX5_init_29 rfl rfl ?_
  refine k_iconst (v := nI 4) dX5_init_30 (by decide +kernel) ?_
  refine k_newa (idx := 0) (N := 4) (k := 12) (sl := 2345) dX5_init_31 wAI rfl (by omega) ?_
  intro q3
  refine k_putF flX5_19 dX5_init_33 (i0 := i0) (by omega) ((up_o (by omega)).trans up_s) (by decide) (by decide) rfl rfl rfl rfl rfl ?_
  refine k_aload dX5_init_36 rfl rfl ?_
  refine k_sipush (v := nI 240) dX5_init_37 (by decide +kernel) ?_
  refine k_newa (idx := 0) (N := 240) (k := 11) (sl := 2105) dX5_init_40 wAI rfl (by omega) ?_
  intro q4
  refine k_putF flX5_22 dX5_init_42 (i0 := i0) (by omega) ((up_o (by omega)).trans up_s) (by decide) (by decide) rfl rfl rfl rfl rfl ?_
  refine k_aload dX5_init_45 rfl rfl ?_
  refine k_sipush (v := nI 400) dX5_init_46 (by decide +kernel) ?_
  refine k_newa (idx := 0) (N := 400) (k := 10) (sl := 1705) dX5_init_49 wAI rfl (by omega) ?_
  intro q5
  refine k_putF flX5_25 dX5_init_51 (i0 := i0) (by omega) ((up_o (by omega)).trans up_s) (by decide) (by decide) rfl rfl rfl rfl rfl ?_
  refine k_aload dX5_init_54 rfl rfl ?_
  refine k_sipush (v := nI 400) dX5_init_55 (by decide +kernel) ?_
  refine k_newa (idx := 0) (N := 400) (k := 9) (sl := 1305) dX5_init_58 wAI rfl (by omega) ?_
  intro q6
  refine k_putF flX5_28 dX5_init_60 (i0 := i0) (by omega) ((up_o (by omega)).trans up_s) (by decide) (by decide) rfl rfl rfl rfl rfl ?_
  refine k_aload dX5_init_63 rfl rfl ?_
  refine k_sipush (v := nI 1200) dX5_init_64 (by decide +kernel) ?_
  refine k_newa (idx := 0) (N := 1200) (k := 8) (sl := 105) dX5_init_67 wAI rfl (by omega) ?_
  intro q7
  refine k_putF flX5_31 dX5_init_69 (i0 := i0) (by omega) ((up_o (by omega)).trans up_s) (by decide) (by decide) rfl rfl rfl rfl rfl ?_
  refine k_aload dX5_init_72 rfl rfl ?_
  refine k_iconst (v := nI 3) dX5_init_73 (by decide +kernel) ?_
  refine k_newz (idx := 0) (N := 3) (k := 7) (sl := 102) dX5_init_74 wAZ rfl (by omega) ?_
  intro q8
  refine k_putF flX5_34 dX5_init_76 (i0 := i0) (by omega) ((up_o (by omega)).trans up_s) (by decide) (by decide) rfl rfl rfl rfl rfl ?_
  refine k_aload dX5_init_79 rfl rfl ?_
  refine k_bipush (v := nI 6) dX5_init_80 (by decide +kernel) ?_
  refine k_newa (idx := 0) (N := 6) (k := 6) (sl := 96) dX5_init_82 wAI rfl (by omega) ?_
  intro q9
  refine k_putF flX5_38 dX5_init_84 (i0 := i0) (by omega) ((up_o (by omega)).trans up_s) (by decide) (by decide) rfl rfl rfl rfl rfl ?_
  refine k_aload dX5_init_87 rfl rfl ?_
  refine k_bipush (v := nI 6) dX5_init_88 (by decide +kernel) ?_
  refine k_newa (idx := 0) (N := 6) (k := 5) (sl := 90) dX5_init_90 wAI rfl (by omega) ?_
  intro q10
  refine k_putF flX5_41 dX5_init_92 (i0 := i0) (by omega) ((up_o (by omega)).trans up_s) (by decide) (by decide) rfl rfl rfl rfl rfl ?_
  refine k_aload dX5_init_95 rfl rfl ?_
  refine k_bipush (v := nI 62) dX5_init_96 (by decide +kernel) ?_
  refine k_newa (idx := 0) (N := 62) (k := 4) (sl := 28) dX5_init_98 wAI rfl (by omega) ?_
  intro q11
  refine k_putF flX5_44 dX5_init_100 (i0 := i0) (by omega) ((up_o (by omega)).trans up_s) (by decide) (by decide) rfl rfl rfl rfl rfl ?_
  refine k_aload dX5_init_103 rfl rfl ?_
  refine k_bipush (v := nI 7) dX5_init_104 (by decide +kernel) ?_
  refine k_newa (idx := 0) (N := 7) (k := 3) (sl := 21) dX5_init_106 wAI rfl (by omega) ?_
  intro q12
  refine k_putF flX5_47 dX5_init_108 (i0 := i0) (by omega) ((up_o (by omega)).trans up_s) (by decide) (by decide) rfl rfl rfl rfl rfl ?_
  refine k_aload dX5_init_111 rfl rfl ?_
  refine k_bipush (v := nI 7) dX5_init_112 (by decide +kernel) ?_
  refine k_newa (idx := 0) (N := 7) (k := 2) (sl := 14) dX5_init_114 wAI rfl (by omega) ?_
  intro q13
  refine k_putF flX5_50 dX5_init_116 (i0 := i0) (by omega) ((up_o (by omega)).trans up_s) (by decide) (by decide) rfl rfl rfl rfl rfl ?_
  refine k_aload dX5_init_119 rfl rfl ?_
  refine k_bipush (v := nI 7) dX5_init_120 (by decide +kernel) ?_
  refine k_newa (idx := 0) (N := 7) (k := 1) (sl := 7) dX5_init_122 wAI rfl (by omega) ?_
  intro q14
  refine k_putF flX5_53 dX5_init_124 (i0 := i0) (by omega) ((up_o (by omega)).trans up_s) (by decide) (by decide) rfl rfl rfl rfl rfl ?_
  refine k_aload dX5_init_127 rfl rfl ?_
  refine k_bipush (v := nI 7) dX5_init_128 (by decide +kernel) ?_
  refine k_newa (idx := 0) (N := 7) (k := 0) (sl := 0) dX5_init_130 wAI rfl (by omega) ?_
  intro q15
  refine k_putF flX5_56 dX5_init_132 (i0 := i0) (by omega) ((up_o (by omega)).trans up_s) (by decide) (by decide) rfl rfl rfl rfl rfl ?_
  refine k_iconst (v := nI 0) dX5_init_135 (by decide +kernel) ?_
  refine k_istore (ls' := [some (.ref x), some (.int (nI 0))]) dX5_init_136 rfl (by decide) rfl rfl ?_
  refine c_X5_a (i0 := i0) (b := n) (p := q0) (by omega) (by omega) (by omega) up_s ?_ ?_ 6 0 _ rfl ?_ (fun _ _ => rfl)
  · simp (disch := omega) only [uv_e, uv_o]
  rotate_left
  · simp (disch := omega) only [up_e, up_o]
    congr 2
  intro F1 h1 hO1
  refine k_iconst (v := nI 0) dX5_init_156 (by decide +kernel) ?_
  refine k_istore (ls' := [some (.ref x), some (.int (nI 0))]) dX5_init_157 rfl (by decide) rfl rfl ?_
  refine c_X5_b (i0 := i0) (b := n + 3) (p := q3) (by omega) (by omega) (by omega) ((hO1 i0 (by omega)).trans up_s) ?_ ?_ 4 0 _ rfl ?_ (fun _ _ => rfl)
  · simp (disch := omega) only [uv_e, uv_o]
  rotate_left
  · simp (disch := omega) only [up_e, up_o, hO1]
    congr 2
  intro F2 h2 hO2
  refine k_aload dX5_init_176 rfl rfl ?_
  refine k_lconst (v := 1) dX5_init_177 (by decide +kernel) ?_
  refine k_put flX5_59 dX5_init_178 (i0 := i0) (by omega) ((hO2 i0 (by omega)).trans ((hO1 i0 (by omega)).trans up_s)) (by decide) (by decide) rfl rfl rfl ?_
  subst hg
  refine k_ret dX5_init_181 ⟨rfl, by rw [up_s], ⟨?_, ?_⟩, ?_⟩
  · rw [up_s]
    refine ob_ext fun j hj => ?_
    have hj : j < 22 := hj
    rcases (show j = 0 ∨ j = 1 ∨ j = 2 ∨ j = 3 ∨ j = 4 ∨ j = 5 ∨ j = 6 ∨ j = 7 ∨ j = 8 ∨ j = 9 ∨ j = 10 ∨ j = 11 ∨ j = 12 ∨ j = 13 ∨ j = 14 ∨ j = 15 ∨ j = 16 ∨ j = 17 ∨ j = 18 ∨ j = 19 ∨ j = 20 ∨ j = 21 by omega) with rfl | rfl | rfl | rfl | rfl | rfl | rfl | rfl | rfl | rfl | rfl | rfl | rfl | rfl | rfl | rfl | rfl | rfl | rfl | rfl | rfl | rfl <;> simp (disch := omega) [uv_e, uv_o, up_e, up_o, hO1, hO2, h1, h2, cTy, tyX5, defaultValue]
  · intro j hj
    rcases (show j = 0 ∨ j = 1 ∨ j = 2 ∨ j = 3 ∨ j = 4 ∨ j = 5 ∨ j = 6 ∨ j = 7 ∨ j = 8 ∨ j = 9 ∨ j = 10 ∨ j = 11 ∨ j = 12 ∨ j = 13 ∨ j = 14 ∨ j = 15 by omega) with rfl | rfl | rfl | rfl | rfl | rfl | rfl | rfl | rfl | rfl | rfl | rfl | rfl | rfl | rfl | rfl <;> simp (disch := omega) [up_e, up_o, hO1, hO2, h1, h2, ia, za, ln]
  · intro j h1 h2
    simp (disch := omega) only [up_o, hO1, hO2]
