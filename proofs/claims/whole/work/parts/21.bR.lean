set_option maxRecDepth 20000 in
theorem bX2_read_0 {G : Gl} {l : Launch} {d : Nat} {S : Sg} {P : Int32 → Sg → Prop} (R1 : Nat) (hR1 : RowAt R1) (L2 : Nat) (hL2 : LandAt L2)
    (h : ∀ S2 : Sg, S2 = (u2 S.1 4 0 (nI 0), S.2) → (Ct G l mX2_readSides d [.ref 4, .ref R1, .ref L2] S2 (QI (fun r8 T8 => (r8 = (nI 0) → P (nI 0) T8) ∧ (¬ (r8 = (nI 0)) → Ct G l mX2_readPeople d [.ref 4, .ref R1, .ref L2] T8 (QI (fun r17 T17 => ∀ x20 : Int32, x20 = (if r17 = (nI 0) then (nI 0) else (nI 1)) → (P x20 T17)))))))) :
    Ct G l mX2_read (d + 1) [.ref 4, .ref R1, .ref L2] S (QI P) := by
  show Ev G l mX2_read (d + 1) 0 [some (.ref 4), some (.ref R1), some (.ref L2)] [] S (QI P)
  refine r_aload_n (μ := mX2_read) (pc := 0) dX2_read_0 rfl rfl ?_
  refine r_iconst (μ := mX2_read) (pc := 1) (v := nI 0) dX2_read_1 rfl ?_
  refine p_I (μ := mX2_read) (pc := 2) fX2_9 wfX2_9 dX2_read_2 rfl ?_
  refine nm_S (fun S2 eS2 => ?_)
  have h := h S2 eS2
  refine r_aload_n (μ := mX2_read) (pc := 5) dX2_read_5 rfl rfl ?_
  refine r_aload_n (μ := mX2_read) (pc := 6) dX2_read_6 rfl rfl ?_
  refine r_aload_n (μ := mX2_read) (pc := 7) dX2_read_7 rfl rfl ?_
  refine r_callV (μ := mX2_read) (pc := 8) (as := [.ref R1, .ref L2]) 2 cX2_15 dX2_read_8 rfl rfl (Nat.le_of_ble_eq_true rfl) rfl okX2_readSides (Nat.lt_succ_self d) (cat8 (n := 0) rfl (by decide)) rfl h (k_I (fun r8 T8 h => ?_))
  refine r_if_eq (μ := mX2_read) (pc := 11) (tgt := 27) dX2_read_11 (by decide) ⟨fun q11 => ?_, fun q11 => ?_⟩
  · have h := h.1 q11
    refine r_iconst (μ := mX2_read) (pc := 27) (v := nI 0) dX2_read_27 rfl ?_
    exact r_zret (μ := mX2_read) (pc := 28) dX2_read_28 rfl rfl h
  · have h := h.2 q11
    refine r_aload_n (μ := mX2_read) (pc := 14) dX2_read_14 rfl rfl ?_
    refine r_aload_n (μ := mX2_read) (pc := 15) dX2_read_15 rfl rfl ?_
    refine r_aload_n (μ := mX2_read) (pc := 16) dX2_read_16 rfl rfl ?_
    refine r_callV (μ := mX2_read) (pc := 17) (as := [.ref R1, .ref L2]) 2 cX2_19 dX2_read_17 rfl rfl (Nat.le_of_ble_eq_true rfl) rfl okX2_readPeople (Nat.lt_succ_self d) (cat8 (n := 0) rfl (by decide)) rfl h (k_I (fun r17 T17 h => ?_))
    have J20 : ∀ x20 : Int32, x20 = (if r17 = (nI 0) then (nI 0) else (nI 1)) → Ev G l mX2_read (d + 1) 28 [some (.ref 4), some (.ref R1), some (.ref L2)] [.int x20] T17 (QI P) := by
      intro x20 e20
      have h := h x20 e20
      exact r_zret (μ := mX2_read) (pc := 28) dX2_read_28 rfl (by rw [e20]; exact (zb_if rfl rfl)) h
    refine r_if_eq (μ := mX2_read) (pc := 20) (tgt := 27) dX2_read_20 (by decide) ⟨fun q20 => ?_, fun q20 => ?_⟩
    · refine r_iconst (μ := mX2_read) (pc := 27) (v := nI 0) dX2_read_27 rfl ?_
      exact J20 _ (by first | (rw [if_pos q20]; done) | simp only [if_pos q20])
    · refine r_iconst (μ := mX2_read) (pc := 23) (v := nI 1) dX2_read_23 rfl ?_
      refine r_goto (μ := mX2_read) (pc := 24) (tgt := 28) dX2_read_24 (by decide) ?_
      exact J20 _ (by first | (rw [if_neg q20]; done) | simp only [if_neg q20])

set_option maxRecDepth 20000 in
theorem bX2_readSides_0 {G : Gl} {l : Launch} {d : Nat} {S : Sg} {P : Int32 → Sg → Prop} (R1 : Nat) (hR1 : RowAt R1) (L2 : Nat) (hL2 : LandAt L2)
    (h : Ct G l mX2_skipBlanks d [.ref 4, .ref R1] S (QV (fun T2 => Ct G l mX2_here d [.ref 4, .ref R1] T2 (QI (fun r7 T7 => (r7 = (nI 110) → ∀ S24 : Sg, S24 = (u2 T7.1 4 0 ((T7.1 4 0) + (nI 1)), T7.2) → (Ct G l mX2_figure d [.ref 4, .ref R1, .int (nI 3), .int (nI 9)] S24 (QI (fun r33 T33 => ∀ S36 : Sg, S36 = (u2 T33.1 L2 0 r33, T33.2) → (((nI 0) ≤ (S36.1 L2 0) → Ct G l mX2_figure d [.ref 4, .ref R1, .int (nI 0), .int (S36.1 L2 0)] S36 (QI (fun r58 T58 => Ev G l mX2_readSides (d + 1) 61 [some (.ref 4), some (.ref R1), some (.ref L2)] [.int r58, .ref L2] T58 (QI P)))) ∧ (¬ ((nI 0) ≤ (S36.1 L2 0)) → Ev G l mX2_readSides (d + 1) 61 [some (.ref 4), some (.ref R1), some (.ref L2)] [.int (-1), .ref L2] S36 (QI P))))))) ∧ (¬ (r7 = (nI 110)) → P (nI 0) T7)))))) :
    Ct G l mX2_readSides (d + 1) [.ref 4, .ref R1, .ref L2] S (QI P) := by
  show Ev G l mX2_readSides (d + 1) 0 [some (.ref 4), some (.ref R1), some (.ref L2)] [] S (QI P)
  refine r_aload_n (μ := mX2_readSides) (pc := 0) dX2_readSides_0 rfl rfl ?_
  refine r_aload_n (μ := mX2_readSides) (pc := 1) dX2_readSides_1 rfl rfl ?_
  refine r_callV (μ := mX2_readSides) (pc := 2) (as := [.ref R1]) 2 cX2_22 dX2_readSides_2 rfl rfl (Nat.le_of_ble_eq_true rfl) rfl okX2_skipBlanks (Nat.lt_succ_self d) (cat8 (n := 0) rfl (by decide)) rfl h (k_V (fun T2 h => ?_))
  refine r_aload_n (μ := mX2_readSides) (pc := 5) dX2_readSides_5 rfl rfl ?_
  refine r_aload_n (μ := mX2_readSides) (pc := 6) dX2_readSides_6 rfl rfl ?_
  refine r_callV (μ := mX2_readSides) (pc := 7) (as := [.ref R1]) 2 cX2_26 dX2_readSides_7 rfl rfl (Nat.le_of_ble_eq_true rfl) rfl okX2_here (Nat.lt_succ_self d) (cat8 (n := 0) rfl (by decide)) rfl h (k_I (fun r7 T7 h => ?_))
  refine r_bipush (μ := mX2_readSides) (pc := 10) (v := nI 110) dX2_readSides_10 rfl ?_
  refine r_icmp_eq (μ := mX2_readSides) (pc := 12) (tgt := 17) dX2_readSides_12 (by decide) ⟨fun q12 => ?_, fun q12 => ?_⟩
  · have h := h.1 q12
    refine r_aload_n (μ := mX2_readSides) (pc := 17) dX2_readSides_17 rfl rfl ?_
    refine r_dup (μ := mX2_readSides) (pc := 18) dX2_readSides_18 rfl ?_
    refine g_I (μ := mX2_readSides) (pc := 19) fX2_9 dX2_readSides_19 rfl ?_
    refine r_iconst (μ := mX2_readSides) (pc := 22) (v := nI 1) dX2_readSides_22 rfl ?_
    refine r_iadd (μ := mX2_readSides) (pc := 23) dX2_readSides_23 ?_
    refine p_I (μ := mX2_readSides) (pc := 24) fX2_9 wfX2_9 dX2_readSides_24 rfl ?_
    refine nm_S (fun S24 eS24 => ?_)
    have h := h S24 eS24
    refine r_aload_n (μ := mX2_readSides) (pc := 27) dX2_readSides_27 rfl rfl ?_
    refine r_aload_n (μ := mX2_readSides) (pc := 28) dX2_readSides_28 rfl rfl ?_
    refine r_aload_n (μ := mX2_readSides) (pc := 29) dX2_readSides_29 rfl rfl ?_
    refine r_iconst (μ := mX2_readSides) (pc := 30) (v := nI 3) dX2_readSides_30 rfl ?_
    refine r_bipush (μ := mX2_readSides) (pc := 31) (v := nI 9) dX2_readSides_31 rfl ?_
    refine r_callV (μ := mX2_readSides) (pc := 33) (as := [.ref R1, .int (nI 3), .int (nI 9)]) 2 cX2_30 dX2_readSides_33 rfl rfl (Nat.le_of_ble_eq_true rfl) rfl okX2_figure (Nat.lt_succ_self d) (cat8 (n := 1) rfl (by decide)) rfl h (k_I (fun r33 T33 h => ?_))
    refine p_I (μ := mX2_readSides) (pc := 36) fX2_34 wfX2_34 dX2_readSides_36 (la_kd hL2) ?_
    refine nm_S (fun S36 eS36 => ?_)
    have h := h S36 eS36
    refine r_aload_n (μ := mX2_readSides) (pc := 39) dX2_readSides_39 rfl rfl ?_
    refine r_aload_n (μ := mX2_readSides) (pc := 40) dX2_readSides_40 rfl rfl ?_
    refine g_I (μ := mX2_readSides) (pc := 41) fX2_34 dX2_readSides_41 (la_kd hL2) ?_
    refine r_if_ge (μ := mX2_readSides) (pc := 44) (tgt := 51) dX2_readSides_44 (by decide) ⟨fun q44 => ?_, fun q44 => ?_⟩
    · have h := h.1 q44
      refine r_aload_n (μ := mX2_readSides) (pc := 51) dX2_readSides_51 rfl rfl ?_
      refine r_aload_n (μ := mX2_readSides) (pc := 52) dX2_readSides_52 rfl rfl ?_
      refine r_iconst (μ := mX2_readSides) (pc := 53) (v := nI 0) dX2_readSides_53 rfl ?_
      refine r_aload_n (μ := mX2_readSides) (pc := 54) dX2_readSides_54 rfl rfl ?_
      refine g_I (μ := mX2_readSides) (pc := 55) fX2_34 dX2_readSides_55 (la_kd hL2) ?_
      refine r_callV (μ := mX2_readSides) (pc := 58) (as := [.ref R1, .int (nI 0), .int (S36.1 L2 0)]) 2 cX2_30 dX2_readSides_58 rfl rfl (Nat.le_of_ble_eq_true rfl) rfl okX2_figure (Nat.lt_succ_self d) (cat8 (n := 1) rfl (by decide)) rfl h (k_I (fun r58 T58 h => ?_))
      exact h
    · have h := h.2 q44
      refine r_iconst (μ := mX2_readSides) (pc := 47) (v := (-1)) dX2_readSides_47 rfl ?_
      refine r_goto (μ := mX2_readSides) (pc := 48) (tgt := 61) dX2_readSides_48 (by decide) ?_
      exact h
  · have h := h.2 q12
    refine r_iconst (μ := mX2_readSides) (pc := 15) (v := nI 0) dX2_readSides_15 rfl ?_
    exact r_zret (μ := mX2_readSides) (pc := 16) dX2_readSides_16 rfl rfl h

set_option maxRecDepth 20000 in
theorem bX2_readSides_61 {G : Gl} {l : Launch} {d : Nat} {S : Sg} {P : Int32 → Sg → Prop} (R1 : Nat) (hR1 : RowAt R1) (L2 : Nat) (hL2 : LandAt L2) (s0 : Int32) (L1 : Nat) (hL1 : LandAt L1)
    (h : ∀ S61 : Sg, S61 = (u2 S.1 L1 1 s0, S.2) → (((nI 0) ≤ (S61.1 L2 1) → Ct G l mX2_figure d [.ref 4, .ref R1, .int (S61.1 L2 1), .int (S61.1 L2 0)] S61 (QI (fun r86 T86 => Ev G l mX2_readSides (d + 1) 89 [some (.ref 4), some (.ref R1), some (.ref L2)] [.int r86, .ref L2] T86 (QI P)))) ∧ (¬ ((nI 0) ≤ (S61.1 L2 1)) → Ev G l mX2_readSides (d + 1) 89 [some (.ref 4), some (.ref R1), some (.ref L2)] [.int (-1), .ref L2] S61 (QI P)))) :
    Ev G l mX2_readSides (d + 1) 61 [some (.ref 4), some (.ref R1), some (.ref L2)] [.int s0, .ref L1] S (QI P) := by
  show Ev G l mX2_readSides (d + 1) 61 [some (.ref 4), some (.ref R1), some (.ref L2)] [.int s0, .ref L1] S (QI P)
  refine p_I (μ := mX2_readSides) (pc := 61) fX2_39 wfX2_39 dX2_readSides_61 (la_kd hL1) ?_
  refine nm_S (fun S61 eS61 => ?_)
  have h := h S61 eS61
  refine r_aload_n (μ := mX2_readSides) (pc := 64) dX2_readSides_64 rfl rfl ?_
  refine r_aload_n (μ := mX2_readSides) (pc := 65) dX2_readSides_65 rfl rfl ?_
  refine g_I (μ := mX2_readSides) (pc := 66) fX2_39 dX2_readSides_66 (la_kd hL2) ?_
  refine r_if_ge (μ := mX2_readSides) (pc := 69) (tgt := 76) dX2_readSides_69 (by decide) ⟨fun q69 => ?_, fun q69 => ?_⟩
  · have h := h.1 q69
    refine r_aload_n (μ := mX2_readSides) (pc := 76) dX2_readSides_76 rfl rfl ?_
    refine r_aload_n (μ := mX2_readSides) (pc := 77) dX2_readSides_77 rfl rfl ?_
    refine r_aload_n (μ := mX2_readSides) (pc := 78) dX2_readSides_78 rfl rfl ?_
    refine g_I (μ := mX2_readSides) (pc := 79) fX2_39 dX2_readSides_79 (la_kd hL2) ?_
    refine r_aload_n (μ := mX2_readSides) (pc := 82) dX2_readSides_82 rfl rfl ?_
    refine g_I (μ := mX2_readSides) (pc := 83) fX2_34 dX2_readSides_83 (la_kd hL2) ?_
    refine r_callV (μ := mX2_readSides) (pc := 86) (as := [.ref R1, .int (S61.1 L2 1), .int (S61.1 L2 0)]) 2 cX2_30 dX2_readSides_86 rfl rfl (Nat.le_of_ble_eq_true rfl) rfl okX2_figure (Nat.lt_succ_self d) (cat8 (n := 1) rfl (by decide)) rfl h (k_I (fun r86 T86 h => ?_))
    exact h
  · have h := h.2 q69
    refine r_iconst (μ := mX2_readSides) (pc := 72) (v := (-1)) dX2_readSides_72 rfl ?_
    refine r_goto (μ := mX2_readSides) (pc := 73) (tgt := 89) dX2_readSides_73 (by decide) ?_
    exact h

set_option maxRecDepth 20000 in
theorem bX2_readSides_89 {G : Gl} {l : Launch} {d : Nat} {S : Sg} {P : Int32 → Sg → Prop} (R1 : Nat) (hR1 : RowAt R1) (L2 : Nat) (hL2 : LandAt L2) (s0 : Int32) (L1 : Nat) (hL1 : LandAt L1)
    (h : ∀ S89 : Sg, S89 = (u2 S.1 L1 2 s0, S.2) → (((nI 0) ≤ (S89.1 L2 2) → Ct G l mX2_figure d [.ref 4, .ref R1, .int (nI 0), .int (nI 7)] S89 (QI (fun r109 T109 => Ev G l mX2_readSides (d + 1) 112 [some (.ref 4), some (.ref R1), some (.ref L2)] [.int r109, .ref L2] T109 (QI P)))) ∧ (¬ ((nI 0) ≤ (S89.1 L2 2)) → Ev G l mX2_readSides (d + 1) 112 [some (.ref 4), some (.ref R1), some (.ref L2)] [.int (-1), .ref L2] S89 (QI P)))) :
    Ev G l mX2_readSides (d + 1) 89 [some (.ref 4), some (.ref R1), some (.ref L2)] [.int s0, .ref L1] S (QI P) := by
  show Ev G l mX2_readSides (d + 1) 89 [some (.ref 4), some (.ref R1), some (.ref L2)] [.int s0, .ref L1] S (QI P)
  refine p_I (μ := mX2_readSides) (pc := 89) fX2_42 wfX2_42 dX2_readSides_89 (la_kd hL1) ?_
  refine nm_S (fun S89 eS89 => ?_)
  have h := h S89 eS89
  refine r_aload_n (μ := mX2_readSides) (pc := 92) dX2_readSides_92 rfl rfl ?_
  refine r_aload_n (μ := mX2_readSides) (pc := 93) dX2_readSides_93 rfl rfl ?_
  refine g_I (μ := mX2_readSides) (pc := 94) fX2_42 dX2_readSides_94 (la_kd hL2) ?_
  refine r_if_ge (μ := mX2_readSides) (pc := 97) (tgt := 104) dX2_readSides_97 (by decide) ⟨fun q97 => ?_, fun q97 => ?_⟩
  · have h := h.1 q97
    refine r_aload_n (μ := mX2_readSides) (pc := 104) dX2_readSides_104 rfl rfl ?_
    refine r_aload_n (μ := mX2_readSides) (pc := 105) dX2_readSides_105 rfl rfl ?_
    refine r_iconst (μ := mX2_readSides) (pc := 106) (v := nI 0) dX2_readSides_106 rfl ?_
    refine r_bipush (μ := mX2_readSides) (pc := 107) (v := nI 7) dX2_readSides_107 rfl ?_
    refine r_callV (μ := mX2_readSides) (pc := 109) (as := [.ref R1, .int (nI 0), .int (nI 7)]) 2 cX2_30 dX2_readSides_109 rfl rfl (Nat.le_of_ble_eq_true rfl) rfl okX2_figure (Nat.lt_succ_self d) (cat8 (n := 1) rfl (by decide)) rfl h (k_I (fun r109 T109 h => ?_))
    exact h
  · have h := h.2 q97
    refine r_iconst (μ := mX2_readSides) (pc := 100) (v := (-1)) dX2_readSides_100 rfl ?_
    refine r_goto (μ := mX2_readSides) (pc := 101) (tgt := 112) dX2_readSides_101 (by decide) ?_
    exact h

set_option maxRecDepth 20000 in
theorem bX2_readSides_112 {G : Gl} {l : Launch} {d : Nat} {S : Sg} {P : Int32 → Sg → Prop} (R1 : Nat) (hR1 : RowAt R1) (L2 : Nat) (hL2 : LandAt L2) (s0 : Int32) (L1 : Nat) (hL1 : LandAt L1)
    (h : ∀ S112 : Sg, S112 = (u2 S.1 L1 5 s0, S.2) → (((nI 0) ≤ (S112.1 L2 5) → Ct G l mX2_figure d [.ref 4, .ref R1, .int (nI 0), .int (nI 7)] S112 (QI (fun r132 T132 => Ev G l mX2_readSides (d + 1) 135 [some (.ref 4), some (.ref R1), some (.ref L2)] [.int r132, .ref L2] T132 (QI P)))) ∧ (¬ ((nI 0) ≤ (S112.1 L2 5)) → Ev G l mX2_readSides (d + 1) 135 [some (.ref 4), some (.ref R1), some (.ref L2)] [.int (-1), .ref L2] S112 (QI P)))) :
    Ev G l mX2_readSides (d + 1) 112 [some (.ref 4), some (.ref R1), some (.ref L2)] [.int s0, .ref L1] S (QI P) := by
  show Ev G l mX2_readSides (d + 1) 112 [some (.ref 4), some (.ref R1), some (.ref L2)] [.int s0, .ref L1] S (QI P)
  refine p_I (μ := mX2_readSides) (pc := 112) fX2_45 wfX2_45 dX2_readSides_112 (la_kd hL1) ?_
  refine nm_S (fun S112 eS112 => ?_)
  have h := h S112 eS112
  refine r_aload_n (μ := mX2_readSides) (pc := 115) dX2_readSides_115 rfl rfl ?_
  refine r_aload_n (μ := mX2_readSides) (pc := 116) dX2_readSides_116 rfl rfl ?_
  refine g_I (μ := mX2_readSides) (pc := 117) fX2_45 dX2_readSides_117 (la_kd hL2) ?_
  refine r_if_ge (μ := mX2_readSides) (pc := 120) (tgt := 127) dX2_readSides_120 (by decide) ⟨fun q120 => ?_, fun q120 => ?_⟩
  · have h := h.1 q120
    refine r_aload_n (μ := mX2_readSides) (pc := 127) dX2_readSides_127 rfl rfl ?_
    refine r_aload_n (μ := mX2_readSides) (pc := 128) dX2_readSides_128 rfl rfl ?_
    refine r_iconst (μ := mX2_readSides) (pc := 129) (v := nI 0) dX2_readSides_129 rfl ?_
    refine r_bipush (μ := mX2_readSides) (pc := 130) (v := nI 7) dX2_readSides_130 rfl ?_
    refine r_callV (μ := mX2_readSides) (pc := 132) (as := [.ref R1, .int (nI 0), .int (nI 7)]) 2 cX2_30 dX2_readSides_132 rfl rfl (Nat.le_of_ble_eq_true rfl) rfl okX2_figure (Nat.lt_succ_self d) (cat8 (n := 1) rfl (by decide)) rfl h (k_I (fun r132 T132 h => ?_))
    exact h
  · have h := h.2 q120
    refine r_iconst (μ := mX2_readSides) (pc := 123) (v := (-1)) dX2_readSides_123 rfl ?_
    refine r_goto (μ := mX2_readSides) (pc := 124) (tgt := 135) dX2_readSides_124 (by decide) ?_
    exact h

set_option maxRecDepth 20000 in
theorem bX2_readSides_135 {G : Gl} {l : Launch} {d : Nat} {S : Sg} {P : Int32 → Sg → Prop} (R1 : Nat) (hR1 : RowAt R1) (L2 : Nat) (hL2 : LandAt L2) (s0 : Int32) (L1 : Nat) (hL1 : LandAt L1)
    (h : ∀ S135 : Sg, S135 = (u2 S.1 L1 6 s0, S.2) → (∀ S143 : Sg, S143 = (u2 S135.1 L2 3 (S135.1 L2 1), S135.2) → (∀ S151 : Sg, S151 = (u2 S143.1 L2 4 (S143.1 L2 2), S143.2) → (∀ S156 : Sg, S156 = (u2 S151.1 L2 7 (nI 0), S151.2) → (∀ S161 : Sg, S161 = (u2 S156.1 L2 8 (nI 0), S156.2) → (∀ S169 : Sg, S169 = (u2 S161.1 (L2 + 6) 5 (nI 0), S161.2) → (∀ x176 : Int32, x176 = (if (S169.1 L2 6) < (nI 0) then (nI 0) else (nI 1)) → (P x176 S169)))))))) :
    Ev G l mX2_readSides (d + 1) 135 [some (.ref 4), some (.ref R1), some (.ref L2)] [.int s0, .ref L1] S (QI P) := by
  show Ev G l mX2_readSides (d + 1) 135 [some (.ref 4), some (.ref R1), some (.ref L2)] [.int s0, .ref L1] S (QI P)
  refine p_I (μ := mX2_readSides) (pc := 135) fX2_48 wfX2_48 dX2_readSides_135 (la_kd hL1) ?_
  refine nm_S (fun S135 eS135 => ?_)
  have h := h S135 eS135
  refine r_aload_n (μ := mX2_readSides) (pc := 138) dX2_readSides_138 rfl rfl ?_
  refine r_aload_n (μ := mX2_readSides) (pc := 139) dX2_readSides_139 rfl rfl ?_
  refine g_I (μ := mX2_readSides) (pc := 140) fX2_39 dX2_readSides_140 (la_kd hL2) ?_
  refine p_I (μ := mX2_readSides) (pc := 143) fX2_51 wfX2_51 dX2_readSides_143 (la_kd hL2) ?_
  refine nm_S (fun S143 eS143 => ?_)
  have h := h S143 eS143
  refine r_aload_n (μ := mX2_readSides) (pc := 146) dX2_readSides_146 rfl rfl ?_
  refine r_aload_n (μ := mX2_readSides) (pc := 147) dX2_readSides_147 rfl rfl ?_
  refine g_I (μ := mX2_readSides) (pc := 148) fX2_42 dX2_readSides_148 (la_kd hL2) ?_
  refine p_I (μ := mX2_readSides) (pc := 151) fX2_54 wfX2_54 dX2_readSides_151 (la_kd hL2) ?_
  refine nm_S (fun S151 eS151 => ?_)
  have h := h S151 eS151
  refine r_aload_n (μ := mX2_readSides) (pc := 154) dX2_readSides_154 rfl rfl ?_
  refine r_iconst (μ := mX2_readSides) (pc := 155) (v := nI 0) dX2_readSides_155 rfl ?_
  refine p_I (μ := mX2_readSides) (pc := 156) fX2_57 wfX2_57 dX2_readSides_156 (la_kd hL2) ?_
  refine nm_S (fun S156 eS156 => ?_)
  have h := h S156 eS156
  refine r_aload_n (μ := mX2_readSides) (pc := 159) dX2_readSides_159 rfl rfl ?_
  refine r_iconst (μ := mX2_readSides) (pc := 160) (v := nI 0) dX2_readSides_160 rfl ?_
  refine p_I (μ := mX2_readSides) (pc := 161) fX2_60 wfX2_60 dX2_readSides_161 (la_kd hL2) ?_
  refine nm_S (fun S161 eS161 => ?_)
  have h := h S161 eS161
  refine r_aload_n (μ := mX2_readSides) (pc := 164) dX2_readSides_164 rfl rfl ?_
  refine g_R (μ := mX2_readSides) (pc := 165) (k' := L2 + 6) fX2_63 dX2_readSides_165 (la_kd hL2) (la_rf14 hL2) ?_
  refine r_iconst (μ := mX2_readSides) (pc := 168) (v := nI 0) dX2_readSides_168 rfl ?_
  refine p_I (μ := mX2_readSides) (pc := 169) fX2_67 wfX2_67 dX2_readSides_169 (de_kd (la_deeds hL2)) ?_
  refine nm_S (fun S169 eS169 => ?_)
  have h := h S169 eS169
  refine r_aload_n (μ := mX2_readSides) (pc := 172) dX2_readSides_172 rfl rfl ?_
  refine g_I (μ := mX2_readSides) (pc := 173) fX2_48 dX2_readSides_173 (la_kd hL2) ?_
  have J176 : ∀ x176 : Int32, x176 = (if (S169.1 L2 6) < (nI 0) then (nI 0) else (nI 1)) → Ev G l mX2_readSides (d + 1) 184 [some (.ref 4), some (.ref R1), some (.ref L2)] [.int x176] S169 (QI P) := by
    intro x176 e176
    have h := h x176 e176
    exact r_zret (μ := mX2_readSides) (pc := 184) dX2_readSides_184 rfl (by rw [e176]; exact (zb_if rfl rfl)) h
  refine r_if_lt (μ := mX2_readSides) (pc := 176) (tgt := 183) dX2_readSides_176 (by decide) ⟨fun q176 => ?_, fun q176 => ?_⟩
  · refine r_iconst (μ := mX2_readSides) (pc := 183) (v := nI 0) dX2_readSides_183 rfl ?_
    exact J176 _ (by first | (rw [if_pos q176]; done) | simp only [if_pos q176])
  · refine r_iconst (μ := mX2_readSides) (pc := 179) (v := nI 1) dX2_readSides_179 rfl ?_
    refine r_goto (μ := mX2_readSides) (pc := 180) (tgt := 184) dX2_readSides_180 (by decide) ?_
    exact J176 _ (by first | (rw [if_neg q176]; done) | simp only [if_neg q176])

set_option maxRecDepth 20000 in
theorem bX2_readPeople_0 {G : Gl} {l : Launch} {d : Nat} {S : Sg} {P : Int32 → Sg → Prop} (R1 : Nat) (hR1 : RowAt R1) (L2 : Nat) (hL2 : LandAt L2)
    (h : Ct G l mX2_skipBlanks d [.ref 4, .ref R1] S (QV (fun T2 => Ev G l mX2_readPeople (d + 1) 5 [some (.ref 4), some (.ref R1), some (.ref L2)] [] T2 (QI P)))) :
    Ct G l mX2_readPeople (d + 1) [.ref 4, .ref R1, .ref L2] S (QI P) := by
  show Ev G l mX2_readPeople (d + 1) 0 [some (.ref 4), some (.ref R1), some (.ref L2)] [] S (QI P)
  refine r_aload_n (μ := mX2_readPeople) (pc := 0) dX2_readPeople_0 rfl rfl ?_
  refine r_aload_n (μ := mX2_readPeople) (pc := 1) dX2_readPeople_1 rfl rfl ?_
  refine r_callV (μ := mX2_readPeople) (pc := 2) (as := [.ref R1]) 2 cX2_22 dX2_readPeople_2 rfl rfl (Nat.le_of_ble_eq_true rfl) rfl okX2_skipBlanks (Nat.lt_succ_self d) (cat8 (n := 0) rfl (by decide)) rfl h (k_V (fun T2 h => ?_))
  exact h

set_option maxRecDepth 20000 in
theorem bX2_readPeople_5 {G : Gl} {l : Launch} {d : Nat} {S : Sg} {P : Int32 → Sg → Prop} (R1 : Nat) (hR1 : RowAt R1) (L2 : Nat) (hL2 : LandAt L2)
    (h : ((nI 6) ≤ (S.1 L2 8) → Ev G l mX2_readPeople (d + 1) 54 [some (.ref 4), some (.ref R1), some (.ref L2)] [] S (QI P)) ∧ (¬ ((nI 6) ≤ (S.1 L2 8)) → ((S.1 R1 1) ≤ (S.1 4 0) → Ev G l mX2_readPeople (d + 1) 54 [some (.ref 4), some (.ref R1), some (.ref L2)] [] S (QI P)) ∧ (¬ ((S.1 R1 1) ≤ (S.1 4 0)) → Ct G l mX2_readOne d [.ref 4, .ref R1, .ref L2] S (QI (fun r28 T28 => (¬ r28 = (nI 0) → ∀ S43 : Sg, S43 = (u2 T28.1 L2 8 ((T28.1 L2 8) + (nI 1)), T28.2) → (Ct G l mX2_skipBlanks d [.ref 4, .ref R1] S43 (QV (fun T48 => Ev G l mX2_readPeople (d + 1) 5 [some (.ref 4), some (.ref R1), some (.ref L2)] [] T48 (QI P))))) ∧ (r28 = (nI 0) → P (nI 0) T28)))))) :
    Ev G l mX2_readPeople (d + 1) 5 [some (.ref 4), some (.ref R1), some (.ref L2)] [] S (QI P) := by
  show Ev G l mX2_readPeople (d + 1) 5 [some (.ref 4), some (.ref R1), some (.ref L2)] [] S (QI P)
  refine r_aload_n (μ := mX2_readPeople) (pc := 5) dX2_readPeople_5 rfl rfl ?_
  refine g_I (μ := mX2_readPeople) (pc := 6) fX2_60 dX2_readPeople_6 (la_kd hL2) ?_
  refine r_bipush (μ := mX2_readPeople) (pc := 9) (v := nI 6) dX2_readPeople_9 rfl ?_
  refine r_icmp_ge (μ := mX2_readPeople) (pc := 11) (tgt := 54) dX2_readPeople_11 (by decide) ⟨fun q11 => ?_, fun q11 => ?_⟩
  · have h := h.1 q11
    exact h
  · have h := h.2 q11
    refine r_aload_n (μ := mX2_readPeople) (pc := 14) dX2_readPeople_14 rfl rfl ?_
    refine g_I (μ := mX2_readPeople) (pc := 15) fX2_9 dX2_readPeople_15 rfl ?_
    refine r_aload_n (μ := mX2_readPeople) (pc := 18) dX2_readPeople_18 rfl rfl ?_
    refine g_I (μ := mX2_readPeople) (pc := 19) fX2_72 dX2_readPeople_19 (ra_kd hR1) ?_
    refine r_icmp_ge (μ := mX2_readPeople) (pc := 22) (tgt := 54) dX2_readPeople_22 (by decide) ⟨fun q22 => ?_, fun q22 => ?_⟩
    · have h := h.1 q22
      exact h
    · have h := h.2 q22
      refine r_aload_n (μ := mX2_readPeople) (pc := 25) dX2_readPeople_25 rfl rfl ?_
      refine r_aload_n (μ := mX2_readPeople) (pc := 26) dX2_readPeople_26 rfl rfl ?_
      refine r_aload_n (μ := mX2_readPeople) (pc := 27) dX2_readPeople_27 rfl rfl ?_
      refine r_callV (μ := mX2_readPeople) (pc := 28) (as := [.ref R1, .ref L2]) 2 cX2_77 dX2_readPeople_28 rfl rfl (Nat.le_of_ble_eq_true rfl) rfl okX2_readOne (Nat.lt_succ_self d) (cat8 (n := 0) rfl (by decide)) rfl h (k_I (fun r28 T28 h => ?_))
      refine r_if_ne (μ := mX2_readPeople) (pc := 31) (tgt := 36) dX2_readPeople_31 (by decide) ⟨fun q31 => ?_, fun q31 => ?_⟩
      · have h := h.1 q31
        refine r_aload_n (μ := mX2_readPeople) (pc := 36) dX2_readPeople_36 rfl rfl ?_
        refine r_dup (μ := mX2_readPeople) (pc := 37) dX2_readPeople_37 rfl ?_
        refine g_I (μ := mX2_readPeople) (pc := 38) fX2_60 dX2_readPeople_38 (la_kd hL2) ?_
        refine r_iconst (μ := mX2_readPeople) (pc := 41) (v := nI 1) dX2_readPeople_41 rfl ?_
        refine r_iadd (μ := mX2_readPeople) (pc := 42) dX2_readPeople_42 ?_
        refine p_I (μ := mX2_readPeople) (pc := 43) fX2_60 wfX2_60 dX2_readPeople_43 (la_kd hL2) ?_
        refine nm_S (fun S43 eS43 => ?_)
        have h := h S43 eS43
        refine r_aload_n (μ := mX2_readPeople) (pc := 46) dX2_readPeople_46 rfl rfl ?_
        refine r_aload_n (μ := mX2_readPeople) (pc := 47) dX2_readPeople_47 rfl rfl ?_
        refine r_callV (μ := mX2_readPeople) (pc := 48) (as := [.ref R1]) 2 cX2_22 dX2_readPeople_48 rfl rfl (Nat.le_of_ble_eq_true rfl) rfl okX2_skipBlanks (Nat.lt_succ_self d) (cat8 (n := 0) rfl (by decide)) rfl h (k_V (fun T48 h => ?_))
        refine r_goto (μ := mX2_readPeople) (pc := 51) (tgt := 5) dX2_readPeople_51 (by decide) ?_
        exact h
      · have h := h.2 q31
        refine r_iconst (μ := mX2_readPeople) (pc := 34) (v := nI 0) dX2_readPeople_34 rfl ?_
        exact r_zret (μ := mX2_readPeople) (pc := 35) dX2_readPeople_35 rfl rfl h

set_option maxRecDepth 20000 in
theorem bX2_readPeople_54 {G : Gl} {l : Launch} {d : Nat} {S : Sg} {P : Int32 → Sg → Prop} (R1 : Nat) (hR1 : RowAt R1) (L2 : Nat) (hL2 : LandAt L2)
    (h : ∀ x58 : Int32, x58 = (if (S.1 L2 8) ≤ (nI 0) then (nI 0) else (if (S.1 4 0) < (S.1 R1 1) then (nI 0) else (nI 1))) → (P x58 S)) :
    Ev G l mX2_readPeople (d + 1) 54 [some (.ref 4), some (.ref R1), some (.ref L2)] [] S (QI P) := by
  show Ev G l mX2_readPeople (d + 1) 54 [some (.ref 4), some (.ref R1), some (.ref L2)] [] S (QI P)
  refine r_aload_n (μ := mX2_readPeople) (pc := 54) dX2_readPeople_54 rfl rfl ?_
  refine g_I (μ := mX2_readPeople) (pc := 55) fX2_60 dX2_readPeople_55 (la_kd hL2) ?_
  have J58 : ∀ x58 : Int32, x58 = (if (S.1 L2 8) ≤ (nI 0) then (nI 0) else (if (S.1 4 0) < (S.1 R1 1) then (nI 0) else (nI 1))) → Ev G l mX2_readPeople (d + 1) 77 [some (.ref 4), some (.ref R1), some (.ref L2)] [.int x58] S (QI P) := by
    intro x58 e58
    have h := h x58 e58
    exact r_zret (μ := mX2_readPeople) (pc := 77) dX2_readPeople_77 rfl (by rw [e58]; exact (zb_if rfl (zb_if rfl rfl))) h
  refine r_if_le (μ := mX2_readPeople) (pc := 58) (tgt := 76) dX2_readPeople_58 (by decide) ⟨fun q58 => ?_, fun q58 => ?_⟩
  · refine r_iconst (μ := mX2_readPeople) (pc := 76) (v := nI 0) dX2_readPeople_76 rfl ?_
    exact J58 _ (by first | (rw [if_pos q58]; done) | simp only [if_pos q58])
  · refine r_aload_n (μ := mX2_readPeople) (pc := 61) dX2_readPeople_61 rfl rfl ?_
    refine g_I (μ := mX2_readPeople) (pc := 62) fX2_9 dX2_readPeople_62 rfl ?_
    refine r_aload_n (μ := mX2_readPeople) (pc := 65) dX2_readPeople_65 rfl rfl ?_
    refine g_I (μ := mX2_readPeople) (pc := 66) fX2_72 dX2_readPeople_66 (ra_kd hR1) ?_
    refine r_icmp_lt (μ := mX2_readPeople) (pc := 69) (tgt := 76) dX2_readPeople_69 (by decide) ⟨fun q69 => ?_, fun q69 => ?_⟩
    · refine r_iconst (μ := mX2_readPeople) (pc := 76) (v := nI 0) dX2_readPeople_76 rfl ?_
      exact J58 _ (by first | (rw [if_neg q58, if_pos q69]; done) | simp only [if_neg q58, if_pos q69])
    · refine r_iconst (μ := mX2_readPeople) (pc := 72) (v := nI 1) dX2_readPeople_72 rfl ?_
      refine r_goto (μ := mX2_readPeople) (pc := 73) (tgt := 77) dX2_readPeople_73 (by decide) ?_
      exact J58 _ (by first | (rw [if_neg q58, if_neg q69]; done) | simp only [if_neg q58, if_neg q69])

set_option maxRecDepth 20000 in
theorem bX2_readOne_0 {G : Gl} {l : Launch} {d : Nat} {S : Sg} {P : Int32 → Sg → Prop} (R1 : Nat) (hR1 : RowAt R1) (L2 : Nat) (hL2 : LandAt L2)
    (h : Ct G l mX2_here d [.ref 4, .ref R1] S (QI (fun r7 T7 => Ct G l mX2_kindOf d [.int r7] T7 (QI (fun r10 T10 => ((nI 0) ≤ r10 → ∀ S29 : Sg, S29 = (u2 T10.1 4 0 ((T10.1 4 0) + (nI 1)), T10.2) → (Ct G l mX2_figure d [.ref 4, .ref R1, .int (nI 0), .int ((S29.1 L2 0) - (nI 1))] S29 (QI (fun r41 T41 => ((nI 0) ≤ r41 → Ct G l mX2_figure d [.ref 4, .ref R1, .int (nI 0), .int (nI 9)] T41 (QI (fun r60 T60 => Ev G l mX2_readOne (d + 1) 63 [some (.ref 4), some (.ref R1), some (.ref L2), some (.int (S.1 L2 8)), some (.int r10), some (.int r41), none, none] [.int r60] T60 (QI P)))) ∧ (¬ ((nI 0) ≤ r41) → Ev G l mX2_readOne (d + 1) 63 [some (.ref 4), some (.ref R1), some (.ref L2), some (.int (S.1 L2 8)), some (.int r10), some (.int r41), none, none] [.int (-1)] T41 (QI P)))))) ∧ (¬ ((nI 0) ≤ r10) → P (nI 0) T10)))))) :
    Ct G l mX2_readOne (d + 1) [.ref 4, .ref R1, .ref L2] S (QI P) := by
  show Ev G l mX2_readOne (d + 1) 0 [some (.ref 4), some (.ref R1), some (.ref L2), none, none, none, none, none] [] S (QI P)
  refine r_aload_n (μ := mX2_readOne) (pc := 0) dX2_readOne_0 rfl rfl ?_
  refine g_I (μ := mX2_readOne) (pc := 1) fX2_60 dX2_readOne_1 (la_kd hL2) ?_
  refine r_istore_n (μ := mX2_readOne) (pc := 4) (ls' := [some (.ref 4), some (.ref R1), some (.ref L2), some (.int (S.1 L2 8)), none, none, none, none]) dX2_readOne_4 rfl (Nat.le_of_ble_eq_true rfl) rfl rfl ?_
  refine r_aload_n (μ := mX2_readOne) (pc := 5) dX2_readOne_5 rfl rfl ?_
  refine r_aload_n (μ := mX2_readOne) (pc := 6) dX2_readOne_6 rfl rfl ?_
  refine r_callV (μ := mX2_readOne) (pc := 7) (as := [.ref R1]) 2 cX2_26 dX2_readOne_7 rfl rfl (Nat.le_of_ble_eq_true rfl) rfl okX2_here (Nat.lt_succ_self d) (cat8 (n := 0) rfl (by decide)) rfl h (k_I (fun r7 T7 h => ?_))
  refine r_callS (μ := mX2_readOne) (pc := 10) (as := [.int r7]) cX2_80 dX2_readOne_10 rfl okX2_kindOf (Nat.lt_succ_self d) (cat8 (n := 0) rfl (by decide)) rfl h (k_I (fun r10 T10 h => ?_))
  refine r_istore (μ := mX2_readOne) (pc := 13) (ls' := [some (.ref 4), some (.ref R1), some (.ref L2), some (.int (S.1 L2 8)), some (.int r10), none, none, none]) dX2_readOne_13 (Nat.le_of_ble_eq_true rfl) rfl rfl ?_
  refine r_iload (μ := mX2_readOne) (pc := 15) dX2_readOne_15 rfl ?_
  refine r_if_ge (μ := mX2_readOne) (pc := 17) (tgt := 22) dX2_readOne_17 (by decide) ⟨fun q17 => ?_, fun q17 => ?_⟩
  · have h := h.1 q17
    refine r_aload_n (μ := mX2_readOne) (pc := 22) dX2_readOne_22 rfl rfl ?_
    refine r_dup (μ := mX2_readOne) (pc := 23) dX2_readOne_23 rfl ?_
    refine g_I (μ := mX2_readOne) (pc := 24) fX2_9 dX2_readOne_24 rfl ?_
    refine r_iconst (μ := mX2_readOne) (pc := 27) (v := nI 1) dX2_readOne_27 rfl ?_
    refine r_iadd (μ := mX2_readOne) (pc := 28) dX2_readOne_28 ?_
    refine p_I (μ := mX2_readOne) (pc := 29) fX2_9 wfX2_9 dX2_readOne_29 rfl ?_
    refine nm_S (fun S29 eS29 => ?_)
    have h := h S29 eS29
    refine r_aload_n (μ := mX2_readOne) (pc := 32) dX2_readOne_32 rfl rfl ?_
    refine r_aload_n (μ := mX2_readOne) (pc := 33) dX2_readOne_33 rfl rfl ?_
    refine r_iconst (μ := mX2_readOne) (pc := 34) (v := nI 0) dX2_readOne_34 rfl ?_
    refine r_aload_n (μ := mX2_readOne) (pc := 35) dX2_readOne_35 rfl rfl ?_
    refine g_I (μ := mX2_readOne) (pc := 36) fX2_34 dX2_readOne_36 (la_kd hL2) ?_
    refine r_iconst (μ := mX2_readOne) (pc := 39) (v := nI 1) dX2_readOne_39 rfl ?_
    refine r_isub (μ := mX2_readOne) (pc := 40) dX2_readOne_40 ?_
    refine r_callV (μ := mX2_readOne) (pc := 41) (as := [.ref R1, .int (nI 0), .int ((S29.1 L2 0) - (nI 1))]) 2 cX2_30 dX2_readOne_41 rfl rfl (Nat.le_of_ble_eq_true rfl) rfl okX2_figure (Nat.lt_succ_self d) (cat8 (n := 0) rfl (by decide)) rfl h (k_I (fun r41 T41 h => ?_))
    refine r_istore (μ := mX2_readOne) (pc := 44) (ls' := [some (.ref 4), some (.ref R1), some (.ref L2), some (.int (S.1 L2 8)), some (.int r10), some (.int r41), none, none]) dX2_readOne_44 (Nat.le_of_ble_eq_true rfl) rfl rfl ?_
    refine r_iload (μ := mX2_readOne) (pc := 46) dX2_readOne_46 rfl ?_
    refine r_if_ge (μ := mX2_readOne) (pc := 48) (tgt := 55) dX2_readOne_48 (by decide) ⟨fun q48 => ?_, fun q48 => ?_⟩
    · have h := h.1 q48
      refine r_aload_n (μ := mX2_readOne) (pc := 55) dX2_readOne_55 rfl rfl ?_
      refine r_aload_n (μ := mX2_readOne) (pc := 56) dX2_readOne_56 rfl rfl ?_
      refine r_iconst (μ := mX2_readOne) (pc := 57) (v := nI 0) dX2_readOne_57 rfl ?_
      refine r_bipush (μ := mX2_readOne) (pc := 58) (v := nI 9) dX2_readOne_58 rfl ?_
      refine r_callV (μ := mX2_readOne) (pc := 60) (as := [.ref R1, .int (nI 0), .int (nI 9)]) 2 cX2_30 dX2_readOne_60 rfl rfl (Nat.le_of_ble_eq_true rfl) rfl okX2_figure (Nat.lt_succ_self d) (cat8 (n := 0) rfl (by decide)) rfl h (k_I (fun r60 T60 h => ?_))
      exact h
    · have h := h.2 q48
      refine r_iconst (μ := mX2_readOne) (pc := 51) (v := (-1)) dX2_readOne_51 rfl ?_
      refine r_goto (μ := mX2_readOne) (pc := 52) (tgt := 63) dX2_readOne_52 (by decide) ?_
      exact h
  · have h := h.2 q17
    refine r_iconst (μ := mX2_readOne) (pc := 20) (v := nI 0) dX2_readOne_20 rfl ?_
    exact r_zret (μ := mX2_readOne) (pc := 21) dX2_readOne_21 rfl rfl h

set_option maxRecDepth 20000 in
theorem bX2_readOne_63 {G : Gl} {l : Launch} {d : Nat} {S : Sg} {P : Int32 → Sg → Prop} (R1 : Nat) (hR1 : RowAt R1) (L2 : Nat) (hL2 : LandAt L2) (i3 : Int32) (i4 : Int32) (i5 : Int32) (s0 : Int32)
    (h : ((nI 0) ≤ s0 → Ct G l mX2_figure d [.ref 4, .ref R1, .int (nI 0), .int (nI 7)] S (QI (fun r79 T79 => Ev G l mX2_readOne (d + 1) 82 [some (.ref 4), some (.ref R1), some (.ref L2), some (.int i3), some (.int i4), some (.int i5), some (.int s0), none] [.int r79] T79 (QI P)))) ∧ (¬ ((nI 0) ≤ s0) → Ev G l mX2_readOne (d + 1) 82 [some (.ref 4), some (.ref R1), some (.ref L2), some (.int i3), some (.int i4), some (.int i5), some (.int s0), none] [.int (-1)] S (QI P))) :
    Ev G l mX2_readOne (d + 1) 63 [some (.ref 4), some (.ref R1), some (.ref L2), some (.int i3), some (.int i4), some (.int i5), none, none] [.int s0] S (QI P) := by
  show Ev G l mX2_readOne (d + 1) 63 [some (.ref 4), some (.ref R1), some (.ref L2), some (.int i3), some (.int i4), some (.int i5), none, none] [.int s0] S (QI P)
  refine r_istore (μ := mX2_readOne) (pc := 63) (ls' := [some (.ref 4), some (.ref R1), some (.ref L2), some (.int i3), some (.int i4), some (.int i5), some (.int s0), none]) dX2_readOne_63 (Nat.le_of_ble_eq_true rfl) rfl rfl ?_
  refine r_iload (μ := mX2_readOne) (pc := 65) dX2_readOne_65 rfl ?_
  refine r_if_ge (μ := mX2_readOne) (pc := 67) (tgt := 74) dX2_readOne_67 (by decide) ⟨fun q67 => ?_, fun q67 => ?_⟩
  · have h := h.1 q67
    refine r_aload_n (μ := mX2_readOne) (pc := 74) dX2_readOne_74 rfl rfl ?_
    refine r_aload_n (μ := mX2_readOne) (pc := 75) dX2_readOne_75 rfl rfl ?_
    refine r_iconst (μ := mX2_readOne) (pc := 76) (v := nI 0) dX2_readOne_76 rfl ?_
    refine r_bipush (μ := mX2_readOne) (pc := 77) (v := nI 7) dX2_readOne_77 rfl ?_
    refine r_callV (μ := mX2_readOne) (pc := 79) (as := [.ref R1, .int (nI 0), .int (nI 7)]) 2 cX2_30 dX2_readOne_79 rfl rfl (Nat.le_of_ble_eq_true rfl) rfl okX2_figure (Nat.lt_succ_self d) (cat8 (n := 0) rfl (by decide)) rfl h (k_I (fun r79 T79 h => ?_))
    exact h
  · have h := h.2 q67
    refine r_iconst (μ := mX2_readOne) (pc := 70) (v := (-1)) dX2_readOne_70 rfl ?_
    refine r_goto (μ := mX2_readOne) (pc := 71) (tgt := 82) dX2_readOne_71 (by decide) ?_
    exact h

set_option maxRecDepth 20000 in
theorem bX2_readOne_82 {G : Gl} {l : Launch} {d : Nat} {S : Sg} {P : Int32 → Sg → Prop} (R1 : Nat) (hR1 : RowAt R1) (L2 : Nat) (hL2 : LandAt L2) (i3 : Int32) (i4 : Int32) (i5 : Int32) (i6 : Int32) (s0 : Int32)
    (h : ((nI 0) ≤ s0 → ∃ n98 : Nat, ix i3 n98 6 ∧ ∀ S98 : Sg, S98 = (u2 S.1 (L2 + 1) n98 i4, S.2) → (∀ S106 : Sg, S106 = (u2 S98.1 (L2 + 2) n98 i5, S98.2) → (∀ S114 : Sg, S114 = (u2 S106.1 (L2 + 3) n98 i5, S106.2) → (∀ S122 : Sg, S122 = (u2 S114.1 (L2 + 4) n98 i6, S114.2) → (∀ S130 : Sg, S130 = (u2 S122.1 (L2 + 5) n98 s0, S122.2) → (P (nI 1) S130)))))) ∧ (¬ ((nI 0) ≤ s0) → P (nI 0) S)) :
    Ev G l mX2_readOne (d + 1) 82 [some (.ref 4), some (.ref R1), some (.ref L2), some (.int i3), some (.int i4), some (.int i5), some (.int i6), none] [.int s0] S (QI P) := by
  show Ev G l mX2_readOne (d + 1) 82 [some (.ref 4), some (.ref R1), some (.ref L2), some (.int i3), some (.int i4), some (.int i5), some (.int i6), none] [.int s0] S (QI P)
  refine r_istore (μ := mX2_readOne) (pc := 82) (ls' := [some (.ref 4), some (.ref R1), some (.ref L2), some (.int i3), some (.int i4), some (.int i5), some (.int i6), some (.int s0)]) dX2_readOne_82 (Nat.le_of_ble_eq_true rfl) rfl rfl ?_
  refine r_iload (μ := mX2_readOne) (pc := 84) dX2_readOne_84 rfl ?_
  refine r_if_ge (μ := mX2_readOne) (pc := 86) (tgt := 91) dX2_readOne_86 (by decide) ⟨fun q86 => ?_, fun q86 => ?_⟩
  · have h := h.1 q86
    refine r_aload_n (μ := mX2_readOne) (pc := 91) dX2_readOne_91 rfl rfl ?_
    refine g_R (μ := mX2_readOne) (pc := 92) (k' := L2 + 1) fX2_84 dX2_readOne_92 (la_kd hL2) (la_rf9 hL2) ?_
    refine r_iload_n (μ := mX2_readOne) (pc := 95) dX2_readOne_95 rfl rfl ?_
    refine r_iload (μ := mX2_readOne) (pc := 96) dX2_readOne_96 rfl ?_
    obtain ⟨n98, hx98, h⟩ := h
    refine r_iast (μ := mX2_readOne) (pc := 98) dX2_readOne_98 (la_k1 hL2) (ix_ln hx98 (la_l1 hL2)) ?_
    refine nm_S (fun S98 eS98 => ?_)
    have h := h S98 eS98
    refine r_aload_n (μ := mX2_readOne) (pc := 99) dX2_readOne_99 rfl rfl ?_
    refine g_R (μ := mX2_readOne) (pc := 100) (k' := L2 + 2) fX2_88 dX2_readOne_100 (la_kd hL2) (la_rf10 hL2) ?_
    refine r_iload_n (μ := mX2_readOne) (pc := 103) dX2_readOne_103 rfl rfl ?_
    refine r_iload (μ := mX2_readOne) (pc := 104) dX2_readOne_104 rfl ?_
    refine r_iast (μ := mX2_readOne) (pc := 106) dX2_readOne_106 (la_k2 hL2) (ix_ln hx98 (la_l2 hL2)) ?_
    refine nm_S (fun S106 eS106 => ?_)
    have h := h S106 eS106
    refine r_aload_n (μ := mX2_readOne) (pc := 107) dX2_readOne_107 rfl rfl ?_
    refine g_R (μ := mX2_readOne) (pc := 108) (k' := L2 + 3) fX2_91 dX2_readOne_108 (la_kd hL2) (la_rf11 hL2) ?_
    refine r_iload_n (μ := mX2_readOne) (pc := 111) dX2_readOne_111 rfl rfl ?_
    refine r_iload (μ := mX2_readOne) (pc := 112) dX2_readOne_112 rfl ?_
    refine r_iast (μ := mX2_readOne) (pc := 114) dX2_readOne_114 (la_k3 hL2) (ix_ln hx98 (la_l3 hL2)) ?_
    refine nm_S (fun S114 eS114 => ?_)
    have h := h S114 eS114
    refine r_aload_n (μ := mX2_readOne) (pc := 115) dX2_readOne_115 rfl rfl ?_
    refine g_R (μ := mX2_readOne) (pc := 116) (k' := L2 + 4) fX2_94 dX2_readOne_116 (la_kd hL2) (la_rf12 hL2) ?_
    refine r_iload_n (μ := mX2_readOne) (pc := 119) dX2_readOne_119 rfl rfl ?_
    refine r_iload (μ := mX2_readOne) (pc := 120) dX2_readOne_120 rfl ?_
    refine r_iast (μ := mX2_readOne) (pc := 122) dX2_readOne_122 (la_k4 hL2) (ix_ln hx98 (la_l4 hL2)) ?_
    refine nm_S (fun S122 eS122 => ?_)
    have h := h S122 eS122
    refine r_aload_n (μ := mX2_readOne) (pc := 123) dX2_readOne_123 rfl rfl ?_
    refine g_R (μ := mX2_readOne) (pc := 124) (k' := L2 + 5) fX2_97 dX2_readOne_124 (la_kd hL2) (la_rf13 hL2) ?_
    refine r_iload_n (μ := mX2_readOne) (pc := 127) dX2_readOne_127 rfl rfl ?_
    refine r_iload (μ := mX2_readOne) (pc := 128) dX2_readOne_128 rfl ?_
    refine r_iast (μ := mX2_readOne) (pc := 130) dX2_readOne_130 (la_k5 hL2) (ix_ln hx98 (la_l5 hL2)) ?_
    refine nm_S (fun S130 eS130 => ?_)
    have h := h S130 eS130
    refine r_iconst (μ := mX2_readOne) (pc := 131) (v := nI 1) dX2_readOne_131 rfl ?_
    exact r_zret (μ := mX2_readOne) (pc := 132) dX2_readOne_132 rfl rfl h
  · have h := h.2 q86
    refine r_iconst (μ := mX2_readOne) (pc := 89) (v := nI 0) dX2_readOne_89 rfl ?_
    exact r_zret (μ := mX2_readOne) (pc := 90) dX2_readOne_90 rfl rfl h

set_option maxRecDepth 20000 in
theorem bX2_skipBlanks_0 {G : Gl} {l : Launch} {d : Nat} {S : Sg} {P : Sg → Prop} (R1 : Nat) (hR1 : RowAt R1)
    (h : ((S.1 R1 1) ≤ (S.1 4 0) → P S) ∧ (¬ ((S.1 R1 1) ≤ (S.1 4 0)) → Ct G l mX2_here d [.ref 4, .ref R1] S (QI (fun r13 T13 => (¬ r13 = (nI 32) → P T13) ∧ (r13 = (nI 32) → ∀ S28 : Sg, S28 = (u2 T13.1 4 0 ((T13.1 4 0) + (nI 1)), T13.2) → (Ev G l mX2_skipBlanks (d + 1) 0 [some (.ref 4), some (.ref R1)] [] S28 (QV P))))))) :
    Ct G l mX2_skipBlanks (d + 1) [.ref 4, .ref R1] S (QV P) := by
  show Ev G l mX2_skipBlanks (d + 1) 0 [some (.ref 4), some (.ref R1)] [] S (QV P)
  refine r_aload_n (μ := mX2_skipBlanks) (pc := 0) dX2_skipBlanks_0 rfl rfl ?_
  refine g_I (μ := mX2_skipBlanks) (pc := 1) fX2_9 dX2_skipBlanks_1 rfl ?_
  refine r_aload_n (μ := mX2_skipBlanks) (pc := 4) dX2_skipBlanks_4 rfl rfl ?_
  refine g_I (μ := mX2_skipBlanks) (pc := 5) fX2_72 dX2_skipBlanks_5 (ra_kd hR1) ?_
  refine r_icmp_ge (μ := mX2_skipBlanks) (pc := 8) (tgt := 34) dX2_skipBlanks_8 (by decide) ⟨fun q8 => ?_, fun q8 => ?_⟩
  · have h := h.1 q8
    exact r_vret (μ := mX2_skipBlanks) (pc := 34) dX2_skipBlanks_34 rfl h
  · have h := h.2 q8
    refine r_aload_n (μ := mX2_skipBlanks) (pc := 11) dX2_skipBlanks_11 rfl rfl ?_
    refine r_aload_n (μ := mX2_skipBlanks) (pc := 12) dX2_skipBlanks_12 rfl rfl ?_
    refine r_callV (μ := mX2_skipBlanks) (pc := 13) (as := [.ref R1]) 2 cX2_26 dX2_skipBlanks_13 rfl rfl (Nat.le_of_ble_eq_true rfl) rfl okX2_here (Nat.lt_succ_self d) (cat8 (n := 0) rfl (by decide)) rfl h (k_I (fun r13 T13 h => ?_))
    refine r_bipush (μ := mX2_skipBlanks) (pc := 16) (v := nI 32) dX2_skipBlanks_16 rfl ?_
    refine r_icmp_ne (μ := mX2_skipBlanks) (pc := 18) (tgt := 34) dX2_skipBlanks_18 (by decide) ⟨fun q18 => ?_, fun q18 => ?_⟩
    · have h := h.1 q18
      exact r_vret (μ := mX2_skipBlanks) (pc := 34) dX2_skipBlanks_34 rfl h
    · have h := h.2 q18
      refine r_aload_n (μ := mX2_skipBlanks) (pc := 21) dX2_skipBlanks_21 rfl rfl ?_
      refine r_dup (μ := mX2_skipBlanks) (pc := 22) dX2_skipBlanks_22 rfl ?_
      refine g_I (μ := mX2_skipBlanks) (pc := 23) fX2_9 dX2_skipBlanks_23 rfl ?_
      refine r_iconst (μ := mX2_skipBlanks) (pc := 26) (v := nI 1) dX2_skipBlanks_26 rfl ?_
      refine r_iadd (μ := mX2_skipBlanks) (pc := 27) dX2_skipBlanks_27 ?_
      refine p_I (μ := mX2_skipBlanks) (pc := 28) fX2_9 wfX2_9 dX2_skipBlanks_28 rfl ?_
      refine nm_S (fun S28 eS28 => ?_)
      have h := h S28 eS28
      refine r_goto (μ := mX2_skipBlanks) (pc := 31) (tgt := 0) dX2_skipBlanks_31 (by decide) ?_
      exact h

set_option maxRecDepth 20000 in
theorem bX2_here_0 {G : Gl} {l : Launch} {d : Nat} {S : Sg} {P : Int32 → Sg → Prop} (R1 : Nat) (hR1 : RowAt R1)
    (h : Ct G l mX3_hasPlace d [.ref R1, .int (S.1 4 0)] S (QI (fun r5 T5 => (¬ (r5 = (nI 0)) → ix (T5.1 4 0) ((T5.1 4 0).toNatClampNeg) (ln (R1 + 10))) ∧ ∀ x8 : Int32, x8 = (if r5 = (nI 0) then (-1) else (T5.1 (R1 + 10) (T5.1 4 0).toNatClampNeg)) → (P x8 T5)))) :
    Ct G l mX2_here (d + 1) [.ref 4, .ref R1] S (QI P) := by
  show Ev G l mX2_here (d + 1) 0 [some (.ref 4), some (.ref R1)] [] S (QI P)
  refine r_aload_n (μ := mX2_here) (pc := 0) dX2_here_0 rfl rfl ?_
  refine r_aload_n (μ := mX2_here) (pc := 1) dX2_here_1 rfl rfl ?_
  refine g_I (μ := mX2_here) (pc := 2) fX2_9 dX2_here_2 rfl ?_
  refine r_callV (μ := mX2_here) (pc := 5) (as := [.int (S.1 4 0)]) 3 cX2_100 dX2_here_5 rfl (ra_kd hR1) (Nat.le_of_ble_eq_true rfl) rfl okX3_hasPlace (Nat.lt_succ_self d) (cat8 (n := 0) rfl (by decide)) rfl h (k_I (fun r5 T5 h => ?_))
  obtain ⟨hp19, h⟩ := h
  have J8 : ∀ x8 : Int32, x8 = (if r5 = (nI 0) then (-1) else (T5.1 (R1 + 10) (T5.1 4 0).toNatClampNeg)) → Ev G l mX2_here (d + 1) 24 [some (.ref 4), some (.ref R1)] [.int x8] T5 (QI P) := by
    intro x8 e8
    have h := h x8 e8
    exact r_iret (μ := mX2_here) (pc := 24) dX2_here_24 rfl h
  refine r_if_eq (μ := mX2_here) (pc := 8) (tgt := 23) dX2_here_8 (by decide) ⟨fun q8 => ?_, fun q8 => ?_⟩
  · refine r_iconst (μ := mX2_here) (pc := 23) (v := (-1)) dX2_here_23 rfl ?_
    exact J8 _ (by first | (rw [if_pos q8]; done) | simp only [if_pos q8])
  · have hp19 := hp19 q8
    refine r_aload_n (μ := mX2_here) (pc := 11) dX2_here_11 rfl rfl ?_
    refine g_R (μ := mX2_here) (pc := 12) (k' := R1 + 10) fX2_104 dX2_here_12 (ra_kd hR1) (ra_rf hR1) ?_
    refine r_aload_n (μ := mX2_here) (pc := 15) dX2_here_15 rfl rfl ?_
    refine g_I (μ := mX2_here) (pc := 16) fX2_9 dX2_here_16 rfl ?_
    refine r_iald (μ := mX2_here) (pc := 19) dX2_here_19 (ra_k hR1) hp19 ?_
    refine r_goto (μ := mX2_here) (pc := 20) (tgt := 24) dX2_here_20 (by decide) ?_
    exact J8 _ (by first | (rw [if_neg q8]; done) | simp only [if_neg q8])

set_option maxRecDepth 20000 in
theorem bX2_figure_0 {G : Gl} {l : Launch} {d : Nat} {S : Sg} {P : Int32 → Sg → Prop} (R1 : Nat) (hR1 : RowAt R1) (i2 : Int32) (i3 : Int32)
    (h : Ct G l mX2_here d [.ref 4, .ref R1] S (QI (fun r2 T2 => ((r2 - (nI 48)) < i2 → P (-1) T2) ∧ (¬ ((r2 - (nI 48)) < i2) → ((r2 - (nI 48)) ≤ i3 → ∀ S31 : Sg, S31 = (u2 T2.1 4 0 ((T2.1 4 0) + (nI 1)), T2.2) → (P (r2 - (nI 48)) S31)) ∧ (¬ ((r2 - (nI 48)) ≤ i3) → P (-1) T2))))) :
    Ct G l mX2_figure (d + 1) [.ref 4, .ref R1, .int i2, .int i3] S (QI P) := by
  show Ev G l mX2_figure (d + 1) 0 [some (.ref 4), some (.ref R1), some (.int i2), some (.int i3), none] [] S (QI P)
  refine r_aload_n (μ := mX2_figure) (pc := 0) dX2_figure_0 rfl rfl ?_
  refine r_aload_n (μ := mX2_figure) (pc := 1) dX2_figure_1 rfl rfl ?_
  refine r_callV (μ := mX2_figure) (pc := 2) (as := [.ref R1]) 2 cX2_26 dX2_figure_2 rfl rfl (Nat.le_of_ble_eq_true rfl) rfl okX2_here (Nat.lt_succ_self d) (cat8 (n := 0) rfl (by decide)) rfl h (k_I (fun r2 T2 h => ?_))
  refine r_bipush (μ := mX2_figure) (pc := 5) (v := nI 48) dX2_figure_5 rfl ?_
  refine r_isub (μ := mX2_figure) (pc := 7) dX2_figure_7 ?_
  refine r_istore (μ := mX2_figure) (pc := 8) (ls' := [some (.ref 4), some (.ref R1), some (.int i2), some (.int i3), some (.int (r2 - (nI 48)))]) dX2_figure_8 (Nat.le_of_ble_eq_true rfl) rfl rfl ?_
  refine r_iload (μ := mX2_figure) (pc := 10) dX2_figure_10 rfl ?_
  refine r_iload_n (μ := mX2_figure) (pc := 12) dX2_figure_12 rfl rfl ?_
  refine r_icmp_lt (μ := mX2_figure) (pc := 13) (tgt := 22) dX2_figure_13 (by decide) ⟨fun q13 => ?_, fun q13 => ?_⟩
  · have h := h.1 q13
    refine r_iconst (μ := mX2_figure) (pc := 22) (v := (-1)) dX2_figure_22 rfl ?_
    exact r_iret (μ := mX2_figure) (pc := 23) dX2_figure_23 rfl h
  · have h := h.2 q13
    refine r_iload (μ := mX2_figure) (pc := 16) dX2_figure_16 rfl ?_
    refine r_iload_n (μ := mX2_figure) (pc := 18) dX2_figure_18 rfl rfl ?_
    refine r_icmp_le (μ := mX2_figure) (pc := 19) (tgt := 24) dX2_figure_19 (by decide) ⟨fun q19 => ?_, fun q19 => ?_⟩
    · have h := h.1 q19
      refine r_aload_n (μ := mX2_figure) (pc := 24) dX2_figure_24 rfl rfl ?_
      refine r_dup (μ := mX2_figure) (pc := 25) dX2_figure_25 rfl ?_
      refine g_I (μ := mX2_figure) (pc := 26) fX2_9 dX2_figure_26 rfl ?_
      refine r_iconst (μ := mX2_figure) (pc := 29) (v := nI 1) dX2_figure_29 rfl ?_
      refine r_iadd (μ := mX2_figure) (pc := 30) dX2_figure_30 ?_
      refine p_I (μ := mX2_figure) (pc := 31) fX2_9 wfX2_9 dX2_figure_31 rfl ?_
      refine nm_S (fun S31 eS31 => ?_)
      have h := h S31 eS31
      refine r_iload (μ := mX2_figure) (pc := 34) dX2_figure_34 rfl ?_
      exact r_iret (μ := mX2_figure) (pc := 36) dX2_figure_36 rfl h
    · have h := h.2 q19
      refine r_iconst (μ := mX2_figure) (pc := 22) (v := (-1)) dX2_figure_22 rfl ?_
      exact r_iret (μ := mX2_figure) (pc := 23) dX2_figure_23 rfl h

