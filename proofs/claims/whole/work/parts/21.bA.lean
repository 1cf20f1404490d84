set_option maxRecDepth 20000 in
theorem bX0_becomeAs_0 {G : Gl} {l : Launch} {d : Nat} {S : Sg} {P : Sg → Prop} (D0 : Nat) (hD0 : DeedsAt D0) (D1 : Nat) (hD1 : DeedsAt D1)
    (h : ∀ S5 : Sg, S5 = (u2 S.1 D0 5 (S.1 D1 5), S.2) → (∀ S20 : Sg, S20 = (u1 S5.1 (D0 + 1) (va_cpy (S5.1 (D1 + 1)) (S5.1 (D0 + 1)) 0 0 40), S5.2) → (∀ S35 : Sg, S35 = (u1 S20.1 (D0 + 2) (va_cpy (S20.1 (D1 + 2)) (S20.1 (D0 + 2)) 0 0 40), S20.2) → (∀ S50 : Sg, S50 = (u1 S35.1 (D0 + 3) (va_cpy (S35.1 (D1 + 3)) (S35.1 (D0 + 3)) 0 0 40), S35.2) → (∀ S65 : Sg, S65 = (u1 S50.1 (D0 + 4) (va_cpy (S50.1 (D1 + 4)) (S50.1 (D0 + 4)) 0 0 40), S50.2) → (∀ S80 : Sg, S80 = (u1 S65.1 (D0 + 5) (va_cpy (S65.1 (D1 + 5)) (S65.1 (D0 + 5)) 0 0 40), S65.2) → (P S80))))))) :
    Ct G l mX0_becomeAs (d + 1) [.ref D0, .ref D1] S (QV P) := by
  show Ev G l mX0_becomeAs (d + 1) 0 [some (.ref D0), some (.ref D1)] [] S (QV P)
  refine r_aload_n (μ := mX0_becomeAs) (pc := 0) dX0_becomeAs_0 rfl rfl ?_
  refine r_aload_n (μ := mX0_becomeAs) (pc := 1) dX0_becomeAs_1 rfl rfl ?_
  refine g_I (μ := mX0_becomeAs) (pc := 2) fX0_27 dX0_becomeAs_2 (de_kd hD1) ?_
  refine p_I (μ := mX0_becomeAs) (pc := 5) fX0_27 wfX0_27 dX0_becomeAs_5 (de_kd hD0) ?_
  refine nm_S (fun S5 eS5 => ?_)
  have h := h S5 eS5
  refine r_aload_n (μ := mX0_becomeAs) (pc := 8) dX0_becomeAs_8 rfl rfl ?_
  refine g_R (μ := mX0_becomeAs) (pc := 9) (k' := D1 + 1) fX0_9 dX0_becomeAs_9 (de_kd hD1) (de_rf0 hD1) ?_
  refine r_iconst (μ := mX0_becomeAs) (pc := 12) (v := nI 0) dX0_becomeAs_12 rfl ?_
  refine r_aload_n (μ := mX0_becomeAs) (pc := 13) dX0_becomeAs_13 rfl rfl ?_
  refine g_R (μ := mX0_becomeAs) (pc := 14) (k' := D0 + 1) fX0_9 dX0_becomeAs_14 (de_kd hD0) (de_rf0 hD0) ?_
  refine r_iconst (μ := mX0_becomeAs) (pc := 17) (v := nI 0) dX0_becomeAs_17 rfl ?_
  refine r_bipush (μ := mX0_becomeAs) (pc := 18) (v := nI 40) dX0_becomeAs_18 rfl ?_
  refine r_copy (μ := mX0_becomeAs) (pc := 20) (a := 0) (b := 0) (n := 40) dX0_becomeAs_20 cpX0_31.1 cpX0_31.2.1 cpX0_31.2.2.1 cpX0_31.2.2.2 (de_k1 hD1) (de_k1 hD0) rfl rfl rfl (by rw [de_l1 hD1]; omega) (by rw [de_l1 hD0]; omega) (by rw [de_l1 hD1]; omega) (by rw [de_l1 hD0]; omega) (cat8 (n := 0) rfl (by decide)) ?_
  refine nm_S (fun S20 eS20 => ?_)
  have h := h S20 eS20
  refine r_aload_n (μ := mX0_becomeAs) (pc := 23) dX0_becomeAs_23 rfl rfl ?_
  refine g_R (μ := mX0_becomeAs) (pc := 24) (k' := D1 + 2) fX0_15 dX0_becomeAs_24 (de_kd hD1) (de_rf1 hD1) ?_
  refine r_iconst (μ := mX0_becomeAs) (pc := 27) (v := nI 0) dX0_becomeAs_27 rfl ?_
  refine r_aload_n (μ := mX0_becomeAs) (pc := 28) dX0_becomeAs_28 rfl rfl ?_
  refine g_R (μ := mX0_becomeAs) (pc := 29) (k' := D0 + 2) fX0_15 dX0_becomeAs_29 (de_kd hD0) (de_rf1 hD0) ?_
  refine r_iconst (μ := mX0_becomeAs) (pc := 32) (v := nI 0) dX0_becomeAs_32 rfl ?_
  refine r_bipush (μ := mX0_becomeAs) (pc := 33) (v := nI 40) dX0_becomeAs_33 rfl ?_
  refine r_copy (μ := mX0_becomeAs) (pc := 35) (a := 0) (b := 0) (n := 40) dX0_becomeAs_35 cpX0_31.1 cpX0_31.2.1 cpX0_31.2.2.1 cpX0_31.2.2.2 (de_k2 hD1) (de_k2 hD0) rfl rfl rfl (by rw [de_l2 hD1]; omega) (by rw [de_l2 hD0]; omega) (by rw [de_l2 hD1]; omega) (by rw [de_l2 hD0]; omega) (cat8 (n := 0) rfl (by decide)) ?_
  refine nm_S (fun S35 eS35 => ?_)
  have h := h S35 eS35
  refine r_aload_n (μ := mX0_becomeAs) (pc := 38) dX0_becomeAs_38 rfl rfl ?_
  refine g_R (μ := mX0_becomeAs) (pc := 39) (k' := D1 + 3) fX0_18 dX0_becomeAs_39 (de_kd hD1) (de_rf2 hD1) ?_
  refine r_iconst (μ := mX0_becomeAs) (pc := 42) (v := nI 0) dX0_becomeAs_42 rfl ?_
  refine r_aload_n (μ := mX0_becomeAs) (pc := 43) dX0_becomeAs_43 rfl rfl ?_
  refine g_R (μ := mX0_becomeAs) (pc := 44) (k' := D0 + 3) fX0_18 dX0_becomeAs_44 (de_kd hD0) (de_rf2 hD0) ?_
  refine r_iconst (μ := mX0_becomeAs) (pc := 47) (v := nI 0) dX0_becomeAs_47 rfl ?_
  refine r_bipush (μ := mX0_becomeAs) (pc := 48) (v := nI 40) dX0_becomeAs_48 rfl ?_
  refine r_copy (μ := mX0_becomeAs) (pc := 50) (a := 0) (b := 0) (n := 40) dX0_becomeAs_50 cpX0_31.1 cpX0_31.2.1 cpX0_31.2.2.1 cpX0_31.2.2.2 (de_k3 hD1) (de_k3 hD0) rfl rfl rfl (by rw [de_l3 hD1]; omega) (by rw [de_l3 hD0]; omega) (by rw [de_l3 hD1]; omega) (by rw [de_l3 hD0]; omega) (cat8 (n := 0) rfl (by decide)) ?_
  refine nm_S (fun S50 eS50 => ?_)
  have h := h S50 eS50
  refine r_aload_n (μ := mX0_becomeAs) (pc := 53) dX0_becomeAs_53 rfl rfl ?_
  refine g_R (μ := mX0_becomeAs) (pc := 54) (k' := D1 + 4) fX0_21 dX0_becomeAs_54 (de_kd hD1) (de_rf3 hD1) ?_
  refine r_iconst (μ := mX0_becomeAs) (pc := 57) (v := nI 0) dX0_becomeAs_57 rfl ?_
  refine r_aload_n (μ := mX0_becomeAs) (pc := 58) dX0_becomeAs_58 rfl rfl ?_
  refine g_R (μ := mX0_becomeAs) (pc := 59) (k' := D0 + 4) fX0_21 dX0_becomeAs_59 (de_kd hD0) (de_rf3 hD0) ?_
  refine r_iconst (μ := mX0_becomeAs) (pc := 62) (v := nI 0) dX0_becomeAs_62 rfl ?_
  refine r_bipush (μ := mX0_becomeAs) (pc := 63) (v := nI 40) dX0_becomeAs_63 rfl ?_
  refine r_copy (μ := mX0_becomeAs) (pc := 65) (a := 0) (b := 0) (n := 40) dX0_becomeAs_65 cpX0_31.1 cpX0_31.2.1 cpX0_31.2.2.1 cpX0_31.2.2.2 (de_k4 hD1) (de_k4 hD0) rfl rfl rfl (by rw [de_l4 hD1]; omega) (by rw [de_l4 hD0]; omega) (by rw [de_l4 hD1]; omega) (by rw [de_l4 hD0]; omega) (cat8 (n := 0) rfl (by decide)) ?_
  refine nm_S (fun S65 eS65 => ?_)
  have h := h S65 eS65
  refine r_aload_n (μ := mX0_becomeAs) (pc := 68) dX0_becomeAs_68 rfl rfl ?_
  refine g_R (μ := mX0_becomeAs) (pc := 69) (k' := D1 + 5) fX0_24 dX0_becomeAs_69 (de_kd hD1) (de_rf4 hD1) ?_
  refine r_iconst (μ := mX0_becomeAs) (pc := 72) (v := nI 0) dX0_becomeAs_72 rfl ?_
  refine r_aload_n (μ := mX0_becomeAs) (pc := 73) dX0_becomeAs_73 rfl rfl ?_
  refine g_R (μ := mX0_becomeAs) (pc := 74) (k' := D0 + 5) fX0_24 dX0_becomeAs_74 (de_kd hD0) (de_rf4 hD0) ?_
  refine r_iconst (μ := mX0_becomeAs) (pc := 77) (v := nI 0) dX0_becomeAs_77 rfl ?_
  refine r_bipush (μ := mX0_becomeAs) (pc := 78) (v := nI 40) dX0_becomeAs_78 rfl ?_
  refine r_copy (μ := mX0_becomeAs) (pc := 80) (a := 0) (b := 0) (n := 40) dX0_becomeAs_80 cpX0_31.1 cpX0_31.2.1 cpX0_31.2.2.1 cpX0_31.2.2.2 (de_k5 hD1) (de_k5 hD0) rfl rfl rfl (by rw [de_l5 hD1]; omega) (by rw [de_l5 hD0]; omega) (by rw [de_l5 hD1]; omega) (by rw [de_l5 hD0]; omega) (cat8 (n := 0) rfl (by decide)) ?_
  refine nm_S (fun S80 eS80 => ?_)
  have h := h S80 eS80
  exact r_vret (μ := mX0_becomeAs) (pc := 83) dX0_becomeAs_83 rfl h

set_option maxRecDepth 20000 in
theorem bX3_isMissing_0 {G : Gl} {l : Launch} {d : Nat} {S : Sg} {P : Int32 → Sg → Prop} (R0 : Nat) (hR0 : RowAt R0)
    (h : ∀ x4 : Int32, x4 = (if (nI 0) ≤ (S.1 R0 1) then (nI 0) else (nI 1)) → (P x4 S)) :
    Ct G l mX3_isMissing (d + 1) [.ref R0] S (QI P) := by
  show Ev G l mX3_isMissing (d + 1) 0 [some (.ref R0)] [] S (QI P)
  refine r_aload_n (μ := mX3_isMissing) (pc := 0) dX3_isMissing_0 rfl rfl ?_
  refine g_I (μ := mX3_isMissing) (pc := 1) fX3_9 dX3_isMissing_1 (ra_kd hR0) ?_
  have J4 : ∀ x4 : Int32, x4 = (if (nI 0) ≤ (S.1 R0 1) then (nI 0) else (nI 1)) → Ev G l mX3_isMissing (d + 1) 12 [some (.ref R0)] [.int x4] S (QI P) := by
    intro x4 e4
    have h := h x4 e4
    exact r_zret (μ := mX3_isMissing) (pc := 12) dX3_isMissing_12 rfl (by rw [e4]; exact (zb_if rfl rfl)) h
  refine r_if_ge (μ := mX3_isMissing) (pc := 4) (tgt := 11) dX3_isMissing_4 (by decide) ⟨fun q4 => ?_, fun q4 => ?_⟩
  · refine r_iconst (μ := mX3_isMissing) (pc := 11) (v := nI 0) dX3_isMissing_11 rfl ?_
    exact J4 _ (by first | (rw [if_pos q4]; done) | simp only [if_pos q4])
  · refine r_iconst (μ := mX3_isMissing) (pc := 7) (v := nI 1) dX3_isMissing_7 rfl ?_
    refine r_goto (μ := mX3_isMissing) (pc := 8) (tgt := 12) dX3_isMissing_8 (by decide) ?_
    exact J4 _ (by first | (rw [if_neg q4]; done) | simp only [if_neg q4])

set_option maxRecDepth 20000 in
theorem bX3_hasPlace_0 {G : Gl} {l : Launch} {d : Nat} {S : Sg} {P : Int32 → Sg → Prop} (R0 : Nat) (hR0 : RowAt R0) (i1 : Int32)
    (h : ∀ x1 : Int32, x1 = (if i1 < (nI 0) then (nI 0) else (if (S.1 R0 1) ≤ i1 then (nI 0) else (nI 1))) → (P x1 S)) :
    Ct G l mX3_hasPlace (d + 1) [.ref R0, .int i1] S (QI P) := by
  show Ev G l mX3_hasPlace (d + 1) 0 [some (.ref R0), some (.int i1)] [] S (QI P)
  refine r_iload_n (μ := mX3_hasPlace) (pc := 0) dX3_hasPlace_0 rfl rfl ?_
  have J1 : ∀ x1 : Int32, x1 = (if i1 < (nI 0) then (nI 0) else (if (S.1 R0 1) ≤ i1 then (nI 0) else (nI 1))) → Ev G l mX3_hasPlace (d + 1) 17 [some (.ref R0), some (.int i1)] [.int x1] S (QI P) := by
    intro x1 e1
    have h := h x1 e1
    exact r_zret (μ := mX3_hasPlace) (pc := 17) dX3_hasPlace_17 rfl (by rw [e1]; exact (zb_if rfl (zb_if rfl rfl))) h
  refine r_if_lt (μ := mX3_hasPlace) (pc := 1) (tgt := 16) dX3_hasPlace_1 (by decide) ⟨fun q1 => ?_, fun q1 => ?_⟩
  · refine r_iconst (μ := mX3_hasPlace) (pc := 16) (v := nI 0) dX3_hasPlace_16 rfl ?_
    exact J1 _ (by first | (rw [if_pos q1]; done) | simp only [if_pos q1])
  · refine r_iload_n (μ := mX3_hasPlace) (pc := 4) dX3_hasPlace_4 rfl rfl ?_
    refine r_aload_n (μ := mX3_hasPlace) (pc := 5) dX3_hasPlace_5 rfl rfl ?_
    refine g_I (μ := mX3_hasPlace) (pc := 6) fX3_9 dX3_hasPlace_6 (ra_kd hR0) ?_
    refine r_icmp_ge (μ := mX3_hasPlace) (pc := 9) (tgt := 16) dX3_hasPlace_9 (by decide) ⟨fun q9 => ?_, fun q9 => ?_⟩
    · refine r_iconst (μ := mX3_hasPlace) (pc := 16) (v := nI 0) dX3_hasPlace_16 rfl ?_
      exact J1 _ (by first | (rw [if_neg q1, if_pos q9]; done) | simp only [if_neg q1, if_pos q9])
    · refine r_iconst (μ := mX3_hasPlace) (pc := 12) (v := nI 1) dX3_hasPlace_12 rfl ?_
      refine r_goto (μ := mX3_hasPlace) (pc := 13) (tgt := 17) dX3_hasPlace_13 (by decide) ?_
      exact J1 _ (by first | (rw [if_neg q1, if_neg q9]; done) | simp only [if_neg q1, if_neg q9])

set_option maxRecDepth 20000 in
theorem bX3_hasRun_0 {G : Gl} {l : Launch} {d : Nat} {S : Sg} {P : Int32 → Sg → Prop} (R0 : Nat) (hR0 : RowAt R0) (i1 : Int32) (i2 : Int32)
    (h : ∀ x1 : Int32, x1 = (if i1 < (nI 0) then (nI 0) else (if (S.1 R0 1) < i1 then (nI 0) else (if i2 < (nI 0) then (nI 0) else (if ((S.1 R0 1) - i1) < i2 then (nI 0) else (nI 1))))) → (P x1 S)) :
    Ct G l mX3_hasRun (d + 1) [.ref R0, .int i1, .int i2] S (QI P) := by
  show Ev G l mX3_hasRun (d + 1) 0 [some (.ref R0), some (.int i1), some (.int i2)] [] S (QI P)
  refine r_iload_n (μ := mX3_hasRun) (pc := 0) dX3_hasRun_0 rfl rfl ?_
  have J1 : ∀ x1 : Int32, x1 = (if i1 < (nI 0) then (nI 0) else (if (S.1 R0 1) < i1 then (nI 0) else (if i2 < (nI 0) then (nI 0) else (if ((S.1 R0 1) - i1) < i2 then (nI 0) else (nI 1))))) → Ev G l mX3_hasRun (d + 1) 31 [some (.ref R0), some (.int i1), some (.int i2)] [.int x1] S (QI P) := by
    intro x1 e1
    have h := h x1 e1
    exact r_zret (μ := mX3_hasRun) (pc := 31) dX3_hasRun_31 rfl (by rw [e1]; exact (zb_if rfl (zb_if rfl (zb_if rfl (zb_if rfl rfl))))) h
  refine r_if_lt (μ := mX3_hasRun) (pc := 1) (tgt := 30) dX3_hasRun_1 (by decide) ⟨fun q1 => ?_, fun q1 => ?_⟩
  · refine r_iconst (μ := mX3_hasRun) (pc := 30) (v := nI 0) dX3_hasRun_30 rfl ?_
    exact J1 _ (by first | (rw [if_pos q1]; done) | simp only [if_pos q1])
  · refine r_iload_n (μ := mX3_hasRun) (pc := 4) dX3_hasRun_4 rfl rfl ?_
    refine r_aload_n (μ := mX3_hasRun) (pc := 5) dX3_hasRun_5 rfl rfl ?_
    refine g_I (μ := mX3_hasRun) (pc := 6) fX3_9 dX3_hasRun_6 (ra_kd hR0) ?_
    refine r_icmp_gt (μ := mX3_hasRun) (pc := 9) (tgt := 30) dX3_hasRun_9 (by decide) ⟨fun q9 => ?_, fun q9 => ?_⟩
    · refine r_iconst (μ := mX3_hasRun) (pc := 30) (v := nI 0) dX3_hasRun_30 rfl ?_
      exact J1 _ (by first | (rw [if_neg q1, if_pos q9]; done) | simp only [if_neg q1, if_pos q9])
    · refine r_iload_n (μ := mX3_hasRun) (pc := 12) dX3_hasRun_12 rfl rfl ?_
      refine r_if_lt (μ := mX3_hasRun) (pc := 13) (tgt := 30) dX3_hasRun_13 (by decide) ⟨fun q13 => ?_, fun q13 => ?_⟩
      · refine r_iconst (μ := mX3_hasRun) (pc := 30) (v := nI 0) dX3_hasRun_30 rfl ?_
        exact J1 _ (by first | (rw [if_neg q1, if_neg q9, if_pos q13]; done) | simp only [if_neg q1, if_neg q9, if_pos q13])
      · refine r_iload_n (μ := mX3_hasRun) (pc := 16) dX3_hasRun_16 rfl rfl ?_
        refine r_aload_n (μ := mX3_hasRun) (pc := 17) dX3_hasRun_17 rfl rfl ?_
        refine g_I (μ := mX3_hasRun) (pc := 18) fX3_9 dX3_hasRun_18 (ra_kd hR0) ?_
        refine r_iload_n (μ := mX3_hasRun) (pc := 21) dX3_hasRun_21 rfl rfl ?_
        refine r_isub (μ := mX3_hasRun) (pc := 22) dX3_hasRun_22 ?_
        refine r_icmp_gt (μ := mX3_hasRun) (pc := 23) (tgt := 30) dX3_hasRun_23 (by decide) ⟨fun q23 => ?_, fun q23 => ?_⟩
        · refine r_iconst (μ := mX3_hasRun) (pc := 30) (v := nI 0) dX3_hasRun_30 rfl ?_
          exact J1 _ (by first | (rw [if_neg q1, if_neg q9, if_neg q13, if_pos q23]; done) | simp only [if_neg q1, if_neg q9, if_neg q13, if_pos q23])
        · refine r_iconst (μ := mX3_hasRun) (pc := 26) (v := nI 1) dX3_hasRun_26 rfl ?_
          refine r_goto (μ := mX3_hasRun) (pc := 27) (tgt := 31) dX3_hasRun_27 (by decide) ?_
          exact J1 _ (by first | (rw [if_neg q1, if_neg q9, if_neg q13, if_neg q23]; done) | simp only [if_neg q1, if_neg q9, if_neg q13, if_neg q23])

set_option maxRecDepth 20000 in
theorem bX3_layAnew_0 {G : Gl} {l : Launch} {d : Nat} {S : Sg} {P : Sg → Prop} (R0 : Nat) (hR0 : RowAt R0) (i1 : Int32) (i2 : Int32)
    (h : ∀ S14 : Sg, S14 = (u2 S.1 R0 1 (if (nI 0) < (if (nI (ln (R0 + 10))) < i1 then (nI (ln (R0 + 10))) else i1) then (if (nI (ln (R0 + 10))) < i1 then (nI (ln (R0 + 10))) else i1) else (nI 0)), S.2) → (Ev G l mX3_layAnew (d + 1) 19 [some (.ref R0), some (.int i1), some (.int i2), some (.int (nI 0))] [] S14 (QV P))) :
    Ct G l mX3_layAnew (d + 1) [.ref R0, .int i1, .int i2] S (QV P) := by
  show Ev G l mX3_layAnew (d + 1) 0 [some (.ref R0), some (.int i1), some (.int i2), none] [] S (QV P)
  refine r_aload_n (μ := mX3_layAnew) (pc := 0) dX3_layAnew_0 rfl rfl ?_
  refine r_iconst (μ := mX3_layAnew) (pc := 1) (v := nI 0) dX3_layAnew_1 rfl ?_
  refine r_iload_n (μ := mX3_layAnew) (pc := 2) dX3_layAnew_2 rfl rfl ?_
  refine r_aload_n (μ := mX3_layAnew) (pc := 3) dX3_layAnew_3 rfl rfl ?_
  refine g_R (μ := mX3_layAnew) (pc := 4) (k' := R0 + 10) fX3_13 dX3_layAnew_4 (ra_kd hR0) (ra_rf hR0) ?_
  refine r_alen (μ := mX3_layAnew) (pc := 7) dX3_layAnew_7 (by rw [(ra_k hR0)]; omega) rfl ?_
  refine r_mmin (μ := mX3_layAnew) (pc := 8) mwX3_17 dX3_layAnew_8 (cat8 (n := 2) rfl (by decide)) ?_
  refine r_mmax (μ := mX3_layAnew) (pc := 11) mwX3_23 dX3_layAnew_11 (cat8 (n := 1) rfl (by decide)) ?_
  refine p_I (μ := mX3_layAnew) (pc := 14) fX3_9 wfX3_9 dX3_layAnew_14 (ra_kd hR0) ?_
  refine nm_S (fun S14 eS14 => ?_)
  have h := h S14 eS14
  refine r_iconst (μ := mX3_layAnew) (pc := 17) (v := nI 0) dX3_layAnew_17 rfl ?_
  refine r_istore_n (μ := mX3_layAnew) (pc := 18) (ls' := [some (.ref R0), some (.int i1), some (.int i2), some (.int (nI 0))]) dX3_layAnew_18 rfl (Nat.le_of_ble_eq_true rfl) rfl rfl ?_
  exact h

set_option maxRecDepth 20000 in
theorem bX3_layAnew_19 {G : Gl} {l : Launch} {d : Nat} {S : Sg} {P : Sg → Prop} (R0 : Nat) (hR0 : RowAt R0) (i1 : Int32) (i2 : Int32) (i3 : Int32)
    (h : ((S.1 R0 1) ≤ i3 → P S) ∧ (¬ ((S.1 R0 1) ≤ i3) → ∃ n33 : Nat, ix i3 n33 (ln (R0 + 10)) ∧ ∀ S33 : Sg, S33 = (u2 S.1 (R0 + 10) n33 i2, S.2) → (Ev G l mX3_layAnew (d + 1) 19 [some (.ref R0), some (.int i1), some (.int i2), some (.int (i3 + (nI 1)))] [] S33 (QV P)))) :
    Ev G l mX3_layAnew (d + 1) 19 [some (.ref R0), some (.int i1), some (.int i2), some (.int i3)] [] S (QV P) := by
  show Ev G l mX3_layAnew (d + 1) 19 [some (.ref R0), some (.int i1), some (.int i2), some (.int i3)] [] S (QV P)
  refine r_iload_n (μ := mX3_layAnew) (pc := 19) dX3_layAnew_19 rfl rfl ?_
  refine r_aload_n (μ := mX3_layAnew) (pc := 20) dX3_layAnew_20 rfl rfl ?_
  refine g_I (μ := mX3_layAnew) (pc := 21) fX3_9 dX3_layAnew_21 (ra_kd hR0) ?_
  refine r_icmp_ge (μ := mX3_layAnew) (pc := 24) (tgt := 40) dX3_layAnew_24 (by decide) ⟨fun q24 => ?_, fun q24 => ?_⟩
  · have h := h.1 q24
    exact r_vret (μ := mX3_layAnew) (pc := 40) dX3_layAnew_40 rfl h
  · have h := h.2 q24
    refine r_aload_n (μ := mX3_layAnew) (pc := 27) dX3_layAnew_27 rfl rfl ?_
    refine g_R (μ := mX3_layAnew) (pc := 28) (k' := R0 + 10) fX3_13 dX3_layAnew_28 (ra_kd hR0) (ra_rf hR0) ?_
    refine r_iload_n (μ := mX3_layAnew) (pc := 31) dX3_layAnew_31 rfl rfl ?_
    refine r_iload_n (μ := mX3_layAnew) (pc := 32) dX3_layAnew_32 rfl rfl ?_
    obtain ⟨n33, hx33, h⟩ := h
    refine r_iast (μ := mX3_layAnew) (pc := 33) dX3_layAnew_33 (ra_k hR0) hx33 ?_
    refine nm_S (fun S33 eS33 => ?_)
    have h := h S33 eS33
    refine r_iinc (μ := mX3_layAnew) (pc := 34) (y := nI 1) (ls' := [some (.ref R0), some (.int i1), some (.int i2), some (.int (i3 + (nI 1)))]) dX3_layAnew_34 rfl rfl (Nat.le_of_ble_eq_true rfl) rfl rfl ?_
    refine r_goto (μ := mX3_layAnew) (pc := 37) (tgt := 19) dX3_layAnew_37 (by decide) ?_
    exact h

set_option maxRecDepth 20000 in
theorem bX3_sum_0 {G : Gl} {l : Launch} {d : Nat} {S : Sg} {P : Int64 → Sg → Prop} (R0 : Nat) (hR0 : RowAt R0)
    (h : Ev G l mX3_sum (d + 1) 4 [some (.ref R0), some (.long (lN 0)), none, some (.int (nI 0))] [] S (QL P)) :
    Ct G l mX3_sum (d + 1) [.ref R0] S (QL P) := by
  show Ev G l mX3_sum (d + 1) 0 [some (.ref R0), none, none, none] [] S (QL P)
  refine r_lconst (μ := mX3_sum) (pc := 0) (v := lN 0) dX3_sum_0 rfl ?_
  refine r_lstore_n (μ := mX3_sum) (pc := 1) (ls' := [some (.ref R0), some (.long (lN 0)), none, none]) dX3_sum_1 rfl (Nat.le_of_ble_eq_true rfl) rfl rfl ?_
  refine r_iconst (μ := mX3_sum) (pc := 2) (v := nI 0) dX3_sum_2 rfl ?_
  refine r_istore_n (μ := mX3_sum) (pc := 3) (ls' := [some (.ref R0), some (.long (lN 0)), none, some (.int (nI 0))]) dX3_sum_3 rfl (Nat.le_of_ble_eq_true rfl) rfl rfl ?_
  exact h

set_option maxRecDepth 20000 in
theorem bX3_sum_4 {G : Gl} {l : Launch} {d : Nat} {S : Sg} {P : Int64 → Sg → Prop} (R0 : Nat) (hR0 : RowAt R0) (j1 : Int64) (i3 : Int32)
    (h : ((S.1 R0 1) ≤ i3 → P j1 S) ∧ (¬ ((S.1 R0 1) ≤ i3) → ∃ n18 : Nat, ix i3 n18 (ln (R0 + 10)) ∧ (Ev G l mX3_sum (d + 1) 4 [some (.ref R0), some (.long (j1 + ((S.1 (R0 + 10) n18).toInt64))), none, some (.int (i3 + (nI 1)))] [] S (QL P)))) :
    Ev G l mX3_sum (d + 1) 4 [some (.ref R0), some (.long j1), none, some (.int i3)] [] S (QL P) := by
  show Ev G l mX3_sum (d + 1) 4 [some (.ref R0), some (.long j1), none, some (.int i3)] [] S (QL P)
  refine r_iload_n (μ := mX3_sum) (pc := 4) dX3_sum_4 rfl rfl ?_
  refine r_aload_n (μ := mX3_sum) (pc := 5) dX3_sum_5 rfl rfl ?_
  refine g_I (μ := mX3_sum) (pc := 6) fX3_9 dX3_sum_6 (ra_kd hR0) ?_
  refine r_icmp_ge (μ := mX3_sum) (pc := 9) (tgt := 28) dX3_sum_9 (by decide) ⟨fun q9 => ?_, fun q9 => ?_⟩
  · have h := h.1 q9
    refine r_lload_n (μ := mX3_sum) (pc := 28) dX3_sum_28 rfl rfl ?_
    exact r_lret (μ := mX3_sum) (pc := 29) dX3_sum_29 rfl h
  · have h := h.2 q9
    refine r_lload_n (μ := mX3_sum) (pc := 12) dX3_sum_12 rfl rfl ?_
    refine r_aload_n (μ := mX3_sum) (pc := 13) dX3_sum_13 rfl rfl ?_
    refine g_R (μ := mX3_sum) (pc := 14) (k' := R0 + 10) fX3_13 dX3_sum_14 (ra_kd hR0) (ra_rf hR0) ?_
    refine r_iload_n (μ := mX3_sum) (pc := 17) dX3_sum_17 rfl rfl ?_
    obtain ⟨n18, hx18, h⟩ := h
    refine r_iald (μ := mX3_sum) (pc := 18) dX3_sum_18 (ra_k hR0) hx18 ?_
    refine r_i2l (μ := mX3_sum) (pc := 19) dX3_sum_19 ?_
    refine r_ladd (μ := mX3_sum) (pc := 20) dX3_sum_20 ?_
    refine r_lstore_n (μ := mX3_sum) (pc := 21) (ls' := [some (.ref R0), some (.long (j1 + ((S.1 (R0 + 10) n18).toInt64))), none, some (.int i3)]) dX3_sum_21 rfl (Nat.le_of_ble_eq_true rfl) rfl rfl ?_
    refine r_iinc (μ := mX3_sum) (pc := 22) (y := nI 1) (ls' := [some (.ref R0), some (.long (j1 + ((S.1 (R0 + 10) n18).toInt64))), none, some (.int (i3 + (nI 1)))]) dX3_sum_22 rfl rfl (Nat.le_of_ble_eq_true rfl) rfl rfl ?_
    refine r_goto (μ := mX3_sum) (pc := 25) (tgt := 4) dX3_sum_25 (by decide) ?_
    exact h

set_option maxRecDepth 20000 in
theorem bX3_digestOn_0 {G : Gl} {l : Launch} {d : Nat} {S : Sg} {P : Int64 → Sg → Prop} (R0 : Nat) (hR0 : RowAt R0) (j1 : Int64)
    (h : Ev G l mX3_digestOn (d + 1) 15 [some (.ref R0), some (.long j1), none, some (.long (((lN 31) * j1) + ((S.1 R0 1).toInt64))), none, some (.int (nI 0))] [] S (QL P)) :
    Ct G l mX3_digestOn (d + 1) [.ref R0, .long j1] S (QL P) := by
  show Ev G l mX3_digestOn (d + 1) 0 [some (.ref R0), some (.long j1), none, none, none, none] [] S (QL P)
  refine r_ldc2 (μ := mX3_digestOn) (pc := 0) (v := lN 31) dX3_digestOn_0 kX3_26 ?_
  refine r_lload_n (μ := mX3_digestOn) (pc := 3) dX3_digestOn_3 rfl rfl ?_
  refine r_lmul (μ := mX3_digestOn) (pc := 4) dX3_digestOn_4 ?_
  refine r_aload_n (μ := mX3_digestOn) (pc := 5) dX3_digestOn_5 rfl rfl ?_
  refine g_I (μ := mX3_digestOn) (pc := 6) fX3_9 dX3_digestOn_6 (ra_kd hR0) ?_
  refine r_i2l (μ := mX3_digestOn) (pc := 9) dX3_digestOn_9 ?_
  refine r_ladd (μ := mX3_digestOn) (pc := 10) dX3_digestOn_10 ?_
  refine r_lstore_n (μ := mX3_digestOn) (pc := 11) (ls' := [some (.ref R0), some (.long j1), none, some (.long (((lN 31) * j1) + ((S.1 R0 1).toInt64))), none, none]) dX3_digestOn_11 rfl (Nat.le_of_ble_eq_true rfl) rfl rfl ?_
  refine r_iconst (μ := mX3_digestOn) (pc := 12) (v := nI 0) dX3_digestOn_12 rfl ?_
  refine r_istore (μ := mX3_digestOn) (pc := 13) (ls' := [some (.ref R0), some (.long j1), none, some (.long (((lN 31) * j1) + ((S.1 R0 1).toInt64))), none, some (.int (nI 0))]) dX3_digestOn_13 (Nat.le_of_ble_eq_true rfl) rfl rfl ?_
  exact h

set_option maxRecDepth 20000 in
theorem bX3_digestOn_15 {G : Gl} {l : Launch} {d : Nat} {S : Sg} {P : Int64 → Sg → Prop} (R0 : Nat) (hR0 : RowAt R0) (j1 : Int64) (j3 : Int64) (i5 : Int32)
    (h : ((S.1 R0 1) ≤ i5 → P j3 S) ∧ (¬ ((S.1 R0 1) ≤ i5) → ∃ n35 : Nat, ix i5 n35 (ln (R0 + 10)) ∧ (Ev G l mX3_digestOn (d + 1) 15 [some (.ref R0), some (.long j1), none, some (.long (((lN 31) * j3) + ((S.1 (R0 + 10) n35).toInt64))), none, some (.int (i5 + (nI 1)))] [] S (QL P)))) :
    Ev G l mX3_digestOn (d + 1) 15 [some (.ref R0), some (.long j1), none, some (.long j3), none, some (.int i5)] [] S (QL P) := by
  show Ev G l mX3_digestOn (d + 1) 15 [some (.ref R0), some (.long j1), none, some (.long j3), none, some (.int i5)] [] S (QL P)
  refine r_iload (μ := mX3_digestOn) (pc := 15) dX3_digestOn_15 rfl ?_
  refine r_aload_n (μ := mX3_digestOn) (pc := 17) dX3_digestOn_17 rfl rfl ?_
  refine g_I (μ := mX3_digestOn) (pc := 18) fX3_9 dX3_digestOn_18 (ra_kd hR0) ?_
  refine r_icmp_ge (μ := mX3_digestOn) (pc := 21) (tgt := 45) dX3_digestOn_21 (by decide) ⟨fun q21 => ?_, fun q21 => ?_⟩
  · have h := h.1 q21
    refine r_lload_n (μ := mX3_digestOn) (pc := 45) dX3_digestOn_45 rfl rfl ?_
    exact r_lret (μ := mX3_digestOn) (pc := 46) dX3_digestOn_46 rfl h
  · have h := h.2 q21
    refine r_ldc2 (μ := mX3_digestOn) (pc := 24) (v := lN 31) dX3_digestOn_24 kX3_26 ?_
    refine r_lload_n (μ := mX3_digestOn) (pc := 27) dX3_digestOn_27 rfl rfl ?_
    refine r_lmul (μ := mX3_digestOn) (pc := 28) dX3_digestOn_28 ?_
    refine r_aload_n (μ := mX3_digestOn) (pc := 29) dX3_digestOn_29 rfl rfl ?_
    refine g_R (μ := mX3_digestOn) (pc := 30) (k' := R0 + 10) fX3_13 dX3_digestOn_30 (ra_kd hR0) (ra_rf hR0) ?_
    refine r_iload (μ := mX3_digestOn) (pc := 33) dX3_digestOn_33 rfl ?_
    obtain ⟨n35, hx35, h⟩ := h
    refine r_iald (μ := mX3_digestOn) (pc := 35) dX3_digestOn_35 (ra_k hR0) hx35 ?_
    refine r_i2l (μ := mX3_digestOn) (pc := 36) dX3_digestOn_36 ?_
    refine r_ladd (μ := mX3_digestOn) (pc := 37) dX3_digestOn_37 ?_
    refine r_lstore_n (μ := mX3_digestOn) (pc := 38) (ls' := [some (.ref R0), some (.long j1), none, some (.long (((lN 31) * j3) + ((S.1 (R0 + 10) n35).toInt64))), none, some (.int i5)]) dX3_digestOn_38 rfl (Nat.le_of_ble_eq_true rfl) rfl rfl ?_
    refine r_iinc (μ := mX3_digestOn) (pc := 39) (y := nI 1) (ls' := [some (.ref R0), some (.long j1), none, some (.long (((lN 31) * j3) + ((S.1 (R0 + 10) n35).toInt64))), none, some (.int (i5 + (nI 1)))]) dX3_digestOn_39 rfl rfl (Nat.le_of_ble_eq_true rfl) rfl rfl ?_
    refine r_goto (μ := mX3_digestOn) (pc := 42) (tgt := 15) dX3_digestOn_42 (by decide) ?_
    exact h

set_option maxRecDepth 20000 in
theorem bJ6_bitCount_0f7a4_0 {G : Gl} {l : Launch} {d : Nat} {S : Sg} {P : Int32 → Sg → Prop} (i0 : Int32)
    (h : ∀ v9 : Int32, v9 = (i0 - ((((i0).toUInt32 >>> (((nI 1) : Int32).toUInt32 &&& Int32.toUInt32 31)).toInt32) &&& (nI 1431655765))) → (∀ v23 : Int32, v23 = ((v9 &&& (nI 858993459)) + ((((v9).toUInt32 >>> (((nI 2) : Int32).toUInt32 &&& Int32.toUInt32 31)).toInt32) &&& (nI 858993459))) → (∀ v33 : Int32, v33 = ((v23 + (((v23).toUInt32 >>> (((nI 4) : Int32).toUInt32 &&& Int32.toUInt32 31)).toInt32)) &&& (nI 252645135)) → (∀ v40 : Int32, v40 = (v33 + (((v33).toUInt32 >>> (((nI 8) : Int32).toUInt32 &&& Int32.toUInt32 31)).toInt32)) → (∀ v47 : Int32, v47 = (v40 + (((v40).toUInt32 >>> (((nI 16) : Int32).toUInt32 &&& Int32.toUInt32 31)).toInt32)) → (P (v47 &&& (nI 63)) S)))))) :
    Ct G l mJ6_bitCount_0f7a4 (d + 1) [.int i0] S (QI P) := by
  show Ev G l mJ6_bitCount_0f7a4 (d + 1) 0 [some (.int i0)] [] S (QI P)
  refine r_iload_n (μ := mJ6_bitCount_0f7a4) (pc := 0) dJ6_bitCount_0f7a4_0 rfl rfl ?_
  refine r_iload_n (μ := mJ6_bitCount_0f7a4) (pc := 1) dJ6_bitCount_0f7a4_1 rfl rfl ?_
  refine r_iconst (μ := mJ6_bitCount_0f7a4) (pc := 2) (v := nI 1) dJ6_bitCount_0f7a4_2 rfl ?_
  refine r_iushr (μ := mJ6_bitCount_0f7a4) (pc := 3) dJ6_bitCount_0f7a4_3 ?_
  refine r_ldcw (μ := mJ6_bitCount_0f7a4) (pc := 4) (v := nI 1431655765) dJ6_bitCount_0f7a4_4 kJ6_265 ?_
  refine r_iand (μ := mJ6_bitCount_0f7a4) (pc := 7) dJ6_bitCount_0f7a4_7 ?_
  refine r_isub (μ := mJ6_bitCount_0f7a4) (pc := 8) dJ6_bitCount_0f7a4_8 ?_
  refine nm_i (fun v9 ev9 => ?_)
  have h := h v9 ev9
  refine r_istore_n (μ := mJ6_bitCount_0f7a4) (pc := 9) (ls' := [some (.int v9)]) dJ6_bitCount_0f7a4_9 rfl (Nat.le_of_ble_eq_true rfl) rfl rfl ?_
  refine r_iload_n (μ := mJ6_bitCount_0f7a4) (pc := 10) dJ6_bitCount_0f7a4_10 rfl rfl ?_
  refine r_ldcw (μ := mJ6_bitCount_0f7a4) (pc := 11) (v := nI 858993459) dJ6_bitCount_0f7a4_11 kJ6_266 ?_
  refine r_iand (μ := mJ6_bitCount_0f7a4) (pc := 14) dJ6_bitCount_0f7a4_14 ?_
  refine r_iload_n (μ := mJ6_bitCount_0f7a4) (pc := 15) dJ6_bitCount_0f7a4_15 rfl rfl ?_
  refine r_iconst (μ := mJ6_bitCount_0f7a4) (pc := 16) (v := nI 2) dJ6_bitCount_0f7a4_16 rfl ?_
  refine r_iushr (μ := mJ6_bitCount_0f7a4) (pc := 17) dJ6_bitCount_0f7a4_17 ?_
  refine r_ldcw (μ := mJ6_bitCount_0f7a4) (pc := 18) (v := nI 858993459) dJ6_bitCount_0f7a4_18 kJ6_266 ?_
  refine r_iand (μ := mJ6_bitCount_0f7a4) (pc := 21) dJ6_bitCount_0f7a4_21 ?_
  refine r_iadd (μ := mJ6_bitCount_0f7a4) (pc := 22) dJ6_bitCount_0f7a4_22 ?_
  refine nm_i (fun v23 ev23 => ?_)
  have h := h v23 ev23
  refine r_istore_n (μ := mJ6_bitCount_0f7a4) (pc := 23) (ls' := [some (.int v23)]) dJ6_bitCount_0f7a4_23 rfl (Nat.le_of_ble_eq_true rfl) rfl rfl ?_
  refine r_iload_n (μ := mJ6_bitCount_0f7a4) (pc := 24) dJ6_bitCount_0f7a4_24 rfl rfl ?_
  refine r_iload_n (μ := mJ6_bitCount_0f7a4) (pc := 25) dJ6_bitCount_0f7a4_25 rfl rfl ?_
  refine r_iconst (μ := mJ6_bitCount_0f7a4) (pc := 26) (v := nI 4) dJ6_bitCount_0f7a4_26 rfl ?_
  refine r_iushr (μ := mJ6_bitCount_0f7a4) (pc := 27) dJ6_bitCount_0f7a4_27 ?_
  refine r_iadd (μ := mJ6_bitCount_0f7a4) (pc := 28) dJ6_bitCount_0f7a4_28 ?_
  refine r_ldcw (μ := mJ6_bitCount_0f7a4) (pc := 29) (v := nI 252645135) dJ6_bitCount_0f7a4_29 kJ6_267 ?_
  refine r_iand (μ := mJ6_bitCount_0f7a4) (pc := 32) dJ6_bitCount_0f7a4_32 ?_
  refine nm_i (fun v33 ev33 => ?_)
  have h := h v33 ev33
  refine r_istore_n (μ := mJ6_bitCount_0f7a4) (pc := 33) (ls' := [some (.int v33)]) dJ6_bitCount_0f7a4_33 rfl (Nat.le_of_ble_eq_true rfl) rfl rfl ?_
  refine r_iload_n (μ := mJ6_bitCount_0f7a4) (pc := 34) dJ6_bitCount_0f7a4_34 rfl rfl ?_
  refine r_iload_n (μ := mJ6_bitCount_0f7a4) (pc := 35) dJ6_bitCount_0f7a4_35 rfl rfl ?_
  refine r_bipush (μ := mJ6_bitCount_0f7a4) (pc := 36) (v := nI 8) dJ6_bitCount_0f7a4_36 rfl ?_
  refine r_iushr (μ := mJ6_bitCount_0f7a4) (pc := 38) dJ6_bitCount_0f7a4_38 ?_
  refine r_iadd (μ := mJ6_bitCount_0f7a4) (pc := 39) dJ6_bitCount_0f7a4_39 ?_
  refine nm_i (fun v40 ev40 => ?_)
  have h := h v40 ev40
  refine r_istore_n (μ := mJ6_bitCount_0f7a4) (pc := 40) (ls' := [some (.int v40)]) dJ6_bitCount_0f7a4_40 rfl (Nat.le_of_ble_eq_true rfl) rfl rfl ?_
  refine r_iload_n (μ := mJ6_bitCount_0f7a4) (pc := 41) dJ6_bitCount_0f7a4_41 rfl rfl ?_
  refine r_iload_n (μ := mJ6_bitCount_0f7a4) (pc := 42) dJ6_bitCount_0f7a4_42 rfl rfl ?_
  refine r_bipush (μ := mJ6_bitCount_0f7a4) (pc := 43) (v := nI 16) dJ6_bitCount_0f7a4_43 rfl ?_
  refine r_iushr (μ := mJ6_bitCount_0f7a4) (pc := 45) dJ6_bitCount_0f7a4_45 ?_
  refine r_iadd (μ := mJ6_bitCount_0f7a4) (pc := 46) dJ6_bitCount_0f7a4_46 ?_
  refine nm_i (fun v47 ev47 => ?_)
  have h := h v47 ev47
  refine r_istore_n (μ := mJ6_bitCount_0f7a4) (pc := 47) (ls' := [some (.int v47)]) dJ6_bitCount_0f7a4_47 rfl (Nat.le_of_ble_eq_true rfl) rfl rfl ?_
  refine r_iload_n (μ := mJ6_bitCount_0f7a4) (pc := 48) dJ6_bitCount_0f7a4_48 rfl rfl ?_
  refine r_bipush (μ := mJ6_bitCount_0f7a4) (pc := 49) (v := nI 63) dJ6_bitCount_0f7a4_49 rfl ?_
  refine r_iand (μ := mJ6_bitCount_0f7a4) (pc := 51) dJ6_bitCount_0f7a4_51 ?_
  exact r_iret (μ := mJ6_bitCount_0f7a4) (pc := 52) dJ6_bitCount_0f7a4_52 rfl h

set_option maxRecDepth 20000 in
theorem bJ9_floorMod_7cf53_0 {G : Gl} {l : Launch} {d : Nat} {S : Sg} {P : Int32 → Sg → Prop} (i0 : Int32) (i1 : Int32)
    (h : (¬ i1 = 0) ∧ (((nI 0) ≤ (i0 ^^^ i1) → P (i0 - i0 / i1 * i1) S) ∧ (¬ ((nI 0) ≤ (i0 ^^^ i1)) → ((i0 - i0 / i1 * i1) = (nI 0) → P (i0 - i0 / i1 * i1) S) ∧ (¬ ((i0 - i0 / i1 * i1) = (nI 0)) → P ((i0 - i0 / i1 * i1) + i1) S)))) :
    Ct G l mJ9_floorMod_7cf53 (d + 1) [.int i0, .int i1] S (QI P) := by
  show Ev G l mJ9_floorMod_7cf53 (d + 1) 0 [some (.int i0), some (.int i1), none] [] S (QI P)
  refine r_iload_n (μ := mJ9_floorMod_7cf53) (pc := 0) dJ9_floorMod_7cf53_0 rfl rfl ?_
  refine r_iload_n (μ := mJ9_floorMod_7cf53) (pc := 1) dJ9_floorMod_7cf53_1 rfl rfl ?_
  obtain ⟨hz2, h⟩ := h
  refine r_irem (μ := mJ9_floorMod_7cf53) (pc := 2) dJ9_floorMod_7cf53_2 hz2 ?_
  refine r_istore_n (μ := mJ9_floorMod_7cf53) (pc := 3) (ls' := [some (.int i0), some (.int i1), some (.int (i0 - i0 / i1 * i1))]) dJ9_floorMod_7cf53_3 rfl (Nat.le_of_ble_eq_true rfl) rfl rfl ?_
  refine r_iload_n (μ := mJ9_floorMod_7cf53) (pc := 4) dJ9_floorMod_7cf53_4 rfl rfl ?_
  refine r_iload_n (μ := mJ9_floorMod_7cf53) (pc := 5) dJ9_floorMod_7cf53_5 rfl rfl ?_
  refine r_ixor (μ := mJ9_floorMod_7cf53) (pc := 6) dJ9_floorMod_7cf53_6 ?_
  refine r_if_ge (μ := mJ9_floorMod_7cf53) (pc := 7) (tgt := 18) dJ9_floorMod_7cf53_7 (by decide) ⟨fun q7 => ?_, fun q7 => ?_⟩
  · have h := h.1 q7
    refine r_iload_n (μ := mJ9_floorMod_7cf53) (pc := 18) dJ9_floorMod_7cf53_18 rfl rfl ?_
    exact r_iret (μ := mJ9_floorMod_7cf53) (pc := 19) dJ9_floorMod_7cf53_19 rfl h
  · have h := h.2 q7
    refine r_iload_n (μ := mJ9_floorMod_7cf53) (pc := 10) dJ9_floorMod_7cf53_10 rfl rfl ?_
    refine r_if_eq (μ := mJ9_floorMod_7cf53) (pc := 11) (tgt := 18) dJ9_floorMod_7cf53_11 (by decide) ⟨fun q11 => ?_, fun q11 => ?_⟩
    · have h := h.1 q11
      refine r_iload_n (μ := mJ9_floorMod_7cf53) (pc := 18) dJ9_floorMod_7cf53_18 rfl rfl ?_
      exact r_iret (μ := mJ9_floorMod_7cf53) (pc := 19) dJ9_floorMod_7cf53_19 rfl h
    · have h := h.2 q11
      refine r_iload_n (μ := mJ9_floorMod_7cf53) (pc := 14) dJ9_floorMod_7cf53_14 rfl rfl ?_
      refine r_iload_n (μ := mJ9_floorMod_7cf53) (pc := 15) dJ9_floorMod_7cf53_15 rfl rfl ?_
      refine r_iadd (μ := mJ9_floorMod_7cf53) (pc := 16) dJ9_floorMod_7cf53_16 ?_
      exact r_iret (μ := mJ9_floorMod_7cf53) (pc := 17) dJ9_floorMod_7cf53_17 rfl h

