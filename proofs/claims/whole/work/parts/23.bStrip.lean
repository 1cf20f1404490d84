set_option maxRecDepth 20000 in
theorem bX4_row_0 {G : Gl} {l : Launch} {d : Nat} {S : Sg} {P : Int32 → Sg → Prop} (i1 : Int32) (i2 : Int32)
    (h : Ct G l mX4_isRow d [.int i1] S (QI (fun r1 T1 => (r1 = (nI 0) → P (-1) T1) ∧ (¬ (r1 = (nI 0)) → (i2 ≤ (nI 40) → ((nI 0) ≤ i2 → ∃ n30 : Nat, ix i1 n30 6 ∧ (Ct G l mX3_layAnew d [.ref (8 + n30), .int i2, .int (nI 0)] T1 (QV (fun T33 => P i2 T33)))) ∧ (¬ ((nI 0) ≤ i2) → Ct G l mX4_refuse d [.ref 0, .int (nI 5)] T1 (QI (fun r21 T21 => P r21 T21)))) ∧ (¬ (i2 ≤ (nI 40)) → P (-1) T1))))) :
    Ct G l mX4_row (d + 1) [.ref 0, .int i1, .int i2] S (QI P) := by
  show Ev G l mX4_row (d + 1) 0 [some (.ref 0), some (.int i1), some (.int i2)] [] S (QI P)
  refine r_iload_n (μ := mX4_row) (pc := 0) dX4_row_0 rfl rfl ?_
  refine r_callS (μ := mX4_row) (pc := 1) (as := [.int i1]) cX4_63 dX4_row_1 rfl okX4_isRow (Nat.lt_succ_self d) (cat8 (n := 0) rfl (by decide)) rfl h (k_I (fun r1 T1 h => ?_))
  refine r_if_eq (μ := mX4_row) (pc := 4) (tgt := 13) dX4_row_4 (by decide) ⟨fun q4 => ?_, fun q4 => ?_⟩
  · have h := h.1 q4
    refine r_iconst (μ := mX4_row) (pc := 13) (v := (-1)) dX4_row_13 rfl ?_
    exact r_iret (μ := mX4_row) (pc := 14) dX4_row_14 rfl h
  · have h := h.2 q4
    refine r_iload_n (μ := mX4_row) (pc := 7) dX4_row_7 rfl rfl ?_
    refine r_bipush (μ := mX4_row) (pc := 8) (v := nI 40) dX4_row_8 rfl ?_
    refine r_icmp_le (μ := mX4_row) (pc := 10) (tgt := 15) dX4_row_10 (by decide) ⟨fun q10 => ?_, fun q10 => ?_⟩
    · have h := h.1 q10
      refine r_iload_n (μ := mX4_row) (pc := 15) dX4_row_15 rfl rfl ?_
      refine r_if_ge (μ := mX4_row) (pc := 16) (tgt := 25) dX4_row_16 (by decide) ⟨fun q16 => ?_, fun q16 => ?_⟩
      · have h := h.1 q16
        refine r_aload_n (μ := mX4_row) (pc := 25) dX4_row_25 rfl rfl ?_
        refine g_R (μ := mX4_row) (pc := 26) (k' := 1) fX4_11 dX4_row_26 rfl rfl ?_
        refine r_iload_n (μ := mX4_row) (pc := 29) dX4_row_29 rfl rfl ?_
        obtain ⟨n30, hx30, h⟩ := h
        refine r_aald (μ := mX4_row) (pc := 30) (k' := 8 + n30) dX4_row_30 (Or.inl rfl) hx30 rfl ?_
        refine r_iload_n (μ := mX4_row) (pc := 31) dX4_row_31 rfl rfl ?_
        refine r_iconst (μ := mX4_row) (pc := 32) (v := nI 0) dX4_row_32 rfl ?_
        refine r_callV (μ := mX4_row) (pc := 33) (as := [.int i2, .int (nI 0)]) 3 cX4_71 dX4_row_33 rfl (ra_kd (ra_1 hx30)) (Nat.le_of_ble_eq_true rfl) rfl okX3_layAnew (Nat.lt_succ_self d) (cat8 (n := 0) rfl (by decide)) rfl h (k_V (fun T33 h => ?_))
        refine r_iload_n (μ := mX4_row) (pc := 36) dX4_row_36 rfl rfl ?_
        exact r_iret (μ := mX4_row) (pc := 37) dX4_row_37 rfl h
      · have h := h.2 q16
        refine r_aload_n (μ := mX4_row) (pc := 19) dX4_row_19 rfl rfl ?_
        refine r_iconst (μ := mX4_row) (pc := 20) (v := nI 5) dX4_row_20 rfl ?_
        refine r_callV (μ := mX4_row) (pc := 21) (as := [.int (nI 5)]) 4 cX4_67 dX4_row_21 rfl rfl (Nat.le_of_ble_eq_true rfl) rfl okX4_refuse (Nat.lt_succ_self d) (cat8 (n := 0) rfl (by decide)) rfl h (k_I (fun r21 T21 h => ?_))
        exact r_iret (μ := mX4_row) (pc := 24) dX4_row_24 rfl h
    · have h := h.2 q10
      refine r_iconst (μ := mX4_row) (pc := 13) (v := (-1)) dX4_row_13 rfl ?_
      exact r_iret (μ := mX4_row) (pc := 14) dX4_row_14 rfl h

set_option maxRecDepth 20000 in
theorem bX4_lay_0 {G : Gl} {l : Launch} {d : Nat} {S : Sg} {P : Int32 → Sg → Prop} (i1 : Int32) (i2 : Int32) (i3 : Int32)
    (h : Ct G l mX4_refusePlace d [.ref 0, .ref 1, .int i1, .int i2] S (QI (fun r7 T7 => (r7 = (nI 0) → ∃ n26 : Nat, ix i1 n26 6 ∧ (∃ n31 : Nat, ix i2 n31 (ln (8 + n26 + 10)) ∧ (∀ S32 : Sg, S32 = (u2 T7.1 0 9 (T7.1 (8 + n26 + 10) n31), T7.2) → (∀ S46 : Sg, S46 = (u2 S32.1 (8 + n26 + 10) n31 i3, S32.2) → (P (nI 1) S46))))) ∧ (¬ (r7 = (nI 0)) → P r7 T7)))) :
    Ct G l mX4_lay (d + 1) [.ref 0, .int i1, .int i2, .int i3] S (QI P) := by
  show Ev G l mX4_lay (d + 1) 0 [some (.ref 0), some (.int i1), some (.int i2), some (.int i3), none] [] S (QI P)
  refine r_aload_n (μ := mX4_lay) (pc := 0) dX4_lay_0 rfl rfl ?_
  refine r_aload_n (μ := mX4_lay) (pc := 1) dX4_lay_1 rfl rfl ?_
  refine g_R (μ := mX4_lay) (pc := 2) (k' := 1) fX4_11 dX4_lay_2 rfl rfl ?_
  refine r_iload_n (μ := mX4_lay) (pc := 5) dX4_lay_5 rfl rfl ?_
  refine r_iload_n (μ := mX4_lay) (pc := 6) dX4_lay_6 rfl rfl ?_
  refine r_callV (μ := mX4_lay) (pc := 7) (as := [.ref 1, .int i1, .int i2]) 4 cX4_75 dX4_lay_7 rfl rfl (Nat.le_of_ble_eq_true rfl) rfl okX4_refusePlace (Nat.lt_succ_self d) (cat8 (n := 0) rfl (by decide)) rfl h (k_I (fun r7 T7 h => ?_))
  refine r_istore (μ := mX4_lay) (pc := 10) (ls' := [some (.ref 0), some (.int i1), some (.int i2), some (.int i3), some (.int r7)]) dX4_lay_10 (Nat.le_of_ble_eq_true rfl) rfl rfl ?_
  refine r_iload (μ := mX4_lay) (pc := 12) dX4_lay_12 rfl ?_
  refine r_if_eq (μ := mX4_lay) (pc := 14) (tgt := 20) dX4_lay_14 (by decide) ⟨fun q14 => ?_, fun q14 => ?_⟩
  · have h := h.1 q14
    refine r_aload_n (μ := mX4_lay) (pc := 20) dX4_lay_20 rfl rfl ?_
    refine r_aload_n (μ := mX4_lay) (pc := 21) dX4_lay_21 rfl rfl ?_
    refine g_R (μ := mX4_lay) (pc := 22) (k' := 1) fX4_11 dX4_lay_22 rfl rfl ?_
    refine r_iload_n (μ := mX4_lay) (pc := 25) dX4_lay_25 rfl rfl ?_
    obtain ⟨n26, hx26, h⟩ := h
    refine r_aald (μ := mX4_lay) (pc := 26) (k' := 8 + n26) dX4_lay_26 (Or.inl rfl) hx26 rfl ?_
    refine g_R (μ := mX4_lay) (pc := 27) (k' := 8 + n26 + 10) fX4_79 dX4_lay_27 (ra_kd (ra_1 hx26)) (ra_rf (ra_1 hx26)) ?_
    refine r_iload_n (μ := mX4_lay) (pc := 30) dX4_lay_30 rfl rfl ?_
    obtain ⟨n31, hx31, h⟩ := h
    refine r_iald (μ := mX4_lay) (pc := 31) dX4_lay_31 (ra_k (ra_1 hx26)) hx31 ?_
    refine p_I (μ := mX4_lay) (pc := 32) fX4_50 wfX4_50 dX4_lay_32 rfl ?_
    refine nm_S (fun S32 eS32 => ?_)
    have h := h S32 eS32
    refine r_aload_n (μ := mX4_lay) (pc := 35) dX4_lay_35 rfl rfl ?_
    refine g_R (μ := mX4_lay) (pc := 36) (k' := 1) fX4_11 dX4_lay_36 rfl rfl ?_
    refine r_iload_n (μ := mX4_lay) (pc := 39) dX4_lay_39 rfl rfl ?_
    refine r_aald (μ := mX4_lay) (pc := 40) (k' := 8 + n26) dX4_lay_40 (Or.inl rfl) hx26 rfl ?_
    refine g_R (μ := mX4_lay) (pc := 41) (k' := 8 + n26 + 10) fX4_79 dX4_lay_41 (ra_kd (ra_1 hx26)) (ra_rf (ra_1 hx26)) ?_
    refine r_iload_n (μ := mX4_lay) (pc := 44) dX4_lay_44 rfl rfl ?_
    refine r_iload_n (μ := mX4_lay) (pc := 45) dX4_lay_45 rfl rfl ?_
    refine r_iast (μ := mX4_lay) (pc := 46) dX4_lay_46 (ra_k (ra_1 hx26)) hx31 ?_
    refine nm_S (fun S46 eS46 => ?_)
    have h := h S46 eS46
    refine r_iconst (μ := mX4_lay) (pc := 47) (v := nI 1) dX4_lay_47 rfl ?_
    exact r_iret (μ := mX4_lay) (pc := 48) dX4_lay_48 rfl h
  · have h := h.2 q14
    refine r_iload (μ := mX4_lay) (pc := 17) dX4_lay_17 rfl ?_
    exact r_iret (μ := mX4_lay) (pc := 19) dX4_lay_19 rfl h

set_option maxRecDepth 20000 in
theorem bX4_at_0 {G : Gl} {l : Launch} {d : Nat} {S : Sg} {P : Int32 → Sg → Prop} (i1 : Int32) (i2 : Int32)
    (h : Ct G l mX4_refusePlace d [.ref 0, .ref 1, .int i1, .int i2] S (QI (fun r7 T7 => (r7 = (nI 0) → ∃ n23 : Nat, ix i1 n23 6 ∧ (∃ n28 : Nat, ix i2 n28 (ln (8 + n23 + 10)) ∧ (∀ S29 : Sg, S29 = (u2 T7.1 0 9 (T7.1 (8 + n23 + 10) n28), T7.2) → (P (nI 1) S29)))) ∧ (¬ (r7 = (nI 0)) → P r7 T7)))) :
    Ct G l mX4_at (d + 1) [.ref 0, .int i1, .int i2] S (QI P) := by
  show Ev G l mX4_at (d + 1) 0 [some (.ref 0), some (.int i1), some (.int i2), none] [] S (QI P)
  refine r_aload_n (μ := mX4_at) (pc := 0) dX4_at_0 rfl rfl ?_
  refine r_aload_n (μ := mX4_at) (pc := 1) dX4_at_1 rfl rfl ?_
  refine g_R (μ := mX4_at) (pc := 2) (k' := 1) fX4_11 dX4_at_2 rfl rfl ?_
  refine r_iload_n (μ := mX4_at) (pc := 5) dX4_at_5 rfl rfl ?_
  refine r_iload_n (μ := mX4_at) (pc := 6) dX4_at_6 rfl rfl ?_
  refine r_callV (μ := mX4_at) (pc := 7) (as := [.ref 1, .int i1, .int i2]) 4 cX4_75 dX4_at_7 rfl rfl (Nat.le_of_ble_eq_true rfl) rfl okX4_refusePlace (Nat.lt_succ_self d) (cat8 (n := 0) rfl (by decide)) rfl h (k_I (fun r7 T7 h => ?_))
  refine r_istore_n (μ := mX4_at) (pc := 10) (ls' := [some (.ref 0), some (.int i1), some (.int i2), some (.int r7)]) dX4_at_10 rfl (Nat.le_of_ble_eq_true rfl) rfl rfl ?_
  refine r_iload_n (μ := mX4_at) (pc := 11) dX4_at_11 rfl rfl ?_
  refine r_if_eq (μ := mX4_at) (pc := 12) (tgt := 17) dX4_at_12 (by decide) ⟨fun q12 => ?_, fun q12 => ?_⟩
  · have h := h.1 q12
    refine r_aload_n (μ := mX4_at) (pc := 17) dX4_at_17 rfl rfl ?_
    refine r_aload_n (μ := mX4_at) (pc := 18) dX4_at_18 rfl rfl ?_
    refine g_R (μ := mX4_at) (pc := 19) (k' := 1) fX4_11 dX4_at_19 rfl rfl ?_
    refine r_iload_n (μ := mX4_at) (pc := 22) dX4_at_22 rfl rfl ?_
    obtain ⟨n23, hx23, h⟩ := h
    refine r_aald (μ := mX4_at) (pc := 23) (k' := 8 + n23) dX4_at_23 (Or.inl rfl) hx23 rfl ?_
    refine g_R (μ := mX4_at) (pc := 24) (k' := 8 + n23 + 10) fX4_79 dX4_at_24 (ra_kd (ra_1 hx23)) (ra_rf (ra_1 hx23)) ?_
    refine r_iload_n (μ := mX4_at) (pc := 27) dX4_at_27 rfl rfl ?_
    obtain ⟨n28, hx28, h⟩ := h
    refine r_iald (μ := mX4_at) (pc := 28) dX4_at_28 (ra_k (ra_1 hx23)) hx28 ?_
    refine p_I (μ := mX4_at) (pc := 29) fX4_50 wfX4_50 dX4_at_29 rfl ?_
    refine nm_S (fun S29 eS29 => ?_)
    have h := h S29 eS29
    refine r_iconst (μ := mX4_at) (pc := 32) (v := nI 1) dX4_at_32 rfl ?_
    exact r_iret (μ := mX4_at) (pc := 33) dX4_at_33 rfl h
  · have h := h.2 q12
    refine r_iload_n (μ := mX4_at) (pc := 15) dX4_at_15 rfl rfl ?_
    exact r_iret (μ := mX4_at) (pc := 16) dX4_at_16 rfl h

set_option maxRecDepth 20000 in
theorem bX4_tear_0 {G : Gl} {l : Launch} {d : Nat} {S : Sg} {P : Int32 → Sg → Prop} (i1 : Int32)
    (h : Ct G l mX4_refuseMissing d [.ref 0, .ref 1, .int i1] S (QI (fun r6 T6 => (r6 = (nI 0) → ∃ n21 : Nat, ix i1 n21 6 ∧ (∀ S23 : Sg, S23 = (u2 T6.1 (8 + n21) 1 (-1), T6.2) → (P (nI 1) S23))) ∧ (¬ (r6 = (nI 0)) → P r6 T6)))) :
    Ct G l mX4_tear (d + 1) [.ref 0, .int i1] S (QI P) := by
  show Ev G l mX4_tear (d + 1) 0 [some (.ref 0), some (.int i1), none] [] S (QI P)
  refine r_aload_n (μ := mX4_tear) (pc := 0) dX4_tear_0 rfl rfl ?_
  refine r_aload_n (μ := mX4_tear) (pc := 1) dX4_tear_1 rfl rfl ?_
  refine g_R (μ := mX4_tear) (pc := 2) (k' := 1) fX4_11 dX4_tear_2 rfl rfl ?_
  refine r_iload_n (μ := mX4_tear) (pc := 5) dX4_tear_5 rfl rfl ?_
  refine r_callV (μ := mX4_tear) (pc := 6) (as := [.ref 1, .int i1]) 4 cX4_82 dX4_tear_6 rfl rfl (Nat.le_of_ble_eq_true rfl) rfl okX4_refuseMissing (Nat.lt_succ_self d) (cat8 (n := 0) rfl (by decide)) rfl h (k_I (fun r6 T6 h => ?_))
  refine r_istore_n (μ := mX4_tear) (pc := 9) (ls' := [some (.ref 0), some (.int i1), some (.int r6)]) dX4_tear_9 rfl (Nat.le_of_ble_eq_true rfl) rfl rfl ?_
  refine r_iload_n (μ := mX4_tear) (pc := 10) dX4_tear_10 rfl rfl ?_
  refine r_if_eq (μ := mX4_tear) (pc := 11) (tgt := 16) dX4_tear_11 (by decide) ⟨fun q11 => ?_, fun q11 => ?_⟩
  · have h := h.1 q11
    refine r_aload_n (μ := mX4_tear) (pc := 16) dX4_tear_16 rfl rfl ?_
    refine g_R (μ := mX4_tear) (pc := 17) (k' := 1) fX4_11 dX4_tear_17 rfl rfl ?_
    refine r_iload_n (μ := mX4_tear) (pc := 20) dX4_tear_20 rfl rfl ?_
    obtain ⟨n21, hx21, h⟩ := h
    refine r_aald (μ := mX4_tear) (pc := 21) (k' := 8 + n21) dX4_tear_21 (Or.inl rfl) hx21 rfl ?_
    refine r_iconst (μ := mX4_tear) (pc := 22) (v := (-1)) dX4_tear_22 rfl ?_
    refine p_I (μ := mX4_tear) (pc := 23) fX4_86 wfX4_86 dX4_tear_23 (ra_kd (ra_1 hx21)) ?_
    refine nm_S (fun S23 eS23 => ?_)
    have h := h S23 eS23
    refine r_iconst (μ := mX4_tear) (pc := 26) (v := nI 1) dX4_tear_26 rfl ?_
    exact r_iret (μ := mX4_tear) (pc := 27) dX4_tear_27 rfl h
  · have h := h.2 q11
    refine r_iload_n (μ := mX4_tear) (pc := 14) dX4_tear_14 rfl rfl ?_
    exact r_iret (μ := mX4_tear) (pc := 15) dX4_tear_15 rfl h

set_option maxRecDepth 20000 in
theorem bX4_copy_0 {G : Gl} {l : Launch} {d : Nat} {S : Sg} {P : Int32 → Sg → Prop} (i1 : Int32) (i2 : Int32) (i3 : Int32) (i4 : Int32) (i5 : Int32)
    (h : Ct G l mX4_isRow d [.int i1] S (QI (fun r1 T1 => (r1 = (nI 0) → P (-1) T1) ∧ (¬ (r1 = (nI 0)) → Ct G l mX4_isRow d [.int i3] T1 (QI (fun r8 T8 => (¬ r8 = (nI 0) → ((nI 0) ≤ i5 → ∃ n32 : Nat, ix i1 n32 6 ∧ (Ct G l mX3_isMissing d [.ref (8 + n32)] T8 (QI (fun r33 T33 => (¬ r33 = (nI 0) → Ev G l mX4_copy (d + 1) 51 [some (.ref 0), some (.int i1), some (.int i2), some (.int i3), some (.int i4), some (.int i5)] [] T33 (QI P)) ∧ (r33 = (nI 0) → ∃ n44 : Nat, ix i3 n44 6 ∧ (Ct G l mX3_isMissing d [.ref (8 + n44)] T33 (QI (fun r45 T45 => (r45 = (nI 0) → Ct G l mX3_hasRun d [.ref (8 + n32), .int i2, .int i5] T45 (QI (fun r66 T66 => (r66 = (nI 0) → Ev G l mX4_copy (d + 1) 88 [some (.ref 0), some (.int i1), some (.int i2), some (.int i3), some (.int i4), some (.int i5)] [] T66 (QI P)) ∧ (¬ (r66 = (nI 0)) → Ct G l mX3_hasRun d [.ref (8 + n44), .int i4, .int i5] T66 (QI (fun r82 T82 => (¬ r82 = (nI 0) → ∃ a117 b117 n117 : Nat, i2 = nI a117 ∧ i4 = nI b117 ∧ i5 = nI n117 ∧ a117 + n117 ≤ ln (8 + n32 + 10) ∧ b117 + n117 ≤ ln (8 + n44 + 10) ∧ ∀ S117 : Sg, S117 = (u1 T82.1 (8 + n44 + 10) (va_cpy (T82.1 (8 + n32 + 10)) (T82.1 (8 + n44 + 10)) a117 b117 n117), T82.2) → (P (nI 1) S117)) ∧ (r82 = (nI 0) → Ev G l mX4_copy (d + 1) 88 [some (.ref 0), some (.int i1), some (.int i2), some (.int i3), some (.int i4), some (.int i5)] [] T82 (QI P)))))))) ∧ (¬ (r45 = (nI 0)) → Ev G l mX4_copy (d + 1) 51 [some (.ref 0), some (.int i1), some (.int i2), some (.int i3), some (.int i4), some (.int i5)] [] T45 (QI P)))))))))) ∧ (¬ ((nI 0) ≤ i5) → Ct G l mX4_refuse d [.ref 0, .int (nI 5)] T8 (QI (fun r23 T23 => P r23 T23)))) ∧ (r8 = (nI 0) → P (-1) T8))))))) :
    Ct G l mX4_copy (d + 1) [.ref 0, .int i1, .int i2, .int i3, .int i4, .int i5] S (QI P) := by
  show Ev G l mX4_copy (d + 1) 0 [some (.ref 0), some (.int i1), some (.int i2), some (.int i3), some (.int i4), some (.int i5)] [] S (QI P)
  refine r_iload_n (μ := mX4_copy) (pc := 0) dX4_copy_0 rfl rfl ?_
  refine r_callS (μ := mX4_copy) (pc := 1) (as := [.int i1]) cX4_63 dX4_copy_1 rfl okX4_isRow (Nat.lt_succ_self d) (cat8 (n := 0) rfl (by decide)) rfl h (k_I (fun r1 T1 h => ?_))
  refine r_if_eq (μ := mX4_copy) (pc := 4) (tgt := 14) dX4_copy_4 (by decide) ⟨fun q4 => ?_, fun q4 => ?_⟩
  · have h := h.1 q4
    refine r_iconst (μ := mX4_copy) (pc := 14) (v := (-1)) dX4_copy_14 rfl ?_
    exact r_iret (μ := mX4_copy) (pc := 15) dX4_copy_15 rfl h
  · have h := h.2 q4
    refine r_iload_n (μ := mX4_copy) (pc := 7) dX4_copy_7 rfl rfl ?_
    refine r_callS (μ := mX4_copy) (pc := 8) (as := [.int i3]) cX4_63 dX4_copy_8 rfl okX4_isRow (Nat.lt_succ_self d) (cat8 (n := 0) rfl (by decide)) rfl h (k_I (fun r8 T8 h => ?_))
    refine r_if_ne (μ := mX4_copy) (pc := 11) (tgt := 16) dX4_copy_11 (by decide) ⟨fun q11 => ?_, fun q11 => ?_⟩
    · have h := h.1 q11
      refine r_iload (μ := mX4_copy) (pc := 16) dX4_copy_16 rfl ?_
      refine r_if_ge (μ := mX4_copy) (pc := 18) (tgt := 27) dX4_copy_18 (by decide) ⟨fun q18 => ?_, fun q18 => ?_⟩
      · have h := h.1 q18
        refine r_aload_n (μ := mX4_copy) (pc := 27) dX4_copy_27 rfl rfl ?_
        refine g_R (μ := mX4_copy) (pc := 28) (k' := 1) fX4_11 dX4_copy_28 rfl rfl ?_
        refine r_iload_n (μ := mX4_copy) (pc := 31) dX4_copy_31 rfl rfl ?_
        obtain ⟨n32, hx32, h⟩ := h
        refine r_aald (μ := mX4_copy) (pc := 32) (k' := 8 + n32) dX4_copy_32 (Or.inl rfl) hx32 rfl ?_
        refine r_callV (μ := mX4_copy) (pc := 33) (as := []) 3 cX4_89 dX4_copy_33 rfl (ra_kd (ra_1 hx32)) (Nat.le_of_ble_eq_true rfl) rfl okX3_isMissing (Nat.lt_succ_self d) (cat8 (n := 0) rfl (by decide)) rfl h (k_I (fun r33 T33 h => ?_))
        refine r_if_ne (μ := mX4_copy) (pc := 36) (tgt := 51) dX4_copy_36 (by decide) ⟨fun q36 => ?_, fun q36 => ?_⟩
        · have h := h.1 q36
          exact h
        · have h := h.2 q36
          refine r_aload_n (μ := mX4_copy) (pc := 39) dX4_copy_39 rfl rfl ?_
          refine g_R (μ := mX4_copy) (pc := 40) (k' := 1) fX4_11 dX4_copy_40 rfl rfl ?_
          refine r_iload_n (μ := mX4_copy) (pc := 43) dX4_copy_43 rfl rfl ?_
          obtain ⟨n44, hx44, h⟩ := h
          refine r_aald (μ := mX4_copy) (pc := 44) (k' := 8 + n44) dX4_copy_44 (Or.inl rfl) hx44 rfl ?_
          refine r_callV (μ := mX4_copy) (pc := 45) (as := []) 3 cX4_89 dX4_copy_45 rfl (ra_kd (ra_1 hx44)) (Nat.le_of_ble_eq_true rfl) rfl okX3_isMissing (Nat.lt_succ_self d) (cat8 (n := 0) rfl (by decide)) rfl h (k_I (fun r45 T45 h => ?_))
          refine r_if_eq (μ := mX4_copy) (pc := 48) (tgt := 57) dX4_copy_48 (by decide) ⟨fun q48 => ?_, fun q48 => ?_⟩
          · have h := h.1 q48
            refine r_aload_n (μ := mX4_copy) (pc := 57) dX4_copy_57 rfl rfl ?_
            refine g_R (μ := mX4_copy) (pc := 58) (k' := 1) fX4_11 dX4_copy_58 rfl rfl ?_
            refine r_iload_n (μ := mX4_copy) (pc := 61) dX4_copy_61 rfl rfl ?_
            refine r_aald (μ := mX4_copy) (pc := 62) (k' := 8 + n32) dX4_copy_62 (Or.inl rfl) hx32 rfl ?_
            refine r_iload_n (μ := mX4_copy) (pc := 63) dX4_copy_63 rfl rfl ?_
            refine r_iload (μ := mX4_copy) (pc := 64) dX4_copy_64 rfl ?_
            refine r_callV (μ := mX4_copy) (pc := 66) (as := [.int i2, .int i5]) 3 cX4_93 dX4_copy_66 rfl (ra_kd (ra_1 hx32)) (Nat.le_of_ble_eq_true rfl) rfl okX3_hasRun (Nat.lt_succ_self d) (cat8 (n := 0) rfl (by decide)) rfl h (k_I (fun r66 T66 h => ?_))
            refine r_if_eq (μ := mX4_copy) (pc := 69) (tgt := 88) dX4_copy_69 (by decide) ⟨fun q69 => ?_, fun q69 => ?_⟩
            · have h := h.1 q69
              exact h
            · have h := h.2 q69
              refine r_aload_n (μ := mX4_copy) (pc := 72) dX4_copy_72 rfl rfl ?_
              refine g_R (μ := mX4_copy) (pc := 73) (k' := 1) fX4_11 dX4_copy_73 rfl rfl ?_
              refine r_iload_n (μ := mX4_copy) (pc := 76) dX4_copy_76 rfl rfl ?_
              refine r_aald (μ := mX4_copy) (pc := 77) (k' := 8 + n44) dX4_copy_77 (Or.inl rfl) hx44 rfl ?_
              refine r_iload (μ := mX4_copy) (pc := 78) dX4_copy_78 rfl ?_
              refine r_iload (μ := mX4_copy) (pc := 80) dX4_copy_80 rfl ?_
              refine r_callV (μ := mX4_copy) (pc := 82) (as := [.int i4, .int i5]) 3 cX4_93 dX4_copy_82 rfl (ra_kd (ra_1 hx44)) (Nat.le_of_ble_eq_true rfl) rfl okX3_hasRun (Nat.lt_succ_self d) (cat8 (n := 0) rfl (by decide)) rfl h (k_I (fun r82 T82 h => ?_))
              refine r_if_ne (μ := mX4_copy) (pc := 85) (tgt := 94) dX4_copy_85 (by decide) ⟨fun q85 => ?_, fun q85 => ?_⟩
              · have h := h.1 q85
                refine r_aload_n (μ := mX4_copy) (pc := 94) dX4_copy_94 rfl rfl ?_
                refine g_R (μ := mX4_copy) (pc := 95) (k' := 1) fX4_11 dX4_copy_95 rfl rfl ?_
                refine r_iload_n (μ := mX4_copy) (pc := 98) dX4_copy_98 rfl rfl ?_
                refine r_aald (μ := mX4_copy) (pc := 99) (k' := 8 + n32) dX4_copy_99 (Or.inl rfl) hx32 rfl ?_
                refine g_R (μ := mX4_copy) (pc := 100) (k' := 8 + n32 + 10) fX4_79 dX4_copy_100 (ra_kd (ra_1 hx32)) (ra_rf (ra_1 hx32)) ?_
                refine r_iload_n (μ := mX4_copy) (pc := 103) dX4_copy_103 rfl rfl ?_
                refine r_aload_n (μ := mX4_copy) (pc := 104) dX4_copy_104 rfl rfl ?_
                refine g_R (μ := mX4_copy) (pc := 105) (k' := 1) fX4_11 dX4_copy_105 rfl rfl ?_
                refine r_iload_n (μ := mX4_copy) (pc := 108) dX4_copy_108 rfl rfl ?_
                refine r_aald (μ := mX4_copy) (pc := 109) (k' := 8 + n44) dX4_copy_109 (Or.inl rfl) hx44 rfl ?_
                refine g_R (μ := mX4_copy) (pc := 110) (k' := 8 + n44 + 10) fX4_79 dX4_copy_110 (ra_kd (ra_1 hx44)) (ra_rf (ra_1 hx44)) ?_
                refine r_iload (μ := mX4_copy) (pc := 113) dX4_copy_113 rfl ?_
                refine r_iload (μ := mX4_copy) (pc := 115) dX4_copy_115 rfl ?_
                obtain ⟨a117, b117, n117, hc1, hc2, hc3, hc4, hc5, h⟩ := h
                refine r_copy (μ := mX4_copy) (pc := 117) dX4_copy_117 cpX4_97.1 cpX4_97.2.1 cpX4_97.2.2.1 cpX4_97.2.2.2 (ra_k (ra_1 hx32)) (ra_k (ra_1 hx44)) hc1 hc2 hc3 hc4 hc5 (ra_l (ra_1 hx32)) (ra_l (ra_1 hx44)) (cat8 (n := 0) rfl (by decide)) ?_
                refine nm_S (fun S117 eS117 => ?_)
                have h := h S117 eS117
                refine r_iconst (μ := mX4_copy) (pc := 120) (v := nI 1) dX4_copy_120 rfl ?_
                exact r_iret (μ := mX4_copy) (pc := 121) dX4_copy_121 rfl h
              · have h := h.2 q85
                exact h
          · have h := h.2 q48
            exact h
      · have h := h.2 q18
        refine r_aload_n (μ := mX4_copy) (pc := 21) dX4_copy_21 rfl rfl ?_
        refine r_iconst (μ := mX4_copy) (pc := 22) (v := nI 5) dX4_copy_22 rfl ?_
        refine r_callV (μ := mX4_copy) (pc := 23) (as := [.int (nI 5)]) 4 cX4_67 dX4_copy_23 rfl rfl (Nat.le_of_ble_eq_true rfl) rfl okX4_refuse (Nat.lt_succ_self d) (cat8 (n := 0) rfl (by decide)) rfl h (k_I (fun r23 T23 h => ?_))
        exact r_iret (μ := mX4_copy) (pc := 26) dX4_copy_26 rfl h
    · have h := h.2 q11
      refine r_iconst (μ := mX4_copy) (pc := 14) (v := (-1)) dX4_copy_14 rfl ?_
      exact r_iret (μ := mX4_copy) (pc := 15) dX4_copy_15 rfl h

set_option maxRecDepth 20000 in
theorem bX4_copy_51 {G : Gl} {l : Launch} {d : Nat} {S : Sg} {P : Int32 → Sg → Prop} (i1 : Int32) (i2 : Int32) (i3 : Int32) (i4 : Int32) (i5 : Int32)
    (h : Ct G l mX4_refuse d [.ref 0, .int (nI 1)] S (QI (fun r53 T53 => P r53 T53))) :
    Ev G l mX4_copy (d + 1) 51 [some (.ref 0), some (.int i1), some (.int i2), some (.int i3), some (.int i4), some (.int i5)] [] S (QI P) := by
  show Ev G l mX4_copy (d + 1) 51 [some (.ref 0), some (.int i1), some (.int i2), some (.int i3), some (.int i4), some (.int i5)] [] S (QI P)
  refine r_aload_n (μ := mX4_copy) (pc := 51) dX4_copy_51 rfl rfl ?_
  refine r_iconst (μ := mX4_copy) (pc := 52) (v := nI 1) dX4_copy_52 rfl ?_
  refine r_callV (μ := mX4_copy) (pc := 53) (as := [.int (nI 1)]) 4 cX4_67 dX4_copy_53 rfl rfl (Nat.le_of_ble_eq_true rfl) rfl okX4_refuse (Nat.lt_succ_self d) (cat8 (n := 0) rfl (by decide)) rfl h (k_I (fun r53 T53 h => ?_))
  exact r_iret (μ := mX4_copy) (pc := 56) dX4_copy_56 rfl h

set_option maxRecDepth 20000 in
theorem bX4_copy_88 {G : Gl} {l : Launch} {d : Nat} {S : Sg} {P : Int32 → Sg → Prop} (i1 : Int32) (i2 : Int32) (i3 : Int32) (i4 : Int32) (i5 : Int32)
    (h : Ct G l mX4_refuse d [.ref 0, .int (nI 2)] S (QI (fun r90 T90 => P r90 T90))) :
    Ev G l mX4_copy (d + 1) 88 [some (.ref 0), some (.int i1), some (.int i2), some (.int i3), some (.int i4), some (.int i5)] [] S (QI P) := by
  show Ev G l mX4_copy (d + 1) 88 [some (.ref 0), some (.int i1), some (.int i2), some (.int i3), some (.int i4), some (.int i5)] [] S (QI P)
  refine r_aload_n (μ := mX4_copy) (pc := 88) dX4_copy_88 rfl rfl ?_
  refine r_iconst (μ := mX4_copy) (pc := 89) (v := nI 2) dX4_copy_89 rfl ?_
  refine r_callV (μ := mX4_copy) (pc := 90) (as := [.int (nI 2)]) 4 cX4_67 dX4_copy_90 rfl rfl (Nat.le_of_ble_eq_true rfl) rfl okX4_refuse (Nat.lt_succ_self d) (cat8 (n := 0) rfl (by decide)) rfl h (k_I (fun r90 T90 h => ?_))
  exact r_iret (μ := mX4_copy) (pc := 93) dX4_copy_93 rfl h

set_option maxRecDepth 20000 in
theorem bX4_mean_0 {G : Gl} {l : Launch} {d : Nat} {S : Sg} {P : Int32 → Sg → Prop} (i1 : Int32)
    (h : Ct G l mX4_refuseMissing d [.ref 0, .ref 1, .int i1] S (QI (fun r6 T6 => (r6 = (nI 0) → ∃ n21 : Nat, ix i1 n21 6 ∧ ((¬ (T6.1 (8 + n21) 1) = (nI 0) → Ct G l mX3_sum d [.ref (8 + n21)] T6 (QL (fun r38 T38 => (¬ ((T38.1 (8 + n21) 1).toInt64) = 0) ∧ (∀ S48 : Sg, S48 = (u2 T38.1 0 9 ((r38 / ((T38.1 (8 + n21) 1).toInt64)).toInt32), T38.2) → (P (nI 1) S48))))) ∧ ((T6.1 (8 + n21) 1) = (nI 0) → Ct G l mX4_refuse d [.ref 0, .int (nI 4)] T6 (QI (fun r32 T32 => P r32 T32))))) ∧ (¬ (r6 = (nI 0)) → P r6 T6)))) :
    Ct G l mX4_mean (d + 1) [.ref 0, .int i1] S (QI P) := by
  show Ev G l mX4_mean (d + 1) 0 [some (.ref 0), some (.int i1), none, none] [] S (QI P)
  refine r_aload_n (μ := mX4_mean) (pc := 0) dX4_mean_0 rfl rfl ?_
  refine r_aload_n (μ := mX4_mean) (pc := 1) dX4_mean_1 rfl rfl ?_
  refine g_R (μ := mX4_mean) (pc := 2) (k' := 1) fX4_11 dX4_mean_2 rfl rfl ?_
  refine r_iload_n (μ := mX4_mean) (pc := 5) dX4_mean_5 rfl rfl ?_
  refine r_callV (μ := mX4_mean) (pc := 6) (as := [.ref 1, .int i1]) 4 cX4_82 dX4_mean_6 rfl rfl (Nat.le_of_ble_eq_true rfl) rfl okX4_refuseMissing (Nat.lt_succ_self d) (cat8 (n := 0) rfl (by decide)) rfl h (k_I (fun r6 T6 h => ?_))
  refine r_istore_n (μ := mX4_mean) (pc := 9) (ls' := [some (.ref 0), some (.int i1), some (.int r6), none]) dX4_mean_9 rfl (Nat.le_of_ble_eq_true rfl) rfl rfl ?_
  refine r_iload_n (μ := mX4_mean) (pc := 10) dX4_mean_10 rfl rfl ?_
  refine r_if_eq (μ := mX4_mean) (pc := 11) (tgt := 16) dX4_mean_11 (by decide) ⟨fun q11 => ?_, fun q11 => ?_⟩
  · have h := h.1 q11
    refine r_aload_n (μ := mX4_mean) (pc := 16) dX4_mean_16 rfl rfl ?_
    refine g_R (μ := mX4_mean) (pc := 17) (k' := 1) fX4_11 dX4_mean_17 rfl rfl ?_
    refine r_iload_n (μ := mX4_mean) (pc := 20) dX4_mean_20 rfl rfl ?_
    obtain ⟨n21, hx21, h⟩ := h
    refine r_aald (μ := mX4_mean) (pc := 21) (k' := 8 + n21) dX4_mean_21 (Or.inl rfl) hx21 rfl ?_
    refine r_astore_n (μ := mX4_mean) (pc := 22) (ls' := [some (.ref 0), some (.int i1), some (.int r6), some (.ref (8 + n21))]) dX4_mean_22 rfl (Nat.le_of_ble_eq_true rfl) rfl rfl ?_
    refine r_aload_n (μ := mX4_mean) (pc := 23) dX4_mean_23 rfl rfl ?_
    refine g_I (μ := mX4_mean) (pc := 24) fX4_86 dX4_mean_24 (ra_kd (ra_1 hx21)) ?_
    refine r_if_ne (μ := mX4_mean) (pc := 27) (tgt := 36) dX4_mean_27 (by decide) ⟨fun q27 => ?_, fun q27 => ?_⟩
    · have h := h.1 q27
      refine r_aload_n (μ := mX4_mean) (pc := 36) dX4_mean_36 rfl rfl ?_
      refine r_aload_n (μ := mX4_mean) (pc := 37) dX4_mean_37 rfl rfl ?_
      refine r_callV (μ := mX4_mean) (pc := 38) (as := []) 3 cX4_103 dX4_mean_38 rfl (ra_kd (ra_1 hx21)) (Nat.le_of_ble_eq_true rfl) rfl okX3_sum (Nat.lt_succ_self d) (cat8 (n := 1) rfl (by decide)) rfl h (k_L (fun r38 T38 h => ?_))
      refine r_aload_n (μ := mX4_mean) (pc := 41) dX4_mean_41 rfl rfl ?_
      refine g_I (μ := mX4_mean) (pc := 42) fX4_86 dX4_mean_42 (ra_kd (ra_1 hx21)) ?_
      refine r_i2l (μ := mX4_mean) (pc := 45) dX4_mean_45 ?_
      obtain ⟨hz46, h⟩ := h
      refine r_ldiv (μ := mX4_mean) (pc := 46) dX4_mean_46 hz46 ?_
      refine r_l2i (μ := mX4_mean) (pc := 47) dX4_mean_47 ?_
      refine p_I (μ := mX4_mean) (pc := 48) fX4_50 wfX4_50 dX4_mean_48 rfl ?_
      refine nm_S (fun S48 eS48 => ?_)
      have h := h S48 eS48
      refine r_iconst (μ := mX4_mean) (pc := 51) (v := nI 1) dX4_mean_51 rfl ?_
      exact r_iret (μ := mX4_mean) (pc := 52) dX4_mean_52 rfl h
    · have h := h.2 q27
      refine r_aload_n (μ := mX4_mean) (pc := 30) dX4_mean_30 rfl rfl ?_
      refine r_iconst (μ := mX4_mean) (pc := 31) (v := nI 4) dX4_mean_31 rfl ?_
      refine r_callV (μ := mX4_mean) (pc := 32) (as := [.int (nI 4)]) 4 cX4_67 dX4_mean_32 rfl rfl (Nat.le_of_ble_eq_true rfl) rfl okX4_refuse (Nat.lt_succ_self d) (cat8 (n := 0) rfl (by decide)) rfl h (k_I (fun r32 T32 h => ?_))
      exact r_iret (μ := mX4_mean) (pc := 35) dX4_mean_35 rfl h
  · have h := h.2 q11
    refine r_iload_n (μ := mX4_mean) (pc := 14) dX4_mean_14 rfl rfl ?_
    exact r_iret (μ := mX4_mean) (pc := 15) dX4_mean_15 rfl h

set_option maxRecDepth 20000 in
theorem bX4_text_0 {G : Gl} {l : Launch} {d : Nat} {S : Sg} {P : Int32 → Sg → Prop} (i1 : Int32) (i2 : Int32)
    (h : Ct G l mX4_isText d [.int i1] S (QI (fun r1 T1 => (r1 = (nI 0) → P (-1) T1) ∧ (¬ (r1 = (nI 0)) → (i2 ≤ (nI 60) → ((nI 0) ≤ i2 → ∃ n30 : Nat, ix i1 n30 4 ∧ (Ct G l mX3_layAnew d [.ref (14 + n30), .int i2, .int (nI 32)] T1 (QV (fun T34 => P i2 T34)))) ∧ (¬ ((nI 0) ≤ i2) → Ct G l mX4_refuse d [.ref 0, .int (nI 5)] T1 (QI (fun r21 T21 => P r21 T21)))) ∧ (¬ (i2 ≤ (nI 60)) → P (-1) T1))))) :
    Ct G l mX4_text (d + 1) [.ref 0, .int i1, .int i2] S (QI P) := by
  show Ev G l mX4_text (d + 1) 0 [some (.ref 0), some (.int i1), some (.int i2)] [] S (QI P)
  refine r_iload_n (μ := mX4_text) (pc := 0) dX4_text_0 rfl rfl ?_
  refine r_callS (μ := mX4_text) (pc := 1) (as := [.int i1]) cX4_107 dX4_text_1 rfl okX4_isText (Nat.lt_succ_self d) (cat8 (n := 0) rfl (by decide)) rfl h (k_I (fun r1 T1 h => ?_))
  refine r_if_eq (μ := mX4_text) (pc := 4) (tgt := 13) dX4_text_4 (by decide) ⟨fun q4 => ?_, fun q4 => ?_⟩
  · have h := h.1 q4
    refine r_iconst (μ := mX4_text) (pc := 13) (v := (-1)) dX4_text_13 rfl ?_
    exact r_iret (μ := mX4_text) (pc := 14) dX4_text_14 rfl h
  · have h := h.2 q4
    refine r_iload_n (μ := mX4_text) (pc := 7) dX4_text_7 rfl rfl ?_
    refine r_bipush (μ := mX4_text) (pc := 8) (v := nI 60) dX4_text_8 rfl ?_
    refine r_icmp_le (μ := mX4_text) (pc := 10) (tgt := 15) dX4_text_10 (by decide) ⟨fun q10 => ?_, fun q10 => ?_⟩
    · have h := h.1 q10
      refine r_iload_n (μ := mX4_text) (pc := 15) dX4_text_15 rfl rfl ?_
      refine r_if_ge (μ := mX4_text) (pc := 16) (tgt := 25) dX4_text_16 (by decide) ⟨fun q16 => ?_, fun q16 => ?_⟩
      · have h := h.1 q16
        refine r_aload_n (μ := mX4_text) (pc := 25) dX4_text_25 rfl rfl ?_
        refine g_R (μ := mX4_text) (pc := 26) (k' := 2) fX4_15 dX4_text_26 rfl rfl ?_
        refine r_iload_n (μ := mX4_text) (pc := 29) dX4_text_29 rfl rfl ?_
        obtain ⟨n30, hx30, h⟩ := h
        refine r_aald (μ := mX4_text) (pc := 30) (k' := 14 + n30) dX4_text_30 (Or.inl rfl) hx30 rfl ?_
        refine r_iload_n (μ := mX4_text) (pc := 31) dX4_text_31 rfl rfl ?_
        refine r_bipush (μ := mX4_text) (pc := 32) (v := nI 32) dX4_text_32 rfl ?_
        refine r_callV (μ := mX4_text) (pc := 34) (as := [.int i2, .int (nI 32)]) 3 cX4_71 dX4_text_34 rfl (ra_kd (ra_2 hx30)) (Nat.le_of_ble_eq_true rfl) rfl okX3_layAnew (Nat.lt_succ_self d) (cat8 (n := 0) rfl (by decide)) rfl h (k_V (fun T34 h => ?_))
        refine r_iload_n (μ := mX4_text) (pc := 37) dX4_text_37 rfl rfl ?_
        exact r_iret (μ := mX4_text) (pc := 38) dX4_text_38 rfl h
      · have h := h.2 q16
        refine r_aload_n (μ := mX4_text) (pc := 19) dX4_text_19 rfl rfl ?_
        refine r_iconst (μ := mX4_text) (pc := 20) (v := nI 5) dX4_text_20 rfl ?_
        refine r_callV (μ := mX4_text) (pc := 21) (as := [.int (nI 5)]) 4 cX4_67 dX4_text_21 rfl rfl (Nat.le_of_ble_eq_true rfl) rfl okX4_refuse (Nat.lt_succ_self d) (cat8 (n := 0) rfl (by decide)) rfl h (k_I (fun r21 T21 h => ?_))
        exact r_iret (μ := mX4_text) (pc := 24) dX4_text_24 rfl h
    · have h := h.2 q10
      refine r_iconst (μ := mX4_text) (pc := 13) (v := (-1)) dX4_text_13 rfl ?_
      exact r_iret (μ := mX4_text) (pc := 14) dX4_text_14 rfl h

set_option maxRecDepth 20000 in
theorem bX4_put_0 {G : Gl} {l : Launch} {d : Nat} {S : Sg} {P : Int32 → Sg → Prop} (i1 : Int32) (i2 : Int32) (i3 : Int32)
    (h : Ct G l mX4_refusePlace d [.ref 0, .ref 2, .int i1, .int i2] S (QI (fun r7 T7 => (r7 = (nI 0) → ∃ n25 : Nat, ix i1 n25 4 ∧ (∃ n30 : Nat, ix i2 n30 (ln (14 + n25 + 10)) ∧ (∀ S45 : Sg, S45 = (u2 T7.1 (14 + n25 + 10) n30 ((i3).toInt8.toInt32), T7.2) → (P ((T7.1 (14 + n25 + 10) n30) + (nI 1000)) S45)))) ∧ (¬ (r7 = (nI 0)) → P r7 T7)))) :
    Ct G l mX4_put (d + 1) [.ref 0, .int i1, .int i2, .int i3] S (QI P) := by
  show Ev G l mX4_put (d + 1) 0 [some (.ref 0), some (.int i1), some (.int i2), some (.int i3), none, none] [] S (QI P)
  refine r_aload_n (μ := mX4_put) (pc := 0) dX4_put_0 rfl rfl ?_
  refine r_aload_n (μ := mX4_put) (pc := 1) dX4_put_1 rfl rfl ?_
  refine g_R (μ := mX4_put) (pc := 2) (k' := 2) fX4_15 dX4_put_2 rfl rfl ?_
  refine r_iload_n (μ := mX4_put) (pc := 5) dX4_put_5 rfl rfl ?_
  refine r_iload_n (μ := mX4_put) (pc := 6) dX4_put_6 rfl rfl ?_
  refine r_callV (μ := mX4_put) (pc := 7) (as := [.ref 2, .int i1, .int i2]) 4 cX4_75 dX4_put_7 rfl rfl (Nat.le_of_ble_eq_true rfl) rfl okX4_refusePlace (Nat.lt_succ_self d) (cat8 (n := 0) rfl (by decide)) rfl h (k_I (fun r7 T7 h => ?_))
  refine r_istore (μ := mX4_put) (pc := 10) (ls' := [some (.ref 0), some (.int i1), some (.int i2), some (.int i3), some (.int r7), none]) dX4_put_10 (Nat.le_of_ble_eq_true rfl) rfl rfl ?_
  refine r_iload (μ := mX4_put) (pc := 12) dX4_put_12 rfl ?_
  refine r_if_eq (μ := mX4_put) (pc := 14) (tgt := 20) dX4_put_14 (by decide) ⟨fun q14 => ?_, fun q14 => ?_⟩
  · have h := h.1 q14
    refine r_aload_n (μ := mX4_put) (pc := 20) dX4_put_20 rfl rfl ?_
    refine g_R (μ := mX4_put) (pc := 21) (k' := 2) fX4_15 dX4_put_21 rfl rfl ?_
    refine r_iload_n (μ := mX4_put) (pc := 24) dX4_put_24 rfl rfl ?_
    obtain ⟨n25, hx25, h⟩ := h
    refine r_aald (μ := mX4_put) (pc := 25) (k' := 14 + n25) dX4_put_25 (Or.inl rfl) hx25 rfl ?_
    refine g_R (μ := mX4_put) (pc := 26) (k' := 14 + n25 + 10) fX4_79 dX4_put_26 (ra_kd (ra_2 hx25)) (ra_rf (ra_2 hx25)) ?_
    refine r_iload_n (μ := mX4_put) (pc := 29) dX4_put_29 rfl rfl ?_
    obtain ⟨n30, hx30, h⟩ := h
    refine r_iald (μ := mX4_put) (pc := 30) dX4_put_30 (ra_k (ra_2 hx25)) hx30 ?_
    refine r_istore (μ := mX4_put) (pc := 31) (ls' := [some (.ref 0), some (.int i1), some (.int i2), some (.int i3), some (.int r7), some (.int (T7.1 (14 + n25 + 10) n30))]) dX4_put_31 (Nat.le_of_ble_eq_true rfl) rfl rfl ?_
    refine r_aload_n (μ := mX4_put) (pc := 33) dX4_put_33 rfl rfl ?_
    refine g_R (μ := mX4_put) (pc := 34) (k' := 2) fX4_15 dX4_put_34 rfl rfl ?_
    refine r_iload_n (μ := mX4_put) (pc := 37) dX4_put_37 rfl rfl ?_
    refine r_aald (μ := mX4_put) (pc := 38) (k' := 14 + n25) dX4_put_38 (Or.inl rfl) hx25 rfl ?_
    refine g_R (μ := mX4_put) (pc := 39) (k' := 14 + n25 + 10) fX4_79 dX4_put_39 (ra_kd (ra_2 hx25)) (ra_rf (ra_2 hx25)) ?_
    refine r_iload_n (μ := mX4_put) (pc := 42) dX4_put_42 rfl rfl ?_
    refine r_iload_n (μ := mX4_put) (pc := 43) dX4_put_43 rfl rfl ?_
    refine r_i2b (μ := mX4_put) (pc := 44) dX4_put_44 ?_
    refine r_iast (μ := mX4_put) (pc := 45) dX4_put_45 (ra_k (ra_2 hx25)) hx30 ?_
    refine nm_S (fun S45 eS45 => ?_)
    have h := h S45 eS45
    refine r_iload (μ := mX4_put) (pc := 46) dX4_put_46 rfl ?_
    refine r_sipush (μ := mX4_put) (pc := 48) (v := nI 1000) dX4_put_48 rfl ?_
    refine r_iadd (μ := mX4_put) (pc := 51) dX4_put_51 ?_
    exact r_iret (μ := mX4_put) (pc := 52) dX4_put_52 rfl h
  · have h := h.2 q14
    refine r_iload (μ := mX4_put) (pc := 17) dX4_put_17 rfl ?_
    exact r_iret (μ := mX4_put) (pc := 19) dX4_put_19 rfl h

set_option maxRecDepth 20000 in
theorem bX4_fault_0 {G : Gl} {l : Launch} {d : Nat} {S : Sg} {P : Int32 → Sg → Prop} (i1 : Int32)
    (h : Ct G l mX4_refuseMissing d [.ref 0, .ref 2, .int i1] S (QI (fun r6 T6 => (r6 = (nI 0) → ∃ n25 : Nat, ix i1 n25 4 ∧ (Ct G l mX2_read d [.ref 4, .ref (14 + n25), .ref 40] T6 (QI (fun r30 T30 => ∀ x33 : Int32, x33 = (if r30 = (nI 0) then (T30.1 4 0) else (-9)) → (P x33 T30))))) ∧ (¬ (r6 = (nI 0)) → P r6 T6)))) :
    Ct G l mX4_fault (d + 1) [.ref 0, .int i1] S (QI P) := by
  show Ev G l mX4_fault (d + 1) 0 [some (.ref 0), some (.int i1), none] [] S (QI P)
  refine r_aload_n (μ := mX4_fault) (pc := 0) dX4_fault_0 rfl rfl ?_
  refine r_aload_n (μ := mX4_fault) (pc := 1) dX4_fault_1 rfl rfl ?_
  refine g_R (μ := mX4_fault) (pc := 2) (k' := 2) fX4_15 dX4_fault_2 rfl rfl ?_
  refine r_iload_n (μ := mX4_fault) (pc := 5) dX4_fault_5 rfl rfl ?_
  refine r_callV (μ := mX4_fault) (pc := 6) (as := [.ref 2, .int i1]) 4 cX4_82 dX4_fault_6 rfl rfl (Nat.le_of_ble_eq_true rfl) rfl okX4_refuseMissing (Nat.lt_succ_self d) (cat8 (n := 0) rfl (by decide)) rfl h (k_I (fun r6 T6 h => ?_))
  refine r_istore_n (μ := mX4_fault) (pc := 9) (ls' := [some (.ref 0), some (.int i1), some (.int r6)]) dX4_fault_9 rfl (Nat.le_of_ble_eq_true rfl) rfl rfl ?_
  refine r_iload_n (μ := mX4_fault) (pc := 10) dX4_fault_10 rfl rfl ?_
  refine r_if_eq (μ := mX4_fault) (pc := 11) (tgt := 16) dX4_fault_11 (by decide) ⟨fun q11 => ?_, fun q11 => ?_⟩
  · have h := h.1 q11
    refine r_aload_n (μ := mX4_fault) (pc := 16) dX4_fault_16 rfl rfl ?_
    refine g_R (μ := mX4_fault) (pc := 17) (k' := 4) fX4_35 dX4_fault_17 rfl rfl ?_
    refine r_aload_n (μ := mX4_fault) (pc := 20) dX4_fault_20 rfl rfl ?_
    refine g_R (μ := mX4_fault) (pc := 21) (k' := 2) fX4_15 dX4_fault_21 rfl rfl ?_
    refine r_iload_n (μ := mX4_fault) (pc := 24) dX4_fault_24 rfl rfl ?_
    obtain ⟨n25, hx25, h⟩ := h
    refine r_aald (μ := mX4_fault) (pc := 25) (k' := 14 + n25) dX4_fault_25 (Or.inl rfl) hx25 rfl ?_
    refine r_aload_n (μ := mX4_fault) (pc := 26) dX4_fault_26 rfl rfl ?_
    refine g_R (μ := mX4_fault) (pc := 27) (k' := 40) fX4_29 dX4_fault_27 rfl rfl ?_
    refine r_callV (μ := mX4_fault) (pc := 30) (as := [.ref (14 + n25), .ref 40]) 2 cX4_110 dX4_fault_30 rfl rfl (Nat.le_of_ble_eq_true rfl) rfl okX2_read (Nat.lt_succ_self d) (cat8 (n := 0) rfl (by decide)) rfl h (k_I (fun r30 T30 h => ?_))
    have J33 : ∀ x33 : Int32, x33 = (if r30 = (nI 0) then (T30.1 4 0) else (-9)) → Ev G l mX4_fault (d + 1) 48 [some (.ref 0), some (.int i1), some (.int r6)] [.int x33] T30 (QI P) := by
      intro x33 e33
      have h := h x33 e33
      exact r_iret (μ := mX4_fault) (pc := 48) dX4_fault_48 rfl h
    refine r_if_eq (μ := mX4_fault) (pc := 33) (tgt := 41) dX4_fault_33 (by decide) ⟨fun q33 => ?_, fun q33 => ?_⟩
    · refine r_aload_n (μ := mX4_fault) (pc := 41) dX4_fault_41 rfl rfl ?_
      refine g_R (μ := mX4_fault) (pc := 42) (k' := 4) fX4_35 dX4_fault_42 rfl rfl ?_
      refine g_I (μ := mX4_fault) (pc := 45) fX4_114 dX4_fault_45 rfl ?_
      exact J33 _ (by first | (rw [if_pos q33]; done) | simp only [if_pos q33])
    · refine r_bipush (μ := mX4_fault) (pc := 36) (v := (-9)) dX4_fault_36 rfl ?_
      refine r_goto (μ := mX4_fault) (pc := 38) (tgt := 48) dX4_fault_38 (by decide) ?_
      exact J33 _ (by first | (rw [if_neg q33]; done) | simp only [if_neg q33])
  · have h := h.2 q11
    refine r_iload_n (μ := mX4_fault) (pc := 14) dX4_fault_14 rfl rfl ?_
    exact r_iret (μ := mX4_fault) (pc := 15) dX4_fault_15 rfl h

set_option maxRecDepth 20000 in
theorem bX4_land_0 {G : Gl} {l : Launch} {d : Nat} {S : Sg} {P : Int32 → Sg → Prop} (i1 : Int32)
    (h : Ct G l mX4_refuseMissing d [.ref 0, .ref 2, .int i1] S (QI (fun r6 T6 => (r6 = (nI 0) → ∃ n25 : Nat, ix i1 n25 4 ∧ (Ct G l mX2_read d [.ref 4, .ref (14 + n25), .ref 40] T6 (QI (fun r30 T30 => (¬ r30 = (nI 0) → Ct G l mX1_becomeAs d [.ref 28, .ref 40] T30 (QV (fun T47 => Ev G l mX4_land (d + 1) 52 [some (.ref 0), some (.int i1), some (.int r6), some (.int (nI 0))] [] T47 (QI P)))) ∧ (r30 = (nI 0) → P (-4) T30))))) ∧ (¬ (r6 = (nI 0)) → P r6 T6)))) :
    Ct G l mX4_land (d + 1) [.ref 0, .int i1] S (QI P) := by
  show Ev G l mX4_land (d + 1) 0 [some (.ref 0), some (.int i1), none, none] [] S (QI P)
  refine r_aload_n (μ := mX4_land) (pc := 0) dX4_land_0 rfl rfl ?_
  refine r_aload_n (μ := mX4_land) (pc := 1) dX4_land_1 rfl rfl ?_
  refine g_R (μ := mX4_land) (pc := 2) (k' := 2) fX4_15 dX4_land_2 rfl rfl ?_
  refine r_iload_n (μ := mX4_land) (pc := 5) dX4_land_5 rfl rfl ?_
  refine r_callV (μ := mX4_land) (pc := 6) (as := [.ref 2, .int i1]) 4 cX4_82 dX4_land_6 rfl rfl (Nat.le_of_ble_eq_true rfl) rfl okX4_refuseMissing (Nat.lt_succ_self d) (cat8 (n := 0) rfl (by decide)) rfl h (k_I (fun r6 T6 h => ?_))
  refine r_istore_n (μ := mX4_land) (pc := 9) (ls' := [some (.ref 0), some (.int i1), some (.int r6), none]) dX4_land_9 rfl (Nat.le_of_ble_eq_true rfl) rfl rfl ?_
  refine r_iload_n (μ := mX4_land) (pc := 10) dX4_land_10 rfl rfl ?_
  refine r_if_eq (μ := mX4_land) (pc := 11) (tgt := 16) dX4_land_11 (by decide) ⟨fun q11 => ?_, fun q11 => ?_⟩
  · have h := h.1 q11
    refine r_aload_n (μ := mX4_land) (pc := 16) dX4_land_16 rfl rfl ?_
    refine g_R (μ := mX4_land) (pc := 17) (k' := 4) fX4_35 dX4_land_17 rfl rfl ?_
    refine r_aload_n (μ := mX4_land) (pc := 20) dX4_land_20 rfl rfl ?_
    refine g_R (μ := mX4_land) (pc := 21) (k' := 2) fX4_15 dX4_land_21 rfl rfl ?_
    refine r_iload_n (μ := mX4_land) (pc := 24) dX4_land_24 rfl rfl ?_
    obtain ⟨n25, hx25, h⟩ := h
    refine r_aald (μ := mX4_land) (pc := 25) (k' := 14 + n25) dX4_land_25 (Or.inl rfl) hx25 rfl ?_
    refine r_aload_n (μ := mX4_land) (pc := 26) dX4_land_26 rfl rfl ?_
    refine g_R (μ := mX4_land) (pc := 27) (k' := 40) fX4_29 dX4_land_27 rfl rfl ?_
    refine r_callV (μ := mX4_land) (pc := 30) (as := [.ref (14 + n25), .ref 40]) 2 cX4_110 dX4_land_30 rfl rfl (Nat.le_of_ble_eq_true rfl) rfl okX2_read (Nat.lt_succ_self d) (cat8 (n := 0) rfl (by decide)) rfl h (k_I (fun r30 T30 h => ?_))
    refine r_if_ne (μ := mX4_land) (pc := 33) (tgt := 39) dX4_land_33 (by decide) ⟨fun q33 => ?_, fun q33 => ?_⟩
    · have h := h.1 q33
      refine r_aload_n (μ := mX4_land) (pc := 39) dX4_land_39 rfl rfl ?_
      refine g_R (μ := mX4_land) (pc := 40) (k' := 28) fX4_21 dX4_land_40 rfl rfl ?_
      refine r_aload_n (μ := mX4_land) (pc := 43) dX4_land_43 rfl rfl ?_
      refine g_R (μ := mX4_land) (pc := 44) (k' := 40) fX4_29 dX4_land_44 rfl rfl ?_
      refine r_callV (μ := mX4_land) (pc := 47) (as := [.ref 40]) 1 cX4_117 dX4_land_47 rfl rfl (Nat.le_of_ble_eq_true rfl) rfl okX1_becomeAs (Nat.lt_succ_self d) (cat8 (n := 0) rfl (by decide)) rfl h (k_V (fun T47 h => ?_))
      refine r_iconst (μ := mX4_land) (pc := 50) (v := nI 0) dX4_land_50 rfl ?_
      refine r_istore_n (μ := mX4_land) (pc := 51) (ls' := [some (.ref 0), some (.int i1), some (.int r6), some (.int (nI 0))]) dX4_land_51 rfl (Nat.le_of_ble_eq_true rfl) rfl rfl ?_
      exact h
    · have h := h.2 q33
      refine r_bipush (μ := mX4_land) (pc := 36) (v := (-4)) dX4_land_36 rfl ?_
      exact r_iret (μ := mX4_land) (pc := 38) dX4_land_38 rfl h
  · have h := h.2 q11
    refine r_iload_n (μ := mX4_land) (pc := 14) dX4_land_14 rfl rfl ?_
    exact r_iret (μ := mX4_land) (pc := 15) dX4_land_15 rfl h

set_option maxRecDepth 20000 in
theorem bX4_land_52 {G : Gl} {l : Launch} {d : Nat} {S : Sg} {P : Int32 → Sg → Prop} (i1 : Int32) (i2 : Int32) (i3 : Int32)
    (h : ((nI 3) ≤ i3 → P (S.1 28 8) S) ∧ (¬ ((nI 3) ≤ i3) → ∃ n62 : Nat, ix i3 n62 3 ∧ (∀ S64 : Sg, S64 = (u2 S.1 (52 + 12 * n62) 0 (nI 0), S.2) → (Ev G l mX4_land (d + 1) 52 [some (.ref 0), some (.int i1), some (.int i2), some (.int (i3 + (nI 1)))] [] S64 (QI P))))) :
    Ev G l mX4_land (d + 1) 52 [some (.ref 0), some (.int i1), some (.int i2), some (.int i3)] [] S (QI P) := by
  show Ev G l mX4_land (d + 1) 52 [some (.ref 0), some (.int i1), some (.int i2), some (.int i3)] [] S (QI P)
  refine r_iload_n (μ := mX4_land) (pc := 52) dX4_land_52 rfl rfl ?_
  refine r_iconst (μ := mX4_land) (pc := 53) (v := nI 3) dX4_land_53 rfl ?_
  refine r_icmp_ge (μ := mX4_land) (pc := 54) (tgt := 73) dX4_land_54 (by decide) ⟨fun q54 => ?_, fun q54 => ?_⟩
  · have h := h.1 q54
    refine r_aload_n (μ := mX4_land) (pc := 73) dX4_land_73 rfl rfl ?_
    refine g_R (μ := mX4_land) (pc := 74) (k' := 28) fX4_21 dX4_land_74 rfl rfl ?_
    refine g_I (μ := mX4_land) (pc := 77) fX4_124 dX4_land_77 rfl ?_
    exact r_iret (μ := mX4_land) (pc := 80) dX4_land_80 rfl h
  · have h := h.2 q54
    refine r_aload_n (μ := mX4_land) (pc := 57) dX4_land_57 rfl rfl ?_
    refine g_R (μ := mX4_land) (pc := 58) (k' := 3) fX4_25 dX4_land_58 rfl rfl ?_
    refine r_iload_n (μ := mX4_land) (pc := 61) dX4_land_61 rfl rfl ?_
    obtain ⟨n62, hx62, h⟩ := h
    refine r_aald (μ := mX4_land) (pc := 62) (k' := 52 + 12 * n62) dX4_land_62 (Or.inr rfl) hx62 rfl ?_
    refine r_iconst (μ := mX4_land) (pc := 63) (v := nI 0) dX4_land_63 rfl ?_
    refine p_I (μ := mX4_land) (pc := 64) fX4_121 wfX4_121 dX4_land_64 (la_kd (la_3 hx62)) ?_
    refine nm_S (fun S64 eS64 => ?_)
    have h := h S64 eS64
    refine r_iinc (μ := mX4_land) (pc := 67) (y := nI 1) (ls' := [some (.ref 0), some (.int i1), some (.int i2), some (.int (i3 + (nI 1)))]) dX4_land_67 rfl rfl (Nat.le_of_ble_eq_true rfl) rfl rfl ?_
    refine r_goto (μ := mX4_land) (pc := 70) (tgt := 52) dX4_land_70 (by decide) ?_
    exact h

set_option maxRecDepth 20000 in
theorem bX4_one_0 {G : Gl} {l : Launch} {d : Nat} {S : Sg} {P : Int32 → Sg → Prop} (i1 : Int32) (i2 : Int32)
    (h : Ct G l mX1_hasOne d [.ref 28, .int i1] S (QI (fun r5 T5 => (r5 = (nI 0) → P (-1) T5) ∧ (¬ (r5 = (nI 0)) → (i2 < (nI 0) → P (-1) T5) ∧ (¬ (i2 < (nI 0)) → (i2 ≤ (nI 5) → Ct G l mX4_ofOne d [.ref 0, .int i1, .int i2] T5 (QI (fun r26 T26 => ∀ S29 : Sg, S29 = (u2 T26.1 0 9 r26, T26.2) → (P (nI 1) S29)))) ∧ (¬ (i2 ≤ (nI 5)) → P (-1) T5)))))) :
    Ct G l mX4_one (d + 1) [.ref 0, .int i1, .int i2] S (QI P) := by
  show Ev G l mX4_one (d + 1) 0 [some (.ref 0), some (.int i1), some (.int i2)] [] S (QI P)
  refine r_aload_n (μ := mX4_one) (pc := 0) dX4_one_0 rfl rfl ?_
  refine g_R (μ := mX4_one) (pc := 1) (k' := 28) fX4_21 dX4_one_1 rfl rfl ?_
  refine r_iload_n (μ := mX4_one) (pc := 4) dX4_one_4 rfl rfl ?_
  refine r_callV (μ := mX4_one) (pc := 5) (as := [.int i1]) 1 cX4_127 dX4_one_5 rfl rfl (Nat.le_of_ble_eq_true rfl) rfl okX1_hasOne (Nat.lt_succ_self d) (cat8 (n := 0) rfl (by decide)) rfl h (k_I (fun r5 T5 h => ?_))
  refine r_if_eq (μ := mX4_one) (pc := 8) (tgt := 20) dX4_one_8 (by decide) ⟨fun q8 => ?_, fun q8 => ?_⟩
  · have h := h.1 q8
    refine r_iconst (μ := mX4_one) (pc := 20) (v := (-1)) dX4_one_20 rfl ?_
    exact r_iret (μ := mX4_one) (pc := 21) dX4_one_21 rfl h
  · have h := h.2 q8
    refine r_iload_n (μ := mX4_one) (pc := 11) dX4_one_11 rfl rfl ?_
    refine r_if_lt (μ := mX4_one) (pc := 12) (tgt := 20) dX4_one_12 (by decide) ⟨fun q12 => ?_, fun q12 => ?_⟩
    · have h := h.1 q12
      refine r_iconst (μ := mX4_one) (pc := 20) (v := (-1)) dX4_one_20 rfl ?_
      exact r_iret (μ := mX4_one) (pc := 21) dX4_one_21 rfl h
    · have h := h.2 q12
      refine r_iload_n (μ := mX4_one) (pc := 15) dX4_one_15 rfl rfl ?_
      refine r_iconst (μ := mX4_one) (pc := 16) (v := nI 5) dX4_one_16 rfl ?_
      refine r_icmp_le (μ := mX4_one) (pc := 17) (tgt := 22) dX4_one_17 (by decide) ⟨fun q17 => ?_, fun q17 => ?_⟩
      · have h := h.1 q17
        refine r_aload_n (μ := mX4_one) (pc := 22) dX4_one_22 rfl rfl ?_
        refine r_aload_n (μ := mX4_one) (pc := 23) dX4_one_23 rfl rfl ?_
        refine r_iload_n (μ := mX4_one) (pc := 24) dX4_one_24 rfl rfl ?_
        refine r_iload_n (μ := mX4_one) (pc := 25) dX4_one_25 rfl rfl ?_
        refine r_callV (μ := mX4_one) (pc := 26) (as := [.int i1, .int i2]) 4 cX4_130 dX4_one_26 rfl rfl (Nat.le_of_ble_eq_true rfl) rfl okX4_ofOne (Nat.lt_succ_self d) (cat8 (n := 1) rfl (by decide)) rfl h (k_I (fun r26 T26 h => ?_))
        refine p_I (μ := mX4_one) (pc := 29) fX4_50 wfX4_50 dX4_one_29 rfl ?_
        refine nm_S (fun S29 eS29 => ?_)
        have h := h S29 eS29
        refine r_iconst (μ := mX4_one) (pc := 32) (v := nI 1) dX4_one_32 rfl ?_
        exact r_iret (μ := mX4_one) (pc := 33) dX4_one_33 rfl h
      · have h := h.2 q17
        refine r_iconst (μ := mX4_one) (pc := 20) (v := (-1)) dX4_one_20 rfl ?_
        exact r_iret (μ := mX4_one) (pc := 21) dX4_one_21 rfl h

set_option maxRecDepth 20000 in
theorem bX4_mark_0 {G : Gl} {l : Launch} {d : Nat} {S : Sg} {P : Int32 → Sg → Prop} (i1 : Int32) (i2 : Int32)
    (h : Ct G l mX1_hasOne d [.ref 28, .int i1] S (QI (fun r5 T5 => (r5 = (nI 0) → P (-1) T5) ∧ (¬ (r5 = (nI 0)) → (i2 < (nI 1) → P (-1) T5) ∧ (¬ (i2 < (nI 1)) → (i2 ≤ (nI 5) → Ct G l mX1_isOf d [.ref 28, .int i1, .int i2] T5 (QI (fun r29 T29 => (¬ r29 = (nI 0) → (i2 = nI 1 → ∃ n80 : Nat, ix i1 n80 6 ∧ (∀ x90 : Int32, x90 = (if (T29.1 30 n80) = (T29.1 31 n80) then (nI 0) else (nI 1)) → (P x90 T29))) ∧ (¬ i2 = nI 1 → (i2 = nI 2 → ∃ n111 : Nat, ix i1 n111 6 ∧ (Ct G l mX1_farFromStrip d [.ref 28, .int (T29.1 30 n111)] T29 (QI (fun r112 T112 => P r112 T112)))) ∧ (¬ i2 = nI 2 → (i2 = nI 3 → Ct G l mX1_strip d [.ref 28] T29 (QI (fun r122 T122 => P (if (nI 0) < ((nI 3) - r122) then ((nI 3) - r122) else (nI 0)) T122))) ∧ (¬ i2 = nI 3 → (i2 = nI 4 → Ct G l mX1_othersWith d [.ref 28, .int i1] T29 (QI (fun r135 T135 => P r135 T135))) ∧ (¬ i2 = nI 4 → ∃ n147 : Nat, ix i1 n147 6 ∧ (Ct G l mX4_middleOf d [.int (T29.1 28 1), .int (T29.1 28 2)] T29 (QI (fun r162 T162 => P (if 0 ≤ ((T29.1 30 n147) - r162) then ((T29.1 30 n147) - r162) else 0 - ((T29.1 30 n147) - r162)) T162)))))))) ∧ (r29 = (nI 0) → Ct G l mX4_refuse d [.ref 0, .int (nI 3)] T29 (QI (fun r37 T37 => P r37 T37)))))) ∧ (¬ (i2 ≤ (nI 5)) → P (-1) T5)))))) :
    Ct G l mX4_mark (d + 1) [.ref 0, .int i1, .int i2] S (QI P) := by
  show Ev G l mX4_mark (d + 1) 0 [some (.ref 0), some (.int i1), some (.int i2)] [] S (QI P)
  refine r_aload_n (μ := mX4_mark) (pc := 0) dX4_mark_0 rfl rfl ?_
  refine g_R (μ := mX4_mark) (pc := 1) (k' := 28) fX4_21 dX4_mark_1 rfl rfl ?_
  refine r_iload_n (μ := mX4_mark) (pc := 4) dX4_mark_4 rfl rfl ?_
  refine r_callV (μ := mX4_mark) (pc := 5) (as := [.int i1]) 1 cX4_127 dX4_mark_5 rfl rfl (Nat.le_of_ble_eq_true rfl) rfl okX1_hasOne (Nat.lt_succ_self d) (cat8 (n := 0) rfl (by decide)) rfl h (k_I (fun r5 T5 h => ?_))
  refine r_if_eq (μ := mX4_mark) (pc := 8) (tgt := 21) dX4_mark_8 (by decide) ⟨fun q8 => ?_, fun q8 => ?_⟩
  · have h := h.1 q8
    refine r_iconst (μ := mX4_mark) (pc := 21) (v := (-1)) dX4_mark_21 rfl ?_
    exact r_iret (μ := mX4_mark) (pc := 22) dX4_mark_22 rfl h
  · have h := h.2 q8
    refine r_iload_n (μ := mX4_mark) (pc := 11) dX4_mark_11 rfl rfl ?_
    refine r_iconst (μ := mX4_mark) (pc := 12) (v := nI 1) dX4_mark_12 rfl ?_
    refine r_icmp_lt (μ := mX4_mark) (pc := 13) (tgt := 21) dX4_mark_13 (by decide) ⟨fun q13 => ?_, fun q13 => ?_⟩
    · have h := h.1 q13
      refine r_iconst (μ := mX4_mark) (pc := 21) (v := (-1)) dX4_mark_21 rfl ?_
      exact r_iret (μ := mX4_mark) (pc := 22) dX4_mark_22 rfl h
    · have h := h.2 q13
      refine r_iload_n (μ := mX4_mark) (pc := 16) dX4_mark_16 rfl rfl ?_
      refine r_iconst (μ := mX4_mark) (pc := 17) (v := nI 5) dX4_mark_17 rfl ?_
      refine r_icmp_le (μ := mX4_mark) (pc := 18) (tgt := 23) dX4_mark_18 (by decide) ⟨fun q18 => ?_, fun q18 => ?_⟩
      · have h := h.1 q18
        refine r_aload_n (μ := mX4_mark) (pc := 23) dX4_mark_23 rfl rfl ?_
        refine g_R (μ := mX4_mark) (pc := 24) (k' := 28) fX4_21 dX4_mark_24 rfl rfl ?_
        refine r_iload_n (μ := mX4_mark) (pc := 27) dX4_mark_27 rfl rfl ?_
        refine r_iload_n (μ := mX4_mark) (pc := 28) dX4_mark_28 rfl rfl ?_
        refine r_callV (μ := mX4_mark) (pc := 29) (as := [.int i1, .int i2]) 1 cX4_134 dX4_mark_29 rfl rfl (Nat.le_of_ble_eq_true rfl) rfl okX1_isOf (Nat.lt_succ_self d) (cat8 (n := 0) rfl (by decide)) rfl h (k_I (fun r29 T29 h => ?_))
        refine r_if_ne (μ := mX4_mark) (pc := 32) (tgt := 41) dX4_mark_32 (by decide) ⟨fun q32 => ?_, fun q32 => ?_⟩
        · have h := h.1 q32
          refine r_iload_n (μ := mX4_mark) (pc := 41) dX4_mark_41 rfl rfl ?_
          refine r_ts (μ := mX4_mark) (pc := 42) (td := 139) [(nI 1, 72), (nI 2, 99), (nI 3, 116), (nI 4, 130)] dX4_mark_42 rfl rfl rfl rfl ?_
          refine ⟨fun q42 => ?_, fun q42 => ?_⟩
          · have h := h.1 q42
            refine r_aload_n (μ := mX4_mark) (pc := 72) dX4_mark_72 rfl rfl ?_
            refine g_R (μ := mX4_mark) (pc := 73) (k' := 28) fX4_21 dX4_mark_73 rfl rfl ?_
            refine g_R (μ := mX4_mark) (pc := 76) (k' := 30) fX4_137 dX4_mark_76 rfl rfl ?_
            refine r_iload_n (μ := mX4_mark) (pc := 79) dX4_mark_79 rfl rfl ?_
            obtain ⟨n80, hx80, h⟩ := h
            refine r_iald (μ := mX4_mark) (pc := 80) dX4_mark_80 rfl hx80 ?_
            refine r_aload_n (μ := mX4_mark) (pc := 81) dX4_mark_81 rfl rfl ?_
            refine g_R (μ := mX4_mark) (pc := 82) (k' := 28) fX4_21 dX4_mark_82 rfl rfl ?_
            refine g_R (μ := mX4_mark) (pc := 85) (k' := 31) fX4_140 dX4_mark_85 rfl rfl ?_
            refine r_iload_n (μ := mX4_mark) (pc := 88) dX4_mark_88 rfl rfl ?_
            refine r_iald (μ := mX4_mark) (pc := 89) dX4_mark_89 rfl hx80 ?_
            have J90 : ∀ x90 : Int32, x90 = (if (T29.1 30 n80) = (T29.1 31 n80) then (nI 0) else (nI 1)) → Ev G l mX4_mark (d + 1) 98 [some (.ref 0), some (.int i1), some (.int i2)] [.int x90] T29 (QI P) := by
              intro x90 e90
              have h := h x90 e90
              exact r_iret (μ := mX4_mark) (pc := 98) dX4_mark_98 rfl h
            refine r_icmp_eq (μ := mX4_mark) (pc := 90) (tgt := 97) dX4_mark_90 (by decide) ⟨fun q90 => ?_, fun q90 => ?_⟩
            · refine r_iconst (μ := mX4_mark) (pc := 97) (v := nI 0) dX4_mark_97 rfl ?_
              exact J90 _ (by first | (rw [if_pos q90]; done) | simp only [if_pos q90])
            · refine r_iconst (μ := mX4_mark) (pc := 93) (v := nI 1) dX4_mark_93 rfl ?_
              refine r_goto (μ := mX4_mark) (pc := 94) (tgt := 98) dX4_mark_94 (by decide) ?_
              exact J90 _ (by first | (rw [if_neg q90]; done) | simp only [if_neg q90])
          have h := h.2 q42
          refine ⟨fun q42 => ?_, fun q42 => ?_⟩
          · have h := h.1 q42
            refine r_aload_n (μ := mX4_mark) (pc := 99) dX4_mark_99 rfl rfl ?_
            refine g_R (μ := mX4_mark) (pc := 100) (k' := 28) fX4_21 dX4_mark_100 rfl rfl ?_
            refine r_aload_n (μ := mX4_mark) (pc := 103) dX4_mark_103 rfl rfl ?_
            refine g_R (μ := mX4_mark) (pc := 104) (k' := 28) fX4_21 dX4_mark_104 rfl rfl ?_
            refine g_R (μ := mX4_mark) (pc := 107) (k' := 30) fX4_137 dX4_mark_107 rfl rfl ?_
            refine r_iload_n (μ := mX4_mark) (pc := 110) dX4_mark_110 rfl rfl ?_
            obtain ⟨n111, hx111, h⟩ := h
            refine r_iald (μ := mX4_mark) (pc := 111) dX4_mark_111 rfl hx111 ?_
            refine r_callV (μ := mX4_mark) (pc := 112) (as := [.int (T29.1 30 n111)]) 1 cX4_143 dX4_mark_112 rfl rfl (Nat.le_of_ble_eq_true rfl) rfl okX1_farFromStrip (Nat.lt_succ_self d) (cat8 (n := 0) rfl (by decide)) rfl h (k_I (fun r112 T112 h => ?_))
            exact r_iret (μ := mX4_mark) (pc := 115) dX4_mark_115 rfl h
          have h := h.2 q42
          refine ⟨fun q42 => ?_, fun q42 => ?_⟩
          · have h := h.1 q42
            refine r_iconst (μ := mX4_mark) (pc := 116) (v := nI 0) dX4_mark_116 rfl ?_
            refine r_iconst (μ := mX4_mark) (pc := 117) (v := nI 3) dX4_mark_117 rfl ?_
            refine r_aload_n (μ := mX4_mark) (pc := 118) dX4_mark_118 rfl rfl ?_
            refine g_R (μ := mX4_mark) (pc := 119) (k' := 28) fX4_21 dX4_mark_119 rfl rfl ?_
            refine r_callV (μ := mX4_mark) (pc := 122) (as := []) 1 cX4_146 dX4_mark_122 rfl rfl (Nat.le_of_ble_eq_true rfl) rfl okX1_strip (Nat.lt_succ_self d) (cat8 (n := 2) rfl (by decide)) rfl h (k_I (fun r122 T122 h => ?_))
            refine r_isub (μ := mX4_mark) (pc := 125) dX4_mark_125 ?_
            refine r_mmax (μ := mX4_mark) (pc := 126) mwX4_150 dX4_mark_126 (cat8 (n := 0) rfl (by decide)) ?_
            exact r_iret (μ := mX4_mark) (pc := 129) dX4_mark_129 rfl h
          have h := h.2 q42
          refine ⟨fun q42 => ?_, fun q42 => ?_⟩
          · have h := h.1 q42
            refine r_aload_n (μ := mX4_mark) (pc := 130) dX4_mark_130 rfl rfl ?_
            refine g_R (μ := mX4_mark) (pc := 131) (k' := 28) fX4_21 dX4_mark_131 rfl rfl ?_
            refine r_iload_n (μ := mX4_mark) (pc := 134) dX4_mark_134 rfl rfl ?_
            refine r_callV (μ := mX4_mark) (pc := 135) (as := [.int i1]) 1 cX4_155 dX4_mark_135 rfl rfl (Nat.le_of_ble_eq_true rfl) rfl okX1_othersWith (Nat.lt_succ_self d) (cat8 (n := 0) rfl (by decide)) rfl h (k_I (fun r135 T135 h => ?_))
            exact r_iret (μ := mX4_mark) (pc := 138) dX4_mark_138 rfl h
          have h := h.2 q42
          refine r_aload_n (μ := mX4_mark) (pc := 139) dX4_mark_139 rfl rfl ?_
          refine g_R (μ := mX4_mark) (pc := 140) (k' := 28) fX4_21 dX4_mark_140 rfl rfl ?_
          refine g_R (μ := mX4_mark) (pc := 143) (k' := 30) fX4_137 dX4_mark_143 rfl rfl ?_
          refine r_iload_n (μ := mX4_mark) (pc := 146) dX4_mark_146 rfl rfl ?_
          obtain ⟨n147, hx147, h⟩ := h
          refine r_iald (μ := mX4_mark) (pc := 147) dX4_mark_147 rfl hx147 ?_
          refine r_aload_n (μ := mX4_mark) (pc := 148) dX4_mark_148 rfl rfl ?_
          refine g_R (μ := mX4_mark) (pc := 149) (k' := 28) fX4_21 dX4_mark_149 rfl rfl ?_
          refine g_I (μ := mX4_mark) (pc := 152) fX4_158 dX4_mark_152 rfl ?_
          refine r_aload_n (μ := mX4_mark) (pc := 155) dX4_mark_155 rfl rfl ?_
          refine g_R (μ := mX4_mark) (pc := 156) (k' := 28) fX4_21 dX4_mark_156 rfl rfl ?_
          refine g_I (μ := mX4_mark) (pc := 159) fX4_161 dX4_mark_159 rfl ?_
          refine r_callS (μ := mX4_mark) (pc := 162) (as := [.int (T29.1 28 1), .int (T29.1 28 2)]) cX4_164 dX4_mark_162 rfl okX4_middleOf (Nat.lt_succ_self d) (cat8 (n := 1) rfl (by decide)) rfl h (k_I (fun r162 T162 h => ?_))
          refine r_isub (μ := mX4_mark) (pc := 165) dX4_mark_165 ?_
          refine r_mabs (μ := mX4_mark) (pc := 166) mwX4_167 dX4_mark_166 (cat8 (n := 0) rfl (by decide)) ?_
          exact r_iret (μ := mX4_mark) (pc := 169) dX4_mark_169 rfl h
        · have h := h.2 q32
          refine r_aload_n (μ := mX4_mark) (pc := 35) dX4_mark_35 rfl rfl ?_
          refine r_iconst (μ := mX4_mark) (pc := 36) (v := nI 3) dX4_mark_36 rfl ?_
          refine r_callV (μ := mX4_mark) (pc := 37) (as := [.int (nI 3)]) 4 cX4_67 dX4_mark_37 rfl rfl (Nat.le_of_ble_eq_true rfl) rfl okX4_refuse (Nat.lt_succ_self d) (cat8 (n := 0) rfl (by decide)) rfl h (k_I (fun r37 T37 h => ?_))
          exact r_iret (μ := mX4_mark) (pc := 40) dX4_mark_40 rfl h
      · have h := h.2 q18
        refine r_iconst (μ := mX4_mark) (pc := 21) (v := (-1)) dX4_mark_21 rfl ?_
        exact r_iret (μ := mX4_mark) (pc := 22) dX4_mark_22 rfl h

set_option maxRecDepth 20000 in
theorem bX4_coast_0 {G : Gl} {l : Launch} {d : Nat} {S : Sg} {P : Int32 → Sg → Prop} (i1 : Int32)
    (h : (i1 < (nI 0) → P (-1) S) ∧ (¬ (i1 < (nI 0)) → (i1 ≤ (nI 5) → Ct G l mX1_isThere d [.ref 28] S (QI (fun r15 T15 => (¬ r15 = (nI 0) → (i1 = nI 0 → P (T15.1 28 1) T15) ∧ (¬ i1 = nI 0 → (i1 = nI 1 → P (T15.1 28 2) T15) ∧ (¬ i1 = nI 1 → (i1 = nI 2 → Ct G l mX1_strip d [.ref 28] T15 (QI (fun r84 T84 => P r84 T84))) ∧ (¬ i1 = nI 2 → (i1 = nI 3 → Ct G l mX1_votesBelonging d [.ref 28, .int (T15.1 28 1), .int (T15.1 28 2)] T15 (QI (fun r94 T94 => P r94 T94))) ∧ (¬ i1 = nI 3 → (i1 = nI 4 → Ct G l mX1_votesOfWest d [.ref 28, .int (T15.1 28 1), .int (T15.1 28 2)] T15 (QI (fun r104 T104 => P r104 T104))) ∧ (¬ i1 = nI 4 → Ct G l mX1_votesOfEast d [.ref 28, .int (T15.1 28 1), .int (T15.1 28 2)] T15 (QI (fun r114 T114 => P r114 T114)))))))) ∧ (r15 = (nI 0) → P (-4) T15)))) ∧ (¬ (i1 ≤ (nI 5)) → P (-1) S))) :
    Ct G l mX4_coast (d + 1) [.ref 0, .int i1] S (QI P) := by
  show Ev G l mX4_coast (d + 1) 0 [some (.ref 0), some (.int i1), none, none] [] S (QI P)
  refine r_iload_n (μ := mX4_coast) (pc := 0) dX4_coast_0 rfl rfl ?_
  refine r_if_lt (μ := mX4_coast) (pc := 1) (tgt := 9) dX4_coast_1 (by decide) ⟨fun q1 => ?_, fun q1 => ?_⟩
  · have h := h.1 q1
    refine r_iconst (μ := mX4_coast) (pc := 9) (v := (-1)) dX4_coast_9 rfl ?_
    exact r_iret (μ := mX4_coast) (pc := 10) dX4_coast_10 rfl h
  · have h := h.2 q1
    refine r_iload_n (μ := mX4_coast) (pc := 4) dX4_coast_4 rfl rfl ?_
    refine r_iconst (μ := mX4_coast) (pc := 5) (v := nI 5) dX4_coast_5 rfl ?_
    refine r_icmp_le (μ := mX4_coast) (pc := 6) (tgt := 11) dX4_coast_6 (by decide) ⟨fun q6 => ?_, fun q6 => ?_⟩
    · have h := h.1 q6
      refine r_aload_n (μ := mX4_coast) (pc := 11) dX4_coast_11 rfl rfl ?_
      refine g_R (μ := mX4_coast) (pc := 12) (k' := 28) fX4_21 dX4_coast_12 rfl rfl ?_
      refine r_callV (μ := mX4_coast) (pc := 15) (as := []) 1 cX4_170 dX4_coast_15 rfl rfl (Nat.le_of_ble_eq_true rfl) rfl okX1_isThere (Nat.lt_succ_self d) (cat8 (n := 0) rfl (by decide)) rfl h (k_I (fun r15 T15 h => ?_))
      refine r_if_ne (μ := mX4_coast) (pc := 18) (tgt := 24) dX4_coast_18 (by decide) ⟨fun q18 => ?_, fun q18 => ?_⟩
      · have h := h.1 q18
        refine r_aload_n (μ := mX4_coast) (pc := 24) dX4_coast_24 rfl rfl ?_
        refine g_R (μ := mX4_coast) (pc := 25) (k' := 28) fX4_21 dX4_coast_25 rfl rfl ?_
        refine g_I (μ := mX4_coast) (pc := 28) fX4_158 dX4_coast_28 rfl ?_
        refine r_istore_n (μ := mX4_coast) (pc := 31) (ls' := [some (.ref 0), some (.int i1), some (.int (T15.1 28 1)), none]) dX4_coast_31 rfl (Nat.le_of_ble_eq_true rfl) rfl rfl ?_
        refine r_aload_n (μ := mX4_coast) (pc := 32) dX4_coast_32 rfl rfl ?_
        refine g_R (μ := mX4_coast) (pc := 33) (k' := 28) fX4_21 dX4_coast_33 rfl rfl ?_
        refine g_I (μ := mX4_coast) (pc := 36) fX4_161 dX4_coast_36 rfl ?_
        refine r_istore_n (μ := mX4_coast) (pc := 39) (ls' := [some (.ref 0), some (.int i1), some (.int (T15.1 28 1)), some (.int (T15.1 28 2))]) dX4_coast_39 rfl (Nat.le_of_ble_eq_true rfl) rfl rfl ?_
        refine r_iload_n (μ := mX4_coast) (pc := 40) dX4_coast_40 rfl rfl ?_
        refine r_ts (μ := mX4_coast) (pc := 41) (td := 108) [(nI 0, 76), (nI 1, 78), (nI 2, 80), (nI 3, 88), (nI 4, 98)] dX4_coast_41 rfl rfl rfl rfl ?_
        refine ⟨fun q41 => ?_, fun q41 => ?_⟩
        · have h := h.1 q41
          refine r_iload_n (μ := mX4_coast) (pc := 76) dX4_coast_76 rfl rfl ?_
          exact r_iret (μ := mX4_coast) (pc := 77) dX4_coast_77 rfl h
        have h := h.2 q41
        refine ⟨fun q41 => ?_, fun q41 => ?_⟩
        · have h := h.1 q41
          refine r_iload_n (μ := mX4_coast) (pc := 78) dX4_coast_78 rfl rfl ?_
          exact r_iret (μ := mX4_coast) (pc := 79) dX4_coast_79 rfl h
        have h := h.2 q41
        refine ⟨fun q41 => ?_, fun q41 => ?_⟩
        · have h := h.1 q41
          refine r_aload_n (μ := mX4_coast) (pc := 80) dX4_coast_80 rfl rfl ?_
          refine g_R (μ := mX4_coast) (pc := 81) (k' := 28) fX4_21 dX4_coast_81 rfl rfl ?_
          refine r_callV (μ := mX4_coast) (pc := 84) (as := []) 1 cX4_146 dX4_coast_84 rfl rfl (Nat.le_of_ble_eq_true rfl) rfl okX1_strip (Nat.lt_succ_self d) (cat8 (n := 0) rfl (by decide)) rfl h (k_I (fun r84 T84 h => ?_))
          exact r_iret (μ := mX4_coast) (pc := 87) dX4_coast_87 rfl h
        have h := h.2 q41
        refine ⟨fun q41 => ?_, fun q41 => ?_⟩
        · have h := h.1 q41
          refine r_aload_n (μ := mX4_coast) (pc := 88) dX4_coast_88 rfl rfl ?_
          refine g_R (μ := mX4_coast) (pc := 89) (k' := 28) fX4_21 dX4_coast_89 rfl rfl ?_
          refine r_iload_n (μ := mX4_coast) (pc := 92) dX4_coast_92 rfl rfl ?_
          refine r_iload_n (μ := mX4_coast) (pc := 93) dX4_coast_93 rfl rfl ?_
          refine r_callV (μ := mX4_coast) (pc := 94) (as := [.int (T15.1 28 1), .int (T15.1 28 2)]) 1 cX4_173 dX4_coast_94 rfl rfl (Nat.le_of_ble_eq_true rfl) rfl okX1_votesBelonging (Nat.lt_succ_self d) (cat8 (n := 0) rfl (by decide)) rfl h (k_I (fun r94 T94 h => ?_))
          exact r_iret (μ := mX4_coast) (pc := 97) dX4_coast_97 rfl h
        have h := h.2 q41
        refine ⟨fun q41 => ?_, fun q41 => ?_⟩
        · have h := h.1 q41
          refine r_aload_n (μ := mX4_coast) (pc := 98) dX4_coast_98 rfl rfl ?_
          refine g_R (μ := mX4_coast) (pc := 99) (k' := 28) fX4_21 dX4_coast_99 rfl rfl ?_
          refine r_iload_n (μ := mX4_coast) (pc := 102) dX4_coast_102 rfl rfl ?_
          refine r_iload_n (μ := mX4_coast) (pc := 103) dX4_coast_103 rfl rfl ?_
          refine r_callV (μ := mX4_coast) (pc := 104) (as := [.int (T15.1 28 1), .int (T15.1 28 2)]) 1 cX4_176 dX4_coast_104 rfl rfl (Nat.le_of_ble_eq_true rfl) rfl okX1_votesOfWest (Nat.lt_succ_self d) (cat8 (n := 0) rfl (by decide)) rfl h (k_I (fun r104 T104 h => ?_))
          exact r_iret (μ := mX4_coast) (pc := 107) dX4_coast_107 rfl h
        have h := h.2 q41
        refine r_aload_n (μ := mX4_coast) (pc := 108) dX4_coast_108 rfl rfl ?_
        refine g_R (μ := mX4_coast) (pc := 109) (k' := 28) fX4_21 dX4_coast_109 rfl rfl ?_
        refine r_iload_n (μ := mX4_coast) (pc := 112) dX4_coast_112 rfl rfl ?_
        refine r_iload_n (μ := mX4_coast) (pc := 113) dX4_coast_113 rfl rfl ?_
        refine r_callV (μ := mX4_coast) (pc := 114) (as := [.int (T15.1 28 1), .int (T15.1 28 2)]) 1 cX4_179 dX4_coast_114 rfl rfl (Nat.le_of_ble_eq_true rfl) rfl okX1_votesOfEast (Nat.lt_succ_self d) (cat8 (n := 0) rfl (by decide)) rfl h (k_I (fun r114 T114 h => ?_))
        exact r_iret (μ := mX4_coast) (pc := 117) dX4_coast_117 rfl h
      · have h := h.2 q18
        refine r_bipush (μ := mX4_coast) (pc := 21) (v := (-4)) dX4_coast_21 rfl ?_
        exact r_iret (μ := mX4_coast) (pc := 23) dX4_coast_23 rfl h
    · have h := h.2 q6
      refine r_iconst (μ := mX4_coast) (pc := 9) (v := (-1)) dX4_coast_9 rfl ?_
      exact r_iret (μ := mX4_coast) (pc := 10) dX4_coast_10 rfl h

set_option maxRecDepth 20000 in
theorem bX4_year_0 {G : Gl} {l : Launch} {d : Nat} {S : Sg} {P : Int32 → Sg → Prop} 
    (h : Ct G l mX1_isThere d [.ref 28] S (QI (fun r4 T4 => (¬ r4 = (nI 0) → Ct G l mX1_hasRoomFor d [.ref 28, .int (nI 1)] T4 (QI (fun r18 T18 => (¬ r18 = (nI 0) → Ct G l mX1_passYear d [.ref 28] T18 (QV (fun T31 => Ct G l mX1_strip d [.ref 28] T31 (QI (fun r38 T38 => P r38 T38))))) ∧ (r18 = (nI 0) → P (-2) T18)))) ∧ (r4 = (nI 0) → P (-4) T4)))) :
    Ct G l mX4_year (d + 1) [.ref 0] S (QI P) := by
  show Ev G l mX4_year (d + 1) 0 [some (.ref 0)] [] S (QI P)
  refine r_aload_n (μ := mX4_year) (pc := 0) dX4_year_0 rfl rfl ?_
  refine g_R (μ := mX4_year) (pc := 1) (k' := 28) fX4_21 dX4_year_1 rfl rfl ?_
  refine r_callV (μ := mX4_year) (pc := 4) (as := []) 1 cX4_170 dX4_year_4 rfl rfl (Nat.le_of_ble_eq_true rfl) rfl okX1_isThere (Nat.lt_succ_self d) (cat8 (n := 0) rfl (by decide)) rfl h (k_I (fun r4 T4 h => ?_))
  refine r_if_ne (μ := mX4_year) (pc := 7) (tgt := 13) dX4_year_7 (by decide) ⟨fun q7 => ?_, fun q7 => ?_⟩
  · have h := h.1 q7
    refine r_aload_n (μ := mX4_year) (pc := 13) dX4_year_13 rfl rfl ?_
    refine g_R (μ := mX4_year) (pc := 14) (k' := 28) fX4_21 dX4_year_14 rfl rfl ?_
    refine r_iconst (μ := mX4_year) (pc := 17) (v := nI 1) dX4_year_17 rfl ?_
    refine r_callV (μ := mX4_year) (pc := 18) (as := [.int (nI 1)]) 1 cX4_182 dX4_year_18 rfl rfl (Nat.le_of_ble_eq_true rfl) rfl okX1_hasRoomFor (Nat.lt_succ_self d) (cat8 (n := 0) rfl (by decide)) rfl h (k_I (fun r18 T18 h => ?_))
    refine r_if_ne (μ := mX4_year) (pc := 21) (tgt := 27) dX4_year_21 (by decide) ⟨fun q21 => ?_, fun q21 => ?_⟩
    · have h := h.1 q21
      refine r_aload_n (μ := mX4_year) (pc := 27) dX4_year_27 rfl rfl ?_
      refine g_R (μ := mX4_year) (pc := 28) (k' := 28) fX4_21 dX4_year_28 rfl rfl ?_
      refine r_callV (μ := mX4_year) (pc := 31) (as := []) 1 cX4_185 dX4_year_31 rfl rfl (Nat.le_of_ble_eq_true rfl) rfl okX1_passYear (Nat.lt_succ_self d) (cat8 (n := 0) rfl (by decide)) rfl h (k_V (fun T31 h => ?_))
      refine r_aload_n (μ := mX4_year) (pc := 34) dX4_year_34 rfl rfl ?_
      refine g_R (μ := mX4_year) (pc := 35) (k' := 28) fX4_21 dX4_year_35 rfl rfl ?_
      refine r_callV (μ := mX4_year) (pc := 38) (as := []) 1 cX4_146 dX4_year_38 rfl rfl (Nat.le_of_ble_eq_true rfl) rfl okX1_strip (Nat.lt_succ_self d) (cat8 (n := 0) rfl (by decide)) rfl h (k_I (fun r38 T38 h => ?_))
      exact r_iret (μ := mX4_year) (pc := 41) dX4_year_41 rfl h
    · have h := h.2 q21
      refine r_bipush (μ := mX4_year) (pc := 24) (v := (-2)) dX4_year_24 rfl ?_
      exact r_iret (μ := mX4_year) (pc := 26) dX4_year_26 rfl h
  · have h := h.2 q7
    refine r_bipush (μ := mX4_year) (pc := 10) (v := (-4)) dX4_year_10 rfl ?_
    exact r_iret (μ := mX4_year) (pc := 12) dX4_year_12 rfl h

set_option maxRecDepth 20000 in
theorem bX4_step_0 {G : Gl} {l : Launch} {d : Nat} {S : Sg} {P : Int32 → Sg → Prop} (i1 : Int32) (i2 : Int32)
    (h : (i1 = (nI 0) → Ev G l mX4_step (d + 1) 9 [some (.ref 0), some (.int i1), some (.int i2)] [] S (QI P)) ∧ (¬ (i1 = (nI 0)) → (¬ i1 = (nI 1) → P (-1) S) ∧ (i1 = (nI 1) → Ev G l mX4_step (d + 1) 9 [some (.ref 0), some (.int i1), some (.int i2)] [] S (QI P)))) :
    Ct G l mX4_step (d + 1) [.ref 0, .int i1, .int i2] S (QI P) := by
  show Ev G l mX4_step (d + 1) 0 [some (.ref 0), some (.int i1), some (.int i2)] [] S (QI P)
  refine r_iload_n (μ := mX4_step) (pc := 0) dX4_step_0 rfl rfl ?_
  refine r_if_eq (μ := mX4_step) (pc := 1) (tgt := 9) dX4_step_1 (by decide) ⟨fun q1 => ?_, fun q1 => ?_⟩
  · have h := h.1 q1
    exact h
  · have h := h.2 q1
    refine r_iload_n (μ := mX4_step) (pc := 4) dX4_step_4 rfl rfl ?_
    refine r_iconst (μ := mX4_step) (pc := 5) (v := nI 1) dX4_step_5 rfl ?_
    refine r_icmp_ne (μ := mX4_step) (pc := 6) (tgt := 19) dX4_step_6 (by decide) ⟨fun q6 => ?_, fun q6 => ?_⟩
    · have h := h.1 q6
      refine r_iconst (μ := mX4_step) (pc := 19) (v := (-1)) dX4_step_19 rfl ?_
      exact r_iret (μ := mX4_step) (pc := 20) dX4_step_20 rfl h
    · have h := h.2 q6
      exact h

set_option maxRecDepth 20000 in
theorem bX4_step_9 {G : Gl} {l : Launch} {d : Nat} {S : Sg} {P : Int32 → Sg → Prop} (i1 : Int32) (i2 : Int32)
    (h : (i2 = (nI 1) → Ev G l mX4_step (d + 1) 21 [some (.ref 0), some (.int i1), some (.int i2)] [] S (QI P)) ∧ (¬ (i2 = (nI 1)) → (i2 = (-1) → Ev G l mX4_step (d + 1) 21 [some (.ref 0), some (.int i1), some (.int i2)] [] S (QI P)) ∧ (¬ (i2 = (-1)) → P (-1) S))) :
    Ev G l mX4_step (d + 1) 9 [some (.ref 0), some (.int i1), some (.int i2)] [] S (QI P) := by
  show Ev G l mX4_step (d + 1) 9 [some (.ref 0), some (.int i1), some (.int i2)] [] S (QI P)
  refine r_iload_n (μ := mX4_step) (pc := 9) dX4_step_9 rfl rfl ?_
  refine r_iconst (μ := mX4_step) (pc := 10) (v := nI 1) dX4_step_10 rfl ?_
  refine r_icmp_eq (μ := mX4_step) (pc := 11) (tgt := 21) dX4_step_11 (by decide) ⟨fun q11 => ?_, fun q11 => ?_⟩
  · have h := h.1 q11
    exact h
  · have h := h.2 q11
    refine r_iload_n (μ := mX4_step) (pc := 14) dX4_step_14 rfl rfl ?_
    refine r_iconst (μ := mX4_step) (pc := 15) (v := (-1)) dX4_step_15 rfl ?_
    refine r_icmp_eq (μ := mX4_step) (pc := 16) (tgt := 21) dX4_step_16 (by decide) ⟨fun q16 => ?_, fun q16 => ?_⟩
    · have h := h.1 q16
      exact h
    · have h := h.2 q16
      refine r_iconst (μ := mX4_step) (pc := 19) (v := (-1)) dX4_step_19 rfl ?_
      exact r_iret (μ := mX4_step) (pc := 20) dX4_step_20 rfl h

set_option maxRecDepth 20000 in
theorem bX4_step_21 {G : Gl} {l : Launch} {d : Nat} {S : Sg} {P : Int32 → Sg → Prop} (i1 : Int32) (i2 : Int32)
    (h : Ct G l mX1_isThere d [.ref 28] S (QI (fun r25 T25 => (r25 = (nI 0) → P (-4) T25) ∧ (¬ (r25 = (nI 0)) → Ct G l mX1_canMove d [.ref 28, .int i1, .int i2, .int (T25.1 28 1), .int (T25.1 28 2)] T25 (QI (fun r51 T51 => (¬ r51 = (nI 0) → Ct G l mX1_hasRoomFor d [.ref 28, .int (nI 1)] T51 (QI (fun r65 T65 => (¬ r65 = (nI 0) → ∀ x79 : Int32, x79 = (if i1 = (nI 0) then (0 - i2) else (nI 0)) → (∀ x90 : Int32, x90 = (if i1 = (nI 1) then i2 else (nI 0)) → (Ct G l mX1_act d [.ref 28, .int x79, .int x90, .int (nI 0), .int (nI 0), .int (nI 0)] T65 (QV (fun T101 => Ct G l mX1_strip d [.ref 28] T101 (QI (fun r108 T108 => P r108 T108))))))) ∧ (r65 = (nI 0) → P (-2) T65)))) ∧ (r51 = (nI 0) → P (-4) T51))))))) :
    Ev G l mX4_step (d + 1) 21 [some (.ref 0), some (.int i1), some (.int i2)] [] S (QI P) := by
  show Ev G l mX4_step (d + 1) 21 [some (.ref 0), some (.int i1), some (.int i2)] [] S (QI P)
  refine r_aload_n (μ := mX4_step) (pc := 21) dX4_step_21 rfl rfl ?_
  refine g_R (μ := mX4_step) (pc := 22) (k' := 28) fX4_21 dX4_step_22 rfl rfl ?_
  refine r_callV (μ := mX4_step) (pc := 25) (as := []) 1 cX4_170 dX4_step_25 rfl rfl (Nat.le_of_ble_eq_true rfl) rfl okX1_isThere (Nat.lt_succ_self d) (cat8 (n := 0) rfl (by decide)) rfl h (k_I (fun r25 T25 h => ?_))
  refine r_if_eq (μ := mX4_step) (pc := 28) (tgt := 57) dX4_step_28 (by decide) ⟨fun q28 => ?_, fun q28 => ?_⟩
  · have h := h.1 q28
    refine r_bipush (μ := mX4_step) (pc := 57) (v := (-4)) dX4_step_57 rfl ?_
    exact r_iret (μ := mX4_step) (pc := 59) dX4_step_59 rfl h
  · have h := h.2 q28
    refine r_aload_n (μ := mX4_step) (pc := 31) dX4_step_31 rfl rfl ?_
    refine g_R (μ := mX4_step) (pc := 32) (k' := 28) fX4_21 dX4_step_32 rfl rfl ?_
    refine r_iload_n (μ := mX4_step) (pc := 35) dX4_step_35 rfl rfl ?_
    refine r_iload_n (μ := mX4_step) (pc := 36) dX4_step_36 rfl rfl ?_
    refine r_aload_n (μ := mX4_step) (pc := 37) dX4_step_37 rfl rfl ?_
    refine g_R (μ := mX4_step) (pc := 38) (k' := 28) fX4_21 dX4_step_38 rfl rfl ?_
    refine g_I (μ := mX4_step) (pc := 41) fX4_158 dX4_step_41 rfl ?_
    refine r_aload_n (μ := mX4_step) (pc := 44) dX4_step_44 rfl rfl ?_
    refine g_R (μ := mX4_step) (pc := 45) (k' := 28) fX4_21 dX4_step_45 rfl rfl ?_
    refine g_I (μ := mX4_step) (pc := 48) fX4_161 dX4_step_48 rfl ?_
    refine r_callV (μ := mX4_step) (pc := 51) (as := [.int i1, .int i2, .int (T25.1 28 1), .int (T25.1 28 2)]) 1 cX4_188 dX4_step_51 rfl rfl (Nat.le_of_ble_eq_true rfl) rfl okX1_canMove (Nat.lt_succ_self d) (cat8 (n := 0) rfl (by decide)) rfl h (k_I (fun r51 T51 h => ?_))
    refine r_if_ne (μ := mX4_step) (pc := 54) (tgt := 60) dX4_step_54 (by decide) ⟨fun q54 => ?_, fun q54 => ?_⟩
    · have h := h.1 q54
      refine r_aload_n (μ := mX4_step) (pc := 60) dX4_step_60 rfl rfl ?_
      refine g_R (μ := mX4_step) (pc := 61) (k' := 28) fX4_21 dX4_step_61 rfl rfl ?_
      refine r_iconst (μ := mX4_step) (pc := 64) (v := nI 1) dX4_step_64 rfl ?_
      refine r_callV (μ := mX4_step) (pc := 65) (as := [.int (nI 1)]) 1 cX4_182 dX4_step_65 rfl rfl (Nat.le_of_ble_eq_true rfl) rfl okX1_hasRoomFor (Nat.lt_succ_self d) (cat8 (n := 0) rfl (by decide)) rfl h (k_I (fun r65 T65 h => ?_))
      refine r_if_ne (μ := mX4_step) (pc := 68) (tgt := 74) dX4_step_68 (by decide) ⟨fun q68 => ?_, fun q68 => ?_⟩
      · have h := h.1 q68
        refine r_aload_n (μ := mX4_step) (pc := 74) dX4_step_74 rfl rfl ?_
        refine g_R (μ := mX4_step) (pc := 75) (k' := 28) fX4_21 dX4_step_75 rfl rfl ?_
        refine r_iload_n (μ := mX4_step) (pc := 78) dX4_step_78 rfl rfl ?_
        have J79 : ∀ x79 : Int32, x79 = (if i1 = (nI 0) then (0 - i2) else (nI 0)) → Ev G l mX4_step (d + 1) 88 [some (.ref 0), some (.int i1), some (.int i2)] [.int x79, .ref 28] T65 (QI P) := by
          intro x79 e79
          have h := h x79 e79
          refine r_iload_n (μ := mX4_step) (pc := 88) dX4_step_88 rfl rfl ?_
          refine r_iconst (μ := mX4_step) (pc := 89) (v := nI 1) dX4_step_89 rfl ?_
          have J90 : ∀ x90 : Int32, x90 = (if i1 = (nI 1) then i2 else (nI 0)) → Ev G l mX4_step (d + 1) 98 [some (.ref 0), some (.int i1), some (.int i2)] [.int x90, .int x79, .ref 28] T65 (QI P) := by
            intro x90 e90
            have h := h x90 e90
            refine r_iconst (μ := mX4_step) (pc := 98) (v := nI 0) dX4_step_98 rfl ?_
            refine r_iconst (μ := mX4_step) (pc := 99) (v := nI 0) dX4_step_99 rfl ?_
            refine r_iconst (μ := mX4_step) (pc := 100) (v := nI 0) dX4_step_100 rfl ?_
            refine r_callV (μ := mX4_step) (pc := 101) (as := [.int x79, .int x90, .int (nI 0), .int (nI 0), .int (nI 0)]) 1 cX4_192 dX4_step_101 rfl rfl (Nat.le_of_ble_eq_true rfl) rfl okX1_act (Nat.lt_succ_self d) (cat8 (n := 0) rfl (by decide)) rfl h (k_V (fun T101 h => ?_))
            refine r_aload_n (μ := mX4_step) (pc := 104) dX4_step_104 rfl rfl ?_
            refine g_R (μ := mX4_step) (pc := 105) (k' := 28) fX4_21 dX4_step_105 rfl rfl ?_
            refine r_callV (μ := mX4_step) (pc := 108) (as := []) 1 cX4_146 dX4_step_108 rfl rfl (Nat.le_of_ble_eq_true rfl) rfl okX1_strip (Nat.lt_succ_self d) (cat8 (n := 0) rfl (by decide)) rfl h (k_I (fun r108 T108 h => ?_))
            exact r_iret (μ := mX4_step) (pc := 111) dX4_step_111 rfl h
          refine r_icmp_ne (μ := mX4_step) (pc := 90) (tgt := 97) dX4_step_90 (by decide) ⟨fun q90 => ?_, fun q90 => ?_⟩
          · refine r_iconst (μ := mX4_step) (pc := 97) (v := nI 0) dX4_step_97 rfl ?_
            exact J90 _ (by first | (rw [if_neg q90]; done) | simp only [if_neg q90])
          · refine r_iload_n (μ := mX4_step) (pc := 93) dX4_step_93 rfl rfl ?_
            refine r_goto (μ := mX4_step) (pc := 94) (tgt := 98) dX4_step_94 (by decide) ?_
            exact J90 _ (by first | (rw [if_pos q90]; done) | simp only [if_pos q90])
        refine r_if_ne (μ := mX4_step) (pc := 79) (tgt := 87) dX4_step_79 (by decide) ⟨fun q79 => ?_, fun q79 => ?_⟩
        · refine r_iconst (μ := mX4_step) (pc := 87) (v := nI 0) dX4_step_87 rfl ?_
          exact J79 _ (by first | (rw [if_neg q79]; done) | simp only [if_neg q79])
        · refine r_iload_n (μ := mX4_step) (pc := 82) dX4_step_82 rfl rfl ?_
          refine r_ineg (μ := mX4_step) (pc := 83) dX4_step_83 ?_
          refine r_goto (μ := mX4_step) (pc := 84) (tgt := 88) dX4_step_84 (by decide) ?_
          exact J79 _ (by first | (rw [if_pos q79]; done) | simp only [if_pos q79])
      · have h := h.2 q68
        refine r_bipush (μ := mX4_step) (pc := 71) (v := (-2)) dX4_step_71 rfl ?_
        exact r_iret (μ := mX4_step) (pc := 73) dX4_step_73 rfl h
    · have h := h.2 q54
      refine r_bipush (μ := mX4_step) (pc := 57) (v := (-4)) dX4_step_57 rfl ?_
      exact r_iret (μ := mX4_step) (pc := 59) dX4_step_59 rfl h

set_option maxRecDepth 20000 in
theorem bX4_walk_0 {G : Gl} {l : Launch} {d : Nat} {S : Sg} {P : Int32 → Sg → Prop} (i1 : Int32) (i2 : Int32)
    (h : Ct G l mX1_hasOne d [.ref 28, .int i1] S (QI (fun r5 T5 => (r5 = (nI 0) → P (-1) T5) ∧ (¬ (r5 = (nI 0)) → Ct G l mX1_hasCell d [.ref 28, .int i2] T5 (QI (fun r16 T16 => (¬ r16 = (nI 0) → ∃ n33 : Nat, ix i1 n33 6 ∧ (((i2 - (T16.1 30 n33)) = (nI 1) → Ev G l mX4_walk (d + 1) 49 [some (.ref 0), some (.int i1), some (.int i2), some (.int (i2 - (T16.1 30 n33)))] [] T16 (QI P)) ∧ (¬ ((i2 - (T16.1 30 n33)) = (nI 1)) → ((i2 - (T16.1 30 n33)) = (-1) → Ev G l mX4_walk (d + 1) 49 [some (.ref 0), some (.int i1), some (.int i2), some (.int (i2 - (T16.1 30 n33)))] [] T16 (QI P)) ∧ (¬ ((i2 - (T16.1 30 n33)) = (-1)) → P (-4) T16)))) ∧ (r16 = (nI 0) → P (-1) T16))))))) :
    Ct G l mX4_walk (d + 1) [.ref 0, .int i1, .int i2] S (QI P) := by
  show Ev G l mX4_walk (d + 1) 0 [some (.ref 0), some (.int i1), some (.int i2), none] [] S (QI P)
  refine r_aload_n (μ := mX4_walk) (pc := 0) dX4_walk_0 rfl rfl ?_
  refine g_R (μ := mX4_walk) (pc := 1) (k' := 28) fX4_21 dX4_walk_1 rfl rfl ?_
  refine r_iload_n (μ := mX4_walk) (pc := 4) dX4_walk_4 rfl rfl ?_
  refine r_callV (μ := mX4_walk) (pc := 5) (as := [.int i1]) 1 cX4_127 dX4_walk_5 rfl rfl (Nat.le_of_ble_eq_true rfl) rfl okX1_hasOne (Nat.lt_succ_self d) (cat8 (n := 0) rfl (by decide)) rfl h (k_I (fun r5 T5 h => ?_))
  refine r_if_eq (μ := mX4_walk) (pc := 8) (tgt := 22) dX4_walk_8 (by decide) ⟨fun q8 => ?_, fun q8 => ?_⟩
  · have h := h.1 q8
    refine r_iconst (μ := mX4_walk) (pc := 22) (v := (-1)) dX4_walk_22 rfl ?_
    exact r_iret (μ := mX4_walk) (pc := 23) dX4_walk_23 rfl h
  · have h := h.2 q8
    refine r_aload_n (μ := mX4_walk) (pc := 11) dX4_walk_11 rfl rfl ?_
    refine g_R (μ := mX4_walk) (pc := 12) (k' := 28) fX4_21 dX4_walk_12 rfl rfl ?_
    refine r_iload_n (μ := mX4_walk) (pc := 15) dX4_walk_15 rfl rfl ?_
    refine r_callV (μ := mX4_walk) (pc := 16) (as := [.int i2]) 1 cX4_196 dX4_walk_16 rfl rfl (Nat.le_of_ble_eq_true rfl) rfl okX1_hasCell (Nat.lt_succ_self d) (cat8 (n := 0) rfl (by decide)) rfl h (k_I (fun r16 T16 h => ?_))
    refine r_if_ne (μ := mX4_walk) (pc := 19) (tgt := 24) dX4_walk_19 (by decide) ⟨fun q19 => ?_, fun q19 => ?_⟩
    · have h := h.1 q19
      refine r_iload_n (μ := mX4_walk) (pc := 24) dX4_walk_24 rfl rfl ?_
      refine r_aload_n (μ := mX4_walk) (pc := 25) dX4_walk_25 rfl rfl ?_
      refine g_R (μ := mX4_walk) (pc := 26) (k' := 28) fX4_21 dX4_walk_26 rfl rfl ?_
      refine g_R (μ := mX4_walk) (pc := 29) (k' := 30) fX4_137 dX4_walk_29 rfl rfl ?_
      refine r_iload_n (μ := mX4_walk) (pc := 32) dX4_walk_32 rfl rfl ?_
      obtain ⟨n33, hx33, h⟩ := h
      refine r_iald (μ := mX4_walk) (pc := 33) dX4_walk_33 rfl hx33 ?_
      refine r_isub (μ := mX4_walk) (pc := 34) dX4_walk_34 ?_
      refine r_istore_n (μ := mX4_walk) (pc := 35) (ls' := [some (.ref 0), some (.int i1), some (.int i2), some (.int (i2 - (T16.1 30 n33)))]) dX4_walk_35 rfl (Nat.le_of_ble_eq_true rfl) rfl rfl ?_
      refine r_iload_n (μ := mX4_walk) (pc := 36) dX4_walk_36 rfl rfl ?_
      refine r_iconst (μ := mX4_walk) (pc := 37) (v := nI 1) dX4_walk_37 rfl ?_
      refine r_icmp_eq (μ := mX4_walk) (pc := 38) (tgt := 49) dX4_walk_38 (by decide) ⟨fun q38 => ?_, fun q38 => ?_⟩
      · have h := h.1 q38
        exact h
      · have h := h.2 q38
        refine r_iload_n (μ := mX4_walk) (pc := 41) dX4_walk_41 rfl rfl ?_
        refine r_iconst (μ := mX4_walk) (pc := 42) (v := (-1)) dX4_walk_42 rfl ?_
        refine r_icmp_eq (μ := mX4_walk) (pc := 43) (tgt := 49) dX4_walk_43 (by decide) ⟨fun q43 => ?_, fun q43 => ?_⟩
        · have h := h.1 q43
          exact h
        · have h := h.2 q43
          refine r_bipush (μ := mX4_walk) (pc := 46) (v := (-4)) dX4_walk_46 rfl ?_
          exact r_iret (μ := mX4_walk) (pc := 48) dX4_walk_48 rfl h
    · have h := h.2 q19
      refine r_iconst (μ := mX4_walk) (pc := 22) (v := (-1)) dX4_walk_22 rfl ?_
      exact r_iret (μ := mX4_walk) (pc := 23) dX4_walk_23 rfl h

set_option maxRecDepth 20000 in
theorem bX4_walk_49 {G : Gl} {l : Launch} {d : Nat} {S : Sg} {P : Int32 → Sg → Prop} (i1 : Int32) (i2 : Int32) (i3 : Int32)
    (h : Ct G l mX1_hasRoomFor d [.ref 28, .int (nI 1)] S (QI (fun r54 T54 => (¬ r54 = (nI 0) → Ct G l mX1_act d [.ref 28, .int (nI 0), .int (nI 0), .int (nI 0), .int i1, .int i3] T54 (QV (fun T72 => Ct G l mX1_belongs d [.ref 28, .int i1] T72 (QI (fun r80 T80 => ∀ x83 : Int32, x83 = (if r80 = (nI 0) then (nI 0) else (nI 1)) → (P x83 T80)))))) ∧ (r54 = (nI 0) → P (-2) T54)))) :
    Ev G l mX4_walk (d + 1) 49 [some (.ref 0), some (.int i1), some (.int i2), some (.int i3)] [] S (QI P) := by
  show Ev G l mX4_walk (d + 1) 49 [some (.ref 0), some (.int i1), some (.int i2), some (.int i3)] [] S (QI P)
  refine r_aload_n (μ := mX4_walk) (pc := 49) dX4_walk_49 rfl rfl ?_
  refine g_R (μ := mX4_walk) (pc := 50) (k' := 28) fX4_21 dX4_walk_50 rfl rfl ?_
  refine r_iconst (μ := mX4_walk) (pc := 53) (v := nI 1) dX4_walk_53 rfl ?_
  refine r_callV (μ := mX4_walk) (pc := 54) (as := [.int (nI 1)]) 1 cX4_182 dX4_walk_54 rfl rfl (Nat.le_of_ble_eq_true rfl) rfl okX1_hasRoomFor (Nat.lt_succ_self d) (cat8 (n := 0) rfl (by decide)) rfl h (k_I (fun r54 T54 h => ?_))
  refine r_if_ne (μ := mX4_walk) (pc := 57) (tgt := 63) dX4_walk_57 (by decide) ⟨fun q57 => ?_, fun q57 => ?_⟩
  · have h := h.1 q57
    refine r_aload_n (μ := mX4_walk) (pc := 63) dX4_walk_63 rfl rfl ?_
    refine g_R (μ := mX4_walk) (pc := 64) (k' := 28) fX4_21 dX4_walk_64 rfl rfl ?_
    refine r_iconst (μ := mX4_walk) (pc := 67) (v := nI 0) dX4_walk_67 rfl ?_
    refine r_iconst (μ := mX4_walk) (pc := 68) (v := nI 0) dX4_walk_68 rfl ?_
    refine r_iconst (μ := mX4_walk) (pc := 69) (v := nI 0) dX4_walk_69 rfl ?_
    refine r_iload_n (μ := mX4_walk) (pc := 70) dX4_walk_70 rfl rfl ?_
    refine r_iload_n (μ := mX4_walk) (pc := 71) dX4_walk_71 rfl rfl ?_
    refine r_callV (μ := mX4_walk) (pc := 72) (as := [.int (nI 0), .int (nI 0), .int (nI 0), .int i1, .int i3]) 1 cX4_192 dX4_walk_72 rfl rfl (Nat.le_of_ble_eq_true rfl) rfl okX1_act (Nat.lt_succ_self d) (cat8 (n := 0) rfl (by decide)) rfl h (k_V (fun T72 h => ?_))
    refine r_aload_n (μ := mX4_walk) (pc := 75) dX4_walk_75 rfl rfl ?_
    refine g_R (μ := mX4_walk) (pc := 76) (k' := 28) fX4_21 dX4_walk_76 rfl rfl ?_
    refine r_iload_n (μ := mX4_walk) (pc := 79) dX4_walk_79 rfl rfl ?_
    refine r_callV (μ := mX4_walk) (pc := 80) (as := [.int i1]) 1 cX4_199 dX4_walk_80 rfl rfl (Nat.le_of_ble_eq_true rfl) rfl okX1_belongs (Nat.lt_succ_self d) (cat8 (n := 0) rfl (by decide)) rfl h (k_I (fun r80 T80 h => ?_))
    have J83 : ∀ x83 : Int32, x83 = (if r80 = (nI 0) then (nI 0) else (nI 1)) → Ev G l mX4_walk (d + 1) 91 [some (.ref 0), some (.int i1), some (.int i2), some (.int i3)] [.int x83] T80 (QI P) := by
      intro x83 e83
      have h := h x83 e83
      exact r_iret (μ := mX4_walk) (pc := 91) dX4_walk_91 rfl h
    refine r_if_eq (μ := mX4_walk) (pc := 83) (tgt := 90) dX4_walk_83 (by decide) ⟨fun q83 => ?_, fun q83 => ?_⟩
    · refine r_iconst (μ := mX4_walk) (pc := 90) (v := nI 0) dX4_walk_90 rfl ?_
      exact J83 _ (by first | (rw [if_pos q83]; done) | simp only [if_pos q83])
    · refine r_iconst (μ := mX4_walk) (pc := 86) (v := nI 1) dX4_walk_86 rfl ?_
      refine r_goto (μ := mX4_walk) (pc := 87) (tgt := 91) dX4_walk_87 (by decide) ?_
      exact J83 _ (by first | (rw [if_neg q83]; done) | simp only [if_neg q83])
  · have h := h.2 q57
    refine r_bipush (μ := mX4_walk) (pc := 60) (v := (-2)) dX4_walk_60 rfl ?_
    exact r_iret (μ := mX4_walk) (pc := 62) dX4_walk_62 rfl h

set_option maxRecDepth 20000 in
theorem bX4_undo_0 {G : Gl} {l : Launch} {d : Nat} {S : Sg} {P : Int32 → Sg → Prop} (i1 : Int32)
    (h : (i1 < (nI 0) → P (-1) S) ∧ (¬ (i1 < (nI 0)) → (i1 ≤ (S.1 34 5) → Ct G l mX1_takeBack d [.ref 28, .int ((S.1 34 5) - i1)] S (QV (fun T38 => P ((S.1 34 5) - i1) T38))) ∧ (¬ (i1 ≤ (S.1 34 5)) → P (-1) S))) :
    Ct G l mX4_undo (d + 1) [.ref 0, .int i1] S (QI P) := by
  show Ev G l mX4_undo (d + 1) 0 [some (.ref 0), some (.int i1), none] [] S (QI P)
  refine r_iload_n (μ := mX4_undo) (pc := 0) dX4_undo_0 rfl rfl ?_
  refine r_if_lt (μ := mX4_undo) (pc := 1) (tgt := 18) dX4_undo_1 (by decide) ⟨fun q1 => ?_, fun q1 => ?_⟩
  · have h := h.1 q1
    refine r_iconst (μ := mX4_undo) (pc := 18) (v := (-1)) dX4_undo_18 rfl ?_
    exact r_iret (μ := mX4_undo) (pc := 19) dX4_undo_19 rfl h
  · have h := h.2 q1
    refine r_iload_n (μ := mX4_undo) (pc := 4) dX4_undo_4 rfl rfl ?_
    refine r_aload_n (μ := mX4_undo) (pc := 5) dX4_undo_5 rfl rfl ?_
    refine g_R (μ := mX4_undo) (pc := 6) (k' := 28) fX4_21 dX4_undo_6 rfl rfl ?_
    refine g_R (μ := mX4_undo) (pc := 9) (k' := 34) fX4_202 dX4_undo_9 rfl rfl ?_
    refine g_I (μ := mX4_undo) (pc := 12) fX4_206 dX4_undo_12 rfl ?_
    refine r_icmp_le (μ := mX4_undo) (pc := 15) (tgt := 20) dX4_undo_15 (by decide) ⟨fun q15 => ?_, fun q15 => ?_⟩
    · have h := h.1 q15
      refine r_aload_n (μ := mX4_undo) (pc := 20) dX4_undo_20 rfl rfl ?_
      refine g_R (μ := mX4_undo) (pc := 21) (k' := 28) fX4_21 dX4_undo_21 rfl rfl ?_
      refine g_R (μ := mX4_undo) (pc := 24) (k' := 34) fX4_202 dX4_undo_24 rfl rfl ?_
      refine g_I (μ := mX4_undo) (pc := 27) fX4_206 dX4_undo_27 rfl ?_
      refine r_iload_n (μ := mX4_undo) (pc := 30) dX4_undo_30 rfl rfl ?_
      refine r_isub (μ := mX4_undo) (pc := 31) dX4_undo_31 ?_
      refine r_istore_n (μ := mX4_undo) (pc := 32) (ls' := [some (.ref 0), some (.int i1), some (.int ((S.1 34 5) - i1))]) dX4_undo_32 rfl (Nat.le_of_ble_eq_true rfl) rfl rfl ?_
      refine r_aload_n (μ := mX4_undo) (pc := 33) dX4_undo_33 rfl rfl ?_
      refine g_R (μ := mX4_undo) (pc := 34) (k' := 28) fX4_21 dX4_undo_34 rfl rfl ?_
      refine r_iload_n (μ := mX4_undo) (pc := 37) dX4_undo_37 rfl rfl ?_
      refine r_callV (μ := mX4_undo) (pc := 38) (as := [.int ((S.1 34 5) - i1)]) 1 cX4_211 dX4_undo_38 rfl rfl (Nat.le_of_ble_eq_true rfl) rfl okX1_takeBack (Nat.lt_succ_self d) (cat8 (n := 0) rfl (by decide)) rfl h (k_V (fun T38 h => ?_))
      refine r_iload_n (μ := mX4_undo) (pc := 41) dX4_undo_41 rfl rfl ?_
      exact r_iret (μ := mX4_undo) (pc := 42) dX4_undo_42 rfl h
    · have h := h.2 q15
      refine r_iconst (μ := mX4_undo) (pc := 18) (v := (-1)) dX4_undo_18 rfl ?_
      exact r_iret (μ := mX4_undo) (pc := 19) dX4_undo_19 rfl h

set_option maxRecDepth 20000 in
theorem bX4_keep_0 {G : Gl} {l : Launch} {d : Nat} {S : Sg} {P : Int32 → Sg → Prop} (i1 : Int32)
    (h : Ct G l mX4_isKept d [.int i1] S (QI (fun r1 T1 => (¬ r1 = (nI 0) → Ct G l mX1_isThere d [.ref 28] T1 (QI (fun r13 T13 => (¬ r13 = (nI 0) → ∃ n27 : Nat, ix i1 n27 3 ∧ (Ct G l mX1_becomeAs d [.ref (52 + 12 * n27), .ref 28] T13 (QV (fun T32 => P (T32.1 34 5) T32)))) ∧ (r13 = (nI 0) → P (-4) T13)))) ∧ (r1 = (nI 0) → P (-1) T1)))) :
    Ct G l mX4_keep (d + 1) [.ref 0, .int i1] S (QI P) := by
  show Ev G l mX4_keep (d + 1) 0 [some (.ref 0), some (.int i1)] [] S (QI P)
  refine r_iload_n (μ := mX4_keep) (pc := 0) dX4_keep_0 rfl rfl ?_
  refine r_callS (μ := mX4_keep) (pc := 1) (as := [.int i1]) cX4_215 dX4_keep_1 rfl okX4_isKept (Nat.lt_succ_self d) (cat8 (n := 0) rfl (by decide)) rfl h (k_I (fun r1 T1 h => ?_))
  refine r_if_ne (μ := mX4_keep) (pc := 4) (tgt := 9) dX4_keep_4 (by decide) ⟨fun q4 => ?_, fun q4 => ?_⟩
  · have h := h.1 q4
    refine r_aload_n (μ := mX4_keep) (pc := 9) dX4_keep_9 rfl rfl ?_
    refine g_R (μ := mX4_keep) (pc := 10) (k' := 28) fX4_21 dX4_keep_10 rfl rfl ?_
    refine r_callV (μ := mX4_keep) (pc := 13) (as := []) 1 cX4_170 dX4_keep_13 rfl rfl (Nat.le_of_ble_eq_true rfl) rfl okX1_isThere (Nat.lt_succ_self d) (cat8 (n := 0) rfl (by decide)) rfl h (k_I (fun r13 T13 h => ?_))
    refine r_if_ne (μ := mX4_keep) (pc := 16) (tgt := 22) dX4_keep_16 (by decide) ⟨fun q16 => ?_, fun q16 => ?_⟩
    · have h := h.1 q16
      refine r_aload_n (μ := mX4_keep) (pc := 22) dX4_keep_22 rfl rfl ?_
      refine g_R (μ := mX4_keep) (pc := 23) (k' := 3) fX4_25 dX4_keep_23 rfl rfl ?_
      refine r_iload_n (μ := mX4_keep) (pc := 26) dX4_keep_26 rfl rfl ?_
      obtain ⟨n27, hx27, h⟩ := h
      refine r_aald (μ := mX4_keep) (pc := 27) (k' := 52 + 12 * n27) dX4_keep_27 (Or.inr rfl) hx27 rfl ?_
      refine r_aload_n (μ := mX4_keep) (pc := 28) dX4_keep_28 rfl rfl ?_
      refine g_R (μ := mX4_keep) (pc := 29) (k' := 28) fX4_21 dX4_keep_29 rfl rfl ?_
      refine r_callV (μ := mX4_keep) (pc := 32) (as := [.ref 28]) 1 cX4_117 dX4_keep_32 rfl (la_kd (la_3 hx27)) (Nat.le_of_ble_eq_true rfl) rfl okX1_becomeAs (Nat.lt_succ_self d) (cat8 (n := 0) rfl (by decide)) rfl h (k_V (fun T32 h => ?_))
      refine r_aload_n (μ := mX4_keep) (pc := 35) dX4_keep_35 rfl rfl ?_
      refine g_R (μ := mX4_keep) (pc := 36) (k' := 28) fX4_21 dX4_keep_36 rfl rfl ?_
      refine g_R (μ := mX4_keep) (pc := 39) (k' := 34) fX4_202 dX4_keep_39 rfl rfl ?_
      refine g_I (μ := mX4_keep) (pc := 42) fX4_206 dX4_keep_42 rfl ?_
      exact r_iret (μ := mX4_keep) (pc := 45) dX4_keep_45 rfl h
    · have h := h.2 q16
      refine r_bipush (μ := mX4_keep) (pc := 19) (v := (-4)) dX4_keep_19 rfl ?_
      exact r_iret (μ := mX4_keep) (pc := 21) dX4_keep_21 rfl h
  · have h := h.2 q4
    refine r_iconst (μ := mX4_keep) (pc := 7) (v := (-1)) dX4_keep_7 rfl ?_
    exact r_iret (μ := mX4_keep) (pc := 8) dX4_keep_8 rfl h

set_option maxRecDepth 20000 in
theorem bX4_on_0 {G : Gl} {l : Launch} {d : Nat} {S : Sg} {P : Int32 → Sg → Prop} (i1 : Int32)
    (h : Ct G l mX4_isKept d [.int i1] S (QI (fun r1 T1 => (¬ r1 = (nI 0) → ∃ n14 : Nat, ix i1 n14 3 ∧ (Ct G l mX1_isThere d [.ref (52 + 12 * n14)] T1 (QI (fun r15 T15 => (¬ r15 = (nI 0) → Ct G l mX1_becomeAs d [.ref 28, .ref (52 + 12 * n14)] T15 (QV (fun T37 => P (T37.1 34 5) T37))) ∧ (r15 = (nI 0) → Ct G l mX4_refuse d [.ref 0, .int (nI 1)] T15 (QI (fun r23 T23 => P r23 T23))))))) ∧ (r1 = (nI 0) → P (-1) T1)))) :
    Ct G l mX4_on (d + 1) [.ref 0, .int i1] S (QI P) := by
  show Ev G l mX4_on (d + 1) 0 [some (.ref 0), some (.int i1)] [] S (QI P)
  refine r_iload_n (μ := mX4_on) (pc := 0) dX4_on_0 rfl rfl ?_
  refine r_callS (μ := mX4_on) (pc := 1) (as := [.int i1]) cX4_215 dX4_on_1 rfl okX4_isKept (Nat.lt_succ_self d) (cat8 (n := 0) rfl (by decide)) rfl h (k_I (fun r1 T1 h => ?_))
  refine r_if_ne (μ := mX4_on) (pc := 4) (tgt := 9) dX4_on_4 (by decide) ⟨fun q4 => ?_, fun q4 => ?_⟩
  · have h := h.1 q4
    refine r_aload_n (μ := mX4_on) (pc := 9) dX4_on_9 rfl rfl ?_
    refine g_R (μ := mX4_on) (pc := 10) (k' := 3) fX4_25 dX4_on_10 rfl rfl ?_
    refine r_iload_n (μ := mX4_on) (pc := 13) dX4_on_13 rfl rfl ?_
    obtain ⟨n14, hx14, h⟩ := h
    refine r_aald (μ := mX4_on) (pc := 14) (k' := 52 + 12 * n14) dX4_on_14 (Or.inr rfl) hx14 rfl ?_
    refine r_callV (μ := mX4_on) (pc := 15) (as := []) 1 cX4_170 dX4_on_15 rfl (la_kd (la_3 hx14)) (Nat.le_of_ble_eq_true rfl) rfl okX1_isThere (Nat.lt_succ_self d) (cat8 (n := 0) rfl (by decide)) rfl h (k_I (fun r15 T15 h => ?_))
    refine r_if_ne (μ := mX4_on) (pc := 18) (tgt := 27) dX4_on_18 (by decide) ⟨fun q18 => ?_, fun q18 => ?_⟩
    · have h := h.1 q18
      refine r_aload_n (μ := mX4_on) (pc := 27) dX4_on_27 rfl rfl ?_
      refine g_R (μ := mX4_on) (pc := 28) (k' := 28) fX4_21 dX4_on_28 rfl rfl ?_
      refine r_aload_n (μ := mX4_on) (pc := 31) dX4_on_31 rfl rfl ?_
      refine g_R (μ := mX4_on) (pc := 32) (k' := 3) fX4_25 dX4_on_32 rfl rfl ?_
      refine r_iload_n (μ := mX4_on) (pc := 35) dX4_on_35 rfl rfl ?_
      refine r_aald (μ := mX4_on) (pc := 36) (k' := 52 + 12 * n14) dX4_on_36 (Or.inr rfl) hx14 rfl ?_
      refine r_callV (μ := mX4_on) (pc := 37) (as := [.ref (52 + 12 * n14)]) 1 cX4_117 dX4_on_37 rfl rfl (Nat.le_of_ble_eq_true rfl) rfl okX1_becomeAs (Nat.lt_succ_self d) (cat8 (n := 0) rfl (by decide)) rfl h (k_V (fun T37 h => ?_))
      refine r_aload_n (μ := mX4_on) (pc := 40) dX4_on_40 rfl rfl ?_
      refine g_R (μ := mX4_on) (pc := 41) (k' := 28) fX4_21 dX4_on_41 rfl rfl ?_
      refine g_R (μ := mX4_on) (pc := 44) (k' := 34) fX4_202 dX4_on_44 rfl rfl ?_
      refine g_I (μ := mX4_on) (pc := 47) fX4_206 dX4_on_47 rfl ?_
      exact r_iret (μ := mX4_on) (pc := 50) dX4_on_50 rfl h
    · have h := h.2 q18
      refine r_aload_n (μ := mX4_on) (pc := 21) dX4_on_21 rfl rfl ?_
      refine r_iconst (μ := mX4_on) (pc := 22) (v := nI 1) dX4_on_22 rfl ?_
      refine r_callV (μ := mX4_on) (pc := 23) (as := [.int (nI 1)]) 4 cX4_67 dX4_on_23 rfl rfl (Nat.le_of_ble_eq_true rfl) rfl okX4_refuse (Nat.lt_succ_self d) (cat8 (n := 0) rfl (by decide)) rfl h (k_I (fun r23 T23 h => ?_))
      exact r_iret (μ := mX4_on) (pc := 26) dX4_on_26 rfl h
  · have h := h.2 q4
    refine r_iconst (μ := mX4_on) (pc := 7) (v := (-1)) dX4_on_7 rfl ?_
    exact r_iret (μ := mX4_on) (pc := 8) dX4_on_8 rfl h

set_option maxRecDepth 20000 in
theorem bX4_belong_0 {G : Gl} {l : Launch} {d : Nat} {S : Sg} {P : Int32 → Sg → Prop} 
    (h : Ct G l mX1_belonging d [.ref 28, .int (S.1 28 1), .int (S.1 28 2)] S (QI (fun r18 T18 => P r18 T18))) :
    Ct G l mX4_belong (d + 1) [.ref 0] S (QI P) := by
  show Ev G l mX4_belong (d + 1) 0 [some (.ref 0)] [] S (QI P)
  refine r_aload_n (μ := mX4_belong) (pc := 0) dX4_belong_0 rfl rfl ?_
  refine g_R (μ := mX4_belong) (pc := 1) (k' := 28) fX4_21 dX4_belong_1 rfl rfl ?_
  refine r_aload_n (μ := mX4_belong) (pc := 4) dX4_belong_4 rfl rfl ?_
  refine g_R (μ := mX4_belong) (pc := 5) (k' := 28) fX4_21 dX4_belong_5 rfl rfl ?_
  refine g_I (μ := mX4_belong) (pc := 8) fX4_158 dX4_belong_8 rfl ?_
  refine r_aload_n (μ := mX4_belong) (pc := 11) dX4_belong_11 rfl rfl ?_
  refine g_R (μ := mX4_belong) (pc := 12) (k' := 28) fX4_21 dX4_belong_12 rfl rfl ?_
  refine g_I (μ := mX4_belong) (pc := 15) fX4_161 dX4_belong_15 rfl ?_
  refine r_callV (μ := mX4_belong) (pc := 18) (as := [.int (S.1 28 1), .int (S.1 28 2)]) 1 cX4_218 dX4_belong_18 rfl rfl (Nat.le_of_ble_eq_true rfl) rfl okX1_belonging (Nat.lt_succ_self d) (cat8 (n := 0) rfl (by decide)) rfl h (k_I (fun r18 T18 h => ?_))
  exact r_iret (μ := mX4_belong) (pc := 21) dX4_belong_21 rfl h

set_option maxRecDepth 20000 in
theorem bX4_laws_0 {G : Gl} {l : Launch} {d : Nat} {S : Sg} {P : Int32 → Sg → Prop} 
    (h : Ct G l mX1_isThere d [.ref 28] S (QI (fun r4 T4 => (¬ r4 = (nI 0) → Ct G l mX1_votesBelonging d [.ref 28, .int (T4.1 28 1), .int (T4.1 28 2)] T4 (QI (fun r52 T52 => Ev G l mX4_laws (d + 1) 61 [some (.ref 0), some (.int ((nI 7) &&& (((T4.1 28 5) ||| (T4.1 28 6)) ^^^ (-1)))), some (.int r52), some (.int (nI 0)), some (.int (nI 1))] [] T52 (QI P)))) ∧ (r4 = (nI 0) → P (-4) T4)))) :
    Ct G l mX4_laws (d + 1) [.ref 0] S (QI P) := by
  show Ev G l mX4_laws (d + 1) 0 [some (.ref 0), none, none, none, none] [] S (QI P)
  refine r_aload_n (μ := mX4_laws) (pc := 0) dX4_laws_0 rfl rfl ?_
  refine g_R (μ := mX4_laws) (pc := 1) (k' := 28) fX4_21 dX4_laws_1 rfl rfl ?_
  refine r_callV (μ := mX4_laws) (pc := 4) (as := []) 1 cX4_170 dX4_laws_4 rfl rfl (Nat.le_of_ble_eq_true rfl) rfl okX1_isThere (Nat.lt_succ_self d) (cat8 (n := 0) rfl (by decide)) rfl h (k_I (fun r4 T4 h => ?_))
  refine r_if_ne (μ := mX4_laws) (pc := 7) (tgt := 13) dX4_laws_7 (by decide) ⟨fun q7 => ?_, fun q7 => ?_⟩
  · have h := h.1 q7
    refine r_bipush (μ := mX4_laws) (pc := 13) (v := nI 7) dX4_laws_13 rfl ?_
    refine r_aload_n (μ := mX4_laws) (pc := 15) dX4_laws_15 rfl rfl ?_
    refine g_R (μ := mX4_laws) (pc := 16) (k' := 28) fX4_21 dX4_laws_16 rfl rfl ?_
    refine g_I (μ := mX4_laws) (pc := 19) fX4_221 dX4_laws_19 rfl ?_
    refine r_aload_n (μ := mX4_laws) (pc := 22) dX4_laws_22 rfl rfl ?_
    refine g_R (μ := mX4_laws) (pc := 23) (k' := 28) fX4_21 dX4_laws_23 rfl rfl ?_
    refine g_I (μ := mX4_laws) (pc := 26) fX4_224 dX4_laws_26 rfl ?_
    refine r_ior (μ := mX4_laws) (pc := 29) dX4_laws_29 ?_
    refine r_iconst (μ := mX4_laws) (pc := 30) (v := (-1)) dX4_laws_30 rfl ?_
    refine r_ixor (μ := mX4_laws) (pc := 31) dX4_laws_31 ?_
    refine r_iand (μ := mX4_laws) (pc := 32) dX4_laws_32 ?_
    refine r_istore_n (μ := mX4_laws) (pc := 33) (ls' := [some (.ref 0), some (.int ((nI 7) &&& (((T4.1 28 5) ||| (T4.1 28 6)) ^^^ (-1)))), none, none, none]) dX4_laws_33 rfl (Nat.le_of_ble_eq_true rfl) rfl rfl ?_
    refine r_aload_n (μ := mX4_laws) (pc := 34) dX4_laws_34 rfl rfl ?_
    refine g_R (μ := mX4_laws) (pc := 35) (k' := 28) fX4_21 dX4_laws_35 rfl rfl ?_
    refine r_aload_n (μ := mX4_laws) (pc := 38) dX4_laws_38 rfl rfl ?_
    refine g_R (μ := mX4_laws) (pc := 39) (k' := 28) fX4_21 dX4_laws_39 rfl rfl ?_
    refine g_I (μ := mX4_laws) (pc := 42) fX4_158 dX4_laws_42 rfl ?_
    refine r_aload_n (μ := mX4_laws) (pc := 45) dX4_laws_45 rfl rfl ?_
    refine g_R (μ := mX4_laws) (pc := 46) (k' := 28) fX4_21 dX4_laws_46 rfl rfl ?_
    refine g_I (μ := mX4_laws) (pc := 49) fX4_161 dX4_laws_49 rfl ?_
    refine r_callV (μ := mX4_laws) (pc := 52) (as := [.int (T4.1 28 1), .int (T4.1 28 2)]) 1 cX4_173 dX4_laws_52 rfl rfl (Nat.le_of_ble_eq_true rfl) rfl okX1_votesBelonging (Nat.lt_succ_self d) (cat8 (n := 0) rfl (by decide)) rfl h (k_I (fun r52 T52 h => ?_))
    refine r_istore_n (μ := mX4_laws) (pc := 55) (ls' := [some (.ref 0), some (.int ((nI 7) &&& (((T4.1 28 5) ||| (T4.1 28 6)) ^^^ (-1)))), some (.int r52), none, none]) dX4_laws_55 rfl (Nat.le_of_ble_eq_true rfl) rfl rfl ?_
    refine r_iconst (μ := mX4_laws) (pc := 56) (v := nI 0) dX4_laws_56 rfl ?_
    refine r_istore_n (μ := mX4_laws) (pc := 57) (ls' := [some (.ref 0), some (.int ((nI 7) &&& (((T4.1 28 5) ||| (T4.1 28 6)) ^^^ (-1)))), some (.int r52), some (.int (nI 0)), none]) dX4_laws_57 rfl (Nat.le_of_ble_eq_true rfl) rfl rfl ?_
    refine r_iconst (μ := mX4_laws) (pc := 58) (v := nI 1) dX4_laws_58 rfl ?_
    refine r_istore (μ := mX4_laws) (pc := 59) (ls' := [some (.ref 0), some (.int ((nI 7) &&& (((T4.1 28 5) ||| (T4.1 28 6)) ^^^ (-1)))), some (.int r52), some (.int (nI 0)), some (.int (nI 1))]) dX4_laws_59 (Nat.le_of_ble_eq_true rfl) rfl rfl ?_
    exact h
  · have h := h.2 q7
    refine r_bipush (μ := mX4_laws) (pc := 10) (v := (-4)) dX4_laws_10 rfl ?_
    exact r_iret (μ := mX4_laws) (pc := 12) dX4_laws_12 rfl h

set_option maxRecDepth 20000 in
theorem bX4_laws_61 {G : Gl} {l : Launch} {d : Nat} {S : Sg} {P : Int32 → Sg → Prop} (i1 : Int32) (i2 : Int32) (i3 : Int32) (i4 : Int32)
    (h : ((nI 7) < i4 → ∀ S106 : Sg, S106 = (u2 S.1 0 9 i3, S.2) → (P i1 S106)) ∧ (¬ ((nI 7) < i4) → ((i1 &&& i4) = (nI 0) → Ev G l mX4_laws (d + 1) 61 [some (.ref 0), some (.int i1), some (.int i2), some (.int i3), some (.int (i4 * (nI 2)))] [] S (QI P)) ∧ (¬ ((i1 &&& i4) = (nI 0)) → Ct G l mX1_votesFor d [.ref 28, .int i4] S (QI (fun r82 T82 => ∀ x87 : Int32, x87 = (if ((nI 2) * r82) ≤ i2 then i3 else (i3 ||| i4)) → (Ev G l mX4_laws (d + 1) 61 [some (.ref 0), some (.int i1), some (.int i2), some (.int x87), some (.int (i4 * (nI 2)))] [] T82 (QI P))))))) :
    Ev G l mX4_laws (d + 1) 61 [some (.ref 0), some (.int i1), some (.int i2), some (.int i3), some (.int i4)] [] S (QI P) := by
  show Ev G l mX4_laws (d + 1) 61 [some (.ref 0), some (.int i1), some (.int i2), some (.int i3), some (.int i4)] [] S (QI P)
  refine r_iload (μ := mX4_laws) (pc := 61) dX4_laws_61 rfl ?_
  refine r_bipush (μ := mX4_laws) (pc := 63) (v := nI 7) dX4_laws_63 rfl ?_
  refine r_icmp_gt (μ := mX4_laws) (pc := 65) (tgt := 104) dX4_laws_65 (by decide) ⟨fun q65 => ?_, fun q65 => ?_⟩
  · have h := h.1 q65
    refine r_aload_n (μ := mX4_laws) (pc := 104) dX4_laws_104 rfl rfl ?_
    refine r_iload_n (μ := mX4_laws) (pc := 105) dX4_laws_105 rfl rfl ?_
    refine p_I (μ := mX4_laws) (pc := 106) fX4_50 wfX4_50 dX4_laws_106 rfl ?_
    refine nm_S (fun S106 eS106 => ?_)
    have h := h S106 eS106
    refine r_iload_n (μ := mX4_laws) (pc := 109) dX4_laws_109 rfl rfl ?_
    exact r_iret (μ := mX4_laws) (pc := 110) dX4_laws_110 rfl h
  · have h := h.2 q65
    refine r_iload_n (μ := mX4_laws) (pc := 68) dX4_laws_68 rfl rfl ?_
    refine r_iload (μ := mX4_laws) (pc := 69) dX4_laws_69 rfl ?_
    refine r_iand (μ := mX4_laws) (pc := 71) dX4_laws_71 ?_
    refine r_if_eq (μ := mX4_laws) (pc := 72) (tgt := 95) dX4_laws_72 (by decide) ⟨fun q72 => ?_, fun q72 => ?_⟩
    · have h := h.1 q72
      refine r_iload (μ := mX4_laws) (pc := 95) dX4_laws_95 rfl ?_
      refine r_iconst (μ := mX4_laws) (pc := 97) (v := nI 2) dX4_laws_97 rfl ?_
      refine r_imul (μ := mX4_laws) (pc := 98) dX4_laws_98 ?_
      refine r_istore (μ := mX4_laws) (pc := 99) (ls' := [some (.ref 0), some (.int i1), some (.int i2), some (.int i3), some (.int (i4 * (nI 2)))]) dX4_laws_99 (Nat.le_of_ble_eq_true rfl) rfl rfl ?_
      refine r_goto (μ := mX4_laws) (pc := 101) (tgt := 61) dX4_laws_101 (by decide) ?_
      exact h
    · have h := h.2 q72
      refine r_iconst (μ := mX4_laws) (pc := 75) (v := nI 2) dX4_laws_75 rfl ?_
      refine r_aload_n (μ := mX4_laws) (pc := 76) dX4_laws_76 rfl rfl ?_
      refine g_R (μ := mX4_laws) (pc := 77) (k' := 28) fX4_21 dX4_laws_77 rfl rfl ?_
      refine r_iload (μ := mX4_laws) (pc := 80) dX4_laws_80 rfl ?_
      refine r_callV (μ := mX4_laws) (pc := 82) (as := [.int i4]) 1 cX4_227 dX4_laws_82 rfl rfl (Nat.le_of_ble_eq_true rfl) rfl okX1_votesFor (Nat.lt_succ_self d) (cat8 (n := 1) rfl (by decide)) rfl h (k_I (fun r82 T82 h => ?_))
      refine r_imul (μ := mX4_laws) (pc := 85) dX4_laws_85 ?_
      refine r_iload_n (μ := mX4_laws) (pc := 86) dX4_laws_86 rfl rfl ?_
      have J87 : ∀ x87 : Int32, x87 = (if ((nI 2) * r82) ≤ i2 then i3 else (i3 ||| i4)) → Ev G l mX4_laws (d + 1) 95 [some (.ref 0), some (.int i1), some (.int i2), some (.int x87), some (.int i4)] [] T82 (QI P) := by
        intro x87 e87
        have h := h x87 e87
        refine r_iload (μ := mX4_laws) (pc := 95) dX4_laws_95 rfl ?_
        refine r_iconst (μ := mX4_laws) (pc := 97) (v := nI 2) dX4_laws_97 rfl ?_
        refine r_imul (μ := mX4_laws) (pc := 98) dX4_laws_98 ?_
        refine r_istore (μ := mX4_laws) (pc := 99) (ls' := [some (.ref 0), some (.int i1), some (.int i2), some (.int x87), some (.int (i4 * (nI 2)))]) dX4_laws_99 (Nat.le_of_ble_eq_true rfl) rfl rfl ?_
        refine r_goto (μ := mX4_laws) (pc := 101) (tgt := 61) dX4_laws_101 (by decide) ?_
        exact h
      refine r_icmp_le (μ := mX4_laws) (pc := 87) (tgt := 95) dX4_laws_87 (by decide) ⟨fun q87 => ?_, fun q87 => ?_⟩
      · exact J87 _ (by first | (rw [if_pos q87]; done) | simp only [if_pos q87])
      · refine r_iload_n (μ := mX4_laws) (pc := 90) dX4_laws_90 rfl rfl ?_
        refine r_iload (μ := mX4_laws) (pc := 91) dX4_laws_91 rfl ?_
        refine r_ior (μ := mX4_laws) (pc := 93) dX4_laws_93 ?_
        refine r_istore_n (μ := mX4_laws) (pc := 94) (ls' := [some (.ref 0), some (.int i1), some (.int i2), some (.int (i3 ||| i4)), some (.int i4)]) dX4_laws_94 rfl (Nat.le_of_ble_eq_true rfl) rfl rfl ?_
        exact J87 _ (by first | (rw [if_neg q87]; done) | simp only [if_neg q87])

set_option maxRecDepth 20000 in
theorem bX4_seats_0 {G : Gl} {l : Launch} {d : Nat} {S : Sg} {P : Int32 → Sg → Prop} (i1 : Int32) (i2 : Int32)
    (h : (i1 < (nI 0) → P (-1) S) ∧ (¬ (i1 < (nI 0)) → ((nI 20) < i1 → P (-1) S) ∧ (¬ ((nI 20) < i1) → Ct G l mX4_isRow d [.int i2] S (QI (fun r11 T11 => (¬ r11 = (nI 0) → Ct G l mX1_isThere d [.ref 28] T11 (QI (fun r23 T23 => (¬ r23 = (nI 0) → ∃ n37 : Nat, ix i2 n37 6 ∧ (Ct G l mX3_layAnew d [.ref (8 + n37), .int (T23.1 28 8), .int (nI 0)] T23 (QV (fun T48 => Ev G l mX4_seats (d + 1) 57 [some (.ref 0), some (.int i1), some (.int i2), some (.ref (8 + n37)), some (.int (nI 0)), some (.int (nI 0)), none] [] T48 (QI P))))) ∧ (r23 = (nI 0) → P (-4) T23)))) ∧ (r11 = (nI 0) → P (-1) T11)))))) :
    Ct G l mX4_seats (d + 1) [.ref 0, .int i1, .int i2] S (QI P) := by
  show Ev G l mX4_seats (d + 1) 0 [some (.ref 0), some (.int i1), some (.int i2), none, none, none, none] [] S (QI P)
  refine r_iload_n (μ := mX4_seats) (pc := 0) dX4_seats_0 rfl rfl ?_
  refine r_if_lt (μ := mX4_seats) (pc := 1) (tgt := 17) dX4_seats_1 (by decide) ⟨fun q1 => ?_, fun q1 => ?_⟩
  · have h := h.1 q1
    refine r_iconst (μ := mX4_seats) (pc := 17) (v := (-1)) dX4_seats_17 rfl ?_
    exact r_iret (μ := mX4_seats) (pc := 18) dX4_seats_18 rfl h
  · have h := h.2 q1
    refine r_iload_n (μ := mX4_seats) (pc := 4) dX4_seats_4 rfl rfl ?_
    refine r_bipush (μ := mX4_seats) (pc := 5) (v := nI 20) dX4_seats_5 rfl ?_
    refine r_icmp_gt (μ := mX4_seats) (pc := 7) (tgt := 17) dX4_seats_7 (by decide) ⟨fun q7 => ?_, fun q7 => ?_⟩
    · have h := h.1 q7
      refine r_iconst (μ := mX4_seats) (pc := 17) (v := (-1)) dX4_seats_17 rfl ?_
      exact r_iret (μ := mX4_seats) (pc := 18) dX4_seats_18 rfl h
    · have h := h.2 q7
      refine r_iload_n (μ := mX4_seats) (pc := 10) dX4_seats_10 rfl rfl ?_
      refine r_callS (μ := mX4_seats) (pc := 11) (as := [.int i2]) cX4_63 dX4_seats_11 rfl okX4_isRow (Nat.lt_succ_self d) (cat8 (n := 0) rfl (by decide)) rfl h (k_I (fun r11 T11 h => ?_))
      refine r_if_ne (μ := mX4_seats) (pc := 14) (tgt := 19) dX4_seats_14 (by decide) ⟨fun q14 => ?_, fun q14 => ?_⟩
      · have h := h.1 q14
        refine r_aload_n (μ := mX4_seats) (pc := 19) dX4_seats_19 rfl rfl ?_
        refine g_R (μ := mX4_seats) (pc := 20) (k' := 28) fX4_21 dX4_seats_20 rfl rfl ?_
        refine r_callV (μ := mX4_seats) (pc := 23) (as := []) 1 cX4_170 dX4_seats_23 rfl rfl (Nat.le_of_ble_eq_true rfl) rfl okX1_isThere (Nat.lt_succ_self d) (cat8 (n := 0) rfl (by decide)) rfl h (k_I (fun r23 T23 h => ?_))
        refine r_if_ne (μ := mX4_seats) (pc := 26) (tgt := 32) dX4_seats_26 (by decide) ⟨fun q26 => ?_, fun q26 => ?_⟩
        · have h := h.1 q26
          refine r_aload_n (μ := mX4_seats) (pc := 32) dX4_seats_32 rfl rfl ?_
          refine g_R (μ := mX4_seats) (pc := 33) (k' := 1) fX4_11 dX4_seats_33 rfl rfl ?_
          refine r_iload_n (μ := mX4_seats) (pc := 36) dX4_seats_36 rfl rfl ?_
          obtain ⟨n37, hx37, h⟩ := h
          refine r_aald (μ := mX4_seats) (pc := 37) (k' := 8 + n37) dX4_seats_37 (Or.inl rfl) hx37 rfl ?_
          refine r_astore_n (μ := mX4_seats) (pc := 38) (ls' := [some (.ref 0), some (.int i1), some (.int i2), some (.ref (8 + n37)), none, none, none]) dX4_seats_38 rfl (Nat.le_of_ble_eq_true rfl) rfl rfl ?_
          refine r_aload_n (μ := mX4_seats) (pc := 39) dX4_seats_39 rfl rfl ?_
          refine r_aload_n (μ := mX4_seats) (pc := 40) dX4_seats_40 rfl rfl ?_
          refine g_R (μ := mX4_seats) (pc := 41) (k' := 28) fX4_21 dX4_seats_41 rfl rfl ?_
          refine g_I (μ := mX4_seats) (pc := 44) fX4_124 dX4_seats_44 rfl ?_
          refine r_iconst (μ := mX4_seats) (pc := 47) (v := nI 0) dX4_seats_47 rfl ?_
          refine r_callV (μ := mX4_seats) (pc := 48) (as := [.int (T23.1 28 8), .int (nI 0)]) 3 cX4_71 dX4_seats_48 rfl (ra_kd (ra_1 hx37)) (Nat.le_of_ble_eq_true rfl) rfl okX3_layAnew (Nat.lt_succ_self d) (cat8 (n := 0) rfl (by decide)) rfl h (k_V (fun T48 h => ?_))
          refine r_iconst (μ := mX4_seats) (pc := 51) (v := nI 0) dX4_seats_51 rfl ?_
          refine r_istore (μ := mX4_seats) (pc := 52) (ls' := [some (.ref 0), some (.int i1), some (.int i2), some (.ref (8 + n37)), some (.int (nI 0)), none, none]) dX4_seats_52 (Nat.le_of_ble_eq_true rfl) rfl rfl ?_
          refine r_iconst (μ := mX4_seats) (pc := 54) (v := nI 0) dX4_seats_54 rfl ?_
          refine r_istore (μ := mX4_seats) (pc := 55) (ls' := [some (.ref 0), some (.int i1), some (.int i2), some (.ref (8 + n37)), some (.int (nI 0)), some (.int (nI 0)), none]) dX4_seats_55 (Nat.le_of_ble_eq_true rfl) rfl rfl ?_
          exact h
        · have h := h.2 q26
          refine r_bipush (μ := mX4_seats) (pc := 29) (v := (-4)) dX4_seats_29 rfl ?_
          exact r_iret (μ := mX4_seats) (pc := 31) dX4_seats_31 rfl h
      · have h := h.2 q14
        refine r_iconst (μ := mX4_seats) (pc := 17) (v := (-1)) dX4_seats_17 rfl ?_
        exact r_iret (μ := mX4_seats) (pc := 18) dX4_seats_18 rfl h

set_option maxRecDepth 20000 in
theorem bX4_seats_57 {G : Gl} {l : Launch} {d : Nat} {S : Sg} {P : Int32 → Sg → Prop} (i1 : Int32) (i2 : Int32) (R3 : Nat) (hR3 : RowAt R3) (i4 : Int32) (i5 : Int32)
    (h : (i1 ≤ i5 → P i4 S) ∧ (¬ (i1 ≤ i5) → Ct G l mX4_nextSeated d [.ref 0, .ref R3] S (QI (fun r65 T65 => (r65 < (nI 0) → Ev G l mX4_seats (d + 1) 57 [some (.ref 0), some (.int i1), some (.int i2), some (.ref R3), some (.int i4), some (.int (i5 + (nI 1))), none] [] T65 (QI P)) ∧ (¬ (r65 < (nI 0)) → ∃ n82 : Nat, ix r65 n82 (ln (R3 + 10)) ∧ (∀ S85 : Sg, S85 = (u2 T65.1 (R3 + 10) n82 ((T65.1 (R3 + 10) n82) + (nI 1)), T65.2) → (Ev G l mX4_seats (d + 1) 57 [some (.ref 0), some (.int i1), some (.int i2), some (.ref R3), some (.int (i4 + (nI 1))), some (.int (i5 + (nI 1))), none] [] S85 (QI P)))))))) :
    Ev G l mX4_seats (d + 1) 57 [some (.ref 0), some (.int i1), some (.int i2), some (.ref R3), some (.int i4), some (.int i5), none] [] S (QI P) := by
  show Ev G l mX4_seats (d + 1) 57 [some (.ref 0), some (.int i1), some (.int i2), some (.ref R3), some (.int i4), some (.int i5), none] [] S (QI P)
  refine r_iload (μ := mX4_seats) (pc := 57) dX4_seats_57 rfl ?_
  refine r_iload_n (μ := mX4_seats) (pc := 59) dX4_seats_59 rfl rfl ?_
  refine r_icmp_ge (μ := mX4_seats) (pc := 60) (tgt := 95) dX4_seats_60 (by decide) ⟨fun q60 => ?_, fun q60 => ?_⟩
  · have h := h.1 q60
    refine r_iload (μ := mX4_seats) (pc := 95) dX4_seats_95 rfl ?_
    exact r_iret (μ := mX4_seats) (pc := 97) dX4_seats_97 rfl h
  · have h := h.2 q60
    refine r_aload_n (μ := mX4_seats) (pc := 63) dX4_seats_63 rfl rfl ?_
    refine r_aload_n (μ := mX4_seats) (pc := 64) dX4_seats_64 rfl rfl ?_
    refine r_callV (μ := mX4_seats) (pc := 65) (as := [.ref R3]) 4 cX4_230 dX4_seats_65 rfl rfl (Nat.le_of_ble_eq_true rfl) rfl okX4_nextSeated (Nat.lt_succ_self d) (cat8 (n := 0) rfl (by decide)) rfl h (k_I (fun r65 T65 h => ?_))
    refine r_istore (μ := mX4_seats) (pc := 68) (ls' := [some (.ref 0), some (.int i1), some (.int i2), some (.ref R3), some (.int i4), some (.int i5), some (.int r65)]) dX4_seats_68 (Nat.le_of_ble_eq_true rfl) rfl rfl ?_
    refine r_iload (μ := mX4_seats) (pc := 70) dX4_seats_70 rfl ?_
    refine r_if_lt (μ := mX4_seats) (pc := 72) (tgt := 89) dX4_seats_72 (by decide) ⟨fun q72 => ?_, fun q72 => ?_⟩
    · have h := h.1 q72
      refine r_iinc (μ := mX4_seats) (pc := 89) (y := nI 1) (ls' := [some (.ref 0), some (.int i1), some (.int i2), some (.ref R3), some (.int i4), some (.int (i5 + (nI 1))), some (.int r65)]) dX4_seats_89 rfl rfl (Nat.le_of_ble_eq_true rfl) rfl rfl ?_
      refine r_goto (μ := mX4_seats) (pc := 92) (tgt := 57) dX4_seats_92 (by decide) ?_
      exact Ev.sub (ls' := [some (.ref 0), some (.int i1), some (.int i2), some (.ref R3), some (.int i4), some (.int (i5 + (nI 1))), none]) (ls_s (ls_s (ls_s (ls_s (ls_s (ls_s (ls_n ls_0))))))) h
    · have h := h.2 q72
      refine r_aload_n (μ := mX4_seats) (pc := 75) dX4_seats_75 rfl rfl ?_
      refine g_R (μ := mX4_seats) (pc := 76) (k' := R3 + 10) fX4_79 dX4_seats_76 (ra_kd hR3) (ra_rf hR3) ?_
      refine r_iload (μ := mX4_seats) (pc := 79) dX4_seats_79 rfl ?_
      refine r_dup2_11 (μ := mX4_seats) (pc := 81) dX4_seats_81 rfl rfl ?_
      obtain ⟨n82, hx82, h⟩ := h
      refine r_iald (μ := mX4_seats) (pc := 82) dX4_seats_82 (ra_k hR3) hx82 ?_
      refine r_iconst (μ := mX4_seats) (pc := 83) (v := nI 1) dX4_seats_83 rfl ?_
      refine r_iadd (μ := mX4_seats) (pc := 84) dX4_seats_84 ?_
      refine r_iast (μ := mX4_seats) (pc := 85) dX4_seats_85 (ra_k hR3) hx82 ?_
      refine nm_S (fun S85 eS85 => ?_)
      have h := h S85 eS85
      refine r_iinc (μ := mX4_seats) (pc := 86) (y := nI 1) (ls' := [some (.ref 0), some (.int i1), some (.int i2), some (.ref R3), some (.int (i4 + (nI 1))), some (.int i5), some (.int r65)]) dX4_seats_86 rfl rfl (Nat.le_of_ble_eq_true rfl) rfl rfl ?_
      refine r_iinc (μ := mX4_seats) (pc := 89) (y := nI 1) (ls' := [some (.ref 0), some (.int i1), some (.int i2), some (.ref R3), some (.int (i4 + (nI 1))), some (.int (i5 + (nI 1))), some (.int r65)]) dX4_seats_89 rfl rfl (Nat.le_of_ble_eq_true rfl) rfl rfl ?_
      refine r_goto (μ := mX4_seats) (pc := 92) (tgt := 57) dX4_seats_92 (by decide) ?_
      exact Ev.sub (ls' := [some (.ref 0), some (.int i1), some (.int i2), some (.ref R3), some (.int (i4 + (nI 1))), some (.int (i5 + (nI 1))), none]) (ls_s (ls_s (ls_s (ls_s (ls_s (ls_s (ls_n ls_0))))))) h

set_option maxRecDepth 20000 in
theorem bX4_fewest_0 {G : Gl} {l : Launch} {d : Nat} {S : Sg} {P : Int32 → Sg → Prop} 
    (h : Ct G l mX1_isThere d [.ref 28] S (QI (fun r4 T4 => (¬ r4 = (nI 0) → Ct G l mX4_belong d [.ref 0] T4 (QI (fun r14 T14 => Ct G l mX1_votesOf d [.ref 28, .int r14] T14 (QI (fun r23 T23 => Ev G l mX4_fewest (d + 1) 32 [some (.ref 0), some (.int r14), some (.int r23), some (.int (nI 0)), some (.int (nI 1))] [] T23 (QI P)))))) ∧ (r4 = (nI 0) → P (-4) T4)))) :
    Ct G l mX4_fewest (d + 1) [.ref 0] S (QI P) := by
  show Ev G l mX4_fewest (d + 1) 0 [some (.ref 0), none, none, none, none] [] S (QI P)
  refine r_aload_n (μ := mX4_fewest) (pc := 0) dX4_fewest_0 rfl rfl ?_
  refine g_R (μ := mX4_fewest) (pc := 1) (k' := 28) fX4_21 dX4_fewest_1 rfl rfl ?_
  refine r_callV (μ := mX4_fewest) (pc := 4) (as := []) 1 cX4_170 dX4_fewest_4 rfl rfl (Nat.le_of_ble_eq_true rfl) rfl okX1_isThere (Nat.lt_succ_self d) (cat8 (n := 0) rfl (by decide)) rfl h (k_I (fun r4 T4 h => ?_))
  refine r_if_ne (μ := mX4_fewest) (pc := 7) (tgt := 13) dX4_fewest_7 (by decide) ⟨fun q7 => ?_, fun q7 => ?_⟩
  · have h := h.1 q7
    refine r_aload_n (μ := mX4_fewest) (pc := 13) dX4_fewest_13 rfl rfl ?_
    refine r_callV (μ := mX4_fewest) (pc := 14) (as := []) 4 cX4_234 dX4_fewest_14 rfl rfl (Nat.le_of_ble_eq_true rfl) rfl okX4_belong (Nat.lt_succ_self d) (cat8 (n := 0) rfl (by decide)) rfl h (k_I (fun r14 T14 h => ?_))
    refine r_istore_n (μ := mX4_fewest) (pc := 17) (ls' := [some (.ref 0), some (.int r14), none, none, none]) dX4_fewest_17 rfl (Nat.le_of_ble_eq_true rfl) rfl rfl ?_
    refine r_aload_n (μ := mX4_fewest) (pc := 18) dX4_fewest_18 rfl rfl ?_
    refine g_R (μ := mX4_fewest) (pc := 19) (k' := 28) fX4_21 dX4_fewest_19 rfl rfl ?_
    refine r_iload_n (μ := mX4_fewest) (pc := 22) dX4_fewest_22 rfl rfl ?_
    refine r_callV (μ := mX4_fewest) (pc := 23) (as := [.int r14]) 1 cX4_237 dX4_fewest_23 rfl rfl (Nat.le_of_ble_eq_true rfl) rfl okX1_votesOf (Nat.lt_succ_self d) (cat8 (n := 0) rfl (by decide)) rfl h (k_I (fun r23 T23 h => ?_))
    refine r_istore_n (μ := mX4_fewest) (pc := 26) (ls' := [some (.ref 0), some (.int r14), some (.int r23), none, none]) dX4_fewest_26 rfl (Nat.le_of_ble_eq_true rfl) rfl rfl ?_
    refine r_iconst (μ := mX4_fewest) (pc := 27) (v := nI 0) dX4_fewest_27 rfl ?_
    refine r_istore_n (μ := mX4_fewest) (pc := 28) (ls' := [some (.ref 0), some (.int r14), some (.int r23), some (.int (nI 0)), none]) dX4_fewest_28 rfl (Nat.le_of_ble_eq_true rfl) rfl rfl ?_
    refine r_iconst (μ := mX4_fewest) (pc := 29) (v := nI 1) dX4_fewest_29 rfl ?_
    refine r_istore (μ := mX4_fewest) (pc := 30) (ls' := [some (.ref 0), some (.int r14), some (.int r23), some (.int (nI 0)), some (.int (nI 1))]) dX4_fewest_30 (Nat.le_of_ble_eq_true rfl) rfl rfl ?_
    exact h
  · have h := h.2 q7
    refine r_bipush (μ := mX4_fewest) (pc := 10) (v := (-4)) dX4_fewest_10 rfl ?_
    exact r_iret (μ := mX4_fewest) (pc := 12) dX4_fewest_12 rfl h

set_option maxRecDepth 20000 in
theorem bX4_fewest_32 {G : Gl} {l : Launch} {d : Nat} {S : Sg} {P : Int32 → Sg → Prop} (i1 : Int32) (i2 : Int32) (i3 : Int32) (i4 : Int32)
    (h : (i1 < i4 → (¬ i3 = (nI 0) → ∀ S96 : Sg, S96 = (u2 S.1 0 9 i3, S.2) → (Ct G l mJ6_bitCount_0f7a4 d [.int i3] S96 (QI (fun r100 T100 => P r100 T100)))) ∧ (i3 = (nI 0) → P (-9) S)) ∧ (¬ (i1 < i4) → (¬ (i4 &&& (i1 ^^^ (-1))) = (nI 0) → Ev G l mX4_fewest (d + 1) 32 [some (.ref 0), some (.int i1), some (.int i2), some (.int i3), some (.int (i4 + (nI 1)))] [] S (QI P)) ∧ ((i4 &&& (i1 ^^^ (-1))) = (nI 0) → Ct G l mX1_votesOf d [.ref 28, .int i4] S (QI (fun r54 T54 => (((nI 2) * r54) ≤ i2 → Ev G l mX4_fewest (d + 1) 32 [some (.ref 0), some (.int i1), some (.int i2), some (.int i3), some (.int (i4 + (nI 1)))] [] T54 (QI P)) ∧ (¬ (((nI 2) * r54) ≤ i2) → (i3 = (nI 0) → Ev G l mX4_fewest (d + 1) 32 [some (.ref 0), some (.int i1), some (.int i2), some (.int i4), some (.int (i4 + (nI 1)))] [] T54 (QI P)) ∧ (¬ (i3 = (nI 0)) → Ct G l mJ6_bitCount_0f7a4 d [.int i4] T54 (QI (fun r68 T68 => Ct G l mJ6_bitCount_0f7a4 d [.int i3] T68 (QI (fun r72 T72 => ∀ x75 : Int32, x75 = (if r72 ≤ r68 then i3 else i4) → (Ev G l mX4_fewest (d + 1) 32 [some (.ref 0), some (.int i1), some (.int i2), some (.int x75), some (.int (i4 + (nI 1)))] [] T72 (QI P))))))))))))) :
    Ev G l mX4_fewest (d + 1) 32 [some (.ref 0), some (.int i1), some (.int i2), some (.int i3), some (.int i4)] [] S (QI P) := by
  show Ev G l mX4_fewest (d + 1) 32 [some (.ref 0), some (.int i1), some (.int i2), some (.int i3), some (.int i4)] [] S (QI P)
  refine r_iload (μ := mX4_fewest) (pc := 32) dX4_fewest_32 rfl ?_
  refine r_iload_n (μ := mX4_fewest) (pc := 34) dX4_fewest_34 rfl rfl ?_
  refine r_icmp_gt (μ := mX4_fewest) (pc := 35) (tgt := 87) dX4_fewest_35 (by decide) ⟨fun q35 => ?_, fun q35 => ?_⟩
  · have h := h.1 q35
    refine r_iload_n (μ := mX4_fewest) (pc := 87) dX4_fewest_87 rfl rfl ?_
    refine r_if_ne (μ := mX4_fewest) (pc := 88) (tgt := 94) dX4_fewest_88 (by decide) ⟨fun q88 => ?_, fun q88 => ?_⟩
    · have h := h.1 q88
      refine r_aload_n (μ := mX4_fewest) (pc := 94) dX4_fewest_94 rfl rfl ?_
      refine r_iload_n (μ := mX4_fewest) (pc := 95) dX4_fewest_95 rfl rfl ?_
      refine p_I (μ := mX4_fewest) (pc := 96) fX4_50 wfX4_50 dX4_fewest_96 rfl ?_
      refine nm_S (fun S96 eS96 => ?_)
      have h := h S96 eS96
      refine r_iload_n (μ := mX4_fewest) (pc := 99) dX4_fewest_99 rfl rfl ?_
      refine r_callS (μ := mX4_fewest) (pc := 100) (as := [.int i3]) cX4_240 dX4_fewest_100 rfl okJ6_bitCount_0f7a4 (Nat.lt_succ_self d) (cat8 (n := 0) rfl (by decide)) rfl h (k_I (fun r100 T100 h => ?_))
      exact r_iret (μ := mX4_fewest) (pc := 103) dX4_fewest_103 rfl h
    · have h := h.2 q88
      refine r_bipush (μ := mX4_fewest) (pc := 91) (v := (-9)) dX4_fewest_91 rfl ?_
      exact r_iret (μ := mX4_fewest) (pc := 93) dX4_fewest_93 rfl h
  · have h := h.2 q35
    refine r_iload (μ := mX4_fewest) (pc := 38) dX4_fewest_38 rfl ?_
    refine r_iload_n (μ := mX4_fewest) (pc := 40) dX4_fewest_40 rfl rfl ?_
    refine r_iconst (μ := mX4_fewest) (pc := 41) (v := (-1)) dX4_fewest_41 rfl ?_
    refine r_ixor (μ := mX4_fewest) (pc := 42) dX4_fewest_42 ?_
    refine r_iand (μ := mX4_fewest) (pc := 43) dX4_fewest_43 ?_
    refine r_if_ne (μ := mX4_fewest) (pc := 44) (tgt := 81) dX4_fewest_44 (by decide) ⟨fun q44 => ?_, fun q44 => ?_⟩
    · have h := h.1 q44
      refine r_iinc (μ := mX4_fewest) (pc := 81) (y := nI 1) (ls' := [some (.ref 0), some (.int i1), some (.int i2), some (.int i3), some (.int (i4 + (nI 1)))]) dX4_fewest_81 rfl rfl (Nat.le_of_ble_eq_true rfl) rfl rfl ?_
      refine r_goto (μ := mX4_fewest) (pc := 84) (tgt := 32) dX4_fewest_84 (by decide) ?_
      exact h
    · have h := h.2 q44
      refine r_iconst (μ := mX4_fewest) (pc := 47) (v := nI 2) dX4_fewest_47 rfl ?_
      refine r_aload_n (μ := mX4_fewest) (pc := 48) dX4_fewest_48 rfl rfl ?_
      refine g_R (μ := mX4_fewest) (pc := 49) (k' := 28) fX4_21 dX4_fewest_49 rfl rfl ?_
      refine r_iload (μ := mX4_fewest) (pc := 52) dX4_fewest_52 rfl ?_
      refine r_callV (μ := mX4_fewest) (pc := 54) (as := [.int i4]) 1 cX4_237 dX4_fewest_54 rfl rfl (Nat.le_of_ble_eq_true rfl) rfl okX1_votesOf (Nat.lt_succ_self d) (cat8 (n := 1) rfl (by decide)) rfl h (k_I (fun r54 T54 h => ?_))
      refine r_imul (μ := mX4_fewest) (pc := 57) dX4_fewest_57 ?_
      refine r_iload_n (μ := mX4_fewest) (pc := 58) dX4_fewest_58 rfl rfl ?_
      refine r_icmp_le (μ := mX4_fewest) (pc := 59) (tgt := 81) dX4_fewest_59 (by decide) ⟨fun q59 => ?_, fun q59 => ?_⟩
      · have h := h.1 q59
        refine r_iinc (μ := mX4_fewest) (pc := 81) (y := nI 1) (ls' := [some (.ref 0), some (.int i1), some (.int i2), some (.int i3), some (.int (i4 + (nI 1)))]) dX4_fewest_81 rfl rfl (Nat.le_of_ble_eq_true rfl) rfl rfl ?_
        refine r_goto (μ := mX4_fewest) (pc := 84) (tgt := 32) dX4_fewest_84 (by decide) ?_
        exact h
      · have h := h.2 q59
        refine r_iload_n (μ := mX4_fewest) (pc := 62) dX4_fewest_62 rfl rfl ?_
        refine r_if_eq (μ := mX4_fewest) (pc := 63) (tgt := 78) dX4_fewest_63 (by decide) ⟨fun q63 => ?_, fun q63 => ?_⟩
        · have h := h.1 q63
          refine r_iload (μ := mX4_fewest) (pc := 78) dX4_fewest_78 rfl ?_
          refine r_istore_n (μ := mX4_fewest) (pc := 80) (ls' := [some (.ref 0), some (.int i1), some (.int i2), some (.int i4), some (.int i4)]) dX4_fewest_80 rfl (Nat.le_of_ble_eq_true rfl) rfl rfl ?_
          refine r_iinc (μ := mX4_fewest) (pc := 81) (y := nI 1) (ls' := [some (.ref 0), some (.int i1), some (.int i2), some (.int i4), some (.int (i4 + (nI 1)))]) dX4_fewest_81 rfl rfl (Nat.le_of_ble_eq_true rfl) rfl rfl ?_
          refine r_goto (μ := mX4_fewest) (pc := 84) (tgt := 32) dX4_fewest_84 (by decide) ?_
          exact h
        · have h := h.2 q63
          refine r_iload (μ := mX4_fewest) (pc := 66) dX4_fewest_66 rfl ?_
          refine r_callS (μ := mX4_fewest) (pc := 68) (as := [.int i4]) cX4_240 dX4_fewest_68 rfl okJ6_bitCount_0f7a4 (Nat.lt_succ_self d) (cat8 (n := 0) rfl (by decide)) rfl h (k_I (fun r68 T68 h => ?_))
          refine r_iload_n (μ := mX4_fewest) (pc := 71) dX4_fewest_71 rfl rfl ?_
          refine r_callS (μ := mX4_fewest) (pc := 72) (as := [.int i3]) cX4_240 dX4_fewest_72 rfl okJ6_bitCount_0f7a4 (Nat.lt_succ_self d) (cat8 (n := 1) rfl (by decide)) rfl h (k_I (fun r72 T72 h => ?_))
          have J75 : ∀ x75 : Int32, x75 = (if r72 ≤ r68 then i3 else i4) → Ev G l mX4_fewest (d + 1) 81 [some (.ref 0), some (.int i1), some (.int i2), some (.int x75), some (.int i4)] [] T72 (QI P) := by
            intro x75 e75
            have h := h x75 e75
            refine r_iinc (μ := mX4_fewest) (pc := 81) (y := nI 1) (ls' := [some (.ref 0), some (.int i1), some (.int i2), some (.int x75), some (.int (i4 + (nI 1)))]) dX4_fewest_81 rfl rfl (Nat.le_of_ble_eq_true rfl) rfl rfl ?_
            refine r_goto (μ := mX4_fewest) (pc := 84) (tgt := 32) dX4_fewest_84 (by decide) ?_
            exact h
          refine r_icmp_ge (μ := mX4_fewest) (pc := 75) (tgt := 81) dX4_fewest_75 (by decide) ⟨fun q75 => ?_, fun q75 => ?_⟩
          · exact J75 _ (by first | (rw [if_pos q75]; done) | simp only [if_pos q75])
          · refine r_iload (μ := mX4_fewest) (pc := 78) dX4_fewest_78 rfl ?_
            refine r_istore_n (μ := mX4_fewest) (pc := 80) (ls' := [some (.ref 0), some (.int i1), some (.int i2), some (.int i4), some (.int i4)]) dX4_fewest_80 rfl (Nat.le_of_ble_eq_true rfl) rfl rfl ?_
            exact J75 _ (by first | (rw [if_neg q75]; done) | simp only [if_neg q75])

set_option maxRecDepth 20000 in
theorem bX4_then_0 {G : Gl} {l : Launch} {d : Nat} {S : Sg} {P : Int32 → Sg → Prop} (i1 : Int32)
    (h : (i1 < (nI 0) → P (-1) S) ∧ (¬ (i1 < (nI 0)) → (i1 ≤ (nI 30) → Ct G l mX1_isThere d [.ref 28] S (QI (fun r16 T16 => (¬ r16 = (nI 0) → Ct G l mX1_coasts d [.ref 28] T16 (QI (fun r29 T29 => Ev G l mX4_then (d + 1) 35 [some (.ref 0), some (.int i1), some (.int r29), some (.int (nI 0))] [] T29 (QI P)))) ∧ (r16 = (nI 0) → P (-4) T16)))) ∧ (¬ (i1 ≤ (nI 30)) → P (-1) S))) :
    Ct G l mX4_then (d + 1) [.ref 0, .int i1] S (QI P) := by
  show Ev G l mX4_then (d + 1) 0 [some (.ref 0), some (.int i1), none, none] [] S (QI P)
  refine r_iload_n (μ := mX4_then) (pc := 0) dX4_then_0 rfl rfl ?_
  refine r_if_lt (μ := mX4_then) (pc := 1) (tgt := 10) dX4_then_1 (by decide) ⟨fun q1 => ?_, fun q1 => ?_⟩
  · have h := h.1 q1
    refine r_iconst (μ := mX4_then) (pc := 10) (v := (-1)) dX4_then_10 rfl ?_
    exact r_iret (μ := mX4_then) (pc := 11) dX4_then_11 rfl h
  · have h := h.2 q1
    refine r_iload_n (μ := mX4_then) (pc := 4) dX4_then_4 rfl rfl ?_
    refine r_bipush (μ := mX4_then) (pc := 5) (v := nI 30) dX4_then_5 rfl ?_
    refine r_icmp_le (μ := mX4_then) (pc := 7) (tgt := 12) dX4_then_7 (by decide) ⟨fun q7 => ?_, fun q7 => ?_⟩
    · have h := h.1 q7
      refine r_aload_n (μ := mX4_then) (pc := 12) dX4_then_12 rfl rfl ?_
      refine g_R (μ := mX4_then) (pc := 13) (k' := 28) fX4_21 dX4_then_13 rfl rfl ?_
      refine r_callV (μ := mX4_then) (pc := 16) (as := []) 1 cX4_170 dX4_then_16 rfl rfl (Nat.le_of_ble_eq_true rfl) rfl okX1_isThere (Nat.lt_succ_self d) (cat8 (n := 0) rfl (by decide)) rfl h (k_I (fun r16 T16 h => ?_))
      refine r_if_ne (μ := mX4_then) (pc := 19) (tgt := 25) dX4_then_19 (by decide) ⟨fun q19 => ?_, fun q19 => ?_⟩
      · have h := h.1 q19
        refine r_aload_n (μ := mX4_then) (pc := 25) dX4_then_25 rfl rfl ?_
        refine g_R (μ := mX4_then) (pc := 26) (k' := 28) fX4_21 dX4_then_26 rfl rfl ?_
        refine r_callV (μ := mX4_then) (pc := 29) (as := []) 1 cX4_245 dX4_then_29 rfl rfl (Nat.le_of_ble_eq_true rfl) rfl okX1_coasts (Nat.lt_succ_self d) (cat8 (n := 0) rfl (by decide)) rfl h (k_I (fun r29 T29 h => ?_))
        refine r_istore_n (μ := mX4_then) (pc := 32) (ls' := [some (.ref 0), some (.int i1), some (.int r29), none]) dX4_then_32 rfl (Nat.le_of_ble_eq_true rfl) rfl rfl ?_
        refine r_iconst (μ := mX4_then) (pc := 33) (v := nI 0) dX4_then_33 rfl ?_
        refine r_istore_n (μ := mX4_then) (pc := 34) (ls' := [some (.ref 0), some (.int i1), some (.int r29), some (.int (nI 0))]) dX4_then_34 rfl (Nat.le_of_ble_eq_true rfl) rfl rfl ?_
        exact h
      · have h := h.2 q19
        refine r_bipush (μ := mX4_then) (pc := 22) (v := (-4)) dX4_then_22 rfl ?_
        exact r_iret (μ := mX4_then) (pc := 24) dX4_then_24 rfl h
    · have h := h.2 q7
      refine r_iconst (μ := mX4_then) (pc := 10) (v := (-1)) dX4_then_10 rfl ?_
      exact r_iret (μ := mX4_then) (pc := 11) dX4_then_11 rfl h

set_option maxRecDepth 20000 in
theorem bX4_then_35 {G : Gl} {l : Launch} {d : Nat} {S : Sg} {P : Int32 → Sg → Prop} (i1 : Int32) (i2 : Int32) (i3 : Int32)
    (h : (i1 ≤ i3 → Ct G l mX4_westOf d [.int i2] S (QI (fun r61 T61 => Ct G l mX4_eastOf d [.int i2] T61 (QI (fun r65 T65 => Ct G l mX1_belonging d [.ref 28, .int r61, .int r65] T65 (QI (fun r68 T68 => ∀ S71 : Sg, S71 = (u2 T68.1 0 9 r68, T68.2) → (P i2 S71)))))))) ∧ (¬ (i1 ≤ i3) → Ct G l mX1_yearOn d [.ref 28, .int i2] S (QI (fun r45 T45 => Ev G l mX4_then (d + 1) 35 [some (.ref 0), some (.int i1), some (.int r45), some (.int (i3 + (nI 1)))] [] T45 (QI P))))) :
    Ev G l mX4_then (d + 1) 35 [some (.ref 0), some (.int i1), some (.int i2), some (.int i3)] [] S (QI P) := by
  show Ev G l mX4_then (d + 1) 35 [some (.ref 0), some (.int i1), some (.int i2), some (.int i3)] [] S (QI P)
  refine r_iload_n (μ := mX4_then) (pc := 35) dX4_then_35 rfl rfl ?_
  refine r_iload_n (μ := mX4_then) (pc := 36) dX4_then_36 rfl rfl ?_
  refine r_icmp_ge (μ := mX4_then) (pc := 37) (tgt := 55) dX4_then_37 (by decide) ⟨fun q37 => ?_, fun q37 => ?_⟩
  · have h := h.1 q37
    refine r_aload_n (μ := mX4_then) (pc := 55) dX4_then_55 rfl rfl ?_
    refine r_aload_n (μ := mX4_then) (pc := 56) dX4_then_56 rfl rfl ?_
    refine g_R (μ := mX4_then) (pc := 57) (k' := 28) fX4_21 dX4_then_57 rfl rfl ?_
    refine r_iload_n (μ := mX4_then) (pc := 60) dX4_then_60 rfl rfl ?_
    refine r_callS (μ := mX4_then) (pc := 61) (as := [.int i2]) cX4_251 dX4_then_61 rfl okX4_westOf (Nat.lt_succ_self d) (cat8 (n := 2) rfl (by decide)) rfl h (k_I (fun r61 T61 h => ?_))
    refine r_iload_n (μ := mX4_then) (pc := 64) dX4_then_64 rfl rfl ?_
    refine r_callS (μ := mX4_then) (pc := 65) (as := [.int i2]) cX4_254 dX4_then_65 rfl okX4_eastOf (Nat.lt_succ_self d) (cat8 (n := 3) rfl (by decide)) rfl h (k_I (fun r65 T65 h => ?_))
    refine r_callV (μ := mX4_then) (pc := 68) (as := [.int r61, .int r65]) 1 cX4_218 dX4_then_68 rfl rfl (Nat.le_of_ble_eq_true rfl) rfl okX1_belonging (Nat.lt_succ_self d) (cat8 (n := 1) rfl (by decide)) rfl h (k_I (fun r68 T68 h => ?_))
    refine p_I (μ := mX4_then) (pc := 71) fX4_50 wfX4_50 dX4_then_71 rfl ?_
    refine nm_S (fun S71 eS71 => ?_)
    have h := h S71 eS71
    refine r_iload_n (μ := mX4_then) (pc := 74) dX4_then_74 rfl rfl ?_
    exact r_iret (μ := mX4_then) (pc := 75) dX4_then_75 rfl h
  · have h := h.2 q37
    refine r_aload_n (μ := mX4_then) (pc := 40) dX4_then_40 rfl rfl ?_
    refine g_R (μ := mX4_then) (pc := 41) (k' := 28) fX4_21 dX4_then_41 rfl rfl ?_
    refine r_iload_n (μ := mX4_then) (pc := 44) dX4_then_44 rfl rfl ?_
    refine r_callV (μ := mX4_then) (pc := 45) (as := [.int i2]) 1 cX4_248 dX4_then_45 rfl rfl (Nat.le_of_ble_eq_true rfl) rfl okX1_yearOn (Nat.lt_succ_self d) (cat8 (n := 0) rfl (by decide)) rfl h (k_I (fun r45 T45 h => ?_))
    refine r_istore_n (μ := mX4_then) (pc := 48) (ls' := [some (.ref 0), some (.int i1), some (.int r45), some (.int i3)]) dX4_then_48 rfl (Nat.le_of_ble_eq_true rfl) rfl rfl ?_
    refine r_iinc (μ := mX4_then) (pc := 49) (y := nI 1) (ls' := [some (.ref 0), some (.int i1), some (.int r45), some (.int (i3 + (nI 1)))]) dX4_then_49 rfl rfl (Nat.le_of_ble_eq_true rfl) rfl rfl ?_
    refine r_goto (μ := mX4_then) (pc := 52) (tgt := 35) dX4_then_52 (by decide) ?_
    exact h

set_option maxRecDepth 20000 in
theorem bX4_when_0 {G : Gl} {l : Launch} {d : Nat} {S : Sg} {P : Int32 → Sg → Prop} (i1 : Int32) (i2 : Int32)
    (h : Ct G l mX1_isThere d [.ref 28] S (QI (fun r4 T4 => (¬ r4 = (nI 0) → Ct G l mX1_canBeCoasts d [.ref 28, .int i1, .int i2] T4 (QI (fun r19 T19 => (¬ r19 = (nI 0) → Ct G l mX4_coastsOf d [.int i1, .int i2] T19 (QI (fun r29 T29 => Ct G l mX1_coasts d [.ref 28] T29 (QI (fun r37 T37 => Ev G l mX4_when (d + 1) 45 [some (.ref 0), some (.int i1), some (.int i2), some (.int r29), some (.int r37), some (.int (nI 0))] [] T37 (QI P)))))) ∧ (r19 = (nI 0) → P (-1) T19)))) ∧ (r4 = (nI 0) → P (-4) T4)))) :
    Ct G l mX4_when (d + 1) [.ref 0, .int i1, .int i2] S (QI P) := by
  show Ev G l mX4_when (d + 1) 0 [some (.ref 0), some (.int i1), some (.int i2), none, none, none] [] S (QI P)
  refine r_aload_n (μ := mX4_when) (pc := 0) dX4_when_0 rfl rfl ?_
  refine g_R (μ := mX4_when) (pc := 1) (k' := 28) fX4_21 dX4_when_1 rfl rfl ?_
  refine r_callV (μ := mX4_when) (pc := 4) (as := []) 1 cX4_170 dX4_when_4 rfl rfl (Nat.le_of_ble_eq_true rfl) rfl okX1_isThere (Nat.lt_succ_self d) (cat8 (n := 0) rfl (by decide)) rfl h (k_I (fun r4 T4 h => ?_))
  refine r_if_ne (μ := mX4_when) (pc := 7) (tgt := 13) dX4_when_7 (by decide) ⟨fun q7 => ?_, fun q7 => ?_⟩
  · have h := h.1 q7
    refine r_aload_n (μ := mX4_when) (pc := 13) dX4_when_13 rfl rfl ?_
    refine g_R (μ := mX4_when) (pc := 14) (k' := 28) fX4_21 dX4_when_14 rfl rfl ?_
    refine r_iload_n (μ := mX4_when) (pc := 17) dX4_when_17 rfl rfl ?_
    refine r_iload_n (μ := mX4_when) (pc := 18) dX4_when_18 rfl rfl ?_
    refine r_callV (μ := mX4_when) (pc := 19) (as := [.int i1, .int i2]) 1 cX4_257 dX4_when_19 rfl rfl (Nat.le_of_ble_eq_true rfl) rfl okX1_canBeCoasts (Nat.lt_succ_self d) (cat8 (n := 0) rfl (by decide)) rfl h (k_I (fun r19 T19 h => ?_))
    refine r_if_ne (μ := mX4_when) (pc := 22) (tgt := 27) dX4_when_22 (by decide) ⟨fun q22 => ?_, fun q22 => ?_⟩
    · have h := h.1 q22
      refine r_iload_n (μ := mX4_when) (pc := 27) dX4_when_27 rfl rfl ?_
      refine r_iload_n (μ := mX4_when) (pc := 28) dX4_when_28 rfl rfl ?_
      refine r_callS (μ := mX4_when) (pc := 29) (as := [.int i1, .int i2]) cX4_260 dX4_when_29 rfl okX4_coastsOf (Nat.lt_succ_self d) (cat8 (n := 0) rfl (by decide)) rfl h (k_I (fun r29 T29 h => ?_))
      refine r_istore_n (μ := mX4_when) (pc := 32) (ls' := [some (.ref 0), some (.int i1), some (.int i2), some (.int r29), none, none]) dX4_when_32 rfl (Nat.le_of_ble_eq_true rfl) rfl rfl ?_
      refine r_aload_n (μ := mX4_when) (pc := 33) dX4_when_33 rfl rfl ?_
      refine g_R (μ := mX4_when) (pc := 34) (k' := 28) fX4_21 dX4_when_34 rfl rfl ?_
      refine r_callV (μ := mX4_when) (pc := 37) (as := []) 1 cX4_245 dX4_when_37 rfl rfl (Nat.le_of_ble_eq_true rfl) rfl okX1_coasts (Nat.lt_succ_self d) (cat8 (n := 0) rfl (by decide)) rfl h (k_I (fun r37 T37 h => ?_))
      refine r_istore (μ := mX4_when) (pc := 40) (ls' := [some (.ref 0), some (.int i1), some (.int i2), some (.int r29), some (.int r37), none]) dX4_when_40 (Nat.le_of_ble_eq_true rfl) rfl rfl ?_
      refine r_iconst (μ := mX4_when) (pc := 42) (v := nI 0) dX4_when_42 rfl ?_
      refine r_istore (μ := mX4_when) (pc := 43) (ls' := [some (.ref 0), some (.int i1), some (.int i2), some (.int r29), some (.int r37), some (.int (nI 0))]) dX4_when_43 (Nat.le_of_ble_eq_true rfl) rfl rfl ?_
      exact h
    · have h := h.2 q22
      refine r_iconst (μ := mX4_when) (pc := 25) (v := (-1)) dX4_when_25 rfl ?_
      exact r_iret (μ := mX4_when) (pc := 26) dX4_when_26 rfl h
  · have h := h.2 q7
    refine r_bipush (μ := mX4_when) (pc := 10) (v := (-4)) dX4_when_10 rfl ?_
    exact r_iret (μ := mX4_when) (pc := 12) dX4_when_12 rfl h

set_option maxRecDepth 20000 in
theorem bX4_when_45 {G : Gl} {l : Launch} {d : Nat} {S : Sg} {P : Int32 → Sg → Prop} (i1 : Int32) (i2 : Int32) (i3 : Int32) (i4 : Int32) (i5 : Int32)
    (h : ((nI 30) < i5 → P (-9) S) ∧ (¬ ((nI 30) < i5) → (¬ i4 = i3 → Ct G l mX1_yearOn d [.ref 28, .int i4] S (QI (fun r67 T67 => Ev G l mX4_when (d + 1) 45 [some (.ref 0), some (.int i1), some (.int i2), some (.int i3), some (.int r67), some (.int (i5 + (nI 1)))] [] T67 (QI P)))) ∧ (i4 = i3 → P i5 S))) :
    Ev G l mX4_when (d + 1) 45 [some (.ref 0), some (.int i1), some (.int i2), some (.int i3), some (.int i4), some (.int i5)] [] S (QI P) := by
  show Ev G l mX4_when (d + 1) 45 [some (.ref 0), some (.int i1), some (.int i2), some (.int i3), some (.int i4), some (.int i5)] [] S (QI P)
  refine r_iload (μ := mX4_when) (pc := 45) dX4_when_45 rfl ?_
  refine r_bipush (μ := mX4_when) (pc := 47) (v := nI 30) dX4_when_47 rfl ?_
  refine r_icmp_gt (μ := mX4_when) (pc := 49) (tgt := 78) dX4_when_49 (by decide) ⟨fun q49 => ?_, fun q49 => ?_⟩
  · have h := h.1 q49
    refine r_bipush (μ := mX4_when) (pc := 78) (v := (-9)) dX4_when_78 rfl ?_
    exact r_iret (μ := mX4_when) (pc := 80) dX4_when_80 rfl h
  · have h := h.2 q49
    refine r_iload (μ := mX4_when) (pc := 52) dX4_when_52 rfl ?_
    refine r_iload_n (μ := mX4_when) (pc := 54) dX4_when_54 rfl rfl ?_
    refine r_icmp_ne (μ := mX4_when) (pc := 55) (tgt := 61) dX4_when_55 (by decide) ⟨fun q55 => ?_, fun q55 => ?_⟩
    · have h := h.1 q55
      refine r_aload_n (μ := mX4_when) (pc := 61) dX4_when_61 rfl rfl ?_
      refine g_R (μ := mX4_when) (pc := 62) (k' := 28) fX4_21 dX4_when_62 rfl rfl ?_
      refine r_iload (μ := mX4_when) (pc := 65) dX4_when_65 rfl ?_
      refine r_callV (μ := mX4_when) (pc := 67) (as := [.int i4]) 1 cX4_248 dX4_when_67 rfl rfl (Nat.le_of_ble_eq_true rfl) rfl okX1_yearOn (Nat.lt_succ_self d) (cat8 (n := 0) rfl (by decide)) rfl h (k_I (fun r67 T67 h => ?_))
      refine r_istore (μ := mX4_when) (pc := 70) (ls' := [some (.ref 0), some (.int i1), some (.int i2), some (.int i3), some (.int r67), some (.int i5)]) dX4_when_70 (Nat.le_of_ble_eq_true rfl) rfl rfl ?_
      refine r_iinc (μ := mX4_when) (pc := 72) (y := nI 1) (ls' := [some (.ref 0), some (.int i1), some (.int i2), some (.int i3), some (.int r67), some (.int (i5 + (nI 1)))]) dX4_when_72 rfl rfl (Nat.le_of_ble_eq_true rfl) rfl rfl ?_
      refine r_goto (μ := mX4_when) (pc := 75) (tgt := 45) dX4_when_75 (by decide) ?_
      exact h
    · have h := h.2 q55
      refine r_iload (μ := mX4_when) (pc := 58) dX4_when_58 rfl ?_
      exact r_iret (μ := mX4_when) (pc := 60) dX4_when_60 rfl h

set_option maxRecDepth 20000 in
theorem bX4_round_0 {G : Gl} {l : Launch} {d : Nat} {S : Sg} {P : Int32 → Sg → Prop} 
    (h : Ct G l mX1_isThere d [.ref 28] S (QI (fun r4 T4 => (¬ r4 = (nI 0) → Ct G l mX1_coasts d [.ref 28] T4 (QI (fun r22 T22 => ∀ S25 : Sg, S25 = (u2 T22.1 5 0 r22, T22.2) → (Ev G l mX4_round (d + 1) 28 [some (.ref 0), some (.int (nI 1)), none] [] S25 (QI P))))) ∧ (r4 = (nI 0) → P (-4) T4)))) :
    Ct G l mX4_round (d + 1) [.ref 0] S (QI P) := by
  show Ev G l mX4_round (d + 1) 0 [some (.ref 0), none, none] [] S (QI P)
  refine r_aload_n (μ := mX4_round) (pc := 0) dX4_round_0 rfl rfl ?_
  refine g_R (μ := mX4_round) (pc := 1) (k' := 28) fX4_21 dX4_round_1 rfl rfl ?_
  refine r_callV (μ := mX4_round) (pc := 4) (as := []) 1 cX4_170 dX4_round_4 rfl rfl (Nat.le_of_ble_eq_true rfl) rfl okX1_isThere (Nat.lt_succ_self d) (cat8 (n := 0) rfl (by decide)) rfl h (k_I (fun r4 T4 h => ?_))
  refine r_if_ne (μ := mX4_round) (pc := 7) (tgt := 13) dX4_round_7 (by decide) ⟨fun q7 => ?_, fun q7 => ?_⟩
  · have h := h.1 q7
    refine r_aload_n (μ := mX4_round) (pc := 13) dX4_round_13 rfl rfl ?_
    refine g_R (μ := mX4_round) (pc := 14) (k' := 5) fX4_39 dX4_round_14 rfl rfl ?_
    refine r_iconst (μ := mX4_round) (pc := 17) (v := nI 0) dX4_round_17 rfl ?_
    refine r_aload_n (μ := mX4_round) (pc := 18) dX4_round_18 rfl rfl ?_
    refine g_R (μ := mX4_round) (pc := 19) (k' := 28) fX4_21 dX4_round_19 rfl rfl ?_
    refine r_callV (μ := mX4_round) (pc := 22) (as := []) 1 cX4_245 dX4_round_22 rfl rfl (Nat.le_of_ble_eq_true rfl) rfl okX1_coasts (Nat.lt_succ_self d) (cat8 (n := 2) rfl (by decide)) rfl h (k_I (fun r22 T22 h => ?_))
    refine r_iast (μ := mX4_round) (pc := 25) dX4_round_25 rfl (ix_nI (n := 0) (Nat.le_of_ble_eq_true rfl) (Nat.le_of_ble_eq_true rfl)) ?_
    refine nm_S (fun S25 eS25 => ?_)
    have h := h S25 eS25
    refine r_iconst (μ := mX4_round) (pc := 26) (v := nI 1) dX4_round_26 rfl ?_
    refine r_istore_n (μ := mX4_round) (pc := 27) (ls' := [some (.ref 0), some (.int (nI 1)), none]) dX4_round_27 rfl (Nat.le_of_ble_eq_true rfl) rfl rfl ?_
    exact h
  · have h := h.2 q7
    refine r_bipush (μ := mX4_round) (pc := 10) (v := (-4)) dX4_round_10 rfl ?_
    exact r_iret (μ := mX4_round) (pc := 12) dX4_round_12 rfl h

set_option maxRecDepth 20000 in
theorem bX4_round_28 {G : Gl} {l : Launch} {d : Nat} {S : Sg} {P : Int32 → Sg → Prop} (i1 : Int32)
    (h : ((nI 55) < i1 → P (-9) S) ∧ (¬ ((nI 55) < i1) → ∃ n50 : Nat, ix (i1 - (nI 1)) n50 56 ∧ (Ct G l mX1_yearOn d [.ref 28, .int (S.1 5 n50)] S (QI (fun r51 T51 => ∃ n54 : Nat, ix i1 n54 56 ∧ ∀ S54 : Sg, S54 = (u2 T51.1 5 n54 r51, T51.2) → (Ev G l mX4_round (d + 1) 59 [some (.ref 0), some (.int i1), some (.int (i1 - (nI 1)))] [] S54 (QI P))))))) :
    Ev G l mX4_round (d + 1) 28 [some (.ref 0), some (.int i1), none] [] S (QI P) := by
  show Ev G l mX4_round (d + 1) 28 [some (.ref 0), some (.int i1), none] [] S (QI P)
  refine r_iload_n (μ := mX4_round) (pc := 28) dX4_round_28 rfl rfl ?_
  refine r_bipush (μ := mX4_round) (pc := 29) (v := nI 55) dX4_round_29 rfl ?_
  refine r_icmp_gt (μ := mX4_round) (pc := 31) (tgt := 99) dX4_round_31 (by decide) ⟨fun q31 => ?_, fun q31 => ?_⟩
  · have h := h.1 q31
    refine r_bipush (μ := mX4_round) (pc := 99) (v := (-9)) dX4_round_99 rfl ?_
    exact r_iret (μ := mX4_round) (pc := 101) dX4_round_101 rfl h
  · have h := h.2 q31
    refine r_aload_n (μ := mX4_round) (pc := 34) dX4_round_34 rfl rfl ?_
    refine g_R (μ := mX4_round) (pc := 35) (k' := 5) fX4_39 dX4_round_35 rfl rfl ?_
    refine r_iload_n (μ := mX4_round) (pc := 38) dX4_round_38 rfl rfl ?_
    refine r_aload_n (μ := mX4_round) (pc := 39) dX4_round_39 rfl rfl ?_
    refine g_R (μ := mX4_round) (pc := 40) (k' := 28) fX4_21 dX4_round_40 rfl rfl ?_
    refine r_aload_n (μ := mX4_round) (pc := 43) dX4_round_43 rfl rfl ?_
    refine g_R (μ := mX4_round) (pc := 44) (k' := 5) fX4_39 dX4_round_44 rfl rfl ?_
    refine r_iload_n (μ := mX4_round) (pc := 47) dX4_round_47 rfl rfl ?_
    refine r_iconst (μ := mX4_round) (pc := 48) (v := nI 1) dX4_round_48 rfl ?_
    refine r_isub (μ := mX4_round) (pc := 49) dX4_round_49 ?_
    obtain ⟨n50, hx50, h⟩ := h
    refine r_iald (μ := mX4_round) (pc := 50) dX4_round_50 rfl hx50 ?_
    refine r_callV (μ := mX4_round) (pc := 51) (as := [.int (S.1 5 n50)]) 1 cX4_248 dX4_round_51 rfl rfl (Nat.le_of_ble_eq_true rfl) rfl okX1_yearOn (Nat.lt_succ_self d) (cat8 (n := 2) rfl (by decide)) rfl h (k_I (fun r51 T51 h => ?_))
    obtain ⟨n54, hx54, h⟩ := h
    refine r_iast (μ := mX4_round) (pc := 54) dX4_round_54 rfl hx54 ?_
    refine nm_S (fun S54 eS54 => ?_)
    have h := h S54 eS54
    refine r_iload_n (μ := mX4_round) (pc := 55) dX4_round_55 rfl rfl ?_
    refine r_iconst (μ := mX4_round) (pc := 56) (v := nI 1) dX4_round_56 rfl ?_
    refine r_isub (μ := mX4_round) (pc := 57) dX4_round_57 ?_
    refine r_istore_n (μ := mX4_round) (pc := 58) (ls' := [some (.ref 0), some (.int i1), some (.int (i1 - (nI 1)))]) dX4_round_58 rfl (Nat.le_of_ble_eq_true rfl) rfl rfl ?_
    exact h

set_option maxRecDepth 20000 in
theorem bX4_round_59 {G : Gl} {l : Launch} {d : Nat} {S : Sg} {P : Int32 → Sg → Prop} (i1 : Int32) (i2 : Int32)
    (h : (i2 < (nI 0) → Ev G l mX4_round (d + 1) 28 [some (.ref 0), some (.int (i1 + (nI 1))), none] [] S (QI P)) ∧ (¬ (i2 < (nI 0)) → ∃ n68 : Nat, ix i2 n68 56 ∧ (∃ n74 : Nat, ix i1 n74 56 ∧ ((¬ (S.1 5 n68) = (S.1 5 n74) → Ev G l mX4_round (d + 1) 59 [some (.ref 0), some (.int i1), some (.int (i2 + (-1)))] [] S (QI P)) ∧ ((S.1 5 n68) = (S.1 5 n74) → ∀ S82 : Sg, S82 = (u2 S.1 0 9 (i1 - i2), S.2) → (P i1 S82)))))) :
    Ev G l mX4_round (d + 1) 59 [some (.ref 0), some (.int i1), some (.int i2)] [] S (QI P) := by
  show Ev G l mX4_round (d + 1) 59 [some (.ref 0), some (.int i1), some (.int i2)] [] S (QI P)
  refine r_iload_n (μ := mX4_round) (pc := 59) dX4_round_59 rfl rfl ?_
  refine r_if_lt (μ := mX4_round) (pc := 60) (tgt := 93) dX4_round_60 (by decide) ⟨fun q60 => ?_, fun q60 => ?_⟩
  · have h := h.1 q60
    refine r_iinc (μ := mX4_round) (pc := 93) (y := nI 1) (ls' := [some (.ref 0), some (.int (i1 + (nI 1))), some (.int i2)]) dX4_round_93 rfl rfl (Nat.le_of_ble_eq_true rfl) rfl rfl ?_
    refine r_goto (μ := mX4_round) (pc := 96) (tgt := 28) dX4_round_96 (by decide) ?_
    exact Ev.sub (ls' := [some (.ref 0), some (.int (i1 + (nI 1))), none]) (ls_s (ls_s (ls_n ls_0))) h
  · have h := h.2 q60
    refine r_aload_n (μ := mX4_round) (pc := 63) dX4_round_63 rfl rfl ?_
    refine g_R (μ := mX4_round) (pc := 64) (k' := 5) fX4_39 dX4_round_64 rfl rfl ?_
    refine r_iload_n (μ := mX4_round) (pc := 67) dX4_round_67 rfl rfl ?_
    obtain ⟨n68, hx68, h⟩ := h
    refine r_iald (μ := mX4_round) (pc := 68) dX4_round_68 rfl hx68 ?_
    refine r_aload_n (μ := mX4_round) (pc := 69) dX4_round_69 rfl rfl ?_
    refine g_R (μ := mX4_round) (pc := 70) (k' := 5) fX4_39 dX4_round_70 rfl rfl ?_
    refine r_iload_n (μ := mX4_round) (pc := 73) dX4_round_73 rfl rfl ?_
    obtain ⟨n74, hx74, h⟩ := h
    refine r_iald (μ := mX4_round) (pc := 74) dX4_round_74 rfl hx74 ?_
    refine r_icmp_ne (μ := mX4_round) (pc := 75) (tgt := 87) dX4_round_75 (by decide) ⟨fun q75 => ?_, fun q75 => ?_⟩
    · have h := h.1 q75
      refine r_iinc (μ := mX4_round) (pc := 87) (y := (-1)) (ls' := [some (.ref 0), some (.int i1), some (.int (i2 + (-1)))]) dX4_round_87 rfl rfl (Nat.le_of_ble_eq_true rfl) rfl rfl ?_
      refine r_goto (μ := mX4_round) (pc := 90) (tgt := 59) dX4_round_90 (by decide) ?_
      exact h
    · have h := h.2 q75
      refine r_aload_n (μ := mX4_round) (pc := 78) dX4_round_78 rfl rfl ?_
      refine r_iload_n (μ := mX4_round) (pc := 79) dX4_round_79 rfl rfl ?_
      refine r_iload_n (μ := mX4_round) (pc := 80) dX4_round_80 rfl rfl ?_
      refine r_isub (μ := mX4_round) (pc := 81) dX4_round_81 ?_
      refine p_I (μ := mX4_round) (pc := 82) fX4_50 wfX4_50 dX4_round_82 rfl ?_
      refine nm_S (fun S82 eS82 => ?_)
      have h := h S82 eS82
      refine r_iload_n (μ := mX4_round) (pc := 85) dX4_round_85 rfl rfl ?_
      exact r_iret (μ := mX4_round) (pc := 86) dX4_round_86 rfl h

set_option maxRecDepth 20000 in
theorem bX4_duel_0 {G : Gl} {l : Launch} {d : Nat} {S : Sg} {P : Int32 → Sg → Prop} (i1 : Int32)
    (h : (i1 < (nI 0) → P (-1) S) ∧ (¬ (i1 < (nI 0)) → (i1 ≤ (nI 6) → Ct G l mX1_isThere d [.ref 28] S (QI (fun r16 T16 => (¬ r16 = (nI 0) → Ct G l mX4_votesByTurns d [.ref 28, .int i1, .int (nI 0), .int (T16.1 28 1), .int (T16.1 28 2)] T16 (QI (fun r45 T45 => P r45 T45))) ∧ (r16 = (nI 0) → P (-4) T16)))) ∧ (¬ (i1 ≤ (nI 6)) → P (-1) S))) :
    Ct G l mX4_duel (d + 1) [.ref 0, .int i1] S (QI P) := by
  show Ev G l mX4_duel (d + 1) 0 [some (.ref 0), some (.int i1)] [] S (QI P)
  refine r_iload_n (μ := mX4_duel) (pc := 0) dX4_duel_0 rfl rfl ?_
  refine r_if_lt (μ := mX4_duel) (pc := 1) (tgt := 10) dX4_duel_1 (by decide) ⟨fun q1 => ?_, fun q1 => ?_⟩
  · have h := h.1 q1
    refine r_iconst (μ := mX4_duel) (pc := 10) (v := (-1)) dX4_duel_10 rfl ?_
    exact r_iret (μ := mX4_duel) (pc := 11) dX4_duel_11 rfl h
  · have h := h.2 q1
    refine r_iload_n (μ := mX4_duel) (pc := 4) dX4_duel_4 rfl rfl ?_
    refine r_bipush (μ := mX4_duel) (pc := 5) (v := nI 6) dX4_duel_5 rfl ?_
    refine r_icmp_le (μ := mX4_duel) (pc := 7) (tgt := 12) dX4_duel_7 (by decide) ⟨fun q7 => ?_, fun q7 => ?_⟩
    · have h := h.1 q7
      refine r_aload_n (μ := mX4_duel) (pc := 12) dX4_duel_12 rfl rfl ?_
      refine g_R (μ := mX4_duel) (pc := 13) (k' := 28) fX4_21 dX4_duel_13 rfl rfl ?_
      refine r_callV (μ := mX4_duel) (pc := 16) (as := []) 1 cX4_170 dX4_duel_16 rfl rfl (Nat.le_of_ble_eq_true rfl) rfl okX1_isThere (Nat.lt_succ_self d) (cat8 (n := 0) rfl (by decide)) rfl h (k_I (fun r16 T16 h => ?_))
      refine r_if_ne (μ := mX4_duel) (pc := 19) (tgt := 25) dX4_duel_19 (by decide) ⟨fun q19 => ?_, fun q19 => ?_⟩
      · have h := h.1 q19
        refine r_aload_n (μ := mX4_duel) (pc := 25) dX4_duel_25 rfl rfl ?_
        refine g_R (μ := mX4_duel) (pc := 26) (k' := 28) fX4_21 dX4_duel_26 rfl rfl ?_
        refine r_iload_n (μ := mX4_duel) (pc := 29) dX4_duel_29 rfl rfl ?_
        refine r_iconst (μ := mX4_duel) (pc := 30) (v := nI 0) dX4_duel_30 rfl ?_
        refine r_aload_n (μ := mX4_duel) (pc := 31) dX4_duel_31 rfl rfl ?_
        refine g_R (μ := mX4_duel) (pc := 32) (k' := 28) fX4_21 dX4_duel_32 rfl rfl ?_
        refine g_I (μ := mX4_duel) (pc := 35) fX4_158 dX4_duel_35 rfl ?_
        refine r_aload_n (μ := mX4_duel) (pc := 38) dX4_duel_38 rfl rfl ?_
        refine g_R (μ := mX4_duel) (pc := 39) (k' := 28) fX4_21 dX4_duel_39 rfl rfl ?_
        refine g_I (μ := mX4_duel) (pc := 42) fX4_161 dX4_duel_42 rfl ?_
        refine r_callS (μ := mX4_duel) (pc := 45) (as := [.ref 28, .int i1, .int (nI 0), .int (T16.1 28 1), .int (T16.1 28 2)]) cX4_263 dX4_duel_45 rfl okX4_votesByTurns (Nat.lt_succ_self d) (cat8 (n := 0) rfl (by decide)) rfl h (k_I (fun r45 T45 h => ?_))
        exact r_iret (μ := mX4_duel) (pc := 48) dX4_duel_48 rfl h
      · have h := h.2 q19
        refine r_bipush (μ := mX4_duel) (pc := 22) (v := (-4)) dX4_duel_22 rfl ?_
        exact r_iret (μ := mX4_duel) (pc := 24) dX4_duel_24 rfl h
    · have h := h.2 q7
      refine r_iconst (μ := mX4_duel) (pc := 10) (v := (-1)) dX4_duel_10 rfl ?_
      exact r_iret (μ := mX4_duel) (pc := 11) dX4_duel_11 rfl h

set_option maxRecDepth 20000 in
theorem bX4_peace_0 {G : Gl} {l : Launch} {d : Nat} {S : Sg} {P : Int32 → Sg → Prop} (i1 : Int32) (i2 : Int32)
    (h : (i1 < (nI 0) → P (-1) S) ∧ (¬ (i1 < (nI 0)) → ((nI 99) < i1 → P (-1) S) ∧ (¬ ((nI 99) < i1) → Ct G l mX4_isRow d [.int i2] S (QI (fun r11 T11 => (¬ r11 = (nI 0) → Ct G l mX1_isThere d [.ref 28] T11 (QI (fun r23 T23 => (¬ r23 = (nI 0) → Ct G l mX1_votesBelonging d [.ref 28, .int (T23.1 28 1), .int (T23.1 28 2)] T23 (QI (fun r50 T50 => ((nI 0) < r50 → ∃ n66 : Nat, ix i2 n66 6 ∧ (Ct G l mX4_shareCrowns d [.ref 0, .int i1, .int r50, .ref (8 + n66)] T50 (QV (fun T74 => Ev G l mX4_peace (d + 1) 80 [some (.ref 0), some (.int i1), some (.int i2), some (.int r50), some (.ref (8 + n66)), some (.int (nI 0))] [] T74 (QI P))))) ∧ (¬ ((nI 0) < r50) → P (-4) T50)))) ∧ (r23 = (nI 0) → P (-4) T23)))) ∧ (r11 = (nI 0) → P (-1) T11)))))) :
    Ct G l mX4_peace (d + 1) [.ref 0, .int i1, .int i2] S (QI P) := by
  show Ev G l mX4_peace (d + 1) 0 [some (.ref 0), some (.int i1), some (.int i2), none, none, none] [] S (QI P)
  refine r_iload_n (μ := mX4_peace) (pc := 0) dX4_peace_0 rfl rfl ?_
  refine r_if_lt (μ := mX4_peace) (pc := 1) (tgt := 17) dX4_peace_1 (by decide) ⟨fun q1 => ?_, fun q1 => ?_⟩
  · have h := h.1 q1
    refine r_iconst (μ := mX4_peace) (pc := 17) (v := (-1)) dX4_peace_17 rfl ?_
    exact r_iret (μ := mX4_peace) (pc := 18) dX4_peace_18 rfl h
  · have h := h.2 q1
    refine r_iload_n (μ := mX4_peace) (pc := 4) dX4_peace_4 rfl rfl ?_
    refine r_bipush (μ := mX4_peace) (pc := 5) (v := nI 99) dX4_peace_5 rfl ?_
    refine r_icmp_gt (μ := mX4_peace) (pc := 7) (tgt := 17) dX4_peace_7 (by decide) ⟨fun q7 => ?_, fun q7 => ?_⟩
    · have h := h.1 q7
      refine r_iconst (μ := mX4_peace) (pc := 17) (v := (-1)) dX4_peace_17 rfl ?_
      exact r_iret (μ := mX4_peace) (pc := 18) dX4_peace_18 rfl h
    · have h := h.2 q7
      refine r_iload_n (μ := mX4_peace) (pc := 10) dX4_peace_10 rfl rfl ?_
      refine r_callS (μ := mX4_peace) (pc := 11) (as := [.int i2]) cX4_63 dX4_peace_11 rfl okX4_isRow (Nat.lt_succ_self d) (cat8 (n := 0) rfl (by decide)) rfl h (k_I (fun r11 T11 h => ?_))
      refine r_if_ne (μ := mX4_peace) (pc := 14) (tgt := 19) dX4_peace_14 (by decide) ⟨fun q14 => ?_, fun q14 => ?_⟩
      · have h := h.1 q14
        refine r_aload_n (μ := mX4_peace) (pc := 19) dX4_peace_19 rfl rfl ?_
        refine g_R (μ := mX4_peace) (pc := 20) (k' := 28) fX4_21 dX4_peace_20 rfl rfl ?_
        refine r_callV (μ := mX4_peace) (pc := 23) (as := []) 1 cX4_170 dX4_peace_23 rfl rfl (Nat.le_of_ble_eq_true rfl) rfl okX1_isThere (Nat.lt_succ_self d) (cat8 (n := 0) rfl (by decide)) rfl h (k_I (fun r23 T23 h => ?_))
        refine r_if_ne (μ := mX4_peace) (pc := 26) (tgt := 32) dX4_peace_26 (by decide) ⟨fun q26 => ?_, fun q26 => ?_⟩
        · have h := h.1 q26
          refine r_aload_n (μ := mX4_peace) (pc := 32) dX4_peace_32 rfl rfl ?_
          refine g_R (μ := mX4_peace) (pc := 33) (k' := 28) fX4_21 dX4_peace_33 rfl rfl ?_
          refine r_aload_n (μ := mX4_peace) (pc := 36) dX4_peace_36 rfl rfl ?_
          refine g_R (μ := mX4_peace) (pc := 37) (k' := 28) fX4_21 dX4_peace_37 rfl rfl ?_
          refine g_I (μ := mX4_peace) (pc := 40) fX4_158 dX4_peace_40 rfl ?_
          refine r_aload_n (μ := mX4_peace) (pc := 43) dX4_peace_43 rfl rfl ?_
          refine g_R (μ := mX4_peace) (pc := 44) (k' := 28) fX4_21 dX4_peace_44 rfl rfl ?_
          refine g_I (μ := mX4_peace) (pc := 47) fX4_161 dX4_peace_47 rfl ?_
          refine r_callV (μ := mX4_peace) (pc := 50) (as := [.int (T23.1 28 1), .int (T23.1 28 2)]) 1 cX4_173 dX4_peace_50 rfl rfl (Nat.le_of_ble_eq_true rfl) rfl okX1_votesBelonging (Nat.lt_succ_self d) (cat8 (n := 0) rfl (by decide)) rfl h (k_I (fun r50 T50 h => ?_))
          refine r_istore_n (μ := mX4_peace) (pc := 53) (ls' := [some (.ref 0), some (.int i1), some (.int i2), some (.int r50), none, none]) dX4_peace_53 rfl (Nat.le_of_ble_eq_true rfl) rfl rfl ?_
          refine r_iload_n (μ := mX4_peace) (pc := 54) dX4_peace_54 rfl rfl ?_
          refine r_if_gt (μ := mX4_peace) (pc := 55) (tgt := 61) dX4_peace_55 (by decide) ⟨fun q55 => ?_, fun q55 => ?_⟩
          · have h := h.1 q55
            refine r_aload_n (μ := mX4_peace) (pc := 61) dX4_peace_61 rfl rfl ?_
            refine g_R (μ := mX4_peace) (pc := 62) (k' := 1) fX4_11 dX4_peace_62 rfl rfl ?_
            refine r_iload_n (μ := mX4_peace) (pc := 65) dX4_peace_65 rfl rfl ?_
            obtain ⟨n66, hx66, h⟩ := h
            refine r_aald (μ := mX4_peace) (pc := 66) (k' := 8 + n66) dX4_peace_66 (Or.inl rfl) hx66 rfl ?_
            refine r_astore (μ := mX4_peace) (pc := 67) (ls' := [some (.ref 0), some (.int i1), some (.int i2), some (.int r50), some (.ref (8 + n66)), none]) dX4_peace_67 (Nat.le_of_ble_eq_true rfl) rfl rfl ?_
            refine r_aload_n (μ := mX4_peace) (pc := 69) dX4_peace_69 rfl rfl ?_
            refine r_iload_n (μ := mX4_peace) (pc := 70) dX4_peace_70 rfl rfl ?_
            refine r_iload_n (μ := mX4_peace) (pc := 71) dX4_peace_71 rfl rfl ?_
            refine r_aload (μ := mX4_peace) (pc := 72) dX4_peace_72 rfl ?_
            refine r_callV (μ := mX4_peace) (pc := 74) (as := [.int i1, .int r50, .ref (8 + n66)]) 4 cX4_267 dX4_peace_74 rfl rfl (Nat.le_of_ble_eq_true rfl) rfl okX4_shareCrowns (Nat.lt_succ_self d) (cat8 (n := 0) rfl (by decide)) rfl h (k_V (fun T74 h => ?_))
            refine r_iconst (μ := mX4_peace) (pc := 77) (v := nI 0) dX4_peace_77 rfl ?_
            refine r_istore (μ := mX4_peace) (pc := 78) (ls' := [some (.ref 0), some (.int i1), some (.int i2), some (.int r50), some (.ref (8 + n66)), some (.int (nI 0))]) dX4_peace_78 (Nat.le_of_ble_eq_true rfl) rfl rfl ?_
            exact h
          · have h := h.2 q55
            refine r_bipush (μ := mX4_peace) (pc := 58) (v := (-4)) dX4_peace_58 rfl ?_
            exact r_iret (μ := mX4_peace) (pc := 60) dX4_peace_60 rfl h
        · have h := h.2 q26
          refine r_bipush (μ := mX4_peace) (pc := 29) (v := (-4)) dX4_peace_29 rfl ?_
          exact r_iret (μ := mX4_peace) (pc := 31) dX4_peace_31 rfl h
      · have h := h.2 q14
        refine r_iconst (μ := mX4_peace) (pc := 17) (v := (-1)) dX4_peace_17 rfl ?_
        exact r_iret (μ := mX4_peace) (pc := 18) dX4_peace_18 rfl h

set_option maxRecDepth 20000 in
theorem bX4_peace_80 {G : Gl} {l : Launch} {d : Nat} {S : Sg} {P : Int32 → Sg → Prop} (i1 : Int32) (i2 : Int32) (i3 : Int32) (R4 : Nat) (hR4 : RowAt R4) (i5 : Int32)
    (h : ((S.1 28 8) ≤ i5 → P (-9) S) ∧ (¬ ((S.1 28 8) ≤ i5) → Ct G l mX1_belongs d [.ref 28, .int i5] S (QI (fun r98 T98 => (r98 = (nI 0) → Ev G l mX4_peace (d + 1) 80 [some (.ref 0), some (.int i1), some (.int i2), some (.int i3), some (.ref R4), some (.int (i5 + (nI 1)))] [] T98 (QI P)) ∧ (¬ (r98 = (nI 0)) → Ct G l mX4_isWronged d [.ref 0, .int i5, .ref R4] T98 (QI (fun r109 T109 => (r109 = (nI 0) → Ev G l mX4_peace (d + 1) 80 [some (.ref 0), some (.int i1), some (.int i2), some (.int i3), some (.ref R4), some (.int (i5 + (nI 1)))] [] T109 (QI P)) ∧ (¬ (r109 = (nI 0)) → ∃ n122 : Nat, ix i5 n122 (ln (R4 + 10)) ∧ (P (T109.1 (R4 + 10) n122) T109))))))))) :
    Ev G l mX4_peace (d + 1) 80 [some (.ref 0), some (.int i1), some (.int i2), some (.int i3), some (.ref R4), some (.int i5)] [] S (QI P) := by
  show Ev G l mX4_peace (d + 1) 80 [some (.ref 0), some (.int i1), some (.int i2), some (.int i3), some (.ref R4), some (.int i5)] [] S (QI P)
  refine r_iload (μ := mX4_peace) (pc := 80) dX4_peace_80 rfl ?_
  refine r_aload_n (μ := mX4_peace) (pc := 82) dX4_peace_82 rfl rfl ?_
  refine g_R (μ := mX4_peace) (pc := 83) (k' := 28) fX4_21 dX4_peace_83 rfl rfl ?_
  refine g_I (μ := mX4_peace) (pc := 86) fX4_124 dX4_peace_86 rfl ?_
  refine r_icmp_ge (μ := mX4_peace) (pc := 89) (tgt := 130) dX4_peace_89 (by decide) ⟨fun q89 => ?_, fun q89 => ?_⟩
  · have h := h.1 q89
    refine r_bipush (μ := mX4_peace) (pc := 130) (v := (-9)) dX4_peace_130 rfl ?_
    exact r_iret (μ := mX4_peace) (pc := 132) dX4_peace_132 rfl h
  · have h := h.2 q89
    refine r_aload_n (μ := mX4_peace) (pc := 92) dX4_peace_92 rfl rfl ?_
    refine g_R (μ := mX4_peace) (pc := 93) (k' := 28) fX4_21 dX4_peace_93 rfl rfl ?_
    refine r_iload (μ := mX4_peace) (pc := 96) dX4_peace_96 rfl ?_
    refine r_callV (μ := mX4_peace) (pc := 98) (as := [.int i5]) 1 cX4_199 dX4_peace_98 rfl rfl (Nat.le_of_ble_eq_true rfl) rfl okX1_belongs (Nat.lt_succ_self d) (cat8 (n := 0) rfl (by decide)) rfl h (k_I (fun r98 T98 h => ?_))
    refine r_if_eq (μ := mX4_peace) (pc := 101) (tgt := 124) dX4_peace_101 (by decide) ⟨fun q101 => ?_, fun q101 => ?_⟩
    · have h := h.1 q101
      refine r_iinc (μ := mX4_peace) (pc := 124) (y := nI 1) (ls' := [some (.ref 0), some (.int i1), some (.int i2), some (.int i3), some (.ref R4), some (.int (i5 + (nI 1)))]) dX4_peace_124 rfl rfl (Nat.le_of_ble_eq_true rfl) rfl rfl ?_
      refine r_goto (μ := mX4_peace) (pc := 127) (tgt := 80) dX4_peace_127 (by decide) ?_
      exact h
    · have h := h.2 q101
      refine r_aload_n (μ := mX4_peace) (pc := 104) dX4_peace_104 rfl rfl ?_
      refine r_iload (μ := mX4_peace) (pc := 105) dX4_peace_105 rfl ?_
      refine r_aload (μ := mX4_peace) (pc := 107) dX4_peace_107 rfl ?_
      refine r_callV (μ := mX4_peace) (pc := 109) (as := [.int i5, .ref R4]) 4 cX4_271 dX4_peace_109 rfl rfl (Nat.le_of_ble_eq_true rfl) rfl okX4_isWronged (Nat.lt_succ_self d) (cat8 (n := 0) rfl (by decide)) rfl h (k_I (fun r109 T109 h => ?_))
      refine r_if_eq (μ := mX4_peace) (pc := 112) (tgt := 124) dX4_peace_112 (by decide) ⟨fun q112 => ?_, fun q112 => ?_⟩
      · have h := h.1 q112
        refine r_iinc (μ := mX4_peace) (pc := 124) (y := nI 1) (ls' := [some (.ref 0), some (.int i1), some (.int i2), some (.int i3), some (.ref R4), some (.int (i5 + (nI 1)))]) dX4_peace_124 rfl rfl (Nat.le_of_ble_eq_true rfl) rfl rfl ?_
        refine r_goto (μ := mX4_peace) (pc := 127) (tgt := 80) dX4_peace_127 (by decide) ?_
        exact h
      · have h := h.2 q112
        refine r_aload (μ := mX4_peace) (pc := 115) dX4_peace_115 rfl ?_
        refine g_R (μ := mX4_peace) (pc := 117) (k' := R4 + 10) fX4_79 dX4_peace_117 (ra_kd hR4) (ra_rf hR4) ?_
        refine r_iload (μ := mX4_peace) (pc := 120) dX4_peace_120 rfl ?_
        obtain ⟨n122, hx122, h⟩ := h
        refine r_iald (μ := mX4_peace) (pc := 122) dX4_peace_122 (ra_k hR4) hx122 ?_
        exact r_iret (μ := mX4_peace) (pc := 123) dX4_peace_123 rfl h

set_option maxRecDepth 20000 in
theorem bX4_way_0 {G : Gl} {l : Launch} {d : Nat} {S : Sg} {P : Int32 → Sg → Prop} (i1 : Int32) (i2 : Int32)
    (h : Ct G l mX1_hasCell d [.ref 28, .int i1] S (QI (fun r5 T5 => (r5 = (nI 0) → P (-1) T5) ∧ (¬ (r5 = (nI 0)) → Ct G l mX1_hasCell d [.ref 28, .int i2] T5 (QI (fun r16 T16 => (¬ r16 = (nI 0) → Ct G l mX1_wayLong d [.ref 28, .int i1, .int i2] T16 (QI (fun r30 T30 => P r30 T30))) ∧ (r16 = (nI 0) → P (-1) T16))))))) :
    Ct G l mX4_way (d + 1) [.ref 0, .int i1, .int i2] S (QI P) := by
  show Ev G l mX4_way (d + 1) 0 [some (.ref 0), some (.int i1), some (.int i2)] [] S (QI P)
  refine r_aload_n (μ := mX4_way) (pc := 0) dX4_way_0 rfl rfl ?_
  refine g_R (μ := mX4_way) (pc := 1) (k' := 28) fX4_21 dX4_way_1 rfl rfl ?_
  refine r_iload_n (μ := mX4_way) (pc := 4) dX4_way_4 rfl rfl ?_
  refine r_callV (μ := mX4_way) (pc := 5) (as := [.int i1]) 1 cX4_196 dX4_way_5 rfl rfl (Nat.le_of_ble_eq_true rfl) rfl okX1_hasCell (Nat.lt_succ_self d) (cat8 (n := 0) rfl (by decide)) rfl h (k_I (fun r5 T5 h => ?_))
  refine r_if_eq (μ := mX4_way) (pc := 8) (tgt := 22) dX4_way_8 (by decide) ⟨fun q8 => ?_, fun q8 => ?_⟩
  · have h := h.1 q8
    refine r_iconst (μ := mX4_way) (pc := 22) (v := (-1)) dX4_way_22 rfl ?_
    exact r_iret (μ := mX4_way) (pc := 23) dX4_way_23 rfl h
  · have h := h.2 q8
    refine r_aload_n (μ := mX4_way) (pc := 11) dX4_way_11 rfl rfl ?_
    refine g_R (μ := mX4_way) (pc := 12) (k' := 28) fX4_21 dX4_way_12 rfl rfl ?_
    refine r_iload_n (μ := mX4_way) (pc := 15) dX4_way_15 rfl rfl ?_
    refine r_callV (μ := mX4_way) (pc := 16) (as := [.int i2]) 1 cX4_196 dX4_way_16 rfl rfl (Nat.le_of_ble_eq_true rfl) rfl okX1_hasCell (Nat.lt_succ_self d) (cat8 (n := 0) rfl (by decide)) rfl h (k_I (fun r16 T16 h => ?_))
    refine r_if_ne (μ := mX4_way) (pc := 19) (tgt := 24) dX4_way_19 (by decide) ⟨fun q19 => ?_, fun q19 => ?_⟩
    · have h := h.1 q19
      refine r_aload_n (μ := mX4_way) (pc := 24) dX4_way_24 rfl rfl ?_
      refine g_R (μ := mX4_way) (pc := 25) (k' := 28) fX4_21 dX4_way_25 rfl rfl ?_
      refine r_iload_n (μ := mX4_way) (pc := 28) dX4_way_28 rfl rfl ?_
      refine r_iload_n (μ := mX4_way) (pc := 29) dX4_way_29 rfl rfl ?_
      refine r_callV (μ := mX4_way) (pc := 30) (as := [.int i1, .int i2]) 1 cX4_275 dX4_way_30 rfl rfl (Nat.le_of_ble_eq_true rfl) rfl okX1_wayLong (Nat.lt_succ_self d) (cat8 (n := 0) rfl (by decide)) rfl h (k_I (fun r30 T30 h => ?_))
      exact r_iret (μ := mX4_way) (pc := 33) dX4_way_33 rfl h
    · have h := h.2 q19
      refine r_iconst (μ := mX4_way) (pc := 22) (v := (-1)) dX4_way_22 rfl ?_
      exact r_iret (μ := mX4_way) (pc := 23) dX4_way_23 rfl h

set_option maxRecDepth 20000 in
theorem bX4_far_0 {G : Gl} {l : Launch} {d : Nat} {S : Sg} {P : Int32 → Sg → Prop} (i1 : Int32)
    (h : Ct G l mX1_hasCell d [.ref 28, .int i1] S (QI (fun r5 T5 => (¬ r5 = (nI 0) → Ev G l mX4_far (d + 1) 17 [some (.ref 0), some (.int i1), some (.int (nI 0)), some (.int (nI 1))] [] T5 (QI P)) ∧ (r5 = (nI 0) → P (-1) T5)))) :
    Ct G l mX4_far (d + 1) [.ref 0, .int i1] S (QI P) := by
  show Ev G l mX4_far (d + 1) 0 [some (.ref 0), some (.int i1), none, none] [] S (QI P)
  refine r_aload_n (μ := mX4_far) (pc := 0) dX4_far_0 rfl rfl ?_
  refine g_R (μ := mX4_far) (pc := 1) (k' := 28) fX4_21 dX4_far_1 rfl rfl ?_
  refine r_iload_n (μ := mX4_far) (pc := 4) dX4_far_4 rfl rfl ?_
  refine r_callV (μ := mX4_far) (pc := 5) (as := [.int i1]) 1 cX4_196 dX4_far_5 rfl rfl (Nat.le_of_ble_eq_true rfl) rfl okX1_hasCell (Nat.lt_succ_self d) (cat8 (n := 0) rfl (by decide)) rfl h (k_I (fun r5 T5 h => ?_))
  refine r_if_ne (μ := mX4_far) (pc := 8) (tgt := 13) dX4_far_8 (by decide) ⟨fun q8 => ?_, fun q8 => ?_⟩
  · have h := h.1 q8
    refine r_iconst (μ := mX4_far) (pc := 13) (v := nI 0) dX4_far_13 rfl ?_
    refine r_istore_n (μ := mX4_far) (pc := 14) (ls' := [some (.ref 0), some (.int i1), some (.int (nI 0)), none]) dX4_far_14 rfl (Nat.le_of_ble_eq_true rfl) rfl rfl ?_
    refine r_iconst (μ := mX4_far) (pc := 15) (v := nI 1) dX4_far_15 rfl ?_
    refine r_istore_n (μ := mX4_far) (pc := 16) (ls' := [some (.ref 0), some (.int i1), some (.int (nI 0)), some (.int (nI 1))]) dX4_far_16 rfl (Nat.le_of_ble_eq_true rfl) rfl rfl ?_
    exact h
  · have h := h.2 q8
    refine r_iconst (μ := mX4_far) (pc := 11) (v := (-1)) dX4_far_11 rfl ?_
    exact r_iret (μ := mX4_far) (pc := 12) dX4_far_12 rfl h

set_option maxRecDepth 20000 in
theorem bX4_far_17 {G : Gl} {l : Launch} {d : Nat} {S : Sg} {P : Int32 → Sg → Prop} (i1 : Int32) (i2 : Int32) (i3 : Int32)
    (h : ((S.1 28 0) ≤ i3 → ∀ S57 : Sg, S57 = (u2 S.1 0 9 i2, S.2) → (Ct G l mX1_farLong d [.ref 28, .int i1] S57 (QI (fun r65 T65 => P r65 T65)))) ∧ (¬ ((S.1 28 0) ≤ i3) → Ct G l mX1_farLong d [.ref 28, .int i3] S (QI (fun r33 T33 => Ct G l mX1_farLong d [.ref 28, .int i2] T33 (QI (fun r41 T41 => ∀ x44 : Int32, x44 = (if r41 ≤ r33 then i2 else i3) → (Ev G l mX4_far (d + 1) 17 [some (.ref 0), some (.int i1), some (.int x44), some (.int (i3 + (nI 1)))] [] T41 (QI P)))))))) :
    Ev G l mX4_far (d + 1) 17 [some (.ref 0), some (.int i1), some (.int i2), some (.int i3)] [] S (QI P) := by
  show Ev G l mX4_far (d + 1) 17 [some (.ref 0), some (.int i1), some (.int i2), some (.int i3)] [] S (QI P)
  refine r_iload_n (μ := mX4_far) (pc := 17) dX4_far_17 rfl rfl ?_
  refine r_aload_n (μ := mX4_far) (pc := 18) dX4_far_18 rfl rfl ?_
  refine g_R (μ := mX4_far) (pc := 19) (k' := 28) fX4_21 dX4_far_19 rfl rfl ?_
  refine g_I (μ := mX4_far) (pc := 22) fX4_121 dX4_far_22 rfl ?_
  refine r_icmp_ge (μ := mX4_far) (pc := 25) (tgt := 55) dX4_far_25 (by decide) ⟨fun q25 => ?_, fun q25 => ?_⟩
  · have h := h.1 q25
    refine r_aload_n (μ := mX4_far) (pc := 55) dX4_far_55 rfl rfl ?_
    refine r_iload_n (μ := mX4_far) (pc := 56) dX4_far_56 rfl rfl ?_
    refine p_I (μ := mX4_far) (pc := 57) fX4_50 wfX4_50 dX4_far_57 rfl ?_
    refine nm_S (fun S57 eS57 => ?_)
    have h := h S57 eS57
    refine r_aload_n (μ := mX4_far) (pc := 60) dX4_far_60 rfl rfl ?_
    refine g_R (μ := mX4_far) (pc := 61) (k' := 28) fX4_21 dX4_far_61 rfl rfl ?_
    refine r_iload_n (μ := mX4_far) (pc := 64) dX4_far_64 rfl rfl ?_
    refine r_callV (μ := mX4_far) (pc := 65) (as := [.int i1]) 1 cX4_278 dX4_far_65 rfl rfl (Nat.le_of_ble_eq_true rfl) rfl okX1_farLong (Nat.lt_succ_self d) (cat8 (n := 0) rfl (by decide)) rfl h (k_I (fun r65 T65 h => ?_))
    exact r_iret (μ := mX4_far) (pc := 68) dX4_far_68 rfl h
  · have h := h.2 q25
    refine r_aload_n (μ := mX4_far) (pc := 28) dX4_far_28 rfl rfl ?_
    refine g_R (μ := mX4_far) (pc := 29) (k' := 28) fX4_21 dX4_far_29 rfl rfl ?_
    refine r_iload_n (μ := mX4_far) (pc := 32) dX4_far_32 rfl rfl ?_
    refine r_callV (μ := mX4_far) (pc := 33) (as := [.int i3]) 1 cX4_278 dX4_far_33 rfl rfl (Nat.le_of_ble_eq_true rfl) rfl okX1_farLong (Nat.lt_succ_self d) (cat8 (n := 0) rfl (by decide)) rfl h (k_I (fun r33 T33 h => ?_))
    refine r_aload_n (μ := mX4_far) (pc := 36) dX4_far_36 rfl rfl ?_
    refine g_R (μ := mX4_far) (pc := 37) (k' := 28) fX4_21 dX4_far_37 rfl rfl ?_
    refine r_iload_n (μ := mX4_far) (pc := 40) dX4_far_40 rfl rfl ?_
    refine r_callV (μ := mX4_far) (pc := 41) (as := [.int i2]) 1 cX4_278 dX4_far_41 rfl rfl (Nat.le_of_ble_eq_true rfl) rfl okX1_farLong (Nat.lt_succ_self d) (cat8 (n := 1) rfl (by decide)) rfl h (k_I (fun r41 T41 h => ?_))
    have J44 : ∀ x44 : Int32, x44 = (if r41 ≤ r33 then i2 else i3) → Ev G l mX4_far (d + 1) 49 [some (.ref 0), some (.int i1), some (.int x44), some (.int i3)] [] T41 (QI P) := by
      intro x44 e44
      have h := h x44 e44
      refine r_iinc (μ := mX4_far) (pc := 49) (y := nI 1) (ls' := [some (.ref 0), some (.int i1), some (.int x44), some (.int (i3 + (nI 1)))]) dX4_far_49 rfl rfl (Nat.le_of_ble_eq_true rfl) rfl rfl ?_
      refine r_goto (μ := mX4_far) (pc := 52) (tgt := 17) dX4_far_52 (by decide) ?_
      exact h
    refine r_icmp_ge (μ := mX4_far) (pc := 44) (tgt := 49) dX4_far_44 (by decide) ⟨fun q44 => ?_, fun q44 => ?_⟩
    · exact J44 _ (by first | (rw [if_pos q44]; done) | simp only [if_pos q44])
    · refine r_iload_n (μ := mX4_far) (pc := 47) dX4_far_47 rfl rfl ?_
      refine r_istore_n (μ := mX4_far) (pc := 48) (ls' := [some (.ref 0), some (.int i1), some (.int i3), some (.int i3)]) dX4_far_48 rfl (Nat.le_of_ble_eq_true rfl) rfl rfl ?_
      exact J44 _ (by first | (rw [if_neg q44]; done) | simp only [if_neg q44])

set_option maxRecDepth 20000 in
theorem bX4_kinds_0 {G : Gl} {l : Launch} {d : Nat} {S : Sg} {P : Int32 → Sg → Prop} (i1 : Int32) (i2 : Int32)
    (h : Ct G l mX4_refusePapers d [.ref 0, .int i1, .int i2] S (QI (fun r3 T3 => (r3 = (nI 0) → Ev G l mX4_kinds (d + 1) 19 [some (.ref 0), some (.int i1), some (.int i2), some (.int r3), some (.int (nI 0)), some (.int (nI 0))] [] T3 (QI P)) ∧ (¬ (r3 = (nI 0)) → P r3 T3)))) :
    Ct G l mX4_kinds (d + 1) [.ref 0, .int i1, .int i2] S (QI P) := by
  show Ev G l mX4_kinds (d + 1) 0 [some (.ref 0), some (.int i1), some (.int i2), none, none, none] [] S (QI P)
  refine r_aload_n (μ := mX4_kinds) (pc := 0) dX4_kinds_0 rfl rfl ?_
  refine r_iload_n (μ := mX4_kinds) (pc := 1) dX4_kinds_1 rfl rfl ?_
  refine r_iload_n (μ := mX4_kinds) (pc := 2) dX4_kinds_2 rfl rfl ?_
  refine r_callV (μ := mX4_kinds) (pc := 3) (as := [.int i1, .int i2]) 4 cX4_281 dX4_kinds_3 rfl rfl (Nat.le_of_ble_eq_true rfl) rfl okX4_refusePapers (Nat.lt_succ_self d) (cat8 (n := 0) rfl (by decide)) rfl h (k_I (fun r3 T3 h => ?_))
  refine r_istore_n (μ := mX4_kinds) (pc := 6) (ls' := [some (.ref 0), some (.int i1), some (.int i2), some (.int r3), none, none]) dX4_kinds_6 rfl (Nat.le_of_ble_eq_true rfl) rfl rfl ?_
  refine r_iload_n (μ := mX4_kinds) (pc := 7) dX4_kinds_7 rfl rfl ?_
  refine r_if_eq (μ := mX4_kinds) (pc := 8) (tgt := 13) dX4_kinds_8 (by decide) ⟨fun q8 => ?_, fun q8 => ?_⟩
  · have h := h.1 q8
    refine r_iconst (μ := mX4_kinds) (pc := 13) (v := nI 0) dX4_kinds_13 rfl ?_
    refine r_istore (μ := mX4_kinds) (pc := 14) (ls' := [some (.ref 0), some (.int i1), some (.int i2), some (.int r3), some (.int (nI 0)), none]) dX4_kinds_14 (Nat.le_of_ble_eq_true rfl) rfl rfl ?_
    refine r_iconst (μ := mX4_kinds) (pc := 16) (v := nI 0) dX4_kinds_16 rfl ?_
    refine r_istore (μ := mX4_kinds) (pc := 17) (ls' := [some (.ref 0), some (.int i1), some (.int i2), some (.int r3), some (.int (nI 0)), some (.int (nI 0))]) dX4_kinds_17 (Nat.le_of_ble_eq_true rfl) rfl rfl ?_
    exact h
  · have h := h.2 q8
    refine r_iload_n (μ := mX4_kinds) (pc := 11) dX4_kinds_11 rfl rfl ?_
    exact r_iret (μ := mX4_kinds) (pc := 12) dX4_kinds_12 rfl h

set_option maxRecDepth 20000 in
theorem bX4_kinds_19 {G : Gl} {l : Launch} {d : Nat} {S : Sg} {P : Int32 → Sg → Prop} (i1 : Int32) (i2 : Int32) (i3 : Int32) (i4 : Int32) (i5 : Int32)
    (h : ((nI 5) < i5 → P i4 S) ∧ (¬ ((nI 5) < i5) → ∃ n36 : Nat, ix i1 n36 6 ∧ (∃ n51 : Nat, ix i2 n51 6 ∧ (Ct G l mX4_agrees d [.ref 0, .int i5, .int (S.1 30 n36), .int (S.1 31 n36), .ref (8 + n51)] S (QI (fun r52 T52 => ∀ x55 : Int32, x55 = (if r52 = (nI 0) then i4 else (i4 ||| ((nI 1) <<< (i5 &&& 31)))) → (Ev G l mX4_kinds (d + 1) 19 [some (.ref 0), some (.int i1), some (.int i2), some (.int i3), some (.int x55), some (.int (i5 + (nI 1)))] [] T52 (QI P)))))))) :
    Ev G l mX4_kinds (d + 1) 19 [some (.ref 0), some (.int i1), some (.int i2), some (.int i3), some (.int i4), some (.int i5)] [] S (QI P) := by
  show Ev G l mX4_kinds (d + 1) 19 [some (.ref 0), some (.int i1), some (.int i2), some (.int i3), some (.int i4), some (.int i5)] [] S (QI P)
  refine r_iload (μ := mX4_kinds) (pc := 19) dX4_kinds_19 rfl ?_
  refine r_iconst (μ := mX4_kinds) (pc := 21) (v := nI 5) dX4_kinds_21 rfl ?_
  refine r_icmp_gt (μ := mX4_kinds) (pc := 22) (tgt := 73) dX4_kinds_22 (by decide) ⟨fun q22 => ?_, fun q22 => ?_⟩
  · have h := h.1 q22
    refine r_iload (μ := mX4_kinds) (pc := 73) dX4_kinds_73 rfl ?_
    exact r_iret (μ := mX4_kinds) (pc := 75) dX4_kinds_75 rfl h
  · have h := h.2 q22
    refine r_aload_n (μ := mX4_kinds) (pc := 25) dX4_kinds_25 rfl rfl ?_
    refine r_iload (μ := mX4_kinds) (pc := 26) dX4_kinds_26 rfl ?_
    refine r_aload_n (μ := mX4_kinds) (pc := 28) dX4_kinds_28 rfl rfl ?_
    refine g_R (μ := mX4_kinds) (pc := 29) (k' := 28) fX4_21 dX4_kinds_29 rfl rfl ?_
    refine g_R (μ := mX4_kinds) (pc := 32) (k' := 30) fX4_137 dX4_kinds_32 rfl rfl ?_
    refine r_iload_n (μ := mX4_kinds) (pc := 35) dX4_kinds_35 rfl rfl ?_
    obtain ⟨n36, hx36, h⟩ := h
    refine r_iald (μ := mX4_kinds) (pc := 36) dX4_kinds_36 rfl hx36 ?_
    refine r_aload_n (μ := mX4_kinds) (pc := 37) dX4_kinds_37 rfl rfl ?_
    refine g_R (μ := mX4_kinds) (pc := 38) (k' := 28) fX4_21 dX4_kinds_38 rfl rfl ?_
    refine g_R (μ := mX4_kinds) (pc := 41) (k' := 31) fX4_140 dX4_kinds_41 rfl rfl ?_
    refine r_iload_n (μ := mX4_kinds) (pc := 44) dX4_kinds_44 rfl rfl ?_
    refine r_iald (μ := mX4_kinds) (pc := 45) dX4_kinds_45 rfl hx36 ?_
    refine r_aload_n (μ := mX4_kinds) (pc := 46) dX4_kinds_46 rfl rfl ?_
    refine g_R (μ := mX4_kinds) (pc := 47) (k' := 1) fX4_11 dX4_kinds_47 rfl rfl ?_
    refine r_iload_n (μ := mX4_kinds) (pc := 50) dX4_kinds_50 rfl rfl ?_
    obtain ⟨n51, hx51, h⟩ := h
    refine r_aald (μ := mX4_kinds) (pc := 51) (k' := 8 + n51) dX4_kinds_51 (Or.inl rfl) hx51 rfl ?_
    refine r_callV (μ := mX4_kinds) (pc := 52) (as := [.int i5, .int (S.1 30 n36), .int (S.1 31 n36), .ref (8 + n51)]) 4 cX4_284 dX4_kinds_52 rfl rfl (Nat.le_of_ble_eq_true rfl) rfl okX4_agrees (Nat.lt_succ_self d) (cat8 (n := 0) rfl (by decide)) rfl h (k_I (fun r52 T52 h => ?_))
    have J55 : ∀ x55 : Int32, x55 = (if r52 = (nI 0) then i4 else (i4 ||| ((nI 1) <<< (i5 &&& 31)))) → Ev G l mX4_kinds (d + 1) 67 [some (.ref 0), some (.int i1), some (.int i2), some (.int i3), some (.int x55), some (.int i5)] [] T52 (QI P) := by
      intro x55 e55
      have h := h x55 e55
      refine r_iinc (μ := mX4_kinds) (pc := 67) (y := nI 1) (ls' := [some (.ref 0), some (.int i1), some (.int i2), some (.int i3), some (.int x55), some (.int (i5 + (nI 1)))]) dX4_kinds_67 rfl rfl (Nat.le_of_ble_eq_true rfl) rfl rfl ?_
      refine r_goto (μ := mX4_kinds) (pc := 70) (tgt := 19) dX4_kinds_70 (by decide) ?_
      exact h
    refine r_if_eq (μ := mX4_kinds) (pc := 55) (tgt := 67) dX4_kinds_55 (by decide) ⟨fun q55 => ?_, fun q55 => ?_⟩
    · exact J55 _ (by first | (rw [if_pos q55]; done) | simp only [if_pos q55])
    · refine r_iload (μ := mX4_kinds) (pc := 58) dX4_kinds_58 rfl ?_
      refine r_iconst (μ := mX4_kinds) (pc := 60) (v := nI 1) dX4_kinds_60 rfl ?_
      refine r_iload (μ := mX4_kinds) (pc := 61) dX4_kinds_61 rfl ?_
      refine r_ishl (μ := mX4_kinds) (pc := 63) dX4_kinds_63 ?_
      refine r_ior (μ := mX4_kinds) (pc := 64) dX4_kinds_64 ?_
      refine r_istore (μ := mX4_kinds) (pc := 65) (ls' := [some (.ref 0), some (.int i1), some (.int i2), some (.int i3), some (.int (i4 ||| ((nI 1) <<< (i5 &&& 31)))), some (.int i5)]) dX4_kinds_65 (Nat.le_of_ble_eq_true rfl) rfl rfl ?_
      exact J55 _ (by first | (rw [if_neg q55]; done) | simp only [if_neg q55])

set_option maxRecDepth 20000 in
theorem bX4_spots_0 {G : Gl} {l : Launch} {d : Nat} {S : Sg} {P : Int32 → Sg → Prop} (i1 : Int32) (i2 : Int32)
    (h : Ct G l mX4_refusePapers d [.ref 0, .int i1, .int i2] S (QI (fun r3 T3 => (r3 = (nI 0) → Ev G l mX4_spots (d + 1) 19 [some (.ref 0), some (.int i1), some (.int i2), some (.int r3), some (.int (nI 0)), some (.int (nI 0))] [] T3 (QI P)) ∧ (¬ (r3 = (nI 0)) → P r3 T3)))) :
    Ct G l mX4_spots (d + 1) [.ref 0, .int i1, .int i2] S (QI P) := by
  show Ev G l mX4_spots (d + 1) 0 [some (.ref 0), some (.int i1), some (.int i2), none, none, none] [] S (QI P)
  refine r_aload_n (μ := mX4_spots) (pc := 0) dX4_spots_0 rfl rfl ?_
  refine r_iload_n (μ := mX4_spots) (pc := 1) dX4_spots_1 rfl rfl ?_
  refine r_iload_n (μ := mX4_spots) (pc := 2) dX4_spots_2 rfl rfl ?_
  refine r_callV (μ := mX4_spots) (pc := 3) (as := [.int i1, .int i2]) 4 cX4_281 dX4_spots_3 rfl rfl (Nat.le_of_ble_eq_true rfl) rfl okX4_refusePapers (Nat.lt_succ_self d) (cat8 (n := 0) rfl (by decide)) rfl h (k_I (fun r3 T3 h => ?_))
  refine r_istore_n (μ := mX4_spots) (pc := 6) (ls' := [some (.ref 0), some (.int i1), some (.int i2), some (.int r3), none, none]) dX4_spots_6 rfl (Nat.le_of_ble_eq_true rfl) rfl rfl ?_
  refine r_iload_n (μ := mX4_spots) (pc := 7) dX4_spots_7 rfl rfl ?_
  refine r_if_eq (μ := mX4_spots) (pc := 8) (tgt := 13) dX4_spots_8 (by decide) ⟨fun q8 => ?_, fun q8 => ?_⟩
  · have h := h.1 q8
    refine r_iconst (μ := mX4_spots) (pc := 13) (v := nI 0) dX4_spots_13 rfl ?_
    refine r_istore (μ := mX4_spots) (pc := 14) (ls' := [some (.ref 0), some (.int i1), some (.int i2), some (.int r3), some (.int (nI 0)), none]) dX4_spots_14 (Nat.le_of_ble_eq_true rfl) rfl rfl ?_
    refine r_iconst (μ := mX4_spots) (pc := 16) (v := nI 0) dX4_spots_16 rfl ?_
    refine r_istore (μ := mX4_spots) (pc := 17) (ls' := [some (.ref 0), some (.int i1), some (.int i2), some (.int r3), some (.int (nI 0)), some (.int (nI 0))]) dX4_spots_17 (Nat.le_of_ble_eq_true rfl) rfl rfl ?_
    exact h
  · have h := h.2 q8
    refine r_iload_n (μ := mX4_spots) (pc := 11) dX4_spots_11 rfl rfl ?_
    exact r_iret (μ := mX4_spots) (pc := 12) dX4_spots_12 rfl h

set_option maxRecDepth 20000 in
theorem bX4_spots_19 {G : Gl} {l : Launch} {d : Nat} {S : Sg} {P : Int32 → Sg → Prop} (i1 : Int32) (i2 : Int32) (i3 : Int32) (i4 : Int32) (i5 : Int32)
    (h : ((S.1 28 0) ≤ i5 → P i4 S) ∧ (¬ ((S.1 28 0) ≤ i5) → ∃ n40 : Nat, ix i1 n40 6 ∧ (∃ n57 : Nat, ix i2 n57 6 ∧ (Ct G l mX4_agrees d [.ref 0, .int (S.1 29 n40), .int i5, .int (S.1 31 n40), .ref (8 + n57)] S (QI (fun r58 T58 => ∀ x61 : Int32, x61 = (if r58 = (nI 0) then i4 else (i4 ||| ((nI 1) <<< (i5 &&& 31)))) → (Ev G l mX4_spots (d + 1) 19 [some (.ref 0), some (.int i1), some (.int i2), some (.int i3), some (.int x61), some (.int (i5 + (nI 1)))] [] T58 (QI P)))))))) :
    Ev G l mX4_spots (d + 1) 19 [some (.ref 0), some (.int i1), some (.int i2), some (.int i3), some (.int i4), some (.int i5)] [] S (QI P) := by
  show Ev G l mX4_spots (d + 1) 19 [some (.ref 0), some (.int i1), some (.int i2), some (.int i3), some (.int i4), some (.int i5)] [] S (QI P)
  refine r_iload (μ := mX4_spots) (pc := 19) dX4_spots_19 rfl ?_
  refine r_aload_n (μ := mX4_spots) (pc := 21) dX4_spots_21 rfl rfl ?_
  refine g_R (μ := mX4_spots) (pc := 22) (k' := 28) fX4_21 dX4_spots_22 rfl rfl ?_
  refine g_I (μ := mX4_spots) (pc := 25) fX4_121 dX4_spots_25 rfl ?_
  refine r_icmp_ge (μ := mX4_spots) (pc := 28) (tgt := 79) dX4_spots_28 (by decide) ⟨fun q28 => ?_, fun q28 => ?_⟩
  · have h := h.1 q28
    refine r_iload (μ := mX4_spots) (pc := 79) dX4_spots_79 rfl ?_
    exact r_iret (μ := mX4_spots) (pc := 81) dX4_spots_81 rfl h
  · have h := h.2 q28
    refine r_aload_n (μ := mX4_spots) (pc := 31) dX4_spots_31 rfl rfl ?_
    refine r_aload_n (μ := mX4_spots) (pc := 32) dX4_spots_32 rfl rfl ?_
    refine g_R (μ := mX4_spots) (pc := 33) (k' := 28) fX4_21 dX4_spots_33 rfl rfl ?_
    refine g_R (μ := mX4_spots) (pc := 36) (k' := 29) fX4_288 dX4_spots_36 rfl rfl ?_
    refine r_iload_n (μ := mX4_spots) (pc := 39) dX4_spots_39 rfl rfl ?_
    obtain ⟨n40, hx40, h⟩ := h
    refine r_iald (μ := mX4_spots) (pc := 40) dX4_spots_40 rfl hx40 ?_
    refine r_iload (μ := mX4_spots) (pc := 41) dX4_spots_41 rfl ?_
    refine r_aload_n (μ := mX4_spots) (pc := 43) dX4_spots_43 rfl rfl ?_
    refine g_R (μ := mX4_spots) (pc := 44) (k' := 28) fX4_21 dX4_spots_44 rfl rfl ?_
    refine g_R (μ := mX4_spots) (pc := 47) (k' := 31) fX4_140 dX4_spots_47 rfl rfl ?_
    refine r_iload_n (μ := mX4_spots) (pc := 50) dX4_spots_50 rfl rfl ?_
    refine r_iald (μ := mX4_spots) (pc := 51) dX4_spots_51 rfl hx40 ?_
    refine r_aload_n (μ := mX4_spots) (pc := 52) dX4_spots_52 rfl rfl ?_
    refine g_R (μ := mX4_spots) (pc := 53) (k' := 1) fX4_11 dX4_spots_53 rfl rfl ?_
    refine r_iload_n (μ := mX4_spots) (pc := 56) dX4_spots_56 rfl rfl ?_
    obtain ⟨n57, hx57, h⟩ := h
    refine r_aald (μ := mX4_spots) (pc := 57) (k' := 8 + n57) dX4_spots_57 (Or.inl rfl) hx57 rfl ?_
    refine r_callV (μ := mX4_spots) (pc := 58) (as := [.int (S.1 29 n40), .int i5, .int (S.1 31 n40), .ref (8 + n57)]) 4 cX4_284 dX4_spots_58 rfl rfl (Nat.le_of_ble_eq_true rfl) rfl okX4_agrees (Nat.lt_succ_self d) (cat8 (n := 0) rfl (by decide)) rfl h (k_I (fun r58 T58 h => ?_))
    have J61 : ∀ x61 : Int32, x61 = (if r58 = (nI 0) then i4 else (i4 ||| ((nI 1) <<< (i5 &&& 31)))) → Ev G l mX4_spots (d + 1) 73 [some (.ref 0), some (.int i1), some (.int i2), some (.int i3), some (.int x61), some (.int i5)] [] T58 (QI P) := by
      intro x61 e61
      have h := h x61 e61
      refine r_iinc (μ := mX4_spots) (pc := 73) (y := nI 1) (ls' := [some (.ref 0), some (.int i1), some (.int i2), some (.int i3), some (.int x61), some (.int (i5 + (nI 1)))]) dX4_spots_73 rfl rfl (Nat.le_of_ble_eq_true rfl) rfl rfl ?_
      refine r_goto (μ := mX4_spots) (pc := 76) (tgt := 19) dX4_spots_76 (by decide) ?_
      exact h
    refine r_if_eq (μ := mX4_spots) (pc := 61) (tgt := 73) dX4_spots_61 (by decide) ⟨fun q61 => ?_, fun q61 => ?_⟩
    · exact J61 _ (by first | (rw [if_pos q61]; done) | simp only [if_pos q61])
    · refine r_iload (μ := mX4_spots) (pc := 64) dX4_spots_64 rfl ?_
      refine r_iconst (μ := mX4_spots) (pc := 66) (v := nI 1) dX4_spots_66 rfl ?_
      refine r_iload (μ := mX4_spots) (pc := 67) dX4_spots_67 rfl ?_
      refine r_ishl (μ := mX4_spots) (pc := 69) dX4_spots_69 ?_
      refine r_ior (μ := mX4_spots) (pc := 70) dX4_spots_70 ?_
      refine r_istore (μ := mX4_spots) (pc := 71) (ls' := [some (.ref 0), some (.int i1), some (.int i2), some (.int i3), some (.int (i4 ||| ((nI 1) <<< (i5 &&& 31)))), some (.int i5)]) dX4_spots_71 (Nat.le_of_ble_eq_true rfl) rfl rfl ?_
      exact J61 _ (by first | (rw [if_neg q61]; done) | simp only [if_neg q61])

set_option maxRecDepth 20000 in
theorem bX4_odds_0 {G : Gl} {l : Launch} {d : Nat} {S : Sg} {P : Int32 → Sg → Prop} (i1 : Int32) (i2 : Int32)
    (h : (i1 < (nI 0) → P (-1) S) ∧ (¬ (i1 < (nI 0)) → ((nI 99) < i1 → P (-1) S) ∧ (¬ ((nI 99) < i1) → (i2 < (nI 0) → P (-1) S) ∧ (¬ (i2 < (nI 0)) → (i2 ≤ (nI 12) → Ct G l mX1_isThere d [.ref 28] S (QI (fun r26 T26 => (¬ r26 = (nI 0) → Ct G l mX4_belong d [.ref 0] T26 (QI (fun r36 T36 => Ev G l mX4_odds (d + 1) 46 [some (.ref 0), some (.int i1), some (.int i2), some (.int r36), some (.long (lN 0)), none, some (.int (nI 0))] [] T36 (QI P)))) ∧ (r26 = (nI 0) → P (-4) T26)))) ∧ (¬ (i2 ≤ (nI 12)) → P (-1) S))))) :
    Ct G l mX4_odds (d + 1) [.ref 0, .int i1, .int i2] S (QI P) := by
  show Ev G l mX4_odds (d + 1) 0 [some (.ref 0), some (.int i1), some (.int i2), none, none, none, none] [] S (QI P)
  refine r_iload_n (μ := mX4_odds) (pc := 0) dX4_odds_0 rfl rfl ?_
  refine r_if_lt (μ := mX4_odds) (pc := 1) (tgt := 20) dX4_odds_1 (by decide) ⟨fun q1 => ?_, fun q1 => ?_⟩
  · have h := h.1 q1
    refine r_iconst (μ := mX4_odds) (pc := 20) (v := (-1)) dX4_odds_20 rfl ?_
    exact r_iret (μ := mX4_odds) (pc := 21) dX4_odds_21 rfl h
  · have h := h.2 q1
    refine r_iload_n (μ := mX4_odds) (pc := 4) dX4_odds_4 rfl rfl ?_
    refine r_bipush (μ := mX4_odds) (pc := 5) (v := nI 99) dX4_odds_5 rfl ?_
    refine r_icmp_gt (μ := mX4_odds) (pc := 7) (tgt := 20) dX4_odds_7 (by decide) ⟨fun q7 => ?_, fun q7 => ?_⟩
    · have h := h.1 q7
      refine r_iconst (μ := mX4_odds) (pc := 20) (v := (-1)) dX4_odds_20 rfl ?_
      exact r_iret (μ := mX4_odds) (pc := 21) dX4_odds_21 rfl h
    · have h := h.2 q7
      refine r_iload_n (μ := mX4_odds) (pc := 10) dX4_odds_10 rfl rfl ?_
      refine r_if_lt (μ := mX4_odds) (pc := 11) (tgt := 20) dX4_odds_11 (by decide) ⟨fun q11 => ?_, fun q11 => ?_⟩
      · have h := h.1 q11
        refine r_iconst (μ := mX4_odds) (pc := 20) (v := (-1)) dX4_odds_20 rfl ?_
        exact r_iret (μ := mX4_odds) (pc := 21) dX4_odds_21 rfl h
      · have h := h.2 q11
        refine r_iload_n (μ := mX4_odds) (pc := 14) dX4_odds_14 rfl rfl ?_
        refine r_bipush (μ := mX4_odds) (pc := 15) (v := nI 12) dX4_odds_15 rfl ?_
        refine r_icmp_le (μ := mX4_odds) (pc := 17) (tgt := 22) dX4_odds_17 (by decide) ⟨fun q17 => ?_, fun q17 => ?_⟩
        · have h := h.1 q17
          refine r_aload_n (μ := mX4_odds) (pc := 22) dX4_odds_22 rfl rfl ?_
          refine g_R (μ := mX4_odds) (pc := 23) (k' := 28) fX4_21 dX4_odds_23 rfl rfl ?_
          refine r_callV (μ := mX4_odds) (pc := 26) (as := []) 1 cX4_170 dX4_odds_26 rfl rfl (Nat.le_of_ble_eq_true rfl) rfl okX1_isThere (Nat.lt_succ_self d) (cat8 (n := 0) rfl (by decide)) rfl h (k_I (fun r26 T26 h => ?_))
          refine r_if_ne (μ := mX4_odds) (pc := 29) (tgt := 35) dX4_odds_29 (by decide) ⟨fun q29 => ?_, fun q29 => ?_⟩
          · have h := h.1 q29
            refine r_aload_n (μ := mX4_odds) (pc := 35) dX4_odds_35 rfl rfl ?_
            refine r_callV (μ := mX4_odds) (pc := 36) (as := []) 4 cX4_234 dX4_odds_36 rfl rfl (Nat.le_of_ble_eq_true rfl) rfl okX4_belong (Nat.lt_succ_self d) (cat8 (n := 0) rfl (by decide)) rfl h (k_I (fun r36 T36 h => ?_))
            refine r_istore_n (μ := mX4_odds) (pc := 39) (ls' := [some (.ref 0), some (.int i1), some (.int i2), some (.int r36), none, none, none]) dX4_odds_39 rfl (Nat.le_of_ble_eq_true rfl) rfl rfl ?_
            refine r_lconst (μ := mX4_odds) (pc := 40) (v := lN 0) dX4_odds_40 rfl ?_
            refine r_lstore (μ := mX4_odds) (pc := 41) (ls' := [some (.ref 0), some (.int i1), some (.int i2), some (.int r36), some (.long (lN 0)), none, none]) dX4_odds_41 (Nat.le_of_ble_eq_true rfl) rfl rfl ?_
            refine r_iconst (μ := mX4_odds) (pc := 43) (v := nI 0) dX4_odds_43 rfl ?_
            refine r_istore (μ := mX4_odds) (pc := 44) (ls' := [some (.ref 0), some (.int i1), some (.int i2), some (.int r36), some (.long (lN 0)), none, some (.int (nI 0))]) dX4_odds_44 (Nat.le_of_ble_eq_true rfl) rfl rfl ?_
            exact h
          · have h := h.2 q29
            refine r_bipush (μ := mX4_odds) (pc := 32) (v := (-4)) dX4_odds_32 rfl ?_
            exact r_iret (μ := mX4_odds) (pc := 34) dX4_odds_34 rfl h
        · have h := h.2 q17
          refine r_iconst (μ := mX4_odds) (pc := 20) (v := (-1)) dX4_odds_20 rfl ?_
          exact r_iret (μ := mX4_odds) (pc := 21) dX4_odds_21 rfl h

set_option maxRecDepth 20000 in
theorem bX4_odds_46 {G : Gl} {l : Launch} {d : Nat} {S : Sg} {P : Int32 → Sg → Prop} (i1 : Int32) (i2 : Int32) (i3 : Int32) (j4 : Int64) (i6 : Int32)
    (h : (i3 < i6 → Ct G l mJ6_bitCount_0f7a4 d [.int i3] S (QI (fun r98 T98 => Ct G l mX4_power d [.int (nI 12), .int r98] T98 (QL (fun r101 T101 => Ct G l mX4_tellFraction d [.ref 0, .long j4, .long r101] T101 (QV (fun T104 => P (nI 1) T104))))))) ∧ (¬ (i3 < i6) → (¬ (i6 &&& (i3 ^^^ (-1))) = (nI 0) → Ev G l mX4_odds (d + 1) 46 [some (.ref 0), some (.int i1), some (.int i2), some (.int i3), some (.long j4), none, some (.int (i6 + (nI 1)))] [] S (QI P)) ∧ ((i6 &&& (i3 ^^^ (-1))) = (nI 0) → Ct G l mX1_votesOf d [.ref 28, .int i6] S (QI (fun r67 T67 => (r67 < i1 → Ev G l mX4_odds (d + 1) 46 [some (.ref 0), some (.int i1), some (.int i2), some (.int i3), some (.long j4), none, some (.int (i6 + (nI 1)))] [] T67 (QI P)) ∧ (¬ (r67 < i1) → Ct G l mX4_waysToBeHere d [.int i6, .int i3, .int i2] T67 (QL (fun r80 T80 => Ev G l mX4_odds (d + 1) 46 [some (.ref 0), some (.int i1), some (.int i2), some (.int i3), some (.long (j4 + r80)), none, some (.int (i6 + (nI 1)))] [] T80 (QI P))))))))) :
    Ev G l mX4_odds (d + 1) 46 [some (.ref 0), some (.int i1), some (.int i2), some (.int i3), some (.long j4), none, some (.int i6)] [] S (QI P) := by
  show Ev G l mX4_odds (d + 1) 46 [some (.ref 0), some (.int i1), some (.int i2), some (.int i3), some (.long j4), none, some (.int i6)] [] S (QI P)
  refine r_iload (μ := mX4_odds) (pc := 46) dX4_odds_46 rfl ?_
  refine r_iload_n (μ := mX4_odds) (pc := 48) dX4_odds_48 rfl rfl ?_
  refine r_icmp_gt (μ := mX4_odds) (pc := 49) (tgt := 92) dX4_odds_49 (by decide) ⟨fun q49 => ?_, fun q49 => ?_⟩
  · have h := h.1 q49
    refine r_aload_n (μ := mX4_odds) (pc := 92) dX4_odds_92 rfl rfl ?_
    refine r_lload (μ := mX4_odds) (pc := 93) dX4_odds_93 rfl ?_
    refine r_bipush (μ := mX4_odds) (pc := 95) (v := nI 12) dX4_odds_95 rfl ?_
    refine r_iload_n (μ := mX4_odds) (pc := 97) dX4_odds_97 rfl rfl ?_
    refine r_callS (μ := mX4_odds) (pc := 98) (as := [.int i3]) cX4_240 dX4_odds_98 rfl okJ6_bitCount_0f7a4 (Nat.lt_succ_self d) (cat8 (n := 4) rfl (by decide)) rfl h (k_I (fun r98 T98 h => ?_))
    refine r_callS (μ := mX4_odds) (pc := 101) (as := [.int (nI 12), .int r98]) cX4_295 dX4_odds_101 rfl okX4_power (Nat.lt_succ_self d) (cat8 (n := 3) rfl (by decide)) rfl h (k_L (fun r101 T101 h => ?_))
    refine r_callV (μ := mX4_odds) (pc := 104) (as := [.long j4, .long r101]) 4 cX4_299 dX4_odds_104 rfl rfl (Nat.le_of_ble_eq_true rfl) rfl okX4_tellFraction (Nat.lt_succ_self d) (cat8 (n := 0) rfl (by decide)) rfl h (k_V (fun T104 h => ?_))
    refine r_iconst (μ := mX4_odds) (pc := 107) (v := nI 1) dX4_odds_107 rfl ?_
    exact r_iret (μ := mX4_odds) (pc := 108) dX4_odds_108 rfl h
  · have h := h.2 q49
    refine r_iload (μ := mX4_odds) (pc := 52) dX4_odds_52 rfl ?_
    refine r_iload_n (μ := mX4_odds) (pc := 54) dX4_odds_54 rfl rfl ?_
    refine r_iconst (μ := mX4_odds) (pc := 55) (v := (-1)) dX4_odds_55 rfl ?_
    refine r_ixor (μ := mX4_odds) (pc := 56) dX4_odds_56 ?_
    refine r_iand (μ := mX4_odds) (pc := 57) dX4_odds_57 ?_
    refine r_if_ne (μ := mX4_odds) (pc := 58) (tgt := 86) dX4_odds_58 (by decide) ⟨fun q58 => ?_, fun q58 => ?_⟩
    · have h := h.1 q58
      refine r_iinc (μ := mX4_odds) (pc := 86) (y := nI 1) (ls' := [some (.ref 0), some (.int i1), some (.int i2), some (.int i3), some (.long j4), none, some (.int (i6 + (nI 1)))]) dX4_odds_86 rfl rfl (Nat.le_of_ble_eq_true rfl) rfl rfl ?_
      refine r_goto (μ := mX4_odds) (pc := 89) (tgt := 46) dX4_odds_89 (by decide) ?_
      exact h
    · have h := h.2 q58
      refine r_aload_n (μ := mX4_odds) (pc := 61) dX4_odds_61 rfl rfl ?_
      refine g_R (μ := mX4_odds) (pc := 62) (k' := 28) fX4_21 dX4_odds_62 rfl rfl ?_
      refine r_iload (μ := mX4_odds) (pc := 65) dX4_odds_65 rfl ?_
      refine r_callV (μ := mX4_odds) (pc := 67) (as := [.int i6]) 1 cX4_237 dX4_odds_67 rfl rfl (Nat.le_of_ble_eq_true rfl) rfl okX1_votesOf (Nat.lt_succ_self d) (cat8 (n := 0) rfl (by decide)) rfl h (k_I (fun r67 T67 h => ?_))
      refine r_iload_n (μ := mX4_odds) (pc := 70) dX4_odds_70 rfl rfl ?_
      refine r_icmp_lt (μ := mX4_odds) (pc := 71) (tgt := 86) dX4_odds_71 (by decide) ⟨fun q71 => ?_, fun q71 => ?_⟩
      · have h := h.1 q71
        refine r_iinc (μ := mX4_odds) (pc := 86) (y := nI 1) (ls' := [some (.ref 0), some (.int i1), some (.int i2), some (.int i3), some (.long j4), none, some (.int (i6 + (nI 1)))]) dX4_odds_86 rfl rfl (Nat.le_of_ble_eq_true rfl) rfl rfl ?_
        refine r_goto (μ := mX4_odds) (pc := 89) (tgt := 46) dX4_odds_89 (by decide) ?_
        exact h
      · have h := h.2 q71
        refine r_lload (μ := mX4_odds) (pc := 74) dX4_odds_74 rfl ?_
        refine r_iload (μ := mX4_odds) (pc := 76) dX4_odds_76 rfl ?_
        refine r_iload_n (μ := mX4_odds) (pc := 78) dX4_odds_78 rfl rfl ?_
        refine r_iload_n (μ := mX4_odds) (pc := 79) dX4_odds_79 rfl rfl ?_
        refine r_callS (μ := mX4_odds) (pc := 80) (as := [.int i6, .int i3, .int i2]) cX4_291 dX4_odds_80 rfl okX4_waysToBeHere (Nat.lt_succ_self d) (cat8 (n := 2) rfl (by decide)) rfl h (k_L (fun r80 T80 h => ?_))
        refine r_ladd (μ := mX4_odds) (pc := 83) dX4_odds_83 ?_
        refine r_lstore (μ := mX4_odds) (pc := 84) (ls' := [some (.ref 0), some (.int i1), some (.int i2), some (.int i3), some (.long (j4 + r80)), none, some (.int i6)]) dX4_odds_84 (Nat.le_of_ble_eq_true rfl) rfl rfl ?_
        refine r_iinc (μ := mX4_odds) (pc := 86) (y := nI 1) (ls' := [some (.ref 0), some (.int i1), some (.int i2), some (.int i3), some (.long (j4 + r80)), none, some (.int (i6 + (nI 1)))]) dX4_odds_86 rfl rfl (Nat.le_of_ble_eq_true rfl) rfl rfl ?_
        refine r_goto (μ := mX4_odds) (pc := 89) (tgt := 46) dX4_odds_89 (by decide) ?_
        exact h

set_option maxRecDepth 20000 in
theorem bX4_mid_0 {G : Gl} {l : Launch} {d : Nat} {S : Sg} {P : Int32 → Sg → Prop} (i1 : Int32)
    (h : (i1 < (nI 0) → P (-1) S) ∧ (¬ (i1 < (nI 0)) → (i1 ≤ (nI 12) → Ct G l mX1_isThere d [.ref 28] S (QI (fun r16 T16 => (¬ r16 = (nI 0) → Ct G l mX4_belong d [.ref 0] T16 (QI (fun r26 T26 => Ev G l mX4_mid (d + 1) 35 [some (.ref 0), some (.int i1), some (.int r26), some (.long (lN 0)), none, some (.int (nI 0))] [] T26 (QI P)))) ∧ (r16 = (nI 0) → P (-4) T16)))) ∧ (¬ (i1 ≤ (nI 12)) → P (-1) S))) :
    Ct G l mX4_mid (d + 1) [.ref 0, .int i1] S (QI P) := by
  show Ev G l mX4_mid (d + 1) 0 [some (.ref 0), some (.int i1), none, none, none, none] [] S (QI P)
  refine r_iload_n (μ := mX4_mid) (pc := 0) dX4_mid_0 rfl rfl ?_
  refine r_if_lt (μ := mX4_mid) (pc := 1) (tgt := 10) dX4_mid_1 (by decide) ⟨fun q1 => ?_, fun q1 => ?_⟩
  · have h := h.1 q1
    refine r_iconst (μ := mX4_mid) (pc := 10) (v := (-1)) dX4_mid_10 rfl ?_
    exact r_iret (μ := mX4_mid) (pc := 11) dX4_mid_11 rfl h
  · have h := h.2 q1
    refine r_iload_n (μ := mX4_mid) (pc := 4) dX4_mid_4 rfl rfl ?_
    refine r_bipush (μ := mX4_mid) (pc := 5) (v := nI 12) dX4_mid_5 rfl ?_
    refine r_icmp_le (μ := mX4_mid) (pc := 7) (tgt := 12) dX4_mid_7 (by decide) ⟨fun q7 => ?_, fun q7 => ?_⟩
    · have h := h.1 q7
      refine r_aload_n (μ := mX4_mid) (pc := 12) dX4_mid_12 rfl rfl ?_
      refine g_R (μ := mX4_mid) (pc := 13) (k' := 28) fX4_21 dX4_mid_13 rfl rfl ?_
      refine r_callV (μ := mX4_mid) (pc := 16) (as := []) 1 cX4_170 dX4_mid_16 rfl rfl (Nat.le_of_ble_eq_true rfl) rfl okX1_isThere (Nat.lt_succ_self d) (cat8 (n := 0) rfl (by decide)) rfl h (k_I (fun r16 T16 h => ?_))
      refine r_if_ne (μ := mX4_mid) (pc := 19) (tgt := 25) dX4_mid_19 (by decide) ⟨fun q19 => ?_, fun q19 => ?_⟩
      · have h := h.1 q19
        refine r_aload_n (μ := mX4_mid) (pc := 25) dX4_mid_25 rfl rfl ?_
        refine r_callV (μ := mX4_mid) (pc := 26) (as := []) 4 cX4_234 dX4_mid_26 rfl rfl (Nat.le_of_ble_eq_true rfl) rfl okX4_belong (Nat.lt_succ_self d) (cat8 (n := 0) rfl (by decide)) rfl h (k_I (fun r26 T26 h => ?_))
        refine r_istore_n (μ := mX4_mid) (pc := 29) (ls' := [some (.ref 0), some (.int i1), some (.int r26), none, none, none]) dX4_mid_29 rfl (Nat.le_of_ble_eq_true rfl) rfl rfl ?_
        refine r_lconst (μ := mX4_mid) (pc := 30) (v := lN 0) dX4_mid_30 rfl ?_
        refine r_lstore_n (μ := mX4_mid) (pc := 31) (ls' := [some (.ref 0), some (.int i1), some (.int r26), some (.long (lN 0)), none, none]) dX4_mid_31 rfl (Nat.le_of_ble_eq_true rfl) rfl rfl ?_
        refine r_iconst (μ := mX4_mid) (pc := 32) (v := nI 0) dX4_mid_32 rfl ?_
        refine r_istore (μ := mX4_mid) (pc := 33) (ls' := [some (.ref 0), some (.int i1), some (.int r26), some (.long (lN 0)), none, some (.int (nI 0))]) dX4_mid_33 (Nat.le_of_ble_eq_true rfl) rfl rfl ?_
        exact h
      · have h := h.2 q19
        refine r_bipush (μ := mX4_mid) (pc := 22) (v := (-4)) dX4_mid_22 rfl ?_
        exact r_iret (μ := mX4_mid) (pc := 24) dX4_mid_24 rfl h
    · have h := h.2 q7
      refine r_iconst (μ := mX4_mid) (pc := 10) (v := (-1)) dX4_mid_10 rfl ?_
      exact r_iret (μ := mX4_mid) (pc := 11) dX4_mid_11 rfl h

set_option maxRecDepth 20000 in
theorem bX4_mid_35 {G : Gl} {l : Launch} {d : Nat} {S : Sg} {P : Int32 → Sg → Prop} (i1 : Int32) (i2 : Int32) (j3 : Int64) (i5 : Int32)
    (h : (i2 < i5 → Ct G l mJ6_bitCount_0f7a4 d [.int i2] S (QI (fun r82 T82 => Ct G l mX4_power d [.int (nI 12), .int r82] T82 (QL (fun r85 T85 => Ct G l mX4_tellFraction d [.ref 0, .long j3, .long r85] T85 (QV (fun T88 => P (nI 1) T88))))))) ∧ (¬ (i2 < i5) → (¬ (i5 &&& (i2 ^^^ (-1))) = (nI 0) → Ev G l mX4_mid (d + 1) 35 [some (.ref 0), some (.int i1), some (.int i2), some (.long j3), none, some (.int (i5 + (nI 1)))] [] S (QI P)) ∧ ((i5 &&& (i2 ^^^ (-1))) = (nI 0) → Ct G l mX1_mostVotesIn d [.ref 28, .int i5] S (QI (fun r57 T57 => Ct G l mX4_waysToBeHere d [.int i5, .int i2, .int i1] T57 (QL (fun r65 T65 => Ev G l mX4_mid (d + 1) 35 [some (.ref 0), some (.int i1), some (.int i2), some (.long (j3 + (((r57).toInt64) * r65))), none, some (.int (i5 + (nI 1)))] [] T65 (QI P)))))))) :
    Ev G l mX4_mid (d + 1) 35 [some (.ref 0), some (.int i1), some (.int i2), some (.long j3), none, some (.int i5)] [] S (QI P) := by
  show Ev G l mX4_mid (d + 1) 35 [some (.ref 0), some (.int i1), some (.int i2), some (.long j3), none, some (.int i5)] [] S (QI P)
  refine r_iload (μ := mX4_mid) (pc := 35) dX4_mid_35 rfl ?_
  refine r_iload_n (μ := mX4_mid) (pc := 37) dX4_mid_37 rfl rfl ?_
  refine r_icmp_gt (μ := mX4_mid) (pc := 38) (tgt := 77) dX4_mid_38 (by decide) ⟨fun q38 => ?_, fun q38 => ?_⟩
  · have h := h.1 q38
    refine r_aload_n (μ := mX4_mid) (pc := 77) dX4_mid_77 rfl rfl ?_
    refine r_lload_n (μ := mX4_mid) (pc := 78) dX4_mid_78 rfl rfl ?_
    refine r_bipush (μ := mX4_mid) (pc := 79) (v := nI 12) dX4_mid_79 rfl ?_
    refine r_iload_n (μ := mX4_mid) (pc := 81) dX4_mid_81 rfl rfl ?_
    refine r_callS (μ := mX4_mid) (pc := 82) (as := [.int i2]) cX4_240 dX4_mid_82 rfl okJ6_bitCount_0f7a4 (Nat.lt_succ_self d) (cat8 (n := 4) rfl (by decide)) rfl h (k_I (fun r82 T82 h => ?_))
    refine r_callS (μ := mX4_mid) (pc := 85) (as := [.int (nI 12), .int r82]) cX4_295 dX4_mid_85 rfl okX4_power (Nat.lt_succ_self d) (cat8 (n := 3) rfl (by decide)) rfl h (k_L (fun r85 T85 h => ?_))
    refine r_callV (μ := mX4_mid) (pc := 88) (as := [.long j3, .long r85]) 4 cX4_299 dX4_mid_88 rfl rfl (Nat.le_of_ble_eq_true rfl) rfl okX4_tellFraction (Nat.lt_succ_self d) (cat8 (n := 0) rfl (by decide)) rfl h (k_V (fun T88 h => ?_))
    refine r_iconst (μ := mX4_mid) (pc := 91) (v := nI 1) dX4_mid_91 rfl ?_
    exact r_iret (μ := mX4_mid) (pc := 92) dX4_mid_92 rfl h
  · have h := h.2 q38
    refine r_iload (μ := mX4_mid) (pc := 41) dX4_mid_41 rfl ?_
    refine r_iload_n (μ := mX4_mid) (pc := 43) dX4_mid_43 rfl rfl ?_
    refine r_iconst (μ := mX4_mid) (pc := 44) (v := (-1)) dX4_mid_44 rfl ?_
    refine r_ixor (μ := mX4_mid) (pc := 45) dX4_mid_45 ?_
    refine r_iand (μ := mX4_mid) (pc := 46) dX4_mid_46 ?_
    refine r_if_ne (μ := mX4_mid) (pc := 47) (tgt := 71) dX4_mid_47 (by decide) ⟨fun q47 => ?_, fun q47 => ?_⟩
    · have h := h.1 q47
      refine r_iinc (μ := mX4_mid) (pc := 71) (y := nI 1) (ls' := [some (.ref 0), some (.int i1), some (.int i2), some (.long j3), none, some (.int (i5 + (nI 1)))]) dX4_mid_71 rfl rfl (Nat.le_of_ble_eq_true rfl) rfl rfl ?_
      refine r_goto (μ := mX4_mid) (pc := 74) (tgt := 35) dX4_mid_74 (by decide) ?_
      exact h
    · have h := h.2 q47
      refine r_lload_n (μ := mX4_mid) (pc := 50) dX4_mid_50 rfl rfl ?_
      refine r_aload_n (μ := mX4_mid) (pc := 51) dX4_mid_51 rfl rfl ?_
      refine g_R (μ := mX4_mid) (pc := 52) (k' := 28) fX4_21 dX4_mid_52 rfl rfl ?_
      refine r_iload (μ := mX4_mid) (pc := 55) dX4_mid_55 rfl ?_
      refine r_callV (μ := mX4_mid) (pc := 57) (as := [.int i5]) 1 cX4_303 dX4_mid_57 rfl rfl (Nat.le_of_ble_eq_true rfl) rfl okX1_mostVotesIn (Nat.lt_succ_self d) (cat8 (n := 2) rfl (by decide)) rfl h (k_I (fun r57 T57 h => ?_))
      refine r_i2l (μ := mX4_mid) (pc := 60) dX4_mid_60 ?_
      refine r_iload (μ := mX4_mid) (pc := 61) dX4_mid_61 rfl ?_
      refine r_iload_n (μ := mX4_mid) (pc := 63) dX4_mid_63 rfl rfl ?_
      refine r_iload_n (μ := mX4_mid) (pc := 64) dX4_mid_64 rfl rfl ?_
      refine r_callS (μ := mX4_mid) (pc := 65) (as := [.int i5, .int i2, .int i1]) cX4_291 dX4_mid_65 rfl okX4_waysToBeHere (Nat.lt_succ_self d) (cat8 (n := 4) rfl (by decide)) rfl h (k_L (fun r65 T65 h => ?_))
      refine r_lmul (μ := mX4_mid) (pc := 68) dX4_mid_68 ?_
      refine r_ladd (μ := mX4_mid) (pc := 69) dX4_mid_69 ?_
      refine r_lstore_n (μ := mX4_mid) (pc := 70) (ls' := [some (.ref 0), some (.int i1), some (.int i2), some (.long (j3 + (((r57).toInt64) * r65))), none, some (.int i5)]) dX4_mid_70 rfl (Nat.le_of_ble_eq_true rfl) rfl rfl ?_
      refine r_iinc (μ := mX4_mid) (pc := 71) (y := nI 1) (ls' := [some (.ref 0), some (.int i1), some (.int i2), some (.long (j3 + (((r57).toInt64) * r65))), none, some (.int (i5 + (nI 1)))]) dX4_mid_71 rfl rfl (Nat.le_of_ble_eq_true rfl) rfl rfl ?_
      refine r_goto (μ := mX4_mid) (pc := 74) (tgt := 35) dX4_mid_74 (by decide) ?_
      exact h

set_option maxRecDepth 20000 in
theorem bX4_lots_0 {G : Gl} {l : Launch} {d : Nat} {S : Sg} {P : Int32 → Sg → Prop} (i1 : Int32) (i2 : Int32)
    (h : (i1 < (nI 1) → P (-1) S) ∧ (¬ (i1 < (nI 1)) → ((nI 20) < i1 → P (-1) S) ∧ (¬ ((nI 20) < i1) → (i2 < (nI 1) → P (-1) S) ∧ (¬ (i2 < (nI 1)) → (i2 ≤ (nI 2147483646) → Ct G l mX1_isThere d [.ref 28] S (QI (fun r29 T29 => (¬ r29 = (nI 0) → Ct G l mX1_hasRoomFor d [.ref 28, .int i1] T29 (QI (fun r43 T43 => (¬ r43 = (nI 0) → Ev G l mX4_lots (d + 1) 58 [some (.ref 0), some (.int i1), some (.int i2), some (.long ((i2).toInt64)), none, some (.int (nI 0))] [] T43 (QI P)) ∧ (r43 = (nI 0) → P (-2) T43)))) ∧ (r29 = (nI 0) → P (-4) T29)))) ∧ (¬ (i2 ≤ (nI 2147483646)) → P (-1) S))))) :
    Ct G l mX4_lots (d + 1) [.ref 0, .int i1, .int i2] S (QI P) := by
  show Ev G l mX4_lots (d + 1) 0 [some (.ref 0), some (.int i1), some (.int i2), none, none, none] [] S (QI P)
  refine r_iload_n (μ := mX4_lots) (pc := 0) dX4_lots_0 rfl rfl ?_
  refine r_iconst (μ := mX4_lots) (pc := 1) (v := nI 1) dX4_lots_1 rfl ?_
  refine r_icmp_lt (μ := mX4_lots) (pc := 2) (tgt := 23) dX4_lots_2 (by decide) ⟨fun q2 => ?_, fun q2 => ?_⟩
  · have h := h.1 q2
    refine r_iconst (μ := mX4_lots) (pc := 23) (v := (-1)) dX4_lots_23 rfl ?_
    exact r_iret (μ := mX4_lots) (pc := 24) dX4_lots_24 rfl h
  · have h := h.2 q2
    refine r_iload_n (μ := mX4_lots) (pc := 5) dX4_lots_5 rfl rfl ?_
    refine r_bipush (μ := mX4_lots) (pc := 6) (v := nI 20) dX4_lots_6 rfl ?_
    refine r_icmp_gt (μ := mX4_lots) (pc := 8) (tgt := 23) dX4_lots_8 (by decide) ⟨fun q8 => ?_, fun q8 => ?_⟩
    · have h := h.1 q8
      refine r_iconst (μ := mX4_lots) (pc := 23) (v := (-1)) dX4_lots_23 rfl ?_
      exact r_iret (μ := mX4_lots) (pc := 24) dX4_lots_24 rfl h
    · have h := h.2 q8
      refine r_iload_n (μ := mX4_lots) (pc := 11) dX4_lots_11 rfl rfl ?_
      refine r_iconst (μ := mX4_lots) (pc := 12) (v := nI 1) dX4_lots_12 rfl ?_
      refine r_icmp_lt (μ := mX4_lots) (pc := 13) (tgt := 23) dX4_lots_13 (by decide) ⟨fun q13 => ?_, fun q13 => ?_⟩
      · have h := h.1 q13
        refine r_iconst (μ := mX4_lots) (pc := 23) (v := (-1)) dX4_lots_23 rfl ?_
        exact r_iret (μ := mX4_lots) (pc := 24) dX4_lots_24 rfl h
      · have h := h.2 q13
        refine r_iload_n (μ := mX4_lots) (pc := 16) dX4_lots_16 rfl rfl ?_
        refine r_ldcw (μ := mX4_lots) (pc := 17) (v := nI 2147483646) dX4_lots_17 kX4_306 ?_
        refine r_icmp_le (μ := mX4_lots) (pc := 20) (tgt := 25) dX4_lots_20 (by decide) ⟨fun q20 => ?_, fun q20 => ?_⟩
        · have h := h.1 q20
          refine r_aload_n (μ := mX4_lots) (pc := 25) dX4_lots_25 rfl rfl ?_
          refine g_R (μ := mX4_lots) (pc := 26) (k' := 28) fX4_21 dX4_lots_26 rfl rfl ?_
          refine r_callV (μ := mX4_lots) (pc := 29) (as := []) 1 cX4_170 dX4_lots_29 rfl rfl (Nat.le_of_ble_eq_true rfl) rfl okX1_isThere (Nat.lt_succ_self d) (cat8 (n := 0) rfl (by decide)) rfl h (k_I (fun r29 T29 h => ?_))
          refine r_if_ne (μ := mX4_lots) (pc := 32) (tgt := 38) dX4_lots_32 (by decide) ⟨fun q32 => ?_, fun q32 => ?_⟩
          · have h := h.1 q32
            refine r_aload_n (μ := mX4_lots) (pc := 38) dX4_lots_38 rfl rfl ?_
            refine g_R (μ := mX4_lots) (pc := 39) (k' := 28) fX4_21 dX4_lots_39 rfl rfl ?_
            refine r_iload_n (μ := mX4_lots) (pc := 42) dX4_lots_42 rfl rfl ?_
            refine r_callV (μ := mX4_lots) (pc := 43) (as := [.int i1]) 1 cX4_182 dX4_lots_43 rfl rfl (Nat.le_of_ble_eq_true rfl) rfl okX1_hasRoomFor (Nat.lt_succ_self d) (cat8 (n := 0) rfl (by decide)) rfl h (k_I (fun r43 T43 h => ?_))
            refine r_if_ne (μ := mX4_lots) (pc := 46) (tgt := 52) dX4_lots_46 (by decide) ⟨fun q46 => ?_, fun q46 => ?_⟩
            · have h := h.1 q46
              refine r_iload_n (μ := mX4_lots) (pc := 52) dX4_lots_52 rfl rfl ?_
              refine r_i2l (μ := mX4_lots) (pc := 53) dX4_lots_53 ?_
              refine r_lstore_n (μ := mX4_lots) (pc := 54) (ls' := [some (.ref 0), some (.int i1), some (.int i2), some (.long ((i2).toInt64)), none, none]) dX4_lots_54 rfl (Nat.le_of_ble_eq_true rfl) rfl rfl ?_
              refine r_iconst (μ := mX4_lots) (pc := 55) (v := nI 0) dX4_lots_55 rfl ?_
              refine r_istore (μ := mX4_lots) (pc := 56) (ls' := [some (.ref 0), some (.int i1), some (.int i2), some (.long ((i2).toInt64)), none, some (.int (nI 0))]) dX4_lots_56 (Nat.le_of_ble_eq_true rfl) rfl rfl ?_
              exact h
            · have h := h.2 q46
              refine r_bipush (μ := mX4_lots) (pc := 49) (v := (-2)) dX4_lots_49 rfl ?_
              exact r_iret (μ := mX4_lots) (pc := 51) dX4_lots_51 rfl h
          · have h := h.2 q32
            refine r_bipush (μ := mX4_lots) (pc := 35) (v := (-4)) dX4_lots_35 rfl ?_
            exact r_iret (μ := mX4_lots) (pc := 37) dX4_lots_37 rfl h
        · have h := h.2 q20
          refine r_iconst (μ := mX4_lots) (pc := 23) (v := (-1)) dX4_lots_23 rfl ?_
          exact r_iret (μ := mX4_lots) (pc := 24) dX4_lots_24 rfl h

set_option maxRecDepth 20000 in
theorem bX4_lots_58 {G : Gl} {l : Launch} {d : Nat} {S : Sg} {P : Int32 → Sg → Prop} (i1 : Int32) (i2 : Int32) (j3 : Int64) (i5 : Int32)
    (h : (i1 ≤ i5 → Ct G l mX1_strip d [.ref 28] S (QI (fun r132 T132 => P r132 T132))) ∧ (¬ (i1 ≤ i5) → ∀ v73 : Int64, v73 = ((j3 * (lN 48271)) - (j3 * (lN 48271)) / (lN 2147483647) * (lN 2147483647)) → ((¬ (lg_cmp (v73 - v73 / (lN 3) * (lN 3)) (lN 0)) = (nI 0) → ∀ x111 : Int32, x111 = (if (lg_cmp (v73 - v73 / (lN 3) * (lN 3)) (lN 1)) = (nI 0) then (-1) else (nI 1)) → (Ct G l mX1_walkByLot d [.ref 28, .int ((v73 / (lN 8)).toInt32), .int x111] S (QV (fun T119 => Ev G l mX4_lots (d + 1) 58 [some (.ref 0), some (.int i1), some (.int i2), some (.long v73), none, some (.int (i5 + (nI 1)))] [] T119 (QI P))))) ∧ ((lg_cmp (v73 - v73 / (lN 3) * (lN 3)) (lN 0)) = (nI 0) → Ct G l mX1_passYear d [.ref 28] S (QV (fun T88 => Ev G l mX4_lots (d + 1) 58 [some (.ref 0), some (.int i1), some (.int i2), some (.long v73), none, some (.int (i5 + (nI 1)))] [] T88 (QI P))))))) :
    Ev G l mX4_lots (d + 1) 58 [some (.ref 0), some (.int i1), some (.int i2), some (.long j3), none, some (.int i5)] [] S (QI P) := by
  show Ev G l mX4_lots (d + 1) 58 [some (.ref 0), some (.int i1), some (.int i2), some (.long j3), none, some (.int i5)] [] S (QI P)
  refine r_iload (μ := mX4_lots) (pc := 58) dX4_lots_58 rfl ?_
  refine r_iload_n (μ := mX4_lots) (pc := 60) dX4_lots_60 rfl rfl ?_
  refine r_icmp_ge (μ := mX4_lots) (pc := 61) (tgt := 128) dX4_lots_61 (by decide) ⟨fun q61 => ?_, fun q61 => ?_⟩
  · have h := h.1 q61
    refine r_aload_n (μ := mX4_lots) (pc := 128) dX4_lots_128 rfl rfl ?_
    refine g_R (μ := mX4_lots) (pc := 129) (k' := 28) fX4_21 dX4_lots_129 rfl rfl ?_
    refine r_callV (μ := mX4_lots) (pc := 132) (as := []) 1 cX4_146 dX4_lots_132 rfl rfl (Nat.le_of_ble_eq_true rfl) rfl okX1_strip (Nat.lt_succ_self d) (cat8 (n := 0) rfl (by decide)) rfl h (k_I (fun r132 T132 h => ?_))
    exact r_iret (μ := mX4_lots) (pc := 135) dX4_lots_135 rfl h
  · have h := h.2 q61
    refine r_lload_n (μ := mX4_lots) (pc := 64) dX4_lots_64 rfl rfl ?_
    refine r_ldc2 (μ := mX4_lots) (pc := 65) (v := lN 48271) dX4_lots_65 kX4_307 ?_
    refine r_lmul (μ := mX4_lots) (pc := 68) dX4_lots_68 ?_
    refine r_ldc2 (μ := mX4_lots) (pc := 69) (v := lN 2147483647) dX4_lots_69 kX4_309 ?_
    refine r_lrem (μ := mX4_lots) (pc := 72) dX4_lots_72 (by decide) ?_
    refine nm_l (fun v73 ev73 => ?_)
    have h := h v73 ev73
    refine r_lstore_n (μ := mX4_lots) (pc := 73) (ls' := [some (.ref 0), some (.int i1), some (.int i2), some (.long v73), none, some (.int i5)]) dX4_lots_73 rfl (Nat.le_of_ble_eq_true rfl) rfl rfl ?_
    refine r_lload_n (μ := mX4_lots) (pc := 74) dX4_lots_74 rfl rfl ?_
    refine r_ldc2 (μ := mX4_lots) (pc := 75) (v := lN 3) dX4_lots_75 kX4_311 ?_
    refine r_lrem (μ := mX4_lots) (pc := 78) dX4_lots_78 (by decide) ?_
    refine r_lconst (μ := mX4_lots) (pc := 79) (v := lN 0) dX4_lots_79 rfl ?_
    refine r_lcmp (μ := mX4_lots) (pc := 80) dX4_lots_80 ?_
    refine r_if_ne (μ := mX4_lots) (pc := 81) (tgt := 94) dX4_lots_81 (by decide) ⟨fun q81 => ?_, fun q81 => ?_⟩
    · have h := h.1 q81
      refine r_aload_n (μ := mX4_lots) (pc := 94) dX4_lots_94 rfl rfl ?_
      refine g_R (μ := mX4_lots) (pc := 95) (k' := 28) fX4_21 dX4_lots_95 rfl rfl ?_
      refine r_lload_n (μ := mX4_lots) (pc := 98) dX4_lots_98 rfl rfl ?_
      refine r_ldc2 (μ := mX4_lots) (pc := 99) (v := lN 8) dX4_lots_99 kX4_313 ?_
      refine r_ldiv (μ := mX4_lots) (pc := 102) dX4_lots_102 (by decide) ?_
      refine r_l2i (μ := mX4_lots) (pc := 103) dX4_lots_103 ?_
      refine r_lload_n (μ := mX4_lots) (pc := 104) dX4_lots_104 rfl rfl ?_
      refine r_ldc2 (μ := mX4_lots) (pc := 105) (v := lN 3) dX4_lots_105 kX4_311 ?_
      refine r_lrem (μ := mX4_lots) (pc := 108) dX4_lots_108 (by decide) ?_
      refine r_lconst (μ := mX4_lots) (pc := 109) (v := lN 1) dX4_lots_109 rfl ?_
      refine r_lcmp (μ := mX4_lots) (pc := 110) dX4_lots_110 ?_
      have J111 : ∀ x111 : Int32, x111 = (if (lg_cmp (v73 - v73 / (lN 3) * (lN 3)) (lN 1)) = (nI 0) then (-1) else (nI 1)) → Ev G l mX4_lots (d + 1) 119 [some (.ref 0), some (.int i1), some (.int i2), some (.long v73), none, some (.int i5)] [.int x111, .int ((v73 / (lN 8)).toInt32), .ref 28] S (QI P) := by
        intro x111 e111
        have h := h x111 e111
        refine r_callV (μ := mX4_lots) (pc := 119) (as := [.int ((v73 / (lN 8)).toInt32), .int x111]) 1 cX4_315 dX4_lots_119 rfl rfl (Nat.le_of_ble_eq_true rfl) rfl okX1_walkByLot (Nat.lt_succ_self d) (cat8 (n := 0) rfl (by decide)) rfl h (k_V (fun T119 h => ?_))
        refine r_iinc (μ := mX4_lots) (pc := 122) (y := nI 1) (ls' := [some (.ref 0), some (.int i1), some (.int i2), some (.long v73), none, some (.int (i5 + (nI 1)))]) dX4_lots_122 rfl rfl (Nat.le_of_ble_eq_true rfl) rfl rfl ?_
        refine r_goto (μ := mX4_lots) (pc := 125) (tgt := 58) dX4_lots_125 (by decide) ?_
        exact h
      refine r_if_ne (μ := mX4_lots) (pc := 111) (tgt := 118) dX4_lots_111 (by decide) ⟨fun q111 => ?_, fun q111 => ?_⟩
      · refine r_iconst (μ := mX4_lots) (pc := 118) (v := nI 1) dX4_lots_118 rfl ?_
        exact J111 _ (by first | (rw [if_neg q111]; done) | simp only [if_neg q111])
      · refine r_iconst (μ := mX4_lots) (pc := 114) (v := (-1)) dX4_lots_114 rfl ?_
        refine r_goto (μ := mX4_lots) (pc := 115) (tgt := 119) dX4_lots_115 (by decide) ?_
        exact J111 _ (by first | (rw [if_pos q111]; done) | simp only [if_pos q111])
    · have h := h.2 q81
      refine r_aload_n (μ := mX4_lots) (pc := 84) dX4_lots_84 rfl rfl ?_
      refine g_R (μ := mX4_lots) (pc := 85) (k' := 28) fX4_21 dX4_lots_85 rfl rfl ?_
      refine r_callV (μ := mX4_lots) (pc := 88) (as := []) 1 cX4_185 dX4_lots_88 rfl rfl (Nat.le_of_ble_eq_true rfl) rfl okX1_passYear (Nat.lt_succ_self d) (cat8 (n := 0) rfl (by decide)) rfl h (k_V (fun T88 h => ?_))
      refine r_goto (μ := mX4_lots) (pc := 91) (tgt := 122) dX4_lots_91 (by decide) ?_
      refine r_iinc (μ := mX4_lots) (pc := 122) (y := nI 1) (ls' := [some (.ref 0), some (.int i1), some (.int i2), some (.long v73), none, some (.int (i5 + (nI 1)))]) dX4_lots_122 rfl rfl (Nat.le_of_ble_eq_true rfl) rfl rfl ?_
      refine r_goto (μ := mX4_lots) (pc := 125) (tgt := 58) dX4_lots_125 (by decide) ?_
      exact h

set_option maxRecDepth 20000 in
theorem bX4_asked_0 {G : Gl} {l : Launch} {d : Nat} {S : Sg} {P : Int32 → Sg → Prop} 
    (h : P (S.1 0 9) S) :
    Ct G l mX4_asked (d + 1) [.ref 0] S (QI P) := by
  show Ev G l mX4_asked (d + 1) 0 [some (.ref 0)] [] S (QI P)
  refine r_aload_n (μ := mX4_asked) (pc := 0) dX4_asked_0 rfl rfl ?_
  refine g_I (μ := mX4_asked) (pc := 1) fX4_50 dX4_asked_1 rfl ?_
  exact r_iret (μ := mX4_asked) (pc := 4) dX4_asked_4 rfl h

set_option maxRecDepth 20000 in
theorem bX4_upper_0 {G : Gl} {l : Launch} {d : Nat} {S : Sg} {P : Int64 → Sg → Prop} 
    (h : P (S.2 0 10) S) :
    Ct G l mX4_upper (d + 1) [.ref 0] S (QL P) := by
  show Ev G l mX4_upper (d + 1) 0 [some (.ref 0)] [] S (QL P)
  refine r_aload_n (μ := mX4_upper) (pc := 0) dX4_upper_0 rfl rfl ?_
  refine g_L (μ := mX4_upper) (pc := 1) fX4_53 dX4_upper_1 rfl ?_
  exact r_lret (μ := mX4_upper) (pc := 4) dX4_upper_4 rfl h

set_option maxRecDepth 20000 in
theorem bX4_lower_0 {G : Gl} {l : Launch} {d : Nat} {S : Sg} {P : Int64 → Sg → Prop} 
    (h : P (S.2 0 11) S) :
    Ct G l mX4_lower (d + 1) [.ref 0] S (QL P) := by
  show Ev G l mX4_lower (d + 1) 0 [some (.ref 0)] [] S (QL P)
  refine r_aload_n (μ := mX4_lower) (pc := 0) dX4_lower_0 rfl rfl ?_
  refine g_L (μ := mX4_lower) (pc := 1) fX4_57 dX4_lower_1 rfl ?_
  exact r_lret (μ := mX4_lower) (pc := 4) dX4_lower_4 rfl h

set_option maxRecDepth 20000 in
theorem bX4_count_0 {G : Gl} {l : Launch} {d : Nat} {S : Sg} {P : Int32 → Sg → Prop} (i1 : Int32)
    (h : (i1 = nI 0 → P (S.1 28 8) S) ∧ (¬ i1 = nI 0 → (i1 = nI 1 → P (S.1 28 0) S) ∧ (¬ i1 = nI 1 → (i1 = nI 2 → P (S.1 28 7) S) ∧ (¬ i1 = nI 2 → (i1 = nI 3 → P (S.1 34 5) S) ∧ (¬ i1 = nI 3 → (i1 = nI 4 → P (S.1 28 1) S) ∧ (¬ i1 = nI 4 → (i1 = nI 5 → P (S.1 28 2) S) ∧ (¬ i1 = nI 5 → (i1 = nI 6 → Ct G l mX4_belong d [.ref 0] S (QI (fun r112 T112 => P r112 T112))) ∧ (¬ i1 = nI 6 → (i1 = nI 7 → Ct G l mX1_ladies d [.ref 28] S (QI (fun r120 T120 => P r120 T120))) ∧ (¬ i1 = nI 7 → (i1 = nI 8 → Ct G l mX4_thereOf d [.ref 1] S (QI (fun r128 T128 => P r128 T128))) ∧ (¬ i1 = nI 8 → (i1 = nI 9 → Ct G l mX4_thereOf d [.ref 2] S (QI (fun r136 T136 => P r136 T136))) ∧ (¬ i1 = nI 9 → (i1 = nI 10 → Ct G l mX4_keptLands d [.ref 0] S (QI (fun r141 T141 => P r141 T141))) ∧ (¬ i1 = nI 10 → P (-1) S)))))))))))) :
    Ct G l mX4_count (d + 1) [.ref 0, .int i1] S (QI P) := by
  show Ev G l mX4_count (d + 1) 0 [some (.ref 0), some (.int i1)] [] S (QI P)
  refine r_iload_n (μ := mX4_count) (pc := 0) dX4_count_0 rfl rfl ?_
  refine r_ts (μ := mX4_count) (pc := 1) (td := 145) [(nI 0, 60), (nI 1, 68), (nI 2, 76), (nI 3, 84), (nI 4, 95), (nI 5, 103), (nI 6, 111), (nI 7, 116), (nI 8, 124), (nI 9, 132), (nI 10, 140)] dX4_count_1 rfl rfl rfl rfl ?_
  refine ⟨fun q1 => ?_, fun q1 => ?_⟩
  · have h := h.1 q1
    refine r_aload_n (μ := mX4_count) (pc := 60) dX4_count_60 rfl rfl ?_
    refine g_R (μ := mX4_count) (pc := 61) (k' := 28) fX4_21 dX4_count_61 rfl rfl ?_
    refine g_I (μ := mX4_count) (pc := 64) fX4_124 dX4_count_64 rfl ?_
    exact r_iret (μ := mX4_count) (pc := 67) dX4_count_67 rfl h
  have h := h.2 q1
  refine ⟨fun q1 => ?_, fun q1 => ?_⟩
  · have h := h.1 q1
    refine r_aload_n (μ := mX4_count) (pc := 68) dX4_count_68 rfl rfl ?_
    refine g_R (μ := mX4_count) (pc := 69) (k' := 28) fX4_21 dX4_count_69 rfl rfl ?_
    refine g_I (μ := mX4_count) (pc := 72) fX4_121 dX4_count_72 rfl ?_
    exact r_iret (μ := mX4_count) (pc := 75) dX4_count_75 rfl h
  have h := h.2 q1
  refine ⟨fun q1 => ?_, fun q1 => ?_⟩
  · have h := h.1 q1
    refine r_aload_n (μ := mX4_count) (pc := 76) dX4_count_76 rfl rfl ?_
    refine g_R (μ := mX4_count) (pc := 77) (k' := 28) fX4_21 dX4_count_77 rfl rfl ?_
    refine g_I (μ := mX4_count) (pc := 80) fX4_318 dX4_count_80 rfl ?_
    exact r_iret (μ := mX4_count) (pc := 83) dX4_count_83 rfl h
  have h := h.2 q1
  refine ⟨fun q1 => ?_, fun q1 => ?_⟩
  · have h := h.1 q1
    refine r_aload_n (μ := mX4_count) (pc := 84) dX4_count_84 rfl rfl ?_
    refine g_R (μ := mX4_count) (pc := 85) (k' := 28) fX4_21 dX4_count_85 rfl rfl ?_
    refine g_R (μ := mX4_count) (pc := 88) (k' := 34) fX4_202 dX4_count_88 rfl rfl ?_
    refine g_I (μ := mX4_count) (pc := 91) fX4_206 dX4_count_91 rfl ?_
    exact r_iret (μ := mX4_count) (pc := 94) dX4_count_94 rfl h
  have h := h.2 q1
  refine ⟨fun q1 => ?_, fun q1 => ?_⟩
  · have h := h.1 q1
    refine r_aload_n (μ := mX4_count) (pc := 95) dX4_count_95 rfl rfl ?_
    refine g_R (μ := mX4_count) (pc := 96) (k' := 28) fX4_21 dX4_count_96 rfl rfl ?_
    refine g_I (μ := mX4_count) (pc := 99) fX4_158 dX4_count_99 rfl ?_
    exact r_iret (μ := mX4_count) (pc := 102) dX4_count_102 rfl h
  have h := h.2 q1
  refine ⟨fun q1 => ?_, fun q1 => ?_⟩
  · have h := h.1 q1
    refine r_aload_n (μ := mX4_count) (pc := 103) dX4_count_103 rfl rfl ?_
    refine g_R (μ := mX4_count) (pc := 104) (k' := 28) fX4_21 dX4_count_104 rfl rfl ?_
    refine g_I (μ := mX4_count) (pc := 107) fX4_161 dX4_count_107 rfl ?_
    exact r_iret (μ := mX4_count) (pc := 110) dX4_count_110 rfl h
  have h := h.2 q1
  refine ⟨fun q1 => ?_, fun q1 => ?_⟩
  · have h := h.1 q1
    refine r_aload_n (μ := mX4_count) (pc := 111) dX4_count_111 rfl rfl ?_
    refine r_callV (μ := mX4_count) (pc := 112) (as := []) 4 cX4_234 dX4_count_112 rfl rfl (Nat.le_of_ble_eq_true rfl) rfl okX4_belong (Nat.lt_succ_self d) (cat8 (n := 0) rfl (by decide)) rfl h (k_I (fun r112 T112 h => ?_))
    exact r_iret (μ := mX4_count) (pc := 115) dX4_count_115 rfl h
  have h := h.2 q1
  refine ⟨fun q1 => ?_, fun q1 => ?_⟩
  · have h := h.1 q1
    refine r_aload_n (μ := mX4_count) (pc := 116) dX4_count_116 rfl rfl ?_
    refine g_R (μ := mX4_count) (pc := 117) (k' := 28) fX4_21 dX4_count_117 rfl rfl ?_
    refine r_callV (μ := mX4_count) (pc := 120) (as := []) 1 cX4_321 dX4_count_120 rfl rfl (Nat.le_of_ble_eq_true rfl) rfl okX1_ladies (Nat.lt_succ_self d) (cat8 (n := 0) rfl (by decide)) rfl h (k_I (fun r120 T120 h => ?_))
    exact r_iret (μ := mX4_count) (pc := 123) dX4_count_123 rfl h
  have h := h.2 q1
  refine ⟨fun q1 => ?_, fun q1 => ?_⟩
  · have h := h.1 q1
    refine r_aload_n (μ := mX4_count) (pc := 124) dX4_count_124 rfl rfl ?_
    refine g_R (μ := mX4_count) (pc := 125) (k' := 1) fX4_11 dX4_count_125 rfl rfl ?_
    refine r_callS (μ := mX4_count) (pc := 128) (as := [.ref 1]) cX4_324 dX4_count_128 rfl okX4_thereOf (Nat.lt_succ_self d) (cat8 (n := 0) rfl (by decide)) rfl h (k_I (fun r128 T128 h => ?_))
    exact r_iret (μ := mX4_count) (pc := 131) dX4_count_131 rfl h
  have h := h.2 q1
  refine ⟨fun q1 => ?_, fun q1 => ?_⟩
  · have h := h.1 q1
    refine r_aload_n (μ := mX4_count) (pc := 132) dX4_count_132 rfl rfl ?_
    refine g_R (μ := mX4_count) (pc := 133) (k' := 2) fX4_15 dX4_count_133 rfl rfl ?_
    refine r_callS (μ := mX4_count) (pc := 136) (as := [.ref 2]) cX4_324 dX4_count_136 rfl okX4_thereOf (Nat.lt_succ_self d) (cat8 (n := 0) rfl (by decide)) rfl h (k_I (fun r136 T136 h => ?_))
    exact r_iret (μ := mX4_count) (pc := 139) dX4_count_139 rfl h
  have h := h.2 q1
  refine ⟨fun q1 => ?_, fun q1 => ?_⟩
  · have h := h.1 q1
    refine r_aload_n (μ := mX4_count) (pc := 140) dX4_count_140 rfl rfl ?_
    refine r_callV (μ := mX4_count) (pc := 141) (as := []) 4 cX4_328 dX4_count_141 rfl rfl (Nat.le_of_ble_eq_true rfl) rfl okX4_keptLands (Nat.lt_succ_self d) (cat8 (n := 0) rfl (by decide)) rfl h (k_I (fun r141 T141 h => ?_))
    exact r_iret (μ := mX4_count) (pc := 144) dX4_count_144 rfl h
  have h := h.2 q1
  refine r_iconst (μ := mX4_count) (pc := 145) (v := (-1)) dX4_count_145 rfl ?_
  exact r_iret (μ := mX4_count) (pc := 146) dX4_count_146 rfl h

set_option maxRecDepth 20000 in
theorem bX4_finding_0 {G : Gl} {l : Launch} {d : Nat} {S : Sg} {P : Int32 → Sg → Prop} 
    (h : P (S.1 0 8) S) :
    Ct G l mX4_finding (d + 1) [.ref 0] S (QI P) := by
  show Ev G l mX4_finding (d + 1) 0 [some (.ref 0)] [] S (QI P)
  refine r_aload_n (μ := mX4_finding) (pc := 0) dX4_finding_0 rfl rfl ?_
  refine g_I (μ := mX4_finding) (pc := 1) fX4_46 dX4_finding_1 rfl ?_
  exact r_iret (μ := mX4_finding) (pc := 4) dX4_finding_4 rfl h

set_option maxRecDepth 20000 in
theorem bX4_findings_0 {G : Gl} {l : Launch} {d : Nat} {S : Sg} {P : Int32 → Sg → Prop} (i1 : Int32)
    (h : (i1 < (nI 1) → P (-1) S) ∧ (¬ (i1 < (nI 1)) → (i1 ≤ (nI 5) → ∃ n17 : Nat, ix i1 n17 6 ∧ (P (S.1 6 n17) S)) ∧ (¬ (i1 ≤ (nI 5)) → P (-1) S))) :
    Ct G l mX4_findings (d + 1) [.ref 0, .int i1] S (QI P) := by
  show Ev G l mX4_findings (d + 1) 0 [some (.ref 0), some (.int i1)] [] S (QI P)
  refine r_iload_n (μ := mX4_findings) (pc := 0) dX4_findings_0 rfl rfl ?_
  refine r_iconst (μ := mX4_findings) (pc := 1) (v := nI 1) dX4_findings_1 rfl ?_
  refine r_icmp_lt (μ := mX4_findings) (pc := 2) (tgt := 10) dX4_findings_2 (by decide) ⟨fun q2 => ?_, fun q2 => ?_⟩
  · have h := h.1 q2
    refine r_iconst (μ := mX4_findings) (pc := 10) (v := (-1)) dX4_findings_10 rfl ?_
    exact r_iret (μ := mX4_findings) (pc := 11) dX4_findings_11 rfl h
  · have h := h.2 q2
    refine r_iload_n (μ := mX4_findings) (pc := 5) dX4_findings_5 rfl rfl ?_
    refine r_iconst (μ := mX4_findings) (pc := 6) (v := nI 5) dX4_findings_6 rfl ?_
    refine r_icmp_le (μ := mX4_findings) (pc := 7) (tgt := 12) dX4_findings_7 (by decide) ⟨fun q7 => ?_, fun q7 => ?_⟩
    · have h := h.1 q7
      refine r_aload_n (μ := mX4_findings) (pc := 12) dX4_findings_12 rfl rfl ?_
      refine g_R (μ := mX4_findings) (pc := 13) (k' := 6) fX4_43 dX4_findings_13 rfl rfl ?_
      refine r_iload_n (μ := mX4_findings) (pc := 16) dX4_findings_16 rfl rfl ?_
      obtain ⟨n17, hx17, h⟩ := h
      refine r_iald (μ := mX4_findings) (pc := 17) dX4_findings_17 rfl hx17 ?_
      exact r_iret (μ := mX4_findings) (pc := 18) dX4_findings_18 rfl h
    · have h := h.2 q7
      refine r_iconst (μ := mX4_findings) (pc := 10) (v := (-1)) dX4_findings_10 rfl ?_
      exact r_iret (μ := mX4_findings) (pc := 11) dX4_findings_11 rfl h

set_option maxRecDepth 20000 in
theorem bX4_digest_0 {G : Gl} {l : Launch} {d : Nat} {S : Sg} {P : Int64 → Sg → Prop} 
    (h : Ev G l mX4_digest (d + 1) 6 [some (.ref 0), some (.long (lN 17)), none, some (.int (nI 0)), none] [] S (QL P)) :
    Ct G l mX4_digest (d + 1) [.ref 0] S (QL P) := by
  show Ev G l mX4_digest (d + 1) 0 [some (.ref 0), none, none, none, none] [] S (QL P)
  refine r_ldc2 (μ := mX4_digest) (pc := 0) (v := lN 17) dX4_digest_0 kX4_331 ?_
  refine r_lstore_n (μ := mX4_digest) (pc := 3) (ls' := [some (.ref 0), some (.long (lN 17)), none, none, none]) dX4_digest_3 rfl (Nat.le_of_ble_eq_true rfl) rfl rfl ?_
  refine r_iconst (μ := mX4_digest) (pc := 4) (v := nI 0) dX4_digest_4 rfl ?_
  refine r_istore_n (μ := mX4_digest) (pc := 5) (ls' := [some (.ref 0), some (.long (lN 17)), none, some (.int (nI 0)), none]) dX4_digest_5 rfl (Nat.le_of_ble_eq_true rfl) rfl rfl ?_
  exact h

set_option maxRecDepth 20000 in
theorem bX4_digest_6 {G : Gl} {l : Launch} {d : Nat} {S : Sg} {P : Int64 → Sg → Prop} (j1 : Int64) (i3 : Int32)
    (h : ((nI 10) < i3 → Ev G l mX4_digest (d + 1) 33 [some (.ref 0), some (.long j1), none, some (.int (nI 3)), none] [] S (QL P)) ∧ (¬ ((nI 10) < i3) → Ct G l mX4_count d [.ref 0, .int i3] S (QI (fun r19 T19 => Ev G l mX4_digest (d + 1) 6 [some (.ref 0), some (.long (((lN 31) * j1) + ((r19).toInt64))), none, some (.int (i3 + (nI 1))), none] [] T19 (QL P))))) :
    Ev G l mX4_digest (d + 1) 6 [some (.ref 0), some (.long j1), none, some (.int i3), none] [] S (QL P) := by
  show Ev G l mX4_digest (d + 1) 6 [some (.ref 0), some (.long j1), none, some (.int i3), none] [] S (QL P)
  refine r_iload_n (μ := mX4_digest) (pc := 6) dX4_digest_6 rfl rfl ?_
  refine r_bipush (μ := mX4_digest) (pc := 7) (v := nI 10) dX4_digest_7 rfl ?_
  refine r_icmp_gt (μ := mX4_digest) (pc := 9) (tgt := 31) dX4_digest_9 (by decide) ⟨fun q9 => ?_, fun q9 => ?_⟩
  · have h := h.1 q9
    refine r_iconst (μ := mX4_digest) (pc := 31) (v := nI 3) dX4_digest_31 rfl ?_
    refine r_istore_n (μ := mX4_digest) (pc := 32) (ls' := [some (.ref 0), some (.long j1), none, some (.int (nI 3)), none]) dX4_digest_32 rfl (Nat.le_of_ble_eq_true rfl) rfl rfl ?_
    exact h
  · have h := h.2 q9
    refine r_ldc2 (μ := mX4_digest) (pc := 12) (v := lN 31) dX4_digest_12 kX4_333 ?_
    refine r_lload_n (μ := mX4_digest) (pc := 15) dX4_digest_15 rfl rfl ?_
    refine r_lmul (μ := mX4_digest) (pc := 16) dX4_digest_16 ?_
    refine r_aload_n (μ := mX4_digest) (pc := 17) dX4_digest_17 rfl rfl ?_
    refine r_iload_n (μ := mX4_digest) (pc := 18) dX4_digest_18 rfl rfl ?_
    refine r_callV (μ := mX4_digest) (pc := 19) (as := [.int i3]) 4 cX4_335 dX4_digest_19 rfl rfl (Nat.le_of_ble_eq_true rfl) rfl okX4_count (Nat.lt_succ_self d) (cat8 (n := 2) rfl (by decide)) rfl h (k_I (fun r19 T19 h => ?_))
    refine r_i2l (μ := mX4_digest) (pc := 22) dX4_digest_22 ?_
    refine r_ladd (μ := mX4_digest) (pc := 23) dX4_digest_23 ?_
    refine r_lstore_n (μ := mX4_digest) (pc := 24) (ls' := [some (.ref 0), some (.long (((lN 31) * j1) + ((r19).toInt64))), none, some (.int i3), none]) dX4_digest_24 rfl (Nat.le_of_ble_eq_true rfl) rfl rfl ?_
    refine r_iinc (μ := mX4_digest) (pc := 25) (y := nI 1) (ls' := [some (.ref 0), some (.long (((lN 31) * j1) + ((r19).toInt64))), none, some (.int (i3 + (nI 1))), none]) dX4_digest_25 rfl rfl (Nat.le_of_ble_eq_true rfl) rfl rfl ?_
    refine r_goto (μ := mX4_digest) (pc := 28) (tgt := 6) dX4_digest_28 (by decide) ?_
    exact h

set_option maxRecDepth 20000 in
theorem bX4_digest_33 {G : Gl} {l : Launch} {d : Nat} {S : Sg} {P : Int64 → Sg → Prop} (j1 : Int64) (i3 : Int32)
    (h : ((nI 5) < i3 → Ev G l mX4_digest (d + 1) 69 [some (.ref 0), some (.long j1), none, some (.int (nI 0)), none] [] S (QL P)) ∧ (¬ ((nI 5) < i3) → Ct G l mX1_isThere d [.ref 28] S (QI (fun r42 T42 => (r42 = (nI 0) → Ev G l mX4_digest (d + 1) 69 [some (.ref 0), some (.long j1), none, some (.int (nI 0)), none] [] T42 (QL P)) ∧ (¬ (r42 = (nI 0)) → Ct G l mX4_coast d [.ref 0, .int i3] T42 (QI (fun r55 T55 => Ev G l mX4_digest (d + 1) 33 [some (.ref 0), some (.long (((lN 31) * j1) + ((r55).toInt64))), none, some (.int (i3 + (nI 1))), none] [] T55 (QL P)))))))) :
    Ev G l mX4_digest (d + 1) 33 [some (.ref 0), some (.long j1), none, some (.int i3), none] [] S (QL P) := by
  show Ev G l mX4_digest (d + 1) 33 [some (.ref 0), some (.long j1), none, some (.int i3), none] [] S (QL P)
  refine r_iload_n (μ := mX4_digest) (pc := 33) dX4_digest_33 rfl rfl ?_
  refine r_iconst (μ := mX4_digest) (pc := 34) (v := nI 5) dX4_digest_34 rfl ?_
  refine r_icmp_gt (μ := mX4_digest) (pc := 35) (tgt := 67) dX4_digest_35 (by decide) ⟨fun q35 => ?_, fun q35 => ?_⟩
  · have h := h.1 q35
    refine r_iconst (μ := mX4_digest) (pc := 67) (v := nI 0) dX4_digest_67 rfl ?_
    refine r_istore_n (μ := mX4_digest) (pc := 68) (ls' := [some (.ref 0), some (.long j1), none, some (.int (nI 0)), none]) dX4_digest_68 rfl (Nat.le_of_ble_eq_true rfl) rfl rfl ?_
    exact h
  · have h := h.2 q35
    refine r_aload_n (μ := mX4_digest) (pc := 38) dX4_digest_38 rfl rfl ?_
    refine g_R (μ := mX4_digest) (pc := 39) (k' := 28) fX4_21 dX4_digest_39 rfl rfl ?_
    refine r_callV (μ := mX4_digest) (pc := 42) (as := []) 1 cX4_170 dX4_digest_42 rfl rfl (Nat.le_of_ble_eq_true rfl) rfl okX1_isThere (Nat.lt_succ_self d) (cat8 (n := 0) rfl (by decide)) rfl h (k_I (fun r42 T42 h => ?_))
    refine r_if_eq (μ := mX4_digest) (pc := 45) (tgt := 67) dX4_digest_45 (by decide) ⟨fun q45 => ?_, fun q45 => ?_⟩
    · have h := h.1 q45
      refine r_iconst (μ := mX4_digest) (pc := 67) (v := nI 0) dX4_digest_67 rfl ?_
      refine r_istore_n (μ := mX4_digest) (pc := 68) (ls' := [some (.ref 0), some (.long j1), none, some (.int (nI 0)), none]) dX4_digest_68 rfl (Nat.le_of_ble_eq_true rfl) rfl rfl ?_
      exact h
    · have h := h.2 q45
      refine r_ldc2 (μ := mX4_digest) (pc := 48) (v := lN 31) dX4_digest_48 kX4_333 ?_
      refine r_lload_n (μ := mX4_digest) (pc := 51) dX4_digest_51 rfl rfl ?_
      refine r_lmul (μ := mX4_digest) (pc := 52) dX4_digest_52 ?_
      refine r_aload_n (μ := mX4_digest) (pc := 53) dX4_digest_53 rfl rfl ?_
      refine r_iload_n (μ := mX4_digest) (pc := 54) dX4_digest_54 rfl rfl ?_
      refine r_callV (μ := mX4_digest) (pc := 55) (as := [.int i3]) 4 cX4_338 dX4_digest_55 rfl rfl (Nat.le_of_ble_eq_true rfl) rfl okX4_coast (Nat.lt_succ_self d) (cat8 (n := 2) rfl (by decide)) rfl h (k_I (fun r55 T55 h => ?_))
      refine r_i2l (μ := mX4_digest) (pc := 58) dX4_digest_58 ?_
      refine r_ladd (μ := mX4_digest) (pc := 59) dX4_digest_59 ?_
      refine r_lstore_n (μ := mX4_digest) (pc := 60) (ls' := [some (.ref 0), some (.long (((lN 31) * j1) + ((r55).toInt64))), none, some (.int i3), none]) dX4_digest_60 rfl (Nat.le_of_ble_eq_true rfl) rfl rfl ?_
      refine r_iinc (μ := mX4_digest) (pc := 61) (y := nI 1) (ls' := [some (.ref 0), some (.long (((lN 31) * j1) + ((r55).toInt64))), none, some (.int (i3 + (nI 1))), none]) dX4_digest_61 rfl rfl (Nat.le_of_ble_eq_true rfl) rfl rfl ?_
      refine r_goto (μ := mX4_digest) (pc := 64) (tgt := 33) dX4_digest_64 (by decide) ?_
      exact h

set_option maxRecDepth 20000 in
theorem bX4_digest_69 {G : Gl} {l : Launch} {d : Nat} {S : Sg} {P : Int64 → Sg → Prop} (j1 : Int64) (i3 : Int32)
    (h : ((S.1 28 8) ≤ i3 → Ev G l mX4_digest (d + 1) 118 [some (.ref 0), some (.long j1), none, some (.int (nI 0)), none] [] S (QL P)) ∧ (¬ ((S.1 28 8) ≤ i3) → Ev G l mX4_digest (d + 1) 83 [some (.ref 0), some (.long j1), none, some (.int i3), some (.int (nI 0))] [] S (QL P))) :
    Ev G l mX4_digest (d + 1) 69 [some (.ref 0), some (.long j1), none, some (.int i3), none] [] S (QL P) := by
  show Ev G l mX4_digest (d + 1) 69 [some (.ref 0), some (.long j1), none, some (.int i3), none] [] S (QL P)
  refine r_iload_n (μ := mX4_digest) (pc := 69) dX4_digest_69 rfl rfl ?_
  refine r_aload_n (μ := mX4_digest) (pc := 70) dX4_digest_70 rfl rfl ?_
  refine g_R (μ := mX4_digest) (pc := 71) (k' := 28) fX4_21 dX4_digest_71 rfl rfl ?_
  refine g_I (μ := mX4_digest) (pc := 74) fX4_124 dX4_digest_74 rfl ?_
  refine r_icmp_ge (μ := mX4_digest) (pc := 77) (tgt := 116) dX4_digest_77 (by decide) ⟨fun q77 => ?_, fun q77 => ?_⟩
  · have h := h.1 q77
    refine r_iconst (μ := mX4_digest) (pc := 116) (v := nI 0) dX4_digest_116 rfl ?_
    refine r_istore_n (μ := mX4_digest) (pc := 117) (ls' := [some (.ref 0), some (.long j1), none, some (.int (nI 0)), none]) dX4_digest_117 rfl (Nat.le_of_ble_eq_true rfl) rfl rfl ?_
    exact h
  · have h := h.2 q77
    refine r_iconst (μ := mX4_digest) (pc := 80) (v := nI 0) dX4_digest_80 rfl ?_
    refine r_istore (μ := mX4_digest) (pc := 81) (ls' := [some (.ref 0), some (.long j1), none, some (.int i3), some (.int (nI 0))]) dX4_digest_81 (Nat.le_of_ble_eq_true rfl) rfl rfl ?_
    exact h

set_option maxRecDepth 20000 in
theorem bX4_digest_83 {G : Gl} {l : Launch} {d : Nat} {S : Sg} {P : Int64 → Sg → Prop} (j1 : Int64) (i3 : Int32) (i4 : Int32)
    (h : ((nI 5) < i4 → Ev G l mX4_digest (d + 1) 69 [some (.ref 0), some (.long j1), none, some (.int (i3 + (nI 1))), none] [] S (QL P)) ∧ (¬ ((nI 5) < i4) → Ct G l mX4_ofOne d [.ref 0, .int i3, .int i4] S (QI (fun r98 T98 => Ev G l mX4_digest (d + 1) 83 [some (.ref 0), some (.long (((lN 31) * j1) + ((r98).toInt64))), none, some (.int i3), some (.int (i4 + (nI 1)))] [] T98 (QL P))))) :
    Ev G l mX4_digest (d + 1) 83 [some (.ref 0), some (.long j1), none, some (.int i3), some (.int i4)] [] S (QL P) := by
  show Ev G l mX4_digest (d + 1) 83 [some (.ref 0), some (.long j1), none, some (.int i3), some (.int i4)] [] S (QL P)
  refine r_iload (μ := mX4_digest) (pc := 83) dX4_digest_83 rfl ?_
  refine r_iconst (μ := mX4_digest) (pc := 85) (v := nI 5) dX4_digest_85 rfl ?_
  refine r_icmp_gt (μ := mX4_digest) (pc := 86) (tgt := 110) dX4_digest_86 (by decide) ⟨fun q86 => ?_, fun q86 => ?_⟩
  · have h := h.1 q86
    refine r_iinc (μ := mX4_digest) (pc := 110) (y := nI 1) (ls' := [some (.ref 0), some (.long j1), none, some (.int (i3 + (nI 1))), some (.int i4)]) dX4_digest_110 rfl rfl (Nat.le_of_ble_eq_true rfl) rfl rfl ?_
    refine r_goto (μ := mX4_digest) (pc := 113) (tgt := 69) dX4_digest_113 (by decide) ?_
    exact Ev.sub (ls' := [some (.ref 0), some (.long j1), none, some (.int (i3 + (nI 1))), none]) (ls_s (ls_s (ls_n (ls_s (ls_n ls_0))))) h
  · have h := h.2 q86
    refine r_ldc2 (μ := mX4_digest) (pc := 89) (v := lN 31) dX4_digest_89 kX4_333 ?_
    refine r_lload_n (μ := mX4_digest) (pc := 92) dX4_digest_92 rfl rfl ?_
    refine r_lmul (μ := mX4_digest) (pc := 93) dX4_digest_93 ?_
    refine r_aload_n (μ := mX4_digest) (pc := 94) dX4_digest_94 rfl rfl ?_
    refine r_iload_n (μ := mX4_digest) (pc := 95) dX4_digest_95 rfl rfl ?_
    refine r_iload (μ := mX4_digest) (pc := 96) dX4_digest_96 rfl ?_
    refine r_callV (μ := mX4_digest) (pc := 98) (as := [.int i3, .int i4]) 4 cX4_130 dX4_digest_98 rfl rfl (Nat.le_of_ble_eq_true rfl) rfl okX4_ofOne (Nat.lt_succ_self d) (cat8 (n := 2) rfl (by decide)) rfl h (k_I (fun r98 T98 h => ?_))
    refine r_i2l (μ := mX4_digest) (pc := 101) dX4_digest_101 ?_
    refine r_ladd (μ := mX4_digest) (pc := 102) dX4_digest_102 ?_
    refine r_lstore_n (μ := mX4_digest) (pc := 103) (ls' := [some (.ref 0), some (.long (((lN 31) * j1) + ((r98).toInt64))), none, some (.int i3), some (.int i4)]) dX4_digest_103 rfl (Nat.le_of_ble_eq_true rfl) rfl rfl ?_
    refine r_iinc (μ := mX4_digest) (pc := 104) (y := nI 1) (ls' := [some (.ref 0), some (.long (((lN 31) * j1) + ((r98).toInt64))), none, some (.int i3), some (.int (i4 + (nI 1)))]) dX4_digest_104 rfl rfl (Nat.le_of_ble_eq_true rfl) rfl rfl ?_
    refine r_goto (μ := mX4_digest) (pc := 107) (tgt := 83) dX4_digest_107 (by decide) ?_
    exact h

set_option maxRecDepth 20000 in
theorem bX4_digest_118 {G : Gl} {l : Launch} {d : Nat} {S : Sg} {P : Int64 → Sg → Prop} (j1 : Int64) (i3 : Int32)
    (h : ((nI 3) ≤ i3 → Ev G l mX4_digest (d + 1) 167 [some (.ref 0), some (.long j1), none, some (.int (nI 0)), none] [] S (QL P)) ∧ (¬ ((nI 3) ≤ i3) → ∃ n133 : Nat, ix i3 n133 3 ∧ (Ct G l mX1_isThere d [.ref (52 + 12 * n133)] S (QI (fun r134 T134 => ∀ x137 : Int32, x137 = (if r134 = (nI 0) then (-1) else (T134.1 (52 + 12 * n133 + 6) 5)) → (Ev G l mX4_digest (d + 1) 118 [some (.ref 0), some (.long (((lN 31) * j1) + ((x137).toInt64))), none, some (.int (i3 + (nI 1))), none] [] T134 (QL P))))))) :
    Ev G l mX4_digest (d + 1) 118 [some (.ref 0), some (.long j1), none, some (.int i3), none] [] S (QL P) := by
  show Ev G l mX4_digest (d + 1) 118 [some (.ref 0), some (.long j1), none, some (.int i3), none] [] S (QL P)
  refine r_iload_n (μ := mX4_digest) (pc := 118) dX4_digest_118 rfl rfl ?_
  refine r_iconst (μ := mX4_digest) (pc := 119) (v := nI 3) dX4_digest_119 rfl ?_
  refine r_icmp_ge (μ := mX4_digest) (pc := 120) (tgt := 165) dX4_digest_120 (by decide) ⟨fun q120 => ?_, fun q120 => ?_⟩
  · have h := h.1 q120
    refine r_iconst (μ := mX4_digest) (pc := 165) (v := nI 0) dX4_digest_165 rfl ?_
    refine r_istore_n (μ := mX4_digest) (pc := 166) (ls' := [some (.ref 0), some (.long j1), none, some (.int (nI 0)), none]) dX4_digest_166 rfl (Nat.le_of_ble_eq_true rfl) rfl rfl ?_
    exact h
  · have h := h.2 q120
    refine r_ldc2 (μ := mX4_digest) (pc := 123) (v := lN 31) dX4_digest_123 kX4_333 ?_
    refine r_lload_n (μ := mX4_digest) (pc := 126) dX4_digest_126 rfl rfl ?_
    refine r_lmul (μ := mX4_digest) (pc := 127) dX4_digest_127 ?_
    refine r_aload_n (μ := mX4_digest) (pc := 128) dX4_digest_128 rfl rfl ?_
    refine g_R (μ := mX4_digest) (pc := 129) (k' := 3) fX4_25 dX4_digest_129 rfl rfl ?_
    refine r_iload_n (μ := mX4_digest) (pc := 132) dX4_digest_132 rfl rfl ?_
    obtain ⟨n133, hx133, h⟩ := h
    refine r_aald (μ := mX4_digest) (pc := 133) (k' := 52 + 12 * n133) dX4_digest_133 (Or.inr rfl) hx133 rfl ?_
    refine r_callV (μ := mX4_digest) (pc := 134) (as := []) 1 cX4_170 dX4_digest_134 rfl (la_kd (la_3 hx133)) (Nat.le_of_ble_eq_true rfl) rfl okX1_isThere (Nat.lt_succ_self d) (cat8 (n := 2) rfl (by decide)) rfl h (k_I (fun r134 T134 h => ?_))
    have J137 : ∀ x137 : Int32, x137 = (if r134 = (nI 0) then (-1) else (T134.1 (52 + 12 * n133 + 6) 5)) → Ev G l mX4_digest (d + 1) 156 [some (.ref 0), some (.long j1), none, some (.int i3), none] [.int x137, .long ((lN 31) * j1)] T134 (QL P) := by
      intro x137 e137
      have h := h x137 e137
      refine r_i2l (μ := mX4_digest) (pc := 156) dX4_digest_156 ?_
      refine r_ladd (μ := mX4_digest) (pc := 157) dX4_digest_157 ?_
      refine r_lstore_n (μ := mX4_digest) (pc := 158) (ls' := [some (.ref 0), some (.long (((lN 31) * j1) + ((x137).toInt64))), none, some (.int i3), none]) dX4_digest_158 rfl (Nat.le_of_ble_eq_true rfl) rfl rfl ?_
      refine r_iinc (μ := mX4_digest) (pc := 159) (y := nI 1) (ls' := [some (.ref 0), some (.long (((lN 31) * j1) + ((x137).toInt64))), none, some (.int (i3 + (nI 1))), none]) dX4_digest_159 rfl rfl (Nat.le_of_ble_eq_true rfl) rfl rfl ?_
      refine r_goto (μ := mX4_digest) (pc := 162) (tgt := 118) dX4_digest_162 (by decide) ?_
      exact h
    refine r_if_eq (μ := mX4_digest) (pc := 137) (tgt := 155) dX4_digest_137 (by decide) ⟨fun q137 => ?_, fun q137 => ?_⟩
    · refine r_iconst (μ := mX4_digest) (pc := 155) (v := (-1)) dX4_digest_155 rfl ?_
      exact J137 _ (by first | (rw [if_pos q137]; done) | simp only [if_pos q137])
    · refine r_aload_n (μ := mX4_digest) (pc := 140) dX4_digest_140 rfl rfl ?_
      refine g_R (μ := mX4_digest) (pc := 141) (k' := 3) fX4_25 dX4_digest_141 rfl rfl ?_
      refine r_iload_n (μ := mX4_digest) (pc := 144) dX4_digest_144 rfl rfl ?_
      refine r_aald (μ := mX4_digest) (pc := 145) (k' := 52 + 12 * n133) dX4_digest_145 (Or.inr rfl) hx133 rfl ?_
      refine g_R (μ := mX4_digest) (pc := 146) (k' := 52 + 12 * n133 + 6) fX4_202 dX4_digest_146 (la_kd (la_3 hx133)) (la_rf14 (la_3 hx133)) ?_
      refine g_I (μ := mX4_digest) (pc := 149) fX4_206 dX4_digest_149 (de_kd (la_deeds (la_3 hx133))) ?_
      refine r_goto (μ := mX4_digest) (pc := 152) (tgt := 156) dX4_digest_152 (by decide) ?_
      exact J137 _ (by first | (rw [if_neg q137]; done) | simp only [if_neg q137])

set_option maxRecDepth 20000 in
theorem bX4_digest_167 {G : Gl} {l : Launch} {d : Nat} {S : Sg} {P : Int64 → Sg → Prop} (j1 : Int64) (i3 : Int32)
    (h : ((nI 6) ≤ i3 → Ev G l mX4_digest (d + 1) 192 [some (.ref 0), some (.long j1), none, some (.int (nI 0)), none] [] S (QL P)) ∧ (¬ ((nI 6) ≤ i3) → ∃ n178 : Nat, ix i3 n178 6 ∧ (Ct G l mX3_digestOn d [.ref (8 + n178), .long j1] S (QL (fun r180 T180 => Ev G l mX4_digest (d + 1) 167 [some (.ref 0), some (.long r180), none, some (.int (i3 + (nI 1))), none] [] T180 (QL P)))))) :
    Ev G l mX4_digest (d + 1) 167 [some (.ref 0), some (.long j1), none, some (.int i3), none] [] S (QL P) := by
  show Ev G l mX4_digest (d + 1) 167 [some (.ref 0), some (.long j1), none, some (.int i3), none] [] S (QL P)
  refine r_iload_n (μ := mX4_digest) (pc := 167) dX4_digest_167 rfl rfl ?_
  refine r_bipush (μ := mX4_digest) (pc := 168) (v := nI 6) dX4_digest_168 rfl ?_
  refine r_icmp_ge (μ := mX4_digest) (pc := 170) (tgt := 190) dX4_digest_170 (by decide) ⟨fun q170 => ?_, fun q170 => ?_⟩
  · have h := h.1 q170
    refine r_iconst (μ := mX4_digest) (pc := 190) (v := nI 0) dX4_digest_190 rfl ?_
    refine r_istore_n (μ := mX4_digest) (pc := 191) (ls' := [some (.ref 0), some (.long j1), none, some (.int (nI 0)), none]) dX4_digest_191 rfl (Nat.le_of_ble_eq_true rfl) rfl rfl ?_
    exact h
  · have h := h.2 q170
    refine r_aload_n (μ := mX4_digest) (pc := 173) dX4_digest_173 rfl rfl ?_
    refine g_R (μ := mX4_digest) (pc := 174) (k' := 1) fX4_11 dX4_digest_174 rfl rfl ?_
    refine r_iload_n (μ := mX4_digest) (pc := 177) dX4_digest_177 rfl rfl ?_
    obtain ⟨n178, hx178, h⟩ := h
    refine r_aald (μ := mX4_digest) (pc := 178) (k' := 8 + n178) dX4_digest_178 (Or.inl rfl) hx178 rfl ?_
    refine r_lload_n (μ := mX4_digest) (pc := 179) dX4_digest_179 rfl rfl ?_
    refine r_callV (μ := mX4_digest) (pc := 180) (as := [.long j1]) 3 cX4_341 dX4_digest_180 rfl (ra_kd (ra_1 hx178)) (Nat.le_of_ble_eq_true rfl) rfl okX3_digestOn (Nat.lt_succ_self d) (cat8 (n := 0) rfl (by decide)) rfl h (k_L (fun r180 T180 h => ?_))
    refine r_lstore_n (μ := mX4_digest) (pc := 183) (ls' := [some (.ref 0), some (.long r180), none, some (.int i3), none]) dX4_digest_183 rfl (Nat.le_of_ble_eq_true rfl) rfl rfl ?_
    refine r_iinc (μ := mX4_digest) (pc := 184) (y := nI 1) (ls' := [some (.ref 0), some (.long r180), none, some (.int (i3 + (nI 1))), none]) dX4_digest_184 rfl rfl (Nat.le_of_ble_eq_true rfl) rfl rfl ?_
    refine r_goto (μ := mX4_digest) (pc := 187) (tgt := 167) dX4_digest_187 (by decide) ?_
    exact h

set_option maxRecDepth 20000 in
theorem bX4_digest_192 {G : Gl} {l : Launch} {d : Nat} {S : Sg} {P : Int64 → Sg → Prop} (j1 : Int64) (i3 : Int32)
    (h : ((nI 4) ≤ i3 → P j1 S) ∧ (¬ ((nI 4) ≤ i3) → ∃ n202 : Nat, ix i3 n202 4 ∧ (Ct G l mX3_digestOn d [.ref (14 + n202), .long j1] S (QL (fun r204 T204 => Ev G l mX4_digest (d + 1) 192 [some (.ref 0), some (.long r204), none, some (.int (i3 + (nI 1))), none] [] T204 (QL P)))))) :
    Ev G l mX4_digest (d + 1) 192 [some (.ref 0), some (.long j1), none, some (.int i3), none] [] S (QL P) := by
  show Ev G l mX4_digest (d + 1) 192 [some (.ref 0), some (.long j1), none, some (.int i3), none] [] S (QL P)
  refine r_iload_n (μ := mX4_digest) (pc := 192) dX4_digest_192 rfl rfl ?_
  refine r_iconst (μ := mX4_digest) (pc := 193) (v := nI 4) dX4_digest_193 rfl ?_
  refine r_icmp_ge (μ := mX4_digest) (pc := 194) (tgt := 214) dX4_digest_194 (by decide) ⟨fun q194 => ?_, fun q194 => ?_⟩
  · have h := h.1 q194
    refine r_lload_n (μ := mX4_digest) (pc := 214) dX4_digest_214 rfl rfl ?_
    exact r_lret (μ := mX4_digest) (pc := 215) dX4_digest_215 rfl h
  · have h := h.2 q194
    refine r_aload_n (μ := mX4_digest) (pc := 197) dX4_digest_197 rfl rfl ?_
    refine g_R (μ := mX4_digest) (pc := 198) (k' := 2) fX4_15 dX4_digest_198 rfl rfl ?_
    refine r_iload_n (μ := mX4_digest) (pc := 201) dX4_digest_201 rfl rfl ?_
    obtain ⟨n202, hx202, h⟩ := h
    refine r_aald (μ := mX4_digest) (pc := 202) (k' := 14 + n202) dX4_digest_202 (Or.inl rfl) hx202 rfl ?_
    refine r_lload_n (μ := mX4_digest) (pc := 203) dX4_digest_203 rfl rfl ?_
    refine r_callV (μ := mX4_digest) (pc := 204) (as := [.long j1]) 3 cX4_341 dX4_digest_204 rfl (ra_kd (ra_2 hx202)) (Nat.le_of_ble_eq_true rfl) rfl okX3_digestOn (Nat.lt_succ_self d) (cat8 (n := 0) rfl (by decide)) rfl h (k_L (fun r204 T204 h => ?_))
    refine r_lstore_n (μ := mX4_digest) (pc := 207) (ls' := [some (.ref 0), some (.long r204), none, some (.int i3), none]) dX4_digest_207 rfl (Nat.le_of_ble_eq_true rfl) rfl rfl ?_
    refine r_iinc (μ := mX4_digest) (pc := 208) (y := nI 1) (ls' := [some (.ref 0), some (.long r204), none, some (.int (i3 + (nI 1))), none]) dX4_digest_208 rfl rfl (Nat.le_of_ble_eq_true rfl) rfl rfl ?_
    refine r_goto (μ := mX4_digest) (pc := 211) (tgt := 192) dX4_digest_211 (by decide) ?_
    exact h

set_option maxRecDepth 20000 in
theorem bX4_isRow_0 {G : Gl} {l : Launch} {d : Nat} {S : Sg} {P : Int32 → Sg → Prop} (i0 : Int32)
    (h : ∀ x1 : Int32, x1 = (if i0 < (nI 0) then (nI 0) else (if (nI 6) ≤ i0 then (nI 0) else (nI 1))) → (P x1 S)) :
    Ct G l mX4_isRow (d + 1) [.int i0] S (QI P) := by
  show Ev G l mX4_isRow (d + 1) 0 [some (.int i0)] [] S (QI P)
  refine r_iload_n (μ := mX4_isRow) (pc := 0) dX4_isRow_0 rfl rfl ?_
  have J1 : ∀ x1 : Int32, x1 = (if i0 < (nI 0) then (nI 0) else (if (nI 6) ≤ i0 then (nI 0) else (nI 1))) → Ev G l mX4_isRow (d + 1) 15 [some (.int i0)] [.int x1] S (QI P) := by
    intro x1 e1
    have h := h x1 e1
    exact r_zret (μ := mX4_isRow) (pc := 15) dX4_isRow_15 rfl (by rw [e1]; exact (zb_if rfl (zb_if rfl rfl))) h
  refine r_if_lt (μ := mX4_isRow) (pc := 1) (tgt := 14) dX4_isRow_1 (by decide) ⟨fun q1 => ?_, fun q1 => ?_⟩
  · refine r_iconst (μ := mX4_isRow) (pc := 14) (v := nI 0) dX4_isRow_14 rfl ?_
    exact J1 _ (by first | (rw [if_pos q1]; done) | simp only [if_pos q1])
  · refine r_iload_n (μ := mX4_isRow) (pc := 4) dX4_isRow_4 rfl rfl ?_
    refine r_bipush (μ := mX4_isRow) (pc := 5) (v := nI 6) dX4_isRow_5 rfl ?_
    refine r_icmp_ge (μ := mX4_isRow) (pc := 7) (tgt := 14) dX4_isRow_7 (by decide) ⟨fun q7 => ?_, fun q7 => ?_⟩
    · refine r_iconst (μ := mX4_isRow) (pc := 14) (v := nI 0) dX4_isRow_14 rfl ?_
      exact J1 _ (by first | (rw [if_neg q1, if_pos q7]; done) | simp only [if_neg q1, if_pos q7])
    · refine r_iconst (μ := mX4_isRow) (pc := 10) (v := nI 1) dX4_isRow_10 rfl ?_
      refine r_goto (μ := mX4_isRow) (pc := 11) (tgt := 15) dX4_isRow_11 (by decide) ?_
      exact J1 _ (by first | (rw [if_neg q1, if_neg q7]; done) | simp only [if_neg q1, if_neg q7])

set_option maxRecDepth 20000 in
theorem bX4_isText_0 {G : Gl} {l : Launch} {d : Nat} {S : Sg} {P : Int32 → Sg → Prop} (i0 : Int32)
    (h : ∀ x1 : Int32, x1 = (if i0 < (nI 0) then (nI 0) else (if (nI 4) ≤ i0 then (nI 0) else (nI 1))) → (P x1 S)) :
    Ct G l mX4_isText (d + 1) [.int i0] S (QI P) := by
  show Ev G l mX4_isText (d + 1) 0 [some (.int i0)] [] S (QI P)
  refine r_iload_n (μ := mX4_isText) (pc := 0) dX4_isText_0 rfl rfl ?_
  have J1 : ∀ x1 : Int32, x1 = (if i0 < (nI 0) then (nI 0) else (if (nI 4) ≤ i0 then (nI 0) else (nI 1))) → Ev G l mX4_isText (d + 1) 14 [some (.int i0)] [.int x1] S (QI P) := by
    intro x1 e1
    have h := h x1 e1
    exact r_zret (μ := mX4_isText) (pc := 14) dX4_isText_14 rfl (by rw [e1]; exact (zb_if rfl (zb_if rfl rfl))) h
  refine r_if_lt (μ := mX4_isText) (pc := 1) (tgt := 13) dX4_isText_1 (by decide) ⟨fun q1 => ?_, fun q1 => ?_⟩
  · refine r_iconst (μ := mX4_isText) (pc := 13) (v := nI 0) dX4_isText_13 rfl ?_
    exact J1 _ (by first | (rw [if_pos q1]; done) | simp only [if_pos q1])
  · refine r_iload_n (μ := mX4_isText) (pc := 4) dX4_isText_4 rfl rfl ?_
    refine r_iconst (μ := mX4_isText) (pc := 5) (v := nI 4) dX4_isText_5 rfl ?_
    refine r_icmp_ge (μ := mX4_isText) (pc := 6) (tgt := 13) dX4_isText_6 (by decide) ⟨fun q6 => ?_, fun q6 => ?_⟩
    · refine r_iconst (μ := mX4_isText) (pc := 13) (v := nI 0) dX4_isText_13 rfl ?_
      exact J1 _ (by first | (rw [if_neg q1, if_pos q6]; done) | simp only [if_neg q1, if_pos q6])
    · refine r_iconst (μ := mX4_isText) (pc := 9) (v := nI 1) dX4_isText_9 rfl ?_
      refine r_goto (μ := mX4_isText) (pc := 10) (tgt := 14) dX4_isText_10 (by decide) ?_
      exact J1 _ (by first | (rw [if_neg q1, if_neg q6]; done) | simp only [if_neg q1, if_neg q6])

set_option maxRecDepth 20000 in
theorem bX4_isKept_0 {G : Gl} {l : Launch} {d : Nat} {S : Sg} {P : Int32 → Sg → Prop} (i0 : Int32)
    (h : ∀ x1 : Int32, x1 = (if i0 < (nI 0) then (nI 0) else (if (nI 3) ≤ i0 then (nI 0) else (nI 1))) → (P x1 S)) :
    Ct G l mX4_isKept (d + 1) [.int i0] S (QI P) := by
  show Ev G l mX4_isKept (d + 1) 0 [some (.int i0)] [] S (QI P)
  refine r_iload_n (μ := mX4_isKept) (pc := 0) dX4_isKept_0 rfl rfl ?_
  have J1 : ∀ x1 : Int32, x1 = (if i0 < (nI 0) then (nI 0) else (if (nI 3) ≤ i0 then (nI 0) else (nI 1))) → Ev G l mX4_isKept (d + 1) 14 [some (.int i0)] [.int x1] S (QI P) := by
    intro x1 e1
    have h := h x1 e1
    exact r_zret (μ := mX4_isKept) (pc := 14) dX4_isKept_14 rfl (by rw [e1]; exact (zb_if rfl (zb_if rfl rfl))) h
  refine r_if_lt (μ := mX4_isKept) (pc := 1) (tgt := 13) dX4_isKept_1 (by decide) ⟨fun q1 => ?_, fun q1 => ?_⟩
  · refine r_iconst (μ := mX4_isKept) (pc := 13) (v := nI 0) dX4_isKept_13 rfl ?_
    exact J1 _ (by first | (rw [if_pos q1]; done) | simp only [if_pos q1])
  · refine r_iload_n (μ := mX4_isKept) (pc := 4) dX4_isKept_4 rfl rfl ?_
    refine r_iconst (μ := mX4_isKept) (pc := 5) (v := nI 3) dX4_isKept_5 rfl ?_
    refine r_icmp_ge (μ := mX4_isKept) (pc := 6) (tgt := 13) dX4_isKept_6 (by decide) ⟨fun q6 => ?_, fun q6 => ?_⟩
    · refine r_iconst (μ := mX4_isKept) (pc := 13) (v := nI 0) dX4_isKept_13 rfl ?_
      exact J1 _ (by first | (rw [if_neg q1, if_pos q6]; done) | simp only [if_neg q1, if_pos q6])
    · refine r_iconst (μ := mX4_isKept) (pc := 9) (v := nI 1) dX4_isKept_9 rfl ?_
      refine r_goto (μ := mX4_isKept) (pc := 10) (tgt := 14) dX4_isKept_10 (by decide) ?_
      exact J1 _ (by first | (rw [if_neg q1, if_neg q6]; done) | simp only [if_neg q1, if_neg q6])

set_option maxRecDepth 20000 in
theorem bX4_refuse_0 {G : Gl} {l : Launch} {d : Nat} {S : Sg} {P : Int32 → Sg → Prop} (i1 : Int32)
    (h : (i1 < (nI 1) → P (-3) S) ∧ (¬ (i1 < (nI 1)) → ((nI 5) < i1 → P (-3) S) ∧ (¬ ((nI 5) < i1) → ∀ S12 : Sg, S12 = (u2 S.1 0 8 i1, S.2) → (∃ n21 : Nat, ix i1 n21 6 ∧ (∀ S24 : Sg, S24 = (u2 S12.1 6 n21 ((S12.1 6 n21) + (nI 1)), S12.2) → (P (-3) S24)))))) :
    Ct G l mX4_refuse (d + 1) [.ref 0, .int i1] S (QI P) := by
  show Ev G l mX4_refuse (d + 1) 0 [some (.ref 0), some (.int i1)] [] S (QI P)
  refine r_iload_n (μ := mX4_refuse) (pc := 0) dX4_refuse_0 rfl rfl ?_
  refine r_iconst (μ := mX4_refuse) (pc := 1) (v := nI 1) dX4_refuse_1 rfl ?_
  refine r_icmp_lt (μ := mX4_refuse) (pc := 2) (tgt := 25) dX4_refuse_2 (by decide) ⟨fun q2 => ?_, fun q2 => ?_⟩
  · have h := h.1 q2
    refine r_bipush (μ := mX4_refuse) (pc := 25) (v := (-3)) dX4_refuse_25 rfl ?_
    exact r_iret (μ := mX4_refuse) (pc := 27) dX4_refuse_27 rfl h
  · have h := h.2 q2
    refine r_iload_n (μ := mX4_refuse) (pc := 5) dX4_refuse_5 rfl rfl ?_
    refine r_iconst (μ := mX4_refuse) (pc := 6) (v := nI 5) dX4_refuse_6 rfl ?_
    refine r_icmp_gt (μ := mX4_refuse) (pc := 7) (tgt := 25) dX4_refuse_7 (by decide) ⟨fun q7 => ?_, fun q7 => ?_⟩
    · have h := h.1 q7
      refine r_bipush (μ := mX4_refuse) (pc := 25) (v := (-3)) dX4_refuse_25 rfl ?_
      exact r_iret (μ := mX4_refuse) (pc := 27) dX4_refuse_27 rfl h
    · have h := h.2 q7
      refine r_aload_n (μ := mX4_refuse) (pc := 10) dX4_refuse_10 rfl rfl ?_
      refine r_iload_n (μ := mX4_refuse) (pc := 11) dX4_refuse_11 rfl rfl ?_
      refine p_I (μ := mX4_refuse) (pc := 12) fX4_46 wfX4_46 dX4_refuse_12 rfl ?_
      refine nm_S (fun S12 eS12 => ?_)
      have h := h S12 eS12
      refine r_aload_n (μ := mX4_refuse) (pc := 15) dX4_refuse_15 rfl rfl ?_
      refine g_R (μ := mX4_refuse) (pc := 16) (k' := 6) fX4_43 dX4_refuse_16 rfl rfl ?_
      refine r_iload_n (μ := mX4_refuse) (pc := 19) dX4_refuse_19 rfl rfl ?_
      refine r_dup2_11 (μ := mX4_refuse) (pc := 20) dX4_refuse_20 rfl rfl ?_
      obtain ⟨n21, hx21, h⟩ := h
      refine r_iald (μ := mX4_refuse) (pc := 21) dX4_refuse_21 rfl hx21 ?_
      refine r_iconst (μ := mX4_refuse) (pc := 22) (v := nI 1) dX4_refuse_22 rfl ?_
      refine r_iadd (μ := mX4_refuse) (pc := 23) dX4_refuse_23 ?_
      refine r_iast (μ := mX4_refuse) (pc := 24) dX4_refuse_24 rfl hx21 ?_
      refine nm_S (fun S24 eS24 => ?_)
      have h := h S24 eS24
      refine r_bipush (μ := mX4_refuse) (pc := 25) (v := (-3)) dX4_refuse_25 rfl ?_
      exact r_iret (μ := mX4_refuse) (pc := 27) dX4_refuse_27 rfl h

set_option maxRecDepth 20000 in
theorem bX4_refuseMissing_0 {G : Gl} {l : Launch} {d : Nat} {S : Sg} {P : Int32 → Sg → Prop} (F1 : Nat) (hF1 : ShelfAt F1) (i2 : Int32)
    (h : (i2 < (nI 0) → P (-1) S) ∧ (¬ (i2 < (nI 0)) → (i2 < (nI (ln F1)) → ∃ n14 : Nat, ix i2 n14 (ln F1) ∧ (Ct G l mX3_isMissing d [.ref (rf F1 n14)] S (QI (fun r15 T15 => (r15 = (nI 0) → P (nI 0) T15) ∧ (¬ (r15 = (nI 0)) → Ct G l mX4_refuse d [.ref 0, .int (nI 1)] T15 (QI (fun r23 T23 => P r23 T23))))))) ∧ (¬ (i2 < (nI (ln F1))) → P (-1) S))) :
    Ct G l mX4_refuseMissing (d + 1) [.ref 0, .ref F1, .int i2] S (QI P) := by
  show Ev G l mX4_refuseMissing (d + 1) 0 [some (.ref 0), some (.ref F1), some (.int i2)] [] S (QI P)
  refine r_iload_n (μ := mX4_refuseMissing) (pc := 0) dX4_refuseMissing_0 rfl rfl ?_
  refine r_if_lt (μ := mX4_refuseMissing) (pc := 1) (tgt := 10) dX4_refuseMissing_1 (by decide) ⟨fun q1 => ?_, fun q1 => ?_⟩
  · have h := h.1 q1
    refine r_iconst (μ := mX4_refuseMissing) (pc := 10) (v := (-1)) dX4_refuseMissing_10 rfl ?_
    exact r_iret (μ := mX4_refuseMissing) (pc := 11) dX4_refuseMissing_11 rfl h
  · have h := h.2 q1
    refine r_iload_n (μ := mX4_refuseMissing) (pc := 4) dX4_refuseMissing_4 rfl rfl ?_
    refine r_aload_n (μ := mX4_refuseMissing) (pc := 5) dX4_refuseMissing_5 rfl rfl ?_
    refine r_alen (μ := mX4_refuseMissing) (pc := 6) dX4_refuseMissing_6 (by rw [sh_kd hF1]; omega) rfl ?_
    refine r_icmp_lt (μ := mX4_refuseMissing) (pc := 7) (tgt := 12) dX4_refuseMissing_7 (by decide) ⟨fun q7 => ?_, fun q7 => ?_⟩
    · have h := h.1 q7
      refine r_aload_n (μ := mX4_refuseMissing) (pc := 12) dX4_refuseMissing_12 rfl rfl ?_
      refine r_iload_n (μ := mX4_refuseMissing) (pc := 13) dX4_refuseMissing_13 rfl rfl ?_
      obtain ⟨n14, hx14, h⟩ := h
      refine r_aald (μ := mX4_refuseMissing) (pc := 14) (k' := rf F1 n14) dX4_refuseMissing_14 (Or.inl (sh_kd hF1)) hx14 rfl ?_
      refine r_callV (μ := mX4_refuseMissing) (pc := 15) (as := []) 3 cX4_89 dX4_refuseMissing_15 rfl (ra_kd (ra_F hF1 hx14)) (Nat.le_of_ble_eq_true rfl) rfl okX3_isMissing (Nat.lt_succ_self d) (cat8 (n := 0) rfl (by decide)) rfl h (k_I (fun r15 T15 h => ?_))
      refine r_if_eq (μ := mX4_refuseMissing) (pc := 18) (tgt := 29) dX4_refuseMissing_18 (by decide) ⟨fun q18 => ?_, fun q18 => ?_⟩
      · have h := h.1 q18
        refine r_iconst (μ := mX4_refuseMissing) (pc := 29) (v := nI 0) dX4_refuseMissing_29 rfl ?_
        exact r_iret (μ := mX4_refuseMissing) (pc := 30) dX4_refuseMissing_30 rfl h
      · have h := h.2 q18
        refine r_aload_n (μ := mX4_refuseMissing) (pc := 21) dX4_refuseMissing_21 rfl rfl ?_
        refine r_iconst (μ := mX4_refuseMissing) (pc := 22) (v := nI 1) dX4_refuseMissing_22 rfl ?_
        refine r_callV (μ := mX4_refuseMissing) (pc := 23) (as := [.int (nI 1)]) 4 cX4_67 dX4_refuseMissing_23 rfl rfl (Nat.le_of_ble_eq_true rfl) rfl okX4_refuse (Nat.lt_succ_self d) (cat8 (n := 0) rfl (by decide)) rfl h (k_I (fun r23 T23 h => ?_))
        refine r_goto (μ := mX4_refuseMissing) (pc := 26) (tgt := 30) dX4_refuseMissing_26 (by decide) ?_
        exact r_iret (μ := mX4_refuseMissing) (pc := 30) dX4_refuseMissing_30 rfl h
    · have h := h.2 q7
      refine r_iconst (μ := mX4_refuseMissing) (pc := 10) (v := (-1)) dX4_refuseMissing_10 rfl ?_
      exact r_iret (μ := mX4_refuseMissing) (pc := 11) dX4_refuseMissing_11 rfl h

set_option maxRecDepth 20000 in
theorem bX4_refusePlace_0 {G : Gl} {l : Launch} {d : Nat} {S : Sg} {P : Int32 → Sg → Prop} (F1 : Nat) (hF1 : ShelfAt F1) (i2 : Int32) (i3 : Int32)
    (h : Ct G l mX4_refuseMissing d [.ref 0, .ref F1, .int i2] S (QI (fun r3 T3 => (r3 = (nI 0) → ∃ n18 : Nat, ix i2 n18 (ln F1) ∧ (Ct G l mX3_hasPlace d [.ref (rf F1 n18), .int i3] T3 (QI (fun r20 T20 => (r20 = (nI 0) → Ct G l mX4_refuse d [.ref 0, .int (nI 2)] T20 (QI (fun r32 T32 => P r32 T32))) ∧ (¬ (r20 = (nI 0)) → P (nI 0) T20))))) ∧ (¬ (r3 = (nI 0)) → P r3 T3)))) :
    Ct G l mX4_refusePlace (d + 1) [.ref 0, .ref F1, .int i2, .int i3] S (QI P) := by
  show Ev G l mX4_refusePlace (d + 1) 0 [some (.ref 0), some (.ref F1), some (.int i2), some (.int i3), none] [] S (QI P)
  refine r_aload_n (μ := mX4_refusePlace) (pc := 0) dX4_refusePlace_0 rfl rfl ?_
  refine r_aload_n (μ := mX4_refusePlace) (pc := 1) dX4_refusePlace_1 rfl rfl ?_
  refine r_iload_n (μ := mX4_refusePlace) (pc := 2) dX4_refusePlace_2 rfl rfl ?_
  refine r_callV (μ := mX4_refusePlace) (pc := 3) (as := [.ref F1, .int i2]) 4 cX4_82 dX4_refusePlace_3 rfl rfl (Nat.le_of_ble_eq_true rfl) rfl okX4_refuseMissing (Nat.lt_succ_self d) (cat8 (n := 0) rfl (by decide)) rfl h (k_I (fun r3 T3 h => ?_))
  refine r_istore (μ := mX4_refusePlace) (pc := 6) (ls' := [some (.ref 0), some (.ref F1), some (.int i2), some (.int i3), some (.int r3)]) dX4_refusePlace_6 (Nat.le_of_ble_eq_true rfl) rfl rfl ?_
  refine r_iload (μ := mX4_refusePlace) (pc := 8) dX4_refusePlace_8 rfl ?_
  refine r_if_eq (μ := mX4_refusePlace) (pc := 10) (tgt := 16) dX4_refusePlace_10 (by decide) ⟨fun q10 => ?_, fun q10 => ?_⟩
  · have h := h.1 q10
    refine r_aload_n (μ := mX4_refusePlace) (pc := 16) dX4_refusePlace_16 rfl rfl ?_
    refine r_iload_n (μ := mX4_refusePlace) (pc := 17) dX4_refusePlace_17 rfl rfl ?_
    obtain ⟨n18, hx18, h⟩ := h
    refine r_aald (μ := mX4_refusePlace) (pc := 18) (k' := rf F1 n18) dX4_refusePlace_18 (Or.inl (sh_kd hF1)) hx18 rfl ?_
    refine r_iload_n (μ := mX4_refusePlace) (pc := 19) dX4_refusePlace_19 rfl rfl ?_
    refine r_callV (μ := mX4_refusePlace) (pc := 20) (as := [.int i3]) 3 cX4_345 dX4_refusePlace_20 rfl (ra_kd (ra_F hF1 hx18)) (Nat.le_of_ble_eq_true rfl) rfl okX3_hasPlace (Nat.lt_succ_self d) (cat8 (n := 0) rfl (by decide)) rfl h (k_I (fun r20 T20 h => ?_))
    refine r_if_eq (μ := mX4_refusePlace) (pc := 23) (tgt := 30) dX4_refusePlace_23 (by decide) ⟨fun q23 => ?_, fun q23 => ?_⟩
    · have h := h.1 q23
      refine r_aload_n (μ := mX4_refusePlace) (pc := 30) dX4_refusePlace_30 rfl rfl ?_
      refine r_iconst (μ := mX4_refusePlace) (pc := 31) (v := nI 2) dX4_refusePlace_31 rfl ?_
      refine r_callV (μ := mX4_refusePlace) (pc := 32) (as := [.int (nI 2)]) 4 cX4_67 dX4_refusePlace_32 rfl rfl (Nat.le_of_ble_eq_true rfl) rfl okX4_refuse (Nat.lt_succ_self d) (cat8 (n := 0) rfl (by decide)) rfl h (k_I (fun r32 T32 h => ?_))
      exact r_iret (μ := mX4_refusePlace) (pc := 35) dX4_refusePlace_35 rfl h
    · have h := h.2 q23
      refine r_iconst (μ := mX4_refusePlace) (pc := 26) (v := nI 0) dX4_refusePlace_26 rfl ?_
      refine r_goto (μ := mX4_refusePlace) (pc := 27) (tgt := 35) dX4_refusePlace_27 (by decide) ?_
      exact r_iret (μ := mX4_refusePlace) (pc := 35) dX4_refusePlace_35 rfl h
  · have h := h.2 q10
    refine r_iload (μ := mX4_refusePlace) (pc := 13) dX4_refusePlace_13 rfl ?_
    exact r_iret (μ := mX4_refusePlace) (pc := 15) dX4_refusePlace_15 rfl h

set_option maxRecDepth 20000 in
theorem bX4_ofOne_0 {G : Gl} {l : Launch} {d : Nat} {S : Sg} {P : Int32 → Sg → Prop} (i1 : Int32) (i2 : Int32)
    (h : (i2 = nI 0 → ∃ n44 : Nat, ix i1 n44 6 ∧ (P (S.1 29 n44) S)) ∧ (¬ i2 = nI 0 → (i2 = nI 1 → ∃ n54 : Nat, ix i1 n54 6 ∧ (P (S.1 30 n54) S)) ∧ (¬ i2 = nI 1 → (i2 = nI 2 → ∃ n64 : Nat, ix i1 n64 6 ∧ (P (S.1 31 n64) S)) ∧ (¬ i2 = nI 2 → (i2 = nI 3 → Ct G l mX1_votes d [.ref 28, .int i1] S (QI (fun r71 T71 => P r71 T71))) ∧ (¬ i2 = nI 3 → (i2 = nI 4 → ∃ n83 : Nat, ix i1 n83 6 ∧ (P (S.1 33 n83) S)) ∧ (¬ i2 = nI 4 → Ct G l mX1_belongs d [.ref 28, .int i1] S (QI (fun r90 T90 => ∀ x93 : Int32, x93 = (if r90 = (nI 0) then (nI 0) else (nI 1)) → (P x93 T90))))))))) :
    Ct G l mX4_ofOne (d + 1) [.ref 0, .int i1, .int i2] S (QI P) := by
  show Ev G l mX4_ofOne (d + 1) 0 [some (.ref 0), some (.int i1), some (.int i2)] [] S (QI P)
  refine r_iload_n (μ := mX4_ofOne) (pc := 0) dX4_ofOne_0 rfl rfl ?_
  refine r_ts (μ := mX4_ofOne) (pc := 1) (td := 85) [(nI 0, 36), (nI 1, 46), (nI 2, 56), (nI 3, 66), (nI 4, 75)] dX4_ofOne_1 rfl rfl rfl rfl ?_
  refine ⟨fun q1 => ?_, fun q1 => ?_⟩
  · have h := h.1 q1
    refine r_aload_n (μ := mX4_ofOne) (pc := 36) dX4_ofOne_36 rfl rfl ?_
    refine g_R (μ := mX4_ofOne) (pc := 37) (k' := 28) fX4_21 dX4_ofOne_37 rfl rfl ?_
    refine g_R (μ := mX4_ofOne) (pc := 40) (k' := 29) fX4_288 dX4_ofOne_40 rfl rfl ?_
    refine r_iload_n (μ := mX4_ofOne) (pc := 43) dX4_ofOne_43 rfl rfl ?_
    obtain ⟨n44, hx44, h⟩ := h
    refine r_iald (μ := mX4_ofOne) (pc := 44) dX4_ofOne_44 rfl hx44 ?_
    exact r_iret (μ := mX4_ofOne) (pc := 45) dX4_ofOne_45 rfl h
  have h := h.2 q1
  refine ⟨fun q1 => ?_, fun q1 => ?_⟩
  · have h := h.1 q1
    refine r_aload_n (μ := mX4_ofOne) (pc := 46) dX4_ofOne_46 rfl rfl ?_
    refine g_R (μ := mX4_ofOne) (pc := 47) (k' := 28) fX4_21 dX4_ofOne_47 rfl rfl ?_
    refine g_R (μ := mX4_ofOne) (pc := 50) (k' := 30) fX4_137 dX4_ofOne_50 rfl rfl ?_
    refine r_iload_n (μ := mX4_ofOne) (pc := 53) dX4_ofOne_53 rfl rfl ?_
    obtain ⟨n54, hx54, h⟩ := h
    refine r_iald (μ := mX4_ofOne) (pc := 54) dX4_ofOne_54 rfl hx54 ?_
    exact r_iret (μ := mX4_ofOne) (pc := 55) dX4_ofOne_55 rfl h
  have h := h.2 q1
  refine ⟨fun q1 => ?_, fun q1 => ?_⟩
  · have h := h.1 q1
    refine r_aload_n (μ := mX4_ofOne) (pc := 56) dX4_ofOne_56 rfl rfl ?_
    refine g_R (μ := mX4_ofOne) (pc := 57) (k' := 28) fX4_21 dX4_ofOne_57 rfl rfl ?_
    refine g_R (μ := mX4_ofOne) (pc := 60) (k' := 31) fX4_140 dX4_ofOne_60 rfl rfl ?_
    refine r_iload_n (μ := mX4_ofOne) (pc := 63) dX4_ofOne_63 rfl rfl ?_
    obtain ⟨n64, hx64, h⟩ := h
    refine r_iald (μ := mX4_ofOne) (pc := 64) dX4_ofOne_64 rfl hx64 ?_
    exact r_iret (μ := mX4_ofOne) (pc := 65) dX4_ofOne_65 rfl h
  have h := h.2 q1
  refine ⟨fun q1 => ?_, fun q1 => ?_⟩
  · have h := h.1 q1
    refine r_aload_n (μ := mX4_ofOne) (pc := 66) dX4_ofOne_66 rfl rfl ?_
    refine g_R (μ := mX4_ofOne) (pc := 67) (k' := 28) fX4_21 dX4_ofOne_67 rfl rfl ?_
    refine r_iload_n (μ := mX4_ofOne) (pc := 70) dX4_ofOne_70 rfl rfl ?_
    refine r_callV (μ := mX4_ofOne) (pc := 71) (as := [.int i1]) 1 cX4_348 dX4_ofOne_71 rfl rfl (Nat.le_of_ble_eq_true rfl) rfl okX1_votes (Nat.lt_succ_self d) (cat8 (n := 0) rfl (by decide)) rfl h (k_I (fun r71 T71 h => ?_))
    exact r_iret (μ := mX4_ofOne) (pc := 74) dX4_ofOne_74 rfl h
  have h := h.2 q1
  refine ⟨fun q1 => ?_, fun q1 => ?_⟩
  · have h := h.1 q1
    refine r_aload_n (μ := mX4_ofOne) (pc := 75) dX4_ofOne_75 rfl rfl ?_
    refine g_R (μ := mX4_ofOne) (pc := 76) (k' := 28) fX4_21 dX4_ofOne_76 rfl rfl ?_
    refine g_R (μ := mX4_ofOne) (pc := 79) (k' := 33) fX4_351 dX4_ofOne_79 rfl rfl ?_
    refine r_iload_n (μ := mX4_ofOne) (pc := 82) dX4_ofOne_82 rfl rfl ?_
    obtain ⟨n83, hx83, h⟩ := h
    refine r_iald (μ := mX4_ofOne) (pc := 83) dX4_ofOne_83 rfl hx83 ?_
    exact r_iret (μ := mX4_ofOne) (pc := 84) dX4_ofOne_84 rfl h
  have h := h.2 q1
  refine r_aload_n (μ := mX4_ofOne) (pc := 85) dX4_ofOne_85 rfl rfl ?_
  refine g_R (μ := mX4_ofOne) (pc := 86) (k' := 28) fX4_21 dX4_ofOne_86 rfl rfl ?_
  refine r_iload_n (μ := mX4_ofOne) (pc := 89) dX4_ofOne_89 rfl rfl ?_
  refine r_callV (μ := mX4_ofOne) (pc := 90) (as := [.int i1]) 1 cX4_199 dX4_ofOne_90 rfl rfl (Nat.le_of_ble_eq_true rfl) rfl okX1_belongs (Nat.lt_succ_self d) (cat8 (n := 0) rfl (by decide)) rfl h (k_I (fun r90 T90 h => ?_))
  have J93 : ∀ x93 : Int32, x93 = (if r90 = (nI 0) then (nI 0) else (nI 1)) → Ev G l mX4_ofOne (d + 1) 101 [some (.ref 0), some (.int i1), some (.int i2)] [.int x93] T90 (QI P) := by
    intro x93 e93
    have h := h x93 e93
    exact r_iret (μ := mX4_ofOne) (pc := 101) dX4_ofOne_101 rfl h
  refine r_if_eq (μ := mX4_ofOne) (pc := 93) (tgt := 100) dX4_ofOne_93 (by decide) ⟨fun q93 => ?_, fun q93 => ?_⟩
  · refine r_iconst (μ := mX4_ofOne) (pc := 100) (v := nI 0) dX4_ofOne_100 rfl ?_
    exact J93 _ (by first | (rw [if_pos q93]; done) | simp only [if_pos q93])
  · refine r_iconst (μ := mX4_ofOne) (pc := 96) (v := nI 1) dX4_ofOne_96 rfl ?_
    refine r_goto (μ := mX4_ofOne) (pc := 97) (tgt := 101) dX4_ofOne_97 (by decide) ?_
    exact J93 _ (by first | (rw [if_neg q93]; done) | simp only [if_neg q93])

set_option maxRecDepth 20000 in
theorem bX4_thereOf_0 {G : Gl} {l : Launch} {d : Nat} {S : Sg} {P : Int32 → Sg → Prop} (F0 : Nat) (hF0 : ShelfAt F0)
    (h : Ev G l mX4_thereOf (d + 1) 4 [some (.ref F0), some (.int (nI 0)), some (.int (nI 0))] [] S (QI P)) :
    Ct G l mX4_thereOf (d + 1) [.ref F0] S (QI P) := by
  show Ev G l mX4_thereOf (d + 1) 0 [some (.ref F0), none, none] [] S (QI P)
  refine r_iconst (μ := mX4_thereOf) (pc := 0) (v := nI 0) dX4_thereOf_0 rfl ?_
  refine r_istore_n (μ := mX4_thereOf) (pc := 1) (ls' := [some (.ref F0), some (.int (nI 0)), none]) dX4_thereOf_1 rfl (Nat.le_of_ble_eq_true rfl) rfl rfl ?_
  refine r_iconst (μ := mX4_thereOf) (pc := 2) (v := nI 0) dX4_thereOf_2 rfl ?_
  refine r_istore_n (μ := mX4_thereOf) (pc := 3) (ls' := [some (.ref F0), some (.int (nI 0)), some (.int (nI 0))]) dX4_thereOf_3 rfl (Nat.le_of_ble_eq_true rfl) rfl rfl ?_
  exact h

set_option maxRecDepth 20000 in
theorem bX4_thereOf_4 {G : Gl} {l : Launch} {d : Nat} {S : Sg} {P : Int32 → Sg → Prop} (F0 : Nat) (hF0 : ShelfAt F0) (i1 : Int32) (i2 : Int32)
    (h : ((nI (ln F0)) ≤ i2 → P i1 S) ∧ (¬ ((nI (ln F0)) ≤ i2) → ∃ n12 : Nat, ix i2 n12 (ln F0) ∧ (Ct G l mX3_isMissing d [.ref (rf F0 n12)] S (QI (fun r13 T13 => ∀ x16 : Int32, x16 = (if r13 = (nI 0) then (i1 + (nI 1)) else i1) → (Ev G l mX4_thereOf (d + 1) 4 [some (.ref F0), some (.int x16), some (.int (i2 + (nI 1)))] [] T13 (QI P))))))) :
    Ev G l mX4_thereOf (d + 1) 4 [some (.ref F0), some (.int i1), some (.int i2)] [] S (QI P) := by
  show Ev G l mX4_thereOf (d + 1) 4 [some (.ref F0), some (.int i1), some (.int i2)] [] S (QI P)
  refine r_iload_n (μ := mX4_thereOf) (pc := 4) dX4_thereOf_4 rfl rfl ?_
  refine r_aload_n (μ := mX4_thereOf) (pc := 5) dX4_thereOf_5 rfl rfl ?_
  refine r_alen (μ := mX4_thereOf) (pc := 6) dX4_thereOf_6 (by rw [sh_kd hF0]; omega) rfl ?_
  refine r_icmp_ge (μ := mX4_thereOf) (pc := 7) (tgt := 28) dX4_thereOf_7 (by decide) ⟨fun q7 => ?_, fun q7 => ?_⟩
  · have h := h.1 q7
    refine r_iload_n (μ := mX4_thereOf) (pc := 28) dX4_thereOf_28 rfl rfl ?_
    exact r_iret (μ := mX4_thereOf) (pc := 29) dX4_thereOf_29 rfl h
  · have h := h.2 q7
    refine r_aload_n (μ := mX4_thereOf) (pc := 10) dX4_thereOf_10 rfl rfl ?_
    refine r_iload_n (μ := mX4_thereOf) (pc := 11) dX4_thereOf_11 rfl rfl ?_
    obtain ⟨n12, hx12, h⟩ := h
    refine r_aald (μ := mX4_thereOf) (pc := 12) (k' := rf F0 n12) dX4_thereOf_12 (Or.inl (sh_kd hF0)) hx12 rfl ?_
    refine r_callV (μ := mX4_thereOf) (pc := 13) (as := []) 3 cX4_89 dX4_thereOf_13 rfl (ra_kd (ra_F hF0 hx12)) (Nat.le_of_ble_eq_true rfl) rfl okX3_isMissing (Nat.lt_succ_self d) (cat8 (n := 0) rfl (by decide)) rfl h (k_I (fun r13 T13 h => ?_))
    have J16 : ∀ x16 : Int32, x16 = (if r13 = (nI 0) then (i1 + (nI 1)) else i1) → Ev G l mX4_thereOf (d + 1) 22 [some (.ref F0), some (.int x16), some (.int i2)] [] T13 (QI P) := by
      intro x16 e16
      have h := h x16 e16
      refine r_iinc (μ := mX4_thereOf) (pc := 22) (y := nI 1) (ls' := [some (.ref F0), some (.int x16), some (.int (i2 + (nI 1)))]) dX4_thereOf_22 rfl rfl (Nat.le_of_ble_eq_true rfl) rfl rfl ?_
      refine r_goto (μ := mX4_thereOf) (pc := 25) (tgt := 4) dX4_thereOf_25 (by decide) ?_
      exact h
    refine r_if_ne (μ := mX4_thereOf) (pc := 16) (tgt := 22) dX4_thereOf_16 (by decide) ⟨fun q16 => ?_, fun q16 => ?_⟩
    · exact J16 _ (by first | (rw [if_neg q16]; done) | simp only [if_neg q16])
    · refine r_iinc (μ := mX4_thereOf) (pc := 19) (y := nI 1) (ls' := [some (.ref F0), some (.int (i1 + (nI 1))), some (.int i2)]) dX4_thereOf_19 rfl rfl (Nat.le_of_ble_eq_true rfl) rfl rfl ?_
      exact J16 _ (by first | (rw [if_pos q16]; done) | simp only [if_pos q16])

set_option maxRecDepth 20000 in
theorem bX4_keptLands_0 {G : Gl} {l : Launch} {d : Nat} {S : Sg} {P : Int32 → Sg → Prop} 
    (h : Ev G l mX4_keptLands (d + 1) 4 [some (.ref 0), some (.int (nI 0)), some (.int (nI 0))] [] S (QI P)) :
    Ct G l mX4_keptLands (d + 1) [.ref 0] S (QI P) := by
  show Ev G l mX4_keptLands (d + 1) 0 [some (.ref 0), none, none] [] S (QI P)
  refine r_iconst (μ := mX4_keptLands) (pc := 0) (v := nI 0) dX4_keptLands_0 rfl ?_
  refine r_istore_n (μ := mX4_keptLands) (pc := 1) (ls' := [some (.ref 0), some (.int (nI 0)), none]) dX4_keptLands_1 rfl (Nat.le_of_ble_eq_true rfl) rfl rfl ?_
  refine r_iconst (μ := mX4_keptLands) (pc := 2) (v := nI 0) dX4_keptLands_2 rfl ?_
  refine r_istore_n (μ := mX4_keptLands) (pc := 3) (ls' := [some (.ref 0), some (.int (nI 0)), some (.int (nI 0))]) dX4_keptLands_3 rfl (Nat.le_of_ble_eq_true rfl) rfl rfl ?_
  exact h

set_option maxRecDepth 20000 in
theorem bX4_keptLands_4 {G : Gl} {l : Launch} {d : Nat} {S : Sg} {P : Int32 → Sg → Prop} (i1 : Int32) (i2 : Int32)
    (h : ((nI 3) ≤ i2 → P i1 S) ∧ (¬ ((nI 3) ≤ i2) → ∃ n14 : Nat, ix i2 n14 3 ∧ (Ct G l mX1_isThere d [.ref (52 + 12 * n14)] S (QI (fun r15 T15 => ∀ x18 : Int32, x18 = (if r15 = (nI 0) then i1 else (i1 + (nI 1))) → (Ev G l mX4_keptLands (d + 1) 4 [some (.ref 0), some (.int x18), some (.int (i2 + (nI 1)))] [] T15 (QI P))))))) :
    Ev G l mX4_keptLands (d + 1) 4 [some (.ref 0), some (.int i1), some (.int i2)] [] S (QI P) := by
  show Ev G l mX4_keptLands (d + 1) 4 [some (.ref 0), some (.int i1), some (.int i2)] [] S (QI P)
  refine r_iload_n (μ := mX4_keptLands) (pc := 4) dX4_keptLands_4 rfl rfl ?_
  refine r_iconst (μ := mX4_keptLands) (pc := 5) (v := nI 3) dX4_keptLands_5 rfl ?_
  refine r_icmp_ge (μ := mX4_keptLands) (pc := 6) (tgt := 30) dX4_keptLands_6 (by decide) ⟨fun q6 => ?_, fun q6 => ?_⟩
  · have h := h.1 q6
    refine r_iload_n (μ := mX4_keptLands) (pc := 30) dX4_keptLands_30 rfl rfl ?_
    exact r_iret (μ := mX4_keptLands) (pc := 31) dX4_keptLands_31 rfl h
  · have h := h.2 q6
    refine r_aload_n (μ := mX4_keptLands) (pc := 9) dX4_keptLands_9 rfl rfl ?_
    refine g_R (μ := mX4_keptLands) (pc := 10) (k' := 3) fX4_25 dX4_keptLands_10 rfl rfl ?_
    refine r_iload_n (μ := mX4_keptLands) (pc := 13) dX4_keptLands_13 rfl rfl ?_
    obtain ⟨n14, hx14, h⟩ := h
    refine r_aald (μ := mX4_keptLands) (pc := 14) (k' := 52 + 12 * n14) dX4_keptLands_14 (Or.inr rfl) hx14 rfl ?_
    refine r_callV (μ := mX4_keptLands) (pc := 15) (as := []) 1 cX4_170 dX4_keptLands_15 rfl (la_kd (la_3 hx14)) (Nat.le_of_ble_eq_true rfl) rfl okX1_isThere (Nat.lt_succ_self d) (cat8 (n := 0) rfl (by decide)) rfl h (k_I (fun r15 T15 h => ?_))
    have J18 : ∀ x18 : Int32, x18 = (if r15 = (nI 0) then i1 else (i1 + (nI 1))) → Ev G l mX4_keptLands (d + 1) 24 [some (.ref 0), some (.int x18), some (.int i2)] [] T15 (QI P) := by
      intro x18 e18
      have h := h x18 e18
      refine r_iinc (μ := mX4_keptLands) (pc := 24) (y := nI 1) (ls' := [some (.ref 0), some (.int x18), some (.int (i2 + (nI 1)))]) dX4_keptLands_24 rfl rfl (Nat.le_of_ble_eq_true rfl) rfl rfl ?_
      refine r_goto (μ := mX4_keptLands) (pc := 27) (tgt := 4) dX4_keptLands_27 (by decide) ?_
      exact h
    refine r_if_eq (μ := mX4_keptLands) (pc := 18) (tgt := 24) dX4_keptLands_18 (by decide) ⟨fun q18 => ?_, fun q18 => ?_⟩
    · exact J18 _ (by first | (rw [if_pos q18]; done) | simp only [if_pos q18])
    · refine r_iinc (μ := mX4_keptLands) (pc := 21) (y := nI 1) (ls' := [some (.ref 0), some (.int (i1 + (nI 1))), some (.int i2)]) dX4_keptLands_21 rfl rfl (Nat.le_of_ble_eq_true rfl) rfl rfl ?_
      exact J18 _ (by first | (rw [if_neg q18]; done) | simp only [if_neg q18])

set_option maxRecDepth 20000 in
theorem bX4_nextSeated_0 {G : Gl} {l : Launch} {d : Nat} {S : Sg} {P : Int32 → Sg → Prop} (R1 : Nat) (hR1 : RowAt R1)
    (h : Ev G l mX4_nextSeated (d + 1) 4 [some (.ref 0), some (.ref R1), some (.int (-1)), some (.int (nI 0))] [] S (QI P)) :
    Ct G l mX4_nextSeated (d + 1) [.ref 0, .ref R1] S (QI P) := by
  show Ev G l mX4_nextSeated (d + 1) 0 [some (.ref 0), some (.ref R1), none, none] [] S (QI P)
  refine r_iconst (μ := mX4_nextSeated) (pc := 0) (v := (-1)) dX4_nextSeated_0 rfl ?_
  refine r_istore_n (μ := mX4_nextSeated) (pc := 1) (ls' := [some (.ref 0), some (.ref R1), some (.int (-1)), none]) dX4_nextSeated_1 rfl (Nat.le_of_ble_eq_true rfl) rfl rfl ?_
  refine r_iconst (μ := mX4_nextSeated) (pc := 2) (v := nI 0) dX4_nextSeated_2 rfl ?_
  refine r_istore_n (μ := mX4_nextSeated) (pc := 3) (ls' := [some (.ref 0), some (.ref R1), some (.int (-1)), some (.int (nI 0))]) dX4_nextSeated_3 rfl (Nat.le_of_ble_eq_true rfl) rfl rfl ?_
  exact h

set_option maxRecDepth 20000 in
theorem bX4_nextSeated_4 {G : Gl} {l : Launch} {d : Nat} {S : Sg} {P : Int32 → Sg → Prop} (R1 : Nat) (hR1 : RowAt R1) (i2 : Int32) (i3 : Int32)
    (h : ((S.1 28 8) ≤ i3 → P i2 S) ∧ (¬ ((S.1 28 8) ≤ i3) → Ct G l mX1_belongs d [.ref 28, .int i3] S (QI (fun r20 T20 => (r20 = (nI 0) → Ev G l mX4_nextSeated (d + 1) 4 [some (.ref 0), some (.ref R1), some (.int i2), some (.int (i3 + (nI 1)))] [] T20 (QI P)) ∧ (¬ (r20 = (nI 0)) → Ct G l mX1_votes d [.ref 28, .int i3] T20 (QI (fun r31 T31 => (r31 ≤ (nI 0) → Ev G l mX4_nextSeated (d + 1) 4 [some (.ref 0), some (.ref R1), some (.int i2), some (.int (i3 + (nI 1)))] [] T31 (QI P)) ∧ (¬ (r31 ≤ (nI 0)) → (i2 < (nI 0) → Ev G l mX4_nextSeated (d + 1) 4 [some (.ref 0), some (.ref R1), some (.int i3), some (.int (i3 + (nI 1)))] [] T31 (QI P)) ∧ (¬ (i2 < (nI 0)) → Ct G l mX1_votes d [.ref 28, .int i3] T31 (QI (fun r46 T46 => ∃ n54 : Nat, ix i2 n54 (ln (R1 + 10)) ∧ (Ct G l mX1_votes d [.ref 28, .int i2] T46 (QI (fun r63 T63 => ∃ n71 : Nat, ix i3 n71 (ln (R1 + 10)) ∧ (∀ x75 : Int32, x75 = (if (r46 * ((T46.1 (R1 + 10) n54) + (nI 1))) ≤ (r63 * ((T63.1 (R1 + 10) n71) + (nI 1))) then i2 else i3) → (Ev G l mX4_nextSeated (d + 1) 4 [some (.ref 0), some (.ref R1), some (.int x75), some (.int (i3 + (nI 1)))] [] T63 (QI P))))))))))))))))) :
    Ev G l mX4_nextSeated (d + 1) 4 [some (.ref 0), some (.ref R1), some (.int i2), some (.int i3)] [] S (QI P) := by
  show Ev G l mX4_nextSeated (d + 1) 4 [some (.ref 0), some (.ref R1), some (.int i2), some (.int i3)] [] S (QI P)
  refine r_iload_n (μ := mX4_nextSeated) (pc := 4) dX4_nextSeated_4 rfl rfl ?_
  refine r_aload_n (μ := mX4_nextSeated) (pc := 5) dX4_nextSeated_5 rfl rfl ?_
  refine g_R (μ := mX4_nextSeated) (pc := 6) (k' := 28) fX4_21 dX4_nextSeated_6 rfl rfl ?_
  refine g_I (μ := mX4_nextSeated) (pc := 9) fX4_124 dX4_nextSeated_9 rfl ?_
  refine r_icmp_ge (μ := mX4_nextSeated) (pc := 12) (tgt := 86) dX4_nextSeated_12 (by decide) ⟨fun q12 => ?_, fun q12 => ?_⟩
  · have h := h.1 q12
    refine r_iload_n (μ := mX4_nextSeated) (pc := 86) dX4_nextSeated_86 rfl rfl ?_
    exact r_iret (μ := mX4_nextSeated) (pc := 87) dX4_nextSeated_87 rfl h
  · have h := h.2 q12
    refine r_aload_n (μ := mX4_nextSeated) (pc := 15) dX4_nextSeated_15 rfl rfl ?_
    refine g_R (μ := mX4_nextSeated) (pc := 16) (k' := 28) fX4_21 dX4_nextSeated_16 rfl rfl ?_
    refine r_iload_n (μ := mX4_nextSeated) (pc := 19) dX4_nextSeated_19 rfl rfl ?_
    refine r_callV (μ := mX4_nextSeated) (pc := 20) (as := [.int i3]) 1 cX4_199 dX4_nextSeated_20 rfl rfl (Nat.le_of_ble_eq_true rfl) rfl okX1_belongs (Nat.lt_succ_self d) (cat8 (n := 0) rfl (by decide)) rfl h (k_I (fun r20 T20 h => ?_))
    refine r_if_eq (μ := mX4_nextSeated) (pc := 23) (tgt := 80) dX4_nextSeated_23 (by decide) ⟨fun q23 => ?_, fun q23 => ?_⟩
    · have h := h.1 q23
      refine r_iinc (μ := mX4_nextSeated) (pc := 80) (y := nI 1) (ls' := [some (.ref 0), some (.ref R1), some (.int i2), some (.int (i3 + (nI 1)))]) dX4_nextSeated_80 rfl rfl (Nat.le_of_ble_eq_true rfl) rfl rfl ?_
      refine r_goto (μ := mX4_nextSeated) (pc := 83) (tgt := 4) dX4_nextSeated_83 (by decide) ?_
      exact h
    · have h := h.2 q23
      refine r_aload_n (μ := mX4_nextSeated) (pc := 26) dX4_nextSeated_26 rfl rfl ?_
      refine g_R (μ := mX4_nextSeated) (pc := 27) (k' := 28) fX4_21 dX4_nextSeated_27 rfl rfl ?_
      refine r_iload_n (μ := mX4_nextSeated) (pc := 30) dX4_nextSeated_30 rfl rfl ?_
      refine r_callV (μ := mX4_nextSeated) (pc := 31) (as := [.int i3]) 1 cX4_348 dX4_nextSeated_31 rfl rfl (Nat.le_of_ble_eq_true rfl) rfl okX1_votes (Nat.lt_succ_self d) (cat8 (n := 0) rfl (by decide)) rfl h (k_I (fun r31 T31 h => ?_))
      refine r_if_le (μ := mX4_nextSeated) (pc := 34) (tgt := 80) dX4_nextSeated_34 (by decide) ⟨fun q34 => ?_, fun q34 => ?_⟩
      · have h := h.1 q34
        refine r_iinc (μ := mX4_nextSeated) (pc := 80) (y := nI 1) (ls' := [some (.ref 0), some (.ref R1), some (.int i2), some (.int (i3 + (nI 1)))]) dX4_nextSeated_80 rfl rfl (Nat.le_of_ble_eq_true rfl) rfl rfl ?_
        refine r_goto (μ := mX4_nextSeated) (pc := 83) (tgt := 4) dX4_nextSeated_83 (by decide) ?_
        exact h
      · have h := h.2 q34
        refine r_iload_n (μ := mX4_nextSeated) (pc := 37) dX4_nextSeated_37 rfl rfl ?_
        refine r_if_lt (μ := mX4_nextSeated) (pc := 38) (tgt := 78) dX4_nextSeated_38 (by decide) ⟨fun q38 => ?_, fun q38 => ?_⟩
        · have h := h.1 q38
          refine r_iload_n (μ := mX4_nextSeated) (pc := 78) dX4_nextSeated_78 rfl rfl ?_
          refine r_istore_n (μ := mX4_nextSeated) (pc := 79) (ls' := [some (.ref 0), some (.ref R1), some (.int i3), some (.int i3)]) dX4_nextSeated_79 rfl (Nat.le_of_ble_eq_true rfl) rfl rfl ?_
          refine r_iinc (μ := mX4_nextSeated) (pc := 80) (y := nI 1) (ls' := [some (.ref 0), some (.ref R1), some (.int i3), some (.int (i3 + (nI 1)))]) dX4_nextSeated_80 rfl rfl (Nat.le_of_ble_eq_true rfl) rfl rfl ?_
          refine r_goto (μ := mX4_nextSeated) (pc := 83) (tgt := 4) dX4_nextSeated_83 (by decide) ?_
          exact h
        · have h := h.2 q38
          refine r_aload_n (μ := mX4_nextSeated) (pc := 41) dX4_nextSeated_41 rfl rfl ?_
          refine g_R (μ := mX4_nextSeated) (pc := 42) (k' := 28) fX4_21 dX4_nextSeated_42 rfl rfl ?_
          refine r_iload_n (μ := mX4_nextSeated) (pc := 45) dX4_nextSeated_45 rfl rfl ?_
          refine r_callV (μ := mX4_nextSeated) (pc := 46) (as := [.int i3]) 1 cX4_348 dX4_nextSeated_46 rfl rfl (Nat.le_of_ble_eq_true rfl) rfl okX1_votes (Nat.lt_succ_self d) (cat8 (n := 0) rfl (by decide)) rfl h (k_I (fun r46 T46 h => ?_))
          refine r_aload_n (μ := mX4_nextSeated) (pc := 49) dX4_nextSeated_49 rfl rfl ?_
          refine g_R (μ := mX4_nextSeated) (pc := 50) (k' := R1 + 10) fX4_79 dX4_nextSeated_50 (ra_kd hR1) (ra_rf hR1) ?_
          refine r_iload_n (μ := mX4_nextSeated) (pc := 53) dX4_nextSeated_53 rfl rfl ?_
          obtain ⟨n54, hx54, h⟩ := h
          refine r_iald (μ := mX4_nextSeated) (pc := 54) dX4_nextSeated_54 (ra_k hR1) hx54 ?_
          refine r_iconst (μ := mX4_nextSeated) (pc := 55) (v := nI 1) dX4_nextSeated_55 rfl ?_
          refine r_iadd (μ := mX4_nextSeated) (pc := 56) dX4_nextSeated_56 ?_
          refine r_imul (μ := mX4_nextSeated) (pc := 57) dX4_nextSeated_57 ?_
          refine r_aload_n (μ := mX4_nextSeated) (pc := 58) dX4_nextSeated_58 rfl rfl ?_
          refine g_R (μ := mX4_nextSeated) (pc := 59) (k' := 28) fX4_21 dX4_nextSeated_59 rfl rfl ?_
          refine r_iload_n (μ := mX4_nextSeated) (pc := 62) dX4_nextSeated_62 rfl rfl ?_
          refine r_callV (μ := mX4_nextSeated) (pc := 63) (as := [.int i2]) 1 cX4_348 dX4_nextSeated_63 rfl rfl (Nat.le_of_ble_eq_true rfl) rfl okX1_votes (Nat.lt_succ_self d) (cat8 (n := 1) rfl (by decide)) rfl h (k_I (fun r63 T63 h => ?_))
          refine r_aload_n (μ := mX4_nextSeated) (pc := 66) dX4_nextSeated_66 rfl rfl ?_
          refine g_R (μ := mX4_nextSeated) (pc := 67) (k' := R1 + 10) fX4_79 dX4_nextSeated_67 (ra_kd hR1) (ra_rf hR1) ?_
          refine r_iload_n (μ := mX4_nextSeated) (pc := 70) dX4_nextSeated_70 rfl rfl ?_
          obtain ⟨n71, hx71, h⟩ := h
          refine r_iald (μ := mX4_nextSeated) (pc := 71) dX4_nextSeated_71 (ra_k hR1) hx71 ?_
          refine r_iconst (μ := mX4_nextSeated) (pc := 72) (v := nI 1) dX4_nextSeated_72 rfl ?_
          refine r_iadd (μ := mX4_nextSeated) (pc := 73) dX4_nextSeated_73 ?_
          refine r_imul (μ := mX4_nextSeated) (pc := 74) dX4_nextSeated_74 ?_
          have J75 : ∀ x75 : Int32, x75 = (if (r46 * ((T46.1 (R1 + 10) n54) + (nI 1))) ≤ (r63 * ((T63.1 (R1 + 10) n71) + (nI 1))) then i2 else i3) → Ev G l mX4_nextSeated (d + 1) 80 [some (.ref 0), some (.ref R1), some (.int x75), some (.int i3)] [] T63 (QI P) := by
            intro x75 e75
            have h := h x75 e75
            refine r_iinc (μ := mX4_nextSeated) (pc := 80) (y := nI 1) (ls' := [some (.ref 0), some (.ref R1), some (.int x75), some (.int (i3 + (nI 1)))]) dX4_nextSeated_80 rfl rfl (Nat.le_of_ble_eq_true rfl) rfl rfl ?_
            refine r_goto (μ := mX4_nextSeated) (pc := 83) (tgt := 4) dX4_nextSeated_83 (by decide) ?_
            exact h
          refine r_icmp_le (μ := mX4_nextSeated) (pc := 75) (tgt := 80) dX4_nextSeated_75 (by decide) ⟨fun q75 => ?_, fun q75 => ?_⟩
          · exact J75 _ (by first | (rw [if_pos q75]; done) | simp only [if_pos q75])
          · refine r_iload_n (μ := mX4_nextSeated) (pc := 78) dX4_nextSeated_78 rfl rfl ?_
            refine r_istore_n (μ := mX4_nextSeated) (pc := 79) (ls' := [some (.ref 0), some (.ref R1), some (.int i3), some (.int i3)]) dX4_nextSeated_79 rfl (Nat.le_of_ble_eq_true rfl) rfl rfl ?_
            exact J75 _ (by first | (rw [if_neg q75]; done) | simp only [if_neg q75])

set_option maxRecDepth 20000 in
theorem bX4_votesByTurns_0 {G : Gl} {l : Launch} {d : Nat} {S : Sg} {P : Int32 → Sg → Prop} (L0 : Nat) (hL0 : LandAt L0) (i1 : Int32) (i2 : Int32) (i3 : Int32) (i4 : Int32)
    (h : ((nI 0) < i1 → ∀ x13 : Int32, x13 = (if i2 = (nI 0) then (nI 1) else (nI 0)) → (Ct G l mX4_votesByTurns d [.ref L0, .int (i1 - (nI 1)), .int x13, .int i3, .int i4] S (QI (fun r32 T32 => Ct G l mX1_canMove d [.ref L0, .int i2, .int (nI 1), .int i3, .int i4] T32 (QI (fun r43 T43 => (r43 = (nI 0) → Ev G l mX4_votesByTurns (d + 1) 96 [some (.ref L0), some (.int i1), some (.int i2), some (.int i3), some (.int i4), some (.int x13), some (.int r32), none] [] T43 (QI P)) ∧ (¬ (r43 = (nI 0)) → (¬ i2 = (nI 0) → Ct G l mX4_votesByTurns d [.ref L0, .int (i1 - (nI 1)), .int x13, .int i3, .int (i4 + (nI 1))] T43 (QI (fun r81 T81 => Ev G l mX4_votesByTurns (d + 1) 84 [some (.ref L0), some (.int i1), some (.int i2), some (.int i3), some (.int i4), some (.int x13), some (.int r32), none] [.int r81] T81 (QI P)))) ∧ (i2 = (nI 0) → Ct G l mX4_votesByTurns d [.ref L0, .int (i1 - (nI 1)), .int x13, .int (i3 - (nI 1)), .int i4] T43 (QI (fun r64 T64 => Ev G l mX4_votesByTurns (d + 1) 84 [some (.ref L0), some (.int i1), some (.int i2), some (.int i3), some (.int i4), some (.int x13), some (.int r32), none] [.int r64] T64 (QI P))))))))))) ∧ (¬ ((nI 0) < i1) → Ct G l mX1_votesBelonging d [.ref L0, .int i3, .int i4] S (QI (fun r8 T8 => P r8 T8)))) :
    Ct G l mX4_votesByTurns (d + 1) [.ref L0, .int i1, .int i2, .int i3, .int i4] S (QI P) := by
  show Ev G l mX4_votesByTurns (d + 1) 0 [some (.ref L0), some (.int i1), some (.int i2), some (.int i3), some (.int i4), none, none, none] [] S (QI P)
  refine r_iload_n (μ := mX4_votesByTurns) (pc := 0) dX4_votesByTurns_0 rfl rfl ?_
  refine r_if_gt (μ := mX4_votesByTurns) (pc := 1) (tgt := 12) dX4_votesByTurns_1 (by decide) ⟨fun q1 => ?_, fun q1 => ?_⟩
  · have h := h.1 q1
    refine r_iload_n (μ := mX4_votesByTurns) (pc := 12) dX4_votesByTurns_12 rfl rfl ?_
    have J13 : ∀ x13 : Int32, x13 = (if i2 = (nI 0) then (nI 1) else (nI 0)) → Ev G l mX4_votesByTurns (d + 1) 21 [some (.ref L0), some (.int i1), some (.int i2), some (.int i3), some (.int i4), none, none, none] [.int x13] S (QI P) := by
      intro x13 e13
      have h := h x13 e13
      refine r_istore (μ := mX4_votesByTurns) (pc := 21) (ls' := [some (.ref L0), some (.int i1), some (.int i2), some (.int i3), some (.int i4), some (.int x13), none, none]) dX4_votesByTurns_21 (Nat.le_of_ble_eq_true rfl) rfl rfl ?_
      refine r_aload_n (μ := mX4_votesByTurns) (pc := 23) dX4_votesByTurns_23 rfl rfl ?_
      refine r_iload_n (μ := mX4_votesByTurns) (pc := 24) dX4_votesByTurns_24 rfl rfl ?_
      refine r_iconst (μ := mX4_votesByTurns) (pc := 25) (v := nI 1) dX4_votesByTurns_25 rfl ?_
      refine r_isub (μ := mX4_votesByTurns) (pc := 26) dX4_votesByTurns_26 ?_
      refine r_iload (μ := mX4_votesByTurns) (pc := 27) dX4_votesByTurns_27 rfl ?_
      refine r_iload_n (μ := mX4_votesByTurns) (pc := 29) dX4_votesByTurns_29 rfl rfl ?_
      refine r_iload (μ := mX4_votesByTurns) (pc := 30) dX4_votesByTurns_30 rfl ?_
      refine r_callS (μ := mX4_votesByTurns) (pc := 32) (as := [.ref L0, .int (i1 - (nI 1)), .int x13, .int i3, .int i4]) cX4_263 dX4_votesByTurns_32 rfl okX4_votesByTurns (Nat.lt_succ_self d) (cat8 (n := 0) rfl (by decide)) rfl h (k_I (fun r32 T32 h => ?_))
      refine r_istore (μ := mX4_votesByTurns) (pc := 35) (ls' := [some (.ref L0), some (.int i1), some (.int i2), some (.int i3), some (.int i4), some (.int x13), some (.int r32), none]) dX4_votesByTurns_35 (Nat.le_of_ble_eq_true rfl) rfl rfl ?_
      refine r_aload_n (μ := mX4_votesByTurns) (pc := 37) dX4_votesByTurns_37 rfl rfl ?_
      refine r_iload_n (μ := mX4_votesByTurns) (pc := 38) dX4_votesByTurns_38 rfl rfl ?_
      refine r_iconst (μ := mX4_votesByTurns) (pc := 39) (v := nI 1) dX4_votesByTurns_39 rfl ?_
      refine r_iload_n (μ := mX4_votesByTurns) (pc := 40) dX4_votesByTurns_40 rfl rfl ?_
      refine r_iload (μ := mX4_votesByTurns) (pc := 41) dX4_votesByTurns_41 rfl ?_
      refine r_callV (μ := mX4_votesByTurns) (pc := 43) (as := [.int i2, .int (nI 1), .int i3, .int i4]) 1 cX4_188 dX4_votesByTurns_43 rfl (la_kd hL0) (Nat.le_of_ble_eq_true rfl) rfl okX1_canMove (Nat.lt_succ_self d) (cat8 (n := 0) rfl (by decide)) rfl h (k_I (fun r43 T43 h => ?_))
      refine r_if_eq (μ := mX4_votesByTurns) (pc := 46) (tgt := 96) dX4_votesByTurns_46 (by decide) ⟨fun q46 => ?_, fun q46 => ?_⟩
      · have h := h.1 q46
        exact h
      · have h := h.2 q46
        refine r_iload_n (μ := mX4_votesByTurns) (pc := 49) dX4_votesByTurns_49 rfl rfl ?_
        refine r_if_ne (μ := mX4_votesByTurns) (pc := 50) (tgt := 70) dX4_votesByTurns_50 (by decide) ⟨fun q50 => ?_, fun q50 => ?_⟩
        · have h := h.1 q50
          refine r_aload_n (μ := mX4_votesByTurns) (pc := 70) dX4_votesByTurns_70 rfl rfl ?_
          refine r_iload_n (μ := mX4_votesByTurns) (pc := 71) dX4_votesByTurns_71 rfl rfl ?_
          refine r_iconst (μ := mX4_votesByTurns) (pc := 72) (v := nI 1) dX4_votesByTurns_72 rfl ?_
          refine r_isub (μ := mX4_votesByTurns) (pc := 73) dX4_votesByTurns_73 ?_
          refine r_iload (μ := mX4_votesByTurns) (pc := 74) dX4_votesByTurns_74 rfl ?_
          refine r_iload_n (μ := mX4_votesByTurns) (pc := 76) dX4_votesByTurns_76 rfl rfl ?_
          refine r_iload (μ := mX4_votesByTurns) (pc := 77) dX4_votesByTurns_77 rfl ?_
          refine r_iconst (μ := mX4_votesByTurns) (pc := 79) (v := nI 1) dX4_votesByTurns_79 rfl ?_
          refine r_iadd (μ := mX4_votesByTurns) (pc := 80) dX4_votesByTurns_80 ?_
          refine r_callS (μ := mX4_votesByTurns) (pc := 81) (as := [.ref L0, .int (i1 - (nI 1)), .int x13, .int i3, .int (i4 + (nI 1))]) cX4_263 dX4_votesByTurns_81 rfl okX4_votesByTurns (Nat.lt_succ_self d) (cat8 (n := 0) rfl (by decide)) rfl h (k_I (fun r81 T81 h => ?_))
          exact h
        · have h := h.2 q50
          refine r_aload_n (μ := mX4_votesByTurns) (pc := 53) dX4_votesByTurns_53 rfl rfl ?_
          refine r_iload_n (μ := mX4_votesByTurns) (pc := 54) dX4_votesByTurns_54 rfl rfl ?_
          refine r_iconst (μ := mX4_votesByTurns) (pc := 55) (v := nI 1) dX4_votesByTurns_55 rfl ?_
          refine r_isub (μ := mX4_votesByTurns) (pc := 56) dX4_votesByTurns_56 ?_
          refine r_iload (μ := mX4_votesByTurns) (pc := 57) dX4_votesByTurns_57 rfl ?_
          refine r_iload_n (μ := mX4_votesByTurns) (pc := 59) dX4_votesByTurns_59 rfl rfl ?_
          refine r_iconst (μ := mX4_votesByTurns) (pc := 60) (v := nI 1) dX4_votesByTurns_60 rfl ?_
          refine r_isub (μ := mX4_votesByTurns) (pc := 61) dX4_votesByTurns_61 ?_
          refine r_iload (μ := mX4_votesByTurns) (pc := 62) dX4_votesByTurns_62 rfl ?_
          refine r_callS (μ := mX4_votesByTurns) (pc := 64) (as := [.ref L0, .int (i1 - (nI 1)), .int x13, .int (i3 - (nI 1)), .int i4]) cX4_263 dX4_votesByTurns_64 rfl okX4_votesByTurns (Nat.lt_succ_self d) (cat8 (n := 0) rfl (by decide)) rfl h (k_I (fun r64 T64 h => ?_))
          refine r_goto (μ := mX4_votesByTurns) (pc := 67) (tgt := 84) dX4_votesByTurns_67 (by decide) ?_
          exact h
    refine r_if_ne (μ := mX4_votesByTurns) (pc := 13) (tgt := 20) dX4_votesByTurns_13 (by decide) ⟨fun q13 => ?_, fun q13 => ?_⟩
    · refine r_iconst (μ := mX4_votesByTurns) (pc := 20) (v := nI 0) dX4_votesByTurns_20 rfl ?_
      exact J13 _ (by first | (rw [if_neg q13]; done) | simp only [if_neg q13])
    · refine r_iconst (μ := mX4_votesByTurns) (pc := 16) (v := nI 1) dX4_votesByTurns_16 rfl ?_
      refine r_goto (μ := mX4_votesByTurns) (pc := 17) (tgt := 21) dX4_votesByTurns_17 (by decide) ?_
      exact J13 _ (by first | (rw [if_pos q13]; done) | simp only [if_pos q13])
  · have h := h.2 q1
    refine r_aload_n (μ := mX4_votesByTurns) (pc := 4) dX4_votesByTurns_4 rfl rfl ?_
    refine r_iload_n (μ := mX4_votesByTurns) (pc := 5) dX4_votesByTurns_5 rfl rfl ?_
    refine r_iload (μ := mX4_votesByTurns) (pc := 6) dX4_votesByTurns_6 rfl ?_
    refine r_callV (μ := mX4_votesByTurns) (pc := 8) (as := [.int i3, .int i4]) 1 cX4_173 dX4_votesByTurns_8 rfl (la_kd hL0) (Nat.le_of_ble_eq_true rfl) rfl okX1_votesBelonging (Nat.lt_succ_self d) (cat8 (n := 0) rfl (by decide)) rfl h (k_I (fun r8 T8 h => ?_))
    exact r_iret (μ := mX4_votesByTurns) (pc := 11) dX4_votesByTurns_11 rfl h

set_option maxRecDepth 20000 in
theorem bX4_votesByTurns_84 {G : Gl} {l : Launch} {d : Nat} {S : Sg} {P : Int32 → Sg → Prop} (L0 : Nat) (hL0 : LandAt L0) (i1 : Int32) (i2 : Int32) (i3 : Int32) (i4 : Int32) (i5 : Int32) (i6 : Int32) (s0 : Int32)
    (h : Ct G l mX4_betterFor d [.int i2, .int i6, .int s0] S (QI (fun r91 T91 => Ev G l mX4_votesByTurns (d + 1) 96 [some (.ref L0), some (.int i1), some (.int i2), some (.int i3), some (.int i4), some (.int i5), some (.int r91), none] [] T91 (QI P)))) :
    Ev G l mX4_votesByTurns (d + 1) 84 [some (.ref L0), some (.int i1), some (.int i2), some (.int i3), some (.int i4), some (.int i5), some (.int i6), none] [.int s0] S (QI P) := by
  show Ev G l mX4_votesByTurns (d + 1) 84 [some (.ref L0), some (.int i1), some (.int i2), some (.int i3), some (.int i4), some (.int i5), some (.int i6), none] [.int s0] S (QI P)
  refine r_istore (μ := mX4_votesByTurns) (pc := 84) (ls' := [some (.ref L0), some (.int i1), some (.int i2), some (.int i3), some (.int i4), some (.int i5), some (.int i6), some (.int s0)]) dX4_votesByTurns_84 (Nat.le_of_ble_eq_true rfl) rfl rfl ?_
  refine r_iload_n (μ := mX4_votesByTurns) (pc := 86) dX4_votesByTurns_86 rfl rfl ?_
  refine r_iload (μ := mX4_votesByTurns) (pc := 87) dX4_votesByTurns_87 rfl ?_
  refine r_iload (μ := mX4_votesByTurns) (pc := 89) dX4_votesByTurns_89 rfl ?_
  refine r_callS (μ := mX4_votesByTurns) (pc := 91) (as := [.int i2, .int i6, .int s0]) cX4_354 dX4_votesByTurns_91 rfl okX4_betterFor (Nat.lt_succ_self d) (cat8 (n := 0) rfl (by decide)) rfl h (k_I (fun r91 T91 h => ?_))
  refine r_istore (μ := mX4_votesByTurns) (pc := 94) (ls' := [some (.ref L0), some (.int i1), some (.int i2), some (.int i3), some (.int i4), some (.int i5), some (.int r91), some (.int s0)]) dX4_votesByTurns_94 (Nat.le_of_ble_eq_true rfl) rfl rfl ?_
  exact Ev.sub (ls' := [some (.ref L0), some (.int i1), some (.int i2), some (.int i3), some (.int i4), some (.int i5), some (.int r91), none]) (ls_s (ls_s (ls_s (ls_s (ls_s (ls_s (ls_s (ls_n ls_0)))))))) h

set_option maxRecDepth 20000 in
theorem bX4_votesByTurns_96 {G : Gl} {l : Launch} {d : Nat} {S : Sg} {P : Int32 → Sg → Prop} (L0 : Nat) (hL0 : LandAt L0) (i1 : Int32) (i2 : Int32) (i3 : Int32) (i4 : Int32) (i5 : Int32) (i6 : Int32)
    (h : Ct G l mX1_canMove d [.ref L0, .int i2, .int (-1), .int i3, .int i4] S (QI (fun r102 T102 => (r102 = (nI 0) → P i6 T102) ∧ (¬ (r102 = (nI 0)) → (¬ i2 = (nI 0) → Ct G l mX4_votesByTurns d [.ref L0, .int (i1 - (nI 1)), .int i5, .int i3, .int (i4 - (nI 1))] T102 (QI (fun r140 T140 => Ev G l mX4_votesByTurns (d + 1) 143 [some (.ref L0), some (.int i1), some (.int i2), some (.int i3), some (.int i4), some (.int i5), some (.int i6), none] [.int r140] T140 (QI P)))) ∧ (i2 = (nI 0) → Ct G l mX4_votesByTurns d [.ref L0, .int (i1 - (nI 1)), .int i5, .int (i3 + (nI 1)), .int i4] T102 (QI (fun r123 T123 => Ev G l mX4_votesByTurns (d + 1) 143 [some (.ref L0), some (.int i1), some (.int i2), some (.int i3), some (.int i4), some (.int i5), some (.int i6), none] [.int r123] T123 (QI P)))))))) :
    Ev G l mX4_votesByTurns (d + 1) 96 [some (.ref L0), some (.int i1), some (.int i2), some (.int i3), some (.int i4), some (.int i5), some (.int i6), none] [] S (QI P) := by
  show Ev G l mX4_votesByTurns (d + 1) 96 [some (.ref L0), some (.int i1), some (.int i2), some (.int i3), some (.int i4), some (.int i5), some (.int i6), none] [] S (QI P)
  refine r_aload_n (μ := mX4_votesByTurns) (pc := 96) dX4_votesByTurns_96 rfl rfl ?_
  refine r_iload_n (μ := mX4_votesByTurns) (pc := 97) dX4_votesByTurns_97 rfl rfl ?_
  refine r_iconst (μ := mX4_votesByTurns) (pc := 98) (v := (-1)) dX4_votesByTurns_98 rfl ?_
  refine r_iload_n (μ := mX4_votesByTurns) (pc := 99) dX4_votesByTurns_99 rfl rfl ?_
  refine r_iload (μ := mX4_votesByTurns) (pc := 100) dX4_votesByTurns_100 rfl ?_
  refine r_callV (μ := mX4_votesByTurns) (pc := 102) (as := [.int i2, .int (-1), .int i3, .int i4]) 1 cX4_188 dX4_votesByTurns_102 rfl (la_kd hL0) (Nat.le_of_ble_eq_true rfl) rfl okX1_canMove (Nat.lt_succ_self d) (cat8 (n := 0) rfl (by decide)) rfl h (k_I (fun r102 T102 h => ?_))
  refine r_if_eq (μ := mX4_votesByTurns) (pc := 105) (tgt := 155) dX4_votesByTurns_105 (by decide) ⟨fun q105 => ?_, fun q105 => ?_⟩
  · have h := h.1 q105
    refine r_iload (μ := mX4_votesByTurns) (pc := 155) dX4_votesByTurns_155 rfl ?_
    exact r_iret (μ := mX4_votesByTurns) (pc := 157) dX4_votesByTurns_157 rfl h
  · have h := h.2 q105
    refine r_iload_n (μ := mX4_votesByTurns) (pc := 108) dX4_votesByTurns_108 rfl rfl ?_
    refine r_if_ne (μ := mX4_votesByTurns) (pc := 109) (tgt := 129) dX4_votesByTurns_109 (by decide) ⟨fun q109 => ?_, fun q109 => ?_⟩
    · have h := h.1 q109
      refine r_aload_n (μ := mX4_votesByTurns) (pc := 129) dX4_votesByTurns_129 rfl rfl ?_
      refine r_iload_n (μ := mX4_votesByTurns) (pc := 130) dX4_votesByTurns_130 rfl rfl ?_
      refine r_iconst (μ := mX4_votesByTurns) (pc := 131) (v := nI 1) dX4_votesByTurns_131 rfl ?_
      refine r_isub (μ := mX4_votesByTurns) (pc := 132) dX4_votesByTurns_132 ?_
      refine r_iload (μ := mX4_votesByTurns) (pc := 133) dX4_votesByTurns_133 rfl ?_
      refine r_iload_n (μ := mX4_votesByTurns) (pc := 135) dX4_votesByTurns_135 rfl rfl ?_
      refine r_iload (μ := mX4_votesByTurns) (pc := 136) dX4_votesByTurns_136 rfl ?_
      refine r_iconst (μ := mX4_votesByTurns) (pc := 138) (v := nI 1) dX4_votesByTurns_138 rfl ?_
      refine r_isub (μ := mX4_votesByTurns) (pc := 139) dX4_votesByTurns_139 ?_
      refine r_callS (μ := mX4_votesByTurns) (pc := 140) (as := [.ref L0, .int (i1 - (nI 1)), .int i5, .int i3, .int (i4 - (nI 1))]) cX4_263 dX4_votesByTurns_140 rfl okX4_votesByTurns (Nat.lt_succ_self d) (cat8 (n := 0) rfl (by decide)) rfl h (k_I (fun r140 T140 h => ?_))
      exact h
    · have h := h.2 q109
      refine r_aload_n (μ := mX4_votesByTurns) (pc := 112) dX4_votesByTurns_112 rfl rfl ?_
      refine r_iload_n (μ := mX4_votesByTurns) (pc := 113) dX4_votesByTurns_113 rfl rfl ?_
      refine r_iconst (μ := mX4_votesByTurns) (pc := 114) (v := nI 1) dX4_votesByTurns_114 rfl ?_
      refine r_isub (μ := mX4_votesByTurns) (pc := 115) dX4_votesByTurns_115 ?_
      refine r_iload (μ := mX4_votesByTurns) (pc := 116) dX4_votesByTurns_116 rfl ?_
      refine r_iload_n (μ := mX4_votesByTurns) (pc := 118) dX4_votesByTurns_118 rfl rfl ?_
      refine r_iconst (μ := mX4_votesByTurns) (pc := 119) (v := nI 1) dX4_votesByTurns_119 rfl ?_
      refine r_iadd (μ := mX4_votesByTurns) (pc := 120) dX4_votesByTurns_120 ?_
      refine r_iload (μ := mX4_votesByTurns) (pc := 121) dX4_votesByTurns_121 rfl ?_
      refine r_callS (μ := mX4_votesByTurns) (pc := 123) (as := [.ref L0, .int (i1 - (nI 1)), .int i5, .int (i3 + (nI 1)), .int i4]) cX4_263 dX4_votesByTurns_123 rfl okX4_votesByTurns (Nat.lt_succ_self d) (cat8 (n := 0) rfl (by decide)) rfl h (k_I (fun r123 T123 h => ?_))
      refine r_goto (μ := mX4_votesByTurns) (pc := 126) (tgt := 143) dX4_votesByTurns_126 (by decide) ?_
      exact h

set_option maxRecDepth 20000 in
theorem bX4_votesByTurns_143 {G : Gl} {l : Launch} {d : Nat} {S : Sg} {P : Int32 → Sg → Prop} (L0 : Nat) (hL0 : LandAt L0) (i1 : Int32) (i2 : Int32) (i3 : Int32) (i4 : Int32) (i5 : Int32) (i6 : Int32) (s0 : Int32)
    (h : Ct G l mX4_betterFor d [.int i2, .int i6, .int s0] S (QI (fun r150 T150 => P r150 T150))) :
    Ev G l mX4_votesByTurns (d + 1) 143 [some (.ref L0), some (.int i1), some (.int i2), some (.int i3), some (.int i4), some (.int i5), some (.int i6), none] [.int s0] S (QI P) := by
  show Ev G l mX4_votesByTurns (d + 1) 143 [some (.ref L0), some (.int i1), some (.int i2), some (.int i3), some (.int i4), some (.int i5), some (.int i6), none] [.int s0] S (QI P)
  refine r_istore (μ := mX4_votesByTurns) (pc := 143) (ls' := [some (.ref L0), some (.int i1), some (.int i2), some (.int i3), some (.int i4), some (.int i5), some (.int i6), some (.int s0)]) dX4_votesByTurns_143 (Nat.le_of_ble_eq_true rfl) rfl rfl ?_
  refine r_iload_n (μ := mX4_votesByTurns) (pc := 145) dX4_votesByTurns_145 rfl rfl ?_
  refine r_iload (μ := mX4_votesByTurns) (pc := 146) dX4_votesByTurns_146 rfl ?_
  refine r_iload (μ := mX4_votesByTurns) (pc := 148) dX4_votesByTurns_148 rfl ?_
  refine r_callS (μ := mX4_votesByTurns) (pc := 150) (as := [.int i2, .int i6, .int s0]) cX4_354 dX4_votesByTurns_150 rfl okX4_betterFor (Nat.lt_succ_self d) (cat8 (n := 0) rfl (by decide)) rfl h (k_I (fun r150 T150 h => ?_))
  refine r_istore (μ := mX4_votesByTurns) (pc := 153) (ls' := [some (.ref L0), some (.int i1), some (.int i2), some (.int i3), some (.int i4), some (.int i5), some (.int r150), some (.int s0)]) dX4_votesByTurns_153 (Nat.le_of_ble_eq_true rfl) rfl rfl ?_
  refine r_iload (μ := mX4_votesByTurns) (pc := 155) dX4_votesByTurns_155 rfl ?_
  exact r_iret (μ := mX4_votesByTurns) (pc := 157) dX4_votesByTurns_157 rfl h

set_option maxRecDepth 20000 in
theorem bX4_betterFor_0 {G : Gl} {l : Launch} {d : Nat} {S : Sg} {P : Int32 → Sg → Prop} (i0 : Int32) (i1 : Int32) (i2 : Int32)
    (h : ∀ x1 : Int32, x1 = (if i0 = (nI 0) then (if i2 < i1 then i2 else i1) else (if i1 < i2 then i2 else i1)) → (P x1 S)) :
    Ct G l mX4_betterFor (d + 1) [.int i0, .int i1, .int i2] S (QI P) := by
  show Ev G l mX4_betterFor (d + 1) 0 [some (.int i0), some (.int i1), some (.int i2)] [] S (QI P)
  refine r_iload_n (μ := mX4_betterFor) (pc := 0) dX4_betterFor_0 rfl rfl ?_
  have J1 : ∀ x1 : Int32, x1 = (if i0 = (nI 0) then (if i2 < i1 then i2 else i1) else (if i1 < i2 then i2 else i1)) → Ev G l mX4_betterFor (d + 1) 17 [some (.int i0), some (.int i1), some (.int i2)] [.int x1] S (QI P) := by
    intro x1 e1
    have h := h x1 e1
    exact r_iret (μ := mX4_betterFor) (pc := 17) dX4_betterFor_17 rfl h
  refine r_if_ne (μ := mX4_betterFor) (pc := 1) (tgt := 12) dX4_betterFor_1 (by decide) ⟨fun q1 => ?_, fun q1 => ?_⟩
  · refine r_iload_n (μ := mX4_betterFor) (pc := 12) dX4_betterFor_12 rfl rfl ?_
    refine r_iload_n (μ := mX4_betterFor) (pc := 13) dX4_betterFor_13 rfl rfl ?_
    refine r_mmax (μ := mX4_betterFor) (pc := 14) mwX4_150 dX4_betterFor_14 (cat8 (n := 0) rfl (by decide)) ?_
    exact J1 _ (by first | (rw [if_neg q1]; done) | simp only [if_neg q1])
  · refine r_iload_n (μ := mX4_betterFor) (pc := 4) dX4_betterFor_4 rfl rfl ?_
    refine r_iload_n (μ := mX4_betterFor) (pc := 5) dX4_betterFor_5 rfl rfl ?_
    refine r_mmin (μ := mX4_betterFor) (pc := 6) mwX4_358 dX4_betterFor_6 (cat8 (n := 0) rfl (by decide)) ?_
    refine r_goto (μ := mX4_betterFor) (pc := 9) (tgt := 17) dX4_betterFor_9 (by decide) ?_
    exact J1 _ (by first | (rw [if_pos q1]; done) | simp only [if_pos q1])

set_option maxRecDepth 20000 in
theorem bX4_shareCrowns_0 {G : Gl} {l : Launch} {d : Nat} {S : Sg} {P : Sg → Prop} (i1 : Int32) (i2 : Int32) (R3 : Nat) (hR3 : RowAt R3)
    (h : Ct G l mX3_layAnew d [.ref R3, .int (S.1 28 8), .int (nI 0)] S (QV (fun T9 => Ev G l mX4_shareCrowns (d + 1) 18 [some (.ref 0), some (.int i1), some (.int i2), some (.ref R3), some (.int i1), some (.int (nI 0))] [] T9 (QV P)))) :
    Ct G l mX4_shareCrowns (d + 1) [.ref 0, .int i1, .int i2, .ref R3] S (QV P) := by
  show Ev G l mX4_shareCrowns (d + 1) 0 [some (.ref 0), some (.int i1), some (.int i2), some (.ref R3), none, none] [] S (QV P)
  refine r_aload_n (μ := mX4_shareCrowns) (pc := 0) dX4_shareCrowns_0 rfl rfl ?_
  refine r_aload_n (μ := mX4_shareCrowns) (pc := 1) dX4_shareCrowns_1 rfl rfl ?_
  refine g_R (μ := mX4_shareCrowns) (pc := 2) (k' := 28) fX4_21 dX4_shareCrowns_2 rfl rfl ?_
  refine g_I (μ := mX4_shareCrowns) (pc := 5) fX4_124 dX4_shareCrowns_5 rfl ?_
  refine r_iconst (μ := mX4_shareCrowns) (pc := 8) (v := nI 0) dX4_shareCrowns_8 rfl ?_
  refine r_callV (μ := mX4_shareCrowns) (pc := 9) (as := [.int (S.1 28 8), .int (nI 0)]) 3 cX4_71 dX4_shareCrowns_9 rfl (ra_kd hR3) (Nat.le_of_ble_eq_true rfl) rfl okX3_layAnew (Nat.lt_succ_self d) (cat8 (n := 0) rfl (by decide)) rfl h (k_V (fun T9 h => ?_))
  refine r_iload_n (μ := mX4_shareCrowns) (pc := 12) dX4_shareCrowns_12 rfl rfl ?_
  refine r_istore (μ := mX4_shareCrowns) (pc := 13) (ls' := [some (.ref 0), some (.int i1), some (.int i2), some (.ref R3), some (.int i1), none]) dX4_shareCrowns_13 (Nat.le_of_ble_eq_true rfl) rfl rfl ?_
  refine r_iconst (μ := mX4_shareCrowns) (pc := 15) (v := nI 0) dX4_shareCrowns_15 rfl ?_
  refine r_istore (μ := mX4_shareCrowns) (pc := 16) (ls' := [some (.ref 0), some (.int i1), some (.int i2), some (.ref R3), some (.int i1), some (.int (nI 0))]) dX4_shareCrowns_16 (Nat.le_of_ble_eq_true rfl) rfl rfl ?_
  exact h

set_option maxRecDepth 20000 in
theorem bX4_shareCrowns_18 {G : Gl} {l : Launch} {d : Nat} {S : Sg} {P : Sg → Prop} (i1 : Int32) (i2 : Int32) (R3 : Nat) (hR3 : RowAt R3) (i4 : Int32) (i5 : Int32)
    (h : ((S.1 28 8) ≤ i5 → Ev G l mX4_shareCrowns (d + 1) 87 [some (.ref 0), some (.int i1), some (.int i2), some (.ref R3), some (.int i4), some (.int (nI 0))] [] S (QV P)) ∧ (¬ ((S.1 28 8) ≤ i5) → (i2 ≤ (nI 0) → Ev G l mX4_shareCrowns (d + 1) 87 [some (.ref 0), some (.int i1), some (.int i2), some (.ref R3), some (.int i4), some (.int (nI 0))] [] S (QV P)) ∧ (¬ (i2 ≤ (nI 0)) → Ct G l mX1_belongs d [.ref 28, .int i5] S (QI (fun r40 T40 => (r40 = (nI 0) → Ev G l mX4_shareCrowns (d + 1) 18 [some (.ref 0), some (.int i1), some (.int i2), some (.ref R3), some (.int i4), some (.int (i5 + (nI 1)))] [] T40 (QV P)) ∧ (¬ (r40 = (nI 0)) → Ct G l mX1_votes d [.ref 28, .int i5] T40 (QI (fun r58 T58 => (¬ i2 = 0) ∧ (∃ n65 : Nat, ix i5 n65 (ln (R3 + 10)) ∧ ∀ S65 : Sg, S65 = (u2 T58.1 (R3 + 10) n65 ((r58 * i1) / i2), T58.2) → (Ev G l mX4_shareCrowns (d + 1) 18 [some (.ref 0), some (.int i1), some (.int i2), some (.ref R3), some (.int (i4 - (S65.1 (R3 + 10) n65))), some (.int (i5 + (nI 1)))] [] S65 (QV P))))))))))) :
    Ev G l mX4_shareCrowns (d + 1) 18 [some (.ref 0), some (.int i1), some (.int i2), some (.ref R3), some (.int i4), some (.int i5)] [] S (QV P) := by
  show Ev G l mX4_shareCrowns (d + 1) 18 [some (.ref 0), some (.int i1), some (.int i2), some (.ref R3), some (.int i4), some (.int i5)] [] S (QV P)
  refine r_iload (μ := mX4_shareCrowns) (pc := 18) dX4_shareCrowns_18 rfl ?_
  refine r_aload_n (μ := mX4_shareCrowns) (pc := 20) dX4_shareCrowns_20 rfl rfl ?_
  refine g_R (μ := mX4_shareCrowns) (pc := 21) (k' := 28) fX4_21 dX4_shareCrowns_21 rfl rfl ?_
  refine g_I (μ := mX4_shareCrowns) (pc := 24) fX4_124 dX4_shareCrowns_24 rfl ?_
  refine r_icmp_ge (μ := mX4_shareCrowns) (pc := 27) (tgt := 84) dX4_shareCrowns_27 (by decide) ⟨fun q27 => ?_, fun q27 => ?_⟩
  · have h := h.1 q27
    refine r_iconst (μ := mX4_shareCrowns) (pc := 84) (v := nI 0) dX4_shareCrowns_84 rfl ?_
    refine r_istore (μ := mX4_shareCrowns) (pc := 85) (ls' := [some (.ref 0), some (.int i1), some (.int i2), some (.ref R3), some (.int i4), some (.int (nI 0))]) dX4_shareCrowns_85 (Nat.le_of_ble_eq_true rfl) rfl rfl ?_
    exact h
  · have h := h.2 q27
    refine r_iload_n (μ := mX4_shareCrowns) (pc := 30) dX4_shareCrowns_30 rfl rfl ?_
    refine r_if_le (μ := mX4_shareCrowns) (pc := 31) (tgt := 84) dX4_shareCrowns_31 (by decide) ⟨fun q31 => ?_, fun q31 => ?_⟩
    · have h := h.1 q31
      refine r_iconst (μ := mX4_shareCrowns) (pc := 84) (v := nI 0) dX4_shareCrowns_84 rfl ?_
      refine r_istore (μ := mX4_shareCrowns) (pc := 85) (ls' := [some (.ref 0), some (.int i1), some (.int i2), some (.ref R3), some (.int i4), some (.int (nI 0))]) dX4_shareCrowns_85 (Nat.le_of_ble_eq_true rfl) rfl rfl ?_
      exact h
    · have h := h.2 q31
      refine r_aload_n (μ := mX4_shareCrowns) (pc := 34) dX4_shareCrowns_34 rfl rfl ?_
      refine g_R (μ := mX4_shareCrowns) (pc := 35) (k' := 28) fX4_21 dX4_shareCrowns_35 rfl rfl ?_
      refine r_iload (μ := mX4_shareCrowns) (pc := 38) dX4_shareCrowns_38 rfl ?_
      refine r_callV (μ := mX4_shareCrowns) (pc := 40) (as := [.int i5]) 1 cX4_199 dX4_shareCrowns_40 rfl rfl (Nat.le_of_ble_eq_true rfl) rfl okX1_belongs (Nat.lt_succ_self d) (cat8 (n := 0) rfl (by decide)) rfl h (k_I (fun r40 T40 h => ?_))
      refine r_if_eq (μ := mX4_shareCrowns) (pc := 43) (tgt := 78) dX4_shareCrowns_43 (by decide) ⟨fun q43 => ?_, fun q43 => ?_⟩
      · have h := h.1 q43
        refine r_iinc (μ := mX4_shareCrowns) (pc := 78) (y := nI 1) (ls' := [some (.ref 0), some (.int i1), some (.int i2), some (.ref R3), some (.int i4), some (.int (i5 + (nI 1)))]) dX4_shareCrowns_78 rfl rfl (Nat.le_of_ble_eq_true rfl) rfl rfl ?_
        refine r_goto (μ := mX4_shareCrowns) (pc := 81) (tgt := 18) dX4_shareCrowns_81 (by decide) ?_
        exact h
      · have h := h.2 q43
        refine r_aload_n (μ := mX4_shareCrowns) (pc := 46) dX4_shareCrowns_46 rfl rfl ?_
        refine g_R (μ := mX4_shareCrowns) (pc := 47) (k' := R3 + 10) fX4_79 dX4_shareCrowns_47 (ra_kd hR3) (ra_rf hR3) ?_
        refine r_iload (μ := mX4_shareCrowns) (pc := 50) dX4_shareCrowns_50 rfl ?_
        refine r_aload_n (μ := mX4_shareCrowns) (pc := 52) dX4_shareCrowns_52 rfl rfl ?_
        refine g_R (μ := mX4_shareCrowns) (pc := 53) (k' := 28) fX4_21 dX4_shareCrowns_53 rfl rfl ?_
        refine r_iload (μ := mX4_shareCrowns) (pc := 56) dX4_shareCrowns_56 rfl ?_
        refine r_callV (μ := mX4_shareCrowns) (pc := 58) (as := [.int i5]) 1 cX4_348 dX4_shareCrowns_58 rfl rfl (Nat.le_of_ble_eq_true rfl) rfl okX1_votes (Nat.lt_succ_self d) (cat8 (n := 2) rfl (by decide)) rfl h (k_I (fun r58 T58 h => ?_))
        refine r_iload_n (μ := mX4_shareCrowns) (pc := 61) dX4_shareCrowns_61 rfl rfl ?_
        refine r_imul (μ := mX4_shareCrowns) (pc := 62) dX4_shareCrowns_62 ?_
        refine r_iload_n (μ := mX4_shareCrowns) (pc := 63) dX4_shareCrowns_63 rfl rfl ?_
        obtain ⟨hz64, h⟩ := h
        refine r_idiv (μ := mX4_shareCrowns) (pc := 64) dX4_shareCrowns_64 hz64 ?_
        obtain ⟨n65, hx65, h⟩ := h
        refine r_iast (μ := mX4_shareCrowns) (pc := 65) dX4_shareCrowns_65 (ra_k hR3) hx65 ?_
        refine nm_S (fun S65 eS65 => ?_)
        have h := h S65 eS65
        refine r_iload (μ := mX4_shareCrowns) (pc := 66) dX4_shareCrowns_66 rfl ?_
        refine r_aload_n (μ := mX4_shareCrowns) (pc := 68) dX4_shareCrowns_68 rfl rfl ?_
        refine g_R (μ := mX4_shareCrowns) (pc := 69) (k' := R3 + 10) fX4_79 dX4_shareCrowns_69 (ra_kd hR3) (ra_rf hR3) ?_
        refine r_iload (μ := mX4_shareCrowns) (pc := 72) dX4_shareCrowns_72 rfl ?_
        refine r_iald (μ := mX4_shareCrowns) (pc := 74) dX4_shareCrowns_74 (ra_k hR3) hx65 ?_
        refine r_isub (μ := mX4_shareCrowns) (pc := 75) dX4_shareCrowns_75 ?_
        refine r_istore (μ := mX4_shareCrowns) (pc := 76) (ls' := [some (.ref 0), some (.int i1), some (.int i2), some (.ref R3), some (.int (i4 - (S65.1 (R3 + 10) n65))), some (.int i5)]) dX4_shareCrowns_76 (Nat.le_of_ble_eq_true rfl) rfl rfl ?_
        refine r_iinc (μ := mX4_shareCrowns) (pc := 78) (y := nI 1) (ls' := [some (.ref 0), some (.int i1), some (.int i2), some (.ref R3), some (.int (i4 - (S65.1 (R3 + 10) n65))), some (.int (i5 + (nI 1)))]) dX4_shareCrowns_78 rfl rfl (Nat.le_of_ble_eq_true rfl) rfl rfl ?_
        refine r_goto (μ := mX4_shareCrowns) (pc := 81) (tgt := 18) dX4_shareCrowns_81 (by decide) ?_
        exact h

set_option maxRecDepth 20000 in
theorem bX4_shareCrowns_87 {G : Gl} {l : Launch} {d : Nat} {S : Sg} {P : Sg → Prop} (i1 : Int32) (i2 : Int32) (R3 : Nat) (hR3 : RowAt R3) (i4 : Int32) (i5 : Int32)
    (h : ((S.1 28 8) ≤ i5 → P S) ∧ (¬ ((S.1 28 8) ≤ i5) → (i4 ≤ (nI 0) → P S) ∧ (¬ (i4 ≤ (nI 0)) → Ct G l mX1_belongs d [.ref 28, .int i5] S (QI (fun r110 T110 => (r110 = (nI 0) → Ev G l mX4_shareCrowns (d + 1) 87 [some (.ref 0), some (.int i1), some (.int i2), some (.ref R3), some (.int i4), some (.int (i5 + (nI 1)))] [] T110 (QV P)) ∧ (¬ (r110 = (nI 0)) → ∃ n123 : Nat, ix i5 n123 (ln (R3 + 10)) ∧ (∀ S126 : Sg, S126 = (u2 T110.1 (R3 + 10) n123 ((T110.1 (R3 + 10) n123) + (nI 1)), T110.2) → (Ev G l mX4_shareCrowns (d + 1) 87 [some (.ref 0), some (.int i1), some (.int i2), some (.ref R3), some (.int (i4 + (-1))), some (.int (i5 + (nI 1)))] [] S126 (QV P))))))))) :
    Ev G l mX4_shareCrowns (d + 1) 87 [some (.ref 0), some (.int i1), some (.int i2), some (.ref R3), some (.int i4), some (.int i5)] [] S (QV P) := by
  show Ev G l mX4_shareCrowns (d + 1) 87 [some (.ref 0), some (.int i1), some (.int i2), some (.ref R3), some (.int i4), some (.int i5)] [] S (QV P)
  refine r_iload (μ := mX4_shareCrowns) (pc := 87) dX4_shareCrowns_87 rfl ?_
  refine r_aload_n (μ := mX4_shareCrowns) (pc := 89) dX4_shareCrowns_89 rfl rfl ?_
  refine g_R (μ := mX4_shareCrowns) (pc := 90) (k' := 28) fX4_21 dX4_shareCrowns_90 rfl rfl ?_
  refine g_I (μ := mX4_shareCrowns) (pc := 93) fX4_124 dX4_shareCrowns_93 rfl ?_
  refine r_icmp_ge (μ := mX4_shareCrowns) (pc := 96) (tgt := 136) dX4_shareCrowns_96 (by decide) ⟨fun q96 => ?_, fun q96 => ?_⟩
  · have h := h.1 q96
    exact r_vret (μ := mX4_shareCrowns) (pc := 136) dX4_shareCrowns_136 rfl h
  · have h := h.2 q96
    refine r_iload (μ := mX4_shareCrowns) (pc := 99) dX4_shareCrowns_99 rfl ?_
    refine r_if_le (μ := mX4_shareCrowns) (pc := 101) (tgt := 136) dX4_shareCrowns_101 (by decide) ⟨fun q101 => ?_, fun q101 => ?_⟩
    · have h := h.1 q101
      exact r_vret (μ := mX4_shareCrowns) (pc := 136) dX4_shareCrowns_136 rfl h
    · have h := h.2 q101
      refine r_aload_n (μ := mX4_shareCrowns) (pc := 104) dX4_shareCrowns_104 rfl rfl ?_
      refine g_R (μ := mX4_shareCrowns) (pc := 105) (k' := 28) fX4_21 dX4_shareCrowns_105 rfl rfl ?_
      refine r_iload (μ := mX4_shareCrowns) (pc := 108) dX4_shareCrowns_108 rfl ?_
      refine r_callV (μ := mX4_shareCrowns) (pc := 110) (as := [.int i5]) 1 cX4_199 dX4_shareCrowns_110 rfl rfl (Nat.le_of_ble_eq_true rfl) rfl okX1_belongs (Nat.lt_succ_self d) (cat8 (n := 0) rfl (by decide)) rfl h (k_I (fun r110 T110 h => ?_))
      refine r_if_eq (μ := mX4_shareCrowns) (pc := 113) (tgt := 130) dX4_shareCrowns_113 (by decide) ⟨fun q113 => ?_, fun q113 => ?_⟩
      · have h := h.1 q113
        refine r_iinc (μ := mX4_shareCrowns) (pc := 130) (y := nI 1) (ls' := [some (.ref 0), some (.int i1), some (.int i2), some (.ref R3), some (.int i4), some (.int (i5 + (nI 1)))]) dX4_shareCrowns_130 rfl rfl (Nat.le_of_ble_eq_true rfl) rfl rfl ?_
        refine r_goto (μ := mX4_shareCrowns) (pc := 133) (tgt := 87) dX4_shareCrowns_133 (by decide) ?_
        exact h
      · have h := h.2 q113
        refine r_aload_n (μ := mX4_shareCrowns) (pc := 116) dX4_shareCrowns_116 rfl rfl ?_
        refine g_R (μ := mX4_shareCrowns) (pc := 117) (k' := R3 + 10) fX4_79 dX4_shareCrowns_117 (ra_kd hR3) (ra_rf hR3) ?_
        refine r_iload (μ := mX4_shareCrowns) (pc := 120) dX4_shareCrowns_120 rfl ?_
        refine r_dup2_11 (μ := mX4_shareCrowns) (pc := 122) dX4_shareCrowns_122 rfl rfl ?_
        obtain ⟨n123, hx123, h⟩ := h
        refine r_iald (μ := mX4_shareCrowns) (pc := 123) dX4_shareCrowns_123 (ra_k hR3) hx123 ?_
        refine r_iconst (μ := mX4_shareCrowns) (pc := 124) (v := nI 1) dX4_shareCrowns_124 rfl ?_
        refine r_iadd (μ := mX4_shareCrowns) (pc := 125) dX4_shareCrowns_125 ?_
        refine r_iast (μ := mX4_shareCrowns) (pc := 126) dX4_shareCrowns_126 (ra_k hR3) hx123 ?_
        refine nm_S (fun S126 eS126 => ?_)
        have h := h S126 eS126
        refine r_iinc (μ := mX4_shareCrowns) (pc := 127) (y := (-1)) (ls' := [some (.ref 0), some (.int i1), some (.int i2), some (.ref R3), some (.int (i4 + (-1))), some (.int i5)]) dX4_shareCrowns_127 rfl rfl (Nat.le_of_ble_eq_true rfl) rfl rfl ?_
        refine r_iinc (μ := mX4_shareCrowns) (pc := 130) (y := nI 1) (ls' := [some (.ref 0), some (.int i1), some (.int i2), some (.ref R3), some (.int (i4 + (-1))), some (.int (i5 + (nI 1)))]) dX4_shareCrowns_130 rfl rfl (Nat.le_of_ble_eq_true rfl) rfl rfl ?_
        refine r_goto (μ := mX4_shareCrowns) (pc := 133) (tgt := 87) dX4_shareCrowns_133 (by decide) ?_
        exact h

set_option maxRecDepth 20000 in
theorem bX4_isWronged_0 {G : Gl} {l : Launch} {d : Nat} {S : Sg} {P : Int32 → Sg → Prop} (i1 : Int32) (R2 : Nat) (hR2 : RowAt R2)
    (h : Ev G l mX4_isWronged (d + 1) 2 [some (.ref 0), some (.int i1), some (.ref R2), some (.int (nI 0))] [] S (QI P)) :
    Ct G l mX4_isWronged (d + 1) [.ref 0, .int i1, .ref R2] S (QI P) := by
  show Ev G l mX4_isWronged (d + 1) 0 [some (.ref 0), some (.int i1), some (.ref R2), none] [] S (QI P)
  refine r_iconst (μ := mX4_isWronged) (pc := 0) (v := nI 0) dX4_isWronged_0 rfl ?_
  refine r_istore_n (μ := mX4_isWronged) (pc := 1) (ls' := [some (.ref 0), some (.int i1), some (.ref R2), some (.int (nI 0))]) dX4_isWronged_1 rfl (Nat.le_of_ble_eq_true rfl) rfl rfl ?_
  exact h

set_option maxRecDepth 20000 in
theorem bX4_isWronged_2 {G : Gl} {l : Launch} {d : Nat} {S : Sg} {P : Int32 → Sg → Prop} (i1 : Int32) (R2 : Nat) (hR2 : RowAt R2) (i3 : Int32)
    (h : ((S.1 28 8) ≤ i3 → P (nI 0) S) ∧ (¬ ((S.1 28 8) ≤ i3) → Ct G l mX1_belongs d [.ref 28, .int i3] S (QI (fun r18 T18 => (r18 = (nI 0) → Ev G l mX4_isWronged (d + 1) 2 [some (.ref 0), some (.int i1), some (.ref R2), some (.int (i3 + (nI 1)))] [] T18 (QI P)) ∧ (¬ (r18 = (nI 0)) → ∃ n29 : Nat, ix i1 n29 (ln (R2 + 10)) ∧ (∃ n35 : Nat, ix i3 n35 (ln (R2 + 10)) ∧ (((T18.1 (R2 + 10) n35) ≤ (T18.1 (R2 + 10) n29) → Ev G l mX4_isWronged (d + 1) 2 [some (.ref 0), some (.int i1), some (.ref R2), some (.int (i3 + (nI 1)))] [] T18 (QI P)) ∧ (¬ ((T18.1 (R2 + 10) n35) ≤ (T18.1 (R2 + 10) n29)) → Ct G l mX1_votes d [.ref 28, .int i3] T18 (QI (fun r44 T44 => Ct G l mX1_votes d [.ref 28, .int i1] T44 (QI (fun r52 T52 => (r52 < r44 → Ev G l mX4_isWronged (d + 1) 2 [some (.ref 0), some (.int i1), some (.ref R2), some (.int (i3 + (nI 1)))] [] T52 (QI P)) ∧ (¬ (r52 < r44) → P (nI 1) T52))))))))))))) :
    Ev G l mX4_isWronged (d + 1) 2 [some (.ref 0), some (.int i1), some (.ref R2), some (.int i3)] [] S (QI P) := by
  show Ev G l mX4_isWronged (d + 1) 2 [some (.ref 0), some (.int i1), some (.ref R2), some (.int i3)] [] S (QI P)
  refine r_iload_n (μ := mX4_isWronged) (pc := 2) dX4_isWronged_2 rfl rfl ?_
  refine r_aload_n (μ := mX4_isWronged) (pc := 3) dX4_isWronged_3 rfl rfl ?_
  refine g_R (μ := mX4_isWronged) (pc := 4) (k' := 28) fX4_21 dX4_isWronged_4 rfl rfl ?_
  refine g_I (μ := mX4_isWronged) (pc := 7) fX4_124 dX4_isWronged_7 rfl ?_
  refine r_icmp_ge (μ := mX4_isWronged) (pc := 10) (tgt := 66) dX4_isWronged_10 (by decide) ⟨fun q10 => ?_, fun q10 => ?_⟩
  · have h := h.1 q10
    refine r_iconst (μ := mX4_isWronged) (pc := 66) (v := nI 0) dX4_isWronged_66 rfl ?_
    exact r_zret (μ := mX4_isWronged) (pc := 67) dX4_isWronged_67 rfl rfl h
  · have h := h.2 q10
    refine r_aload_n (μ := mX4_isWronged) (pc := 13) dX4_isWronged_13 rfl rfl ?_
    refine g_R (μ := mX4_isWronged) (pc := 14) (k' := 28) fX4_21 dX4_isWronged_14 rfl rfl ?_
    refine r_iload_n (μ := mX4_isWronged) (pc := 17) dX4_isWronged_17 rfl rfl ?_
    refine r_callV (μ := mX4_isWronged) (pc := 18) (as := [.int i3]) 1 cX4_199 dX4_isWronged_18 rfl rfl (Nat.le_of_ble_eq_true rfl) rfl okX1_belongs (Nat.lt_succ_self d) (cat8 (n := 0) rfl (by decide)) rfl h (k_I (fun r18 T18 h => ?_))
    refine r_if_eq (μ := mX4_isWronged) (pc := 21) (tgt := 60) dX4_isWronged_21 (by decide) ⟨fun q21 => ?_, fun q21 => ?_⟩
    · have h := h.1 q21
      refine r_iinc (μ := mX4_isWronged) (pc := 60) (y := nI 1) (ls' := [some (.ref 0), some (.int i1), some (.ref R2), some (.int (i3 + (nI 1)))]) dX4_isWronged_60 rfl rfl (Nat.le_of_ble_eq_true rfl) rfl rfl ?_
      refine r_goto (μ := mX4_isWronged) (pc := 63) (tgt := 2) dX4_isWronged_63 (by decide) ?_
      exact h
    · have h := h.2 q21
      refine r_aload_n (μ := mX4_isWronged) (pc := 24) dX4_isWronged_24 rfl rfl ?_
      refine g_R (μ := mX4_isWronged) (pc := 25) (k' := R2 + 10) fX4_79 dX4_isWronged_25 (ra_kd hR2) (ra_rf hR2) ?_
      refine r_iload_n (μ := mX4_isWronged) (pc := 28) dX4_isWronged_28 rfl rfl ?_
      obtain ⟨n29, hx29, h⟩ := h
      refine r_iald (μ := mX4_isWronged) (pc := 29) dX4_isWronged_29 (ra_k hR2) hx29 ?_
      refine r_aload_n (μ := mX4_isWronged) (pc := 30) dX4_isWronged_30 rfl rfl ?_
      refine g_R (μ := mX4_isWronged) (pc := 31) (k' := R2 + 10) fX4_79 dX4_isWronged_31 (ra_kd hR2) (ra_rf hR2) ?_
      refine r_iload_n (μ := mX4_isWronged) (pc := 34) dX4_isWronged_34 rfl rfl ?_
      obtain ⟨n35, hx35, h⟩ := h
      refine r_iald (μ := mX4_isWronged) (pc := 35) dX4_isWronged_35 (ra_k hR2) hx35 ?_
      refine r_icmp_ge (μ := mX4_isWronged) (pc := 36) (tgt := 60) dX4_isWronged_36 (by decide) ⟨fun q36 => ?_, fun q36 => ?_⟩
      · have h := h.1 q36
        refine r_iinc (μ := mX4_isWronged) (pc := 60) (y := nI 1) (ls' := [some (.ref 0), some (.int i1), some (.ref R2), some (.int (i3 + (nI 1)))]) dX4_isWronged_60 rfl rfl (Nat.le_of_ble_eq_true rfl) rfl rfl ?_
        refine r_goto (μ := mX4_isWronged) (pc := 63) (tgt := 2) dX4_isWronged_63 (by decide) ?_
        exact h
      · have h := h.2 q36
        refine r_aload_n (μ := mX4_isWronged) (pc := 39) dX4_isWronged_39 rfl rfl ?_
        refine g_R (μ := mX4_isWronged) (pc := 40) (k' := 28) fX4_21 dX4_isWronged_40 rfl rfl ?_
        refine r_iload_n (μ := mX4_isWronged) (pc := 43) dX4_isWronged_43 rfl rfl ?_
        refine r_callV (μ := mX4_isWronged) (pc := 44) (as := [.int i3]) 1 cX4_348 dX4_isWronged_44 rfl rfl (Nat.le_of_ble_eq_true rfl) rfl okX1_votes (Nat.lt_succ_self d) (cat8 (n := 0) rfl (by decide)) rfl h (k_I (fun r44 T44 h => ?_))
        refine r_aload_n (μ := mX4_isWronged) (pc := 47) dX4_isWronged_47 rfl rfl ?_
        refine g_R (μ := mX4_isWronged) (pc := 48) (k' := 28) fX4_21 dX4_isWronged_48 rfl rfl ?_
        refine r_iload_n (μ := mX4_isWronged) (pc := 51) dX4_isWronged_51 rfl rfl ?_
        refine r_callV (μ := mX4_isWronged) (pc := 52) (as := [.int i1]) 1 cX4_348 dX4_isWronged_52 rfl rfl (Nat.le_of_ble_eq_true rfl) rfl okX1_votes (Nat.lt_succ_self d) (cat8 (n := 1) rfl (by decide)) rfl h (k_I (fun r52 T52 h => ?_))
        refine r_icmp_gt (μ := mX4_isWronged) (pc := 55) (tgt := 60) dX4_isWronged_55 (by decide) ⟨fun q55 => ?_, fun q55 => ?_⟩
        · have h := h.1 q55
          refine r_iinc (μ := mX4_isWronged) (pc := 60) (y := nI 1) (ls' := [some (.ref 0), some (.int i1), some (.ref R2), some (.int (i3 + (nI 1)))]) dX4_isWronged_60 rfl rfl (Nat.le_of_ble_eq_true rfl) rfl rfl ?_
          refine r_goto (μ := mX4_isWronged) (pc := 63) (tgt := 2) dX4_isWronged_63 (by decide) ?_
          exact h
        · have h := h.2 q55
          refine r_iconst (μ := mX4_isWronged) (pc := 58) (v := nI 1) dX4_isWronged_58 rfl ?_
          exact r_zret (μ := mX4_isWronged) (pc := 59) dX4_isWronged_59 rfl rfl h

set_option maxRecDepth 20000 in
theorem bX4_refusePapers_0 {G : Gl} {l : Launch} {d : Nat} {S : Sg} {P : Int32 → Sg → Prop} (i1 : Int32) (i2 : Int32)
    (h : Ct G l mX1_hasOne d [.ref 28, .int i1] S (QI (fun r5 T5 => (¬ r5 = (nI 0) → Ct G l mX4_refuseMissing d [.ref 0, .ref 1, .int i2] T5 (QI (fun r19 T19 => (r19 = (nI 0) → ∃ n34 : Nat, ix i2 n34 6 ∧ ((((T19.1 (8 + n34) 1) - (T19.1 (8 + n34) 1) / (nI 3) * (nI 3)) = (nI 0) → Ev G l mX4_refusePapers (d + 1) 56 [some (.ref 0), some (.int i1), some (.int i2), some (.int r19), some (.ref (8 + n34)), some (.int (nI 0)), none] [] T19 (QI P)) ∧ (¬ (((T19.1 (8 + n34) 1) - (T19.1 (8 + n34) 1) / (nI 3) * (nI 3)) = (nI 0)) → Ct G l mX4_refuse d [.ref 0, .int (nI 5)] T19 (QI (fun r49 T49 => P r49 T49))))) ∧ (¬ (r19 = (nI 0)) → P r19 T19)))) ∧ (r5 = (nI 0) → P (-1) T5)))) :
    Ct G l mX4_refusePapers (d + 1) [.ref 0, .int i1, .int i2] S (QI P) := by
  show Ev G l mX4_refusePapers (d + 1) 0 [some (.ref 0), some (.int i1), some (.int i2), none, none, none, none] [] S (QI P)
  refine r_aload_n (μ := mX4_refusePapers) (pc := 0) dX4_refusePapers_0 rfl rfl ?_
  refine g_R (μ := mX4_refusePapers) (pc := 1) (k' := 28) fX4_21 dX4_refusePapers_1 rfl rfl ?_
  refine r_iload_n (μ := mX4_refusePapers) (pc := 4) dX4_refusePapers_4 rfl rfl ?_
  refine r_callV (μ := mX4_refusePapers) (pc := 5) (as := [.int i1]) 1 cX4_127 dX4_refusePapers_5 rfl rfl (Nat.le_of_ble_eq_true rfl) rfl okX1_hasOne (Nat.lt_succ_self d) (cat8 (n := 0) rfl (by decide)) rfl h (k_I (fun r5 T5 h => ?_))
  refine r_if_ne (μ := mX4_refusePapers) (pc := 8) (tgt := 13) dX4_refusePapers_8 (by decide) ⟨fun q8 => ?_, fun q8 => ?_⟩
  · have h := h.1 q8
    refine r_aload_n (μ := mX4_refusePapers) (pc := 13) dX4_refusePapers_13 rfl rfl ?_
    refine r_aload_n (μ := mX4_refusePapers) (pc := 14) dX4_refusePapers_14 rfl rfl ?_
    refine g_R (μ := mX4_refusePapers) (pc := 15) (k' := 1) fX4_11 dX4_refusePapers_15 rfl rfl ?_
    refine r_iload_n (μ := mX4_refusePapers) (pc := 18) dX4_refusePapers_18 rfl rfl ?_
    refine r_callV (μ := mX4_refusePapers) (pc := 19) (as := [.ref 1, .int i2]) 4 cX4_82 dX4_refusePapers_19 rfl rfl (Nat.le_of_ble_eq_true rfl) rfl okX4_refuseMissing (Nat.lt_succ_self d) (cat8 (n := 0) rfl (by decide)) rfl h (k_I (fun r19 T19 h => ?_))
    refine r_istore_n (μ := mX4_refusePapers) (pc := 22) (ls' := [some (.ref 0), some (.int i1), some (.int i2), some (.int r19), none, none, none]) dX4_refusePapers_22 rfl (Nat.le_of_ble_eq_true rfl) rfl rfl ?_
    refine r_iload_n (μ := mX4_refusePapers) (pc := 23) dX4_refusePapers_23 rfl rfl ?_
    refine r_if_eq (μ := mX4_refusePapers) (pc := 24) (tgt := 29) dX4_refusePapers_24 (by decide) ⟨fun q24 => ?_, fun q24 => ?_⟩
    · have h := h.1 q24
      refine r_aload_n (μ := mX4_refusePapers) (pc := 29) dX4_refusePapers_29 rfl rfl ?_
      refine g_R (μ := mX4_refusePapers) (pc := 30) (k' := 1) fX4_11 dX4_refusePapers_30 rfl rfl ?_
      refine r_iload_n (μ := mX4_refusePapers) (pc := 33) dX4_refusePapers_33 rfl rfl ?_
      obtain ⟨n34, hx34, h⟩ := h
      refine r_aald (μ := mX4_refusePapers) (pc := 34) (k' := 8 + n34) dX4_refusePapers_34 (Or.inl rfl) hx34 rfl ?_
      refine r_astore (μ := mX4_refusePapers) (pc := 35) (ls' := [some (.ref 0), some (.int i1), some (.int i2), some (.int r19), some (.ref (8 + n34)), none, none]) dX4_refusePapers_35 (Nat.le_of_ble_eq_true rfl) rfl rfl ?_
      refine r_aload (μ := mX4_refusePapers) (pc := 37) dX4_refusePapers_37 rfl ?_
      refine g_I (μ := mX4_refusePapers) (pc := 39) fX4_86 dX4_refusePapers_39 (ra_kd (ra_1 hx34)) ?_
      refine r_iconst (μ := mX4_refusePapers) (pc := 42) (v := nI 3) dX4_refusePapers_42 rfl ?_
      refine r_irem (μ := mX4_refusePapers) (pc := 43) dX4_refusePapers_43 (by decide) ?_
      refine r_if_eq (μ := mX4_refusePapers) (pc := 44) (tgt := 53) dX4_refusePapers_44 (by decide) ⟨fun q44 => ?_, fun q44 => ?_⟩
      · have h := h.1 q44
        refine r_iconst (μ := mX4_refusePapers) (pc := 53) (v := nI 0) dX4_refusePapers_53 rfl ?_
        refine r_istore (μ := mX4_refusePapers) (pc := 54) (ls' := [some (.ref 0), some (.int i1), some (.int i2), some (.int r19), some (.ref (8 + n34)), some (.int (nI 0)), none]) dX4_refusePapers_54 (Nat.le_of_ble_eq_true rfl) rfl rfl ?_
        exact h
      · have h := h.2 q44
        refine r_aload_n (μ := mX4_refusePapers) (pc := 47) dX4_refusePapers_47 rfl rfl ?_
        refine r_iconst (μ := mX4_refusePapers) (pc := 48) (v := nI 5) dX4_refusePapers_48 rfl ?_
        refine r_callV (μ := mX4_refusePapers) (pc := 49) (as := [.int (nI 5)]) 4 cX4_67 dX4_refusePapers_49 rfl rfl (Nat.le_of_ble_eq_true rfl) rfl okX4_refuse (Nat.lt_succ_self d) (cat8 (n := 0) rfl (by decide)) rfl h (k_I (fun r49 T49 h => ?_))
        exact r_iret (μ := mX4_refusePapers) (pc := 52) dX4_refusePapers_52 rfl h
    · have h := h.2 q24
      refine r_iload_n (μ := mX4_refusePapers) (pc := 27) dX4_refusePapers_27 rfl rfl ?_
      exact r_iret (μ := mX4_refusePapers) (pc := 28) dX4_refusePapers_28 rfl h
  · have h := h.2 q8
    refine r_iconst (μ := mX4_refusePapers) (pc := 11) (v := (-1)) dX4_refusePapers_11 rfl ?_
    exact r_iret (μ := mX4_refusePapers) (pc := 12) dX4_refusePapers_12 rfl h

set_option maxRecDepth 20000 in
theorem bX4_refusePapers_56 {G : Gl} {l : Launch} {d : Nat} {S : Sg} {P : Int32 → Sg → Prop} (i1 : Int32) (i2 : Int32) (i3 : Int32) (R4 : Nat) (hR4 : RowAt R4) (i5 : Int32)
    (h : ((S.1 R4 1) ≤ (i5 + (nI 2)) → P (nI 0) S) ∧ (¬ ((S.1 R4 1) ≤ (i5 + (nI 2))) → ∃ n77 : Nat, ix (i5 + (nI 2)) n77 (ln (R4 + 10)) ∧ (∃ n91 : Nat, ix i5 n91 (ln (R4 + 10)) ∧ (∃ n101 : Nat, ix (i5 + (nI 1)) n101 (ln (R4 + 10)) ∧ (Ct G l mX1_canBeCoasts d [.ref 28, .int (S.1 (R4 + 10) n91), .int (S.1 (R4 + 10) n101)] S (QI (fun r102 T102 => (r102 = (nI 0) → Ev G l mX4_refusePapers (d + 1) 119 [some (.ref 0), some (.int i1), some (.int i2), some (.int i3), some (.ref R4), some (.int i5), some (.int (S.1 (R4 + 10) n77))] [] T102 (QI P)) ∧ (¬ (r102 = (nI 0)) → ((S.1 (R4 + 10) n77) = (nI 0) → Ev G l mX4_refusePapers (d + 1) 56 [some (.ref 0), some (.int i1), some (.int i2), some (.int i3), some (.ref R4), some (.int (i5 + (nI 3))), none] [] T102 (QI P)) ∧ (¬ ((S.1 (R4 + 10) n77) = (nI 0)) → ((S.1 (R4 + 10) n77) = (nI 1) → Ev G l mX4_refusePapers (d + 1) 56 [some (.ref 0), some (.int i1), some (.int i2), some (.int i3), some (.ref R4), some (.int (i5 + (nI 3))), none] [] T102 (QI P)) ∧ (¬ ((S.1 (R4 + 10) n77) = (nI 1)) → Ev G l mX4_refusePapers (d + 1) 119 [some (.ref 0), some (.int i1), some (.int i2), some (.int i3), some (.ref R4), some (.int i5), some (.int (S.1 (R4 + 10) n77))] [] T102 (QI P))))))))))) :
    Ev G l mX4_refusePapers (d + 1) 56 [some (.ref 0), some (.int i1), some (.int i2), some (.int i3), some (.ref R4), some (.int i5), none] [] S (QI P) := by
  show Ev G l mX4_refusePapers (d + 1) 56 [some (.ref 0), some (.int i1), some (.int i2), some (.int i3), some (.ref R4), some (.int i5), none] [] S (QI P)
  refine r_iload (μ := mX4_refusePapers) (pc := 56) dX4_refusePapers_56 rfl ?_
  refine r_iconst (μ := mX4_refusePapers) (pc := 58) (v := nI 2) dX4_refusePapers_58 rfl ?_
  refine r_iadd (μ := mX4_refusePapers) (pc := 59) dX4_refusePapers_59 ?_
  refine r_aload (μ := mX4_refusePapers) (pc := 60) dX4_refusePapers_60 rfl ?_
  refine g_I (μ := mX4_refusePapers) (pc := 62) fX4_86 dX4_refusePapers_62 (ra_kd hR4) ?_
  refine r_icmp_ge (μ := mX4_refusePapers) (pc := 65) (tgt := 131) dX4_refusePapers_65 (by decide) ⟨fun q65 => ?_, fun q65 => ?_⟩
  · have h := h.1 q65
    refine r_iconst (μ := mX4_refusePapers) (pc := 131) (v := nI 0) dX4_refusePapers_131 rfl ?_
    exact r_iret (μ := mX4_refusePapers) (pc := 132) dX4_refusePapers_132 rfl h
  · have h := h.2 q65
    refine r_aload (μ := mX4_refusePapers) (pc := 68) dX4_refusePapers_68 rfl ?_
    refine g_R (μ := mX4_refusePapers) (pc := 70) (k' := R4 + 10) fX4_79 dX4_refusePapers_70 (ra_kd hR4) (ra_rf hR4) ?_
    refine r_iload (μ := mX4_refusePapers) (pc := 73) dX4_refusePapers_73 rfl ?_
    refine r_iconst (μ := mX4_refusePapers) (pc := 75) (v := nI 2) dX4_refusePapers_75 rfl ?_
    refine r_iadd (μ := mX4_refusePapers) (pc := 76) dX4_refusePapers_76 ?_
    obtain ⟨n77, hx77, h⟩ := h
    refine r_iald (μ := mX4_refusePapers) (pc := 77) dX4_refusePapers_77 (ra_k hR4) hx77 ?_
    refine r_istore (μ := mX4_refusePapers) (pc := 78) (ls' := [some (.ref 0), some (.int i1), some (.int i2), some (.int i3), some (.ref R4), some (.int i5), some (.int (S.1 (R4 + 10) n77))]) dX4_refusePapers_78 (Nat.le_of_ble_eq_true rfl) rfl rfl ?_
    refine r_aload_n (μ := mX4_refusePapers) (pc := 80) dX4_refusePapers_80 rfl rfl ?_
    refine g_R (μ := mX4_refusePapers) (pc := 81) (k' := 28) fX4_21 dX4_refusePapers_81 rfl rfl ?_
    refine r_aload (μ := mX4_refusePapers) (pc := 84) dX4_refusePapers_84 rfl ?_
    refine g_R (μ := mX4_refusePapers) (pc := 86) (k' := R4 + 10) fX4_79 dX4_refusePapers_86 (ra_kd hR4) (ra_rf hR4) ?_
    refine r_iload (μ := mX4_refusePapers) (pc := 89) dX4_refusePapers_89 rfl ?_
    obtain ⟨n91, hx91, h⟩ := h
    refine r_iald (μ := mX4_refusePapers) (pc := 91) dX4_refusePapers_91 (ra_k hR4) hx91 ?_
    refine r_aload (μ := mX4_refusePapers) (pc := 92) dX4_refusePapers_92 rfl ?_
    refine g_R (μ := mX4_refusePapers) (pc := 94) (k' := R4 + 10) fX4_79 dX4_refusePapers_94 (ra_kd hR4) (ra_rf hR4) ?_
    refine r_iload (μ := mX4_refusePapers) (pc := 97) dX4_refusePapers_97 rfl ?_
    refine r_iconst (μ := mX4_refusePapers) (pc := 99) (v := nI 1) dX4_refusePapers_99 rfl ?_
    refine r_iadd (μ := mX4_refusePapers) (pc := 100) dX4_refusePapers_100 ?_
    obtain ⟨n101, hx101, h⟩ := h
    refine r_iald (μ := mX4_refusePapers) (pc := 101) dX4_refusePapers_101 (ra_k hR4) hx101 ?_
    refine r_callV (μ := mX4_refusePapers) (pc := 102) (as := [.int (S.1 (R4 + 10) n91), .int (S.1 (R4 + 10) n101)]) 1 cX4_257 dX4_refusePapers_102 rfl rfl (Nat.le_of_ble_eq_true rfl) rfl okX1_canBeCoasts (Nat.lt_succ_self d) (cat8 (n := 0) rfl (by decide)) rfl h (k_I (fun r102 T102 h => ?_))
    refine r_if_eq (μ := mX4_refusePapers) (pc := 105) (tgt := 119) dX4_refusePapers_105 (by decide) ⟨fun q105 => ?_, fun q105 => ?_⟩
    · have h := h.1 q105
      exact h
    · have h := h.2 q105
      refine r_iload (μ := mX4_refusePapers) (pc := 108) dX4_refusePapers_108 rfl ?_
      refine r_if_eq (μ := mX4_refusePapers) (pc := 110) (tgt := 125) dX4_refusePapers_110 (by decide) ⟨fun q110 => ?_, fun q110 => ?_⟩
      · have h := h.1 q110
        refine r_iinc (μ := mX4_refusePapers) (pc := 125) (y := nI 3) (ls' := [some (.ref 0), some (.int i1), some (.int i2), some (.int i3), some (.ref R4), some (.int (i5 + (nI 3))), some (.int (S.1 (R4 + 10) n77))]) dX4_refusePapers_125 rfl rfl (Nat.le_of_ble_eq_true rfl) rfl rfl ?_
        refine r_goto (μ := mX4_refusePapers) (pc := 128) (tgt := 56) dX4_refusePapers_128 (by decide) ?_
        exact Ev.sub (ls' := [some (.ref 0), some (.int i1), some (.int i2), some (.int i3), some (.ref R4), some (.int (i5 + (nI 3))), none]) (ls_s (ls_s (ls_s (ls_s (ls_s (ls_s (ls_n ls_0))))))) h
      · have h := h.2 q110
        refine r_iload (μ := mX4_refusePapers) (pc := 113) dX4_refusePapers_113 rfl ?_
        refine r_iconst (μ := mX4_refusePapers) (pc := 115) (v := nI 1) dX4_refusePapers_115 rfl ?_
        refine r_icmp_eq (μ := mX4_refusePapers) (pc := 116) (tgt := 125) dX4_refusePapers_116 (by decide) ⟨fun q116 => ?_, fun q116 => ?_⟩
        · have h := h.1 q116
          refine r_iinc (μ := mX4_refusePapers) (pc := 125) (y := nI 3) (ls' := [some (.ref 0), some (.int i1), some (.int i2), some (.int i3), some (.ref R4), some (.int (i5 + (nI 3))), some (.int (S.1 (R4 + 10) n77))]) dX4_refusePapers_125 rfl rfl (Nat.le_of_ble_eq_true rfl) rfl rfl ?_
          refine r_goto (μ := mX4_refusePapers) (pc := 128) (tgt := 56) dX4_refusePapers_128 (by decide) ?_
          exact Ev.sub (ls' := [some (.ref 0), some (.int i1), some (.int i2), some (.int i3), some (.ref R4), some (.int (i5 + (nI 3))), none]) (ls_s (ls_s (ls_s (ls_s (ls_s (ls_s (ls_n ls_0))))))) h
        · have h := h.2 q116
          exact h

set_option maxRecDepth 20000 in
theorem bX4_refusePapers_119 {G : Gl} {l : Launch} {d : Nat} {S : Sg} {P : Int32 → Sg → Prop} (i1 : Int32) (i2 : Int32) (i3 : Int32) (R4 : Nat) (hR4 : RowAt R4) (i5 : Int32) (i6 : Int32)
    (h : Ct G l mX4_refuse d [.ref 0, .int (nI 3)] S (QI (fun r121 T121 => P r121 T121))) :
    Ev G l mX4_refusePapers (d + 1) 119 [some (.ref 0), some (.int i1), some (.int i2), some (.int i3), some (.ref R4), some (.int i5), some (.int i6)] [] S (QI P) := by
  show Ev G l mX4_refusePapers (d + 1) 119 [some (.ref 0), some (.int i1), some (.int i2), some (.int i3), some (.ref R4), some (.int i5), some (.int i6)] [] S (QI P)
  refine r_aload_n (μ := mX4_refusePapers) (pc := 119) dX4_refusePapers_119 rfl rfl ?_
  refine r_iconst (μ := mX4_refusePapers) (pc := 120) (v := nI 3) dX4_refusePapers_120 rfl ?_
  refine r_callV (μ := mX4_refusePapers) (pc := 121) (as := [.int (nI 3)]) 4 cX4_67 dX4_refusePapers_121 rfl rfl (Nat.le_of_ble_eq_true rfl) rfl okX4_refuse (Nat.lt_succ_self d) (cat8 (n := 0) rfl (by decide)) rfl h (k_I (fun r121 T121 h => ?_))
  exact r_iret (μ := mX4_refusePapers) (pc := 124) dX4_refusePapers_124 rfl h

set_option maxRecDepth 20000 in
theorem bX4_agrees_0 {G : Gl} {l : Launch} {d : Nat} {S : Sg} {P : Int32 → Sg → Prop} (i1 : Int32) (i2 : Int32) (i3 : Int32) (R4 : Nat) (hR4 : RowAt R4)
    (h : Ev G l mX4_agrees (d + 1) 3 [some (.ref 0), some (.int i1), some (.int i2), some (.int i3), some (.ref R4), some (.int (nI 0)), none] [] S (QI P)) :
    Ct G l mX4_agrees (d + 1) [.ref 0, .int i1, .int i2, .int i3, .ref R4] S (QI P) := by
  show Ev G l mX4_agrees (d + 1) 0 [some (.ref 0), some (.int i1), some (.int i2), some (.int i3), some (.ref R4), none, none] [] S (QI P)
  refine r_iconst (μ := mX4_agrees) (pc := 0) (v := nI 0) dX4_agrees_0 rfl ?_
  refine r_istore (μ := mX4_agrees) (pc := 1) (ls' := [some (.ref 0), some (.int i1), some (.int i2), some (.int i3), some (.ref R4), some (.int (nI 0)), none]) dX4_agrees_1 (Nat.le_of_ble_eq_true rfl) rfl rfl ?_
  exact h

set_option maxRecDepth 20000 in
theorem bX4_agrees_3 {G : Gl} {l : Launch} {d : Nat} {S : Sg} {P : Int32 → Sg → Prop} (i1 : Int32) (i2 : Int32) (i3 : Int32) (R4 : Nat) (hR4 : RowAt R4) (i5 : Int32)
    (h : ((S.1 R4 1) ≤ (i5 + (nI 2)) → P (nI 1) S) ∧ (¬ ((S.1 R4 1) ≤ (i5 + (nI 2))) → ∃ n24 : Nat, ix (i5 + (nI 2)) n24 (ln (R4 + 10)) ∧ (∀ x26 : Int32, x26 = (if (S.1 (R4 + 10) n24) = (nI 1) then (nI 1) else (nI 0)) → (∃ n50 : Nat, ix i5 n50 (ln (R4 + 10)) ∧ (∃ n60 : Nat, ix (i5 + (nI 1)) n60 (ln (R4 + 10)) ∧ (Ct G l mX1_wouldBelong d [.ref 28, .int i1, .int i2, .int i3, .int (S.1 (R4 + 10) n50), .int (S.1 (R4 + 10) n60)] S (QI (fun r61 T61 => (r61 = x26 → Ev G l mX4_agrees (d + 1) 3 [some (.ref 0), some (.int i1), some (.int i2), some (.int i3), some (.ref R4), some (.int (i5 + (nI 3))), none] [] T61 (QI P)) ∧ (¬ (r61 = x26) → P (nI 0) T61))))))))) :
    Ev G l mX4_agrees (d + 1) 3 [some (.ref 0), some (.int i1), some (.int i2), some (.int i3), some (.ref R4), some (.int i5), none] [] S (QI P) := by
  show Ev G l mX4_agrees (d + 1) 3 [some (.ref 0), some (.int i1), some (.int i2), some (.int i3), some (.ref R4), some (.int i5), none] [] S (QI P)
  refine r_iload (μ := mX4_agrees) (pc := 3) dX4_agrees_3 rfl ?_
  refine r_iconst (μ := mX4_agrees) (pc := 5) (v := nI 2) dX4_agrees_5 rfl ?_
  refine r_iadd (μ := mX4_agrees) (pc := 6) dX4_agrees_6 ?_
  refine r_aload (μ := mX4_agrees) (pc := 7) dX4_agrees_7 rfl ?_
  refine g_I (μ := mX4_agrees) (pc := 9) fX4_86 dX4_agrees_9 (ra_kd hR4) ?_
  refine r_icmp_ge (μ := mX4_agrees) (pc := 12) (tgt := 77) dX4_agrees_12 (by decide) ⟨fun q12 => ?_, fun q12 => ?_⟩
  · have h := h.1 q12
    refine r_iconst (μ := mX4_agrees) (pc := 77) (v := nI 1) dX4_agrees_77 rfl ?_
    exact r_zret (μ := mX4_agrees) (pc := 78) dX4_agrees_78 rfl rfl h
  · have h := h.2 q12
    refine r_aload (μ := mX4_agrees) (pc := 15) dX4_agrees_15 rfl ?_
    refine g_R (μ := mX4_agrees) (pc := 17) (k' := R4 + 10) fX4_79 dX4_agrees_17 (ra_kd hR4) (ra_rf hR4) ?_
    refine r_iload (μ := mX4_agrees) (pc := 20) dX4_agrees_20 rfl ?_
    refine r_iconst (μ := mX4_agrees) (pc := 22) (v := nI 2) dX4_agrees_22 rfl ?_
    refine r_iadd (μ := mX4_agrees) (pc := 23) dX4_agrees_23 ?_
    obtain ⟨n24, hx24, h⟩ := h
    refine r_iald (μ := mX4_agrees) (pc := 24) dX4_agrees_24 (ra_k hR4) hx24 ?_
    refine r_iconst (μ := mX4_agrees) (pc := 25) (v := nI 1) dX4_agrees_25 rfl ?_
    have J26 : ∀ x26 : Int32, x26 = (if (S.1 (R4 + 10) n24) = (nI 1) then (nI 1) else (nI 0)) → Ev G l mX4_agrees (d + 1) 34 [some (.ref 0), some (.int i1), some (.int i2), some (.int i3), some (.ref R4), some (.int i5), none] [.int x26] S (QI P) := by
      intro x26 e26
      have h := h x26 e26
      refine r_istore (μ := mX4_agrees) (pc := 34) (ls' := [some (.ref 0), some (.int i1), some (.int i2), some (.int i3), some (.ref R4), some (.int i5), some (.int x26)]) dX4_agrees_34 (Nat.le_of_ble_eq_true rfl) rfl rfl ?_
      refine r_aload_n (μ := mX4_agrees) (pc := 36) dX4_agrees_36 rfl rfl ?_
      refine g_R (μ := mX4_agrees) (pc := 37) (k' := 28) fX4_21 dX4_agrees_37 rfl rfl ?_
      refine r_iload_n (μ := mX4_agrees) (pc := 40) dX4_agrees_40 rfl rfl ?_
      refine r_iload_n (μ := mX4_agrees) (pc := 41) dX4_agrees_41 rfl rfl ?_
      refine r_iload_n (μ := mX4_agrees) (pc := 42) dX4_agrees_42 rfl rfl ?_
      refine r_aload (μ := mX4_agrees) (pc := 43) dX4_agrees_43 rfl ?_
      refine g_R (μ := mX4_agrees) (pc := 45) (k' := R4 + 10) fX4_79 dX4_agrees_45 (ra_kd hR4) (ra_rf hR4) ?_
      refine r_iload (μ := mX4_agrees) (pc := 48) dX4_agrees_48 rfl ?_
      obtain ⟨n50, hx50, h⟩ := h
      refine r_iald (μ := mX4_agrees) (pc := 50) dX4_agrees_50 (ra_k hR4) hx50 ?_
      refine r_aload (μ := mX4_agrees) (pc := 51) dX4_agrees_51 rfl ?_
      refine g_R (μ := mX4_agrees) (pc := 53) (k' := R4 + 10) fX4_79 dX4_agrees_53 (ra_kd hR4) (ra_rf hR4) ?_
      refine r_iload (μ := mX4_agrees) (pc := 56) dX4_agrees_56 rfl ?_
      refine r_iconst (μ := mX4_agrees) (pc := 58) (v := nI 1) dX4_agrees_58 rfl ?_
      refine r_iadd (μ := mX4_agrees) (pc := 59) dX4_agrees_59 ?_
      obtain ⟨n60, hx60, h⟩ := h
      refine r_iald (μ := mX4_agrees) (pc := 60) dX4_agrees_60 (ra_k hR4) hx60 ?_
      refine r_callV (μ := mX4_agrees) (pc := 61) (as := [.int i1, .int i2, .int i3, .int (S.1 (R4 + 10) n50), .int (S.1 (R4 + 10) n60)]) 1 cX4_361 dX4_agrees_61 rfl rfl (Nat.le_of_ble_eq_true rfl) rfl okX1_wouldBelong (Nat.lt_succ_self d) (cat8 (n := 0) rfl (by decide)) rfl h (k_I (fun r61 T61 h => ?_))
      refine r_iload (μ := mX4_agrees) (pc := 64) dX4_agrees_64 rfl ?_
      refine r_icmp_eq (μ := mX4_agrees) (pc := 66) (tgt := 71) dX4_agrees_66 (by decide) ⟨fun q66 => ?_, fun q66 => ?_⟩
      · have h := h.1 q66
        refine r_iinc (μ := mX4_agrees) (pc := 71) (y := nI 3) (ls' := [some (.ref 0), some (.int i1), some (.int i2), some (.int i3), some (.ref R4), some (.int (i5 + (nI 3))), some (.int x26)]) dX4_agrees_71 rfl rfl (Nat.le_of_ble_eq_true rfl) rfl rfl ?_
        refine r_goto (μ := mX4_agrees) (pc := 74) (tgt := 3) dX4_agrees_74 (by decide) ?_
        exact Ev.sub (ls' := [some (.ref 0), some (.int i1), some (.int i2), some (.int i3), some (.ref R4), some (.int (i5 + (nI 3))), none]) (ls_s (ls_s (ls_s (ls_s (ls_s (ls_s (ls_n ls_0))))))) h
      · have h := h.2 q66
        refine r_iconst (μ := mX4_agrees) (pc := 69) (v := nI 0) dX4_agrees_69 rfl ?_
        exact r_zret (μ := mX4_agrees) (pc := 70) dX4_agrees_70 rfl rfl h
    refine r_icmp_ne (μ := mX4_agrees) (pc := 26) (tgt := 33) dX4_agrees_26 (by decide) ⟨fun q26 => ?_, fun q26 => ?_⟩
    · refine r_iconst (μ := mX4_agrees) (pc := 33) (v := nI 0) dX4_agrees_33 rfl ?_
      exact J26 _ (by first | (rw [if_neg q26]; done) | simp only [if_neg q26])
    · refine r_iconst (μ := mX4_agrees) (pc := 29) (v := nI 1) dX4_agrees_29 rfl ?_
      refine r_goto (μ := mX4_agrees) (pc := 30) (tgt := 34) dX4_agrees_30 (by decide) ?_
      exact J26 _ (by first | (rw [if_pos q26]; done) | simp only [if_pos q26])

set_option maxRecDepth 20000 in
theorem bX4_waysToBeHere_0 {G : Gl} {l : Launch} {d : Nat} {S : Sg} {P : Int64 → Sg → Prop} (i0 : Int32) (i1 : Int32) (i2 : Int32)
    (h : Ct G l mJ6_bitCount_0f7a4 d [.int i0] S (QI (fun r1 T1 => Ct G l mX4_power d [.int ((nI 12) - i2), .int r1] T1 (QL (fun r10 T10 => Ct G l mJ6_bitCount_0f7a4 d [.int i1] T10 (QI (fun r15 T15 => Ct G l mX4_power d [.int i2, .int (r15 - r1)] T15 (QL (fun r20 T20 => P (r10 * r20) T20))))))))) :
    Ct G l mX4_waysToBeHere (d + 1) [.int i0, .int i1, .int i2] S (QL P) := by
  show Ev G l mX4_waysToBeHere (d + 1) 0 [some (.int i0), some (.int i1), some (.int i2), none] [] S (QL P)
  refine r_iload_n (μ := mX4_waysToBeHere) (pc := 0) dX4_waysToBeHere_0 rfl rfl ?_
  refine r_callS (μ := mX4_waysToBeHere) (pc := 1) (as := [.int i0]) cX4_240 dX4_waysToBeHere_1 rfl okJ6_bitCount_0f7a4 (Nat.lt_succ_self d) (cat8 (n := 0) rfl (by decide)) rfl h (k_I (fun r1 T1 h => ?_))
  refine r_istore_n (μ := mX4_waysToBeHere) (pc := 4) (ls' := [some (.int i0), some (.int i1), some (.int i2), some (.int r1)]) dX4_waysToBeHere_4 rfl (Nat.le_of_ble_eq_true rfl) rfl rfl ?_
  refine r_bipush (μ := mX4_waysToBeHere) (pc := 5) (v := nI 12) dX4_waysToBeHere_5 rfl ?_
  refine r_iload_n (μ := mX4_waysToBeHere) (pc := 7) dX4_waysToBeHere_7 rfl rfl ?_
  refine r_isub (μ := mX4_waysToBeHere) (pc := 8) dX4_waysToBeHere_8 ?_
  refine r_iload_n (μ := mX4_waysToBeHere) (pc := 9) dX4_waysToBeHere_9 rfl rfl ?_
  refine r_callS (μ := mX4_waysToBeHere) (pc := 10) (as := [.int ((nI 12) - i2), .int r1]) cX4_295 dX4_waysToBeHere_10 rfl okX4_power (Nat.lt_succ_self d) (cat8 (n := 0) rfl (by decide)) rfl h (k_L (fun r10 T10 h => ?_))
  refine r_iload_n (μ := mX4_waysToBeHere) (pc := 13) dX4_waysToBeHere_13 rfl rfl ?_
  refine r_iload_n (μ := mX4_waysToBeHere) (pc := 14) dX4_waysToBeHere_14 rfl rfl ?_
  refine r_callS (μ := mX4_waysToBeHere) (pc := 15) (as := [.int i1]) cX4_240 dX4_waysToBeHere_15 rfl okJ6_bitCount_0f7a4 (Nat.lt_succ_self d) (cat8 (n := 3) rfl (by decide)) rfl h (k_I (fun r15 T15 h => ?_))
  refine r_iload_n (μ := mX4_waysToBeHere) (pc := 18) dX4_waysToBeHere_18 rfl rfl ?_
  refine r_isub (μ := mX4_waysToBeHere) (pc := 19) dX4_waysToBeHere_19 ?_
  refine r_callS (μ := mX4_waysToBeHere) (pc := 20) (as := [.int i2, .int (r15 - r1)]) cX4_295 dX4_waysToBeHere_20 rfl okX4_power (Nat.lt_succ_self d) (cat8 (n := 2) rfl (by decide)) rfl h (k_L (fun r20 T20 h => ?_))
  refine r_lmul (μ := mX4_waysToBeHere) (pc := 23) dX4_waysToBeHere_23 ?_
  exact r_lret (μ := mX4_waysToBeHere) (pc := 24) dX4_waysToBeHere_24 rfl h

set_option maxRecDepth 20000 in
theorem bX4_power_0 {G : Gl} {l : Launch} {d : Nat} {S : Sg} {P : Int64 → Sg → Prop} (i0 : Int32) (i1 : Int32)
    (h : Ev G l mX4_power (d + 1) 5 [some (.int i0), some (.int i1), some (.long (lN 1)), none, some (.int (nI 0))] [] S (QL P)) :
    Ct G l mX4_power (d + 1) [.int i0, .int i1] S (QL P) := by
  show Ev G l mX4_power (d + 1) 0 [some (.int i0), some (.int i1), none, none, none] [] S (QL P)
  refine r_lconst (μ := mX4_power) (pc := 0) (v := lN 1) dX4_power_0 rfl ?_
  refine r_lstore_n (μ := mX4_power) (pc := 1) (ls' := [some (.int i0), some (.int i1), some (.long (lN 1)), none, none]) dX4_power_1 rfl (Nat.le_of_ble_eq_true rfl) rfl rfl ?_
  refine r_iconst (μ := mX4_power) (pc := 2) (v := nI 0) dX4_power_2 rfl ?_
  refine r_istore (μ := mX4_power) (pc := 3) (ls' := [some (.int i0), some (.int i1), some (.long (lN 1)), none, some (.int (nI 0))]) dX4_power_3 (Nat.le_of_ble_eq_true rfl) rfl rfl ?_
  exact h

set_option maxRecDepth 20000 in
theorem bX4_power_5 {G : Gl} {l : Launch} {d : Nat} {S : Sg} {P : Int64 → Sg → Prop} (i0 : Int32) (i1 : Int32) (j2 : Int64) (i4 : Int32)
    (h : (i1 ≤ i4 → P j2 S) ∧ (¬ (i1 ≤ i4) → Ev G l mX4_power (d + 1) 5 [some (.int i0), some (.int i1), some (.long (j2 * ((i0).toInt64))), none, some (.int (i4 + (nI 1)))] [] S (QL P))) :
    Ev G l mX4_power (d + 1) 5 [some (.int i0), some (.int i1), some (.long j2), none, some (.int i4)] [] S (QL P) := by
  show Ev G l mX4_power (d + 1) 5 [some (.int i0), some (.int i1), some (.long j2), none, some (.int i4)] [] S (QL P)
  refine r_iload (μ := mX4_power) (pc := 5) dX4_power_5 rfl ?_
  refine r_iload_n (μ := mX4_power) (pc := 7) dX4_power_7 rfl rfl ?_
  refine r_icmp_ge (μ := mX4_power) (pc := 8) (tgt := 22) dX4_power_8 (by decide) ⟨fun q8 => ?_, fun q8 => ?_⟩
  · have h := h.1 q8
    refine r_lload_n (μ := mX4_power) (pc := 22) dX4_power_22 rfl rfl ?_
    exact r_lret (μ := mX4_power) (pc := 23) dX4_power_23 rfl h
  · have h := h.2 q8
    refine r_lload_n (μ := mX4_power) (pc := 11) dX4_power_11 rfl rfl ?_
    refine r_iload_n (μ := mX4_power) (pc := 12) dX4_power_12 rfl rfl ?_
    refine r_i2l (μ := mX4_power) (pc := 13) dX4_power_13 ?_
    refine r_lmul (μ := mX4_power) (pc := 14) dX4_power_14 ?_
    refine r_lstore_n (μ := mX4_power) (pc := 15) (ls' := [some (.int i0), some (.int i1), some (.long (j2 * ((i0).toInt64))), none, some (.int i4)]) dX4_power_15 rfl (Nat.le_of_ble_eq_true rfl) rfl rfl ?_
    refine r_iinc (μ := mX4_power) (pc := 16) (y := nI 1) (ls' := [some (.int i0), some (.int i1), some (.long (j2 * ((i0).toInt64))), none, some (.int (i4 + (nI 1)))]) dX4_power_16 rfl rfl (Nat.le_of_ble_eq_true rfl) rfl rfl ?_
    refine r_goto (μ := mX4_power) (pc := 19) (tgt := 5) dX4_power_19 (by decide) ?_
    exact h

set_option maxRecDepth 20000 in
theorem bX4_tellFraction_0 {G : Gl} {l : Launch} {d : Nat} {S : Sg} {P : Sg → Prop} (j1 : Int64) (j3 : Int64)
    (h : Ev G l mX4_tellFraction (d + 1) 9 [some (.ref 0), some (.long j1), none, some (.long j3), none, some (.long j3), none, some (.long j1), none, some (.int (nI 0)), none, none] [] S (QV P)) :
    Ct G l mX4_tellFraction (d + 1) [.ref 0, .long j1, .long j3] S (QV P) := by
  show Ev G l mX4_tellFraction (d + 1) 0 [some (.ref 0), some (.long j1), none, some (.long j3), none, none, none, none, none, none, none, none] [] S (QV P)
  refine r_lload_n (μ := mX4_tellFraction) (pc := 0) dX4_tellFraction_0 rfl rfl ?_
  refine r_lstore (μ := mX4_tellFraction) (pc := 1) (ls' := [some (.ref 0), some (.long j1), none, some (.long j3), none, some (.long j3), none, none, none, none, none, none]) dX4_tellFraction_1 (Nat.le_of_ble_eq_true rfl) rfl rfl ?_
  refine r_lload_n (μ := mX4_tellFraction) (pc := 3) dX4_tellFraction_3 rfl rfl ?_
  refine r_lstore (μ := mX4_tellFraction) (pc := 4) (ls' := [some (.ref 0), some (.long j1), none, some (.long j3), none, some (.long j3), none, some (.long j1), none, none, none, none]) dX4_tellFraction_4 (Nat.le_of_ble_eq_true rfl) rfl rfl ?_
  refine r_iconst (μ := mX4_tellFraction) (pc := 6) (v := nI 0) dX4_tellFraction_6 rfl ?_
  refine r_istore (μ := mX4_tellFraction) (pc := 7) (ls' := [some (.ref 0), some (.long j1), none, some (.long j3), none, some (.long j3), none, some (.long j1), none, some (.int (nI 0)), none, none]) dX4_tellFraction_7 (Nat.le_of_ble_eq_true rfl) rfl rfl ?_
  exact h

set_option maxRecDepth 20000 in
theorem bX4_tellFraction_9 {G : Gl} {l : Launch} {d : Nat} {S : Sg} {P : Sg → Prop} (j1 : Int64) (j3 : Int64) (j5 : Int64) (j7 : Int64) (i9 : Int32)
    (h : ((nI 1000) ≤ i9 → Ev G l mX4_tellFraction (d + 1) 45 [some (.ref 0), some (.long j1), none, some (.long j3), none, some (.long j5), none, some (.long j7), none, some (.int i9), none, none] [] S (QV P)) ∧ (¬ ((nI 1000) ≤ i9) → ((lg_cmp j7 (lN 0)) ≤ (nI 0) → Ev G l mX4_tellFraction (d + 1) 45 [some (.ref 0), some (.long j1), none, some (.long j3), none, some (.long j5), none, some (.long j7), none, some (.int i9), none, none] [] S (QV P)) ∧ (¬ ((lg_cmp j7 (lN 0)) ≤ (nI 0)) → (¬ j7 = 0) ∧ (Ev G l mX4_tellFraction (d + 1) 9 [some (.ref 0), some (.long j1), none, some (.long j3), none, some (.long j7), none, some (.long (j5 - j5 / j7 * j7)), none, some (.int (i9 + (nI 1))), none, none] [] S (QV P))))) :
    Ev G l mX4_tellFraction (d + 1) 9 [some (.ref 0), some (.long j1), none, some (.long j3), none, some (.long j5), none, some (.long j7), none, some (.int i9), none, none] [] S (QV P) := by
  show Ev G l mX4_tellFraction (d + 1) 9 [some (.ref 0), some (.long j1), none, some (.long j3), none, some (.long j5), none, some (.long j7), none, some (.int i9), none, none] [] S (QV P)
  refine r_iload (μ := mX4_tellFraction) (pc := 9) dX4_tellFraction_9 rfl ?_
  refine r_sipush (μ := mX4_tellFraction) (pc := 11) (v := nI 1000) dX4_tellFraction_11 rfl ?_
  refine r_icmp_ge (μ := mX4_tellFraction) (pc := 14) (tgt := 45) dX4_tellFraction_14 (by decide) ⟨fun q14 => ?_, fun q14 => ?_⟩
  · have h := h.1 q14
    exact h
  · have h := h.2 q14
    refine r_lload (μ := mX4_tellFraction) (pc := 17) dX4_tellFraction_17 rfl ?_
    refine r_lconst (μ := mX4_tellFraction) (pc := 19) (v := lN 0) dX4_tellFraction_19 rfl ?_
    refine r_lcmp (μ := mX4_tellFraction) (pc := 20) dX4_tellFraction_20 ?_
    refine r_if_le (μ := mX4_tellFraction) (pc := 21) (tgt := 45) dX4_tellFraction_21 (by decide) ⟨fun q21 => ?_, fun q21 => ?_⟩
    · have h := h.1 q21
      exact h
    · have h := h.2 q21
      refine r_lload (μ := mX4_tellFraction) (pc := 24) dX4_tellFraction_24 rfl ?_
      refine r_lload (μ := mX4_tellFraction) (pc := 26) dX4_tellFraction_26 rfl ?_
      obtain ⟨hz28, h⟩ := h
      refine r_lrem (μ := mX4_tellFraction) (pc := 28) dX4_tellFraction_28 hz28 ?_
      refine r_lstore (μ := mX4_tellFraction) (pc := 29) (ls' := [some (.ref 0), some (.long j1), none, some (.long j3), none, some (.long j5), none, some (.long j7), none, some (.int i9), some (.long (j5 - j5 / j7 * j7)), none]) dX4_tellFraction_29 (Nat.le_of_ble_eq_true rfl) rfl rfl ?_
      refine r_lload (μ := mX4_tellFraction) (pc := 31) dX4_tellFraction_31 rfl ?_
      refine r_lstore (μ := mX4_tellFraction) (pc := 33) (ls' := [some (.ref 0), some (.long j1), none, some (.long j3), none, some (.long j7), none, some (.long j7), none, some (.int i9), some (.long (j5 - j5 / j7 * j7)), none]) dX4_tellFraction_33 (Nat.le_of_ble_eq_true rfl) rfl rfl ?_
      refine r_lload (μ := mX4_tellFraction) (pc := 35) dX4_tellFraction_35 rfl ?_
      refine r_lstore (μ := mX4_tellFraction) (pc := 37) (ls' := [some (.ref 0), some (.long j1), none, some (.long j3), none, some (.long j7), none, some (.long (j5 - j5 / j7 * j7)), none, some (.int i9), some (.long (j5 - j5 / j7 * j7)), none]) dX4_tellFraction_37 (Nat.le_of_ble_eq_true rfl) rfl rfl ?_
      refine r_iinc (μ := mX4_tellFraction) (pc := 39) (y := nI 1) (ls' := [some (.ref 0), some (.long j1), none, some (.long j3), none, some (.long j7), none, some (.long (j5 - j5 / j7 * j7)), none, some (.int (i9 + (nI 1))), some (.long (j5 - j5 / j7 * j7)), none]) dX4_tellFraction_39 rfl rfl (Nat.le_of_ble_eq_true rfl) rfl rfl ?_
      refine r_goto (μ := mX4_tellFraction) (pc := 42) (tgt := 9) dX4_tellFraction_42 (by decide) ?_
      exact Ev.sub (ls' := [some (.ref 0), some (.long j1), none, some (.long j3), none, some (.long j7), none, some (.long (j5 - j5 / j7 * j7)), none, some (.int (i9 + (nI 1))), none, none]) (ls_s (ls_s (ls_n (ls_s (ls_n (ls_s (ls_n (ls_s (ls_n (ls_s (ls_n (ls_n ls_0)))))))))))) h

set_option maxRecDepth 20000 in
theorem bX4_tellFraction_45 {G : Gl} {l : Launch} {d : Nat} {S : Sg} {P : Sg → Prop} (j1 : Int64) (j3 : Int64) (j5 : Int64) (j7 : Int64) (i9 : Int32)
    (h : ((lg_cmp j5 (lN 0)) ≤ (nI 0) → P S) ∧ (¬ ((lg_cmp j5 (lN 0)) ≤ (nI 0)) → (¬ j5 = 0) ∧ (∀ S57 : Sg, S57 = (S.1, u2 S.2 0 10 (j1 / j5)) → ((¬ j5 = 0) ∧ (∀ S65 : Sg, S65 = (S57.1, u2 S57.2 0 11 (j3 / j5)) → (P S65)))))) :
    Ev G l mX4_tellFraction (d + 1) 45 [some (.ref 0), some (.long j1), none, some (.long j3), none, some (.long j5), none, some (.long j7), none, some (.int i9), none, none] [] S (QV P) := by
  show Ev G l mX4_tellFraction (d + 1) 45 [some (.ref 0), some (.long j1), none, some (.long j3), none, some (.long j5), none, some (.long j7), none, some (.int i9), none, none] [] S (QV P)
  refine r_lload (μ := mX4_tellFraction) (pc := 45) dX4_tellFraction_45 rfl ?_
  refine r_lconst (μ := mX4_tellFraction) (pc := 47) (v := lN 0) dX4_tellFraction_47 rfl ?_
  refine r_lcmp (μ := mX4_tellFraction) (pc := 48) dX4_tellFraction_48 ?_
  refine r_if_le (μ := mX4_tellFraction) (pc := 49) (tgt := 68) dX4_tellFraction_49 (by decide) ⟨fun q49 => ?_, fun q49 => ?_⟩
  · have h := h.1 q49
    exact r_vret (μ := mX4_tellFraction) (pc := 68) dX4_tellFraction_68 rfl h
  · have h := h.2 q49
    refine r_aload_n (μ := mX4_tellFraction) (pc := 52) dX4_tellFraction_52 rfl rfl ?_
    refine r_lload_n (μ := mX4_tellFraction) (pc := 53) dX4_tellFraction_53 rfl rfl ?_
    refine r_lload (μ := mX4_tellFraction) (pc := 54) dX4_tellFraction_54 rfl ?_
    obtain ⟨hz56, h⟩ := h
    refine r_ldiv (μ := mX4_tellFraction) (pc := 56) dX4_tellFraction_56 hz56 ?_
    refine p_L (μ := mX4_tellFraction) (pc := 57) fX4_53 wfX4_53 dX4_tellFraction_57 rfl ?_
    refine nm_S (fun S57 eS57 => ?_)
    have h := h S57 eS57
    refine r_aload_n (μ := mX4_tellFraction) (pc := 60) dX4_tellFraction_60 rfl rfl ?_
    refine r_lload_n (μ := mX4_tellFraction) (pc := 61) dX4_tellFraction_61 rfl rfl ?_
    refine r_lload (μ := mX4_tellFraction) (pc := 62) dX4_tellFraction_62 rfl ?_
    obtain ⟨hz64, h⟩ := h
    refine r_ldiv (μ := mX4_tellFraction) (pc := 64) dX4_tellFraction_64 hz64 ?_
    refine p_L (μ := mX4_tellFraction) (pc := 65) fX4_57 wfX4_57 dX4_tellFraction_65 rfl ?_
    refine nm_S (fun S65 eS65 => ?_)
    have h := h S65 eS65
    exact r_vret (μ := mX4_tellFraction) (pc := 68) dX4_tellFraction_68 rfl h

set_option maxRecDepth 20000 in
theorem bX4_coastsOf_0 {G : Gl} {l : Launch} {d : Nat} {S : Sg} {P : Int32 → Sg → Prop} (i0 : Int32) (i1 : Int32)
    (h : P (((nI 10) * i0) + i1) S) :
    Ct G l mX4_coastsOf (d + 1) [.int i0, .int i1] S (QI P) := by
  show Ev G l mX4_coastsOf (d + 1) 0 [some (.int i0), some (.int i1)] [] S (QI P)
  refine r_bipush (μ := mX4_coastsOf) (pc := 0) (v := nI 10) dX4_coastsOf_0 rfl ?_
  refine r_iload_n (μ := mX4_coastsOf) (pc := 2) dX4_coastsOf_2 rfl rfl ?_
  refine r_imul (μ := mX4_coastsOf) (pc := 3) dX4_coastsOf_3 ?_
  refine r_iload_n (μ := mX4_coastsOf) (pc := 4) dX4_coastsOf_4 rfl rfl ?_
  refine r_iadd (μ := mX4_coastsOf) (pc := 5) dX4_coastsOf_5 ?_
  exact r_iret (μ := mX4_coastsOf) (pc := 6) dX4_coastsOf_6 rfl h

set_option maxRecDepth 20000 in
theorem bX4_westOf_0 {G : Gl} {l : Launch} {d : Nat} {S : Sg} {P : Int32 → Sg → Prop} (i0 : Int32)
    (h : P (i0 / (nI 10)) S) :
    Ct G l mX4_westOf (d + 1) [.int i0] S (QI P) := by
  show Ev G l mX4_westOf (d + 1) 0 [some (.int i0)] [] S (QI P)
  refine r_iload_n (μ := mX4_westOf) (pc := 0) dX4_westOf_0 rfl rfl ?_
  refine r_bipush (μ := mX4_westOf) (pc := 1) (v := nI 10) dX4_westOf_1 rfl ?_
  refine r_idiv (μ := mX4_westOf) (pc := 3) dX4_westOf_3 (by decide) ?_
  exact r_iret (μ := mX4_westOf) (pc := 4) dX4_westOf_4 rfl h

set_option maxRecDepth 20000 in
theorem bX4_eastOf_0 {G : Gl} {l : Launch} {d : Nat} {S : Sg} {P : Int32 → Sg → Prop} (i0 : Int32)
    (h : P (i0 - i0 / (nI 10) * (nI 10)) S) :
    Ct G l mX4_eastOf (d + 1) [.int i0] S (QI P) := by
  show Ev G l mX4_eastOf (d + 1) 0 [some (.int i0)] [] S (QI P)
  refine r_iload_n (μ := mX4_eastOf) (pc := 0) dX4_eastOf_0 rfl rfl ?_
  refine r_bipush (μ := mX4_eastOf) (pc := 1) (v := nI 10) dX4_eastOf_1 rfl ?_
  refine r_irem (μ := mX4_eastOf) (pc := 3) dX4_eastOf_3 (by decide) ?_
  exact r_iret (μ := mX4_eastOf) (pc := 4) dX4_eastOf_4 rfl h

set_option maxRecDepth 20000 in
theorem bX4_middleOf_0 {G : Gl} {l : Launch} {d : Nat} {S : Sg} {P : Int32 → Sg → Prop} (i0 : Int32) (i1 : Int32)
    (h : P ((i0 + i1) / (nI 2)) S) :
    Ct G l mX4_middleOf (d + 1) [.int i0, .int i1] S (QI P) := by
  show Ev G l mX4_middleOf (d + 1) 0 [some (.int i0), some (.int i1)] [] S (QI P)
  refine r_iload_n (μ := mX4_middleOf) (pc := 0) dX4_middleOf_0 rfl rfl ?_
  refine r_iload_n (μ := mX4_middleOf) (pc := 1) dX4_middleOf_1 rfl rfl ?_
  refine r_iadd (μ := mX4_middleOf) (pc := 2) dX4_middleOf_2 ?_
  refine r_iconst (μ := mX4_middleOf) (pc := 3) (v := nI 2) dX4_middleOf_3 rfl ?_
  refine r_idiv (μ := mX4_middleOf) (pc := 4) dX4_middleOf_4 (by decide) ?_
  exact r_iret (μ := mX4_middleOf) (pc := 5) dX4_middleOf_5 rfl h

