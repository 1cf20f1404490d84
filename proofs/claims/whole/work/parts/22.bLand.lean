set_option maxRecDepth 20000 in
theorem bX1_isThere_0 {G : Gl} {l : Launch} {d : Nat} {S : Sg} {P : Int32 → Sg → Prop} (L0 : Nat) (hL0 : LandAt L0)
    (h : ∀ x4 : Int32, x4 = (if (S.1 L0 0) ≤ (nI 0) then (nI 0) else (nI 1)) → (P x4 S)) :
    Ct G l mX1_isThere (d + 1) [.ref L0] S (QI P) := by
  show Ev G l mX1_isThere (d + 1) 0 [some (.ref L0)] [] S (QI P)
  refine r_aload_n (μ := mX1_isThere) (pc := 0) dX1_isThere_0 rfl rfl ?_
  refine g_I (μ := mX1_isThere) (pc := 1) fX1_9 dX1_isThere_1 (la_kd hL0) ?_
  have J4 : ∀ x4 : Int32, x4 = (if (S.1 L0 0) ≤ (nI 0) then (nI 0) else (nI 1)) → Ev G l mX1_isThere (d + 1) 12 [some (.ref L0)] [.int x4] S (QI P) := by
    intro x4 e4
    have h := h x4 e4
    exact r_zret (μ := mX1_isThere) (pc := 12) dX1_isThere_12 rfl (by rw [e4]; exact (zb_if rfl rfl)) h
  refine r_if_le (μ := mX1_isThere) (pc := 4) (tgt := 11) dX1_isThere_4 (by decide) ⟨fun q4 => ?_, fun q4 => ?_⟩
  · refine r_iconst (μ := mX1_isThere) (pc := 11) (v := nI 0) dX1_isThere_11 rfl ?_
    exact J4 _ (by first | (rw [if_pos q4]; done) | simp only [if_pos q4])
  · refine r_iconst (μ := mX1_isThere) (pc := 7) (v := nI 1) dX1_isThere_7 rfl ?_
    refine r_goto (μ := mX1_isThere) (pc := 8) (tgt := 12) dX1_isThere_8 (by decide) ?_
    exact J4 _ (by first | (rw [if_neg q4]; done) | simp only [if_neg q4])

set_option maxRecDepth 20000 in
theorem bX1_hasCell_0 {G : Gl} {l : Launch} {d : Nat} {S : Sg} {P : Int32 → Sg → Prop} (L0 : Nat) (hL0 : LandAt L0) (i1 : Int32)
    (h : ∀ x1 : Int32, x1 = (if i1 < (nI 0) then (nI 0) else (if (S.1 L0 0) ≤ i1 then (nI 0) else (nI 1))) → (P x1 S)) :
    Ct G l mX1_hasCell (d + 1) [.ref L0, .int i1] S (QI P) := by
  show Ev G l mX1_hasCell (d + 1) 0 [some (.ref L0), some (.int i1)] [] S (QI P)
  refine r_iload_n (μ := mX1_hasCell) (pc := 0) dX1_hasCell_0 rfl rfl ?_
  have J1 : ∀ x1 : Int32, x1 = (if i1 < (nI 0) then (nI 0) else (if (S.1 L0 0) ≤ i1 then (nI 0) else (nI 1))) → Ev G l mX1_hasCell (d + 1) 17 [some (.ref L0), some (.int i1)] [.int x1] S (QI P) := by
    intro x1 e1
    have h := h x1 e1
    exact r_zret (μ := mX1_hasCell) (pc := 17) dX1_hasCell_17 rfl (by rw [e1]; exact (zb_if rfl (zb_if rfl rfl))) h
  refine r_if_lt (μ := mX1_hasCell) (pc := 1) (tgt := 16) dX1_hasCell_1 (by decide) ⟨fun q1 => ?_, fun q1 => ?_⟩
  · refine r_iconst (μ := mX1_hasCell) (pc := 16) (v := nI 0) dX1_hasCell_16 rfl ?_
    exact J1 _ (by first | (rw [if_pos q1]; done) | simp only [if_pos q1])
  · refine r_iload_n (μ := mX1_hasCell) (pc := 4) dX1_hasCell_4 rfl rfl ?_
    refine r_aload_n (μ := mX1_hasCell) (pc := 5) dX1_hasCell_5 rfl rfl ?_
    refine g_I (μ := mX1_hasCell) (pc := 6) fX1_9 dX1_hasCell_6 (la_kd hL0) ?_
    refine r_icmp_ge (μ := mX1_hasCell) (pc := 9) (tgt := 16) dX1_hasCell_9 (by decide) ⟨fun q9 => ?_, fun q9 => ?_⟩
    · refine r_iconst (μ := mX1_hasCell) (pc := 16) (v := nI 0) dX1_hasCell_16 rfl ?_
      exact J1 _ (by first | (rw [if_neg q1, if_pos q9]; done) | simp only [if_neg q1, if_pos q9])
    · refine r_iconst (μ := mX1_hasCell) (pc := 12) (v := nI 1) dX1_hasCell_12 rfl ?_
      refine r_goto (μ := mX1_hasCell) (pc := 13) (tgt := 17) dX1_hasCell_13 (by decide) ?_
      exact J1 _ (by first | (rw [if_neg q1, if_neg q9]; done) | simp only [if_neg q1, if_neg q9])

set_option maxRecDepth 20000 in
theorem bX1_hasOne_0 {G : Gl} {l : Launch} {d : Nat} {S : Sg} {P : Int32 → Sg → Prop} (L0 : Nat) (hL0 : LandAt L0) (i1 : Int32)
    (h : ∀ x1 : Int32, x1 = (if i1 < (nI 0) then (nI 0) else (if (S.1 L0 8) ≤ i1 then (nI 0) else (nI 1))) → (P x1 S)) :
    Ct G l mX1_hasOne (d + 1) [.ref L0, .int i1] S (QI P) := by
  show Ev G l mX1_hasOne (d + 1) 0 [some (.ref L0), some (.int i1)] [] S (QI P)
  refine r_iload_n (μ := mX1_hasOne) (pc := 0) dX1_hasOne_0 rfl rfl ?_
  have J1 : ∀ x1 : Int32, x1 = (if i1 < (nI 0) then (nI 0) else (if (S.1 L0 8) ≤ i1 then (nI 0) else (nI 1))) → Ev G l mX1_hasOne (d + 1) 17 [some (.ref L0), some (.int i1)] [.int x1] S (QI P) := by
    intro x1 e1
    have h := h x1 e1
    exact r_zret (μ := mX1_hasOne) (pc := 17) dX1_hasOne_17 rfl (by rw [e1]; exact (zb_if rfl (zb_if rfl rfl))) h
  refine r_if_lt (μ := mX1_hasOne) (pc := 1) (tgt := 16) dX1_hasOne_1 (by decide) ⟨fun q1 => ?_, fun q1 => ?_⟩
  · refine r_iconst (μ := mX1_hasOne) (pc := 16) (v := nI 0) dX1_hasOne_16 rfl ?_
    exact J1 _ (by first | (rw [if_pos q1]; done) | simp only [if_pos q1])
  · refine r_iload_n (μ := mX1_hasOne) (pc := 4) dX1_hasOne_4 rfl rfl ?_
    refine r_aload_n (μ := mX1_hasOne) (pc := 5) dX1_hasOne_5 rfl rfl ?_
    refine g_I (μ := mX1_hasOne) (pc := 6) fX1_36 dX1_hasOne_6 (la_kd hL0) ?_
    refine r_icmp_ge (μ := mX1_hasOne) (pc := 9) (tgt := 16) dX1_hasOne_9 (by decide) ⟨fun q9 => ?_, fun q9 => ?_⟩
    · refine r_iconst (μ := mX1_hasOne) (pc := 16) (v := nI 0) dX1_hasOne_16 rfl ?_
      exact J1 _ (by first | (rw [if_neg q1, if_pos q9]; done) | simp only [if_neg q1, if_pos q9])
    · refine r_iconst (μ := mX1_hasOne) (pc := 12) (v := nI 1) dX1_hasOne_12 rfl ?_
      refine r_goto (μ := mX1_hasOne) (pc := 13) (tgt := 17) dX1_hasOne_13 (by decide) ?_
      exact J1 _ (by first | (rw [if_neg q1, if_neg q9]; done) | simp only [if_neg q1, if_neg q9])

set_option maxRecDepth 20000 in
theorem bX1_hasRoomFor_0 {G : Gl} {l : Launch} {d : Nat} {S : Sg} {P : Int32 → Sg → Prop} (L0 : Nat) (hL0 : LandAt L0) (i1 : Int32)
    (h : ∀ x11 : Int32, x11 = (if (nI 40) < ((S.1 (L0 + 6) 5) + i1) then (nI 0) else (nI 1)) → (P x11 S)) :
    Ct G l mX1_hasRoomFor (d + 1) [.ref L0, .int i1] S (QI P) := by
  show Ev G l mX1_hasRoomFor (d + 1) 0 [some (.ref L0), some (.int i1)] [] S (QI P)
  refine r_aload_n (μ := mX1_hasRoomFor) (pc := 0) dX1_hasRoomFor_0 rfl rfl ?_
  refine g_R (μ := mX1_hasRoomFor) (pc := 1) (k' := L0 + 6) fX1_58 dX1_hasRoomFor_1 (la_kd hL0) (la_rf14 hL0) ?_
  refine g_I (μ := mX1_hasRoomFor) (pc := 4) fX1_62 dX1_hasRoomFor_4 (de_kd (la_deeds hL0)) ?_
  refine r_iload_n (μ := mX1_hasRoomFor) (pc := 7) dX1_hasRoomFor_7 rfl rfl ?_
  refine r_iadd (μ := mX1_hasRoomFor) (pc := 8) dX1_hasRoomFor_8 ?_
  refine r_bipush (μ := mX1_hasRoomFor) (pc := 9) (v := nI 40) dX1_hasRoomFor_9 rfl ?_
  have J11 : ∀ x11 : Int32, x11 = (if (nI 40) < ((S.1 (L0 + 6) 5) + i1) then (nI 0) else (nI 1)) → Ev G l mX1_hasRoomFor (d + 1) 19 [some (.ref L0), some (.int i1)] [.int x11] S (QI P) := by
    intro x11 e11
    have h := h x11 e11
    exact r_zret (μ := mX1_hasRoomFor) (pc := 19) dX1_hasRoomFor_19 rfl (by rw [e11]; exact (zb_if rfl rfl)) h
  refine r_icmp_gt (μ := mX1_hasRoomFor) (pc := 11) (tgt := 18) dX1_hasRoomFor_11 (by decide) ⟨fun q11 => ?_, fun q11 => ?_⟩
  · refine r_iconst (μ := mX1_hasRoomFor) (pc := 18) (v := nI 0) dX1_hasRoomFor_18 rfl ?_
    exact J11 _ (by first | (rw [if_pos q11]; done) | simp only [if_pos q11])
  · refine r_iconst (μ := mX1_hasRoomFor) (pc := 14) (v := nI 1) dX1_hasRoomFor_14 rfl ?_
    refine r_goto (μ := mX1_hasRoomFor) (pc := 15) (tgt := 19) dX1_hasRoomFor_15 (by decide) ?_
    exact J11 _ (by first | (rw [if_neg q11]; done) | simp only [if_neg q11])

set_option maxRecDepth 20000 in
theorem bX1_canBeCoasts_0 {G : Gl} {l : Launch} {d : Nat} {S : Sg} {P : Int32 → Sg → Prop} (L0 : Nat) (hL0 : LandAt L0) (i1 : Int32) (i2 : Int32)
    (h : ∀ x1 : Int32, x1 = (if i1 < (nI 0) then (nI 0) else (if i2 < i1 then (nI 0) else (if (S.1 L0 0) < i2 then (nI 0) else (nI 1)))) → (P x1 S)) :
    Ct G l mX1_canBeCoasts (d + 1) [.ref L0, .int i1, .int i2] S (QI P) := by
  show Ev G l mX1_canBeCoasts (d + 1) 0 [some (.ref L0), some (.int i1), some (.int i2)] [] S (QI P)
  refine r_iload_n (μ := mX1_canBeCoasts) (pc := 0) dX1_canBeCoasts_0 rfl rfl ?_
  have J1 : ∀ x1 : Int32, x1 = (if i1 < (nI 0) then (nI 0) else (if i2 < i1 then (nI 0) else (if (S.1 L0 0) < i2 then (nI 0) else (nI 1)))) → Ev G l mX1_canBeCoasts (d + 1) 22 [some (.ref L0), some (.int i1), some (.int i2)] [.int x1] S (QI P) := by
    intro x1 e1
    have h := h x1 e1
    exact r_zret (μ := mX1_canBeCoasts) (pc := 22) dX1_canBeCoasts_22 rfl (by rw [e1]; exact (zb_if rfl (zb_if rfl (zb_if rfl rfl)))) h
  refine r_if_lt (μ := mX1_canBeCoasts) (pc := 1) (tgt := 21) dX1_canBeCoasts_1 (by decide) ⟨fun q1 => ?_, fun q1 => ?_⟩
  · refine r_iconst (μ := mX1_canBeCoasts) (pc := 21) (v := nI 0) dX1_canBeCoasts_21 rfl ?_
    exact J1 _ (by first | (rw [if_pos q1]; done) | simp only [if_pos q1])
  · refine r_iload_n (μ := mX1_canBeCoasts) (pc := 4) dX1_canBeCoasts_4 rfl rfl ?_
    refine r_iload_n (μ := mX1_canBeCoasts) (pc := 5) dX1_canBeCoasts_5 rfl rfl ?_
    refine r_icmp_gt (μ := mX1_canBeCoasts) (pc := 6) (tgt := 21) dX1_canBeCoasts_6 (by decide) ⟨fun q6 => ?_, fun q6 => ?_⟩
    · refine r_iconst (μ := mX1_canBeCoasts) (pc := 21) (v := nI 0) dX1_canBeCoasts_21 rfl ?_
      exact J1 _ (by first | (rw [if_neg q1, if_pos q6]; done) | simp only [if_neg q1, if_pos q6])
    · refine r_iload_n (μ := mX1_canBeCoasts) (pc := 9) dX1_canBeCoasts_9 rfl rfl ?_
      refine r_aload_n (μ := mX1_canBeCoasts) (pc := 10) dX1_canBeCoasts_10 rfl rfl ?_
      refine g_I (μ := mX1_canBeCoasts) (pc := 11) fX1_9 dX1_canBeCoasts_11 (la_kd hL0) ?_
      refine r_icmp_gt (μ := mX1_canBeCoasts) (pc := 14) (tgt := 21) dX1_canBeCoasts_14 (by decide) ⟨fun q14 => ?_, fun q14 => ?_⟩
      · refine r_iconst (μ := mX1_canBeCoasts) (pc := 21) (v := nI 0) dX1_canBeCoasts_21 rfl ?_
        exact J1 _ (by first | (rw [if_neg q1, if_neg q6, if_pos q14]; done) | simp only [if_neg q1, if_neg q6, if_pos q14])
      · refine r_iconst (μ := mX1_canBeCoasts) (pc := 17) (v := nI 1) dX1_canBeCoasts_17 rfl ?_
        refine r_goto (μ := mX1_canBeCoasts) (pc := 18) (tgt := 22) dX1_canBeCoasts_18 (by decide) ?_
        exact J1 _ (by first | (rw [if_neg q1, if_neg q6, if_neg q14]; done) | simp only [if_neg q1, if_neg q6, if_neg q14])

set_option maxRecDepth 20000 in
theorem bX1_strip_0 {G : Gl} {l : Launch} {d : Nat} {S : Sg} {P : Int32 → Sg → Prop} (L0 : Nat) (hL0 : LandAt L0)
    (h : P ((S.1 L0 2) - (S.1 L0 1)) S) :
    Ct G l mX1_strip (d + 1) [.ref L0] S (QI P) := by
  show Ev G l mX1_strip (d + 1) 0 [some (.ref L0)] [] S (QI P)
  refine r_aload_n (μ := mX1_strip) (pc := 0) dX1_strip_0 rfl rfl ?_
  refine g_I (μ := mX1_strip) (pc := 1) fX1_18 dX1_strip_1 (la_kd hL0) ?_
  refine r_aload_n (μ := mX1_strip) (pc := 4) dX1_strip_4 rfl rfl ?_
  refine g_I (μ := mX1_strip) (pc := 5) fX1_15 dX1_strip_5 (la_kd hL0) ?_
  refine r_isub (μ := mX1_strip) (pc := 8) dX1_strip_8 ?_
  exact r_iret (μ := mX1_strip) (pc := 9) dX1_strip_9 rfl h

set_option maxRecDepth 20000 in
theorem bX1_coasts_0 {G : Gl} {l : Launch} {d : Nat} {S : Sg} {P : Int32 → Sg → Prop} (L0 : Nat) (hL0 : LandAt L0)
    (h : Ct G l mX4_coastsOf d [.int (S.1 L0 1), .int (S.1 L0 2)] S (QI (fun r8 T8 => P r8 T8))) :
    Ct G l mX1_coasts (d + 1) [.ref L0] S (QI P) := by
  show Ev G l mX1_coasts (d + 1) 0 [some (.ref L0)] [] S (QI P)
  refine r_aload_n (μ := mX1_coasts) (pc := 0) dX1_coasts_0 rfl rfl ?_
  refine g_I (μ := mX1_coasts) (pc := 1) fX1_15 dX1_coasts_1 (la_kd hL0) ?_
  refine r_aload_n (μ := mX1_coasts) (pc := 4) dX1_coasts_4 rfl rfl ?_
  refine g_I (μ := mX1_coasts) (pc := 5) fX1_18 dX1_coasts_5 (la_kd hL0) ?_
  refine r_callN (μ := mX1_coasts) (pc := 8) (as := [.int (S.1 L0 1), .int (S.1 L0 2)]) cX1_65 dX1_coasts_8 rfl okX4_coastsOf (Nat.lt_succ_self d) (cat8 (n := 0) rfl (by decide)) rfl h (k_I (fun r8 T8 h => ?_))
  exact r_iret (μ := mX1_coasts) (pc := 11) dX1_coasts_11 rfl h

set_option maxRecDepth 20000 in
theorem bX1_becomeAs_0 {G : Gl} {l : Launch} {d : Nat} {S : Sg} {P : Sg → Prop} (L0 : Nat) (hL0 : LandAt L0) (L1 : Nat) (hL1 : LandAt L1)
    (h : ∀ S5 : Sg, S5 = (u2 S.1 L0 0 (S.1 L1 0), S.2) → (∀ S13 : Sg, S13 = (u2 S5.1 L0 1 (S5.1 L1 1), S5.2) → (∀ S21 : Sg, S21 = (u2 S13.1 L0 2 (S13.1 L1 2), S13.2) → (∀ S29 : Sg, S29 = (u2 S21.1 L0 3 (S21.1 L1 3), S21.2) → (∀ S37 : Sg, S37 = (u2 S29.1 L0 4 (S29.1 L1 4), S29.2) → (∀ S45 : Sg, S45 = (u2 S37.1 L0 5 (S37.1 L1 5), S37.2) → (∀ S53 : Sg, S53 = (u2 S45.1 L0 6 (S45.1 L1 6), S45.2) → (∀ S61 : Sg, S61 = (u2 S53.1 L0 7 (S53.1 L1 7), S53.2) → (∀ S69 : Sg, S69 = (u2 S61.1 L0 8 (S61.1 L1 8), S61.2) → (∀ S84 : Sg, S84 = (u1 S69.1 (L0 + 1) (va_cpy (S69.1 (L1 + 1)) (S69.1 (L0 + 1)) 0 0 6), S69.2) → (∀ S99 : Sg, S99 = (u1 S84.1 (L0 + 2) (va_cpy (S84.1 (L1 + 2)) (S84.1 (L0 + 2)) 0 0 6), S84.2) → (∀ S114 : Sg, S114 = (u1 S99.1 (L0 + 3) (va_cpy (S99.1 (L1 + 3)) (S99.1 (L0 + 3)) 0 0 6), S99.2) → (∀ S129 : Sg, S129 = (u1 S114.1 (L0 + 4) (va_cpy (S114.1 (L1 + 4)) (S114.1 (L0 + 4)) 0 0 6), S114.2) → (∀ S144 : Sg, S144 = (u1 S129.1 (L0 + 5) (va_cpy (S129.1 (L1 + 5)) (S129.1 (L0 + 5)) 0 0 6), S129.2) → (Ct G l mX0_becomeAs d [.ref (L0 + 6), .ref (L1 + 6)] S144 (QV (fun T155 => P T155))))))))))))))))) :
    Ct G l mX1_becomeAs (d + 1) [.ref L0, .ref L1] S (QV P) := by
  show Ev G l mX1_becomeAs (d + 1) 0 [some (.ref L0), some (.ref L1)] [] S (QV P)
  refine r_aload_n (μ := mX1_becomeAs) (pc := 0) dX1_becomeAs_0 rfl rfl ?_
  refine r_aload_n (μ := mX1_becomeAs) (pc := 1) dX1_becomeAs_1 rfl rfl ?_
  refine g_I (μ := mX1_becomeAs) (pc := 2) fX1_9 dX1_becomeAs_2 (la_kd hL1) ?_
  refine p_I (μ := mX1_becomeAs) (pc := 5) fX1_9 wfX1_9 dX1_becomeAs_5 (la_kd hL0) ?_
  refine nm_S (fun S5 eS5 => ?_)
  have h := h S5 eS5
  refine r_aload_n (μ := mX1_becomeAs) (pc := 8) dX1_becomeAs_8 rfl rfl ?_
  refine r_aload_n (μ := mX1_becomeAs) (pc := 9) dX1_becomeAs_9 rfl rfl ?_
  refine g_I (μ := mX1_becomeAs) (pc := 10) fX1_15 dX1_becomeAs_10 (la_kd hL1) ?_
  refine p_I (μ := mX1_becomeAs) (pc := 13) fX1_15 wfX1_15 dX1_becomeAs_13 (la_kd hL0) ?_
  refine nm_S (fun S13 eS13 => ?_)
  have h := h S13 eS13
  refine r_aload_n (μ := mX1_becomeAs) (pc := 16) dX1_becomeAs_16 rfl rfl ?_
  refine r_aload_n (μ := mX1_becomeAs) (pc := 17) dX1_becomeAs_17 rfl rfl ?_
  refine g_I (μ := mX1_becomeAs) (pc := 18) fX1_18 dX1_becomeAs_18 (la_kd hL1) ?_
  refine p_I (μ := mX1_becomeAs) (pc := 21) fX1_18 wfX1_18 dX1_becomeAs_21 (la_kd hL0) ?_
  refine nm_S (fun S21 eS21 => ?_)
  have h := h S21 eS21
  refine r_aload_n (μ := mX1_becomeAs) (pc := 24) dX1_becomeAs_24 rfl rfl ?_
  refine r_aload_n (μ := mX1_becomeAs) (pc := 25) dX1_becomeAs_25 rfl rfl ?_
  refine g_I (μ := mX1_becomeAs) (pc := 26) fX1_21 dX1_becomeAs_26 (la_kd hL1) ?_
  refine p_I (μ := mX1_becomeAs) (pc := 29) fX1_21 wfX1_21 dX1_becomeAs_29 (la_kd hL0) ?_
  refine nm_S (fun S29 eS29 => ?_)
  have h := h S29 eS29
  refine r_aload_n (μ := mX1_becomeAs) (pc := 32) dX1_becomeAs_32 rfl rfl ?_
  refine r_aload_n (μ := mX1_becomeAs) (pc := 33) dX1_becomeAs_33 rfl rfl ?_
  refine g_I (μ := mX1_becomeAs) (pc := 34) fX1_24 dX1_becomeAs_34 (la_kd hL1) ?_
  refine p_I (μ := mX1_becomeAs) (pc := 37) fX1_24 wfX1_24 dX1_becomeAs_37 (la_kd hL0) ?_
  refine nm_S (fun S37 eS37 => ?_)
  have h := h S37 eS37
  refine r_aload_n (μ := mX1_becomeAs) (pc := 40) dX1_becomeAs_40 rfl rfl ?_
  refine r_aload_n (μ := mX1_becomeAs) (pc := 41) dX1_becomeAs_41 rfl rfl ?_
  refine g_I (μ := mX1_becomeAs) (pc := 42) fX1_27 dX1_becomeAs_42 (la_kd hL1) ?_
  refine p_I (μ := mX1_becomeAs) (pc := 45) fX1_27 wfX1_27 dX1_becomeAs_45 (la_kd hL0) ?_
  refine nm_S (fun S45 eS45 => ?_)
  have h := h S45 eS45
  refine r_aload_n (μ := mX1_becomeAs) (pc := 48) dX1_becomeAs_48 rfl rfl ?_
  refine r_aload_n (μ := mX1_becomeAs) (pc := 49) dX1_becomeAs_49 rfl rfl ?_
  refine g_I (μ := mX1_becomeAs) (pc := 50) fX1_30 dX1_becomeAs_50 (la_kd hL1) ?_
  refine p_I (μ := mX1_becomeAs) (pc := 53) fX1_30 wfX1_30 dX1_becomeAs_53 (la_kd hL0) ?_
  refine nm_S (fun S53 eS53 => ?_)
  have h := h S53 eS53
  refine r_aload_n (μ := mX1_becomeAs) (pc := 56) dX1_becomeAs_56 rfl rfl ?_
  refine r_aload_n (μ := mX1_becomeAs) (pc := 57) dX1_becomeAs_57 rfl rfl ?_
  refine g_I (μ := mX1_becomeAs) (pc := 58) fX1_33 dX1_becomeAs_58 (la_kd hL1) ?_
  refine p_I (μ := mX1_becomeAs) (pc := 61) fX1_33 wfX1_33 dX1_becomeAs_61 (la_kd hL0) ?_
  refine nm_S (fun S61 eS61 => ?_)
  have h := h S61 eS61
  refine r_aload_n (μ := mX1_becomeAs) (pc := 64) dX1_becomeAs_64 rfl rfl ?_
  refine r_aload_n (μ := mX1_becomeAs) (pc := 65) dX1_becomeAs_65 rfl rfl ?_
  refine g_I (μ := mX1_becomeAs) (pc := 66) fX1_36 dX1_becomeAs_66 (la_kd hL1) ?_
  refine p_I (μ := mX1_becomeAs) (pc := 69) fX1_36 wfX1_36 dX1_becomeAs_69 (la_kd hL0) ?_
  refine nm_S (fun S69 eS69 => ?_)
  have h := h S69 eS69
  refine r_aload_n (μ := mX1_becomeAs) (pc := 72) dX1_becomeAs_72 rfl rfl ?_
  refine g_R (μ := mX1_becomeAs) (pc := 73) (k' := L1 + 1) fX1_39 dX1_becomeAs_73 (la_kd hL1) (la_rf9 hL1) ?_
  refine r_iconst (μ := mX1_becomeAs) (pc := 76) (v := nI 0) dX1_becomeAs_76 rfl ?_
  refine r_aload_n (μ := mX1_becomeAs) (pc := 77) dX1_becomeAs_77 rfl rfl ?_
  refine g_R (μ := mX1_becomeAs) (pc := 78) (k' := L0 + 1) fX1_39 dX1_becomeAs_78 (la_kd hL0) (la_rf9 hL0) ?_
  refine r_iconst (μ := mX1_becomeAs) (pc := 81) (v := nI 0) dX1_becomeAs_81 rfl ?_
  refine r_bipush (μ := mX1_becomeAs) (pc := 82) (v := nI 6) dX1_becomeAs_82 rfl ?_
  refine r_copy (μ := mX1_becomeAs) (pc := 84) (a := 0) (b := 0) (n := 6) dX1_becomeAs_84 cpX1_69.1 cpX1_69.2.1 cpX1_69.2.2.1 cpX1_69.2.2.2 (la_k1 hL1) (la_k1 hL0) rfl rfl rfl (by rw [la_l1 hL1]; omega) (by rw [la_l1 hL0]; omega) (by rw [la_l1 hL1]; omega) (by rw [la_l1 hL0]; omega) (cat8 (n := 0) rfl (by decide)) ?_
  refine nm_S (fun S84 eS84 => ?_)
  have h := h S84 eS84
  refine r_aload_n (μ := mX1_becomeAs) (pc := 87) dX1_becomeAs_87 rfl rfl ?_
  refine g_R (μ := mX1_becomeAs) (pc := 88) (k' := L1 + 2) fX1_43 dX1_becomeAs_88 (la_kd hL1) (la_rf10 hL1) ?_
  refine r_iconst (μ := mX1_becomeAs) (pc := 91) (v := nI 0) dX1_becomeAs_91 rfl ?_
  refine r_aload_n (μ := mX1_becomeAs) (pc := 92) dX1_becomeAs_92 rfl rfl ?_
  refine g_R (μ := mX1_becomeAs) (pc := 93) (k' := L0 + 2) fX1_43 dX1_becomeAs_93 (la_kd hL0) (la_rf10 hL0) ?_
  refine r_iconst (μ := mX1_becomeAs) (pc := 96) (v := nI 0) dX1_becomeAs_96 rfl ?_
  refine r_bipush (μ := mX1_becomeAs) (pc := 97) (v := nI 6) dX1_becomeAs_97 rfl ?_
  refine r_copy (μ := mX1_becomeAs) (pc := 99) (a := 0) (b := 0) (n := 6) dX1_becomeAs_99 cpX1_69.1 cpX1_69.2.1 cpX1_69.2.2.1 cpX1_69.2.2.2 (la_k2 hL1) (la_k2 hL0) rfl rfl rfl (by rw [la_l2 hL1]; omega) (by rw [la_l2 hL0]; omega) (by rw [la_l2 hL1]; omega) (by rw [la_l2 hL0]; omega) (cat8 (n := 0) rfl (by decide)) ?_
  refine nm_S (fun S99 eS99 => ?_)
  have h := h S99 eS99
  refine r_aload_n (μ := mX1_becomeAs) (pc := 102) dX1_becomeAs_102 rfl rfl ?_
  refine g_R (μ := mX1_becomeAs) (pc := 103) (k' := L1 + 3) fX1_46 dX1_becomeAs_103 (la_kd hL1) (la_rf11 hL1) ?_
  refine r_iconst (μ := mX1_becomeAs) (pc := 106) (v := nI 0) dX1_becomeAs_106 rfl ?_
  refine r_aload_n (μ := mX1_becomeAs) (pc := 107) dX1_becomeAs_107 rfl rfl ?_
  refine g_R (μ := mX1_becomeAs) (pc := 108) (k' := L0 + 3) fX1_46 dX1_becomeAs_108 (la_kd hL0) (la_rf11 hL0) ?_
  refine r_iconst (μ := mX1_becomeAs) (pc := 111) (v := nI 0) dX1_becomeAs_111 rfl ?_
  refine r_bipush (μ := mX1_becomeAs) (pc := 112) (v := nI 6) dX1_becomeAs_112 rfl ?_
  refine r_copy (μ := mX1_becomeAs) (pc := 114) (a := 0) (b := 0) (n := 6) dX1_becomeAs_114 cpX1_69.1 cpX1_69.2.1 cpX1_69.2.2.1 cpX1_69.2.2.2 (la_k3 hL1) (la_k3 hL0) rfl rfl rfl (by rw [la_l3 hL1]; omega) (by rw [la_l3 hL0]; omega) (by rw [la_l3 hL1]; omega) (by rw [la_l3 hL0]; omega) (cat8 (n := 0) rfl (by decide)) ?_
  refine nm_S (fun S114 eS114 => ?_)
  have h := h S114 eS114
  refine r_aload_n (μ := mX1_becomeAs) (pc := 117) dX1_becomeAs_117 rfl rfl ?_
  refine g_R (μ := mX1_becomeAs) (pc := 118) (k' := L1 + 4) fX1_49 dX1_becomeAs_118 (la_kd hL1) (la_rf12 hL1) ?_
  refine r_iconst (μ := mX1_becomeAs) (pc := 121) (v := nI 0) dX1_becomeAs_121 rfl ?_
  refine r_aload_n (μ := mX1_becomeAs) (pc := 122) dX1_becomeAs_122 rfl rfl ?_
  refine g_R (μ := mX1_becomeAs) (pc := 123) (k' := L0 + 4) fX1_49 dX1_becomeAs_123 (la_kd hL0) (la_rf12 hL0) ?_
  refine r_iconst (μ := mX1_becomeAs) (pc := 126) (v := nI 0) dX1_becomeAs_126 rfl ?_
  refine r_bipush (μ := mX1_becomeAs) (pc := 127) (v := nI 6) dX1_becomeAs_127 rfl ?_
  refine r_copy (μ := mX1_becomeAs) (pc := 129) (a := 0) (b := 0) (n := 6) dX1_becomeAs_129 cpX1_69.1 cpX1_69.2.1 cpX1_69.2.2.1 cpX1_69.2.2.2 (la_k4 hL1) (la_k4 hL0) rfl rfl rfl (by rw [la_l4 hL1]; omega) (by rw [la_l4 hL0]; omega) (by rw [la_l4 hL1]; omega) (by rw [la_l4 hL0]; omega) (cat8 (n := 0) rfl (by decide)) ?_
  refine nm_S (fun S129 eS129 => ?_)
  have h := h S129 eS129
  refine r_aload_n (μ := mX1_becomeAs) (pc := 132) dX1_becomeAs_132 rfl rfl ?_
  refine g_R (μ := mX1_becomeAs) (pc := 133) (k' := L1 + 5) fX1_52 dX1_becomeAs_133 (la_kd hL1) (la_rf13 hL1) ?_
  refine r_iconst (μ := mX1_becomeAs) (pc := 136) (v := nI 0) dX1_becomeAs_136 rfl ?_
  refine r_aload_n (μ := mX1_becomeAs) (pc := 137) dX1_becomeAs_137 rfl rfl ?_
  refine g_R (μ := mX1_becomeAs) (pc := 138) (k' := L0 + 5) fX1_52 dX1_becomeAs_138 (la_kd hL0) (la_rf13 hL0) ?_
  refine r_iconst (μ := mX1_becomeAs) (pc := 141) (v := nI 0) dX1_becomeAs_141 rfl ?_
  refine r_bipush (μ := mX1_becomeAs) (pc := 142) (v := nI 6) dX1_becomeAs_142 rfl ?_
  refine r_copy (μ := mX1_becomeAs) (pc := 144) (a := 0) (b := 0) (n := 6) dX1_becomeAs_144 cpX1_69.1 cpX1_69.2.1 cpX1_69.2.2.1 cpX1_69.2.2.2 (la_k5 hL1) (la_k5 hL0) rfl rfl rfl (by rw [la_l5 hL1]; omega) (by rw [la_l5 hL0]; omega) (by rw [la_l5 hL1]; omega) (by rw [la_l5 hL0]; omega) (cat8 (n := 0) rfl (by decide)) ?_
  refine nm_S (fun S144 eS144 => ?_)
  have h := h S144 eS144
  refine r_aload_n (μ := mX1_becomeAs) (pc := 147) dX1_becomeAs_147 rfl rfl ?_
  refine g_R (μ := mX1_becomeAs) (pc := 148) (k' := L0 + 6) fX1_58 dX1_becomeAs_148 (la_kd hL0) (la_rf14 hL0) ?_
  refine r_aload_n (μ := mX1_becomeAs) (pc := 151) dX1_becomeAs_151 rfl rfl ?_
  refine g_R (μ := mX1_becomeAs) (pc := 152) (k' := L1 + 6) fX1_58 dX1_becomeAs_152 (la_kd hL1) (la_rf14 hL1) ?_
  refine r_callV (μ := mX1_becomeAs) (pc := 155) (as := [.ref (L1 + 6)]) 0 cX1_75 dX1_becomeAs_155 rfl (de_kd (la_deeds hL0)) (Nat.le_of_ble_eq_true rfl) rfl okX0_becomeAs (Nat.lt_succ_self d) (cat8 (n := 0) rfl (by decide)) rfl h (k_V (fun T155 h => ?_))
  exact r_vret (μ := mX1_becomeAs) (pc := 158) dX1_becomeAs_158 rfl h

set_option maxRecDepth 20000 in
theorem bX1_isOf_0 {G : Gl} {l : Launch} {d : Nat} {S : Sg} {P : Int32 → Sg → Prop} (L0 : Nat) (hL0 : LandAt L0) (i1 : Int32) (i2 : Int32)
    (h : ∃ n5 : Nat, ix i1 n5 6 ∧ ((i2 = (nI 0) → P (nI 1) S) ∧ (¬ (i2 = (nI 0)) → ∀ x13 : Int32, x13 = (if (S.1 (L0 + 1) n5) = i2 then (nI 1) else (if i2 = (nI 1) then (if (S.1 (L0 + 1) n5) = (nI 4) then (nI 1) else (if i2 = (nI 2) then (if (S.1 (L0 + 1) n5) = (nI 5) then (nI 1) else (nI 0)) else (nI 0))) else (if i2 = (nI 2) then (if (S.1 (L0 + 1) n5) = (nI 5) then (nI 1) else (nI 0)) else (nI 0)))) → (P x13 S)))) :
    Ct G l mX1_isOf (d + 1) [.ref L0, .int i1, .int i2] S (QI P) := by
  show Ev G l mX1_isOf (d + 1) 0 [some (.ref L0), some (.int i1), some (.int i2), none] [] S (QI P)
  refine r_aload_n (μ := mX1_isOf) (pc := 0) dX1_isOf_0 rfl rfl ?_
  refine g_R (μ := mX1_isOf) (pc := 1) (k' := L0 + 1) fX1_39 dX1_isOf_1 (la_kd hL0) (la_rf9 hL0) ?_
  refine r_iload_n (μ := mX1_isOf) (pc := 4) dX1_isOf_4 rfl rfl ?_
  obtain ⟨n5, hx5, h⟩ := h
  refine r_iald (μ := mX1_isOf) (pc := 5) dX1_isOf_5 (la_k1 hL0) (ix_ln hx5 (la_l1 hL0)) ?_
  refine r_istore_n (μ := mX1_isOf) (pc := 6) (ls' := [some (.ref L0), some (.int i1), some (.int i2), some (.int (S.1 (L0 + 1) n5))]) dX1_isOf_6 rfl (Nat.le_of_ble_eq_true rfl) rfl rfl ?_
  refine r_iload_n (μ := mX1_isOf) (pc := 7) dX1_isOf_7 rfl rfl ?_
  refine r_if_eq (μ := mX1_isOf) (pc := 8) (tgt := 36) dX1_isOf_8 (by decide) ⟨fun q8 => ?_, fun q8 => ?_⟩
  · have h := h.1 q8
    refine r_iconst (μ := mX1_isOf) (pc := 36) (v := nI 1) dX1_isOf_36 rfl ?_
    refine r_goto (μ := mX1_isOf) (pc := 37) (tgt := 41) dX1_isOf_37 (by decide) ?_
    exact r_zret (μ := mX1_isOf) (pc := 41) dX1_isOf_41 rfl rfl h
  · have h := h.2 q8
    refine r_iload_n (μ := mX1_isOf) (pc := 11) dX1_isOf_11 rfl rfl ?_
    refine r_iload_n (μ := mX1_isOf) (pc := 12) dX1_isOf_12 rfl rfl ?_
    have J13 : ∀ x13 : Int32, x13 = (if (S.1 (L0 + 1) n5) = i2 then (nI 1) else (if i2 = (nI 1) then (if (S.1 (L0 + 1) n5) = (nI 4) then (nI 1) else (if i2 = (nI 2) then (if (S.1 (L0 + 1) n5) = (nI 5) then (nI 1) else (nI 0)) else (nI 0))) else (if i2 = (nI 2) then (if (S.1 (L0 + 1) n5) = (nI 5) then (nI 1) else (nI 0)) else (nI 0)))) → Ev G l mX1_isOf (d + 1) 41 [some (.ref L0), some (.int i1), some (.int i2), some (.int (S.1 (L0 + 1) n5))] [.int x13] S (QI P) := by
      intro x13 e13
      have h := h x13 e13
      exact r_zret (μ := mX1_isOf) (pc := 41) dX1_isOf_41 rfl (by rw [e13]; exact (zb_if rfl (zb_if (zb_if rfl (zb_if (zb_if rfl rfl) rfl)) (zb_if (zb_if rfl rfl) rfl)))) h
    refine r_icmp_eq (μ := mX1_isOf) (pc := 13) (tgt := 36) dX1_isOf_13 (by decide) ⟨fun q13 => ?_, fun q13 => ?_⟩
    · refine r_iconst (μ := mX1_isOf) (pc := 36) (v := nI 1) dX1_isOf_36 rfl ?_
      refine r_goto (μ := mX1_isOf) (pc := 37) (tgt := 41) dX1_isOf_37 (by decide) ?_
      exact J13 _ (by first | (rw [if_pos q13]; done) | simp only [if_pos q13])
    · refine r_iload_n (μ := mX1_isOf) (pc := 16) dX1_isOf_16 rfl rfl ?_
      refine r_iconst (μ := mX1_isOf) (pc := 17) (v := nI 1) dX1_isOf_17 rfl ?_
      refine r_icmp_ne (μ := mX1_isOf) (pc := 18) (tgt := 26) dX1_isOf_18 (by decide) ⟨fun q18 => ?_, fun q18 => ?_⟩
      · refine r_iload_n (μ := mX1_isOf) (pc := 26) dX1_isOf_26 rfl rfl ?_
        refine r_iconst (μ := mX1_isOf) (pc := 27) (v := nI 2) dX1_isOf_27 rfl ?_
        refine r_icmp_ne (μ := mX1_isOf) (pc := 28) (tgt := 40) dX1_isOf_28 (by decide) ⟨fun q28 => ?_, fun q28 => ?_⟩
        · refine r_iconst (μ := mX1_isOf) (pc := 40) (v := nI 0) dX1_isOf_40 rfl ?_
          exact J13 _ (by first | (rw [if_neg q13, if_neg q18, if_neg q28]; done) | simp only [if_neg q13, if_neg q18, if_neg q28])
        · refine r_iload_n (μ := mX1_isOf) (pc := 31) dX1_isOf_31 rfl rfl ?_
          refine r_iconst (μ := mX1_isOf) (pc := 32) (v := nI 5) dX1_isOf_32 rfl ?_
          refine r_icmp_ne (μ := mX1_isOf) (pc := 33) (tgt := 40) dX1_isOf_33 (by decide) ⟨fun q33 => ?_, fun q33 => ?_⟩
          · refine r_iconst (μ := mX1_isOf) (pc := 40) (v := nI 0) dX1_isOf_40 rfl ?_
            exact J13 _ (by first | (rw [if_neg q13, if_neg q18, if_pos q28, if_neg q33]; done) | simp only [if_neg q13, if_neg q18, if_pos q28, if_neg q33])
          · refine r_iconst (μ := mX1_isOf) (pc := 36) (v := nI 1) dX1_isOf_36 rfl ?_
            refine r_goto (μ := mX1_isOf) (pc := 37) (tgt := 41) dX1_isOf_37 (by decide) ?_
            exact J13 _ (by first | (rw [if_neg q13, if_neg q18, if_pos q28, if_pos q33]; done) | simp only [if_neg q13, if_neg q18, if_pos q28, if_pos q33])
      · refine r_iload_n (μ := mX1_isOf) (pc := 21) dX1_isOf_21 rfl rfl ?_
        refine r_iconst (μ := mX1_isOf) (pc := 22) (v := nI 4) dX1_isOf_22 rfl ?_
        refine r_icmp_eq (μ := mX1_isOf) (pc := 23) (tgt := 36) dX1_isOf_23 (by decide) ⟨fun q23 => ?_, fun q23 => ?_⟩
        · refine r_iconst (μ := mX1_isOf) (pc := 36) (v := nI 1) dX1_isOf_36 rfl ?_
          refine r_goto (μ := mX1_isOf) (pc := 37) (tgt := 41) dX1_isOf_37 (by decide) ?_
          exact J13 _ (by first | (rw [if_neg q13, if_pos q18, if_pos q23]; done) | simp only [if_neg q13, if_pos q18, if_pos q23])
        · refine r_iload_n (μ := mX1_isOf) (pc := 26) dX1_isOf_26 rfl rfl ?_
          refine r_iconst (μ := mX1_isOf) (pc := 27) (v := nI 2) dX1_isOf_27 rfl ?_
          refine r_icmp_ne (μ := mX1_isOf) (pc := 28) (tgt := 40) dX1_isOf_28 (by decide) ⟨fun q28 => ?_, fun q28 => ?_⟩
          · refine r_iconst (μ := mX1_isOf) (pc := 40) (v := nI 0) dX1_isOf_40 rfl ?_
            exact J13 _ (by first | (rw [if_neg q13, if_pos q18, if_neg q23, if_neg q28]; done) | simp only [if_neg q13, if_pos q18, if_neg q23, if_neg q28])
          · refine r_iload_n (μ := mX1_isOf) (pc := 31) dX1_isOf_31 rfl rfl ?_
            refine r_iconst (μ := mX1_isOf) (pc := 32) (v := nI 5) dX1_isOf_32 rfl ?_
            refine r_icmp_ne (μ := mX1_isOf) (pc := 33) (tgt := 40) dX1_isOf_33 (by decide) ⟨fun q33 => ?_, fun q33 => ?_⟩
            · refine r_iconst (μ := mX1_isOf) (pc := 40) (v := nI 0) dX1_isOf_40 rfl ?_
              exact J13 _ (by first | (rw [if_neg q13, if_pos q18, if_neg q23, if_pos q28, if_neg q33]; done) | simp only [if_neg q13, if_pos q18, if_neg q23, if_pos q28, if_neg q33])
            · refine r_iconst (μ := mX1_isOf) (pc := 36) (v := nI 1) dX1_isOf_36 rfl ?_
              refine r_goto (μ := mX1_isOf) (pc := 37) (tgt := 41) dX1_isOf_37 (by decide) ?_
              exact J13 _ (by first | (rw [if_neg q13, if_pos q18, if_neg q23, if_pos q28, if_pos q33]; done) | simp only [if_neg q13, if_pos q18, if_neg q23, if_pos q28, if_pos q33])

set_option maxRecDepth 20000 in
theorem bX1_ladies_0 {G : Gl} {l : Launch} {d : Nat} {S : Sg} {P : Int32 → Sg → Prop} (L0 : Nat) (hL0 : LandAt L0)
    (h : Ev G l mX1_ladies (d + 1) 4 [some (.ref L0), some (.int (nI 0)), some (.int (nI 0))] [] S (QI P)) :
    Ct G l mX1_ladies (d + 1) [.ref L0] S (QI P) := by
  show Ev G l mX1_ladies (d + 1) 0 [some (.ref L0), none, none] [] S (QI P)
  refine r_iconst (μ := mX1_ladies) (pc := 0) (v := nI 0) dX1_ladies_0 rfl ?_
  refine r_istore_n (μ := mX1_ladies) (pc := 1) (ls' := [some (.ref L0), some (.int (nI 0)), none]) dX1_ladies_1 rfl (Nat.le_of_ble_eq_true rfl) rfl rfl ?_
  refine r_iconst (μ := mX1_ladies) (pc := 2) (v := nI 0) dX1_ladies_2 rfl ?_
  refine r_istore_n (μ := mX1_ladies) (pc := 3) (ls' := [some (.ref L0), some (.int (nI 0)), some (.int (nI 0))]) dX1_ladies_3 rfl (Nat.le_of_ble_eq_true rfl) rfl rfl ?_
  exact h

set_option maxRecDepth 20000 in
theorem bX1_ladies_4 {G : Gl} {l : Launch} {d : Nat} {S : Sg} {P : Int32 → Sg → Prop} (L0 : Nat) (hL0 : LandAt L0) (i1 : Int32) (i2 : Int32)
    (h : ((S.1 L0 8) ≤ i2 → P i1 S) ∧ (¬ ((S.1 L0 8) ≤ i2) → Ct G l mX1_isOf d [.ref L0, .int i2, .int (nI 2)] S (QI (fun r15 T15 => ∀ x18 : Int32, x18 = (if r15 = (nI 0) then i1 else (i1 + (nI 1))) → (Ev G l mX1_ladies (d + 1) 4 [some (.ref L0), some (.int x18), some (.int (i2 + (nI 1)))] [] T15 (QI P)))))) :
    Ev G l mX1_ladies (d + 1) 4 [some (.ref L0), some (.int i1), some (.int i2)] [] S (QI P) := by
  show Ev G l mX1_ladies (d + 1) 4 [some (.ref L0), some (.int i1), some (.int i2)] [] S (QI P)
  refine r_iload_n (μ := mX1_ladies) (pc := 4) dX1_ladies_4 rfl rfl ?_
  refine r_aload_n (μ := mX1_ladies) (pc := 5) dX1_ladies_5 rfl rfl ?_
  refine g_I (μ := mX1_ladies) (pc := 6) fX1_36 dX1_ladies_6 (la_kd hL0) ?_
  refine r_icmp_ge (μ := mX1_ladies) (pc := 9) (tgt := 30) dX1_ladies_9 (by decide) ⟨fun q9 => ?_, fun q9 => ?_⟩
  · have h := h.1 q9
    refine r_iload_n (μ := mX1_ladies) (pc := 30) dX1_ladies_30 rfl rfl ?_
    exact r_iret (μ := mX1_ladies) (pc := 31) dX1_ladies_31 rfl h
  · have h := h.2 q9
    refine r_aload_n (μ := mX1_ladies) (pc := 12) dX1_ladies_12 rfl rfl ?_
    refine r_iload_n (μ := mX1_ladies) (pc := 13) dX1_ladies_13 rfl rfl ?_
    refine r_iconst (μ := mX1_ladies) (pc := 14) (v := nI 2) dX1_ladies_14 rfl ?_
    refine r_callV (μ := mX1_ladies) (pc := 15) (as := [.int i2, .int (nI 2)]) 1 cX1_79 dX1_ladies_15 rfl (la_kd hL0) (Nat.le_of_ble_eq_true rfl) rfl okX1_isOf (Nat.lt_succ_self d) (cat8 (n := 0) rfl (by decide)) rfl h (k_I (fun r15 T15 h => ?_))
    have J18 : ∀ x18 : Int32, x18 = (if r15 = (nI 0) then i1 else (i1 + (nI 1))) → Ev G l mX1_ladies (d + 1) 24 [some (.ref L0), some (.int x18), some (.int i2)] [] T15 (QI P) := by
      intro x18 e18
      have h := h x18 e18
      refine r_iinc (μ := mX1_ladies) (pc := 24) (y := nI 1) (ls' := [some (.ref L0), some (.int x18), some (.int (i2 + (nI 1)))]) dX1_ladies_24 rfl rfl (Nat.le_of_ble_eq_true rfl) rfl rfl ?_
      refine r_goto (μ := mX1_ladies) (pc := 27) (tgt := 4) dX1_ladies_27 (by decide) ?_
      exact h
    refine r_if_eq (μ := mX1_ladies) (pc := 18) (tgt := 24) dX1_ladies_18 (by decide) ⟨fun q18 => ?_, fun q18 => ?_⟩
    · exact J18 _ (by first | (rw [if_pos q18]; done) | simp only [if_pos q18])
    · refine r_iinc (μ := mX1_ladies) (pc := 21) (y := nI 1) (ls' := [some (.ref L0), some (.int (i1 + (nI 1))), some (.int i2)]) dX1_ladies_21 rfl rfl (Nat.le_of_ble_eq_true rfl) rfl rfl ?_
      exact J18 _ (by first | (rw [if_neg q18]; done) | simp only [if_neg q18])

set_option maxRecDepth 20000 in
theorem bX1_votes_0 {G : Gl} {l : Launch} {d : Nat} {S : Sg} {P : Int32 → Sg → Prop} (L0 : Nat) (hL0 : LandAt L0) (i1 : Int32)
    (h : ∃ n5 : Nat, ix i1 n5 6 ∧ (((S.1 (L0 + 1) n5) = nI 2 → P ((S.1 (L0 + 4) n5) / (nI 2)) S) ∧ (¬ (S.1 (L0 + 1) n5) = nI 2 → ((S.1 (L0 + 1) n5) = nI 3 → P (nI 1) S) ∧ (¬ (S.1 (L0 + 1) n5) = nI 3 → ((S.1 (L0 + 1) n5) = nI 4 → P ((S.1 (L0 + 4) n5) * (nI 2)) S) ∧ (¬ (S.1 (L0 + 1) n5) = nI 4 → ((S.1 (L0 + 1) n5) = nI 5 → P (((S.1 (L0 + 4) n5) / (nI 2)) + (nI 1)) S) ∧ (¬ (S.1 (L0 + 1) n5) = nI 5 → P (S.1 (L0 + 4) n5) S)))))) :
    Ct G l mX1_votes (d + 1) [.ref L0, .int i1] S (QI P) := by
  show Ev G l mX1_votes (d + 1) 0 [some (.ref L0), some (.int i1)] [] S (QI P)
  refine r_aload_n (μ := mX1_votes) (pc := 0) dX1_votes_0 rfl rfl ?_
  refine g_R (μ := mX1_votes) (pc := 1) (k' := L0 + 1) fX1_39 dX1_votes_1 (la_kd hL0) (la_rf9 hL0) ?_
  refine r_iload_n (μ := mX1_votes) (pc := 4) dX1_votes_4 rfl rfl ?_
  obtain ⟨n5, hx5, h⟩ := h
  refine r_iald (μ := mX1_votes) (pc := 5) dX1_votes_5 (la_k1 hL0) (ix_ln hx5 (la_l1 hL0)) ?_
  refine r_ts (μ := mX1_votes) (pc := 6) (td := 67) [(nI 2, 36), (nI 3, 65), (nI 4, 56), (nI 5, 45)] dX1_votes_6 rfl rfl rfl rfl ?_
  refine ⟨fun q6 => ?_, fun q6 => ?_⟩
  · have h := h.1 q6
    refine r_aload_n (μ := mX1_votes) (pc := 36) dX1_votes_36 rfl rfl ?_
    refine g_R (μ := mX1_votes) (pc := 37) (k' := L0 + 4) fX1_49 dX1_votes_37 (la_kd hL0) (la_rf12 hL0) ?_
    refine r_iload_n (μ := mX1_votes) (pc := 40) dX1_votes_40 rfl rfl ?_
    refine r_iald (μ := mX1_votes) (pc := 41) dX1_votes_41 (la_k4 hL0) (ix_ln hx5 (la_l4 hL0)) ?_
    refine r_iconst (μ := mX1_votes) (pc := 42) (v := nI 2) dX1_votes_42 rfl ?_
    refine r_idiv (μ := mX1_votes) (pc := 43) dX1_votes_43 (by decide) ?_
    exact r_iret (μ := mX1_votes) (pc := 44) dX1_votes_44 rfl h
  have h := h.2 q6
  refine ⟨fun q6 => ?_, fun q6 => ?_⟩
  · have h := h.1 q6
    refine r_iconst (μ := mX1_votes) (pc := 65) (v := nI 1) dX1_votes_65 rfl ?_
    exact r_iret (μ := mX1_votes) (pc := 66) dX1_votes_66 rfl h
  have h := h.2 q6
  refine ⟨fun q6 => ?_, fun q6 => ?_⟩
  · have h := h.1 q6
    refine r_aload_n (μ := mX1_votes) (pc := 56) dX1_votes_56 rfl rfl ?_
    refine g_R (μ := mX1_votes) (pc := 57) (k' := L0 + 4) fX1_49 dX1_votes_57 (la_kd hL0) (la_rf12 hL0) ?_
    refine r_iload_n (μ := mX1_votes) (pc := 60) dX1_votes_60 rfl rfl ?_
    refine r_iald (μ := mX1_votes) (pc := 61) dX1_votes_61 (la_k4 hL0) (ix_ln hx5 (la_l4 hL0)) ?_
    refine r_iconst (μ := mX1_votes) (pc := 62) (v := nI 2) dX1_votes_62 rfl ?_
    refine r_imul (μ := mX1_votes) (pc := 63) dX1_votes_63 ?_
    exact r_iret (μ := mX1_votes) (pc := 64) dX1_votes_64 rfl h
  have h := h.2 q6
  refine ⟨fun q6 => ?_, fun q6 => ?_⟩
  · have h := h.1 q6
    refine r_aload_n (μ := mX1_votes) (pc := 45) dX1_votes_45 rfl rfl ?_
    refine g_R (μ := mX1_votes) (pc := 46) (k' := L0 + 4) fX1_49 dX1_votes_46 (la_kd hL0) (la_rf12 hL0) ?_
    refine r_iload_n (μ := mX1_votes) (pc := 49) dX1_votes_49 rfl rfl ?_
    refine r_iald (μ := mX1_votes) (pc := 50) dX1_votes_50 (la_k4 hL0) (ix_ln hx5 (la_l4 hL0)) ?_
    refine r_iconst (μ := mX1_votes) (pc := 51) (v := nI 2) dX1_votes_51 rfl ?_
    refine r_idiv (μ := mX1_votes) (pc := 52) dX1_votes_52 (by decide) ?_
    refine r_iconst (μ := mX1_votes) (pc := 53) (v := nI 1) dX1_votes_53 rfl ?_
    refine r_iadd (μ := mX1_votes) (pc := 54) dX1_votes_54 ?_
    exact r_iret (μ := mX1_votes) (pc := 55) dX1_votes_55 rfl h
  have h := h.2 q6
  refine r_aload_n (μ := mX1_votes) (pc := 67) dX1_votes_67 rfl rfl ?_
  refine g_R (μ := mX1_votes) (pc := 68) (k' := L0 + 4) fX1_49 dX1_votes_68 (la_kd hL0) (la_rf12 hL0) ?_
  refine r_iload_n (μ := mX1_votes) (pc := 71) dX1_votes_71 rfl rfl ?_
  refine r_iald (μ := mX1_votes) (pc := 72) dX1_votes_72 (la_k4 hL0) (ix_ln hx5 (la_l4 hL0)) ?_
  exact r_iret (μ := mX1_votes) (pc := 73) dX1_votes_73 rfl h

set_option maxRecDepth 20000 in
theorem bX1_wouldBelong_0 {G : Gl} {l : Launch} {d : Nat} {S : Sg} {P : Int32 → Sg → Prop} (L0 : Nat) (hL0 : LandAt L0) (i1 : Int32) (i2 : Int32) (i3 : Int32) (i4 : Int32) (i5 : Int32)
    (h : ∀ x3 : Int32, x3 = (if i2 < i4 then (nI 0) else (if i5 ≤ i2 then (nI 0) else (nI 1))) → (∀ x24 : Int32, x24 = (if i3 < (S.1 L0 3) then (nI 0) else (if (S.1 L0 4) ≤ i3 then (nI 0) else (nI 1))) → (∀ x47 : Int32, x47 = (if i2 = (i4 - (nI 1)) then (nI 1) else (if i2 = i5 then (nI 1) else (nI 0))) → ((i1 = nI 1 → P x24 S) ∧ (¬ i1 = nI 1 → (i1 = nI 2 → ∀ x122 : Int32, x122 = (if x3 = (nI 0) then (if x47 = (nI 0) then (nI 0) else (nI 1)) else (nI 1)) → (P x122 S)) ∧ (¬ i1 = nI 2 → (i1 = nI 3 → ∀ x165 : Int32, x165 = (if x3 = (nI 0) then (nI 0) else (if (i5 - i4) < (nI 3) then (nI 0) else (nI 1))) → (P x165 S)) ∧ (¬ i1 = nI 3 → (i1 = nI 4 → ∀ x105 : Int32, x105 = (if x24 = (nI 0) then (nI 0) else (if i2 < i4 then (nI 0) else (nI 1))) → (P x105 S)) ∧ (¬ i1 = nI 4 → (i1 = nI 5 → (¬ x3 = (nI 0) → Ev G l mX1_wouldBelong (d + 1) 146 [some (.ref L0), some (.int i1), some (.int i2), some (.int i3), some (.int i4), some (.int i5), some (.int x3), some (.int x24), some (.int x47)] [] S (QI P)) ∧ (x3 = (nI 0) → (x47 = (nI 0) → P (nI 0) S) ∧ (¬ (x47 = (nI 0)) → Ev G l mX1_wouldBelong (d + 1) 146 [some (.ref L0), some (.int i1), some (.int i2), some (.int i3), some (.int i4), some (.int i5), some (.int x3), some (.int x24), some (.int x47)] [] S (QI P)))) ∧ (¬ i1 = nI 5 → P x3 S))))))))) :
    Ct G l mX1_wouldBelong (d + 1) [.ref L0, .int i1, .int i2, .int i3, .int i4, .int i5] S (QI P) := by
  show Ev G l mX1_wouldBelong (d + 1) 0 [some (.ref L0), some (.int i1), some (.int i2), some (.int i3), some (.int i4), some (.int i5), none, none, none] [] S (QI P)
  refine r_iload (μ := mX1_wouldBelong) (pc := 0) dX1_wouldBelong_0 rfl ?_
  refine r_iload_n (μ := mX1_wouldBelong) (pc := 2) dX1_wouldBelong_2 rfl rfl ?_
  have J3 : ∀ x3 : Int32, x3 = (if i2 < i4 then (nI 0) else (if i5 ≤ i2 then (nI 0) else (nI 1))) → Ev G l mX1_wouldBelong (d + 1) 17 [some (.ref L0), some (.int i1), some (.int i2), some (.int i3), some (.int i4), some (.int i5), none, none, none] [.int x3] S (QI P) := by
    intro x3 e3
    have h := h x3 e3
    refine r_istore (μ := mX1_wouldBelong) (pc := 17) (ls' := [some (.ref L0), some (.int i1), some (.int i2), some (.int i3), some (.int i4), some (.int i5), some (.int x3), none, none]) dX1_wouldBelong_17 (Nat.le_of_ble_eq_true rfl) rfl rfl ?_
    refine r_aload_n (μ := mX1_wouldBelong) (pc := 19) dX1_wouldBelong_19 rfl rfl ?_
    refine g_I (μ := mX1_wouldBelong) (pc := 20) fX1_21 dX1_wouldBelong_20 (la_kd hL0) ?_
    refine r_iload_n (μ := mX1_wouldBelong) (pc := 23) dX1_wouldBelong_23 rfl rfl ?_
    have J24 : ∀ x24 : Int32, x24 = (if i3 < (S.1 L0 3) then (nI 0) else (if (S.1 L0 4) ≤ i3 then (nI 0) else (nI 1))) → Ev G l mX1_wouldBelong (d + 1) 40 [some (.ref L0), some (.int i1), some (.int i2), some (.int i3), some (.int i4), some (.int i5), some (.int x3), none, none] [.int x24] S (QI P) := by
      intro x24 e24
      have h := h x24 e24
      refine r_istore (μ := mX1_wouldBelong) (pc := 40) (ls' := [some (.ref L0), some (.int i1), some (.int i2), some (.int i3), some (.int i4), some (.int i5), some (.int x3), some (.int x24), none]) dX1_wouldBelong_40 (Nat.le_of_ble_eq_true rfl) rfl rfl ?_
      refine r_iload_n (μ := mX1_wouldBelong) (pc := 42) dX1_wouldBelong_42 rfl rfl ?_
      refine r_iload (μ := mX1_wouldBelong) (pc := 43) dX1_wouldBelong_43 rfl ?_
      refine r_iconst (μ := mX1_wouldBelong) (pc := 45) (v := nI 1) dX1_wouldBelong_45 rfl ?_
      refine r_isub (μ := mX1_wouldBelong) (pc := 46) dX1_wouldBelong_46 ?_
      have J47 : ∀ x47 : Int32, x47 = (if i2 = (i4 - (nI 1)) then (nI 1) else (if i2 = i5 then (nI 1) else (nI 0))) → Ev G l mX1_wouldBelong (d + 1) 61 [some (.ref L0), some (.int i1), some (.int i2), some (.int i3), some (.int i4), some (.int i5), some (.int x3), some (.int x24), none] [.int x47] S (QI P) := by
        intro x47 e47
        have h := h x47 e47
        refine r_istore (μ := mX1_wouldBelong) (pc := 61) (ls' := [some (.ref L0), some (.int i1), some (.int i2), some (.int i3), some (.int i4), some (.int i5), some (.int x3), some (.int x24), some (.int x47)]) dX1_wouldBelong_61 (Nat.le_of_ble_eq_true rfl) rfl rfl ?_
        refine r_iload_n (μ := mX1_wouldBelong) (pc := 63) dX1_wouldBelong_63 rfl rfl ?_
        refine r_ts (μ := mX1_wouldBelong) (pc := 64) (td := 183) [(nI 1, 100), (nI 2, 120), (nI 3, 163), (nI 4, 103), (nI 5, 136)] dX1_wouldBelong_64 rfl rfl rfl rfl ?_
        refine ⟨fun q64 => ?_, fun q64 => ?_⟩
        · have h := h.1 q64
          refine r_iload (μ := mX1_wouldBelong) (pc := 100) dX1_wouldBelong_100 rfl ?_
          exact r_zret (μ := mX1_wouldBelong) (pc := 102) dX1_wouldBelong_102 rfl (by rw [e24]; exact (zb_if rfl (zb_if rfl rfl))) h
        have h := h.2 q64
        refine ⟨fun q64 => ?_, fun q64 => ?_⟩
        · have h := h.1 q64
          refine r_iload (μ := mX1_wouldBelong) (pc := 120) dX1_wouldBelong_120 rfl ?_
          have J122 : ∀ x122 : Int32, x122 = (if x3 = (nI 0) then (if x47 = (nI 0) then (nI 0) else (nI 1)) else (nI 1)) → Ev G l mX1_wouldBelong (d + 1) 135 [some (.ref L0), some (.int i1), some (.int i2), some (.int i3), some (.int i4), some (.int i5), some (.int x3), some (.int x24), some (.int x47)] [.int x122] S (QI P) := by
            intro x122 e122
            have h := h x122 e122
            exact r_zret (μ := mX1_wouldBelong) (pc := 135) dX1_wouldBelong_135 rfl (by rw [e122]; exact (zb_if (zb_if rfl rfl) rfl)) h
          refine r_if_ne (μ := mX1_wouldBelong) (pc := 122) (tgt := 130) dX1_wouldBelong_122 (by decide) ⟨fun q122 => ?_, fun q122 => ?_⟩
          · refine r_iconst (μ := mX1_wouldBelong) (pc := 130) (v := nI 1) dX1_wouldBelong_130 rfl ?_
            refine r_goto (μ := mX1_wouldBelong) (pc := 131) (tgt := 135) dX1_wouldBelong_131 (by decide) ?_
            exact J122 _ (by first | (rw [if_neg q122]; done) | simp only [if_neg q122])
          · refine r_iload (μ := mX1_wouldBelong) (pc := 125) dX1_wouldBelong_125 rfl ?_
            refine r_if_eq (μ := mX1_wouldBelong) (pc := 127) (tgt := 134) dX1_wouldBelong_127 (by decide) ⟨fun q127 => ?_, fun q127 => ?_⟩
            · refine r_iconst (μ := mX1_wouldBelong) (pc := 134) (v := nI 0) dX1_wouldBelong_134 rfl ?_
              exact J122 _ (by first | (rw [if_pos q122, if_pos q127]; done) | simp only [if_pos q122, if_pos q127])
            · refine r_iconst (μ := mX1_wouldBelong) (pc := 130) (v := nI 1) dX1_wouldBelong_130 rfl ?_
              refine r_goto (μ := mX1_wouldBelong) (pc := 131) (tgt := 135) dX1_wouldBelong_131 (by decide) ?_
              exact J122 _ (by first | (rw [if_pos q122, if_neg q127]; done) | simp only [if_pos q122, if_neg q127])
        have h := h.2 q64
        refine ⟨fun q64 => ?_, fun q64 => ?_⟩
        · have h := h.1 q64
          refine r_iload (μ := mX1_wouldBelong) (pc := 163) dX1_wouldBelong_163 rfl ?_
          have J165 : ∀ x165 : Int32, x165 = (if x3 = (nI 0) then (nI 0) else (if (i5 - i4) < (nI 3) then (nI 0) else (nI 1))) → Ev G l mX1_wouldBelong (d + 1) 182 [some (.ref L0), some (.int i1), some (.int i2), some (.int i3), some (.int i4), some (.int i5), some (.int x3), some (.int x24), some (.int x47)] [.int x165] S (QI P) := by
            intro x165 e165
            have h := h x165 e165
            exact r_zret (μ := mX1_wouldBelong) (pc := 182) dX1_wouldBelong_182 rfl (by rw [e165]; exact (zb_if rfl (zb_if rfl rfl))) h
          refine r_if_eq (μ := mX1_wouldBelong) (pc := 165) (tgt := 181) dX1_wouldBelong_165 (by decide) ⟨fun q165 => ?_, fun q165 => ?_⟩
          · refine r_iconst (μ := mX1_wouldBelong) (pc := 181) (v := nI 0) dX1_wouldBelong_181 rfl ?_
            exact J165 _ (by first | (rw [if_pos q165]; done) | simp only [if_pos q165])
          · refine r_iload (μ := mX1_wouldBelong) (pc := 168) dX1_wouldBelong_168 rfl ?_
            refine r_iload (μ := mX1_wouldBelong) (pc := 170) dX1_wouldBelong_170 rfl ?_
            refine r_isub (μ := mX1_wouldBelong) (pc := 172) dX1_wouldBelong_172 ?_
            refine r_iconst (μ := mX1_wouldBelong) (pc := 173) (v := nI 3) dX1_wouldBelong_173 rfl ?_
            refine r_icmp_lt (μ := mX1_wouldBelong) (pc := 174) (tgt := 181) dX1_wouldBelong_174 (by decide) ⟨fun q174 => ?_, fun q174 => ?_⟩
            · refine r_iconst (μ := mX1_wouldBelong) (pc := 181) (v := nI 0) dX1_wouldBelong_181 rfl ?_
              exact J165 _ (by first | (rw [if_neg q165, if_pos q174]; done) | simp only [if_neg q165, if_pos q174])
            · refine r_iconst (μ := mX1_wouldBelong) (pc := 177) (v := nI 1) dX1_wouldBelong_177 rfl ?_
              refine r_goto (μ := mX1_wouldBelong) (pc := 178) (tgt := 182) dX1_wouldBelong_178 (by decide) ?_
              exact J165 _ (by first | (rw [if_neg q165, if_neg q174]; done) | simp only [if_neg q165, if_neg q174])
        have h := h.2 q64
        refine ⟨fun q64 => ?_, fun q64 => ?_⟩
        · have h := h.1 q64
          refine r_iload (μ := mX1_wouldBelong) (pc := 103) dX1_wouldBelong_103 rfl ?_
          have J105 : ∀ x105 : Int32, x105 = (if x24 = (nI 0) then (nI 0) else (if i2 < i4 then (nI 0) else (nI 1))) → Ev G l mX1_wouldBelong (d + 1) 119 [some (.ref L0), some (.int i1), some (.int i2), some (.int i3), some (.int i4), some (.int i5), some (.int x3), some (.int x24), some (.int x47)] [.int x105] S (QI P) := by
            intro x105 e105
            have h := h x105 e105
            exact r_zret (μ := mX1_wouldBelong) (pc := 119) dX1_wouldBelong_119 rfl (by rw [e105]; exact (zb_if rfl (zb_if rfl rfl))) h
          refine r_if_eq (μ := mX1_wouldBelong) (pc := 105) (tgt := 118) dX1_wouldBelong_105 (by decide) ⟨fun q105 => ?_, fun q105 => ?_⟩
          · refine r_iconst (μ := mX1_wouldBelong) (pc := 118) (v := nI 0) dX1_wouldBelong_118 rfl ?_
            exact J105 _ (by first | (rw [if_pos q105]; done) | simp only [if_pos q105])
          · refine r_iload_n (μ := mX1_wouldBelong) (pc := 108) dX1_wouldBelong_108 rfl rfl ?_
            refine r_iload (μ := mX1_wouldBelong) (pc := 109) dX1_wouldBelong_109 rfl ?_
            refine r_icmp_lt (μ := mX1_wouldBelong) (pc := 111) (tgt := 118) dX1_wouldBelong_111 (by decide) ⟨fun q111 => ?_, fun q111 => ?_⟩
            · refine r_iconst (μ := mX1_wouldBelong) (pc := 118) (v := nI 0) dX1_wouldBelong_118 rfl ?_
              exact J105 _ (by first | (rw [if_neg q105, if_pos q111]; done) | simp only [if_neg q105, if_pos q111])
            · refine r_iconst (μ := mX1_wouldBelong) (pc := 114) (v := nI 1) dX1_wouldBelong_114 rfl ?_
              refine r_goto (μ := mX1_wouldBelong) (pc := 115) (tgt := 119) dX1_wouldBelong_115 (by decide) ?_
              exact J105 _ (by first | (rw [if_neg q105, if_neg q111]; done) | simp only [if_neg q105, if_neg q111])
        have h := h.2 q64
        refine ⟨fun q64 => ?_, fun q64 => ?_⟩
        · have h := h.1 q64
          refine r_iload (μ := mX1_wouldBelong) (pc := 136) dX1_wouldBelong_136 rfl ?_
          refine r_if_ne (μ := mX1_wouldBelong) (pc := 138) (tgt := 146) dX1_wouldBelong_138 (by decide) ⟨fun q138 => ?_, fun q138 => ?_⟩
          · have h := h.1 q138
            exact h
          · have h := h.2 q138
            refine r_iload (μ := mX1_wouldBelong) (pc := 141) dX1_wouldBelong_141 rfl ?_
            refine r_if_eq (μ := mX1_wouldBelong) (pc := 143) (tgt := 161) dX1_wouldBelong_143 (by decide) ⟨fun q143 => ?_, fun q143 => ?_⟩
            · have h := h.1 q143
              refine r_iconst (μ := mX1_wouldBelong) (pc := 161) (v := nI 0) dX1_wouldBelong_161 rfl ?_
              exact r_zret (μ := mX1_wouldBelong) (pc := 162) dX1_wouldBelong_162 rfl rfl h
            · have h := h.2 q143
              exact h
        have h := h.2 q64
        refine r_iload (μ := mX1_wouldBelong) (pc := 183) dX1_wouldBelong_183 rfl ?_
        exact r_zret (μ := mX1_wouldBelong) (pc := 185) dX1_wouldBelong_185 rfl (by rw [e3]; exact (zb_if rfl (zb_if rfl rfl))) h
      refine r_icmp_eq (μ := mX1_wouldBelong) (pc := 47) (tgt := 56) dX1_wouldBelong_47 (by decide) ⟨fun q47 => ?_, fun q47 => ?_⟩
      · refine r_iconst (μ := mX1_wouldBelong) (pc := 56) (v := nI 1) dX1_wouldBelong_56 rfl ?_
        refine r_goto (μ := mX1_wouldBelong) (pc := 57) (tgt := 61) dX1_wouldBelong_57 (by decide) ?_
        exact J47 _ (by first | (rw [if_pos q47]; done) | simp only [if_pos q47])
      · refine r_iload_n (μ := mX1_wouldBelong) (pc := 50) dX1_wouldBelong_50 rfl rfl ?_
        refine r_iload (μ := mX1_wouldBelong) (pc := 51) dX1_wouldBelong_51 rfl ?_
        refine r_icmp_ne (μ := mX1_wouldBelong) (pc := 53) (tgt := 60) dX1_wouldBelong_53 (by decide) ⟨fun q53 => ?_, fun q53 => ?_⟩
        · refine r_iconst (μ := mX1_wouldBelong) (pc := 60) (v := nI 0) dX1_wouldBelong_60 rfl ?_
          exact J47 _ (by first | (rw [if_neg q47, if_neg q53]; done) | simp only [if_neg q47, if_neg q53])
        · refine r_iconst (μ := mX1_wouldBelong) (pc := 56) (v := nI 1) dX1_wouldBelong_56 rfl ?_
          refine r_goto (μ := mX1_wouldBelong) (pc := 57) (tgt := 61) dX1_wouldBelong_57 (by decide) ?_
          exact J47 _ (by first | (rw [if_neg q47, if_pos q53]; done) | simp only [if_neg q47, if_pos q53])
    refine r_icmp_gt (μ := mX1_wouldBelong) (pc := 24) (tgt := 39) dX1_wouldBelong_24 (by decide) ⟨fun q24 => ?_, fun q24 => ?_⟩
    · refine r_iconst (μ := mX1_wouldBelong) (pc := 39) (v := nI 0) dX1_wouldBelong_39 rfl ?_
      exact J24 _ (by first | (rw [if_pos q24]; done) | simp only [if_pos q24])
    · refine r_iload_n (μ := mX1_wouldBelong) (pc := 27) dX1_wouldBelong_27 rfl rfl ?_
      refine r_aload_n (μ := mX1_wouldBelong) (pc := 28) dX1_wouldBelong_28 rfl rfl ?_
      refine g_I (μ := mX1_wouldBelong) (pc := 29) fX1_24 dX1_wouldBelong_29 (la_kd hL0) ?_
      refine r_icmp_ge (μ := mX1_wouldBelong) (pc := 32) (tgt := 39) dX1_wouldBelong_32 (by decide) ⟨fun q32 => ?_, fun q32 => ?_⟩
      · refine r_iconst (μ := mX1_wouldBelong) (pc := 39) (v := nI 0) dX1_wouldBelong_39 rfl ?_
        exact J24 _ (by first | (rw [if_neg q24, if_pos q32]; done) | simp only [if_neg q24, if_pos q32])
      · refine r_iconst (μ := mX1_wouldBelong) (pc := 35) (v := nI 1) dX1_wouldBelong_35 rfl ?_
        refine r_goto (μ := mX1_wouldBelong) (pc := 36) (tgt := 40) dX1_wouldBelong_36 (by decide) ?_
        exact J24 _ (by first | (rw [if_neg q24, if_neg q32]; done) | simp only [if_neg q24, if_neg q32])
  refine r_icmp_gt (μ := mX1_wouldBelong) (pc := 3) (tgt := 16) dX1_wouldBelong_3 (by decide) ⟨fun q3 => ?_, fun q3 => ?_⟩
  · refine r_iconst (μ := mX1_wouldBelong) (pc := 16) (v := nI 0) dX1_wouldBelong_16 rfl ?_
    exact J3 _ (by first | (rw [if_pos q3]; done) | simp only [if_pos q3])
  · refine r_iload_n (μ := mX1_wouldBelong) (pc := 6) dX1_wouldBelong_6 rfl rfl ?_
    refine r_iload (μ := mX1_wouldBelong) (pc := 7) dX1_wouldBelong_7 rfl ?_
    refine r_icmp_ge (μ := mX1_wouldBelong) (pc := 9) (tgt := 16) dX1_wouldBelong_9 (by decide) ⟨fun q9 => ?_, fun q9 => ?_⟩
    · refine r_iconst (μ := mX1_wouldBelong) (pc := 16) (v := nI 0) dX1_wouldBelong_16 rfl ?_
      exact J3 _ (by first | (rw [if_neg q3, if_pos q9]; done) | simp only [if_neg q3, if_pos q9])
    · refine r_iconst (μ := mX1_wouldBelong) (pc := 12) (v := nI 1) dX1_wouldBelong_12 rfl ?_
      refine r_goto (μ := mX1_wouldBelong) (pc := 13) (tgt := 17) dX1_wouldBelong_13 (by decide) ?_
      exact J3 _ (by first | (rw [if_neg q3, if_neg q9]; done) | simp only [if_neg q3, if_neg q9])

set_option maxRecDepth 20000 in
theorem bX1_wouldBelong_146 {G : Gl} {l : Launch} {d : Nat} {S : Sg} {P : Int32 → Sg → Prop} (L0 : Nat) (hL0 : LandAt L0) (i1 : Int32) (i2 : Int32) (i3 : Int32) (i4 : Int32) (i5 : Int32) (i6 : Int32) (i7 : Int32) (i8 : Int32)
    (h : Ct G l mX4_middleOf d [.int i4, .int i5] S (QI (fun r151 T151 => ∀ x154 : Int32, x154 = (if i2 = r151 then (nI 1) else (nI 0)) → (P x154 T151)))) :
    Ev G l mX1_wouldBelong (d + 1) 146 [some (.ref L0), some (.int i1), some (.int i2), some (.int i3), some (.int i4), some (.int i5), some (.int i6), some (.int i7), some (.int i8)] [] S (QI P) := by
  show Ev G l mX1_wouldBelong (d + 1) 146 [some (.ref L0), some (.int i1), some (.int i2), some (.int i3), some (.int i4), some (.int i5), some (.int i6), some (.int i7), some (.int i8)] [] S (QI P)
  refine r_iload_n (μ := mX1_wouldBelong) (pc := 146) dX1_wouldBelong_146 rfl rfl ?_
  refine r_iload (μ := mX1_wouldBelong) (pc := 147) dX1_wouldBelong_147 rfl ?_
  refine r_iload (μ := mX1_wouldBelong) (pc := 149) dX1_wouldBelong_149 rfl ?_
  refine r_callN (μ := mX1_wouldBelong) (pc := 151) (as := [.int i4, .int i5]) cX1_83 dX1_wouldBelong_151 rfl okX4_middleOf (Nat.lt_succ_self d) (cat8 (n := 1) rfl (by decide)) rfl h (k_I (fun r151 T151 h => ?_))
  have J154 : ∀ x154 : Int32, x154 = (if i2 = r151 then (nI 1) else (nI 0)) → Ev G l mX1_wouldBelong (d + 1) 162 [some (.ref L0), some (.int i1), some (.int i2), some (.int i3), some (.int i4), some (.int i5), some (.int i6), some (.int i7), some (.int i8)] [.int x154] T151 (QI P) := by
    intro x154 e154
    have h := h x154 e154
    exact r_zret (μ := mX1_wouldBelong) (pc := 162) dX1_wouldBelong_162 rfl (by rw [e154]; exact (zb_if rfl rfl)) h
  refine r_icmp_ne (μ := mX1_wouldBelong) (pc := 154) (tgt := 161) dX1_wouldBelong_154 (by decide) ⟨fun q154 => ?_, fun q154 => ?_⟩
  · refine r_iconst (μ := mX1_wouldBelong) (pc := 161) (v := nI 0) dX1_wouldBelong_161 rfl ?_
    exact J154 _ (by first | (rw [if_neg q154]; done) | simp only [if_neg q154])
  · refine r_iconst (μ := mX1_wouldBelong) (pc := 157) (v := nI 1) dX1_wouldBelong_157 rfl ?_
    refine r_goto (μ := mX1_wouldBelong) (pc := 158) (tgt := 162) dX1_wouldBelong_158 (by decide) ?_
    exact J154 _ (by first | (rw [if_pos q154]; done) | simp only [if_pos q154])

set_option maxRecDepth 20000 in
theorem bX1_belongs_0 {G : Gl} {l : Launch} {d : Nat} {S : Sg} {P : Int32 → Sg → Prop} (L0 : Nat) (hL0 : LandAt L0) (i1 : Int32)
    (h : ∃ n6 : Nat, ix i1 n6 6 ∧ (Ct G l mX1_wouldBelong d [.ref L0, .int (S.1 (L0 + 1) n6), .int (S.1 (L0 + 2) n6), .int (S.1 (L0 + 3) n6), .int (S.1 L0 1), .int (S.1 L0 2)] S (QI (fun r27 T27 => zb r27 ∧ P r27 T27)))) :
    Ct G l mX1_belongs (d + 1) [.ref L0, .int i1] S (QI P) := by
  show Ev G l mX1_belongs (d + 1) 0 [some (.ref L0), some (.int i1)] [] S (QI P)
  refine r_aload_n (μ := mX1_belongs) (pc := 0) dX1_belongs_0 rfl rfl ?_
  refine r_aload_n (μ := mX1_belongs) (pc := 1) dX1_belongs_1 rfl rfl ?_
  refine g_R (μ := mX1_belongs) (pc := 2) (k' := L0 + 1) fX1_39 dX1_belongs_2 (la_kd hL0) (la_rf9 hL0) ?_
  refine r_iload_n (μ := mX1_belongs) (pc := 5) dX1_belongs_5 rfl rfl ?_
  obtain ⟨n6, hx6, h⟩ := h
  refine r_iald (μ := mX1_belongs) (pc := 6) dX1_belongs_6 (la_k1 hL0) (ix_ln hx6 (la_l1 hL0)) ?_
  refine r_aload_n (μ := mX1_belongs) (pc := 7) dX1_belongs_7 rfl rfl ?_
  refine g_R (μ := mX1_belongs) (pc := 8) (k' := L0 + 2) fX1_43 dX1_belongs_8 (la_kd hL0) (la_rf10 hL0) ?_
  refine r_iload_n (μ := mX1_belongs) (pc := 11) dX1_belongs_11 rfl rfl ?_
  refine r_iald (μ := mX1_belongs) (pc := 12) dX1_belongs_12 (la_k2 hL0) (ix_ln hx6 (la_l2 hL0)) ?_
  refine r_aload_n (μ := mX1_belongs) (pc := 13) dX1_belongs_13 rfl rfl ?_
  refine g_R (μ := mX1_belongs) (pc := 14) (k' := L0 + 3) fX1_46 dX1_belongs_14 (la_kd hL0) (la_rf11 hL0) ?_
  refine r_iload_n (μ := mX1_belongs) (pc := 17) dX1_belongs_17 rfl rfl ?_
  refine r_iald (μ := mX1_belongs) (pc := 18) dX1_belongs_18 (la_k3 hL0) (ix_ln hx6 (la_l3 hL0)) ?_
  refine r_aload_n (μ := mX1_belongs) (pc := 19) dX1_belongs_19 rfl rfl ?_
  refine g_I (μ := mX1_belongs) (pc := 20) fX1_15 dX1_belongs_20 (la_kd hL0) ?_
  refine r_aload_n (μ := mX1_belongs) (pc := 23) dX1_belongs_23 rfl rfl ?_
  refine g_I (μ := mX1_belongs) (pc := 24) fX1_18 dX1_belongs_24 (la_kd hL0) ?_
  refine r_callV (μ := mX1_belongs) (pc := 27) (as := [.int (S.1 (L0 + 1) n6), .int (S.1 (L0 + 2) n6), .int (S.1 (L0 + 3) n6), .int (S.1 L0 1), .int (S.1 L0 2)]) 1 cX1_86 dX1_belongs_27 rfl (la_kd hL0) (Nat.le_of_ble_eq_true rfl) rfl okX1_wouldBelong (Nat.lt_succ_self d) (cat8 (n := 0) rfl (by decide)) rfl h (k_I (fun r27 T27 h => ?_))
  obtain ⟨hb30, h⟩ := h
  exact r_zret (μ := mX1_belongs) (pc := 30) dX1_belongs_30 rfl hb30 h

set_option maxRecDepth 20000 in
theorem bX1_belonging_0 {G : Gl} {l : Launch} {d : Nat} {S : Sg} {P : Int32 → Sg → Prop} (L0 : Nat) (hL0 : LandAt L0) (i1 : Int32) (i2 : Int32)
    (h : Ev G l mX1_belonging (d + 1) 5 [some (.ref L0), some (.int i1), some (.int i2), some (.int (nI 0)), some (.int (nI 0))] [] S (QI P)) :
    Ct G l mX1_belonging (d + 1) [.ref L0, .int i1, .int i2] S (QI P) := by
  show Ev G l mX1_belonging (d + 1) 0 [some (.ref L0), some (.int i1), some (.int i2), none, none] [] S (QI P)
  refine r_iconst (μ := mX1_belonging) (pc := 0) (v := nI 0) dX1_belonging_0 rfl ?_
  refine r_istore_n (μ := mX1_belonging) (pc := 1) (ls' := [some (.ref L0), some (.int i1), some (.int i2), some (.int (nI 0)), none]) dX1_belonging_1 rfl (Nat.le_of_ble_eq_true rfl) rfl rfl ?_
  refine r_iconst (μ := mX1_belonging) (pc := 2) (v := nI 0) dX1_belonging_2 rfl ?_
  refine r_istore (μ := mX1_belonging) (pc := 3) (ls' := [some (.ref L0), some (.int i1), some (.int i2), some (.int (nI 0)), some (.int (nI 0))]) dX1_belonging_3 (Nat.le_of_ble_eq_true rfl) rfl rfl ?_
  exact h

set_option maxRecDepth 20000 in
theorem bX1_belonging_5 {G : Gl} {l : Launch} {d : Nat} {S : Sg} {P : Int32 → Sg → Prop} (L0 : Nat) (hL0 : LandAt L0) (i1 : Int32) (i2 : Int32) (i3 : Int32) (i4 : Int32)
    (h : ((S.1 L0 8) ≤ i4 → P i3 S) ∧ (¬ ((S.1 L0 8) ≤ i4) → ∃ n21 : Nat, ix i4 n21 6 ∧ (Ct G l mX1_wouldBelong d [.ref L0, .int (S.1 (L0 + 1) n21), .int (S.1 (L0 + 2) n21), .int (S.1 (L0 + 3) n21), .int i1, .int i2] S (QI (fun r38 T38 => ∀ x41 : Int32, x41 = (if r38 = (nI 0) then i3 else (i3 ||| ((nI 1) <<< (i4 &&& 31)))) → (Ev G l mX1_belonging (d + 1) 5 [some (.ref L0), some (.int i1), some (.int i2), some (.int x41), some (.int (i4 + (nI 1)))] [] T38 (QI P))))))) :
    Ev G l mX1_belonging (d + 1) 5 [some (.ref L0), some (.int i1), some (.int i2), some (.int i3), some (.int i4)] [] S (QI P) := by
  show Ev G l mX1_belonging (d + 1) 5 [some (.ref L0), some (.int i1), some (.int i2), some (.int i3), some (.int i4)] [] S (QI P)
  refine r_iload (μ := mX1_belonging) (pc := 5) dX1_belonging_5 rfl ?_
  refine r_aload_n (μ := mX1_belonging) (pc := 7) dX1_belonging_7 rfl rfl ?_
  refine g_I (μ := mX1_belonging) (pc := 8) fX1_36 dX1_belonging_8 (la_kd hL0) ?_
  refine r_icmp_ge (μ := mX1_belonging) (pc := 11) (tgt := 57) dX1_belonging_11 (by decide) ⟨fun q11 => ?_, fun q11 => ?_⟩
  · have h := h.1 q11
    refine r_iload_n (μ := mX1_belonging) (pc := 57) dX1_belonging_57 rfl rfl ?_
    exact r_iret (μ := mX1_belonging) (pc := 58) dX1_belonging_58 rfl h
  · have h := h.2 q11
    refine r_aload_n (μ := mX1_belonging) (pc := 14) dX1_belonging_14 rfl rfl ?_
    refine r_aload_n (μ := mX1_belonging) (pc := 15) dX1_belonging_15 rfl rfl ?_
    refine g_R (μ := mX1_belonging) (pc := 16) (k' := L0 + 1) fX1_39 dX1_belonging_16 (la_kd hL0) (la_rf9 hL0) ?_
    refine r_iload (μ := mX1_belonging) (pc := 19) dX1_belonging_19 rfl ?_
    obtain ⟨n21, hx21, h⟩ := h
    refine r_iald (μ := mX1_belonging) (pc := 21) dX1_belonging_21 (la_k1 hL0) (ix_ln hx21 (la_l1 hL0)) ?_
    refine r_aload_n (μ := mX1_belonging) (pc := 22) dX1_belonging_22 rfl rfl ?_
    refine g_R (μ := mX1_belonging) (pc := 23) (k' := L0 + 2) fX1_43 dX1_belonging_23 (la_kd hL0) (la_rf10 hL0) ?_
    refine r_iload (μ := mX1_belonging) (pc := 26) dX1_belonging_26 rfl ?_
    refine r_iald (μ := mX1_belonging) (pc := 28) dX1_belonging_28 (la_k2 hL0) (ix_ln hx21 (la_l2 hL0)) ?_
    refine r_aload_n (μ := mX1_belonging) (pc := 29) dX1_belonging_29 rfl rfl ?_
    refine g_R (μ := mX1_belonging) (pc := 30) (k' := L0 + 3) fX1_46 dX1_belonging_30 (la_kd hL0) (la_rf11 hL0) ?_
    refine r_iload (μ := mX1_belonging) (pc := 33) dX1_belonging_33 rfl ?_
    refine r_iald (μ := mX1_belonging) (pc := 35) dX1_belonging_35 (la_k3 hL0) (ix_ln hx21 (la_l3 hL0)) ?_
    refine r_iload_n (μ := mX1_belonging) (pc := 36) dX1_belonging_36 rfl rfl ?_
    refine r_iload_n (μ := mX1_belonging) (pc := 37) dX1_belonging_37 rfl rfl ?_
    refine r_callV (μ := mX1_belonging) (pc := 38) (as := [.int (S.1 (L0 + 1) n21), .int (S.1 (L0 + 2) n21), .int (S.1 (L0 + 3) n21), .int i1, .int i2]) 1 cX1_86 dX1_belonging_38 rfl (la_kd hL0) (Nat.le_of_ble_eq_true rfl) rfl okX1_wouldBelong (Nat.lt_succ_self d) (cat8 (n := 0) rfl (by decide)) rfl h (k_I (fun r38 T38 h => ?_))
    have J41 : ∀ x41 : Int32, x41 = (if r38 = (nI 0) then i3 else (i3 ||| ((nI 1) <<< (i4 &&& 31)))) → Ev G l mX1_belonging (d + 1) 51 [some (.ref L0), some (.int i1), some (.int i2), some (.int x41), some (.int i4)] [] T38 (QI P) := by
      intro x41 e41
      have h := h x41 e41
      refine r_iinc (μ := mX1_belonging) (pc := 51) (y := nI 1) (ls' := [some (.ref L0), some (.int i1), some (.int i2), some (.int x41), some (.int (i4 + (nI 1)))]) dX1_belonging_51 rfl rfl (Nat.le_of_ble_eq_true rfl) rfl rfl ?_
      refine r_goto (μ := mX1_belonging) (pc := 54) (tgt := 5) dX1_belonging_54 (by decide) ?_
      exact h
    refine r_if_eq (μ := mX1_belonging) (pc := 41) (tgt := 51) dX1_belonging_41 (by decide) ⟨fun q41 => ?_, fun q41 => ?_⟩
    · exact J41 _ (by first | (rw [if_pos q41]; done) | simp only [if_pos q41])
    · refine r_iload_n (μ := mX1_belonging) (pc := 44) dX1_belonging_44 rfl rfl ?_
      refine r_iconst (μ := mX1_belonging) (pc := 45) (v := nI 1) dX1_belonging_45 rfl ?_
      refine r_iload (μ := mX1_belonging) (pc := 46) dX1_belonging_46 rfl ?_
      refine r_ishl (μ := mX1_belonging) (pc := 48) dX1_belonging_48 ?_
      refine r_ior (μ := mX1_belonging) (pc := 49) dX1_belonging_49 ?_
      refine r_istore_n (μ := mX1_belonging) (pc := 50) (ls' := [some (.ref L0), some (.int i1), some (.int i2), some (.int (i3 ||| ((nI 1) <<< (i4 &&& 31)))), some (.int i4)]) dX1_belonging_50 rfl (Nat.le_of_ble_eq_true rfl) rfl rfl ?_
      exact J41 _ (by first | (rw [if_neg q41]; done) | simp only [if_neg q41])

set_option maxRecDepth 20000 in
theorem bX1_votesOf_0 {G : Gl} {l : Launch} {d : Nat} {S : Sg} {P : Int32 → Sg → Prop} (L0 : Nat) (hL0 : LandAt L0) (i1 : Int32)
    (h : Ev G l mX1_votesOf (d + 1) 4 [some (.ref L0), some (.int i1), some (.int (nI 0)), some (.int (nI 0))] [] S (QI P)) :
    Ct G l mX1_votesOf (d + 1) [.ref L0, .int i1] S (QI P) := by
  show Ev G l mX1_votesOf (d + 1) 0 [some (.ref L0), some (.int i1), none, none] [] S (QI P)
  refine r_iconst (μ := mX1_votesOf) (pc := 0) (v := nI 0) dX1_votesOf_0 rfl ?_
  refine r_istore_n (μ := mX1_votesOf) (pc := 1) (ls' := [some (.ref L0), some (.int i1), some (.int (nI 0)), none]) dX1_votesOf_1 rfl (Nat.le_of_ble_eq_true rfl) rfl rfl ?_
  refine r_iconst (μ := mX1_votesOf) (pc := 2) (v := nI 0) dX1_votesOf_2 rfl ?_
  refine r_istore_n (μ := mX1_votesOf) (pc := 3) (ls' := [some (.ref L0), some (.int i1), some (.int (nI 0)), some (.int (nI 0))]) dX1_votesOf_3 rfl (Nat.le_of_ble_eq_true rfl) rfl rfl ?_
  exact h

set_option maxRecDepth 20000 in
theorem bX1_votesOf_4 {G : Gl} {l : Launch} {d : Nat} {S : Sg} {P : Int32 → Sg → Prop} (L0 : Nat) (hL0 : LandAt L0) (i1 : Int32) (i2 : Int32) (i3 : Int32)
    (h : ((S.1 L0 8) ≤ i3 → P i2 S) ∧ (¬ ((S.1 L0 8) ≤ i3) → (((i1 >>> (i3 &&& 31)) &&& (nI 1)) = (nI 0) → Ev G l mX1_votesOf (d + 1) 4 [some (.ref L0), some (.int i1), some (.int i2), some (.int (i3 + (nI 1)))] [] S (QI P)) ∧ (¬ (((i1 >>> (i3 &&& 31)) &&& (nI 1)) = (nI 0)) → Ct G l mX1_votes d [.ref L0, .int i3] S (QI (fun r23 T23 => Ev G l mX1_votesOf (d + 1) 4 [some (.ref L0), some (.int i1), some (.int (i2 + r23)), some (.int (i3 + (nI 1)))] [] T23 (QI P)))))) :
    Ev G l mX1_votesOf (d + 1) 4 [some (.ref L0), some (.int i1), some (.int i2), some (.int i3)] [] S (QI P) := by
  show Ev G l mX1_votesOf (d + 1) 4 [some (.ref L0), some (.int i1), some (.int i2), some (.int i3)] [] S (QI P)
  refine r_iload_n (μ := mX1_votesOf) (pc := 4) dX1_votesOf_4 rfl rfl ?_
  refine r_aload_n (μ := mX1_votesOf) (pc := 5) dX1_votesOf_5 rfl rfl ?_
  refine g_I (μ := mX1_votesOf) (pc := 6) fX1_36 dX1_votesOf_6 (la_kd hL0) ?_
  refine r_icmp_ge (μ := mX1_votesOf) (pc := 9) (tgt := 34) dX1_votesOf_9 (by decide) ⟨fun q9 => ?_, fun q9 => ?_⟩
  · have h := h.1 q9
    refine r_iload_n (μ := mX1_votesOf) (pc := 34) dX1_votesOf_34 rfl rfl ?_
    exact r_iret (μ := mX1_votesOf) (pc := 35) dX1_votesOf_35 rfl h
  · have h := h.2 q9
    refine r_iload_n (μ := mX1_votesOf) (pc := 12) dX1_votesOf_12 rfl rfl ?_
    refine r_iload_n (μ := mX1_votesOf) (pc := 13) dX1_votesOf_13 rfl rfl ?_
    refine r_ishr (μ := mX1_votesOf) (pc := 14) dX1_votesOf_14 ?_
    refine r_iconst (μ := mX1_votesOf) (pc := 15) (v := nI 1) dX1_votesOf_15 rfl ?_
    refine r_iand (μ := mX1_votesOf) (pc := 16) dX1_votesOf_16 ?_
    refine r_if_eq (μ := mX1_votesOf) (pc := 17) (tgt := 28) dX1_votesOf_17 (by decide) ⟨fun q17 => ?_, fun q17 => ?_⟩
    · have h := h.1 q17
      refine r_iinc (μ := mX1_votesOf) (pc := 28) (y := nI 1) (ls' := [some (.ref L0), some (.int i1), some (.int i2), some (.int (i3 + (nI 1)))]) dX1_votesOf_28 rfl rfl (Nat.le_of_ble_eq_true rfl) rfl rfl ?_
      refine r_goto (μ := mX1_votesOf) (pc := 31) (tgt := 4) dX1_votesOf_31 (by decide) ?_
      exact h
    · have h := h.2 q17
      refine r_iload_n (μ := mX1_votesOf) (pc := 20) dX1_votesOf_20 rfl rfl ?_
      refine r_aload_n (μ := mX1_votesOf) (pc := 21) dX1_votesOf_21 rfl rfl ?_
      refine r_iload_n (μ := mX1_votesOf) (pc := 22) dX1_votesOf_22 rfl rfl ?_
      refine r_callV (μ := mX1_votesOf) (pc := 23) (as := [.int i3]) 1 cX1_90 dX1_votesOf_23 rfl (la_kd hL0) (Nat.le_of_ble_eq_true rfl) rfl okX1_votes (Nat.lt_succ_self d) (cat8 (n := 1) rfl (by decide)) rfl h (k_I (fun r23 T23 h => ?_))
      refine r_iadd (μ := mX1_votesOf) (pc := 26) dX1_votesOf_26 ?_
      refine r_istore_n (μ := mX1_votesOf) (pc := 27) (ls' := [some (.ref L0), some (.int i1), some (.int (i2 + r23)), some (.int i3)]) dX1_votesOf_27 rfl (Nat.le_of_ble_eq_true rfl) rfl rfl ?_
      refine r_iinc (μ := mX1_votesOf) (pc := 28) (y := nI 1) (ls' := [some (.ref L0), some (.int i1), some (.int (i2 + r23)), some (.int (i3 + (nI 1)))]) dX1_votesOf_28 rfl rfl (Nat.le_of_ble_eq_true rfl) rfl rfl ?_
      refine r_goto (μ := mX1_votesOf) (pc := 31) (tgt := 4) dX1_votesOf_31 (by decide) ?_
      exact h

set_option maxRecDepth 20000 in
theorem bX1_mostVotesIn_0 {G : Gl} {l : Launch} {d : Nat} {S : Sg} {P : Int32 → Sg → Prop} (L0 : Nat) (hL0 : LandAt L0) (i1 : Int32)
    (h : Ev G l mX1_mostVotesIn (d + 1) 4 [some (.ref L0), some (.int i1), some (.int (nI 0)), some (.int (nI 0))] [] S (QI P)) :
    Ct G l mX1_mostVotesIn (d + 1) [.ref L0, .int i1] S (QI P) := by
  show Ev G l mX1_mostVotesIn (d + 1) 0 [some (.ref L0), some (.int i1), none, none] [] S (QI P)
  refine r_iconst (μ := mX1_mostVotesIn) (pc := 0) (v := nI 0) dX1_mostVotesIn_0 rfl ?_
  refine r_istore_n (μ := mX1_mostVotesIn) (pc := 1) (ls' := [some (.ref L0), some (.int i1), some (.int (nI 0)), none]) dX1_mostVotesIn_1 rfl (Nat.le_of_ble_eq_true rfl) rfl rfl ?_
  refine r_iconst (μ := mX1_mostVotesIn) (pc := 2) (v := nI 0) dX1_mostVotesIn_2 rfl ?_
  refine r_istore_n (μ := mX1_mostVotesIn) (pc := 3) (ls' := [some (.ref L0), some (.int i1), some (.int (nI 0)), some (.int (nI 0))]) dX1_mostVotesIn_3 rfl (Nat.le_of_ble_eq_true rfl) rfl rfl ?_
  exact h

set_option maxRecDepth 20000 in
theorem bX1_mostVotesIn_4 {G : Gl} {l : Launch} {d : Nat} {S : Sg} {P : Int32 → Sg → Prop} (L0 : Nat) (hL0 : LandAt L0) (i1 : Int32) (i2 : Int32) (i3 : Int32)
    (h : ((S.1 L0 8) ≤ i3 → P i2 S) ∧ (¬ ((S.1 L0 8) ≤ i3) → (((i1 >>> (i3 &&& 31)) &&& (nI 1)) = (nI 0) → Ev G l mX1_mostVotesIn (d + 1) 4 [some (.ref L0), some (.int i1), some (.int i2), some (.int (i3 + (nI 1)))] [] S (QI P)) ∧ (¬ (((i1 >>> (i3 &&& 31)) &&& (nI 1)) = (nI 0)) → Ct G l mX1_votes d [.ref L0, .int i3] S (QI (fun r23 T23 => Ev G l mX1_mostVotesIn (d + 1) 4 [some (.ref L0), some (.int i1), some (.int (if i2 < r23 then r23 else i2)), some (.int (i3 + (nI 1)))] [] T23 (QI P)))))) :
    Ev G l mX1_mostVotesIn (d + 1) 4 [some (.ref L0), some (.int i1), some (.int i2), some (.int i3)] [] S (QI P) := by
  show Ev G l mX1_mostVotesIn (d + 1) 4 [some (.ref L0), some (.int i1), some (.int i2), some (.int i3)] [] S (QI P)
  refine r_iload_n (μ := mX1_mostVotesIn) (pc := 4) dX1_mostVotesIn_4 rfl rfl ?_
  refine r_aload_n (μ := mX1_mostVotesIn) (pc := 5) dX1_mostVotesIn_5 rfl rfl ?_
  refine g_I (μ := mX1_mostVotesIn) (pc := 6) fX1_36 dX1_mostVotesIn_6 (la_kd hL0) ?_
  refine r_icmp_ge (μ := mX1_mostVotesIn) (pc := 9) (tgt := 36) dX1_mostVotesIn_9 (by decide) ⟨fun q9 => ?_, fun q9 => ?_⟩
  · have h := h.1 q9
    refine r_iload_n (μ := mX1_mostVotesIn) (pc := 36) dX1_mostVotesIn_36 rfl rfl ?_
    exact r_iret (μ := mX1_mostVotesIn) (pc := 37) dX1_mostVotesIn_37 rfl h
  · have h := h.2 q9
    refine r_iload_n (μ := mX1_mostVotesIn) (pc := 12) dX1_mostVotesIn_12 rfl rfl ?_
    refine r_iload_n (μ := mX1_mostVotesIn) (pc := 13) dX1_mostVotesIn_13 rfl rfl ?_
    refine r_ishr (μ := mX1_mostVotesIn) (pc := 14) dX1_mostVotesIn_14 ?_
    refine r_iconst (μ := mX1_mostVotesIn) (pc := 15) (v := nI 1) dX1_mostVotesIn_15 rfl ?_
    refine r_iand (μ := mX1_mostVotesIn) (pc := 16) dX1_mostVotesIn_16 ?_
    refine r_if_eq (μ := mX1_mostVotesIn) (pc := 17) (tgt := 30) dX1_mostVotesIn_17 (by decide) ⟨fun q17 => ?_, fun q17 => ?_⟩
    · have h := h.1 q17
      refine r_iinc (μ := mX1_mostVotesIn) (pc := 30) (y := nI 1) (ls' := [some (.ref L0), some (.int i1), some (.int i2), some (.int (i3 + (nI 1)))]) dX1_mostVotesIn_30 rfl rfl (Nat.le_of_ble_eq_true rfl) rfl rfl ?_
      refine r_goto (μ := mX1_mostVotesIn) (pc := 33) (tgt := 4) dX1_mostVotesIn_33 (by decide) ?_
      exact h
    · have h := h.2 q17
      refine r_iload_n (μ := mX1_mostVotesIn) (pc := 20) dX1_mostVotesIn_20 rfl rfl ?_
      refine r_aload_n (μ := mX1_mostVotesIn) (pc := 21) dX1_mostVotesIn_21 rfl rfl ?_
      refine r_iload_n (μ := mX1_mostVotesIn) (pc := 22) dX1_mostVotesIn_22 rfl rfl ?_
      refine r_callV (μ := mX1_mostVotesIn) (pc := 23) (as := [.int i3]) 1 cX1_90 dX1_mostVotesIn_23 rfl (la_kd hL0) (Nat.le_of_ble_eq_true rfl) rfl okX1_votes (Nat.lt_succ_self d) (cat8 (n := 1) rfl (by decide)) rfl h (k_I (fun r23 T23 h => ?_))
      refine r_mmax (μ := mX1_mostVotesIn) (pc := 26) mwX1_94 dX1_mostVotesIn_26 (cat8 (n := 0) rfl (by decide)) ?_
      refine r_istore_n (μ := mX1_mostVotesIn) (pc := 29) (ls' := [some (.ref L0), some (.int i1), some (.int (if i2 < r23 then r23 else i2)), some (.int i3)]) dX1_mostVotesIn_29 rfl (Nat.le_of_ble_eq_true rfl) rfl rfl ?_
      refine r_iinc (μ := mX1_mostVotesIn) (pc := 30) (y := nI 1) (ls' := [some (.ref L0), some (.int i1), some (.int (if i2 < r23 then r23 else i2)), some (.int (i3 + (nI 1)))]) dX1_mostVotesIn_30 rfl rfl (Nat.le_of_ble_eq_true rfl) rfl rfl ?_
      refine r_goto (μ := mX1_mostVotesIn) (pc := 33) (tgt := 4) dX1_mostVotesIn_33 (by decide) ?_
      exact h

set_option maxRecDepth 20000 in
theorem bX1_votesBelonging_0 {G : Gl} {l : Launch} {d : Nat} {S : Sg} {P : Int32 → Sg → Prop} (L0 : Nat) (hL0 : LandAt L0) (i1 : Int32) (i2 : Int32)
    (h : Ct G l mX1_belonging d [.ref L0, .int i1, .int i2] S (QI (fun r4 T4 => Ct G l mX1_votesOf d [.ref L0, .int r4] T4 (QI (fun r7 T7 => P r7 T7))))) :
    Ct G l mX1_votesBelonging (d + 1) [.ref L0, .int i1, .int i2] S (QI P) := by
  show Ev G l mX1_votesBelonging (d + 1) 0 [some (.ref L0), some (.int i1), some (.int i2)] [] S (QI P)
  refine r_aload_n (μ := mX1_votesBelonging) (pc := 0) dX1_votesBelonging_0 rfl rfl ?_
  refine r_aload_n (μ := mX1_votesBelonging) (pc := 1) dX1_votesBelonging_1 rfl rfl ?_
  refine r_iload_n (μ := mX1_votesBelonging) (pc := 2) dX1_votesBelonging_2 rfl rfl ?_
  refine r_iload_n (μ := mX1_votesBelonging) (pc := 3) dX1_votesBelonging_3 rfl rfl ?_
  refine r_callV (μ := mX1_votesBelonging) (pc := 4) (as := [.int i1, .int i2]) 1 cX1_99 dX1_votesBelonging_4 rfl (la_kd hL0) (Nat.le_of_ble_eq_true rfl) rfl okX1_belonging (Nat.lt_succ_self d) (cat8 (n := 1) rfl (by decide)) rfl h (k_I (fun r4 T4 h => ?_))
  refine r_callV (μ := mX1_votesBelonging) (pc := 7) (as := [.int r4]) 1 cX1_102 dX1_votesBelonging_7 rfl (la_kd hL0) (Nat.le_of_ble_eq_true rfl) rfl okX1_votesOf (Nat.lt_succ_self d) (cat8 (n := 0) rfl (by decide)) rfl h (k_I (fun r7 T7 h => ?_))
  exact r_iret (μ := mX1_votesBelonging) (pc := 10) dX1_votesBelonging_10 rfl h

set_option maxRecDepth 20000 in
theorem bX1_votesOfWest_0 {G : Gl} {l : Launch} {d : Nat} {S : Sg} {P : Int32 → Sg → Prop} (L0 : Nat) (hL0 : LandAt L0) (i1 : Int32) (i2 : Int32)
    (h : Ct G l mX1_votesOfStrangers d [.ref L0, .int (nI 0), .int i1, .int i1, .int i2] S (QI (fun r5 T5 => P r5 T5))) :
    Ct G l mX1_votesOfWest (d + 1) [.ref L0, .int i1, .int i2] S (QI P) := by
  show Ev G l mX1_votesOfWest (d + 1) 0 [some (.ref L0), some (.int i1), some (.int i2)] [] S (QI P)
  refine r_aload_n (μ := mX1_votesOfWest) (pc := 0) dX1_votesOfWest_0 rfl rfl ?_
  refine r_iconst (μ := mX1_votesOfWest) (pc := 1) (v := nI 0) dX1_votesOfWest_1 rfl ?_
  refine r_iload_n (μ := mX1_votesOfWest) (pc := 2) dX1_votesOfWest_2 rfl rfl ?_
  refine r_iload_n (μ := mX1_votesOfWest) (pc := 3) dX1_votesOfWest_3 rfl rfl ?_
  refine r_iload_n (μ := mX1_votesOfWest) (pc := 4) dX1_votesOfWest_4 rfl rfl ?_
  refine r_callV (μ := mX1_votesOfWest) (pc := 5) (as := [.int (nI 0), .int i1, .int i1, .int i2]) 1 cX1_105 dX1_votesOfWest_5 rfl (la_kd hL0) (Nat.le_of_ble_eq_true rfl) rfl okX1_votesOfStrangers (Nat.lt_succ_self d) (cat8 (n := 0) rfl (by decide)) rfl h (k_I (fun r5 T5 h => ?_))
  exact r_iret (μ := mX1_votesOfWest) (pc := 8) dX1_votesOfWest_8 rfl h

set_option maxRecDepth 20000 in
theorem bX1_votesOfEast_0 {G : Gl} {l : Launch} {d : Nat} {S : Sg} {P : Int32 → Sg → Prop} (L0 : Nat) (hL0 : LandAt L0) (i1 : Int32) (i2 : Int32)
    (h : Ct G l mX1_votesOfStrangers d [.ref L0, .int i2, .int (S.1 L0 0), .int i1, .int i2] S (QI (fun r8 T8 => P r8 T8))) :
    Ct G l mX1_votesOfEast (d + 1) [.ref L0, .int i1, .int i2] S (QI P) := by
  show Ev G l mX1_votesOfEast (d + 1) 0 [some (.ref L0), some (.int i1), some (.int i2)] [] S (QI P)
  refine r_aload_n (μ := mX1_votesOfEast) (pc := 0) dX1_votesOfEast_0 rfl rfl ?_
  refine r_iload_n (μ := mX1_votesOfEast) (pc := 1) dX1_votesOfEast_1 rfl rfl ?_
  refine r_aload_n (μ := mX1_votesOfEast) (pc := 2) dX1_votesOfEast_2 rfl rfl ?_
  refine g_I (μ := mX1_votesOfEast) (pc := 3) fX1_9 dX1_votesOfEast_3 (la_kd hL0) ?_
  refine r_iload_n (μ := mX1_votesOfEast) (pc := 6) dX1_votesOfEast_6 rfl rfl ?_
  refine r_iload_n (μ := mX1_votesOfEast) (pc := 7) dX1_votesOfEast_7 rfl rfl ?_
  refine r_callV (μ := mX1_votesOfEast) (pc := 8) (as := [.int i2, .int (S.1 L0 0), .int i1, .int i2]) 1 cX1_105 dX1_votesOfEast_8 rfl (la_kd hL0) (Nat.le_of_ble_eq_true rfl) rfl okX1_votesOfStrangers (Nat.lt_succ_self d) (cat8 (n := 0) rfl (by decide)) rfl h (k_I (fun r8 T8 h => ?_))
  exact r_iret (μ := mX1_votesOfEast) (pc := 11) dX1_votesOfEast_11 rfl h

set_option maxRecDepth 20000 in
theorem bX1_votesOfStrangers_0 {G : Gl} {l : Launch} {d : Nat} {S : Sg} {P : Int32 → Sg → Prop} (L0 : Nat) (hL0 : LandAt L0) (i1 : Int32) (i2 : Int32) (i3 : Int32) (i4 : Int32)
    (h : Ev G l mX1_votesOfStrangers (d + 1) 6 [some (.ref L0), some (.int i1), some (.int i2), some (.int i3), some (.int i4), some (.int (nI 0)), some (.int (nI 0))] [] S (QI P)) :
    Ct G l mX1_votesOfStrangers (d + 1) [.ref L0, .int i1, .int i2, .int i3, .int i4] S (QI P) := by
  show Ev G l mX1_votesOfStrangers (d + 1) 0 [some (.ref L0), some (.int i1), some (.int i2), some (.int i3), some (.int i4), none, none] [] S (QI P)
  refine r_iconst (μ := mX1_votesOfStrangers) (pc := 0) (v := nI 0) dX1_votesOfStrangers_0 rfl ?_
  refine r_istore (μ := mX1_votesOfStrangers) (pc := 1) (ls' := [some (.ref L0), some (.int i1), some (.int i2), some (.int i3), some (.int i4), some (.int (nI 0)), none]) dX1_votesOfStrangers_1 (Nat.le_of_ble_eq_true rfl) rfl rfl ?_
  refine r_iconst (μ := mX1_votesOfStrangers) (pc := 3) (v := nI 0) dX1_votesOfStrangers_3 rfl ?_
  refine r_istore (μ := mX1_votesOfStrangers) (pc := 4) (ls' := [some (.ref L0), some (.int i1), some (.int i2), some (.int i3), some (.int i4), some (.int (nI 0)), some (.int (nI 0))]) dX1_votesOfStrangers_4 (Nat.le_of_ble_eq_true rfl) rfl rfl ?_
  exact h

set_option maxRecDepth 20000 in
theorem bX1_votesOfStrangers_6 {G : Gl} {l : Launch} {d : Nat} {S : Sg} {P : Int32 → Sg → Prop} (L0 : Nat) (hL0 : LandAt L0) (i1 : Int32) (i2 : Int32) (i3 : Int32) (i4 : Int32) (i5 : Int32) (i6 : Int32)
    (h : ((S.1 L0 8) ≤ i6 → P i5 S) ∧ (¬ ((S.1 L0 8) ≤ i6) → ∃ n22 : Nat, ix i6 n22 6 ∧ (((S.1 (L0 + 2) n22) < i1 → Ev G l mX1_votesOfStrangers (d + 1) 6 [some (.ref L0), some (.int i1), some (.int i2), some (.int i3), some (.int i4), some (.int i5), some (.int (i6 + (nI 1)))] [] S (QI P)) ∧ (¬ ((S.1 (L0 + 2) n22) < i1) → (i2 ≤ (S.1 (L0 + 2) n22) → Ev G l mX1_votesOfStrangers (d + 1) 6 [some (.ref L0), some (.int i1), some (.int i2), some (.int i3), some (.int i4), some (.int i5), some (.int (i6 + (nI 1)))] [] S (QI P)) ∧ (¬ (i2 ≤ (S.1 (L0 + 2) n22)) → Ct G l mX1_wouldBelong d [.ref L0, .int (S.1 (L0 + 1) n22), .int (S.1 (L0 + 2) n22), .int (S.1 (L0 + 3) n22), .int i3, .int i4] S (QI (fun r62 T62 => (¬ r62 = (nI 0) → Ev G l mX1_votesOfStrangers (d + 1) 6 [some (.ref L0), some (.int i1), some (.int i2), some (.int i3), some (.int i4), some (.int i5), some (.int (i6 + (nI 1)))] [] T62 (QI P)) ∧ (r62 = (nI 0) → Ct G l mX1_votes d [.ref L0, .int i6] T62 (QI (fun r73 T73 => Ev G l mX1_votesOfStrangers (d + 1) 6 [some (.ref L0), some (.int i1), some (.int i2), some (.int i3), some (.int i4), some (.int (i5 + r73)), some (.int (i6 + (nI 1)))] [] T73 (QI P))))))))))) :
    Ev G l mX1_votesOfStrangers (d + 1) 6 [some (.ref L0), some (.int i1), some (.int i2), some (.int i3), some (.int i4), some (.int i5), some (.int i6)] [] S (QI P) := by
  show Ev G l mX1_votesOfStrangers (d + 1) 6 [some (.ref L0), some (.int i1), some (.int i2), some (.int i3), some (.int i4), some (.int i5), some (.int i6)] [] S (QI P)
  refine r_iload (μ := mX1_votesOfStrangers) (pc := 6) dX1_votesOfStrangers_6 rfl ?_
  refine r_aload_n (μ := mX1_votesOfStrangers) (pc := 8) dX1_votesOfStrangers_8 rfl rfl ?_
  refine g_I (μ := mX1_votesOfStrangers) (pc := 9) fX1_36 dX1_votesOfStrangers_9 (la_kd hL0) ?_
  refine r_icmp_ge (μ := mX1_votesOfStrangers) (pc := 12) (tgt := 85) dX1_votesOfStrangers_12 (by decide) ⟨fun q12 => ?_, fun q12 => ?_⟩
  · have h := h.1 q12
    refine r_iload (μ := mX1_votesOfStrangers) (pc := 85) dX1_votesOfStrangers_85 rfl ?_
    exact r_iret (μ := mX1_votesOfStrangers) (pc := 87) dX1_votesOfStrangers_87 rfl h
  · have h := h.2 q12
    refine r_iload_n (μ := mX1_votesOfStrangers) (pc := 15) dX1_votesOfStrangers_15 rfl rfl ?_
    refine r_aload_n (μ := mX1_votesOfStrangers) (pc := 16) dX1_votesOfStrangers_16 rfl rfl ?_
    refine g_R (μ := mX1_votesOfStrangers) (pc := 17) (k' := L0 + 2) fX1_43 dX1_votesOfStrangers_17 (la_kd hL0) (la_rf10 hL0) ?_
    refine r_iload (μ := mX1_votesOfStrangers) (pc := 20) dX1_votesOfStrangers_20 rfl ?_
    obtain ⟨n22, hx22, h⟩ := h
    refine r_iald (μ := mX1_votesOfStrangers) (pc := 22) dX1_votesOfStrangers_22 (la_k2 hL0) (ix_ln hx22 (la_l2 hL0)) ?_
    refine r_icmp_gt (μ := mX1_votesOfStrangers) (pc := 23) (tgt := 79) dX1_votesOfStrangers_23 (by decide) ⟨fun q23 => ?_, fun q23 => ?_⟩
    · have h := h.1 q23
      refine r_iinc (μ := mX1_votesOfStrangers) (pc := 79) (y := nI 1) (ls' := [some (.ref L0), some (.int i1), some (.int i2), some (.int i3), some (.int i4), some (.int i5), some (.int (i6 + (nI 1)))]) dX1_votesOfStrangers_79 rfl rfl (Nat.le_of_ble_eq_true rfl) rfl rfl ?_
      refine r_goto (μ := mX1_votesOfStrangers) (pc := 82) (tgt := 6) dX1_votesOfStrangers_82 (by decide) ?_
      exact h
    · have h := h.2 q23
      refine r_aload_n (μ := mX1_votesOfStrangers) (pc := 26) dX1_votesOfStrangers_26 rfl rfl ?_
      refine g_R (μ := mX1_votesOfStrangers) (pc := 27) (k' := L0 + 2) fX1_43 dX1_votesOfStrangers_27 (la_kd hL0) (la_rf10 hL0) ?_
      refine r_iload (μ := mX1_votesOfStrangers) (pc := 30) dX1_votesOfStrangers_30 rfl ?_
      refine r_iald (μ := mX1_votesOfStrangers) (pc := 32) dX1_votesOfStrangers_32 (la_k2 hL0) (ix_ln hx22 (la_l2 hL0)) ?_
      refine r_iload_n (μ := mX1_votesOfStrangers) (pc := 33) dX1_votesOfStrangers_33 rfl rfl ?_
      refine r_icmp_ge (μ := mX1_votesOfStrangers) (pc := 34) (tgt := 79) dX1_votesOfStrangers_34 (by decide) ⟨fun q34 => ?_, fun q34 => ?_⟩
      · have h := h.1 q34
        refine r_iinc (μ := mX1_votesOfStrangers) (pc := 79) (y := nI 1) (ls' := [some (.ref L0), some (.int i1), some (.int i2), some (.int i3), some (.int i4), some (.int i5), some (.int (i6 + (nI 1)))]) dX1_votesOfStrangers_79 rfl rfl (Nat.le_of_ble_eq_true rfl) rfl rfl ?_
        refine r_goto (μ := mX1_votesOfStrangers) (pc := 82) (tgt := 6) dX1_votesOfStrangers_82 (by decide) ?_
        exact h
      · have h := h.2 q34
        refine r_aload_n (μ := mX1_votesOfStrangers) (pc := 37) dX1_votesOfStrangers_37 rfl rfl ?_
        refine r_aload_n (μ := mX1_votesOfStrangers) (pc := 38) dX1_votesOfStrangers_38 rfl rfl ?_
        refine g_R (μ := mX1_votesOfStrangers) (pc := 39) (k' := L0 + 1) fX1_39 dX1_votesOfStrangers_39 (la_kd hL0) (la_rf9 hL0) ?_
        refine r_iload (μ := mX1_votesOfStrangers) (pc := 42) dX1_votesOfStrangers_42 rfl ?_
        refine r_iald (μ := mX1_votesOfStrangers) (pc := 44) dX1_votesOfStrangers_44 (la_k1 hL0) (ix_ln hx22 (la_l1 hL0)) ?_
        refine r_aload_n (μ := mX1_votesOfStrangers) (pc := 45) dX1_votesOfStrangers_45 rfl rfl ?_
        refine g_R (μ := mX1_votesOfStrangers) (pc := 46) (k' := L0 + 2) fX1_43 dX1_votesOfStrangers_46 (la_kd hL0) (la_rf10 hL0) ?_
        refine r_iload (μ := mX1_votesOfStrangers) (pc := 49) dX1_votesOfStrangers_49 rfl ?_
        refine r_iald (μ := mX1_votesOfStrangers) (pc := 51) dX1_votesOfStrangers_51 (la_k2 hL0) (ix_ln hx22 (la_l2 hL0)) ?_
        refine r_aload_n (μ := mX1_votesOfStrangers) (pc := 52) dX1_votesOfStrangers_52 rfl rfl ?_
        refine g_R (μ := mX1_votesOfStrangers) (pc := 53) (k' := L0 + 3) fX1_46 dX1_votesOfStrangers_53 (la_kd hL0) (la_rf11 hL0) ?_
        refine r_iload (μ := mX1_votesOfStrangers) (pc := 56) dX1_votesOfStrangers_56 rfl ?_
        refine r_iald (μ := mX1_votesOfStrangers) (pc := 58) dX1_votesOfStrangers_58 (la_k3 hL0) (ix_ln hx22 (la_l3 hL0)) ?_
        refine r_iload_n (μ := mX1_votesOfStrangers) (pc := 59) dX1_votesOfStrangers_59 rfl rfl ?_
        refine r_iload (μ := mX1_votesOfStrangers) (pc := 60) dX1_votesOfStrangers_60 rfl ?_
        refine r_callV (μ := mX1_votesOfStrangers) (pc := 62) (as := [.int (S.1 (L0 + 1) n22), .int (S.1 (L0 + 2) n22), .int (S.1 (L0 + 3) n22), .int i3, .int i4]) 1 cX1_86 dX1_votesOfStrangers_62 rfl (la_kd hL0) (Nat.le_of_ble_eq_true rfl) rfl okX1_wouldBelong (Nat.lt_succ_self d) (cat8 (n := 0) rfl (by decide)) rfl h (k_I (fun r62 T62 h => ?_))
        refine r_if_ne (μ := mX1_votesOfStrangers) (pc := 65) (tgt := 79) dX1_votesOfStrangers_65 (by decide) ⟨fun q65 => ?_, fun q65 => ?_⟩
        · have h := h.1 q65
          refine r_iinc (μ := mX1_votesOfStrangers) (pc := 79) (y := nI 1) (ls' := [some (.ref L0), some (.int i1), some (.int i2), some (.int i3), some (.int i4), some (.int i5), some (.int (i6 + (nI 1)))]) dX1_votesOfStrangers_79 rfl rfl (Nat.le_of_ble_eq_true rfl) rfl rfl ?_
          refine r_goto (μ := mX1_votesOfStrangers) (pc := 82) (tgt := 6) dX1_votesOfStrangers_82 (by decide) ?_
          exact h
        · have h := h.2 q65
          refine r_iload (μ := mX1_votesOfStrangers) (pc := 68) dX1_votesOfStrangers_68 rfl ?_
          refine r_aload_n (μ := mX1_votesOfStrangers) (pc := 70) dX1_votesOfStrangers_70 rfl rfl ?_
          refine r_iload (μ := mX1_votesOfStrangers) (pc := 71) dX1_votesOfStrangers_71 rfl ?_
          refine r_callV (μ := mX1_votesOfStrangers) (pc := 73) (as := [.int i6]) 1 cX1_90 dX1_votesOfStrangers_73 rfl (la_kd hL0) (Nat.le_of_ble_eq_true rfl) rfl okX1_votes (Nat.lt_succ_self d) (cat8 (n := 1) rfl (by decide)) rfl h (k_I (fun r73 T73 h => ?_))
          refine r_iadd (μ := mX1_votesOfStrangers) (pc := 76) dX1_votesOfStrangers_76 ?_
          refine r_istore (μ := mX1_votesOfStrangers) (pc := 77) (ls' := [some (.ref L0), some (.int i1), some (.int i2), some (.int i3), some (.int i4), some (.int (i5 + r73)), some (.int i6)]) dX1_votesOfStrangers_77 (Nat.le_of_ble_eq_true rfl) rfl rfl ?_
          refine r_iinc (μ := mX1_votesOfStrangers) (pc := 79) (y := nI 1) (ls' := [some (.ref L0), some (.int i1), some (.int i2), some (.int i3), some (.int i4), some (.int (i5 + r73)), some (.int (i6 + (nI 1)))]) dX1_votesOfStrangers_79 rfl rfl (Nat.le_of_ble_eq_true rfl) rfl rfl ?_
          refine r_goto (μ := mX1_votesOfStrangers) (pc := 82) (tgt := 6) dX1_votesOfStrangers_82 (by decide) ?_
          exact h

set_option maxRecDepth 20000 in
theorem bX1_votesFor_0 {G : Gl} {l : Launch} {d : Nat} {S : Sg} {P : Int32 → Sg → Prop} (L0 : Nat) (hL0 : LandAt L0) (i1 : Int32)
    (h : Ev G l mX1_votesFor (d + 1) 4 [some (.ref L0), some (.int i1), some (.int (nI 0)), some (.int (nI 0))] [] S (QI P)) :
    Ct G l mX1_votesFor (d + 1) [.ref L0, .int i1] S (QI P) := by
  show Ev G l mX1_votesFor (d + 1) 0 [some (.ref L0), some (.int i1), none, none] [] S (QI P)
  refine r_iconst (μ := mX1_votesFor) (pc := 0) (v := nI 0) dX1_votesFor_0 rfl ?_
  refine r_istore_n (μ := mX1_votesFor) (pc := 1) (ls' := [some (.ref L0), some (.int i1), some (.int (nI 0)), none]) dX1_votesFor_1 rfl (Nat.le_of_ble_eq_true rfl) rfl rfl ?_
  refine r_iconst (μ := mX1_votesFor) (pc := 2) (v := nI 0) dX1_votesFor_2 rfl ?_
  refine r_istore_n (μ := mX1_votesFor) (pc := 3) (ls' := [some (.ref L0), some (.int i1), some (.int (nI 0)), some (.int (nI 0))]) dX1_votesFor_3 rfl (Nat.le_of_ble_eq_true rfl) rfl rfl ?_
  exact h

set_option maxRecDepth 20000 in
theorem bX1_votesFor_4 {G : Gl} {l : Launch} {d : Nat} {S : Sg} {P : Int32 → Sg → Prop} (L0 : Nat) (hL0 : LandAt L0) (i1 : Int32) (i2 : Int32) (i3 : Int32)
    (h : ((S.1 L0 8) ≤ i3 → P i2 S) ∧ (¬ ((S.1 L0 8) ≤ i3) → Ct G l mX1_belongs d [.ref L0, .int i3] S (QI (fun r14 T14 => (r14 = (nI 0) → Ev G l mX1_votesFor (d + 1) 4 [some (.ref L0), some (.int i1), some (.int i2), some (.int (i3 + (nI 1)))] [] T14 (QI P)) ∧ (¬ (r14 = (nI 0)) → ∃ n25 : Nat, ix i3 n25 6 ∧ ((((T14.1 (L0 + 5) n25) &&& i1) = (nI 0) → Ev G l mX1_votesFor (d + 1) 4 [some (.ref L0), some (.int i1), some (.int i2), some (.int (i3 + (nI 1)))] [] T14 (QI P)) ∧ (¬ (((T14.1 (L0 + 5) n25) &&& i1) = (nI 0)) → Ct G l mX1_votes d [.ref L0, .int i3] T14 (QI (fun r34 T34 => Ev G l mX1_votesFor (d + 1) 4 [some (.ref L0), some (.int i1), some (.int (i2 + r34)), some (.int (i3 + (nI 1)))] [] T34 (QI P)))))))))) :
    Ev G l mX1_votesFor (d + 1) 4 [some (.ref L0), some (.int i1), some (.int i2), some (.int i3)] [] S (QI P) := by
  show Ev G l mX1_votesFor (d + 1) 4 [some (.ref L0), some (.int i1), some (.int i2), some (.int i3)] [] S (QI P)
  refine r_iload_n (μ := mX1_votesFor) (pc := 4) dX1_votesFor_4 rfl rfl ?_
  refine r_aload_n (μ := mX1_votesFor) (pc := 5) dX1_votesFor_5 rfl rfl ?_
  refine g_I (μ := mX1_votesFor) (pc := 6) fX1_36 dX1_votesFor_6 (la_kd hL0) ?_
  refine r_icmp_ge (μ := mX1_votesFor) (pc := 9) (tgt := 45) dX1_votesFor_9 (by decide) ⟨fun q9 => ?_, fun q9 => ?_⟩
  · have h := h.1 q9
    refine r_iload_n (μ := mX1_votesFor) (pc := 45) dX1_votesFor_45 rfl rfl ?_
    exact r_iret (μ := mX1_votesFor) (pc := 46) dX1_votesFor_46 rfl h
  · have h := h.2 q9
    refine r_aload_n (μ := mX1_votesFor) (pc := 12) dX1_votesFor_12 rfl rfl ?_
    refine r_iload_n (μ := mX1_votesFor) (pc := 13) dX1_votesFor_13 rfl rfl ?_
    refine r_callV (μ := mX1_votesFor) (pc := 14) (as := [.int i3]) 1 cX1_109 dX1_votesFor_14 rfl (la_kd hL0) (Nat.le_of_ble_eq_true rfl) rfl okX1_belongs (Nat.lt_succ_self d) (cat8 (n := 0) rfl (by decide)) rfl h (k_I (fun r14 T14 h => ?_))
    refine r_if_eq (μ := mX1_votesFor) (pc := 17) (tgt := 39) dX1_votesFor_17 (by decide) ⟨fun q17 => ?_, fun q17 => ?_⟩
    · have h := h.1 q17
      refine r_iinc (μ := mX1_votesFor) (pc := 39) (y := nI 1) (ls' := [some (.ref L0), some (.int i1), some (.int i2), some (.int (i3 + (nI 1)))]) dX1_votesFor_39 rfl rfl (Nat.le_of_ble_eq_true rfl) rfl rfl ?_
      refine r_goto (μ := mX1_votesFor) (pc := 42) (tgt := 4) dX1_votesFor_42 (by decide) ?_
      exact h
    · have h := h.2 q17
      refine r_aload_n (μ := mX1_votesFor) (pc := 20) dX1_votesFor_20 rfl rfl ?_
      refine g_R (μ := mX1_votesFor) (pc := 21) (k' := L0 + 5) fX1_52 dX1_votesFor_21 (la_kd hL0) (la_rf13 hL0) ?_
      refine r_iload_n (μ := mX1_votesFor) (pc := 24) dX1_votesFor_24 rfl rfl ?_
      obtain ⟨n25, hx25, h⟩ := h
      refine r_iald (μ := mX1_votesFor) (pc := 25) dX1_votesFor_25 (la_k5 hL0) (ix_ln hx25 (la_l5 hL0)) ?_
      refine r_iload_n (μ := mX1_votesFor) (pc := 26) dX1_votesFor_26 rfl rfl ?_
      refine r_iand (μ := mX1_votesFor) (pc := 27) dX1_votesFor_27 ?_
      refine r_if_eq (μ := mX1_votesFor) (pc := 28) (tgt := 39) dX1_votesFor_28 (by decide) ⟨fun q28 => ?_, fun q28 => ?_⟩
      · have h := h.1 q28
        refine r_iinc (μ := mX1_votesFor) (pc := 39) (y := nI 1) (ls' := [some (.ref L0), some (.int i1), some (.int i2), some (.int (i3 + (nI 1)))]) dX1_votesFor_39 rfl rfl (Nat.le_of_ble_eq_true rfl) rfl rfl ?_
        refine r_goto (μ := mX1_votesFor) (pc := 42) (tgt := 4) dX1_votesFor_42 (by decide) ?_
        exact h
      · have h := h.2 q28
        refine r_iload_n (μ := mX1_votesFor) (pc := 31) dX1_votesFor_31 rfl rfl ?_
        refine r_aload_n (μ := mX1_votesFor) (pc := 32) dX1_votesFor_32 rfl rfl ?_
        refine r_iload_n (μ := mX1_votesFor) (pc := 33) dX1_votesFor_33 rfl rfl ?_
        refine r_callV (μ := mX1_votesFor) (pc := 34) (as := [.int i3]) 1 cX1_90 dX1_votesFor_34 rfl (la_kd hL0) (Nat.le_of_ble_eq_true rfl) rfl okX1_votes (Nat.lt_succ_self d) (cat8 (n := 1) rfl (by decide)) rfl h (k_I (fun r34 T34 h => ?_))
        refine r_iadd (μ := mX1_votesFor) (pc := 37) dX1_votesFor_37 ?_
        refine r_istore_n (μ := mX1_votesFor) (pc := 38) (ls' := [some (.ref L0), some (.int i1), some (.int (i2 + r34)), some (.int i3)]) dX1_votesFor_38 rfl (Nat.le_of_ble_eq_true rfl) rfl rfl ?_
        refine r_iinc (μ := mX1_votesFor) (pc := 39) (y := nI 1) (ls' := [some (.ref L0), some (.int i1), some (.int (i2 + r34)), some (.int (i3 + (nI 1)))]) dX1_votesFor_39 rfl rfl (Nat.le_of_ble_eq_true rfl) rfl rfl ?_
        refine r_goto (μ := mX1_votesFor) (pc := 42) (tgt := 4) dX1_votesFor_42 (by decide) ?_
        exact h

set_option maxRecDepth 20000 in
theorem bX1_farFromStrip_0 {G : Gl} {l : Launch} {d : Nat} {S : Sg} {P : Int32 → Sg → Prop} (L0 : Nat) (hL0 : LandAt L0) (i1 : Int32)
    (h : (¬ (S.1 L0 2) = (S.1 L0 1) → P (if (nI 0) < (if ((S.1 L0 1) - i1) < (i1 - ((S.1 L0 2) - (nI 1))) then (i1 - ((S.1 L0 2) - (nI 1))) else ((S.1 L0 1) - i1)) then (if ((S.1 L0 1) - i1) < (i1 - ((S.1 L0 2) - (nI 1))) then (i1 - ((S.1 L0 2) - (nI 1))) else ((S.1 L0 1) - i1)) else (nI 0)) S) ∧ ((S.1 L0 2) = (S.1 L0 1) → P (if 0 ≤ (i1 - (S.1 L0 1)) then (i1 - (S.1 L0 1)) else 0 - (i1 - (S.1 L0 1))) S)) :
    Ct G l mX1_farFromStrip (d + 1) [.ref L0, .int i1] S (QI P) := by
  show Ev G l mX1_farFromStrip (d + 1) 0 [some (.ref L0), some (.int i1)] [] S (QI P)
  refine r_aload_n (μ := mX1_farFromStrip) (pc := 0) dX1_farFromStrip_0 rfl rfl ?_
  refine g_I (μ := mX1_farFromStrip) (pc := 1) fX1_18 dX1_farFromStrip_1 (la_kd hL0) ?_
  refine r_aload_n (μ := mX1_farFromStrip) (pc := 4) dX1_farFromStrip_4 rfl rfl ?_
  refine g_I (μ := mX1_farFromStrip) (pc := 5) fX1_15 dX1_farFromStrip_5 (la_kd hL0) ?_
  refine r_icmp_ne (μ := mX1_farFromStrip) (pc := 8) (tgt := 21) dX1_farFromStrip_8 (by decide) ⟨fun q8 => ?_, fun q8 => ?_⟩
  · have h := h.1 q8
    refine r_iconst (μ := mX1_farFromStrip) (pc := 21) (v := nI 0) dX1_farFromStrip_21 rfl ?_
    refine r_aload_n (μ := mX1_farFromStrip) (pc := 22) dX1_farFromStrip_22 rfl rfl ?_
    refine g_I (μ := mX1_farFromStrip) (pc := 23) fX1_15 dX1_farFromStrip_23 (la_kd hL0) ?_
    refine r_iload_n (μ := mX1_farFromStrip) (pc := 26) dX1_farFromStrip_26 rfl rfl ?_
    refine r_isub (μ := mX1_farFromStrip) (pc := 27) dX1_farFromStrip_27 ?_
    refine r_iload_n (μ := mX1_farFromStrip) (pc := 28) dX1_farFromStrip_28 rfl rfl ?_
    refine r_aload_n (μ := mX1_farFromStrip) (pc := 29) dX1_farFromStrip_29 rfl rfl ?_
    refine g_I (μ := mX1_farFromStrip) (pc := 30) fX1_18 dX1_farFromStrip_30 (la_kd hL0) ?_
    refine r_iconst (μ := mX1_farFromStrip) (pc := 33) (v := nI 1) dX1_farFromStrip_33 rfl ?_
    refine r_isub (μ := mX1_farFromStrip) (pc := 34) dX1_farFromStrip_34 ?_
    refine r_isub (μ := mX1_farFromStrip) (pc := 35) dX1_farFromStrip_35 ?_
    refine r_mmax (μ := mX1_farFromStrip) (pc := 36) mwX1_94 dX1_farFromStrip_36 (cat8 (n := 1) rfl (by decide)) ?_
    refine r_mmax (μ := mX1_farFromStrip) (pc := 39) mwX1_94 dX1_farFromStrip_39 (cat8 (n := 0) rfl (by decide)) ?_
    exact r_iret (μ := mX1_farFromStrip) (pc := 42) dX1_farFromStrip_42 rfl h
  · have h := h.2 q8
    refine r_iload_n (μ := mX1_farFromStrip) (pc := 11) dX1_farFromStrip_11 rfl rfl ?_
    refine r_aload_n (μ := mX1_farFromStrip) (pc := 12) dX1_farFromStrip_12 rfl rfl ?_
    refine g_I (μ := mX1_farFromStrip) (pc := 13) fX1_15 dX1_farFromStrip_13 (la_kd hL0) ?_
    refine r_isub (μ := mX1_farFromStrip) (pc := 16) dX1_farFromStrip_16 ?_
    refine r_mabs (μ := mX1_farFromStrip) (pc := 17) mwX1_113 dX1_farFromStrip_17 (cat8 (n := 0) rfl (by decide)) ?_
    exact r_iret (μ := mX1_farFromStrip) (pc := 20) dX1_farFromStrip_20 rfl h

set_option maxRecDepth 20000 in
theorem bX1_othersWith_0 {G : Gl} {l : Launch} {d : Nat} {S : Sg} {P : Int32 → Sg → Prop} (L0 : Nat) (hL0 : LandAt L0) (i1 : Int32)
    (h : Ev G l mX1_othersWith (d + 1) 4 [some (.ref L0), some (.int i1), some (.int (nI 0)), some (.int (nI 0))] [] S (QI P)) :
    Ct G l mX1_othersWith (d + 1) [.ref L0, .int i1] S (QI P) := by
  show Ev G l mX1_othersWith (d + 1) 0 [some (.ref L0), some (.int i1), none, none] [] S (QI P)
  refine r_iconst (μ := mX1_othersWith) (pc := 0) (v := nI 0) dX1_othersWith_0 rfl ?_
  refine r_istore_n (μ := mX1_othersWith) (pc := 1) (ls' := [some (.ref L0), some (.int i1), some (.int (nI 0)), none]) dX1_othersWith_1 rfl (Nat.le_of_ble_eq_true rfl) rfl rfl ?_
  refine r_iconst (μ := mX1_othersWith) (pc := 2) (v := nI 0) dX1_othersWith_2 rfl ?_
  refine r_istore_n (μ := mX1_othersWith) (pc := 3) (ls' := [some (.ref L0), some (.int i1), some (.int (nI 0)), some (.int (nI 0))]) dX1_othersWith_3 rfl (Nat.le_of_ble_eq_true rfl) rfl rfl ?_
  exact h

set_option maxRecDepth 20000 in
theorem bX1_othersWith_4 {G : Gl} {l : Launch} {d : Nat} {S : Sg} {P : Int32 → Sg → Prop} (L0 : Nat) (hL0 : LandAt L0) (i1 : Int32) (i2 : Int32) (i3 : Int32)
    (h : ((S.1 L0 8) ≤ i3 → P i2 S) ∧ (¬ ((S.1 L0 8) ≤ i3) → (¬ (i3 = i1) → ix i3 ((i3).toNatClampNeg) 6) ∧ (¬ (i3 = i1) → ix i1 ((i1).toNatClampNeg) 6) ∧ ∀ x14 : Int32, x14 = (if i3 = i1 then i2 else (if (S.1 (L0 + 2) (i3).toNatClampNeg) = (S.1 (L0 + 2) (i1).toNatClampNeg) then (i2 + (nI 1)) else i2)) → (Ev G l mX1_othersWith (d + 1) 4 [some (.ref L0), some (.int i1), some (.int x14), some (.int (i3 + (nI 1)))] [] S (QI P)))) :
    Ev G l mX1_othersWith (d + 1) 4 [some (.ref L0), some (.int i1), some (.int i2), some (.int i3)] [] S (QI P) := by
  show Ev G l mX1_othersWith (d + 1) 4 [some (.ref L0), some (.int i1), some (.int i2), some (.int i3)] [] S (QI P)
  refine r_iload_n (μ := mX1_othersWith) (pc := 4) dX1_othersWith_4 rfl rfl ?_
  refine r_aload_n (μ := mX1_othersWith) (pc := 5) dX1_othersWith_5 rfl rfl ?_
  refine g_I (μ := mX1_othersWith) (pc := 6) fX1_36 dX1_othersWith_6 (la_kd hL0) ?_
  refine r_icmp_ge (μ := mX1_othersWith) (pc := 9) (tgt := 41) dX1_othersWith_9 (by decide) ⟨fun q9 => ?_, fun q9 => ?_⟩
  · have h := h.1 q9
    refine r_iload_n (μ := mX1_othersWith) (pc := 41) dX1_othersWith_41 rfl rfl ?_
    exact r_iret (μ := mX1_othersWith) (pc := 42) dX1_othersWith_42 rfl h
  · have h := h.2 q9
    refine r_iload_n (μ := mX1_othersWith) (pc := 12) dX1_othersWith_12 rfl rfl ?_
    refine r_iload_n (μ := mX1_othersWith) (pc := 13) dX1_othersWith_13 rfl rfl ?_
    obtain ⟨hp22, h⟩ := h
    obtain ⟨hp28, h⟩ := h
    have J14 : ∀ x14 : Int32, x14 = (if i3 = i1 then i2 else (if (S.1 (L0 + 2) (i3).toNatClampNeg) = (S.1 (L0 + 2) (i1).toNatClampNeg) then (i2 + (nI 1)) else i2)) → Ev G l mX1_othersWith (d + 1) 35 [some (.ref L0), some (.int i1), some (.int x14), some (.int i3)] [] S (QI P) := by
      intro x14 e14
      have h := h x14 e14
      refine r_iinc (μ := mX1_othersWith) (pc := 35) (y := nI 1) (ls' := [some (.ref L0), some (.int i1), some (.int x14), some (.int (i3 + (nI 1)))]) dX1_othersWith_35 rfl rfl (Nat.le_of_ble_eq_true rfl) rfl rfl ?_
      refine r_goto (μ := mX1_othersWith) (pc := 38) (tgt := 4) dX1_othersWith_38 (by decide) ?_
      exact h
    refine r_icmp_eq (μ := mX1_othersWith) (pc := 14) (tgt := 35) dX1_othersWith_14 (by decide) ⟨fun q14 => ?_, fun q14 => ?_⟩
    · exact J14 _ (by first | (rw [if_pos q14]; done) | simp only [if_pos q14])
    · have hp22 := hp22 q14
      have hp28 := hp28 q14
      refine r_aload_n (μ := mX1_othersWith) (pc := 17) dX1_othersWith_17 rfl rfl ?_
      refine g_R (μ := mX1_othersWith) (pc := 18) (k' := L0 + 2) fX1_43 dX1_othersWith_18 (la_kd hL0) (la_rf10 hL0) ?_
      refine r_iload_n (μ := mX1_othersWith) (pc := 21) dX1_othersWith_21 rfl rfl ?_
      refine r_iald (μ := mX1_othersWith) (pc := 22) dX1_othersWith_22 (la_k2 hL0) (ix_ln hp22 (la_l2 hL0)) ?_
      refine r_aload_n (μ := mX1_othersWith) (pc := 23) dX1_othersWith_23 rfl rfl ?_
      refine g_R (μ := mX1_othersWith) (pc := 24) (k' := L0 + 2) fX1_43 dX1_othersWith_24 (la_kd hL0) (la_rf10 hL0) ?_
      refine r_iload_n (μ := mX1_othersWith) (pc := 27) dX1_othersWith_27 rfl rfl ?_
      refine r_iald (μ := mX1_othersWith) (pc := 28) dX1_othersWith_28 (la_k2 hL0) (ix_ln hp28 (la_l2 hL0)) ?_
      refine r_icmp_ne (μ := mX1_othersWith) (pc := 29) (tgt := 35) dX1_othersWith_29 (by decide) ⟨fun q29 => ?_, fun q29 => ?_⟩
      · exact J14 _ (by first | (rw [if_neg q14, if_neg q29]; done) | simp only [if_neg q14, if_neg q29])
      · refine r_iinc (μ := mX1_othersWith) (pc := 32) (y := nI 1) (ls' := [some (.ref L0), some (.int i1), some (.int (i2 + (nI 1))), some (.int i3)]) dX1_othersWith_32 rfl rfl (Nat.le_of_ble_eq_true rfl) rfl rfl ?_
        exact J14 _ (by first | (rw [if_neg q14, if_pos q29]; done) | simp only [if_neg q14, if_pos q29])

set_option maxRecDepth 20000 in
theorem bX1_canMove_0 {G : Gl} {l : Launch} {d : Nat} {S : Sg} {P : Int32 → Sg → Prop} (L0 : Nat) (hL0 : LandAt L0) (i1 : Int32) (i2 : Int32) (i3 : Int32) (i4 : Int32)
    (h : (¬ i2 = (-1) → ∀ x18 : Int32, x18 = (if i1 = (nI 0) then (if i3 ≤ (nI 0) then (nI 0) else (nI 1)) else (if (S.1 L0 0) ≤ i4 then (nI 0) else (nI 1))) → (P x18 S)) ∧ (i2 = (-1) → ∀ x8 : Int32, x8 = (if i4 ≤ i3 then (nI 0) else (nI 1)) → (P x8 S))) :
    Ct G l mX1_canMove (d + 1) [.ref L0, .int i1, .int i2, .int i3, .int i4] S (QI P) := by
  show Ev G l mX1_canMove (d + 1) 0 [some (.ref L0), some (.int i1), some (.int i2), some (.int i3), some (.int i4)] [] S (QI P)
  refine r_iload_n (μ := mX1_canMove) (pc := 0) dX1_canMove_0 rfl rfl ?_
  refine r_iconst (μ := mX1_canMove) (pc := 1) (v := (-1)) dX1_canMove_1 rfl ?_
  refine r_icmp_ne (μ := mX1_canMove) (pc := 2) (tgt := 17) dX1_canMove_2 (by decide) ⟨fun q2 => ?_, fun q2 => ?_⟩
  · have h := h.1 q2
    refine r_iload_n (μ := mX1_canMove) (pc := 17) dX1_canMove_17 rfl rfl ?_
    have J18 : ∀ x18 : Int32, x18 = (if i1 = (nI 0) then (if i3 ≤ (nI 0) then (nI 0) else (nI 1)) else (if (S.1 L0 0) ≤ i4 then (nI 0) else (nI 1))) → Ev G l mX1_canMove (d + 1) 47 [some (.ref L0), some (.int i1), some (.int i2), some (.int i3), some (.int i4)] [.int x18] S (QI P) := by
      intro x18 e18
      have h := h x18 e18
      exact r_zret (μ := mX1_canMove) (pc := 47) dX1_canMove_47 rfl (by rw [e18]; exact (zb_if (zb_if rfl rfl) (zb_if rfl rfl))) h
    refine r_if_ne (μ := mX1_canMove) (pc := 18) (tgt := 33) dX1_canMove_18 (by decide) ⟨fun q18 => ?_, fun q18 => ?_⟩
    · refine r_iload (μ := mX1_canMove) (pc := 33) dX1_canMove_33 rfl ?_
      refine r_aload_n (μ := mX1_canMove) (pc := 35) dX1_canMove_35 rfl rfl ?_
      refine g_I (μ := mX1_canMove) (pc := 36) fX1_9 dX1_canMove_36 (la_kd hL0) ?_
      refine r_icmp_ge (μ := mX1_canMove) (pc := 39) (tgt := 46) dX1_canMove_39 (by decide) ⟨fun q39 => ?_, fun q39 => ?_⟩
      · refine r_iconst (μ := mX1_canMove) (pc := 46) (v := nI 0) dX1_canMove_46 rfl ?_
        exact J18 _ (by first | (rw [if_neg q18, if_pos q39]; done) | simp only [if_neg q18, if_pos q39])
      · refine r_iconst (μ := mX1_canMove) (pc := 42) (v := nI 1) dX1_canMove_42 rfl ?_
        refine r_goto (μ := mX1_canMove) (pc := 43) (tgt := 47) dX1_canMove_43 (by decide) ?_
        exact J18 _ (by first | (rw [if_neg q18, if_neg q39]; done) | simp only [if_neg q18, if_neg q39])
    · refine r_iload_n (μ := mX1_canMove) (pc := 21) dX1_canMove_21 rfl rfl ?_
      refine r_if_le (μ := mX1_canMove) (pc := 22) (tgt := 29) dX1_canMove_22 (by decide) ⟨fun q22 => ?_, fun q22 => ?_⟩
      · refine r_iconst (μ := mX1_canMove) (pc := 29) (v := nI 0) dX1_canMove_29 rfl ?_
        refine r_goto (μ := mX1_canMove) (pc := 30) (tgt := 47) dX1_canMove_30 (by decide) ?_
        exact J18 _ (by first | (rw [if_pos q18, if_pos q22]; done) | simp only [if_pos q18, if_pos q22])
      · refine r_iconst (μ := mX1_canMove) (pc := 25) (v := nI 1) dX1_canMove_25 rfl ?_
        refine r_goto (μ := mX1_canMove) (pc := 26) (tgt := 47) dX1_canMove_26 (by decide) ?_
        exact J18 _ (by first | (rw [if_pos q18, if_neg q22]; done) | simp only [if_pos q18, if_neg q22])
  · have h := h.2 q2
    refine r_iload (μ := mX1_canMove) (pc := 5) dX1_canMove_5 rfl ?_
    refine r_iload_n (μ := mX1_canMove) (pc := 7) dX1_canMove_7 rfl rfl ?_
    have J8 : ∀ x8 : Int32, x8 = (if i4 ≤ i3 then (nI 0) else (nI 1)) → Ev G l mX1_canMove (d + 1) 16 [some (.ref L0), some (.int i1), some (.int i2), some (.int i3), some (.int i4)] [.int x8] S (QI P) := by
      intro x8 e8
      have h := h x8 e8
      exact r_zret (μ := mX1_canMove) (pc := 16) dX1_canMove_16 rfl (by rw [e8]; exact (zb_if rfl rfl)) h
    refine r_icmp_le (μ := mX1_canMove) (pc := 8) (tgt := 15) dX1_canMove_8 (by decide) ⟨fun q8 => ?_, fun q8 => ?_⟩
    · refine r_iconst (μ := mX1_canMove) (pc := 15) (v := nI 0) dX1_canMove_15 rfl ?_
      exact J8 _ (by first | (rw [if_pos q8]; done) | simp only [if_pos q8])
    · refine r_iconst (μ := mX1_canMove) (pc := 11) (v := nI 1) dX1_canMove_11 rfl ?_
      refine r_goto (μ := mX1_canMove) (pc := 12) (tgt := 16) dX1_canMove_12 (by decide) ?_
      exact J8 _ (by first | (rw [if_neg q8]; done) | simp only [if_neg q8])

set_option maxRecDepth 20000 in
theorem bX1_yearOn_0 {G : Gl} {l : Launch} {d : Nat} {S : Sg} {P : Int32 → Sg → Prop} (L0 : Nat) (hL0 : LandAt L0) (i1 : Int32)
    (h : Ct G l mX4_westOf d [.int i1] S (QI (fun r1 T1 => Ct G l mX4_eastOf d [.int i1] T1 (QI (fun r6 T6 => Ct G l mX1_votesBelonging d [.ref L0, .int r1, .int r6] T6 (QI (fun r13 T13 => Ct G l mX1_votesOfWest d [.ref L0, .int r1, .int r6] T13 (QI (fun r23 T23 => ∀ x26 : Int32, x26 = (if r13 ≤ r23 then (-1) else (nI 1)) → (Ct G l mX1_votesOfEast d [.ref L0, .int r1, .int r6] T23 (QI (fun r41 T41 => ∀ x44 : Int32, x44 = (if r13 ≤ r41 then (-1) else (nI 1)) → (∀ x57 : Int32, x57 = (if x26 = (-1) then (if x44 = (-1) then (if (r6 - r1) = (nI 1) then (nI 1) else (nI 0)) else (nI 0)) else (nI 0)) → (Ct G l mX1_canMove d [.ref L0, .int (nI 0), .int x26, .int r1, .int r6] T41 (QI (fun r86 T86 => ∀ x89 : Int32, x89 = (if r86 = (nI 0) then r1 else (r1 - x26)) → (Ct G l mX1_canMove d [.ref L0, .int (nI 1), .int x44, .int r1, .int r6] T86 (QI (fun r108 T108 => ∀ x111 : Int32, x111 = (if r108 = (nI 0) then r6 else (if x57 = (nI 0) then (r6 + x44) else r6)) → (Ct G l mX4_coastsOf d [.int x89, .int x111] T108 (QI (fun r133 T133 => P r133 T133)))))))))))))))))))))) :
    Ct G l mX1_yearOn (d + 1) [.ref L0, .int i1] S (QI P) := by
  show Ev G l mX1_yearOn (d + 1) 0 [some (.ref L0), some (.int i1), none, none, none, none, none, none, none, none] [] S (QI P)
  refine r_iload_n (μ := mX1_yearOn) (pc := 0) dX1_yearOn_0 rfl rfl ?_
  refine r_callN (μ := mX1_yearOn) (pc := 1) (as := [.int i1]) cX1_116 dX1_yearOn_1 rfl okX4_westOf (Nat.lt_succ_self d) (cat8 (n := 0) rfl (by decide)) rfl h (k_I (fun r1 T1 h => ?_))
  refine r_istore_n (μ := mX1_yearOn) (pc := 4) (ls' := [some (.ref L0), some (.int i1), some (.int r1), none, none, none, none, none, none, none]) dX1_yearOn_4 rfl (Nat.le_of_ble_eq_true rfl) rfl rfl ?_
  refine r_iload_n (μ := mX1_yearOn) (pc := 5) dX1_yearOn_5 rfl rfl ?_
  refine r_callN (μ := mX1_yearOn) (pc := 6) (as := [.int i1]) cX1_119 dX1_yearOn_6 rfl okX4_eastOf (Nat.lt_succ_self d) (cat8 (n := 0) rfl (by decide)) rfl h (k_I (fun r6 T6 h => ?_))
  refine r_istore_n (μ := mX1_yearOn) (pc := 9) (ls' := [some (.ref L0), some (.int i1), some (.int r1), some (.int r6), none, none, none, none, none, none]) dX1_yearOn_9 rfl (Nat.le_of_ble_eq_true rfl) rfl rfl ?_
  refine r_aload_n (μ := mX1_yearOn) (pc := 10) dX1_yearOn_10 rfl rfl ?_
  refine r_iload_n (μ := mX1_yearOn) (pc := 11) dX1_yearOn_11 rfl rfl ?_
  refine r_iload_n (μ := mX1_yearOn) (pc := 12) dX1_yearOn_12 rfl rfl ?_
  refine r_callV (μ := mX1_yearOn) (pc := 13) (as := [.int r1, .int r6]) 1 cX1_122 dX1_yearOn_13 rfl (la_kd hL0) (Nat.le_of_ble_eq_true rfl) rfl okX1_votesBelonging (Nat.lt_succ_self d) (cat8 (n := 0) rfl (by decide)) rfl h (k_I (fun r13 T13 h => ?_))
  refine r_istore (μ := mX1_yearOn) (pc := 16) (ls' := [some (.ref L0), some (.int i1), some (.int r1), some (.int r6), some (.int r13), none, none, none, none, none]) dX1_yearOn_16 (Nat.le_of_ble_eq_true rfl) rfl rfl ?_
  refine r_iload (μ := mX1_yearOn) (pc := 18) dX1_yearOn_18 rfl ?_
  refine r_aload_n (μ := mX1_yearOn) (pc := 20) dX1_yearOn_20 rfl rfl ?_
  refine r_iload_n (μ := mX1_yearOn) (pc := 21) dX1_yearOn_21 rfl rfl ?_
  refine r_iload_n (μ := mX1_yearOn) (pc := 22) dX1_yearOn_22 rfl rfl ?_
  refine r_callV (μ := mX1_yearOn) (pc := 23) (as := [.int r1, .int r6]) 1 cX1_125 dX1_yearOn_23 rfl (la_kd hL0) (Nat.le_of_ble_eq_true rfl) rfl okX1_votesOfWest (Nat.lt_succ_self d) (cat8 (n := 1) rfl (by decide)) rfl h (k_I (fun r23 T23 h => ?_))
  have J26 : ∀ x26 : Int32, x26 = (if r13 ≤ r23 then (-1) else (nI 1)) → Ev G l mX1_yearOn (d + 1) 34 [some (.ref L0), some (.int i1), some (.int r1), some (.int r6), some (.int r13), none, none, none, none, none] [.int x26] T23 (QI P) := by
    intro x26 e26
    have h := h x26 e26
    refine r_istore (μ := mX1_yearOn) (pc := 34) (ls' := [some (.ref L0), some (.int i1), some (.int r1), some (.int r6), some (.int r13), some (.int x26), none, none, none, none]) dX1_yearOn_34 (Nat.le_of_ble_eq_true rfl) rfl rfl ?_
    refine r_iload (μ := mX1_yearOn) (pc := 36) dX1_yearOn_36 rfl ?_
    refine r_aload_n (μ := mX1_yearOn) (pc := 38) dX1_yearOn_38 rfl rfl ?_
    refine r_iload_n (μ := mX1_yearOn) (pc := 39) dX1_yearOn_39 rfl rfl ?_
    refine r_iload_n (μ := mX1_yearOn) (pc := 40) dX1_yearOn_40 rfl rfl ?_
    refine r_callV (μ := mX1_yearOn) (pc := 41) (as := [.int r1, .int r6]) 1 cX1_128 dX1_yearOn_41 rfl (la_kd hL0) (Nat.le_of_ble_eq_true rfl) rfl okX1_votesOfEast (Nat.lt_succ_self d) (cat8 (n := 1) rfl (by decide)) rfl h (k_I (fun r41 T41 h => ?_))
    have J44 : ∀ x44 : Int32, x44 = (if r13 ≤ r41 then (-1) else (nI 1)) → Ev G l mX1_yearOn (d + 1) 52 [some (.ref L0), some (.int i1), some (.int r1), some (.int r6), some (.int r13), some (.int x26), none, none, none, none] [.int x44] T41 (QI P) := by
      intro x44 e44
      have h := h x44 e44
      refine r_istore (μ := mX1_yearOn) (pc := 52) (ls' := [some (.ref L0), some (.int i1), some (.int r1), some (.int r6), some (.int r13), some (.int x26), some (.int x44), none, none, none]) dX1_yearOn_52 (Nat.le_of_ble_eq_true rfl) rfl rfl ?_
      refine r_iload (μ := mX1_yearOn) (pc := 54) dX1_yearOn_54 rfl ?_
      refine r_iconst (μ := mX1_yearOn) (pc := 56) (v := (-1)) dX1_yearOn_56 rfl ?_
      have J57 : ∀ x57 : Int32, x57 = (if x26 = (-1) then (if x44 = (-1) then (if (r6 - r1) = (nI 1) then (nI 1) else (nI 0)) else (nI 0)) else (nI 0)) → Ev G l mX1_yearOn (d + 1) 78 [some (.ref L0), some (.int i1), some (.int r1), some (.int r6), some (.int r13), some (.int x26), some (.int x44), none, none, none] [.int x57] T41 (QI P) := by
        intro x57 e57
        have h := h x57 e57
        refine r_istore (μ := mX1_yearOn) (pc := 78) (ls' := [some (.ref L0), some (.int i1), some (.int r1), some (.int r6), some (.int r13), some (.int x26), some (.int x44), some (.int x57), none, none]) dX1_yearOn_78 (Nat.le_of_ble_eq_true rfl) rfl rfl ?_
        refine r_aload_n (μ := mX1_yearOn) (pc := 80) dX1_yearOn_80 rfl rfl ?_
        refine r_iconst (μ := mX1_yearOn) (pc := 81) (v := nI 0) dX1_yearOn_81 rfl ?_
        refine r_iload (μ := mX1_yearOn) (pc := 82) dX1_yearOn_82 rfl ?_
        refine r_iload_n (μ := mX1_yearOn) (pc := 84) dX1_yearOn_84 rfl rfl ?_
        refine r_iload_n (μ := mX1_yearOn) (pc := 85) dX1_yearOn_85 rfl rfl ?_
        refine r_callV (μ := mX1_yearOn) (pc := 86) (as := [.int (nI 0), .int x26, .int r1, .int r6]) 1 cX1_131 dX1_yearOn_86 rfl (la_kd hL0) (Nat.le_of_ble_eq_true rfl) rfl okX1_canMove (Nat.lt_succ_self d) (cat8 (n := 0) rfl (by decide)) rfl h (k_I (fun r86 T86 h => ?_))
        have J89 : ∀ x89 : Int32, x89 = (if r86 = (nI 0) then r1 else (r1 - x26)) → Ev G l mX1_yearOn (d + 1) 100 [some (.ref L0), some (.int i1), some (.int r1), some (.int r6), some (.int r13), some (.int x26), some (.int x44), some (.int x57), none, none] [.int x89] T86 (QI P) := by
          intro x89 e89
          have h := h x89 e89
          refine r_istore (μ := mX1_yearOn) (pc := 100) (ls' := [some (.ref L0), some (.int i1), some (.int r1), some (.int r6), some (.int r13), some (.int x26), some (.int x44), some (.int x57), some (.int x89), none]) dX1_yearOn_100 (Nat.le_of_ble_eq_true rfl) rfl rfl ?_
          refine r_aload_n (μ := mX1_yearOn) (pc := 102) dX1_yearOn_102 rfl rfl ?_
          refine r_iconst (μ := mX1_yearOn) (pc := 103) (v := nI 1) dX1_yearOn_103 rfl ?_
          refine r_iload (μ := mX1_yearOn) (pc := 104) dX1_yearOn_104 rfl ?_
          refine r_iload_n (μ := mX1_yearOn) (pc := 106) dX1_yearOn_106 rfl rfl ?_
          refine r_iload_n (μ := mX1_yearOn) (pc := 107) dX1_yearOn_107 rfl rfl ?_
          refine r_callV (μ := mX1_yearOn) (pc := 108) (as := [.int (nI 1), .int x44, .int r1, .int r6]) 1 cX1_131 dX1_yearOn_108 rfl (la_kd hL0) (Nat.le_of_ble_eq_true rfl) rfl okX1_canMove (Nat.lt_succ_self d) (cat8 (n := 0) rfl (by decide)) rfl h (k_I (fun r108 T108 h => ?_))
          have J111 : ∀ x111 : Int32, x111 = (if r108 = (nI 0) then r6 else (if x57 = (nI 0) then (r6 + x44) else r6)) → Ev G l mX1_yearOn (d + 1) 127 [some (.ref L0), some (.int i1), some (.int r1), some (.int r6), some (.int r13), some (.int x26), some (.int x44), some (.int x57), some (.int x89), none] [.int x111] T108 (QI P) := by
            intro x111 e111
            have h := h x111 e111
            refine r_istore (μ := mX1_yearOn) (pc := 127) (ls' := [some (.ref L0), some (.int i1), some (.int r1), some (.int r6), some (.int r13), some (.int x26), some (.int x44), some (.int x57), some (.int x89), some (.int x111)]) dX1_yearOn_127 (Nat.le_of_ble_eq_true rfl) rfl rfl ?_
            refine r_iload (μ := mX1_yearOn) (pc := 129) dX1_yearOn_129 rfl ?_
            refine r_iload (μ := mX1_yearOn) (pc := 131) dX1_yearOn_131 rfl ?_
            refine r_callN (μ := mX1_yearOn) (pc := 133) (as := [.int x89, .int x111]) cX1_65 dX1_yearOn_133 rfl okX4_coastsOf (Nat.lt_succ_self d) (cat8 (n := 0) rfl (by decide)) rfl h (k_I (fun r133 T133 h => ?_))
            exact r_iret (μ := mX1_yearOn) (pc := 136) dX1_yearOn_136 rfl h
          refine r_if_eq (μ := mX1_yearOn) (pc := 111) (tgt := 126) dX1_yearOn_111 (by decide) ⟨fun q111 => ?_, fun q111 => ?_⟩
          · refine r_iload_n (μ := mX1_yearOn) (pc := 126) dX1_yearOn_126 rfl rfl ?_
            exact J111 _ (by first | (rw [if_pos q111]; done) | simp only [if_pos q111])
          · refine r_iload (μ := mX1_yearOn) (pc := 114) dX1_yearOn_114 rfl ?_
            refine r_if_ne (μ := mX1_yearOn) (pc := 116) (tgt := 126) dX1_yearOn_116 (by decide) ⟨fun q116 => ?_, fun q116 => ?_⟩
            · refine r_iload_n (μ := mX1_yearOn) (pc := 126) dX1_yearOn_126 rfl rfl ?_
              exact J111 _ (by first | (rw [if_neg q111, if_neg q116]; done) | simp only [if_neg q111, if_neg q116])
            · refine r_iload_n (μ := mX1_yearOn) (pc := 119) dX1_yearOn_119 rfl rfl ?_
              refine r_iload (μ := mX1_yearOn) (pc := 120) dX1_yearOn_120 rfl ?_
              refine r_iadd (μ := mX1_yearOn) (pc := 122) dX1_yearOn_122 ?_
              refine r_goto (μ := mX1_yearOn) (pc := 123) (tgt := 127) dX1_yearOn_123 (by decide) ?_
              exact J111 _ (by first | (rw [if_neg q111, if_pos q116]; done) | simp only [if_neg q111, if_pos q116])
        refine r_if_eq (μ := mX1_yearOn) (pc := 89) (tgt := 99) dX1_yearOn_89 (by decide) ⟨fun q89 => ?_, fun q89 => ?_⟩
        · refine r_iload_n (μ := mX1_yearOn) (pc := 99) dX1_yearOn_99 rfl rfl ?_
          exact J89 _ (by first | (rw [if_pos q89]; done) | simp only [if_pos q89])
        · refine r_iload_n (μ := mX1_yearOn) (pc := 92) dX1_yearOn_92 rfl rfl ?_
          refine r_iload (μ := mX1_yearOn) (pc := 93) dX1_yearOn_93 rfl ?_
          refine r_isub (μ := mX1_yearOn) (pc := 95) dX1_yearOn_95 ?_
          refine r_goto (μ := mX1_yearOn) (pc := 96) (tgt := 100) dX1_yearOn_96 (by decide) ?_
          exact J89 _ (by first | (rw [if_neg q89]; done) | simp only [if_neg q89])
      refine r_icmp_ne (μ := mX1_yearOn) (pc := 57) (tgt := 77) dX1_yearOn_57 (by decide) ⟨fun q57 => ?_, fun q57 => ?_⟩
      · refine r_iconst (μ := mX1_yearOn) (pc := 77) (v := nI 0) dX1_yearOn_77 rfl ?_
        exact J57 _ (by first | (rw [if_neg q57]; done) | simp only [if_neg q57])
      · refine r_iload (μ := mX1_yearOn) (pc := 60) dX1_yearOn_60 rfl ?_
        refine r_iconst (μ := mX1_yearOn) (pc := 62) (v := (-1)) dX1_yearOn_62 rfl ?_
        refine r_icmp_ne (μ := mX1_yearOn) (pc := 63) (tgt := 77) dX1_yearOn_63 (by decide) ⟨fun q63 => ?_, fun q63 => ?_⟩
        · refine r_iconst (μ := mX1_yearOn) (pc := 77) (v := nI 0) dX1_yearOn_77 rfl ?_
          exact J57 _ (by first | (rw [if_pos q57, if_neg q63]; done) | simp only [if_pos q57, if_neg q63])
        · refine r_iload_n (μ := mX1_yearOn) (pc := 66) dX1_yearOn_66 rfl rfl ?_
          refine r_iload_n (μ := mX1_yearOn) (pc := 67) dX1_yearOn_67 rfl rfl ?_
          refine r_isub (μ := mX1_yearOn) (pc := 68) dX1_yearOn_68 ?_
          refine r_iconst (μ := mX1_yearOn) (pc := 69) (v := nI 1) dX1_yearOn_69 rfl ?_
          refine r_icmp_ne (μ := mX1_yearOn) (pc := 70) (tgt := 77) dX1_yearOn_70 (by decide) ⟨fun q70 => ?_, fun q70 => ?_⟩
          · refine r_iconst (μ := mX1_yearOn) (pc := 77) (v := nI 0) dX1_yearOn_77 rfl ?_
            exact J57 _ (by first | (rw [if_pos q57, if_pos q63, if_neg q70]; done) | simp only [if_pos q57, if_pos q63, if_neg q70])
          · refine r_iconst (μ := mX1_yearOn) (pc := 73) (v := nI 1) dX1_yearOn_73 rfl ?_
            refine r_goto (μ := mX1_yearOn) (pc := 74) (tgt := 78) dX1_yearOn_74 (by decide) ?_
            exact J57 _ (by first | (rw [if_pos q57, if_pos q63, if_pos q70]; done) | simp only [if_pos q57, if_pos q63, if_pos q70])
    refine r_icmp_le (μ := mX1_yearOn) (pc := 44) (tgt := 51) dX1_yearOn_44 (by decide) ⟨fun q44 => ?_, fun q44 => ?_⟩
    · refine r_iconst (μ := mX1_yearOn) (pc := 51) (v := (-1)) dX1_yearOn_51 rfl ?_
      exact J44 _ (by first | (rw [if_pos q44]; done) | simp only [if_pos q44])
    · refine r_iconst (μ := mX1_yearOn) (pc := 47) (v := nI 1) dX1_yearOn_47 rfl ?_
      refine r_goto (μ := mX1_yearOn) (pc := 48) (tgt := 52) dX1_yearOn_48 (by decide) ?_
      exact J44 _ (by first | (rw [if_neg q44]; done) | simp only [if_neg q44])
  refine r_icmp_le (μ := mX1_yearOn) (pc := 26) (tgt := 33) dX1_yearOn_26 (by decide) ⟨fun q26 => ?_, fun q26 => ?_⟩
  · refine r_iconst (μ := mX1_yearOn) (pc := 33) (v := (-1)) dX1_yearOn_33 rfl ?_
    exact J26 _ (by first | (rw [if_pos q26]; done) | simp only [if_pos q26])
  · refine r_iconst (μ := mX1_yearOn) (pc := 29) (v := nI 1) dX1_yearOn_29 rfl ?_
    refine r_goto (μ := mX1_yearOn) (pc := 30) (tgt := 34) dX1_yearOn_30 (by decide) ?_
    exact J26 _ (by first | (rw [if_neg q26]; done) | simp only [if_neg q26])

set_option maxRecDepth 20000 in
theorem bX1_act_0 {G : Gl} {l : Launch} {d : Nat} {S : Sg} {P : Sg → Prop} (L0 : Nat) (hL0 : LandAt L0) (i1 : Int32) (i2 : Int32) (i3 : Int32) (i4 : Int32) (i5 : Int32)
    (h : Ct G l mX1_hasRoomFor d [.ref L0, .int (nI 1)] S (QI (fun r2 T2 => (r2 = (nI 0) → P T2) ∧ (¬ (r2 = (nI 0)) → Ct G l mX1_hasOne d [.ref L0, .int i4] T2 (QI (fun r11 T11 => (¬ r11 = (nI 0) → ∃ n37 : Nat, ix (T11.1 (L0 + 6) 5) n37 40 ∧ ∀ S37 : Sg, S37 = (u2 T11.1 (L0 + 6 + 1) n37 i1, T11.2) → (∀ S48 : Sg, S48 = (u2 S37.1 (L0 + 6 + 2) n37 i2, S37.2) → (∀ S59 : Sg, S59 = (u2 S48.1 (L0 + 6 + 3) n37 i3, S48.2) → (∀ S71 : Sg, S71 = (u2 S59.1 (L0 + 6 + 4) n37 i4, S59.2) → (∀ S83 : Sg, S83 = (u2 S71.1 (L0 + 6 + 5) n37 i5, S71.2) → (∀ S92 : Sg, S92 = (u2 S83.1 (L0 + 6) 5 ((T11.1 (L0 + 6) 5) + (nI 1)), S83.2) → (∀ S102 : Sg, S102 = (u2 S92.1 L0 1 ((S92.1 L0 1) + i1), S92.2) → (∀ S112 : Sg, S112 = (u2 S102.1 L0 2 ((S102.1 L0 2) + i2), S102.2) → (∀ S122 : Sg, S122 = (u2 S112.1 L0 7 ((S112.1 L0 7) + i3), S112.2) → (∃ n132 : Nat, ix i4 n132 6 ∧ (∀ S136 : Sg, S136 = (u2 S122.1 (L0 + 2) n132 ((S122.1 (L0 + 2) n132) + i5), S122.2) → (P S136)))))))))))) ∧ (r11 = (nI 0) → P T11))))))) :
    Ct G l mX1_act (d + 1) [.ref L0, .int i1, .int i2, .int i3, .int i4, .int i5] S (QV P) := by
  show Ev G l mX1_act (d + 1) 0 [some (.ref L0), some (.int i1), some (.int i2), some (.int i3), some (.int i4), some (.int i5), none] [] S (QV P)
  refine r_aload_n (μ := mX1_act) (pc := 0) dX1_act_0 rfl rfl ?_
  refine r_iconst (μ := mX1_act) (pc := 1) (v := nI 1) dX1_act_1 rfl ?_
  refine r_callV (μ := mX1_act) (pc := 2) (as := [.int (nI 1)]) 1 cX1_135 dX1_act_2 rfl (la_kd hL0) (Nat.le_of_ble_eq_true rfl) rfl okX1_hasRoomFor (Nat.lt_succ_self d) (cat8 (n := 0) rfl (by decide)) rfl h (k_I (fun r2 T2 h => ?_))
  refine r_if_eq (μ := mX1_act) (pc := 5) (tgt := 17) dX1_act_5 (by decide) ⟨fun q5 => ?_, fun q5 => ?_⟩
  · have h := h.1 q5
    exact r_vret (μ := mX1_act) (pc := 17) dX1_act_17 rfl h
  · have h := h.2 q5
    refine r_aload_n (μ := mX1_act) (pc := 8) dX1_act_8 rfl rfl ?_
    refine r_iload (μ := mX1_act) (pc := 9) dX1_act_9 rfl ?_
    refine r_callV (μ := mX1_act) (pc := 11) (as := [.int i4]) 1 cX1_138 dX1_act_11 rfl (la_kd hL0) (Nat.le_of_ble_eq_true rfl) rfl okX1_hasOne (Nat.lt_succ_self d) (cat8 (n := 0) rfl (by decide)) rfl h (k_I (fun r11 T11 h => ?_))
    refine r_if_ne (μ := mX1_act) (pc := 14) (tgt := 18) dX1_act_14 (by decide) ⟨fun q14 => ?_, fun q14 => ?_⟩
    · have h := h.1 q14
      refine r_aload_n (μ := mX1_act) (pc := 18) dX1_act_18 rfl rfl ?_
      refine g_R (μ := mX1_act) (pc := 19) (k' := L0 + 6) fX1_58 dX1_act_19 (la_kd hL0) (la_rf14 hL0) ?_
      refine g_I (μ := mX1_act) (pc := 22) fX1_62 dX1_act_22 (de_kd (la_deeds hL0)) ?_
      refine r_istore (μ := mX1_act) (pc := 25) (ls' := [some (.ref L0), some (.int i1), some (.int i2), some (.int i3), some (.int i4), some (.int i5), some (.int (T11.1 (L0 + 6) 5))]) dX1_act_25 (Nat.le_of_ble_eq_true rfl) rfl rfl ?_
      refine r_aload_n (μ := mX1_act) (pc := 27) dX1_act_27 rfl rfl ?_
      refine g_R (μ := mX1_act) (pc := 28) (k' := L0 + 6) fX1_58 dX1_act_28 (la_kd hL0) (la_rf14 hL0) ?_
      refine g_R (μ := mX1_act) (pc := 31) (k' := L0 + 6 + 1) fX1_141 dX1_act_31 (de_kd (la_deeds hL0)) (de_rf0 (la_deeds hL0)) ?_
      refine r_iload (μ := mX1_act) (pc := 34) dX1_act_34 rfl ?_
      refine r_iload_n (μ := mX1_act) (pc := 36) dX1_act_36 rfl rfl ?_
      obtain ⟨n37, hx37, h⟩ := h
      refine r_iast (μ := mX1_act) (pc := 37) dX1_act_37 (de_k1 (la_deeds hL0)) (ix_ln hx37 (de_l1 (la_deeds hL0))) ?_
      refine nm_S (fun S37 eS37 => ?_)
      have h := h S37 eS37
      refine r_aload_n (μ := mX1_act) (pc := 38) dX1_act_38 rfl rfl ?_
      refine g_R (μ := mX1_act) (pc := 39) (k' := L0 + 6) fX1_58 dX1_act_39 (la_kd hL0) (la_rf14 hL0) ?_
      refine g_R (μ := mX1_act) (pc := 42) (k' := L0 + 6 + 2) fX1_144 dX1_act_42 (de_kd (la_deeds hL0)) (de_rf1 (la_deeds hL0)) ?_
      refine r_iload (μ := mX1_act) (pc := 45) dX1_act_45 rfl ?_
      refine r_iload_n (μ := mX1_act) (pc := 47) dX1_act_47 rfl rfl ?_
      refine r_iast (μ := mX1_act) (pc := 48) dX1_act_48 (de_k2 (la_deeds hL0)) (ix_ln hx37 (de_l2 (la_deeds hL0))) ?_
      refine nm_S (fun S48 eS48 => ?_)
      have h := h S48 eS48
      refine r_aload_n (μ := mX1_act) (pc := 49) dX1_act_49 rfl rfl ?_
      refine g_R (μ := mX1_act) (pc := 50) (k' := L0 + 6) fX1_58 dX1_act_50 (la_kd hL0) (la_rf14 hL0) ?_
      refine g_R (μ := mX1_act) (pc := 53) (k' := L0 + 6 + 3) fX1_147 dX1_act_53 (de_kd (la_deeds hL0)) (de_rf2 (la_deeds hL0)) ?_
      refine r_iload (μ := mX1_act) (pc := 56) dX1_act_56 rfl ?_
      refine r_iload_n (μ := mX1_act) (pc := 58) dX1_act_58 rfl rfl ?_
      refine r_iast (μ := mX1_act) (pc := 59) dX1_act_59 (de_k3 (la_deeds hL0)) (ix_ln hx37 (de_l3 (la_deeds hL0))) ?_
      refine nm_S (fun S59 eS59 => ?_)
      have h := h S59 eS59
      refine r_aload_n (μ := mX1_act) (pc := 60) dX1_act_60 rfl rfl ?_
      refine g_R (μ := mX1_act) (pc := 61) (k' := L0 + 6) fX1_58 dX1_act_61 (la_kd hL0) (la_rf14 hL0) ?_
      refine g_R (μ := mX1_act) (pc := 64) (k' := L0 + 6 + 4) fX1_150 dX1_act_64 (de_kd (la_deeds hL0)) (de_rf3 (la_deeds hL0)) ?_
      refine r_iload (μ := mX1_act) (pc := 67) dX1_act_67 rfl ?_
      refine r_iload (μ := mX1_act) (pc := 69) dX1_act_69 rfl ?_
      refine r_iast (μ := mX1_act) (pc := 71) dX1_act_71 (de_k4 (la_deeds hL0)) (ix_ln hx37 (de_l4 (la_deeds hL0))) ?_
      refine nm_S (fun S71 eS71 => ?_)
      have h := h S71 eS71
      refine r_aload_n (μ := mX1_act) (pc := 72) dX1_act_72 rfl rfl ?_
      refine g_R (μ := mX1_act) (pc := 73) (k' := L0 + 6) fX1_58 dX1_act_73 (la_kd hL0) (la_rf14 hL0) ?_
      refine g_R (μ := mX1_act) (pc := 76) (k' := L0 + 6 + 5) fX1_153 dX1_act_76 (de_kd (la_deeds hL0)) (de_rf4 (la_deeds hL0)) ?_
      refine r_iload (μ := mX1_act) (pc := 79) dX1_act_79 rfl ?_
      refine r_iload (μ := mX1_act) (pc := 81) dX1_act_81 rfl ?_
      refine r_iast (μ := mX1_act) (pc := 83) dX1_act_83 (de_k5 (la_deeds hL0)) (ix_ln hx37 (de_l5 (la_deeds hL0))) ?_
      refine nm_S (fun S83 eS83 => ?_)
      have h := h S83 eS83
      refine r_aload_n (μ := mX1_act) (pc := 84) dX1_act_84 rfl rfl ?_
      refine g_R (μ := mX1_act) (pc := 85) (k' := L0 + 6) fX1_58 dX1_act_85 (la_kd hL0) (la_rf14 hL0) ?_
      refine r_iload (μ := mX1_act) (pc := 88) dX1_act_88 rfl ?_
      refine r_iconst (μ := mX1_act) (pc := 90) (v := nI 1) dX1_act_90 rfl ?_
      refine r_iadd (μ := mX1_act) (pc := 91) dX1_act_91 ?_
      refine p_I (μ := mX1_act) (pc := 92) fX1_62 wfX1_62 dX1_act_92 (de_kd (la_deeds hL0)) ?_
      refine nm_S (fun S92 eS92 => ?_)
      have h := h S92 eS92
      refine r_aload_n (μ := mX1_act) (pc := 95) dX1_act_95 rfl rfl ?_
      refine r_dup (μ := mX1_act) (pc := 96) dX1_act_96 rfl ?_
      refine g_I (μ := mX1_act) (pc := 97) fX1_15 dX1_act_97 (la_kd hL0) ?_
      refine r_iload_n (μ := mX1_act) (pc := 100) dX1_act_100 rfl rfl ?_
      refine r_iadd (μ := mX1_act) (pc := 101) dX1_act_101 ?_
      refine p_I (μ := mX1_act) (pc := 102) fX1_15 wfX1_15 dX1_act_102 (la_kd hL0) ?_
      refine nm_S (fun S102 eS102 => ?_)
      have h := h S102 eS102
      refine r_aload_n (μ := mX1_act) (pc := 105) dX1_act_105 rfl rfl ?_
      refine r_dup (μ := mX1_act) (pc := 106) dX1_act_106 rfl ?_
      refine g_I (μ := mX1_act) (pc := 107) fX1_18 dX1_act_107 (la_kd hL0) ?_
      refine r_iload_n (μ := mX1_act) (pc := 110) dX1_act_110 rfl rfl ?_
      refine r_iadd (μ := mX1_act) (pc := 111) dX1_act_111 ?_
      refine p_I (μ := mX1_act) (pc := 112) fX1_18 wfX1_18 dX1_act_112 (la_kd hL0) ?_
      refine nm_S (fun S112 eS112 => ?_)
      have h := h S112 eS112
      refine r_aload_n (μ := mX1_act) (pc := 115) dX1_act_115 rfl rfl ?_
      refine r_dup (μ := mX1_act) (pc := 116) dX1_act_116 rfl ?_
      refine g_I (μ := mX1_act) (pc := 117) fX1_33 dX1_act_117 (la_kd hL0) ?_
      refine r_iload_n (μ := mX1_act) (pc := 120) dX1_act_120 rfl rfl ?_
      refine r_iadd (μ := mX1_act) (pc := 121) dX1_act_121 ?_
      refine p_I (μ := mX1_act) (pc := 122) fX1_33 wfX1_33 dX1_act_122 (la_kd hL0) ?_
      refine nm_S (fun S122 eS122 => ?_)
      have h := h S122 eS122
      refine r_aload_n (μ := mX1_act) (pc := 125) dX1_act_125 rfl rfl ?_
      refine g_R (μ := mX1_act) (pc := 126) (k' := L0 + 2) fX1_43 dX1_act_126 (la_kd hL0) (la_rf10 hL0) ?_
      refine r_iload (μ := mX1_act) (pc := 129) dX1_act_129 rfl ?_
      refine r_dup2_11 (μ := mX1_act) (pc := 131) dX1_act_131 rfl rfl ?_
      obtain ⟨n132, hx132, h⟩ := h
      refine r_iald (μ := mX1_act) (pc := 132) dX1_act_132 (la_k2 hL0) (ix_ln hx132 (la_l2 hL0)) ?_
      refine r_iload (μ := mX1_act) (pc := 133) dX1_act_133 rfl ?_
      refine r_iadd (μ := mX1_act) (pc := 135) dX1_act_135 ?_
      refine r_iast (μ := mX1_act) (pc := 136) dX1_act_136 (la_k2 hL0) (ix_ln hx132 (la_l2 hL0)) ?_
      refine nm_S (fun S136 eS136 => ?_)
      have h := h S136 eS136
      exact r_vret (μ := mX1_act) (pc := 137) dX1_act_137 rfl h
    · have h := h.2 q14
      exact r_vret (μ := mX1_act) (pc := 17) dX1_act_17 rfl h

set_option maxRecDepth 20000 in
theorem bX1_takeBack_0 {G : Gl} {l : Launch} {d : Nat} {S : Sg} {P : Sg → Prop} (L0 : Nat) (hL0 : LandAt L0) (i1 : Int32)
    (h : Ev G l mX1_takeBack (d + 1) 2 [some (.ref L0), some (.int i1), some (.int (nI 0)), none] [] S (QV P)) :
    Ct G l mX1_takeBack (d + 1) [.ref L0, .int i1] S (QV P) := by
  show Ev G l mX1_takeBack (d + 1) 0 [some (.ref L0), some (.int i1), none, none] [] S (QV P)
  refine r_iconst (μ := mX1_takeBack) (pc := 0) (v := nI 0) dX1_takeBack_0 rfl ?_
  refine r_istore_n (μ := mX1_takeBack) (pc := 1) (ls' := [some (.ref L0), some (.int i1), some (.int (nI 0)), none]) dX1_takeBack_1 rfl (Nat.le_of_ble_eq_true rfl) rfl rfl ?_
  exact h

set_option maxRecDepth 20000 in
theorem bX1_takeBack_2 {G : Gl} {l : Launch} {d : Nat} {S : Sg} {P : Sg → Prop} (L0 : Nat) (hL0 : LandAt L0) (i1 : Int32) (i2 : Int32)
    (h : (i1 ≤ i2 → P S) ∧ (¬ (i1 ≤ i2) → ((S.1 (L0 + 6) 5) ≤ (nI 0) → P S) ∧ (¬ ((S.1 (L0 + 6) 5) ≤ (nI 0)) → ∃ n40 : Nat, ix ((S.1 (L0 + 6) 5) - (nI 1)) n40 40 ∧ (∀ S42 : Sg, S42 = (u2 S.1 L0 1 ((S.1 L0 1) - (S.1 (L0 + 6 + 1) n40)), S.2) → (∀ S60 : Sg, S60 = (u2 S42.1 L0 2 ((S42.1 L0 2) - (S42.1 (L0 + 6 + 2) n40)), S42.2) → (∀ S78 : Sg, S78 = (u2 S60.1 L0 7 ((S60.1 L0 7) - (S60.1 (L0 + 6 + 3) n40)), S60.2) → (∃ n95 : Nat, ix (S78.1 (L0 + 6 + 4) n40) n95 6 ∧ (∀ S106 : Sg, S106 = (u2 S78.1 (L0 + 2) n95 ((S78.1 (L0 + 2) n95) - (S78.1 (L0 + 6 + 5) n40)), S78.2) → (∀ S112 : Sg, S112 = (u2 S106.1 (L0 + 6) 5 ((S.1 (L0 + 6) 5) - (nI 1)), S106.2) → (Ev G l mX1_takeBack (d + 1) 2 [some (.ref L0), some (.int i1), some (.int (i2 + (nI 1))), none] [] S112 (QV P))))))))))) :
    Ev G l mX1_takeBack (d + 1) 2 [some (.ref L0), some (.int i1), some (.int i2), none] [] S (QV P) := by
  show Ev G l mX1_takeBack (d + 1) 2 [some (.ref L0), some (.int i1), some (.int i2), none] [] S (QV P)
  refine r_iload_n (μ := mX1_takeBack) (pc := 2) dX1_takeBack_2 rfl rfl ?_
  refine r_iload_n (μ := mX1_takeBack) (pc := 3) dX1_takeBack_3 rfl rfl ?_
  refine r_icmp_ge (μ := mX1_takeBack) (pc := 4) (tgt := 121) dX1_takeBack_4 (by decide) ⟨fun q4 => ?_, fun q4 => ?_⟩
  · have h := h.1 q4
    exact r_vret (μ := mX1_takeBack) (pc := 121) dX1_takeBack_121 rfl h
  · have h := h.2 q4
    refine r_aload_n (μ := mX1_takeBack) (pc := 7) dX1_takeBack_7 rfl rfl ?_
    refine g_R (μ := mX1_takeBack) (pc := 8) (k' := L0 + 6) fX1_58 dX1_takeBack_8 (la_kd hL0) (la_rf14 hL0) ?_
    refine g_I (μ := mX1_takeBack) (pc := 11) fX1_62 dX1_takeBack_11 (de_kd (la_deeds hL0)) ?_
    refine r_if_le (μ := mX1_takeBack) (pc := 14) (tgt := 121) dX1_takeBack_14 (by decide) ⟨fun q14 => ?_, fun q14 => ?_⟩
    · have h := h.1 q14
      exact r_vret (μ := mX1_takeBack) (pc := 121) dX1_takeBack_121 rfl h
    · have h := h.2 q14
      refine r_aload_n (μ := mX1_takeBack) (pc := 17) dX1_takeBack_17 rfl rfl ?_
      refine g_R (μ := mX1_takeBack) (pc := 18) (k' := L0 + 6) fX1_58 dX1_takeBack_18 (la_kd hL0) (la_rf14 hL0) ?_
      refine g_I (μ := mX1_takeBack) (pc := 21) fX1_62 dX1_takeBack_21 (de_kd (la_deeds hL0)) ?_
      refine r_iconst (μ := mX1_takeBack) (pc := 24) (v := nI 1) dX1_takeBack_24 rfl ?_
      refine r_isub (μ := mX1_takeBack) (pc := 25) dX1_takeBack_25 ?_
      refine r_istore_n (μ := mX1_takeBack) (pc := 26) (ls' := [some (.ref L0), some (.int i1), some (.int i2), some (.int ((S.1 (L0 + 6) 5) - (nI 1)))]) dX1_takeBack_26 rfl (Nat.le_of_ble_eq_true rfl) rfl rfl ?_
      refine r_aload_n (μ := mX1_takeBack) (pc := 27) dX1_takeBack_27 rfl rfl ?_
      refine r_dup (μ := mX1_takeBack) (pc := 28) dX1_takeBack_28 rfl ?_
      refine g_I (μ := mX1_takeBack) (pc := 29) fX1_15 dX1_takeBack_29 (la_kd hL0) ?_
      refine r_aload_n (μ := mX1_takeBack) (pc := 32) dX1_takeBack_32 rfl rfl ?_
      refine g_R (μ := mX1_takeBack) (pc := 33) (k' := L0 + 6) fX1_58 dX1_takeBack_33 (la_kd hL0) (la_rf14 hL0) ?_
      refine g_R (μ := mX1_takeBack) (pc := 36) (k' := L0 + 6 + 1) fX1_141 dX1_takeBack_36 (de_kd (la_deeds hL0)) (de_rf0 (la_deeds hL0)) ?_
      refine r_iload_n (μ := mX1_takeBack) (pc := 39) dX1_takeBack_39 rfl rfl ?_
      obtain ⟨n40, hx40, h⟩ := h
      refine r_iald (μ := mX1_takeBack) (pc := 40) dX1_takeBack_40 (de_k1 (la_deeds hL0)) (ix_ln hx40 (de_l1 (la_deeds hL0))) ?_
      refine r_isub (μ := mX1_takeBack) (pc := 41) dX1_takeBack_41 ?_
      refine p_I (μ := mX1_takeBack) (pc := 42) fX1_15 wfX1_15 dX1_takeBack_42 (la_kd hL0) ?_
      refine nm_S (fun S42 eS42 => ?_)
      have h := h S42 eS42
      refine r_aload_n (μ := mX1_takeBack) (pc := 45) dX1_takeBack_45 rfl rfl ?_
      refine r_dup (μ := mX1_takeBack) (pc := 46) dX1_takeBack_46 rfl ?_
      refine g_I (μ := mX1_takeBack) (pc := 47) fX1_18 dX1_takeBack_47 (la_kd hL0) ?_
      refine r_aload_n (μ := mX1_takeBack) (pc := 50) dX1_takeBack_50 rfl rfl ?_
      refine g_R (μ := mX1_takeBack) (pc := 51) (k' := L0 + 6) fX1_58 dX1_takeBack_51 (la_kd hL0) (la_rf14 hL0) ?_
      refine g_R (μ := mX1_takeBack) (pc := 54) (k' := L0 + 6 + 2) fX1_144 dX1_takeBack_54 (de_kd (la_deeds hL0)) (de_rf1 (la_deeds hL0)) ?_
      refine r_iload_n (μ := mX1_takeBack) (pc := 57) dX1_takeBack_57 rfl rfl ?_
      refine r_iald (μ := mX1_takeBack) (pc := 58) dX1_takeBack_58 (de_k2 (la_deeds hL0)) (ix_ln hx40 (de_l2 (la_deeds hL0))) ?_
      refine r_isub (μ := mX1_takeBack) (pc := 59) dX1_takeBack_59 ?_
      refine p_I (μ := mX1_takeBack) (pc := 60) fX1_18 wfX1_18 dX1_takeBack_60 (la_kd hL0) ?_
      refine nm_S (fun S60 eS60 => ?_)
      have h := h S60 eS60
      refine r_aload_n (μ := mX1_takeBack) (pc := 63) dX1_takeBack_63 rfl rfl ?_
      refine r_dup (μ := mX1_takeBack) (pc := 64) dX1_takeBack_64 rfl ?_
      refine g_I (μ := mX1_takeBack) (pc := 65) fX1_33 dX1_takeBack_65 (la_kd hL0) ?_
      refine r_aload_n (μ := mX1_takeBack) (pc := 68) dX1_takeBack_68 rfl rfl ?_
      refine g_R (μ := mX1_takeBack) (pc := 69) (k' := L0 + 6) fX1_58 dX1_takeBack_69 (la_kd hL0) (la_rf14 hL0) ?_
      refine g_R (μ := mX1_takeBack) (pc := 72) (k' := L0 + 6 + 3) fX1_147 dX1_takeBack_72 (de_kd (la_deeds hL0)) (de_rf2 (la_deeds hL0)) ?_
      refine r_iload_n (μ := mX1_takeBack) (pc := 75) dX1_takeBack_75 rfl rfl ?_
      refine r_iald (μ := mX1_takeBack) (pc := 76) dX1_takeBack_76 (de_k3 (la_deeds hL0)) (ix_ln hx40 (de_l3 (la_deeds hL0))) ?_
      refine r_isub (μ := mX1_takeBack) (pc := 77) dX1_takeBack_77 ?_
      refine p_I (μ := mX1_takeBack) (pc := 78) fX1_33 wfX1_33 dX1_takeBack_78 (la_kd hL0) ?_
      refine nm_S (fun S78 eS78 => ?_)
      have h := h S78 eS78
      refine r_aload_n (μ := mX1_takeBack) (pc := 81) dX1_takeBack_81 rfl rfl ?_
      refine g_R (μ := mX1_takeBack) (pc := 82) (k' := L0 + 2) fX1_43 dX1_takeBack_82 (la_kd hL0) (la_rf10 hL0) ?_
      refine r_aload_n (μ := mX1_takeBack) (pc := 85) dX1_takeBack_85 rfl rfl ?_
      refine g_R (μ := mX1_takeBack) (pc := 86) (k' := L0 + 6) fX1_58 dX1_takeBack_86 (la_kd hL0) (la_rf14 hL0) ?_
      refine g_R (μ := mX1_takeBack) (pc := 89) (k' := L0 + 6 + 4) fX1_150 dX1_takeBack_89 (de_kd (la_deeds hL0)) (de_rf3 (la_deeds hL0)) ?_
      refine r_iload_n (μ := mX1_takeBack) (pc := 92) dX1_takeBack_92 rfl rfl ?_
      refine r_iald (μ := mX1_takeBack) (pc := 93) dX1_takeBack_93 (de_k4 (la_deeds hL0)) (ix_ln hx40 (de_l4 (la_deeds hL0))) ?_
      refine r_dup2_11 (μ := mX1_takeBack) (pc := 94) dX1_takeBack_94 rfl rfl ?_
      obtain ⟨n95, hx95, h⟩ := h
      refine r_iald (μ := mX1_takeBack) (pc := 95) dX1_takeBack_95 (la_k2 hL0) (ix_ln hx95 (la_l2 hL0)) ?_
      refine r_aload_n (μ := mX1_takeBack) (pc := 96) dX1_takeBack_96 rfl rfl ?_
      refine g_R (μ := mX1_takeBack) (pc := 97) (k' := L0 + 6) fX1_58 dX1_takeBack_97 (la_kd hL0) (la_rf14 hL0) ?_
      refine g_R (μ := mX1_takeBack) (pc := 100) (k' := L0 + 6 + 5) fX1_153 dX1_takeBack_100 (de_kd (la_deeds hL0)) (de_rf4 (la_deeds hL0)) ?_
      refine r_iload_n (μ := mX1_takeBack) (pc := 103) dX1_takeBack_103 rfl rfl ?_
      refine r_iald (μ := mX1_takeBack) (pc := 104) dX1_takeBack_104 (de_k5 (la_deeds hL0)) (ix_ln hx40 (de_l5 (la_deeds hL0))) ?_
      refine r_isub (μ := mX1_takeBack) (pc := 105) dX1_takeBack_105 ?_
      refine r_iast (μ := mX1_takeBack) (pc := 106) dX1_takeBack_106 (la_k2 hL0) (ix_ln hx95 (la_l2 hL0)) ?_
      refine nm_S (fun S106 eS106 => ?_)
      have h := h S106 eS106
      refine r_aload_n (μ := mX1_takeBack) (pc := 107) dX1_takeBack_107 rfl rfl ?_
      refine g_R (μ := mX1_takeBack) (pc := 108) (k' := L0 + 6) fX1_58 dX1_takeBack_108 (la_kd hL0) (la_rf14 hL0) ?_
      refine r_iload_n (μ := mX1_takeBack) (pc := 111) dX1_takeBack_111 rfl rfl ?_
      refine p_I (μ := mX1_takeBack) (pc := 112) fX1_62 wfX1_62 dX1_takeBack_112 (de_kd (la_deeds hL0)) ?_
      refine nm_S (fun S112 eS112 => ?_)
      have h := h S112 eS112
      refine r_iinc (μ := mX1_takeBack) (pc := 115) (y := nI 1) (ls' := [some (.ref L0), some (.int i1), some (.int (i2 + (nI 1))), some (.int ((S.1 (L0 + 6) 5) - (nI 1)))]) dX1_takeBack_115 rfl rfl (Nat.le_of_ble_eq_true rfl) rfl rfl ?_
      refine r_goto (μ := mX1_takeBack) (pc := 118) (tgt := 2) dX1_takeBack_118 (by decide) ?_
      exact Ev.sub (ls' := [some (.ref L0), some (.int i1), some (.int (i2 + (nI 1))), none]) (ls_s (ls_s (ls_s (ls_n ls_0)))) h

set_option maxRecDepth 20000 in
theorem bX1_passYear_0 {G : Gl} {l : Launch} {d : Nat} {S : Sg} {P : Sg → Prop} (L0 : Nat) (hL0 : LandAt L0)
    (h : Ct G l mX1_coasts d [.ref L0] S (QI (fun r2 T2 => Ct G l mX1_yearOn d [.ref L0, .int r2] T2 (QI (fun r5 T5 => Ct G l mX4_westOf d [.int r5] T5 (QI (fun r11 T11 => Ct G l mX4_eastOf d [.int r5] T11 (QI (fun r20 T20 => Ct G l mX1_act d [.ref L0, .int (r11 - (T11.1 L0 1)), .int (r20 - (T20.1 L0 2)), .int (nI 1), .int (nI 0), .int (nI 0)] T20 (QV (fun T31 => P T31))))))))))) :
    Ct G l mX1_passYear (d + 1) [.ref L0] S (QV P) := by
  show Ev G l mX1_passYear (d + 1) 0 [some (.ref L0), none] [] S (QV P)
  refine r_aload_n (μ := mX1_passYear) (pc := 0) dX1_passYear_0 rfl rfl ?_
  refine r_aload_n (μ := mX1_passYear) (pc := 1) dX1_passYear_1 rfl rfl ?_
  refine r_callV (μ := mX1_passYear) (pc := 2) (as := []) 1 cX1_156 dX1_passYear_2 rfl (la_kd hL0) (Nat.le_of_ble_eq_true rfl) rfl okX1_coasts (Nat.lt_succ_self d) (cat8 (n := 1) rfl (by decide)) rfl h (k_I (fun r2 T2 h => ?_))
  refine r_callV (μ := mX1_passYear) (pc := 5) (as := [.int r2]) 1 cX1_160 dX1_passYear_5 rfl (la_kd hL0) (Nat.le_of_ble_eq_true rfl) rfl okX1_yearOn (Nat.lt_succ_self d) (cat8 (n := 0) rfl (by decide)) rfl h (k_I (fun r5 T5 h => ?_))
  refine r_istore_n (μ := mX1_passYear) (pc := 8) (ls' := [some (.ref L0), some (.int r5)]) dX1_passYear_8 rfl (Nat.le_of_ble_eq_true rfl) rfl rfl ?_
  refine r_aload_n (μ := mX1_passYear) (pc := 9) dX1_passYear_9 rfl rfl ?_
  refine r_iload_n (μ := mX1_passYear) (pc := 10) dX1_passYear_10 rfl rfl ?_
  refine r_callN (μ := mX1_passYear) (pc := 11) (as := [.int r5]) cX1_116 dX1_passYear_11 rfl okX4_westOf (Nat.lt_succ_self d) (cat8 (n := 1) rfl (by decide)) rfl h (k_I (fun r11 T11 h => ?_))
  refine r_aload_n (μ := mX1_passYear) (pc := 14) dX1_passYear_14 rfl rfl ?_
  refine g_I (μ := mX1_passYear) (pc := 15) fX1_15 dX1_passYear_15 (la_kd hL0) ?_
  refine r_isub (μ := mX1_passYear) (pc := 18) dX1_passYear_18 ?_
  refine r_iload_n (μ := mX1_passYear) (pc := 19) dX1_passYear_19 rfl rfl ?_
  refine r_callN (μ := mX1_passYear) (pc := 20) (as := [.int r5]) cX1_119 dX1_passYear_20 rfl okX4_eastOf (Nat.lt_succ_self d) (cat8 (n := 2) rfl (by decide)) rfl h (k_I (fun r20 T20 h => ?_))
  refine r_aload_n (μ := mX1_passYear) (pc := 23) dX1_passYear_23 rfl rfl ?_
  refine g_I (μ := mX1_passYear) (pc := 24) fX1_18 dX1_passYear_24 (la_kd hL0) ?_
  refine r_isub (μ := mX1_passYear) (pc := 27) dX1_passYear_27 ?_
  refine r_iconst (μ := mX1_passYear) (pc := 28) (v := nI 1) dX1_passYear_28 rfl ?_
  refine r_iconst (μ := mX1_passYear) (pc := 29) (v := nI 0) dX1_passYear_29 rfl ?_
  refine r_iconst (μ := mX1_passYear) (pc := 30) (v := nI 0) dX1_passYear_30 rfl ?_
  refine r_callV (μ := mX1_passYear) (pc := 31) (as := [.int (r11 - (T11.1 L0 1)), .int (r20 - (T20.1 L0 2)), .int (nI 1), .int (nI 0), .int (nI 0)]) 1 cX1_163 dX1_passYear_31 rfl (la_kd hL0) (Nat.le_of_ble_eq_true rfl) rfl okX1_act (Nat.lt_succ_self d) (cat8 (n := 0) rfl (by decide)) rfl h (k_V (fun T31 h => ?_))
  exact r_vret (μ := mX1_passYear) (pc := 34) dX1_passYear_34 rfl h

set_option maxRecDepth 20000 in
theorem bX1_walkByLot_0 {G : Gl} {l : Launch} {d : Nat} {S : Sg} {P : Sg → Prop} (L0 : Nat) (hL0 : LandAt L0) (i1 : Int32) (i2 : Int32)
    (h : ((nI 0) < (S.1 L0 8) → Ct G l mJ9_floorMod_7cf53 d [.int i1, .int (S.1 L0 8)] S (QI (fun r13 T13 => ∃ n28 : Nat, ix r13 n28 6 ∧ (Ct G l mX1_hasCell d [.ref L0, .int ((T13.1 (L0 + 2) n28) + i2)] T13 (QI (fun r31 T31 => ∀ x34 : Int32, x34 = (if r31 = (nI 0) then (nI 0) else i2) → (Ct G l mX1_act d [.ref L0, .int (nI 0), .int (nI 0), .int (nI 0), .int r13, .int x34] T31 (QV (fun T42 => P T42))))))))) ∧ (¬ ((nI 0) < (S.1 L0 8)) → P S)) :
    Ct G l mX1_walkByLot (d + 1) [.ref L0, .int i1, .int i2] S (QV P) := by
  show Ev G l mX1_walkByLot (d + 1) 0 [some (.ref L0), some (.int i1), some (.int i2), none] [] S (QV P)
  refine r_aload_n (μ := mX1_walkByLot) (pc := 0) dX1_walkByLot_0 rfl rfl ?_
  refine g_I (μ := mX1_walkByLot) (pc := 1) fX1_36 dX1_walkByLot_1 (la_kd hL0) ?_
  refine r_if_gt (μ := mX1_walkByLot) (pc := 4) (tgt := 8) dX1_walkByLot_4 (by decide) ⟨fun q4 => ?_, fun q4 => ?_⟩
  · have h := h.1 q4
    refine r_iload_n (μ := mX1_walkByLot) (pc := 8) dX1_walkByLot_8 rfl rfl ?_
    refine r_aload_n (μ := mX1_walkByLot) (pc := 9) dX1_walkByLot_9 rfl rfl ?_
    refine g_I (μ := mX1_walkByLot) (pc := 10) fX1_36 dX1_walkByLot_10 (la_kd hL0) ?_
    refine r_callS (μ := mX1_walkByLot) (pc := 13) (as := [.int i1, .int (S.1 L0 8)]) cX1_167 dX1_walkByLot_13 rfl okJ9_floorMod_7cf53 (Nat.lt_succ_self d) (cat8 (n := 0) rfl (by decide)) rfl h (k_I (fun r13 T13 h => ?_))
    refine r_istore_n (μ := mX1_walkByLot) (pc := 16) (ls' := [some (.ref L0), some (.int i1), some (.int i2), some (.int r13)]) dX1_walkByLot_16 rfl (Nat.le_of_ble_eq_true rfl) rfl rfl ?_
    refine r_aload_n (μ := mX1_walkByLot) (pc := 17) dX1_walkByLot_17 rfl rfl ?_
    refine r_iconst (μ := mX1_walkByLot) (pc := 18) (v := nI 0) dX1_walkByLot_18 rfl ?_
    refine r_iconst (μ := mX1_walkByLot) (pc := 19) (v := nI 0) dX1_walkByLot_19 rfl ?_
    refine r_iconst (μ := mX1_walkByLot) (pc := 20) (v := nI 0) dX1_walkByLot_20 rfl ?_
    refine r_iload_n (μ := mX1_walkByLot) (pc := 21) dX1_walkByLot_21 rfl rfl ?_
    refine r_aload_n (μ := mX1_walkByLot) (pc := 22) dX1_walkByLot_22 rfl rfl ?_
    refine r_aload_n (μ := mX1_walkByLot) (pc := 23) dX1_walkByLot_23 rfl rfl ?_
    refine g_R (μ := mX1_walkByLot) (pc := 24) (k' := L0 + 2) fX1_43 dX1_walkByLot_24 (la_kd hL0) (la_rf10 hL0) ?_
    refine r_iload_n (μ := mX1_walkByLot) (pc := 27) dX1_walkByLot_27 rfl rfl ?_
    obtain ⟨n28, hx28, h⟩ := h
    refine r_iald (μ := mX1_walkByLot) (pc := 28) dX1_walkByLot_28 (la_k2 hL0) (ix_ln hx28 (la_l2 hL0)) ?_
    refine r_iload_n (μ := mX1_walkByLot) (pc := 29) dX1_walkByLot_29 rfl rfl ?_
    refine r_iadd (μ := mX1_walkByLot) (pc := 30) dX1_walkByLot_30 ?_
    refine r_callV (μ := mX1_walkByLot) (pc := 31) (as := [.int ((T13.1 (L0 + 2) n28) + i2)]) 1 cX1_170 dX1_walkByLot_31 rfl (la_kd hL0) (Nat.le_of_ble_eq_true rfl) rfl okX1_hasCell (Nat.lt_succ_self d) (cat8 (n := 5) rfl (by decide)) rfl h (k_I (fun r31 T31 h => ?_))
    have J34 : ∀ x34 : Int32, x34 = (if r31 = (nI 0) then (nI 0) else i2) → Ev G l mX1_walkByLot (d + 1) 42 [some (.ref L0), some (.int i1), some (.int i2), some (.int r13)] [.int x34, .int r13, .int (nI 0), .int (nI 0), .int (nI 0), .ref L0] T31 (QV P) := by
      intro x34 e34
      have h := h x34 e34
      refine r_callV (μ := mX1_walkByLot) (pc := 42) (as := [.int (nI 0), .int (nI 0), .int (nI 0), .int r13, .int x34]) 1 cX1_163 dX1_walkByLot_42 rfl (la_kd hL0) (Nat.le_of_ble_eq_true rfl) rfl okX1_act (Nat.lt_succ_self d) (cat8 (n := 0) rfl (by decide)) rfl h (k_V (fun T42 h => ?_))
      exact r_vret (μ := mX1_walkByLot) (pc := 45) dX1_walkByLot_45 rfl h
    refine r_if_eq (μ := mX1_walkByLot) (pc := 34) (tgt := 41) dX1_walkByLot_34 (by decide) ⟨fun q34 => ?_, fun q34 => ?_⟩
    · refine r_iconst (μ := mX1_walkByLot) (pc := 41) (v := nI 0) dX1_walkByLot_41 rfl ?_
      exact J34 _ (by first | (rw [if_pos q34]; done) | simp only [if_pos q34])
    · refine r_iload_n (μ := mX1_walkByLot) (pc := 37) dX1_walkByLot_37 rfl rfl ?_
      refine r_goto (μ := mX1_walkByLot) (pc := 38) (tgt := 42) dX1_walkByLot_38 (by decide) ?_
      exact J34 _ (by first | (rw [if_neg q34]; done) | simp only [if_neg q34])
  · have h := h.2 q4
    exact r_vret (μ := mX1_walkByLot) (pc := 7) dX1_walkByLot_7 rfl h

set_option maxRecDepth 20000 in
theorem bX1_enterLong_0 {G : Gl} {l : Launch} {d : Nat} {S : Sg} {P : Int32 → Sg → Prop} (L0 : Nat) (hL0 : LandAt L0) (i1 : Int32)
    (h : (i1 < (S.1 L0 1) → Ev G l mX1_enterLong (d + 1) 18 [some (.ref L0), some (.int i1), none, none] [] S (QI P)) ∧ (¬ (i1 < (S.1 L0 1)) → ((S.1 L0 2) ≤ i1 → Ev G l mX1_enterLong (d + 1) 18 [some (.ref L0), some (.int i1), none, none] [] S (QI P)) ∧ (¬ ((S.1 L0 2) ≤ i1) → P (nI 1) S))) :
    Ct G l mX1_enterLong (d + 1) [.ref L0, .int i1] S (QI P) := by
  show Ev G l mX1_enterLong (d + 1) 0 [some (.ref L0), some (.int i1), none, none] [] S (QI P)
  refine r_aload_n (μ := mX1_enterLong) (pc := 0) dX1_enterLong_0 rfl rfl ?_
  refine g_I (μ := mX1_enterLong) (pc := 1) fX1_15 dX1_enterLong_1 (la_kd hL0) ?_
  refine r_iload_n (μ := mX1_enterLong) (pc := 4) dX1_enterLong_4 rfl rfl ?_
  refine r_icmp_gt (μ := mX1_enterLong) (pc := 5) (tgt := 18) dX1_enterLong_5 (by decide) ⟨fun q5 => ?_, fun q5 => ?_⟩
  · have h := h.1 q5
    exact h
  · have h := h.2 q5
    refine r_iload_n (μ := mX1_enterLong) (pc := 8) dX1_enterLong_8 rfl rfl ?_
    refine r_aload_n (μ := mX1_enterLong) (pc := 9) dX1_enterLong_9 rfl rfl ?_
    refine g_I (μ := mX1_enterLong) (pc := 10) fX1_18 dX1_enterLong_10 (la_kd hL0) ?_
    refine r_icmp_ge (μ := mX1_enterLong) (pc := 13) (tgt := 18) dX1_enterLong_13 (by decide) ⟨fun q13 => ?_, fun q13 => ?_⟩
    · have h := h.1 q13
      exact h
    · have h := h.2 q13
      refine r_iconst (μ := mX1_enterLong) (pc := 16) (v := nI 1) dX1_enterLong_16 rfl ?_
      exact r_iret (μ := mX1_enterLong) (pc := 17) dX1_enterLong_17 rfl h

set_option maxRecDepth 20000 in
theorem bX1_enterLong_18 {G : Gl} {l : Launch} {d : Nat} {S : Sg} {P : Int32 → Sg → Prop} (L0 : Nat) (hL0 : LandAt L0) (i1 : Int32)
    (h : ∀ x23 : Int32, x23 = (if (S.1 L0 1) ≤ i1 then (nI 3) else (nI 2)) → (Ev G l mX1_enterLong (d + 1) 34 [some (.ref L0), some (.int i1), some (.int x23), some (.int (nI 0))] [] S (QI P))) :
    Ev G l mX1_enterLong (d + 1) 18 [some (.ref L0), some (.int i1), none, none] [] S (QI P) := by
  show Ev G l mX1_enterLong (d + 1) 18 [some (.ref L0), some (.int i1), none, none] [] S (QI P)
  refine r_iload_n (μ := mX1_enterLong) (pc := 18) dX1_enterLong_18 rfl rfl ?_
  refine r_aload_n (μ := mX1_enterLong) (pc := 19) dX1_enterLong_19 rfl rfl ?_
  refine g_I (μ := mX1_enterLong) (pc := 20) fX1_15 dX1_enterLong_20 (la_kd hL0) ?_
  have J23 : ∀ x23 : Int32, x23 = (if (S.1 L0 1) ≤ i1 then (nI 3) else (nI 2)) → Ev G l mX1_enterLong (d + 1) 31 [some (.ref L0), some (.int i1), none, none] [.int x23] S (QI P) := by
    intro x23 e23
    have h := h x23 e23
    refine r_istore_n (μ := mX1_enterLong) (pc := 31) (ls' := [some (.ref L0), some (.int i1), some (.int x23), none]) dX1_enterLong_31 rfl (Nat.le_of_ble_eq_true rfl) rfl rfl ?_
    refine r_iconst (μ := mX1_enterLong) (pc := 32) (v := nI 0) dX1_enterLong_32 rfl ?_
    refine r_istore_n (μ := mX1_enterLong) (pc := 33) (ls' := [some (.ref L0), some (.int i1), some (.int x23), some (.int (nI 0))]) dX1_enterLong_33 rfl (Nat.le_of_ble_eq_true rfl) rfl rfl ?_
    exact h
  refine r_icmp_ge (μ := mX1_enterLong) (pc := 23) (tgt := 30) dX1_enterLong_23 (by decide) ⟨fun q23 => ?_, fun q23 => ?_⟩
  · refine r_iconst (μ := mX1_enterLong) (pc := 30) (v := nI 3) dX1_enterLong_30 rfl ?_
    exact J23 _ (by first | (rw [if_pos q23]; done) | simp only [if_pos q23])
  · refine r_iconst (μ := mX1_enterLong) (pc := 26) (v := nI 2) dX1_enterLong_26 rfl ?_
    refine r_goto (μ := mX1_enterLong) (pc := 27) (tgt := 31) dX1_enterLong_27 (by decide) ?_
    exact J23 _ (by first | (rw [if_neg q23]; done) | simp only [if_neg q23])

set_option maxRecDepth 20000 in
theorem bX1_enterLong_34 {G : Gl} {l : Launch} {d : Nat} {S : Sg} {P : Int32 → Sg → Prop} (L0 : Nat) (hL0 : LandAt L0) (i1 : Int32) (i2 : Int32) (i3 : Int32)
    (h : ((S.1 L0 8) ≤ i3 → P i2 S) ∧ (¬ ((S.1 L0 8) ≤ i3) → ∃ n47 : Nat, ix i3 n47 6 ∧ ((¬ (S.1 (L0 + 2) n47) = i1 → Ev G l mX1_enterLong (d + 1) 34 [some (.ref L0), some (.int i1), some (.int i2), some (.int (i3 + (nI 1)))] [] S (QI P)) ∧ ((S.1 (L0 + 2) n47) = i1 → Ct G l mX1_belongs d [.ref L0, .int i3] S (QI (fun r54 T54 => (¬ r54 = (nI 0) → Ev G l mX1_enterLong (d + 1) 34 [some (.ref L0), some (.int i1), some (.int i2), some (.int (i3 + (nI 1)))] [] T54 (QI P)) ∧ (r54 = (nI 0) → P (i2 + (nI 1)) T54))))))) :
    Ev G l mX1_enterLong (d + 1) 34 [some (.ref L0), some (.int i1), some (.int i2), some (.int i3)] [] S (QI P) := by
  show Ev G l mX1_enterLong (d + 1) 34 [some (.ref L0), some (.int i1), some (.int i2), some (.int i3)] [] S (QI P)
  refine r_iload_n (μ := mX1_enterLong) (pc := 34) dX1_enterLong_34 rfl rfl ?_
  refine r_aload_n (μ := mX1_enterLong) (pc := 35) dX1_enterLong_35 rfl rfl ?_
  refine g_I (μ := mX1_enterLong) (pc := 36) fX1_36 dX1_enterLong_36 (la_kd hL0) ?_
  refine r_icmp_ge (μ := mX1_enterLong) (pc := 39) (tgt := 70) dX1_enterLong_39 (by decide) ⟨fun q39 => ?_, fun q39 => ?_⟩
  · have h := h.1 q39
    refine r_iload_n (μ := mX1_enterLong) (pc := 70) dX1_enterLong_70 rfl rfl ?_
    exact r_iret (μ := mX1_enterLong) (pc := 71) dX1_enterLong_71 rfl h
  · have h := h.2 q39
    refine r_aload_n (μ := mX1_enterLong) (pc := 42) dX1_enterLong_42 rfl rfl ?_
    refine g_R (μ := mX1_enterLong) (pc := 43) (k' := L0 + 2) fX1_43 dX1_enterLong_43 (la_kd hL0) (la_rf10 hL0) ?_
    refine r_iload_n (μ := mX1_enterLong) (pc := 46) dX1_enterLong_46 rfl rfl ?_
    obtain ⟨n47, hx47, h⟩ := h
    refine r_iald (μ := mX1_enterLong) (pc := 47) dX1_enterLong_47 (la_k2 hL0) (ix_ln hx47 (la_l2 hL0)) ?_
    refine r_iload_n (μ := mX1_enterLong) (pc := 48) dX1_enterLong_48 rfl rfl ?_
    refine r_icmp_ne (μ := mX1_enterLong) (pc := 49) (tgt := 64) dX1_enterLong_49 (by decide) ⟨fun q49 => ?_, fun q49 => ?_⟩
    · have h := h.1 q49
      refine r_iinc (μ := mX1_enterLong) (pc := 64) (y := nI 1) (ls' := [some (.ref L0), some (.int i1), some (.int i2), some (.int (i3 + (nI 1)))]) dX1_enterLong_64 rfl rfl (Nat.le_of_ble_eq_true rfl) rfl rfl ?_
      refine r_goto (μ := mX1_enterLong) (pc := 67) (tgt := 34) dX1_enterLong_67 (by decide) ?_
      exact h
    · have h := h.2 q49
      refine r_aload_n (μ := mX1_enterLong) (pc := 52) dX1_enterLong_52 rfl rfl ?_
      refine r_iload_n (μ := mX1_enterLong) (pc := 53) dX1_enterLong_53 rfl rfl ?_
      refine r_callV (μ := mX1_enterLong) (pc := 54) (as := [.int i3]) 1 cX1_109 dX1_enterLong_54 rfl (la_kd hL0) (Nat.le_of_ble_eq_true rfl) rfl okX1_belongs (Nat.lt_succ_self d) (cat8 (n := 0) rfl (by decide)) rfl h (k_I (fun r54 T54 h => ?_))
      refine r_if_ne (μ := mX1_enterLong) (pc := 57) (tgt := 64) dX1_enterLong_57 (by decide) ⟨fun q57 => ?_, fun q57 => ?_⟩
      · have h := h.1 q57
        refine r_iinc (μ := mX1_enterLong) (pc := 64) (y := nI 1) (ls' := [some (.ref L0), some (.int i1), some (.int i2), some (.int (i3 + (nI 1)))]) dX1_enterLong_64 rfl rfl (Nat.le_of_ble_eq_true rfl) rfl rfl ?_
        refine r_goto (μ := mX1_enterLong) (pc := 67) (tgt := 34) dX1_enterLong_67 (by decide) ?_
        exact h
      · have h := h.2 q57
        refine r_iload_n (μ := mX1_enterLong) (pc := 60) dX1_enterLong_60 rfl rfl ?_
        refine r_iconst (μ := mX1_enterLong) (pc := 61) (v := nI 1) dX1_enterLong_61 rfl ?_
        refine r_iadd (μ := mX1_enterLong) (pc := 62) dX1_enterLong_62 ?_
        exact r_iret (μ := mX1_enterLong) (pc := 63) dX1_enterLong_63 rfl h

set_option maxRecDepth 20000 in
theorem bX1_wayLong_0 {G : Gl} {l : Launch} {d : Nat} {S : Sg} {P : Int32 → Sg → Prop} (L0 : Nat) (hL0 : LandAt L0) (i1 : Int32) (i2 : Int32)
    (h : Ev G l mX1_wayLong (d + 1) 7 [some (.ref L0), some (.int i1), some (.int i2), some (.int (nI 0)), some (.int (i1 + (nI 1)))] [] S (QI P)) :
    Ct G l mX1_wayLong (d + 1) [.ref L0, .int i1, .int i2] S (QI P) := by
  show Ev G l mX1_wayLong (d + 1) 0 [some (.ref L0), some (.int i1), some (.int i2), none, none] [] S (QI P)
  refine r_iconst (μ := mX1_wayLong) (pc := 0) (v := nI 0) dX1_wayLong_0 rfl ?_
  refine r_istore_n (μ := mX1_wayLong) (pc := 1) (ls' := [some (.ref L0), some (.int i1), some (.int i2), some (.int (nI 0)), none]) dX1_wayLong_1 rfl (Nat.le_of_ble_eq_true rfl) rfl rfl ?_
  refine r_iload_n (μ := mX1_wayLong) (pc := 2) dX1_wayLong_2 rfl rfl ?_
  refine r_iconst (μ := mX1_wayLong) (pc := 3) (v := nI 1) dX1_wayLong_3 rfl ?_
  refine r_iadd (μ := mX1_wayLong) (pc := 4) dX1_wayLong_4 ?_
  refine r_istore (μ := mX1_wayLong) (pc := 5) (ls' := [some (.ref L0), some (.int i1), some (.int i2), some (.int (nI 0)), some (.int (i1 + (nI 1)))]) dX1_wayLong_5 (Nat.le_of_ble_eq_true rfl) rfl rfl ?_
  exact h

set_option maxRecDepth 20000 in
theorem bX1_wayLong_7 {G : Gl} {l : Launch} {d : Nat} {S : Sg} {P : Int32 → Sg → Prop} (L0 : Nat) (hL0 : LandAt L0) (i1 : Int32) (i2 : Int32) (i3 : Int32) (i4 : Int32)
    (h : (i2 < i4 → Ev G l mX1_wayLong (d + 1) 33 [some (.ref L0), some (.int i1), some (.int i2), some (.int i3), some (.int (i1 - (nI 1)))] [] S (QI P)) ∧ (¬ (i2 < i4) → Ct G l mX1_enterLong d [.ref L0, .int i4] S (QI (fun r17 T17 => Ev G l mX1_wayLong (d + 1) 7 [some (.ref L0), some (.int i1), some (.int i2), some (.int (i3 + r17)), some (.int (i4 + (nI 1)))] [] T17 (QI P))))) :
    Ev G l mX1_wayLong (d + 1) 7 [some (.ref L0), some (.int i1), some (.int i2), some (.int i3), some (.int i4)] [] S (QI P) := by
  show Ev G l mX1_wayLong (d + 1) 7 [some (.ref L0), some (.int i1), some (.int i2), some (.int i3), some (.int i4)] [] S (QI P)
  refine r_iload (μ := mX1_wayLong) (pc := 7) dX1_wayLong_7 rfl ?_
  refine r_iload_n (μ := mX1_wayLong) (pc := 9) dX1_wayLong_9 rfl rfl ?_
  refine r_icmp_gt (μ := mX1_wayLong) (pc := 10) (tgt := 28) dX1_wayLong_10 (by decide) ⟨fun q10 => ?_, fun q10 => ?_⟩
  · have h := h.1 q10
    refine r_iload_n (μ := mX1_wayLong) (pc := 28) dX1_wayLong_28 rfl rfl ?_
    refine r_iconst (μ := mX1_wayLong) (pc := 29) (v := nI 1) dX1_wayLong_29 rfl ?_
    refine r_isub (μ := mX1_wayLong) (pc := 30) dX1_wayLong_30 ?_
    refine r_istore (μ := mX1_wayLong) (pc := 31) (ls' := [some (.ref L0), some (.int i1), some (.int i2), some (.int i3), some (.int (i1 - (nI 1)))]) dX1_wayLong_31 (Nat.le_of_ble_eq_true rfl) rfl rfl ?_
    exact h
  · have h := h.2 q10
    refine r_iload_n (μ := mX1_wayLong) (pc := 13) dX1_wayLong_13 rfl rfl ?_
    refine r_aload_n (μ := mX1_wayLong) (pc := 14) dX1_wayLong_14 rfl rfl ?_
    refine r_iload (μ := mX1_wayLong) (pc := 15) dX1_wayLong_15 rfl ?_
    refine r_callV (μ := mX1_wayLong) (pc := 17) (as := [.int i4]) 1 cX1_173 dX1_wayLong_17 rfl (la_kd hL0) (Nat.le_of_ble_eq_true rfl) rfl okX1_enterLong (Nat.lt_succ_self d) (cat8 (n := 1) rfl (by decide)) rfl h (k_I (fun r17 T17 h => ?_))
    refine r_iadd (μ := mX1_wayLong) (pc := 20) dX1_wayLong_20 ?_
    refine r_istore_n (μ := mX1_wayLong) (pc := 21) (ls' := [some (.ref L0), some (.int i1), some (.int i2), some (.int (i3 + r17)), some (.int i4)]) dX1_wayLong_21 rfl (Nat.le_of_ble_eq_true rfl) rfl rfl ?_
    refine r_iinc (μ := mX1_wayLong) (pc := 22) (y := nI 1) (ls' := [some (.ref L0), some (.int i1), some (.int i2), some (.int (i3 + r17)), some (.int (i4 + (nI 1)))]) dX1_wayLong_22 rfl rfl (Nat.le_of_ble_eq_true rfl) rfl rfl ?_
    refine r_goto (μ := mX1_wayLong) (pc := 25) (tgt := 7) dX1_wayLong_25 (by decide) ?_
    exact h

set_option maxRecDepth 20000 in
theorem bX1_wayLong_33 {G : Gl} {l : Launch} {d : Nat} {S : Sg} {P : Int32 → Sg → Prop} (L0 : Nat) (hL0 : LandAt L0) (i1 : Int32) (i2 : Int32) (i3 : Int32) (i4 : Int32)
    (h : (i4 < i2 → P i3 S) ∧ (¬ (i4 < i2) → Ct G l mX1_enterLong d [.ref L0, .int i4] S (QI (fun r43 T43 => Ev G l mX1_wayLong (d + 1) 33 [some (.ref L0), some (.int i1), some (.int i2), some (.int (i3 + r43)), some (.int (i4 + (-1)))] [] T43 (QI P))))) :
    Ev G l mX1_wayLong (d + 1) 33 [some (.ref L0), some (.int i1), some (.int i2), some (.int i3), some (.int i4)] [] S (QI P) := by
  show Ev G l mX1_wayLong (d + 1) 33 [some (.ref L0), some (.int i1), some (.int i2), some (.int i3), some (.int i4)] [] S (QI P)
  refine r_iload (μ := mX1_wayLong) (pc := 33) dX1_wayLong_33 rfl ?_
  refine r_iload_n (μ := mX1_wayLong) (pc := 35) dX1_wayLong_35 rfl rfl ?_
  refine r_icmp_lt (μ := mX1_wayLong) (pc := 36) (tgt := 54) dX1_wayLong_36 (by decide) ⟨fun q36 => ?_, fun q36 => ?_⟩
  · have h := h.1 q36
    refine r_iload_n (μ := mX1_wayLong) (pc := 54) dX1_wayLong_54 rfl rfl ?_
    exact r_iret (μ := mX1_wayLong) (pc := 55) dX1_wayLong_55 rfl h
  · have h := h.2 q36
    refine r_iload_n (μ := mX1_wayLong) (pc := 39) dX1_wayLong_39 rfl rfl ?_
    refine r_aload_n (μ := mX1_wayLong) (pc := 40) dX1_wayLong_40 rfl rfl ?_
    refine r_iload (μ := mX1_wayLong) (pc := 41) dX1_wayLong_41 rfl ?_
    refine r_callV (μ := mX1_wayLong) (pc := 43) (as := [.int i4]) 1 cX1_173 dX1_wayLong_43 rfl (la_kd hL0) (Nat.le_of_ble_eq_true rfl) rfl okX1_enterLong (Nat.lt_succ_self d) (cat8 (n := 1) rfl (by decide)) rfl h (k_I (fun r43 T43 h => ?_))
    refine r_iadd (μ := mX1_wayLong) (pc := 46) dX1_wayLong_46 ?_
    refine r_istore_n (μ := mX1_wayLong) (pc := 47) (ls' := [some (.ref L0), some (.int i1), some (.int i2), some (.int (i3 + r43)), some (.int i4)]) dX1_wayLong_47 rfl (Nat.le_of_ble_eq_true rfl) rfl rfl ?_
    refine r_iinc (μ := mX1_wayLong) (pc := 48) (y := (-1)) (ls' := [some (.ref L0), some (.int i1), some (.int i2), some (.int (i3 + r43)), some (.int (i4 + (-1)))]) dX1_wayLong_48 rfl rfl (Nat.le_of_ble_eq_true rfl) rfl rfl ?_
    refine r_goto (μ := mX1_wayLong) (pc := 51) (tgt := 33) dX1_wayLong_51 (by decide) ?_
    exact h

set_option maxRecDepth 20000 in
theorem bX1_farLong_0 {G : Gl} {l : Launch} {d : Nat} {S : Sg} {P : Int32 → Sg → Prop} (L0 : Nat) (hL0 : LandAt L0) (i1 : Int32)
    (h : Ev G l mX1_farLong (d + 1) 4 [some (.ref L0), some (.int i1), some (.int (nI 0)), some (.int (nI 0))] [] S (QI P)) :
    Ct G l mX1_farLong (d + 1) [.ref L0, .int i1] S (QI P) := by
  show Ev G l mX1_farLong (d + 1) 0 [some (.ref L0), some (.int i1), none, none] [] S (QI P)
  refine r_iconst (μ := mX1_farLong) (pc := 0) (v := nI 0) dX1_farLong_0 rfl ?_
  refine r_istore_n (μ := mX1_farLong) (pc := 1) (ls' := [some (.ref L0), some (.int i1), some (.int (nI 0)), none]) dX1_farLong_1 rfl (Nat.le_of_ble_eq_true rfl) rfl rfl ?_
  refine r_iconst (μ := mX1_farLong) (pc := 2) (v := nI 0) dX1_farLong_2 rfl ?_
  refine r_istore_n (μ := mX1_farLong) (pc := 3) (ls' := [some (.ref L0), some (.int i1), some (.int (nI 0)), some (.int (nI 0))]) dX1_farLong_3 rfl (Nat.le_of_ble_eq_true rfl) rfl rfl ?_
  exact h

set_option maxRecDepth 20000 in
theorem bX1_farLong_4 {G : Gl} {l : Launch} {d : Nat} {S : Sg} {P : Int32 → Sg → Prop} (L0 : Nat) (hL0 : LandAt L0) (i1 : Int32) (i2 : Int32) (i3 : Int32)
    (h : ((S.1 L0 0) ≤ i3 → P i2 S) ∧ (¬ ((S.1 L0 0) ≤ i3) → Ct G l mX1_wayLong d [.ref L0, .int i1, .int i3] S (QI (fun r16 T16 => Ev G l mX1_farLong (d + 1) 4 [some (.ref L0), some (.int i1), some (.int (i2 + r16)), some (.int (i3 + (nI 1)))] [] T16 (QI P))))) :
    Ev G l mX1_farLong (d + 1) 4 [some (.ref L0), some (.int i1), some (.int i2), some (.int i3)] [] S (QI P) := by
  show Ev G l mX1_farLong (d + 1) 4 [some (.ref L0), some (.int i1), some (.int i2), some (.int i3)] [] S (QI P)
  refine r_iload_n (μ := mX1_farLong) (pc := 4) dX1_farLong_4 rfl rfl ?_
  refine r_aload_n (μ := mX1_farLong) (pc := 5) dX1_farLong_5 rfl rfl ?_
  refine g_I (μ := mX1_farLong) (pc := 6) fX1_9 dX1_farLong_6 (la_kd hL0) ?_
  refine r_icmp_ge (μ := mX1_farLong) (pc := 9) (tgt := 27) dX1_farLong_9 (by decide) ⟨fun q9 => ?_, fun q9 => ?_⟩
  · have h := h.1 q9
    refine r_iload_n (μ := mX1_farLong) (pc := 27) dX1_farLong_27 rfl rfl ?_
    exact r_iret (μ := mX1_farLong) (pc := 28) dX1_farLong_28 rfl h
  · have h := h.2 q9
    refine r_iload_n (μ := mX1_farLong) (pc := 12) dX1_farLong_12 rfl rfl ?_
    refine r_aload_n (μ := mX1_farLong) (pc := 13) dX1_farLong_13 rfl rfl ?_
    refine r_iload_n (μ := mX1_farLong) (pc := 14) dX1_farLong_14 rfl rfl ?_
    refine r_iload_n (μ := mX1_farLong) (pc := 15) dX1_farLong_15 rfl rfl ?_
    refine r_callV (μ := mX1_farLong) (pc := 16) (as := [.int i1, .int i3]) 1 cX1_176 dX1_farLong_16 rfl (la_kd hL0) (Nat.le_of_ble_eq_true rfl) rfl okX1_wayLong (Nat.lt_succ_self d) (cat8 (n := 1) rfl (by decide)) rfl h (k_I (fun r16 T16 h => ?_))
    refine r_iadd (μ := mX1_farLong) (pc := 19) dX1_farLong_19 ?_
    refine r_istore_n (μ := mX1_farLong) (pc := 20) (ls' := [some (.ref L0), some (.int i1), some (.int (i2 + r16)), some (.int i3)]) dX1_farLong_20 rfl (Nat.le_of_ble_eq_true rfl) rfl rfl ?_
    refine r_iinc (μ := mX1_farLong) (pc := 21) (y := nI 1) (ls' := [some (.ref L0), some (.int i1), some (.int (i2 + r16)), some (.int (i3 + (nI 1)))]) dX1_farLong_21 rfl rfl (Nat.le_of_ble_eq_true rfl) rfl rfl ?_
    refine r_goto (μ := mX1_farLong) (pc := 24) (tgt := 4) dX1_farLong_24 (by decide) ?_
    exact h

