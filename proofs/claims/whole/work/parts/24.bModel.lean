set_option maxRecDepth 20000 in
theorem bX5_in_0 {G : Gl} {l : Launch} {d : Nat} {S : Sg} {P : Int32 → Sg → Prop} (i0 : Int32) (i1 : Int32) (i2 : Int32)
    (h : ∀ x2 : Int32, x2 = (if i0 < i1 then (nI 0) else (if i2 < i0 then (nI 0) else (nI 1))) → (P x2 S)) :
    Ct G l mX5_in (d + 1) [.int i0, .int i1, .int i2] S (QI P) := by
  show Ev G l mX5_in (d + 1) 0 [some (.int i0), some (.int i1), some (.int i2)] [] S (QI P)
  refine r_iload_n (μ := mX5_in) (pc := 0) dX5_in_0 rfl rfl ?_
  refine r_iload_n (μ := mX5_in) (pc := 1) dX5_in_1 rfl rfl ?_
  have J2 : ∀ x2 : Int32, x2 = (if i0 < i1 then (nI 0) else (if i2 < i0 then (nI 0) else (nI 1))) → Ev G l mX5_in (d + 1) 15 [some (.int i0), some (.int i1), some (.int i2)] [.int x2] S (QI P) := by
    intro x2 e2
    have h := h x2 e2
    exact r_zret (μ := mX5_in) (pc := 15) dX5_in_15 rfl (by rw [e2]; exact (zb_if rfl (zb_if rfl rfl))) h
  refine r_icmp_lt (μ := mX5_in) (pc := 2) (tgt := 14) dX5_in_2 (by decide) ⟨fun q2 => ?_, fun q2 => ?_⟩
  · refine r_iconst (μ := mX5_in) (pc := 14) (v := nI 0) dX5_in_14 rfl ?_
    exact J2 _ (by first | (rw [if_pos q2]; done) | simp only [if_pos q2])
  · refine r_iload_n (μ := mX5_in) (pc := 5) dX5_in_5 rfl rfl ?_
    refine r_iload_n (μ := mX5_in) (pc := 6) dX5_in_6 rfl rfl ?_
    refine r_icmp_gt (μ := mX5_in) (pc := 7) (tgt := 14) dX5_in_7 (by decide) ⟨fun q7 => ?_, fun q7 => ?_⟩
    · refine r_iconst (μ := mX5_in) (pc := 14) (v := nI 0) dX5_in_14 rfl ?_
      exact J2 _ (by first | (rw [if_neg q2, if_pos q7]; done) | simp only [if_neg q2, if_pos q7])
    · refine r_iconst (μ := mX5_in) (pc := 10) (v := nI 1) dX5_in_10 rfl ?_
      refine r_goto (μ := mX5_in) (pc := 11) (tgt := 15) dX5_in_11 (by decide) ?_
      exact J2 _ (by first | (rw [if_neg q2, if_neg q7]; done) | simp only [if_neg q2, if_neg q7])

set_option maxRecDepth 20000 in
theorem bX5_has_0 {G : Gl} {l : Launch} {d : Nat} {S : Sg} {P : Int32 → Sg → Prop} (i0 : Int32) (i1 : Int32)
    (h : ∀ x6 : Int32, x6 = (if ((i0 >>> (i1 &&& 31)) &&& (nI 1)) = (nI 1) then (nI 1) else (nI 0)) → (P x6 S)) :
    Ct G l mX5_has (d + 1) [.int i0, .int i1] S (QI P) := by
  show Ev G l mX5_has (d + 1) 0 [some (.int i0), some (.int i1)] [] S (QI P)
  refine r_iload_n (μ := mX5_has) (pc := 0) dX5_has_0 rfl rfl ?_
  refine r_iload_n (μ := mX5_has) (pc := 1) dX5_has_1 rfl rfl ?_
  refine r_ishr (μ := mX5_has) (pc := 2) dX5_has_2 ?_
  refine r_iconst (μ := mX5_has) (pc := 3) (v := nI 1) dX5_has_3 rfl ?_
  refine r_iand (μ := mX5_has) (pc := 4) dX5_has_4 ?_
  refine r_iconst (μ := mX5_has) (pc := 5) (v := nI 1) dX5_has_5 rfl ?_
  have J6 : ∀ x6 : Int32, x6 = (if ((i0 >>> (i1 &&& 31)) &&& (nI 1)) = (nI 1) then (nI 1) else (nI 0)) → Ev G l mX5_has (d + 1) 14 [some (.int i0), some (.int i1)] [.int x6] S (QI P) := by
    intro x6 e6
    have h := h x6 e6
    exact r_zret (μ := mX5_has) (pc := 14) dX5_has_14 rfl (by rw [e6]; exact (zb_if rfl rfl)) h
  refine r_icmp_ne (μ := mX5_has) (pc := 6) (tgt := 13) dX5_has_6 (by decide) ⟨fun q6 => ?_, fun q6 => ?_⟩
  · refine r_iconst (μ := mX5_has) (pc := 13) (v := nI 0) dX5_has_13 rfl ?_
    exact J6 _ (by first | (rw [if_neg q6]; done) | simp only [if_neg q6])
  · refine r_iconst (μ := mX5_has) (pc := 9) (v := nI 1) dX5_has_9 rfl ?_
    refine r_goto (μ := mX5_has) (pc := 10) (tgt := 14) dX5_has_10 (by decide) ?_
    exact J6 _ (by first | (rw [if_pos q6]; done) | simp only [if_pos q6])

set_option maxRecDepth 20000 in
theorem bX5_ones_0 {G : Gl} {l : Launch} {d : Nat} {S : Sg} {P : Int32 → Sg → Prop} (i0 : Int32)
    (h : Ev G l mX5_ones (d + 1) 4 [some (.int i0), some (.int (nI 0)), some (.int (nI 0))] [] S (QI P)) :
    Ct G l mX5_ones (d + 1) [.int i0] S (QI P) := by
  show Ev G l mX5_ones (d + 1) 0 [some (.int i0), none, none] [] S (QI P)
  refine r_iconst (μ := mX5_ones) (pc := 0) (v := nI 0) dX5_ones_0 rfl ?_
  refine r_istore_n (μ := mX5_ones) (pc := 1) (ls' := [some (.int i0), some (.int (nI 0)), none]) dX5_ones_1 rfl (Nat.le_of_ble_eq_true rfl) rfl rfl ?_
  refine r_iconst (μ := mX5_ones) (pc := 2) (v := nI 0) dX5_ones_2 rfl ?_
  refine r_istore_n (μ := mX5_ones) (pc := 3) (ls' := [some (.int i0), some (.int (nI 0)), some (.int (nI 0))]) dX5_ones_3 rfl (Nat.le_of_ble_eq_true rfl) rfl rfl ?_
  exact h

set_option maxRecDepth 20000 in
theorem bX5_ones_4 {G : Gl} {l : Launch} {d : Nat} {S : Sg} {P : Int32 → Sg → Prop} (i0 : Int32) (i1 : Int32) (i2 : Int32)
    (h : ((nI 24) ≤ i2 → P i1 S) ∧ (¬ ((nI 24) ≤ i2) → Ev G l mX5_ones (d + 1) 4 [some (.int i0), some (.int (i1 + ((i0 >>> (i2 &&& 31)) &&& (nI 1)))), some (.int (i2 + (nI 1)))] [] S (QI P))) :
    Ev G l mX5_ones (d + 1) 4 [some (.int i0), some (.int i1), some (.int i2)] [] S (QI P) := by
  show Ev G l mX5_ones (d + 1) 4 [some (.int i0), some (.int i1), some (.int i2)] [] S (QI P)
  refine r_iload_n (μ := mX5_ones) (pc := 4) dX5_ones_4 rfl rfl ?_
  refine r_bipush (μ := mX5_ones) (pc := 5) (v := nI 24) dX5_ones_5 rfl ?_
  refine r_icmp_ge (μ := mX5_ones) (pc := 7) (tgt := 24) dX5_ones_7 (by decide) ⟨fun q7 => ?_, fun q7 => ?_⟩
  · have h := h.1 q7
    refine r_iload_n (μ := mX5_ones) (pc := 24) dX5_ones_24 rfl rfl ?_
    exact r_iret (μ := mX5_ones) (pc := 25) dX5_ones_25 rfl h
  · have h := h.2 q7
    refine r_iload_n (μ := mX5_ones) (pc := 10) dX5_ones_10 rfl rfl ?_
    refine r_iload_n (μ := mX5_ones) (pc := 11) dX5_ones_11 rfl rfl ?_
    refine r_iload_n (μ := mX5_ones) (pc := 12) dX5_ones_12 rfl rfl ?_
    refine r_ishr (μ := mX5_ones) (pc := 13) dX5_ones_13 ?_
    refine r_iconst (μ := mX5_ones) (pc := 14) (v := nI 1) dX5_ones_14 rfl ?_
    refine r_iand (μ := mX5_ones) (pc := 15) dX5_ones_15 ?_
    refine r_iadd (μ := mX5_ones) (pc := 16) dX5_ones_16 ?_
    refine r_istore_n (μ := mX5_ones) (pc := 17) (ls' := [some (.int i0), some (.int (i1 + ((i0 >>> (i2 &&& 31)) &&& (nI 1)))), some (.int i2)]) dX5_ones_17 rfl (Nat.le_of_ble_eq_true rfl) rfl rfl ?_
    refine r_iinc (μ := mX5_ones) (pc := 18) (y := nI 1) (ls' := [some (.int i0), some (.int (i1 + ((i0 >>> (i2 &&& 31)) &&& (nI 1)))), some (.int (i2 + (nI 1)))]) dX5_ones_18 rfl rfl (Nat.le_of_ble_eq_true rfl) rfl rfl ?_
    refine r_goto (μ := mX5_ones) (pc := 21) (tgt := 4) dX5_ones_21 (by decide) ?_
    exact h

set_option maxRecDepth 20000 in
theorem bX5_off_0 {G : Gl} {l : Launch} {d : Nat} {S : Sg} {P : Int32 → Sg → Prop} (i0 : Int32) (i1 : Int32)
    (h : ∀ x2 : Int32, x2 = (if i0 ≤ i1 then (i1 - i0) else (i0 - i1)) → (P x2 S)) :
    Ct G l mX5_off (d + 1) [.int i0, .int i1] S (QI P) := by
  show Ev G l mX5_off (d + 1) 0 [some (.int i0), some (.int i1)] [] S (QI P)
  refine r_iload_n (μ := mX5_off) (pc := 0) dX5_off_0 rfl rfl ?_
  refine r_iload_n (μ := mX5_off) (pc := 1) dX5_off_1 rfl rfl ?_
  have J2 : ∀ x2 : Int32, x2 = (if i0 ≤ i1 then (i1 - i0) else (i0 - i1)) → Ev G l mX5_off (d + 1) 14 [some (.int i0), some (.int i1)] [.int x2] S (QI P) := by
    intro x2 e2
    have h := h x2 e2
    exact r_iret (μ := mX5_off) (pc := 14) dX5_off_14 rfl h
  refine r_icmp_le (μ := mX5_off) (pc := 2) (tgt := 11) dX5_off_2 (by decide) ⟨fun q2 => ?_, fun q2 => ?_⟩
  · refine r_iload_n (μ := mX5_off) (pc := 11) dX5_off_11 rfl rfl ?_
    refine r_iload_n (μ := mX5_off) (pc := 12) dX5_off_12 rfl rfl ?_
    refine r_isub (μ := mX5_off) (pc := 13) dX5_off_13 ?_
    exact J2 _ (by first | (rw [if_pos q2]; done) | simp only [if_pos q2])
  · refine r_iload_n (μ := mX5_off) (pc := 5) dX5_off_5 rfl rfl ?_
    refine r_iload_n (μ := mX5_off) (pc := 6) dX5_off_6 rfl rfl ?_
    refine r_isub (μ := mX5_off) (pc := 7) dX5_off_7 ?_
    refine r_goto (μ := mX5_off) (pc := 8) (tgt := 14) dX5_off_8 (by decide) ?_
    exact J2 _ (by first | (rw [if_neg q2]; done) | simp only [if_neg q2])

set_option maxRecDepth 20000 in
theorem bX5_finds_0 {G : Gl} {l : Launch} {d : Nat} {S : Sg} {P : Int32 → Sg → Prop} (i1 : Int32)
    (h : ∀ S2 : Sg, S2 = (u2 S.1 7 10 i1, S.2) → (∃ n11 : Nat, ix i1 n11 6 ∧ (∀ S14 : Sg, S14 = (u2 S2.1 97 n11 ((S2.1 97 n11) + (nI 1)), S2.2) → (P (-3) S14)))) :
    Ct G l mX5_finds (d + 1) [.ref 7, .int i1] S (QI P) := by
  show Ev G l mX5_finds (d + 1) 0 [some (.ref 7), some (.int i1)] [] S (QI P)
  refine r_aload_n (μ := mX5_finds) (pc := 0) dX5_finds_0 rfl rfl ?_
  refine r_iload_n (μ := mX5_finds) (pc := 1) dX5_finds_1 rfl rfl ?_
  refine p_I (μ := mX5_finds) (pc := 2) fX5_63 wfX5_63 dX5_finds_2 rfl ?_
  refine nm_S (fun S2 eS2 => ?_)
  have h := h S2 eS2
  refine r_aload_n (μ := mX5_finds) (pc := 5) dX5_finds_5 rfl rfl ?_
  refine g_R (μ := mX5_finds) (pc := 6) (k' := 97) fX5_38 dX5_finds_6 rfl rfl ?_
  refine r_iload_n (μ := mX5_finds) (pc := 9) dX5_finds_9 rfl rfl ?_
  refine r_dup2_11 (μ := mX5_finds) (pc := 10) dX5_finds_10 rfl rfl ?_
  obtain ⟨n11, hx11, h⟩ := h
  refine r_iald (μ := mX5_finds) (pc := 11) dX5_finds_11 rfl hx11 ?_
  refine r_iconst (μ := mX5_finds) (pc := 12) (v := nI 1) dX5_finds_12 rfl ?_
  refine r_iadd (μ := mX5_finds) (pc := 13) dX5_finds_13 ?_
  refine r_iast (μ := mX5_finds) (pc := 14) dX5_finds_14 rfl hx11 ?_
  refine nm_S (fun S14 eS14 => ?_)
  have h := h S14 eS14
  refine r_bipush (μ := mX5_finds) (pc := 15) (v := (-3)) dX5_finds_15 rfl ?_
  exact r_iret (μ := mX5_finds) (pc := 17) dX5_finds_17 rfl h

set_option maxRecDepth 20000 in
theorem bX5_tells_0 {G : Gl} {l : Launch} {d : Nat} {S : Sg} {P : Int32 → Sg → Prop} (i1 : Int32) (i2 : Int32)
    (h : ∀ S2 : Sg, S2 = (u2 S.1 7 11 i2, S.2) → (P i1 S2)) :
    Ct G l mX5_tells (d + 1) [.ref 7, .int i1, .int i2] S (QI P) := by
  show Ev G l mX5_tells (d + 1) 0 [some (.ref 7), some (.int i1), some (.int i2)] [] S (QI P)
  refine r_aload_n (μ := mX5_tells) (pc := 0) dX5_tells_0 rfl rfl ?_
  refine r_iload_n (μ := mX5_tells) (pc := 1) dX5_tells_1 rfl rfl ?_
  refine p_I (μ := mX5_tells) (pc := 2) fX5_67 wfX5_67 dX5_tells_2 rfl ?_
  refine nm_S (fun S2 eS2 => ?_)
  have h := h S2 eS2
  refine r_iload_n (μ := mX5_tells) (pc := 5) dX5_tells_5 rfl rfl ?_
  exact r_iret (μ := mX5_tells) (pc := 6) dX5_tells_6 rfl h

set_option maxRecDepth 20000 in
theorem bX5_tellsParts_0 {G : Gl} {l : Launch} {d : Nat} {S : Sg} {P : Int32 → Sg → Prop} (j1 : Int64) (j3 : Int64)
    (h : Ev G l mX5_tellsParts (d + 1) 6 [some (.ref 7), some (.long j1), none, some (.long j3), none, some (.long j1), none, some (.long j3), none, none, none] [] S (QI P)) :
    Ct G l mX5_tellsParts (d + 1) [.ref 7, .long j1, .long j3] S (QI P) := by
  show Ev G l mX5_tellsParts (d + 1) 0 [some (.ref 7), some (.long j1), none, some (.long j3), none, none, none, none, none, none, none] [] S (QI P)
  refine r_lload_n (μ := mX5_tellsParts) (pc := 0) dX5_tellsParts_0 rfl rfl ?_
  refine r_lstore (μ := mX5_tellsParts) (pc := 1) (ls' := [some (.ref 7), some (.long j1), none, some (.long j3), none, some (.long j1), none, none, none, none, none]) dX5_tellsParts_1 (Nat.le_of_ble_eq_true rfl) rfl rfl ?_
  refine r_lload_n (μ := mX5_tellsParts) (pc := 3) dX5_tellsParts_3 rfl rfl ?_
  refine r_lstore (μ := mX5_tellsParts) (pc := 4) (ls' := [some (.ref 7), some (.long j1), none, some (.long j3), none, some (.long j1), none, some (.long j3), none, none, none]) dX5_tellsParts_4 (Nat.le_of_ble_eq_true rfl) rfl rfl ?_
  exact h

set_option maxRecDepth 20000 in
theorem bX5_tellsParts_6 {G : Gl} {l : Launch} {d : Nat} {S : Sg} {P : Int32 → Sg → Prop} (j1 : Int64) (j3 : Int64) (j5 : Int64) (j7 : Int64)
    (h : ((lg_cmp j7 (lN 0)) = (nI 0) → (¬ j5 = 0) ∧ (∀ S36 : Sg, S36 = (S.1, u2 S.2 7 12 (j1 / j5)) → ((¬ j5 = 0) ∧ (∀ S44 : Sg, S44 = (S36.1, u2 S36.2 7 13 (j3 / j5)) → (P (nI 1) S44))))) ∧ (¬ ((lg_cmp j7 (lN 0)) = (nI 0)) → (¬ j7 = 0) ∧ (Ev G l mX5_tellsParts (d + 1) 6 [some (.ref 7), some (.long j1), none, some (.long j3), none, some (.long j7), none, some (.long (j5 - j5 / j7 * j7)), none, none, none] [] S (QI P)))) :
    Ev G l mX5_tellsParts (d + 1) 6 [some (.ref 7), some (.long j1), none, some (.long j3), none, some (.long j5), none, some (.long j7), none, none, none] [] S (QI P) := by
  show Ev G l mX5_tellsParts (d + 1) 6 [some (.ref 7), some (.long j1), none, some (.long j3), none, some (.long j5), none, some (.long j7), none, none, none] [] S (QI P)
  refine r_lload (μ := mX5_tellsParts) (pc := 6) dX5_tellsParts_6 rfl ?_
  refine r_lconst (μ := mX5_tellsParts) (pc := 8) (v := lN 0) dX5_tellsParts_8 rfl ?_
  refine r_lcmp (μ := mX5_tellsParts) (pc := 9) dX5_tellsParts_9 ?_
  refine r_if_eq (μ := mX5_tellsParts) (pc := 10) (tgt := 31) dX5_tellsParts_10 (by decide) ⟨fun q10 => ?_, fun q10 => ?_⟩
  · have h := h.1 q10
    refine r_aload_n (μ := mX5_tellsParts) (pc := 31) dX5_tellsParts_31 rfl rfl ?_
    refine r_lload_n (μ := mX5_tellsParts) (pc := 32) dX5_tellsParts_32 rfl rfl ?_
    refine r_lload (μ := mX5_tellsParts) (pc := 33) dX5_tellsParts_33 rfl ?_
    obtain ⟨hz35, h⟩ := h
    refine r_ldiv (μ := mX5_tellsParts) (pc := 35) dX5_tellsParts_35 hz35 ?_
    refine p_L (μ := mX5_tellsParts) (pc := 36) fX5_70 wfX5_70 dX5_tellsParts_36 rfl ?_
    refine nm_S (fun S36 eS36 => ?_)
    have h := h S36 eS36
    refine r_aload_n (μ := mX5_tellsParts) (pc := 39) dX5_tellsParts_39 rfl rfl ?_
    refine r_lload_n (μ := mX5_tellsParts) (pc := 40) dX5_tellsParts_40 rfl rfl ?_
    refine r_lload (μ := mX5_tellsParts) (pc := 41) dX5_tellsParts_41 rfl ?_
    obtain ⟨hz43, h⟩ := h
    refine r_ldiv (μ := mX5_tellsParts) (pc := 43) dX5_tellsParts_43 hz43 ?_
    refine p_L (μ := mX5_tellsParts) (pc := 44) fX5_59 wfX5_59 dX5_tellsParts_44 rfl ?_
    refine nm_S (fun S44 eS44 => ?_)
    have h := h S44 eS44
    refine r_iconst (μ := mX5_tellsParts) (pc := 47) (v := nI 1) dX5_tellsParts_47 rfl ?_
    exact r_iret (μ := mX5_tellsParts) (pc := 48) dX5_tellsParts_48 rfl h
  · have h := h.2 q10
    refine r_lload (μ := mX5_tellsParts) (pc := 13) dX5_tellsParts_13 rfl ?_
    refine r_lload (μ := mX5_tellsParts) (pc := 15) dX5_tellsParts_15 rfl ?_
    obtain ⟨hz17, h⟩ := h
    refine r_lrem (μ := mX5_tellsParts) (pc := 17) dX5_tellsParts_17 hz17 ?_
    refine r_lstore (μ := mX5_tellsParts) (pc := 18) (ls' := [some (.ref 7), some (.long j1), none, some (.long j3), none, some (.long j5), none, some (.long j7), none, some (.long (j5 - j5 / j7 * j7)), none]) dX5_tellsParts_18 (Nat.le_of_ble_eq_true rfl) rfl rfl ?_
    refine r_lload (μ := mX5_tellsParts) (pc := 20) dX5_tellsParts_20 rfl ?_
    refine r_lstore (μ := mX5_tellsParts) (pc := 22) (ls' := [some (.ref 7), some (.long j1), none, some (.long j3), none, some (.long j7), none, some (.long j7), none, some (.long (j5 - j5 / j7 * j7)), none]) dX5_tellsParts_22 (Nat.le_of_ble_eq_true rfl) rfl rfl ?_
    refine r_lload (μ := mX5_tellsParts) (pc := 24) dX5_tellsParts_24 rfl ?_
    refine r_lstore (μ := mX5_tellsParts) (pc := 26) (ls' := [some (.ref 7), some (.long j1), none, some (.long j3), none, some (.long j7), none, some (.long (j5 - j5 / j7 * j7)), none, some (.long (j5 - j5 / j7 * j7)), none]) dX5_tellsParts_26 (Nat.le_of_ble_eq_true rfl) rfl rfl ?_
    refine r_goto (μ := mX5_tellsParts) (pc := 28) (tgt := 6) dX5_tellsParts_28 (by decide) ?_
    exact Ev.sub (ls' := [some (.ref 7), some (.long j1), none, some (.long j3), none, some (.long j7), none, some (.long (j5 - j5 / j7 * j7)), none, none, none]) (ls_s (ls_s (ls_n (ls_s (ls_n (ls_s (ls_n (ls_s (ls_n (ls_n (ls_n ls_0))))))))))) h

set_option maxRecDepth 20000 in
theorem bX5_isRow_0 {G : Gl} {l : Launch} {d : Nat} {S : Sg} {P : Int32 → Sg → Prop} (i0 : Int32)
    (h : Ct G l mX5_in d [.int i0, .int (nI 0), .int (nI 5)] S (QI (fun r3 T3 => zb r3 ∧ P r3 T3))) :
    Ct G l mX5_isRow (d + 1) [.int i0] S (QI P) := by
  show Ev G l mX5_isRow (d + 1) 0 [some (.int i0)] [] S (QI P)
  refine r_iload_n (μ := mX5_isRow) (pc := 0) dX5_isRow_0 rfl rfl ?_
  refine r_iconst (μ := mX5_isRow) (pc := 1) (v := nI 0) dX5_isRow_1 rfl ?_
  refine r_iconst (μ := mX5_isRow) (pc := 2) (v := nI 5) dX5_isRow_2 rfl ?_
  refine r_callS (μ := mX5_isRow) (pc := 3) (as := [.int i0, .int (nI 0), .int (nI 5)]) cX5_73 dX5_isRow_3 rfl okX5_in (Nat.lt_succ_self d) (cat8 (n := 0) rfl (by decide)) rfl h (k_I (fun r3 T3 h => ?_))
  obtain ⟨hb6, h⟩ := h
  exact r_zret (μ := mX5_isRow) (pc := 6) dX5_isRow_6 rfl hb6 h

set_option maxRecDepth 20000 in
theorem bX5_isText_0 {G : Gl} {l : Launch} {d : Nat} {S : Sg} {P : Int32 → Sg → Prop} (i0 : Int32)
    (h : Ct G l mX5_in d [.int i0, .int (nI 0), .int (nI 3)] S (QI (fun r3 T3 => zb r3 ∧ P r3 T3))) :
    Ct G l mX5_isText (d + 1) [.int i0] S (QI P) := by
  show Ev G l mX5_isText (d + 1) 0 [some (.int i0)] [] S (QI P)
  refine r_iload_n (μ := mX5_isText) (pc := 0) dX5_isText_0 rfl rfl ?_
  refine r_iconst (μ := mX5_isText) (pc := 1) (v := nI 0) dX5_isText_1 rfl ?_
  refine r_iconst (μ := mX5_isText) (pc := 2) (v := nI 3) dX5_isText_2 rfl ?_
  refine r_callS (μ := mX5_isText) (pc := 3) (as := [.int i0, .int (nI 0), .int (nI 3)]) cX5_73 dX5_isText_3 rfl okX5_in (Nat.lt_succ_self d) (cat8 (n := 0) rfl (by decide)) rfl h (k_I (fun r3 T3 h => ?_))
  obtain ⟨hb6, h⟩ := h
  exact r_zret (μ := mX5_isText) (pc := 6) dX5_isText_6 rfl hb6 h

set_option maxRecDepth 20000 in
theorem bX5_lays_0 {G : Gl} {l : Launch} {d : Nat} {S : Sg} {P : Sg → Prop} (i1 : Int32) (i2 : Int32)
    (h : ∃ n6 : Nat, ix i1 n6 6 ∧ ∀ S6 : Sg, S6 = (u2 S.1 88 n6 i2, S.2) → (Ev G l mX5_lays (d + 1) 9 [some (.ref 7), some (.int i1), some (.int i2), some (.int (nI 0))] [] S6 (QV P))) :
    Ct G l mX5_lays (d + 1) [.ref 7, .int i1, .int i2] S (QV P) := by
  show Ev G l mX5_lays (d + 1) 0 [some (.ref 7), some (.int i1), some (.int i2), none] [] S (QV P)
  refine r_aload_n (μ := mX5_lays) (pc := 0) dX5_lays_0 rfl rfl ?_
  refine g_R (μ := mX5_lays) (pc := 1) (k' := 88) fX5_7 dX5_lays_1 rfl rfl ?_
  refine r_iload_n (μ := mX5_lays) (pc := 4) dX5_lays_4 rfl rfl ?_
  refine r_iload_n (μ := mX5_lays) (pc := 5) dX5_lays_5 rfl rfl ?_
  obtain ⟨n6, hx6, h⟩ := h
  refine r_iast (μ := mX5_lays) (pc := 6) dX5_lays_6 rfl hx6 ?_
  refine nm_S (fun S6 eS6 => ?_)
  have h := h S6 eS6
  refine r_iconst (μ := mX5_lays) (pc := 7) (v := nI 0) dX5_lays_7 rfl ?_
  refine r_istore_n (μ := mX5_lays) (pc := 8) (ls' := [some (.ref 7), some (.int i1), some (.int i2), some (.int (nI 0))]) dX5_lays_8 rfl (Nat.le_of_ble_eq_true rfl) rfl rfl ?_
  exact h

set_option maxRecDepth 20000 in
theorem bX5_lays_9 {G : Gl} {l : Launch} {d : Nat} {S : Sg} {P : Sg → Prop} (i1 : Int32) (i2 : Int32) (i3 : Int32)
    (h : ((nI 40) ≤ i3 → P S) ∧ (¬ ((nI 40) ≤ i3) → ∃ n26 : Nat, ix (((nI 40) * i1) + i3) n26 240 ∧ ∀ S26 : Sg, S26 = (u2 S.1 89 n26 (nI 0), S.2) → (Ev G l mX5_lays (d + 1) 9 [some (.ref 7), some (.int i1), some (.int i2), some (.int (i3 + (nI 1)))] [] S26 (QV P)))) :
    Ev G l mX5_lays (d + 1) 9 [some (.ref 7), some (.int i1), some (.int i2), some (.int i3)] [] S (QV P) := by
  show Ev G l mX5_lays (d + 1) 9 [some (.ref 7), some (.int i1), some (.int i2), some (.int i3)] [] S (QV P)
  refine r_iload_n (μ := mX5_lays) (pc := 9) dX5_lays_9 rfl rfl ?_
  refine r_bipush (μ := mX5_lays) (pc := 10) (v := nI 40) dX5_lays_10 rfl ?_
  refine r_icmp_ge (μ := mX5_lays) (pc := 12) (tgt := 33) dX5_lays_12 (by decide) ⟨fun q12 => ?_, fun q12 => ?_⟩
  · have h := h.1 q12
    exact r_vret (μ := mX5_lays) (pc := 33) dX5_lays_33 rfl h
  · have h := h.2 q12
    refine r_aload_n (μ := mX5_lays) (pc := 15) dX5_lays_15 rfl rfl ?_
    refine g_R (μ := mX5_lays) (pc := 16) (k' := 89) fX5_13 dX5_lays_16 rfl rfl ?_
    refine r_bipush (μ := mX5_lays) (pc := 19) (v := nI 40) dX5_lays_19 rfl ?_
    refine r_iload_n (μ := mX5_lays) (pc := 21) dX5_lays_21 rfl rfl ?_
    refine r_imul (μ := mX5_lays) (pc := 22) dX5_lays_22 ?_
    refine r_iload_n (μ := mX5_lays) (pc := 23) dX5_lays_23 rfl rfl ?_
    refine r_iadd (μ := mX5_lays) (pc := 24) dX5_lays_24 ?_
    refine r_iconst (μ := mX5_lays) (pc := 25) (v := nI 0) dX5_lays_25 rfl ?_
    obtain ⟨n26, hx26, h⟩ := h
    refine r_iast (μ := mX5_lays) (pc := 26) dX5_lays_26 rfl hx26 ?_
    refine nm_S (fun S26 eS26 => ?_)
    have h := h S26 eS26
    refine r_iinc (μ := mX5_lays) (pc := 27) (y := nI 1) (ls' := [some (.ref 7), some (.int i1), some (.int i2), some (.int (i3 + (nI 1)))]) dX5_lays_27 rfl rfl (Nat.le_of_ble_eq_true rfl) rfl rfl ?_
    refine r_goto (μ := mX5_lays) (pc := 30) (tgt := 9) dX5_lays_30 (by decide) ?_
    exact h

set_option maxRecDepth 20000 in
theorem bX5_row_0 {G : Gl} {l : Launch} {d : Nat} {S : Sg} {P : Int32 → Sg → Prop} (i1 : Int32) (i2 : Int32)
    (h : Ct G l mX5_isRow d [.int i1] S (QI (fun r1 T1 => (r1 = (nI 0) → P (-1) T1) ∧ (¬ (r1 = (nI 0)) → (i2 ≤ (nI 40) → ((nI 0) ≤ i2 → Ct G l mX5_lays d [.ref 7, .int i1, .int i2] T1 (QV (fun T28 => P i2 T28))) ∧ (¬ ((nI 0) ≤ i2) → Ct G l mX5_finds d [.ref 7, .int (nI 5)] T1 (QI (fun r21 T21 => P r21 T21)))) ∧ (¬ (i2 ≤ (nI 40)) → P (-1) T1))))) :
    Ct G l mX5_row (d + 1) [.ref 7, .int i1, .int i2] S (QI P) := by
  show Ev G l mX5_row (d + 1) 0 [some (.ref 7), some (.int i1), some (.int i2)] [] S (QI P)
  refine r_iload_n (μ := mX5_row) (pc := 0) dX5_row_0 rfl rfl ?_
  refine r_callS (μ := mX5_row) (pc := 1) (as := [.int i1]) cX5_77 dX5_row_1 rfl okX5_isRow (Nat.lt_succ_self d) (cat8 (n := 0) rfl (by decide)) rfl h (k_I (fun r1 T1 h => ?_))
  refine r_if_eq (μ := mX5_row) (pc := 4) (tgt := 13) dX5_row_4 (by decide) ⟨fun q4 => ?_, fun q4 => ?_⟩
  · have h := h.1 q4
    refine r_iconst (μ := mX5_row) (pc := 13) (v := (-1)) dX5_row_13 rfl ?_
    exact r_iret (μ := mX5_row) (pc := 14) dX5_row_14 rfl h
  · have h := h.2 q4
    refine r_iload_n (μ := mX5_row) (pc := 7) dX5_row_7 rfl rfl ?_
    refine r_bipush (μ := mX5_row) (pc := 8) (v := nI 40) dX5_row_8 rfl ?_
    refine r_icmp_le (μ := mX5_row) (pc := 10) (tgt := 15) dX5_row_10 (by decide) ⟨fun q10 => ?_, fun q10 => ?_⟩
    · have h := h.1 q10
      refine r_iload_n (μ := mX5_row) (pc := 15) dX5_row_15 rfl rfl ?_
      refine r_if_ge (μ := mX5_row) (pc := 16) (tgt := 25) dX5_row_16 (by decide) ⟨fun q16 => ?_, fun q16 => ?_⟩
      · have h := h.1 q16
        refine r_aload_n (μ := mX5_row) (pc := 25) dX5_row_25 rfl rfl ?_
        refine r_iload_n (μ := mX5_row) (pc := 26) dX5_row_26 rfl rfl ?_
        refine r_iload_n (μ := mX5_row) (pc := 27) dX5_row_27 rfl rfl ?_
        refine r_callV (μ := mX5_row) (pc := 28) (as := [.int i1, .int i2]) 5 cX5_85 dX5_row_28 rfl rfl (Nat.le_of_ble_eq_true rfl) rfl okX5_lays (Nat.lt_succ_self d) (cat8 (n := 0) rfl (by decide)) rfl h (k_V (fun T28 h => ?_))
        refine r_iload_n (μ := mX5_row) (pc := 31) dX5_row_31 rfl rfl ?_
        exact r_iret (μ := mX5_row) (pc := 32) dX5_row_32 rfl h
      · have h := h.2 q16
        refine r_aload_n (μ := mX5_row) (pc := 19) dX5_row_19 rfl rfl ?_
        refine r_iconst (μ := mX5_row) (pc := 20) (v := nI 5) dX5_row_20 rfl ?_
        refine r_callV (μ := mX5_row) (pc := 21) (as := [.int (nI 5)]) 5 cX5_81 dX5_row_21 rfl rfl (Nat.le_of_ble_eq_true rfl) rfl okX5_finds (Nat.lt_succ_self d) (cat8 (n := 0) rfl (by decide)) rfl h (k_I (fun r21 T21 h => ?_))
        exact r_iret (μ := mX5_row) (pc := 24) dX5_row_24 rfl h
    · have h := h.2 q10
      refine r_iconst (μ := mX5_row) (pc := 13) (v := (-1)) dX5_row_13 rfl ?_
      exact r_iret (μ := mX5_row) (pc := 14) dX5_row_14 rfl h

set_option maxRecDepth 20000 in
theorem bX5_lay_0 {G : Gl} {l : Launch} {d : Nat} {S : Sg} {P : Int32 → Sg → Prop} (i1 : Int32) (i2 : Int32) (i3 : Int32)
    (h : Ct G l mX5_at d [.ref 7, .int i1, .int i2] S (QI (fun r3 T3 => (¬ r3 = (nI 1) → P r3 T3) ∧ (r3 = (nI 1) → ∃ n25 : Nat, ix (((nI 40) * i1) + i2) n25 240 ∧ ∀ S25 : Sg, S25 = (u2 T3.1 89 n25 i3, T3.2) → (P r3 S25))))) :
    Ct G l mX5_lay (d + 1) [.ref 7, .int i1, .int i2, .int i3] S (QI P) := by
  show Ev G l mX5_lay (d + 1) 0 [some (.ref 7), some (.int i1), some (.int i2), some (.int i3), none] [] S (QI P)
  refine r_aload_n (μ := mX5_lay) (pc := 0) dX5_lay_0 rfl rfl ?_
  refine r_iload_n (μ := mX5_lay) (pc := 1) dX5_lay_1 rfl rfl ?_
  refine r_iload_n (μ := mX5_lay) (pc := 2) dX5_lay_2 rfl rfl ?_
  refine r_callV (μ := mX5_lay) (pc := 3) (as := [.int i1, .int i2]) 5 cX5_89 dX5_lay_3 rfl rfl (Nat.le_of_ble_eq_true rfl) rfl okX5_at (Nat.lt_succ_self d) (cat8 (n := 0) rfl (by decide)) rfl h (k_I (fun r3 T3 h => ?_))
  refine r_istore (μ := mX5_lay) (pc := 6) (ls' := [some (.ref 7), some (.int i1), some (.int i2), some (.int i3), some (.int r3)]) dX5_lay_6 (Nat.le_of_ble_eq_true rfl) rfl rfl ?_
  refine r_iload (μ := mX5_lay) (pc := 8) dX5_lay_8 rfl ?_
  refine r_iconst (μ := mX5_lay) (pc := 10) (v := nI 1) dX5_lay_10 rfl ?_
  refine r_icmp_ne (μ := mX5_lay) (pc := 11) (tgt := 26) dX5_lay_11 (by decide) ⟨fun q11 => ?_, fun q11 => ?_⟩
  · have h := h.1 q11
    refine r_iload (μ := mX5_lay) (pc := 26) dX5_lay_26 rfl ?_
    exact r_iret (μ := mX5_lay) (pc := 28) dX5_lay_28 rfl h
  · have h := h.2 q11
    refine r_aload_n (μ := mX5_lay) (pc := 14) dX5_lay_14 rfl rfl ?_
    refine g_R (μ := mX5_lay) (pc := 15) (k' := 89) fX5_13 dX5_lay_15 rfl rfl ?_
    refine r_bipush (μ := mX5_lay) (pc := 18) (v := nI 40) dX5_lay_18 rfl ?_
    refine r_iload_n (μ := mX5_lay) (pc := 20) dX5_lay_20 rfl rfl ?_
    refine r_imul (μ := mX5_lay) (pc := 21) dX5_lay_21 ?_
    refine r_iload_n (μ := mX5_lay) (pc := 22) dX5_lay_22 rfl rfl ?_
    refine r_iadd (μ := mX5_lay) (pc := 23) dX5_lay_23 ?_
    refine r_iload_n (μ := mX5_lay) (pc := 24) dX5_lay_24 rfl rfl ?_
    obtain ⟨n25, hx25, h⟩ := h
    refine r_iast (μ := mX5_lay) (pc := 25) dX5_lay_25 rfl hx25 ?_
    refine nm_S (fun S25 eS25 => ?_)
    have h := h S25 eS25
    refine r_iload (μ := mX5_lay) (pc := 26) dX5_lay_26 rfl ?_
    exact r_iret (μ := mX5_lay) (pc := 28) dX5_lay_28 rfl h

set_option maxRecDepth 20000 in
theorem bX5_at_0 {G : Gl} {l : Launch} {d : Nat} {S : Sg} {P : Int32 → Sg → Prop} (i1 : Int32) (i2 : Int32)
    (h : Ct G l mX5_isRow d [.int i1] S (QI (fun r1 T1 => (¬ r1 = (nI 0) → ∃ n14 : Nat, ix i1 n14 6 ∧ (((nI 0) ≤ (T1.1 88 n14) → Ct G l mX5_in d [.int i2, .int (nI 0), .int ((T1.1 88 n14) - (nI 1))] T1 (QI (fun r34 T34 => (r34 = (nI 0) → Ct G l mX5_finds d [.ref 7, .int (nI 2)] T34 (QI (fun r61 T61 => P r61 T61))) ∧ (¬ (r34 = (nI 0)) → ∃ n52 : Nat, ix (((nI 40) * i1) + i2) n52 240 ∧ (Ct G l mX5_tells d [.ref 7, .int (nI 1), .int (T34.1 89 n52)] T34 (QI (fun r53 T53 => P r53 T53))))))) ∧ (¬ ((nI 0) ≤ (T1.1 88 n14)) → Ct G l mX5_finds d [.ref 7, .int (nI 1)] T1 (QI (fun r20 T20 => P r20 T20))))) ∧ (r1 = (nI 0) → P (-1) T1)))) :
    Ct G l mX5_at (d + 1) [.ref 7, .int i1, .int i2] S (QI P) := by
  show Ev G l mX5_at (d + 1) 0 [some (.ref 7), some (.int i1), some (.int i2)] [] S (QI P)
  refine r_iload_n (μ := mX5_at) (pc := 0) dX5_at_0 rfl rfl ?_
  refine r_callS (μ := mX5_at) (pc := 1) (as := [.int i1]) cX5_77 dX5_at_1 rfl okX5_isRow (Nat.lt_succ_self d) (cat8 (n := 0) rfl (by decide)) rfl h (k_I (fun r1 T1 h => ?_))
  refine r_if_ne (μ := mX5_at) (pc := 4) (tgt := 9) dX5_at_4 (by decide) ⟨fun q4 => ?_, fun q4 => ?_⟩
  · have h := h.1 q4
    refine r_aload_n (μ := mX5_at) (pc := 9) dX5_at_9 rfl rfl ?_
    refine g_R (μ := mX5_at) (pc := 10) (k' := 88) fX5_7 dX5_at_10 rfl rfl ?_
    refine r_iload_n (μ := mX5_at) (pc := 13) dX5_at_13 rfl rfl ?_
    obtain ⟨n14, hx14, h⟩ := h
    refine r_iald (μ := mX5_at) (pc := 14) dX5_at_14 rfl hx14 ?_
    refine r_if_ge (μ := mX5_at) (pc := 15) (tgt := 24) dX5_at_15 (by decide) ⟨fun q15 => ?_, fun q15 => ?_⟩
    · have h := h.1 q15
      refine r_iload_n (μ := mX5_at) (pc := 24) dX5_at_24 rfl rfl ?_
      refine r_iconst (μ := mX5_at) (pc := 25) (v := nI 0) dX5_at_25 rfl ?_
      refine r_aload_n (μ := mX5_at) (pc := 26) dX5_at_26 rfl rfl ?_
      refine g_R (μ := mX5_at) (pc := 27) (k' := 88) fX5_7 dX5_at_27 rfl rfl ?_
      refine r_iload_n (μ := mX5_at) (pc := 30) dX5_at_30 rfl rfl ?_
      refine r_iald (μ := mX5_at) (pc := 31) dX5_at_31 rfl hx14 ?_
      refine r_iconst (μ := mX5_at) (pc := 32) (v := nI 1) dX5_at_32 rfl ?_
      refine r_isub (μ := mX5_at) (pc := 33) dX5_at_33 ?_
      refine r_callS (μ := mX5_at) (pc := 34) (as := [.int i2, .int (nI 0), .int ((T1.1 88 n14) - (nI 1))]) cX5_73 dX5_at_34 rfl okX5_in (Nat.lt_succ_self d) (cat8 (n := 0) rfl (by decide)) rfl h (k_I (fun r34 T34 h => ?_))
      refine r_if_eq (μ := mX5_at) (pc := 37) (tgt := 59) dX5_at_37 (by decide) ⟨fun q37 => ?_, fun q37 => ?_⟩
      · have h := h.1 q37
        refine r_aload_n (μ := mX5_at) (pc := 59) dX5_at_59 rfl rfl ?_
        refine r_iconst (μ := mX5_at) (pc := 60) (v := nI 2) dX5_at_60 rfl ?_
        refine r_callV (μ := mX5_at) (pc := 61) (as := [.int (nI 2)]) 5 cX5_81 dX5_at_61 rfl rfl (Nat.le_of_ble_eq_true rfl) rfl okX5_finds (Nat.lt_succ_self d) (cat8 (n := 0) rfl (by decide)) rfl h (k_I (fun r61 T61 h => ?_))
        exact r_iret (μ := mX5_at) (pc := 64) dX5_at_64 rfl h
      · have h := h.2 q37
        refine r_aload_n (μ := mX5_at) (pc := 40) dX5_at_40 rfl rfl ?_
        refine r_iconst (μ := mX5_at) (pc := 41) (v := nI 1) dX5_at_41 rfl ?_
        refine r_aload_n (μ := mX5_at) (pc := 42) dX5_at_42 rfl rfl ?_
        refine g_R (μ := mX5_at) (pc := 43) (k' := 89) fX5_13 dX5_at_43 rfl rfl ?_
        refine r_bipush (μ := mX5_at) (pc := 46) (v := nI 40) dX5_at_46 rfl ?_
        refine r_iload_n (μ := mX5_at) (pc := 48) dX5_at_48 rfl rfl ?_
        refine r_imul (μ := mX5_at) (pc := 49) dX5_at_49 ?_
        refine r_iload_n (μ := mX5_at) (pc := 50) dX5_at_50 rfl rfl ?_
        refine r_iadd (μ := mX5_at) (pc := 51) dX5_at_51 ?_
        obtain ⟨n52, hx52, h⟩ := h
        refine r_iald (μ := mX5_at) (pc := 52) dX5_at_52 rfl hx52 ?_
        refine r_callV (μ := mX5_at) (pc := 53) (as := [.int (nI 1), .int (T34.1 89 n52)]) 5 cX5_93 dX5_at_53 rfl rfl (Nat.le_of_ble_eq_true rfl) rfl okX5_tells (Nat.lt_succ_self d) (cat8 (n := 0) rfl (by decide)) rfl h (k_I (fun r53 T53 h => ?_))
        refine r_goto (μ := mX5_at) (pc := 56) (tgt := 64) dX5_at_56 (by decide) ?_
        exact r_iret (μ := mX5_at) (pc := 64) dX5_at_64 rfl h
    · have h := h.2 q15
      refine r_aload_n (μ := mX5_at) (pc := 18) dX5_at_18 rfl rfl ?_
      refine r_iconst (μ := mX5_at) (pc := 19) (v := nI 1) dX5_at_19 rfl ?_
      refine r_callV (μ := mX5_at) (pc := 20) (as := [.int (nI 1)]) 5 cX5_81 dX5_at_20 rfl rfl (Nat.le_of_ble_eq_true rfl) rfl okX5_finds (Nat.lt_succ_self d) (cat8 (n := 0) rfl (by decide)) rfl h (k_I (fun r20 T20 h => ?_))
      exact r_iret (μ := mX5_at) (pc := 23) dX5_at_23 rfl h
  · have h := h.2 q4
    refine r_iconst (μ := mX5_at) (pc := 7) (v := (-1)) dX5_at_7 rfl ?_
    exact r_iret (μ := mX5_at) (pc := 8) dX5_at_8 rfl h

set_option maxRecDepth 20000 in
theorem bX5_tear_0 {G : Gl} {l : Launch} {d : Nat} {S : Sg} {P : Int32 → Sg → Prop} (i1 : Int32)
    (h : Ct G l mX5_isRow d [.int i1] S (QI (fun r1 T1 => (¬ r1 = (nI 0) → ∃ n14 : Nat, ix i1 n14 6 ∧ (((nI 0) ≤ (T1.1 88 n14) → ∀ S30 : Sg, S30 = (u2 T1.1 88 n14 (-1), T1.2) → (P (nI 1) S30)) ∧ (¬ ((nI 0) ≤ (T1.1 88 n14)) → Ct G l mX5_finds d [.ref 7, .int (nI 1)] T1 (QI (fun r20 T20 => P r20 T20))))) ∧ (r1 = (nI 0) → P (-1) T1)))) :
    Ct G l mX5_tear (d + 1) [.ref 7, .int i1] S (QI P) := by
  show Ev G l mX5_tear (d + 1) 0 [some (.ref 7), some (.int i1)] [] S (QI P)
  refine r_iload_n (μ := mX5_tear) (pc := 0) dX5_tear_0 rfl rfl ?_
  refine r_callS (μ := mX5_tear) (pc := 1) (as := [.int i1]) cX5_77 dX5_tear_1 rfl okX5_isRow (Nat.lt_succ_self d) (cat8 (n := 0) rfl (by decide)) rfl h (k_I (fun r1 T1 h => ?_))
  refine r_if_ne (μ := mX5_tear) (pc := 4) (tgt := 9) dX5_tear_4 (by decide) ⟨fun q4 => ?_, fun q4 => ?_⟩
  · have h := h.1 q4
    refine r_aload_n (μ := mX5_tear) (pc := 9) dX5_tear_9 rfl rfl ?_
    refine g_R (μ := mX5_tear) (pc := 10) (k' := 88) fX5_7 dX5_tear_10 rfl rfl ?_
    refine r_iload_n (μ := mX5_tear) (pc := 13) dX5_tear_13 rfl rfl ?_
    obtain ⟨n14, hx14, h⟩ := h
    refine r_iald (μ := mX5_tear) (pc := 14) dX5_tear_14 rfl hx14 ?_
    refine r_if_ge (μ := mX5_tear) (pc := 15) (tgt := 24) dX5_tear_15 (by decide) ⟨fun q15 => ?_, fun q15 => ?_⟩
    · have h := h.1 q15
      refine r_aload_n (μ := mX5_tear) (pc := 24) dX5_tear_24 rfl rfl ?_
      refine g_R (μ := mX5_tear) (pc := 25) (k' := 88) fX5_7 dX5_tear_25 rfl rfl ?_
      refine r_iload_n (μ := mX5_tear) (pc := 28) dX5_tear_28 rfl rfl ?_
      refine r_iconst (μ := mX5_tear) (pc := 29) (v := (-1)) dX5_tear_29 rfl ?_
      refine r_iast (μ := mX5_tear) (pc := 30) dX5_tear_30 rfl hx14 ?_
      refine nm_S (fun S30 eS30 => ?_)
      have h := h S30 eS30
      refine r_iconst (μ := mX5_tear) (pc := 31) (v := nI 1) dX5_tear_31 rfl ?_
      exact r_iret (μ := mX5_tear) (pc := 32) dX5_tear_32 rfl h
    · have h := h.2 q15
      refine r_aload_n (μ := mX5_tear) (pc := 18) dX5_tear_18 rfl rfl ?_
      refine r_iconst (μ := mX5_tear) (pc := 19) (v := nI 1) dX5_tear_19 rfl ?_
      refine r_callV (μ := mX5_tear) (pc := 20) (as := [.int (nI 1)]) 5 cX5_81 dX5_tear_20 rfl rfl (Nat.le_of_ble_eq_true rfl) rfl okX5_finds (Nat.lt_succ_self d) (cat8 (n := 0) rfl (by decide)) rfl h (k_I (fun r20 T20 h => ?_))
      exact r_iret (μ := mX5_tear) (pc := 23) dX5_tear_23 rfl h
  · have h := h.2 q4
    refine r_iconst (μ := mX5_tear) (pc := 7) (v := (-1)) dX5_tear_7 rfl ?_
    exact r_iret (μ := mX5_tear) (pc := 8) dX5_tear_8 rfl h

set_option maxRecDepth 20000 in
theorem bX5_copy_0 {G : Gl} {l : Launch} {d : Nat} {S : Sg} {P : Int32 → Sg → Prop} (i1 : Int32) (i2 : Int32) (i3 : Int32) (i4 : Int32) (i5 : Int32)
    (h : Ct G l mX5_isRow d [.int i1] S (QI (fun r1 T1 => (r1 = (nI 0) → P (-1) T1) ∧ (¬ (r1 = (nI 0)) → Ct G l mX5_isRow d [.int i3] T1 (QI (fun r8 T8 => (¬ r8 = (nI 0) → ((nI 0) ≤ i5 → ∃ n32 : Nat, ix i1 n32 6 ∧ (((T8.1 88 n32) < (nI 0) → Ev G l mX5_copy (d + 1) 45 [some (.ref 7), some (.int i1), some (.int i2), some (.int i3), some (.int i4), some (.int i5), none] [] T8 (QI P)) ∧ (¬ ((T8.1 88 n32) < (nI 0)) → ∃ n41 : Nat, ix i3 n41 6 ∧ (((nI 0) ≤ (T8.1 88 n41) → (i2 < (nI 0) → Ev G l mX5_copy (d + 1) 95 [some (.ref 7), some (.int i1), some (.int i2), some (.int i3), some (.int i4), some (.int i5), none] [] T8 (QI P)) ∧ (¬ (i2 < (nI 0)) → (i4 < (nI 0) → Ev G l mX5_copy (d + 1) 95 [some (.ref 7), some (.int i1), some (.int i2), some (.int i3), some (.int i4), some (.int i5), none] [] T8 (QI P)) ∧ (¬ (i4 < (nI 0)) → ((nI 0) < (lg_cmp (((i2).toInt64) + ((i5).toInt64)) ((T8.1 88 n32).toInt64)) → Ev G l mX5_copy (d + 1) 95 [some (.ref 7), some (.int i1), some (.int i2), some (.int i3), some (.int i4), some (.int i5), none] [] T8 (QI P)) ∧ (¬ ((nI 0) < (lg_cmp (((i2).toInt64) + ((i5).toInt64)) ((T8.1 88 n32).toInt64))) → ((lg_cmp (((i4).toInt64) + ((i5).toInt64)) ((T8.1 88 n41).toInt64)) ≤ (nI 0) → Ev G l mX5_copy (d + 1) 104 [some (.ref 7), some (.int i1), some (.int i2), some (.int i3), some (.int i4), some (.int i5), some (.int (nI 0))] [] T8 (QI P)) ∧ (¬ ((lg_cmp (((i4).toInt64) + ((i5).toInt64)) ((T8.1 88 n41).toInt64)) ≤ (nI 0)) → Ev G l mX5_copy (d + 1) 95 [some (.ref 7), some (.int i1), some (.int i2), some (.int i3), some (.int i4), some (.int i5), none] [] T8 (QI P)))))) ∧ (¬ ((nI 0) ≤ (T8.1 88 n41)) → Ev G l mX5_copy (d + 1) 45 [some (.ref 7), some (.int i1), some (.int i2), some (.int i3), some (.int i4), some (.int i5), none] [] T8 (QI P)))))) ∧ (¬ ((nI 0) ≤ i5) → Ct G l mX5_finds d [.ref 7, .int (nI 5)] T8 (QI (fun r23 T23 => P r23 T23)))) ∧ (r8 = (nI 0) → P (-1) T8))))))) :
    Ct G l mX5_copy (d + 1) [.ref 7, .int i1, .int i2, .int i3, .int i4, .int i5] S (QI P) := by
  show Ev G l mX5_copy (d + 1) 0 [some (.ref 7), some (.int i1), some (.int i2), some (.int i3), some (.int i4), some (.int i5), none] [] S (QI P)
  refine r_iload_n (μ := mX5_copy) (pc := 0) dX5_copy_0 rfl rfl ?_
  refine r_callS (μ := mX5_copy) (pc := 1) (as := [.int i1]) cX5_77 dX5_copy_1 rfl okX5_isRow (Nat.lt_succ_self d) (cat8 (n := 0) rfl (by decide)) rfl h (k_I (fun r1 T1 h => ?_))
  refine r_if_eq (μ := mX5_copy) (pc := 4) (tgt := 14) dX5_copy_4 (by decide) ⟨fun q4 => ?_, fun q4 => ?_⟩
  · have h := h.1 q4
    refine r_iconst (μ := mX5_copy) (pc := 14) (v := (-1)) dX5_copy_14 rfl ?_
    exact r_iret (μ := mX5_copy) (pc := 15) dX5_copy_15 rfl h
  · have h := h.2 q4
    refine r_iload_n (μ := mX5_copy) (pc := 7) dX5_copy_7 rfl rfl ?_
    refine r_callS (μ := mX5_copy) (pc := 8) (as := [.int i3]) cX5_77 dX5_copy_8 rfl okX5_isRow (Nat.lt_succ_self d) (cat8 (n := 0) rfl (by decide)) rfl h (k_I (fun r8 T8 h => ?_))
    refine r_if_ne (μ := mX5_copy) (pc := 11) (tgt := 16) dX5_copy_11 (by decide) ⟨fun q11 => ?_, fun q11 => ?_⟩
    · have h := h.1 q11
      refine r_iload (μ := mX5_copy) (pc := 16) dX5_copy_16 rfl ?_
      refine r_if_ge (μ := mX5_copy) (pc := 18) (tgt := 27) dX5_copy_18 (by decide) ⟨fun q18 => ?_, fun q18 => ?_⟩
      · have h := h.1 q18
        refine r_aload_n (μ := mX5_copy) (pc := 27) dX5_copy_27 rfl rfl ?_
        refine g_R (μ := mX5_copy) (pc := 28) (k' := 88) fX5_7 dX5_copy_28 rfl rfl ?_
        refine r_iload_n (μ := mX5_copy) (pc := 31) dX5_copy_31 rfl rfl ?_
        obtain ⟨n32, hx32, h⟩ := h
        refine r_iald (μ := mX5_copy) (pc := 32) dX5_copy_32 rfl hx32 ?_
        refine r_if_lt (μ := mX5_copy) (pc := 33) (tgt := 45) dX5_copy_33 (by decide) ⟨fun q33 => ?_, fun q33 => ?_⟩
        · have h := h.1 q33
          exact h
        · have h := h.2 q33
          refine r_aload_n (μ := mX5_copy) (pc := 36) dX5_copy_36 rfl rfl ?_
          refine g_R (μ := mX5_copy) (pc := 37) (k' := 88) fX5_7 dX5_copy_37 rfl rfl ?_
          refine r_iload_n (μ := mX5_copy) (pc := 40) dX5_copy_40 rfl rfl ?_
          obtain ⟨n41, hx41, h⟩ := h
          refine r_iald (μ := mX5_copy) (pc := 41) dX5_copy_41 rfl hx41 ?_
          refine r_if_ge (μ := mX5_copy) (pc := 42) (tgt := 51) dX5_copy_42 (by decide) ⟨fun q42 => ?_, fun q42 => ?_⟩
          · have h := h.1 q42
            refine r_iload_n (μ := mX5_copy) (pc := 51) dX5_copy_51 rfl rfl ?_
            refine r_if_lt (μ := mX5_copy) (pc := 52) (tgt := 95) dX5_copy_52 (by decide) ⟨fun q52 => ?_, fun q52 => ?_⟩
            · have h := h.1 q52
              exact h
            · have h := h.2 q52
              refine r_iload (μ := mX5_copy) (pc := 55) dX5_copy_55 rfl ?_
              refine r_if_lt (μ := mX5_copy) (pc := 57) (tgt := 95) dX5_copy_57 (by decide) ⟨fun q57 => ?_, fun q57 => ?_⟩
              · have h := h.1 q57
                exact h
              · have h := h.2 q57
                refine r_iload_n (μ := mX5_copy) (pc := 60) dX5_copy_60 rfl rfl ?_
                refine r_i2l (μ := mX5_copy) (pc := 61) dX5_copy_61 ?_
                refine r_iload (μ := mX5_copy) (pc := 62) dX5_copy_62 rfl ?_
                refine r_i2l (μ := mX5_copy) (pc := 64) dX5_copy_64 ?_
                refine r_ladd (μ := mX5_copy) (pc := 65) dX5_copy_65 ?_
                refine r_aload_n (μ := mX5_copy) (pc := 66) dX5_copy_66 rfl rfl ?_
                refine g_R (μ := mX5_copy) (pc := 67) (k' := 88) fX5_7 dX5_copy_67 rfl rfl ?_
                refine r_iload_n (μ := mX5_copy) (pc := 70) dX5_copy_70 rfl rfl ?_
                refine r_iald (μ := mX5_copy) (pc := 71) dX5_copy_71 rfl hx32 ?_
                refine r_i2l (μ := mX5_copy) (pc := 72) dX5_copy_72 ?_
                refine r_lcmp (μ := mX5_copy) (pc := 73) dX5_copy_73 ?_
                refine r_if_gt (μ := mX5_copy) (pc := 74) (tgt := 95) dX5_copy_74 (by decide) ⟨fun q74 => ?_, fun q74 => ?_⟩
                · have h := h.1 q74
                  exact h
                · have h := h.2 q74
                  refine r_iload (μ := mX5_copy) (pc := 77) dX5_copy_77 rfl ?_
                  refine r_i2l (μ := mX5_copy) (pc := 79) dX5_copy_79 ?_
                  refine r_iload (μ := mX5_copy) (pc := 80) dX5_copy_80 rfl ?_
                  refine r_i2l (μ := mX5_copy) (pc := 82) dX5_copy_82 ?_
                  refine r_ladd (μ := mX5_copy) (pc := 83) dX5_copy_83 ?_
                  refine r_aload_n (μ := mX5_copy) (pc := 84) dX5_copy_84 rfl rfl ?_
                  refine g_R (μ := mX5_copy) (pc := 85) (k' := 88) fX5_7 dX5_copy_85 rfl rfl ?_
                  refine r_iload_n (μ := mX5_copy) (pc := 88) dX5_copy_88 rfl rfl ?_
                  refine r_iald (μ := mX5_copy) (pc := 89) dX5_copy_89 rfl hx41 ?_
                  refine r_i2l (μ := mX5_copy) (pc := 90) dX5_copy_90 ?_
                  refine r_lcmp (μ := mX5_copy) (pc := 91) dX5_copy_91 ?_
                  refine r_if_le (μ := mX5_copy) (pc := 92) (tgt := 101) dX5_copy_92 (by decide) ⟨fun q92 => ?_, fun q92 => ?_⟩
                  · have h := h.1 q92
                    refine r_iconst (μ := mX5_copy) (pc := 101) (v := nI 0) dX5_copy_101 rfl ?_
                    refine r_istore (μ := mX5_copy) (pc := 102) (ls' := [some (.ref 7), some (.int i1), some (.int i2), some (.int i3), some (.int i4), some (.int i5), some (.int (nI 0))]) dX5_copy_102 (Nat.le_of_ble_eq_true rfl) rfl rfl ?_
                    exact h
                  · have h := h.2 q92
                    exact h
          · have h := h.2 q42
            exact h
      · have h := h.2 q18
        refine r_aload_n (μ := mX5_copy) (pc := 21) dX5_copy_21 rfl rfl ?_
        refine r_iconst (μ := mX5_copy) (pc := 22) (v := nI 5) dX5_copy_22 rfl ?_
        refine r_callV (μ := mX5_copy) (pc := 23) (as := [.int (nI 5)]) 5 cX5_81 dX5_copy_23 rfl rfl (Nat.le_of_ble_eq_true rfl) rfl okX5_finds (Nat.lt_succ_self d) (cat8 (n := 0) rfl (by decide)) rfl h (k_I (fun r23 T23 h => ?_))
        exact r_iret (μ := mX5_copy) (pc := 26) dX5_copy_26 rfl h
    · have h := h.2 q11
      refine r_iconst (μ := mX5_copy) (pc := 14) (v := (-1)) dX5_copy_14 rfl ?_
      exact r_iret (μ := mX5_copy) (pc := 15) dX5_copy_15 rfl h

set_option maxRecDepth 20000 in
theorem bX5_copy_45 {G : Gl} {l : Launch} {d : Nat} {S : Sg} {P : Int32 → Sg → Prop} (i1 : Int32) (i2 : Int32) (i3 : Int32) (i4 : Int32) (i5 : Int32)
    (h : Ct G l mX5_finds d [.ref 7, .int (nI 1)] S (QI (fun r47 T47 => P r47 T47))) :
    Ev G l mX5_copy (d + 1) 45 [some (.ref 7), some (.int i1), some (.int i2), some (.int i3), some (.int i4), some (.int i5), none] [] S (QI P) := by
  show Ev G l mX5_copy (d + 1) 45 [some (.ref 7), some (.int i1), some (.int i2), some (.int i3), some (.int i4), some (.int i5), none] [] S (QI P)
  refine r_aload_n (μ := mX5_copy) (pc := 45) dX5_copy_45 rfl rfl ?_
  refine r_iconst (μ := mX5_copy) (pc := 46) (v := nI 1) dX5_copy_46 rfl ?_
  refine r_callV (μ := mX5_copy) (pc := 47) (as := [.int (nI 1)]) 5 cX5_81 dX5_copy_47 rfl rfl (Nat.le_of_ble_eq_true rfl) rfl okX5_finds (Nat.lt_succ_self d) (cat8 (n := 0) rfl (by decide)) rfl h (k_I (fun r47 T47 h => ?_))
  exact r_iret (μ := mX5_copy) (pc := 50) dX5_copy_50 rfl h

set_option maxRecDepth 20000 in
theorem bX5_copy_95 {G : Gl} {l : Launch} {d : Nat} {S : Sg} {P : Int32 → Sg → Prop} (i1 : Int32) (i2 : Int32) (i3 : Int32) (i4 : Int32) (i5 : Int32)
    (h : Ct G l mX5_finds d [.ref 7, .int (nI 2)] S (QI (fun r97 T97 => P r97 T97))) :
    Ev G l mX5_copy (d + 1) 95 [some (.ref 7), some (.int i1), some (.int i2), some (.int i3), some (.int i4), some (.int i5), none] [] S (QI P) := by
  show Ev G l mX5_copy (d + 1) 95 [some (.ref 7), some (.int i1), some (.int i2), some (.int i3), some (.int i4), some (.int i5), none] [] S (QI P)
  refine r_aload_n (μ := mX5_copy) (pc := 95) dX5_copy_95 rfl rfl ?_
  refine r_iconst (μ := mX5_copy) (pc := 96) (v := nI 2) dX5_copy_96 rfl ?_
  refine r_callV (μ := mX5_copy) (pc := 97) (as := [.int (nI 2)]) 5 cX5_81 dX5_copy_97 rfl rfl (Nat.le_of_ble_eq_true rfl) rfl okX5_finds (Nat.lt_succ_self d) (cat8 (n := 0) rfl (by decide)) rfl h (k_I (fun r97 T97 h => ?_))
  exact r_iret (μ := mX5_copy) (pc := 100) dX5_copy_100 rfl h

set_option maxRecDepth 20000 in
theorem bX5_copy_104 {G : Gl} {l : Launch} {d : Nat} {S : Sg} {P : Int32 → Sg → Prop} (i1 : Int32) (i2 : Int32) (i3 : Int32) (i4 : Int32) (i5 : Int32) (i6 : Int32)
    (h : (i5 ≤ i6 → Ev G l mX5_copy (d + 1) 141 [some (.ref 7), some (.int i1), some (.int i2), some (.int i3), some (.int i4), some (.int i5), some (.int (nI 0))] [] S (QI P)) ∧ (¬ (i5 ≤ i6) → ∃ n130 : Nat, ix ((((nI 40) * i1) + i2) + i6) n130 240 ∧ (∃ n131 : Nat, ix i6 n131 40 ∧ ∀ S131 : Sg, S131 = (u2 S.1 90 n131 (S.1 89 n130), S.2) → (Ev G l mX5_copy (d + 1) 104 [some (.ref 7), some (.int i1), some (.int i2), some (.int i3), some (.int i4), some (.int i5), some (.int (i6 + (nI 1)))] [] S131 (QI P))))) :
    Ev G l mX5_copy (d + 1) 104 [some (.ref 7), some (.int i1), some (.int i2), some (.int i3), some (.int i4), some (.int i5), some (.int i6)] [] S (QI P) := by
  show Ev G l mX5_copy (d + 1) 104 [some (.ref 7), some (.int i1), some (.int i2), some (.int i3), some (.int i4), some (.int i5), some (.int i6)] [] S (QI P)
  refine r_iload (μ := mX5_copy) (pc := 104) dX5_copy_104 rfl ?_
  refine r_iload (μ := mX5_copy) (pc := 106) dX5_copy_106 rfl ?_
  refine r_icmp_ge (μ := mX5_copy) (pc := 108) (tgt := 138) dX5_copy_108 (by decide) ⟨fun q108 => ?_, fun q108 => ?_⟩
  · have h := h.1 q108
    refine r_iconst (μ := mX5_copy) (pc := 138) (v := nI 0) dX5_copy_138 rfl ?_
    refine r_istore (μ := mX5_copy) (pc := 139) (ls' := [some (.ref 7), some (.int i1), some (.int i2), some (.int i3), some (.int i4), some (.int i5), some (.int (nI 0))]) dX5_copy_139 (Nat.le_of_ble_eq_true rfl) rfl rfl ?_
    exact h
  · have h := h.2 q108
    refine r_aload_n (μ := mX5_copy) (pc := 111) dX5_copy_111 rfl rfl ?_
    refine g_R (μ := mX5_copy) (pc := 112) (k' := 90) fX5_16 dX5_copy_112 rfl rfl ?_
    refine r_iload (μ := mX5_copy) (pc := 115) dX5_copy_115 rfl ?_
    refine r_aload_n (μ := mX5_copy) (pc := 117) dX5_copy_117 rfl rfl ?_
    refine g_R (μ := mX5_copy) (pc := 118) (k' := 89) fX5_13 dX5_copy_118 rfl rfl ?_
    refine r_bipush (μ := mX5_copy) (pc := 121) (v := nI 40) dX5_copy_121 rfl ?_
    refine r_iload_n (μ := mX5_copy) (pc := 123) dX5_copy_123 rfl rfl ?_
    refine r_imul (μ := mX5_copy) (pc := 124) dX5_copy_124 ?_
    refine r_iload_n (μ := mX5_copy) (pc := 125) dX5_copy_125 rfl rfl ?_
    refine r_iadd (μ := mX5_copy) (pc := 126) dX5_copy_126 ?_
    refine r_iload (μ := mX5_copy) (pc := 127) dX5_copy_127 rfl ?_
    refine r_iadd (μ := mX5_copy) (pc := 129) dX5_copy_129 ?_
    obtain ⟨n130, hx130, h⟩ := h
    refine r_iald (μ := mX5_copy) (pc := 130) dX5_copy_130 rfl hx130 ?_
    obtain ⟨n131, hx131, h⟩ := h
    refine r_iast (μ := mX5_copy) (pc := 131) dX5_copy_131 rfl hx131 ?_
    refine nm_S (fun S131 eS131 => ?_)
    have h := h S131 eS131
    refine r_iinc (μ := mX5_copy) (pc := 132) (y := nI 1) (ls' := [some (.ref 7), some (.int i1), some (.int i2), some (.int i3), some (.int i4), some (.int i5), some (.int (i6 + (nI 1)))]) dX5_copy_132 rfl rfl (Nat.le_of_ble_eq_true rfl) rfl rfl ?_
    refine r_goto (μ := mX5_copy) (pc := 135) (tgt := 104) dX5_copy_135 (by decide) ?_
    exact h

set_option maxRecDepth 20000 in
theorem bX5_copy_141 {G : Gl} {l : Launch} {d : Nat} {S : Sg} {P : Int32 → Sg → Prop} (i1 : Int32) (i2 : Int32) (i3 : Int32) (i4 : Int32) (i5 : Int32) (i6 : Int32)
    (h : (i5 ≤ i6 → P (nI 1) S) ∧ (¬ (i5 ≤ i6) → ∃ n168 : Nat, ix i6 n168 40 ∧ (∃ n169 : Nat, ix ((((nI 40) * i3) + i4) + i6) n169 240 ∧ ∀ S169 : Sg, S169 = (u2 S.1 89 n169 (S.1 90 n168), S.2) → (Ev G l mX5_copy (d + 1) 141 [some (.ref 7), some (.int i1), some (.int i2), some (.int i3), some (.int i4), some (.int i5), some (.int (i6 + (nI 1)))] [] S169 (QI P))))) :
    Ev G l mX5_copy (d + 1) 141 [some (.ref 7), some (.int i1), some (.int i2), some (.int i3), some (.int i4), some (.int i5), some (.int i6)] [] S (QI P) := by
  show Ev G l mX5_copy (d + 1) 141 [some (.ref 7), some (.int i1), some (.int i2), some (.int i3), some (.int i4), some (.int i5), some (.int i6)] [] S (QI P)
  refine r_iload (μ := mX5_copy) (pc := 141) dX5_copy_141 rfl ?_
  refine r_iload (μ := mX5_copy) (pc := 143) dX5_copy_143 rfl ?_
  refine r_icmp_ge (μ := mX5_copy) (pc := 145) (tgt := 176) dX5_copy_145 (by decide) ⟨fun q145 => ?_, fun q145 => ?_⟩
  · have h := h.1 q145
    refine r_iconst (μ := mX5_copy) (pc := 176) (v := nI 1) dX5_copy_176 rfl ?_
    exact r_iret (μ := mX5_copy) (pc := 177) dX5_copy_177 rfl h
  · have h := h.2 q145
    refine r_aload_n (μ := mX5_copy) (pc := 148) dX5_copy_148 rfl rfl ?_
    refine g_R (μ := mX5_copy) (pc := 149) (k' := 89) fX5_13 dX5_copy_149 rfl rfl ?_
    refine r_bipush (μ := mX5_copy) (pc := 152) (v := nI 40) dX5_copy_152 rfl ?_
    refine r_iload_n (μ := mX5_copy) (pc := 154) dX5_copy_154 rfl rfl ?_
    refine r_imul (μ := mX5_copy) (pc := 155) dX5_copy_155 ?_
    refine r_iload (μ := mX5_copy) (pc := 156) dX5_copy_156 rfl ?_
    refine r_iadd (μ := mX5_copy) (pc := 158) dX5_copy_158 ?_
    refine r_iload (μ := mX5_copy) (pc := 159) dX5_copy_159 rfl ?_
    refine r_iadd (μ := mX5_copy) (pc := 161) dX5_copy_161 ?_
    refine r_aload_n (μ := mX5_copy) (pc := 162) dX5_copy_162 rfl rfl ?_
    refine g_R (μ := mX5_copy) (pc := 163) (k' := 90) fX5_16 dX5_copy_163 rfl rfl ?_
    refine r_iload (μ := mX5_copy) (pc := 166) dX5_copy_166 rfl ?_
    obtain ⟨n168, hx168, h⟩ := h
    refine r_iald (μ := mX5_copy) (pc := 168) dX5_copy_168 rfl hx168 ?_
    obtain ⟨n169, hx169, h⟩ := h
    refine r_iast (μ := mX5_copy) (pc := 169) dX5_copy_169 rfl hx169 ?_
    refine nm_S (fun S169 eS169 => ?_)
    have h := h S169 eS169
    refine r_iinc (μ := mX5_copy) (pc := 170) (y := nI 1) (ls' := [some (.ref 7), some (.int i1), some (.int i2), some (.int i3), some (.int i4), some (.int i5), some (.int (i6 + (nI 1)))]) dX5_copy_170 rfl rfl (Nat.le_of_ble_eq_true rfl) rfl rfl ?_
    refine r_goto (μ := mX5_copy) (pc := 173) (tgt := 141) dX5_copy_173 (by decide) ?_
    exact h

set_option maxRecDepth 20000 in
theorem bX5_mean_0 {G : Gl} {l : Launch} {d : Nat} {S : Sg} {P : Int32 → Sg → Prop} (i1 : Int32)
    (h : Ct G l mX5_isRow d [.int i1] S (QI (fun r1 T1 => (¬ r1 = (nI 0) → ∃ n14 : Nat, ix i1 n14 6 ∧ (((nI 0) ≤ (T1.1 88 n14) → (¬ (T1.1 88 n14) = (nI 0) → Ev G l mX5_mean (d + 1) 44 [some (.ref 7), some (.int i1), some (.long (lN 0)), none, some (.int (nI 0))] [] T1 (QI P)) ∧ ((T1.1 88 n14) = (nI 0) → Ct G l mX5_finds d [.ref 7, .int (nI 4)] T1 (QI (fun r35 T35 => P r35 T35)))) ∧ (¬ ((nI 0) ≤ (T1.1 88 n14)) → Ct G l mX5_finds d [.ref 7, .int (nI 1)] T1 (QI (fun r20 T20 => P r20 T20))))) ∧ (r1 = (nI 0) → P (-1) T1)))) :
    Ct G l mX5_mean (d + 1) [.ref 7, .int i1] S (QI P) := by
  show Ev G l mX5_mean (d + 1) 0 [some (.ref 7), some (.int i1), none, none, none] [] S (QI P)
  refine r_iload_n (μ := mX5_mean) (pc := 0) dX5_mean_0 rfl rfl ?_
  refine r_callS (μ := mX5_mean) (pc := 1) (as := [.int i1]) cX5_77 dX5_mean_1 rfl okX5_isRow (Nat.lt_succ_self d) (cat8 (n := 0) rfl (by decide)) rfl h (k_I (fun r1 T1 h => ?_))
  refine r_if_ne (μ := mX5_mean) (pc := 4) (tgt := 9) dX5_mean_4 (by decide) ⟨fun q4 => ?_, fun q4 => ?_⟩
  · have h := h.1 q4
    refine r_aload_n (μ := mX5_mean) (pc := 9) dX5_mean_9 rfl rfl ?_
    refine g_R (μ := mX5_mean) (pc := 10) (k' := 88) fX5_7 dX5_mean_10 rfl rfl ?_
    refine r_iload_n (μ := mX5_mean) (pc := 13) dX5_mean_13 rfl rfl ?_
    obtain ⟨n14, hx14, h⟩ := h
    refine r_iald (μ := mX5_mean) (pc := 14) dX5_mean_14 rfl hx14 ?_
    refine r_if_ge (μ := mX5_mean) (pc := 15) (tgt := 24) dX5_mean_15 (by decide) ⟨fun q15 => ?_, fun q15 => ?_⟩
    · have h := h.1 q15
      refine r_aload_n (μ := mX5_mean) (pc := 24) dX5_mean_24 rfl rfl ?_
      refine g_R (μ := mX5_mean) (pc := 25) (k' := 88) fX5_7 dX5_mean_25 rfl rfl ?_
      refine r_iload_n (μ := mX5_mean) (pc := 28) dX5_mean_28 rfl rfl ?_
      refine r_iald (μ := mX5_mean) (pc := 29) dX5_mean_29 rfl hx14 ?_
      refine r_if_ne (μ := mX5_mean) (pc := 30) (tgt := 39) dX5_mean_30 (by decide) ⟨fun q30 => ?_, fun q30 => ?_⟩
      · have h := h.1 q30
        refine r_lconst (μ := mX5_mean) (pc := 39) (v := lN 0) dX5_mean_39 rfl ?_
        refine r_lstore_n (μ := mX5_mean) (pc := 40) (ls' := [some (.ref 7), some (.int i1), some (.long (lN 0)), none, none]) dX5_mean_40 rfl (Nat.le_of_ble_eq_true rfl) rfl rfl ?_
        refine r_iconst (μ := mX5_mean) (pc := 41) (v := nI 0) dX5_mean_41 rfl ?_
        refine r_istore (μ := mX5_mean) (pc := 42) (ls' := [some (.ref 7), some (.int i1), some (.long (lN 0)), none, some (.int (nI 0))]) dX5_mean_42 (Nat.le_of_ble_eq_true rfl) rfl rfl ?_
        exact h
      · have h := h.2 q30
        refine r_aload_n (μ := mX5_mean) (pc := 33) dX5_mean_33 rfl rfl ?_
        refine r_iconst (μ := mX5_mean) (pc := 34) (v := nI 4) dX5_mean_34 rfl ?_
        refine r_callV (μ := mX5_mean) (pc := 35) (as := [.int (nI 4)]) 5 cX5_81 dX5_mean_35 rfl rfl (Nat.le_of_ble_eq_true rfl) rfl okX5_finds (Nat.lt_succ_self d) (cat8 (n := 0) rfl (by decide)) rfl h (k_I (fun r35 T35 h => ?_))
        exact r_iret (μ := mX5_mean) (pc := 38) dX5_mean_38 rfl h
    · have h := h.2 q15
      refine r_aload_n (μ := mX5_mean) (pc := 18) dX5_mean_18 rfl rfl ?_
      refine r_iconst (μ := mX5_mean) (pc := 19) (v := nI 1) dX5_mean_19 rfl ?_
      refine r_callV (μ := mX5_mean) (pc := 20) (as := [.int (nI 1)]) 5 cX5_81 dX5_mean_20 rfl rfl (Nat.le_of_ble_eq_true rfl) rfl okX5_finds (Nat.lt_succ_self d) (cat8 (n := 0) rfl (by decide)) rfl h (k_I (fun r20 T20 h => ?_))
      exact r_iret (μ := mX5_mean) (pc := 23) dX5_mean_23 rfl h
  · have h := h.2 q4
    refine r_iconst (μ := mX5_mean) (pc := 7) (v := (-1)) dX5_mean_7 rfl ?_
    exact r_iret (μ := mX5_mean) (pc := 8) dX5_mean_8 rfl h

set_option maxRecDepth 20000 in
theorem bX5_mean_44 {G : Gl} {l : Launch} {d : Nat} {S : Sg} {P : Int32 → Sg → Prop} (i1 : Int32) (j2 : Int64) (i4 : Int32)
    (h : ∃ n51 : Nat, ix i1 n51 6 ∧ (((S.1 88 n51) ≤ i4 → (¬ ((S.1 88 n51).toInt64) = 0) ∧ (Ct G l mX5_tells d [.ref 7, .int (nI 1), .int ((j2 / ((S.1 88 n51).toInt64)).toInt32)] S (QI (fun r89 T89 => P r89 T89)))) ∧ (¬ ((S.1 88 n51) ≤ i4) → ∃ n67 : Nat, ix (((nI 40) * i1) + i4) n67 240 ∧ (Ev G l mX5_mean (d + 1) 44 [some (.ref 7), some (.int i1), some (.long (j2 + ((S.1 89 n67).toInt64))), none, some (.int (i4 + (nI 1)))] [] S (QI P))))) :
    Ev G l mX5_mean (d + 1) 44 [some (.ref 7), some (.int i1), some (.long j2), none, some (.int i4)] [] S (QI P) := by
  show Ev G l mX5_mean (d + 1) 44 [some (.ref 7), some (.int i1), some (.long j2), none, some (.int i4)] [] S (QI P)
  refine r_iload (μ := mX5_mean) (pc := 44) dX5_mean_44 rfl ?_
  refine r_aload_n (μ := mX5_mean) (pc := 46) dX5_mean_46 rfl rfl ?_
  refine g_R (μ := mX5_mean) (pc := 47) (k' := 88) fX5_7 dX5_mean_47 rfl rfl ?_
  refine r_iload_n (μ := mX5_mean) (pc := 50) dX5_mean_50 rfl rfl ?_
  obtain ⟨n51, hx51, h⟩ := h
  refine r_iald (μ := mX5_mean) (pc := 51) dX5_mean_51 rfl hx51 ?_
  refine r_icmp_ge (μ := mX5_mean) (pc := 52) (tgt := 77) dX5_mean_52 (by decide) ⟨fun q52 => ?_, fun q52 => ?_⟩
  · have h := h.1 q52
    refine r_aload_n (μ := mX5_mean) (pc := 77) dX5_mean_77 rfl rfl ?_
    refine r_iconst (μ := mX5_mean) (pc := 78) (v := nI 1) dX5_mean_78 rfl ?_
    refine r_lload_n (μ := mX5_mean) (pc := 79) dX5_mean_79 rfl rfl ?_
    refine r_aload_n (μ := mX5_mean) (pc := 80) dX5_mean_80 rfl rfl ?_
    refine g_R (μ := mX5_mean) (pc := 81) (k' := 88) fX5_7 dX5_mean_81 rfl rfl ?_
    refine r_iload_n (μ := mX5_mean) (pc := 84) dX5_mean_84 rfl rfl ?_
    refine r_iald (μ := mX5_mean) (pc := 85) dX5_mean_85 rfl hx51 ?_
    refine r_i2l (μ := mX5_mean) (pc := 86) dX5_mean_86 ?_
    obtain ⟨hz87, h⟩ := h
    refine r_ldiv (μ := mX5_mean) (pc := 87) dX5_mean_87 hz87 ?_
    refine r_l2i (μ := mX5_mean) (pc := 88) dX5_mean_88 ?_
    refine r_callV (μ := mX5_mean) (pc := 89) (as := [.int (nI 1), .int ((j2 / ((S.1 88 n51).toInt64)).toInt32)]) 5 cX5_93 dX5_mean_89 rfl rfl (Nat.le_of_ble_eq_true rfl) rfl okX5_tells (Nat.lt_succ_self d) (cat8 (n := 0) rfl (by decide)) rfl h (k_I (fun r89 T89 h => ?_))
    exact r_iret (μ := mX5_mean) (pc := 92) dX5_mean_92 rfl h
  · have h := h.2 q52
    refine r_lload_n (μ := mX5_mean) (pc := 55) dX5_mean_55 rfl rfl ?_
    refine r_aload_n (μ := mX5_mean) (pc := 56) dX5_mean_56 rfl rfl ?_
    refine g_R (μ := mX5_mean) (pc := 57) (k' := 89) fX5_13 dX5_mean_57 rfl rfl ?_
    refine r_bipush (μ := mX5_mean) (pc := 60) (v := nI 40) dX5_mean_60 rfl ?_
    refine r_iload_n (μ := mX5_mean) (pc := 62) dX5_mean_62 rfl rfl ?_
    refine r_imul (μ := mX5_mean) (pc := 63) dX5_mean_63 ?_
    refine r_iload (μ := mX5_mean) (pc := 64) dX5_mean_64 rfl ?_
    refine r_iadd (μ := mX5_mean) (pc := 66) dX5_mean_66 ?_
    obtain ⟨n67, hx67, h⟩ := h
    refine r_iald (μ := mX5_mean) (pc := 67) dX5_mean_67 rfl hx67 ?_
    refine r_i2l (μ := mX5_mean) (pc := 68) dX5_mean_68 ?_
    refine r_ladd (μ := mX5_mean) (pc := 69) dX5_mean_69 ?_
    refine r_lstore_n (μ := mX5_mean) (pc := 70) (ls' := [some (.ref 7), some (.int i1), some (.long (j2 + ((S.1 89 n67).toInt64))), none, some (.int i4)]) dX5_mean_70 rfl (Nat.le_of_ble_eq_true rfl) rfl rfl ?_
    refine r_iinc (μ := mX5_mean) (pc := 71) (y := nI 1) (ls' := [some (.ref 7), some (.int i1), some (.long (j2 + ((S.1 89 n67).toInt64))), none, some (.int (i4 + (nI 1)))]) dX5_mean_71 rfl rfl (Nat.le_of_ble_eq_true rfl) rfl rfl ?_
    refine r_goto (μ := mX5_mean) (pc := 74) (tgt := 44) dX5_mean_74 (by decide) ?_
    exact h

set_option maxRecDepth 20000 in
theorem bX5_text_0 {G : Gl} {l : Launch} {d : Nat} {S : Sg} {P : Int32 → Sg → Prop} (i1 : Int32) (i2 : Int32)
    (h : Ct G l mX5_isText d [.int i1] S (QI (fun r1 T1 => (r1 = (nI 0) → P (-1) T1) ∧ (¬ (r1 = (nI 0)) → (i2 ≤ (nI 60) → ((nI 0) ≤ i2 → ∃ n31 : Nat, ix i1 n31 4 ∧ ∀ S31 : Sg, S31 = (u2 T1.1 91 n31 i2, T1.2) → (Ev G l mX5_text (d + 1) 34 [some (.ref 7), some (.int i1), some (.int i2), some (.int (nI 0))] [] S31 (QI P))) ∧ (¬ ((nI 0) ≤ i2) → Ct G l mX5_finds d [.ref 7, .int (nI 5)] T1 (QI (fun r21 T21 => P r21 T21)))) ∧ (¬ (i2 ≤ (nI 60)) → P (-1) T1))))) :
    Ct G l mX5_text (d + 1) [.ref 7, .int i1, .int i2] S (QI P) := by
  show Ev G l mX5_text (d + 1) 0 [some (.ref 7), some (.int i1), some (.int i2), none] [] S (QI P)
  refine r_iload_n (μ := mX5_text) (pc := 0) dX5_text_0 rfl rfl ?_
  refine r_callS (μ := mX5_text) (pc := 1) (as := [.int i1]) cX5_96 dX5_text_1 rfl okX5_isText (Nat.lt_succ_self d) (cat8 (n := 0) rfl (by decide)) rfl h (k_I (fun r1 T1 h => ?_))
  refine r_if_eq (μ := mX5_text) (pc := 4) (tgt := 13) dX5_text_4 (by decide) ⟨fun q4 => ?_, fun q4 => ?_⟩
  · have h := h.1 q4
    refine r_iconst (μ := mX5_text) (pc := 13) (v := (-1)) dX5_text_13 rfl ?_
    exact r_iret (μ := mX5_text) (pc := 14) dX5_text_14 rfl h
  · have h := h.2 q4
    refine r_iload_n (μ := mX5_text) (pc := 7) dX5_text_7 rfl rfl ?_
    refine r_bipush (μ := mX5_text) (pc := 8) (v := nI 60) dX5_text_8 rfl ?_
    refine r_icmp_le (μ := mX5_text) (pc := 10) (tgt := 15) dX5_text_10 (by decide) ⟨fun q10 => ?_, fun q10 => ?_⟩
    · have h := h.1 q10
      refine r_iload_n (μ := mX5_text) (pc := 15) dX5_text_15 rfl rfl ?_
      refine r_if_ge (μ := mX5_text) (pc := 16) (tgt := 25) dX5_text_16 (by decide) ⟨fun q16 => ?_, fun q16 => ?_⟩
      · have h := h.1 q16
        refine r_aload_n (μ := mX5_text) (pc := 25) dX5_text_25 rfl rfl ?_
        refine g_R (μ := mX5_text) (pc := 26) (k' := 91) fX5_19 dX5_text_26 rfl rfl ?_
        refine r_iload_n (μ := mX5_text) (pc := 29) dX5_text_29 rfl rfl ?_
        refine r_iload_n (μ := mX5_text) (pc := 30) dX5_text_30 rfl rfl ?_
        obtain ⟨n31, hx31, h⟩ := h
        refine r_iast (μ := mX5_text) (pc := 31) dX5_text_31 rfl hx31 ?_
        refine nm_S (fun S31 eS31 => ?_)
        have h := h S31 eS31
        refine r_iconst (μ := mX5_text) (pc := 32) (v := nI 0) dX5_text_32 rfl ?_
        refine r_istore_n (μ := mX5_text) (pc := 33) (ls' := [some (.ref 7), some (.int i1), some (.int i2), some (.int (nI 0))]) dX5_text_33 rfl (Nat.le_of_ble_eq_true rfl) rfl rfl ?_
        exact h
      · have h := h.2 q16
        refine r_aload_n (μ := mX5_text) (pc := 19) dX5_text_19 rfl rfl ?_
        refine r_iconst (μ := mX5_text) (pc := 20) (v := nI 5) dX5_text_20 rfl ?_
        refine r_callV (μ := mX5_text) (pc := 21) (as := [.int (nI 5)]) 5 cX5_81 dX5_text_21 rfl rfl (Nat.le_of_ble_eq_true rfl) rfl okX5_finds (Nat.lt_succ_self d) (cat8 (n := 0) rfl (by decide)) rfl h (k_I (fun r21 T21 h => ?_))
        exact r_iret (μ := mX5_text) (pc := 24) dX5_text_24 rfl h
    · have h := h.2 q10
      refine r_iconst (μ := mX5_text) (pc := 13) (v := (-1)) dX5_text_13 rfl ?_
      exact r_iret (μ := mX5_text) (pc := 14) dX5_text_14 rfl h

set_option maxRecDepth 20000 in
theorem bX5_text_34 {G : Gl} {l : Launch} {d : Nat} {S : Sg} {P : Int32 → Sg → Prop} (i1 : Int32) (i2 : Int32) (i3 : Int32)
    (h : ((nI 60) ≤ i3 → P i2 S) ∧ (¬ ((nI 60) ≤ i3) → ∃ n52 : Nat, ix (((nI 60) * i1) + i3) n52 240 ∧ ∀ S52 : Sg, S52 = (u2 S.1 92 n52 (nI 32), S.2) → (Ev G l mX5_text (d + 1) 34 [some (.ref 7), some (.int i1), some (.int i2), some (.int (i3 + (nI 1)))] [] S52 (QI P)))) :
    Ev G l mX5_text (d + 1) 34 [some (.ref 7), some (.int i1), some (.int i2), some (.int i3)] [] S (QI P) := by
  show Ev G l mX5_text (d + 1) 34 [some (.ref 7), some (.int i1), some (.int i2), some (.int i3)] [] S (QI P)
  refine r_iload_n (μ := mX5_text) (pc := 34) dX5_text_34 rfl rfl ?_
  refine r_bipush (μ := mX5_text) (pc := 35) (v := nI 60) dX5_text_35 rfl ?_
  refine r_icmp_ge (μ := mX5_text) (pc := 37) (tgt := 59) dX5_text_37 (by decide) ⟨fun q37 => ?_, fun q37 => ?_⟩
  · have h := h.1 q37
    refine r_iload_n (μ := mX5_text) (pc := 59) dX5_text_59 rfl rfl ?_
    exact r_iret (μ := mX5_text) (pc := 60) dX5_text_60 rfl h
  · have h := h.2 q37
    refine r_aload_n (μ := mX5_text) (pc := 40) dX5_text_40 rfl rfl ?_
    refine g_R (μ := mX5_text) (pc := 41) (k' := 92) fX5_22 dX5_text_41 rfl rfl ?_
    refine r_bipush (μ := mX5_text) (pc := 44) (v := nI 60) dX5_text_44 rfl ?_
    refine r_iload_n (μ := mX5_text) (pc := 46) dX5_text_46 rfl rfl ?_
    refine r_imul (μ := mX5_text) (pc := 47) dX5_text_47 ?_
    refine r_iload_n (μ := mX5_text) (pc := 48) dX5_text_48 rfl rfl ?_
    refine r_iadd (μ := mX5_text) (pc := 49) dX5_text_49 ?_
    refine r_bipush (μ := mX5_text) (pc := 50) (v := nI 32) dX5_text_50 rfl ?_
    obtain ⟨n52, hx52, h⟩ := h
    refine r_iast (μ := mX5_text) (pc := 52) dX5_text_52 rfl hx52 ?_
    refine nm_S (fun S52 eS52 => ?_)
    have h := h S52 eS52
    refine r_iinc (μ := mX5_text) (pc := 53) (y := nI 1) (ls' := [some (.ref 7), some (.int i1), some (.int i2), some (.int (i3 + (nI 1)))]) dX5_text_53 rfl rfl (Nat.le_of_ble_eq_true rfl) rfl rfl ?_
    refine r_goto (μ := mX5_text) (pc := 56) (tgt := 34) dX5_text_56 (by decide) ?_
    exact h

set_option maxRecDepth 20000 in
theorem bX5_put_0 {G : Gl} {l : Launch} {d : Nat} {S : Sg} {P : Int32 → Sg → Prop} (i1 : Int32) (i2 : Int32) (i3 : Int32)
    (h : Ct G l mX5_isText d [.int i1] S (QI (fun r1 T1 => (¬ r1 = (nI 0) → ∃ n14 : Nat, ix i1 n14 4 ∧ (((nI 0) ≤ (T1.1 91 n14) → Ct G l mX5_in d [.int i2, .int (nI 0), .int ((T1.1 91 n14) - (nI 1))] T1 (QI (fun r34 T34 => (¬ r34 = (nI 0) → ∃ n56 : Nat, ix (((nI 60) * i1) + i2) n56 240 ∧ (∀ S71 : Sg, S71 = (u2 T34.1 92 n56 ((i3).toInt8.toInt32), T34.2) → (P ((T34.1 92 n56) + (nI 1000)) S71))) ∧ (r34 = (nI 0) → Ct G l mX5_finds d [.ref 7, .int (nI 2)] T34 (QI (fun r42 T42 => P r42 T42)))))) ∧ (¬ ((nI 0) ≤ (T1.1 91 n14)) → Ct G l mX5_finds d [.ref 7, .int (nI 1)] T1 (QI (fun r20 T20 => P r20 T20))))) ∧ (r1 = (nI 0) → P (-1) T1)))) :
    Ct G l mX5_put (d + 1) [.ref 7, .int i1, .int i2, .int i3] S (QI P) := by
  show Ev G l mX5_put (d + 1) 0 [some (.ref 7), some (.int i1), some (.int i2), some (.int i3), none] [] S (QI P)
  refine r_iload_n (μ := mX5_put) (pc := 0) dX5_put_0 rfl rfl ?_
  refine r_callS (μ := mX5_put) (pc := 1) (as := [.int i1]) cX5_96 dX5_put_1 rfl okX5_isText (Nat.lt_succ_self d) (cat8 (n := 0) rfl (by decide)) rfl h (k_I (fun r1 T1 h => ?_))
  refine r_if_ne (μ := mX5_put) (pc := 4) (tgt := 9) dX5_put_4 (by decide) ⟨fun q4 => ?_, fun q4 => ?_⟩
  · have h := h.1 q4
    refine r_aload_n (μ := mX5_put) (pc := 9) dX5_put_9 rfl rfl ?_
    refine g_R (μ := mX5_put) (pc := 10) (k' := 91) fX5_19 dX5_put_10 rfl rfl ?_
    refine r_iload_n (μ := mX5_put) (pc := 13) dX5_put_13 rfl rfl ?_
    obtain ⟨n14, hx14, h⟩ := h
    refine r_iald (μ := mX5_put) (pc := 14) dX5_put_14 rfl hx14 ?_
    refine r_if_ge (μ := mX5_put) (pc := 15) (tgt := 24) dX5_put_15 (by decide) ⟨fun q15 => ?_, fun q15 => ?_⟩
    · have h := h.1 q15
      refine r_iload_n (μ := mX5_put) (pc := 24) dX5_put_24 rfl rfl ?_
      refine r_iconst (μ := mX5_put) (pc := 25) (v := nI 0) dX5_put_25 rfl ?_
      refine r_aload_n (μ := mX5_put) (pc := 26) dX5_put_26 rfl rfl ?_
      refine g_R (μ := mX5_put) (pc := 27) (k' := 91) fX5_19 dX5_put_27 rfl rfl ?_
      refine r_iload_n (μ := mX5_put) (pc := 30) dX5_put_30 rfl rfl ?_
      refine r_iald (μ := mX5_put) (pc := 31) dX5_put_31 rfl hx14 ?_
      refine r_iconst (μ := mX5_put) (pc := 32) (v := nI 1) dX5_put_32 rfl ?_
      refine r_isub (μ := mX5_put) (pc := 33) dX5_put_33 ?_
      refine r_callS (μ := mX5_put) (pc := 34) (as := [.int i2, .int (nI 0), .int ((T1.1 91 n14) - (nI 1))]) cX5_73 dX5_put_34 rfl okX5_in (Nat.lt_succ_self d) (cat8 (n := 0) rfl (by decide)) rfl h (k_I (fun r34 T34 h => ?_))
      refine r_if_ne (μ := mX5_put) (pc := 37) (tgt := 46) dX5_put_37 (by decide) ⟨fun q37 => ?_, fun q37 => ?_⟩
      · have h := h.1 q37
        refine r_aload_n (μ := mX5_put) (pc := 46) dX5_put_46 rfl rfl ?_
        refine g_R (μ := mX5_put) (pc := 47) (k' := 92) fX5_22 dX5_put_47 rfl rfl ?_
        refine r_bipush (μ := mX5_put) (pc := 50) (v := nI 60) dX5_put_50 rfl ?_
        refine r_iload_n (μ := mX5_put) (pc := 52) dX5_put_52 rfl rfl ?_
        refine r_imul (μ := mX5_put) (pc := 53) dX5_put_53 ?_
        refine r_iload_n (μ := mX5_put) (pc := 54) dX5_put_54 rfl rfl ?_
        refine r_iadd (μ := mX5_put) (pc := 55) dX5_put_55 ?_
        obtain ⟨n56, hx56, h⟩ := h
        refine r_iald (μ := mX5_put) (pc := 56) dX5_put_56 rfl hx56 ?_
        refine r_istore (μ := mX5_put) (pc := 57) (ls' := [some (.ref 7), some (.int i1), some (.int i2), some (.int i3), some (.int (T34.1 92 n56))]) dX5_put_57 (Nat.le_of_ble_eq_true rfl) rfl rfl ?_
        refine r_aload_n (μ := mX5_put) (pc := 59) dX5_put_59 rfl rfl ?_
        refine g_R (μ := mX5_put) (pc := 60) (k' := 92) fX5_22 dX5_put_60 rfl rfl ?_
        refine r_bipush (μ := mX5_put) (pc := 63) (v := nI 60) dX5_put_63 rfl ?_
        refine r_iload_n (μ := mX5_put) (pc := 65) dX5_put_65 rfl rfl ?_
        refine r_imul (μ := mX5_put) (pc := 66) dX5_put_66 ?_
        refine r_iload_n (μ := mX5_put) (pc := 67) dX5_put_67 rfl rfl ?_
        refine r_iadd (μ := mX5_put) (pc := 68) dX5_put_68 ?_
        refine r_iload_n (μ := mX5_put) (pc := 69) dX5_put_69 rfl rfl ?_
        refine r_i2b (μ := mX5_put) (pc := 70) dX5_put_70 ?_
        refine r_iast (μ := mX5_put) (pc := 71) dX5_put_71 rfl hx56 ?_
        refine nm_S (fun S71 eS71 => ?_)
        have h := h S71 eS71
        refine r_iload (μ := mX5_put) (pc := 72) dX5_put_72 rfl ?_
        refine r_sipush (μ := mX5_put) (pc := 74) (v := nI 1000) dX5_put_74 rfl ?_
        refine r_iadd (μ := mX5_put) (pc := 77) dX5_put_77 ?_
        exact r_iret (μ := mX5_put) (pc := 78) dX5_put_78 rfl h
      · have h := h.2 q37
        refine r_aload_n (μ := mX5_put) (pc := 40) dX5_put_40 rfl rfl ?_
        refine r_iconst (μ := mX5_put) (pc := 41) (v := nI 2) dX5_put_41 rfl ?_
        refine r_callV (μ := mX5_put) (pc := 42) (as := [.int (nI 2)]) 5 cX5_81 dX5_put_42 rfl rfl (Nat.le_of_ble_eq_true rfl) rfl okX5_finds (Nat.lt_succ_self d) (cat8 (n := 0) rfl (by decide)) rfl h (k_I (fun r42 T42 h => ?_))
        exact r_iret (μ := mX5_put) (pc := 45) dX5_put_45 rfl h
    · have h := h.2 q15
      refine r_aload_n (μ := mX5_put) (pc := 18) dX5_put_18 rfl rfl ?_
      refine r_iconst (μ := mX5_put) (pc := 19) (v := nI 1) dX5_put_19 rfl ?_
      refine r_callV (μ := mX5_put) (pc := 20) (as := [.int (nI 1)]) 5 cX5_81 dX5_put_20 rfl rfl (Nat.le_of_ble_eq_true rfl) rfl okX5_finds (Nat.lt_succ_self d) (cat8 (n := 0) rfl (by decide)) rfl h (k_I (fun r20 T20 h => ?_))
      exact r_iret (μ := mX5_put) (pc := 23) dX5_put_23 rfl h
  · have h := h.2 q4
    refine r_iconst (μ := mX5_put) (pc := 7) (v := (-1)) dX5_put_7 rfl ?_
    exact r_iret (μ := mX5_put) (pc := 8) dX5_put_8 rfl h

set_option maxRecDepth 20000 in
theorem bX5_look_0 {G : Gl} {l : Launch} {d : Nat} {S : Sg} {P : Int32 → Sg → Prop} (i1 : Int32)
    (h : ∃ n9 : Nat, ix i1 n9 4 ∧ ((¬ ((S.1 91 n9) ≤ (S.1 7 20)) → ix (((nI 60) * i1) + (S.1 7 20)) ((((nI 60) * i1) + (S.1 7 20)).toNatClampNeg) 240) ∧ ∀ x10 : Int32, x10 = (if (S.1 91 n9) ≤ (S.1 7 20) then (-1000) else (S.1 92 (((nI 60) * i1) + (S.1 7 20)).toNatClampNeg)) → (P x10 S))) :
    Ct G l mX5_look (d + 1) [.ref 7, .int i1] S (QI P) := by
  show Ev G l mX5_look (d + 1) 0 [some (.ref 7), some (.int i1)] [] S (QI P)
  refine r_aload_n (μ := mX5_look) (pc := 0) dX5_look_0 rfl rfl ?_
  refine g_I (μ := mX5_look) (pc := 1) fX5_99 dX5_look_1 rfl ?_
  refine r_aload_n (μ := mX5_look) (pc := 4) dX5_look_4 rfl rfl ?_
  refine g_R (μ := mX5_look) (pc := 5) (k' := 91) fX5_19 dX5_look_5 rfl rfl ?_
  refine r_iload_n (μ := mX5_look) (pc := 8) dX5_look_8 rfl rfl ?_
  obtain ⟨n9, hx9, h⟩ := h
  refine r_iald (μ := mX5_look) (pc := 9) dX5_look_9 rfl hx9 ?_
  obtain ⟨hp26, h⟩ := h
  have J10 : ∀ x10 : Int32, x10 = (if (S.1 91 n9) ≤ (S.1 7 20) then (-1000) else (S.1 92 (((nI 60) * i1) + (S.1 7 20)).toNatClampNeg)) → Ev G l mX5_look (d + 1) 33 [some (.ref 7), some (.int i1)] [.int x10] S (QI P) := by
    intro x10 e10
    have h := h x10 e10
    exact r_iret (μ := mX5_look) (pc := 33) dX5_look_33 rfl h
  refine r_icmp_ge (μ := mX5_look) (pc := 10) (tgt := 30) dX5_look_10 (by decide) ⟨fun q10 => ?_, fun q10 => ?_⟩
  · refine r_sipush (μ := mX5_look) (pc := 30) (v := (-1000)) dX5_look_30 rfl ?_
    exact J10 _ (by first | (rw [if_pos q10]; done) | simp only [if_pos q10])
  · have hp26 := hp26 q10
    refine r_aload_n (μ := mX5_look) (pc := 13) dX5_look_13 rfl rfl ?_
    refine g_R (μ := mX5_look) (pc := 14) (k' := 92) fX5_22 dX5_look_14 rfl rfl ?_
    refine r_bipush (μ := mX5_look) (pc := 17) (v := nI 60) dX5_look_17 rfl ?_
    refine r_iload_n (μ := mX5_look) (pc := 19) dX5_look_19 rfl rfl ?_
    refine r_imul (μ := mX5_look) (pc := 20) dX5_look_20 ?_
    refine r_aload_n (μ := mX5_look) (pc := 21) dX5_look_21 rfl rfl ?_
    refine g_I (μ := mX5_look) (pc := 22) fX5_99 dX5_look_22 rfl ?_
    refine r_iadd (μ := mX5_look) (pc := 25) dX5_look_25 ?_
    refine r_iald (μ := mX5_look) (pc := 26) dX5_look_26 rfl hp26 ?_
    refine r_goto (μ := mX5_look) (pc := 27) (tgt := 33) dX5_look_27 (by decide) ?_
    exact J10 _ (by first | (rw [if_neg q10]; done) | simp only [if_neg q10])

set_option maxRecDepth 20000 in
theorem bX5_skips_0 {G : Gl} {l : Launch} {d : Nat} {S : Sg} {P : Sg → Prop} (i1 : Int32)
    (h : ((S.1 7 21) = (nI 0) → P S) ∧ (¬ ((S.1 7 21) = (nI 0)) → Ct G l mX5_look d [.ref 7, .int i1] S (QI (fun r9 T9 => (¬ r9 = (nI 32) → P T9) ∧ (r9 = (nI 32) → ∀ S24 : Sg, S24 = (u2 T9.1 7 20 ((T9.1 7 20) + (nI 1)), T9.2) → (Ev G l mX5_skips (d + 1) 0 [some (.ref 7), some (.int i1)] [] S24 (QV P))))))) :
    Ct G l mX5_skips (d + 1) [.ref 7, .int i1] S (QV P) := by
  show Ev G l mX5_skips (d + 1) 0 [some (.ref 7), some (.int i1)] [] S (QV P)
  refine r_aload_n (μ := mX5_skips) (pc := 0) dX5_skips_0 rfl rfl ?_
  refine g_I (μ := mX5_skips) (pc := 1) fX5_102 dX5_skips_1 rfl ?_
  refine r_if_eq (μ := mX5_skips) (pc := 4) (tgt := 30) dX5_skips_4 (by decide) ⟨fun q4 => ?_, fun q4 => ?_⟩
  · have h := h.1 q4
    exact r_vret (μ := mX5_skips) (pc := 30) dX5_skips_30 rfl h
  · have h := h.2 q4
    refine r_aload_n (μ := mX5_skips) (pc := 7) dX5_skips_7 rfl rfl ?_
    refine r_iload_n (μ := mX5_skips) (pc := 8) dX5_skips_8 rfl rfl ?_
    refine r_callV (μ := mX5_skips) (pc := 9) (as := [.int i1]) 5 cX5_106 dX5_skips_9 rfl rfl (Nat.le_of_ble_eq_true rfl) rfl okX5_look (Nat.lt_succ_self d) (cat8 (n := 0) rfl (by decide)) rfl h (k_I (fun r9 T9 h => ?_))
    refine r_bipush (μ := mX5_skips) (pc := 12) (v := nI 32) dX5_skips_12 rfl ?_
    refine r_icmp_ne (μ := mX5_skips) (pc := 14) (tgt := 30) dX5_skips_14 (by decide) ⟨fun q14 => ?_, fun q14 => ?_⟩
    · have h := h.1 q14
      exact r_vret (μ := mX5_skips) (pc := 30) dX5_skips_30 rfl h
    · have h := h.2 q14
      refine r_aload_n (μ := mX5_skips) (pc := 17) dX5_skips_17 rfl rfl ?_
      refine r_dup (μ := mX5_skips) (pc := 18) dX5_skips_18 rfl ?_
      refine g_I (μ := mX5_skips) (pc := 19) fX5_99 dX5_skips_19 rfl ?_
      refine r_iconst (μ := mX5_skips) (pc := 22) (v := nI 1) dX5_skips_22 rfl ?_
      refine r_iadd (μ := mX5_skips) (pc := 23) dX5_skips_23 ?_
      refine p_I (μ := mX5_skips) (pc := 24) fX5_99 wfX5_99 dX5_skips_24 rfl ?_
      refine nm_S (fun S24 eS24 => ?_)
      have h := h S24 eS24
      refine r_goto (μ := mX5_skips) (pc := 27) (tgt := 0) dX5_skips_27 (by decide) ?_
      exact h

set_option maxRecDepth 20000 in
theorem bX5_figure_0 {G : Gl} {l : Launch} {d : Nat} {S : Sg} {P : Int32 → Sg → Prop} (i1 : Int32) (i2 : Int32) (i3 : Int32)
    (h : Ct G l mX5_look d [.ref 7, .int i1] S (QI (fun r2 T2 => ((T2.1 7 21) = (nI 0) → Ev G l mX5_figure (d + 1) 47 [some (.ref 7), some (.int i1), some (.int i2), some (.int i3), some (.int (r2 - (nI 48)))] [.ref 7] T2 (QI P)) ∧ (¬ ((T2.1 7 21) = (nI 0)) → Ct G l mX5_look d [.ref 7, .int i1] T2 (QI (fun r20 T20 => Ct G l mX5_in d [.int r20, .int (nI 48), .int (nI 57)] T20 (QI (fun r27 T27 => (r27 = (nI 0) → Ev G l mX5_figure (d + 1) 47 [some (.ref 7), some (.int i1), some (.int i2), some (.int i3), some (.int (r2 - (nI 48)))] [.ref 7] T27 (QI P)) ∧ (¬ (r27 = (nI 0)) → Ct G l mX5_in d [.int (r2 - (nI 48)), .int i2, .int i3] T27 (QI (fun r37 T37 => ∀ x40 : Int32, x40 = (if r37 = (nI 0) then (nI 0) else (nI 1)) → (∀ S48 : Sg, S48 = (u2 T37.1 7 21 x40, T37.2) → (∀ x60 : Int32, x60 = (if (S48.1 7 21) = (nI 0) then (nI 0) else (nI 1)) → (∀ S69 : Sg, S69 = (u2 S48.1 7 20 ((S48.1 7 20) + x60), S48.2) → (P (r2 - (nI 48)) S69))))))))))))))) :
    Ct G l mX5_figure (d + 1) [.ref 7, .int i1, .int i2, .int i3] S (QI P) := by
  show Ev G l mX5_figure (d + 1) 0 [some (.ref 7), some (.int i1), some (.int i2), some (.int i3), none] [] S (QI P)
  refine r_aload_n (μ := mX5_figure) (pc := 0) dX5_figure_0 rfl rfl ?_
  refine r_iload_n (μ := mX5_figure) (pc := 1) dX5_figure_1 rfl rfl ?_
  refine r_callV (μ := mX5_figure) (pc := 2) (as := [.int i1]) 5 cX5_106 dX5_figure_2 rfl rfl (Nat.le_of_ble_eq_true rfl) rfl okX5_look (Nat.lt_succ_self d) (cat8 (n := 0) rfl (by decide)) rfl h (k_I (fun r2 T2 h => ?_))
  refine r_bipush (μ := mX5_figure) (pc := 5) (v := nI 48) dX5_figure_5 rfl ?_
  refine r_isub (μ := mX5_figure) (pc := 7) dX5_figure_7 ?_
  refine r_istore (μ := mX5_figure) (pc := 8) (ls' := [some (.ref 7), some (.int i1), some (.int i2), some (.int i3), some (.int (r2 - (nI 48)))]) dX5_figure_8 (Nat.le_of_ble_eq_true rfl) rfl rfl ?_
  refine r_aload_n (μ := mX5_figure) (pc := 10) dX5_figure_10 rfl rfl ?_
  refine r_aload_n (μ := mX5_figure) (pc := 11) dX5_figure_11 rfl rfl ?_
  refine g_I (μ := mX5_figure) (pc := 12) fX5_102 dX5_figure_12 rfl ?_
  refine r_if_eq (μ := mX5_figure) (pc := 15) (tgt := 47) dX5_figure_15 (by decide) ⟨fun q15 => ?_, fun q15 => ?_⟩
  · have h := h.1 q15
    exact h
  · have h := h.2 q15
    refine r_aload_n (μ := mX5_figure) (pc := 18) dX5_figure_18 rfl rfl ?_
    refine r_iload_n (μ := mX5_figure) (pc := 19) dX5_figure_19 rfl rfl ?_
    refine r_callV (μ := mX5_figure) (pc := 20) (as := [.int i1]) 5 cX5_106 dX5_figure_20 rfl rfl (Nat.le_of_ble_eq_true rfl) rfl okX5_look (Nat.lt_succ_self d) (cat8 (n := 1) rfl (by decide)) rfl h (k_I (fun r20 T20 h => ?_))
    refine r_bipush (μ := mX5_figure) (pc := 23) (v := nI 48) dX5_figure_23 rfl ?_
    refine r_bipush (μ := mX5_figure) (pc := 25) (v := nI 57) dX5_figure_25 rfl ?_
    refine r_callS (μ := mX5_figure) (pc := 27) (as := [.int r20, .int (nI 48), .int (nI 57)]) cX5_73 dX5_figure_27 rfl okX5_in (Nat.lt_succ_self d) (cat8 (n := 1) rfl (by decide)) rfl h (k_I (fun r27 T27 h => ?_))
    refine r_if_eq (μ := mX5_figure) (pc := 30) (tgt := 47) dX5_figure_30 (by decide) ⟨fun q30 => ?_, fun q30 => ?_⟩
    · have h := h.1 q30
      exact h
    · have h := h.2 q30
      refine r_iload (μ := mX5_figure) (pc := 33) dX5_figure_33 rfl ?_
      refine r_iload_n (μ := mX5_figure) (pc := 35) dX5_figure_35 rfl rfl ?_
      refine r_iload_n (μ := mX5_figure) (pc := 36) dX5_figure_36 rfl rfl ?_
      refine r_callS (μ := mX5_figure) (pc := 37) (as := [.int (r2 - (nI 48)), .int i2, .int i3]) cX5_73 dX5_figure_37 rfl okX5_in (Nat.lt_succ_self d) (cat8 (n := 1) rfl (by decide)) rfl h (k_I (fun r37 T37 h => ?_))
      have J40 : ∀ x40 : Int32, x40 = (if r37 = (nI 0) then (nI 0) else (nI 1)) → Ev G l mX5_figure (d + 1) 48 [some (.ref 7), some (.int i1), some (.int i2), some (.int i3), some (.int (r2 - (nI 48)))] [.int x40, .ref 7] T37 (QI P) := by
        intro x40 e40
        have h := h x40 e40
        refine p_Z (μ := mX5_figure) (pc := 48) fX5_102 wfX5_102 (by rw [e40]; exact (zb_if rfl rfl)) dX5_figure_48 rfl ?_
        refine nm_S (fun S48 eS48 => ?_)
        have h := h S48 eS48
        refine r_aload_n (μ := mX5_figure) (pc := 51) dX5_figure_51 rfl rfl ?_
        refine r_dup (μ := mX5_figure) (pc := 52) dX5_figure_52 rfl ?_
        refine g_I (μ := mX5_figure) (pc := 53) fX5_99 dX5_figure_53 rfl ?_
        refine r_aload_n (μ := mX5_figure) (pc := 56) dX5_figure_56 rfl rfl ?_
        refine g_I (μ := mX5_figure) (pc := 57) fX5_102 dX5_figure_57 rfl ?_
        have J60 : ∀ x60 : Int32, x60 = (if (S48.1 7 21) = (nI 0) then (nI 0) else (nI 1)) → Ev G l mX5_figure (d + 1) 68 [some (.ref 7), some (.int i1), some (.int i2), some (.int i3), some (.int (r2 - (nI 48)))] [.int x60, .int (S48.1 7 20), .ref 7] S48 (QI P) := by
          intro x60 e60
          have h := h x60 e60
          refine r_iadd (μ := mX5_figure) (pc := 68) dX5_figure_68 ?_
          refine p_I (μ := mX5_figure) (pc := 69) fX5_99 wfX5_99 dX5_figure_69 rfl ?_
          refine nm_S (fun S69 eS69 => ?_)
          have h := h S69 eS69
          refine r_iload (μ := mX5_figure) (pc := 72) dX5_figure_72 rfl ?_
          exact r_iret (μ := mX5_figure) (pc := 74) dX5_figure_74 rfl h
        refine r_if_eq (μ := mX5_figure) (pc := 60) (tgt := 67) dX5_figure_60 (by decide) ⟨fun q60 => ?_, fun q60 => ?_⟩
        · refine r_iconst (μ := mX5_figure) (pc := 67) (v := nI 0) dX5_figure_67 rfl ?_
          exact J60 _ (by first | (rw [if_pos q60]; done) | simp only [if_pos q60])
        · refine r_iconst (μ := mX5_figure) (pc := 63) (v := nI 1) dX5_figure_63 rfl ?_
          refine r_goto (μ := mX5_figure) (pc := 64) (tgt := 68) dX5_figure_64 (by decide) ?_
          exact J60 _ (by first | (rw [if_neg q60]; done) | simp only [if_neg q60])
      refine r_if_eq (μ := mX5_figure) (pc := 40) (tgt := 47) dX5_figure_40 (by decide) ⟨fun q40 => ?_, fun q40 => ?_⟩
      · refine r_iconst (μ := mX5_figure) (pc := 47) (v := nI 0) dX5_figure_47 rfl ?_
        exact J40 _ (by first | (rw [if_pos q40]; done) | simp only [if_pos q40])
      · refine r_iconst (μ := mX5_figure) (pc := 43) (v := nI 1) dX5_figure_43 rfl ?_
        refine r_goto (μ := mX5_figure) (pc := 44) (tgt := 48) dX5_figure_44 (by decide) ?_
        exact J40 _ (by first | (rw [if_neg q40]; done) | simp only [if_neg q40])

set_option maxRecDepth 20000 in
theorem bX5_figure_47 {G : Gl} {l : Launch} {d : Nat} {S : Sg} {P : Int32 → Sg → Prop} (i1 : Int32) (i2 : Int32) (i3 : Int32) (i4 : Int32)
    (h : Ev G l mX5_figure (d + 1) 48 [some (.ref 7), some (.int i1), some (.int i2), some (.int i3), some (.int i4)] [.int (nI 0), .ref 7] S (QI P)) :
    Ev G l mX5_figure (d + 1) 47 [some (.ref 7), some (.int i1), some (.int i2), some (.int i3), some (.int i4)] [.ref 7] S (QI P) := by
  show Ev G l mX5_figure (d + 1) 47 [some (.ref 7), some (.int i1), some (.int i2), some (.int i3), some (.int i4)] [.ref 7] S (QI P)
  refine r_iconst (μ := mX5_figure) (pc := 47) (v := nI 0) dX5_figure_47 rfl ?_
  exact h

set_option maxRecDepth 20000 in
theorem bX5_figure_48 {G : Gl} {l : Launch} {d : Nat} {S : Sg} {P : Int32 → Sg → Prop} (i1 : Int32) (i2 : Int32) (i3 : Int32) (i4 : Int32) (s0 : Int32)
    (h : zb s0 ∧ ∀ S48 : Sg, S48 = (u2 S.1 7 21 s0, S.2) → (∀ x60 : Int32, x60 = (if (S48.1 7 21) = (nI 0) then (nI 0) else (nI 1)) → (∀ S69 : Sg, S69 = (u2 S48.1 7 20 ((S48.1 7 20) + x60), S48.2) → (P i4 S69)))) :
    Ev G l mX5_figure (d + 1) 48 [some (.ref 7), some (.int i1), some (.int i2), some (.int i3), some (.int i4)] [.int s0, .ref 7] S (QI P) := by
  show Ev G l mX5_figure (d + 1) 48 [some (.ref 7), some (.int i1), some (.int i2), some (.int i3), some (.int i4)] [.int s0, .ref 7] S (QI P)
  obtain ⟨hb48, h⟩ := h
  refine p_Z (μ := mX5_figure) (pc := 48) fX5_102 wfX5_102 hb48 dX5_figure_48 rfl ?_
  refine nm_S (fun S48 eS48 => ?_)
  have h := h S48 eS48
  refine r_aload_n (μ := mX5_figure) (pc := 51) dX5_figure_51 rfl rfl ?_
  refine r_dup (μ := mX5_figure) (pc := 52) dX5_figure_52 rfl ?_
  refine g_I (μ := mX5_figure) (pc := 53) fX5_99 dX5_figure_53 rfl ?_
  refine r_aload_n (μ := mX5_figure) (pc := 56) dX5_figure_56 rfl rfl ?_
  refine g_I (μ := mX5_figure) (pc := 57) fX5_102 dX5_figure_57 rfl ?_
  have J60 : ∀ x60 : Int32, x60 = (if (S48.1 7 21) = (nI 0) then (nI 0) else (nI 1)) → Ev G l mX5_figure (d + 1) 68 [some (.ref 7), some (.int i1), some (.int i2), some (.int i3), some (.int i4)] [.int x60, .int (S48.1 7 20), .ref 7] S48 (QI P) := by
    intro x60 e60
    have h := h x60 e60
    refine r_iadd (μ := mX5_figure) (pc := 68) dX5_figure_68 ?_
    refine p_I (μ := mX5_figure) (pc := 69) fX5_99 wfX5_99 dX5_figure_69 rfl ?_
    refine nm_S (fun S69 eS69 => ?_)
    have h := h S69 eS69
    refine r_iload (μ := mX5_figure) (pc := 72) dX5_figure_72 rfl ?_
    exact r_iret (μ := mX5_figure) (pc := 74) dX5_figure_74 rfl h
  refine r_if_eq (μ := mX5_figure) (pc := 60) (tgt := 67) dX5_figure_60 (by decide) ⟨fun q60 => ?_, fun q60 => ?_⟩
  · refine r_iconst (μ := mX5_figure) (pc := 67) (v := nI 0) dX5_figure_67 rfl ?_
    exact J60 _ (by first | (rw [if_pos q60]; done) | simp only [if_pos q60])
  · refine r_iconst (μ := mX5_figure) (pc := 63) (v := nI 1) dX5_figure_63 rfl ?_
    refine r_goto (μ := mX5_figure) (pc := 64) (tgt := 68) dX5_figure_64 (by decide) ?_
    exact J60 _ (by first | (rw [if_neg q60]; done) | simp only [if_neg q60])

set_option maxRecDepth 20000 in
theorem bX5_kindOf_0 {G : Gl} {l : Launch} {d : Nat} {S : Sg} {P : Int32 → Sg → Prop} (i0 : Int32)
    (h : ∀ x3 : Int32, x3 = (if i0 = (nI 112) then (nI 0) else (if i0 = (nI 111) then (nI 1) else (if i0 = (nI 108) then (nI 2) else (if i0 = (nI 104) then (nI 3) else (if i0 = (nI 116) then (nI 4) else (if i0 = (nI 102) then (nI 5) else (-9))))))) → (P x3 S)) :
    Ct G l mX5_kindOf (d + 1) [.int i0] S (QI P) := by
  show Ev G l mX5_kindOf (d + 1) 0 [some (.int i0)] [] S (QI P)
  refine r_iload_n (μ := mX5_kindOf) (pc := 0) dX5_kindOf_0 rfl rfl ?_
  refine r_bipush (μ := mX5_kindOf) (pc := 1) (v := nI 112) dX5_kindOf_1 rfl ?_
  have J3 : ∀ x3 : Int32, x3 = (if i0 = (nI 112) then (nI 0) else (if i0 = (nI 111) then (nI 1) else (if i0 = (nI 108) then (nI 2) else (if i0 = (nI 104) then (nI 3) else (if i0 = (nI 116) then (nI 4) else (if i0 = (nI 102) then (nI 5) else (-9))))))) → Ev G l mX5_kindOf (d + 1) 62 [some (.int i0)] [.int x3] S (QI P) := by
    intro x3 e3
    have h := h x3 e3
    exact r_iret (μ := mX5_kindOf) (pc := 62) dX5_kindOf_62 rfl h
  refine r_icmp_ne (μ := mX5_kindOf) (pc := 3) (tgt := 10) dX5_kindOf_3 (by decide) ⟨fun q3 => ?_, fun q3 => ?_⟩
  · refine r_iload_n (μ := mX5_kindOf) (pc := 10) dX5_kindOf_10 rfl rfl ?_
    refine r_bipush (μ := mX5_kindOf) (pc := 11) (v := nI 111) dX5_kindOf_11 rfl ?_
    refine r_icmp_ne (μ := mX5_kindOf) (pc := 13) (tgt := 20) dX5_kindOf_13 (by decide) ⟨fun q13 => ?_, fun q13 => ?_⟩
    · refine r_iload_n (μ := mX5_kindOf) (pc := 20) dX5_kindOf_20 rfl rfl ?_
      refine r_bipush (μ := mX5_kindOf) (pc := 21) (v := nI 108) dX5_kindOf_21 rfl ?_
      refine r_icmp_ne (μ := mX5_kindOf) (pc := 23) (tgt := 30) dX5_kindOf_23 (by decide) ⟨fun q23 => ?_, fun q23 => ?_⟩
      · refine r_iload_n (μ := mX5_kindOf) (pc := 30) dX5_kindOf_30 rfl rfl ?_
        refine r_bipush (μ := mX5_kindOf) (pc := 31) (v := nI 104) dX5_kindOf_31 rfl ?_
        refine r_icmp_ne (μ := mX5_kindOf) (pc := 33) (tgt := 40) dX5_kindOf_33 (by decide) ⟨fun q33 => ?_, fun q33 => ?_⟩
        · refine r_iload_n (μ := mX5_kindOf) (pc := 40) dX5_kindOf_40 rfl rfl ?_
          refine r_bipush (μ := mX5_kindOf) (pc := 41) (v := nI 116) dX5_kindOf_41 rfl ?_
          refine r_icmp_ne (μ := mX5_kindOf) (pc := 43) (tgt := 50) dX5_kindOf_43 (by decide) ⟨fun q43 => ?_, fun q43 => ?_⟩
          · refine r_iload_n (μ := mX5_kindOf) (pc := 50) dX5_kindOf_50 rfl rfl ?_
            refine r_bipush (μ := mX5_kindOf) (pc := 51) (v := nI 102) dX5_kindOf_51 rfl ?_
            refine r_icmp_ne (μ := mX5_kindOf) (pc := 53) (tgt := 60) dX5_kindOf_53 (by decide) ⟨fun q53 => ?_, fun q53 => ?_⟩
            · refine r_bipush (μ := mX5_kindOf) (pc := 60) (v := (-9)) dX5_kindOf_60 rfl ?_
              exact J3 _ (by first | (rw [if_neg q3, if_neg q13, if_neg q23, if_neg q33, if_neg q43, if_neg q53]; done) | simp only [if_neg q3, if_neg q13, if_neg q23, if_neg q33, if_neg q43, if_neg q53])
            · refine r_iconst (μ := mX5_kindOf) (pc := 56) (v := nI 5) dX5_kindOf_56 rfl ?_
              refine r_goto (μ := mX5_kindOf) (pc := 57) (tgt := 62) dX5_kindOf_57 (by decide) ?_
              exact J3 _ (by first | (rw [if_neg q3, if_neg q13, if_neg q23, if_neg q33, if_neg q43, if_pos q53]; done) | simp only [if_neg q3, if_neg q13, if_neg q23, if_neg q33, if_neg q43, if_pos q53])
          · refine r_iconst (μ := mX5_kindOf) (pc := 46) (v := nI 4) dX5_kindOf_46 rfl ?_
            refine r_goto (μ := mX5_kindOf) (pc := 47) (tgt := 62) dX5_kindOf_47 (by decide) ?_
            exact J3 _ (by first | (rw [if_neg q3, if_neg q13, if_neg q23, if_neg q33, if_pos q43]; done) | simp only [if_neg q3, if_neg q13, if_neg q23, if_neg q33, if_pos q43])
        · refine r_iconst (μ := mX5_kindOf) (pc := 36) (v := nI 3) dX5_kindOf_36 rfl ?_
          refine r_goto (μ := mX5_kindOf) (pc := 37) (tgt := 62) dX5_kindOf_37 (by decide) ?_
          exact J3 _ (by first | (rw [if_neg q3, if_neg q13, if_neg q23, if_pos q33]; done) | simp only [if_neg q3, if_neg q13, if_neg q23, if_pos q33])
      · refine r_iconst (μ := mX5_kindOf) (pc := 26) (v := nI 2) dX5_kindOf_26 rfl ?_
        refine r_goto (μ := mX5_kindOf) (pc := 27) (tgt := 62) dX5_kindOf_27 (by decide) ?_
        exact J3 _ (by first | (rw [if_neg q3, if_neg q13, if_pos q23]; done) | simp only [if_neg q3, if_neg q13, if_pos q23])
    · refine r_iconst (μ := mX5_kindOf) (pc := 16) (v := nI 1) dX5_kindOf_16 rfl ?_
      refine r_goto (μ := mX5_kindOf) (pc := 17) (tgt := 62) dX5_kindOf_17 (by decide) ?_
      exact J3 _ (by first | (rw [if_neg q3, if_pos q13]; done) | simp only [if_neg q3, if_pos q13])
  · refine r_iconst (μ := mX5_kindOf) (pc := 6) (v := nI 0) dX5_kindOf_6 rfl ?_
    refine r_goto (μ := mX5_kindOf) (pc := 7) (tgt := 62) dX5_kindOf_7 (by decide) ?_
    exact J3 _ (by first | (rw [if_pos q3]; done) | simp only [if_pos q3])

set_option maxRecDepth 20000 in
theorem bX5_readsHead_0 {G : Gl} {l : Launch} {d : Nat} {S : Sg} {P : Sg → Prop} (i1 : Int32)
    (h : Ct G l mX5_skips d [.ref 7, .int i1] S (QV (fun T2 => Ct G l mX5_look d [.ref 7, .int i1] T2 (QI (fun r8 T8 => ∀ x13 : Int32, x13 = (if r8 = (nI 110) then (nI 1) else (nI 0)) → (∀ S21 : Sg, S21 = (u2 T8.1 7 21 x13, T8.2) → (∀ x33 : Int32, x33 = (if (S21.1 7 21) = (nI 0) then (nI 0) else (nI 1)) → (∀ S42 : Sg, S42 = (u2 S21.1 7 20 ((S21.1 7 20) + x33), S21.2) → (Ct G l mX5_figure d [.ref 7, .int i1, .int (nI 3), .int (nI 9)] S42 (QI (fun r55 T55 => ∀ S58 : Sg, S58 = (u2 T55.1 94 0 r55, T55.2) → (Ct G l mX5_figure d [.ref 7, .int i1, .int (nI 0), .int (S58.1 94 0)] S58 (QI (fun r73 T73 => ∀ S76 : Sg, S76 = (u2 T73.1 94 1 r73, T73.2) → (Ct G l mX5_figure d [.ref 7, .int i1, .int (S76.1 94 1), .int (S76.1 94 0)] S76 (QI (fun r96 T96 => ∀ S99 : Sg, S99 = (u2 T96.1 94 2 r96, T96.2) → (Ct G l mX5_figure d [.ref 7, .int i1, .int (nI 0), .int (nI 7)] S99 (QI (fun r110 T110 => ∀ S113 : Sg, S113 = (u2 T110.1 94 3 r110, T110.2) → (Ct G l mX5_figure d [.ref 7, .int i1, .int (nI 0), .int (nI 7)] S113 (QI (fun r124 T124 => ∀ S127 : Sg, S127 = (u2 T124.1 94 4 r124, T124.2) → (∀ S139 : Sg, S139 = (u2 S127.1 94 5 (S127.1 94 1), S127.2) → (∀ S152 : Sg, S152 = (u2 S139.1 94 6 (S139.1 94 2), S139.2) → (Ct G l mX5_skips d [.ref 7, .int i1] S152 (QV (fun T155 => P T155)))))))))))))))))))))))))))) :
    Ct G l mX5_readsHead (d + 1) [.ref 7, .int i1] S (QV P) := by
  show Ev G l mX5_readsHead (d + 1) 0 [some (.ref 7), some (.int i1)] [] S (QV P)
  refine r_aload_n (μ := mX5_readsHead) (pc := 0) dX5_readsHead_0 rfl rfl ?_
  refine r_iload_n (μ := mX5_readsHead) (pc := 1) dX5_readsHead_1 rfl rfl ?_
  refine r_callV (μ := mX5_readsHead) (pc := 2) (as := [.int i1]) 5 cX5_109 dX5_readsHead_2 rfl rfl (Nat.le_of_ble_eq_true rfl) rfl okX5_skips (Nat.lt_succ_self d) (cat8 (n := 0) rfl (by decide)) rfl h (k_V (fun T2 h => ?_))
  refine r_aload_n (μ := mX5_readsHead) (pc := 5) dX5_readsHead_5 rfl rfl ?_
  refine r_aload_n (μ := mX5_readsHead) (pc := 6) dX5_readsHead_6 rfl rfl ?_
  refine r_iload_n (μ := mX5_readsHead) (pc := 7) dX5_readsHead_7 rfl rfl ?_
  refine r_callV (μ := mX5_readsHead) (pc := 8) (as := [.int i1]) 5 cX5_106 dX5_readsHead_8 rfl rfl (Nat.le_of_ble_eq_true rfl) rfl okX5_look (Nat.lt_succ_self d) (cat8 (n := 1) rfl (by decide)) rfl h (k_I (fun r8 T8 h => ?_))
  refine r_bipush (μ := mX5_readsHead) (pc := 11) (v := nI 110) dX5_readsHead_11 rfl ?_
  have J13 : ∀ x13 : Int32, x13 = (if r8 = (nI 110) then (nI 1) else (nI 0)) → Ev G l mX5_readsHead (d + 1) 21 [some (.ref 7), some (.int i1)] [.int x13, .ref 7] T8 (QV P) := by
    intro x13 e13
    have h := h x13 e13
    refine p_Z (μ := mX5_readsHead) (pc := 21) fX5_102 wfX5_102 (by rw [e13]; exact (zb_if rfl rfl)) dX5_readsHead_21 rfl ?_
    refine nm_S (fun S21 eS21 => ?_)
    have h := h S21 eS21
    refine r_aload_n (μ := mX5_readsHead) (pc := 24) dX5_readsHead_24 rfl rfl ?_
    refine r_dup (μ := mX5_readsHead) (pc := 25) dX5_readsHead_25 rfl ?_
    refine g_I (μ := mX5_readsHead) (pc := 26) fX5_99 dX5_readsHead_26 rfl ?_
    refine r_aload_n (μ := mX5_readsHead) (pc := 29) dX5_readsHead_29 rfl rfl ?_
    refine g_I (μ := mX5_readsHead) (pc := 30) fX5_102 dX5_readsHead_30 rfl ?_
    have J33 : ∀ x33 : Int32, x33 = (if (S21.1 7 21) = (nI 0) then (nI 0) else (nI 1)) → Ev G l mX5_readsHead (d + 1) 41 [some (.ref 7), some (.int i1)] [.int x33, .int (S21.1 7 20), .ref 7] S21 (QV P) := by
      intro x33 e33
      have h := h x33 e33
      refine r_iadd (μ := mX5_readsHead) (pc := 41) dX5_readsHead_41 ?_
      refine p_I (μ := mX5_readsHead) (pc := 42) fX5_99 wfX5_99 dX5_readsHead_42 rfl ?_
      refine nm_S (fun S42 eS42 => ?_)
      have h := h S42 eS42
      refine r_aload_n (μ := mX5_readsHead) (pc := 45) dX5_readsHead_45 rfl rfl ?_
      refine g_R (μ := mX5_readsHead) (pc := 46) (k' := 94) fX5_28 dX5_readsHead_46 rfl rfl ?_
      refine r_iconst (μ := mX5_readsHead) (pc := 49) (v := nI 0) dX5_readsHead_49 rfl ?_
      refine r_aload_n (μ := mX5_readsHead) (pc := 50) dX5_readsHead_50 rfl rfl ?_
      refine r_iload_n (μ := mX5_readsHead) (pc := 51) dX5_readsHead_51 rfl rfl ?_
      refine r_iconst (μ := mX5_readsHead) (pc := 52) (v := nI 3) dX5_readsHead_52 rfl ?_
      refine r_bipush (μ := mX5_readsHead) (pc := 53) (v := nI 9) dX5_readsHead_53 rfl ?_
      refine r_callV (μ := mX5_readsHead) (pc := 55) (as := [.int i1, .int (nI 3), .int (nI 9)]) 5 cX5_113 dX5_readsHead_55 rfl rfl (Nat.le_of_ble_eq_true rfl) rfl okX5_figure (Nat.lt_succ_self d) (cat8 (n := 2) rfl (by decide)) rfl h (k_I (fun r55 T55 h => ?_))
      refine r_iast (μ := mX5_readsHead) (pc := 58) dX5_readsHead_58 rfl (ix_nI (n := 0) (Nat.le_of_ble_eq_true rfl) (Nat.le_of_ble_eq_true rfl)) ?_
      refine nm_S (fun S58 eS58 => ?_)
      have h := h S58 eS58
      refine r_aload_n (μ := mX5_readsHead) (pc := 59) dX5_readsHead_59 rfl rfl ?_
      refine g_R (μ := mX5_readsHead) (pc := 60) (k' := 94) fX5_28 dX5_readsHead_60 rfl rfl ?_
      refine r_iconst (μ := mX5_readsHead) (pc := 63) (v := nI 1) dX5_readsHead_63 rfl ?_
      refine r_aload_n (μ := mX5_readsHead) (pc := 64) dX5_readsHead_64 rfl rfl ?_
      refine r_iload_n (μ := mX5_readsHead) (pc := 65) dX5_readsHead_65 rfl rfl ?_
      refine r_iconst (μ := mX5_readsHead) (pc := 66) (v := nI 0) dX5_readsHead_66 rfl ?_
      refine r_aload_n (μ := mX5_readsHead) (pc := 67) dX5_readsHead_67 rfl rfl ?_
      refine g_R (μ := mX5_readsHead) (pc := 68) (k' := 94) fX5_28 dX5_readsHead_68 rfl rfl ?_
      refine r_iconst (μ := mX5_readsHead) (pc := 71) (v := nI 0) dX5_readsHead_71 rfl ?_
      refine r_iald (μ := mX5_readsHead) (pc := 72) dX5_readsHead_72 rfl (ix_nI (n := 0) (Nat.le_of_ble_eq_true rfl) (Nat.le_of_ble_eq_true rfl)) ?_
      refine r_callV (μ := mX5_readsHead) (pc := 73) (as := [.int i1, .int (nI 0), .int (S58.1 94 0)]) 5 cX5_113 dX5_readsHead_73 rfl rfl (Nat.le_of_ble_eq_true rfl) rfl okX5_figure (Nat.lt_succ_self d) (cat8 (n := 2) rfl (by decide)) rfl h (k_I (fun r73 T73 h => ?_))
      refine r_iast (μ := mX5_readsHead) (pc := 76) dX5_readsHead_76 rfl (ix_nI (n := 1) (Nat.le_of_ble_eq_true rfl) (Nat.le_of_ble_eq_true rfl)) ?_
      refine nm_S (fun S76 eS76 => ?_)
      have h := h S76 eS76
      refine r_aload_n (μ := mX5_readsHead) (pc := 77) dX5_readsHead_77 rfl rfl ?_
      refine g_R (μ := mX5_readsHead) (pc := 78) (k' := 94) fX5_28 dX5_readsHead_78 rfl rfl ?_
      refine r_iconst (μ := mX5_readsHead) (pc := 81) (v := nI 2) dX5_readsHead_81 rfl ?_
      refine r_aload_n (μ := mX5_readsHead) (pc := 82) dX5_readsHead_82 rfl rfl ?_
      refine r_iload_n (μ := mX5_readsHead) (pc := 83) dX5_readsHead_83 rfl rfl ?_
      refine r_aload_n (μ := mX5_readsHead) (pc := 84) dX5_readsHead_84 rfl rfl ?_
      refine g_R (μ := mX5_readsHead) (pc := 85) (k' := 94) fX5_28 dX5_readsHead_85 rfl rfl ?_
      refine r_iconst (μ := mX5_readsHead) (pc := 88) (v := nI 1) dX5_readsHead_88 rfl ?_
      refine r_iald (μ := mX5_readsHead) (pc := 89) dX5_readsHead_89 rfl (ix_nI (n := 1) (Nat.le_of_ble_eq_true rfl) (Nat.le_of_ble_eq_true rfl)) ?_
      refine r_aload_n (μ := mX5_readsHead) (pc := 90) dX5_readsHead_90 rfl rfl ?_
      refine g_R (μ := mX5_readsHead) (pc := 91) (k' := 94) fX5_28 dX5_readsHead_91 rfl rfl ?_
      refine r_iconst (μ := mX5_readsHead) (pc := 94) (v := nI 0) dX5_readsHead_94 rfl ?_
      refine r_iald (μ := mX5_readsHead) (pc := 95) dX5_readsHead_95 rfl (ix_nI (n := 0) (Nat.le_of_ble_eq_true rfl) (Nat.le_of_ble_eq_true rfl)) ?_
      refine r_callV (μ := mX5_readsHead) (pc := 96) (as := [.int i1, .int (S76.1 94 1), .int (S76.1 94 0)]) 5 cX5_113 dX5_readsHead_96 rfl rfl (Nat.le_of_ble_eq_true rfl) rfl okX5_figure (Nat.lt_succ_self d) (cat8 (n := 2) rfl (by decide)) rfl h (k_I (fun r96 T96 h => ?_))
      refine r_iast (μ := mX5_readsHead) (pc := 99) dX5_readsHead_99 rfl (ix_nI (n := 2) (Nat.le_of_ble_eq_true rfl) (Nat.le_of_ble_eq_true rfl)) ?_
      refine nm_S (fun S99 eS99 => ?_)
      have h := h S99 eS99
      refine r_aload_n (μ := mX5_readsHead) (pc := 100) dX5_readsHead_100 rfl rfl ?_
      refine g_R (μ := mX5_readsHead) (pc := 101) (k' := 94) fX5_28 dX5_readsHead_101 rfl rfl ?_
      refine r_iconst (μ := mX5_readsHead) (pc := 104) (v := nI 3) dX5_readsHead_104 rfl ?_
      refine r_aload_n (μ := mX5_readsHead) (pc := 105) dX5_readsHead_105 rfl rfl ?_
      refine r_iload_n (μ := mX5_readsHead) (pc := 106) dX5_readsHead_106 rfl rfl ?_
      refine r_iconst (μ := mX5_readsHead) (pc := 107) (v := nI 0) dX5_readsHead_107 rfl ?_
      refine r_bipush (μ := mX5_readsHead) (pc := 108) (v := nI 7) dX5_readsHead_108 rfl ?_
      refine r_callV (μ := mX5_readsHead) (pc := 110) (as := [.int i1, .int (nI 0), .int (nI 7)]) 5 cX5_113 dX5_readsHead_110 rfl rfl (Nat.le_of_ble_eq_true rfl) rfl okX5_figure (Nat.lt_succ_self d) (cat8 (n := 2) rfl (by decide)) rfl h (k_I (fun r110 T110 h => ?_))
      refine r_iast (μ := mX5_readsHead) (pc := 113) dX5_readsHead_113 rfl (ix_nI (n := 3) (Nat.le_of_ble_eq_true rfl) (Nat.le_of_ble_eq_true rfl)) ?_
      refine nm_S (fun S113 eS113 => ?_)
      have h := h S113 eS113
      refine r_aload_n (μ := mX5_readsHead) (pc := 114) dX5_readsHead_114 rfl rfl ?_
      refine g_R (μ := mX5_readsHead) (pc := 115) (k' := 94) fX5_28 dX5_readsHead_115 rfl rfl ?_
      refine r_iconst (μ := mX5_readsHead) (pc := 118) (v := nI 4) dX5_readsHead_118 rfl ?_
      refine r_aload_n (μ := mX5_readsHead) (pc := 119) dX5_readsHead_119 rfl rfl ?_
      refine r_iload_n (μ := mX5_readsHead) (pc := 120) dX5_readsHead_120 rfl rfl ?_
      refine r_iconst (μ := mX5_readsHead) (pc := 121) (v := nI 0) dX5_readsHead_121 rfl ?_
      refine r_bipush (μ := mX5_readsHead) (pc := 122) (v := nI 7) dX5_readsHead_122 rfl ?_
      refine r_callV (μ := mX5_readsHead) (pc := 124) (as := [.int i1, .int (nI 0), .int (nI 7)]) 5 cX5_113 dX5_readsHead_124 rfl rfl (Nat.le_of_ble_eq_true rfl) rfl okX5_figure (Nat.lt_succ_self d) (cat8 (n := 2) rfl (by decide)) rfl h (k_I (fun r124 T124 h => ?_))
      refine r_iast (μ := mX5_readsHead) (pc := 127) dX5_readsHead_127 rfl (ix_nI (n := 4) (Nat.le_of_ble_eq_true rfl) (Nat.le_of_ble_eq_true rfl)) ?_
      refine nm_S (fun S127 eS127 => ?_)
      have h := h S127 eS127
      refine r_aload_n (μ := mX5_readsHead) (pc := 128) dX5_readsHead_128 rfl rfl ?_
      refine g_R (μ := mX5_readsHead) (pc := 129) (k' := 94) fX5_28 dX5_readsHead_129 rfl rfl ?_
      refine r_iconst (μ := mX5_readsHead) (pc := 132) (v := nI 5) dX5_readsHead_132 rfl ?_
      refine r_aload_n (μ := mX5_readsHead) (pc := 133) dX5_readsHead_133 rfl rfl ?_
      refine g_R (μ := mX5_readsHead) (pc := 134) (k' := 94) fX5_28 dX5_readsHead_134 rfl rfl ?_
      refine r_iconst (μ := mX5_readsHead) (pc := 137) (v := nI 1) dX5_readsHead_137 rfl ?_
      refine r_iald (μ := mX5_readsHead) (pc := 138) dX5_readsHead_138 rfl (ix_nI (n := 1) (Nat.le_of_ble_eq_true rfl) (Nat.le_of_ble_eq_true rfl)) ?_
      refine r_iast (μ := mX5_readsHead) (pc := 139) dX5_readsHead_139 rfl (ix_nI (n := 5) (Nat.le_of_ble_eq_true rfl) (Nat.le_of_ble_eq_true rfl)) ?_
      refine nm_S (fun S139 eS139 => ?_)
      have h := h S139 eS139
      refine r_aload_n (μ := mX5_readsHead) (pc := 140) dX5_readsHead_140 rfl rfl ?_
      refine g_R (μ := mX5_readsHead) (pc := 141) (k' := 94) fX5_28 dX5_readsHead_141 rfl rfl ?_
      refine r_bipush (μ := mX5_readsHead) (pc := 144) (v := nI 6) dX5_readsHead_144 rfl ?_
      refine r_aload_n (μ := mX5_readsHead) (pc := 146) dX5_readsHead_146 rfl rfl ?_
      refine g_R (μ := mX5_readsHead) (pc := 147) (k' := 94) fX5_28 dX5_readsHead_147 rfl rfl ?_
      refine r_iconst (μ := mX5_readsHead) (pc := 150) (v := nI 2) dX5_readsHead_150 rfl ?_
      refine r_iald (μ := mX5_readsHead) (pc := 151) dX5_readsHead_151 rfl (ix_nI (n := 2) (Nat.le_of_ble_eq_true rfl) (Nat.le_of_ble_eq_true rfl)) ?_
      refine r_iast (μ := mX5_readsHead) (pc := 152) dX5_readsHead_152 rfl (ix_nI (n := 6) (Nat.le_of_ble_eq_true rfl) (Nat.le_of_ble_eq_true rfl)) ?_
      refine nm_S (fun S152 eS152 => ?_)
      have h := h S152 eS152
      refine r_aload_n (μ := mX5_readsHead) (pc := 153) dX5_readsHead_153 rfl rfl ?_
      refine r_iload_n (μ := mX5_readsHead) (pc := 154) dX5_readsHead_154 rfl rfl ?_
      refine r_callV (μ := mX5_readsHead) (pc := 155) (as := [.int i1]) 5 cX5_109 dX5_readsHead_155 rfl rfl (Nat.le_of_ble_eq_true rfl) rfl okX5_skips (Nat.lt_succ_self d) (cat8 (n := 0) rfl (by decide)) rfl h (k_V (fun T155 h => ?_))
      exact r_vret (μ := mX5_readsHead) (pc := 158) dX5_readsHead_158 rfl h
    refine r_if_eq (μ := mX5_readsHead) (pc := 33) (tgt := 40) dX5_readsHead_33 (by decide) ⟨fun q33 => ?_, fun q33 => ?_⟩
    · refine r_iconst (μ := mX5_readsHead) (pc := 40) (v := nI 0) dX5_readsHead_40 rfl ?_
      exact J33 _ (by first | (rw [if_pos q33]; done) | simp only [if_pos q33])
    · refine r_iconst (μ := mX5_readsHead) (pc := 36) (v := nI 1) dX5_readsHead_36 rfl ?_
      refine r_goto (μ := mX5_readsHead) (pc := 37) (tgt := 41) dX5_readsHead_37 (by decide) ?_
      exact J33 _ (by first | (rw [if_neg q33]; done) | simp only [if_neg q33])
  refine r_icmp_ne (μ := mX5_readsHead) (pc := 13) (tgt := 20) dX5_readsHead_13 (by decide) ⟨fun q13 => ?_, fun q13 => ?_⟩
  · refine r_iconst (μ := mX5_readsHead) (pc := 20) (v := nI 0) dX5_readsHead_20 rfl ?_
    exact J13 _ (by first | (rw [if_neg q13]; done) | simp only [if_neg q13])
  · refine r_iconst (μ := mX5_readsHead) (pc := 16) (v := nI 1) dX5_readsHead_16 rfl ?_
    refine r_goto (μ := mX5_readsHead) (pc := 17) (tgt := 21) dX5_readsHead_17 (by decide) ?_
    exact J13 _ (by first | (rw [if_pos q13]; done) | simp only [if_pos q13])

set_option maxRecDepth 20000 in
theorem bX5_readsOne_0 {G : Gl} {l : Launch} {d : Nat} {S : Sg} {P : Sg → Prop} (i1 : Int32)
    (h : Ct G l mX5_look d [.ref 7, .int i1] S (QI (fun r2 T2 => Ct G l mX5_kindOf d [.int r2] T2 (QI (fun r5 T5 => ∀ x14 : Int32, x14 = (if (T5.1 7 21) = (nI 0) then (nI 0) else (if r5 = (-9) then (nI 0) else (if (nI 6) ≤ (T5.1 94 7) then (nI 0) else (nI 1)))) → (∀ S40 : Sg, S40 = (u2 T5.1 7 21 x14, T5.2) → (∀ x52 : Int32, x52 = (if (S40.1 7 21) = (nI 0) then (nI 0) else (nI 1)) → (∀ S61 : Sg, S61 = (u2 S40.1 7 20 ((S40.1 7 20) + x52), S40.2) → (Ct G l mX5_figure d [.ref 7, .int i1, .int (nI 0), .int ((S61.1 94 0) - (nI 1))] S61 (QI (fun r75 T75 => Ct G l mX5_figure d [.ref 7, .int i1, .int (nI 0), .int (nI 9)] T75 (QI (fun r84 T84 => Ct G l mX5_figure d [.ref 7, .int i1, .int (nI 0), .int (nI 7)] T84 (QI (fun r94 T94 => ((T94.1 7 21) = (nI 0) → Ev G l mX5_readsOne (d + 1) 181 [some (.ref 7), some (.int i1), some (.int r5), some (.int r75), some (.int r84), some (.int r94), none] [] T94 (QV P)) ∧ (¬ ((T94.1 7 21) = (nI 0)) → ∃ n127 : Nat, ix ((nI 10) + ((nI 5) * (T94.1 94 7))) n127 400 ∧ ∀ S127 : Sg, S127 = (u2 T94.1 94 n127 r5, T94.2) → (∃ n137 : Nat, ix (((nI 10) + ((nI 5) * (T94.1 94 7))) + (nI 1)) n137 400 ∧ ∀ S137 : Sg, S137 = (u2 S127.1 94 n137 r75, S127.2) → (∃ n147 : Nat, ix (((nI 10) + ((nI 5) * (T94.1 94 7))) + (nI 2)) n147 400 ∧ ∀ S147 : Sg, S147 = (u2 S137.1 94 n147 r75, S137.2) → (∃ n158 : Nat, ix (((nI 10) + ((nI 5) * (T94.1 94 7))) + (nI 3)) n158 400 ∧ ∀ S158 : Sg, S158 = (u2 S147.1 94 n158 r84, S147.2) → (∃ n169 : Nat, ix (((nI 10) + ((nI 5) * (T94.1 94 7))) + (nI 4)) n169 400 ∧ ∀ S169 : Sg, S169 = (u2 S158.1 94 n169 r94, S158.2) → (∀ S180 : Sg, S180 = (u2 S169.1 94 7 ((S169.1 94 7) + (nI 1)), S169.2) → (Ev G l mX5_readsOne (d + 1) 181 [some (.ref 7), some (.int i1), some (.int r5), some (.int r75), some (.int r84), some (.int r94), none] [] S180 (QV P))))))))))))))))))))))) :
    Ct G l mX5_readsOne (d + 1) [.ref 7, .int i1] S (QV P) := by
  show Ev G l mX5_readsOne (d + 1) 0 [some (.ref 7), some (.int i1), none, none, none, none, none] [] S (QV P)
  refine r_aload_n (μ := mX5_readsOne) (pc := 0) dX5_readsOne_0 rfl rfl ?_
  refine r_iload_n (μ := mX5_readsOne) (pc := 1) dX5_readsOne_1 rfl rfl ?_
  refine r_callV (μ := mX5_readsOne) (pc := 2) (as := [.int i1]) 5 cX5_106 dX5_readsOne_2 rfl rfl (Nat.le_of_ble_eq_true rfl) rfl okX5_look (Nat.lt_succ_self d) (cat8 (n := 0) rfl (by decide)) rfl h (k_I (fun r2 T2 h => ?_))
  refine r_callS (μ := mX5_readsOne) (pc := 5) (as := [.int r2]) cX5_117 dX5_readsOne_5 rfl okX5_kindOf (Nat.lt_succ_self d) (cat8 (n := 0) rfl (by decide)) rfl h (k_I (fun r5 T5 h => ?_))
  refine r_istore_n (μ := mX5_readsOne) (pc := 8) (ls' := [some (.ref 7), some (.int i1), some (.int r5), none, none, none, none]) dX5_readsOne_8 rfl (Nat.le_of_ble_eq_true rfl) rfl rfl ?_
  refine r_aload_n (μ := mX5_readsOne) (pc := 9) dX5_readsOne_9 rfl rfl ?_
  refine r_aload_n (μ := mX5_readsOne) (pc := 10) dX5_readsOne_10 rfl rfl ?_
  refine g_I (μ := mX5_readsOne) (pc := 11) fX5_102 dX5_readsOne_11 rfl ?_
  have J14 : ∀ x14 : Int32, x14 = (if (T5.1 7 21) = (nI 0) then (nI 0) else (if r5 = (-9) then (nI 0) else (if (nI 6) ≤ (T5.1 94 7) then (nI 0) else (nI 1)))) → Ev G l mX5_readsOne (d + 1) 40 [some (.ref 7), some (.int i1), some (.int r5), none, none, none, none] [.int x14, .ref 7] T5 (QV P) := by
    intro x14 e14
    have h := h x14 e14
    refine p_Z (μ := mX5_readsOne) (pc := 40) fX5_102 wfX5_102 (by rw [e14]; exact (zb_if rfl (zb_if rfl (zb_if rfl rfl)))) dX5_readsOne_40 rfl ?_
    refine nm_S (fun S40 eS40 => ?_)
    have h := h S40 eS40
    refine r_aload_n (μ := mX5_readsOne) (pc := 43) dX5_readsOne_43 rfl rfl ?_
    refine r_dup (μ := mX5_readsOne) (pc := 44) dX5_readsOne_44 rfl ?_
    refine g_I (μ := mX5_readsOne) (pc := 45) fX5_99 dX5_readsOne_45 rfl ?_
    refine r_aload_n (μ := mX5_readsOne) (pc := 48) dX5_readsOne_48 rfl rfl ?_
    refine g_I (μ := mX5_readsOne) (pc := 49) fX5_102 dX5_readsOne_49 rfl ?_
    have J52 : ∀ x52 : Int32, x52 = (if (S40.1 7 21) = (nI 0) then (nI 0) else (nI 1)) → Ev G l mX5_readsOne (d + 1) 60 [some (.ref 7), some (.int i1), some (.int r5), none, none, none, none] [.int x52, .int (S40.1 7 20), .ref 7] S40 (QV P) := by
      intro x52 e52
      have h := h x52 e52
      refine r_iadd (μ := mX5_readsOne) (pc := 60) dX5_readsOne_60 ?_
      refine p_I (μ := mX5_readsOne) (pc := 61) fX5_99 wfX5_99 dX5_readsOne_61 rfl ?_
      refine nm_S (fun S61 eS61 => ?_)
      have h := h S61 eS61
      refine r_aload_n (μ := mX5_readsOne) (pc := 64) dX5_readsOne_64 rfl rfl ?_
      refine r_iload_n (μ := mX5_readsOne) (pc := 65) dX5_readsOne_65 rfl rfl ?_
      refine r_iconst (μ := mX5_readsOne) (pc := 66) (v := nI 0) dX5_readsOne_66 rfl ?_
      refine r_aload_n (μ := mX5_readsOne) (pc := 67) dX5_readsOne_67 rfl rfl ?_
      refine g_R (μ := mX5_readsOne) (pc := 68) (k' := 94) fX5_28 dX5_readsOne_68 rfl rfl ?_
      refine r_iconst (μ := mX5_readsOne) (pc := 71) (v := nI 0) dX5_readsOne_71 rfl ?_
      refine r_iald (μ := mX5_readsOne) (pc := 72) dX5_readsOne_72 rfl (ix_nI (n := 0) (Nat.le_of_ble_eq_true rfl) (Nat.le_of_ble_eq_true rfl)) ?_
      refine r_iconst (μ := mX5_readsOne) (pc := 73) (v := nI 1) dX5_readsOne_73 rfl ?_
      refine r_isub (μ := mX5_readsOne) (pc := 74) dX5_readsOne_74 ?_
      refine r_callV (μ := mX5_readsOne) (pc := 75) (as := [.int i1, .int (nI 0), .int ((S61.1 94 0) - (nI 1))]) 5 cX5_113 dX5_readsOne_75 rfl rfl (Nat.le_of_ble_eq_true rfl) rfl okX5_figure (Nat.lt_succ_self d) (cat8 (n := 0) rfl (by decide)) rfl h (k_I (fun r75 T75 h => ?_))
      refine r_istore_n (μ := mX5_readsOne) (pc := 78) (ls' := [some (.ref 7), some (.int i1), some (.int r5), some (.int r75), none, none, none]) dX5_readsOne_78 rfl (Nat.le_of_ble_eq_true rfl) rfl rfl ?_
      refine r_aload_n (μ := mX5_readsOne) (pc := 79) dX5_readsOne_79 rfl rfl ?_
      refine r_iload_n (μ := mX5_readsOne) (pc := 80) dX5_readsOne_80 rfl rfl ?_
      refine r_iconst (μ := mX5_readsOne) (pc := 81) (v := nI 0) dX5_readsOne_81 rfl ?_
      refine r_bipush (μ := mX5_readsOne) (pc := 82) (v := nI 9) dX5_readsOne_82 rfl ?_
      refine r_callV (μ := mX5_readsOne) (pc := 84) (as := [.int i1, .int (nI 0), .int (nI 9)]) 5 cX5_113 dX5_readsOne_84 rfl rfl (Nat.le_of_ble_eq_true rfl) rfl okX5_figure (Nat.lt_succ_self d) (cat8 (n := 0) rfl (by decide)) rfl h (k_I (fun r84 T84 h => ?_))
      refine r_istore (μ := mX5_readsOne) (pc := 87) (ls' := [some (.ref 7), some (.int i1), some (.int r5), some (.int r75), some (.int r84), none, none]) dX5_readsOne_87 (Nat.le_of_ble_eq_true rfl) rfl rfl ?_
      refine r_aload_n (μ := mX5_readsOne) (pc := 89) dX5_readsOne_89 rfl rfl ?_
      refine r_iload_n (μ := mX5_readsOne) (pc := 90) dX5_readsOne_90 rfl rfl ?_
      refine r_iconst (μ := mX5_readsOne) (pc := 91) (v := nI 0) dX5_readsOne_91 rfl ?_
      refine r_bipush (μ := mX5_readsOne) (pc := 92) (v := nI 7) dX5_readsOne_92 rfl ?_
      refine r_callV (μ := mX5_readsOne) (pc := 94) (as := [.int i1, .int (nI 0), .int (nI 7)]) 5 cX5_113 dX5_readsOne_94 rfl rfl (Nat.le_of_ble_eq_true rfl) rfl okX5_figure (Nat.lt_succ_self d) (cat8 (n := 0) rfl (by decide)) rfl h (k_I (fun r94 T94 h => ?_))
      refine r_istore (μ := mX5_readsOne) (pc := 97) (ls' := [some (.ref 7), some (.int i1), some (.int r5), some (.int r75), some (.int r84), some (.int r94), none]) dX5_readsOne_97 (Nat.le_of_ble_eq_true rfl) rfl rfl ?_
      refine r_aload_n (μ := mX5_readsOne) (pc := 99) dX5_readsOne_99 rfl rfl ?_
      refine g_I (μ := mX5_readsOne) (pc := 100) fX5_102 dX5_readsOne_100 rfl ?_
      refine r_if_eq (μ := mX5_readsOne) (pc := 103) (tgt := 181) dX5_readsOne_103 (by decide) ⟨fun q103 => ?_, fun q103 => ?_⟩
      · have h := h.1 q103
        exact h
      · have h := h.2 q103
        refine r_bipush (μ := mX5_readsOne) (pc := 106) (v := nI 10) dX5_readsOne_106 rfl ?_
        refine r_iconst (μ := mX5_readsOne) (pc := 108) (v := nI 5) dX5_readsOne_108 rfl ?_
        refine r_aload_n (μ := mX5_readsOne) (pc := 109) dX5_readsOne_109 rfl rfl ?_
        refine g_R (μ := mX5_readsOne) (pc := 110) (k' := 94) fX5_28 dX5_readsOne_110 rfl rfl ?_
        refine r_bipush (μ := mX5_readsOne) (pc := 113) (v := nI 7) dX5_readsOne_113 rfl ?_
        refine r_iald (μ := mX5_readsOne) (pc := 115) dX5_readsOne_115 rfl (ix_nI (n := 7) (Nat.le_of_ble_eq_true rfl) (Nat.le_of_ble_eq_true rfl)) ?_
        refine r_imul (μ := mX5_readsOne) (pc := 116) dX5_readsOne_116 ?_
        refine r_iadd (μ := mX5_readsOne) (pc := 117) dX5_readsOne_117 ?_
        refine r_istore (μ := mX5_readsOne) (pc := 118) (ls' := [some (.ref 7), some (.int i1), some (.int r5), some (.int r75), some (.int r84), some (.int r94), some (.int ((nI 10) + ((nI 5) * (T94.1 94 7))))]) dX5_readsOne_118 (Nat.le_of_ble_eq_true rfl) rfl rfl ?_
        refine r_aload_n (μ := mX5_readsOne) (pc := 120) dX5_readsOne_120 rfl rfl ?_
        refine g_R (μ := mX5_readsOne) (pc := 121) (k' := 94) fX5_28 dX5_readsOne_121 rfl rfl ?_
        refine r_iload (μ := mX5_readsOne) (pc := 124) dX5_readsOne_124 rfl ?_
        refine r_iload_n (μ := mX5_readsOne) (pc := 126) dX5_readsOne_126 rfl rfl ?_
        obtain ⟨n127, hx127, h⟩ := h
        refine r_iast (μ := mX5_readsOne) (pc := 127) dX5_readsOne_127 rfl hx127 ?_
        refine nm_S (fun S127 eS127 => ?_)
        have h := h S127 eS127
        refine r_aload_n (μ := mX5_readsOne) (pc := 128) dX5_readsOne_128 rfl rfl ?_
        refine g_R (μ := mX5_readsOne) (pc := 129) (k' := 94) fX5_28 dX5_readsOne_129 rfl rfl ?_
        refine r_iload (μ := mX5_readsOne) (pc := 132) dX5_readsOne_132 rfl ?_
        refine r_iconst (μ := mX5_readsOne) (pc := 134) (v := nI 1) dX5_readsOne_134 rfl ?_
        refine r_iadd (μ := mX5_readsOne) (pc := 135) dX5_readsOne_135 ?_
        refine r_iload_n (μ := mX5_readsOne) (pc := 136) dX5_readsOne_136 rfl rfl ?_
        obtain ⟨n137, hx137, h⟩ := h
        refine r_iast (μ := mX5_readsOne) (pc := 137) dX5_readsOne_137 rfl hx137 ?_
        refine nm_S (fun S137 eS137 => ?_)
        have h := h S137 eS137
        refine r_aload_n (μ := mX5_readsOne) (pc := 138) dX5_readsOne_138 rfl rfl ?_
        refine g_R (μ := mX5_readsOne) (pc := 139) (k' := 94) fX5_28 dX5_readsOne_139 rfl rfl ?_
        refine r_iload (μ := mX5_readsOne) (pc := 142) dX5_readsOne_142 rfl ?_
        refine r_iconst (μ := mX5_readsOne) (pc := 144) (v := nI 2) dX5_readsOne_144 rfl ?_
        refine r_iadd (μ := mX5_readsOne) (pc := 145) dX5_readsOne_145 ?_
        refine r_iload_n (μ := mX5_readsOne) (pc := 146) dX5_readsOne_146 rfl rfl ?_
        obtain ⟨n147, hx147, h⟩ := h
        refine r_iast (μ := mX5_readsOne) (pc := 147) dX5_readsOne_147 rfl hx147 ?_
        refine nm_S (fun S147 eS147 => ?_)
        have h := h S147 eS147
        refine r_aload_n (μ := mX5_readsOne) (pc := 148) dX5_readsOne_148 rfl rfl ?_
        refine g_R (μ := mX5_readsOne) (pc := 149) (k' := 94) fX5_28 dX5_readsOne_149 rfl rfl ?_
        refine r_iload (μ := mX5_readsOne) (pc := 152) dX5_readsOne_152 rfl ?_
        refine r_iconst (μ := mX5_readsOne) (pc := 154) (v := nI 3) dX5_readsOne_154 rfl ?_
        refine r_iadd (μ := mX5_readsOne) (pc := 155) dX5_readsOne_155 ?_
        refine r_iload (μ := mX5_readsOne) (pc := 156) dX5_readsOne_156 rfl ?_
        obtain ⟨n158, hx158, h⟩ := h
        refine r_iast (μ := mX5_readsOne) (pc := 158) dX5_readsOne_158 rfl hx158 ?_
        refine nm_S (fun S158 eS158 => ?_)
        have h := h S158 eS158
        refine r_aload_n (μ := mX5_readsOne) (pc := 159) dX5_readsOne_159 rfl rfl ?_
        refine g_R (μ := mX5_readsOne) (pc := 160) (k' := 94) fX5_28 dX5_readsOne_160 rfl rfl ?_
        refine r_iload (μ := mX5_readsOne) (pc := 163) dX5_readsOne_163 rfl ?_
        refine r_iconst (μ := mX5_readsOne) (pc := 165) (v := nI 4) dX5_readsOne_165 rfl ?_
        refine r_iadd (μ := mX5_readsOne) (pc := 166) dX5_readsOne_166 ?_
        refine r_iload (μ := mX5_readsOne) (pc := 167) dX5_readsOne_167 rfl ?_
        obtain ⟨n169, hx169, h⟩ := h
        refine r_iast (μ := mX5_readsOne) (pc := 169) dX5_readsOne_169 rfl hx169 ?_
        refine nm_S (fun S169 eS169 => ?_)
        have h := h S169 eS169
        refine r_aload_n (μ := mX5_readsOne) (pc := 170) dX5_readsOne_170 rfl rfl ?_
        refine g_R (μ := mX5_readsOne) (pc := 171) (k' := 94) fX5_28 dX5_readsOne_171 rfl rfl ?_
        refine r_bipush (μ := mX5_readsOne) (pc := 174) (v := nI 7) dX5_readsOne_174 rfl ?_
        refine r_dup2_11 (μ := mX5_readsOne) (pc := 176) dX5_readsOne_176 rfl rfl ?_
        refine r_iald (μ := mX5_readsOne) (pc := 177) dX5_readsOne_177 rfl (ix_nI (n := 7) (Nat.le_of_ble_eq_true rfl) (Nat.le_of_ble_eq_true rfl)) ?_
        refine r_iconst (μ := mX5_readsOne) (pc := 178) (v := nI 1) dX5_readsOne_178 rfl ?_
        refine r_iadd (μ := mX5_readsOne) (pc := 179) dX5_readsOne_179 ?_
        refine r_iast (μ := mX5_readsOne) (pc := 180) dX5_readsOne_180 rfl (ix_nI (n := 7) (Nat.le_of_ble_eq_true rfl) (Nat.le_of_ble_eq_true rfl)) ?_
        refine nm_S (fun S180 eS180 => ?_)
        have h := h S180 eS180
        exact Ev.sub (ls' := [some (.ref 7), some (.int i1), some (.int r5), some (.int r75), some (.int r84), some (.int r94), none]) (ls_s (ls_s (ls_s (ls_s (ls_s (ls_s (ls_n ls_0))))))) h
    refine r_if_eq (μ := mX5_readsOne) (pc := 52) (tgt := 59) dX5_readsOne_52 (by decide) ⟨fun q52 => ?_, fun q52 => ?_⟩
    · refine r_iconst (μ := mX5_readsOne) (pc := 59) (v := nI 0) dX5_readsOne_59 rfl ?_
      exact J52 _ (by first | (rw [if_pos q52]; done) | simp only [if_pos q52])
    · refine r_iconst (μ := mX5_readsOne) (pc := 55) (v := nI 1) dX5_readsOne_55 rfl ?_
      refine r_goto (μ := mX5_readsOne) (pc := 56) (tgt := 60) dX5_readsOne_56 (by decide) ?_
      exact J52 _ (by first | (rw [if_neg q52]; done) | simp only [if_neg q52])
  refine r_if_eq (μ := mX5_readsOne) (pc := 14) (tgt := 39) dX5_readsOne_14 (by decide) ⟨fun q14 => ?_, fun q14 => ?_⟩
  · refine r_iconst (μ := mX5_readsOne) (pc := 39) (v := nI 0) dX5_readsOne_39 rfl ?_
    exact J14 _ (by first | (rw [if_pos q14]; done) | simp only [if_pos q14])
  · refine r_iload_n (μ := mX5_readsOne) (pc := 17) dX5_readsOne_17 rfl rfl ?_
    refine r_bipush (μ := mX5_readsOne) (pc := 18) (v := (-9)) dX5_readsOne_18 rfl ?_
    refine r_icmp_eq (μ := mX5_readsOne) (pc := 20) (tgt := 39) dX5_readsOne_20 (by decide) ⟨fun q20 => ?_, fun q20 => ?_⟩
    · refine r_iconst (μ := mX5_readsOne) (pc := 39) (v := nI 0) dX5_readsOne_39 rfl ?_
      exact J14 _ (by first | (rw [if_neg q14, if_pos q20]; done) | simp only [if_neg q14, if_pos q20])
    · refine r_aload_n (μ := mX5_readsOne) (pc := 23) dX5_readsOne_23 rfl rfl ?_
      refine g_R (μ := mX5_readsOne) (pc := 24) (k' := 94) fX5_28 dX5_readsOne_24 rfl rfl ?_
      refine r_bipush (μ := mX5_readsOne) (pc := 27) (v := nI 7) dX5_readsOne_27 rfl ?_
      refine r_iald (μ := mX5_readsOne) (pc := 29) dX5_readsOne_29 rfl (ix_nI (n := 7) (Nat.le_of_ble_eq_true rfl) (Nat.le_of_ble_eq_true rfl)) ?_
      refine r_bipush (μ := mX5_readsOne) (pc := 30) (v := nI 6) dX5_readsOne_30 rfl ?_
      refine r_icmp_ge (μ := mX5_readsOne) (pc := 32) (tgt := 39) dX5_readsOne_32 (by decide) ⟨fun q32 => ?_, fun q32 => ?_⟩
      · refine r_iconst (μ := mX5_readsOne) (pc := 39) (v := nI 0) dX5_readsOne_39 rfl ?_
        exact J14 _ (by first | (rw [if_neg q14, if_neg q20, if_pos q32]; done) | simp only [if_neg q14, if_neg q20, if_pos q32])
      · refine r_iconst (μ := mX5_readsOne) (pc := 35) (v := nI 1) dX5_readsOne_35 rfl ?_
        refine r_goto (μ := mX5_readsOne) (pc := 36) (tgt := 40) dX5_readsOne_36 (by decide) ?_
        exact J14 _ (by first | (rw [if_neg q14, if_neg q20, if_neg q32]; done) | simp only [if_neg q14, if_neg q20, if_neg q32])

set_option maxRecDepth 20000 in
theorem bX5_readsOne_181 {G : Gl} {l : Launch} {d : Nat} {S : Sg} {P : Sg → Prop} (i1 : Int32) (i2 : Int32) (i3 : Int32) (i4 : Int32) (i5 : Int32)
    (h : Ct G l mX5_skips d [.ref 7, .int i1] S (QV (fun T183 => P T183))) :
    Ev G l mX5_readsOne (d + 1) 181 [some (.ref 7), some (.int i1), some (.int i2), some (.int i3), some (.int i4), some (.int i5), none] [] S (QV P) := by
  show Ev G l mX5_readsOne (d + 1) 181 [some (.ref 7), some (.int i1), some (.int i2), some (.int i3), some (.int i4), some (.int i5), none] [] S (QV P)
  refine r_aload_n (μ := mX5_readsOne) (pc := 181) dX5_readsOne_181 rfl rfl ?_
  refine r_iload_n (μ := mX5_readsOne) (pc := 182) dX5_readsOne_182 rfl rfl ?_
  refine r_callV (μ := mX5_readsOne) (pc := 183) (as := [.int i1]) 5 cX5_109 dX5_readsOne_183 rfl rfl (Nat.le_of_ble_eq_true rfl) rfl okX5_skips (Nat.lt_succ_self d) (cat8 (n := 0) rfl (by decide)) rfl h (k_V (fun T183 h => ?_))
  exact r_vret (μ := mX5_readsOne) (pc := 186) dX5_readsOne_186 rfl h

set_option maxRecDepth 20000 in
theorem bX5_reads_0 {G : Gl} {l : Launch} {d : Nat} {S : Sg} {P : Int32 → Sg → Prop} (i1 : Int32)
    (h : Ev G l mX5_reads (d + 1) 2 [some (.ref 7), some (.int i1), some (.int (nI 0))] [] S (QI P)) :
    Ct G l mX5_reads (d + 1) [.ref 7, .int i1] S (QI P) := by
  show Ev G l mX5_reads (d + 1) 0 [some (.ref 7), some (.int i1), none] [] S (QI P)
  refine r_iconst (μ := mX5_reads) (pc := 0) (v := nI 0) dX5_reads_0 rfl ?_
  refine r_istore_n (μ := mX5_reads) (pc := 1) (ls' := [some (.ref 7), some (.int i1), some (.int (nI 0))]) dX5_reads_1 rfl (Nat.le_of_ble_eq_true rfl) rfl rfl ?_
  exact h

set_option maxRecDepth 20000 in
theorem bX5_reads_2 {G : Gl} {l : Launch} {d : Nat} {S : Sg} {P : Int32 → Sg → Prop} (i1 : Int32) (i2 : Int32)
    (h : ((nI 400) ≤ i2 → ∀ S24 : Sg, S24 = (u2 S.1 7 20 (nI 0), S.2) → (∀ S29 : Sg, S29 = (u2 S24.1 7 21 (nI 1), S24.2) → (Ct G l mX5_readsHead d [.ref 7, .int i1] S29 (QV (fun T34 => ((T34.1 7 21) = (nI 0) → Ev G l mX5_reads (d + 1) 49 [some (.ref 7), some (.int i1), some (.int i2)] [] T34 (QI P)) ∧ (¬ ((T34.1 7 21) = (nI 0)) → Ct G l mX5_readsOne d [.ref 7, .int i1] T34 (QV (fun T46 => Ev G l mX5_reads (d + 1) 49 [some (.ref 7), some (.int i1), some (.int i2)] [] T46 (QI P))))))))) ∧ (¬ ((nI 400) ≤ i2) → ∃ n15 : Nat, ix i2 n15 400 ∧ ∀ S15 : Sg, S15 = (u2 S.1 94 n15 (nI 0), S.2) → (Ev G l mX5_reads (d + 1) 2 [some (.ref 7), some (.int i1), some (.int (i2 + (nI 1)))] [] S15 (QI P)))) :
    Ev G l mX5_reads (d + 1) 2 [some (.ref 7), some (.int i1), some (.int i2)] [] S (QI P) := by
  show Ev G l mX5_reads (d + 1) 2 [some (.ref 7), some (.int i1), some (.int i2)] [] S (QI P)
  refine r_iload_n (μ := mX5_reads) (pc := 2) dX5_reads_2 rfl rfl ?_
  refine r_sipush (μ := mX5_reads) (pc := 3) (v := nI 400) dX5_reads_3 rfl ?_
  refine r_icmp_ge (μ := mX5_reads) (pc := 6) (tgt := 22) dX5_reads_6 (by decide) ⟨fun q6 => ?_, fun q6 => ?_⟩
  · have h := h.1 q6
    refine r_aload_n (μ := mX5_reads) (pc := 22) dX5_reads_22 rfl rfl ?_
    refine r_iconst (μ := mX5_reads) (pc := 23) (v := nI 0) dX5_reads_23 rfl ?_
    refine p_I (μ := mX5_reads) (pc := 24) fX5_99 wfX5_99 dX5_reads_24 rfl ?_
    refine nm_S (fun S24 eS24 => ?_)
    have h := h S24 eS24
    refine r_aload_n (μ := mX5_reads) (pc := 27) dX5_reads_27 rfl rfl ?_
    refine r_iconst (μ := mX5_reads) (pc := 28) (v := nI 1) dX5_reads_28 rfl ?_
    refine p_Z (μ := mX5_reads) (pc := 29) fX5_102 wfX5_102 rfl dX5_reads_29 rfl ?_
    refine nm_S (fun S29 eS29 => ?_)
    have h := h S29 eS29
    refine r_aload_n (μ := mX5_reads) (pc := 32) dX5_reads_32 rfl rfl ?_
    refine r_iload_n (μ := mX5_reads) (pc := 33) dX5_reads_33 rfl rfl ?_
    refine r_callV (μ := mX5_reads) (pc := 34) (as := [.int i1]) 5 cX5_120 dX5_reads_34 rfl rfl (Nat.le_of_ble_eq_true rfl) rfl okX5_readsHead (Nat.lt_succ_self d) (cat8 (n := 0) rfl (by decide)) rfl h (k_V (fun T34 h => ?_))
    refine r_aload_n (μ := mX5_reads) (pc := 37) dX5_reads_37 rfl rfl ?_
    refine g_I (μ := mX5_reads) (pc := 38) fX5_102 dX5_reads_38 rfl ?_
    refine r_if_eq (μ := mX5_reads) (pc := 41) (tgt := 49) dX5_reads_41 (by decide) ⟨fun q41 => ?_, fun q41 => ?_⟩
    · have h := h.1 q41
      exact h
    · have h := h.2 q41
      refine r_aload_n (μ := mX5_reads) (pc := 44) dX5_reads_44 rfl rfl ?_
      refine r_iload_n (μ := mX5_reads) (pc := 45) dX5_reads_45 rfl rfl ?_
      refine r_callV (μ := mX5_reads) (pc := 46) (as := [.int i1]) 5 cX5_123 dX5_reads_46 rfl rfl (Nat.le_of_ble_eq_true rfl) rfl okX5_readsOne (Nat.lt_succ_self d) (cat8 (n := 0) rfl (by decide)) rfl h (k_V (fun T46 h => ?_))
      exact h
  · have h := h.2 q6
    refine r_aload_n (μ := mX5_reads) (pc := 9) dX5_reads_9 rfl rfl ?_
    refine g_R (μ := mX5_reads) (pc := 10) (k' := 94) fX5_28 dX5_reads_10 rfl rfl ?_
    refine r_iload_n (μ := mX5_reads) (pc := 13) dX5_reads_13 rfl rfl ?_
    refine r_iconst (μ := mX5_reads) (pc := 14) (v := nI 0) dX5_reads_14 rfl ?_
    obtain ⟨n15, hx15, h⟩ := h
    refine r_iast (μ := mX5_reads) (pc := 15) dX5_reads_15 rfl hx15 ?_
    refine nm_S (fun S15 eS15 => ?_)
    have h := h S15 eS15
    refine r_iinc (μ := mX5_reads) (pc := 16) (y := nI 1) (ls' := [some (.ref 7), some (.int i1), some (.int (i2 + (nI 1)))]) dX5_reads_16 rfl rfl (Nat.le_of_ble_eq_true rfl) rfl rfl ?_
    refine r_goto (μ := mX5_reads) (pc := 19) (tgt := 2) dX5_reads_19 (by decide) ?_
    exact h

set_option maxRecDepth 20000 in
theorem bX5_reads_49 {G : Gl} {l : Launch} {d : Nat} {S : Sg} {P : Int32 → Sg → Prop} (i1 : Int32) (i2 : Int32)
    (h : ((S.1 7 21) = (nI 0) → Ev G l mX5_reads (d + 1) 77 [some (.ref 7), some (.int i1), some (.int i2)] [] S (QI P)) ∧ (¬ ((S.1 7 21) = (nI 0)) → ∃ n65 : Nat, ix i1 n65 4 ∧ (((S.1 91 n65) ≤ (S.1 7 20) → Ev G l mX5_reads (d + 1) 77 [some (.ref 7), some (.int i1), some (.int i2)] [] S (QI P)) ∧ (¬ ((S.1 91 n65) ≤ (S.1 7 20)) → Ct G l mX5_readsOne d [.ref 7, .int i1] S (QV (fun T71 => Ev G l mX5_reads (d + 1) 49 [some (.ref 7), some (.int i1), some (.int i2)] [] T71 (QI P))))))) :
    Ev G l mX5_reads (d + 1) 49 [some (.ref 7), some (.int i1), some (.int i2)] [] S (QI P) := by
  show Ev G l mX5_reads (d + 1) 49 [some (.ref 7), some (.int i1), some (.int i2)] [] S (QI P)
  refine r_aload_n (μ := mX5_reads) (pc := 49) dX5_reads_49 rfl rfl ?_
  refine g_I (μ := mX5_reads) (pc := 50) fX5_102 dX5_reads_50 rfl ?_
  refine r_if_eq (μ := mX5_reads) (pc := 53) (tgt := 77) dX5_reads_53 (by decide) ⟨fun q53 => ?_, fun q53 => ?_⟩
  · have h := h.1 q53
    exact h
  · have h := h.2 q53
    refine r_aload_n (μ := mX5_reads) (pc := 56) dX5_reads_56 rfl rfl ?_
    refine g_I (μ := mX5_reads) (pc := 57) fX5_99 dX5_reads_57 rfl ?_
    refine r_aload_n (μ := mX5_reads) (pc := 60) dX5_reads_60 rfl rfl ?_
    refine g_R (μ := mX5_reads) (pc := 61) (k' := 91) fX5_19 dX5_reads_61 rfl rfl ?_
    refine r_iload_n (μ := mX5_reads) (pc := 64) dX5_reads_64 rfl rfl ?_
    obtain ⟨n65, hx65, h⟩ := h
    refine r_iald (μ := mX5_reads) (pc := 65) dX5_reads_65 rfl hx65 ?_
    refine r_icmp_ge (μ := mX5_reads) (pc := 66) (tgt := 77) dX5_reads_66 (by decide) ⟨fun q66 => ?_, fun q66 => ?_⟩
    · have h := h.1 q66
      exact h
    · have h := h.2 q66
      refine r_aload_n (μ := mX5_reads) (pc := 69) dX5_reads_69 rfl rfl ?_
      refine r_iload_n (μ := mX5_reads) (pc := 70) dX5_reads_70 rfl rfl ?_
      refine r_callV (μ := mX5_reads) (pc := 71) (as := [.int i1]) 5 cX5_123 dX5_reads_71 rfl rfl (Nat.le_of_ble_eq_true rfl) rfl okX5_readsOne (Nat.lt_succ_self d) (cat8 (n := 0) rfl (by decide)) rfl h (k_V (fun T71 h => ?_))
      refine r_goto (μ := mX5_reads) (pc := 74) (tgt := 49) dX5_reads_74 (by decide) ?_
      exact h

set_option maxRecDepth 20000 in
theorem bX5_reads_77 {G : Gl} {l : Launch} {d : Nat} {S : Sg} {P : Int32 → Sg → Prop} (i1 : Int32) (i2 : Int32)
    (h : ∀ x81 : Int32, x81 = (if (S.1 7 21) = (nI 0) then (S.1 7 20) else (-9)) → (P x81 S)) :
    Ev G l mX5_reads (d + 1) 77 [some (.ref 7), some (.int i1), some (.int i2)] [] S (QI P) := by
  show Ev G l mX5_reads (d + 1) 77 [some (.ref 7), some (.int i1), some (.int i2)] [] S (QI P)
  refine r_aload_n (μ := mX5_reads) (pc := 77) dX5_reads_77 rfl rfl ?_
  refine g_I (μ := mX5_reads) (pc := 78) fX5_102 dX5_reads_78 rfl ?_
  have J81 : ∀ x81 : Int32, x81 = (if (S.1 7 21) = (nI 0) then (S.1 7 20) else (-9)) → Ev G l mX5_reads (d + 1) 93 [some (.ref 7), some (.int i1), some (.int i2)] [.int x81] S (QI P) := by
    intro x81 e81
    have h := h x81 e81
    exact r_iret (μ := mX5_reads) (pc := 93) dX5_reads_93 rfl h
  refine r_if_eq (μ := mX5_reads) (pc := 81) (tgt := 89) dX5_reads_81 (by decide) ⟨fun q81 => ?_, fun q81 => ?_⟩
  · refine r_aload_n (μ := mX5_reads) (pc := 89) dX5_reads_89 rfl rfl ?_
    refine g_I (μ := mX5_reads) (pc := 90) fX5_99 dX5_reads_90 rfl ?_
    exact J81 _ (by first | (rw [if_pos q81]; done) | simp only [if_pos q81])
  · refine r_bipush (μ := mX5_reads) (pc := 84) (v := (-9)) dX5_reads_84 rfl ?_
    refine r_goto (μ := mX5_reads) (pc := 86) (tgt := 93) dX5_reads_86 (by decide) ?_
    exact J81 _ (by first | (rw [if_neg q81]; done) | simp only [if_neg q81])

set_option maxRecDepth 20000 in
theorem bX5_fault_0 {G : Gl} {l : Launch} {d : Nat} {S : Sg} {P : Int32 → Sg → Prop} (i1 : Int32)
    (h : Ct G l mX5_isText d [.int i1] S (QI (fun r1 T1 => (¬ r1 = (nI 0) → ∃ n14 : Nat, ix i1 n14 4 ∧ (((nI 0) ≤ (T1.1 91 n14) → Ct G l mX5_reads d [.ref 7, .int i1] T1 (QI (fun r28 T28 => P r28 T28))) ∧ (¬ ((nI 0) ≤ (T1.1 91 n14)) → Ct G l mX5_finds d [.ref 7, .int (nI 1)] T1 (QI (fun r20 T20 => P r20 T20))))) ∧ (r1 = (nI 0) → P (-1) T1)))) :
    Ct G l mX5_fault (d + 1) [.ref 7, .int i1] S (QI P) := by
  show Ev G l mX5_fault (d + 1) 0 [some (.ref 7), some (.int i1)] [] S (QI P)
  refine r_iload_n (μ := mX5_fault) (pc := 0) dX5_fault_0 rfl rfl ?_
  refine r_callS (μ := mX5_fault) (pc := 1) (as := [.int i1]) cX5_96 dX5_fault_1 rfl okX5_isText (Nat.lt_succ_self d) (cat8 (n := 0) rfl (by decide)) rfl h (k_I (fun r1 T1 h => ?_))
  refine r_if_ne (μ := mX5_fault) (pc := 4) (tgt := 9) dX5_fault_4 (by decide) ⟨fun q4 => ?_, fun q4 => ?_⟩
  · have h := h.1 q4
    refine r_aload_n (μ := mX5_fault) (pc := 9) dX5_fault_9 rfl rfl ?_
    refine g_R (μ := mX5_fault) (pc := 10) (k' := 91) fX5_19 dX5_fault_10 rfl rfl ?_
    refine r_iload_n (μ := mX5_fault) (pc := 13) dX5_fault_13 rfl rfl ?_
    obtain ⟨n14, hx14, h⟩ := h
    refine r_iald (μ := mX5_fault) (pc := 14) dX5_fault_14 rfl hx14 ?_
    refine r_if_ge (μ := mX5_fault) (pc := 15) (tgt := 26) dX5_fault_15 (by decide) ⟨fun q15 => ?_, fun q15 => ?_⟩
    · have h := h.1 q15
      refine r_aload_n (μ := mX5_fault) (pc := 26) dX5_fault_26 rfl rfl ?_
      refine r_iload_n (μ := mX5_fault) (pc := 27) dX5_fault_27 rfl rfl ?_
      refine r_callV (μ := mX5_fault) (pc := 28) (as := [.int i1]) 5 cX5_126 dX5_fault_28 rfl rfl (Nat.le_of_ble_eq_true rfl) rfl okX5_reads (Nat.lt_succ_self d) (cat8 (n := 0) rfl (by decide)) rfl h (k_I (fun r28 T28 h => ?_))
      exact r_iret (μ := mX5_fault) (pc := 31) dX5_fault_31 rfl h
    · have h := h.2 q15
      refine r_aload_n (μ := mX5_fault) (pc := 18) dX5_fault_18 rfl rfl ?_
      refine r_iconst (μ := mX5_fault) (pc := 19) (v := nI 1) dX5_fault_19 rfl ?_
      refine r_callV (μ := mX5_fault) (pc := 20) (as := [.int (nI 1)]) 5 cX5_81 dX5_fault_20 rfl rfl (Nat.le_of_ble_eq_true rfl) rfl okX5_finds (Nat.lt_succ_self d) (cat8 (n := 0) rfl (by decide)) rfl h (k_I (fun r20 T20 h => ?_))
      refine r_goto (μ := mX5_fault) (pc := 23) (tgt := 31) dX5_fault_23 (by decide) ?_
      exact r_iret (μ := mX5_fault) (pc := 31) dX5_fault_31 rfl h
  · have h := h.2 q4
    refine r_iconst (μ := mX5_fault) (pc := 7) (v := (-1)) dX5_fault_7 rfl ?_
    exact r_iret (μ := mX5_fault) (pc := 8) dX5_fault_8 rfl h

set_option maxRecDepth 20000 in
theorem bX5_copies_0 {G : Gl} {l : Launch} {d : Nat} {S : Sg} {P : Sg → Prop} (A0 : Nat) (hA0 : kd A0 = 10) (i1 : Int32) (A2 : Nat) (hA2 : kd A2 = 10) (i3 : Int32)
    (h : Ev G l mX5_copies (d + 1) 3 [some (.ref A0), some (.int i1), some (.ref A2), some (.int i3), some (.int (nI 0))] [] S (QV P)) :
    Ct G l mX5_copies (d + 1) [.ref A0, .int i1, .ref A2, .int i3] S (QV P) := by
  show Ev G l mX5_copies (d + 1) 0 [some (.ref A0), some (.int i1), some (.ref A2), some (.int i3), none] [] S (QV P)
  refine r_iconst (μ := mX5_copies) (pc := 0) (v := nI 0) dX5_copies_0 rfl ?_
  refine r_istore (μ := mX5_copies) (pc := 1) (ls' := [some (.ref A0), some (.int i1), some (.ref A2), some (.int i3), some (.int (nI 0))]) dX5_copies_1 (Nat.le_of_ble_eq_true rfl) rfl rfl ?_
  exact h

set_option maxRecDepth 20000 in
theorem bX5_copies_3 {G : Gl} {l : Launch} {d : Nat} {S : Sg} {P : Sg → Prop} (A0 : Nat) (hA0 : kd A0 = 10) (i1 : Int32) (A2 : Nat) (hA2 : kd A2 = 10) (i3 : Int32) (i4 : Int32)
    (h : ((nI 400) ≤ i4 → P S) ∧ (¬ ((nI 400) ≤ i4) → ∃ n21 : Nat, ix (i1 + i4) n21 (ln A0) ∧ (∃ n22 : Nat, ix (i3 + i4) n22 (ln A2) ∧ ∀ S22 : Sg, S22 = (u2 S.1 A2 n22 (S.1 A0 n21), S.2) → (Ev G l mX5_copies (d + 1) 3 [some (.ref A0), some (.int i1), some (.ref A2), some (.int i3), some (.int (i4 + (nI 1)))] [] S22 (QV P))))) :
    Ev G l mX5_copies (d + 1) 3 [some (.ref A0), some (.int i1), some (.ref A2), some (.int i3), some (.int i4)] [] S (QV P) := by
  show Ev G l mX5_copies (d + 1) 3 [some (.ref A0), some (.int i1), some (.ref A2), some (.int i3), some (.int i4)] [] S (QV P)
  refine r_iload (μ := mX5_copies) (pc := 3) dX5_copies_3 rfl ?_
  refine r_sipush (μ := mX5_copies) (pc := 5) (v := nI 400) dX5_copies_5 rfl ?_
  refine r_icmp_ge (μ := mX5_copies) (pc := 8) (tgt := 29) dX5_copies_8 (by decide) ⟨fun q8 => ?_, fun q8 => ?_⟩
  · have h := h.1 q8
    exact r_vret (μ := mX5_copies) (pc := 29) dX5_copies_29 rfl h
  · have h := h.2 q8
    refine r_aload_n (μ := mX5_copies) (pc := 11) dX5_copies_11 rfl rfl ?_
    refine r_iload_n (μ := mX5_copies) (pc := 12) dX5_copies_12 rfl rfl ?_
    refine r_iload (μ := mX5_copies) (pc := 13) dX5_copies_13 rfl ?_
    refine r_iadd (μ := mX5_copies) (pc := 15) dX5_copies_15 ?_
    refine r_aload_n (μ := mX5_copies) (pc := 16) dX5_copies_16 rfl rfl ?_
    refine r_iload_n (μ := mX5_copies) (pc := 17) dX5_copies_17 rfl rfl ?_
    refine r_iload (μ := mX5_copies) (pc := 18) dX5_copies_18 rfl ?_
    refine r_iadd (μ := mX5_copies) (pc := 20) dX5_copies_20 ?_
    obtain ⟨n21, hx21, h⟩ := h
    refine r_iald (μ := mX5_copies) (pc := 21) dX5_copies_21 hA0 hx21 ?_
    obtain ⟨n22, hx22, h⟩ := h
    refine r_iast (μ := mX5_copies) (pc := 22) dX5_copies_22 hA2 hx22 ?_
    refine nm_S (fun S22 eS22 => ?_)
    have h := h S22 eS22
    refine r_iinc (μ := mX5_copies) (pc := 23) (y := nI 1) (ls' := [some (.ref A0), some (.int i1), some (.ref A2), some (.int i3), some (.int (i4 + (nI 1)))]) dX5_copies_23 rfl rfl (Nat.le_of_ble_eq_true rfl) rfl rfl ?_
    refine r_goto (μ := mX5_copies) (pc := 26) (tgt := 3) dX5_copies_26 (by decide) ?_
    exact h

set_option maxRecDepth 20000 in
theorem bX5_land_0 {G : Gl} {l : Launch} {d : Nat} {S : Sg} {P : Int32 → Sg → Prop} (i1 : Int32)
    (h : Ct G l mX5_isText d [.int i1] S (QI (fun r1 T1 => (¬ r1 = (nI 0) → ∃ n14 : Nat, ix i1 n14 4 ∧ (((nI 0) ≤ (T1.1 91 n14) → Ct G l mX5_reads d [.ref 7, .int i1] T1 (QI (fun r26 T26 => (r26 = (-9) → Ct G l mX5_copies d [.ref 94, .int (nI 0), .ref 93, .int (nI 0)] T26 (QV (fun T47 => Ev G l mX5_land (d + 1) 52 [some (.ref 7), some (.int i1), some (.int (nI 0))] [] T47 (QI P)))) ∧ (¬ (r26 = (-9)) → P (-4) T26)))) ∧ (¬ ((nI 0) ≤ (T1.1 91 n14)) → Ct G l mX5_finds d [.ref 7, .int (nI 1)] T1 (QI (fun r20 T20 => P r20 T20))))) ∧ (r1 = (nI 0) → P (-1) T1)))) :
    Ct G l mX5_land (d + 1) [.ref 7, .int i1] S (QI P) := by
  show Ev G l mX5_land (d + 1) 0 [some (.ref 7), some (.int i1), none] [] S (QI P)
  refine r_iload_n (μ := mX5_land) (pc := 0) dX5_land_0 rfl rfl ?_
  refine r_callS (μ := mX5_land) (pc := 1) (as := [.int i1]) cX5_96 dX5_land_1 rfl okX5_isText (Nat.lt_succ_self d) (cat8 (n := 0) rfl (by decide)) rfl h (k_I (fun r1 T1 h => ?_))
  refine r_if_ne (μ := mX5_land) (pc := 4) (tgt := 9) dX5_land_4 (by decide) ⟨fun q4 => ?_, fun q4 => ?_⟩
  · have h := h.1 q4
    refine r_aload_n (μ := mX5_land) (pc := 9) dX5_land_9 rfl rfl ?_
    refine g_R (μ := mX5_land) (pc := 10) (k' := 91) fX5_19 dX5_land_10 rfl rfl ?_
    refine r_iload_n (μ := mX5_land) (pc := 13) dX5_land_13 rfl rfl ?_
    obtain ⟨n14, hx14, h⟩ := h
    refine r_iald (μ := mX5_land) (pc := 14) dX5_land_14 rfl hx14 ?_
    refine r_if_ge (μ := mX5_land) (pc := 15) (tgt := 24) dX5_land_15 (by decide) ⟨fun q15 => ?_, fun q15 => ?_⟩
    · have h := h.1 q15
      refine r_aload_n (μ := mX5_land) (pc := 24) dX5_land_24 rfl rfl ?_
      refine r_iload_n (μ := mX5_land) (pc := 25) dX5_land_25 rfl rfl ?_
      refine r_callV (μ := mX5_land) (pc := 26) (as := [.int i1]) 5 cX5_126 dX5_land_26 rfl rfl (Nat.le_of_ble_eq_true rfl) rfl okX5_reads (Nat.lt_succ_self d) (cat8 (n := 0) rfl (by decide)) rfl h (k_I (fun r26 T26 h => ?_))
      refine r_bipush (μ := mX5_land) (pc := 29) (v := (-9)) dX5_land_29 rfl ?_
      refine r_icmp_eq (μ := mX5_land) (pc := 31) (tgt := 37) dX5_land_31 (by decide) ⟨fun q31 => ?_, fun q31 => ?_⟩
      · have h := h.1 q31
        refine r_aload_n (μ := mX5_land) (pc := 37) dX5_land_37 rfl rfl ?_
        refine g_R (μ := mX5_land) (pc := 38) (k' := 94) fX5_28 dX5_land_38 rfl rfl ?_
        refine r_iconst (μ := mX5_land) (pc := 41) (v := nI 0) dX5_land_41 rfl ?_
        refine r_aload_n (μ := mX5_land) (pc := 42) dX5_land_42 rfl rfl ?_
        refine g_R (μ := mX5_land) (pc := 43) (k' := 93) fX5_25 dX5_land_43 rfl rfl ?_
        refine r_iconst (μ := mX5_land) (pc := 46) (v := nI 0) dX5_land_46 rfl ?_
        refine r_callS (μ := mX5_land) (pc := 47) (as := [.ref 94, .int (nI 0), .ref 93, .int (nI 0)]) cX5_129 dX5_land_47 rfl okX5_copies (Nat.lt_succ_self d) (cat8 (n := 0) rfl (by decide)) rfl h (k_V (fun T47 h => ?_))
        refine r_iconst (μ := mX5_land) (pc := 50) (v := nI 0) dX5_land_50 rfl ?_
        refine r_istore_n (μ := mX5_land) (pc := 51) (ls' := [some (.ref 7), some (.int i1), some (.int (nI 0))]) dX5_land_51 rfl (Nat.le_of_ble_eq_true rfl) rfl rfl ?_
        exact h
      · have h := h.2 q31
        refine r_bipush (μ := mX5_land) (pc := 34) (v := (-4)) dX5_land_34 rfl ?_
        exact r_iret (μ := mX5_land) (pc := 36) dX5_land_36 rfl h
    · have h := h.2 q15
      refine r_aload_n (μ := mX5_land) (pc := 18) dX5_land_18 rfl rfl ?_
      refine r_iconst (μ := mX5_land) (pc := 19) (v := nI 1) dX5_land_19 rfl ?_
      refine r_callV (μ := mX5_land) (pc := 20) (as := [.int (nI 1)]) 5 cX5_81 dX5_land_20 rfl rfl (Nat.le_of_ble_eq_true rfl) rfl okX5_finds (Nat.lt_succ_self d) (cat8 (n := 0) rfl (by decide)) rfl h (k_I (fun r20 T20 h => ?_))
      exact r_iret (μ := mX5_land) (pc := 23) dX5_land_23 rfl h
  · have h := h.2 q4
    refine r_iconst (μ := mX5_land) (pc := 7) (v := (-1)) dX5_land_7 rfl ?_
    exact r_iret (μ := mX5_land) (pc := 8) dX5_land_8 rfl h

set_option maxRecDepth 20000 in
theorem bX5_land_52 {G : Gl} {l : Launch} {d : Nat} {S : Sg} {P : Int32 → Sg → Prop} (i1 : Int32) (i2 : Int32)
    (h : ((nI 3) ≤ i2 → P (S.1 93 7) S) ∧ (¬ ((nI 3) ≤ i2) → ∃ n63 : Nat, ix i2 n63 3 ∧ ∀ S63 : Sg, S63 = (u2 S.1 96 n63 (nI 0), S.2) → (Ev G l mX5_land (d + 1) 52 [some (.ref 7), some (.int i1), some (.int (i2 + (nI 1)))] [] S63 (QI P)))) :
    Ev G l mX5_land (d + 1) 52 [some (.ref 7), some (.int i1), some (.int i2)] [] S (QI P) := by
  show Ev G l mX5_land (d + 1) 52 [some (.ref 7), some (.int i1), some (.int i2)] [] S (QI P)
  refine r_iload_n (μ := mX5_land) (pc := 52) dX5_land_52 rfl rfl ?_
  refine r_iconst (μ := mX5_land) (pc := 53) (v := nI 3) dX5_land_53 rfl ?_
  refine r_icmp_ge (μ := mX5_land) (pc := 54) (tgt := 70) dX5_land_54 (by decide) ⟨fun q54 => ?_, fun q54 => ?_⟩
  · have h := h.1 q54
    refine r_aload_n (μ := mX5_land) (pc := 70) dX5_land_70 rfl rfl ?_
    refine g_R (μ := mX5_land) (pc := 71) (k' := 93) fX5_25 dX5_land_71 rfl rfl ?_
    refine r_bipush (μ := mX5_land) (pc := 74) (v := nI 7) dX5_land_74 rfl ?_
    refine r_iald (μ := mX5_land) (pc := 76) dX5_land_76 rfl (ix_nI (n := 7) (Nat.le_of_ble_eq_true rfl) (Nat.le_of_ble_eq_true rfl)) ?_
    exact r_iret (μ := mX5_land) (pc := 77) dX5_land_77 rfl h
  · have h := h.2 q54
    refine r_aload_n (μ := mX5_land) (pc := 57) dX5_land_57 rfl rfl ?_
    refine g_R (μ := mX5_land) (pc := 58) (k' := 96) fX5_34 dX5_land_58 rfl rfl ?_
    refine r_iload_n (μ := mX5_land) (pc := 61) dX5_land_61 rfl rfl ?_
    refine r_iconst (μ := mX5_land) (pc := 62) (v := nI 0) dX5_land_62 rfl ?_
    obtain ⟨n63, hx63, h⟩ := h
    refine r_zast (μ := mX5_land) (pc := 63) dX5_land_63 rfl hx63 (zb_n rfl) ?_
    refine nm_S (fun S63 eS63 => ?_)
    have h := h S63 eS63
    refine r_iinc (μ := mX5_land) (pc := 64) (y := nI 1) (ls' := [some (.ref 7), some (.int i1), some (.int (i2 + (nI 1)))]) dX5_land_64 rfl rfl (Nat.le_of_ble_eq_true rfl) rfl rfl ?_
    refine r_goto (μ := mX5_land) (pc := 67) (tgt := 52) dX5_land_67 (by decide) ?_
    exact h

set_option maxRecDepth 20000 in
theorem bX5_isOne_0 {G : Gl} {l : Launch} {d : Nat} {S : Sg} {P : Int32 → Sg → Prop} (i1 : Int32)
    (h : Ct G l mX5_in d [.int i1, .int (nI 0), .int ((S.1 93 7) - (nI 1))] S (QI (fun r11 T11 => zb r11 ∧ P r11 T11))) :
    Ct G l mX5_isOne (d + 1) [.ref 7, .int i1] S (QI P) := by
  show Ev G l mX5_isOne (d + 1) 0 [some (.ref 7), some (.int i1)] [] S (QI P)
  refine r_iload_n (μ := mX5_isOne) (pc := 0) dX5_isOne_0 rfl rfl ?_
  refine r_iconst (μ := mX5_isOne) (pc := 1) (v := nI 0) dX5_isOne_1 rfl ?_
  refine r_aload_n (μ := mX5_isOne) (pc := 2) dX5_isOne_2 rfl rfl ?_
  refine g_R (μ := mX5_isOne) (pc := 3) (k' := 93) fX5_25 dX5_isOne_3 rfl rfl ?_
  refine r_bipush (μ := mX5_isOne) (pc := 6) (v := nI 7) dX5_isOne_6 rfl ?_
  refine r_iald (μ := mX5_isOne) (pc := 8) dX5_isOne_8 rfl (ix_nI (n := 7) (Nat.le_of_ble_eq_true rfl) (Nat.le_of_ble_eq_true rfl)) ?_
  refine r_iconst (μ := mX5_isOne) (pc := 9) (v := nI 1) dX5_isOne_9 rfl ?_
  refine r_isub (μ := mX5_isOne) (pc := 10) dX5_isOne_10 ?_
  refine r_callS (μ := mX5_isOne) (pc := 11) (as := [.int i1, .int (nI 0), .int ((S.1 93 7) - (nI 1))]) cX5_73 dX5_isOne_11 rfl okX5_in (Nat.lt_succ_self d) (cat8 (n := 0) rfl (by decide)) rfl h (k_I (fun r11 T11 h => ?_))
  obtain ⟨hb14, h⟩ := h
  exact r_zret (μ := mX5_isOne) (pc := 14) dX5_isOne_14 rfl hb14 h

set_option maxRecDepth 20000 in
theorem bX5_are_0 {G : Gl} {l : Launch} {d : Nat} {S : Sg} {P : Int32 → Sg → Prop} 
    (h : ∀ x6 : Int32, x6 = (if (S.1 93 0) ≤ (nI 0) then (nI 0) else (nI 1)) → (P x6 S)) :
    Ct G l mX5_are (d + 1) [.ref 7] S (QI P) := by
  show Ev G l mX5_are (d + 1) 0 [some (.ref 7)] [] S (QI P)
  refine r_aload_n (μ := mX5_are) (pc := 0) dX5_are_0 rfl rfl ?_
  refine g_R (μ := mX5_are) (pc := 1) (k' := 93) fX5_25 dX5_are_1 rfl rfl ?_
  refine r_iconst (μ := mX5_are) (pc := 4) (v := nI 0) dX5_are_4 rfl ?_
  refine r_iald (μ := mX5_are) (pc := 5) dX5_are_5 rfl (ix_nI (n := 0) (Nat.le_of_ble_eq_true rfl) (Nat.le_of_ble_eq_true rfl)) ?_
  have J6 : ∀ x6 : Int32, x6 = (if (S.1 93 0) ≤ (nI 0) then (nI 0) else (nI 1)) → Ev G l mX5_are (d + 1) 14 [some (.ref 7)] [.int x6] S (QI P) := by
    intro x6 e6
    have h := h x6 e6
    exact r_zret (μ := mX5_are) (pc := 14) dX5_are_14 rfl (by rw [e6]; exact (zb_if rfl rfl)) h
  refine r_if_le (μ := mX5_are) (pc := 6) (tgt := 13) dX5_are_6 (by decide) ⟨fun q6 => ?_, fun q6 => ?_⟩
  · refine r_iconst (μ := mX5_are) (pc := 13) (v := nI 0) dX5_are_13 rfl ?_
    exact J6 _ (by first | (rw [if_pos q6]; done) | simp only [if_pos q6])
  · refine r_iconst (μ := mX5_are) (pc := 9) (v := nI 1) dX5_are_9 rfl ?_
    refine r_goto (μ := mX5_are) (pc := 10) (tgt := 14) dX5_are_10 (by decide) ?_
    exact J6 _ (by first | (rw [if_neg q6]; done) | simp only [if_neg q6])

set_option maxRecDepth 20000 in
theorem bX5_isCell_0 {G : Gl} {l : Launch} {d : Nat} {S : Sg} {P : Int32 → Sg → Prop} (i1 : Int32)
    (h : Ct G l mX5_in d [.int i1, .int (nI 0), .int ((S.1 93 0) - (nI 1))] S (QI (fun r10 T10 => zb r10 ∧ P r10 T10))) :
    Ct G l mX5_isCell (d + 1) [.ref 7, .int i1] S (QI P) := by
  show Ev G l mX5_isCell (d + 1) 0 [some (.ref 7), some (.int i1)] [] S (QI P)
  refine r_iload_n (μ := mX5_isCell) (pc := 0) dX5_isCell_0 rfl rfl ?_
  refine r_iconst (μ := mX5_isCell) (pc := 1) (v := nI 0) dX5_isCell_1 rfl ?_
  refine r_aload_n (μ := mX5_isCell) (pc := 2) dX5_isCell_2 rfl rfl ?_
  refine g_R (μ := mX5_isCell) (pc := 3) (k' := 93) fX5_25 dX5_isCell_3 rfl rfl ?_
  refine r_iconst (μ := mX5_isCell) (pc := 6) (v := nI 0) dX5_isCell_6 rfl ?_
  refine r_iald (μ := mX5_isCell) (pc := 7) dX5_isCell_7 rfl (ix_nI (n := 0) (Nat.le_of_ble_eq_true rfl) (Nat.le_of_ble_eq_true rfl)) ?_
  refine r_iconst (μ := mX5_isCell) (pc := 8) (v := nI 1) dX5_isCell_8 rfl ?_
  refine r_isub (μ := mX5_isCell) (pc := 9) dX5_isCell_9 ?_
  refine r_callS (μ := mX5_isCell) (pc := 10) (as := [.int i1, .int (nI 0), .int ((S.1 93 0) - (nI 1))]) cX5_73 dX5_isCell_10 rfl okX5_in (Nat.lt_succ_self d) (cat8 (n := 0) rfl (by decide)) rfl h (k_I (fun r10 T10 h => ?_))
  obtain ⟨hb13, h⟩ := h
  exact r_zret (μ := mX5_isCell) (pc := 13) dX5_isCell_13 rfl hb13 h

set_option maxRecDepth 20000 in
theorem bX5_areCoasts_0 {G : Gl} {l : Launch} {d : Nat} {S : Sg} {P : Int32 → Sg → Prop} (i1 : Int32) (i2 : Int32)
    (h : Ct G l mX5_in d [.int i1, .int (nI 0), .int (S.1 93 0)] S (QI (fun r8 T8 => (r8 = (nI 0) → P (nI 0) T8) ∧ (¬ (r8 = (nI 0)) → Ct G l mX5_in d [.int i2, .int i1, .int (T8.1 93 0)] T8 (QI (fun r22 T22 => ∀ x25 : Int32, x25 = (if r22 = (nI 0) then (nI 0) else (nI 1)) → (P x25 T22))))))) :
    Ct G l mX5_areCoasts (d + 1) [.ref 7, .int i1, .int i2] S (QI P) := by
  show Ev G l mX5_areCoasts (d + 1) 0 [some (.ref 7), some (.int i1), some (.int i2)] [] S (QI P)
  refine r_iload_n (μ := mX5_areCoasts) (pc := 0) dX5_areCoasts_0 rfl rfl ?_
  refine r_iconst (μ := mX5_areCoasts) (pc := 1) (v := nI 0) dX5_areCoasts_1 rfl ?_
  refine r_aload_n (μ := mX5_areCoasts) (pc := 2) dX5_areCoasts_2 rfl rfl ?_
  refine g_R (μ := mX5_areCoasts) (pc := 3) (k' := 93) fX5_25 dX5_areCoasts_3 rfl rfl ?_
  refine r_iconst (μ := mX5_areCoasts) (pc := 6) (v := nI 0) dX5_areCoasts_6 rfl ?_
  refine r_iald (μ := mX5_areCoasts) (pc := 7) dX5_areCoasts_7 rfl (ix_nI (n := 0) (Nat.le_of_ble_eq_true rfl) (Nat.le_of_ble_eq_true rfl)) ?_
  refine r_callS (μ := mX5_areCoasts) (pc := 8) (as := [.int i1, .int (nI 0), .int (S.1 93 0)]) cX5_73 dX5_areCoasts_8 rfl okX5_in (Nat.lt_succ_self d) (cat8 (n := 0) rfl (by decide)) rfl h (k_I (fun r8 T8 h => ?_))
  refine r_if_eq (μ := mX5_areCoasts) (pc := 11) (tgt := 32) dX5_areCoasts_11 (by decide) ⟨fun q11 => ?_, fun q11 => ?_⟩
  · have h := h.1 q11
    refine r_iconst (μ := mX5_areCoasts) (pc := 32) (v := nI 0) dX5_areCoasts_32 rfl ?_
    exact r_zret (μ := mX5_areCoasts) (pc := 33) dX5_areCoasts_33 rfl rfl h
  · have h := h.2 q11
    refine r_iload_n (μ := mX5_areCoasts) (pc := 14) dX5_areCoasts_14 rfl rfl ?_
    refine r_iload_n (μ := mX5_areCoasts) (pc := 15) dX5_areCoasts_15 rfl rfl ?_
    refine r_aload_n (μ := mX5_areCoasts) (pc := 16) dX5_areCoasts_16 rfl rfl ?_
    refine g_R (μ := mX5_areCoasts) (pc := 17) (k' := 93) fX5_25 dX5_areCoasts_17 rfl rfl ?_
    refine r_iconst (μ := mX5_areCoasts) (pc := 20) (v := nI 0) dX5_areCoasts_20 rfl ?_
    refine r_iald (μ := mX5_areCoasts) (pc := 21) dX5_areCoasts_21 rfl (ix_nI (n := 0) (Nat.le_of_ble_eq_true rfl) (Nat.le_of_ble_eq_true rfl)) ?_
    refine r_callS (μ := mX5_areCoasts) (pc := 22) (as := [.int i2, .int i1, .int (T8.1 93 0)]) cX5_73 dX5_areCoasts_22 rfl okX5_in (Nat.lt_succ_self d) (cat8 (n := 0) rfl (by decide)) rfl h (k_I (fun r22 T22 h => ?_))
    have J25 : ∀ x25 : Int32, x25 = (if r22 = (nI 0) then (nI 0) else (nI 1)) → Ev G l mX5_areCoasts (d + 1) 33 [some (.ref 7), some (.int i1), some (.int i2)] [.int x25] T22 (QI P) := by
      intro x25 e25
      have h := h x25 e25
      exact r_zret (μ := mX5_areCoasts) (pc := 33) dX5_areCoasts_33 rfl (by rw [e25]; exact (zb_if rfl rfl)) h
    refine r_if_eq (μ := mX5_areCoasts) (pc := 25) (tgt := 32) dX5_areCoasts_25 (by decide) ⟨fun q25 => ?_, fun q25 => ?_⟩
    · refine r_iconst (μ := mX5_areCoasts) (pc := 32) (v := nI 0) dX5_areCoasts_32 rfl ?_
      exact J25 _ (by first | (rw [if_pos q25]; done) | simp only [if_pos q25])
    · refine r_iconst (μ := mX5_areCoasts) (pc := 28) (v := nI 1) dX5_areCoasts_28 rfl ?_
      refine r_goto (μ := mX5_areCoasts) (pc := 29) (tgt := 33) dX5_areCoasts_29 (by decide) ?_
      exact J25 _ (by first | (rw [if_neg q25]; done) | simp only [if_neg q25])

set_option maxRecDepth 20000 in
theorem bX5_isOf_0 {G : Gl} {l : Launch} {d : Nat} {S : Sg} {P : Int32 → Sg → Prop} (i0 : Int32) (i1 : Int32)
    (h : ∀ x2 : Int32, x2 = (if i0 = i1 then (nI 1) else (if i0 = (nI 4) then (if i1 = (nI 1) then (nI 1) else (if i0 = (nI 5) then (if i1 = (nI 2) then (nI 1) else (nI 0)) else (nI 0))) else (if i0 = (nI 5) then (if i1 = (nI 2) then (nI 1) else (nI 0)) else (nI 0)))) → (P x2 S)) :
    Ct G l mX5_isOf (d + 1) [.int i0, .int i1] S (QI P) := by
  show Ev G l mX5_isOf (d + 1) 0 [some (.int i0), some (.int i1)] [] S (QI P)
  refine r_iload_n (μ := mX5_isOf) (pc := 0) dX5_isOf_0 rfl rfl ?_
  refine r_iload_n (μ := mX5_isOf) (pc := 1) dX5_isOf_1 rfl rfl ?_
  have J2 : ∀ x2 : Int32, x2 = (if i0 = i1 then (nI 1) else (if i0 = (nI 4) then (if i1 = (nI 1) then (nI 1) else (if i0 = (nI 5) then (if i1 = (nI 2) then (nI 1) else (nI 0)) else (nI 0))) else (if i0 = (nI 5) then (if i1 = (nI 2) then (nI 1) else (nI 0)) else (nI 0)))) → Ev G l mX5_isOf (d + 1) 30 [some (.int i0), some (.int i1)] [.int x2] S (QI P) := by
    intro x2 e2
    have h := h x2 e2
    exact r_zret (μ := mX5_isOf) (pc := 30) dX5_isOf_30 rfl (by rw [e2]; exact (zb_if rfl (zb_if (zb_if rfl (zb_if (zb_if rfl rfl) rfl)) (zb_if (zb_if rfl rfl) rfl)))) h
  refine r_icmp_eq (μ := mX5_isOf) (pc := 2) (tgt := 25) dX5_isOf_2 (by decide) ⟨fun q2 => ?_, fun q2 => ?_⟩
  · refine r_iconst (μ := mX5_isOf) (pc := 25) (v := nI 1) dX5_isOf_25 rfl ?_
    refine r_goto (μ := mX5_isOf) (pc := 26) (tgt := 30) dX5_isOf_26 (by decide) ?_
    exact J2 _ (by first | (rw [if_pos q2]; done) | simp only [if_pos q2])
  · refine r_iload_n (μ := mX5_isOf) (pc := 5) dX5_isOf_5 rfl rfl ?_
    refine r_iconst (μ := mX5_isOf) (pc := 6) (v := nI 4) dX5_isOf_6 rfl ?_
    refine r_icmp_ne (μ := mX5_isOf) (pc := 7) (tgt := 15) dX5_isOf_7 (by decide) ⟨fun q7 => ?_, fun q7 => ?_⟩
    · refine r_iload_n (μ := mX5_isOf) (pc := 15) dX5_isOf_15 rfl rfl ?_
      refine r_iconst (μ := mX5_isOf) (pc := 16) (v := nI 5) dX5_isOf_16 rfl ?_
      refine r_icmp_ne (μ := mX5_isOf) (pc := 17) (tgt := 29) dX5_isOf_17 (by decide) ⟨fun q17 => ?_, fun q17 => ?_⟩
      · refine r_iconst (μ := mX5_isOf) (pc := 29) (v := nI 0) dX5_isOf_29 rfl ?_
        exact J2 _ (by first | (rw [if_neg q2, if_neg q7, if_neg q17]; done) | simp only [if_neg q2, if_neg q7, if_neg q17])
      · refine r_iload_n (μ := mX5_isOf) (pc := 20) dX5_isOf_20 rfl rfl ?_
        refine r_iconst (μ := mX5_isOf) (pc := 21) (v := nI 2) dX5_isOf_21 rfl ?_
        refine r_icmp_ne (μ := mX5_isOf) (pc := 22) (tgt := 29) dX5_isOf_22 (by decide) ⟨fun q22 => ?_, fun q22 => ?_⟩
        · refine r_iconst (μ := mX5_isOf) (pc := 29) (v := nI 0) dX5_isOf_29 rfl ?_
          exact J2 _ (by first | (rw [if_neg q2, if_neg q7, if_pos q17, if_neg q22]; done) | simp only [if_neg q2, if_neg q7, if_pos q17, if_neg q22])
        · refine r_iconst (μ := mX5_isOf) (pc := 25) (v := nI 1) dX5_isOf_25 rfl ?_
          refine r_goto (μ := mX5_isOf) (pc := 26) (tgt := 30) dX5_isOf_26 (by decide) ?_
          exact J2 _ (by first | (rw [if_neg q2, if_neg q7, if_pos q17, if_pos q22]; done) | simp only [if_neg q2, if_neg q7, if_pos q17, if_pos q22])
    · refine r_iload_n (μ := mX5_isOf) (pc := 10) dX5_isOf_10 rfl rfl ?_
      refine r_iconst (μ := mX5_isOf) (pc := 11) (v := nI 1) dX5_isOf_11 rfl ?_
      refine r_icmp_eq (μ := mX5_isOf) (pc := 12) (tgt := 25) dX5_isOf_12 (by decide) ⟨fun q12 => ?_, fun q12 => ?_⟩
      · refine r_iconst (μ := mX5_isOf) (pc := 25) (v := nI 1) dX5_isOf_25 rfl ?_
        refine r_goto (μ := mX5_isOf) (pc := 26) (tgt := 30) dX5_isOf_26 (by decide) ?_
        exact J2 _ (by first | (rw [if_neg q2, if_pos q7, if_pos q12]; done) | simp only [if_neg q2, if_pos q7, if_pos q12])
      · refine r_iload_n (μ := mX5_isOf) (pc := 15) dX5_isOf_15 rfl rfl ?_
        refine r_iconst (μ := mX5_isOf) (pc := 16) (v := nI 5) dX5_isOf_16 rfl ?_
        refine r_icmp_ne (μ := mX5_isOf) (pc := 17) (tgt := 29) dX5_isOf_17 (by decide) ⟨fun q17 => ?_, fun q17 => ?_⟩
        · refine r_iconst (μ := mX5_isOf) (pc := 29) (v := nI 0) dX5_isOf_29 rfl ?_
          exact J2 _ (by first | (rw [if_neg q2, if_pos q7, if_neg q12, if_neg q17]; done) | simp only [if_neg q2, if_pos q7, if_neg q12, if_neg q17])
        · refine r_iload_n (μ := mX5_isOf) (pc := 20) dX5_isOf_20 rfl rfl ?_
          refine r_iconst (μ := mX5_isOf) (pc := 21) (v := nI 2) dX5_isOf_21 rfl ?_
          refine r_icmp_ne (μ := mX5_isOf) (pc := 22) (tgt := 29) dX5_isOf_22 (by decide) ⟨fun q22 => ?_, fun q22 => ?_⟩
          · refine r_iconst (μ := mX5_isOf) (pc := 29) (v := nI 0) dX5_isOf_29 rfl ?_
            exact J2 _ (by first | (rw [if_neg q2, if_pos q7, if_neg q12, if_pos q17, if_neg q22]; done) | simp only [if_neg q2, if_pos q7, if_neg q12, if_pos q17, if_neg q22])
          · refine r_iconst (μ := mX5_isOf) (pc := 25) (v := nI 1) dX5_isOf_25 rfl ?_
            refine r_goto (μ := mX5_isOf) (pc := 26) (tgt := 30) dX5_isOf_26 (by decide) ?_
            exact J2 _ (by first | (rw [if_neg q2, if_pos q7, if_neg q12, if_pos q17, if_pos q22]; done) | simp only [if_neg q2, if_pos q7, if_neg q12, if_pos q17, if_pos q22])

set_option maxRecDepth 20000 in
theorem bX5_belongsBy_0 {G : Gl} {l : Launch} {d : Nat} {S : Sg} {P : Int32 → Sg → Prop} (i1 : Int32) (i2 : Int32) (i3 : Int32) (i4 : Int32) (i5 : Int32)
    (h : Ct G l mX5_in d [.int i2, .int i4, .int (i5 - (nI 1))] S (QI (fun r7 T7 => Ct G l mX5_in d [.int i3, .int (T7.1 93 5), .int ((T7.1 93 6) - (nI 1))] T7 (QI (fun r28 T28 => Ct G l mX5_in d [.int i2, .int (i4 - (nI 1)), .int i5] T28 (QI (fun r40 T40 => (i1 = nI 1 → zb r28 ∧ P r28 T40) ∧ (¬ i1 = nI 1 → (i1 = nI 2 → zb r40 ∧ P r40 T40) ∧ (¬ i1 = nI 2 → (i1 = nI 3 → ∀ x127 : Int32, x127 = (if r7 = (nI 0) then (nI 0) else (if (i5 - i4) ≤ (nI 2) then (nI 0) else (nI 1))) → (P x127 T40)) ∧ (¬ i1 = nI 3 → (i1 = nI 4 → ∀ x85 : Int32, x85 = (if r28 = (nI 0) then (nI 0) else (if i2 < i4 then (nI 0) else (nI 1))) → (P x85 T40)) ∧ (¬ i1 = nI 4 → (i1 = nI 5 → ∀ x105 : Int32, x105 = (if r40 = (nI 0) then (nI 0) else (if i2 = ((i4 + i5) / (nI 2)) then (nI 1) else (nI 0))) → (P x105 T40)) ∧ (¬ i1 = nI 5 → zb r7 ∧ P r7 T40)))))))))))) :
    Ct G l mX5_belongsBy (d + 1) [.ref 7, .int i1, .int i2, .int i3, .int i4, .int i5] S (QI P) := by
  show Ev G l mX5_belongsBy (d + 1) 0 [some (.ref 7), some (.int i1), some (.int i2), some (.int i3), some (.int i4), some (.int i5), none, none, none] [] S (QI P)
  refine r_iload_n (μ := mX5_belongsBy) (pc := 0) dX5_belongsBy_0 rfl rfl ?_
  refine r_iload (μ := mX5_belongsBy) (pc := 1) dX5_belongsBy_1 rfl ?_
  refine r_iload (μ := mX5_belongsBy) (pc := 3) dX5_belongsBy_3 rfl ?_
  refine r_iconst (μ := mX5_belongsBy) (pc := 5) (v := nI 1) dX5_belongsBy_5 rfl ?_
  refine r_isub (μ := mX5_belongsBy) (pc := 6) dX5_belongsBy_6 ?_
  refine r_callS (μ := mX5_belongsBy) (pc := 7) (as := [.int i2, .int i4, .int (i5 - (nI 1))]) cX5_73 dX5_belongsBy_7 rfl okX5_in (Nat.lt_succ_self d) (cat8 (n := 0) rfl (by decide)) rfl h (k_I (fun r7 T7 h => ?_))
  refine r_istore (μ := mX5_belongsBy) (pc := 10) (ls' := [some (.ref 7), some (.int i1), some (.int i2), some (.int i3), some (.int i4), some (.int i5), some (.int r7), none, none]) dX5_belongsBy_10 (Nat.le_of_ble_eq_true rfl) rfl rfl ?_
  refine r_iload_n (μ := mX5_belongsBy) (pc := 12) dX5_belongsBy_12 rfl rfl ?_
  refine r_aload_n (μ := mX5_belongsBy) (pc := 13) dX5_belongsBy_13 rfl rfl ?_
  refine g_R (μ := mX5_belongsBy) (pc := 14) (k' := 93) fX5_25 dX5_belongsBy_14 rfl rfl ?_
  refine r_iconst (μ := mX5_belongsBy) (pc := 17) (v := nI 5) dX5_belongsBy_17 rfl ?_
  refine r_iald (μ := mX5_belongsBy) (pc := 18) dX5_belongsBy_18 rfl (ix_nI (n := 5) (Nat.le_of_ble_eq_true rfl) (Nat.le_of_ble_eq_true rfl)) ?_
  refine r_aload_n (μ := mX5_belongsBy) (pc := 19) dX5_belongsBy_19 rfl rfl ?_
  refine g_R (μ := mX5_belongsBy) (pc := 20) (k' := 93) fX5_25 dX5_belongsBy_20 rfl rfl ?_
  refine r_bipush (μ := mX5_belongsBy) (pc := 23) (v := nI 6) dX5_belongsBy_23 rfl ?_
  refine r_iald (μ := mX5_belongsBy) (pc := 25) dX5_belongsBy_25 rfl (ix_nI (n := 6) (Nat.le_of_ble_eq_true rfl) (Nat.le_of_ble_eq_true rfl)) ?_
  refine r_iconst (μ := mX5_belongsBy) (pc := 26) (v := nI 1) dX5_belongsBy_26 rfl ?_
  refine r_isub (μ := mX5_belongsBy) (pc := 27) dX5_belongsBy_27 ?_
  refine r_callS (μ := mX5_belongsBy) (pc := 28) (as := [.int i3, .int (T7.1 93 5), .int ((T7.1 93 6) - (nI 1))]) cX5_73 dX5_belongsBy_28 rfl okX5_in (Nat.lt_succ_self d) (cat8 (n := 0) rfl (by decide)) rfl h (k_I (fun r28 T28 h => ?_))
  refine r_istore (μ := mX5_belongsBy) (pc := 31) (ls' := [some (.ref 7), some (.int i1), some (.int i2), some (.int i3), some (.int i4), some (.int i5), some (.int r7), some (.int r28), none]) dX5_belongsBy_31 (Nat.le_of_ble_eq_true rfl) rfl rfl ?_
  refine r_iload_n (μ := mX5_belongsBy) (pc := 33) dX5_belongsBy_33 rfl rfl ?_
  refine r_iload (μ := mX5_belongsBy) (pc := 34) dX5_belongsBy_34 rfl ?_
  refine r_iconst (μ := mX5_belongsBy) (pc := 36) (v := nI 1) dX5_belongsBy_36 rfl ?_
  refine r_isub (μ := mX5_belongsBy) (pc := 37) dX5_belongsBy_37 ?_
  refine r_iload (μ := mX5_belongsBy) (pc := 38) dX5_belongsBy_38 rfl ?_
  refine r_callS (μ := mX5_belongsBy) (pc := 40) (as := [.int i2, .int (i4 - (nI 1)), .int i5]) cX5_73 dX5_belongsBy_40 rfl okX5_in (Nat.lt_succ_self d) (cat8 (n := 0) rfl (by decide)) rfl h (k_I (fun r40 T40 h => ?_))
  refine r_istore (μ := mX5_belongsBy) (pc := 43) (ls' := [some (.ref 7), some (.int i1), some (.int i2), some (.int i3), some (.int i4), some (.int i5), some (.int r7), some (.int r28), some (.int r40)]) dX5_belongsBy_43 (Nat.le_of_ble_eq_true rfl) rfl rfl ?_
  refine r_iload_n (μ := mX5_belongsBy) (pc := 45) dX5_belongsBy_45 rfl rfl ?_
  refine r_ts (μ := mX5_belongsBy) (pc := 46) (td := 145) [(nI 1, 80), (nI 2, 100), (nI 3, 125), (nI 4, 83), (nI 5, 103)] dX5_belongsBy_46 rfl rfl rfl rfl ?_
  refine ⟨fun q46 => ?_, fun q46 => ?_⟩
  · have h := h.1 q46
    refine r_iload (μ := mX5_belongsBy) (pc := 80) dX5_belongsBy_80 rfl ?_
    obtain ⟨hb82, h⟩ := h
    exact r_zret (μ := mX5_belongsBy) (pc := 82) dX5_belongsBy_82 rfl hb82 h
  have h := h.2 q46
  refine ⟨fun q46 => ?_, fun q46 => ?_⟩
  · have h := h.1 q46
    refine r_iload (μ := mX5_belongsBy) (pc := 100) dX5_belongsBy_100 rfl ?_
    obtain ⟨hb102, h⟩ := h
    exact r_zret (μ := mX5_belongsBy) (pc := 102) dX5_belongsBy_102 rfl hb102 h
  have h := h.2 q46
  refine ⟨fun q46 => ?_, fun q46 => ?_⟩
  · have h := h.1 q46
    refine r_iload (μ := mX5_belongsBy) (pc := 125) dX5_belongsBy_125 rfl ?_
    have J127 : ∀ x127 : Int32, x127 = (if r7 = (nI 0) then (nI 0) else (if (i5 - i4) ≤ (nI 2) then (nI 0) else (nI 1))) → Ev G l mX5_belongsBy (d + 1) 144 [some (.ref 7), some (.int i1), some (.int i2), some (.int i3), some (.int i4), some (.int i5), some (.int r7), some (.int r28), some (.int r40)] [.int x127] T40 (QI P) := by
      intro x127 e127
      have h := h x127 e127
      exact r_zret (μ := mX5_belongsBy) (pc := 144) dX5_belongsBy_144 rfl (by rw [e127]; exact (zb_if rfl (zb_if rfl rfl))) h
    refine r_if_eq (μ := mX5_belongsBy) (pc := 127) (tgt := 143) dX5_belongsBy_127 (by decide) ⟨fun q127 => ?_, fun q127 => ?_⟩
    · refine r_iconst (μ := mX5_belongsBy) (pc := 143) (v := nI 0) dX5_belongsBy_143 rfl ?_
      exact J127 _ (by first | (rw [if_pos q127]; done) | simp only [if_pos q127])
    · refine r_iload (μ := mX5_belongsBy) (pc := 130) dX5_belongsBy_130 rfl ?_
      refine r_iload (μ := mX5_belongsBy) (pc := 132) dX5_belongsBy_132 rfl ?_
      refine r_isub (μ := mX5_belongsBy) (pc := 134) dX5_belongsBy_134 ?_
      refine r_iconst (μ := mX5_belongsBy) (pc := 135) (v := nI 2) dX5_belongsBy_135 rfl ?_
      refine r_icmp_le (μ := mX5_belongsBy) (pc := 136) (tgt := 143) dX5_belongsBy_136 (by decide) ⟨fun q136 => ?_, fun q136 => ?_⟩
      · refine r_iconst (μ := mX5_belongsBy) (pc := 143) (v := nI 0) dX5_belongsBy_143 rfl ?_
        exact J127 _ (by first | (rw [if_neg q127, if_pos q136]; done) | simp only [if_neg q127, if_pos q136])
      · refine r_iconst (μ := mX5_belongsBy) (pc := 139) (v := nI 1) dX5_belongsBy_139 rfl ?_
        refine r_goto (μ := mX5_belongsBy) (pc := 140) (tgt := 144) dX5_belongsBy_140 (by decide) ?_
        exact J127 _ (by first | (rw [if_neg q127, if_neg q136]; done) | simp only [if_neg q127, if_neg q136])
  have h := h.2 q46
  refine ⟨fun q46 => ?_, fun q46 => ?_⟩
  · have h := h.1 q46
    refine r_iload (μ := mX5_belongsBy) (pc := 83) dX5_belongsBy_83 rfl ?_
    have J85 : ∀ x85 : Int32, x85 = (if r28 = (nI 0) then (nI 0) else (if i2 < i4 then (nI 0) else (nI 1))) → Ev G l mX5_belongsBy (d + 1) 99 [some (.ref 7), some (.int i1), some (.int i2), some (.int i3), some (.int i4), some (.int i5), some (.int r7), some (.int r28), some (.int r40)] [.int x85] T40 (QI P) := by
      intro x85 e85
      have h := h x85 e85
      exact r_zret (μ := mX5_belongsBy) (pc := 99) dX5_belongsBy_99 rfl (by rw [e85]; exact (zb_if rfl (zb_if rfl rfl))) h
    refine r_if_eq (μ := mX5_belongsBy) (pc := 85) (tgt := 98) dX5_belongsBy_85 (by decide) ⟨fun q85 => ?_, fun q85 => ?_⟩
    · refine r_iconst (μ := mX5_belongsBy) (pc := 98) (v := nI 0) dX5_belongsBy_98 rfl ?_
      exact J85 _ (by first | (rw [if_pos q85]; done) | simp only [if_pos q85])
    · refine r_iload_n (μ := mX5_belongsBy) (pc := 88) dX5_belongsBy_88 rfl rfl ?_
      refine r_iload (μ := mX5_belongsBy) (pc := 89) dX5_belongsBy_89 rfl ?_
      refine r_icmp_lt (μ := mX5_belongsBy) (pc := 91) (tgt := 98) dX5_belongsBy_91 (by decide) ⟨fun q91 => ?_, fun q91 => ?_⟩
      · refine r_iconst (μ := mX5_belongsBy) (pc := 98) (v := nI 0) dX5_belongsBy_98 rfl ?_
        exact J85 _ (by first | (rw [if_neg q85, if_pos q91]; done) | simp only [if_neg q85, if_pos q91])
      · refine r_iconst (μ := mX5_belongsBy) (pc := 94) (v := nI 1) dX5_belongsBy_94 rfl ?_
        refine r_goto (μ := mX5_belongsBy) (pc := 95) (tgt := 99) dX5_belongsBy_95 (by decide) ?_
        exact J85 _ (by first | (rw [if_neg q85, if_neg q91]; done) | simp only [if_neg q85, if_neg q91])
  have h := h.2 q46
  refine ⟨fun q46 => ?_, fun q46 => ?_⟩
  · have h := h.1 q46
    refine r_iload (μ := mX5_belongsBy) (pc := 103) dX5_belongsBy_103 rfl ?_
    have J105 : ∀ x105 : Int32, x105 = (if r40 = (nI 0) then (nI 0) else (if i2 = ((i4 + i5) / (nI 2)) then (nI 1) else (nI 0))) → Ev G l mX5_belongsBy (d + 1) 124 [some (.ref 7), some (.int i1), some (.int i2), some (.int i3), some (.int i4), some (.int i5), some (.int r7), some (.int r28), some (.int r40)] [.int x105] T40 (QI P) := by
      intro x105 e105
      have h := h x105 e105
      exact r_zret (μ := mX5_belongsBy) (pc := 124) dX5_belongsBy_124 rfl (by rw [e105]; exact (zb_if rfl (zb_if rfl rfl))) h
    refine r_if_eq (μ := mX5_belongsBy) (pc := 105) (tgt := 123) dX5_belongsBy_105 (by decide) ⟨fun q105 => ?_, fun q105 => ?_⟩
    · refine r_iconst (μ := mX5_belongsBy) (pc := 123) (v := nI 0) dX5_belongsBy_123 rfl ?_
      exact J105 _ (by first | (rw [if_pos q105]; done) | simp only [if_pos q105])
    · refine r_iload_n (μ := mX5_belongsBy) (pc := 108) dX5_belongsBy_108 rfl rfl ?_
      refine r_iload (μ := mX5_belongsBy) (pc := 109) dX5_belongsBy_109 rfl ?_
      refine r_iload (μ := mX5_belongsBy) (pc := 111) dX5_belongsBy_111 rfl ?_
      refine r_iadd (μ := mX5_belongsBy) (pc := 113) dX5_belongsBy_113 ?_
      refine r_iconst (μ := mX5_belongsBy) (pc := 114) (v := nI 2) dX5_belongsBy_114 rfl ?_
      refine r_idiv (μ := mX5_belongsBy) (pc := 115) dX5_belongsBy_115 (by decide) ?_
      refine r_icmp_ne (μ := mX5_belongsBy) (pc := 116) (tgt := 123) dX5_belongsBy_116 (by decide) ⟨fun q116 => ?_, fun q116 => ?_⟩
      · refine r_iconst (μ := mX5_belongsBy) (pc := 123) (v := nI 0) dX5_belongsBy_123 rfl ?_
        exact J105 _ (by first | (rw [if_neg q105, if_neg q116]; done) | simp only [if_neg q105, if_neg q116])
      · refine r_iconst (μ := mX5_belongsBy) (pc := 119) (v := nI 1) dX5_belongsBy_119 rfl ?_
        refine r_goto (μ := mX5_belongsBy) (pc := 120) (tgt := 124) dX5_belongsBy_120 (by decide) ?_
        exact J105 _ (by first | (rw [if_neg q105, if_pos q116]; done) | simp only [if_neg q105, if_pos q116])
  have h := h.2 q46
  refine r_iload (μ := mX5_belongsBy) (pc := 145) dX5_belongsBy_145 rfl ?_
  obtain ⟨hb147, h⟩ := h
  exact r_zret (μ := mX5_belongsBy) (pc := 147) dX5_belongsBy_147 rfl hb147 h

set_option maxRecDepth 20000 in
theorem bX5_belongs_0 {G : Gl} {l : Launch} {d : Nat} {S : Sg} {P : Int32 → Sg → Prop} (i1 : Int32) (i2 : Int32) (i3 : Int32)
    (h : ∃ n15 : Nat, ix ((nI 10) + ((nI 5) * i1)) n15 400 ∧ (∃ n24 : Nat, ix (((nI 10) + ((nI 5) * i1)) + (nI 1)) n24 400 ∧ (∃ n33 : Nat, ix (((nI 10) + ((nI 5) * i1)) + (nI 2)) n33 400 ∧ (Ct G l mX5_belongsBy d [.ref 7, .int (S.1 93 n15), .int (S.1 93 n24), .int (S.1 93 n33), .int i2, .int i3] S (QI (fun r36 T36 => zb r36 ∧ P r36 T36)))))) :
    Ct G l mX5_belongs (d + 1) [.ref 7, .int i1, .int i2, .int i3] S (QI P) := by
  show Ev G l mX5_belongs (d + 1) 0 [some (.ref 7), some (.int i1), some (.int i2), some (.int i3), none] [] S (QI P)
  refine r_bipush (μ := mX5_belongs) (pc := 0) (v := nI 10) dX5_belongs_0 rfl ?_
  refine r_iconst (μ := mX5_belongs) (pc := 2) (v := nI 5) dX5_belongs_2 rfl ?_
  refine r_iload_n (μ := mX5_belongs) (pc := 3) dX5_belongs_3 rfl rfl ?_
  refine r_imul (μ := mX5_belongs) (pc := 4) dX5_belongs_4 ?_
  refine r_iadd (μ := mX5_belongs) (pc := 5) dX5_belongs_5 ?_
  refine r_istore (μ := mX5_belongs) (pc := 6) (ls' := [some (.ref 7), some (.int i1), some (.int i2), some (.int i3), some (.int ((nI 10) + ((nI 5) * i1)))]) dX5_belongs_6 (Nat.le_of_ble_eq_true rfl) rfl rfl ?_
  refine r_aload_n (μ := mX5_belongs) (pc := 8) dX5_belongs_8 rfl rfl ?_
  refine r_aload_n (μ := mX5_belongs) (pc := 9) dX5_belongs_9 rfl rfl ?_
  refine g_R (μ := mX5_belongs) (pc := 10) (k' := 93) fX5_25 dX5_belongs_10 rfl rfl ?_
  refine r_iload (μ := mX5_belongs) (pc := 13) dX5_belongs_13 rfl ?_
  obtain ⟨n15, hx15, h⟩ := h
  refine r_iald (μ := mX5_belongs) (pc := 15) dX5_belongs_15 rfl hx15 ?_
  refine r_aload_n (μ := mX5_belongs) (pc := 16) dX5_belongs_16 rfl rfl ?_
  refine g_R (μ := mX5_belongs) (pc := 17) (k' := 93) fX5_25 dX5_belongs_17 rfl rfl ?_
  refine r_iload (μ := mX5_belongs) (pc := 20) dX5_belongs_20 rfl ?_
  refine r_iconst (μ := mX5_belongs) (pc := 22) (v := nI 1) dX5_belongs_22 rfl ?_
  refine r_iadd (μ := mX5_belongs) (pc := 23) dX5_belongs_23 ?_
  obtain ⟨n24, hx24, h⟩ := h
  refine r_iald (μ := mX5_belongs) (pc := 24) dX5_belongs_24 rfl hx24 ?_
  refine r_aload_n (μ := mX5_belongs) (pc := 25) dX5_belongs_25 rfl rfl ?_
  refine g_R (μ := mX5_belongs) (pc := 26) (k' := 93) fX5_25 dX5_belongs_26 rfl rfl ?_
  refine r_iload (μ := mX5_belongs) (pc := 29) dX5_belongs_29 rfl ?_
  refine r_iconst (μ := mX5_belongs) (pc := 31) (v := nI 2) dX5_belongs_31 rfl ?_
  refine r_iadd (μ := mX5_belongs) (pc := 32) dX5_belongs_32 ?_
  obtain ⟨n33, hx33, h⟩ := h
  refine r_iald (μ := mX5_belongs) (pc := 33) dX5_belongs_33 rfl hx33 ?_
  refine r_iload_n (μ := mX5_belongs) (pc := 34) dX5_belongs_34 rfl rfl ?_
  refine r_iload_n (μ := mX5_belongs) (pc := 35) dX5_belongs_35 rfl rfl ?_
  refine r_callV (μ := mX5_belongs) (pc := 36) (as := [.int (S.1 93 n15), .int (S.1 93 n24), .int (S.1 93 n33), .int i2, .int i3]) 5 cX5_133 dX5_belongs_36 rfl rfl (Nat.le_of_ble_eq_true rfl) rfl okX5_belongsBy (Nat.lt_succ_self d) (cat8 (n := 0) rfl (by decide)) rfl h (k_I (fun r36 T36 h => ?_))
  obtain ⟨hb39, h⟩ := h
  exact r_zret (μ := mX5_belongs) (pc := 39) dX5_belongs_39 rfl hb39 h

set_option maxRecDepth 20000 in
theorem bX5_votesOf_0 {G : Gl} {l : Launch} {d : Nat} {S : Sg} {P : Int32 → Sg → Prop} (i1 : Int32)
    (h : ∃ n12 : Nat, ix (((nI 10) + ((nI 5) * i1)) + (nI 3)) n12 400 ∧ (∃ n24 : Nat, ix ((nI 10) + ((nI 5) * i1)) n24 400 ∧ (((S.1 93 n24) = nI 2 → P ((S.1 93 n12) / (nI 2)) S) ∧ (¬ (S.1 93 n24) = nI 2 → ((S.1 93 n24) = nI 3 → P (nI 1) S) ∧ (¬ (S.1 93 n24) = nI 3 → ((S.1 93 n24) = nI 4 → P ((nI 2) * (S.1 93 n12)) S) ∧ (¬ (S.1 93 n24) = nI 4 → ((S.1 93 n24) = nI 5 → P (((S.1 93 n12) / (nI 2)) + (nI 1)) S) ∧ (¬ (S.1 93 n24) = nI 5 → P (S.1 93 n12) S))))))) :
    Ct G l mX5_votesOf (d + 1) [.ref 7, .int i1] S (QI P) := by
  show Ev G l mX5_votesOf (d + 1) 0 [some (.ref 7), some (.int i1), none] [] S (QI P)
  refine r_aload_n (μ := mX5_votesOf) (pc := 0) dX5_votesOf_0 rfl rfl ?_
  refine g_R (μ := mX5_votesOf) (pc := 1) (k' := 93) fX5_25 dX5_votesOf_1 rfl rfl ?_
  refine r_bipush (μ := mX5_votesOf) (pc := 4) (v := nI 10) dX5_votesOf_4 rfl ?_
  refine r_iconst (μ := mX5_votesOf) (pc := 6) (v := nI 5) dX5_votesOf_6 rfl ?_
  refine r_iload_n (μ := mX5_votesOf) (pc := 7) dX5_votesOf_7 rfl rfl ?_
  refine r_imul (μ := mX5_votesOf) (pc := 8) dX5_votesOf_8 ?_
  refine r_iadd (μ := mX5_votesOf) (pc := 9) dX5_votesOf_9 ?_
  refine r_iconst (μ := mX5_votesOf) (pc := 10) (v := nI 3) dX5_votesOf_10 rfl ?_
  refine r_iadd (μ := mX5_votesOf) (pc := 11) dX5_votesOf_11 ?_
  obtain ⟨n12, hx12, h⟩ := h
  refine r_iald (μ := mX5_votesOf) (pc := 12) dX5_votesOf_12 rfl hx12 ?_
  refine r_istore_n (μ := mX5_votesOf) (pc := 13) (ls' := [some (.ref 7), some (.int i1), some (.int (S.1 93 n12))]) dX5_votesOf_13 rfl (Nat.le_of_ble_eq_true rfl) rfl rfl ?_
  refine r_aload_n (μ := mX5_votesOf) (pc := 14) dX5_votesOf_14 rfl rfl ?_
  refine g_R (μ := mX5_votesOf) (pc := 15) (k' := 93) fX5_25 dX5_votesOf_15 rfl rfl ?_
  refine r_bipush (μ := mX5_votesOf) (pc := 18) (v := nI 10) dX5_votesOf_18 rfl ?_
  refine r_iconst (μ := mX5_votesOf) (pc := 20) (v := nI 5) dX5_votesOf_20 rfl ?_
  refine r_iload_n (μ := mX5_votesOf) (pc := 21) dX5_votesOf_21 rfl rfl ?_
  refine r_imul (μ := mX5_votesOf) (pc := 22) dX5_votesOf_22 ?_
  refine r_iadd (μ := mX5_votesOf) (pc := 23) dX5_votesOf_23 ?_
  obtain ⟨n24, hx24, h⟩ := h
  refine r_iald (μ := mX5_votesOf) (pc := 24) dX5_votesOf_24 rfl hx24 ?_
  refine r_ts (μ := mX5_votesOf) (pc := 25) (td := 72) [(nI 2, 56), (nI 3, 70), (nI 4, 66), (nI 5, 60)] dX5_votesOf_25 rfl rfl rfl rfl ?_
  refine ⟨fun q25 => ?_, fun q25 => ?_⟩
  · have h := h.1 q25
    refine r_iload_n (μ := mX5_votesOf) (pc := 56) dX5_votesOf_56 rfl rfl ?_
    refine r_iconst (μ := mX5_votesOf) (pc := 57) (v := nI 2) dX5_votesOf_57 rfl ?_
    refine r_idiv (μ := mX5_votesOf) (pc := 58) dX5_votesOf_58 (by decide) ?_
    exact r_iret (μ := mX5_votesOf) (pc := 59) dX5_votesOf_59 rfl h
  have h := h.2 q25
  refine ⟨fun q25 => ?_, fun q25 => ?_⟩
  · have h := h.1 q25
    refine r_iconst (μ := mX5_votesOf) (pc := 70) (v := nI 1) dX5_votesOf_70 rfl ?_
    exact r_iret (μ := mX5_votesOf) (pc := 71) dX5_votesOf_71 rfl h
  have h := h.2 q25
  refine ⟨fun q25 => ?_, fun q25 => ?_⟩
  · have h := h.1 q25
    refine r_iconst (μ := mX5_votesOf) (pc := 66) (v := nI 2) dX5_votesOf_66 rfl ?_
    refine r_iload_n (μ := mX5_votesOf) (pc := 67) dX5_votesOf_67 rfl rfl ?_
    refine r_imul (μ := mX5_votesOf) (pc := 68) dX5_votesOf_68 ?_
    exact r_iret (μ := mX5_votesOf) (pc := 69) dX5_votesOf_69 rfl h
  have h := h.2 q25
  refine ⟨fun q25 => ?_, fun q25 => ?_⟩
  · have h := h.1 q25
    refine r_iload_n (μ := mX5_votesOf) (pc := 60) dX5_votesOf_60 rfl rfl ?_
    refine r_iconst (μ := mX5_votesOf) (pc := 61) (v := nI 2) dX5_votesOf_61 rfl ?_
    refine r_idiv (μ := mX5_votesOf) (pc := 62) dX5_votesOf_62 (by decide) ?_
    refine r_iconst (μ := mX5_votesOf) (pc := 63) (v := nI 1) dX5_votesOf_63 rfl ?_
    refine r_iadd (μ := mX5_votesOf) (pc := 64) dX5_votesOf_64 ?_
    exact r_iret (μ := mX5_votesOf) (pc := 65) dX5_votesOf_65 rfl h
  have h := h.2 q25
  refine r_iload_n (μ := mX5_votesOf) (pc := 72) dX5_votesOf_72 rfl rfl ?_
  exact r_iret (μ := mX5_votesOf) (pc := 73) dX5_votesOf_73 rfl h

set_option maxRecDepth 20000 in
theorem bX5_belongers_0 {G : Gl} {l : Launch} {d : Nat} {S : Sg} {P : Int32 → Sg → Prop} (i1 : Int32) (i2 : Int32)
    (h : Ev G l mX5_belongers (d + 1) 5 [some (.ref 7), some (.int i1), some (.int i2), some (.int (nI 0)), some (.int (nI 0))] [] S (QI P)) :
    Ct G l mX5_belongers (d + 1) [.ref 7, .int i1, .int i2] S (QI P) := by
  show Ev G l mX5_belongers (d + 1) 0 [some (.ref 7), some (.int i1), some (.int i2), none, none] [] S (QI P)
  refine r_iconst (μ := mX5_belongers) (pc := 0) (v := nI 0) dX5_belongers_0 rfl ?_
  refine r_istore_n (μ := mX5_belongers) (pc := 1) (ls' := [some (.ref 7), some (.int i1), some (.int i2), some (.int (nI 0)), none]) dX5_belongers_1 rfl (Nat.le_of_ble_eq_true rfl) rfl rfl ?_
  refine r_iconst (μ := mX5_belongers) (pc := 2) (v := nI 0) dX5_belongers_2 rfl ?_
  refine r_istore (μ := mX5_belongers) (pc := 3) (ls' := [some (.ref 7), some (.int i1), some (.int i2), some (.int (nI 0)), some (.int (nI 0))]) dX5_belongers_3 (Nat.le_of_ble_eq_true rfl) rfl rfl ?_
  exact h

set_option maxRecDepth 20000 in
theorem bX5_belongers_5 {G : Gl} {l : Launch} {d : Nat} {S : Sg} {P : Int32 → Sg → Prop} (i1 : Int32) (i2 : Int32) (i3 : Int32) (i4 : Int32)
    (h : ((S.1 93 7) ≤ i4 → P i3 S) ∧ (¬ ((S.1 93 7) ≤ i4) → Ct G l mX5_belongs d [.ref 7, .int i4, .int i1, .int i2] S (QI (fun r23 T23 => ∀ x26 : Int32, x26 = (if r23 = (nI 0) then (nI 0) else ((nI 1) <<< (i4 &&& 31))) → (Ev G l mX5_belongers (d + 1) 5 [some (.ref 7), some (.int i1), some (.int i2), some (.int (i3 ||| x26)), some (.int (i4 + (nI 1)))] [] T23 (QI P)))))) :
    Ev G l mX5_belongers (d + 1) 5 [some (.ref 7), some (.int i1), some (.int i2), some (.int i3), some (.int i4)] [] S (QI P) := by
  show Ev G l mX5_belongers (d + 1) 5 [some (.ref 7), some (.int i1), some (.int i2), some (.int i3), some (.int i4)] [] S (QI P)
  refine r_iload (μ := mX5_belongers) (pc := 5) dX5_belongers_5 rfl ?_
  refine r_aload_n (μ := mX5_belongers) (pc := 7) dX5_belongers_7 rfl rfl ?_
  refine g_R (μ := mX5_belongers) (pc := 8) (k' := 93) fX5_25 dX5_belongers_8 rfl rfl ?_
  refine r_bipush (μ := mX5_belongers) (pc := 11) (v := nI 7) dX5_belongers_11 rfl ?_
  refine r_iald (μ := mX5_belongers) (pc := 13) dX5_belongers_13 rfl (ix_nI (n := 7) (Nat.le_of_ble_eq_true rfl) (Nat.le_of_ble_eq_true rfl)) ?_
  refine r_icmp_ge (μ := mX5_belongers) (pc := 14) (tgt := 45) dX5_belongers_14 (by decide) ⟨fun q14 => ?_, fun q14 => ?_⟩
  · have h := h.1 q14
    refine r_iload_n (μ := mX5_belongers) (pc := 45) dX5_belongers_45 rfl rfl ?_
    exact r_iret (μ := mX5_belongers) (pc := 46) dX5_belongers_46 rfl h
  · have h := h.2 q14
    refine r_iload_n (μ := mX5_belongers) (pc := 17) dX5_belongers_17 rfl rfl ?_
    refine r_aload_n (μ := mX5_belongers) (pc := 18) dX5_belongers_18 rfl rfl ?_
    refine r_iload (μ := mX5_belongers) (pc := 19) dX5_belongers_19 rfl ?_
    refine r_iload_n (μ := mX5_belongers) (pc := 21) dX5_belongers_21 rfl rfl ?_
    refine r_iload_n (μ := mX5_belongers) (pc := 22) dX5_belongers_22 rfl rfl ?_
    refine r_callV (μ := mX5_belongers) (pc := 23) (as := [.int i4, .int i1, .int i2]) 5 cX5_137 dX5_belongers_23 rfl rfl (Nat.le_of_ble_eq_true rfl) rfl okX5_belongs (Nat.lt_succ_self d) (cat8 (n := 1) rfl (by decide)) rfl h (k_I (fun r23 T23 h => ?_))
    have J26 : ∀ x26 : Int32, x26 = (if r23 = (nI 0) then (nI 0) else ((nI 1) <<< (i4 &&& 31))) → Ev G l mX5_belongers (d + 1) 37 [some (.ref 7), some (.int i1), some (.int i2), some (.int i3), some (.int i4)] [.int x26, .int i3] T23 (QI P) := by
      intro x26 e26
      have h := h x26 e26
      refine r_ior (μ := mX5_belongers) (pc := 37) dX5_belongers_37 ?_
      refine r_istore_n (μ := mX5_belongers) (pc := 38) (ls' := [some (.ref 7), some (.int i1), some (.int i2), some (.int (i3 ||| x26)), some (.int i4)]) dX5_belongers_38 rfl (Nat.le_of_ble_eq_true rfl) rfl rfl ?_
      refine r_iinc (μ := mX5_belongers) (pc := 39) (y := nI 1) (ls' := [some (.ref 7), some (.int i1), some (.int i2), some (.int (i3 ||| x26)), some (.int (i4 + (nI 1)))]) dX5_belongers_39 rfl rfl (Nat.le_of_ble_eq_true rfl) rfl rfl ?_
      refine r_goto (μ := mX5_belongers) (pc := 42) (tgt := 5) dX5_belongers_42 (by decide) ?_
      exact h
    refine r_if_eq (μ := mX5_belongers) (pc := 26) (tgt := 36) dX5_belongers_26 (by decide) ⟨fun q26 => ?_, fun q26 => ?_⟩
    · refine r_iconst (μ := mX5_belongers) (pc := 36) (v := nI 0) dX5_belongers_36 rfl ?_
      exact J26 _ (by first | (rw [if_pos q26]; done) | simp only [if_pos q26])
    · refine r_iconst (μ := mX5_belongers) (pc := 29) (v := nI 1) dX5_belongers_29 rfl ?_
      refine r_iload (μ := mX5_belongers) (pc := 30) dX5_belongers_30 rfl ?_
      refine r_ishl (μ := mX5_belongers) (pc := 32) dX5_belongers_32 ?_
      refine r_goto (μ := mX5_belongers) (pc := 33) (tgt := 37) dX5_belongers_33 (by decide) ?_
      exact J26 _ (by first | (rw [if_neg q26]; done) | simp only [if_neg q26])

set_option maxRecDepth 20000 in
theorem bX5_belongersNow_0 {G : Gl} {l : Launch} {d : Nat} {S : Sg} {P : Int32 → Sg → Prop} 
    (h : Ct G l mX5_belongers d [.ref 7, .int (S.1 93 1), .int (S.1 93 2)] S (QI (fun r13 T13 => P r13 T13))) :
    Ct G l mX5_belongersNow (d + 1) [.ref 7] S (QI P) := by
  show Ev G l mX5_belongersNow (d + 1) 0 [some (.ref 7)] [] S (QI P)
  refine r_aload_n (μ := mX5_belongersNow) (pc := 0) dX5_belongersNow_0 rfl rfl ?_
  refine r_aload_n (μ := mX5_belongersNow) (pc := 1) dX5_belongersNow_1 rfl rfl ?_
  refine g_R (μ := mX5_belongersNow) (pc := 2) (k' := 93) fX5_25 dX5_belongersNow_2 rfl rfl ?_
  refine r_iconst (μ := mX5_belongersNow) (pc := 5) (v := nI 1) dX5_belongersNow_5 rfl ?_
  refine r_iald (μ := mX5_belongersNow) (pc := 6) dX5_belongersNow_6 rfl (ix_nI (n := 1) (Nat.le_of_ble_eq_true rfl) (Nat.le_of_ble_eq_true rfl)) ?_
  refine r_aload_n (μ := mX5_belongersNow) (pc := 7) dX5_belongersNow_7 rfl rfl ?_
  refine g_R (μ := mX5_belongersNow) (pc := 8) (k' := 93) fX5_25 dX5_belongersNow_8 rfl rfl ?_
  refine r_iconst (μ := mX5_belongersNow) (pc := 11) (v := nI 2) dX5_belongersNow_11 rfl ?_
  refine r_iald (μ := mX5_belongersNow) (pc := 12) dX5_belongersNow_12 rfl (ix_nI (n := 2) (Nat.le_of_ble_eq_true rfl) (Nat.le_of_ble_eq_true rfl)) ?_
  refine r_callV (μ := mX5_belongersNow) (pc := 13) (as := [.int (S.1 93 1), .int (S.1 93 2)]) 5 cX5_140 dX5_belongersNow_13 rfl rfl (Nat.le_of_ble_eq_true rfl) rfl okX5_belongers (Nat.lt_succ_self d) (cat8 (n := 0) rfl (by decide)) rfl h (k_I (fun r13 T13 h => ?_))
  exact r_iret (μ := mX5_belongersNow) (pc := 16) dX5_belongersNow_16 rfl h

set_option maxRecDepth 20000 in
theorem bX5_votesIn_0 {G : Gl} {l : Launch} {d : Nat} {S : Sg} {P : Int32 → Sg → Prop} (i1 : Int32)
    (h : Ev G l mX5_votesIn (d + 1) 4 [some (.ref 7), some (.int i1), some (.int (nI 0)), some (.int (nI 0))] [] S (QI P)) :
    Ct G l mX5_votesIn (d + 1) [.ref 7, .int i1] S (QI P) := by
  show Ev G l mX5_votesIn (d + 1) 0 [some (.ref 7), some (.int i1), none, none] [] S (QI P)
  refine r_iconst (μ := mX5_votesIn) (pc := 0) (v := nI 0) dX5_votesIn_0 rfl ?_
  refine r_istore_n (μ := mX5_votesIn) (pc := 1) (ls' := [some (.ref 7), some (.int i1), some (.int (nI 0)), none]) dX5_votesIn_1 rfl (Nat.le_of_ble_eq_true rfl) rfl rfl ?_
  refine r_iconst (μ := mX5_votesIn) (pc := 2) (v := nI 0) dX5_votesIn_2 rfl ?_
  refine r_istore_n (μ := mX5_votesIn) (pc := 3) (ls' := [some (.ref 7), some (.int i1), some (.int (nI 0)), some (.int (nI 0))]) dX5_votesIn_3 rfl (Nat.le_of_ble_eq_true rfl) rfl rfl ?_
  exact h

set_option maxRecDepth 20000 in
theorem bX5_votesIn_4 {G : Gl} {l : Launch} {d : Nat} {S : Sg} {P : Int32 → Sg → Prop} (i1 : Int32) (i2 : Int32) (i3 : Int32)
    (h : ((S.1 93 7) ≤ i3 → P i2 S) ∧ (¬ ((S.1 93 7) ≤ i3) → Ct G l mX5_has d [.int i1, .int i3] S (QI (fun r18 T18 => (r18 = (nI 0) → Ev G l mX5_votesIn (d + 1) 4 [some (.ref 7), some (.int i1), some (.int (i2 + (nI 0))), some (.int (i3 + (nI 1)))] [] T18 (QI P)) ∧ (¬ (r18 = (nI 0)) → Ct G l mX5_votesOf d [.ref 7, .int i3] T18 (QI (fun r26 T26 => Ev G l mX5_votesIn (d + 1) 4 [some (.ref 7), some (.int i1), some (.int (i2 + r26)), some (.int (i3 + (nI 1)))] [] T26 (QI P)))))))) :
    Ev G l mX5_votesIn (d + 1) 4 [some (.ref 7), some (.int i1), some (.int i2), some (.int i3)] [] S (QI P) := by
  show Ev G l mX5_votesIn (d + 1) 4 [some (.ref 7), some (.int i1), some (.int i2), some (.int i3)] [] S (QI P)
  refine r_iload_n (μ := mX5_votesIn) (pc := 4) dX5_votesIn_4 rfl rfl ?_
  refine r_aload_n (μ := mX5_votesIn) (pc := 5) dX5_votesIn_5 rfl rfl ?_
  refine g_R (μ := mX5_votesIn) (pc := 6) (k' := 93) fX5_25 dX5_votesIn_6 rfl rfl ?_
  refine r_bipush (μ := mX5_votesIn) (pc := 9) (v := nI 7) dX5_votesIn_9 rfl ?_
  refine r_iald (μ := mX5_votesIn) (pc := 11) dX5_votesIn_11 rfl (ix_nI (n := 7) (Nat.le_of_ble_eq_true rfl) (Nat.le_of_ble_eq_true rfl)) ?_
  refine r_icmp_ge (μ := mX5_votesIn) (pc := 12) (tgt := 41) dX5_votesIn_12 (by decide) ⟨fun q12 => ?_, fun q12 => ?_⟩
  · have h := h.1 q12
    refine r_iload_n (μ := mX5_votesIn) (pc := 41) dX5_votesIn_41 rfl rfl ?_
    exact r_iret (μ := mX5_votesIn) (pc := 42) dX5_votesIn_42 rfl h
  · have h := h.2 q12
    refine r_iload_n (μ := mX5_votesIn) (pc := 15) dX5_votesIn_15 rfl rfl ?_
    refine r_iload_n (μ := mX5_votesIn) (pc := 16) dX5_votesIn_16 rfl rfl ?_
    refine r_iload_n (μ := mX5_votesIn) (pc := 17) dX5_votesIn_17 rfl rfl ?_
    refine r_callS (μ := mX5_votesIn) (pc := 18) (as := [.int i1, .int i3]) cX5_143 dX5_votesIn_18 rfl okX5_has (Nat.lt_succ_self d) (cat8 (n := 1) rfl (by decide)) rfl h (k_I (fun r18 T18 h => ?_))
    refine r_if_eq (μ := mX5_votesIn) (pc := 21) (tgt := 32) dX5_votesIn_21 (by decide) ⟨fun q21 => ?_, fun q21 => ?_⟩
    · have h := h.1 q21
      refine r_iconst (μ := mX5_votesIn) (pc := 32) (v := nI 0) dX5_votesIn_32 rfl ?_
      refine r_iadd (μ := mX5_votesIn) (pc := 33) dX5_votesIn_33 ?_
      refine r_istore_n (μ := mX5_votesIn) (pc := 34) (ls' := [some (.ref 7), some (.int i1), some (.int (i2 + (nI 0))), some (.int i3)]) dX5_votesIn_34 rfl (Nat.le_of_ble_eq_true rfl) rfl rfl ?_
      refine r_iinc (μ := mX5_votesIn) (pc := 35) (y := nI 1) (ls' := [some (.ref 7), some (.int i1), some (.int (i2 + (nI 0))), some (.int (i3 + (nI 1)))]) dX5_votesIn_35 rfl rfl (Nat.le_of_ble_eq_true rfl) rfl rfl ?_
      refine r_goto (μ := mX5_votesIn) (pc := 38) (tgt := 4) dX5_votesIn_38 (by decide) ?_
      exact h
    · have h := h.2 q21
      refine r_aload_n (μ := mX5_votesIn) (pc := 24) dX5_votesIn_24 rfl rfl ?_
      refine r_iload_n (μ := mX5_votesIn) (pc := 25) dX5_votesIn_25 rfl rfl ?_
      refine r_callV (μ := mX5_votesIn) (pc := 26) (as := [.int i3]) 5 cX5_147 dX5_votesIn_26 rfl rfl (Nat.le_of_ble_eq_true rfl) rfl okX5_votesOf (Nat.lt_succ_self d) (cat8 (n := 1) rfl (by decide)) rfl h (k_I (fun r26 T26 h => ?_))
      refine r_goto (μ := mX5_votesIn) (pc := 29) (tgt := 33) dX5_votesIn_29 (by decide) ?_
      refine r_iadd (μ := mX5_votesIn) (pc := 33) dX5_votesIn_33 ?_
      refine r_istore_n (μ := mX5_votesIn) (pc := 34) (ls' := [some (.ref 7), some (.int i1), some (.int (i2 + r26)), some (.int i3)]) dX5_votesIn_34 rfl (Nat.le_of_ble_eq_true rfl) rfl rfl ?_
      refine r_iinc (μ := mX5_votesIn) (pc := 35) (y := nI 1) (ls' := [some (.ref 7), some (.int i1), some (.int (i2 + r26)), some (.int (i3 + (nI 1)))]) dX5_votesIn_35 rfl rfl (Nat.le_of_ble_eq_true rfl) rfl rfl ?_
      refine r_goto (μ := mX5_votesIn) (pc := 38) (tgt := 4) dX5_votesIn_38 (by decide) ?_
      exact h

set_option maxRecDepth 20000 in
theorem bX5_votesOut_0 {G : Gl} {l : Launch} {d : Nat} {S : Sg} {P : Int32 → Sg → Prop} (i1 : Int32) (i2 : Int32) (i3 : Int32) (i4 : Int32)
    (h : Ev G l mX5_votesOut (d + 1) 6 [some (.ref 7), some (.int i1), some (.int i2), some (.int i3), some (.int i4), some (.int (nI 0)), some (.int (nI 0))] [] S (QI P)) :
    Ct G l mX5_votesOut (d + 1) [.ref 7, .int i1, .int i2, .int i3, .int i4] S (QI P) := by
  show Ev G l mX5_votesOut (d + 1) 0 [some (.ref 7), some (.int i1), some (.int i2), some (.int i3), some (.int i4), none, none] [] S (QI P)
  refine r_iconst (μ := mX5_votesOut) (pc := 0) (v := nI 0) dX5_votesOut_0 rfl ?_
  refine r_istore (μ := mX5_votesOut) (pc := 1) (ls' := [some (.ref 7), some (.int i1), some (.int i2), some (.int i3), some (.int i4), some (.int (nI 0)), none]) dX5_votesOut_1 (Nat.le_of_ble_eq_true rfl) rfl rfl ?_
  refine r_iconst (μ := mX5_votesOut) (pc := 3) (v := nI 0) dX5_votesOut_3 rfl ?_
  refine r_istore (μ := mX5_votesOut) (pc := 4) (ls' := [some (.ref 7), some (.int i1), some (.int i2), some (.int i3), some (.int i4), some (.int (nI 0)), some (.int (nI 0))]) dX5_votesOut_4 (Nat.le_of_ble_eq_true rfl) rfl rfl ?_
  exact h

set_option maxRecDepth 20000 in
theorem bX5_votesOut_6 {G : Gl} {l : Launch} {d : Nat} {S : Sg} {P : Int32 → Sg → Prop} (i1 : Int32) (i2 : Int32) (i3 : Int32) (i4 : Int32) (i5 : Int32) (i6 : Int32)
    (h : ((S.1 93 7) ≤ i6 → P i5 S) ∧ (¬ ((S.1 93 7) ≤ i6) → ∃ n33 : Nat, ix (((nI 10) + ((nI 5) * i6)) + (nI 1)) n33 400 ∧ (Ct G l mX5_in d [.int (S.1 93 n33), .int i1, .int i2] S (QI (fun r36 T36 => (r36 = (nI 0) → Ev G l mX5_votesOut (d + 1) 6 [some (.ref 7), some (.int i1), some (.int i2), some (.int i3), some (.int i4), some (.int (i5 + (nI 0))), some (.int (i6 + (nI 1)))] [] T36 (QI P)) ∧ (¬ (r36 = (nI 0)) → Ct G l mX5_belongs d [.ref 7, .int i6, .int i3, .int i4] T36 (QI (fun r48 T48 => (¬ r48 = (nI 0) → Ev G l mX5_votesOut (d + 1) 6 [some (.ref 7), some (.int i1), some (.int i2), some (.int i3), some (.int i4), some (.int (i5 + (nI 0))), some (.int (i6 + (nI 1)))] [] T48 (QI P)) ∧ (r48 = (nI 0) → Ct G l mX5_votesOf d [.ref 7, .int i6] T48 (QI (fun r57 T57 => Ev G l mX5_votesOut (d + 1) 6 [some (.ref 7), some (.int i1), some (.int i2), some (.int i3), some (.int i4), some (.int (i5 + r57)), some (.int (i6 + (nI 1)))] [] T57 (QI P)))))))))))) :
    Ev G l mX5_votesOut (d + 1) 6 [some (.ref 7), some (.int i1), some (.int i2), some (.int i3), some (.int i4), some (.int i5), some (.int i6)] [] S (QI P) := by
  show Ev G l mX5_votesOut (d + 1) 6 [some (.ref 7), some (.int i1), some (.int i2), some (.int i3), some (.int i4), some (.int i5), some (.int i6)] [] S (QI P)
  refine r_iload (μ := mX5_votesOut) (pc := 6) dX5_votesOut_6 rfl ?_
  refine r_aload_n (μ := mX5_votesOut) (pc := 8) dX5_votesOut_8 rfl rfl ?_
  refine g_R (μ := mX5_votesOut) (pc := 9) (k' := 93) fX5_25 dX5_votesOut_9 rfl rfl ?_
  refine r_bipush (μ := mX5_votesOut) (pc := 12) (v := nI 7) dX5_votesOut_12 rfl ?_
  refine r_iald (μ := mX5_votesOut) (pc := 14) dX5_votesOut_14 rfl (ix_nI (n := 7) (Nat.le_of_ble_eq_true rfl) (Nat.le_of_ble_eq_true rfl)) ?_
  refine r_icmp_ge (μ := mX5_votesOut) (pc := 15) (tgt := 73) dX5_votesOut_15 (by decide) ⟨fun q15 => ?_, fun q15 => ?_⟩
  · have h := h.1 q15
    refine r_iload (μ := mX5_votesOut) (pc := 73) dX5_votesOut_73 rfl ?_
    exact r_iret (μ := mX5_votesOut) (pc := 75) dX5_votesOut_75 rfl h
  · have h := h.2 q15
    refine r_iload (μ := mX5_votesOut) (pc := 18) dX5_votesOut_18 rfl ?_
    refine r_aload_n (μ := mX5_votesOut) (pc := 20) dX5_votesOut_20 rfl rfl ?_
    refine g_R (μ := mX5_votesOut) (pc := 21) (k' := 93) fX5_25 dX5_votesOut_21 rfl rfl ?_
    refine r_bipush (μ := mX5_votesOut) (pc := 24) (v := nI 10) dX5_votesOut_24 rfl ?_
    refine r_iconst (μ := mX5_votesOut) (pc := 26) (v := nI 5) dX5_votesOut_26 rfl ?_
    refine r_iload (μ := mX5_votesOut) (pc := 27) dX5_votesOut_27 rfl ?_
    refine r_imul (μ := mX5_votesOut) (pc := 29) dX5_votesOut_29 ?_
    refine r_iadd (μ := mX5_votesOut) (pc := 30) dX5_votesOut_30 ?_
    refine r_iconst (μ := mX5_votesOut) (pc := 31) (v := nI 1) dX5_votesOut_31 rfl ?_
    refine r_iadd (μ := mX5_votesOut) (pc := 32) dX5_votesOut_32 ?_
    obtain ⟨n33, hx33, h⟩ := h
    refine r_iald (μ := mX5_votesOut) (pc := 33) dX5_votesOut_33 rfl hx33 ?_
    refine r_iload_n (μ := mX5_votesOut) (pc := 34) dX5_votesOut_34 rfl rfl ?_
    refine r_iload_n (μ := mX5_votesOut) (pc := 35) dX5_votesOut_35 rfl rfl ?_
    refine r_callS (μ := mX5_votesOut) (pc := 36) (as := [.int (S.1 93 n33), .int i1, .int i2]) cX5_73 dX5_votesOut_36 rfl okX5_in (Nat.lt_succ_self d) (cat8 (n := 1) rfl (by decide)) rfl h (k_I (fun r36 T36 h => ?_))
    refine r_if_eq (μ := mX5_votesOut) (pc := 39) (tgt := 63) dX5_votesOut_39 (by decide) ⟨fun q39 => ?_, fun q39 => ?_⟩
    · have h := h.1 q39
      refine r_iconst (μ := mX5_votesOut) (pc := 63) (v := nI 0) dX5_votesOut_63 rfl ?_
      refine r_iadd (μ := mX5_votesOut) (pc := 64) dX5_votesOut_64 ?_
      refine r_istore (μ := mX5_votesOut) (pc := 65) (ls' := [some (.ref 7), some (.int i1), some (.int i2), some (.int i3), some (.int i4), some (.int (i5 + (nI 0))), some (.int i6)]) dX5_votesOut_65 (Nat.le_of_ble_eq_true rfl) rfl rfl ?_
      refine r_iinc (μ := mX5_votesOut) (pc := 67) (y := nI 1) (ls' := [some (.ref 7), some (.int i1), some (.int i2), some (.int i3), some (.int i4), some (.int (i5 + (nI 0))), some (.int (i6 + (nI 1)))]) dX5_votesOut_67 rfl rfl (Nat.le_of_ble_eq_true rfl) rfl rfl ?_
      refine r_goto (μ := mX5_votesOut) (pc := 70) (tgt := 6) dX5_votesOut_70 (by decide) ?_
      exact h
    · have h := h.2 q39
      refine r_aload_n (μ := mX5_votesOut) (pc := 42) dX5_votesOut_42 rfl rfl ?_
      refine r_iload (μ := mX5_votesOut) (pc := 43) dX5_votesOut_43 rfl ?_
      refine r_iload_n (μ := mX5_votesOut) (pc := 45) dX5_votesOut_45 rfl rfl ?_
      refine r_iload (μ := mX5_votesOut) (pc := 46) dX5_votesOut_46 rfl ?_
      refine r_callV (μ := mX5_votesOut) (pc := 48) (as := [.int i6, .int i3, .int i4]) 5 cX5_137 dX5_votesOut_48 rfl rfl (Nat.le_of_ble_eq_true rfl) rfl okX5_belongs (Nat.lt_succ_self d) (cat8 (n := 1) rfl (by decide)) rfl h (k_I (fun r48 T48 h => ?_))
      refine r_if_ne (μ := mX5_votesOut) (pc := 51) (tgt := 63) dX5_votesOut_51 (by decide) ⟨fun q51 => ?_, fun q51 => ?_⟩
      · have h := h.1 q51
        refine r_iconst (μ := mX5_votesOut) (pc := 63) (v := nI 0) dX5_votesOut_63 rfl ?_
        refine r_iadd (μ := mX5_votesOut) (pc := 64) dX5_votesOut_64 ?_
        refine r_istore (μ := mX5_votesOut) (pc := 65) (ls' := [some (.ref 7), some (.int i1), some (.int i2), some (.int i3), some (.int i4), some (.int (i5 + (nI 0))), some (.int i6)]) dX5_votesOut_65 (Nat.le_of_ble_eq_true rfl) rfl rfl ?_
        refine r_iinc (μ := mX5_votesOut) (pc := 67) (y := nI 1) (ls' := [some (.ref 7), some (.int i1), some (.int i2), some (.int i3), some (.int i4), some (.int (i5 + (nI 0))), some (.int (i6 + (nI 1)))]) dX5_votesOut_67 rfl rfl (Nat.le_of_ble_eq_true rfl) rfl rfl ?_
        refine r_goto (μ := mX5_votesOut) (pc := 70) (tgt := 6) dX5_votesOut_70 (by decide) ?_
        exact h
      · have h := h.2 q51
        refine r_aload_n (μ := mX5_votesOut) (pc := 54) dX5_votesOut_54 rfl rfl ?_
        refine r_iload (μ := mX5_votesOut) (pc := 55) dX5_votesOut_55 rfl ?_
        refine r_callV (μ := mX5_votesOut) (pc := 57) (as := [.int i6]) 5 cX5_147 dX5_votesOut_57 rfl rfl (Nat.le_of_ble_eq_true rfl) rfl okX5_votesOf (Nat.lt_succ_self d) (cat8 (n := 1) rfl (by decide)) rfl h (k_I (fun r57 T57 h => ?_))
        refine r_goto (μ := mX5_votesOut) (pc := 60) (tgt := 64) dX5_votesOut_60 (by decide) ?_
        refine r_iadd (μ := mX5_votesOut) (pc := 64) dX5_votesOut_64 ?_
        refine r_istore (μ := mX5_votesOut) (pc := 65) (ls' := [some (.ref 7), some (.int i1), some (.int i2), some (.int i3), some (.int i4), some (.int (i5 + r57)), some (.int i6)]) dX5_votesOut_65 (Nat.le_of_ble_eq_true rfl) rfl rfl ?_
        refine r_iinc (μ := mX5_votesOut) (pc := 67) (y := nI 1) (ls' := [some (.ref 7), some (.int i1), some (.int i2), some (.int i3), some (.int i4), some (.int (i5 + r57)), some (.int (i6 + (nI 1)))]) dX5_votesOut_67 rfl rfl (Nat.le_of_ble_eq_true rfl) rfl rfl ?_
        refine r_goto (μ := mX5_votesOut) (pc := 70) (tgt := 6) dX5_votesOut_70 (by decide) ?_
        exact h

set_option maxRecDepth 20000 in
theorem bX5_oneHas_0 {G : Gl} {l : Launch} {d : Nat} {S : Sg} {P : Int32 → Sg → Prop} (i1 : Int32) (i2 : Int32)
    (h : (i2 = nI 3 → Ct G l mX5_votesOf d [.ref 7, .int i1] S (QI (fun r38 T38 => P r38 T38))) ∧ (¬ i2 = nI 3 → (i2 = nI 4 → ∃ n49 : Nat, ix (((nI 10) + ((nI 5) * i1)) + (nI 4)) n49 400 ∧ (P (S.1 93 n49) S)) ∧ (¬ i2 = nI 4 → (i2 = nI 5 → Ct G l mX5_belongs d [.ref 7, .int i1, .int (S.1 93 1), .int (S.1 93 2)] S (QI (fun r65 T65 => ∀ x68 : Int32, x68 = (if r65 = (nI 0) then (nI 0) else (nI 1)) → (P x68 T65)))) ∧ (¬ i2 = nI 5 → ∃ n84 : Nat, ix (((nI 10) + ((nI 5) * i1)) + i2) n84 400 ∧ (P (S.1 93 n84) S))))) :
    Ct G l mX5_oneHas (d + 1) [.ref 7, .int i1, .int i2] S (QI P) := by
  show Ev G l mX5_oneHas (d + 1) 0 [some (.ref 7), some (.int i1), some (.int i2), none] [] S (QI P)
  refine r_bipush (μ := mX5_oneHas) (pc := 0) (v := nI 10) dX5_oneHas_0 rfl ?_
  refine r_iconst (μ := mX5_oneHas) (pc := 2) (v := nI 5) dX5_oneHas_2 rfl ?_
  refine r_iload_n (μ := mX5_oneHas) (pc := 3) dX5_oneHas_3 rfl rfl ?_
  refine r_imul (μ := mX5_oneHas) (pc := 4) dX5_oneHas_4 ?_
  refine r_iadd (μ := mX5_oneHas) (pc := 5) dX5_oneHas_5 ?_
  refine r_istore_n (μ := mX5_oneHas) (pc := 6) (ls' := [some (.ref 7), some (.int i1), some (.int i2), some (.int ((nI 10) + ((nI 5) * i1)))]) dX5_oneHas_6 rfl (Nat.le_of_ble_eq_true rfl) rfl rfl ?_
  refine r_iload_n (μ := mX5_oneHas) (pc := 7) dX5_oneHas_7 rfl rfl ?_
  refine r_ts (μ := mX5_oneHas) (pc := 8) (td := 77) [(nI 3, 36), (nI 4, 42), (nI 5, 51)] dX5_oneHas_8 rfl rfl rfl rfl ?_
  refine ⟨fun q8 => ?_, fun q8 => ?_⟩
  · have h := h.1 q8
    refine r_aload_n (μ := mX5_oneHas) (pc := 36) dX5_oneHas_36 rfl rfl ?_
    refine r_iload_n (μ := mX5_oneHas) (pc := 37) dX5_oneHas_37 rfl rfl ?_
    refine r_callV (μ := mX5_oneHas) (pc := 38) (as := [.int i1]) 5 cX5_147 dX5_oneHas_38 rfl rfl (Nat.le_of_ble_eq_true rfl) rfl okX5_votesOf (Nat.lt_succ_self d) (cat8 (n := 0) rfl (by decide)) rfl h (k_I (fun r38 T38 h => ?_))
    exact r_iret (μ := mX5_oneHas) (pc := 41) dX5_oneHas_41 rfl h
  have h := h.2 q8
  refine ⟨fun q8 => ?_, fun q8 => ?_⟩
  · have h := h.1 q8
    refine r_aload_n (μ := mX5_oneHas) (pc := 42) dX5_oneHas_42 rfl rfl ?_
    refine g_R (μ := mX5_oneHas) (pc := 43) (k' := 93) fX5_25 dX5_oneHas_43 rfl rfl ?_
    refine r_iload_n (μ := mX5_oneHas) (pc := 46) dX5_oneHas_46 rfl rfl ?_
    refine r_iconst (μ := mX5_oneHas) (pc := 47) (v := nI 4) dX5_oneHas_47 rfl ?_
    refine r_iadd (μ := mX5_oneHas) (pc := 48) dX5_oneHas_48 ?_
    obtain ⟨n49, hx49, h⟩ := h
    refine r_iald (μ := mX5_oneHas) (pc := 49) dX5_oneHas_49 rfl hx49 ?_
    exact r_iret (μ := mX5_oneHas) (pc := 50) dX5_oneHas_50 rfl h
  have h := h.2 q8
  refine ⟨fun q8 => ?_, fun q8 => ?_⟩
  · have h := h.1 q8
    refine r_aload_n (μ := mX5_oneHas) (pc := 51) dX5_oneHas_51 rfl rfl ?_
    refine r_iload_n (μ := mX5_oneHas) (pc := 52) dX5_oneHas_52 rfl rfl ?_
    refine r_aload_n (μ := mX5_oneHas) (pc := 53) dX5_oneHas_53 rfl rfl ?_
    refine g_R (μ := mX5_oneHas) (pc := 54) (k' := 93) fX5_25 dX5_oneHas_54 rfl rfl ?_
    refine r_iconst (μ := mX5_oneHas) (pc := 57) (v := nI 1) dX5_oneHas_57 rfl ?_
    refine r_iald (μ := mX5_oneHas) (pc := 58) dX5_oneHas_58 rfl (ix_nI (n := 1) (Nat.le_of_ble_eq_true rfl) (Nat.le_of_ble_eq_true rfl)) ?_
    refine r_aload_n (μ := mX5_oneHas) (pc := 59) dX5_oneHas_59 rfl rfl ?_
    refine g_R (μ := mX5_oneHas) (pc := 60) (k' := 93) fX5_25 dX5_oneHas_60 rfl rfl ?_
    refine r_iconst (μ := mX5_oneHas) (pc := 63) (v := nI 2) dX5_oneHas_63 rfl ?_
    refine r_iald (μ := mX5_oneHas) (pc := 64) dX5_oneHas_64 rfl (ix_nI (n := 2) (Nat.le_of_ble_eq_true rfl) (Nat.le_of_ble_eq_true rfl)) ?_
    refine r_callV (μ := mX5_oneHas) (pc := 65) (as := [.int i1, .int (S.1 93 1), .int (S.1 93 2)]) 5 cX5_137 dX5_oneHas_65 rfl rfl (Nat.le_of_ble_eq_true rfl) rfl okX5_belongs (Nat.lt_succ_self d) (cat8 (n := 0) rfl (by decide)) rfl h (k_I (fun r65 T65 h => ?_))
    have J68 : ∀ x68 : Int32, x68 = (if r65 = (nI 0) then (nI 0) else (nI 1)) → Ev G l mX5_oneHas (d + 1) 76 [some (.ref 7), some (.int i1), some (.int i2), some (.int ((nI 10) + ((nI 5) * i1)))] [.int x68] T65 (QI P) := by
      intro x68 e68
      have h := h x68 e68
      exact r_iret (μ := mX5_oneHas) (pc := 76) dX5_oneHas_76 rfl h
    refine r_if_eq (μ := mX5_oneHas) (pc := 68) (tgt := 75) dX5_oneHas_68 (by decide) ⟨fun q68 => ?_, fun q68 => ?_⟩
    · refine r_iconst (μ := mX5_oneHas) (pc := 75) (v := nI 0) dX5_oneHas_75 rfl ?_
      exact J68 _ (by first | (rw [if_pos q68]; done) | simp only [if_pos q68])
    · refine r_iconst (μ := mX5_oneHas) (pc := 71) (v := nI 1) dX5_oneHas_71 rfl ?_
      refine r_goto (μ := mX5_oneHas) (pc := 72) (tgt := 76) dX5_oneHas_72 (by decide) ?_
      exact J68 _ (by first | (rw [if_neg q68]; done) | simp only [if_neg q68])
  have h := h.2 q8
  refine r_aload_n (μ := mX5_oneHas) (pc := 77) dX5_oneHas_77 rfl rfl ?_
  refine g_R (μ := mX5_oneHas) (pc := 78) (k' := 93) fX5_25 dX5_oneHas_78 rfl rfl ?_
  refine r_iload_n (μ := mX5_oneHas) (pc := 81) dX5_oneHas_81 rfl rfl ?_
  refine r_iload_n (μ := mX5_oneHas) (pc := 82) dX5_oneHas_82 rfl rfl ?_
  refine r_iadd (μ := mX5_oneHas) (pc := 83) dX5_oneHas_83 ?_
  obtain ⟨n84, hx84, h⟩ := h
  refine r_iald (μ := mX5_oneHas) (pc := 84) dX5_oneHas_84 rfl hx84 ?_
  exact r_iret (μ := mX5_oneHas) (pc := 85) dX5_oneHas_85 rfl h

set_option maxRecDepth 20000 in
theorem bX5_one_0 {G : Gl} {l : Launch} {d : Nat} {S : Sg} {P : Int32 → Sg → Prop} (i1 : Int32) (i2 : Int32)
    (h : Ct G l mX5_isOne d [.ref 7, .int i1] S (QI (fun r2 T2 => (r2 = (nI 0) → P (-1) T2) ∧ (¬ (r2 = (nI 0)) → Ct G l mX5_in d [.int i2, .int (nI 0), .int (nI 5)] T2 (QI (fun r11 T11 => (r11 = (nI 0) → P (-1) T11) ∧ (¬ (r11 = (nI 0)) → Ct G l mX5_oneHas d [.ref 7, .int i1, .int i2] T11 (QI (fun r22 T22 => Ct G l mX5_tells d [.ref 7, .int (nI 1), .int r22] T22 (QI (fun r25 T25 => P r25 T25))))))))))) :
    Ct G l mX5_one (d + 1) [.ref 7, .int i1, .int i2] S (QI P) := by
  show Ev G l mX5_one (d + 1) 0 [some (.ref 7), some (.int i1), some (.int i2)] [] S (QI P)
  refine r_aload_n (μ := mX5_one) (pc := 0) dX5_one_0 rfl rfl ?_
  refine r_iload_n (μ := mX5_one) (pc := 1) dX5_one_1 rfl rfl ?_
  refine r_callV (μ := mX5_one) (pc := 2) (as := [.int i1]) 5 cX5_150 dX5_one_2 rfl rfl (Nat.le_of_ble_eq_true rfl) rfl okX5_isOne (Nat.lt_succ_self d) (cat8 (n := 0) rfl (by decide)) rfl h (k_I (fun r2 T2 h => ?_))
  refine r_if_eq (μ := mX5_one) (pc := 5) (tgt := 31) dX5_one_5 (by decide) ⟨fun q5 => ?_, fun q5 => ?_⟩
  · have h := h.1 q5
    refine r_iconst (μ := mX5_one) (pc := 31) (v := (-1)) dX5_one_31 rfl ?_
    exact r_iret (μ := mX5_one) (pc := 32) dX5_one_32 rfl h
  · have h := h.2 q5
    refine r_iload_n (μ := mX5_one) (pc := 8) dX5_one_8 rfl rfl ?_
    refine r_iconst (μ := mX5_one) (pc := 9) (v := nI 0) dX5_one_9 rfl ?_
    refine r_iconst (μ := mX5_one) (pc := 10) (v := nI 5) dX5_one_10 rfl ?_
    refine r_callS (μ := mX5_one) (pc := 11) (as := [.int i2, .int (nI 0), .int (nI 5)]) cX5_73 dX5_one_11 rfl okX5_in (Nat.lt_succ_self d) (cat8 (n := 0) rfl (by decide)) rfl h (k_I (fun r11 T11 h => ?_))
    refine r_if_eq (μ := mX5_one) (pc := 14) (tgt := 31) dX5_one_14 (by decide) ⟨fun q14 => ?_, fun q14 => ?_⟩
    · have h := h.1 q14
      refine r_iconst (μ := mX5_one) (pc := 31) (v := (-1)) dX5_one_31 rfl ?_
      exact r_iret (μ := mX5_one) (pc := 32) dX5_one_32 rfl h
    · have h := h.2 q14
      refine r_aload_n (μ := mX5_one) (pc := 17) dX5_one_17 rfl rfl ?_
      refine r_iconst (μ := mX5_one) (pc := 18) (v := nI 1) dX5_one_18 rfl ?_
      refine r_aload_n (μ := mX5_one) (pc := 19) dX5_one_19 rfl rfl ?_
      refine r_iload_n (μ := mX5_one) (pc := 20) dX5_one_20 rfl rfl ?_
      refine r_iload_n (μ := mX5_one) (pc := 21) dX5_one_21 rfl rfl ?_
      refine r_callV (μ := mX5_one) (pc := 22) (as := [.int i1, .int i2]) 5 cX5_153 dX5_one_22 rfl rfl (Nat.le_of_ble_eq_true rfl) rfl okX5_oneHas (Nat.lt_succ_self d) (cat8 (n := 2) rfl (by decide)) rfl h (k_I (fun r22 T22 h => ?_))
      refine r_callV (μ := mX5_one) (pc := 25) (as := [.int (nI 1), .int r22]) 5 cX5_93 dX5_one_25 rfl rfl (Nat.le_of_ble_eq_true rfl) rfl okX5_tells (Nat.lt_succ_self d) (cat8 (n := 0) rfl (by decide)) rfl h (k_I (fun r25 T25 h => ?_))
      refine r_goto (μ := mX5_one) (pc := 28) (tgt := 32) dX5_one_28 (by decide) ?_
      exact r_iret (μ := mX5_one) (pc := 32) dX5_one_32 rfl h

set_option maxRecDepth 20000 in
theorem bX5_distance_0 {G : Gl} {l : Launch} {d : Nat} {S : Sg} {P : Int32 → Sg → Prop} (i1 : Int32)
    (h : (¬ (S.1 93 1) = (S.1 93 2) → ∀ x27 : Int32, x27 = (if (S.1 93 1) ≤ i1 then (if i1 < (S.1 93 2) then (nI 0) else ((i1 - (S.1 93 2)) + (nI 1))) else ((S.1 93 1) - i1)) → (P x27 S)) ∧ ((S.1 93 1) = (S.1 93 2) → Ct G l mX5_off d [.int i1, .int (S.1 93 1)] S (QI (fun r21 T21 => P r21 T21)))) :
    Ct G l mX5_distance (d + 1) [.ref 7, .int i1] S (QI P) := by
  show Ev G l mX5_distance (d + 1) 0 [some (.ref 7), some (.int i1), none, none] [] S (QI P)
  refine r_aload_n (μ := mX5_distance) (pc := 0) dX5_distance_0 rfl rfl ?_
  refine g_R (μ := mX5_distance) (pc := 1) (k' := 93) fX5_25 dX5_distance_1 rfl rfl ?_
  refine r_iconst (μ := mX5_distance) (pc := 4) (v := nI 1) dX5_distance_4 rfl ?_
  refine r_iald (μ := mX5_distance) (pc := 5) dX5_distance_5 rfl (ix_nI (n := 1) (Nat.le_of_ble_eq_true rfl) (Nat.le_of_ble_eq_true rfl)) ?_
  refine r_istore_n (μ := mX5_distance) (pc := 6) (ls' := [some (.ref 7), some (.int i1), some (.int (S.1 93 1)), none]) dX5_distance_6 rfl (Nat.le_of_ble_eq_true rfl) rfl rfl ?_
  refine r_aload_n (μ := mX5_distance) (pc := 7) dX5_distance_7 rfl rfl ?_
  refine g_R (μ := mX5_distance) (pc := 8) (k' := 93) fX5_25 dX5_distance_8 rfl rfl ?_
  refine r_iconst (μ := mX5_distance) (pc := 11) (v := nI 2) dX5_distance_11 rfl ?_
  refine r_iald (μ := mX5_distance) (pc := 12) dX5_distance_12 rfl (ix_nI (n := 2) (Nat.le_of_ble_eq_true rfl) (Nat.le_of_ble_eq_true rfl)) ?_
  refine r_istore_n (μ := mX5_distance) (pc := 13) (ls' := [some (.ref 7), some (.int i1), some (.int (S.1 93 1)), some (.int (S.1 93 2))]) dX5_distance_13 rfl (Nat.le_of_ble_eq_true rfl) rfl rfl ?_
  refine r_iload_n (μ := mX5_distance) (pc := 14) dX5_distance_14 rfl rfl ?_
  refine r_iload_n (μ := mX5_distance) (pc := 15) dX5_distance_15 rfl rfl ?_
  refine r_icmp_ne (μ := mX5_distance) (pc := 16) (tgt := 25) dX5_distance_16 (by decide) ⟨fun q16 => ?_, fun q16 => ?_⟩
  · have h := h.1 q16
    refine r_iload_n (μ := mX5_distance) (pc := 25) dX5_distance_25 rfl rfl ?_
    refine r_iload_n (μ := mX5_distance) (pc := 26) dX5_distance_26 rfl rfl ?_
    have J27 : ∀ x27 : Int32, x27 = (if (S.1 93 1) ≤ i1 then (if i1 < (S.1 93 2) then (nI 0) else ((i1 - (S.1 93 2)) + (nI 1))) else ((S.1 93 1) - i1)) → Ev G l mX5_distance (d + 1) 50 [some (.ref 7), some (.int i1), some (.int (S.1 93 1)), some (.int (S.1 93 2))] [.int x27] S (QI P) := by
      intro x27 e27
      have h := h x27 e27
      exact r_iret (μ := mX5_distance) (pc := 50) dX5_distance_50 rfl h
    refine r_icmp_ge (μ := mX5_distance) (pc := 27) (tgt := 36) dX5_distance_27 (by decide) ⟨fun q27 => ?_, fun q27 => ?_⟩
    · refine r_iload_n (μ := mX5_distance) (pc := 36) dX5_distance_36 rfl rfl ?_
      refine r_iload_n (μ := mX5_distance) (pc := 37) dX5_distance_37 rfl rfl ?_
      refine r_icmp_lt (μ := mX5_distance) (pc := 38) (tgt := 49) dX5_distance_38 (by decide) ⟨fun q38 => ?_, fun q38 => ?_⟩
      · refine r_iconst (μ := mX5_distance) (pc := 49) (v := nI 0) dX5_distance_49 rfl ?_
        exact J27 _ (by first | (rw [if_pos q27, if_pos q38]; done) | simp only [if_pos q27, if_pos q38])
      · refine r_iload_n (μ := mX5_distance) (pc := 41) dX5_distance_41 rfl rfl ?_
        refine r_iload_n (μ := mX5_distance) (pc := 42) dX5_distance_42 rfl rfl ?_
        refine r_isub (μ := mX5_distance) (pc := 43) dX5_distance_43 ?_
        refine r_iconst (μ := mX5_distance) (pc := 44) (v := nI 1) dX5_distance_44 rfl ?_
        refine r_iadd (μ := mX5_distance) (pc := 45) dX5_distance_45 ?_
        refine r_goto (μ := mX5_distance) (pc := 46) (tgt := 50) dX5_distance_46 (by decide) ?_
        exact J27 _ (by first | (rw [if_pos q27, if_neg q38]; done) | simp only [if_pos q27, if_neg q38])
    · refine r_iload_n (μ := mX5_distance) (pc := 30) dX5_distance_30 rfl rfl ?_
      refine r_iload_n (μ := mX5_distance) (pc := 31) dX5_distance_31 rfl rfl ?_
      refine r_isub (μ := mX5_distance) (pc := 32) dX5_distance_32 ?_
      refine r_goto (μ := mX5_distance) (pc := 33) (tgt := 50) dX5_distance_33 (by decide) ?_
      exact J27 _ (by first | (rw [if_neg q27]; done) | simp only [if_neg q27])
  · have h := h.2 q16
    refine r_iload_n (μ := mX5_distance) (pc := 19) dX5_distance_19 rfl rfl ?_
    refine r_iload_n (μ := mX5_distance) (pc := 20) dX5_distance_20 rfl rfl ?_
    refine r_callS (μ := mX5_distance) (pc := 21) (as := [.int i1, .int (S.1 93 1)]) cX5_156 dX5_distance_21 rfl okX5_off (Nat.lt_succ_self d) (cat8 (n := 0) rfl (by decide)) rfl h (k_I (fun r21 T21 h => ?_))
    exact r_iret (μ := mX5_distance) (pc := 24) dX5_distance_24 rfl h

set_option maxRecDepth 20000 in
theorem bX5_mark_0 {G : Gl} {l : Launch} {d : Nat} {S : Sg} {P : Int32 → Sg → Prop} (i1 : Int32) (i2 : Int32)
    (h : Ct G l mX5_isOne d [.ref 7, .int i1] S (QI (fun r2 T2 => (r2 = (nI 0) → P (-1) T2) ∧ (¬ (r2 = (nI 0)) → Ct G l mX5_in d [.int i2, .int (nI 1), .int (nI 5)] T2 (QI (fun r11 T11 => (¬ r11 = (nI 0) → ∃ n31 : Nat, ix ((nI 10) + ((nI 5) * i1)) n31 400 ∧ (Ct G l mX5_isOf d [.int (T11.1 93 n31), .int i2] T11 (QI (fun r33 T33 => (¬ r33 = (nI 0) → (i2 = nI 1 → ∃ n103 : Nat, ix (((nI 10) + ((nI 5) * i1)) + (nI 1)) n103 400 ∧ (∃ n111 : Nat, ix (((nI 10) + ((nI 5) * i1)) + (nI 2)) n111 400 ∧ (∀ x112 : Int32, x112 = (if (T33.1 93 n103) = (T33.1 93 n111) then (nI 0) else (nI 1)) → (P x112 T33)))) ∧ (¬ i2 = nI 1 → (i2 = nI 2 → ∃ n129 : Nat, ix (((nI 10) + ((nI 5) * i1)) + (nI 1)) n129 400 ∧ (Ct G l mX5_distance d [.ref 7, .int (T33.1 93 n129)] T33 (QI (fun r130 T130 => P r130 T130)))) ∧ (¬ i2 = nI 2 → (i2 = nI 3 → ∀ x137 : Int32, x137 = (if (nI 3) ≤ ((T33.1 93 2) - (T33.1 93 1)) then (nI 0) else ((nI 3) - ((T33.1 93 2) - (T33.1 93 1)))) → (P x137 T33)) ∧ (¬ i2 = nI 3 → (i2 = nI 4 → Ev G l mX5_mark (d + 1) 152 [some (.ref 7), some (.int i1), some (.int i2), some (.int ((nI 10) + ((nI 5) * i1))), some (.int (nI 0)), some (.int ((T33.1 93 2) - (T33.1 93 1))), some (.int (nI 0))] [] T33 (QI P)) ∧ (¬ i2 = nI 4 → ∃ n221 : Nat, ix (((nI 10) + ((nI 5) * i1)) + (nI 1)) n221 400 ∧ (Ct G l mX5_off d [.int (T33.1 93 n221), .int (((T33.1 93 1) + (T33.1 93 2)) / (nI 2))] T33 (QI (fun r237 T237 => P r237 T237)))))))) ∧ (r33 = (nI 0) → Ct G l mX5_finds d [.ref 7, .int (nI 3)] T33 (QI (fun r41 T41 => P r41 T41))))))) ∧ (r11 = (nI 0) → P (-1) T11))))))) :
    Ct G l mX5_mark (d + 1) [.ref 7, .int i1, .int i2] S (QI P) := by
  show Ev G l mX5_mark (d + 1) 0 [some (.ref 7), some (.int i1), some (.int i2), none, none, none, none] [] S (QI P)
  refine r_aload_n (μ := mX5_mark) (pc := 0) dX5_mark_0 rfl rfl ?_
  refine r_iload_n (μ := mX5_mark) (pc := 1) dX5_mark_1 rfl rfl ?_
  refine r_callV (μ := mX5_mark) (pc := 2) (as := [.int i1]) 5 cX5_150 dX5_mark_2 rfl rfl (Nat.le_of_ble_eq_true rfl) rfl okX5_isOne (Nat.lt_succ_self d) (cat8 (n := 0) rfl (by decide)) rfl h (k_I (fun r2 T2 h => ?_))
  refine r_if_eq (μ := mX5_mark) (pc := 5) (tgt := 17) dX5_mark_5 (by decide) ⟨fun q5 => ?_, fun q5 => ?_⟩
  · have h := h.1 q5
    refine r_iconst (μ := mX5_mark) (pc := 17) (v := (-1)) dX5_mark_17 rfl ?_
    exact r_iret (μ := mX5_mark) (pc := 18) dX5_mark_18 rfl h
  · have h := h.2 q5
    refine r_iload_n (μ := mX5_mark) (pc := 8) dX5_mark_8 rfl rfl ?_
    refine r_iconst (μ := mX5_mark) (pc := 9) (v := nI 1) dX5_mark_9 rfl ?_
    refine r_iconst (μ := mX5_mark) (pc := 10) (v := nI 5) dX5_mark_10 rfl ?_
    refine r_callS (μ := mX5_mark) (pc := 11) (as := [.int i2, .int (nI 1), .int (nI 5)]) cX5_73 dX5_mark_11 rfl okX5_in (Nat.lt_succ_self d) (cat8 (n := 0) rfl (by decide)) rfl h (k_I (fun r11 T11 h => ?_))
    refine r_if_ne (μ := mX5_mark) (pc := 14) (tgt := 19) dX5_mark_14 (by decide) ⟨fun q14 => ?_, fun q14 => ?_⟩
    · have h := h.1 q14
      refine r_bipush (μ := mX5_mark) (pc := 19) (v := nI 10) dX5_mark_19 rfl ?_
      refine r_iconst (μ := mX5_mark) (pc := 21) (v := nI 5) dX5_mark_21 rfl ?_
      refine r_iload_n (μ := mX5_mark) (pc := 22) dX5_mark_22 rfl rfl ?_
      refine r_imul (μ := mX5_mark) (pc := 23) dX5_mark_23 ?_
      refine r_iadd (μ := mX5_mark) (pc := 24) dX5_mark_24 ?_
      refine r_istore_n (μ := mX5_mark) (pc := 25) (ls' := [some (.ref 7), some (.int i1), some (.int i2), some (.int ((nI 10) + ((nI 5) * i1))), none, none, none]) dX5_mark_25 rfl (Nat.le_of_ble_eq_true rfl) rfl rfl ?_
      refine r_aload_n (μ := mX5_mark) (pc := 26) dX5_mark_26 rfl rfl ?_
      refine g_R (μ := mX5_mark) (pc := 27) (k' := 93) fX5_25 dX5_mark_27 rfl rfl ?_
      refine r_iload_n (μ := mX5_mark) (pc := 30) dX5_mark_30 rfl rfl ?_
      obtain ⟨n31, hx31, h⟩ := h
      refine r_iald (μ := mX5_mark) (pc := 31) dX5_mark_31 rfl hx31 ?_
      refine r_iload_n (μ := mX5_mark) (pc := 32) dX5_mark_32 rfl rfl ?_
      refine r_callS (μ := mX5_mark) (pc := 33) (as := [.int (T11.1 93 n31), .int i2]) cX5_159 dX5_mark_33 rfl okX5_isOf (Nat.lt_succ_self d) (cat8 (n := 0) rfl (by decide)) rfl h (k_I (fun r33 T33 h => ?_))
      refine r_if_ne (μ := mX5_mark) (pc := 36) (tgt := 45) dX5_mark_36 (by decide) ⟨fun q36 => ?_, fun q36 => ?_⟩
      · have h := h.1 q36
        refine r_iconst (μ := mX5_mark) (pc := 45) (v := nI 0) dX5_mark_45 rfl ?_
        refine r_istore (μ := mX5_mark) (pc := 46) (ls' := [some (.ref 7), some (.int i1), some (.int i2), some (.int ((nI 10) + ((nI 5) * i1))), some (.int (nI 0)), none, none]) dX5_mark_46 (Nat.le_of_ble_eq_true rfl) rfl rfl ?_
        refine r_aload_n (μ := mX5_mark) (pc := 48) dX5_mark_48 rfl rfl ?_
        refine g_R (μ := mX5_mark) (pc := 49) (k' := 93) fX5_25 dX5_mark_49 rfl rfl ?_
        refine r_iconst (μ := mX5_mark) (pc := 52) (v := nI 2) dX5_mark_52 rfl ?_
        refine r_iald (μ := mX5_mark) (pc := 53) dX5_mark_53 rfl (ix_nI (n := 2) (Nat.le_of_ble_eq_true rfl) (Nat.le_of_ble_eq_true rfl)) ?_
        refine r_aload_n (μ := mX5_mark) (pc := 54) dX5_mark_54 rfl rfl ?_
        refine g_R (μ := mX5_mark) (pc := 55) (k' := 93) fX5_25 dX5_mark_55 rfl rfl ?_
        refine r_iconst (μ := mX5_mark) (pc := 58) (v := nI 1) dX5_mark_58 rfl ?_
        refine r_iald (μ := mX5_mark) (pc := 59) dX5_mark_59 rfl (ix_nI (n := 1) (Nat.le_of_ble_eq_true rfl) (Nat.le_of_ble_eq_true rfl)) ?_
        refine r_isub (μ := mX5_mark) (pc := 60) dX5_mark_60 ?_
        refine r_istore (μ := mX5_mark) (pc := 61) (ls' := [some (.ref 7), some (.int i1), some (.int i2), some (.int ((nI 10) + ((nI 5) * i1))), some (.int (nI 0)), some (.int ((T33.1 93 2) - (T33.1 93 1))), none]) dX5_mark_61 (Nat.le_of_ble_eq_true rfl) rfl rfl ?_
        refine r_iload_n (μ := mX5_mark) (pc := 63) dX5_mark_63 rfl rfl ?_
        refine r_ts (μ := mX5_mark) (pc := 64) (td := 214) [(nI 1, 96), (nI 2, 121), (nI 3, 134), (nI 4, 149)] dX5_mark_64 rfl rfl rfl rfl ?_
        refine ⟨fun q64 => ?_, fun q64 => ?_⟩
        · have h := h.1 q64
          refine r_aload_n (μ := mX5_mark) (pc := 96) dX5_mark_96 rfl rfl ?_
          refine g_R (μ := mX5_mark) (pc := 97) (k' := 93) fX5_25 dX5_mark_97 rfl rfl ?_
          refine r_iload_n (μ := mX5_mark) (pc := 100) dX5_mark_100 rfl rfl ?_
          refine r_iconst (μ := mX5_mark) (pc := 101) (v := nI 1) dX5_mark_101 rfl ?_
          refine r_iadd (μ := mX5_mark) (pc := 102) dX5_mark_102 ?_
          obtain ⟨n103, hx103, h⟩ := h
          refine r_iald (μ := mX5_mark) (pc := 103) dX5_mark_103 rfl hx103 ?_
          refine r_aload_n (μ := mX5_mark) (pc := 104) dX5_mark_104 rfl rfl ?_
          refine g_R (μ := mX5_mark) (pc := 105) (k' := 93) fX5_25 dX5_mark_105 rfl rfl ?_
          refine r_iload_n (μ := mX5_mark) (pc := 108) dX5_mark_108 rfl rfl ?_
          refine r_iconst (μ := mX5_mark) (pc := 109) (v := nI 2) dX5_mark_109 rfl ?_
          refine r_iadd (μ := mX5_mark) (pc := 110) dX5_mark_110 ?_
          obtain ⟨n111, hx111, h⟩ := h
          refine r_iald (μ := mX5_mark) (pc := 111) dX5_mark_111 rfl hx111 ?_
          have J112 : ∀ x112 : Int32, x112 = (if (T33.1 93 n103) = (T33.1 93 n111) then (nI 0) else (nI 1)) → Ev G l mX5_mark (d + 1) 120 [some (.ref 7), some (.int i1), some (.int i2), some (.int ((nI 10) + ((nI 5) * i1))), some (.int (nI 0)), some (.int ((T33.1 93 2) - (T33.1 93 1))), none] [.int x112] T33 (QI P) := by
            intro x112 e112
            have h := h x112 e112
            exact r_iret (μ := mX5_mark) (pc := 120) dX5_mark_120 rfl h
          refine r_icmp_ne (μ := mX5_mark) (pc := 112) (tgt := 119) dX5_mark_112 (by decide) ⟨fun q112 => ?_, fun q112 => ?_⟩
          · refine r_iconst (μ := mX5_mark) (pc := 119) (v := nI 1) dX5_mark_119 rfl ?_
            exact J112 _ (by first | (rw [if_neg q112]; done) | simp only [if_neg q112])
          · refine r_iconst (μ := mX5_mark) (pc := 115) (v := nI 0) dX5_mark_115 rfl ?_
            refine r_goto (μ := mX5_mark) (pc := 116) (tgt := 120) dX5_mark_116 (by decide) ?_
            exact J112 _ (by first | (rw [if_pos q112]; done) | simp only [if_pos q112])
        have h := h.2 q64
        refine ⟨fun q64 => ?_, fun q64 => ?_⟩
        · have h := h.1 q64
          refine r_aload_n (μ := mX5_mark) (pc := 121) dX5_mark_121 rfl rfl ?_
          refine r_aload_n (μ := mX5_mark) (pc := 122) dX5_mark_122 rfl rfl ?_
          refine g_R (μ := mX5_mark) (pc := 123) (k' := 93) fX5_25 dX5_mark_123 rfl rfl ?_
          refine r_iload_n (μ := mX5_mark) (pc := 126) dX5_mark_126 rfl rfl ?_
          refine r_iconst (μ := mX5_mark) (pc := 127) (v := nI 1) dX5_mark_127 rfl ?_
          refine r_iadd (μ := mX5_mark) (pc := 128) dX5_mark_128 ?_
          obtain ⟨n129, hx129, h⟩ := h
          refine r_iald (μ := mX5_mark) (pc := 129) dX5_mark_129 rfl hx129 ?_
          refine r_callV (μ := mX5_mark) (pc := 130) (as := [.int (T33.1 93 n129)]) 5 cX5_162 dX5_mark_130 rfl rfl (Nat.le_of_ble_eq_true rfl) rfl okX5_distance (Nat.lt_succ_self d) (cat8 (n := 0) rfl (by decide)) rfl h (k_I (fun r130 T130 h => ?_))
          exact r_iret (μ := mX5_mark) (pc := 133) dX5_mark_133 rfl h
        have h := h.2 q64
        refine ⟨fun q64 => ?_, fun q64 => ?_⟩
        · have h := h.1 q64
          refine r_iload (μ := mX5_mark) (pc := 134) dX5_mark_134 rfl ?_
          refine r_iconst (μ := mX5_mark) (pc := 136) (v := nI 3) dX5_mark_136 rfl ?_
          have J137 : ∀ x137 : Int32, x137 = (if (nI 3) ≤ ((T33.1 93 2) - (T33.1 93 1)) then (nI 0) else ((nI 3) - ((T33.1 93 2) - (T33.1 93 1)))) → Ev G l mX5_mark (d + 1) 148 [some (.ref 7), some (.int i1), some (.int i2), some (.int ((nI 10) + ((nI 5) * i1))), some (.int (nI 0)), some (.int ((T33.1 93 2) - (T33.1 93 1))), none] [.int x137] T33 (QI P) := by
            intro x137 e137
            have h := h x137 e137
            exact r_iret (μ := mX5_mark) (pc := 148) dX5_mark_148 rfl h
          refine r_icmp_ge (μ := mX5_mark) (pc := 137) (tgt := 147) dX5_mark_137 (by decide) ⟨fun q137 => ?_, fun q137 => ?_⟩
          · refine r_iconst (μ := mX5_mark) (pc := 147) (v := nI 0) dX5_mark_147 rfl ?_
            exact J137 _ (by first | (rw [if_pos q137]; done) | simp only [if_pos q137])
          · refine r_iconst (μ := mX5_mark) (pc := 140) (v := nI 3) dX5_mark_140 rfl ?_
            refine r_iload (μ := mX5_mark) (pc := 141) dX5_mark_141 rfl ?_
            refine r_isub (μ := mX5_mark) (pc := 143) dX5_mark_143 ?_
            refine r_goto (μ := mX5_mark) (pc := 144) (tgt := 148) dX5_mark_144 (by decide) ?_
            exact J137 _ (by first | (rw [if_neg q137]; done) | simp only [if_neg q137])
        have h := h.2 q64
        refine ⟨fun q64 => ?_, fun q64 => ?_⟩
        · have h := h.1 q64
          refine r_iconst (μ := mX5_mark) (pc := 149) (v := nI 0) dX5_mark_149 rfl ?_
          refine r_istore (μ := mX5_mark) (pc := 150) (ls' := [some (.ref 7), some (.int i1), some (.int i2), some (.int ((nI 10) + ((nI 5) * i1))), some (.int (nI 0)), some (.int ((T33.1 93 2) - (T33.1 93 1))), some (.int (nI 0))]) dX5_mark_150 (Nat.le_of_ble_eq_true rfl) rfl rfl ?_
          exact h
        have h := h.2 q64
        refine r_aload_n (μ := mX5_mark) (pc := 214) dX5_mark_214 rfl rfl ?_
        refine g_R (μ := mX5_mark) (pc := 215) (k' := 93) fX5_25 dX5_mark_215 rfl rfl ?_
        refine r_iload_n (μ := mX5_mark) (pc := 218) dX5_mark_218 rfl rfl ?_
        refine r_iconst (μ := mX5_mark) (pc := 219) (v := nI 1) dX5_mark_219 rfl ?_
        refine r_iadd (μ := mX5_mark) (pc := 220) dX5_mark_220 ?_
        obtain ⟨n221, hx221, h⟩ := h
        refine r_iald (μ := mX5_mark) (pc := 221) dX5_mark_221 rfl hx221 ?_
        refine r_aload_n (μ := mX5_mark) (pc := 222) dX5_mark_222 rfl rfl ?_
        refine g_R (μ := mX5_mark) (pc := 223) (k' := 93) fX5_25 dX5_mark_223 rfl rfl ?_
        refine r_iconst (μ := mX5_mark) (pc := 226) (v := nI 1) dX5_mark_226 rfl ?_
        refine r_iald (μ := mX5_mark) (pc := 227) dX5_mark_227 rfl (ix_nI (n := 1) (Nat.le_of_ble_eq_true rfl) (Nat.le_of_ble_eq_true rfl)) ?_
        refine r_aload_n (μ := mX5_mark) (pc := 228) dX5_mark_228 rfl rfl ?_
        refine g_R (μ := mX5_mark) (pc := 229) (k' := 93) fX5_25 dX5_mark_229 rfl rfl ?_
        refine r_iconst (μ := mX5_mark) (pc := 232) (v := nI 2) dX5_mark_232 rfl ?_
        refine r_iald (μ := mX5_mark) (pc := 233) dX5_mark_233 rfl (ix_nI (n := 2) (Nat.le_of_ble_eq_true rfl) (Nat.le_of_ble_eq_true rfl)) ?_
        refine r_iadd (μ := mX5_mark) (pc := 234) dX5_mark_234 ?_
        refine r_iconst (μ := mX5_mark) (pc := 235) (v := nI 2) dX5_mark_235 rfl ?_
        refine r_idiv (μ := mX5_mark) (pc := 236) dX5_mark_236 (by decide) ?_
        refine r_callS (μ := mX5_mark) (pc := 237) (as := [.int (T33.1 93 n221), .int (((T33.1 93 1) + (T33.1 93 2)) / (nI 2))]) cX5_156 dX5_mark_237 rfl okX5_off (Nat.lt_succ_self d) (cat8 (n := 0) rfl (by decide)) rfl h (k_I (fun r237 T237 h => ?_))
        exact r_iret (μ := mX5_mark) (pc := 240) dX5_mark_240 rfl h
      · have h := h.2 q36
        refine r_aload_n (μ := mX5_mark) (pc := 39) dX5_mark_39 rfl rfl ?_
        refine r_iconst (μ := mX5_mark) (pc := 40) (v := nI 3) dX5_mark_40 rfl ?_
        refine r_callV (μ := mX5_mark) (pc := 41) (as := [.int (nI 3)]) 5 cX5_81 dX5_mark_41 rfl rfl (Nat.le_of_ble_eq_true rfl) rfl okX5_finds (Nat.lt_succ_self d) (cat8 (n := 0) rfl (by decide)) rfl h (k_I (fun r41 T41 h => ?_))
        exact r_iret (μ := mX5_mark) (pc := 44) dX5_mark_44 rfl h
    · have h := h.2 q14
      refine r_iconst (μ := mX5_mark) (pc := 17) (v := (-1)) dX5_mark_17 rfl ?_
      exact r_iret (μ := mX5_mark) (pc := 18) dX5_mark_18 rfl h

set_option maxRecDepth 20000 in
theorem bX5_mark_152 {G : Gl} {l : Launch} {d : Nat} {S : Sg} {P : Int32 → Sg → Prop} (i1 : Int32) (i2 : Int32) (i3 : Int32) (i4 : Int32) (i5 : Int32) (i6 : Int32)
    (h : ((S.1 93 7) ≤ i6 → P i4 S) ∧ (¬ ((S.1 93 7) ≤ i6) → (¬ (i6 = i1) → ix (((nI 10) + ((nI 5) * i6)) + (nI 1)) ((((nI 10) + ((nI 5) * i6)) + (nI 1)).toNatClampNeg) 400) ∧ (¬ (i6 = i1) → ix (i3 + (nI 1)) ((i3 + (nI 1)).toNatClampNeg) 400) ∧ ∀ x169 : Int32, x169 = (if i6 = i1 then (nI 0) else (if (S.1 93 (((nI 10) + ((nI 5) * i6)) + (nI 1)).toNatClampNeg) = (S.1 93 (i3 + (nI 1)).toNatClampNeg) then (nI 1) else (nI 0))) → (Ev G l mX5_mark (d + 1) 152 [some (.ref 7), some (.int i1), some (.int i2), some (.int i3), some (.int (i4 + x169)), some (.int i5), some (.int (i6 + (nI 1)))] [] S (QI P)))) :
    Ev G l mX5_mark (d + 1) 152 [some (.ref 7), some (.int i1), some (.int i2), some (.int i3), some (.int i4), some (.int i5), some (.int i6)] [] S (QI P) := by
  show Ev G l mX5_mark (d + 1) 152 [some (.ref 7), some (.int i1), some (.int i2), some (.int i3), some (.int i4), some (.int i5), some (.int i6)] [] S (QI P)
  refine r_iload (μ := mX5_mark) (pc := 152) dX5_mark_152 rfl ?_
  refine r_aload_n (μ := mX5_mark) (pc := 154) dX5_mark_154 rfl rfl ?_
  refine g_R (μ := mX5_mark) (pc := 155) (k' := 93) fX5_25 dX5_mark_155 rfl rfl ?_
  refine r_bipush (μ := mX5_mark) (pc := 158) (v := nI 7) dX5_mark_158 rfl ?_
  refine r_iald (μ := mX5_mark) (pc := 160) dX5_mark_160 rfl (ix_nI (n := 7) (Nat.le_of_ble_eq_true rfl) (Nat.le_of_ble_eq_true rfl)) ?_
  refine r_icmp_ge (μ := mX5_mark) (pc := 161) (tgt := 211) dX5_mark_161 (by decide) ⟨fun q161 => ?_, fun q161 => ?_⟩
  · have h := h.1 q161
    refine r_iload (μ := mX5_mark) (pc := 211) dX5_mark_211 rfl ?_
    exact r_iret (μ := mX5_mark) (pc := 213) dX5_mark_213 rfl h
  · have h := h.2 q161
    refine r_iload (μ := mX5_mark) (pc := 164) dX5_mark_164 rfl ?_
    refine r_iload (μ := mX5_mark) (pc := 166) dX5_mark_166 rfl ?_
    refine r_iload_n (μ := mX5_mark) (pc := 168) dX5_mark_168 rfl rfl ?_
    obtain ⟨hp185, h⟩ := h
    obtain ⟨hp193, h⟩ := h
    have J169 : ∀ x169 : Int32, x169 = (if i6 = i1 then (nI 0) else (if (S.1 93 (((nI 10) + ((nI 5) * i6)) + (nI 1)).toNatClampNeg) = (S.1 93 (i3 + (nI 1)).toNatClampNeg) then (nI 1) else (nI 0))) → Ev G l mX5_mark (d + 1) 202 [some (.ref 7), some (.int i1), some (.int i2), some (.int i3), some (.int i4), some (.int i5), some (.int i6)] [.int x169, .int i4] S (QI P) := by
      intro x169 e169
      have h := h x169 e169
      refine r_iadd (μ := mX5_mark) (pc := 202) dX5_mark_202 ?_
      refine r_istore (μ := mX5_mark) (pc := 203) (ls' := [some (.ref 7), some (.int i1), some (.int i2), some (.int i3), some (.int (i4 + x169)), some (.int i5), some (.int i6)]) dX5_mark_203 (Nat.le_of_ble_eq_true rfl) rfl rfl ?_
      refine r_iinc (μ := mX5_mark) (pc := 205) (y := nI 1) (ls' := [some (.ref 7), some (.int i1), some (.int i2), some (.int i3), some (.int (i4 + x169)), some (.int i5), some (.int (i6 + (nI 1)))]) dX5_mark_205 rfl rfl (Nat.le_of_ble_eq_true rfl) rfl rfl ?_
      refine r_goto (μ := mX5_mark) (pc := 208) (tgt := 152) dX5_mark_208 (by decide) ?_
      exact h
    refine r_icmp_eq (μ := mX5_mark) (pc := 169) (tgt := 201) dX5_mark_169 (by decide) ⟨fun q169 => ?_, fun q169 => ?_⟩
    · refine r_iconst (μ := mX5_mark) (pc := 201) (v := nI 0) dX5_mark_201 rfl ?_
      exact J169 _ (by first | (rw [if_pos q169]; done) | simp only [if_pos q169])
    · have hp185 := hp185 q169
      have hp193 := hp193 q169
      refine r_aload_n (μ := mX5_mark) (pc := 172) dX5_mark_172 rfl rfl ?_
      refine g_R (μ := mX5_mark) (pc := 173) (k' := 93) fX5_25 dX5_mark_173 rfl rfl ?_
      refine r_bipush (μ := mX5_mark) (pc := 176) (v := nI 10) dX5_mark_176 rfl ?_
      refine r_iconst (μ := mX5_mark) (pc := 178) (v := nI 5) dX5_mark_178 rfl ?_
      refine r_iload (μ := mX5_mark) (pc := 179) dX5_mark_179 rfl ?_
      refine r_imul (μ := mX5_mark) (pc := 181) dX5_mark_181 ?_
      refine r_iadd (μ := mX5_mark) (pc := 182) dX5_mark_182 ?_
      refine r_iconst (μ := mX5_mark) (pc := 183) (v := nI 1) dX5_mark_183 rfl ?_
      refine r_iadd (μ := mX5_mark) (pc := 184) dX5_mark_184 ?_
      refine r_iald (μ := mX5_mark) (pc := 185) dX5_mark_185 rfl hp185 ?_
      refine r_aload_n (μ := mX5_mark) (pc := 186) dX5_mark_186 rfl rfl ?_
      refine g_R (μ := mX5_mark) (pc := 187) (k' := 93) fX5_25 dX5_mark_187 rfl rfl ?_
      refine r_iload_n (μ := mX5_mark) (pc := 190) dX5_mark_190 rfl rfl ?_
      refine r_iconst (μ := mX5_mark) (pc := 191) (v := nI 1) dX5_mark_191 rfl ?_
      refine r_iadd (μ := mX5_mark) (pc := 192) dX5_mark_192 ?_
      refine r_iald (μ := mX5_mark) (pc := 193) dX5_mark_193 rfl hp193 ?_
      refine r_icmp_ne (μ := mX5_mark) (pc := 194) (tgt := 201) dX5_mark_194 (by decide) ⟨fun q194 => ?_, fun q194 => ?_⟩
      · refine r_iconst (μ := mX5_mark) (pc := 201) (v := nI 0) dX5_mark_201 rfl ?_
        exact J169 _ (by first | (rw [if_neg q169, if_neg q194]; done) | simp only [if_neg q169, if_neg q194])
      · refine r_iconst (μ := mX5_mark) (pc := 197) (v := nI 1) dX5_mark_197 rfl ?_
        refine r_goto (μ := mX5_mark) (pc := 198) (tgt := 202) dX5_mark_198 (by decide) ?_
        exact J169 _ (by first | (rw [if_neg q169, if_pos q194]; done) | simp only [if_neg q169, if_pos q194])

set_option maxRecDepth 20000 in
theorem bX5_coastHas_0 {G : Gl} {l : Launch} {d : Nat} {S : Sg} {P : Int32 → Sg → Prop} (i1 : Int32)
    (h : (i1 = nI 0 → P (S.1 93 1) S) ∧ (¬ i1 = nI 0 → (i1 = nI 1 → P (S.1 93 2) S) ∧ (¬ i1 = nI 1 → (i1 = nI 2 → P ((S.1 93 2) - (S.1 93 1)) S) ∧ (¬ i1 = nI 2 → (i1 = nI 3 → Ct G l mX5_belongersNow d [.ref 7] S (QI (fun r58 T58 => Ct G l mX5_votesIn d [.ref 7, .int r58] T58 (QI (fun r61 T61 => P r61 T61))))) ∧ (¬ i1 = nI 3 → (i1 = nI 4 → Ct G l mX5_votesOut d [.ref 7, .int (nI 0), .int ((S.1 93 1) - (nI 1)), .int (S.1 93 1), .int (S.1 93 2)] S (QI (fun r72 T72 => P r72 T72))) ∧ (¬ i1 = nI 4 → Ct G l mX5_votesOut d [.ref 7, .int (S.1 93 2), .int ((S.1 93 0) - (nI 1)), .int (S.1 93 1), .int (S.1 93 2)] S (QI (fun r88 T88 => P r88 T88)))))))) :
    Ct G l mX5_coastHas (d + 1) [.ref 7, .int i1] S (QI P) := by
  show Ev G l mX5_coastHas (d + 1) 0 [some (.ref 7), some (.int i1), none, none] [] S (QI P)
  refine r_aload_n (μ := mX5_coastHas) (pc := 0) dX5_coastHas_0 rfl rfl ?_
  refine g_R (μ := mX5_coastHas) (pc := 1) (k' := 93) fX5_25 dX5_coastHas_1 rfl rfl ?_
  refine r_iconst (μ := mX5_coastHas) (pc := 4) (v := nI 1) dX5_coastHas_4 rfl ?_
  refine r_iald (μ := mX5_coastHas) (pc := 5) dX5_coastHas_5 rfl (ix_nI (n := 1) (Nat.le_of_ble_eq_true rfl) (Nat.le_of_ble_eq_true rfl)) ?_
  refine r_istore_n (μ := mX5_coastHas) (pc := 6) (ls' := [some (.ref 7), some (.int i1), some (.int (S.1 93 1)), none]) dX5_coastHas_6 rfl (Nat.le_of_ble_eq_true rfl) rfl rfl ?_
  refine r_aload_n (μ := mX5_coastHas) (pc := 7) dX5_coastHas_7 rfl rfl ?_
  refine g_R (μ := mX5_coastHas) (pc := 8) (k' := 93) fX5_25 dX5_coastHas_8 rfl rfl ?_
  refine r_iconst (μ := mX5_coastHas) (pc := 11) (v := nI 2) dX5_coastHas_11 rfl ?_
  refine r_iald (μ := mX5_coastHas) (pc := 12) dX5_coastHas_12 rfl (ix_nI (n := 2) (Nat.le_of_ble_eq_true rfl) (Nat.le_of_ble_eq_true rfl)) ?_
  refine r_istore_n (μ := mX5_coastHas) (pc := 13) (ls' := [some (.ref 7), some (.int i1), some (.int (S.1 93 1)), some (.int (S.1 93 2))]) dX5_coastHas_13 rfl (Nat.le_of_ble_eq_true rfl) rfl rfl ?_
  refine r_iload_n (μ := mX5_coastHas) (pc := 14) dX5_coastHas_14 rfl rfl ?_
  refine r_ts (μ := mX5_coastHas) (pc := 15) (td := 76) [(nI 0, 48), (nI 1, 50), (nI 2, 52), (nI 3, 56), (nI 4, 65)] dX5_coastHas_15 rfl rfl rfl rfl ?_
  refine ⟨fun q15 => ?_, fun q15 => ?_⟩
  · have h := h.1 q15
    refine r_iload_n (μ := mX5_coastHas) (pc := 48) dX5_coastHas_48 rfl rfl ?_
    exact r_iret (μ := mX5_coastHas) (pc := 49) dX5_coastHas_49 rfl h
  have h := h.2 q15
  refine ⟨fun q15 => ?_, fun q15 => ?_⟩
  · have h := h.1 q15
    refine r_iload_n (μ := mX5_coastHas) (pc := 50) dX5_coastHas_50 rfl rfl ?_
    exact r_iret (μ := mX5_coastHas) (pc := 51) dX5_coastHas_51 rfl h
  have h := h.2 q15
  refine ⟨fun q15 => ?_, fun q15 => ?_⟩
  · have h := h.1 q15
    refine r_iload_n (μ := mX5_coastHas) (pc := 52) dX5_coastHas_52 rfl rfl ?_
    refine r_iload_n (μ := mX5_coastHas) (pc := 53) dX5_coastHas_53 rfl rfl ?_
    refine r_isub (μ := mX5_coastHas) (pc := 54) dX5_coastHas_54 ?_
    exact r_iret (μ := mX5_coastHas) (pc := 55) dX5_coastHas_55 rfl h
  have h := h.2 q15
  refine ⟨fun q15 => ?_, fun q15 => ?_⟩
  · have h := h.1 q15
    refine r_aload_n (μ := mX5_coastHas) (pc := 56) dX5_coastHas_56 rfl rfl ?_
    refine r_aload_n (μ := mX5_coastHas) (pc := 57) dX5_coastHas_57 rfl rfl ?_
    refine r_callV (μ := mX5_coastHas) (pc := 58) (as := []) 5 cX5_165 dX5_coastHas_58 rfl rfl (Nat.le_of_ble_eq_true rfl) rfl okX5_belongersNow (Nat.lt_succ_self d) (cat8 (n := 1) rfl (by decide)) rfl h (k_I (fun r58 T58 h => ?_))
    refine r_callV (μ := mX5_coastHas) (pc := 61) (as := [.int r58]) 5 cX5_169 dX5_coastHas_61 rfl rfl (Nat.le_of_ble_eq_true rfl) rfl okX5_votesIn (Nat.lt_succ_self d) (cat8 (n := 0) rfl (by decide)) rfl h (k_I (fun r61 T61 h => ?_))
    exact r_iret (μ := mX5_coastHas) (pc := 64) dX5_coastHas_64 rfl h
  have h := h.2 q15
  refine ⟨fun q15 => ?_, fun q15 => ?_⟩
  · have h := h.1 q15
    refine r_aload_n (μ := mX5_coastHas) (pc := 65) dX5_coastHas_65 rfl rfl ?_
    refine r_iconst (μ := mX5_coastHas) (pc := 66) (v := nI 0) dX5_coastHas_66 rfl ?_
    refine r_iload_n (μ := mX5_coastHas) (pc := 67) dX5_coastHas_67 rfl rfl ?_
    refine r_iconst (μ := mX5_coastHas) (pc := 68) (v := nI 1) dX5_coastHas_68 rfl ?_
    refine r_isub (μ := mX5_coastHas) (pc := 69) dX5_coastHas_69 ?_
    refine r_iload_n (μ := mX5_coastHas) (pc := 70) dX5_coastHas_70 rfl rfl ?_
    refine r_iload_n (μ := mX5_coastHas) (pc := 71) dX5_coastHas_71 rfl rfl ?_
    refine r_callV (μ := mX5_coastHas) (pc := 72) (as := [.int (nI 0), .int ((S.1 93 1) - (nI 1)), .int (S.1 93 1), .int (S.1 93 2)]) 5 cX5_172 dX5_coastHas_72 rfl rfl (Nat.le_of_ble_eq_true rfl) rfl okX5_votesOut (Nat.lt_succ_self d) (cat8 (n := 0) rfl (by decide)) rfl h (k_I (fun r72 T72 h => ?_))
    exact r_iret (μ := mX5_coastHas) (pc := 75) dX5_coastHas_75 rfl h
  have h := h.2 q15
  refine r_aload_n (μ := mX5_coastHas) (pc := 76) dX5_coastHas_76 rfl rfl ?_
  refine r_iload_n (μ := mX5_coastHas) (pc := 77) dX5_coastHas_77 rfl rfl ?_
  refine r_aload_n (μ := mX5_coastHas) (pc := 78) dX5_coastHas_78 rfl rfl ?_
  refine g_R (μ := mX5_coastHas) (pc := 79) (k' := 93) fX5_25 dX5_coastHas_79 rfl rfl ?_
  refine r_iconst (μ := mX5_coastHas) (pc := 82) (v := nI 0) dX5_coastHas_82 rfl ?_
  refine r_iald (μ := mX5_coastHas) (pc := 83) dX5_coastHas_83 rfl (ix_nI (n := 0) (Nat.le_of_ble_eq_true rfl) (Nat.le_of_ble_eq_true rfl)) ?_
  refine r_iconst (μ := mX5_coastHas) (pc := 84) (v := nI 1) dX5_coastHas_84 rfl ?_
  refine r_isub (μ := mX5_coastHas) (pc := 85) dX5_coastHas_85 ?_
  refine r_iload_n (μ := mX5_coastHas) (pc := 86) dX5_coastHas_86 rfl rfl ?_
  refine r_iload_n (μ := mX5_coastHas) (pc := 87) dX5_coastHas_87 rfl rfl ?_
  refine r_callV (μ := mX5_coastHas) (pc := 88) (as := [.int (S.1 93 2), .int ((S.1 93 0) - (nI 1)), .int (S.1 93 1), .int (S.1 93 2)]) 5 cX5_172 dX5_coastHas_88 rfl rfl (Nat.le_of_ble_eq_true rfl) rfl okX5_votesOut (Nat.lt_succ_self d) (cat8 (n := 0) rfl (by decide)) rfl h (k_I (fun r88 T88 h => ?_))
  exact r_iret (μ := mX5_coastHas) (pc := 91) dX5_coastHas_91 rfl h

set_option maxRecDepth 20000 in
theorem bX5_coast_0 {G : Gl} {l : Launch} {d : Nat} {S : Sg} {P : Int32 → Sg → Prop} (i1 : Int32)
    (h : Ct G l mX5_in d [.int i1, .int (nI 0), .int (nI 5)] S (QI (fun r3 T3 => (¬ r3 = (nI 0) → Ct G l mX5_are d [.ref 7] T3 (QI (fun r12 T12 => (r12 = (nI 0) → P (-4) T12) ∧ (¬ (r12 = (nI 0)) → Ct G l mX5_coastHas d [.ref 7, .int i1] T12 (QI (fun r20 T20 => P r20 T20)))))) ∧ (r3 = (nI 0) → P (-1) T3)))) :
    Ct G l mX5_coast (d + 1) [.ref 7, .int i1] S (QI P) := by
  show Ev G l mX5_coast (d + 1) 0 [some (.ref 7), some (.int i1)] [] S (QI P)
  refine r_iload_n (μ := mX5_coast) (pc := 0) dX5_coast_0 rfl rfl ?_
  refine r_iconst (μ := mX5_coast) (pc := 1) (v := nI 0) dX5_coast_1 rfl ?_
  refine r_iconst (μ := mX5_coast) (pc := 2) (v := nI 5) dX5_coast_2 rfl ?_
  refine r_callS (μ := mX5_coast) (pc := 3) (as := [.int i1, .int (nI 0), .int (nI 5)]) cX5_73 dX5_coast_3 rfl okX5_in (Nat.lt_succ_self d) (cat8 (n := 0) rfl (by decide)) rfl h (k_I (fun r3 T3 h => ?_))
  refine r_if_ne (μ := mX5_coast) (pc := 6) (tgt := 11) dX5_coast_6 (by decide) ⟨fun q6 => ?_, fun q6 => ?_⟩
  · have h := h.1 q6
    refine r_aload_n (μ := mX5_coast) (pc := 11) dX5_coast_11 rfl rfl ?_
    refine r_callV (μ := mX5_coast) (pc := 12) (as := []) 5 cX5_176 dX5_coast_12 rfl rfl (Nat.le_of_ble_eq_true rfl) rfl okX5_are (Nat.lt_succ_self d) (cat8 (n := 0) rfl (by decide)) rfl h (k_I (fun r12 T12 h => ?_))
    refine r_if_eq (μ := mX5_coast) (pc := 15) (tgt := 26) dX5_coast_15 (by decide) ⟨fun q15 => ?_, fun q15 => ?_⟩
    · have h := h.1 q15
      refine r_bipush (μ := mX5_coast) (pc := 26) (v := (-4)) dX5_coast_26 rfl ?_
      exact r_iret (μ := mX5_coast) (pc := 28) dX5_coast_28 rfl h
    · have h := h.2 q15
      refine r_aload_n (μ := mX5_coast) (pc := 18) dX5_coast_18 rfl rfl ?_
      refine r_iload_n (μ := mX5_coast) (pc := 19) dX5_coast_19 rfl rfl ?_
      refine r_callV (μ := mX5_coast) (pc := 20) (as := [.int i1]) 5 cX5_180 dX5_coast_20 rfl rfl (Nat.le_of_ble_eq_true rfl) rfl okX5_coastHas (Nat.lt_succ_self d) (cat8 (n := 0) rfl (by decide)) rfl h (k_I (fun r20 T20 h => ?_))
      refine r_goto (μ := mX5_coast) (pc := 23) (tgt := 28) dX5_coast_23 (by decide) ?_
      exact r_iret (μ := mX5_coast) (pc := 28) dX5_coast_28 rfl h
  · have h := h.2 q6
    refine r_iconst (μ := mX5_coast) (pc := 9) (v := (-1)) dX5_coast_9 rfl ?_
    exact r_iret (μ := mX5_coast) (pc := 10) dX5_coast_10 rfl h

set_option maxRecDepth 20000 in
theorem bX5_notes_0 {G : Gl} {l : Launch} {d : Nat} {S : Sg} {P : Sg → Prop} 
    (h : ∃ n25 : Nat, ix ((nI 40) + ((nI 9) * (S.1 93 9))) n25 400 ∧ ∀ S25 : Sg, S25 = (u2 S.1 93 n25 (S.1 93 1), S.2) → (∃ n39 : Nat, ix (((nI 40) + ((nI 9) * (S.1 93 9))) + (nI 1)) n39 400 ∧ ∀ S39 : Sg, S39 = (u2 S25.1 93 n39 (S25.1 93 2), S25.2) → (∃ n54 : Nat, ix (((nI 40) + ((nI 9) * (S.1 93 9))) + (nI 2)) n54 400 ∧ ∀ S54 : Sg, S54 = (u2 S39.1 93 n54 (S39.1 93 8), S39.2) → (Ev G l mX5_notes (d + 1) 57 [some (.ref 7), some (.int ((nI 40) + ((nI 9) * (S.1 93 9)))), some (.int (nI 0))] [] S54 (QV P))))) :
    Ct G l mX5_notes (d + 1) [.ref 7] S (QV P) := by
  show Ev G l mX5_notes (d + 1) 0 [some (.ref 7), none, none] [] S (QV P)
  refine r_bipush (μ := mX5_notes) (pc := 0) (v := nI 40) dX5_notes_0 rfl ?_
  refine r_bipush (μ := mX5_notes) (pc := 2) (v := nI 9) dX5_notes_2 rfl ?_
  refine r_aload_n (μ := mX5_notes) (pc := 4) dX5_notes_4 rfl rfl ?_
  refine g_R (μ := mX5_notes) (pc := 5) (k' := 93) fX5_25 dX5_notes_5 rfl rfl ?_
  refine r_bipush (μ := mX5_notes) (pc := 8) (v := nI 9) dX5_notes_8 rfl ?_
  refine r_iald (μ := mX5_notes) (pc := 10) dX5_notes_10 rfl (ix_nI (n := 9) (Nat.le_of_ble_eq_true rfl) (Nat.le_of_ble_eq_true rfl)) ?_
  refine r_imul (μ := mX5_notes) (pc := 11) dX5_notes_11 ?_
  refine r_iadd (μ := mX5_notes) (pc := 12) dX5_notes_12 ?_
  refine r_istore_n (μ := mX5_notes) (pc := 13) (ls' := [some (.ref 7), some (.int ((nI 40) + ((nI 9) * (S.1 93 9)))), none]) dX5_notes_13 rfl (Nat.le_of_ble_eq_true rfl) rfl rfl ?_
  refine r_aload_n (μ := mX5_notes) (pc := 14) dX5_notes_14 rfl rfl ?_
  refine g_R (μ := mX5_notes) (pc := 15) (k' := 93) fX5_25 dX5_notes_15 rfl rfl ?_
  refine r_iload_n (μ := mX5_notes) (pc := 18) dX5_notes_18 rfl rfl ?_
  refine r_aload_n (μ := mX5_notes) (pc := 19) dX5_notes_19 rfl rfl ?_
  refine g_R (μ := mX5_notes) (pc := 20) (k' := 93) fX5_25 dX5_notes_20 rfl rfl ?_
  refine r_iconst (μ := mX5_notes) (pc := 23) (v := nI 1) dX5_notes_23 rfl ?_
  refine r_iald (μ := mX5_notes) (pc := 24) dX5_notes_24 rfl (ix_nI (n := 1) (Nat.le_of_ble_eq_true rfl) (Nat.le_of_ble_eq_true rfl)) ?_
  obtain ⟨n25, hx25, h⟩ := h
  refine r_iast (μ := mX5_notes) (pc := 25) dX5_notes_25 rfl hx25 ?_
  refine nm_S (fun S25 eS25 => ?_)
  have h := h S25 eS25
  refine r_aload_n (μ := mX5_notes) (pc := 26) dX5_notes_26 rfl rfl ?_
  refine g_R (μ := mX5_notes) (pc := 27) (k' := 93) fX5_25 dX5_notes_27 rfl rfl ?_
  refine r_iload_n (μ := mX5_notes) (pc := 30) dX5_notes_30 rfl rfl ?_
  refine r_iconst (μ := mX5_notes) (pc := 31) (v := nI 1) dX5_notes_31 rfl ?_
  refine r_iadd (μ := mX5_notes) (pc := 32) dX5_notes_32 ?_
  refine r_aload_n (μ := mX5_notes) (pc := 33) dX5_notes_33 rfl rfl ?_
  refine g_R (μ := mX5_notes) (pc := 34) (k' := 93) fX5_25 dX5_notes_34 rfl rfl ?_
  refine r_iconst (μ := mX5_notes) (pc := 37) (v := nI 2) dX5_notes_37 rfl ?_
  refine r_iald (μ := mX5_notes) (pc := 38) dX5_notes_38 rfl (ix_nI (n := 2) (Nat.le_of_ble_eq_true rfl) (Nat.le_of_ble_eq_true rfl)) ?_
  obtain ⟨n39, hx39, h⟩ := h
  refine r_iast (μ := mX5_notes) (pc := 39) dX5_notes_39 rfl hx39 ?_
  refine nm_S (fun S39 eS39 => ?_)
  have h := h S39 eS39
  refine r_aload_n (μ := mX5_notes) (pc := 40) dX5_notes_40 rfl rfl ?_
  refine g_R (μ := mX5_notes) (pc := 41) (k' := 93) fX5_25 dX5_notes_41 rfl rfl ?_
  refine r_iload_n (μ := mX5_notes) (pc := 44) dX5_notes_44 rfl rfl ?_
  refine r_iconst (μ := mX5_notes) (pc := 45) (v := nI 2) dX5_notes_45 rfl ?_
  refine r_iadd (μ := mX5_notes) (pc := 46) dX5_notes_46 ?_
  refine r_aload_n (μ := mX5_notes) (pc := 47) dX5_notes_47 rfl rfl ?_
  refine g_R (μ := mX5_notes) (pc := 48) (k' := 93) fX5_25 dX5_notes_48 rfl rfl ?_
  refine r_bipush (μ := mX5_notes) (pc := 51) (v := nI 8) dX5_notes_51 rfl ?_
  refine r_iald (μ := mX5_notes) (pc := 53) dX5_notes_53 rfl (ix_nI (n := 8) (Nat.le_of_ble_eq_true rfl) (Nat.le_of_ble_eq_true rfl)) ?_
  obtain ⟨n54, hx54, h⟩ := h
  refine r_iast (μ := mX5_notes) (pc := 54) dX5_notes_54 rfl hx54 ?_
  refine nm_S (fun S54 eS54 => ?_)
  have h := h S54 eS54
  refine r_iconst (μ := mX5_notes) (pc := 55) (v := nI 0) dX5_notes_55 rfl ?_
  refine r_istore_n (μ := mX5_notes) (pc := 56) (ls' := [some (.ref 7), some (.int ((nI 40) + ((nI 9) * (S.1 93 9)))), some (.int (nI 0))]) dX5_notes_56 rfl (Nat.le_of_ble_eq_true rfl) rfl rfl ?_
  exact h

set_option maxRecDepth 20000 in
theorem bX5_notes_57 {G : Gl} {l : Launch} {d : Nat} {S : Sg} {P : Sg → Prop} (i1 : Int32) (i2 : Int32)
    (h : ((nI 6) ≤ i2 → ∀ S102 : Sg, S102 = (u2 S.1 93 9 ((S.1 93 9) + (nI 1)), S.2) → (P S102)) ∧ (¬ ((nI 6) ≤ i2) → ∃ n84 : Nat, ix (((nI 10) + ((nI 5) * i2)) + (nI 1)) n84 400 ∧ (∃ n85 : Nat, ix ((i1 + (nI 3)) + i2) n85 400 ∧ ∀ S85 : Sg, S85 = (u2 S.1 93 n85 (S.1 93 n84), S.2) → (Ev G l mX5_notes (d + 1) 57 [some (.ref 7), some (.int i1), some (.int (i2 + (nI 1)))] [] S85 (QV P))))) :
    Ev G l mX5_notes (d + 1) 57 [some (.ref 7), some (.int i1), some (.int i2)] [] S (QV P) := by
  show Ev G l mX5_notes (d + 1) 57 [some (.ref 7), some (.int i1), some (.int i2)] [] S (QV P)
  refine r_iload_n (μ := mX5_notes) (pc := 57) dX5_notes_57 rfl rfl ?_
  refine r_bipush (μ := mX5_notes) (pc := 58) (v := nI 6) dX5_notes_58 rfl ?_
  refine r_icmp_ge (μ := mX5_notes) (pc := 60) (tgt := 92) dX5_notes_60 (by decide) ⟨fun q60 => ?_, fun q60 => ?_⟩
  · have h := h.1 q60
    refine r_aload_n (μ := mX5_notes) (pc := 92) dX5_notes_92 rfl rfl ?_
    refine g_R (μ := mX5_notes) (pc := 93) (k' := 93) fX5_25 dX5_notes_93 rfl rfl ?_
    refine r_bipush (μ := mX5_notes) (pc := 96) (v := nI 9) dX5_notes_96 rfl ?_
    refine r_dup2_11 (μ := mX5_notes) (pc := 98) dX5_notes_98 rfl rfl ?_
    refine r_iald (μ := mX5_notes) (pc := 99) dX5_notes_99 rfl (ix_nI (n := 9) (Nat.le_of_ble_eq_true rfl) (Nat.le_of_ble_eq_true rfl)) ?_
    refine r_iconst (μ := mX5_notes) (pc := 100) (v := nI 1) dX5_notes_100 rfl ?_
    refine r_iadd (μ := mX5_notes) (pc := 101) dX5_notes_101 ?_
    refine r_iast (μ := mX5_notes) (pc := 102) dX5_notes_102 rfl (ix_nI (n := 9) (Nat.le_of_ble_eq_true rfl) (Nat.le_of_ble_eq_true rfl)) ?_
    refine nm_S (fun S102 eS102 => ?_)
    have h := h S102 eS102
    exact r_vret (μ := mX5_notes) (pc := 103) dX5_notes_103 rfl h
  · have h := h.2 q60
    refine r_aload_n (μ := mX5_notes) (pc := 63) dX5_notes_63 rfl rfl ?_
    refine g_R (μ := mX5_notes) (pc := 64) (k' := 93) fX5_25 dX5_notes_64 rfl rfl ?_
    refine r_iload_n (μ := mX5_notes) (pc := 67) dX5_notes_67 rfl rfl ?_
    refine r_iconst (μ := mX5_notes) (pc := 68) (v := nI 3) dX5_notes_68 rfl ?_
    refine r_iadd (μ := mX5_notes) (pc := 69) dX5_notes_69 ?_
    refine r_iload_n (μ := mX5_notes) (pc := 70) dX5_notes_70 rfl rfl ?_
    refine r_iadd (μ := mX5_notes) (pc := 71) dX5_notes_71 ?_
    refine r_aload_n (μ := mX5_notes) (pc := 72) dX5_notes_72 rfl rfl ?_
    refine g_R (μ := mX5_notes) (pc := 73) (k' := 93) fX5_25 dX5_notes_73 rfl rfl ?_
    refine r_bipush (μ := mX5_notes) (pc := 76) (v := nI 10) dX5_notes_76 rfl ?_
    refine r_iconst (μ := mX5_notes) (pc := 78) (v := nI 5) dX5_notes_78 rfl ?_
    refine r_iload_n (μ := mX5_notes) (pc := 79) dX5_notes_79 rfl rfl ?_
    refine r_imul (μ := mX5_notes) (pc := 80) dX5_notes_80 ?_
    refine r_iadd (μ := mX5_notes) (pc := 81) dX5_notes_81 ?_
    refine r_iconst (μ := mX5_notes) (pc := 82) (v := nI 1) dX5_notes_82 rfl ?_
    refine r_iadd (μ := mX5_notes) (pc := 83) dX5_notes_83 ?_
    obtain ⟨n84, hx84, h⟩ := h
    refine r_iald (μ := mX5_notes) (pc := 84) dX5_notes_84 rfl hx84 ?_
    obtain ⟨n85, hx85, h⟩ := h
    refine r_iast (μ := mX5_notes) (pc := 85) dX5_notes_85 rfl hx85 ?_
    refine nm_S (fun S85 eS85 => ?_)
    have h := h S85 eS85
    refine r_iinc (μ := mX5_notes) (pc := 86) (y := nI 1) (ls' := [some (.ref 7), some (.int i1), some (.int (i2 + (nI 1)))]) dX5_notes_86 rfl rfl (Nat.le_of_ble_eq_true rfl) rfl rfl ?_
    refine r_goto (μ := mX5_notes) (pc := 89) (tgt := 57) dX5_notes_89 (by decide) ?_
    exact h

set_option maxRecDepth 20000 in
theorem bX5_later_0 {G : Gl} {l : Launch} {d : Nat} {S : Sg} {P : Int32 → Sg → Prop} (i1 : Int32) (i2 : Int32)
    (h : Ct G l mX5_belongers d [.ref 7, .int i1, .int i2] S (QI (fun r4 T4 => Ct G l mX5_votesIn d [.ref 7, .int r4] T4 (QI (fun r7 T7 => Ct G l mX5_votesOut d [.ref 7, .int (nI 0), .int (i1 - (nI 1)), .int i1, .int i2] T7 (QI (fun r19 T19 => ∀ x22 : Int32, x22 = (if r7 ≤ r19 then (nI 0) else (nI 1)) → (Ct G l mX5_votesOut d [.ref 7, .int i2, .int ((T19.1 93 0) - (nI 1)), .int i1, .int i2] T19 (QI (fun r45 T45 => ∀ x48 : Int32, x48 = (if r7 ≤ r45 then (nI 0) else (nI 1)) → (∀ x65 : Int32, x65 = (if x22 = (nI 0) then (if (i2 - i1) ≤ (nI 0) then i1 else (i1 + (nI 1))) else (if i1 ≤ (nI 0) then i1 else (i1 - (nI 1)))) → (∀ x98 : Int32, x98 = (if x48 = (nI 0) then (if (i2 - i1) ≤ (nI 0) then i2 else (i2 - (nI 1))) else (if (T45.1 93 0) ≤ i2 then i2 else (i2 + (nI 1)))) → (∀ x138 : Int32, x138 = (if (i2 - i1) = (nI 1) then (if x22 = (nI 0) then (if x48 = (nI 0) then i2 else x98) else x98) else x98) → (P (((nI 10) * x65) + x138) T45)))))))))))))) :
    Ct G l mX5_later (d + 1) [.ref 7, .int i1, .int i2] S (QI P) := by
  show Ev G l mX5_later (d + 1) 0 [some (.ref 7), some (.int i1), some (.int i2), none, none, none, none, none, none] [] S (QI P)
  refine r_aload_n (μ := mX5_later) (pc := 0) dX5_later_0 rfl rfl ?_
  refine r_aload_n (μ := mX5_later) (pc := 1) dX5_later_1 rfl rfl ?_
  refine r_iload_n (μ := mX5_later) (pc := 2) dX5_later_2 rfl rfl ?_
  refine r_iload_n (μ := mX5_later) (pc := 3) dX5_later_3 rfl rfl ?_
  refine r_callV (μ := mX5_later) (pc := 4) (as := [.int i1, .int i2]) 5 cX5_140 dX5_later_4 rfl rfl (Nat.le_of_ble_eq_true rfl) rfl okX5_belongers (Nat.lt_succ_self d) (cat8 (n := 1) rfl (by decide)) rfl h (k_I (fun r4 T4 h => ?_))
  refine r_callV (μ := mX5_later) (pc := 7) (as := [.int r4]) 5 cX5_169 dX5_later_7 rfl rfl (Nat.le_of_ble_eq_true rfl) rfl okX5_votesIn (Nat.lt_succ_self d) (cat8 (n := 0) rfl (by decide)) rfl h (k_I (fun r7 T7 h => ?_))
  refine r_istore_n (μ := mX5_later) (pc := 10) (ls' := [some (.ref 7), some (.int i1), some (.int i2), some (.int r7), none, none, none, none, none]) dX5_later_10 rfl (Nat.le_of_ble_eq_true rfl) rfl rfl ?_
  refine r_iload_n (μ := mX5_later) (pc := 11) dX5_later_11 rfl rfl ?_
  refine r_aload_n (μ := mX5_later) (pc := 12) dX5_later_12 rfl rfl ?_
  refine r_iconst (μ := mX5_later) (pc := 13) (v := nI 0) dX5_later_13 rfl ?_
  refine r_iload_n (μ := mX5_later) (pc := 14) dX5_later_14 rfl rfl ?_
  refine r_iconst (μ := mX5_later) (pc := 15) (v := nI 1) dX5_later_15 rfl ?_
  refine r_isub (μ := mX5_later) (pc := 16) dX5_later_16 ?_
  refine r_iload_n (μ := mX5_later) (pc := 17) dX5_later_17 rfl rfl ?_
  refine r_iload_n (μ := mX5_later) (pc := 18) dX5_later_18 rfl rfl ?_
  refine r_callV (μ := mX5_later) (pc := 19) (as := [.int (nI 0), .int (i1 - (nI 1)), .int i1, .int i2]) 5 cX5_172 dX5_later_19 rfl rfl (Nat.le_of_ble_eq_true rfl) rfl okX5_votesOut (Nat.lt_succ_self d) (cat8 (n := 1) rfl (by decide)) rfl h (k_I (fun r19 T19 h => ?_))
  have J22 : ∀ x22 : Int32, x22 = (if r7 ≤ r19 then (nI 0) else (nI 1)) → Ev G l mX5_later (d + 1) 30 [some (.ref 7), some (.int i1), some (.int i2), some (.int r7), none, none, none, none, none] [.int x22] T19 (QI P) := by
    intro x22 e22
    have h := h x22 e22
    refine r_istore (μ := mX5_later) (pc := 30) (ls' := [some (.ref 7), some (.int i1), some (.int i2), some (.int r7), some (.int x22), none, none, none, none]) dX5_later_30 (Nat.le_of_ble_eq_true rfl) rfl rfl ?_
    refine r_iload_n (μ := mX5_later) (pc := 32) dX5_later_32 rfl rfl ?_
    refine r_aload_n (μ := mX5_later) (pc := 33) dX5_later_33 rfl rfl ?_
    refine r_iload_n (μ := mX5_later) (pc := 34) dX5_later_34 rfl rfl ?_
    refine r_aload_n (μ := mX5_later) (pc := 35) dX5_later_35 rfl rfl ?_
    refine g_R (μ := mX5_later) (pc := 36) (k' := 93) fX5_25 dX5_later_36 rfl rfl ?_
    refine r_iconst (μ := mX5_later) (pc := 39) (v := nI 0) dX5_later_39 rfl ?_
    refine r_iald (μ := mX5_later) (pc := 40) dX5_later_40 rfl (ix_nI (n := 0) (Nat.le_of_ble_eq_true rfl) (Nat.le_of_ble_eq_true rfl)) ?_
    refine r_iconst (μ := mX5_later) (pc := 41) (v := nI 1) dX5_later_41 rfl ?_
    refine r_isub (μ := mX5_later) (pc := 42) dX5_later_42 ?_
    refine r_iload_n (μ := mX5_later) (pc := 43) dX5_later_43 rfl rfl ?_
    refine r_iload_n (μ := mX5_later) (pc := 44) dX5_later_44 rfl rfl ?_
    refine r_callV (μ := mX5_later) (pc := 45) (as := [.int i2, .int ((T19.1 93 0) - (nI 1)), .int i1, .int i2]) 5 cX5_172 dX5_later_45 rfl rfl (Nat.le_of_ble_eq_true rfl) rfl okX5_votesOut (Nat.lt_succ_self d) (cat8 (n := 1) rfl (by decide)) rfl h (k_I (fun r45 T45 h => ?_))
    have J48 : ∀ x48 : Int32, x48 = (if r7 ≤ r45 then (nI 0) else (nI 1)) → Ev G l mX5_later (d + 1) 56 [some (.ref 7), some (.int i1), some (.int i2), some (.int r7), some (.int x22), none, none, none, none] [.int x48] T45 (QI P) := by
      intro x48 e48
      have h := h x48 e48
      refine r_istore (μ := mX5_later) (pc := 56) (ls' := [some (.ref 7), some (.int i1), some (.int i2), some (.int r7), some (.int x22), some (.int x48), none, none, none]) dX5_later_56 (Nat.le_of_ble_eq_true rfl) rfl rfl ?_
      refine r_iload_n (μ := mX5_later) (pc := 58) dX5_later_58 rfl rfl ?_
      refine r_iload_n (μ := mX5_later) (pc := 59) dX5_later_59 rfl rfl ?_
      refine r_isub (μ := mX5_later) (pc := 60) dX5_later_60 ?_
      refine r_istore (μ := mX5_later) (pc := 61) (ls' := [some (.ref 7), some (.int i1), some (.int i2), some (.int r7), some (.int x22), some (.int x48), some (.int (i2 - i1)), none, none]) dX5_later_61 (Nat.le_of_ble_eq_true rfl) rfl rfl ?_
      refine r_iload (μ := mX5_later) (pc := 63) dX5_later_63 rfl ?_
      have J65 : ∀ x65 : Int32, x65 = (if x22 = (nI 0) then (if (i2 - i1) ≤ (nI 0) then i1 else (i1 + (nI 1))) else (if i1 ≤ (nI 0) then i1 else (i1 - (nI 1)))) → Ev G l mX5_later (d + 1) 94 [some (.ref 7), some (.int i1), some (.int i2), some (.int r7), some (.int x22), some (.int x48), some (.int (i2 - i1)), none, none] [.int x65] T45 (QI P) := by
        intro x65 e65
        have h := h x65 e65
        refine r_istore (μ := mX5_later) (pc := 94) (ls' := [some (.ref 7), some (.int i1), some (.int i2), some (.int r7), some (.int x22), some (.int x48), some (.int (i2 - i1)), some (.int x65), none]) dX5_later_94 (Nat.le_of_ble_eq_true rfl) rfl rfl ?_
        refine r_iload (μ := mX5_later) (pc := 96) dX5_later_96 rfl ?_
        have J98 : ∀ x98 : Int32, x98 = (if x48 = (nI 0) then (if (i2 - i1) ≤ (nI 0) then i2 else (i2 - (nI 1))) else (if (T45.1 93 0) ≤ i2 then i2 else (i2 + (nI 1)))) → Ev G l mX5_later (d + 1) 133 [some (.ref 7), some (.int i1), some (.int i2), some (.int r7), some (.int x22), some (.int x48), some (.int (i2 - i1)), some (.int x65), none] [.int x98] T45 (QI P) := by
          intro x98 e98
          have h := h x98 e98
          refine r_istore (μ := mX5_later) (pc := 133) (ls' := [some (.ref 7), some (.int i1), some (.int i2), some (.int r7), some (.int x22), some (.int x48), some (.int (i2 - i1)), some (.int x65), some (.int x98)]) dX5_later_133 (Nat.le_of_ble_eq_true rfl) rfl rfl ?_
          refine r_iload (μ := mX5_later) (pc := 135) dX5_later_135 rfl ?_
          refine r_iconst (μ := mX5_later) (pc := 137) (v := nI 1) dX5_later_137 rfl ?_
          have J138 : ∀ x138 : Int32, x138 = (if (i2 - i1) = (nI 1) then (if x22 = (nI 0) then (if x48 = (nI 0) then i2 else x98) else x98) else x98) → Ev G l mX5_later (d + 1) 157 [some (.ref 7), some (.int i1), some (.int i2), some (.int r7), some (.int x22), some (.int x48), some (.int (i2 - i1)), some (.int x65), some (.int x98)] [.int x138] T45 (QI P) := by
            intro x138 e138
            have h := h x138 e138
            refine r_istore (μ := mX5_later) (pc := 157) (ls' := [some (.ref 7), some (.int i1), some (.int i2), some (.int r7), some (.int x22), some (.int x48), some (.int (i2 - i1)), some (.int x65), some (.int x138)]) dX5_later_157 (Nat.le_of_ble_eq_true rfl) rfl rfl ?_
            refine r_bipush (μ := mX5_later) (pc := 159) (v := nI 10) dX5_later_159 rfl ?_
            refine r_iload (μ := mX5_later) (pc := 161) dX5_later_161 rfl ?_
            refine r_imul (μ := mX5_later) (pc := 163) dX5_later_163 ?_
            refine r_iload (μ := mX5_later) (pc := 164) dX5_later_164 rfl ?_
            refine r_iadd (μ := mX5_later) (pc := 166) dX5_later_166 ?_
            exact r_iret (μ := mX5_later) (pc := 167) dX5_later_167 rfl h
          refine r_icmp_ne (μ := mX5_later) (pc := 138) (tgt := 155) dX5_later_138 (by decide) ⟨fun q138 => ?_, fun q138 => ?_⟩
          · refine r_iload (μ := mX5_later) (pc := 155) dX5_later_155 rfl ?_
            exact J138 _ (by first | (rw [if_neg q138]; done) | simp only [if_neg q138])
          · refine r_iload (μ := mX5_later) (pc := 141) dX5_later_141 rfl ?_
            refine r_if_ne (μ := mX5_later) (pc := 143) (tgt := 155) dX5_later_143 (by decide) ⟨fun q143 => ?_, fun q143 => ?_⟩
            · refine r_iload (μ := mX5_later) (pc := 155) dX5_later_155 rfl ?_
              exact J138 _ (by first | (rw [if_pos q138, if_neg q143]; done) | simp only [if_pos q138, if_neg q143])
            · refine r_iload (μ := mX5_later) (pc := 146) dX5_later_146 rfl ?_
              refine r_if_ne (μ := mX5_later) (pc := 148) (tgt := 155) dX5_later_148 (by decide) ⟨fun q148 => ?_, fun q148 => ?_⟩
              · refine r_iload (μ := mX5_later) (pc := 155) dX5_later_155 rfl ?_
                exact J138 _ (by first | (rw [if_pos q138, if_pos q143, if_neg q148]; done) | simp only [if_pos q138, if_pos q143, if_neg q148])
              · refine r_iload_n (μ := mX5_later) (pc := 151) dX5_later_151 rfl rfl ?_
                refine r_goto (μ := mX5_later) (pc := 152) (tgt := 157) dX5_later_152 (by decide) ?_
                exact J138 _ (by first | (rw [if_pos q138, if_pos q143, if_pos q148]; done) | simp only [if_pos q138, if_pos q143, if_pos q148])
        refine r_if_eq (μ := mX5_later) (pc := 98) (tgt := 121) dX5_later_98 (by decide) ⟨fun q98 => ?_, fun q98 => ?_⟩
        · refine r_iload (μ := mX5_later) (pc := 121) dX5_later_121 rfl ?_
          refine r_if_le (μ := mX5_later) (pc := 123) (tgt := 132) dX5_later_123 (by decide) ⟨fun q123 => ?_, fun q123 => ?_⟩
          · refine r_iload_n (μ := mX5_later) (pc := 132) dX5_later_132 rfl rfl ?_
            exact J98 _ (by first | (rw [if_pos q98, if_pos q123]; done) | simp only [if_pos q98, if_pos q123])
          · refine r_iload_n (μ := mX5_later) (pc := 126) dX5_later_126 rfl rfl ?_
            refine r_iconst (μ := mX5_later) (pc := 127) (v := nI 1) dX5_later_127 rfl ?_
            refine r_isub (μ := mX5_later) (pc := 128) dX5_later_128 ?_
            refine r_goto (μ := mX5_later) (pc := 129) (tgt := 133) dX5_later_129 (by decide) ?_
            exact J98 _ (by first | (rw [if_pos q98, if_neg q123]; done) | simp only [if_pos q98, if_neg q123])
        · refine r_iload_n (μ := mX5_later) (pc := 101) dX5_later_101 rfl rfl ?_
          refine r_aload_n (μ := mX5_later) (pc := 102) dX5_later_102 rfl rfl ?_
          refine g_R (μ := mX5_later) (pc := 103) (k' := 93) fX5_25 dX5_later_103 rfl rfl ?_
          refine r_iconst (μ := mX5_later) (pc := 106) (v := nI 0) dX5_later_106 rfl ?_
          refine r_iald (μ := mX5_later) (pc := 107) dX5_later_107 rfl (ix_nI (n := 0) (Nat.le_of_ble_eq_true rfl) (Nat.le_of_ble_eq_true rfl)) ?_
          refine r_icmp_ge (μ := mX5_later) (pc := 108) (tgt := 117) dX5_later_108 (by decide) ⟨fun q108 => ?_, fun q108 => ?_⟩
          · refine r_iload_n (μ := mX5_later) (pc := 117) dX5_later_117 rfl rfl ?_
            refine r_goto (μ := mX5_later) (pc := 118) (tgt := 133) dX5_later_118 (by decide) ?_
            exact J98 _ (by first | (rw [if_neg q98, if_pos q108]; done) | simp only [if_neg q98, if_pos q108])
          · refine r_iload_n (μ := mX5_later) (pc := 111) dX5_later_111 rfl rfl ?_
            refine r_iconst (μ := mX5_later) (pc := 112) (v := nI 1) dX5_later_112 rfl ?_
            refine r_iadd (μ := mX5_later) (pc := 113) dX5_later_113 ?_
            refine r_goto (μ := mX5_later) (pc := 114) (tgt := 133) dX5_later_114 (by decide) ?_
            exact J98 _ (by first | (rw [if_neg q98, if_neg q108]; done) | simp only [if_neg q98, if_neg q108])
      refine r_if_eq (μ := mX5_later) (pc := 65) (tgt := 82) dX5_later_65 (by decide) ⟨fun q65 => ?_, fun q65 => ?_⟩
      · refine r_iload (μ := mX5_later) (pc := 82) dX5_later_82 rfl ?_
        refine r_if_le (μ := mX5_later) (pc := 84) (tgt := 93) dX5_later_84 (by decide) ⟨fun q84 => ?_, fun q84 => ?_⟩
        · refine r_iload_n (μ := mX5_later) (pc := 93) dX5_later_93 rfl rfl ?_
          exact J65 _ (by first | (rw [if_pos q65, if_pos q84]; done) | simp only [if_pos q65, if_pos q84])
        · refine r_iload_n (μ := mX5_later) (pc := 87) dX5_later_87 rfl rfl ?_
          refine r_iconst (μ := mX5_later) (pc := 88) (v := nI 1) dX5_later_88 rfl ?_
          refine r_iadd (μ := mX5_later) (pc := 89) dX5_later_89 ?_
          refine r_goto (μ := mX5_later) (pc := 90) (tgt := 94) dX5_later_90 (by decide) ?_
          exact J65 _ (by first | (rw [if_pos q65, if_neg q84]; done) | simp only [if_pos q65, if_neg q84])
      · refine r_iload_n (μ := mX5_later) (pc := 68) dX5_later_68 rfl rfl ?_
        refine r_if_le (μ := mX5_later) (pc := 69) (tgt := 78) dX5_later_69 (by decide) ⟨fun q69 => ?_, fun q69 => ?_⟩
        · refine r_iload_n (μ := mX5_later) (pc := 78) dX5_later_78 rfl rfl ?_
          refine r_goto (μ := mX5_later) (pc := 79) (tgt := 94) dX5_later_79 (by decide) ?_
          exact J65 _ (by first | (rw [if_neg q65, if_pos q69]; done) | simp only [if_neg q65, if_pos q69])
        · refine r_iload_n (μ := mX5_later) (pc := 72) dX5_later_72 rfl rfl ?_
          refine r_iconst (μ := mX5_later) (pc := 73) (v := nI 1) dX5_later_73 rfl ?_
          refine r_isub (μ := mX5_later) (pc := 74) dX5_later_74 ?_
          refine r_goto (μ := mX5_later) (pc := 75) (tgt := 94) dX5_later_75 (by decide) ?_
          exact J65 _ (by first | (rw [if_neg q65, if_neg q69]; done) | simp only [if_neg q65, if_neg q69])
    refine r_icmp_le (μ := mX5_later) (pc := 48) (tgt := 55) dX5_later_48 (by decide) ⟨fun q48 => ?_, fun q48 => ?_⟩
    · refine r_iconst (μ := mX5_later) (pc := 55) (v := nI 0) dX5_later_55 rfl ?_
      exact J48 _ (by first | (rw [if_pos q48]; done) | simp only [if_pos q48])
    · refine r_iconst (μ := mX5_later) (pc := 51) (v := nI 1) dX5_later_51 rfl ?_
      refine r_goto (μ := mX5_later) (pc := 52) (tgt := 56) dX5_later_52 (by decide) ?_
      exact J48 _ (by first | (rw [if_neg q48]; done) | simp only [if_neg q48])
  refine r_icmp_le (μ := mX5_later) (pc := 22) (tgt := 29) dX5_later_22 (by decide) ⟨fun q22 => ?_, fun q22 => ?_⟩
  · refine r_iconst (μ := mX5_later) (pc := 29) (v := nI 0) dX5_later_29 rfl ?_
    exact J22 _ (by first | (rw [if_pos q22]; done) | simp only [if_pos q22])
  · refine r_iconst (μ := mX5_later) (pc := 25) (v := nI 1) dX5_later_25 rfl ?_
    refine r_goto (μ := mX5_later) (pc := 26) (tgt := 30) dX5_later_26 (by decide) ?_
    exact J22 _ (by first | (rw [if_neg q22]; done) | simp only [if_neg q22])

set_option maxRecDepth 20000 in
theorem bX5_ages_0 {G : Gl} {l : Launch} {d : Nat} {S : Sg} {P : Sg → Prop} 
    (h : Ct G l mX5_later d [.ref 7, .int (S.1 93 1), .int (S.1 93 2)] S (QI (fun r13 T13 => ∀ S26 : Sg, S26 = (u2 T13.1 93 1 (r13 / (nI 10)), T13.2) → (∀ S36 : Sg, S36 = (u2 S26.1 93 2 (r13 - r13 / (nI 10) * (nI 10)), S26.2) → (∀ S47 : Sg, S47 = (u2 S36.1 93 8 ((S36.1 93 8) + (nI 1)), S36.2) → (P S47)))))) :
    Ct G l mX5_ages (d + 1) [.ref 7] S (QV P) := by
  show Ev G l mX5_ages (d + 1) 0 [some (.ref 7), none] [] S (QV P)
  refine r_aload_n (μ := mX5_ages) (pc := 0) dX5_ages_0 rfl rfl ?_
  refine r_aload_n (μ := mX5_ages) (pc := 1) dX5_ages_1 rfl rfl ?_
  refine g_R (μ := mX5_ages) (pc := 2) (k' := 93) fX5_25 dX5_ages_2 rfl rfl ?_
  refine r_iconst (μ := mX5_ages) (pc := 5) (v := nI 1) dX5_ages_5 rfl ?_
  refine r_iald (μ := mX5_ages) (pc := 6) dX5_ages_6 rfl (ix_nI (n := 1) (Nat.le_of_ble_eq_true rfl) (Nat.le_of_ble_eq_true rfl)) ?_
  refine r_aload_n (μ := mX5_ages) (pc := 7) dX5_ages_7 rfl rfl ?_
  refine g_R (μ := mX5_ages) (pc := 8) (k' := 93) fX5_25 dX5_ages_8 rfl rfl ?_
  refine r_iconst (μ := mX5_ages) (pc := 11) (v := nI 2) dX5_ages_11 rfl ?_
  refine r_iald (μ := mX5_ages) (pc := 12) dX5_ages_12 rfl (ix_nI (n := 2) (Nat.le_of_ble_eq_true rfl) (Nat.le_of_ble_eq_true rfl)) ?_
  refine r_callV (μ := mX5_ages) (pc := 13) (as := [.int (S.1 93 1), .int (S.1 93 2)]) 5 cX5_183 dX5_ages_13 rfl rfl (Nat.le_of_ble_eq_true rfl) rfl okX5_later (Nat.lt_succ_self d) (cat8 (n := 0) rfl (by decide)) rfl h (k_I (fun r13 T13 h => ?_))
  refine r_istore_n (μ := mX5_ages) (pc := 16) (ls' := [some (.ref 7), some (.int r13)]) dX5_ages_16 rfl (Nat.le_of_ble_eq_true rfl) rfl rfl ?_
  refine r_aload_n (μ := mX5_ages) (pc := 17) dX5_ages_17 rfl rfl ?_
  refine g_R (μ := mX5_ages) (pc := 18) (k' := 93) fX5_25 dX5_ages_18 rfl rfl ?_
  refine r_iconst (μ := mX5_ages) (pc := 21) (v := nI 1) dX5_ages_21 rfl ?_
  refine r_iload_n (μ := mX5_ages) (pc := 22) dX5_ages_22 rfl rfl ?_
  refine r_bipush (μ := mX5_ages) (pc := 23) (v := nI 10) dX5_ages_23 rfl ?_
  refine r_idiv (μ := mX5_ages) (pc := 25) dX5_ages_25 (by decide) ?_
  refine r_iast (μ := mX5_ages) (pc := 26) dX5_ages_26 rfl (ix_nI (n := 1) (Nat.le_of_ble_eq_true rfl) (Nat.le_of_ble_eq_true rfl)) ?_
  refine nm_S (fun S26 eS26 => ?_)
  have h := h S26 eS26
  refine r_aload_n (μ := mX5_ages) (pc := 27) dX5_ages_27 rfl rfl ?_
  refine g_R (μ := mX5_ages) (pc := 28) (k' := 93) fX5_25 dX5_ages_28 rfl rfl ?_
  refine r_iconst (μ := mX5_ages) (pc := 31) (v := nI 2) dX5_ages_31 rfl ?_
  refine r_iload_n (μ := mX5_ages) (pc := 32) dX5_ages_32 rfl rfl ?_
  refine r_bipush (μ := mX5_ages) (pc := 33) (v := nI 10) dX5_ages_33 rfl ?_
  refine r_irem (μ := mX5_ages) (pc := 35) dX5_ages_35 (by decide) ?_
  refine r_iast (μ := mX5_ages) (pc := 36) dX5_ages_36 rfl (ix_nI (n := 2) (Nat.le_of_ble_eq_true rfl) (Nat.le_of_ble_eq_true rfl)) ?_
  refine nm_S (fun S36 eS36 => ?_)
  have h := h S36 eS36
  refine r_aload_n (μ := mX5_ages) (pc := 37) dX5_ages_37 rfl rfl ?_
  refine g_R (μ := mX5_ages) (pc := 38) (k' := 93) fX5_25 dX5_ages_38 rfl rfl ?_
  refine r_bipush (μ := mX5_ages) (pc := 41) (v := nI 8) dX5_ages_41 rfl ?_
  refine r_dup2_11 (μ := mX5_ages) (pc := 43) dX5_ages_43 rfl rfl ?_
  refine r_iald (μ := mX5_ages) (pc := 44) dX5_ages_44 rfl (ix_nI (n := 8) (Nat.le_of_ble_eq_true rfl) (Nat.le_of_ble_eq_true rfl)) ?_
  refine r_iconst (μ := mX5_ages) (pc := 45) (v := nI 1) dX5_ages_45 rfl ?_
  refine r_iadd (μ := mX5_ages) (pc := 46) dX5_ages_46 ?_
  refine r_iast (μ := mX5_ages) (pc := 47) dX5_ages_47 rfl (ix_nI (n := 8) (Nat.le_of_ble_eq_true rfl) (Nat.le_of_ble_eq_true rfl)) ?_
  refine nm_S (fun S47 eS47 => ?_)
  have h := h S47 eS47
  exact r_vret (μ := mX5_ages) (pc := 48) dX5_ages_48 rfl h

set_option maxRecDepth 20000 in
theorem bX5_year_0 {G : Gl} {l : Launch} {d : Nat} {S : Sg} {P : Int32 → Sg → Prop} 
    (h : Ct G l mX5_are d [.ref 7] S (QI (fun r1 T1 => (¬ r1 = (nI 0) → (¬ (T1.1 93 9) = (nI 40) → Ct G l mX5_notes d [.ref 7] T1 (QV (fun T26 => Ct G l mX5_ages d [.ref 7] T26 (QV (fun T30 => P ((T30.1 93 2) - (T30.1 93 1)) T30))))) ∧ ((T1.1 93 9) = (nI 40) → P (-2) T1)) ∧ (r1 = (nI 0) → P (-4) T1)))) :
    Ct G l mX5_year (d + 1) [.ref 7] S (QI P) := by
  show Ev G l mX5_year (d + 1) 0 [some (.ref 7)] [] S (QI P)
  refine r_aload_n (μ := mX5_year) (pc := 0) dX5_year_0 rfl rfl ?_
  refine r_callV (μ := mX5_year) (pc := 1) (as := []) 5 cX5_176 dX5_year_1 rfl rfl (Nat.le_of_ble_eq_true rfl) rfl okX5_are (Nat.lt_succ_self d) (cat8 (n := 0) rfl (by decide)) rfl h (k_I (fun r1 T1 h => ?_))
  refine r_if_ne (μ := mX5_year) (pc := 4) (tgt := 10) dX5_year_4 (by decide) ⟨fun q4 => ?_, fun q4 => ?_⟩
  · have h := h.1 q4
    refine r_aload_n (μ := mX5_year) (pc := 10) dX5_year_10 rfl rfl ?_
    refine g_R (μ := mX5_year) (pc := 11) (k' := 93) fX5_25 dX5_year_11 rfl rfl ?_
    refine r_bipush (μ := mX5_year) (pc := 14) (v := nI 9) dX5_year_14 rfl ?_
    refine r_iald (μ := mX5_year) (pc := 16) dX5_year_16 rfl (ix_nI (n := 9) (Nat.le_of_ble_eq_true rfl) (Nat.le_of_ble_eq_true rfl)) ?_
    refine r_bipush (μ := mX5_year) (pc := 17) (v := nI 40) dX5_year_17 rfl ?_
    refine r_icmp_ne (μ := mX5_year) (pc := 19) (tgt := 25) dX5_year_19 (by decide) ⟨fun q19 => ?_, fun q19 => ?_⟩
    · have h := h.1 q19
      refine r_aload_n (μ := mX5_year) (pc := 25) dX5_year_25 rfl rfl ?_
      refine r_callV (μ := mX5_year) (pc := 26) (as := []) 5 cX5_186 dX5_year_26 rfl rfl (Nat.le_of_ble_eq_true rfl) rfl okX5_notes (Nat.lt_succ_self d) (cat8 (n := 0) rfl (by decide)) rfl h (k_V (fun T26 h => ?_))
      refine r_aload_n (μ := mX5_year) (pc := 29) dX5_year_29 rfl rfl ?_
      refine r_callV (μ := mX5_year) (pc := 30) (as := []) 5 cX5_189 dX5_year_30 rfl rfl (Nat.le_of_ble_eq_true rfl) rfl okX5_ages (Nat.lt_succ_self d) (cat8 (n := 0) rfl (by decide)) rfl h (k_V (fun T30 h => ?_))
      refine r_aload_n (μ := mX5_year) (pc := 33) dX5_year_33 rfl rfl ?_
      refine g_R (μ := mX5_year) (pc := 34) (k' := 93) fX5_25 dX5_year_34 rfl rfl ?_
      refine r_iconst (μ := mX5_year) (pc := 37) (v := nI 2) dX5_year_37 rfl ?_
      refine r_iald (μ := mX5_year) (pc := 38) dX5_year_38 rfl (ix_nI (n := 2) (Nat.le_of_ble_eq_true rfl) (Nat.le_of_ble_eq_true rfl)) ?_
      refine r_aload_n (μ := mX5_year) (pc := 39) dX5_year_39 rfl rfl ?_
      refine g_R (μ := mX5_year) (pc := 40) (k' := 93) fX5_25 dX5_year_40 rfl rfl ?_
      refine r_iconst (μ := mX5_year) (pc := 43) (v := nI 1) dX5_year_43 rfl ?_
      refine r_iald (μ := mX5_year) (pc := 44) dX5_year_44 rfl (ix_nI (n := 1) (Nat.le_of_ble_eq_true rfl) (Nat.le_of_ble_eq_true rfl)) ?_
      refine r_isub (μ := mX5_year) (pc := 45) dX5_year_45 ?_
      exact r_iret (μ := mX5_year) (pc := 46) dX5_year_46 rfl h
    · have h := h.2 q19
      refine r_bipush (μ := mX5_year) (pc := 22) (v := (-2)) dX5_year_22 rfl ?_
      exact r_iret (μ := mX5_year) (pc := 24) dX5_year_24 rfl h
  · have h := h.2 q4
    refine r_bipush (μ := mX5_year) (pc := 7) (v := (-4)) dX5_year_7 rfl ?_
    exact r_iret (μ := mX5_year) (pc := 9) dX5_year_9 rfl h

set_option maxRecDepth 20000 in
theorem bX5_step_0 {G : Gl} {l : Launch} {d : Nat} {S : Sg} {P : Int32 → Sg → Prop} (i1 : Int32) (i2 : Int32)
    (h : Ct G l mX5_in d [.int i1, .int (nI 0), .int (nI 1)] S (QI (fun r3 T3 => (r3 = (nI 0) → P (-1) T3) ∧ (¬ (r3 = (nI 0)) → (i2 = (nI 1) → Ev G l mX5_step (d + 1) 21 [some (.ref 7), some (.int i1), some (.int i2), none, none] [] T3 (QI P)) ∧ (¬ (i2 = (nI 1)) → (i2 = (-1) → Ev G l mX5_step (d + 1) 21 [some (.ref 7), some (.int i1), some (.int i2), none, none] [] T3 (QI P)) ∧ (¬ (i2 = (-1)) → P (-1) T3)))))) :
    Ct G l mX5_step (d + 1) [.ref 7, .int i1, .int i2] S (QI P) := by
  show Ev G l mX5_step (d + 1) 0 [some (.ref 7), some (.int i1), some (.int i2), none, none] [] S (QI P)
  refine r_iload_n (μ := mX5_step) (pc := 0) dX5_step_0 rfl rfl ?_
  refine r_iconst (μ := mX5_step) (pc := 1) (v := nI 0) dX5_step_1 rfl ?_
  refine r_iconst (μ := mX5_step) (pc := 2) (v := nI 1) dX5_step_2 rfl ?_
  refine r_callS (μ := mX5_step) (pc := 3) (as := [.int i1, .int (nI 0), .int (nI 1)]) cX5_73 dX5_step_3 rfl okX5_in (Nat.lt_succ_self d) (cat8 (n := 0) rfl (by decide)) rfl h (k_I (fun r3 T3 h => ?_))
  refine r_if_eq (μ := mX5_step) (pc := 6) (tgt := 19) dX5_step_6 (by decide) ⟨fun q6 => ?_, fun q6 => ?_⟩
  · have h := h.1 q6
    refine r_iconst (μ := mX5_step) (pc := 19) (v := (-1)) dX5_step_19 rfl ?_
    exact r_iret (μ := mX5_step) (pc := 20) dX5_step_20 rfl h
  · have h := h.2 q6
    refine r_iload_n (μ := mX5_step) (pc := 9) dX5_step_9 rfl rfl ?_
    refine r_iconst (μ := mX5_step) (pc := 10) (v := nI 1) dX5_step_10 rfl ?_
    refine r_icmp_eq (μ := mX5_step) (pc := 11) (tgt := 21) dX5_step_11 (by decide) ⟨fun q11 => ?_, fun q11 => ?_⟩
    · have h := h.1 q11
      exact h
    · have h := h.2 q11
      refine r_iload_n (μ := mX5_step) (pc := 14) dX5_step_14 rfl rfl ?_
      refine r_iconst (μ := mX5_step) (pc := 15) (v := (-1)) dX5_step_15 rfl ?_
      refine r_icmp_eq (μ := mX5_step) (pc := 16) (tgt := 21) dX5_step_16 (by decide) ⟨fun q16 => ?_, fun q16 => ?_⟩
      · have h := h.1 q16
        exact h
      · have h := h.2 q16
        refine r_iconst (μ := mX5_step) (pc := 19) (v := (-1)) dX5_step_19 rfl ?_
        exact r_iret (μ := mX5_step) (pc := 20) dX5_step_20 rfl h

set_option maxRecDepth 20000 in
theorem bX5_step_21 {G : Gl} {l : Launch} {d : Nat} {S : Sg} {P : Int32 → Sg → Prop} (i1 : Int32) (i2 : Int32)
    (h : ∀ x28 : Int32, x28 = (if i1 = (nI 0) then i2 else (nI 0)) → (∀ x46 : Int32, x46 = (if i1 = (nI 1) then i2 else (nI 0)) → (Ct G l mX5_are d [.ref 7] S (QI (fun r58 T58 => (r58 = (nI 0) → P (-4) T58) ∧ (¬ (r58 = (nI 0)) → Ct G l mX5_areCoasts d [.ref 7, .int ((S.1 93 1) - x28), .int ((S.1 93 2) + x46)] T58 (QI (fun r68 T68 => (¬ r68 = (nI 0) → (¬ (T68.1 93 9) = (nI 40) → Ct G l mX5_notes d [.ref 7] T68 (QV (fun T93 => ∀ S102 : Sg, S102 = (u2 T93.1 93 1 ((S.1 93 1) - x28), T93.2) → (∀ S110 : Sg, S110 = (u2 S102.1 93 2 ((S.1 93 2) + x46), S102.2) → (P (((S.1 93 2) + x46) - ((S.1 93 1) - x28)) S110))))) ∧ ((T68.1 93 9) = (nI 40) → P (-2) T68)) ∧ (r68 = (nI 0) → P (-4) T68))))))))) :
    Ev G l mX5_step (d + 1) 21 [some (.ref 7), some (.int i1), some (.int i2), none, none] [] S (QI P) := by
  show Ev G l mX5_step (d + 1) 21 [some (.ref 7), some (.int i1), some (.int i2), none, none] [] S (QI P)
  refine r_aload_n (μ := mX5_step) (pc := 21) dX5_step_21 rfl rfl ?_
  refine g_R (μ := mX5_step) (pc := 22) (k' := 93) fX5_25 dX5_step_22 rfl rfl ?_
  refine r_iconst (μ := mX5_step) (pc := 25) (v := nI 1) dX5_step_25 rfl ?_
  refine r_iald (μ := mX5_step) (pc := 26) dX5_step_26 rfl (ix_nI (n := 1) (Nat.le_of_ble_eq_true rfl) (Nat.le_of_ble_eq_true rfl)) ?_
  refine r_iload_n (μ := mX5_step) (pc := 27) dX5_step_27 rfl rfl ?_
  have J28 : ∀ x28 : Int32, x28 = (if i1 = (nI 0) then i2 else (nI 0)) → Ev G l mX5_step (d + 1) 36 [some (.ref 7), some (.int i1), some (.int i2), none, none] [.int x28, .int (S.1 93 1)] S (QI P) := by
    intro x28 e28
    have h := h x28 e28
    refine r_isub (μ := mX5_step) (pc := 36) dX5_step_36 ?_
    refine r_istore_n (μ := mX5_step) (pc := 37) (ls' := [some (.ref 7), some (.int i1), some (.int i2), some (.int ((S.1 93 1) - x28)), none]) dX5_step_37 rfl (Nat.le_of_ble_eq_true rfl) rfl rfl ?_
    refine r_aload_n (μ := mX5_step) (pc := 38) dX5_step_38 rfl rfl ?_
    refine g_R (μ := mX5_step) (pc := 39) (k' := 93) fX5_25 dX5_step_39 rfl rfl ?_
    refine r_iconst (μ := mX5_step) (pc := 42) (v := nI 2) dX5_step_42 rfl ?_
    refine r_iald (μ := mX5_step) (pc := 43) dX5_step_43 rfl (ix_nI (n := 2) (Nat.le_of_ble_eq_true rfl) (Nat.le_of_ble_eq_true rfl)) ?_
    refine r_iload_n (μ := mX5_step) (pc := 44) dX5_step_44 rfl rfl ?_
    refine r_iconst (μ := mX5_step) (pc := 45) (v := nI 1) dX5_step_45 rfl ?_
    have J46 : ∀ x46 : Int32, x46 = (if i1 = (nI 1) then i2 else (nI 0)) → Ev G l mX5_step (d + 1) 54 [some (.ref 7), some (.int i1), some (.int i2), some (.int ((S.1 93 1) - x28)), none] [.int x46, .int (S.1 93 2)] S (QI P) := by
      intro x46 e46
      have h := h x46 e46
      refine r_iadd (μ := mX5_step) (pc := 54) dX5_step_54 ?_
      refine r_istore (μ := mX5_step) (pc := 55) (ls' := [some (.ref 7), some (.int i1), some (.int i2), some (.int ((S.1 93 1) - x28)), some (.int ((S.1 93 2) + x46))]) dX5_step_55 (Nat.le_of_ble_eq_true rfl) rfl rfl ?_
      refine r_aload_n (μ := mX5_step) (pc := 57) dX5_step_57 rfl rfl ?_
      refine r_callV (μ := mX5_step) (pc := 58) (as := []) 5 cX5_176 dX5_step_58 rfl rfl (Nat.le_of_ble_eq_true rfl) rfl okX5_are (Nat.lt_succ_self d) (cat8 (n := 0) rfl (by decide)) rfl h (k_I (fun r58 T58 h => ?_))
      refine r_if_eq (μ := mX5_step) (pc := 61) (tgt := 74) dX5_step_61 (by decide) ⟨fun q61 => ?_, fun q61 => ?_⟩
      · have h := h.1 q61
        refine r_bipush (μ := mX5_step) (pc := 74) (v := (-4)) dX5_step_74 rfl ?_
        exact r_iret (μ := mX5_step) (pc := 76) dX5_step_76 rfl h
      · have h := h.2 q61
        refine r_aload_n (μ := mX5_step) (pc := 64) dX5_step_64 rfl rfl ?_
        refine r_iload_n (μ := mX5_step) (pc := 65) dX5_step_65 rfl rfl ?_
        refine r_iload (μ := mX5_step) (pc := 66) dX5_step_66 rfl ?_
        refine r_callV (μ := mX5_step) (pc := 68) (as := [.int ((S.1 93 1) - x28), .int ((S.1 93 2) + x46)]) 5 cX5_192 dX5_step_68 rfl rfl (Nat.le_of_ble_eq_true rfl) rfl okX5_areCoasts (Nat.lt_succ_self d) (cat8 (n := 0) rfl (by decide)) rfl h (k_I (fun r68 T68 h => ?_))
        refine r_if_ne (μ := mX5_step) (pc := 71) (tgt := 77) dX5_step_71 (by decide) ⟨fun q71 => ?_, fun q71 => ?_⟩
        · have h := h.1 q71
          refine r_aload_n (μ := mX5_step) (pc := 77) dX5_step_77 rfl rfl ?_
          refine g_R (μ := mX5_step) (pc := 78) (k' := 93) fX5_25 dX5_step_78 rfl rfl ?_
          refine r_bipush (μ := mX5_step) (pc := 81) (v := nI 9) dX5_step_81 rfl ?_
          refine r_iald (μ := mX5_step) (pc := 83) dX5_step_83 rfl (ix_nI (n := 9) (Nat.le_of_ble_eq_true rfl) (Nat.le_of_ble_eq_true rfl)) ?_
          refine r_bipush (μ := mX5_step) (pc := 84) (v := nI 40) dX5_step_84 rfl ?_
          refine r_icmp_ne (μ := mX5_step) (pc := 86) (tgt := 92) dX5_step_86 (by decide) ⟨fun q86 => ?_, fun q86 => ?_⟩
          · have h := h.1 q86
            refine r_aload_n (μ := mX5_step) (pc := 92) dX5_step_92 rfl rfl ?_
            refine r_callV (μ := mX5_step) (pc := 93) (as := []) 5 cX5_186 dX5_step_93 rfl rfl (Nat.le_of_ble_eq_true rfl) rfl okX5_notes (Nat.lt_succ_self d) (cat8 (n := 0) rfl (by decide)) rfl h (k_V (fun T93 h => ?_))
            refine r_aload_n (μ := mX5_step) (pc := 96) dX5_step_96 rfl rfl ?_
            refine g_R (μ := mX5_step) (pc := 97) (k' := 93) fX5_25 dX5_step_97 rfl rfl ?_
            refine r_iconst (μ := mX5_step) (pc := 100) (v := nI 1) dX5_step_100 rfl ?_
            refine r_iload_n (μ := mX5_step) (pc := 101) dX5_step_101 rfl rfl ?_
            refine r_iast (μ := mX5_step) (pc := 102) dX5_step_102 rfl (ix_nI (n := 1) (Nat.le_of_ble_eq_true rfl) (Nat.le_of_ble_eq_true rfl)) ?_
            refine nm_S (fun S102 eS102 => ?_)
            have h := h S102 eS102
            refine r_aload_n (μ := mX5_step) (pc := 103) dX5_step_103 rfl rfl ?_
            refine g_R (μ := mX5_step) (pc := 104) (k' := 93) fX5_25 dX5_step_104 rfl rfl ?_
            refine r_iconst (μ := mX5_step) (pc := 107) (v := nI 2) dX5_step_107 rfl ?_
            refine r_iload (μ := mX5_step) (pc := 108) dX5_step_108 rfl ?_
            refine r_iast (μ := mX5_step) (pc := 110) dX5_step_110 rfl (ix_nI (n := 2) (Nat.le_of_ble_eq_true rfl) (Nat.le_of_ble_eq_true rfl)) ?_
            refine nm_S (fun S110 eS110 => ?_)
            have h := h S110 eS110
            refine r_iload (μ := mX5_step) (pc := 111) dX5_step_111 rfl ?_
            refine r_iload_n (μ := mX5_step) (pc := 113) dX5_step_113 rfl rfl ?_
            refine r_isub (μ := mX5_step) (pc := 114) dX5_step_114 ?_
            exact r_iret (μ := mX5_step) (pc := 115) dX5_step_115 rfl h
          · have h := h.2 q86
            refine r_bipush (μ := mX5_step) (pc := 89) (v := (-2)) dX5_step_89 rfl ?_
            exact r_iret (μ := mX5_step) (pc := 91) dX5_step_91 rfl h
        · have h := h.2 q71
          refine r_bipush (μ := mX5_step) (pc := 74) (v := (-4)) dX5_step_74 rfl ?_
          exact r_iret (μ := mX5_step) (pc := 76) dX5_step_76 rfl h
    refine r_icmp_ne (μ := mX5_step) (pc := 46) (tgt := 53) dX5_step_46 (by decide) ⟨fun q46 => ?_, fun q46 => ?_⟩
    · refine r_iconst (μ := mX5_step) (pc := 53) (v := nI 0) dX5_step_53 rfl ?_
      exact J46 _ (by first | (rw [if_neg q46]; done) | simp only [if_neg q46])
    · refine r_iload_n (μ := mX5_step) (pc := 49) dX5_step_49 rfl rfl ?_
      refine r_goto (μ := mX5_step) (pc := 50) (tgt := 54) dX5_step_50 (by decide) ?_
      exact J46 _ (by first | (rw [if_pos q46]; done) | simp only [if_pos q46])
  refine r_if_ne (μ := mX5_step) (pc := 28) (tgt := 35) dX5_step_28 (by decide) ⟨fun q28 => ?_, fun q28 => ?_⟩
  · refine r_iconst (μ := mX5_step) (pc := 35) (v := nI 0) dX5_step_35 rfl ?_
    exact J28 _ (by first | (rw [if_neg q28]; done) | simp only [if_neg q28])
  · refine r_iload_n (μ := mX5_step) (pc := 31) dX5_step_31 rfl rfl ?_
    refine r_goto (μ := mX5_step) (pc := 32) (tgt := 36) dX5_step_32 (by decide) ?_
    exact J28 _ (by first | (rw [if_pos q28]; done) | simp only [if_pos q28])

set_option maxRecDepth 20000 in
theorem bX5_walk_0 {G : Gl} {l : Launch} {d : Nat} {S : Sg} {P : Int32 → Sg → Prop} (i1 : Int32) (i2 : Int32)
    (h : Ct G l mX5_isOne d [.ref 7, .int i1] S (QI (fun r2 T2 => (r2 = (nI 0) → P (-1) T2) ∧ (¬ (r2 = (nI 0)) → Ct G l mX5_isCell d [.ref 7, .int i2] T2 (QI (fun r10 T10 => (¬ r10 = (nI 0) → ∃ n30 : Nat, ix (((nI 10) + ((nI 5) * i1)) + (nI 1)) n30 400 ∧ (Ct G l mX5_off d [.int (T10.1 93 n30), .int i2] T10 (QI (fun r32 T32 => (r32 = (nI 1) → (¬ (T32.1 93 9) = (nI 40) → Ct G l mX5_notes d [.ref 7] T32 (QV (fun T58 => ∀ S74 : Sg, S74 = (u2 T58.1 93 n30 i2, T58.2) → (Ct G l mX5_oneHas d [.ref 7, .int i1, .int (nI 5)] S74 (QI (fun r78 T78 => P r78 T78)))))) ∧ ((T32.1 93 9) = (nI 40) → P (-2) T32)) ∧ (¬ (r32 = (nI 1)) → P (-4) T32))))) ∧ (r10 = (nI 0) → P (-1) T10))))))) :
    Ct G l mX5_walk (d + 1) [.ref 7, .int i1, .int i2] S (QI P) := by
  show Ev G l mX5_walk (d + 1) 0 [some (.ref 7), some (.int i1), some (.int i2)] [] S (QI P)
  refine r_aload_n (μ := mX5_walk) (pc := 0) dX5_walk_0 rfl rfl ?_
  refine r_iload_n (μ := mX5_walk) (pc := 1) dX5_walk_1 rfl rfl ?_
  refine r_callV (μ := mX5_walk) (pc := 2) (as := [.int i1]) 5 cX5_150 dX5_walk_2 rfl rfl (Nat.le_of_ble_eq_true rfl) rfl okX5_isOne (Nat.lt_succ_self d) (cat8 (n := 0) rfl (by decide)) rfl h (k_I (fun r2 T2 h => ?_))
  refine r_if_eq (μ := mX5_walk) (pc := 5) (tgt := 16) dX5_walk_5 (by decide) ⟨fun q5 => ?_, fun q5 => ?_⟩
  · have h := h.1 q5
    refine r_iconst (μ := mX5_walk) (pc := 16) (v := (-1)) dX5_walk_16 rfl ?_
    exact r_iret (μ := mX5_walk) (pc := 17) dX5_walk_17 rfl h
  · have h := h.2 q5
    refine r_aload_n (μ := mX5_walk) (pc := 8) dX5_walk_8 rfl rfl ?_
    refine r_iload_n (μ := mX5_walk) (pc := 9) dX5_walk_9 rfl rfl ?_
    refine r_callV (μ := mX5_walk) (pc := 10) (as := [.int i2]) 5 cX5_195 dX5_walk_10 rfl rfl (Nat.le_of_ble_eq_true rfl) rfl okX5_isCell (Nat.lt_succ_self d) (cat8 (n := 0) rfl (by decide)) rfl h (k_I (fun r10 T10 h => ?_))
    refine r_if_ne (μ := mX5_walk) (pc := 13) (tgt := 18) dX5_walk_13 (by decide) ⟨fun q13 => ?_, fun q13 => ?_⟩
    · have h := h.1 q13
      refine r_aload_n (μ := mX5_walk) (pc := 18) dX5_walk_18 rfl rfl ?_
      refine g_R (μ := mX5_walk) (pc := 19) (k' := 93) fX5_25 dX5_walk_19 rfl rfl ?_
      refine r_bipush (μ := mX5_walk) (pc := 22) (v := nI 10) dX5_walk_22 rfl ?_
      refine r_iconst (μ := mX5_walk) (pc := 24) (v := nI 5) dX5_walk_24 rfl ?_
      refine r_iload_n (μ := mX5_walk) (pc := 25) dX5_walk_25 rfl rfl ?_
      refine r_imul (μ := mX5_walk) (pc := 26) dX5_walk_26 ?_
      refine r_iadd (μ := mX5_walk) (pc := 27) dX5_walk_27 ?_
      refine r_iconst (μ := mX5_walk) (pc := 28) (v := nI 1) dX5_walk_28 rfl ?_
      refine r_iadd (μ := mX5_walk) (pc := 29) dX5_walk_29 ?_
      obtain ⟨n30, hx30, h⟩ := h
      refine r_iald (μ := mX5_walk) (pc := 30) dX5_walk_30 rfl hx30 ?_
      refine r_iload_n (μ := mX5_walk) (pc := 31) dX5_walk_31 rfl rfl ?_
      refine r_callS (μ := mX5_walk) (pc := 32) (as := [.int (T10.1 93 n30), .int i2]) cX5_156 dX5_walk_32 rfl okX5_off (Nat.lt_succ_self d) (cat8 (n := 0) rfl (by decide)) rfl h (k_I (fun r32 T32 h => ?_))
      refine r_iconst (μ := mX5_walk) (pc := 35) (v := nI 1) dX5_walk_35 rfl ?_
      refine r_icmp_eq (μ := mX5_walk) (pc := 36) (tgt := 42) dX5_walk_36 (by decide) ⟨fun q36 => ?_, fun q36 => ?_⟩
      · have h := h.1 q36
        refine r_aload_n (μ := mX5_walk) (pc := 42) dX5_walk_42 rfl rfl ?_
        refine g_R (μ := mX5_walk) (pc := 43) (k' := 93) fX5_25 dX5_walk_43 rfl rfl ?_
        refine r_bipush (μ := mX5_walk) (pc := 46) (v := nI 9) dX5_walk_46 rfl ?_
        refine r_iald (μ := mX5_walk) (pc := 48) dX5_walk_48 rfl (ix_nI (n := 9) (Nat.le_of_ble_eq_true rfl) (Nat.le_of_ble_eq_true rfl)) ?_
        refine r_bipush (μ := mX5_walk) (pc := 49) (v := nI 40) dX5_walk_49 rfl ?_
        refine r_icmp_ne (μ := mX5_walk) (pc := 51) (tgt := 57) dX5_walk_51 (by decide) ⟨fun q51 => ?_, fun q51 => ?_⟩
        · have h := h.1 q51
          refine r_aload_n (μ := mX5_walk) (pc := 57) dX5_walk_57 rfl rfl ?_
          refine r_callV (μ := mX5_walk) (pc := 58) (as := []) 5 cX5_186 dX5_walk_58 rfl rfl (Nat.le_of_ble_eq_true rfl) rfl okX5_notes (Nat.lt_succ_self d) (cat8 (n := 0) rfl (by decide)) rfl h (k_V (fun T58 h => ?_))
          refine r_aload_n (μ := mX5_walk) (pc := 61) dX5_walk_61 rfl rfl ?_
          refine g_R (μ := mX5_walk) (pc := 62) (k' := 93) fX5_25 dX5_walk_62 rfl rfl ?_
          refine r_bipush (μ := mX5_walk) (pc := 65) (v := nI 10) dX5_walk_65 rfl ?_
          refine r_iconst (μ := mX5_walk) (pc := 67) (v := nI 5) dX5_walk_67 rfl ?_
          refine r_iload_n (μ := mX5_walk) (pc := 68) dX5_walk_68 rfl rfl ?_
          refine r_imul (μ := mX5_walk) (pc := 69) dX5_walk_69 ?_
          refine r_iadd (μ := mX5_walk) (pc := 70) dX5_walk_70 ?_
          refine r_iconst (μ := mX5_walk) (pc := 71) (v := nI 1) dX5_walk_71 rfl ?_
          refine r_iadd (μ := mX5_walk) (pc := 72) dX5_walk_72 ?_
          refine r_iload_n (μ := mX5_walk) (pc := 73) dX5_walk_73 rfl rfl ?_
          refine r_iast (μ := mX5_walk) (pc := 74) dX5_walk_74 rfl hx30 ?_
          refine nm_S (fun S74 eS74 => ?_)
          have h := h S74 eS74
          refine r_aload_n (μ := mX5_walk) (pc := 75) dX5_walk_75 rfl rfl ?_
          refine r_iload_n (μ := mX5_walk) (pc := 76) dX5_walk_76 rfl rfl ?_
          refine r_iconst (μ := mX5_walk) (pc := 77) (v := nI 5) dX5_walk_77 rfl ?_
          refine r_callV (μ := mX5_walk) (pc := 78) (as := [.int i1, .int (nI 5)]) 5 cX5_153 dX5_walk_78 rfl rfl (Nat.le_of_ble_eq_true rfl) rfl okX5_oneHas (Nat.lt_succ_self d) (cat8 (n := 0) rfl (by decide)) rfl h (k_I (fun r78 T78 h => ?_))
          exact r_iret (μ := mX5_walk) (pc := 81) dX5_walk_81 rfl h
        · have h := h.2 q51
          refine r_bipush (μ := mX5_walk) (pc := 54) (v := (-2)) dX5_walk_54 rfl ?_
          exact r_iret (μ := mX5_walk) (pc := 56) dX5_walk_56 rfl h
      · have h := h.2 q36
        refine r_bipush (μ := mX5_walk) (pc := 39) (v := (-4)) dX5_walk_39 rfl ?_
        exact r_iret (μ := mX5_walk) (pc := 41) dX5_walk_41 rfl h
    · have h := h.2 q13
      refine r_iconst (μ := mX5_walk) (pc := 16) (v := (-1)) dX5_walk_16 rfl ?_
      exact r_iret (μ := mX5_walk) (pc := 17) dX5_walk_17 rfl h

set_option maxRecDepth 20000 in
theorem bX5_undo_0 {G : Gl} {l : Launch} {d : Nat} {S : Sg} {P : Int32 → Sg → Prop} (i1 : Int32)
    (h : Ct G l mX5_in d [.int i1, .int (nI 0), .int (S.1 93 9)] S (QI (fun r9 T9 => (¬ r9 = (nI 0) → (((T9.1 93 9) - i1) ≤ (nI 0) → P ((T9.1 93 9) - i1) T9) ∧ (¬ (((T9.1 93 9) - i1) ≤ (nI 0)) → ∃ n49 : Nat, ix ((nI 40) + ((nI 9) * i1)) n49 400 ∧ (∀ S50 : Sg, S50 = (u2 T9.1 93 1 (T9.1 93 n49), T9.2) → (∃ n63 : Nat, ix (((nI 40) + ((nI 9) * i1)) + (nI 1)) n63 400 ∧ (∀ S64 : Sg, S64 = (u2 S50.1 93 2 (S50.1 93 n63), S50.2) → (∃ n78 : Nat, ix (((nI 40) + ((nI 9) * i1)) + (nI 2)) n78 400 ∧ (∀ S79 : Sg, S79 = (u2 S64.1 93 8 (S64.1 93 n78), S64.2) → (Ev G l mX5_undo (d + 1) 83 [some (.ref 7), some (.int i1), some (.int ((T9.1 93 9) - i1)), some (.int ((nI 40) + ((nI 9) * i1))), some (.int (nI 0))] [] S79 (QI P))))))))) ∧ (r9 = (nI 0) → P (-1) T9)))) :
    Ct G l mX5_undo (d + 1) [.ref 7, .int i1] S (QI P) := by
  show Ev G l mX5_undo (d + 1) 0 [some (.ref 7), some (.int i1), none, none, none] [] S (QI P)
  refine r_iload_n (μ := mX5_undo) (pc := 0) dX5_undo_0 rfl rfl ?_
  refine r_iconst (μ := mX5_undo) (pc := 1) (v := nI 0) dX5_undo_1 rfl ?_
  refine r_aload_n (μ := mX5_undo) (pc := 2) dX5_undo_2 rfl rfl ?_
  refine g_R (μ := mX5_undo) (pc := 3) (k' := 93) fX5_25 dX5_undo_3 rfl rfl ?_
  refine r_bipush (μ := mX5_undo) (pc := 6) (v := nI 9) dX5_undo_6 rfl ?_
  refine r_iald (μ := mX5_undo) (pc := 8) dX5_undo_8 rfl (ix_nI (n := 9) (Nat.le_of_ble_eq_true rfl) (Nat.le_of_ble_eq_true rfl)) ?_
  refine r_callS (μ := mX5_undo) (pc := 9) (as := [.int i1, .int (nI 0), .int (S.1 93 9)]) cX5_73 dX5_undo_9 rfl okX5_in (Nat.lt_succ_self d) (cat8 (n := 0) rfl (by decide)) rfl h (k_I (fun r9 T9 h => ?_))
  refine r_if_ne (μ := mX5_undo) (pc := 12) (tgt := 17) dX5_undo_12 (by decide) ⟨fun q12 => ?_, fun q12 => ?_⟩
  · have h := h.1 q12
    refine r_aload_n (μ := mX5_undo) (pc := 17) dX5_undo_17 rfl rfl ?_
    refine g_R (μ := mX5_undo) (pc := 18) (k' := 93) fX5_25 dX5_undo_18 rfl rfl ?_
    refine r_bipush (μ := mX5_undo) (pc := 21) (v := nI 9) dX5_undo_21 rfl ?_
    refine r_iald (μ := mX5_undo) (pc := 23) dX5_undo_23 rfl (ix_nI (n := 9) (Nat.le_of_ble_eq_true rfl) (Nat.le_of_ble_eq_true rfl)) ?_
    refine r_iload_n (μ := mX5_undo) (pc := 24) dX5_undo_24 rfl rfl ?_
    refine r_isub (μ := mX5_undo) (pc := 25) dX5_undo_25 ?_
    refine r_istore_n (μ := mX5_undo) (pc := 26) (ls' := [some (.ref 7), some (.int i1), some (.int ((T9.1 93 9) - i1)), none, none]) dX5_undo_26 rfl (Nat.le_of_ble_eq_true rfl) rfl rfl ?_
    refine r_iload_n (μ := mX5_undo) (pc := 27) dX5_undo_27 rfl rfl ?_
    refine r_if_le (μ := mX5_undo) (pc := 28) (tgt := 129) dX5_undo_28 (by decide) ⟨fun q28 => ?_, fun q28 => ?_⟩
    · have h := h.1 q28
      refine r_iload_n (μ := mX5_undo) (pc := 129) dX5_undo_129 rfl rfl ?_
      exact r_iret (μ := mX5_undo) (pc := 130) dX5_undo_130 rfl h
    · have h := h.2 q28
      refine r_bipush (μ := mX5_undo) (pc := 31) (v := nI 40) dX5_undo_31 rfl ?_
      refine r_bipush (μ := mX5_undo) (pc := 33) (v := nI 9) dX5_undo_33 rfl ?_
      refine r_iload_n (μ := mX5_undo) (pc := 35) dX5_undo_35 rfl rfl ?_
      refine r_imul (μ := mX5_undo) (pc := 36) dX5_undo_36 ?_
      refine r_iadd (μ := mX5_undo) (pc := 37) dX5_undo_37 ?_
      refine r_istore_n (μ := mX5_undo) (pc := 38) (ls' := [some (.ref 7), some (.int i1), some (.int ((T9.1 93 9) - i1)), some (.int ((nI 40) + ((nI 9) * i1))), none]) dX5_undo_38 rfl (Nat.le_of_ble_eq_true rfl) rfl rfl ?_
      refine r_aload_n (μ := mX5_undo) (pc := 39) dX5_undo_39 rfl rfl ?_
      refine g_R (μ := mX5_undo) (pc := 40) (k' := 93) fX5_25 dX5_undo_40 rfl rfl ?_
      refine r_iconst (μ := mX5_undo) (pc := 43) (v := nI 1) dX5_undo_43 rfl ?_
      refine r_aload_n (μ := mX5_undo) (pc := 44) dX5_undo_44 rfl rfl ?_
      refine g_R (μ := mX5_undo) (pc := 45) (k' := 93) fX5_25 dX5_undo_45 rfl rfl ?_
      refine r_iload_n (μ := mX5_undo) (pc := 48) dX5_undo_48 rfl rfl ?_
      obtain ⟨n49, hx49, h⟩ := h
      refine r_iald (μ := mX5_undo) (pc := 49) dX5_undo_49 rfl hx49 ?_
      refine r_iast (μ := mX5_undo) (pc := 50) dX5_undo_50 rfl (ix_nI (n := 1) (Nat.le_of_ble_eq_true rfl) (Nat.le_of_ble_eq_true rfl)) ?_
      refine nm_S (fun S50 eS50 => ?_)
      have h := h S50 eS50
      refine r_aload_n (μ := mX5_undo) (pc := 51) dX5_undo_51 rfl rfl ?_
      refine g_R (μ := mX5_undo) (pc := 52) (k' := 93) fX5_25 dX5_undo_52 rfl rfl ?_
      refine r_iconst (μ := mX5_undo) (pc := 55) (v := nI 2) dX5_undo_55 rfl ?_
      refine r_aload_n (μ := mX5_undo) (pc := 56) dX5_undo_56 rfl rfl ?_
      refine g_R (μ := mX5_undo) (pc := 57) (k' := 93) fX5_25 dX5_undo_57 rfl rfl ?_
      refine r_iload_n (μ := mX5_undo) (pc := 60) dX5_undo_60 rfl rfl ?_
      refine r_iconst (μ := mX5_undo) (pc := 61) (v := nI 1) dX5_undo_61 rfl ?_
      refine r_iadd (μ := mX5_undo) (pc := 62) dX5_undo_62 ?_
      obtain ⟨n63, hx63, h⟩ := h
      refine r_iald (μ := mX5_undo) (pc := 63) dX5_undo_63 rfl hx63 ?_
      refine r_iast (μ := mX5_undo) (pc := 64) dX5_undo_64 rfl (ix_nI (n := 2) (Nat.le_of_ble_eq_true rfl) (Nat.le_of_ble_eq_true rfl)) ?_
      refine nm_S (fun S64 eS64 => ?_)
      have h := h S64 eS64
      refine r_aload_n (μ := mX5_undo) (pc := 65) dX5_undo_65 rfl rfl ?_
      refine g_R (μ := mX5_undo) (pc := 66) (k' := 93) fX5_25 dX5_undo_66 rfl rfl ?_
      refine r_bipush (μ := mX5_undo) (pc := 69) (v := nI 8) dX5_undo_69 rfl ?_
      refine r_aload_n (μ := mX5_undo) (pc := 71) dX5_undo_71 rfl rfl ?_
      refine g_R (μ := mX5_undo) (pc := 72) (k' := 93) fX5_25 dX5_undo_72 rfl rfl ?_
      refine r_iload_n (μ := mX5_undo) (pc := 75) dX5_undo_75 rfl rfl ?_
      refine r_iconst (μ := mX5_undo) (pc := 76) (v := nI 2) dX5_undo_76 rfl ?_
      refine r_iadd (μ := mX5_undo) (pc := 77) dX5_undo_77 ?_
      obtain ⟨n78, hx78, h⟩ := h
      refine r_iald (μ := mX5_undo) (pc := 78) dX5_undo_78 rfl hx78 ?_
      refine r_iast (μ := mX5_undo) (pc := 79) dX5_undo_79 rfl (ix_nI (n := 8) (Nat.le_of_ble_eq_true rfl) (Nat.le_of_ble_eq_true rfl)) ?_
      refine nm_S (fun S79 eS79 => ?_)
      have h := h S79 eS79
      refine r_iconst (μ := mX5_undo) (pc := 80) (v := nI 0) dX5_undo_80 rfl ?_
      refine r_istore (μ := mX5_undo) (pc := 81) (ls' := [some (.ref 7), some (.int i1), some (.int ((T9.1 93 9) - i1)), some (.int ((nI 40) + ((nI 9) * i1))), some (.int (nI 0))]) dX5_undo_81 (Nat.le_of_ble_eq_true rfl) rfl rfl ?_
      exact h
  · have h := h.2 q12
    refine r_iconst (μ := mX5_undo) (pc := 15) (v := (-1)) dX5_undo_15 rfl ?_
    exact r_iret (μ := mX5_undo) (pc := 16) dX5_undo_16 rfl h

set_option maxRecDepth 20000 in
theorem bX5_undo_83 {G : Gl} {l : Launch} {d : Nat} {S : Sg} {P : Int32 → Sg → Prop} (i1 : Int32) (i2 : Int32) (i3 : Int32) (i4 : Int32)
    (h : ((nI 6) ≤ i4 → ∀ S128 : Sg, S128 = (u2 S.1 93 9 i1, S.2) → (P i2 S128)) ∧ (¬ ((nI 6) ≤ i4) → ∃ n113 : Nat, ix ((i3 + (nI 3)) + i4) n113 400 ∧ (∃ n114 : Nat, ix (((nI 10) + ((nI 5) * i4)) + (nI 1)) n114 400 ∧ ∀ S114 : Sg, S114 = (u2 S.1 93 n114 (S.1 93 n113), S.2) → (Ev G l mX5_undo (d + 1) 83 [some (.ref 7), some (.int i1), some (.int i2), some (.int i3), some (.int (i4 + (nI 1)))] [] S114 (QI P))))) :
    Ev G l mX5_undo (d + 1) 83 [some (.ref 7), some (.int i1), some (.int i2), some (.int i3), some (.int i4)] [] S (QI P) := by
  show Ev G l mX5_undo (d + 1) 83 [some (.ref 7), some (.int i1), some (.int i2), some (.int i3), some (.int i4)] [] S (QI P)
  refine r_iload (μ := mX5_undo) (pc := 83) dX5_undo_83 rfl ?_
  refine r_bipush (μ := mX5_undo) (pc := 85) (v := nI 6) dX5_undo_85 rfl ?_
  refine r_icmp_ge (μ := mX5_undo) (pc := 87) (tgt := 121) dX5_undo_87 (by decide) ⟨fun q87 => ?_, fun q87 => ?_⟩
  · have h := h.1 q87
    refine r_aload_n (μ := mX5_undo) (pc := 121) dX5_undo_121 rfl rfl ?_
    refine g_R (μ := mX5_undo) (pc := 122) (k' := 93) fX5_25 dX5_undo_122 rfl rfl ?_
    refine r_bipush (μ := mX5_undo) (pc := 125) (v := nI 9) dX5_undo_125 rfl ?_
    refine r_iload_n (μ := mX5_undo) (pc := 127) dX5_undo_127 rfl rfl ?_
    refine r_iast (μ := mX5_undo) (pc := 128) dX5_undo_128 rfl (ix_nI (n := 9) (Nat.le_of_ble_eq_true rfl) (Nat.le_of_ble_eq_true rfl)) ?_
    refine nm_S (fun S128 eS128 => ?_)
    have h := h S128 eS128
    refine r_iload_n (μ := mX5_undo) (pc := 129) dX5_undo_129 rfl rfl ?_
    exact r_iret (μ := mX5_undo) (pc := 130) dX5_undo_130 rfl h
  · have h := h.2 q87
    refine r_aload_n (μ := mX5_undo) (pc := 90) dX5_undo_90 rfl rfl ?_
    refine g_R (μ := mX5_undo) (pc := 91) (k' := 93) fX5_25 dX5_undo_91 rfl rfl ?_
    refine r_bipush (μ := mX5_undo) (pc := 94) (v := nI 10) dX5_undo_94 rfl ?_
    refine r_iconst (μ := mX5_undo) (pc := 96) (v := nI 5) dX5_undo_96 rfl ?_
    refine r_iload (μ := mX5_undo) (pc := 97) dX5_undo_97 rfl ?_
    refine r_imul (μ := mX5_undo) (pc := 99) dX5_undo_99 ?_
    refine r_iadd (μ := mX5_undo) (pc := 100) dX5_undo_100 ?_
    refine r_iconst (μ := mX5_undo) (pc := 101) (v := nI 1) dX5_undo_101 rfl ?_
    refine r_iadd (μ := mX5_undo) (pc := 102) dX5_undo_102 ?_
    refine r_aload_n (μ := mX5_undo) (pc := 103) dX5_undo_103 rfl rfl ?_
    refine g_R (μ := mX5_undo) (pc := 104) (k' := 93) fX5_25 dX5_undo_104 rfl rfl ?_
    refine r_iload_n (μ := mX5_undo) (pc := 107) dX5_undo_107 rfl rfl ?_
    refine r_iconst (μ := mX5_undo) (pc := 108) (v := nI 3) dX5_undo_108 rfl ?_
    refine r_iadd (μ := mX5_undo) (pc := 109) dX5_undo_109 ?_
    refine r_iload (μ := mX5_undo) (pc := 110) dX5_undo_110 rfl ?_
    refine r_iadd (μ := mX5_undo) (pc := 112) dX5_undo_112 ?_
    obtain ⟨n113, hx113, h⟩ := h
    refine r_iald (μ := mX5_undo) (pc := 113) dX5_undo_113 rfl hx113 ?_
    obtain ⟨n114, hx114, h⟩ := h
    refine r_iast (μ := mX5_undo) (pc := 114) dX5_undo_114 rfl hx114 ?_
    refine nm_S (fun S114 eS114 => ?_)
    have h := h S114 eS114
    refine r_iinc (μ := mX5_undo) (pc := 115) (y := nI 1) (ls' := [some (.ref 7), some (.int i1), some (.int i2), some (.int i3), some (.int (i4 + (nI 1)))]) dX5_undo_115 rfl rfl (Nat.le_of_ble_eq_true rfl) rfl rfl ?_
    refine r_goto (μ := mX5_undo) (pc := 118) (tgt := 83) dX5_undo_118 (by decide) ?_
    exact h

set_option maxRecDepth 20000 in
theorem bX5_keep_0 {G : Gl} {l : Launch} {d : Nat} {S : Sg} {P : Int32 → Sg → Prop} (i1 : Int32)
    (h : Ct G l mX5_in d [.int i1, .int (nI 0), .int (nI 2)] S (QI (fun r3 T3 => (¬ r3 = (nI 0) → Ct G l mX5_are d [.ref 7] T3 (QI (fun r12 T12 => (¬ r12 = (nI 0) → Ct G l mX5_copies d [.ref 93, .int (nI 0), .ref 95, .int ((nI 400) * i1)] T12 (QV (fun T35 => ∃ n44 : Nat, ix i1 n44 3 ∧ ∀ S44 : Sg, S44 = (u2 T35.1 96 n44 (nI 1), T35.2) → (P (S44.1 93 9) S44)))) ∧ (r12 = (nI 0) → P (-4) T12)))) ∧ (r3 = (nI 0) → P (-1) T3)))) :
    Ct G l mX5_keep (d + 1) [.ref 7, .int i1] S (QI P) := by
  show Ev G l mX5_keep (d + 1) 0 [some (.ref 7), some (.int i1)] [] S (QI P)
  refine r_iload_n (μ := mX5_keep) (pc := 0) dX5_keep_0 rfl rfl ?_
  refine r_iconst (μ := mX5_keep) (pc := 1) (v := nI 0) dX5_keep_1 rfl ?_
  refine r_iconst (μ := mX5_keep) (pc := 2) (v := nI 2) dX5_keep_2 rfl ?_
  refine r_callS (μ := mX5_keep) (pc := 3) (as := [.int i1, .int (nI 0), .int (nI 2)]) cX5_73 dX5_keep_3 rfl okX5_in (Nat.lt_succ_self d) (cat8 (n := 0) rfl (by decide)) rfl h (k_I (fun r3 T3 h => ?_))
  refine r_if_ne (μ := mX5_keep) (pc := 6) (tgt := 11) dX5_keep_6 (by decide) ⟨fun q6 => ?_, fun q6 => ?_⟩
  · have h := h.1 q6
    refine r_aload_n (μ := mX5_keep) (pc := 11) dX5_keep_11 rfl rfl ?_
    refine r_callV (μ := mX5_keep) (pc := 12) (as := []) 5 cX5_176 dX5_keep_12 rfl rfl (Nat.le_of_ble_eq_true rfl) rfl okX5_are (Nat.lt_succ_self d) (cat8 (n := 0) rfl (by decide)) rfl h (k_I (fun r12 T12 h => ?_))
    refine r_if_ne (μ := mX5_keep) (pc := 15) (tgt := 21) dX5_keep_15 (by decide) ⟨fun q15 => ?_, fun q15 => ?_⟩
    · have h := h.1 q15
      refine r_aload_n (μ := mX5_keep) (pc := 21) dX5_keep_21 rfl rfl ?_
      refine g_R (μ := mX5_keep) (pc := 22) (k' := 93) fX5_25 dX5_keep_22 rfl rfl ?_
      refine r_iconst (μ := mX5_keep) (pc := 25) (v := nI 0) dX5_keep_25 rfl ?_
      refine r_aload_n (μ := mX5_keep) (pc := 26) dX5_keep_26 rfl rfl ?_
      refine g_R (μ := mX5_keep) (pc := 27) (k' := 95) fX5_31 dX5_keep_27 rfl rfl ?_
      refine r_sipush (μ := mX5_keep) (pc := 30) (v := nI 400) dX5_keep_30 rfl ?_
      refine r_iload_n (μ := mX5_keep) (pc := 33) dX5_keep_33 rfl rfl ?_
      refine r_imul (μ := mX5_keep) (pc := 34) dX5_keep_34 ?_
      refine r_callS (μ := mX5_keep) (pc := 35) (as := [.ref 93, .int (nI 0), .ref 95, .int ((nI 400) * i1)]) cX5_129 dX5_keep_35 rfl okX5_copies (Nat.lt_succ_self d) (cat8 (n := 0) rfl (by decide)) rfl h (k_V (fun T35 h => ?_))
      refine r_aload_n (μ := mX5_keep) (pc := 38) dX5_keep_38 rfl rfl ?_
      refine g_R (μ := mX5_keep) (pc := 39) (k' := 96) fX5_34 dX5_keep_39 rfl rfl ?_
      refine r_iload_n (μ := mX5_keep) (pc := 42) dX5_keep_42 rfl rfl ?_
      refine r_iconst (μ := mX5_keep) (pc := 43) (v := nI 1) dX5_keep_43 rfl ?_
      obtain ⟨n44, hx44, h⟩ := h
      refine r_zast (μ := mX5_keep) (pc := 44) dX5_keep_44 rfl hx44 (zb_n rfl) ?_
      refine nm_S (fun S44 eS44 => ?_)
      have h := h S44 eS44
      refine r_aload_n (μ := mX5_keep) (pc := 45) dX5_keep_45 rfl rfl ?_
      refine g_R (μ := mX5_keep) (pc := 46) (k' := 93) fX5_25 dX5_keep_46 rfl rfl ?_
      refine r_bipush (μ := mX5_keep) (pc := 49) (v := nI 9) dX5_keep_49 rfl ?_
      refine r_iald (μ := mX5_keep) (pc := 51) dX5_keep_51 rfl (ix_nI (n := 9) (Nat.le_of_ble_eq_true rfl) (Nat.le_of_ble_eq_true rfl)) ?_
      exact r_iret (μ := mX5_keep) (pc := 52) dX5_keep_52 rfl h
    · have h := h.2 q15
      refine r_bipush (μ := mX5_keep) (pc := 18) (v := (-4)) dX5_keep_18 rfl ?_
      exact r_iret (μ := mX5_keep) (pc := 20) dX5_keep_20 rfl h
  · have h := h.2 q6
    refine r_iconst (μ := mX5_keep) (pc := 9) (v := (-1)) dX5_keep_9 rfl ?_
    exact r_iret (μ := mX5_keep) (pc := 10) dX5_keep_10 rfl h

set_option maxRecDepth 20000 in
theorem bX5_on_0 {G : Gl} {l : Launch} {d : Nat} {S : Sg} {P : Int32 → Sg → Prop} (i1 : Int32)
    (h : Ct G l mX5_in d [.int i1, .int (nI 0), .int (nI 2)] S (QI (fun r3 T3 => (¬ r3 = (nI 0) → ∃ n16 : Nat, ix i1 n16 3 ∧ ((¬ (T3.1 96 n16) = (nI 0) → Ct G l mX5_copies d [.ref 95, .int ((nI 400) * i1), .ref 93, .int (nI 0)] T3 (QV (fun T40 => P (T40.1 93 9) T40))) ∧ ((T3.1 96 n16) = (nI 0) → Ct G l mX5_finds d [.ref 7, .int (nI 1)] T3 (QI (fun r22 T22 => P r22 T22))))) ∧ (r3 = (nI 0) → P (-1) T3)))) :
    Ct G l mX5_on (d + 1) [.ref 7, .int i1] S (QI P) := by
  show Ev G l mX5_on (d + 1) 0 [some (.ref 7), some (.int i1)] [] S (QI P)
  refine r_iload_n (μ := mX5_on) (pc := 0) dX5_on_0 rfl rfl ?_
  refine r_iconst (μ := mX5_on) (pc := 1) (v := nI 0) dX5_on_1 rfl ?_
  refine r_iconst (μ := mX5_on) (pc := 2) (v := nI 2) dX5_on_2 rfl ?_
  refine r_callS (μ := mX5_on) (pc := 3) (as := [.int i1, .int (nI 0), .int (nI 2)]) cX5_73 dX5_on_3 rfl okX5_in (Nat.lt_succ_self d) (cat8 (n := 0) rfl (by decide)) rfl h (k_I (fun r3 T3 h => ?_))
  refine r_if_ne (μ := mX5_on) (pc := 6) (tgt := 11) dX5_on_6 (by decide) ⟨fun q6 => ?_, fun q6 => ?_⟩
  · have h := h.1 q6
    refine r_aload_n (μ := mX5_on) (pc := 11) dX5_on_11 rfl rfl ?_
    refine g_R (μ := mX5_on) (pc := 12) (k' := 96) fX5_34 dX5_on_12 rfl rfl ?_
    refine r_iload_n (μ := mX5_on) (pc := 15) dX5_on_15 rfl rfl ?_
    obtain ⟨n16, hx16, h⟩ := h
    refine r_zald (μ := mX5_on) (pc := 16) dX5_on_16 rfl hx16 ?_
    refine r_if_ne (μ := mX5_on) (pc := 17) (tgt := 26) dX5_on_17 (by decide) ⟨fun q17 => ?_, fun q17 => ?_⟩
    · have h := h.1 q17
      refine r_aload_n (μ := mX5_on) (pc := 26) dX5_on_26 rfl rfl ?_
      refine g_R (μ := mX5_on) (pc := 27) (k' := 95) fX5_31 dX5_on_27 rfl rfl ?_
      refine r_sipush (μ := mX5_on) (pc := 30) (v := nI 400) dX5_on_30 rfl ?_
      refine r_iload_n (μ := mX5_on) (pc := 33) dX5_on_33 rfl rfl ?_
      refine r_imul (μ := mX5_on) (pc := 34) dX5_on_34 ?_
      refine r_aload_n (μ := mX5_on) (pc := 35) dX5_on_35 rfl rfl ?_
      refine g_R (μ := mX5_on) (pc := 36) (k' := 93) fX5_25 dX5_on_36 rfl rfl ?_
      refine r_iconst (μ := mX5_on) (pc := 39) (v := nI 0) dX5_on_39 rfl ?_
      refine r_callS (μ := mX5_on) (pc := 40) (as := [.ref 95, .int ((nI 400) * i1), .ref 93, .int (nI 0)]) cX5_129 dX5_on_40 rfl okX5_copies (Nat.lt_succ_self d) (cat8 (n := 0) rfl (by decide)) rfl h (k_V (fun T40 h => ?_))
      refine r_aload_n (μ := mX5_on) (pc := 43) dX5_on_43 rfl rfl ?_
      refine g_R (μ := mX5_on) (pc := 44) (k' := 93) fX5_25 dX5_on_44 rfl rfl ?_
      refine r_bipush (μ := mX5_on) (pc := 47) (v := nI 9) dX5_on_47 rfl ?_
      refine r_iald (μ := mX5_on) (pc := 49) dX5_on_49 rfl (ix_nI (n := 9) (Nat.le_of_ble_eq_true rfl) (Nat.le_of_ble_eq_true rfl)) ?_
      exact r_iret (μ := mX5_on) (pc := 50) dX5_on_50 rfl h
    · have h := h.2 q17
      refine r_aload_n (μ := mX5_on) (pc := 20) dX5_on_20 rfl rfl ?_
      refine r_iconst (μ := mX5_on) (pc := 21) (v := nI 1) dX5_on_21 rfl ?_
      refine r_callV (μ := mX5_on) (pc := 22) (as := [.int (nI 1)]) 5 cX5_81 dX5_on_22 rfl rfl (Nat.le_of_ble_eq_true rfl) rfl okX5_finds (Nat.lt_succ_self d) (cat8 (n := 0) rfl (by decide)) rfl h (k_I (fun r22 T22 h => ?_))
      exact r_iret (μ := mX5_on) (pc := 25) dX5_on_25 rfl h
  · have h := h.2 q6
    refine r_iconst (μ := mX5_on) (pc := 9) (v := (-1)) dX5_on_9 rfl ?_
    exact r_iret (μ := mX5_on) (pc := 10) dX5_on_10 rfl h

set_option maxRecDepth 20000 in
theorem bX5_belong_0 {G : Gl} {l : Launch} {d : Nat} {S : Sg} {P : Int32 → Sg → Prop} 
    (h : Ct G l mX5_belongersNow d [.ref 7] S (QI (fun r1 T1 => P r1 T1))) :
    Ct G l mX5_belong (d + 1) [.ref 7] S (QI P) := by
  show Ev G l mX5_belong (d + 1) 0 [some (.ref 7)] [] S (QI P)
  refine r_aload_n (μ := mX5_belong) (pc := 0) dX5_belong_0 rfl rfl ?_
  refine r_callV (μ := mX5_belong) (pc := 1) (as := []) 5 cX5_165 dX5_belong_1 rfl rfl (Nat.le_of_ble_eq_true rfl) rfl okX5_belongersNow (Nat.lt_succ_self d) (cat8 (n := 0) rfl (by decide)) rfl h (k_I (fun r1 T1 h => ?_))
  exact r_iret (μ := mX5_belong) (pc := 4) dX5_belong_4 rfl h

set_option maxRecDepth 20000 in
theorem bX5_laws_0 {G : Gl} {l : Launch} {d : Nat} {S : Sg} {P : Int32 → Sg → Prop} 
    (h : Ct G l mX5_are d [.ref 7] S (QI (fun r1 T1 => (¬ r1 = (nI 0) → Ct G l mX5_belongersNow d [.ref 7] T1 (QI (fun r11 T11 => Ev G l mX5_laws (d + 1) 39 [some (.ref 7), some (.int r11), some (.int ((nI 7) &&& (((T11.1 93 3) ||| (T11.1 93 4)) ^^^ (-1)))), some (.int (nI 0)), some (.int (nI 0)), none, none] [] T11 (QI P)))) ∧ (r1 = (nI 0) → P (-4) T1)))) :
    Ct G l mX5_laws (d + 1) [.ref 7] S (QI P) := by
  show Ev G l mX5_laws (d + 1) 0 [some (.ref 7), none, none, none, none, none, none] [] S (QI P)
  refine r_aload_n (μ := mX5_laws) (pc := 0) dX5_laws_0 rfl rfl ?_
  refine r_callV (μ := mX5_laws) (pc := 1) (as := []) 5 cX5_176 dX5_laws_1 rfl rfl (Nat.le_of_ble_eq_true rfl) rfl okX5_are (Nat.lt_succ_self d) (cat8 (n := 0) rfl (by decide)) rfl h (k_I (fun r1 T1 h => ?_))
  refine r_if_ne (μ := mX5_laws) (pc := 4) (tgt := 10) dX5_laws_4 (by decide) ⟨fun q4 => ?_, fun q4 => ?_⟩
  · have h := h.1 q4
    refine r_aload_n (μ := mX5_laws) (pc := 10) dX5_laws_10 rfl rfl ?_
    refine r_callV (μ := mX5_laws) (pc := 11) (as := []) 5 cX5_165 dX5_laws_11 rfl rfl (Nat.le_of_ble_eq_true rfl) rfl okX5_belongersNow (Nat.lt_succ_self d) (cat8 (n := 0) rfl (by decide)) rfl h (k_I (fun r11 T11 h => ?_))
    refine r_istore_n (μ := mX5_laws) (pc := 14) (ls' := [some (.ref 7), some (.int r11), none, none, none, none, none]) dX5_laws_14 rfl (Nat.le_of_ble_eq_true rfl) rfl rfl ?_
    refine r_bipush (μ := mX5_laws) (pc := 15) (v := nI 7) dX5_laws_15 rfl ?_
    refine r_aload_n (μ := mX5_laws) (pc := 17) dX5_laws_17 rfl rfl ?_
    refine g_R (μ := mX5_laws) (pc := 18) (k' := 93) fX5_25 dX5_laws_18 rfl rfl ?_
    refine r_iconst (μ := mX5_laws) (pc := 21) (v := nI 3) dX5_laws_21 rfl ?_
    refine r_iald (μ := mX5_laws) (pc := 22) dX5_laws_22 rfl (ix_nI (n := 3) (Nat.le_of_ble_eq_true rfl) (Nat.le_of_ble_eq_true rfl)) ?_
    refine r_aload_n (μ := mX5_laws) (pc := 23) dX5_laws_23 rfl rfl ?_
    refine g_R (μ := mX5_laws) (pc := 24) (k' := 93) fX5_25 dX5_laws_24 rfl rfl ?_
    refine r_iconst (μ := mX5_laws) (pc := 27) (v := nI 4) dX5_laws_27 rfl ?_
    refine r_iald (μ := mX5_laws) (pc := 28) dX5_laws_28 rfl (ix_nI (n := 4) (Nat.le_of_ble_eq_true rfl) (Nat.le_of_ble_eq_true rfl)) ?_
    refine r_ior (μ := mX5_laws) (pc := 29) dX5_laws_29 ?_
    refine r_iconst (μ := mX5_laws) (pc := 30) (v := (-1)) dX5_laws_30 rfl ?_
    refine r_ixor (μ := mX5_laws) (pc := 31) dX5_laws_31 ?_
    refine r_iand (μ := mX5_laws) (pc := 32) dX5_laws_32 ?_
    refine r_istore_n (μ := mX5_laws) (pc := 33) (ls' := [some (.ref 7), some (.int r11), some (.int ((nI 7) &&& (((T11.1 93 3) ||| (T11.1 93 4)) ^^^ (-1)))), none, none, none, none]) dX5_laws_33 rfl (Nat.le_of_ble_eq_true rfl) rfl rfl ?_
    refine r_iconst (μ := mX5_laws) (pc := 34) (v := nI 0) dX5_laws_34 rfl ?_
    refine r_istore_n (μ := mX5_laws) (pc := 35) (ls' := [some (.ref 7), some (.int r11), some (.int ((nI 7) &&& (((T11.1 93 3) ||| (T11.1 93 4)) ^^^ (-1)))), some (.int (nI 0)), none, none, none]) dX5_laws_35 rfl (Nat.le_of_ble_eq_true rfl) rfl rfl ?_
    refine r_iconst (μ := mX5_laws) (pc := 36) (v := nI 0) dX5_laws_36 rfl ?_
    refine r_istore (μ := mX5_laws) (pc := 37) (ls' := [some (.ref 7), some (.int r11), some (.int ((nI 7) &&& (((T11.1 93 3) ||| (T11.1 93 4)) ^^^ (-1)))), some (.int (nI 0)), some (.int (nI 0)), none, none]) dX5_laws_37 (Nat.le_of_ble_eq_true rfl) rfl rfl ?_
    exact h
  · have h := h.2 q4
    refine r_bipush (μ := mX5_laws) (pc := 7) (v := (-4)) dX5_laws_7 rfl ?_
    exact r_iret (μ := mX5_laws) (pc := 9) dX5_laws_9 rfl h

set_option maxRecDepth 20000 in
theorem bX5_laws_39 {G : Gl} {l : Launch} {d : Nat} {S : Sg} {P : Int32 → Sg → Prop} (i1 : Int32) (i2 : Int32) (i3 : Int32) (i4 : Int32)
    (h : ((nI 3) ≤ i4 → Ct G l mX5_tells d [.ref 7, .int i2, .int i3] S (QI (fun r156 T156 => P r156 T156))) ∧ (¬ ((nI 3) ≤ i4) → Ev G l mX5_laws (d + 1) 51 [some (.ref 7), some (.int i1), some (.int i2), some (.int i3), some (.int i4), some (.int (nI 0)), some (.int (nI 0))] [] S (QI P))) :
    Ev G l mX5_laws (d + 1) 39 [some (.ref 7), some (.int i1), some (.int i2), some (.int i3), some (.int i4), none, none] [] S (QI P) := by
  show Ev G l mX5_laws (d + 1) 39 [some (.ref 7), some (.int i1), some (.int i2), some (.int i3), some (.int i4), none, none] [] S (QI P)
  refine r_iload (μ := mX5_laws) (pc := 39) dX5_laws_39 rfl ?_
  refine r_iconst (μ := mX5_laws) (pc := 41) (v := nI 3) dX5_laws_41 rfl ?_
  refine r_icmp_ge (μ := mX5_laws) (pc := 42) (tgt := 153) dX5_laws_42 (by decide) ⟨fun q42 => ?_, fun q42 => ?_⟩
  · have h := h.1 q42
    refine r_aload_n (μ := mX5_laws) (pc := 153) dX5_laws_153 rfl rfl ?_
    refine r_iload_n (μ := mX5_laws) (pc := 154) dX5_laws_154 rfl rfl ?_
    refine r_iload_n (μ := mX5_laws) (pc := 155) dX5_laws_155 rfl rfl ?_
    refine r_callV (μ := mX5_laws) (pc := 156) (as := [.int i2, .int i3]) 5 cX5_93 dX5_laws_156 rfl rfl (Nat.le_of_ble_eq_true rfl) rfl okX5_tells (Nat.lt_succ_self d) (cat8 (n := 0) rfl (by decide)) rfl h (k_I (fun r156 T156 h => ?_))
    exact r_iret (μ := mX5_laws) (pc := 159) dX5_laws_159 rfl h
  · have h := h.2 q42
    refine r_iconst (μ := mX5_laws) (pc := 45) (v := nI 0) dX5_laws_45 rfl ?_
    refine r_istore (μ := mX5_laws) (pc := 46) (ls' := [some (.ref 7), some (.int i1), some (.int i2), some (.int i3), some (.int i4), some (.int (nI 0)), none]) dX5_laws_46 (Nat.le_of_ble_eq_true rfl) rfl rfl ?_
    refine r_iconst (μ := mX5_laws) (pc := 48) (v := nI 0) dX5_laws_48 rfl ?_
    refine r_istore (μ := mX5_laws) (pc := 49) (ls' := [some (.ref 7), some (.int i1), some (.int i2), some (.int i3), some (.int i4), some (.int (nI 0)), some (.int (nI 0))]) dX5_laws_49 (Nat.le_of_ble_eq_true rfl) rfl rfl ?_
    exact h

set_option maxRecDepth 20000 in
theorem bX5_laws_51 {G : Gl} {l : Launch} {d : Nat} {S : Sg} {P : Int32 → Sg → Prop} (i1 : Int32) (i2 : Int32) (i3 : Int32) (i4 : Int32) (i5 : Int32) (i6 : Int32)
    (h : ((S.1 93 7) ≤ i6 → Ct G l mX5_has d [.int i2, .int i4] S (QI (fun r119 T119 => (r119 = (nI 0) → Ev G l mX5_laws (d + 1) 39 [some (.ref 7), some (.int i1), some (.int i2), some (.int (i3 ||| (nI 0))), some (.int (i4 + (nI 1))), none, none] [] T119 (QI P)) ∧ (¬ (r119 = (nI 0)) → Ct G l mX5_votesIn d [.ref 7, .int i1] T119 (QI (fun r131 T131 => ∀ x134 : Int32, x134 = (if ((nI 2) * i5) ≤ r131 then (nI 0) else ((nI 1) <<< (i4 &&& 31))) → (Ev G l mX5_laws (d + 1) 39 [some (.ref 7), some (.int i1), some (.int i2), some (.int (i3 ||| x134)), some (.int (i4 + (nI 1))), none, none] [] T131 (QI P)))))))) ∧ (¬ ((S.1 93 7) ≤ i6) → Ct G l mX5_has d [.int i1, .int i6] S (QI (fun r68 T68 => (r68 = (nI 0) → Ev G l mX5_laws (d + 1) 51 [some (.ref 7), some (.int i1), some (.int i2), some (.int i3), some (.int i4), some (.int (i5 + (nI 0))), some (.int (i6 + (nI 1)))] [] T68 (QI P)) ∧ (¬ (r68 = (nI 0)) → ∃ n87 : Nat, ix (((nI 10) + ((nI 5) * i6)) + (nI 4)) n87 400 ∧ (Ct G l mX5_has d [.int (T68.1 93 n87), .int i4] T68 (QI (fun r90 T90 => (r90 = (nI 0) → Ev G l mX5_laws (d + 1) 51 [some (.ref 7), some (.int i1), some (.int i2), some (.int i3), some (.int i4), some (.int (i5 + (nI 0))), some (.int (i6 + (nI 1)))] [] T90 (QI P)) ∧ (¬ (r90 = (nI 0)) → Ct G l mX5_votesOf d [.ref 7, .int i6] T90 (QI (fun r99 T99 => Ev G l mX5_laws (d + 1) 51 [some (.ref 7), some (.int i1), some (.int i2), some (.int i3), some (.int i4), some (.int (i5 + r99)), some (.int (i6 + (nI 1)))] [] T99 (QI P)))))))))))) :
    Ev G l mX5_laws (d + 1) 51 [some (.ref 7), some (.int i1), some (.int i2), some (.int i3), some (.int i4), some (.int i5), some (.int i6)] [] S (QI P) := by
  show Ev G l mX5_laws (d + 1) 51 [some (.ref 7), some (.int i1), some (.int i2), some (.int i3), some (.int i4), some (.int i5), some (.int i6)] [] S (QI P)
  refine r_iload (μ := mX5_laws) (pc := 51) dX5_laws_51 rfl ?_
  refine r_aload_n (μ := mX5_laws) (pc := 53) dX5_laws_53 rfl rfl ?_
  refine g_R (μ := mX5_laws) (pc := 54) (k' := 93) fX5_25 dX5_laws_54 rfl rfl ?_
  refine r_bipush (μ := mX5_laws) (pc := 57) (v := nI 7) dX5_laws_57 rfl ?_
  refine r_iald (μ := mX5_laws) (pc := 59) dX5_laws_59 rfl (ix_nI (n := 7) (Nat.le_of_ble_eq_true rfl) (Nat.le_of_ble_eq_true rfl)) ?_
  refine r_icmp_ge (μ := mX5_laws) (pc := 60) (tgt := 115) dX5_laws_60 (by decide) ⟨fun q60 => ?_, fun q60 => ?_⟩
  · have h := h.1 q60
    refine r_iload_n (μ := mX5_laws) (pc := 115) dX5_laws_115 rfl rfl ?_
    refine r_iload_n (μ := mX5_laws) (pc := 116) dX5_laws_116 rfl rfl ?_
    refine r_iload (μ := mX5_laws) (pc := 117) dX5_laws_117 rfl ?_
    refine r_callS (μ := mX5_laws) (pc := 119) (as := [.int i2, .int i4]) cX5_143 dX5_laws_119 rfl okX5_has (Nat.lt_succ_self d) (cat8 (n := 1) rfl (by decide)) rfl h (k_I (fun r119 T119 h => ?_))
    refine r_if_eq (μ := mX5_laws) (pc := 122) (tgt := 144) dX5_laws_122 (by decide) ⟨fun q122 => ?_, fun q122 => ?_⟩
    · have h := h.1 q122
      refine r_iconst (μ := mX5_laws) (pc := 144) (v := nI 0) dX5_laws_144 rfl ?_
      refine r_ior (μ := mX5_laws) (pc := 145) dX5_laws_145 ?_
      refine r_istore_n (μ := mX5_laws) (pc := 146) (ls' := [some (.ref 7), some (.int i1), some (.int i2), some (.int (i3 ||| (nI 0))), some (.int i4), some (.int i5), some (.int i6)]) dX5_laws_146 rfl (Nat.le_of_ble_eq_true rfl) rfl rfl ?_
      refine r_iinc (μ := mX5_laws) (pc := 147) (y := nI 1) (ls' := [some (.ref 7), some (.int i1), some (.int i2), some (.int (i3 ||| (nI 0))), some (.int (i4 + (nI 1))), some (.int i5), some (.int i6)]) dX5_laws_147 rfl rfl (Nat.le_of_ble_eq_true rfl) rfl rfl ?_
      refine r_goto (μ := mX5_laws) (pc := 150) (tgt := 39) dX5_laws_150 (by decide) ?_
      exact Ev.sub (ls' := [some (.ref 7), some (.int i1), some (.int i2), some (.int (i3 ||| (nI 0))), some (.int (i4 + (nI 1))), none, none]) (ls_s (ls_s (ls_s (ls_s (ls_s (ls_n (ls_n ls_0))))))) h
    · have h := h.2 q122
      refine r_iconst (μ := mX5_laws) (pc := 125) (v := nI 2) dX5_laws_125 rfl ?_
      refine r_iload (μ := mX5_laws) (pc := 126) dX5_laws_126 rfl ?_
      refine r_imul (μ := mX5_laws) (pc := 128) dX5_laws_128 ?_
      refine r_aload_n (μ := mX5_laws) (pc := 129) dX5_laws_129 rfl rfl ?_
      refine r_iload_n (μ := mX5_laws) (pc := 130) dX5_laws_130 rfl rfl ?_
      refine r_callV (μ := mX5_laws) (pc := 131) (as := [.int i1]) 5 cX5_169 dX5_laws_131 rfl rfl (Nat.le_of_ble_eq_true rfl) rfl okX5_votesIn (Nat.lt_succ_self d) (cat8 (n := 2) rfl (by decide)) rfl h (k_I (fun r131 T131 h => ?_))
      have J134 : ∀ x134 : Int32, x134 = (if ((nI 2) * i5) ≤ r131 then (nI 0) else ((nI 1) <<< (i4 &&& 31))) → Ev G l mX5_laws (d + 1) 145 [some (.ref 7), some (.int i1), some (.int i2), some (.int i3), some (.int i4), some (.int i5), some (.int i6)] [.int x134, .int i3] T131 (QI P) := by
        intro x134 e134
        have h := h x134 e134
        refine r_ior (μ := mX5_laws) (pc := 145) dX5_laws_145 ?_
        refine r_istore_n (μ := mX5_laws) (pc := 146) (ls' := [some (.ref 7), some (.int i1), some (.int i2), some (.int (i3 ||| x134)), some (.int i4), some (.int i5), some (.int i6)]) dX5_laws_146 rfl (Nat.le_of_ble_eq_true rfl) rfl rfl ?_
        refine r_iinc (μ := mX5_laws) (pc := 147) (y := nI 1) (ls' := [some (.ref 7), some (.int i1), some (.int i2), some (.int (i3 ||| x134)), some (.int (i4 + (nI 1))), some (.int i5), some (.int i6)]) dX5_laws_147 rfl rfl (Nat.le_of_ble_eq_true rfl) rfl rfl ?_
        refine r_goto (μ := mX5_laws) (pc := 150) (tgt := 39) dX5_laws_150 (by decide) ?_
        exact Ev.sub (ls' := [some (.ref 7), some (.int i1), some (.int i2), some (.int (i3 ||| x134)), some (.int (i4 + (nI 1))), none, none]) (ls_s (ls_s (ls_s (ls_s (ls_s (ls_n (ls_n ls_0))))))) h
      refine r_icmp_le (μ := mX5_laws) (pc := 134) (tgt := 144) dX5_laws_134 (by decide) ⟨fun q134 => ?_, fun q134 => ?_⟩
      · refine r_iconst (μ := mX5_laws) (pc := 144) (v := nI 0) dX5_laws_144 rfl ?_
        exact J134 _ (by first | (rw [if_pos q134]; done) | simp only [if_pos q134])
      · refine r_iconst (μ := mX5_laws) (pc := 137) (v := nI 1) dX5_laws_137 rfl ?_
        refine r_iload (μ := mX5_laws) (pc := 138) dX5_laws_138 rfl ?_
        refine r_ishl (μ := mX5_laws) (pc := 140) dX5_laws_140 ?_
        refine r_goto (μ := mX5_laws) (pc := 141) (tgt := 145) dX5_laws_141 (by decide) ?_
        exact J134 _ (by first | (rw [if_neg q134]; done) | simp only [if_neg q134])
  · have h := h.2 q60
    refine r_iload (μ := mX5_laws) (pc := 63) dX5_laws_63 rfl ?_
    refine r_iload_n (μ := mX5_laws) (pc := 65) dX5_laws_65 rfl rfl ?_
    refine r_iload (μ := mX5_laws) (pc := 66) dX5_laws_66 rfl ?_
    refine r_callS (μ := mX5_laws) (pc := 68) (as := [.int i1, .int i6]) cX5_143 dX5_laws_68 rfl okX5_has (Nat.lt_succ_self d) (cat8 (n := 1) rfl (by decide)) rfl h (k_I (fun r68 T68 h => ?_))
    refine r_if_eq (μ := mX5_laws) (pc := 71) (tgt := 105) dX5_laws_71 (by decide) ⟨fun q71 => ?_, fun q71 => ?_⟩
    · have h := h.1 q71
      refine r_iconst (μ := mX5_laws) (pc := 105) (v := nI 0) dX5_laws_105 rfl ?_
      refine r_iadd (μ := mX5_laws) (pc := 106) dX5_laws_106 ?_
      refine r_istore (μ := mX5_laws) (pc := 107) (ls' := [some (.ref 7), some (.int i1), some (.int i2), some (.int i3), some (.int i4), some (.int (i5 + (nI 0))), some (.int i6)]) dX5_laws_107 (Nat.le_of_ble_eq_true rfl) rfl rfl ?_
      refine r_iinc (μ := mX5_laws) (pc := 109) (y := nI 1) (ls' := [some (.ref 7), some (.int i1), some (.int i2), some (.int i3), some (.int i4), some (.int (i5 + (nI 0))), some (.int (i6 + (nI 1)))]) dX5_laws_109 rfl rfl (Nat.le_of_ble_eq_true rfl) rfl rfl ?_
      refine r_goto (μ := mX5_laws) (pc := 112) (tgt := 51) dX5_laws_112 (by decide) ?_
      exact h
    · have h := h.2 q71
      refine r_aload_n (μ := mX5_laws) (pc := 74) dX5_laws_74 rfl rfl ?_
      refine g_R (μ := mX5_laws) (pc := 75) (k' := 93) fX5_25 dX5_laws_75 rfl rfl ?_
      refine r_bipush (μ := mX5_laws) (pc := 78) (v := nI 10) dX5_laws_78 rfl ?_
      refine r_iconst (μ := mX5_laws) (pc := 80) (v := nI 5) dX5_laws_80 rfl ?_
      refine r_iload (μ := mX5_laws) (pc := 81) dX5_laws_81 rfl ?_
      refine r_imul (μ := mX5_laws) (pc := 83) dX5_laws_83 ?_
      refine r_iadd (μ := mX5_laws) (pc := 84) dX5_laws_84 ?_
      refine r_iconst (μ := mX5_laws) (pc := 85) (v := nI 4) dX5_laws_85 rfl ?_
      refine r_iadd (μ := mX5_laws) (pc := 86) dX5_laws_86 ?_
      obtain ⟨n87, hx87, h⟩ := h
      refine r_iald (μ := mX5_laws) (pc := 87) dX5_laws_87 rfl hx87 ?_
      refine r_iload (μ := mX5_laws) (pc := 88) dX5_laws_88 rfl ?_
      refine r_callS (μ := mX5_laws) (pc := 90) (as := [.int (T68.1 93 n87), .int i4]) cX5_143 dX5_laws_90 rfl okX5_has (Nat.lt_succ_self d) (cat8 (n := 1) rfl (by decide)) rfl h (k_I (fun r90 T90 h => ?_))
      refine r_if_eq (μ := mX5_laws) (pc := 93) (tgt := 105) dX5_laws_93 (by decide) ⟨fun q93 => ?_, fun q93 => ?_⟩
      · have h := h.1 q93
        refine r_iconst (μ := mX5_laws) (pc := 105) (v := nI 0) dX5_laws_105 rfl ?_
        refine r_iadd (μ := mX5_laws) (pc := 106) dX5_laws_106 ?_
        refine r_istore (μ := mX5_laws) (pc := 107) (ls' := [some (.ref 7), some (.int i1), some (.int i2), some (.int i3), some (.int i4), some (.int (i5 + (nI 0))), some (.int i6)]) dX5_laws_107 (Nat.le_of_ble_eq_true rfl) rfl rfl ?_
        refine r_iinc (μ := mX5_laws) (pc := 109) (y := nI 1) (ls' := [some (.ref 7), some (.int i1), some (.int i2), some (.int i3), some (.int i4), some (.int (i5 + (nI 0))), some (.int (i6 + (nI 1)))]) dX5_laws_109 rfl rfl (Nat.le_of_ble_eq_true rfl) rfl rfl ?_
        refine r_goto (μ := mX5_laws) (pc := 112) (tgt := 51) dX5_laws_112 (by decide) ?_
        exact h
      · have h := h.2 q93
        refine r_aload_n (μ := mX5_laws) (pc := 96) dX5_laws_96 rfl rfl ?_
        refine r_iload (μ := mX5_laws) (pc := 97) dX5_laws_97 rfl ?_
        refine r_callV (μ := mX5_laws) (pc := 99) (as := [.int i6]) 5 cX5_147 dX5_laws_99 rfl rfl (Nat.le_of_ble_eq_true rfl) rfl okX5_votesOf (Nat.lt_succ_self d) (cat8 (n := 1) rfl (by decide)) rfl h (k_I (fun r99 T99 h => ?_))
        refine r_goto (μ := mX5_laws) (pc := 102) (tgt := 106) dX5_laws_102 (by decide) ?_
        refine r_iadd (μ := mX5_laws) (pc := 106) dX5_laws_106 ?_
        refine r_istore (μ := mX5_laws) (pc := 107) (ls' := [some (.ref 7), some (.int i1), some (.int i2), some (.int i3), some (.int i4), some (.int (i5 + r99)), some (.int i6)]) dX5_laws_107 (Nat.le_of_ble_eq_true rfl) rfl rfl ?_
        refine r_iinc (μ := mX5_laws) (pc := 109) (y := nI 1) (ls' := [some (.ref 7), some (.int i1), some (.int i2), some (.int i3), some (.int i4), some (.int (i5 + r99)), some (.int (i6 + (nI 1)))]) dX5_laws_109 rfl rfl (Nat.le_of_ble_eq_true rfl) rfl rfl ?_
        refine r_goto (μ := mX5_laws) (pc := 112) (tgt := 51) dX5_laws_112 (by decide) ?_
        exact h

set_option maxRecDepth 20000 in
theorem bX5_laysShares_0 {G : Gl} {l : Launch} {d : Nat} {S : Sg} {P : Sg → Prop} (i1 : Int32)
    (h : Ct G l mX5_lays d [.ref 7, .int i1, .int (S.1 93 7)] S (QV (fun T9 => Ev G l mX5_laysShares (d + 1) 14 [some (.ref 7), some (.int i1), some (.int (nI 0))] [] T9 (QV P)))) :
    Ct G l mX5_laysShares (d + 1) [.ref 7, .int i1] S (QV P) := by
  show Ev G l mX5_laysShares (d + 1) 0 [some (.ref 7), some (.int i1), none] [] S (QV P)
  refine r_aload_n (μ := mX5_laysShares) (pc := 0) dX5_laysShares_0 rfl rfl ?_
  refine r_iload_n (μ := mX5_laysShares) (pc := 1) dX5_laysShares_1 rfl rfl ?_
  refine r_aload_n (μ := mX5_laysShares) (pc := 2) dX5_laysShares_2 rfl rfl ?_
  refine g_R (μ := mX5_laysShares) (pc := 3) (k' := 93) fX5_25 dX5_laysShares_3 rfl rfl ?_
  refine r_bipush (μ := mX5_laysShares) (pc := 6) (v := nI 7) dX5_laysShares_6 rfl ?_
  refine r_iald (μ := mX5_laysShares) (pc := 8) dX5_laysShares_8 rfl (ix_nI (n := 7) (Nat.le_of_ble_eq_true rfl) (Nat.le_of_ble_eq_true rfl)) ?_
  refine r_callV (μ := mX5_laysShares) (pc := 9) (as := [.int i1, .int (S.1 93 7)]) 5 cX5_85 dX5_laysShares_9 rfl rfl (Nat.le_of_ble_eq_true rfl) rfl okX5_lays (Nat.lt_succ_self d) (cat8 (n := 0) rfl (by decide)) rfl h (k_V (fun T9 h => ?_))
  refine r_iconst (μ := mX5_laysShares) (pc := 12) (v := nI 0) dX5_laysShares_12 rfl ?_
  refine r_istore_n (μ := mX5_laysShares) (pc := 13) (ls' := [some (.ref 7), some (.int i1), some (.int (nI 0))]) dX5_laysShares_13 rfl (Nat.le_of_ble_eq_true rfl) rfl rfl ?_
  exact h

set_option maxRecDepth 20000 in
theorem bX5_laysShares_14 {G : Gl} {l : Launch} {d : Nat} {S : Sg} {P : Sg → Prop} (i1 : Int32) (i2 : Int32)
    (h : ((S.1 93 7) ≤ i2 → P S) ∧ (¬ ((S.1 93 7) ≤ i2) → ∃ n40 : Nat, ix i2 n40 6 ∧ (∃ n41 : Nat, ix (((nI 40) * i1) + i2) n41 240 ∧ ∀ S41 : Sg, S41 = (u2 S.1 89 n41 (S.1 98 n40), S.2) → (Ev G l mX5_laysShares (d + 1) 14 [some (.ref 7), some (.int i1), some (.int (i2 + (nI 1)))] [] S41 (QV P))))) :
    Ev G l mX5_laysShares (d + 1) 14 [some (.ref 7), some (.int i1), some (.int i2)] [] S (QV P) := by
  show Ev G l mX5_laysShares (d + 1) 14 [some (.ref 7), some (.int i1), some (.int i2)] [] S (QV P)
  refine r_iload_n (μ := mX5_laysShares) (pc := 14) dX5_laysShares_14 rfl rfl ?_
  refine r_aload_n (μ := mX5_laysShares) (pc := 15) dX5_laysShares_15 rfl rfl ?_
  refine g_R (μ := mX5_laysShares) (pc := 16) (k' := 93) fX5_25 dX5_laysShares_16 rfl rfl ?_
  refine r_bipush (μ := mX5_laysShares) (pc := 19) (v := nI 7) dX5_laysShares_19 rfl ?_
  refine r_iald (μ := mX5_laysShares) (pc := 21) dX5_laysShares_21 rfl (ix_nI (n := 7) (Nat.le_of_ble_eq_true rfl) (Nat.le_of_ble_eq_true rfl)) ?_
  refine r_icmp_ge (μ := mX5_laysShares) (pc := 22) (tgt := 48) dX5_laysShares_22 (by decide) ⟨fun q22 => ?_, fun q22 => ?_⟩
  · have h := h.1 q22
    exact r_vret (μ := mX5_laysShares) (pc := 48) dX5_laysShares_48 rfl h
  · have h := h.2 q22
    refine r_aload_n (μ := mX5_laysShares) (pc := 25) dX5_laysShares_25 rfl rfl ?_
    refine g_R (μ := mX5_laysShares) (pc := 26) (k' := 89) fX5_13 dX5_laysShares_26 rfl rfl ?_
    refine r_bipush (μ := mX5_laysShares) (pc := 29) (v := nI 40) dX5_laysShares_29 rfl ?_
    refine r_iload_n (μ := mX5_laysShares) (pc := 31) dX5_laysShares_31 rfl rfl ?_
    refine r_imul (μ := mX5_laysShares) (pc := 32) dX5_laysShares_32 ?_
    refine r_iload_n (μ := mX5_laysShares) (pc := 33) dX5_laysShares_33 rfl rfl ?_
    refine r_iadd (μ := mX5_laysShares) (pc := 34) dX5_laysShares_34 ?_
    refine r_aload_n (μ := mX5_laysShares) (pc := 35) dX5_laysShares_35 rfl rfl ?_
    refine g_R (μ := mX5_laysShares) (pc := 36) (k' := 98) fX5_41 dX5_laysShares_36 rfl rfl ?_
    refine r_iload_n (μ := mX5_laysShares) (pc := 39) dX5_laysShares_39 rfl rfl ?_
    obtain ⟨n40, hx40, h⟩ := h
    refine r_iald (μ := mX5_laysShares) (pc := 40) dX5_laysShares_40 rfl hx40 ?_
    obtain ⟨n41, hx41, h⟩ := h
    refine r_iast (μ := mX5_laysShares) (pc := 41) dX5_laysShares_41 rfl hx41 ?_
    refine nm_S (fun S41 eS41 => ?_)
    have h := h S41 eS41
    refine r_iinc (μ := mX5_laysShares) (pc := 42) (y := nI 1) (ls' := [some (.ref 7), some (.int i1), some (.int (i2 + (nI 1)))]) dX5_laysShares_42 rfl rfl (Nat.le_of_ble_eq_true rfl) rfl rfl ?_
    refine r_goto (μ := mX5_laysShares) (pc := 45) (tgt := 14) dX5_laysShares_45 (by decide) ?_
    exact h

set_option maxRecDepth 20000 in
theorem bX5_seats_0 {G : Gl} {l : Launch} {d : Nat} {S : Sg} {P : Int32 → Sg → Prop} (i1 : Int32) (i2 : Int32)
    (h : Ct G l mX5_in d [.int i1, .int (nI 0), .int (nI 20)] S (QI (fun r4 T4 => (r4 = (nI 0) → P (-1) T4) ∧ (¬ (r4 = (nI 0)) → Ct G l mX5_isRow d [.int i2] T4 (QI (fun r11 T11 => (¬ r11 = (nI 0) → Ct G l mX5_are d [.ref 7] T11 (QI (fun r20 T20 => (¬ r20 = (nI 0) → Ev G l mX5_seats (d + 1) 31 [some (.ref 7), some (.int i1), some (.int i2), some (.int (nI 0)), none, none, none, none, none, none] [] T20 (QI P)) ∧ (r20 = (nI 0) → P (-4) T20)))) ∧ (r11 = (nI 0) → P (-1) T11))))))) :
    Ct G l mX5_seats (d + 1) [.ref 7, .int i1, .int i2] S (QI P) := by
  show Ev G l mX5_seats (d + 1) 0 [some (.ref 7), some (.int i1), some (.int i2), none, none, none, none, none, none, none] [] S (QI P)
  refine r_iload_n (μ := mX5_seats) (pc := 0) dX5_seats_0 rfl rfl ?_
  refine r_iconst (μ := mX5_seats) (pc := 1) (v := nI 0) dX5_seats_1 rfl ?_
  refine r_bipush (μ := mX5_seats) (pc := 2) (v := nI 20) dX5_seats_2 rfl ?_
  refine r_callS (μ := mX5_seats) (pc := 4) (as := [.int i1, .int (nI 0), .int (nI 20)]) cX5_73 dX5_seats_4 rfl okX5_in (Nat.lt_succ_self d) (cat8 (n := 0) rfl (by decide)) rfl h (k_I (fun r4 T4 h => ?_))
  refine r_if_eq (μ := mX5_seats) (pc := 7) (tgt := 17) dX5_seats_7 (by decide) ⟨fun q7 => ?_, fun q7 => ?_⟩
  · have h := h.1 q7
    refine r_iconst (μ := mX5_seats) (pc := 17) (v := (-1)) dX5_seats_17 rfl ?_
    exact r_iret (μ := mX5_seats) (pc := 18) dX5_seats_18 rfl h
  · have h := h.2 q7
    refine r_iload_n (μ := mX5_seats) (pc := 10) dX5_seats_10 rfl rfl ?_
    refine r_callS (μ := mX5_seats) (pc := 11) (as := [.int i2]) cX5_77 dX5_seats_11 rfl okX5_isRow (Nat.lt_succ_self d) (cat8 (n := 0) rfl (by decide)) rfl h (k_I (fun r11 T11 h => ?_))
    refine r_if_ne (μ := mX5_seats) (pc := 14) (tgt := 19) dX5_seats_14 (by decide) ⟨fun q14 => ?_, fun q14 => ?_⟩
    · have h := h.1 q14
      refine r_aload_n (μ := mX5_seats) (pc := 19) dX5_seats_19 rfl rfl ?_
      refine r_callV (μ := mX5_seats) (pc := 20) (as := []) 5 cX5_176 dX5_seats_20 rfl rfl (Nat.le_of_ble_eq_true rfl) rfl okX5_are (Nat.lt_succ_self d) (cat8 (n := 0) rfl (by decide)) rfl h (k_I (fun r20 T20 h => ?_))
      refine r_if_ne (μ := mX5_seats) (pc := 23) (tgt := 29) dX5_seats_23 (by decide) ⟨fun q23 => ?_, fun q23 => ?_⟩
      · have h := h.1 q23
        refine r_iconst (μ := mX5_seats) (pc := 29) (v := nI 0) dX5_seats_29 rfl ?_
        refine r_istore_n (μ := mX5_seats) (pc := 30) (ls' := [some (.ref 7), some (.int i1), some (.int i2), some (.int (nI 0)), none, none, none, none, none, none]) dX5_seats_30 rfl (Nat.le_of_ble_eq_true rfl) rfl rfl ?_
        exact h
      · have h := h.2 q23
        refine r_bipush (μ := mX5_seats) (pc := 26) (v := (-4)) dX5_seats_26 rfl ?_
        exact r_iret (μ := mX5_seats) (pc := 28) dX5_seats_28 rfl h
    · have h := h.2 q14
      refine r_iconst (μ := mX5_seats) (pc := 17) (v := (-1)) dX5_seats_17 rfl ?_
      exact r_iret (μ := mX5_seats) (pc := 18) dX5_seats_18 rfl h

set_option maxRecDepth 20000 in
theorem bX5_seats_31 {G : Gl} {l : Launch} {d : Nat} {S : Sg} {P : Int32 → Sg → Prop} (i1 : Int32) (i2 : Int32) (i3 : Int32)
    (h : ((nI 6) ≤ i3 → Ct G l mX5_belongersNow d [.ref 7] S (QI (fun r51 T51 => Ev G l mX5_seats (d + 1) 61 [some (.ref 7), some (.int i1), some (.int i2), some (.int r51), some (.int (nI 0)), some (.int (nI 0)), none, none, none, none] [] T51 (QI P)))) ∧ (¬ ((nI 6) ≤ i3) → ∃ n43 : Nat, ix i3 n43 6 ∧ ∀ S43 : Sg, S43 = (u2 S.1 98 n43 (nI 0), S.2) → (Ev G l mX5_seats (d + 1) 31 [some (.ref 7), some (.int i1), some (.int i2), some (.int (i3 + (nI 1))), none, none, none, none, none, none] [] S43 (QI P)))) :
    Ev G l mX5_seats (d + 1) 31 [some (.ref 7), some (.int i1), some (.int i2), some (.int i3), none, none, none, none, none, none] [] S (QI P) := by
  show Ev G l mX5_seats (d + 1) 31 [some (.ref 7), some (.int i1), some (.int i2), some (.int i3), none, none, none, none, none, none] [] S (QI P)
  refine r_iload_n (μ := mX5_seats) (pc := 31) dX5_seats_31 rfl rfl ?_
  refine r_bipush (μ := mX5_seats) (pc := 32) (v := nI 6) dX5_seats_32 rfl ?_
  refine r_icmp_ge (μ := mX5_seats) (pc := 34) (tgt := 50) dX5_seats_34 (by decide) ⟨fun q34 => ?_, fun q34 => ?_⟩
  · have h := h.1 q34
    refine r_aload_n (μ := mX5_seats) (pc := 50) dX5_seats_50 rfl rfl ?_
    refine r_callV (μ := mX5_seats) (pc := 51) (as := []) 5 cX5_165 dX5_seats_51 rfl rfl (Nat.le_of_ble_eq_true rfl) rfl okX5_belongersNow (Nat.lt_succ_self d) (cat8 (n := 0) rfl (by decide)) rfl h (k_I (fun r51 T51 h => ?_))
    refine r_istore_n (μ := mX5_seats) (pc := 54) (ls' := [some (.ref 7), some (.int i1), some (.int i2), some (.int r51), none, none, none, none, none, none]) dX5_seats_54 rfl (Nat.le_of_ble_eq_true rfl) rfl rfl ?_
    refine r_iconst (μ := mX5_seats) (pc := 55) (v := nI 0) dX5_seats_55 rfl ?_
    refine r_istore (μ := mX5_seats) (pc := 56) (ls' := [some (.ref 7), some (.int i1), some (.int i2), some (.int r51), some (.int (nI 0)), none, none, none, none, none]) dX5_seats_56 (Nat.le_of_ble_eq_true rfl) rfl rfl ?_
    refine r_iconst (μ := mX5_seats) (pc := 58) (v := nI 0) dX5_seats_58 rfl ?_
    refine r_istore (μ := mX5_seats) (pc := 59) (ls' := [some (.ref 7), some (.int i1), some (.int i2), some (.int r51), some (.int (nI 0)), some (.int (nI 0)), none, none, none, none]) dX5_seats_59 (Nat.le_of_ble_eq_true rfl) rfl rfl ?_
    exact h
  · have h := h.2 q34
    refine r_aload_n (μ := mX5_seats) (pc := 37) dX5_seats_37 rfl rfl ?_
    refine g_R (μ := mX5_seats) (pc := 38) (k' := 98) fX5_41 dX5_seats_38 rfl rfl ?_
    refine r_iload_n (μ := mX5_seats) (pc := 41) dX5_seats_41 rfl rfl ?_
    refine r_iconst (μ := mX5_seats) (pc := 42) (v := nI 0) dX5_seats_42 rfl ?_
    obtain ⟨n43, hx43, h⟩ := h
    refine r_iast (μ := mX5_seats) (pc := 43) dX5_seats_43 rfl hx43 ?_
    refine nm_S (fun S43 eS43 => ?_)
    have h := h S43 eS43
    refine r_iinc (μ := mX5_seats) (pc := 44) (y := nI 1) (ls' := [some (.ref 7), some (.int i1), some (.int i2), some (.int (i3 + (nI 1))), none, none, none, none, none, none]) dX5_seats_44 rfl rfl (Nat.le_of_ble_eq_true rfl) rfl rfl ?_
    refine r_goto (μ := mX5_seats) (pc := 47) (tgt := 31) dX5_seats_47 (by decide) ?_
    exact h

set_option maxRecDepth 20000 in
theorem bX5_seats_61 {G : Gl} {l : Launch} {d : Nat} {S : Sg} {P : Int32 → Sg → Prop} (i1 : Int32) (i2 : Int32) (i3 : Int32) (i4 : Int32) (i5 : Int32)
    (h : (i1 ≤ i5 → Ct G l mX5_laysShares d [.ref 7, .int i2] S (QV (fun T214 => P i4 T214))) ∧ (¬ (i1 ≤ i5) → Ev G l mX5_seats (d + 1) 74 [some (.ref 7), some (.int i1), some (.int i2), some (.int i3), some (.int i4), some (.int i5), some (.int (-9)), some (.int (nI 0)), none, none] [] S (QI P))) :
    Ev G l mX5_seats (d + 1) 61 [some (.ref 7), some (.int i1), some (.int i2), some (.int i3), some (.int i4), some (.int i5), none, none, none, none] [] S (QI P) := by
  show Ev G l mX5_seats (d + 1) 61 [some (.ref 7), some (.int i1), some (.int i2), some (.int i3), some (.int i4), some (.int i5), none, none, none, none] [] S (QI P)
  refine r_iload (μ := mX5_seats) (pc := 61) dX5_seats_61 rfl ?_
  refine r_iload_n (μ := mX5_seats) (pc := 63) dX5_seats_63 rfl rfl ?_
  refine r_icmp_ge (μ := mX5_seats) (pc := 64) (tgt := 212) dX5_seats_64 (by decide) ⟨fun q64 => ?_, fun q64 => ?_⟩
  · have h := h.1 q64
    refine r_aload_n (μ := mX5_seats) (pc := 212) dX5_seats_212 rfl rfl ?_
    refine r_iload_n (μ := mX5_seats) (pc := 213) dX5_seats_213 rfl rfl ?_
    refine r_callV (μ := mX5_seats) (pc := 214) (as := [.int i2]) 5 cX5_198 dX5_seats_214 rfl rfl (Nat.le_of_ble_eq_true rfl) rfl okX5_laysShares (Nat.lt_succ_self d) (cat8 (n := 0) rfl (by decide)) rfl h (k_V (fun T214 h => ?_))
    refine r_iload (μ := mX5_seats) (pc := 217) dX5_seats_217 rfl ?_
    exact r_iret (μ := mX5_seats) (pc := 219) dX5_seats_219 rfl h
  · have h := h.2 q64
    refine r_bipush (μ := mX5_seats) (pc := 67) (v := (-9)) dX5_seats_67 rfl ?_
    refine r_istore (μ := mX5_seats) (pc := 69) (ls' := [some (.ref 7), some (.int i1), some (.int i2), some (.int i3), some (.int i4), some (.int i5), some (.int (-9)), none, none, none]) dX5_seats_69 (Nat.le_of_ble_eq_true rfl) rfl rfl ?_
    refine r_iconst (μ := mX5_seats) (pc := 71) (v := nI 0) dX5_seats_71 rfl ?_
    refine r_istore (μ := mX5_seats) (pc := 72) (ls' := [some (.ref 7), some (.int i1), some (.int i2), some (.int i3), some (.int i4), some (.int i5), some (.int (-9)), some (.int (nI 0)), none, none]) dX5_seats_72 (Nat.le_of_ble_eq_true rfl) rfl rfl ?_
    exact h

set_option maxRecDepth 20000 in
theorem bX5_seats_74 {G : Gl} {l : Launch} {d : Nat} {S : Sg} {P : Int32 → Sg → Prop} (i1 : Int32) (i2 : Int32) (i3 : Int32) (i4 : Int32) (i5 : Int32) (i6 : Int32) (i7 : Int32)
    (h : ((S.1 93 7) ≤ i7 → (i6 = (-9) → Ev G l mX5_seats (d + 1) 61 [some (.ref 7), some (.int i1), some (.int i2), some (.int i3), some (.int i4), some (.int (i5 + (nI 1))), none, none, none, none] [] S (QI P)) ∧ (¬ (i6 = (-9)) → ∃ n199 : Nat, ix i6 n199 6 ∧ (∀ S202 : Sg, S202 = (u2 S.1 98 n199 ((S.1 98 n199) + (nI 1)), S.2) → (Ev G l mX5_seats (d + 1) 61 [some (.ref 7), some (.int i1), some (.int i2), some (.int i3), some (.int (i4 + (nI 1))), some (.int (i5 + (nI 1))), none, none, none, none] [] S202 (QI P))))) ∧ (¬ ((S.1 93 7) ≤ i7) → Ct G l mX5_has d [.int i3, .int i7] S (QI (fun r89 T89 => (r89 = (nI 0) → Ev G l mX5_seats (d + 1) 108 [some (.ref 7), some (.int i1), some (.int i2), some (.int i3), some (.int i4), some (.int i5), some (.int i6), some (.int i7), none, none] [] T89 (QI P)) ∧ (¬ (r89 = (nI 0)) → Ct G l mX5_votesOf d [.ref 7, .int i7] T89 (QI (fun r98 T98 => ∀ x101 : Int32, x101 = (if r98 ≤ (nI 0) then (nI 0) else (nI 1)) → ((x101 = (nI 0) → Ev G l mX5_seats (d + 1) 162 [some (.ref 7), some (.int i1), some (.int i2), some (.int i3), some (.int i4), some (.int i5), some (.int i6), some (.int i7), some (.int x101), none] [] T98 (QI P)) ∧ (¬ (x101 = (nI 0)) → (i6 = (-9) → Ev G l mX5_seats (d + 1) 158 [some (.ref 7), some (.int i1), some (.int i2), some (.int i3), some (.int i4), some (.int i5), some (.int i6), some (.int i7), some (.int x101), none] [] T98 (QI P)) ∧ (¬ (i6 = (-9)) → Ct G l mX5_votesOf d [.ref 7, .int i7] T98 (QI (fun r126 T126 => ∃ n135 : Nat, ix i6 n135 6 ∧ (Ct G l mX5_votesOf d [.ref 7, .int i6] T126 (QI (fun r142 T142 => ∃ n151 : Nat, ix i7 n151 6 ∧ (∀ x155 : Int32, x155 = (if (r126 * ((T126.1 98 n135) + (nI 1))) ≤ (r142 * ((T142.1 98 n151) + (nI 1))) then (nI 0) else (nI 1)) → (∀ x167 : Int32, x167 = (if x155 = (nI 0) then i6 else i7) → (Ev G l mX5_seats (d + 1) 74 [some (.ref 7), some (.int i1), some (.int i2), some (.int i3), some (.int i4), some (.int i5), some (.int x167), some (.int (i7 + (nI 1))), none, none] [] T142 (QI P))))))))))))))))))) :
    Ev G l mX5_seats (d + 1) 74 [some (.ref 7), some (.int i1), some (.int i2), some (.int i3), some (.int i4), some (.int i5), some (.int i6), some (.int i7), none, none] [] S (QI P) := by
  show Ev G l mX5_seats (d + 1) 74 [some (.ref 7), some (.int i1), some (.int i2), some (.int i3), some (.int i4), some (.int i5), some (.int i6), some (.int i7), none, none] [] S (QI P)
  refine r_iload (μ := mX5_seats) (pc := 74) dX5_seats_74 rfl ?_
  refine r_aload_n (μ := mX5_seats) (pc := 76) dX5_seats_76 rfl rfl ?_
  refine g_R (μ := mX5_seats) (pc := 77) (k' := 93) fX5_25 dX5_seats_77 rfl rfl ?_
  refine r_bipush (μ := mX5_seats) (pc := 80) (v := nI 7) dX5_seats_80 rfl ?_
  refine r_iald (μ := mX5_seats) (pc := 82) dX5_seats_82 rfl (ix_nI (n := 7) (Nat.le_of_ble_eq_true rfl) (Nat.le_of_ble_eq_true rfl)) ?_
  refine r_icmp_ge (μ := mX5_seats) (pc := 83) (tgt := 185) dX5_seats_83 (by decide) ⟨fun q83 => ?_, fun q83 => ?_⟩
  · have h := h.1 q83
    refine r_iload (μ := mX5_seats) (pc := 185) dX5_seats_185 rfl ?_
    refine r_bipush (μ := mX5_seats) (pc := 187) (v := (-9)) dX5_seats_187 rfl ?_
    refine r_icmp_eq (μ := mX5_seats) (pc := 189) (tgt := 206) dX5_seats_189 (by decide) ⟨fun q189 => ?_, fun q189 => ?_⟩
    · have h := h.1 q189
      refine r_iinc (μ := mX5_seats) (pc := 206) (y := nI 1) (ls' := [some (.ref 7), some (.int i1), some (.int i2), some (.int i3), some (.int i4), some (.int (i5 + (nI 1))), some (.int i6), some (.int i7), none, none]) dX5_seats_206 rfl rfl (Nat.le_of_ble_eq_true rfl) rfl rfl ?_
      refine r_goto (μ := mX5_seats) (pc := 209) (tgt := 61) dX5_seats_209 (by decide) ?_
      exact Ev.sub (ls' := [some (.ref 7), some (.int i1), some (.int i2), some (.int i3), some (.int i4), some (.int (i5 + (nI 1))), none, none, none, none]) (ls_s (ls_s (ls_s (ls_s (ls_s (ls_s (ls_n (ls_n (ls_n (ls_n ls_0)))))))))) h
    · have h := h.2 q189
      refine r_aload_n (μ := mX5_seats) (pc := 192) dX5_seats_192 rfl rfl ?_
      refine g_R (μ := mX5_seats) (pc := 193) (k' := 98) fX5_41 dX5_seats_193 rfl rfl ?_
      refine r_iload (μ := mX5_seats) (pc := 196) dX5_seats_196 rfl ?_
      refine r_dup2_11 (μ := mX5_seats) (pc := 198) dX5_seats_198 rfl rfl ?_
      obtain ⟨n199, hx199, h⟩ := h
      refine r_iald (μ := mX5_seats) (pc := 199) dX5_seats_199 rfl hx199 ?_
      refine r_iconst (μ := mX5_seats) (pc := 200) (v := nI 1) dX5_seats_200 rfl ?_
      refine r_iadd (μ := mX5_seats) (pc := 201) dX5_seats_201 ?_
      refine r_iast (μ := mX5_seats) (pc := 202) dX5_seats_202 rfl hx199 ?_
      refine nm_S (fun S202 eS202 => ?_)
      have h := h S202 eS202
      refine r_iinc (μ := mX5_seats) (pc := 203) (y := nI 1) (ls' := [some (.ref 7), some (.int i1), some (.int i2), some (.int i3), some (.int (i4 + (nI 1))), some (.int i5), some (.int i6), some (.int i7), none, none]) dX5_seats_203 rfl rfl (Nat.le_of_ble_eq_true rfl) rfl rfl ?_
      refine r_iinc (μ := mX5_seats) (pc := 206) (y := nI 1) (ls' := [some (.ref 7), some (.int i1), some (.int i2), some (.int i3), some (.int (i4 + (nI 1))), some (.int (i5 + (nI 1))), some (.int i6), some (.int i7), none, none]) dX5_seats_206 rfl rfl (Nat.le_of_ble_eq_true rfl) rfl rfl ?_
      refine r_goto (μ := mX5_seats) (pc := 209) (tgt := 61) dX5_seats_209 (by decide) ?_
      exact Ev.sub (ls' := [some (.ref 7), some (.int i1), some (.int i2), some (.int i3), some (.int (i4 + (nI 1))), some (.int (i5 + (nI 1))), none, none, none, none]) (ls_s (ls_s (ls_s (ls_s (ls_s (ls_s (ls_n (ls_n (ls_n (ls_n ls_0)))))))))) h
  · have h := h.2 q83
    refine r_iload_n (μ := mX5_seats) (pc := 86) dX5_seats_86 rfl rfl ?_
    refine r_iload (μ := mX5_seats) (pc := 87) dX5_seats_87 rfl ?_
    refine r_callS (μ := mX5_seats) (pc := 89) (as := [.int i3, .int i7]) cX5_143 dX5_seats_89 rfl okX5_has (Nat.lt_succ_self d) (cat8 (n := 0) rfl (by decide)) rfl h (k_I (fun r89 T89 h => ?_))
    refine r_if_eq (μ := mX5_seats) (pc := 92) (tgt := 108) dX5_seats_92 (by decide) ⟨fun q92 => ?_, fun q92 => ?_⟩
    · have h := h.1 q92
      exact h
    · have h := h.2 q92
      refine r_aload_n (μ := mX5_seats) (pc := 95) dX5_seats_95 rfl rfl ?_
      refine r_iload (μ := mX5_seats) (pc := 96) dX5_seats_96 rfl ?_
      refine r_callV (μ := mX5_seats) (pc := 98) (as := [.int i7]) 5 cX5_147 dX5_seats_98 rfl rfl (Nat.le_of_ble_eq_true rfl) rfl okX5_votesOf (Nat.lt_succ_self d) (cat8 (n := 0) rfl (by decide)) rfl h (k_I (fun r98 T98 h => ?_))
      have J101 : ∀ x101 : Int32, x101 = (if r98 ≤ (nI 0) then (nI 0) else (nI 1)) → Ev G l mX5_seats (d + 1) 109 [some (.ref 7), some (.int i1), some (.int i2), some (.int i3), some (.int i4), some (.int i5), some (.int i6), some (.int i7), none, none] [.int x101] T98 (QI P) := by
        intro x101 e101
        have h := h x101 e101
        refine r_istore (μ := mX5_seats) (pc := 109) (ls' := [some (.ref 7), some (.int i1), some (.int i2), some (.int i3), some (.int i4), some (.int i5), some (.int i6), some (.int i7), some (.int x101), none]) dX5_seats_109 (Nat.le_of_ble_eq_true rfl) rfl rfl ?_
        refine r_iload (μ := mX5_seats) (pc := 111) dX5_seats_111 rfl ?_
        refine r_if_eq (μ := mX5_seats) (pc := 113) (tgt := 162) dX5_seats_113 (by decide) ⟨fun q113 => ?_, fun q113 => ?_⟩
        · have h := h.1 q113
          exact h
        · have h := h.2 q113
          refine r_iload (μ := mX5_seats) (pc := 116) dX5_seats_116 rfl ?_
          refine r_bipush (μ := mX5_seats) (pc := 118) (v := (-9)) dX5_seats_118 rfl ?_
          refine r_icmp_eq (μ := mX5_seats) (pc := 120) (tgt := 158) dX5_seats_120 (by decide) ⟨fun q120 => ?_, fun q120 => ?_⟩
          · have h := h.1 q120
            exact h
          · have h := h.2 q120
            refine r_aload_n (μ := mX5_seats) (pc := 123) dX5_seats_123 rfl rfl ?_
            refine r_iload (μ := mX5_seats) (pc := 124) dX5_seats_124 rfl ?_
            refine r_callV (μ := mX5_seats) (pc := 126) (as := [.int i7]) 5 cX5_147 dX5_seats_126 rfl rfl (Nat.le_of_ble_eq_true rfl) rfl okX5_votesOf (Nat.lt_succ_self d) (cat8 (n := 0) rfl (by decide)) rfl h (k_I (fun r126 T126 h => ?_))
            refine r_aload_n (μ := mX5_seats) (pc := 129) dX5_seats_129 rfl rfl ?_
            refine g_R (μ := mX5_seats) (pc := 130) (k' := 98) fX5_41 dX5_seats_130 rfl rfl ?_
            refine r_iload (μ := mX5_seats) (pc := 133) dX5_seats_133 rfl ?_
            obtain ⟨n135, hx135, h⟩ := h
            refine r_iald (μ := mX5_seats) (pc := 135) dX5_seats_135 rfl hx135 ?_
            refine r_iconst (μ := mX5_seats) (pc := 136) (v := nI 1) dX5_seats_136 rfl ?_
            refine r_iadd (μ := mX5_seats) (pc := 137) dX5_seats_137 ?_
            refine r_imul (μ := mX5_seats) (pc := 138) dX5_seats_138 ?_
            refine r_aload_n (μ := mX5_seats) (pc := 139) dX5_seats_139 rfl rfl ?_
            refine r_iload (μ := mX5_seats) (pc := 140) dX5_seats_140 rfl ?_
            refine r_callV (μ := mX5_seats) (pc := 142) (as := [.int i6]) 5 cX5_147 dX5_seats_142 rfl rfl (Nat.le_of_ble_eq_true rfl) rfl okX5_votesOf (Nat.lt_succ_self d) (cat8 (n := 1) rfl (by decide)) rfl h (k_I (fun r142 T142 h => ?_))
            refine r_aload_n (μ := mX5_seats) (pc := 145) dX5_seats_145 rfl rfl ?_
            refine g_R (μ := mX5_seats) (pc := 146) (k' := 98) fX5_41 dX5_seats_146 rfl rfl ?_
            refine r_iload (μ := mX5_seats) (pc := 149) dX5_seats_149 rfl ?_
            obtain ⟨n151, hx151, h⟩ := h
            refine r_iald (μ := mX5_seats) (pc := 151) dX5_seats_151 rfl hx151 ?_
            refine r_iconst (μ := mX5_seats) (pc := 152) (v := nI 1) dX5_seats_152 rfl ?_
            refine r_iadd (μ := mX5_seats) (pc := 153) dX5_seats_153 ?_
            refine r_imul (μ := mX5_seats) (pc := 154) dX5_seats_154 ?_
            have J155 : ∀ x155 : Int32, x155 = (if (r126 * ((T126.1 98 n135) + (nI 1))) ≤ (r142 * ((T142.1 98 n151) + (nI 1))) then (nI 0) else (nI 1)) → Ev G l mX5_seats (d + 1) 163 [some (.ref 7), some (.int i1), some (.int i2), some (.int i3), some (.int i4), some (.int i5), some (.int i6), some (.int i7), some (.int x101), none] [.int x155] T142 (QI P) := by
              intro x155 e155
              have h := h x155 e155
              refine r_istore (μ := mX5_seats) (pc := 163) (ls' := [some (.ref 7), some (.int i1), some (.int i2), some (.int i3), some (.int i4), some (.int i5), some (.int i6), some (.int i7), some (.int x101), some (.int x155)]) dX5_seats_163 (Nat.le_of_ble_eq_true rfl) rfl rfl ?_
              refine r_iload (μ := mX5_seats) (pc := 165) dX5_seats_165 rfl ?_
              have J167 : ∀ x167 : Int32, x167 = (if x155 = (nI 0) then i6 else i7) → Ev G l mX5_seats (d + 1) 177 [some (.ref 7), some (.int i1), some (.int i2), some (.int i3), some (.int i4), some (.int i5), some (.int i6), some (.int i7), some (.int x101), some (.int x155)] [.int x167] T142 (QI P) := by
                intro x167 e167
                have h := h x167 e167
                refine r_istore (μ := mX5_seats) (pc := 177) (ls' := [some (.ref 7), some (.int i1), some (.int i2), some (.int i3), some (.int i4), some (.int i5), some (.int x167), some (.int i7), some (.int x101), some (.int x155)]) dX5_seats_177 (Nat.le_of_ble_eq_true rfl) rfl rfl ?_
                refine r_iinc (μ := mX5_seats) (pc := 179) (y := nI 1) (ls' := [some (.ref 7), some (.int i1), some (.int i2), some (.int i3), some (.int i4), some (.int i5), some (.int x167), some (.int (i7 + (nI 1))), some (.int x101), some (.int x155)]) dX5_seats_179 rfl rfl (Nat.le_of_ble_eq_true rfl) rfl rfl ?_
                refine r_goto (μ := mX5_seats) (pc := 182) (tgt := 74) dX5_seats_182 (by decide) ?_
                exact Ev.sub (ls' := [some (.ref 7), some (.int i1), some (.int i2), some (.int i3), some (.int i4), some (.int i5), some (.int x167), some (.int (i7 + (nI 1))), none, none]) (ls_s (ls_s (ls_s (ls_s (ls_s (ls_s (ls_s (ls_s (ls_n (ls_n ls_0)))))))))) h
              refine r_if_eq (μ := mX5_seats) (pc := 167) (tgt := 175) dX5_seats_167 (by decide) ⟨fun q167 => ?_, fun q167 => ?_⟩
              · refine r_iload (μ := mX5_seats) (pc := 175) dX5_seats_175 rfl ?_
                exact J167 _ (by first | (rw [if_pos q167]; done) | simp only [if_pos q167])
              · refine r_iload (μ := mX5_seats) (pc := 170) dX5_seats_170 rfl ?_
                refine r_goto (μ := mX5_seats) (pc := 172) (tgt := 177) dX5_seats_172 (by decide) ?_
                exact J167 _ (by first | (rw [if_neg q167]; done) | simp only [if_neg q167])
            refine r_icmp_le (μ := mX5_seats) (pc := 155) (tgt := 162) dX5_seats_155 (by decide) ⟨fun q155 => ?_, fun q155 => ?_⟩
            · refine r_iconst (μ := mX5_seats) (pc := 162) (v := nI 0) dX5_seats_162 rfl ?_
              exact J155 _ (by first | (rw [if_pos q155]; done) | simp only [if_pos q155])
            · refine r_iconst (μ := mX5_seats) (pc := 158) (v := nI 1) dX5_seats_158 rfl ?_
              refine r_goto (μ := mX5_seats) (pc := 159) (tgt := 163) dX5_seats_159 (by decide) ?_
              exact J155 _ (by first | (rw [if_neg q155]; done) | simp only [if_neg q155])
      refine r_if_le (μ := mX5_seats) (pc := 101) (tgt := 108) dX5_seats_101 (by decide) ⟨fun q101 => ?_, fun q101 => ?_⟩
      · refine r_iconst (μ := mX5_seats) (pc := 108) (v := nI 0) dX5_seats_108 rfl ?_
        exact J101 _ (by first | (rw [if_pos q101]; done) | simp only [if_pos q101])
      · refine r_iconst (μ := mX5_seats) (pc := 104) (v := nI 1) dX5_seats_104 rfl ?_
        refine r_goto (μ := mX5_seats) (pc := 105) (tgt := 109) dX5_seats_105 (by decide) ?_
        exact J101 _ (by first | (rw [if_neg q101]; done) | simp only [if_neg q101])

set_option maxRecDepth 20000 in
theorem bX5_seats_108 {G : Gl} {l : Launch} {d : Nat} {S : Sg} {P : Int32 → Sg → Prop} (i1 : Int32) (i2 : Int32) (i3 : Int32) (i4 : Int32) (i5 : Int32) (i6 : Int32) (i7 : Int32)
    (h : Ev G l mX5_seats (d + 1) 109 [some (.ref 7), some (.int i1), some (.int i2), some (.int i3), some (.int i4), some (.int i5), some (.int i6), some (.int i7), none, none] [.int (nI 0)] S (QI P)) :
    Ev G l mX5_seats (d + 1) 108 [some (.ref 7), some (.int i1), some (.int i2), some (.int i3), some (.int i4), some (.int i5), some (.int i6), some (.int i7), none, none] [] S (QI P) := by
  show Ev G l mX5_seats (d + 1) 108 [some (.ref 7), some (.int i1), some (.int i2), some (.int i3), some (.int i4), some (.int i5), some (.int i6), some (.int i7), none, none] [] S (QI P)
  refine r_iconst (μ := mX5_seats) (pc := 108) (v := nI 0) dX5_seats_108 rfl ?_
  exact h

set_option maxRecDepth 20000 in
theorem bX5_seats_109 {G : Gl} {l : Launch} {d : Nat} {S : Sg} {P : Int32 → Sg → Prop} (i1 : Int32) (i2 : Int32) (i3 : Int32) (i4 : Int32) (i5 : Int32) (i6 : Int32) (i7 : Int32) (s0 : Int32)
    (h : (s0 = (nI 0) → Ev G l mX5_seats (d + 1) 162 [some (.ref 7), some (.int i1), some (.int i2), some (.int i3), some (.int i4), some (.int i5), some (.int i6), some (.int i7), some (.int s0), none] [] S (QI P)) ∧ (¬ (s0 = (nI 0)) → (i6 = (-9) → Ev G l mX5_seats (d + 1) 158 [some (.ref 7), some (.int i1), some (.int i2), some (.int i3), some (.int i4), some (.int i5), some (.int i6), some (.int i7), some (.int s0), none] [] S (QI P)) ∧ (¬ (i6 = (-9)) → Ct G l mX5_votesOf d [.ref 7, .int i7] S (QI (fun r126 T126 => ∃ n135 : Nat, ix i6 n135 6 ∧ (Ct G l mX5_votesOf d [.ref 7, .int i6] T126 (QI (fun r142 T142 => ∃ n151 : Nat, ix i7 n151 6 ∧ (∀ x155 : Int32, x155 = (if (r126 * ((T126.1 98 n135) + (nI 1))) ≤ (r142 * ((T142.1 98 n151) + (nI 1))) then (nI 0) else (nI 1)) → (∀ x167 : Int32, x167 = (if x155 = (nI 0) then i6 else i7) → (Ev G l mX5_seats (d + 1) 74 [some (.ref 7), some (.int i1), some (.int i2), some (.int i3), some (.int i4), some (.int i5), some (.int x167), some (.int (i7 + (nI 1))), none, none] [] T142 (QI P)))))))))))) :
    Ev G l mX5_seats (d + 1) 109 [some (.ref 7), some (.int i1), some (.int i2), some (.int i3), some (.int i4), some (.int i5), some (.int i6), some (.int i7), none, none] [.int s0] S (QI P) := by
  show Ev G l mX5_seats (d + 1) 109 [some (.ref 7), some (.int i1), some (.int i2), some (.int i3), some (.int i4), some (.int i5), some (.int i6), some (.int i7), none, none] [.int s0] S (QI P)
  refine r_istore (μ := mX5_seats) (pc := 109) (ls' := [some (.ref 7), some (.int i1), some (.int i2), some (.int i3), some (.int i4), some (.int i5), some (.int i6), some (.int i7), some (.int s0), none]) dX5_seats_109 (Nat.le_of_ble_eq_true rfl) rfl rfl ?_
  refine r_iload (μ := mX5_seats) (pc := 111) dX5_seats_111 rfl ?_
  refine r_if_eq (μ := mX5_seats) (pc := 113) (tgt := 162) dX5_seats_113 (by decide) ⟨fun q113 => ?_, fun q113 => ?_⟩
  · have h := h.1 q113
    exact h
  · have h := h.2 q113
    refine r_iload (μ := mX5_seats) (pc := 116) dX5_seats_116 rfl ?_
    refine r_bipush (μ := mX5_seats) (pc := 118) (v := (-9)) dX5_seats_118 rfl ?_
    refine r_icmp_eq (μ := mX5_seats) (pc := 120) (tgt := 158) dX5_seats_120 (by decide) ⟨fun q120 => ?_, fun q120 => ?_⟩
    · have h := h.1 q120
      exact h
    · have h := h.2 q120
      refine r_aload_n (μ := mX5_seats) (pc := 123) dX5_seats_123 rfl rfl ?_
      refine r_iload (μ := mX5_seats) (pc := 124) dX5_seats_124 rfl ?_
      refine r_callV (μ := mX5_seats) (pc := 126) (as := [.int i7]) 5 cX5_147 dX5_seats_126 rfl rfl (Nat.le_of_ble_eq_true rfl) rfl okX5_votesOf (Nat.lt_succ_self d) (cat8 (n := 0) rfl (by decide)) rfl h (k_I (fun r126 T126 h => ?_))
      refine r_aload_n (μ := mX5_seats) (pc := 129) dX5_seats_129 rfl rfl ?_
      refine g_R (μ := mX5_seats) (pc := 130) (k' := 98) fX5_41 dX5_seats_130 rfl rfl ?_
      refine r_iload (μ := mX5_seats) (pc := 133) dX5_seats_133 rfl ?_
      obtain ⟨n135, hx135, h⟩ := h
      refine r_iald (μ := mX5_seats) (pc := 135) dX5_seats_135 rfl hx135 ?_
      refine r_iconst (μ := mX5_seats) (pc := 136) (v := nI 1) dX5_seats_136 rfl ?_
      refine r_iadd (μ := mX5_seats) (pc := 137) dX5_seats_137 ?_
      refine r_imul (μ := mX5_seats) (pc := 138) dX5_seats_138 ?_
      refine r_aload_n (μ := mX5_seats) (pc := 139) dX5_seats_139 rfl rfl ?_
      refine r_iload (μ := mX5_seats) (pc := 140) dX5_seats_140 rfl ?_
      refine r_callV (μ := mX5_seats) (pc := 142) (as := [.int i6]) 5 cX5_147 dX5_seats_142 rfl rfl (Nat.le_of_ble_eq_true rfl) rfl okX5_votesOf (Nat.lt_succ_self d) (cat8 (n := 1) rfl (by decide)) rfl h (k_I (fun r142 T142 h => ?_))
      refine r_aload_n (μ := mX5_seats) (pc := 145) dX5_seats_145 rfl rfl ?_
      refine g_R (μ := mX5_seats) (pc := 146) (k' := 98) fX5_41 dX5_seats_146 rfl rfl ?_
      refine r_iload (μ := mX5_seats) (pc := 149) dX5_seats_149 rfl ?_
      obtain ⟨n151, hx151, h⟩ := h
      refine r_iald (μ := mX5_seats) (pc := 151) dX5_seats_151 rfl hx151 ?_
      refine r_iconst (μ := mX5_seats) (pc := 152) (v := nI 1) dX5_seats_152 rfl ?_
      refine r_iadd (μ := mX5_seats) (pc := 153) dX5_seats_153 ?_
      refine r_imul (μ := mX5_seats) (pc := 154) dX5_seats_154 ?_
      have J155 : ∀ x155 : Int32, x155 = (if (r126 * ((T126.1 98 n135) + (nI 1))) ≤ (r142 * ((T142.1 98 n151) + (nI 1))) then (nI 0) else (nI 1)) → Ev G l mX5_seats (d + 1) 163 [some (.ref 7), some (.int i1), some (.int i2), some (.int i3), some (.int i4), some (.int i5), some (.int i6), some (.int i7), some (.int s0), none] [.int x155] T142 (QI P) := by
        intro x155 e155
        have h := h x155 e155
        refine r_istore (μ := mX5_seats) (pc := 163) (ls' := [some (.ref 7), some (.int i1), some (.int i2), some (.int i3), some (.int i4), some (.int i5), some (.int i6), some (.int i7), some (.int s0), some (.int x155)]) dX5_seats_163 (Nat.le_of_ble_eq_true rfl) rfl rfl ?_
        refine r_iload (μ := mX5_seats) (pc := 165) dX5_seats_165 rfl ?_
        have J167 : ∀ x167 : Int32, x167 = (if x155 = (nI 0) then i6 else i7) → Ev G l mX5_seats (d + 1) 177 [some (.ref 7), some (.int i1), some (.int i2), some (.int i3), some (.int i4), some (.int i5), some (.int i6), some (.int i7), some (.int s0), some (.int x155)] [.int x167] T142 (QI P) := by
          intro x167 e167
          have h := h x167 e167
          refine r_istore (μ := mX5_seats) (pc := 177) (ls' := [some (.ref 7), some (.int i1), some (.int i2), some (.int i3), some (.int i4), some (.int i5), some (.int x167), some (.int i7), some (.int s0), some (.int x155)]) dX5_seats_177 (Nat.le_of_ble_eq_true rfl) rfl rfl ?_
          refine r_iinc (μ := mX5_seats) (pc := 179) (y := nI 1) (ls' := [some (.ref 7), some (.int i1), some (.int i2), some (.int i3), some (.int i4), some (.int i5), some (.int x167), some (.int (i7 + (nI 1))), some (.int s0), some (.int x155)]) dX5_seats_179 rfl rfl (Nat.le_of_ble_eq_true rfl) rfl rfl ?_
          refine r_goto (μ := mX5_seats) (pc := 182) (tgt := 74) dX5_seats_182 (by decide) ?_
          exact Ev.sub (ls' := [some (.ref 7), some (.int i1), some (.int i2), some (.int i3), some (.int i4), some (.int i5), some (.int x167), some (.int (i7 + (nI 1))), none, none]) (ls_s (ls_s (ls_s (ls_s (ls_s (ls_s (ls_s (ls_s (ls_n (ls_n ls_0)))))))))) h
        refine r_if_eq (μ := mX5_seats) (pc := 167) (tgt := 175) dX5_seats_167 (by decide) ⟨fun q167 => ?_, fun q167 => ?_⟩
        · refine r_iload (μ := mX5_seats) (pc := 175) dX5_seats_175 rfl ?_
          exact J167 _ (by first | (rw [if_pos q167]; done) | simp only [if_pos q167])
        · refine r_iload (μ := mX5_seats) (pc := 170) dX5_seats_170 rfl ?_
          refine r_goto (μ := mX5_seats) (pc := 172) (tgt := 177) dX5_seats_172 (by decide) ?_
          exact J167 _ (by first | (rw [if_neg q167]; done) | simp only [if_neg q167])
      refine r_icmp_le (μ := mX5_seats) (pc := 155) (tgt := 162) dX5_seats_155 (by decide) ⟨fun q155 => ?_, fun q155 => ?_⟩
      · refine r_iconst (μ := mX5_seats) (pc := 162) (v := nI 0) dX5_seats_162 rfl ?_
        exact J155 _ (by first | (rw [if_pos q155]; done) | simp only [if_pos q155])
      · refine r_iconst (μ := mX5_seats) (pc := 158) (v := nI 1) dX5_seats_158 rfl ?_
        refine r_goto (μ := mX5_seats) (pc := 159) (tgt := 163) dX5_seats_159 (by decide) ?_
        exact J155 _ (by first | (rw [if_neg q155]; done) | simp only [if_neg q155])

set_option maxRecDepth 20000 in
theorem bX5_seats_158 {G : Gl} {l : Launch} {d : Nat} {S : Sg} {P : Int32 → Sg → Prop} (i1 : Int32) (i2 : Int32) (i3 : Int32) (i4 : Int32) (i5 : Int32) (i6 : Int32) (i7 : Int32) (i8 : Int32)
    (h : Ev G l mX5_seats (d + 1) 163 [some (.ref 7), some (.int i1), some (.int i2), some (.int i3), some (.int i4), some (.int i5), some (.int i6), some (.int i7), some (.int i8), none] [.int (nI 1)] S (QI P)) :
    Ev G l mX5_seats (d + 1) 158 [some (.ref 7), some (.int i1), some (.int i2), some (.int i3), some (.int i4), some (.int i5), some (.int i6), some (.int i7), some (.int i8), none] [] S (QI P) := by
  show Ev G l mX5_seats (d + 1) 158 [some (.ref 7), some (.int i1), some (.int i2), some (.int i3), some (.int i4), some (.int i5), some (.int i6), some (.int i7), some (.int i8), none] [] S (QI P)
  refine r_iconst (μ := mX5_seats) (pc := 158) (v := nI 1) dX5_seats_158 rfl ?_
  refine r_goto (μ := mX5_seats) (pc := 159) (tgt := 163) dX5_seats_159 (by decide) ?_
  exact h

set_option maxRecDepth 20000 in
theorem bX5_seats_162 {G : Gl} {l : Launch} {d : Nat} {S : Sg} {P : Int32 → Sg → Prop} (i1 : Int32) (i2 : Int32) (i3 : Int32) (i4 : Int32) (i5 : Int32) (i6 : Int32) (i7 : Int32) (i8 : Int32)
    (h : Ev G l mX5_seats (d + 1) 163 [some (.ref 7), some (.int i1), some (.int i2), some (.int i3), some (.int i4), some (.int i5), some (.int i6), some (.int i7), some (.int i8), none] [.int (nI 0)] S (QI P)) :
    Ev G l mX5_seats (d + 1) 162 [some (.ref 7), some (.int i1), some (.int i2), some (.int i3), some (.int i4), some (.int i5), some (.int i6), some (.int i7), some (.int i8), none] [] S (QI P) := by
  show Ev G l mX5_seats (d + 1) 162 [some (.ref 7), some (.int i1), some (.int i2), some (.int i3), some (.int i4), some (.int i5), some (.int i6), some (.int i7), some (.int i8), none] [] S (QI P)
  refine r_iconst (μ := mX5_seats) (pc := 162) (v := nI 0) dX5_seats_162 rfl ?_
  exact h

set_option maxRecDepth 20000 in
theorem bX5_seats_163 {G : Gl} {l : Launch} {d : Nat} {S : Sg} {P : Int32 → Sg → Prop} (i1 : Int32) (i2 : Int32) (i3 : Int32) (i4 : Int32) (i5 : Int32) (i6 : Int32) (i7 : Int32) (i8 : Int32) (s0 : Int32)
    (h : ∀ x167 : Int32, x167 = (if s0 = (nI 0) then i6 else i7) → (Ev G l mX5_seats (d + 1) 74 [some (.ref 7), some (.int i1), some (.int i2), some (.int i3), some (.int i4), some (.int i5), some (.int x167), some (.int (i7 + (nI 1))), none, none] [] S (QI P))) :
    Ev G l mX5_seats (d + 1) 163 [some (.ref 7), some (.int i1), some (.int i2), some (.int i3), some (.int i4), some (.int i5), some (.int i6), some (.int i7), some (.int i8), none] [.int s0] S (QI P) := by
  show Ev G l mX5_seats (d + 1) 163 [some (.ref 7), some (.int i1), some (.int i2), some (.int i3), some (.int i4), some (.int i5), some (.int i6), some (.int i7), some (.int i8), none] [.int s0] S (QI P)
  refine r_istore (μ := mX5_seats) (pc := 163) (ls' := [some (.ref 7), some (.int i1), some (.int i2), some (.int i3), some (.int i4), some (.int i5), some (.int i6), some (.int i7), some (.int i8), some (.int s0)]) dX5_seats_163 (Nat.le_of_ble_eq_true rfl) rfl rfl ?_
  refine r_iload (μ := mX5_seats) (pc := 165) dX5_seats_165 rfl ?_
  have J167 : ∀ x167 : Int32, x167 = (if s0 = (nI 0) then i6 else i7) → Ev G l mX5_seats (d + 1) 177 [some (.ref 7), some (.int i1), some (.int i2), some (.int i3), some (.int i4), some (.int i5), some (.int i6), some (.int i7), some (.int i8), some (.int s0)] [.int x167] S (QI P) := by
    intro x167 e167
    have h := h x167 e167
    refine r_istore (μ := mX5_seats) (pc := 177) (ls' := [some (.ref 7), some (.int i1), some (.int i2), some (.int i3), some (.int i4), some (.int i5), some (.int x167), some (.int i7), some (.int i8), some (.int s0)]) dX5_seats_177 (Nat.le_of_ble_eq_true rfl) rfl rfl ?_
    refine r_iinc (μ := mX5_seats) (pc := 179) (y := nI 1) (ls' := [some (.ref 7), some (.int i1), some (.int i2), some (.int i3), some (.int i4), some (.int i5), some (.int x167), some (.int (i7 + (nI 1))), some (.int i8), some (.int s0)]) dX5_seats_179 rfl rfl (Nat.le_of_ble_eq_true rfl) rfl rfl ?_
    refine r_goto (μ := mX5_seats) (pc := 182) (tgt := 74) dX5_seats_182 (by decide) ?_
    exact Ev.sub (ls' := [some (.ref 7), some (.int i1), some (.int i2), some (.int i3), some (.int i4), some (.int i5), some (.int x167), some (.int (i7 + (nI 1))), none, none]) (ls_s (ls_s (ls_s (ls_s (ls_s (ls_s (ls_s (ls_s (ls_n (ls_n ls_0)))))))))) h
  refine r_if_eq (μ := mX5_seats) (pc := 167) (tgt := 175) dX5_seats_167 (by decide) ⟨fun q167 => ?_, fun q167 => ?_⟩
  · refine r_iload (μ := mX5_seats) (pc := 175) dX5_seats_175 rfl ?_
    exact J167 _ (by first | (rw [if_pos q167]; done) | simp only [if_pos q167])
  · refine r_iload (μ := mX5_seats) (pc := 170) dX5_seats_170 rfl ?_
    refine r_goto (μ := mX5_seats) (pc := 172) (tgt := 177) dX5_seats_172 (by decide) ?_
    exact J167 _ (by first | (rw [if_neg q167]; done) | simp only [if_neg q167])

set_option maxRecDepth 20000 in
theorem bX5_fewest_0 {G : Gl} {l : Launch} {d : Nat} {S : Sg} {P : Int32 → Sg → Prop} 
    (h : Ct G l mX5_are d [.ref 7] S (QI (fun r1 T1 => (¬ r1 = (nI 0) → Ct G l mX5_belongersNow d [.ref 7] T1 (QI (fun r11 T11 => Ct G l mX5_votesIn d [.ref 7, .int r11] T11 (QI (fun r17 T17 => Ev G l mX5_fewest (d + 1) 27 [some (.ref 7), some (.int r11), some (.int r17), some (.int (-9)), some (.int (nI 0)), none] [] T17 (QI P)))))) ∧ (r1 = (nI 0) → P (-4) T1)))) :
    Ct G l mX5_fewest (d + 1) [.ref 7] S (QI P) := by
  show Ev G l mX5_fewest (d + 1) 0 [some (.ref 7), none, none, none, none, none] [] S (QI P)
  refine r_aload_n (μ := mX5_fewest) (pc := 0) dX5_fewest_0 rfl rfl ?_
  refine r_callV (μ := mX5_fewest) (pc := 1) (as := []) 5 cX5_176 dX5_fewest_1 rfl rfl (Nat.le_of_ble_eq_true rfl) rfl okX5_are (Nat.lt_succ_self d) (cat8 (n := 0) rfl (by decide)) rfl h (k_I (fun r1 T1 h => ?_))
  refine r_if_ne (μ := mX5_fewest) (pc := 4) (tgt := 10) dX5_fewest_4 (by decide) ⟨fun q4 => ?_, fun q4 => ?_⟩
  · have h := h.1 q4
    refine r_aload_n (μ := mX5_fewest) (pc := 10) dX5_fewest_10 rfl rfl ?_
    refine r_callV (μ := mX5_fewest) (pc := 11) (as := []) 5 cX5_165 dX5_fewest_11 rfl rfl (Nat.le_of_ble_eq_true rfl) rfl okX5_belongersNow (Nat.lt_succ_self d) (cat8 (n := 0) rfl (by decide)) rfl h (k_I (fun r11 T11 h => ?_))
    refine r_istore_n (μ := mX5_fewest) (pc := 14) (ls' := [some (.ref 7), some (.int r11), none, none, none, none]) dX5_fewest_14 rfl (Nat.le_of_ble_eq_true rfl) rfl rfl ?_
    refine r_aload_n (μ := mX5_fewest) (pc := 15) dX5_fewest_15 rfl rfl ?_
    refine r_iload_n (μ := mX5_fewest) (pc := 16) dX5_fewest_16 rfl rfl ?_
    refine r_callV (μ := mX5_fewest) (pc := 17) (as := [.int r11]) 5 cX5_169 dX5_fewest_17 rfl rfl (Nat.le_of_ble_eq_true rfl) rfl okX5_votesIn (Nat.lt_succ_self d) (cat8 (n := 0) rfl (by decide)) rfl h (k_I (fun r17 T17 h => ?_))
    refine r_istore_n (μ := mX5_fewest) (pc := 20) (ls' := [some (.ref 7), some (.int r11), some (.int r17), none, none, none]) dX5_fewest_20 rfl (Nat.le_of_ble_eq_true rfl) rfl rfl ?_
    refine r_bipush (μ := mX5_fewest) (pc := 21) (v := (-9)) dX5_fewest_21 rfl ?_
    refine r_istore_n (μ := mX5_fewest) (pc := 23) (ls' := [some (.ref 7), some (.int r11), some (.int r17), some (.int (-9)), none, none]) dX5_fewest_23 rfl (Nat.le_of_ble_eq_true rfl) rfl rfl ?_
    refine r_iconst (μ := mX5_fewest) (pc := 24) (v := nI 0) dX5_fewest_24 rfl ?_
    refine r_istore (μ := mX5_fewest) (pc := 25) (ls' := [some (.ref 7), some (.int r11), some (.int r17), some (.int (-9)), some (.int (nI 0)), none]) dX5_fewest_25 (Nat.le_of_ble_eq_true rfl) rfl rfl ?_
    exact h
  · have h := h.2 q4
    refine r_bipush (μ := mX5_fewest) (pc := 7) (v := (-4)) dX5_fewest_7 rfl ?_
    exact r_iret (μ := mX5_fewest) (pc := 9) dX5_fewest_9 rfl h

set_option maxRecDepth 20000 in
theorem bX5_fewest_27 {G : Gl} {l : Launch} {d : Nat} {S : Sg} {P : Int32 → Sg → Prop} (i1 : Int32) (i2 : Int32) (i3 : Int32) (i4 : Int32)
    (h : (i1 < i4 → (¬ i3 = (-9) → Ct G l mX5_ones d [.int i3] S (QI (fun r110 T110 => Ct G l mX5_tells d [.ref 7, .int r110, .int i3] T110 (QI (fun r114 T114 => P r114 T114))))) ∧ (i3 = (-9) → P (-9) S)) ∧ (¬ (i1 < i4) → (¬ (i4 &&& (i1 ^^^ (-1))) = (nI 0) → Ev G l mX5_fewest (d + 1) 76 [some (.ref 7), some (.int i1), some (.int i2), some (.int i3), some (.int i4), none] [] S (QI P)) ∧ ((i4 &&& (i1 ^^^ (-1))) = (nI 0) → Ct G l mX5_votesIn d [.ref 7, .int i4] S (QI (fun r46 T46 => (((nI 2) * r46) ≤ i2 → Ev G l mX5_fewest (d + 1) 76 [some (.ref 7), some (.int i1), some (.int i2), some (.int i3), some (.int i4), none] [] T46 (QI P)) ∧ (¬ (((nI 2) * r46) ≤ i2) → (i3 = (-9) → Ev G l mX5_fewest (d + 1) 72 [some (.ref 7), some (.int i1), some (.int i2), some (.int i3), some (.int i4), none] [] T46 (QI P)) ∧ (¬ (i3 = (-9)) → Ct G l mX5_ones d [.int i4] T46 (QI (fun r62 T62 => Ct G l mX5_ones d [.int i3] T62 (QI (fun r66 T66 => ∀ x69 : Int32, x69 = (if r66 ≤ r62 then (nI 0) else (nI 1)) → (∀ x81 : Int32, x81 = (if x69 = (nI 0) then i3 else i4) → (Ev G l mX5_fewest (d + 1) 27 [some (.ref 7), some (.int i1), some (.int i2), some (.int x81), some (.int (i4 + (nI 1))), none] [] T66 (QI P)))))))))))))) :
    Ev G l mX5_fewest (d + 1) 27 [some (.ref 7), some (.int i1), some (.int i2), some (.int i3), some (.int i4), none] [] S (QI P) := by
  show Ev G l mX5_fewest (d + 1) 27 [some (.ref 7), some (.int i1), some (.int i2), some (.int i3), some (.int i4), none] [] S (QI P)
  refine r_iload (μ := mX5_fewest) (pc := 27) dX5_fewest_27 rfl ?_
  refine r_iload_n (μ := mX5_fewest) (pc := 29) dX5_fewest_29 rfl rfl ?_
  refine r_icmp_gt (μ := mX5_fewest) (pc := 30) (tgt := 97) dX5_fewest_30 (by decide) ⟨fun q30 => ?_, fun q30 => ?_⟩
  · have h := h.1 q30
    refine r_iload_n (μ := mX5_fewest) (pc := 97) dX5_fewest_97 rfl rfl ?_
    refine r_bipush (μ := mX5_fewest) (pc := 98) (v := (-9)) dX5_fewest_98 rfl ?_
    refine r_icmp_ne (μ := mX5_fewest) (pc := 100) (tgt := 108) dX5_fewest_100 (by decide) ⟨fun q100 => ?_, fun q100 => ?_⟩
    · have h := h.1 q100
      refine r_aload_n (μ := mX5_fewest) (pc := 108) dX5_fewest_108 rfl rfl ?_
      refine r_iload_n (μ := mX5_fewest) (pc := 109) dX5_fewest_109 rfl rfl ?_
      refine r_callS (μ := mX5_fewest) (pc := 110) (as := [.int i3]) cX5_201 dX5_fewest_110 rfl okX5_ones (Nat.lt_succ_self d) (cat8 (n := 1) rfl (by decide)) rfl h (k_I (fun r110 T110 h => ?_))
      refine r_iload_n (μ := mX5_fewest) (pc := 113) dX5_fewest_113 rfl rfl ?_
      refine r_callV (μ := mX5_fewest) (pc := 114) (as := [.int r110, .int i3]) 5 cX5_93 dX5_fewest_114 rfl rfl (Nat.le_of_ble_eq_true rfl) rfl okX5_tells (Nat.lt_succ_self d) (cat8 (n := 0) rfl (by decide)) rfl h (k_I (fun r114 T114 h => ?_))
      exact r_iret (μ := mX5_fewest) (pc := 117) dX5_fewest_117 rfl h
    · have h := h.2 q100
      refine r_bipush (μ := mX5_fewest) (pc := 103) (v := (-9)) dX5_fewest_103 rfl ?_
      refine r_goto (μ := mX5_fewest) (pc := 105) (tgt := 117) dX5_fewest_105 (by decide) ?_
      exact r_iret (μ := mX5_fewest) (pc := 117) dX5_fewest_117 rfl h
  · have h := h.2 q30
    refine r_iload (μ := mX5_fewest) (pc := 33) dX5_fewest_33 rfl ?_
    refine r_iload_n (μ := mX5_fewest) (pc := 35) dX5_fewest_35 rfl rfl ?_
    refine r_iconst (μ := mX5_fewest) (pc := 36) (v := (-1)) dX5_fewest_36 rfl ?_
    refine r_ixor (μ := mX5_fewest) (pc := 37) dX5_fewest_37 ?_
    refine r_iand (μ := mX5_fewest) (pc := 38) dX5_fewest_38 ?_
    refine r_if_ne (μ := mX5_fewest) (pc := 39) (tgt := 76) dX5_fewest_39 (by decide) ⟨fun q39 => ?_, fun q39 => ?_⟩
    · have h := h.1 q39
      exact h
    · have h := h.2 q39
      refine r_iconst (μ := mX5_fewest) (pc := 42) (v := nI 2) dX5_fewest_42 rfl ?_
      refine r_aload_n (μ := mX5_fewest) (pc := 43) dX5_fewest_43 rfl rfl ?_
      refine r_iload (μ := mX5_fewest) (pc := 44) dX5_fewest_44 rfl ?_
      refine r_callV (μ := mX5_fewest) (pc := 46) (as := [.int i4]) 5 cX5_169 dX5_fewest_46 rfl rfl (Nat.le_of_ble_eq_true rfl) rfl okX5_votesIn (Nat.lt_succ_self d) (cat8 (n := 1) rfl (by decide)) rfl h (k_I (fun r46 T46 h => ?_))
      refine r_imul (μ := mX5_fewest) (pc := 49) dX5_fewest_49 ?_
      refine r_iload_n (μ := mX5_fewest) (pc := 50) dX5_fewest_50 rfl rfl ?_
      refine r_icmp_le (μ := mX5_fewest) (pc := 51) (tgt := 76) dX5_fewest_51 (by decide) ⟨fun q51 => ?_, fun q51 => ?_⟩
      · have h := h.1 q51
        exact h
      · have h := h.2 q51
        refine r_iload_n (μ := mX5_fewest) (pc := 54) dX5_fewest_54 rfl rfl ?_
        refine r_bipush (μ := mX5_fewest) (pc := 55) (v := (-9)) dX5_fewest_55 rfl ?_
        refine r_icmp_eq (μ := mX5_fewest) (pc := 57) (tgt := 72) dX5_fewest_57 (by decide) ⟨fun q57 => ?_, fun q57 => ?_⟩
        · have h := h.1 q57
          exact h
        · have h := h.2 q57
          refine r_iload (μ := mX5_fewest) (pc := 60) dX5_fewest_60 rfl ?_
          refine r_callS (μ := mX5_fewest) (pc := 62) (as := [.int i4]) cX5_201 dX5_fewest_62 rfl okX5_ones (Nat.lt_succ_self d) (cat8 (n := 0) rfl (by decide)) rfl h (k_I (fun r62 T62 h => ?_))
          refine r_iload_n (μ := mX5_fewest) (pc := 65) dX5_fewest_65 rfl rfl ?_
          refine r_callS (μ := mX5_fewest) (pc := 66) (as := [.int i3]) cX5_201 dX5_fewest_66 rfl okX5_ones (Nat.lt_succ_self d) (cat8 (n := 1) rfl (by decide)) rfl h (k_I (fun r66 T66 h => ?_))
          have J69 : ∀ x69 : Int32, x69 = (if r66 ≤ r62 then (nI 0) else (nI 1)) → Ev G l mX5_fewest (d + 1) 77 [some (.ref 7), some (.int i1), some (.int i2), some (.int i3), some (.int i4), none] [.int x69] T66 (QI P) := by
            intro x69 e69
            have h := h x69 e69
            refine r_istore (μ := mX5_fewest) (pc := 77) (ls' := [some (.ref 7), some (.int i1), some (.int i2), some (.int i3), some (.int i4), some (.int x69)]) dX5_fewest_77 (Nat.le_of_ble_eq_true rfl) rfl rfl ?_
            refine r_iload (μ := mX5_fewest) (pc := 79) dX5_fewest_79 rfl ?_
            have J81 : ∀ x81 : Int32, x81 = (if x69 = (nI 0) then i3 else i4) → Ev G l mX5_fewest (d + 1) 90 [some (.ref 7), some (.int i1), some (.int i2), some (.int i3), some (.int i4), some (.int x69)] [.int x81] T66 (QI P) := by
              intro x81 e81
              have h := h x81 e81
              refine r_istore_n (μ := mX5_fewest) (pc := 90) (ls' := [some (.ref 7), some (.int i1), some (.int i2), some (.int x81), some (.int i4), some (.int x69)]) dX5_fewest_90 rfl (Nat.le_of_ble_eq_true rfl) rfl rfl ?_
              refine r_iinc (μ := mX5_fewest) (pc := 91) (y := nI 1) (ls' := [some (.ref 7), some (.int i1), some (.int i2), some (.int x81), some (.int (i4 + (nI 1))), some (.int x69)]) dX5_fewest_91 rfl rfl (Nat.le_of_ble_eq_true rfl) rfl rfl ?_
              refine r_goto (μ := mX5_fewest) (pc := 94) (tgt := 27) dX5_fewest_94 (by decide) ?_
              exact Ev.sub (ls' := [some (.ref 7), some (.int i1), some (.int i2), some (.int x81), some (.int (i4 + (nI 1))), none]) (ls_s (ls_s (ls_s (ls_s (ls_s (ls_n ls_0)))))) h
            refine r_if_eq (μ := mX5_fewest) (pc := 81) (tgt := 89) dX5_fewest_81 (by decide) ⟨fun q81 => ?_, fun q81 => ?_⟩
            · refine r_iload_n (μ := mX5_fewest) (pc := 89) dX5_fewest_89 rfl rfl ?_
              exact J81 _ (by first | (rw [if_pos q81]; done) | simp only [if_pos q81])
            · refine r_iload (μ := mX5_fewest) (pc := 84) dX5_fewest_84 rfl ?_
              refine r_goto (μ := mX5_fewest) (pc := 86) (tgt := 90) dX5_fewest_86 (by decide) ?_
              exact J81 _ (by first | (rw [if_neg q81]; done) | simp only [if_neg q81])
          refine r_icmp_ge (μ := mX5_fewest) (pc := 69) (tgt := 76) dX5_fewest_69 (by decide) ⟨fun q69 => ?_, fun q69 => ?_⟩
          · refine r_iconst (μ := mX5_fewest) (pc := 76) (v := nI 0) dX5_fewest_76 rfl ?_
            exact J69 _ (by first | (rw [if_pos q69]; done) | simp only [if_pos q69])
          · refine r_iconst (μ := mX5_fewest) (pc := 72) (v := nI 1) dX5_fewest_72 rfl ?_
            refine r_goto (μ := mX5_fewest) (pc := 73) (tgt := 77) dX5_fewest_73 (by decide) ?_
            exact J69 _ (by first | (rw [if_neg q69]; done) | simp only [if_neg q69])

set_option maxRecDepth 20000 in
theorem bX5_fewest_72 {G : Gl} {l : Launch} {d : Nat} {S : Sg} {P : Int32 → Sg → Prop} (i1 : Int32) (i2 : Int32) (i3 : Int32) (i4 : Int32)
    (h : Ev G l mX5_fewest (d + 1) 77 [some (.ref 7), some (.int i1), some (.int i2), some (.int i3), some (.int i4), none] [.int (nI 1)] S (QI P)) :
    Ev G l mX5_fewest (d + 1) 72 [some (.ref 7), some (.int i1), some (.int i2), some (.int i3), some (.int i4), none] [] S (QI P) := by
  show Ev G l mX5_fewest (d + 1) 72 [some (.ref 7), some (.int i1), some (.int i2), some (.int i3), some (.int i4), none] [] S (QI P)
  refine r_iconst (μ := mX5_fewest) (pc := 72) (v := nI 1) dX5_fewest_72 rfl ?_
  refine r_goto (μ := mX5_fewest) (pc := 73) (tgt := 77) dX5_fewest_73 (by decide) ?_
  exact h

set_option maxRecDepth 20000 in
theorem bX5_fewest_76 {G : Gl} {l : Launch} {d : Nat} {S : Sg} {P : Int32 → Sg → Prop} (i1 : Int32) (i2 : Int32) (i3 : Int32) (i4 : Int32)
    (h : Ev G l mX5_fewest (d + 1) 77 [some (.ref 7), some (.int i1), some (.int i2), some (.int i3), some (.int i4), none] [.int (nI 0)] S (QI P)) :
    Ev G l mX5_fewest (d + 1) 76 [some (.ref 7), some (.int i1), some (.int i2), some (.int i3), some (.int i4), none] [] S (QI P) := by
  show Ev G l mX5_fewest (d + 1) 76 [some (.ref 7), some (.int i1), some (.int i2), some (.int i3), some (.int i4), none] [] S (QI P)
  refine r_iconst (μ := mX5_fewest) (pc := 76) (v := nI 0) dX5_fewest_76 rfl ?_
  exact h

set_option maxRecDepth 20000 in
theorem bX5_fewest_77 {G : Gl} {l : Launch} {d : Nat} {S : Sg} {P : Int32 → Sg → Prop} (i1 : Int32) (i2 : Int32) (i3 : Int32) (i4 : Int32) (s0 : Int32)
    (h : ∀ x81 : Int32, x81 = (if s0 = (nI 0) then i3 else i4) → (Ev G l mX5_fewest (d + 1) 27 [some (.ref 7), some (.int i1), some (.int i2), some (.int x81), some (.int (i4 + (nI 1))), none] [] S (QI P))) :
    Ev G l mX5_fewest (d + 1) 77 [some (.ref 7), some (.int i1), some (.int i2), some (.int i3), some (.int i4), none] [.int s0] S (QI P) := by
  show Ev G l mX5_fewest (d + 1) 77 [some (.ref 7), some (.int i1), some (.int i2), some (.int i3), some (.int i4), none] [.int s0] S (QI P)
  refine r_istore (μ := mX5_fewest) (pc := 77) (ls' := [some (.ref 7), some (.int i1), some (.int i2), some (.int i3), some (.int i4), some (.int s0)]) dX5_fewest_77 (Nat.le_of_ble_eq_true rfl) rfl rfl ?_
  refine r_iload (μ := mX5_fewest) (pc := 79) dX5_fewest_79 rfl ?_
  have J81 : ∀ x81 : Int32, x81 = (if s0 = (nI 0) then i3 else i4) → Ev G l mX5_fewest (d + 1) 90 [some (.ref 7), some (.int i1), some (.int i2), some (.int i3), some (.int i4), some (.int s0)] [.int x81] S (QI P) := by
    intro x81 e81
    have h := h x81 e81
    refine r_istore_n (μ := mX5_fewest) (pc := 90) (ls' := [some (.ref 7), some (.int i1), some (.int i2), some (.int x81), some (.int i4), some (.int s0)]) dX5_fewest_90 rfl (Nat.le_of_ble_eq_true rfl) rfl rfl ?_
    refine r_iinc (μ := mX5_fewest) (pc := 91) (y := nI 1) (ls' := [some (.ref 7), some (.int i1), some (.int i2), some (.int x81), some (.int (i4 + (nI 1))), some (.int s0)]) dX5_fewest_91 rfl rfl (Nat.le_of_ble_eq_true rfl) rfl rfl ?_
    refine r_goto (μ := mX5_fewest) (pc := 94) (tgt := 27) dX5_fewest_94 (by decide) ?_
    exact Ev.sub (ls' := [some (.ref 7), some (.int i1), some (.int i2), some (.int x81), some (.int (i4 + (nI 1))), none]) (ls_s (ls_s (ls_s (ls_s (ls_s (ls_n ls_0)))))) h
  refine r_if_eq (μ := mX5_fewest) (pc := 81) (tgt := 89) dX5_fewest_81 (by decide) ⟨fun q81 => ?_, fun q81 => ?_⟩
  · refine r_iload_n (μ := mX5_fewest) (pc := 89) dX5_fewest_89 rfl rfl ?_
    exact J81 _ (by first | (rw [if_pos q81]; done) | simp only [if_pos q81])
  · refine r_iload (μ := mX5_fewest) (pc := 84) dX5_fewest_84 rfl ?_
    refine r_goto (μ := mX5_fewest) (pc := 86) (tgt := 90) dX5_fewest_86 (by decide) ?_
    exact J81 _ (by first | (rw [if_neg q81]; done) | simp only [if_neg q81])

set_option maxRecDepth 20000 in
theorem bX5_coastsIn_0 {G : Gl} {l : Launch} {d : Nat} {S : Sg} {P : Int32 → Sg → Prop} (i1 : Int32)
    (h : Ev G l mX5_coastsIn (d + 1) 19 [some (.ref 7), some (.int i1), some (.int (((nI 10) * (S.1 93 1)) + (S.1 93 2))), some (.int (nI 0))] [] S (QI P)) :
    Ct G l mX5_coastsIn (d + 1) [.ref 7, .int i1] S (QI P) := by
  show Ev G l mX5_coastsIn (d + 1) 0 [some (.ref 7), some (.int i1), none, none] [] S (QI P)
  refine r_bipush (μ := mX5_coastsIn) (pc := 0) (v := nI 10) dX5_coastsIn_0 rfl ?_
  refine r_aload_n (μ := mX5_coastsIn) (pc := 2) dX5_coastsIn_2 rfl rfl ?_
  refine g_R (μ := mX5_coastsIn) (pc := 3) (k' := 93) fX5_25 dX5_coastsIn_3 rfl rfl ?_
  refine r_iconst (μ := mX5_coastsIn) (pc := 6) (v := nI 1) dX5_coastsIn_6 rfl ?_
  refine r_iald (μ := mX5_coastsIn) (pc := 7) dX5_coastsIn_7 rfl (ix_nI (n := 1) (Nat.le_of_ble_eq_true rfl) (Nat.le_of_ble_eq_true rfl)) ?_
  refine r_imul (μ := mX5_coastsIn) (pc := 8) dX5_coastsIn_8 ?_
  refine r_aload_n (μ := mX5_coastsIn) (pc := 9) dX5_coastsIn_9 rfl rfl ?_
  refine g_R (μ := mX5_coastsIn) (pc := 10) (k' := 93) fX5_25 dX5_coastsIn_10 rfl rfl ?_
  refine r_iconst (μ := mX5_coastsIn) (pc := 13) (v := nI 2) dX5_coastsIn_13 rfl ?_
  refine r_iald (μ := mX5_coastsIn) (pc := 14) dX5_coastsIn_14 rfl (ix_nI (n := 2) (Nat.le_of_ble_eq_true rfl) (Nat.le_of_ble_eq_true rfl)) ?_
  refine r_iadd (μ := mX5_coastsIn) (pc := 15) dX5_coastsIn_15 ?_
  refine r_istore_n (μ := mX5_coastsIn) (pc := 16) (ls' := [some (.ref 7), some (.int i1), some (.int (((nI 10) * (S.1 93 1)) + (S.1 93 2))), none]) dX5_coastsIn_16 rfl (Nat.le_of_ble_eq_true rfl) rfl rfl ?_
  refine r_iconst (μ := mX5_coastsIn) (pc := 17) (v := nI 0) dX5_coastsIn_17 rfl ?_
  refine r_istore_n (μ := mX5_coastsIn) (pc := 18) (ls' := [some (.ref 7), some (.int i1), some (.int (((nI 10) * (S.1 93 1)) + (S.1 93 2))), some (.int (nI 0))]) dX5_coastsIn_18 rfl (Nat.le_of_ble_eq_true rfl) rfl rfl ?_
  exact h

set_option maxRecDepth 20000 in
theorem bX5_coastsIn_19 {G : Gl} {l : Launch} {d : Nat} {S : Sg} {P : Int32 → Sg → Prop} (i1 : Int32) (i2 : Int32) (i3 : Int32)
    (h : (i1 ≤ i3 → P i2 S) ∧ (¬ (i1 ≤ i3) → Ct G l mX5_later d [.ref 7, .int (i2 / (nI 10)), .int (i2 - i2 / (nI 10) * (nI 10))] S (QI (fun r33 T33 => Ev G l mX5_coastsIn (d + 1) 19 [some (.ref 7), some (.int i1), some (.int r33), some (.int (i3 + (nI 1)))] [] T33 (QI P))))) :
    Ev G l mX5_coastsIn (d + 1) 19 [some (.ref 7), some (.int i1), some (.int i2), some (.int i3)] [] S (QI P) := by
  show Ev G l mX5_coastsIn (d + 1) 19 [some (.ref 7), some (.int i1), some (.int i2), some (.int i3)] [] S (QI P)
  refine r_iload_n (μ := mX5_coastsIn) (pc := 19) dX5_coastsIn_19 rfl rfl ?_
  refine r_iload_n (μ := mX5_coastsIn) (pc := 20) dX5_coastsIn_20 rfl rfl ?_
  refine r_icmp_ge (μ := mX5_coastsIn) (pc := 21) (tgt := 43) dX5_coastsIn_21 (by decide) ⟨fun q21 => ?_, fun q21 => ?_⟩
  · have h := h.1 q21
    refine r_iload_n (μ := mX5_coastsIn) (pc := 43) dX5_coastsIn_43 rfl rfl ?_
    exact r_iret (μ := mX5_coastsIn) (pc := 44) dX5_coastsIn_44 rfl h
  · have h := h.2 q21
    refine r_aload_n (μ := mX5_coastsIn) (pc := 24) dX5_coastsIn_24 rfl rfl ?_
    refine r_iload_n (μ := mX5_coastsIn) (pc := 25) dX5_coastsIn_25 rfl rfl ?_
    refine r_bipush (μ := mX5_coastsIn) (pc := 26) (v := nI 10) dX5_coastsIn_26 rfl ?_
    refine r_idiv (μ := mX5_coastsIn) (pc := 28) dX5_coastsIn_28 (by decide) ?_
    refine r_iload_n (μ := mX5_coastsIn) (pc := 29) dX5_coastsIn_29 rfl rfl ?_
    refine r_bipush (μ := mX5_coastsIn) (pc := 30) (v := nI 10) dX5_coastsIn_30 rfl ?_
    refine r_irem (μ := mX5_coastsIn) (pc := 32) dX5_coastsIn_32 (by decide) ?_
    refine r_callV (μ := mX5_coastsIn) (pc := 33) (as := [.int (i2 / (nI 10)), .int (i2 - i2 / (nI 10) * (nI 10))]) 5 cX5_183 dX5_coastsIn_33 rfl rfl (Nat.le_of_ble_eq_true rfl) rfl okX5_later (Nat.lt_succ_self d) (cat8 (n := 0) rfl (by decide)) rfl h (k_I (fun r33 T33 h => ?_))
    refine r_istore_n (μ := mX5_coastsIn) (pc := 36) (ls' := [some (.ref 7), some (.int i1), some (.int r33), some (.int i3)]) dX5_coastsIn_36 rfl (Nat.le_of_ble_eq_true rfl) rfl rfl ?_
    refine r_iinc (μ := mX5_coastsIn) (pc := 37) (y := nI 1) (ls' := [some (.ref 7), some (.int i1), some (.int r33), some (.int (i3 + (nI 1)))]) dX5_coastsIn_37 rfl rfl (Nat.le_of_ble_eq_true rfl) rfl rfl ?_
    refine r_goto (μ := mX5_coastsIn) (pc := 40) (tgt := 19) dX5_coastsIn_40 (by decide) ?_
    exact h

set_option maxRecDepth 20000 in
theorem bX5_then_0 {G : Gl} {l : Launch} {d : Nat} {S : Sg} {P : Int32 → Sg → Prop} (i1 : Int32)
    (h : Ct G l mX5_in d [.int i1, .int (nI 0), .int (nI 30)] S (QI (fun r4 T4 => (¬ r4 = (nI 0) → Ct G l mX5_are d [.ref 7] T4 (QI (fun r13 T13 => (¬ r13 = (nI 0) → Ct G l mX5_coastsIn d [.ref 7, .int i1] T13 (QI (fun r24 T24 => Ct G l mX5_belongers d [.ref 7, .int (r24 / (nI 10)), .int (r24 - r24 / (nI 10) * (nI 10))] T24 (QI (fun r39 T39 => Ct G l mX5_tells d [.ref 7, .int r24, .int r39] T39 (QI (fun r42 T42 => P r42 T42))))))) ∧ (r13 = (nI 0) → P (-4) T13)))) ∧ (r4 = (nI 0) → P (-1) T4)))) :
    Ct G l mX5_then (d + 1) [.ref 7, .int i1] S (QI P) := by
  show Ev G l mX5_then (d + 1) 0 [some (.ref 7), some (.int i1), none] [] S (QI P)
  refine r_iload_n (μ := mX5_then) (pc := 0) dX5_then_0 rfl rfl ?_
  refine r_iconst (μ := mX5_then) (pc := 1) (v := nI 0) dX5_then_1 rfl ?_
  refine r_bipush (μ := mX5_then) (pc := 2) (v := nI 30) dX5_then_2 rfl ?_
  refine r_callS (μ := mX5_then) (pc := 4) (as := [.int i1, .int (nI 0), .int (nI 30)]) cX5_73 dX5_then_4 rfl okX5_in (Nat.lt_succ_self d) (cat8 (n := 0) rfl (by decide)) rfl h (k_I (fun r4 T4 h => ?_))
  refine r_if_ne (μ := mX5_then) (pc := 7) (tgt := 12) dX5_then_7 (by decide) ⟨fun q7 => ?_, fun q7 => ?_⟩
  · have h := h.1 q7
    refine r_aload_n (μ := mX5_then) (pc := 12) dX5_then_12 rfl rfl ?_
    refine r_callV (μ := mX5_then) (pc := 13) (as := []) 5 cX5_176 dX5_then_13 rfl rfl (Nat.le_of_ble_eq_true rfl) rfl okX5_are (Nat.lt_succ_self d) (cat8 (n := 0) rfl (by decide)) rfl h (k_I (fun r13 T13 h => ?_))
    refine r_if_ne (μ := mX5_then) (pc := 16) (tgt := 22) dX5_then_16 (by decide) ⟨fun q16 => ?_, fun q16 => ?_⟩
    · have h := h.1 q16
      refine r_aload_n (μ := mX5_then) (pc := 22) dX5_then_22 rfl rfl ?_
      refine r_iload_n (μ := mX5_then) (pc := 23) dX5_then_23 rfl rfl ?_
      refine r_callV (μ := mX5_then) (pc := 24) (as := [.int i1]) 5 cX5_204 dX5_then_24 rfl rfl (Nat.le_of_ble_eq_true rfl) rfl okX5_coastsIn (Nat.lt_succ_self d) (cat8 (n := 0) rfl (by decide)) rfl h (k_I (fun r24 T24 h => ?_))
      refine r_istore_n (μ := mX5_then) (pc := 27) (ls' := [some (.ref 7), some (.int i1), some (.int r24)]) dX5_then_27 rfl (Nat.le_of_ble_eq_true rfl) rfl rfl ?_
      refine r_aload_n (μ := mX5_then) (pc := 28) dX5_then_28 rfl rfl ?_
      refine r_iload_n (μ := mX5_then) (pc := 29) dX5_then_29 rfl rfl ?_
      refine r_aload_n (μ := mX5_then) (pc := 30) dX5_then_30 rfl rfl ?_
      refine r_iload_n (μ := mX5_then) (pc := 31) dX5_then_31 rfl rfl ?_
      refine r_bipush (μ := mX5_then) (pc := 32) (v := nI 10) dX5_then_32 rfl ?_
      refine r_idiv (μ := mX5_then) (pc := 34) dX5_then_34 (by decide) ?_
      refine r_iload_n (μ := mX5_then) (pc := 35) dX5_then_35 rfl rfl ?_
      refine r_bipush (μ := mX5_then) (pc := 36) (v := nI 10) dX5_then_36 rfl ?_
      refine r_irem (μ := mX5_then) (pc := 38) dX5_then_38 (by decide) ?_
      refine r_callV (μ := mX5_then) (pc := 39) (as := [.int (r24 / (nI 10)), .int (r24 - r24 / (nI 10) * (nI 10))]) 5 cX5_140 dX5_then_39 rfl rfl (Nat.le_of_ble_eq_true rfl) rfl okX5_belongers (Nat.lt_succ_self d) (cat8 (n := 2) rfl (by decide)) rfl h (k_I (fun r39 T39 h => ?_))
      refine r_callV (μ := mX5_then) (pc := 42) (as := [.int r24, .int r39]) 5 cX5_93 dX5_then_42 rfl rfl (Nat.le_of_ble_eq_true rfl) rfl okX5_tells (Nat.lt_succ_self d) (cat8 (n := 0) rfl (by decide)) rfl h (k_I (fun r42 T42 h => ?_))
      exact r_iret (μ := mX5_then) (pc := 45) dX5_then_45 rfl h
    · have h := h.2 q16
      refine r_bipush (μ := mX5_then) (pc := 19) (v := (-4)) dX5_then_19 rfl ?_
      exact r_iret (μ := mX5_then) (pc := 21) dX5_then_21 rfl h
  · have h := h.2 q7
    refine r_iconst (μ := mX5_then) (pc := 10) (v := (-1)) dX5_then_10 rfl ?_
    exact r_iret (μ := mX5_then) (pc := 11) dX5_then_11 rfl h

set_option maxRecDepth 20000 in
theorem bX5_when_0 {G : Gl} {l : Launch} {d : Nat} {S : Sg} {P : Int32 → Sg → Prop} (i1 : Int32) (i2 : Int32)
    (h : Ct G l mX5_are d [.ref 7] S (QI (fun r1 T1 => (¬ r1 = (nI 0) → Ct G l mX5_areCoasts d [.ref 7, .int i1, .int i2] T1 (QI (fun r13 T13 => (¬ r13 = (nI 0) → Ct G l mX5_coastsIn d [.ref 7, .int (nI 0)] T13 (QI (fun r23 T23 => Ev G l mX5_when (d + 1) 30 [some (.ref 7), some (.int i1), some (.int i2), some (.int r23), some (.int (nI 0))] [] T23 (QI P)))) ∧ (r13 = (nI 0) → P (-1) T13)))) ∧ (r1 = (nI 0) → P (-4) T1)))) :
    Ct G l mX5_when (d + 1) [.ref 7, .int i1, .int i2] S (QI P) := by
  show Ev G l mX5_when (d + 1) 0 [some (.ref 7), some (.int i1), some (.int i2), none, none] [] S (QI P)
  refine r_aload_n (μ := mX5_when) (pc := 0) dX5_when_0 rfl rfl ?_
  refine r_callV (μ := mX5_when) (pc := 1) (as := []) 5 cX5_176 dX5_when_1 rfl rfl (Nat.le_of_ble_eq_true rfl) rfl okX5_are (Nat.lt_succ_self d) (cat8 (n := 0) rfl (by decide)) rfl h (k_I (fun r1 T1 h => ?_))
  refine r_if_ne (μ := mX5_when) (pc := 4) (tgt := 10) dX5_when_4 (by decide) ⟨fun q4 => ?_, fun q4 => ?_⟩
  · have h := h.1 q4
    refine r_aload_n (μ := mX5_when) (pc := 10) dX5_when_10 rfl rfl ?_
    refine r_iload_n (μ := mX5_when) (pc := 11) dX5_when_11 rfl rfl ?_
    refine r_iload_n (μ := mX5_when) (pc := 12) dX5_when_12 rfl rfl ?_
    refine r_callV (μ := mX5_when) (pc := 13) (as := [.int i1, .int i2]) 5 cX5_192 dX5_when_13 rfl rfl (Nat.le_of_ble_eq_true rfl) rfl okX5_areCoasts (Nat.lt_succ_self d) (cat8 (n := 0) rfl (by decide)) rfl h (k_I (fun r13 T13 h => ?_))
    refine r_if_ne (μ := mX5_when) (pc := 16) (tgt := 21) dX5_when_16 (by decide) ⟨fun q16 => ?_, fun q16 => ?_⟩
    · have h := h.1 q16
      refine r_aload_n (μ := mX5_when) (pc := 21) dX5_when_21 rfl rfl ?_
      refine r_iconst (μ := mX5_when) (pc := 22) (v := nI 0) dX5_when_22 rfl ?_
      refine r_callV (μ := mX5_when) (pc := 23) (as := [.int (nI 0)]) 5 cX5_204 dX5_when_23 rfl rfl (Nat.le_of_ble_eq_true rfl) rfl okX5_coastsIn (Nat.lt_succ_self d) (cat8 (n := 0) rfl (by decide)) rfl h (k_I (fun r23 T23 h => ?_))
      refine r_istore_n (μ := mX5_when) (pc := 26) (ls' := [some (.ref 7), some (.int i1), some (.int i2), some (.int r23), none]) dX5_when_26 rfl (Nat.le_of_ble_eq_true rfl) rfl rfl ?_
      refine r_iconst (μ := mX5_when) (pc := 27) (v := nI 0) dX5_when_27 rfl ?_
      refine r_istore (μ := mX5_when) (pc := 28) (ls' := [some (.ref 7), some (.int i1), some (.int i2), some (.int r23), some (.int (nI 0))]) dX5_when_28 (Nat.le_of_ble_eq_true rfl) rfl rfl ?_
      exact h
    · have h := h.2 q16
      refine r_iconst (μ := mX5_when) (pc := 19) (v := (-1)) dX5_when_19 rfl ?_
      exact r_iret (μ := mX5_when) (pc := 20) dX5_when_20 rfl h
  · have h := h.2 q4
    refine r_bipush (μ := mX5_when) (pc := 7) (v := (-4)) dX5_when_7 rfl ?_
    exact r_iret (μ := mX5_when) (pc := 9) dX5_when_9 rfl h

set_option maxRecDepth 20000 in
theorem bX5_when_30 {G : Gl} {l : Launch} {d : Nat} {S : Sg} {P : Int32 → Sg → Prop} (i1 : Int32) (i2 : Int32) (i3 : Int32) (i4 : Int32)
    (h : ((nI 31) ≤ i4 → P (-9) S) ∧ (¬ ((nI 31) ≤ i4) → (¬ i3 = (((nI 10) * i1) + i2) → Ct G l mX5_later d [.ref 7, .int (i3 / (nI 10)), .int (i3 - i3 / (nI 10) * (nI 10))] S (QI (fun r59 T59 => Ev G l mX5_when (d + 1) 30 [some (.ref 7), some (.int i1), some (.int i2), some (.int r59), some (.int (i4 + (nI 1)))] [] T59 (QI P)))) ∧ (i3 = (((nI 10) * i1) + i2) → P i4 S))) :
    Ev G l mX5_when (d + 1) 30 [some (.ref 7), some (.int i1), some (.int i2), some (.int i3), some (.int i4)] [] S (QI P) := by
  show Ev G l mX5_when (d + 1) 30 [some (.ref 7), some (.int i1), some (.int i2), some (.int i3), some (.int i4)] [] S (QI P)
  refine r_iload (μ := mX5_when) (pc := 30) dX5_when_30 rfl ?_
  refine r_bipush (μ := mX5_when) (pc := 32) (v := nI 31) dX5_when_32 rfl ?_
  refine r_icmp_ge (μ := mX5_when) (pc := 34) (tgt := 69) dX5_when_34 (by decide) ⟨fun q34 => ?_, fun q34 => ?_⟩
  · have h := h.1 q34
    refine r_bipush (μ := mX5_when) (pc := 69) (v := (-9)) dX5_when_69 rfl ?_
    exact r_iret (μ := mX5_when) (pc := 71) dX5_when_71 rfl h
  · have h := h.2 q34
    refine r_iload_n (μ := mX5_when) (pc := 37) dX5_when_37 rfl rfl ?_
    refine r_bipush (μ := mX5_when) (pc := 38) (v := nI 10) dX5_when_38 rfl ?_
    refine r_iload_n (μ := mX5_when) (pc := 40) dX5_when_40 rfl rfl ?_
    refine r_imul (μ := mX5_when) (pc := 41) dX5_when_41 ?_
    refine r_iload_n (μ := mX5_when) (pc := 42) dX5_when_42 rfl rfl ?_
    refine r_iadd (μ := mX5_when) (pc := 43) dX5_when_43 ?_
    refine r_icmp_ne (μ := mX5_when) (pc := 44) (tgt := 50) dX5_when_44 (by decide) ⟨fun q44 => ?_, fun q44 => ?_⟩
    · have h := h.1 q44
      refine r_aload_n (μ := mX5_when) (pc := 50) dX5_when_50 rfl rfl ?_
      refine r_iload_n (μ := mX5_when) (pc := 51) dX5_when_51 rfl rfl ?_
      refine r_bipush (μ := mX5_when) (pc := 52) (v := nI 10) dX5_when_52 rfl ?_
      refine r_idiv (μ := mX5_when) (pc := 54) dX5_when_54 (by decide) ?_
      refine r_iload_n (μ := mX5_when) (pc := 55) dX5_when_55 rfl rfl ?_
      refine r_bipush (μ := mX5_when) (pc := 56) (v := nI 10) dX5_when_56 rfl ?_
      refine r_irem (μ := mX5_when) (pc := 58) dX5_when_58 (by decide) ?_
      refine r_callV (μ := mX5_when) (pc := 59) (as := [.int (i3 / (nI 10)), .int (i3 - i3 / (nI 10) * (nI 10))]) 5 cX5_183 dX5_when_59 rfl rfl (Nat.le_of_ble_eq_true rfl) rfl okX5_later (Nat.lt_succ_self d) (cat8 (n := 0) rfl (by decide)) rfl h (k_I (fun r59 T59 h => ?_))
      refine r_istore_n (μ := mX5_when) (pc := 62) (ls' := [some (.ref 7), some (.int i1), some (.int i2), some (.int r59), some (.int i4)]) dX5_when_62 rfl (Nat.le_of_ble_eq_true rfl) rfl rfl ?_
      refine r_iinc (μ := mX5_when) (pc := 63) (y := nI 1) (ls' := [some (.ref 7), some (.int i1), some (.int i2), some (.int r59), some (.int (i4 + (nI 1)))]) dX5_when_63 rfl rfl (Nat.le_of_ble_eq_true rfl) rfl rfl ?_
      refine r_goto (μ := mX5_when) (pc := 66) (tgt := 30) dX5_when_66 (by decide) ?_
      exact h
    · have h := h.2 q44
      refine r_iload (μ := mX5_when) (pc := 47) dX5_when_47 rfl ?_
      exact r_iret (μ := mX5_when) (pc := 49) dX5_when_49 rfl h

set_option maxRecDepth 20000 in
theorem bX5_round_0 {G : Gl} {l : Launch} {d : Nat} {S : Sg} {P : Int32 → Sg → Prop} 
    (h : Ct G l mX5_are d [.ref 7] S (QI (fun r1 T1 => (¬ r1 = (nI 0) → Ct G l mX5_coastsIn d [.ref 7, .int (nI 0)] T1 (QI (fun r17 T17 => ∀ S20 : Sg, S20 = (u2 T17.1 99 0 r17, T17.2) → (Ev G l mX5_round (d + 1) 23 [some (.ref 7), some (.int (nI 1)), none] [] S20 (QI P))))) ∧ (r1 = (nI 0) → P (-4) T1)))) :
    Ct G l mX5_round (d + 1) [.ref 7] S (QI P) := by
  show Ev G l mX5_round (d + 1) 0 [some (.ref 7), none, none] [] S (QI P)
  refine r_aload_n (μ := mX5_round) (pc := 0) dX5_round_0 rfl rfl ?_
  refine r_callV (μ := mX5_round) (pc := 1) (as := []) 5 cX5_176 dX5_round_1 rfl rfl (Nat.le_of_ble_eq_true rfl) rfl okX5_are (Nat.lt_succ_self d) (cat8 (n := 0) rfl (by decide)) rfl h (k_I (fun r1 T1 h => ?_))
  refine r_if_ne (μ := mX5_round) (pc := 4) (tgt := 10) dX5_round_4 (by decide) ⟨fun q4 => ?_, fun q4 => ?_⟩
  · have h := h.1 q4
    refine r_aload_n (μ := mX5_round) (pc := 10) dX5_round_10 rfl rfl ?_
    refine g_R (μ := mX5_round) (pc := 11) (k' := 99) fX5_44 dX5_round_11 rfl rfl ?_
    refine r_iconst (μ := mX5_round) (pc := 14) (v := nI 0) dX5_round_14 rfl ?_
    refine r_aload_n (μ := mX5_round) (pc := 15) dX5_round_15 rfl rfl ?_
    refine r_iconst (μ := mX5_round) (pc := 16) (v := nI 0) dX5_round_16 rfl ?_
    refine r_callV (μ := mX5_round) (pc := 17) (as := [.int (nI 0)]) 5 cX5_204 dX5_round_17 rfl rfl (Nat.le_of_ble_eq_true rfl) rfl okX5_coastsIn (Nat.lt_succ_self d) (cat8 (n := 2) rfl (by decide)) rfl h (k_I (fun r17 T17 h => ?_))
    refine r_iast (μ := mX5_round) (pc := 20) dX5_round_20 rfl (ix_nI (n := 0) (Nat.le_of_ble_eq_true rfl) (Nat.le_of_ble_eq_true rfl)) ?_
    refine nm_S (fun S20 eS20 => ?_)
    have h := h S20 eS20
    refine r_iconst (μ := mX5_round) (pc := 21) (v := nI 1) dX5_round_21 rfl ?_
    refine r_istore_n (μ := mX5_round) (pc := 22) (ls' := [some (.ref 7), some (.int (nI 1)), none]) dX5_round_22 rfl (Nat.le_of_ble_eq_true rfl) rfl rfl ?_
    exact h
  · have h := h.2 q4
    refine r_bipush (μ := mX5_round) (pc := 7) (v := (-4)) dX5_round_7 rfl ?_
    exact r_iret (μ := mX5_round) (pc := 9) dX5_round_9 rfl h

set_option maxRecDepth 20000 in
theorem bX5_round_23 {G : Gl} {l : Launch} {d : Nat} {S : Sg} {P : Int32 → Sg → Prop} (i1 : Int32)
    (h : ((nI 62) ≤ i1 → P (-9) S) ∧ (¬ ((nI 62) ≤ i1) → ∃ n42 : Nat, ix (i1 - (nI 1)) n42 62 ∧ (Ct G l mX5_later d [.ref 7, .int ((S.1 99 n42) / (nI 10)), .int ((S.1 99 n42) - (S.1 99 n42) / (nI 10) * (nI 10))] S (QI (fun r57 T57 => ∃ n60 : Nat, ix i1 n60 62 ∧ ∀ S60 : Sg, S60 = (u2 T57.1 99 n60 r57, T57.2) → (Ev G l mX5_round (d + 1) 63 [some (.ref 7), some (.int i1), some (.int (nI 0))] [] S60 (QI P))))))) :
    Ev G l mX5_round (d + 1) 23 [some (.ref 7), some (.int i1), none] [] S (QI P) := by
  show Ev G l mX5_round (d + 1) 23 [some (.ref 7), some (.int i1), none] [] S (QI P)
  refine r_iload_n (μ := mX5_round) (pc := 23) dX5_round_23 rfl rfl ?_
  refine r_bipush (μ := mX5_round) (pc := 24) (v := nI 62) dX5_round_24 rfl ?_
  refine r_icmp_ge (μ := mX5_round) (pc := 26) (tgt := 104) dX5_round_26 (by decide) ⟨fun q26 => ?_, fun q26 => ?_⟩
  · have h := h.1 q26
    refine r_bipush (μ := mX5_round) (pc := 104) (v := (-9)) dX5_round_104 rfl ?_
    exact r_iret (μ := mX5_round) (pc := 106) dX5_round_106 rfl h
  · have h := h.2 q26
    refine r_aload_n (μ := mX5_round) (pc := 29) dX5_round_29 rfl rfl ?_
    refine g_R (μ := mX5_round) (pc := 30) (k' := 99) fX5_44 dX5_round_30 rfl rfl ?_
    refine r_iload_n (μ := mX5_round) (pc := 33) dX5_round_33 rfl rfl ?_
    refine r_aload_n (μ := mX5_round) (pc := 34) dX5_round_34 rfl rfl ?_
    refine r_aload_n (μ := mX5_round) (pc := 35) dX5_round_35 rfl rfl ?_
    refine g_R (μ := mX5_round) (pc := 36) (k' := 99) fX5_44 dX5_round_36 rfl rfl ?_
    refine r_iload_n (μ := mX5_round) (pc := 39) dX5_round_39 rfl rfl ?_
    refine r_iconst (μ := mX5_round) (pc := 40) (v := nI 1) dX5_round_40 rfl ?_
    refine r_isub (μ := mX5_round) (pc := 41) dX5_round_41 ?_
    obtain ⟨n42, hx42, h⟩ := h
    refine r_iald (μ := mX5_round) (pc := 42) dX5_round_42 rfl hx42 ?_
    refine r_bipush (μ := mX5_round) (pc := 43) (v := nI 10) dX5_round_43 rfl ?_
    refine r_idiv (μ := mX5_round) (pc := 45) dX5_round_45 (by decide) ?_
    refine r_aload_n (μ := mX5_round) (pc := 46) dX5_round_46 rfl rfl ?_
    refine g_R (μ := mX5_round) (pc := 47) (k' := 99) fX5_44 dX5_round_47 rfl rfl ?_
    refine r_iload_n (μ := mX5_round) (pc := 50) dX5_round_50 rfl rfl ?_
    refine r_iconst (μ := mX5_round) (pc := 51) (v := nI 1) dX5_round_51 rfl ?_
    refine r_isub (μ := mX5_round) (pc := 52) dX5_round_52 ?_
    refine r_iald (μ := mX5_round) (pc := 53) dX5_round_53 rfl hx42 ?_
    refine r_bipush (μ := mX5_round) (pc := 54) (v := nI 10) dX5_round_54 rfl ?_
    refine r_irem (μ := mX5_round) (pc := 56) dX5_round_56 (by decide) ?_
    refine r_callV (μ := mX5_round) (pc := 57) (as := [.int ((S.1 99 n42) / (nI 10)), .int ((S.1 99 n42) - (S.1 99 n42) / (nI 10) * (nI 10))]) 5 cX5_183 dX5_round_57 rfl rfl (Nat.le_of_ble_eq_true rfl) rfl okX5_later (Nat.lt_succ_self d) (cat8 (n := 2) rfl (by decide)) rfl h (k_I (fun r57 T57 h => ?_))
    obtain ⟨n60, hx60, h⟩ := h
    refine r_iast (μ := mX5_round) (pc := 60) dX5_round_60 rfl hx60 ?_
    refine nm_S (fun S60 eS60 => ?_)
    have h := h S60 eS60
    refine r_iconst (μ := mX5_round) (pc := 61) (v := nI 0) dX5_round_61 rfl ?_
    refine r_istore_n (μ := mX5_round) (pc := 62) (ls' := [some (.ref 7), some (.int i1), some (.int (nI 0))]) dX5_round_62 rfl (Nat.le_of_ble_eq_true rfl) rfl rfl ?_
    exact h

set_option maxRecDepth 20000 in
theorem bX5_round_63 {G : Gl} {l : Launch} {d : Nat} {S : Sg} {P : Int32 → Sg → Prop} (i1 : Int32) (i2 : Int32)
    (h : (i1 ≤ i2 → Ev G l mX5_round (d + 1) 23 [some (.ref 7), some (.int (i1 + (nI 1))), none] [] S (QI P)) ∧ (¬ (i1 ≤ i2) → ∃ n73 : Nat, ix i2 n73 62 ∧ (∃ n79 : Nat, ix i1 n79 62 ∧ ((¬ (S.1 99 n73) = (S.1 99 n79) → Ev G l mX5_round (d + 1) 63 [some (.ref 7), some (.int i1), some (.int (i2 + (nI 1)))] [] S (QI P)) ∧ ((S.1 99 n73) = (S.1 99 n79) → Ct G l mX5_tells d [.ref 7, .int i1, .int (i1 - i2)] S (QI (fun r88 T88 => P r88 T88))))))) :
    Ev G l mX5_round (d + 1) 63 [some (.ref 7), some (.int i1), some (.int i2)] [] S (QI P) := by
  show Ev G l mX5_round (d + 1) 63 [some (.ref 7), some (.int i1), some (.int i2)] [] S (QI P)
  refine r_iload_n (μ := mX5_round) (pc := 63) dX5_round_63 rfl rfl ?_
  refine r_iload_n (μ := mX5_round) (pc := 64) dX5_round_64 rfl rfl ?_
  refine r_icmp_ge (μ := mX5_round) (pc := 65) (tgt := 98) dX5_round_65 (by decide) ⟨fun q65 => ?_, fun q65 => ?_⟩
  · have h := h.1 q65
    refine r_iinc (μ := mX5_round) (pc := 98) (y := nI 1) (ls' := [some (.ref 7), some (.int (i1 + (nI 1))), some (.int i2)]) dX5_round_98 rfl rfl (Nat.le_of_ble_eq_true rfl) rfl rfl ?_
    refine r_goto (μ := mX5_round) (pc := 101) (tgt := 23) dX5_round_101 (by decide) ?_
    exact Ev.sub (ls' := [some (.ref 7), some (.int (i1 + (nI 1))), none]) (ls_s (ls_s (ls_n ls_0))) h
  · have h := h.2 q65
    refine r_aload_n (μ := mX5_round) (pc := 68) dX5_round_68 rfl rfl ?_
    refine g_R (μ := mX5_round) (pc := 69) (k' := 99) fX5_44 dX5_round_69 rfl rfl ?_
    refine r_iload_n (μ := mX5_round) (pc := 72) dX5_round_72 rfl rfl ?_
    obtain ⟨n73, hx73, h⟩ := h
    refine r_iald (μ := mX5_round) (pc := 73) dX5_round_73 rfl hx73 ?_
    refine r_aload_n (μ := mX5_round) (pc := 74) dX5_round_74 rfl rfl ?_
    refine g_R (μ := mX5_round) (pc := 75) (k' := 99) fX5_44 dX5_round_75 rfl rfl ?_
    refine r_iload_n (μ := mX5_round) (pc := 78) dX5_round_78 rfl rfl ?_
    obtain ⟨n79, hx79, h⟩ := h
    refine r_iald (μ := mX5_round) (pc := 79) dX5_round_79 rfl hx79 ?_
    refine r_icmp_ne (μ := mX5_round) (pc := 80) (tgt := 92) dX5_round_80 (by decide) ⟨fun q80 => ?_, fun q80 => ?_⟩
    · have h := h.1 q80
      refine r_iinc (μ := mX5_round) (pc := 92) (y := nI 1) (ls' := [some (.ref 7), some (.int i1), some (.int (i2 + (nI 1)))]) dX5_round_92 rfl rfl (Nat.le_of_ble_eq_true rfl) rfl rfl ?_
      refine r_goto (μ := mX5_round) (pc := 95) (tgt := 63) dX5_round_95 (by decide) ?_
      exact h
    · have h := h.2 q80
      refine r_aload_n (μ := mX5_round) (pc := 83) dX5_round_83 rfl rfl ?_
      refine r_iload_n (μ := mX5_round) (pc := 84) dX5_round_84 rfl rfl ?_
      refine r_iload_n (μ := mX5_round) (pc := 85) dX5_round_85 rfl rfl ?_
      refine r_iload_n (μ := mX5_round) (pc := 86) dX5_round_86 rfl rfl ?_
      refine r_isub (μ := mX5_round) (pc := 87) dX5_round_87 ?_
      refine r_callV (μ := mX5_round) (pc := 88) (as := [.int i1, .int (i1 - i2)]) 5 cX5_93 dX5_round_88 rfl rfl (Nat.le_of_ble_eq_true rfl) rfl okX5_tells (Nat.lt_succ_self d) (cat8 (n := 0) rfl (by decide)) rfl h (k_I (fun r88 T88 h => ?_))
      exact r_iret (μ := mX5_round) (pc := 91) dX5_round_91 rfl h

set_option maxRecDepth 20000 in
theorem bX5_moves_0 {G : Gl} {l : Launch} {d : Nat} {S : Sg} {P : Int32 → Sg → Prop} (i1 : Int32)
    (h : ∃ n5 : Nat, ix i1 n5 7 ∧ (∀ x6 : Int32, x6 = (if (S.1 100 n5) = (nI 0) then (nI 1) else (if (S.1 100 n5) = (nI 1) then (-1) else (nI 0))) → (∀ x45 : Int32, x45 = (if (i1 - i1 / (nI 2) * (nI 2)) = (nI 0) then x6 else (nI 0)) → (∃ n54 : Nat, ix (i1 + (nI 1)) n54 7 ∧ ∀ S54 : Sg, S54 = (u2 S.1 102 n54 ((S.1 102 n5) - x45), S.2) → (∀ x72 : Int32, x72 = (if (i1 - i1 / (nI 2) * (nI 2)) = (nI 1) then x6 else (nI 0)) → (∀ S81 : Sg, S81 = (u2 S54.1 103 n54 ((S54.1 103 n5) + x72), S54.2) → (Ct G l mX5_areCoasts d [.ref 7, .int (S81.1 102 n54), .int (S81.1 103 n54)] S81 (QI (fun r99 T99 => zb r99 ∧ P r99 T99))))))))) :
    Ct G l mX5_moves (d + 1) [.ref 7, .int i1] S (QI P) := by
  show Ev G l mX5_moves (d + 1) 0 [some (.ref 7), some (.int i1), none] [] S (QI P)
  refine r_aload_n (μ := mX5_moves) (pc := 0) dX5_moves_0 rfl rfl ?_
  refine g_R (μ := mX5_moves) (pc := 1) (k' := 100) fX5_47 dX5_moves_1 rfl rfl ?_
  refine r_iload_n (μ := mX5_moves) (pc := 4) dX5_moves_4 rfl rfl ?_
  obtain ⟨n5, hx5, h⟩ := h
  refine r_iald (μ := mX5_moves) (pc := 5) dX5_moves_5 rfl hx5 ?_
  have J6 : ∀ x6 : Int32, x6 = (if (S.1 100 n5) = (nI 0) then (nI 1) else (if (S.1 100 n5) = (nI 1) then (-1) else (nI 0))) → Ev G l mX5_moves (d + 1) 28 [some (.ref 7), some (.int i1), none] [.int x6] S (QI P) := by
    intro x6 e6
    have h := h x6 e6
    refine r_istore_n (μ := mX5_moves) (pc := 28) (ls' := [some (.ref 7), some (.int i1), some (.int x6)]) dX5_moves_28 rfl (Nat.le_of_ble_eq_true rfl) rfl rfl ?_
    refine r_aload_n (μ := mX5_moves) (pc := 29) dX5_moves_29 rfl rfl ?_
    refine g_R (μ := mX5_moves) (pc := 30) (k' := 102) fX5_53 dX5_moves_30 rfl rfl ?_
    refine r_iload_n (μ := mX5_moves) (pc := 33) dX5_moves_33 rfl rfl ?_
    refine r_iconst (μ := mX5_moves) (pc := 34) (v := nI 1) dX5_moves_34 rfl ?_
    refine r_iadd (μ := mX5_moves) (pc := 35) dX5_moves_35 ?_
    refine r_aload_n (μ := mX5_moves) (pc := 36) dX5_moves_36 rfl rfl ?_
    refine g_R (μ := mX5_moves) (pc := 37) (k' := 102) fX5_53 dX5_moves_37 rfl rfl ?_
    refine r_iload_n (μ := mX5_moves) (pc := 40) dX5_moves_40 rfl rfl ?_
    refine r_iald (μ := mX5_moves) (pc := 41) dX5_moves_41 rfl hx5 ?_
    refine r_iload_n (μ := mX5_moves) (pc := 42) dX5_moves_42 rfl rfl ?_
    refine r_iconst (μ := mX5_moves) (pc := 43) (v := nI 2) dX5_moves_43 rfl ?_
    refine r_irem (μ := mX5_moves) (pc := 44) dX5_moves_44 (by decide) ?_
    have J45 : ∀ x45 : Int32, x45 = (if (i1 - i1 / (nI 2) * (nI 2)) = (nI 0) then x6 else (nI 0)) → Ev G l mX5_moves (d + 1) 53 [some (.ref 7), some (.int i1), some (.int x6)] [.int x45, .int (S.1 102 n5), .int (i1 + (nI 1)), .ref 102] S (QI P) := by
      intro x45 e45
      have h := h x45 e45
      refine r_isub (μ := mX5_moves) (pc := 53) dX5_moves_53 ?_
      obtain ⟨n54, hx54, h⟩ := h
      refine r_iast (μ := mX5_moves) (pc := 54) dX5_moves_54 rfl hx54 ?_
      refine nm_S (fun S54 eS54 => ?_)
      have h := h S54 eS54
      refine r_aload_n (μ := mX5_moves) (pc := 55) dX5_moves_55 rfl rfl ?_
      refine g_R (μ := mX5_moves) (pc := 56) (k' := 103) fX5_56 dX5_moves_56 rfl rfl ?_
      refine r_iload_n (μ := mX5_moves) (pc := 59) dX5_moves_59 rfl rfl ?_
      refine r_iconst (μ := mX5_moves) (pc := 60) (v := nI 1) dX5_moves_60 rfl ?_
      refine r_iadd (μ := mX5_moves) (pc := 61) dX5_moves_61 ?_
      refine r_aload_n (μ := mX5_moves) (pc := 62) dX5_moves_62 rfl rfl ?_
      refine g_R (μ := mX5_moves) (pc := 63) (k' := 103) fX5_56 dX5_moves_63 rfl rfl ?_
      refine r_iload_n (μ := mX5_moves) (pc := 66) dX5_moves_66 rfl rfl ?_
      refine r_iald (μ := mX5_moves) (pc := 67) dX5_moves_67 rfl hx5 ?_
      refine r_iload_n (μ := mX5_moves) (pc := 68) dX5_moves_68 rfl rfl ?_
      refine r_iconst (μ := mX5_moves) (pc := 69) (v := nI 2) dX5_moves_69 rfl ?_
      refine r_irem (μ := mX5_moves) (pc := 70) dX5_moves_70 (by decide) ?_
      refine r_iconst (μ := mX5_moves) (pc := 71) (v := nI 1) dX5_moves_71 rfl ?_
      have J72 : ∀ x72 : Int32, x72 = (if (i1 - i1 / (nI 2) * (nI 2)) = (nI 1) then x6 else (nI 0)) → Ev G l mX5_moves (d + 1) 80 [some (.ref 7), some (.int i1), some (.int x6)] [.int x72, .int (S54.1 103 n5), .int (i1 + (nI 1)), .ref 103] S54 (QI P) := by
        intro x72 e72
        have h := h x72 e72
        refine r_iadd (μ := mX5_moves) (pc := 80) dX5_moves_80 ?_
        refine r_iast (μ := mX5_moves) (pc := 81) dX5_moves_81 rfl hx54 ?_
        refine nm_S (fun S81 eS81 => ?_)
        have h := h S81 eS81
        refine r_aload_n (μ := mX5_moves) (pc := 82) dX5_moves_82 rfl rfl ?_
        refine r_aload_n (μ := mX5_moves) (pc := 83) dX5_moves_83 rfl rfl ?_
        refine g_R (μ := mX5_moves) (pc := 84) (k' := 102) fX5_53 dX5_moves_84 rfl rfl ?_
        refine r_iload_n (μ := mX5_moves) (pc := 87) dX5_moves_87 rfl rfl ?_
        refine r_iconst (μ := mX5_moves) (pc := 88) (v := nI 1) dX5_moves_88 rfl ?_
        refine r_iadd (μ := mX5_moves) (pc := 89) dX5_moves_89 ?_
        refine r_iald (μ := mX5_moves) (pc := 90) dX5_moves_90 rfl hx54 ?_
        refine r_aload_n (μ := mX5_moves) (pc := 91) dX5_moves_91 rfl rfl ?_
        refine g_R (μ := mX5_moves) (pc := 92) (k' := 103) fX5_56 dX5_moves_92 rfl rfl ?_
        refine r_iload_n (μ := mX5_moves) (pc := 95) dX5_moves_95 rfl rfl ?_
        refine r_iconst (μ := mX5_moves) (pc := 96) (v := nI 1) dX5_moves_96 rfl ?_
        refine r_iadd (μ := mX5_moves) (pc := 97) dX5_moves_97 ?_
        refine r_iald (μ := mX5_moves) (pc := 98) dX5_moves_98 rfl hx54 ?_
        refine r_callV (μ := mX5_moves) (pc := 99) (as := [.int (S81.1 102 n54), .int (S81.1 103 n54)]) 5 cX5_192 dX5_moves_99 rfl rfl (Nat.le_of_ble_eq_true rfl) rfl okX5_areCoasts (Nat.lt_succ_self d) (cat8 (n := 0) rfl (by decide)) rfl h (k_I (fun r99 T99 h => ?_))
        obtain ⟨hb102, h⟩ := h
        exact r_zret (μ := mX5_moves) (pc := 102) dX5_moves_102 rfl hb102 h
      refine r_icmp_ne (μ := mX5_moves) (pc := 72) (tgt := 79) dX5_moves_72 (by decide) ⟨fun q72 => ?_, fun q72 => ?_⟩
      · refine r_iconst (μ := mX5_moves) (pc := 79) (v := nI 0) dX5_moves_79 rfl ?_
        exact J72 _ (by first | (rw [if_neg q72]; done) | simp only [if_neg q72])
      · refine r_iload_n (μ := mX5_moves) (pc := 75) dX5_moves_75 rfl rfl ?_
        refine r_goto (μ := mX5_moves) (pc := 76) (tgt := 80) dX5_moves_76 (by decide) ?_
        exact J72 _ (by first | (rw [if_pos q72]; done) | simp only [if_pos q72])
    refine r_if_ne (μ := mX5_moves) (pc := 45) (tgt := 52) dX5_moves_45 (by decide) ⟨fun q45 => ?_, fun q45 => ?_⟩
    · refine r_iconst (μ := mX5_moves) (pc := 52) (v := nI 0) dX5_moves_52 rfl ?_
      exact J45 _ (by first | (rw [if_neg q45]; done) | simp only [if_neg q45])
    · refine r_iload_n (μ := mX5_moves) (pc := 48) dX5_moves_48 rfl rfl ?_
      refine r_goto (μ := mX5_moves) (pc := 49) (tgt := 53) dX5_moves_49 (by decide) ?_
      exact J45 _ (by first | (rw [if_pos q45]; done) | simp only [if_pos q45])
  refine r_if_ne (μ := mX5_moves) (pc := 6) (tgt := 13) dX5_moves_6 (by decide) ⟨fun q6 => ?_, fun q6 => ?_⟩
  · refine r_aload_n (μ := mX5_moves) (pc := 13) dX5_moves_13 rfl rfl ?_
    refine g_R (μ := mX5_moves) (pc := 14) (k' := 100) fX5_47 dX5_moves_14 rfl rfl ?_
    refine r_iload_n (μ := mX5_moves) (pc := 17) dX5_moves_17 rfl rfl ?_
    refine r_iald (μ := mX5_moves) (pc := 18) dX5_moves_18 rfl hx5 ?_
    refine r_iconst (μ := mX5_moves) (pc := 19) (v := nI 1) dX5_moves_19 rfl ?_
    refine r_icmp_ne (μ := mX5_moves) (pc := 20) (tgt := 27) dX5_moves_20 (by decide) ⟨fun q20 => ?_, fun q20 => ?_⟩
    · refine r_iconst (μ := mX5_moves) (pc := 27) (v := nI 0) dX5_moves_27 rfl ?_
      exact J6 _ (by first | (rw [if_neg q6, if_neg q20]; done) | simp only [if_neg q6, if_neg q20])
    · refine r_iconst (μ := mX5_moves) (pc := 23) (v := (-1)) dX5_moves_23 rfl ?_
      refine r_goto (μ := mX5_moves) (pc := 24) (tgt := 28) dX5_moves_24 (by decide) ?_
      exact J6 _ (by first | (rw [if_neg q6, if_pos q20]; done) | simp only [if_neg q6, if_pos q20])
  · refine r_iconst (μ := mX5_moves) (pc := 9) (v := nI 1) dX5_moves_9 rfl ?_
    refine r_goto (μ := mX5_moves) (pc := 10) (tgt := 28) dX5_moves_10 (by decide) ?_
    exact J6 _ (by first | (rw [if_pos q6]; done) | simp only [if_pos q6])

set_option maxRecDepth 20000 in
theorem bX5_comes_0 {G : Gl} {l : Launch} {d : Nat} {S : Sg} {P : Sg → Prop} (i1 : Int32) (i2 : Int32)
    (h : ∃ n5 : Nat, ix i1 n5 7 ∧ (∀ x8 : Int32, x8 = (if (S.1 101 n5) = (-9) then (nI 1) else (if (i1 - i1 / (nI 2) * (nI 2)) = (nI 0) then (if (S.1 101 n5) ≤ i2 then (nI 0) else (nI 1)) else (if i2 ≤ (S.1 101 n5) then (nI 0) else (nI 1)))) → (∀ x52 : Int32, x52 = (if x8 = (nI 0) then (S.1 101 n5) else i2) → (∀ S65 : Sg, S65 = (u2 S.1 101 n5 x52, S.2) → (P S65))))) :
    Ct G l mX5_comes (d + 1) [.ref 7, .int i1, .int i2] S (QV P) := by
  show Ev G l mX5_comes (d + 1) 0 [some (.ref 7), some (.int i1), some (.int i2), none] [] S (QV P)
  refine r_aload_n (μ := mX5_comes) (pc := 0) dX5_comes_0 rfl rfl ?_
  refine g_R (μ := mX5_comes) (pc := 1) (k' := 101) fX5_50 dX5_comes_1 rfl rfl ?_
  refine r_iload_n (μ := mX5_comes) (pc := 4) dX5_comes_4 rfl rfl ?_
  obtain ⟨n5, hx5, h⟩ := h
  refine r_iald (μ := mX5_comes) (pc := 5) dX5_comes_5 rfl hx5 ?_
  refine r_bipush (μ := mX5_comes) (pc := 6) (v := (-9)) dX5_comes_6 rfl ?_
  have J8 : ∀ x8 : Int32, x8 = (if (S.1 101 n5) = (-9) then (nI 1) else (if (i1 - i1 / (nI 2) * (nI 2)) = (nI 0) then (if (S.1 101 n5) ≤ i2 then (nI 0) else (nI 1)) else (if i2 ≤ (S.1 101 n5) then (nI 0) else (nI 1)))) → Ev G l mX5_comes (d + 1) 45 [some (.ref 7), some (.int i1), some (.int i2), none] [.int x8] S (QV P) := by
    intro x8 e8
    have h := h x8 e8
    refine r_istore_n (μ := mX5_comes) (pc := 45) (ls' := [some (.ref 7), some (.int i1), some (.int i2), some (.int x8)]) dX5_comes_45 rfl (Nat.le_of_ble_eq_true rfl) rfl rfl ?_
    refine r_aload_n (μ := mX5_comes) (pc := 46) dX5_comes_46 rfl rfl ?_
    refine g_R (μ := mX5_comes) (pc := 47) (k' := 101) fX5_50 dX5_comes_47 rfl rfl ?_
    refine r_iload_n (μ := mX5_comes) (pc := 50) dX5_comes_50 rfl rfl ?_
    refine r_iload_n (μ := mX5_comes) (pc := 51) dX5_comes_51 rfl rfl ?_
    have J52 : ∀ x52 : Int32, x52 = (if x8 = (nI 0) then (S.1 101 n5) else i2) → Ev G l mX5_comes (d + 1) 65 [some (.ref 7), some (.int i1), some (.int i2), some (.int x8)] [.int x52, .int i1, .ref 101] S (QV P) := by
      intro x52 e52
      have h := h x52 e52
      refine r_iast (μ := mX5_comes) (pc := 65) dX5_comes_65 rfl hx5 ?_
      refine nm_S (fun S65 eS65 => ?_)
      have h := h S65 eS65
      exact r_vret (μ := mX5_comes) (pc := 66) dX5_comes_66 rfl h
    refine r_if_eq (μ := mX5_comes) (pc := 52) (tgt := 59) dX5_comes_52 (by decide) ⟨fun q52 => ?_, fun q52 => ?_⟩
    · refine r_aload_n (μ := mX5_comes) (pc := 59) dX5_comes_59 rfl rfl ?_
      refine g_R (μ := mX5_comes) (pc := 60) (k' := 101) fX5_50 dX5_comes_60 rfl rfl ?_
      refine r_iload_n (μ := mX5_comes) (pc := 63) dX5_comes_63 rfl rfl ?_
      refine r_iald (μ := mX5_comes) (pc := 64) dX5_comes_64 rfl hx5 ?_
      exact J52 _ (by first | (rw [if_pos q52]; done) | simp only [if_pos q52])
    · refine r_iload_n (μ := mX5_comes) (pc := 55) dX5_comes_55 rfl rfl ?_
      refine r_goto (μ := mX5_comes) (pc := 56) (tgt := 65) dX5_comes_56 (by decide) ?_
      exact J52 _ (by first | (rw [if_neg q52]; done) | simp only [if_neg q52])
  refine r_icmp_eq (μ := mX5_comes) (pc := 8) (tgt := 40) dX5_comes_8 (by decide) ⟨fun q8 => ?_, fun q8 => ?_⟩
  · refine r_iconst (μ := mX5_comes) (pc := 40) (v := nI 1) dX5_comes_40 rfl ?_
    refine r_goto (μ := mX5_comes) (pc := 41) (tgt := 45) dX5_comes_41 (by decide) ?_
    exact J8 _ (by first | (rw [if_pos q8]; done) | simp only [if_pos q8])
  · refine r_iload_n (μ := mX5_comes) (pc := 11) dX5_comes_11 rfl rfl ?_
    refine r_iconst (μ := mX5_comes) (pc := 12) (v := nI 2) dX5_comes_12 rfl ?_
    refine r_irem (μ := mX5_comes) (pc := 13) dX5_comes_13 (by decide) ?_
    refine r_if_ne (μ := mX5_comes) (pc := 14) (tgt := 30) dX5_comes_14 (by decide) ⟨fun q14 => ?_, fun q14 => ?_⟩
    · refine r_iload_n (μ := mX5_comes) (pc := 30) dX5_comes_30 rfl rfl ?_
      refine r_aload_n (μ := mX5_comes) (pc := 31) dX5_comes_31 rfl rfl ?_
      refine g_R (μ := mX5_comes) (pc := 32) (k' := 101) fX5_50 dX5_comes_32 rfl rfl ?_
      refine r_iload_n (μ := mX5_comes) (pc := 35) dX5_comes_35 rfl rfl ?_
      refine r_iald (μ := mX5_comes) (pc := 36) dX5_comes_36 rfl hx5 ?_
      refine r_icmp_le (μ := mX5_comes) (pc := 37) (tgt := 44) dX5_comes_37 (by decide) ⟨fun q37 => ?_, fun q37 => ?_⟩
      · refine r_iconst (μ := mX5_comes) (pc := 44) (v := nI 0) dX5_comes_44 rfl ?_
        exact J8 _ (by first | (rw [if_neg q8, if_neg q14, if_pos q37]; done) | simp only [if_neg q8, if_neg q14, if_pos q37])
      · refine r_iconst (μ := mX5_comes) (pc := 40) (v := nI 1) dX5_comes_40 rfl ?_
        refine r_goto (μ := mX5_comes) (pc := 41) (tgt := 45) dX5_comes_41 (by decide) ?_
        exact J8 _ (by first | (rw [if_neg q8, if_neg q14, if_neg q37]; done) | simp only [if_neg q8, if_neg q14, if_neg q37])
    · refine r_iload_n (μ := mX5_comes) (pc := 17) dX5_comes_17 rfl rfl ?_
      refine r_aload_n (μ := mX5_comes) (pc := 18) dX5_comes_18 rfl rfl ?_
      refine g_R (μ := mX5_comes) (pc := 19) (k' := 101) fX5_50 dX5_comes_19 rfl rfl ?_
      refine r_iload_n (μ := mX5_comes) (pc := 22) dX5_comes_22 rfl rfl ?_
      refine r_iald (μ := mX5_comes) (pc := 23) dX5_comes_23 rfl hx5 ?_
      refine r_icmp_ge (μ := mX5_comes) (pc := 24) (tgt := 44) dX5_comes_24 (by decide) ⟨fun q24 => ?_, fun q24 => ?_⟩
      · refine r_iconst (μ := mX5_comes) (pc := 44) (v := nI 0) dX5_comes_44 rfl ?_
        exact J8 _ (by first | (rw [if_neg q8, if_pos q14, if_pos q24]; done) | simp only [if_neg q8, if_pos q14, if_pos q24])
      · refine r_goto (μ := mX5_comes) (pc := 27) (tgt := 40) dX5_comes_27 (by decide) ?_
        refine r_iconst (μ := mX5_comes) (pc := 40) (v := nI 1) dX5_comes_40 rfl ?_
        refine r_goto (μ := mX5_comes) (pc := 41) (tgt := 45) dX5_comes_41 (by decide) ?_
        exact J8 _ (by first | (rw [if_neg q8, if_pos q14, if_neg q24]; done) | simp only [if_neg q8, if_pos q14, if_neg q24])

set_option maxRecDepth 20000 in
theorem bX5_duel_0 {G : Gl} {l : Launch} {d : Nat} {S : Sg} {P : Int32 → Sg → Prop} (i1 : Int32)
    (h : Ct G l mX5_in d [.int i1, .int (nI 0), .int (nI 6)] S (QI (fun r4 T4 => (¬ r4 = (nI 0) → Ct G l mX5_are d [.ref 7] T4 (QI (fun r13 T13 => (¬ r13 = (nI 0) → ∀ S33 : Sg, S33 = (u2 T13.1 102 0 (T13.1 93 1), T13.2) → (∀ S45 : Sg, S45 = (u2 S33.1 103 0 (S33.1 93 2), S33.2) → ((¬ i1 = (nI 0) → ∀ S67 : Sg, S67 = (u2 S45.1 100 0 (nI 0), S45.2) → (∀ S75 : Sg, S75 = (u2 S67.1 101 0 (-9), S67.2) → (Ev G l mX5_duel (d + 1) 76 [some (.ref 7), some (.int i1), some (.int (nI 0))] [] S75 (QI P)))) ∧ (i1 = (nI 0) → Ct G l mX5_belongersNow d [.ref 7] S45 (QI (fun r52 T52 => Ct G l mX5_votesIn d [.ref 7, .int r52] T52 (QI (fun r55 T55 => P r55 T55)))))))) ∧ (r13 = (nI 0) → P (-4) T13)))) ∧ (r4 = (nI 0) → P (-1) T4)))) :
    Ct G l mX5_duel (d + 1) [.ref 7, .int i1] S (QI P) := by
  show Ev G l mX5_duel (d + 1) 0 [some (.ref 7), some (.int i1), none] [] S (QI P)
  refine r_iload_n (μ := mX5_duel) (pc := 0) dX5_duel_0 rfl rfl ?_
  refine r_iconst (μ := mX5_duel) (pc := 1) (v := nI 0) dX5_duel_1 rfl ?_
  refine r_bipush (μ := mX5_duel) (pc := 2) (v := nI 6) dX5_duel_2 rfl ?_
  refine r_callS (μ := mX5_duel) (pc := 4) (as := [.int i1, .int (nI 0), .int (nI 6)]) cX5_73 dX5_duel_4 rfl okX5_in (Nat.lt_succ_self d) (cat8 (n := 0) rfl (by decide)) rfl h (k_I (fun r4 T4 h => ?_))
  refine r_if_ne (μ := mX5_duel) (pc := 7) (tgt := 12) dX5_duel_7 (by decide) ⟨fun q7 => ?_, fun q7 => ?_⟩
  · have h := h.1 q7
    refine r_aload_n (μ := mX5_duel) (pc := 12) dX5_duel_12 rfl rfl ?_
    refine r_callV (μ := mX5_duel) (pc := 13) (as := []) 5 cX5_176 dX5_duel_13 rfl rfl (Nat.le_of_ble_eq_true rfl) rfl okX5_are (Nat.lt_succ_self d) (cat8 (n := 0) rfl (by decide)) rfl h (k_I (fun r13 T13 h => ?_))
    refine r_if_ne (μ := mX5_duel) (pc := 16) (tgt := 22) dX5_duel_16 (by decide) ⟨fun q16 => ?_, fun q16 => ?_⟩
    · have h := h.1 q16
      refine r_aload_n (μ := mX5_duel) (pc := 22) dX5_duel_22 rfl rfl ?_
      refine g_R (μ := mX5_duel) (pc := 23) (k' := 102) fX5_53 dX5_duel_23 rfl rfl ?_
      refine r_iconst (μ := mX5_duel) (pc := 26) (v := nI 0) dX5_duel_26 rfl ?_
      refine r_aload_n (μ := mX5_duel) (pc := 27) dX5_duel_27 rfl rfl ?_
      refine g_R (μ := mX5_duel) (pc := 28) (k' := 93) fX5_25 dX5_duel_28 rfl rfl ?_
      refine r_iconst (μ := mX5_duel) (pc := 31) (v := nI 1) dX5_duel_31 rfl ?_
      refine r_iald (μ := mX5_duel) (pc := 32) dX5_duel_32 rfl (ix_nI (n := 1) (Nat.le_of_ble_eq_true rfl) (Nat.le_of_ble_eq_true rfl)) ?_
      refine r_iast (μ := mX5_duel) (pc := 33) dX5_duel_33 rfl (ix_nI (n := 0) (Nat.le_of_ble_eq_true rfl) (Nat.le_of_ble_eq_true rfl)) ?_
      refine nm_S (fun S33 eS33 => ?_)
      have h := h S33 eS33
      refine r_aload_n (μ := mX5_duel) (pc := 34) dX5_duel_34 rfl rfl ?_
      refine g_R (μ := mX5_duel) (pc := 35) (k' := 103) fX5_56 dX5_duel_35 rfl rfl ?_
      refine r_iconst (μ := mX5_duel) (pc := 38) (v := nI 0) dX5_duel_38 rfl ?_
      refine r_aload_n (μ := mX5_duel) (pc := 39) dX5_duel_39 rfl rfl ?_
      refine g_R (μ := mX5_duel) (pc := 40) (k' := 93) fX5_25 dX5_duel_40 rfl rfl ?_
      refine r_iconst (μ := mX5_duel) (pc := 43) (v := nI 2) dX5_duel_43 rfl ?_
      refine r_iald (μ := mX5_duel) (pc := 44) dX5_duel_44 rfl (ix_nI (n := 2) (Nat.le_of_ble_eq_true rfl) (Nat.le_of_ble_eq_true rfl)) ?_
      refine r_iast (μ := mX5_duel) (pc := 45) dX5_duel_45 rfl (ix_nI (n := 0) (Nat.le_of_ble_eq_true rfl) (Nat.le_of_ble_eq_true rfl)) ?_
      refine nm_S (fun S45 eS45 => ?_)
      have h := h S45 eS45
      refine r_iload_n (μ := mX5_duel) (pc := 46) dX5_duel_46 rfl rfl ?_
      refine r_if_ne (μ := mX5_duel) (pc := 47) (tgt := 59) dX5_duel_47 (by decide) ⟨fun q47 => ?_, fun q47 => ?_⟩
      · have h := h.1 q47
        refine r_iconst (μ := mX5_duel) (pc := 59) (v := nI 0) dX5_duel_59 rfl ?_
        refine r_istore_n (μ := mX5_duel) (pc := 60) (ls' := [some (.ref 7), some (.int i1), some (.int (nI 0))]) dX5_duel_60 rfl (Nat.le_of_ble_eq_true rfl) rfl rfl ?_
        refine r_aload_n (μ := mX5_duel) (pc := 61) dX5_duel_61 rfl rfl ?_
        refine g_R (μ := mX5_duel) (pc := 62) (k' := 100) fX5_47 dX5_duel_62 rfl rfl ?_
        refine r_iconst (μ := mX5_duel) (pc := 65) (v := nI 0) dX5_duel_65 rfl ?_
        refine r_iconst (μ := mX5_duel) (pc := 66) (v := nI 0) dX5_duel_66 rfl ?_
        refine r_iast (μ := mX5_duel) (pc := 67) dX5_duel_67 rfl (ix_nI (n := 0) (Nat.le_of_ble_eq_true rfl) (Nat.le_of_ble_eq_true rfl)) ?_
        refine nm_S (fun S67 eS67 => ?_)
        have h := h S67 eS67
        refine r_aload_n (μ := mX5_duel) (pc := 68) dX5_duel_68 rfl rfl ?_
        refine g_R (μ := mX5_duel) (pc := 69) (k' := 101) fX5_50 dX5_duel_69 rfl rfl ?_
        refine r_iconst (μ := mX5_duel) (pc := 72) (v := nI 0) dX5_duel_72 rfl ?_
        refine r_bipush (μ := mX5_duel) (pc := 73) (v := (-9)) dX5_duel_73 rfl ?_
        refine r_iast (μ := mX5_duel) (pc := 75) dX5_duel_75 rfl (ix_nI (n := 0) (Nat.le_of_ble_eq_true rfl) (Nat.le_of_ble_eq_true rfl)) ?_
        refine nm_S (fun S75 eS75 => ?_)
        have h := h S75 eS75
        exact h
      · have h := h.2 q47
        refine r_aload_n (μ := mX5_duel) (pc := 50) dX5_duel_50 rfl rfl ?_
        refine r_aload_n (μ := mX5_duel) (pc := 51) dX5_duel_51 rfl rfl ?_
        refine r_callV (μ := mX5_duel) (pc := 52) (as := []) 5 cX5_165 dX5_duel_52 rfl rfl (Nat.le_of_ble_eq_true rfl) rfl okX5_belongersNow (Nat.lt_succ_self d) (cat8 (n := 1) rfl (by decide)) rfl h (k_I (fun r52 T52 h => ?_))
        refine r_callV (μ := mX5_duel) (pc := 55) (as := [.int r52]) 5 cX5_169 dX5_duel_55 rfl rfl (Nat.le_of_ble_eq_true rfl) rfl okX5_votesIn (Nat.lt_succ_self d) (cat8 (n := 0) rfl (by decide)) rfl h (k_I (fun r55 T55 h => ?_))
        exact r_iret (μ := mX5_duel) (pc := 58) dX5_duel_58 rfl h
    · have h := h.2 q16
      refine r_bipush (μ := mX5_duel) (pc := 19) (v := (-4)) dX5_duel_19 rfl ?_
      exact r_iret (μ := mX5_duel) (pc := 21) dX5_duel_21 rfl h
  · have h := h.2 q7
    refine r_iconst (μ := mX5_duel) (pc := 10) (v := (-1)) dX5_duel_10 rfl ?_
    exact r_iret (μ := mX5_duel) (pc := 11) dX5_duel_11 rfl h

set_option maxRecDepth 20000 in
theorem bX5_duel_76 {G : Gl} {l : Launch} {d : Nat} {S : Sg} {P : Int32 → Sg → Prop} (i1 : Int32) (i2 : Int32)
    (h : (i2 < (nI 0) → P (S.1 101 0) S) ∧ (¬ (i2 < (nI 0)) → ∃ n85 : Nat, ix i2 n85 7 ∧ ((¬ (S.1 100 n85) = (nI 3) → Ct G l mX5_moves d [.ref 7, .int i2] S (QI (fun r127 T127 => (¬ r127 = (nI 0) → (¬ i2 = (i1 - (nI 1)) → ∃ n200 : Nat, ix (i2 + (nI 1)) n200 7 ∧ ∀ S200 : Sg, S200 = (u2 T127.1 100 n200 (nI 0), T127.2) → (∀ S208 : Sg, S208 = (u2 S200.1 101 n200 (-9), S200.2) → (Ev G l mX5_duel (d + 1) 76 [some (.ref 7), some (.int i1), some (.int (i2 + (nI 1)))] [] S208 (QI P)))) ∧ (i2 = (i1 - (nI 1)) → ∃ n162 : Nat, ix i1 n162 7 ∧ (Ct G l mX5_belongers d [.ref 7, .int (T127.1 102 n162), .int (T127.1 103 n162)] T127 (QI (fun r169 T169 => Ct G l mX5_votesIn d [.ref 7, .int r169] T169 (QI (fun r172 T172 => Ct G l mX5_comes d [.ref 7, .int i2, .int r172] T172 (QV (fun T175 => ∀ S187 : Sg, S187 = (u2 T175.1 100 n85 ((T175.1 100 n85) + (nI 1)), T175.2) → (Ev G l mX5_duel (d + 1) 76 [some (.ref 7), some (.int i1), some (.int i2)] [] S187 (QI P))))))))))) ∧ (r127 = (nI 0) → ∀ S142 : Sg, S142 = (u2 T127.1 100 n85 ((T127.1 100 n85) + (nI 1)), T127.2) → (Ev G l mX5_duel (d + 1) 76 [some (.ref 7), some (.int i1), some (.int i2)] [] S142 (QI P)))))) ∧ ((S.1 100 n85) = (nI 3) → (i2 ≤ (nI 0) → Ev G l mX5_duel (d + 1) 76 [some (.ref 7), some (.int i1), some (.int (i2 + (-1)))] [] S (QI P)) ∧ (¬ (i2 ≤ (nI 0)) → Ct G l mX5_comes d [.ref 7, .int (i2 - (nI 1)), .int (S.1 101 n85)] S (QV (fun T104 => ∃ n115 : Nat, ix (i2 - (nI 1)) n115 7 ∧ (∀ S118 : Sg, S118 = (u2 T104.1 100 n115 ((T104.1 100 n115) + (nI 1)), T104.2) → (Ev G l mX5_duel (d + 1) 76 [some (.ref 7), some (.int i1), some (.int (i2 + (-1)))] [] S118 (QI P)))))))))) :
    Ev G l mX5_duel (d + 1) 76 [some (.ref 7), some (.int i1), some (.int i2)] [] S (QI P) := by
  show Ev G l mX5_duel (d + 1) 76 [some (.ref 7), some (.int i1), some (.int i2)] [] S (QI P)
  refine r_iload_n (μ := mX5_duel) (pc := 76) dX5_duel_76 rfl rfl ?_
  refine r_if_lt (μ := mX5_duel) (pc := 77) (tgt := 212) dX5_duel_77 (by decide) ⟨fun q77 => ?_, fun q77 => ?_⟩
  · have h := h.1 q77
    refine r_aload_n (μ := mX5_duel) (pc := 212) dX5_duel_212 rfl rfl ?_
    refine g_R (μ := mX5_duel) (pc := 213) (k' := 101) fX5_50 dX5_duel_213 rfl rfl ?_
    refine r_iconst (μ := mX5_duel) (pc := 216) (v := nI 0) dX5_duel_216 rfl ?_
    refine r_iald (μ := mX5_duel) (pc := 217) dX5_duel_217 rfl (ix_nI (n := 0) (Nat.le_of_ble_eq_true rfl) (Nat.le_of_ble_eq_true rfl)) ?_
    exact r_iret (μ := mX5_duel) (pc := 218) dX5_duel_218 rfl h
  · have h := h.2 q77
    refine r_aload_n (μ := mX5_duel) (pc := 80) dX5_duel_80 rfl rfl ?_
    refine g_R (μ := mX5_duel) (pc := 81) (k' := 100) fX5_47 dX5_duel_81 rfl rfl ?_
    refine r_iload_n (μ := mX5_duel) (pc := 84) dX5_duel_84 rfl rfl ?_
    obtain ⟨n85, hx85, h⟩ := h
    refine r_iald (μ := mX5_duel) (pc := 85) dX5_duel_85 rfl hx85 ?_
    refine r_iconst (μ := mX5_duel) (pc := 86) (v := nI 3) dX5_duel_86 rfl ?_
    refine r_icmp_ne (μ := mX5_duel) (pc := 87) (tgt := 125) dX5_duel_87 (by decide) ⟨fun q87 => ?_, fun q87 => ?_⟩
    · have h := h.1 q87
      refine r_aload_n (μ := mX5_duel) (pc := 125) dX5_duel_125 rfl rfl ?_
      refine r_iload_n (μ := mX5_duel) (pc := 126) dX5_duel_126 rfl rfl ?_
      refine r_callV (μ := mX5_duel) (pc := 127) (as := [.int i2]) 5 cX5_210 dX5_duel_127 rfl rfl (Nat.le_of_ble_eq_true rfl) rfl okX5_moves (Nat.lt_succ_self d) (cat8 (n := 0) rfl (by decide)) rfl h (k_I (fun r127 T127 h => ?_))
      refine r_if_ne (μ := mX5_duel) (pc := 130) (tgt := 146) dX5_duel_130 (by decide) ⟨fun q130 => ?_, fun q130 => ?_⟩
      · have h := h.1 q130
        refine r_iload_n (μ := mX5_duel) (pc := 146) dX5_duel_146 rfl rfl ?_
        refine r_iload_n (μ := mX5_duel) (pc := 147) dX5_duel_147 rfl rfl ?_
        refine r_iconst (μ := mX5_duel) (pc := 148) (v := nI 1) dX5_duel_148 rfl ?_
        refine r_isub (μ := mX5_duel) (pc := 149) dX5_duel_149 ?_
        refine r_icmp_ne (μ := mX5_duel) (pc := 150) (tgt := 191) dX5_duel_150 (by decide) ⟨fun q150 => ?_, fun q150 => ?_⟩
        · have h := h.1 q150
          refine r_iinc (μ := mX5_duel) (pc := 191) (y := nI 1) (ls' := [some (.ref 7), some (.int i1), some (.int (i2 + (nI 1)))]) dX5_duel_191 rfl rfl (Nat.le_of_ble_eq_true rfl) rfl rfl ?_
          refine r_aload_n (μ := mX5_duel) (pc := 194) dX5_duel_194 rfl rfl ?_
          refine g_R (μ := mX5_duel) (pc := 195) (k' := 100) fX5_47 dX5_duel_195 rfl rfl ?_
          refine r_iload_n (μ := mX5_duel) (pc := 198) dX5_duel_198 rfl rfl ?_
          refine r_iconst (μ := mX5_duel) (pc := 199) (v := nI 0) dX5_duel_199 rfl ?_
          obtain ⟨n200, hx200, h⟩ := h
          refine r_iast (μ := mX5_duel) (pc := 200) dX5_duel_200 rfl hx200 ?_
          refine nm_S (fun S200 eS200 => ?_)
          have h := h S200 eS200
          refine r_aload_n (μ := mX5_duel) (pc := 201) dX5_duel_201 rfl rfl ?_
          refine g_R (μ := mX5_duel) (pc := 202) (k' := 101) fX5_50 dX5_duel_202 rfl rfl ?_
          refine r_iload_n (μ := mX5_duel) (pc := 205) dX5_duel_205 rfl rfl ?_
          refine r_bipush (μ := mX5_duel) (pc := 206) (v := (-9)) dX5_duel_206 rfl ?_
          refine r_iast (μ := mX5_duel) (pc := 208) dX5_duel_208 rfl hx200 ?_
          refine nm_S (fun S208 eS208 => ?_)
          have h := h S208 eS208
          refine r_goto (μ := mX5_duel) (pc := 209) (tgt := 76) dX5_duel_209 (by decide) ?_
          exact h
        · have h := h.2 q150
          refine r_aload_n (μ := mX5_duel) (pc := 153) dX5_duel_153 rfl rfl ?_
          refine r_iload_n (μ := mX5_duel) (pc := 154) dX5_duel_154 rfl rfl ?_
          refine r_aload_n (μ := mX5_duel) (pc := 155) dX5_duel_155 rfl rfl ?_
          refine r_aload_n (μ := mX5_duel) (pc := 156) dX5_duel_156 rfl rfl ?_
          refine r_aload_n (μ := mX5_duel) (pc := 157) dX5_duel_157 rfl rfl ?_
          refine g_R (μ := mX5_duel) (pc := 158) (k' := 102) fX5_53 dX5_duel_158 rfl rfl ?_
          refine r_iload_n (μ := mX5_duel) (pc := 161) dX5_duel_161 rfl rfl ?_
          obtain ⟨n162, hx162, h⟩ := h
          refine r_iald (μ := mX5_duel) (pc := 162) dX5_duel_162 rfl hx162 ?_
          refine r_aload_n (μ := mX5_duel) (pc := 163) dX5_duel_163 rfl rfl ?_
          refine g_R (μ := mX5_duel) (pc := 164) (k' := 103) fX5_56 dX5_duel_164 rfl rfl ?_
          refine r_iload_n (μ := mX5_duel) (pc := 167) dX5_duel_167 rfl rfl ?_
          refine r_iald (μ := mX5_duel) (pc := 168) dX5_duel_168 rfl hx162 ?_
          refine r_callV (μ := mX5_duel) (pc := 169) (as := [.int (T127.1 102 n162), .int (T127.1 103 n162)]) 5 cX5_140 dX5_duel_169 rfl rfl (Nat.le_of_ble_eq_true rfl) rfl okX5_belongers (Nat.lt_succ_self d) (cat8 (n := 3) rfl (by decide)) rfl h (k_I (fun r169 T169 h => ?_))
          refine r_callV (μ := mX5_duel) (pc := 172) (as := [.int r169]) 5 cX5_169 dX5_duel_172 rfl rfl (Nat.le_of_ble_eq_true rfl) rfl okX5_votesIn (Nat.lt_succ_self d) (cat8 (n := 2) rfl (by decide)) rfl h (k_I (fun r172 T172 h => ?_))
          refine r_callV (μ := mX5_duel) (pc := 175) (as := [.int i2, .int r172]) 5 cX5_207 dX5_duel_175 rfl rfl (Nat.le_of_ble_eq_true rfl) rfl okX5_comes (Nat.lt_succ_self d) (cat8 (n := 0) rfl (by decide)) rfl h (k_V (fun T175 h => ?_))
          refine r_aload_n (μ := mX5_duel) (pc := 178) dX5_duel_178 rfl rfl ?_
          refine g_R (μ := mX5_duel) (pc := 179) (k' := 100) fX5_47 dX5_duel_179 rfl rfl ?_
          refine r_iload_n (μ := mX5_duel) (pc := 182) dX5_duel_182 rfl rfl ?_
          refine r_dup2_11 (μ := mX5_duel) (pc := 183) dX5_duel_183 rfl rfl ?_
          refine r_iald (μ := mX5_duel) (pc := 184) dX5_duel_184 rfl hx85 ?_
          refine r_iconst (μ := mX5_duel) (pc := 185) (v := nI 1) dX5_duel_185 rfl ?_
          refine r_iadd (μ := mX5_duel) (pc := 186) dX5_duel_186 ?_
          refine r_iast (μ := mX5_duel) (pc := 187) dX5_duel_187 rfl hx85 ?_
          refine nm_S (fun S187 eS187 => ?_)
          have h := h S187 eS187
          refine r_goto (μ := mX5_duel) (pc := 188) (tgt := 76) dX5_duel_188 (by decide) ?_
          exact h
      · have h := h.2 q130
        refine r_aload_n (μ := mX5_duel) (pc := 133) dX5_duel_133 rfl rfl ?_
        refine g_R (μ := mX5_duel) (pc := 134) (k' := 100) fX5_47 dX5_duel_134 rfl rfl ?_
        refine r_iload_n (μ := mX5_duel) (pc := 137) dX5_duel_137 rfl rfl ?_
        refine r_dup2_11 (μ := mX5_duel) (pc := 138) dX5_duel_138 rfl rfl ?_
        refine r_iald (μ := mX5_duel) (pc := 139) dX5_duel_139 rfl hx85 ?_
        refine r_iconst (μ := mX5_duel) (pc := 140) (v := nI 1) dX5_duel_140 rfl ?_
        refine r_iadd (μ := mX5_duel) (pc := 141) dX5_duel_141 ?_
        refine r_iast (μ := mX5_duel) (pc := 142) dX5_duel_142 rfl hx85 ?_
        refine nm_S (fun S142 eS142 => ?_)
        have h := h S142 eS142
        refine r_goto (μ := mX5_duel) (pc := 143) (tgt := 76) dX5_duel_143 (by decide) ?_
        exact h
    · have h := h.2 q87
      refine r_iload_n (μ := mX5_duel) (pc := 90) dX5_duel_90 rfl rfl ?_
      refine r_if_le (μ := mX5_duel) (pc := 91) (tgt := 119) dX5_duel_91 (by decide) ⟨fun q91 => ?_, fun q91 => ?_⟩
      · have h := h.1 q91
        refine r_iinc (μ := mX5_duel) (pc := 119) (y := (-1)) (ls' := [some (.ref 7), some (.int i1), some (.int (i2 + (-1)))]) dX5_duel_119 rfl rfl (Nat.le_of_ble_eq_true rfl) rfl rfl ?_
        refine r_goto (μ := mX5_duel) (pc := 122) (tgt := 76) dX5_duel_122 (by decide) ?_
        exact h
      · have h := h.2 q91
        refine r_aload_n (μ := mX5_duel) (pc := 94) dX5_duel_94 rfl rfl ?_
        refine r_iload_n (μ := mX5_duel) (pc := 95) dX5_duel_95 rfl rfl ?_
        refine r_iconst (μ := mX5_duel) (pc := 96) (v := nI 1) dX5_duel_96 rfl ?_
        refine r_isub (μ := mX5_duel) (pc := 97) dX5_duel_97 ?_
        refine r_aload_n (μ := mX5_duel) (pc := 98) dX5_duel_98 rfl rfl ?_
        refine g_R (μ := mX5_duel) (pc := 99) (k' := 101) fX5_50 dX5_duel_99 rfl rfl ?_
        refine r_iload_n (μ := mX5_duel) (pc := 102) dX5_duel_102 rfl rfl ?_
        refine r_iald (μ := mX5_duel) (pc := 103) dX5_duel_103 rfl hx85 ?_
        refine r_callV (μ := mX5_duel) (pc := 104) (as := [.int (i2 - (nI 1)), .int (S.1 101 n85)]) 5 cX5_207 dX5_duel_104 rfl rfl (Nat.le_of_ble_eq_true rfl) rfl okX5_comes (Nat.lt_succ_self d) (cat8 (n := 0) rfl (by decide)) rfl h (k_V (fun T104 h => ?_))
        refine r_aload_n (μ := mX5_duel) (pc := 107) dX5_duel_107 rfl rfl ?_
        refine g_R (μ := mX5_duel) (pc := 108) (k' := 100) fX5_47 dX5_duel_108 rfl rfl ?_
        refine r_iload_n (μ := mX5_duel) (pc := 111) dX5_duel_111 rfl rfl ?_
        refine r_iconst (μ := mX5_duel) (pc := 112) (v := nI 1) dX5_duel_112 rfl ?_
        refine r_isub (μ := mX5_duel) (pc := 113) dX5_duel_113 ?_
        refine r_dup2_11 (μ := mX5_duel) (pc := 114) dX5_duel_114 rfl rfl ?_
        obtain ⟨n115, hx115, h⟩ := h
        refine r_iald (μ := mX5_duel) (pc := 115) dX5_duel_115 rfl hx115 ?_
        refine r_iconst (μ := mX5_duel) (pc := 116) (v := nI 1) dX5_duel_116 rfl ?_
        refine r_iadd (μ := mX5_duel) (pc := 117) dX5_duel_117 ?_
        refine r_iast (μ := mX5_duel) (pc := 118) dX5_duel_118 rfl hx115 ?_
        refine nm_S (fun S118 eS118 => ?_)
        have h := h S118 eS118
        refine r_iinc (μ := mX5_duel) (pc := 119) (y := (-1)) (ls' := [some (.ref 7), some (.int i1), some (.int (i2 + (-1)))]) dX5_duel_119 rfl rfl (Nat.le_of_ble_eq_true rfl) rfl rfl ?_
        refine r_goto (μ := mX5_duel) (pc := 122) (tgt := 76) dX5_duel_122 (by decide) ?_
        exact h

set_option maxRecDepth 20000 in
theorem bX5_peace_0 {G : Gl} {l : Launch} {d : Nat} {S : Sg} {P : Int32 → Sg → Prop} (i1 : Int32) (i2 : Int32)
    (h : Ct G l mX5_in d [.int i1, .int (nI 0), .int (nI 99)] S (QI (fun r4 T4 => (r4 = (nI 0) → P (-1) T4) ∧ (¬ (r4 = (nI 0)) → Ct G l mX5_isRow d [.int i2] T4 (QI (fun r11 T11 => (¬ r11 = (nI 0) → Ct G l mX5_belongersNow d [.ref 7] T11 (QI (fun r20 T20 => Ct G l mX5_votesIn d [.ref 7, .int r20] T20 (QI (fun r26 T26 => Ct G l mX5_are d [.ref 7] T26 (QI (fun r32 T32 => (r32 = (nI 0) → P (-4) T32) ∧ (¬ (r32 = (nI 0)) → (¬ r26 = (nI 0) → Ev G l mX5_peace (d + 1) 52 [some (.ref 7), some (.int i1), some (.int i2), some (.int r20), some (.int r26), some (.int i1), some (.int (nI 0)), none] [] T32 (QI P)) ∧ (r26 = (nI 0) → P (-4) T32))))))))) ∧ (r11 = (nI 0) → P (-1) T11))))))) :
    Ct G l mX5_peace (d + 1) [.ref 7, .int i1, .int i2] S (QI P) := by
  show Ev G l mX5_peace (d + 1) 0 [some (.ref 7), some (.int i1), some (.int i2), none, none, none, none, none] [] S (QI P)
  refine r_iload_n (μ := mX5_peace) (pc := 0) dX5_peace_0 rfl rfl ?_
  refine r_iconst (μ := mX5_peace) (pc := 1) (v := nI 0) dX5_peace_1 rfl ?_
  refine r_bipush (μ := mX5_peace) (pc := 2) (v := nI 99) dX5_peace_2 rfl ?_
  refine r_callS (μ := mX5_peace) (pc := 4) (as := [.int i1, .int (nI 0), .int (nI 99)]) cX5_73 dX5_peace_4 rfl okX5_in (Nat.lt_succ_self d) (cat8 (n := 0) rfl (by decide)) rfl h (k_I (fun r4 T4 h => ?_))
  refine r_if_eq (μ := mX5_peace) (pc := 7) (tgt := 17) dX5_peace_7 (by decide) ⟨fun q7 => ?_, fun q7 => ?_⟩
  · have h := h.1 q7
    refine r_iconst (μ := mX5_peace) (pc := 17) (v := (-1)) dX5_peace_17 rfl ?_
    exact r_iret (μ := mX5_peace) (pc := 18) dX5_peace_18 rfl h
  · have h := h.2 q7
    refine r_iload_n (μ := mX5_peace) (pc := 10) dX5_peace_10 rfl rfl ?_
    refine r_callS (μ := mX5_peace) (pc := 11) (as := [.int i2]) cX5_77 dX5_peace_11 rfl okX5_isRow (Nat.lt_succ_self d) (cat8 (n := 0) rfl (by decide)) rfl h (k_I (fun r11 T11 h => ?_))
    refine r_if_ne (μ := mX5_peace) (pc := 14) (tgt := 19) dX5_peace_14 (by decide) ⟨fun q14 => ?_, fun q14 => ?_⟩
    · have h := h.1 q14
      refine r_aload_n (μ := mX5_peace) (pc := 19) dX5_peace_19 rfl rfl ?_
      refine r_callV (μ := mX5_peace) (pc := 20) (as := []) 5 cX5_165 dX5_peace_20 rfl rfl (Nat.le_of_ble_eq_true rfl) rfl okX5_belongersNow (Nat.lt_succ_self d) (cat8 (n := 0) rfl (by decide)) rfl h (k_I (fun r20 T20 h => ?_))
      refine r_istore_n (μ := mX5_peace) (pc := 23) (ls' := [some (.ref 7), some (.int i1), some (.int i2), some (.int r20), none, none, none, none]) dX5_peace_23 rfl (Nat.le_of_ble_eq_true rfl) rfl rfl ?_
      refine r_aload_n (μ := mX5_peace) (pc := 24) dX5_peace_24 rfl rfl ?_
      refine r_iload_n (μ := mX5_peace) (pc := 25) dX5_peace_25 rfl rfl ?_
      refine r_callV (μ := mX5_peace) (pc := 26) (as := [.int r20]) 5 cX5_169 dX5_peace_26 rfl rfl (Nat.le_of_ble_eq_true rfl) rfl okX5_votesIn (Nat.lt_succ_self d) (cat8 (n := 0) rfl (by decide)) rfl h (k_I (fun r26 T26 h => ?_))
      refine r_istore (μ := mX5_peace) (pc := 29) (ls' := [some (.ref 7), some (.int i1), some (.int i2), some (.int r20), some (.int r26), none, none, none]) dX5_peace_29 (Nat.le_of_ble_eq_true rfl) rfl rfl ?_
      refine r_aload_n (μ := mX5_peace) (pc := 31) dX5_peace_31 rfl rfl ?_
      refine r_callV (μ := mX5_peace) (pc := 32) (as := []) 5 cX5_176 dX5_peace_32 rfl rfl (Nat.le_of_ble_eq_true rfl) rfl okX5_are (Nat.lt_succ_self d) (cat8 (n := 0) rfl (by decide)) rfl h (k_I (fun r32 T32 h => ?_))
      refine r_if_eq (μ := mX5_peace) (pc := 35) (tgt := 43) dX5_peace_35 (by decide) ⟨fun q35 => ?_, fun q35 => ?_⟩
      · have h := h.1 q35
        refine r_bipush (μ := mX5_peace) (pc := 43) (v := (-4)) dX5_peace_43 rfl ?_
        exact r_iret (μ := mX5_peace) (pc := 45) dX5_peace_45 rfl h
      · have h := h.2 q35
        refine r_iload (μ := mX5_peace) (pc := 38) dX5_peace_38 rfl ?_
        refine r_if_ne (μ := mX5_peace) (pc := 40) (tgt := 46) dX5_peace_40 (by decide) ⟨fun q40 => ?_, fun q40 => ?_⟩
        · have h := h.1 q40
          refine r_iload_n (μ := mX5_peace) (pc := 46) dX5_peace_46 rfl rfl ?_
          refine r_istore (μ := mX5_peace) (pc := 47) (ls' := [some (.ref 7), some (.int i1), some (.int i2), some (.int r20), some (.int r26), some (.int i1), none, none]) dX5_peace_47 (Nat.le_of_ble_eq_true rfl) rfl rfl ?_
          refine r_iconst (μ := mX5_peace) (pc := 49) (v := nI 0) dX5_peace_49 rfl ?_
          refine r_istore (μ := mX5_peace) (pc := 50) (ls' := [some (.ref 7), some (.int i1), some (.int i2), some (.int r20), some (.int r26), some (.int i1), some (.int (nI 0)), none]) dX5_peace_50 (Nat.le_of_ble_eq_true rfl) rfl rfl ?_
          exact h
        · have h := h.2 q40
          refine r_bipush (μ := mX5_peace) (pc := 43) (v := (-4)) dX5_peace_43 rfl ?_
          exact r_iret (μ := mX5_peace) (pc := 45) dX5_peace_45 rfl h
    · have h := h.2 q14
      refine r_iconst (μ := mX5_peace) (pc := 17) (v := (-1)) dX5_peace_17 rfl ?_
      exact r_iret (μ := mX5_peace) (pc := 18) dX5_peace_18 rfl h

set_option maxRecDepth 20000 in
theorem bX5_peace_52 {G : Gl} {l : Launch} {d : Nat} {S : Sg} {P : Int32 → Sg → Prop} (i1 : Int32) (i2 : Int32) (i3 : Int32) (i4 : Int32) (i5 : Int32) (i6 : Int32)
    (h : ((nI 6) ≤ i6 → Ev G l mX5_peace (d + 1) 111 [some (.ref 7), some (.int i1), some (.int i2), some (.int i3), some (.int i4), some (.int i5), some (.int (nI 0)), none] [] S (QI P)) ∧ (¬ ((nI 6) ≤ i6) → Ct G l mX5_has d [.int i3, .int i6] S (QI (fun r68 T68 => (r68 = (nI 0) → ∃ n89 : Nat, ix i6 n89 6 ∧ ∀ S89 : Sg, S89 = (u2 T68.1 98 n89 (nI 0), T68.2) → (Ev G l mX5_peace (d + 1) 52 [some (.ref 7), some (.int i1), some (.int i2), some (.int i3), some (.int i4), some (.int (i5 - (S89.1 98 n89))), some (.int (i6 + (nI 1))), none] [] S89 (QI P))) ∧ (¬ (r68 = (nI 0)) → Ct G l mX5_votesOf d [.ref 7, .int i6] T68 (QI (fun r77 T77 => (¬ i4 = 0) ∧ (∃ n89 : Nat, ix i6 n89 6 ∧ ∀ S89 : Sg, S89 = (u2 T77.1 98 n89 ((r77 * i1) / i4), T77.2) → (Ev G l mX5_peace (d + 1) 52 [some (.ref 7), some (.int i1), some (.int i2), some (.int i3), some (.int i4), some (.int (i5 - (S89.1 98 n89))), some (.int (i6 + (nI 1))), none] [] S89 (QI P)))))))))) :
    Ev G l mX5_peace (d + 1) 52 [some (.ref 7), some (.int i1), some (.int i2), some (.int i3), some (.int i4), some (.int i5), some (.int i6), none] [] S (QI P) := by
  show Ev G l mX5_peace (d + 1) 52 [some (.ref 7), some (.int i1), some (.int i2), some (.int i3), some (.int i4), some (.int i5), some (.int i6), none] [] S (QI P)
  refine r_iload (μ := mX5_peace) (pc := 52) dX5_peace_52 rfl ?_
  refine r_bipush (μ := mX5_peace) (pc := 54) (v := nI 6) dX5_peace_54 rfl ?_
  refine r_icmp_ge (μ := mX5_peace) (pc := 56) (tgt := 108) dX5_peace_56 (by decide) ⟨fun q56 => ?_, fun q56 => ?_⟩
  · have h := h.1 q56
    refine r_iconst (μ := mX5_peace) (pc := 108) (v := nI 0) dX5_peace_108 rfl ?_
    refine r_istore (μ := mX5_peace) (pc := 109) (ls' := [some (.ref 7), some (.int i1), some (.int i2), some (.int i3), some (.int i4), some (.int i5), some (.int (nI 0)), none]) dX5_peace_109 (Nat.le_of_ble_eq_true rfl) rfl rfl ?_
    exact h
  · have h := h.2 q56
    refine r_aload_n (μ := mX5_peace) (pc := 59) dX5_peace_59 rfl rfl ?_
    refine g_R (μ := mX5_peace) (pc := 60) (k' := 98) fX5_41 dX5_peace_60 rfl rfl ?_
    refine r_iload (μ := mX5_peace) (pc := 63) dX5_peace_63 rfl ?_
    refine r_iload_n (μ := mX5_peace) (pc := 65) dX5_peace_65 rfl rfl ?_
    refine r_iload (μ := mX5_peace) (pc := 66) dX5_peace_66 rfl ?_
    refine r_callS (μ := mX5_peace) (pc := 68) (as := [.int i3, .int i6]) cX5_143 dX5_peace_68 rfl okX5_has (Nat.lt_succ_self d) (cat8 (n := 2) rfl (by decide)) rfl h (k_I (fun r68 T68 h => ?_))
    refine r_if_eq (μ := mX5_peace) (pc := 71) (tgt := 88) dX5_peace_71 (by decide) ⟨fun q71 => ?_, fun q71 => ?_⟩
    · have h := h.1 q71
      refine r_iconst (μ := mX5_peace) (pc := 88) (v := nI 0) dX5_peace_88 rfl ?_
      obtain ⟨n89, hx89, h⟩ := h
      refine r_iast (μ := mX5_peace) (pc := 89) dX5_peace_89 rfl hx89 ?_
      refine nm_S (fun S89 eS89 => ?_)
      have h := h S89 eS89
      refine r_iload (μ := mX5_peace) (pc := 90) dX5_peace_90 rfl ?_
      refine r_aload_n (μ := mX5_peace) (pc := 92) dX5_peace_92 rfl rfl ?_
      refine g_R (μ := mX5_peace) (pc := 93) (k' := 98) fX5_41 dX5_peace_93 rfl rfl ?_
      refine r_iload (μ := mX5_peace) (pc := 96) dX5_peace_96 rfl ?_
      refine r_iald (μ := mX5_peace) (pc := 98) dX5_peace_98 rfl hx89 ?_
      refine r_isub (μ := mX5_peace) (pc := 99) dX5_peace_99 ?_
      refine r_istore (μ := mX5_peace) (pc := 100) (ls' := [some (.ref 7), some (.int i1), some (.int i2), some (.int i3), some (.int i4), some (.int (i5 - (S89.1 98 n89))), some (.int i6), none]) dX5_peace_100 (Nat.le_of_ble_eq_true rfl) rfl rfl ?_
      refine r_iinc (μ := mX5_peace) (pc := 102) (y := nI 1) (ls' := [some (.ref 7), some (.int i1), some (.int i2), some (.int i3), some (.int i4), some (.int (i5 - (S89.1 98 n89))), some (.int (i6 + (nI 1))), none]) dX5_peace_102 rfl rfl (Nat.le_of_ble_eq_true rfl) rfl rfl ?_
      refine r_goto (μ := mX5_peace) (pc := 105) (tgt := 52) dX5_peace_105 (by decide) ?_
      exact h
    · have h := h.2 q71
      refine r_aload_n (μ := mX5_peace) (pc := 74) dX5_peace_74 rfl rfl ?_
      refine r_iload (μ := mX5_peace) (pc := 75) dX5_peace_75 rfl ?_
      refine r_callV (μ := mX5_peace) (pc := 77) (as := [.int i6]) 5 cX5_147 dX5_peace_77 rfl rfl (Nat.le_of_ble_eq_true rfl) rfl okX5_votesOf (Nat.lt_succ_self d) (cat8 (n := 2) rfl (by decide)) rfl h (k_I (fun r77 T77 h => ?_))
      refine r_iload_n (μ := mX5_peace) (pc := 80) dX5_peace_80 rfl rfl ?_
      refine r_imul (μ := mX5_peace) (pc := 81) dX5_peace_81 ?_
      refine r_iload (μ := mX5_peace) (pc := 82) dX5_peace_82 rfl ?_
      obtain ⟨hz84, h⟩ := h
      refine r_idiv (μ := mX5_peace) (pc := 84) dX5_peace_84 hz84 ?_
      refine r_goto (μ := mX5_peace) (pc := 85) (tgt := 89) dX5_peace_85 (by decide) ?_
      obtain ⟨n89, hx89, h⟩ := h
      refine r_iast (μ := mX5_peace) (pc := 89) dX5_peace_89 rfl hx89 ?_
      refine nm_S (fun S89 eS89 => ?_)
      have h := h S89 eS89
      refine r_iload (μ := mX5_peace) (pc := 90) dX5_peace_90 rfl ?_
      refine r_aload_n (μ := mX5_peace) (pc := 92) dX5_peace_92 rfl rfl ?_
      refine g_R (μ := mX5_peace) (pc := 93) (k' := 98) fX5_41 dX5_peace_93 rfl rfl ?_
      refine r_iload (μ := mX5_peace) (pc := 96) dX5_peace_96 rfl ?_
      refine r_iald (μ := mX5_peace) (pc := 98) dX5_peace_98 rfl hx89 ?_
      refine r_isub (μ := mX5_peace) (pc := 99) dX5_peace_99 ?_
      refine r_istore (μ := mX5_peace) (pc := 100) (ls' := [some (.ref 7), some (.int i1), some (.int i2), some (.int i3), some (.int i4), some (.int (i5 - (S89.1 98 n89))), some (.int i6), none]) dX5_peace_100 (Nat.le_of_ble_eq_true rfl) rfl rfl ?_
      refine r_iinc (μ := mX5_peace) (pc := 102) (y := nI 1) (ls' := [some (.ref 7), some (.int i1), some (.int i2), some (.int i3), some (.int i4), some (.int (i5 - (S89.1 98 n89))), some (.int (i6 + (nI 1))), none]) dX5_peace_102 rfl rfl (Nat.le_of_ble_eq_true rfl) rfl rfl ?_
      refine r_goto (μ := mX5_peace) (pc := 105) (tgt := 52) dX5_peace_105 (by decide) ?_
      exact h

set_option maxRecDepth 20000 in
theorem bX5_peace_111 {G : Gl} {l : Launch} {d : Nat} {S : Sg} {P : Int32 → Sg → Prop} (i1 : Int32) (i2 : Int32) (i3 : Int32) (i4 : Int32) (i5 : Int32) (i6 : Int32)
    (h : ((nI 6) ≤ i6 → Ct G l mX5_laysShares d [.ref 7, .int i2] S (QV (fun T154 => Ev G l mX5_peace (d + 1) 160 [some (.ref 7), some (.int i1), some (.int i2), some (.int i3), some (.int i4), some (.int i5), some (.int (nI 0)), none] [] T154 (QI P)))) ∧ (¬ ((nI 6) ≤ i6) → Ct G l mX5_has d [.int i3, .int i6] S (QI (fun r121 T121 => (r121 = (nI 0) → Ev G l mX5_peace (d + 1) 111 [some (.ref 7), some (.int i1), some (.int i2), some (.int i3), some (.int i4), some (.int i5), some (.int (i6 + (nI 1))), none] [] T121 (QI P)) ∧ (¬ (r121 = (nI 0)) → (i5 ≤ (nI 0) → Ev G l mX5_peace (d + 1) 111 [some (.ref 7), some (.int i1), some (.int i2), some (.int i3), some (.int i4), some (.int i5), some (.int (i6 + (nI 1))), none] [] T121 (QI P)) ∧ (¬ (i5 ≤ (nI 0)) → ∃ n139 : Nat, ix i6 n139 6 ∧ (∀ S142 : Sg, S142 = (u2 T121.1 98 n139 ((T121.1 98 n139) + (nI 1)), T121.2) → (Ev G l mX5_peace (d + 1) 111 [some (.ref 7), some (.int i1), some (.int i2), some (.int i3), some (.int i4), some (.int (i5 + (-1))), some (.int (i6 + (nI 1))), none] [] S142 (QI P))))))))) :
    Ev G l mX5_peace (d + 1) 111 [some (.ref 7), some (.int i1), some (.int i2), some (.int i3), some (.int i4), some (.int i5), some (.int i6), none] [] S (QI P) := by
  show Ev G l mX5_peace (d + 1) 111 [some (.ref 7), some (.int i1), some (.int i2), some (.int i3), some (.int i4), some (.int i5), some (.int i6), none] [] S (QI P)
  refine r_iload (μ := mX5_peace) (pc := 111) dX5_peace_111 rfl ?_
  refine r_bipush (μ := mX5_peace) (pc := 113) (v := nI 6) dX5_peace_113 rfl ?_
  refine r_icmp_ge (μ := mX5_peace) (pc := 115) (tgt := 152) dX5_peace_115 (by decide) ⟨fun q115 => ?_, fun q115 => ?_⟩
  · have h := h.1 q115
    refine r_aload_n (μ := mX5_peace) (pc := 152) dX5_peace_152 rfl rfl ?_
    refine r_iload_n (μ := mX5_peace) (pc := 153) dX5_peace_153 rfl rfl ?_
    refine r_callV (μ := mX5_peace) (pc := 154) (as := [.int i2]) 5 cX5_198 dX5_peace_154 rfl rfl (Nat.le_of_ble_eq_true rfl) rfl okX5_laysShares (Nat.lt_succ_self d) (cat8 (n := 0) rfl (by decide)) rfl h (k_V (fun T154 h => ?_))
    refine r_iconst (μ := mX5_peace) (pc := 157) (v := nI 0) dX5_peace_157 rfl ?_
    refine r_istore (μ := mX5_peace) (pc := 158) (ls' := [some (.ref 7), some (.int i1), some (.int i2), some (.int i3), some (.int i4), some (.int i5), some (.int (nI 0)), none]) dX5_peace_158 (Nat.le_of_ble_eq_true rfl) rfl rfl ?_
    exact h
  · have h := h.2 q115
    refine r_iload_n (μ := mX5_peace) (pc := 118) dX5_peace_118 rfl rfl ?_
    refine r_iload (μ := mX5_peace) (pc := 119) dX5_peace_119 rfl ?_
    refine r_callS (μ := mX5_peace) (pc := 121) (as := [.int i3, .int i6]) cX5_143 dX5_peace_121 rfl okX5_has (Nat.lt_succ_self d) (cat8 (n := 0) rfl (by decide)) rfl h (k_I (fun r121 T121 h => ?_))
    refine r_if_eq (μ := mX5_peace) (pc := 124) (tgt := 146) dX5_peace_124 (by decide) ⟨fun q124 => ?_, fun q124 => ?_⟩
    · have h := h.1 q124
      refine r_iinc (μ := mX5_peace) (pc := 146) (y := nI 1) (ls' := [some (.ref 7), some (.int i1), some (.int i2), some (.int i3), some (.int i4), some (.int i5), some (.int (i6 + (nI 1))), none]) dX5_peace_146 rfl rfl (Nat.le_of_ble_eq_true rfl) rfl rfl ?_
      refine r_goto (μ := mX5_peace) (pc := 149) (tgt := 111) dX5_peace_149 (by decide) ?_
      exact h
    · have h := h.2 q124
      refine r_iload (μ := mX5_peace) (pc := 127) dX5_peace_127 rfl ?_
      refine r_if_le (μ := mX5_peace) (pc := 129) (tgt := 146) dX5_peace_129 (by decide) ⟨fun q129 => ?_, fun q129 => ?_⟩
      · have h := h.1 q129
        refine r_iinc (μ := mX5_peace) (pc := 146) (y := nI 1) (ls' := [some (.ref 7), some (.int i1), some (.int i2), some (.int i3), some (.int i4), some (.int i5), some (.int (i6 + (nI 1))), none]) dX5_peace_146 rfl rfl (Nat.le_of_ble_eq_true rfl) rfl rfl ?_
        refine r_goto (μ := mX5_peace) (pc := 149) (tgt := 111) dX5_peace_149 (by decide) ?_
        exact h
      · have h := h.2 q129
        refine r_aload_n (μ := mX5_peace) (pc := 132) dX5_peace_132 rfl rfl ?_
        refine g_R (μ := mX5_peace) (pc := 133) (k' := 98) fX5_41 dX5_peace_133 rfl rfl ?_
        refine r_iload (μ := mX5_peace) (pc := 136) dX5_peace_136 rfl ?_
        refine r_dup2_11 (μ := mX5_peace) (pc := 138) dX5_peace_138 rfl rfl ?_
        obtain ⟨n139, hx139, h⟩ := h
        refine r_iald (μ := mX5_peace) (pc := 139) dX5_peace_139 rfl hx139 ?_
        refine r_iconst (μ := mX5_peace) (pc := 140) (v := nI 1) dX5_peace_140 rfl ?_
        refine r_iadd (μ := mX5_peace) (pc := 141) dX5_peace_141 ?_
        refine r_iast (μ := mX5_peace) (pc := 142) dX5_peace_142 rfl hx139 ?_
        refine nm_S (fun S142 eS142 => ?_)
        have h := h S142 eS142
        refine r_iinc (μ := mX5_peace) (pc := 143) (y := (-1)) (ls' := [some (.ref 7), some (.int i1), some (.int i2), some (.int i3), some (.int i4), some (.int (i5 + (-1))), some (.int i6), none]) dX5_peace_143 rfl rfl (Nat.le_of_ble_eq_true rfl) rfl rfl ?_
        refine r_iinc (μ := mX5_peace) (pc := 146) (y := nI 1) (ls' := [some (.ref 7), some (.int i1), some (.int i2), some (.int i3), some (.int i4), some (.int (i5 + (-1))), some (.int (i6 + (nI 1))), none]) dX5_peace_146 rfl rfl (Nat.le_of_ble_eq_true rfl) rfl rfl ?_
        refine r_goto (μ := mX5_peace) (pc := 149) (tgt := 111) dX5_peace_149 (by decide) ?_
        exact h

set_option maxRecDepth 20000 in
theorem bX5_peace_160 {G : Gl} {l : Launch} {d : Nat} {S : Sg} {P : Int32 → Sg → Prop} (i1 : Int32) (i2 : Int32) (i3 : Int32) (i4 : Int32) (i5 : Int32) (i6 : Int32)
    (h : ((S.1 93 7) ≤ i6 → P (-9) S) ∧ (¬ ((S.1 93 7) ≤ i6) → Ev G l mX5_peace (d + 1) 175 [some (.ref 7), some (.int i1), some (.int i2), some (.int i3), some (.int i4), some (.int i5), some (.int i6), some (.int (nI 0))] [] S (QI P))) :
    Ev G l mX5_peace (d + 1) 160 [some (.ref 7), some (.int i1), some (.int i2), some (.int i3), some (.int i4), some (.int i5), some (.int i6), none] [] S (QI P) := by
  show Ev G l mX5_peace (d + 1) 160 [some (.ref 7), some (.int i1), some (.int i2), some (.int i3), some (.int i4), some (.int i5), some (.int i6), none] [] S (QI P)
  refine r_iload (μ := mX5_peace) (pc := 160) dX5_peace_160 rfl ?_
  refine r_aload_n (μ := mX5_peace) (pc := 162) dX5_peace_162 rfl rfl ?_
  refine g_R (μ := mX5_peace) (pc := 163) (k' := 93) fX5_25 dX5_peace_163 rfl rfl ?_
  refine r_bipush (μ := mX5_peace) (pc := 166) (v := nI 7) dX5_peace_166 rfl ?_
  refine r_iald (μ := mX5_peace) (pc := 168) dX5_peace_168 rfl (ix_nI (n := 7) (Nat.le_of_ble_eq_true rfl) (Nat.le_of_ble_eq_true rfl)) ?_
  refine r_icmp_ge (μ := mX5_peace) (pc := 169) (tgt := 257) dX5_peace_169 (by decide) ⟨fun q169 => ?_, fun q169 => ?_⟩
  · have h := h.1 q169
    refine r_bipush (μ := mX5_peace) (pc := 257) (v := (-9)) dX5_peace_257 rfl ?_
    exact r_iret (μ := mX5_peace) (pc := 259) dX5_peace_259 rfl h
  · have h := h.2 q169
    refine r_iconst (μ := mX5_peace) (pc := 172) (v := nI 0) dX5_peace_172 rfl ?_
    refine r_istore (μ := mX5_peace) (pc := 173) (ls' := [some (.ref 7), some (.int i1), some (.int i2), some (.int i3), some (.int i4), some (.int i5), some (.int i6), some (.int (nI 0))]) dX5_peace_173 (Nat.le_of_ble_eq_true rfl) rfl rfl ?_
    exact h

set_option maxRecDepth 20000 in
theorem bX5_peace_175 {G : Gl} {l : Launch} {d : Nat} {S : Sg} {P : Int32 → Sg → Prop} (i1 : Int32) (i2 : Int32) (i3 : Int32) (i4 : Int32) (i5 : Int32) (i6 : Int32) (i7 : Int32)
    (h : ((S.1 93 7) ≤ i7 → Ev G l mX5_peace (d + 1) 160 [some (.ref 7), some (.int i1), some (.int i2), some (.int i3), some (.int i4), some (.int i5), some (.int (i6 + (nI 1))), none] [] S (QI P)) ∧ (¬ ((S.1 93 7) ≤ i7) → Ct G l mX5_has d [.int i3, .int i6] S (QI (fun r190 T190 => (r190 = (nI 0) → Ev G l mX5_peace (d + 1) 175 [some (.ref 7), some (.int i1), some (.int i2), some (.int i3), some (.int i4), some (.int i5), some (.int i6), some (.int (i7 + (nI 1)))] [] T190 (QI P)) ∧ (¬ (r190 = (nI 0)) → Ct G l mX5_has d [.int i3, .int i7] T190 (QI (fun r199 T199 => (r199 = (nI 0) → Ev G l mX5_peace (d + 1) 175 [some (.ref 7), some (.int i1), some (.int i2), some (.int i3), some (.int i4), some (.int i5), some (.int i6), some (.int (i7 + (nI 1)))] [] T199 (QI P)) ∧ (¬ (r199 = (nI 0)) → ∃ n211 : Nat, ix i6 n211 6 ∧ (∃ n218 : Nat, ix i7 n218 6 ∧ (((T199.1 98 n218) ≤ (T199.1 98 n211) → Ev G l mX5_peace (d + 1) 175 [some (.ref 7), some (.int i1), some (.int i2), some (.int i3), some (.int i4), some (.int i5), some (.int i6), some (.int (i7 + (nI 1)))] [] T199 (QI P)) ∧ (¬ ((T199.1 98 n218) ≤ (T199.1 98 n211)) → Ct G l mX5_votesOf d [.ref 7, .int i7] T199 (QI (fun r225 T225 => Ct G l mX5_votesOf d [.ref 7, .int i6] T225 (QI (fun r231 T231 => (r231 < r225 → Ev G l mX5_peace (d + 1) 175 [some (.ref 7), some (.int i1), some (.int i2), some (.int i3), some (.int i4), some (.int i5), some (.int i6), some (.int (i7 + (nI 1)))] [] T231 (QI P)) ∧ (¬ (r231 < r225) → P (T231.1 98 n211) T231)))))))))))))))) :
    Ev G l mX5_peace (d + 1) 175 [some (.ref 7), some (.int i1), some (.int i2), some (.int i3), some (.int i4), some (.int i5), some (.int i6), some (.int i7)] [] S (QI P) := by
  show Ev G l mX5_peace (d + 1) 175 [some (.ref 7), some (.int i1), some (.int i2), some (.int i3), some (.int i4), some (.int i5), some (.int i6), some (.int i7)] [] S (QI P)
  refine r_iload (μ := mX5_peace) (pc := 175) dX5_peace_175 rfl ?_
  refine r_aload_n (μ := mX5_peace) (pc := 177) dX5_peace_177 rfl rfl ?_
  refine g_R (μ := mX5_peace) (pc := 178) (k' := 93) fX5_25 dX5_peace_178 rfl rfl ?_
  refine r_bipush (μ := mX5_peace) (pc := 181) (v := nI 7) dX5_peace_181 rfl ?_
  refine r_iald (μ := mX5_peace) (pc := 183) dX5_peace_183 rfl (ix_nI (n := 7) (Nat.le_of_ble_eq_true rfl) (Nat.le_of_ble_eq_true rfl)) ?_
  refine r_icmp_ge (μ := mX5_peace) (pc := 184) (tgt := 251) dX5_peace_184 (by decide) ⟨fun q184 => ?_, fun q184 => ?_⟩
  · have h := h.1 q184
    refine r_iinc (μ := mX5_peace) (pc := 251) (y := nI 1) (ls' := [some (.ref 7), some (.int i1), some (.int i2), some (.int i3), some (.int i4), some (.int i5), some (.int (i6 + (nI 1))), some (.int i7)]) dX5_peace_251 rfl rfl (Nat.le_of_ble_eq_true rfl) rfl rfl ?_
    refine r_goto (μ := mX5_peace) (pc := 254) (tgt := 160) dX5_peace_254 (by decide) ?_
    exact Ev.sub (ls' := [some (.ref 7), some (.int i1), some (.int i2), some (.int i3), some (.int i4), some (.int i5), some (.int (i6 + (nI 1))), none]) (ls_s (ls_s (ls_s (ls_s (ls_s (ls_s (ls_s (ls_n ls_0)))))))) h
  · have h := h.2 q184
    refine r_iload_n (μ := mX5_peace) (pc := 187) dX5_peace_187 rfl rfl ?_
    refine r_iload (μ := mX5_peace) (pc := 188) dX5_peace_188 rfl ?_
    refine r_callS (μ := mX5_peace) (pc := 190) (as := [.int i3, .int i6]) cX5_143 dX5_peace_190 rfl okX5_has (Nat.lt_succ_self d) (cat8 (n := 0) rfl (by decide)) rfl h (k_I (fun r190 T190 h => ?_))
    refine r_if_eq (μ := mX5_peace) (pc := 193) (tgt := 245) dX5_peace_193 (by decide) ⟨fun q193 => ?_, fun q193 => ?_⟩
    · have h := h.1 q193
      refine r_iinc (μ := mX5_peace) (pc := 245) (y := nI 1) (ls' := [some (.ref 7), some (.int i1), some (.int i2), some (.int i3), some (.int i4), some (.int i5), some (.int i6), some (.int (i7 + (nI 1)))]) dX5_peace_245 rfl rfl (Nat.le_of_ble_eq_true rfl) rfl rfl ?_
      refine r_goto (μ := mX5_peace) (pc := 248) (tgt := 175) dX5_peace_248 (by decide) ?_
      exact h
    · have h := h.2 q193
      refine r_iload_n (μ := mX5_peace) (pc := 196) dX5_peace_196 rfl rfl ?_
      refine r_iload (μ := mX5_peace) (pc := 197) dX5_peace_197 rfl ?_
      refine r_callS (μ := mX5_peace) (pc := 199) (as := [.int i3, .int i7]) cX5_143 dX5_peace_199 rfl okX5_has (Nat.lt_succ_self d) (cat8 (n := 0) rfl (by decide)) rfl h (k_I (fun r199 T199 h => ?_))
      refine r_if_eq (μ := mX5_peace) (pc := 202) (tgt := 245) dX5_peace_202 (by decide) ⟨fun q202 => ?_, fun q202 => ?_⟩
      · have h := h.1 q202
        refine r_iinc (μ := mX5_peace) (pc := 245) (y := nI 1) (ls' := [some (.ref 7), some (.int i1), some (.int i2), some (.int i3), some (.int i4), some (.int i5), some (.int i6), some (.int (i7 + (nI 1)))]) dX5_peace_245 rfl rfl (Nat.le_of_ble_eq_true rfl) rfl rfl ?_
        refine r_goto (μ := mX5_peace) (pc := 248) (tgt := 175) dX5_peace_248 (by decide) ?_
        exact h
      · have h := h.2 q202
        refine r_aload_n (μ := mX5_peace) (pc := 205) dX5_peace_205 rfl rfl ?_
        refine g_R (μ := mX5_peace) (pc := 206) (k' := 98) fX5_41 dX5_peace_206 rfl rfl ?_
        refine r_iload (μ := mX5_peace) (pc := 209) dX5_peace_209 rfl ?_
        obtain ⟨n211, hx211, h⟩ := h
        refine r_iald (μ := mX5_peace) (pc := 211) dX5_peace_211 rfl hx211 ?_
        refine r_aload_n (μ := mX5_peace) (pc := 212) dX5_peace_212 rfl rfl ?_
        refine g_R (μ := mX5_peace) (pc := 213) (k' := 98) fX5_41 dX5_peace_213 rfl rfl ?_
        refine r_iload (μ := mX5_peace) (pc := 216) dX5_peace_216 rfl ?_
        obtain ⟨n218, hx218, h⟩ := h
        refine r_iald (μ := mX5_peace) (pc := 218) dX5_peace_218 rfl hx218 ?_
        refine r_icmp_ge (μ := mX5_peace) (pc := 219) (tgt := 245) dX5_peace_219 (by decide) ⟨fun q219 => ?_, fun q219 => ?_⟩
        · have h := h.1 q219
          refine r_iinc (μ := mX5_peace) (pc := 245) (y := nI 1) (ls' := [some (.ref 7), some (.int i1), some (.int i2), some (.int i3), some (.int i4), some (.int i5), some (.int i6), some (.int (i7 + (nI 1)))]) dX5_peace_245 rfl rfl (Nat.le_of_ble_eq_true rfl) rfl rfl ?_
          refine r_goto (μ := mX5_peace) (pc := 248) (tgt := 175) dX5_peace_248 (by decide) ?_
          exact h
        · have h := h.2 q219
          refine r_aload_n (μ := mX5_peace) (pc := 222) dX5_peace_222 rfl rfl ?_
          refine r_iload (μ := mX5_peace) (pc := 223) dX5_peace_223 rfl ?_
          refine r_callV (μ := mX5_peace) (pc := 225) (as := [.int i7]) 5 cX5_147 dX5_peace_225 rfl rfl (Nat.le_of_ble_eq_true rfl) rfl okX5_votesOf (Nat.lt_succ_self d) (cat8 (n := 0) rfl (by decide)) rfl h (k_I (fun r225 T225 h => ?_))
          refine r_aload_n (μ := mX5_peace) (pc := 228) dX5_peace_228 rfl rfl ?_
          refine r_iload (μ := mX5_peace) (pc := 229) dX5_peace_229 rfl ?_
          refine r_callV (μ := mX5_peace) (pc := 231) (as := [.int i6]) 5 cX5_147 dX5_peace_231 rfl rfl (Nat.le_of_ble_eq_true rfl) rfl okX5_votesOf (Nat.lt_succ_self d) (cat8 (n := 1) rfl (by decide)) rfl h (k_I (fun r231 T231 h => ?_))
          refine r_icmp_gt (μ := mX5_peace) (pc := 234) (tgt := 245) dX5_peace_234 (by decide) ⟨fun q234 => ?_, fun q234 => ?_⟩
          · have h := h.1 q234
            refine r_iinc (μ := mX5_peace) (pc := 245) (y := nI 1) (ls' := [some (.ref 7), some (.int i1), some (.int i2), some (.int i3), some (.int i4), some (.int i5), some (.int i6), some (.int (i7 + (nI 1)))]) dX5_peace_245 rfl rfl (Nat.le_of_ble_eq_true rfl) rfl rfl ?_
            refine r_goto (μ := mX5_peace) (pc := 248) (tgt := 175) dX5_peace_248 (by decide) ?_
            exact h
          · have h := h.2 q234
            refine r_aload_n (μ := mX5_peace) (pc := 237) dX5_peace_237 rfl rfl ?_
            refine g_R (μ := mX5_peace) (pc := 238) (k' := 98) fX5_41 dX5_peace_238 rfl rfl ?_
            refine r_iload (μ := mX5_peace) (pc := 241) dX5_peace_241 rfl ?_
            refine r_iald (μ := mX5_peace) (pc := 243) dX5_peace_243 rfl hx211 ?_
            exact r_iret (μ := mX5_peace) (pc := 244) dX5_peace_244 rfl h

set_option maxRecDepth 20000 in
theorem bX5_costOf_0 {G : Gl} {l : Launch} {d : Nat} {S : Sg} {P : Int32 → Sg → Prop} (i1 : Int32)
    (h : Ct G l mX5_in d [.int i1, .int (S.1 93 1), .int ((S.1 93 2) - (nI 1))] S (QI (fun r15 T15 => (r15 = (nI 0) → Ev G l mX5_costOf (d + 1) 27 [some (.ref 7), some (.int i1), some (.int (nI 0)), some (.int (nI 0))] [] T15 (QI P)) ∧ (¬ (r15 = (nI 0)) → P (nI 1) T15)))) :
    Ct G l mX5_costOf (d + 1) [.ref 7, .int i1] S (QI P) := by
  show Ev G l mX5_costOf (d + 1) 0 [some (.ref 7), some (.int i1), none, none] [] S (QI P)
  refine r_iload_n (μ := mX5_costOf) (pc := 0) dX5_costOf_0 rfl rfl ?_
  refine r_aload_n (μ := mX5_costOf) (pc := 1) dX5_costOf_1 rfl rfl ?_
  refine g_R (μ := mX5_costOf) (pc := 2) (k' := 93) fX5_25 dX5_costOf_2 rfl rfl ?_
  refine r_iconst (μ := mX5_costOf) (pc := 5) (v := nI 1) dX5_costOf_5 rfl ?_
  refine r_iald (μ := mX5_costOf) (pc := 6) dX5_costOf_6 rfl (ix_nI (n := 1) (Nat.le_of_ble_eq_true rfl) (Nat.le_of_ble_eq_true rfl)) ?_
  refine r_aload_n (μ := mX5_costOf) (pc := 7) dX5_costOf_7 rfl rfl ?_
  refine g_R (μ := mX5_costOf) (pc := 8) (k' := 93) fX5_25 dX5_costOf_8 rfl rfl ?_
  refine r_iconst (μ := mX5_costOf) (pc := 11) (v := nI 2) dX5_costOf_11 rfl ?_
  refine r_iald (μ := mX5_costOf) (pc := 12) dX5_costOf_12 rfl (ix_nI (n := 2) (Nat.le_of_ble_eq_true rfl) (Nat.le_of_ble_eq_true rfl)) ?_
  refine r_iconst (μ := mX5_costOf) (pc := 13) (v := nI 1) dX5_costOf_13 rfl ?_
  refine r_isub (μ := mX5_costOf) (pc := 14) dX5_costOf_14 ?_
  refine r_callS (μ := mX5_costOf) (pc := 15) (as := [.int i1, .int (S.1 93 1), .int ((S.1 93 2) - (nI 1))]) cX5_73 dX5_costOf_15 rfl okX5_in (Nat.lt_succ_self d) (cat8 (n := 0) rfl (by decide)) rfl h (k_I (fun r15 T15 h => ?_))
  refine r_if_eq (μ := mX5_costOf) (pc := 18) (tgt := 23) dX5_costOf_18 (by decide) ⟨fun q18 => ?_, fun q18 => ?_⟩
  · have h := h.1 q18
    refine r_iconst (μ := mX5_costOf) (pc := 23) (v := nI 0) dX5_costOf_23 rfl ?_
    refine r_istore_n (μ := mX5_costOf) (pc := 24) (ls' := [some (.ref 7), some (.int i1), some (.int (nI 0)), none]) dX5_costOf_24 rfl (Nat.le_of_ble_eq_true rfl) rfl rfl ?_
    refine r_iconst (μ := mX5_costOf) (pc := 25) (v := nI 0) dX5_costOf_25 rfl ?_
    refine r_istore_n (μ := mX5_costOf) (pc := 26) (ls' := [some (.ref 7), some (.int i1), some (.int (nI 0)), some (.int (nI 0))]) dX5_costOf_26 rfl (Nat.le_of_ble_eq_true rfl) rfl rfl ?_
    exact h
  · have h := h.2 q18
    refine r_iconst (μ := mX5_costOf) (pc := 21) (v := nI 1) dX5_costOf_21 rfl ?_
    exact r_iret (μ := mX5_costOf) (pc := 22) dX5_costOf_22 rfl h

set_option maxRecDepth 20000 in
theorem bX5_costOf_27 {G : Gl} {l : Launch} {d : Nat} {S : Sg} {P : Int32 → Sg → Prop} (i1 : Int32) (i2 : Int32) (i3 : Int32)
    (h : ((S.1 93 7) ≤ i3 → ∀ x96 : Int32, x96 = (if (S.1 93 1) ≤ i1 then (nI 3) else (nI 2)) → (∀ x105 : Int32, x105 = (if i2 ≤ (nI 0) then (nI 0) else (nI 1)) → (P (x96 + x105) S))) ∧ (¬ ((S.1 93 7) ≤ i3) → ∃ n51 : Nat, ix (((nI 10) + ((nI 5) * i3)) + (nI 1)) n51 400 ∧ ((¬ (S.1 93 n51) = i1 → Ev G l mX5_costOf (d + 1) 27 [some (.ref 7), some (.int i1), some (.int (i2 + (nI 0))), some (.int (i3 + (nI 1)))] [] S (QI P)) ∧ ((S.1 93 n51) = i1 → Ct G l mX5_belongs d [.ref 7, .int i3, .int (S.1 93 1), .int (S.1 93 2)] S (QI (fun r70 T70 => ∀ x73 : Int32, x73 = (if r70 = (nI 0) then (nI 1) else (nI 0)) → (Ev G l mX5_costOf (d + 1) 27 [some (.ref 7), some (.int i1), some (.int (i2 + x73)), some (.int (i3 + (nI 1)))] [] T70 (QI P)))))))) :
    Ev G l mX5_costOf (d + 1) 27 [some (.ref 7), some (.int i1), some (.int i2), some (.int i3)] [] S (QI P) := by
  show Ev G l mX5_costOf (d + 1) 27 [some (.ref 7), some (.int i1), some (.int i2), some (.int i3)] [] S (QI P)
  refine r_iload_n (μ := mX5_costOf) (pc := 27) dX5_costOf_27 rfl rfl ?_
  refine r_aload_n (μ := mX5_costOf) (pc := 28) dX5_costOf_28 rfl rfl ?_
  refine g_R (μ := mX5_costOf) (pc := 29) (k' := 93) fX5_25 dX5_costOf_29 rfl rfl ?_
  refine r_bipush (μ := mX5_costOf) (pc := 32) (v := nI 7) dX5_costOf_32 rfl ?_
  refine r_iald (μ := mX5_costOf) (pc := 34) dX5_costOf_34 rfl (ix_nI (n := 7) (Nat.le_of_ble_eq_true rfl) (Nat.le_of_ble_eq_true rfl)) ?_
  refine r_icmp_ge (μ := mX5_costOf) (pc := 35) (tgt := 89) dX5_costOf_35 (by decide) ⟨fun q35 => ?_, fun q35 => ?_⟩
  · have h := h.1 q35
    refine r_iload_n (μ := mX5_costOf) (pc := 89) dX5_costOf_89 rfl rfl ?_
    refine r_aload_n (μ := mX5_costOf) (pc := 90) dX5_costOf_90 rfl rfl ?_
    refine g_R (μ := mX5_costOf) (pc := 91) (k' := 93) fX5_25 dX5_costOf_91 rfl rfl ?_
    refine r_iconst (μ := mX5_costOf) (pc := 94) (v := nI 1) dX5_costOf_94 rfl ?_
    refine r_iald (μ := mX5_costOf) (pc := 95) dX5_costOf_95 rfl (ix_nI (n := 1) (Nat.le_of_ble_eq_true rfl) (Nat.le_of_ble_eq_true rfl)) ?_
    have J96 : ∀ x96 : Int32, x96 = (if (S.1 93 1) ≤ i1 then (nI 3) else (nI 2)) → Ev G l mX5_costOf (d + 1) 104 [some (.ref 7), some (.int i1), some (.int i2), some (.int i3)] [.int x96] S (QI P) := by
      intro x96 e96
      have h := h x96 e96
      refine r_iload_n (μ := mX5_costOf) (pc := 104) dX5_costOf_104 rfl rfl ?_
      have J105 : ∀ x105 : Int32, x105 = (if i2 ≤ (nI 0) then (nI 0) else (nI 1)) → Ev G l mX5_costOf (d + 1) 113 [some (.ref 7), some (.int i1), some (.int i2), some (.int i3)] [.int x105, .int x96] S (QI P) := by
        intro x105 e105
        have h := h x105 e105
        refine r_iadd (μ := mX5_costOf) (pc := 113) dX5_costOf_113 ?_
        exact r_iret (μ := mX5_costOf) (pc := 114) dX5_costOf_114 rfl h
      refine r_if_le (μ := mX5_costOf) (pc := 105) (tgt := 112) dX5_costOf_105 (by decide) ⟨fun q105 => ?_, fun q105 => ?_⟩
      · refine r_iconst (μ := mX5_costOf) (pc := 112) (v := nI 0) dX5_costOf_112 rfl ?_
        exact J105 _ (by first | (rw [if_pos q105]; done) | simp only [if_pos q105])
      · refine r_iconst (μ := mX5_costOf) (pc := 108) (v := nI 1) dX5_costOf_108 rfl ?_
        refine r_goto (μ := mX5_costOf) (pc := 109) (tgt := 113) dX5_costOf_109 (by decide) ?_
        exact J105 _ (by first | (rw [if_neg q105]; done) | simp only [if_neg q105])
    refine r_icmp_ge (μ := mX5_costOf) (pc := 96) (tgt := 103) dX5_costOf_96 (by decide) ⟨fun q96 => ?_, fun q96 => ?_⟩
    · refine r_iconst (μ := mX5_costOf) (pc := 103) (v := nI 3) dX5_costOf_103 rfl ?_
      exact J96 _ (by first | (rw [if_pos q96]; done) | simp only [if_pos q96])
    · refine r_iconst (μ := mX5_costOf) (pc := 99) (v := nI 2) dX5_costOf_99 rfl ?_
      refine r_goto (μ := mX5_costOf) (pc := 100) (tgt := 104) dX5_costOf_100 (by decide) ?_
      exact J96 _ (by first | (rw [if_neg q96]; done) | simp only [if_neg q96])
  · have h := h.2 q35
    refine r_iload_n (μ := mX5_costOf) (pc := 38) dX5_costOf_38 rfl rfl ?_
    refine r_aload_n (μ := mX5_costOf) (pc := 39) dX5_costOf_39 rfl rfl ?_
    refine g_R (μ := mX5_costOf) (pc := 40) (k' := 93) fX5_25 dX5_costOf_40 rfl rfl ?_
    refine r_bipush (μ := mX5_costOf) (pc := 43) (v := nI 10) dX5_costOf_43 rfl ?_
    refine r_iconst (μ := mX5_costOf) (pc := 45) (v := nI 5) dX5_costOf_45 rfl ?_
    refine r_iload_n (μ := mX5_costOf) (pc := 46) dX5_costOf_46 rfl rfl ?_
    refine r_imul (μ := mX5_costOf) (pc := 47) dX5_costOf_47 ?_
    refine r_iadd (μ := mX5_costOf) (pc := 48) dX5_costOf_48 ?_
    refine r_iconst (μ := mX5_costOf) (pc := 49) (v := nI 1) dX5_costOf_49 rfl ?_
    refine r_iadd (μ := mX5_costOf) (pc := 50) dX5_costOf_50 ?_
    obtain ⟨n51, hx51, h⟩ := h
    refine r_iald (μ := mX5_costOf) (pc := 51) dX5_costOf_51 rfl hx51 ?_
    refine r_iload_n (μ := mX5_costOf) (pc := 52) dX5_costOf_52 rfl rfl ?_
    refine r_icmp_ne (μ := mX5_costOf) (pc := 53) (tgt := 80) dX5_costOf_53 (by decide) ⟨fun q53 => ?_, fun q53 => ?_⟩
    · have h := h.1 q53
      refine r_iconst (μ := mX5_costOf) (pc := 80) (v := nI 0) dX5_costOf_80 rfl ?_
      refine r_iadd (μ := mX5_costOf) (pc := 81) dX5_costOf_81 ?_
      refine r_istore_n (μ := mX5_costOf) (pc := 82) (ls' := [some (.ref 7), some (.int i1), some (.int (i2 + (nI 0))), some (.int i3)]) dX5_costOf_82 rfl (Nat.le_of_ble_eq_true rfl) rfl rfl ?_
      refine r_iinc (μ := mX5_costOf) (pc := 83) (y := nI 1) (ls' := [some (.ref 7), some (.int i1), some (.int (i2 + (nI 0))), some (.int (i3 + (nI 1)))]) dX5_costOf_83 rfl rfl (Nat.le_of_ble_eq_true rfl) rfl rfl ?_
      refine r_goto (μ := mX5_costOf) (pc := 86) (tgt := 27) dX5_costOf_86 (by decide) ?_
      exact h
    · have h := h.2 q53
      refine r_aload_n (μ := mX5_costOf) (pc := 56) dX5_costOf_56 rfl rfl ?_
      refine r_iload_n (μ := mX5_costOf) (pc := 57) dX5_costOf_57 rfl rfl ?_
      refine r_aload_n (μ := mX5_costOf) (pc := 58) dX5_costOf_58 rfl rfl ?_
      refine g_R (μ := mX5_costOf) (pc := 59) (k' := 93) fX5_25 dX5_costOf_59 rfl rfl ?_
      refine r_iconst (μ := mX5_costOf) (pc := 62) (v := nI 1) dX5_costOf_62 rfl ?_
      refine r_iald (μ := mX5_costOf) (pc := 63) dX5_costOf_63 rfl (ix_nI (n := 1) (Nat.le_of_ble_eq_true rfl) (Nat.le_of_ble_eq_true rfl)) ?_
      refine r_aload_n (μ := mX5_costOf) (pc := 64) dX5_costOf_64 rfl rfl ?_
      refine g_R (μ := mX5_costOf) (pc := 65) (k' := 93) fX5_25 dX5_costOf_65 rfl rfl ?_
      refine r_iconst (μ := mX5_costOf) (pc := 68) (v := nI 2) dX5_costOf_68 rfl ?_
      refine r_iald (μ := mX5_costOf) (pc := 69) dX5_costOf_69 rfl (ix_nI (n := 2) (Nat.le_of_ble_eq_true rfl) (Nat.le_of_ble_eq_true rfl)) ?_
      refine r_callV (μ := mX5_costOf) (pc := 70) (as := [.int i3, .int (S.1 93 1), .int (S.1 93 2)]) 5 cX5_137 dX5_costOf_70 rfl rfl (Nat.le_of_ble_eq_true rfl) rfl okX5_belongs (Nat.lt_succ_self d) (cat8 (n := 1) rfl (by decide)) rfl h (k_I (fun r70 T70 h => ?_))
      have J73 : ∀ x73 : Int32, x73 = (if r70 = (nI 0) then (nI 1) else (nI 0)) → Ev G l mX5_costOf (d + 1) 81 [some (.ref 7), some (.int i1), some (.int i2), some (.int i3)] [.int x73, .int i2] T70 (QI P) := by
        intro x73 e73
        have h := h x73 e73
        refine r_iadd (μ := mX5_costOf) (pc := 81) dX5_costOf_81 ?_
        refine r_istore_n (μ := mX5_costOf) (pc := 82) (ls' := [some (.ref 7), some (.int i1), some (.int (i2 + x73)), some (.int i3)]) dX5_costOf_82 rfl (Nat.le_of_ble_eq_true rfl) rfl rfl ?_
        refine r_iinc (μ := mX5_costOf) (pc := 83) (y := nI 1) (ls' := [some (.ref 7), some (.int i1), some (.int (i2 + x73)), some (.int (i3 + (nI 1)))]) dX5_costOf_83 rfl rfl (Nat.le_of_ble_eq_true rfl) rfl rfl ?_
        refine r_goto (μ := mX5_costOf) (pc := 86) (tgt := 27) dX5_costOf_86 (by decide) ?_
        exact h
      refine r_if_ne (μ := mX5_costOf) (pc := 73) (tgt := 80) dX5_costOf_73 (by decide) ⟨fun q73 => ?_, fun q73 => ?_⟩
      · refine r_iconst (μ := mX5_costOf) (pc := 80) (v := nI 0) dX5_costOf_80 rfl ?_
        exact J73 _ (by first | (rw [if_neg q73]; done) | simp only [if_neg q73])
      · refine r_iconst (μ := mX5_costOf) (pc := 76) (v := nI 1) dX5_costOf_76 rfl ?_
        refine r_goto (μ := mX5_costOf) (pc := 77) (tgt := 81) dX5_costOf_77 (by decide) ?_
        exact J73 _ (by first | (rw [if_pos q73]; done) | simp only [if_pos q73])

set_option maxRecDepth 20000 in
theorem bX5_wayTo_0 {G : Gl} {l : Launch} {d : Nat} {S : Sg} {P : Int32 → Sg → Prop} (i1 : Int32) (i2 : Int32)
    (h : Ev G l mX5_wayTo (d + 1) 5 [some (.ref 7), some (.int i1), some (.int i2), some (.int (nI 0)), some (.int (nI 0)), none] [] S (QI P)) :
    Ct G l mX5_wayTo (d + 1) [.ref 7, .int i1, .int i2] S (QI P) := by
  show Ev G l mX5_wayTo (d + 1) 0 [some (.ref 7), some (.int i1), some (.int i2), none, none, none] [] S (QI P)
  refine r_iconst (μ := mX5_wayTo) (pc := 0) (v := nI 0) dX5_wayTo_0 rfl ?_
  refine r_istore_n (μ := mX5_wayTo) (pc := 1) (ls' := [some (.ref 7), some (.int i1), some (.int i2), some (.int (nI 0)), none, none]) dX5_wayTo_1 rfl (Nat.le_of_ble_eq_true rfl) rfl rfl ?_
  refine r_iconst (μ := mX5_wayTo) (pc := 2) (v := nI 0) dX5_wayTo_2 rfl ?_
  refine r_istore (μ := mX5_wayTo) (pc := 3) (ls' := [some (.ref 7), some (.int i1), some (.int i2), some (.int (nI 0)), some (.int (nI 0)), none]) dX5_wayTo_3 (Nat.le_of_ble_eq_true rfl) rfl rfl ?_
  exact h

set_option maxRecDepth 20000 in
theorem bX5_wayTo_5 {G : Gl} {l : Launch} {d : Nat} {S : Sg} {P : Int32 → Sg → Prop} (i1 : Int32) (i2 : Int32) (i3 : Int32) (i4 : Int32)
    (h : ((S.1 93 0) ≤ i4 → P i3 S) ∧ (¬ ((S.1 93 0) ≤ i4) → ∀ x18 : Int32, x18 = (if i2 ≤ i1 then (if i1 ≤ i4 then (nI 0) else (if i4 < i2 then (nI 0) else (nI 1))) else (if i4 ≤ i1 then (nI 0) else (if i2 < i4 then (nI 0) else (nI 1)))) → ((x18 = (nI 0) → Ev G l mX5_wayTo (d + 1) 5 [some (.ref 7), some (.int i1), some (.int i2), some (.int (i3 + (nI 0))), some (.int (i4 + (nI 1))), none] [] S (QI P)) ∧ (¬ (x18 = (nI 0)) → Ct G l mX5_costOf d [.ref 7, .int i4] S (QI (fun r69 T69 => Ev G l mX5_wayTo (d + 1) 5 [some (.ref 7), some (.int i1), some (.int i2), some (.int (i3 + r69)), some (.int (i4 + (nI 1))), none] [] T69 (QI P))))))) :
    Ev G l mX5_wayTo (d + 1) 5 [some (.ref 7), some (.int i1), some (.int i2), some (.int i3), some (.int i4), none] [] S (QI P) := by
  show Ev G l mX5_wayTo (d + 1) 5 [some (.ref 7), some (.int i1), some (.int i2), some (.int i3), some (.int i4), none] [] S (QI P)
  refine r_iload (μ := mX5_wayTo) (pc := 5) dX5_wayTo_5 rfl ?_
  refine r_aload_n (μ := mX5_wayTo) (pc := 7) dX5_wayTo_7 rfl rfl ?_
  refine g_R (μ := mX5_wayTo) (pc := 8) (k' := 93) fX5_25 dX5_wayTo_8 rfl rfl ?_
  refine r_iconst (μ := mX5_wayTo) (pc := 11) (v := nI 0) dX5_wayTo_11 rfl ?_
  refine r_iald (μ := mX5_wayTo) (pc := 12) dX5_wayTo_12 rfl (ix_nI (n := 0) (Nat.le_of_ble_eq_true rfl) (Nat.le_of_ble_eq_true rfl)) ?_
  refine r_icmp_ge (μ := mX5_wayTo) (pc := 13) (tgt := 84) dX5_wayTo_13 (by decide) ⟨fun q13 => ?_, fun q13 => ?_⟩
  · have h := h.1 q13
    refine r_iload_n (μ := mX5_wayTo) (pc := 84) dX5_wayTo_84 rfl rfl ?_
    exact r_iret (μ := mX5_wayTo) (pc := 85) dX5_wayTo_85 rfl h
  · have h := h.2 q13
    refine r_iload_n (μ := mX5_wayTo) (pc := 16) dX5_wayTo_16 rfl rfl ?_
    refine r_iload_n (μ := mX5_wayTo) (pc := 17) dX5_wayTo_17 rfl rfl ?_
    have J18 : ∀ x18 : Int32, x18 = (if i2 ≤ i1 then (if i1 ≤ i4 then (nI 0) else (if i4 < i2 then (nI 0) else (nI 1))) else (if i4 ≤ i1 then (nI 0) else (if i2 < i4 then (nI 0) else (nI 1)))) → Ev G l mX5_wayTo (d + 1) 58 [some (.ref 7), some (.int i1), some (.int i2), some (.int i3), some (.int i4), none] [.int x18] S (QI P) := by
      intro x18 e18
      have h := h x18 e18
      refine r_istore (μ := mX5_wayTo) (pc := 58) (ls' := [some (.ref 7), some (.int i1), some (.int i2), some (.int i3), some (.int i4), some (.int x18)]) dX5_wayTo_58 (Nat.le_of_ble_eq_true rfl) rfl rfl ?_
      refine r_iload_n (μ := mX5_wayTo) (pc := 60) dX5_wayTo_60 rfl rfl ?_
      refine r_iload (μ := mX5_wayTo) (pc := 61) dX5_wayTo_61 rfl ?_
      refine r_if_eq (μ := mX5_wayTo) (pc := 63) (tgt := 75) dX5_wayTo_63 (by decide) ⟨fun q63 => ?_, fun q63 => ?_⟩
      · have h := h.1 q63
        refine r_iconst (μ := mX5_wayTo) (pc := 75) (v := nI 0) dX5_wayTo_75 rfl ?_
        refine r_iadd (μ := mX5_wayTo) (pc := 76) dX5_wayTo_76 ?_
        refine r_istore_n (μ := mX5_wayTo) (pc := 77) (ls' := [some (.ref 7), some (.int i1), some (.int i2), some (.int (i3 + (nI 0))), some (.int i4), some (.int x18)]) dX5_wayTo_77 rfl (Nat.le_of_ble_eq_true rfl) rfl rfl ?_
        refine r_iinc (μ := mX5_wayTo) (pc := 78) (y := nI 1) (ls' := [some (.ref 7), some (.int i1), some (.int i2), some (.int (i3 + (nI 0))), some (.int (i4 + (nI 1))), some (.int x18)]) dX5_wayTo_78 rfl rfl (Nat.le_of_ble_eq_true rfl) rfl rfl ?_
        refine r_goto (μ := mX5_wayTo) (pc := 81) (tgt := 5) dX5_wayTo_81 (by decide) ?_
        exact Ev.sub (ls' := [some (.ref 7), some (.int i1), some (.int i2), some (.int (i3 + (nI 0))), some (.int (i4 + (nI 1))), none]) (ls_s (ls_s (ls_s (ls_s (ls_s (ls_n ls_0)))))) h
      · have h := h.2 q63
        refine r_aload_n (μ := mX5_wayTo) (pc := 66) dX5_wayTo_66 rfl rfl ?_
        refine r_iload (μ := mX5_wayTo) (pc := 67) dX5_wayTo_67 rfl ?_
        refine r_callV (μ := mX5_wayTo) (pc := 69) (as := [.int i4]) 5 cX5_213 dX5_wayTo_69 rfl rfl (Nat.le_of_ble_eq_true rfl) rfl okX5_costOf (Nat.lt_succ_self d) (cat8 (n := 1) rfl (by decide)) rfl h (k_I (fun r69 T69 h => ?_))
        refine r_goto (μ := mX5_wayTo) (pc := 72) (tgt := 76) dX5_wayTo_72 (by decide) ?_
        refine r_iadd (μ := mX5_wayTo) (pc := 76) dX5_wayTo_76 ?_
        refine r_istore_n (μ := mX5_wayTo) (pc := 77) (ls' := [some (.ref 7), some (.int i1), some (.int i2), some (.int (i3 + r69)), some (.int i4), some (.int x18)]) dX5_wayTo_77 rfl (Nat.le_of_ble_eq_true rfl) rfl rfl ?_
        refine r_iinc (μ := mX5_wayTo) (pc := 78) (y := nI 1) (ls' := [some (.ref 7), some (.int i1), some (.int i2), some (.int (i3 + r69)), some (.int (i4 + (nI 1))), some (.int x18)]) dX5_wayTo_78 rfl rfl (Nat.le_of_ble_eq_true rfl) rfl rfl ?_
        refine r_goto (μ := mX5_wayTo) (pc := 81) (tgt := 5) dX5_wayTo_81 (by decide) ?_
        exact Ev.sub (ls' := [some (.ref 7), some (.int i1), some (.int i2), some (.int (i3 + r69)), some (.int (i4 + (nI 1))), none]) (ls_s (ls_s (ls_s (ls_s (ls_s (ls_n ls_0)))))) h
    refine r_icmp_ge (μ := mX5_wayTo) (pc := 18) (tgt := 41) dX5_wayTo_18 (by decide) ⟨fun q18 => ?_, fun q18 => ?_⟩
    · refine r_iload (μ := mX5_wayTo) (pc := 41) dX5_wayTo_41 rfl ?_
      refine r_iload_n (μ := mX5_wayTo) (pc := 43) dX5_wayTo_43 rfl rfl ?_
      refine r_icmp_ge (μ := mX5_wayTo) (pc := 44) (tgt := 57) dX5_wayTo_44 (by decide) ⟨fun q44 => ?_, fun q44 => ?_⟩
      · refine r_iconst (μ := mX5_wayTo) (pc := 57) (v := nI 0) dX5_wayTo_57 rfl ?_
        exact J18 _ (by first | (rw [if_pos q18, if_pos q44]; done) | simp only [if_pos q18, if_pos q44])
      · refine r_iload (μ := mX5_wayTo) (pc := 47) dX5_wayTo_47 rfl ?_
        refine r_iload_n (μ := mX5_wayTo) (pc := 49) dX5_wayTo_49 rfl rfl ?_
        refine r_icmp_lt (μ := mX5_wayTo) (pc := 50) (tgt := 57) dX5_wayTo_50 (by decide) ⟨fun q50 => ?_, fun q50 => ?_⟩
        · refine r_iconst (μ := mX5_wayTo) (pc := 57) (v := nI 0) dX5_wayTo_57 rfl ?_
          exact J18 _ (by first | (rw [if_pos q18, if_neg q44, if_pos q50]; done) | simp only [if_pos q18, if_neg q44, if_pos q50])
        · refine r_iconst (μ := mX5_wayTo) (pc := 53) (v := nI 1) dX5_wayTo_53 rfl ?_
          refine r_goto (μ := mX5_wayTo) (pc := 54) (tgt := 58) dX5_wayTo_54 (by decide) ?_
          exact J18 _ (by first | (rw [if_pos q18, if_neg q44, if_neg q50]; done) | simp only [if_pos q18, if_neg q44, if_neg q50])
    · refine r_iload (μ := mX5_wayTo) (pc := 21) dX5_wayTo_21 rfl ?_
      refine r_iload_n (μ := mX5_wayTo) (pc := 23) dX5_wayTo_23 rfl rfl ?_
      refine r_icmp_le (μ := mX5_wayTo) (pc := 24) (tgt := 37) dX5_wayTo_24 (by decide) ⟨fun q24 => ?_, fun q24 => ?_⟩
      · refine r_iconst (μ := mX5_wayTo) (pc := 37) (v := nI 0) dX5_wayTo_37 rfl ?_
        refine r_goto (μ := mX5_wayTo) (pc := 38) (tgt := 58) dX5_wayTo_38 (by decide) ?_
        exact J18 _ (by first | (rw [if_neg q18, if_pos q24]; done) | simp only [if_neg q18, if_pos q24])
      · refine r_iload (μ := mX5_wayTo) (pc := 27) dX5_wayTo_27 rfl ?_
        refine r_iload_n (μ := mX5_wayTo) (pc := 29) dX5_wayTo_29 rfl rfl ?_
        refine r_icmp_gt (μ := mX5_wayTo) (pc := 30) (tgt := 37) dX5_wayTo_30 (by decide) ⟨fun q30 => ?_, fun q30 => ?_⟩
        · refine r_iconst (μ := mX5_wayTo) (pc := 37) (v := nI 0) dX5_wayTo_37 rfl ?_
          refine r_goto (μ := mX5_wayTo) (pc := 38) (tgt := 58) dX5_wayTo_38 (by decide) ?_
          exact J18 _ (by first | (rw [if_neg q18, if_neg q24, if_pos q30]; done) | simp only [if_neg q18, if_neg q24, if_pos q30])
        · refine r_iconst (μ := mX5_wayTo) (pc := 33) (v := nI 1) dX5_wayTo_33 rfl ?_
          refine r_goto (μ := mX5_wayTo) (pc := 34) (tgt := 58) dX5_wayTo_34 (by decide) ?_
          exact J18 _ (by first | (rw [if_neg q18, if_neg q24, if_neg q30]; done) | simp only [if_neg q18, if_neg q24, if_neg q30])

set_option maxRecDepth 20000 in
theorem bX5_way_0 {G : Gl} {l : Launch} {d : Nat} {S : Sg} {P : Int32 → Sg → Prop} (i1 : Int32) (i2 : Int32)
    (h : Ct G l mX5_isCell d [.ref 7, .int i1] S (QI (fun r2 T2 => (r2 = (nI 0) → P (-1) T2) ∧ (¬ (r2 = (nI 0)) → Ct G l mX5_isCell d [.ref 7, .int i2] T2 (QI (fun r10 T10 => (r10 = (nI 0) → P (-1) T10) ∧ (¬ (r10 = (nI 0)) → Ct G l mX5_wayTo d [.ref 7, .int i1, .int i2] T10 (QI (fun r19 T19 => P r19 T19))))))))) :
    Ct G l mX5_way (d + 1) [.ref 7, .int i1, .int i2] S (QI P) := by
  show Ev G l mX5_way (d + 1) 0 [some (.ref 7), some (.int i1), some (.int i2)] [] S (QI P)
  refine r_aload_n (μ := mX5_way) (pc := 0) dX5_way_0 rfl rfl ?_
  refine r_iload_n (μ := mX5_way) (pc := 1) dX5_way_1 rfl rfl ?_
  refine r_callV (μ := mX5_way) (pc := 2) (as := [.int i1]) 5 cX5_195 dX5_way_2 rfl rfl (Nat.le_of_ble_eq_true rfl) rfl okX5_isCell (Nat.lt_succ_self d) (cat8 (n := 0) rfl (by decide)) rfl h (k_I (fun r2 T2 h => ?_))
  refine r_if_eq (μ := mX5_way) (pc := 5) (tgt := 25) dX5_way_5 (by decide) ⟨fun q5 => ?_, fun q5 => ?_⟩
  · have h := h.1 q5
    refine r_iconst (μ := mX5_way) (pc := 25) (v := (-1)) dX5_way_25 rfl ?_
    exact r_iret (μ := mX5_way) (pc := 26) dX5_way_26 rfl h
  · have h := h.2 q5
    refine r_aload_n (μ := mX5_way) (pc := 8) dX5_way_8 rfl rfl ?_
    refine r_iload_n (μ := mX5_way) (pc := 9) dX5_way_9 rfl rfl ?_
    refine r_callV (μ := mX5_way) (pc := 10) (as := [.int i2]) 5 cX5_195 dX5_way_10 rfl rfl (Nat.le_of_ble_eq_true rfl) rfl okX5_isCell (Nat.lt_succ_self d) (cat8 (n := 0) rfl (by decide)) rfl h (k_I (fun r10 T10 h => ?_))
    refine r_if_eq (μ := mX5_way) (pc := 13) (tgt := 25) dX5_way_13 (by decide) ⟨fun q13 => ?_, fun q13 => ?_⟩
    · have h := h.1 q13
      refine r_iconst (μ := mX5_way) (pc := 25) (v := (-1)) dX5_way_25 rfl ?_
      exact r_iret (μ := mX5_way) (pc := 26) dX5_way_26 rfl h
    · have h := h.2 q13
      refine r_aload_n (μ := mX5_way) (pc := 16) dX5_way_16 rfl rfl ?_
      refine r_iload_n (μ := mX5_way) (pc := 17) dX5_way_17 rfl rfl ?_
      refine r_iload_n (μ := mX5_way) (pc := 18) dX5_way_18 rfl rfl ?_
      refine r_callV (μ := mX5_way) (pc := 19) (as := [.int i1, .int i2]) 5 cX5_216 dX5_way_19 rfl rfl (Nat.le_of_ble_eq_true rfl) rfl okX5_wayTo (Nat.lt_succ_self d) (cat8 (n := 0) rfl (by decide)) rfl h (k_I (fun r19 T19 h => ?_))
      refine r_goto (μ := mX5_way) (pc := 22) (tgt := 26) dX5_way_22 (by decide) ?_
      exact r_iret (μ := mX5_way) (pc := 26) dX5_way_26 rfl h

set_option maxRecDepth 20000 in
theorem bX5_farFrom_0 {G : Gl} {l : Launch} {d : Nat} {S : Sg} {P : Int32 → Sg → Prop} (i1 : Int32)
    (h : Ev G l mX5_farFrom (d + 1) 4 [some (.ref 7), some (.int i1), some (.int (nI 0)), some (.int (nI 0))] [] S (QI P)) :
    Ct G l mX5_farFrom (d + 1) [.ref 7, .int i1] S (QI P) := by
  show Ev G l mX5_farFrom (d + 1) 0 [some (.ref 7), some (.int i1), none, none] [] S (QI P)
  refine r_iconst (μ := mX5_farFrom) (pc := 0) (v := nI 0) dX5_farFrom_0 rfl ?_
  refine r_istore_n (μ := mX5_farFrom) (pc := 1) (ls' := [some (.ref 7), some (.int i1), some (.int (nI 0)), none]) dX5_farFrom_1 rfl (Nat.le_of_ble_eq_true rfl) rfl rfl ?_
  refine r_iconst (μ := mX5_farFrom) (pc := 2) (v := nI 0) dX5_farFrom_2 rfl ?_
  refine r_istore_n (μ := mX5_farFrom) (pc := 3) (ls' := [some (.ref 7), some (.int i1), some (.int (nI 0)), some (.int (nI 0))]) dX5_farFrom_3 rfl (Nat.le_of_ble_eq_true rfl) rfl rfl ?_
  exact h

set_option maxRecDepth 20000 in
theorem bX5_farFrom_4 {G : Gl} {l : Launch} {d : Nat} {S : Sg} {P : Int32 → Sg → Prop} (i1 : Int32) (i2 : Int32) (i3 : Int32)
    (h : ((S.1 93 0) ≤ i3 → P i2 S) ∧ (¬ ((S.1 93 0) ≤ i3) → Ct G l mX5_wayTo d [.ref 7, .int i1, .int i3] S (QI (fun r18 T18 => Ev G l mX5_farFrom (d + 1) 4 [some (.ref 7), some (.int i1), some (.int (i2 + r18)), some (.int (i3 + (nI 1)))] [] T18 (QI P))))) :
    Ev G l mX5_farFrom (d + 1) 4 [some (.ref 7), some (.int i1), some (.int i2), some (.int i3)] [] S (QI P) := by
  show Ev G l mX5_farFrom (d + 1) 4 [some (.ref 7), some (.int i1), some (.int i2), some (.int i3)] [] S (QI P)
  refine r_iload_n (μ := mX5_farFrom) (pc := 4) dX5_farFrom_4 rfl rfl ?_
  refine r_aload_n (μ := mX5_farFrom) (pc := 5) dX5_farFrom_5 rfl rfl ?_
  refine g_R (μ := mX5_farFrom) (pc := 6) (k' := 93) fX5_25 dX5_farFrom_6 rfl rfl ?_
  refine r_iconst (μ := mX5_farFrom) (pc := 9) (v := nI 0) dX5_farFrom_9 rfl ?_
  refine r_iald (μ := mX5_farFrom) (pc := 10) dX5_farFrom_10 rfl (ix_nI (n := 0) (Nat.le_of_ble_eq_true rfl) (Nat.le_of_ble_eq_true rfl)) ?_
  refine r_icmp_ge (μ := mX5_farFrom) (pc := 11) (tgt := 29) dX5_farFrom_11 (by decide) ⟨fun q11 => ?_, fun q11 => ?_⟩
  · have h := h.1 q11
    refine r_iload_n (μ := mX5_farFrom) (pc := 29) dX5_farFrom_29 rfl rfl ?_
    exact r_iret (μ := mX5_farFrom) (pc := 30) dX5_farFrom_30 rfl h
  · have h := h.2 q11
    refine r_iload_n (μ := mX5_farFrom) (pc := 14) dX5_farFrom_14 rfl rfl ?_
    refine r_aload_n (μ := mX5_farFrom) (pc := 15) dX5_farFrom_15 rfl rfl ?_
    refine r_iload_n (μ := mX5_farFrom) (pc := 16) dX5_farFrom_16 rfl rfl ?_
    refine r_iload_n (μ := mX5_farFrom) (pc := 17) dX5_farFrom_17 rfl rfl ?_
    refine r_callV (μ := mX5_farFrom) (pc := 18) (as := [.int i1, .int i3]) 5 cX5_216 dX5_farFrom_18 rfl rfl (Nat.le_of_ble_eq_true rfl) rfl okX5_wayTo (Nat.lt_succ_self d) (cat8 (n := 1) rfl (by decide)) rfl h (k_I (fun r18 T18 h => ?_))
    refine r_iadd (μ := mX5_farFrom) (pc := 21) dX5_farFrom_21 ?_
    refine r_istore_n (μ := mX5_farFrom) (pc := 22) (ls' := [some (.ref 7), some (.int i1), some (.int (i2 + r18)), some (.int i3)]) dX5_farFrom_22 rfl (Nat.le_of_ble_eq_true rfl) rfl rfl ?_
    refine r_iinc (μ := mX5_farFrom) (pc := 23) (y := nI 1) (ls' := [some (.ref 7), some (.int i1), some (.int (i2 + r18)), some (.int (i3 + (nI 1)))]) dX5_farFrom_23 rfl rfl (Nat.le_of_ble_eq_true rfl) rfl rfl ?_
    refine r_goto (μ := mX5_farFrom) (pc := 26) (tgt := 4) dX5_farFrom_26 (by decide) ?_
    exact h

set_option maxRecDepth 20000 in
theorem bX5_far_0 {G : Gl} {l : Launch} {d : Nat} {S : Sg} {P : Int32 → Sg → Prop} (i1 : Int32)
    (h : Ct G l mX5_isCell d [.ref 7, .int i1] S (QI (fun r2 T2 => (¬ r2 = (nI 0) → Ev G l mX5_far (d + 1) 14 [some (.ref 7), some (.int i1), some (.int (nI 0)), some (.int (nI 1))] [] T2 (QI P)) ∧ (r2 = (nI 0) → P (-1) T2)))) :
    Ct G l mX5_far (d + 1) [.ref 7, .int i1] S (QI P) := by
  show Ev G l mX5_far (d + 1) 0 [some (.ref 7), some (.int i1), none, none] [] S (QI P)
  refine r_aload_n (μ := mX5_far) (pc := 0) dX5_far_0 rfl rfl ?_
  refine r_iload_n (μ := mX5_far) (pc := 1) dX5_far_1 rfl rfl ?_
  refine r_callV (μ := mX5_far) (pc := 2) (as := [.int i1]) 5 cX5_195 dX5_far_2 rfl rfl (Nat.le_of_ble_eq_true rfl) rfl okX5_isCell (Nat.lt_succ_self d) (cat8 (n := 0) rfl (by decide)) rfl h (k_I (fun r2 T2 h => ?_))
  refine r_if_ne (μ := mX5_far) (pc := 5) (tgt := 10) dX5_far_5 (by decide) ⟨fun q5 => ?_, fun q5 => ?_⟩
  · have h := h.1 q5
    refine r_iconst (μ := mX5_far) (pc := 10) (v := nI 0) dX5_far_10 rfl ?_
    refine r_istore_n (μ := mX5_far) (pc := 11) (ls' := [some (.ref 7), some (.int i1), some (.int (nI 0)), none]) dX5_far_11 rfl (Nat.le_of_ble_eq_true rfl) rfl rfl ?_
    refine r_iconst (μ := mX5_far) (pc := 12) (v := nI 1) dX5_far_12 rfl ?_
    refine r_istore_n (μ := mX5_far) (pc := 13) (ls' := [some (.ref 7), some (.int i1), some (.int (nI 0)), some (.int (nI 1))]) dX5_far_13 rfl (Nat.le_of_ble_eq_true rfl) rfl rfl ?_
    exact h
  · have h := h.2 q5
    refine r_iconst (μ := mX5_far) (pc := 8) (v := (-1)) dX5_far_8 rfl ?_
    exact r_iret (μ := mX5_far) (pc := 9) dX5_far_9 rfl h

set_option maxRecDepth 20000 in
theorem bX5_far_14 {G : Gl} {l : Launch} {d : Nat} {S : Sg} {P : Int32 → Sg → Prop} (i1 : Int32) (i2 : Int32) (i3 : Int32)
    (h : ((S.1 93 0) ≤ i3 → Ct G l mX5_farFrom d [.ref 7, .int i1] S (QI (fun r52 T52 => Ct G l mX5_tells d [.ref 7, .int r52, .int i2] T52 (QI (fun r56 T56 => P r56 T56))))) ∧ (¬ ((S.1 93 0) ≤ i3) → Ct G l mX5_farFrom d [.ref 7, .int i3] S (QI (fun r26 T26 => Ct G l mX5_farFrom d [.ref 7, .int i2] T26 (QI (fun r31 T31 => ∀ x34 : Int32, x34 = (if r31 ≤ r26 then i2 else i3) → (Ev G l mX5_far (d + 1) 14 [some (.ref 7), some (.int i1), some (.int x34), some (.int (i3 + (nI 1)))] [] T31 (QI P)))))))) :
    Ev G l mX5_far (d + 1) 14 [some (.ref 7), some (.int i1), some (.int i2), some (.int i3)] [] S (QI P) := by
  show Ev G l mX5_far (d + 1) 14 [some (.ref 7), some (.int i1), some (.int i2), some (.int i3)] [] S (QI P)
  refine r_iload_n (μ := mX5_far) (pc := 14) dX5_far_14 rfl rfl ?_
  refine r_aload_n (μ := mX5_far) (pc := 15) dX5_far_15 rfl rfl ?_
  refine g_R (μ := mX5_far) (pc := 16) (k' := 93) fX5_25 dX5_far_16 rfl rfl ?_
  refine r_iconst (μ := mX5_far) (pc := 19) (v := nI 0) dX5_far_19 rfl ?_
  refine r_iald (μ := mX5_far) (pc := 20) dX5_far_20 rfl (ix_nI (n := 0) (Nat.le_of_ble_eq_true rfl) (Nat.le_of_ble_eq_true rfl)) ?_
  refine r_icmp_ge (μ := mX5_far) (pc := 21) (tgt := 49) dX5_far_21 (by decide) ⟨fun q21 => ?_, fun q21 => ?_⟩
  · have h := h.1 q21
    refine r_aload_n (μ := mX5_far) (pc := 49) dX5_far_49 rfl rfl ?_
    refine r_aload_n (μ := mX5_far) (pc := 50) dX5_far_50 rfl rfl ?_
    refine r_iload_n (μ := mX5_far) (pc := 51) dX5_far_51 rfl rfl ?_
    refine r_callV (μ := mX5_far) (pc := 52) (as := [.int i1]) 5 cX5_219 dX5_far_52 rfl rfl (Nat.le_of_ble_eq_true rfl) rfl okX5_farFrom (Nat.lt_succ_self d) (cat8 (n := 1) rfl (by decide)) rfl h (k_I (fun r52 T52 h => ?_))
    refine r_iload_n (μ := mX5_far) (pc := 55) dX5_far_55 rfl rfl ?_
    refine r_callV (μ := mX5_far) (pc := 56) (as := [.int r52, .int i2]) 5 cX5_93 dX5_far_56 rfl rfl (Nat.le_of_ble_eq_true rfl) rfl okX5_tells (Nat.lt_succ_self d) (cat8 (n := 0) rfl (by decide)) rfl h (k_I (fun r56 T56 h => ?_))
    exact r_iret (μ := mX5_far) (pc := 59) dX5_far_59 rfl h
  · have h := h.2 q21
    refine r_aload_n (μ := mX5_far) (pc := 24) dX5_far_24 rfl rfl ?_
    refine r_iload_n (μ := mX5_far) (pc := 25) dX5_far_25 rfl rfl ?_
    refine r_callV (μ := mX5_far) (pc := 26) (as := [.int i3]) 5 cX5_219 dX5_far_26 rfl rfl (Nat.le_of_ble_eq_true rfl) rfl okX5_farFrom (Nat.lt_succ_self d) (cat8 (n := 0) rfl (by decide)) rfl h (k_I (fun r26 T26 h => ?_))
    refine r_aload_n (μ := mX5_far) (pc := 29) dX5_far_29 rfl rfl ?_
    refine r_iload_n (μ := mX5_far) (pc := 30) dX5_far_30 rfl rfl ?_
    refine r_callV (μ := mX5_far) (pc := 31) (as := [.int i2]) 5 cX5_219 dX5_far_31 rfl rfl (Nat.le_of_ble_eq_true rfl) rfl okX5_farFrom (Nat.lt_succ_self d) (cat8 (n := 1) rfl (by decide)) rfl h (k_I (fun r31 T31 h => ?_))
    have J34 : ∀ x34 : Int32, x34 = (if r31 ≤ r26 then i2 else i3) → Ev G l mX5_far (d + 1) 42 [some (.ref 7), some (.int i1), some (.int i2), some (.int i3)] [.int x34] T31 (QI P) := by
      intro x34 e34
      have h := h x34 e34
      refine r_istore_n (μ := mX5_far) (pc := 42) (ls' := [some (.ref 7), some (.int i1), some (.int x34), some (.int i3)]) dX5_far_42 rfl (Nat.le_of_ble_eq_true rfl) rfl rfl ?_
      refine r_iinc (μ := mX5_far) (pc := 43) (y := nI 1) (ls' := [some (.ref 7), some (.int i1), some (.int x34), some (.int (i3 + (nI 1)))]) dX5_far_43 rfl rfl (Nat.le_of_ble_eq_true rfl) rfl rfl ?_
      refine r_goto (μ := mX5_far) (pc := 46) (tgt := 14) dX5_far_46 (by decide) ?_
      exact h
    refine r_icmp_ge (μ := mX5_far) (pc := 34) (tgt := 41) dX5_far_34 (by decide) ⟨fun q34 => ?_, fun q34 => ?_⟩
    · refine r_iload_n (μ := mX5_far) (pc := 41) dX5_far_41 rfl rfl ?_
      exact J34 _ (by first | (rw [if_pos q34]; done) | simp only [if_pos q34])
    · refine r_iload_n (μ := mX5_far) (pc := 37) dX5_far_37 rfl rfl ?_
      refine r_goto (μ := mX5_far) (pc := 38) (tgt := 42) dX5_far_38 (by decide) ?_
      exact J34 _ (by first | (rw [if_neg q34]; done) | simp only [if_neg q34])

set_option maxRecDepth 20000 in
theorem bX5_barred_0 {G : Gl} {l : Launch} {d : Nat} {S : Sg} {P : Int32 → Sg → Prop} (i1 : Int32) (i2 : Int32)
    (h : Ct G l mX5_isOne d [.ref 7, .int i1] S (QI (fun r2 T2 => (r2 = (nI 0) → P (-1) T2) ∧ (¬ (r2 = (nI 0)) → Ct G l mX5_isRow d [.int i2] T2 (QI (fun r9 T9 => (¬ r9 = (nI 0) → ∃ n22 : Nat, ix i2 n22 6 ∧ (((nI 0) ≤ (T9.1 88 n22) → (((T9.1 88 n22) - (T9.1 88 n22) / (nI 3) * (nI 3)) = (nI 0) → Ev G l mX5_barred (d + 1) 54 [some (.ref 7), some (.int i1), some (.int i2), some (.int (nI 1)), some (.int (nI 0)), none] [] T9 (QI P)) ∧ (¬ (((T9.1 88 n22) - (T9.1 88 n22) / (nI 3) * (nI 3)) = (nI 0)) → Ct G l mX5_finds d [.ref 7, .int (nI 5)] T9 (QI (fun r45 T45 => P r45 T45)))) ∧ (¬ ((nI 0) ≤ (T9.1 88 n22)) → Ct G l mX5_finds d [.ref 7, .int (nI 1)] T9 (QI (fun r28 T28 => P r28 T28))))) ∧ (r9 = (nI 0) → P (-1) T9))))))) :
    Ct G l mX5_barred (d + 1) [.ref 7, .int i1, .int i2] S (QI P) := by
  show Ev G l mX5_barred (d + 1) 0 [some (.ref 7), some (.int i1), some (.int i2), none, none, none] [] S (QI P)
  refine r_aload_n (μ := mX5_barred) (pc := 0) dX5_barred_0 rfl rfl ?_
  refine r_iload_n (μ := mX5_barred) (pc := 1) dX5_barred_1 rfl rfl ?_
  refine r_callV (μ := mX5_barred) (pc := 2) (as := [.int i1]) 5 cX5_150 dX5_barred_2 rfl rfl (Nat.le_of_ble_eq_true rfl) rfl okX5_isOne (Nat.lt_succ_self d) (cat8 (n := 0) rfl (by decide)) rfl h (k_I (fun r2 T2 h => ?_))
  refine r_if_eq (μ := mX5_barred) (pc := 5) (tgt := 15) dX5_barred_5 (by decide) ⟨fun q5 => ?_, fun q5 => ?_⟩
  · have h := h.1 q5
    refine r_iconst (μ := mX5_barred) (pc := 15) (v := (-1)) dX5_barred_15 rfl ?_
    exact r_iret (μ := mX5_barred) (pc := 16) dX5_barred_16 rfl h
  · have h := h.2 q5
    refine r_iload_n (μ := mX5_barred) (pc := 8) dX5_barred_8 rfl rfl ?_
    refine r_callS (μ := mX5_barred) (pc := 9) (as := [.int i2]) cX5_77 dX5_barred_9 rfl okX5_isRow (Nat.lt_succ_self d) (cat8 (n := 0) rfl (by decide)) rfl h (k_I (fun r9 T9 h => ?_))
    refine r_if_ne (μ := mX5_barred) (pc := 12) (tgt := 17) dX5_barred_12 (by decide) ⟨fun q12 => ?_, fun q12 => ?_⟩
    · have h := h.1 q12
      refine r_aload_n (μ := mX5_barred) (pc := 17) dX5_barred_17 rfl rfl ?_
      refine g_R (μ := mX5_barred) (pc := 18) (k' := 88) fX5_7 dX5_barred_18 rfl rfl ?_
      refine r_iload_n (μ := mX5_barred) (pc := 21) dX5_barred_21 rfl rfl ?_
      obtain ⟨n22, hx22, h⟩ := h
      refine r_iald (μ := mX5_barred) (pc := 22) dX5_barred_22 rfl hx22 ?_
      refine r_if_ge (μ := mX5_barred) (pc := 23) (tgt := 32) dX5_barred_23 (by decide) ⟨fun q23 => ?_, fun q23 => ?_⟩
      · have h := h.1 q23
        refine r_aload_n (μ := mX5_barred) (pc := 32) dX5_barred_32 rfl rfl ?_
        refine g_R (μ := mX5_barred) (pc := 33) (k' := 88) fX5_7 dX5_barred_33 rfl rfl ?_
        refine r_iload_n (μ := mX5_barred) (pc := 36) dX5_barred_36 rfl rfl ?_
        refine r_iald (μ := mX5_barred) (pc := 37) dX5_barred_37 rfl hx22 ?_
        refine r_iconst (μ := mX5_barred) (pc := 38) (v := nI 3) dX5_barred_38 rfl ?_
        refine r_irem (μ := mX5_barred) (pc := 39) dX5_barred_39 (by decide) ?_
        refine r_if_eq (μ := mX5_barred) (pc := 40) (tgt := 49) dX5_barred_40 (by decide) ⟨fun q40 => ?_, fun q40 => ?_⟩
        · have h := h.1 q40
          refine r_iconst (μ := mX5_barred) (pc := 49) (v := nI 1) dX5_barred_49 rfl ?_
          refine r_istore_n (μ := mX5_barred) (pc := 50) (ls' := [some (.ref 7), some (.int i1), some (.int i2), some (.int (nI 1)), none, none]) dX5_barred_50 rfl (Nat.le_of_ble_eq_true rfl) rfl rfl ?_
          refine r_iconst (μ := mX5_barred) (pc := 51) (v := nI 0) dX5_barred_51 rfl ?_
          refine r_istore (μ := mX5_barred) (pc := 52) (ls' := [some (.ref 7), some (.int i1), some (.int i2), some (.int (nI 1)), some (.int (nI 0)), none]) dX5_barred_52 (Nat.le_of_ble_eq_true rfl) rfl rfl ?_
          exact h
        · have h := h.2 q40
          refine r_aload_n (μ := mX5_barred) (pc := 43) dX5_barred_43 rfl rfl ?_
          refine r_iconst (μ := mX5_barred) (pc := 44) (v := nI 5) dX5_barred_44 rfl ?_
          refine r_callV (μ := mX5_barred) (pc := 45) (as := [.int (nI 5)]) 5 cX5_81 dX5_barred_45 rfl rfl (Nat.le_of_ble_eq_true rfl) rfl okX5_finds (Nat.lt_succ_self d) (cat8 (n := 0) rfl (by decide)) rfl h (k_I (fun r45 T45 h => ?_))
          exact r_iret (μ := mX5_barred) (pc := 48) dX5_barred_48 rfl h
      · have h := h.2 q23
        refine r_aload_n (μ := mX5_barred) (pc := 26) dX5_barred_26 rfl rfl ?_
        refine r_iconst (μ := mX5_barred) (pc := 27) (v := nI 1) dX5_barred_27 rfl ?_
        refine r_callV (μ := mX5_barred) (pc := 28) (as := [.int (nI 1)]) 5 cX5_81 dX5_barred_28 rfl rfl (Nat.le_of_ble_eq_true rfl) rfl okX5_finds (Nat.lt_succ_self d) (cat8 (n := 0) rfl (by decide)) rfl h (k_I (fun r28 T28 h => ?_))
        exact r_iret (μ := mX5_barred) (pc := 31) dX5_barred_31 rfl h
    · have h := h.2 q12
      refine r_iconst (μ := mX5_barred) (pc := 15) (v := (-1)) dX5_barred_15 rfl ?_
      exact r_iret (μ := mX5_barred) (pc := 16) dX5_barred_16 rfl h

set_option maxRecDepth 20000 in
theorem bX5_barred_54 {G : Gl} {l : Launch} {d : Nat} {S : Sg} {P : Int32 → Sg → Prop} (i1 : Int32) (i2 : Int32) (i3 : Int32) (i4 : Int32)
    (h : ∃ n61 : Nat, ix i2 n61 6 ∧ (((S.1 88 n61) ≤ i4 → (i3 = (nI 0) → Ct G l mX5_finds d [.ref 7, .int (nI 3)] S (QI (fun r140 T140 => P r140 T140))) ∧ (¬ (i3 = (nI 0)) → P (nI 0) S)) ∧ (¬ ((S.1 88 n61) ≤ i4) → (i3 = (nI 0) → Ev G l mX5_barred (d + 1) 54 [some (.ref 7), some (.int i1), some (.int i2), some (.int (nI 0)), some (.int (i4 + (nI 3))), none] [] S (QI P)) ∧ (¬ (i3 = (nI 0)) → ∃ n85 : Nat, ix (((nI 40) * i2) + i4) n85 240 ∧ (∃ n94 : Nat, ix ((((nI 40) * i2) + i4) + (nI 1)) n94 240 ∧ (Ct G l mX5_areCoasts d [.ref 7, .int (S.1 89 n85), .int (S.1 89 n94)] S (QI (fun r95 T95 => (r95 = (nI 0) → Ev G l mX5_barred (d + 1) 54 [some (.ref 7), some (.int i1), some (.int i2), some (.int (nI 0)), some (.int (i4 + (nI 3))), none] [] T95 (QI P)) ∧ (¬ (r95 = (nI 0)) → ∃ n109 : Nat, ix ((((nI 40) * i2) + i4) + (nI 2)) n109 240 ∧ (Ct G l mX5_in d [.int (T95.1 89 n109), .int (nI 0), .int (nI 1)] T95 (QI (fun r112 T112 => ∀ x115 : Int32, x115 = (if r112 = (nI 0) then (nI 0) else (nI 1)) → (Ev G l mX5_barred (d + 1) 54 [some (.ref 7), some (.int i1), some (.int i2), some (.int x115), some (.int (i4 + (nI 3))), none] [] T112 (QI P)))))))))))))) :
    Ev G l mX5_barred (d + 1) 54 [some (.ref 7), some (.int i1), some (.int i2), some (.int i3), some (.int i4), none] [] S (QI P) := by
  show Ev G l mX5_barred (d + 1) 54 [some (.ref 7), some (.int i1), some (.int i2), some (.int i3), some (.int i4), none] [] S (QI P)
  refine r_iload (μ := mX5_barred) (pc := 54) dX5_barred_54 rfl ?_
  refine r_aload_n (μ := mX5_barred) (pc := 56) dX5_barred_56 rfl rfl ?_
  refine g_R (μ := mX5_barred) (pc := 57) (k' := 88) fX5_7 dX5_barred_57 rfl rfl ?_
  refine r_iload_n (μ := mX5_barred) (pc := 60) dX5_barred_60 rfl rfl ?_
  obtain ⟨n61, hx61, h⟩ := h
  refine r_iald (μ := mX5_barred) (pc := 61) dX5_barred_61 rfl hx61 ?_
  refine r_icmp_ge (μ := mX5_barred) (pc := 62) (tgt := 130) dX5_barred_62 (by decide) ⟨fun q62 => ?_, fun q62 => ?_⟩
  · have h := h.1 q62
    refine r_iload_n (μ := mX5_barred) (pc := 130) dX5_barred_130 rfl rfl ?_
    refine r_if_eq (μ := mX5_barred) (pc := 131) (tgt := 138) dX5_barred_131 (by decide) ⟨fun q131 => ?_, fun q131 => ?_⟩
    · have h := h.1 q131
      refine r_aload_n (μ := mX5_barred) (pc := 138) dX5_barred_138 rfl rfl ?_
      refine r_iconst (μ := mX5_barred) (pc := 139) (v := nI 3) dX5_barred_139 rfl ?_
      refine r_callV (μ := mX5_barred) (pc := 140) (as := [.int (nI 3)]) 5 cX5_81 dX5_barred_140 rfl rfl (Nat.le_of_ble_eq_true rfl) rfl okX5_finds (Nat.lt_succ_self d) (cat8 (n := 0) rfl (by decide)) rfl h (k_I (fun r140 T140 h => ?_))
      exact r_iret (μ := mX5_barred) (pc := 143) dX5_barred_143 rfl h
    · have h := h.2 q131
      refine r_iconst (μ := mX5_barred) (pc := 134) (v := nI 0) dX5_barred_134 rfl ?_
      refine r_goto (μ := mX5_barred) (pc := 135) (tgt := 143) dX5_barred_135 (by decide) ?_
      exact r_iret (μ := mX5_barred) (pc := 143) dX5_barred_143 rfl h
  · have h := h.2 q62
    refine r_bipush (μ := mX5_barred) (pc := 65) (v := nI 40) dX5_barred_65 rfl ?_
    refine r_iload_n (μ := mX5_barred) (pc := 67) dX5_barred_67 rfl rfl ?_
    refine r_imul (μ := mX5_barred) (pc := 68) dX5_barred_68 ?_
    refine r_iload (μ := mX5_barred) (pc := 69) dX5_barred_69 rfl ?_
    refine r_iadd (μ := mX5_barred) (pc := 71) dX5_barred_71 ?_
    refine r_istore (μ := mX5_barred) (pc := 72) (ls' := [some (.ref 7), some (.int i1), some (.int i2), some (.int i3), some (.int i4), some (.int (((nI 40) * i2) + i4))]) dX5_barred_72 (Nat.le_of_ble_eq_true rfl) rfl rfl ?_
    refine r_iload_n (μ := mX5_barred) (pc := 74) dX5_barred_74 rfl rfl ?_
    refine r_if_eq (μ := mX5_barred) (pc := 75) (tgt := 122) dX5_barred_75 (by decide) ⟨fun q75 => ?_, fun q75 => ?_⟩
    · have h := h.1 q75
      refine r_iconst (μ := mX5_barred) (pc := 122) (v := nI 0) dX5_barred_122 rfl ?_
      refine r_istore_n (μ := mX5_barred) (pc := 123) (ls' := [some (.ref 7), some (.int i1), some (.int i2), some (.int (nI 0)), some (.int i4), some (.int (((nI 40) * i2) + i4))]) dX5_barred_123 rfl (Nat.le_of_ble_eq_true rfl) rfl rfl ?_
      refine r_iinc (μ := mX5_barred) (pc := 124) (y := nI 3) (ls' := [some (.ref 7), some (.int i1), some (.int i2), some (.int (nI 0)), some (.int (i4 + (nI 3))), some (.int (((nI 40) * i2) + i4))]) dX5_barred_124 rfl rfl (Nat.le_of_ble_eq_true rfl) rfl rfl ?_
      refine r_goto (μ := mX5_barred) (pc := 127) (tgt := 54) dX5_barred_127 (by decide) ?_
      exact Ev.sub (ls' := [some (.ref 7), some (.int i1), some (.int i2), some (.int (nI 0)), some (.int (i4 + (nI 3))), none]) (ls_s (ls_s (ls_s (ls_s (ls_s (ls_n ls_0)))))) h
    · have h := h.2 q75
      refine r_aload_n (μ := mX5_barred) (pc := 78) dX5_barred_78 rfl rfl ?_
      refine r_aload_n (μ := mX5_barred) (pc := 79) dX5_barred_79 rfl rfl ?_
      refine g_R (μ := mX5_barred) (pc := 80) (k' := 89) fX5_13 dX5_barred_80 rfl rfl ?_
      refine r_iload (μ := mX5_barred) (pc := 83) dX5_barred_83 rfl ?_
      obtain ⟨n85, hx85, h⟩ := h
      refine r_iald (μ := mX5_barred) (pc := 85) dX5_barred_85 rfl hx85 ?_
      refine r_aload_n (μ := mX5_barred) (pc := 86) dX5_barred_86 rfl rfl ?_
      refine g_R (μ := mX5_barred) (pc := 87) (k' := 89) fX5_13 dX5_barred_87 rfl rfl ?_
      refine r_iload (μ := mX5_barred) (pc := 90) dX5_barred_90 rfl ?_
      refine r_iconst (μ := mX5_barred) (pc := 92) (v := nI 1) dX5_barred_92 rfl ?_
      refine r_iadd (μ := mX5_barred) (pc := 93) dX5_barred_93 ?_
      obtain ⟨n94, hx94, h⟩ := h
      refine r_iald (μ := mX5_barred) (pc := 94) dX5_barred_94 rfl hx94 ?_
      refine r_callV (μ := mX5_barred) (pc := 95) (as := [.int (S.1 89 n85), .int (S.1 89 n94)]) 5 cX5_192 dX5_barred_95 rfl rfl (Nat.le_of_ble_eq_true rfl) rfl okX5_areCoasts (Nat.lt_succ_self d) (cat8 (n := 0) rfl (by decide)) rfl h (k_I (fun r95 T95 h => ?_))
      refine r_if_eq (μ := mX5_barred) (pc := 98) (tgt := 122) dX5_barred_98 (by decide) ⟨fun q98 => ?_, fun q98 => ?_⟩
      · have h := h.1 q98
        refine r_iconst (μ := mX5_barred) (pc := 122) (v := nI 0) dX5_barred_122 rfl ?_
        refine r_istore_n (μ := mX5_barred) (pc := 123) (ls' := [some (.ref 7), some (.int i1), some (.int i2), some (.int (nI 0)), some (.int i4), some (.int (((nI 40) * i2) + i4))]) dX5_barred_123 rfl (Nat.le_of_ble_eq_true rfl) rfl rfl ?_
        refine r_iinc (μ := mX5_barred) (pc := 124) (y := nI 3) (ls' := [some (.ref 7), some (.int i1), some (.int i2), some (.int (nI 0)), some (.int (i4 + (nI 3))), some (.int (((nI 40) * i2) + i4))]) dX5_barred_124 rfl rfl (Nat.le_of_ble_eq_true rfl) rfl rfl ?_
        refine r_goto (μ := mX5_barred) (pc := 127) (tgt := 54) dX5_barred_127 (by decide) ?_
        exact Ev.sub (ls' := [some (.ref 7), some (.int i1), some (.int i2), some (.int (nI 0)), some (.int (i4 + (nI 3))), none]) (ls_s (ls_s (ls_s (ls_s (ls_s (ls_n ls_0)))))) h
      · have h := h.2 q98
        refine r_aload_n (μ := mX5_barred) (pc := 101) dX5_barred_101 rfl rfl ?_
        refine g_R (μ := mX5_barred) (pc := 102) (k' := 89) fX5_13 dX5_barred_102 rfl rfl ?_
        refine r_iload (μ := mX5_barred) (pc := 105) dX5_barred_105 rfl ?_
        refine r_iconst (μ := mX5_barred) (pc := 107) (v := nI 2) dX5_barred_107 rfl ?_
        refine r_iadd (μ := mX5_barred) (pc := 108) dX5_barred_108 ?_
        obtain ⟨n109, hx109, h⟩ := h
        refine r_iald (μ := mX5_barred) (pc := 109) dX5_barred_109 rfl hx109 ?_
        refine r_iconst (μ := mX5_barred) (pc := 110) (v := nI 0) dX5_barred_110 rfl ?_
        refine r_iconst (μ := mX5_barred) (pc := 111) (v := nI 1) dX5_barred_111 rfl ?_
        refine r_callS (μ := mX5_barred) (pc := 112) (as := [.int (T95.1 89 n109), .int (nI 0), .int (nI 1)]) cX5_73 dX5_barred_112 rfl okX5_in (Nat.lt_succ_self d) (cat8 (n := 0) rfl (by decide)) rfl h (k_I (fun r112 T112 h => ?_))
        have J115 : ∀ x115 : Int32, x115 = (if r112 = (nI 0) then (nI 0) else (nI 1)) → Ev G l mX5_barred (d + 1) 123 [some (.ref 7), some (.int i1), some (.int i2), some (.int i3), some (.int i4), some (.int (((nI 40) * i2) + i4))] [.int x115] T112 (QI P) := by
          intro x115 e115
          have h := h x115 e115
          refine r_istore_n (μ := mX5_barred) (pc := 123) (ls' := [some (.ref 7), some (.int i1), some (.int i2), some (.int x115), some (.int i4), some (.int (((nI 40) * i2) + i4))]) dX5_barred_123 rfl (Nat.le_of_ble_eq_true rfl) rfl rfl ?_
          refine r_iinc (μ := mX5_barred) (pc := 124) (y := nI 3) (ls' := [some (.ref 7), some (.int i1), some (.int i2), some (.int x115), some (.int (i4 + (nI 3))), some (.int (((nI 40) * i2) + i4))]) dX5_barred_124 rfl rfl (Nat.le_of_ble_eq_true rfl) rfl rfl ?_
          refine r_goto (μ := mX5_barred) (pc := 127) (tgt := 54) dX5_barred_127 (by decide) ?_
          exact Ev.sub (ls' := [some (.ref 7), some (.int i1), some (.int i2), some (.int x115), some (.int (i4 + (nI 3))), none]) (ls_s (ls_s (ls_s (ls_s (ls_s (ls_n ls_0)))))) h
        refine r_if_eq (μ := mX5_barred) (pc := 115) (tgt := 122) dX5_barred_115 (by decide) ⟨fun q115 => ?_, fun q115 => ?_⟩
        · refine r_iconst (μ := mX5_barred) (pc := 122) (v := nI 0) dX5_barred_122 rfl ?_
          exact J115 _ (by first | (rw [if_pos q115]; done) | simp only [if_pos q115])
        · refine r_iconst (μ := mX5_barred) (pc := 118) (v := nI 1) dX5_barred_118 rfl ?_
          refine r_goto (μ := mX5_barred) (pc := 119) (tgt := 123) dX5_barred_119 (by decide) ?_
          exact J115 _ (by first | (rw [if_neg q115]; done) | simp only [if_neg q115])

set_option maxRecDepth 20000 in
theorem bX5_goesWith_0 {G : Gl} {l : Launch} {d : Nat} {S : Sg} {P : Int32 → Sg → Prop} (i1 : Int32) (i2 : Int32) (i3 : Int32) (i4 : Int32)
    (h : Ev G l mX5_goesWith (d + 1) 6 [some (.ref 7), some (.int i1), some (.int i2), some (.int i3), some (.int i4), some (.int (nI 1)), some (.int (nI 0)), none] [] S (QI P)) :
    Ct G l mX5_goesWith (d + 1) [.ref 7, .int i1, .int i2, .int i3, .int i4] S (QI P) := by
  show Ev G l mX5_goesWith (d + 1) 0 [some (.ref 7), some (.int i1), some (.int i2), some (.int i3), some (.int i4), none, none, none] [] S (QI P)
  refine r_iconst (μ := mX5_goesWith) (pc := 0) (v := nI 1) dX5_goesWith_0 rfl ?_
  refine r_istore (μ := mX5_goesWith) (pc := 1) (ls' := [some (.ref 7), some (.int i1), some (.int i2), some (.int i3), some (.int i4), some (.int (nI 1)), none, none]) dX5_goesWith_1 (Nat.le_of_ble_eq_true rfl) rfl rfl ?_
  refine r_iconst (μ := mX5_goesWith) (pc := 3) (v := nI 0) dX5_goesWith_3 rfl ?_
  refine r_istore (μ := mX5_goesWith) (pc := 4) (ls' := [some (.ref 7), some (.int i1), some (.int i2), some (.int i3), some (.int i4), some (.int (nI 1)), some (.int (nI 0)), none]) dX5_goesWith_4 (Nat.le_of_ble_eq_true rfl) rfl rfl ?_
  exact h

set_option maxRecDepth 20000 in
theorem bX5_goesWith_6 {G : Gl} {l : Launch} {d : Nat} {S : Sg} {P : Int32 → Sg → Prop} (i1 : Int32) (i2 : Int32) (i3 : Int32) (i4 : Int32) (i5 : Int32) (i6 : Int32)
    (h : ∃ n13 : Nat, ix i2 n13 6 ∧ (((S.1 88 n13) ≤ i6 → zb i5 ∧ P i5 S) ∧ (¬ ((S.1 88 n13) ≤ i6) → (i5 = (nI 0) → Ev G l mX5_goesWith (d + 1) 6 [some (.ref 7), some (.int i1), some (.int i2), some (.int i3), some (.int i4), some (.int (nI 0)), some (.int (i6 + (nI 3))), none] [] S (QI P)) ∧ (¬ (i5 = (nI 0)) → ∃ n47 : Nat, ix (((nI 10) + ((nI 5) * i1)) + (nI 2)) n47 400 ∧ (∃ n54 : Nat, ix (((nI 40) * i2) + i6) n54 240 ∧ (∃ n63 : Nat, ix ((((nI 40) * i2) + i6) + (nI 1)) n63 240 ∧ (Ct G l mX5_belongsBy d [.ref 7, .int i3, .int i4, .int (S.1 93 n47), .int (S.1 89 n54), .int (S.1 89 n63)] S (QI (fun r64 T64 => ∃ n75 : Nat, ix ((((nI 40) * i2) + i6) + (nI 2)) n75 240 ∧ (∀ x77 : Int32, x77 = (if (T64.1 89 n75) = (nI 1) then (nI 1) else (nI 0)) → (∀ x85 : Int32, x85 = (if r64 = x77 then (nI 1) else (nI 0)) → (Ev G l mX5_goesWith (d + 1) 6 [some (.ref 7), some (.int i1), some (.int i2), some (.int i3), some (.int i4), some (.int x85), some (.int (i6 + (nI 3))), none] [] T64 (QI P))))))))))))) :
    Ev G l mX5_goesWith (d + 1) 6 [some (.ref 7), some (.int i1), some (.int i2), some (.int i3), some (.int i4), some (.int i5), some (.int i6), none] [] S (QI P) := by
  show Ev G l mX5_goesWith (d + 1) 6 [some (.ref 7), some (.int i1), some (.int i2), some (.int i3), some (.int i4), some (.int i5), some (.int i6), none] [] S (QI P)
  refine r_iload (μ := mX5_goesWith) (pc := 6) dX5_goesWith_6 rfl ?_
  refine r_aload_n (μ := mX5_goesWith) (pc := 8) dX5_goesWith_8 rfl rfl ?_
  refine g_R (μ := mX5_goesWith) (pc := 9) (k' := 88) fX5_7 dX5_goesWith_9 rfl rfl ?_
  refine r_iload_n (μ := mX5_goesWith) (pc := 12) dX5_goesWith_12 rfl rfl ?_
  obtain ⟨n13, hx13, h⟩ := h
  refine r_iald (μ := mX5_goesWith) (pc := 13) dX5_goesWith_13 rfl hx13 ?_
  refine r_icmp_ge (μ := mX5_goesWith) (pc := 14) (tgt := 101) dX5_goesWith_14 (by decide) ⟨fun q14 => ?_, fun q14 => ?_⟩
  · have h := h.1 q14
    refine r_iload (μ := mX5_goesWith) (pc := 101) dX5_goesWith_101 rfl ?_
    obtain ⟨hb103, h⟩ := h
    exact r_zret (μ := mX5_goesWith) (pc := 103) dX5_goesWith_103 rfl hb103 h
  · have h := h.2 q14
    refine r_bipush (μ := mX5_goesWith) (pc := 17) (v := nI 40) dX5_goesWith_17 rfl ?_
    refine r_iload_n (μ := mX5_goesWith) (pc := 19) dX5_goesWith_19 rfl rfl ?_
    refine r_imul (μ := mX5_goesWith) (pc := 20) dX5_goesWith_20 ?_
    refine r_iload (μ := mX5_goesWith) (pc := 21) dX5_goesWith_21 rfl ?_
    refine r_iadd (μ := mX5_goesWith) (pc := 23) dX5_goesWith_23 ?_
    refine r_istore (μ := mX5_goesWith) (pc := 24) (ls' := [some (.ref 7), some (.int i1), some (.int i2), some (.int i3), some (.int i4), some (.int i5), some (.int i6), some (.int (((nI 40) * i2) + i6))]) dX5_goesWith_24 (Nat.le_of_ble_eq_true rfl) rfl rfl ?_
    refine r_iload (μ := mX5_goesWith) (pc := 26) dX5_goesWith_26 rfl ?_
    refine r_if_eq (μ := mX5_goesWith) (pc := 28) (tgt := 92) dX5_goesWith_28 (by decide) ⟨fun q28 => ?_, fun q28 => ?_⟩
    · have h := h.1 q28
      refine r_iconst (μ := mX5_goesWith) (pc := 92) (v := nI 0) dX5_goesWith_92 rfl ?_
      refine r_istore (μ := mX5_goesWith) (pc := 93) (ls' := [some (.ref 7), some (.int i1), some (.int i2), some (.int i3), some (.int i4), some (.int (nI 0)), some (.int i6), some (.int (((nI 40) * i2) + i6))]) dX5_goesWith_93 (Nat.le_of_ble_eq_true rfl) rfl rfl ?_
      refine r_iinc (μ := mX5_goesWith) (pc := 95) (y := nI 3) (ls' := [some (.ref 7), some (.int i1), some (.int i2), some (.int i3), some (.int i4), some (.int (nI 0)), some (.int (i6 + (nI 3))), some (.int (((nI 40) * i2) + i6))]) dX5_goesWith_95 rfl rfl (Nat.le_of_ble_eq_true rfl) rfl rfl ?_
      refine r_goto (μ := mX5_goesWith) (pc := 98) (tgt := 6) dX5_goesWith_98 (by decide) ?_
      exact Ev.sub (ls' := [some (.ref 7), some (.int i1), some (.int i2), some (.int i3), some (.int i4), some (.int (nI 0)), some (.int (i6 + (nI 3))), none]) (ls_s (ls_s (ls_s (ls_s (ls_s (ls_s (ls_s (ls_n ls_0)))))))) h
    · have h := h.2 q28
      refine r_aload_n (μ := mX5_goesWith) (pc := 31) dX5_goesWith_31 rfl rfl ?_
      refine r_iload_n (μ := mX5_goesWith) (pc := 32) dX5_goesWith_32 rfl rfl ?_
      refine r_iload (μ := mX5_goesWith) (pc := 33) dX5_goesWith_33 rfl ?_
      refine r_aload_n (μ := mX5_goesWith) (pc := 35) dX5_goesWith_35 rfl rfl ?_
      refine g_R (μ := mX5_goesWith) (pc := 36) (k' := 93) fX5_25 dX5_goesWith_36 rfl rfl ?_
      refine r_bipush (μ := mX5_goesWith) (pc := 39) (v := nI 10) dX5_goesWith_39 rfl ?_
      refine r_iconst (μ := mX5_goesWith) (pc := 41) (v := nI 5) dX5_goesWith_41 rfl ?_
      refine r_iload_n (μ := mX5_goesWith) (pc := 42) dX5_goesWith_42 rfl rfl ?_
      refine r_imul (μ := mX5_goesWith) (pc := 43) dX5_goesWith_43 ?_
      refine r_iadd (μ := mX5_goesWith) (pc := 44) dX5_goesWith_44 ?_
      refine r_iconst (μ := mX5_goesWith) (pc := 45) (v := nI 2) dX5_goesWith_45 rfl ?_
      refine r_iadd (μ := mX5_goesWith) (pc := 46) dX5_goesWith_46 ?_
      obtain ⟨n47, hx47, h⟩ := h
      refine r_iald (μ := mX5_goesWith) (pc := 47) dX5_goesWith_47 rfl hx47 ?_
      refine r_aload_n (μ := mX5_goesWith) (pc := 48) dX5_goesWith_48 rfl rfl ?_
      refine g_R (μ := mX5_goesWith) (pc := 49) (k' := 89) fX5_13 dX5_goesWith_49 rfl rfl ?_
      refine r_iload (μ := mX5_goesWith) (pc := 52) dX5_goesWith_52 rfl ?_
      obtain ⟨n54, hx54, h⟩ := h
      refine r_iald (μ := mX5_goesWith) (pc := 54) dX5_goesWith_54 rfl hx54 ?_
      refine r_aload_n (μ := mX5_goesWith) (pc := 55) dX5_goesWith_55 rfl rfl ?_
      refine g_R (μ := mX5_goesWith) (pc := 56) (k' := 89) fX5_13 dX5_goesWith_56 rfl rfl ?_
      refine r_iload (μ := mX5_goesWith) (pc := 59) dX5_goesWith_59 rfl ?_
      refine r_iconst (μ := mX5_goesWith) (pc := 61) (v := nI 1) dX5_goesWith_61 rfl ?_
      refine r_iadd (μ := mX5_goesWith) (pc := 62) dX5_goesWith_62 ?_
      obtain ⟨n63, hx63, h⟩ := h
      refine r_iald (μ := mX5_goesWith) (pc := 63) dX5_goesWith_63 rfl hx63 ?_
      refine r_callV (μ := mX5_goesWith) (pc := 64) (as := [.int i3, .int i4, .int (S.1 93 n47), .int (S.1 89 n54), .int (S.1 89 n63)]) 5 cX5_133 dX5_goesWith_64 rfl rfl (Nat.le_of_ble_eq_true rfl) rfl okX5_belongsBy (Nat.lt_succ_self d) (cat8 (n := 0) rfl (by decide)) rfl h (k_I (fun r64 T64 h => ?_))
      refine r_aload_n (μ := mX5_goesWith) (pc := 67) dX5_goesWith_67 rfl rfl ?_
      refine g_R (μ := mX5_goesWith) (pc := 68) (k' := 89) fX5_13 dX5_goesWith_68 rfl rfl ?_
      refine r_iload (μ := mX5_goesWith) (pc := 71) dX5_goesWith_71 rfl ?_
      refine r_iconst (μ := mX5_goesWith) (pc := 73) (v := nI 2) dX5_goesWith_73 rfl ?_
      refine r_iadd (μ := mX5_goesWith) (pc := 74) dX5_goesWith_74 ?_
      obtain ⟨n75, hx75, h⟩ := h
      refine r_iald (μ := mX5_goesWith) (pc := 75) dX5_goesWith_75 rfl hx75 ?_
      refine r_iconst (μ := mX5_goesWith) (pc := 76) (v := nI 1) dX5_goesWith_76 rfl ?_
      have J77 : ∀ x77 : Int32, x77 = (if (T64.1 89 n75) = (nI 1) then (nI 1) else (nI 0)) → Ev G l mX5_goesWith (d + 1) 85 [some (.ref 7), some (.int i1), some (.int i2), some (.int i3), some (.int i4), some (.int i5), some (.int i6), some (.int (((nI 40) * i2) + i6))] [.int x77, .int r64] T64 (QI P) := by
        intro x77 e77
        have h := h x77 e77
        have J85 : ∀ x85 : Int32, x85 = (if r64 = x77 then (nI 1) else (nI 0)) → Ev G l mX5_goesWith (d + 1) 93 [some (.ref 7), some (.int i1), some (.int i2), some (.int i3), some (.int i4), some (.int i5), some (.int i6), some (.int (((nI 40) * i2) + i6))] [.int x85] T64 (QI P) := by
          intro x85 e85
          have h := h x85 e85
          refine r_istore (μ := mX5_goesWith) (pc := 93) (ls' := [some (.ref 7), some (.int i1), some (.int i2), some (.int i3), some (.int i4), some (.int x85), some (.int i6), some (.int (((nI 40) * i2) + i6))]) dX5_goesWith_93 (Nat.le_of_ble_eq_true rfl) rfl rfl ?_
          refine r_iinc (μ := mX5_goesWith) (pc := 95) (y := nI 3) (ls' := [some (.ref 7), some (.int i1), some (.int i2), some (.int i3), some (.int i4), some (.int x85), some (.int (i6 + (nI 3))), some (.int (((nI 40) * i2) + i6))]) dX5_goesWith_95 rfl rfl (Nat.le_of_ble_eq_true rfl) rfl rfl ?_
          refine r_goto (μ := mX5_goesWith) (pc := 98) (tgt := 6) dX5_goesWith_98 (by decide) ?_
          exact Ev.sub (ls' := [some (.ref 7), some (.int i1), some (.int i2), some (.int i3), some (.int i4), some (.int x85), some (.int (i6 + (nI 3))), none]) (ls_s (ls_s (ls_s (ls_s (ls_s (ls_s (ls_s (ls_n ls_0)))))))) h
        refine r_icmp_ne (μ := mX5_goesWith) (pc := 85) (tgt := 92) dX5_goesWith_85 (by decide) ⟨fun q85 => ?_, fun q85 => ?_⟩
        · refine r_iconst (μ := mX5_goesWith) (pc := 92) (v := nI 0) dX5_goesWith_92 rfl ?_
          exact J85 _ (by first | (rw [if_neg q85]; done) | simp only [if_neg q85])
        · refine r_iconst (μ := mX5_goesWith) (pc := 88) (v := nI 1) dX5_goesWith_88 rfl ?_
          refine r_goto (μ := mX5_goesWith) (pc := 89) (tgt := 93) dX5_goesWith_89 (by decide) ?_
          exact J85 _ (by first | (rw [if_pos q85]; done) | simp only [if_pos q85])
      refine r_icmp_ne (μ := mX5_goesWith) (pc := 77) (tgt := 84) dX5_goesWith_77 (by decide) ⟨fun q77 => ?_, fun q77 => ?_⟩
      · refine r_iconst (μ := mX5_goesWith) (pc := 84) (v := nI 0) dX5_goesWith_84 rfl ?_
        exact J77 _ (by first | (rw [if_neg q77]; done) | simp only [if_neg q77])
      · refine r_iconst (μ := mX5_goesWith) (pc := 80) (v := nI 1) dX5_goesWith_80 rfl ?_
        refine r_goto (μ := mX5_goesWith) (pc := 81) (tgt := 85) dX5_goesWith_81 (by decide) ?_
        exact J77 _ (by first | (rw [if_pos q77]; done) | simp only [if_pos q77])

set_option maxRecDepth 20000 in
theorem bX5_kinds_0 {G : Gl} {l : Launch} {d : Nat} {S : Sg} {P : Int32 → Sg → Prop} (i1 : Int32) (i2 : Int32)
    (h : Ct G l mX5_barred d [.ref 7, .int i1, .int i2] S (QI (fun r3 T3 => (r3 = (nI 0) → Ev G l mX5_kinds (d + 1) 19 [some (.ref 7), some (.int i1), some (.int i2), some (.int r3), some (.int (nI 0)), some (.int (nI 0))] [] T3 (QI P)) ∧ (¬ (r3 = (nI 0)) → P r3 T3)))) :
    Ct G l mX5_kinds (d + 1) [.ref 7, .int i1, .int i2] S (QI P) := by
  show Ev G l mX5_kinds (d + 1) 0 [some (.ref 7), some (.int i1), some (.int i2), none, none, none] [] S (QI P)
  refine r_aload_n (μ := mX5_kinds) (pc := 0) dX5_kinds_0 rfl rfl ?_
  refine r_iload_n (μ := mX5_kinds) (pc := 1) dX5_kinds_1 rfl rfl ?_
  refine r_iload_n (μ := mX5_kinds) (pc := 2) dX5_kinds_2 rfl rfl ?_
  refine r_callV (μ := mX5_kinds) (pc := 3) (as := [.int i1, .int i2]) 5 cX5_222 dX5_kinds_3 rfl rfl (Nat.le_of_ble_eq_true rfl) rfl okX5_barred (Nat.lt_succ_self d) (cat8 (n := 0) rfl (by decide)) rfl h (k_I (fun r3 T3 h => ?_))
  refine r_istore_n (μ := mX5_kinds) (pc := 6) (ls' := [some (.ref 7), some (.int i1), some (.int i2), some (.int r3), none, none]) dX5_kinds_6 rfl (Nat.le_of_ble_eq_true rfl) rfl rfl ?_
  refine r_iload_n (μ := mX5_kinds) (pc := 7) dX5_kinds_7 rfl rfl ?_
  refine r_if_eq (μ := mX5_kinds) (pc := 8) (tgt := 13) dX5_kinds_8 (by decide) ⟨fun q8 => ?_, fun q8 => ?_⟩
  · have h := h.1 q8
    refine r_iconst (μ := mX5_kinds) (pc := 13) (v := nI 0) dX5_kinds_13 rfl ?_
    refine r_istore (μ := mX5_kinds) (pc := 14) (ls' := [some (.ref 7), some (.int i1), some (.int i2), some (.int r3), some (.int (nI 0)), none]) dX5_kinds_14 (Nat.le_of_ble_eq_true rfl) rfl rfl ?_
    refine r_iconst (μ := mX5_kinds) (pc := 16) (v := nI 0) dX5_kinds_16 rfl ?_
    refine r_istore (μ := mX5_kinds) (pc := 17) (ls' := [some (.ref 7), some (.int i1), some (.int i2), some (.int r3), some (.int (nI 0)), some (.int (nI 0))]) dX5_kinds_17 (Nat.le_of_ble_eq_true rfl) rfl rfl ?_
    exact h
  · have h := h.2 q8
    refine r_iload_n (μ := mX5_kinds) (pc := 11) dX5_kinds_11 rfl rfl ?_
    exact r_iret (μ := mX5_kinds) (pc := 12) dX5_kinds_12 rfl h

set_option maxRecDepth 20000 in
theorem bX5_kinds_19 {G : Gl} {l : Launch} {d : Nat} {S : Sg} {P : Int32 → Sg → Prop} (i1 : Int32) (i2 : Int32) (i3 : Int32) (i4 : Int32) (i5 : Int32)
    (h : ((nI 6) ≤ i5 → P i4 S) ∧ (¬ ((nI 6) ≤ i5) → ∃ n45 : Nat, ix (((nI 10) + ((nI 5) * i1)) + (nI 1)) n45 400 ∧ (Ct G l mX5_goesWith d [.ref 7, .int i1, .int i2, .int i5, .int (S.1 93 n45)] S (QI (fun r46 T46 => ∀ x49 : Int32, x49 = (if r46 = (nI 0) then (nI 0) else ((nI 1) <<< (i5 &&& 31))) → (Ev G l mX5_kinds (d + 1) 19 [some (.ref 7), some (.int i1), some (.int i2), some (.int i3), some (.int (i4 ||| x49)), some (.int (i5 + (nI 1)))] [] T46 (QI P))))))) :
    Ev G l mX5_kinds (d + 1) 19 [some (.ref 7), some (.int i1), some (.int i2), some (.int i3), some (.int i4), some (.int i5)] [] S (QI P) := by
  show Ev G l mX5_kinds (d + 1) 19 [some (.ref 7), some (.int i1), some (.int i2), some (.int i3), some (.int i4), some (.int i5)] [] S (QI P)
  refine r_iload (μ := mX5_kinds) (pc := 19) dX5_kinds_19 rfl ?_
  refine r_bipush (μ := mX5_kinds) (pc := 21) (v := nI 6) dX5_kinds_21 rfl ?_
  refine r_icmp_ge (μ := mX5_kinds) (pc := 23) (tgt := 69) dX5_kinds_23 (by decide) ⟨fun q23 => ?_, fun q23 => ?_⟩
  · have h := h.1 q23
    refine r_iload (μ := mX5_kinds) (pc := 69) dX5_kinds_69 rfl ?_
    exact r_iret (μ := mX5_kinds) (pc := 71) dX5_kinds_71 rfl h
  · have h := h.2 q23
    refine r_iload (μ := mX5_kinds) (pc := 26) dX5_kinds_26 rfl ?_
    refine r_aload_n (μ := mX5_kinds) (pc := 28) dX5_kinds_28 rfl rfl ?_
    refine r_iload_n (μ := mX5_kinds) (pc := 29) dX5_kinds_29 rfl rfl ?_
    refine r_iload_n (μ := mX5_kinds) (pc := 30) dX5_kinds_30 rfl rfl ?_
    refine r_iload (μ := mX5_kinds) (pc := 31) dX5_kinds_31 rfl ?_
    refine r_aload_n (μ := mX5_kinds) (pc := 33) dX5_kinds_33 rfl rfl ?_
    refine g_R (μ := mX5_kinds) (pc := 34) (k' := 93) fX5_25 dX5_kinds_34 rfl rfl ?_
    refine r_bipush (μ := mX5_kinds) (pc := 37) (v := nI 10) dX5_kinds_37 rfl ?_
    refine r_iconst (μ := mX5_kinds) (pc := 39) (v := nI 5) dX5_kinds_39 rfl ?_
    refine r_iload_n (μ := mX5_kinds) (pc := 40) dX5_kinds_40 rfl rfl ?_
    refine r_imul (μ := mX5_kinds) (pc := 41) dX5_kinds_41 ?_
    refine r_iadd (μ := mX5_kinds) (pc := 42) dX5_kinds_42 ?_
    refine r_iconst (μ := mX5_kinds) (pc := 43) (v := nI 1) dX5_kinds_43 rfl ?_
    refine r_iadd (μ := mX5_kinds) (pc := 44) dX5_kinds_44 ?_
    obtain ⟨n45, hx45, h⟩ := h
    refine r_iald (μ := mX5_kinds) (pc := 45) dX5_kinds_45 rfl hx45 ?_
    refine r_callV (μ := mX5_kinds) (pc := 46) (as := [.int i1, .int i2, .int i5, .int (S.1 93 n45)]) 5 cX5_225 dX5_kinds_46 rfl rfl (Nat.le_of_ble_eq_true rfl) rfl okX5_goesWith (Nat.lt_succ_self d) (cat8 (n := 1) rfl (by decide)) rfl h (k_I (fun r46 T46 h => ?_))
    have J49 : ∀ x49 : Int32, x49 = (if r46 = (nI 0) then (nI 0) else ((nI 1) <<< (i5 &&& 31))) → Ev G l mX5_kinds (d + 1) 60 [some (.ref 7), some (.int i1), some (.int i2), some (.int i3), some (.int i4), some (.int i5)] [.int x49, .int i4] T46 (QI P) := by
      intro x49 e49
      have h := h x49 e49
      refine r_ior (μ := mX5_kinds) (pc := 60) dX5_kinds_60 ?_
      refine r_istore (μ := mX5_kinds) (pc := 61) (ls' := [some (.ref 7), some (.int i1), some (.int i2), some (.int i3), some (.int (i4 ||| x49)), some (.int i5)]) dX5_kinds_61 (Nat.le_of_ble_eq_true rfl) rfl rfl ?_
      refine r_iinc (μ := mX5_kinds) (pc := 63) (y := nI 1) (ls' := [some (.ref 7), some (.int i1), some (.int i2), some (.int i3), some (.int (i4 ||| x49)), some (.int (i5 + (nI 1)))]) dX5_kinds_63 rfl rfl (Nat.le_of_ble_eq_true rfl) rfl rfl ?_
      refine r_goto (μ := mX5_kinds) (pc := 66) (tgt := 19) dX5_kinds_66 (by decide) ?_
      exact h
    refine r_if_eq (μ := mX5_kinds) (pc := 49) (tgt := 59) dX5_kinds_49 (by decide) ⟨fun q49 => ?_, fun q49 => ?_⟩
    · refine r_iconst (μ := mX5_kinds) (pc := 59) (v := nI 0) dX5_kinds_59 rfl ?_
      exact J49 _ (by first | (rw [if_pos q49]; done) | simp only [if_pos q49])
    · refine r_iconst (μ := mX5_kinds) (pc := 52) (v := nI 1) dX5_kinds_52 rfl ?_
      refine r_iload (μ := mX5_kinds) (pc := 53) dX5_kinds_53 rfl ?_
      refine r_ishl (μ := mX5_kinds) (pc := 55) dX5_kinds_55 ?_
      refine r_goto (μ := mX5_kinds) (pc := 56) (tgt := 60) dX5_kinds_56 (by decide) ?_
      exact J49 _ (by first | (rw [if_neg q49]; done) | simp only [if_neg q49])

set_option maxRecDepth 20000 in
theorem bX5_spots_0 {G : Gl} {l : Launch} {d : Nat} {S : Sg} {P : Int32 → Sg → Prop} (i1 : Int32) (i2 : Int32)
    (h : Ct G l mX5_barred d [.ref 7, .int i1, .int i2] S (QI (fun r3 T3 => (r3 = (nI 0) → Ev G l mX5_spots (d + 1) 19 [some (.ref 7), some (.int i1), some (.int i2), some (.int r3), some (.int (nI 0)), some (.int (nI 0))] [] T3 (QI P)) ∧ (¬ (r3 = (nI 0)) → P r3 T3)))) :
    Ct G l mX5_spots (d + 1) [.ref 7, .int i1, .int i2] S (QI P) := by
  show Ev G l mX5_spots (d + 1) 0 [some (.ref 7), some (.int i1), some (.int i2), none, none, none] [] S (QI P)
  refine r_aload_n (μ := mX5_spots) (pc := 0) dX5_spots_0 rfl rfl ?_
  refine r_iload_n (μ := mX5_spots) (pc := 1) dX5_spots_1 rfl rfl ?_
  refine r_iload_n (μ := mX5_spots) (pc := 2) dX5_spots_2 rfl rfl ?_
  refine r_callV (μ := mX5_spots) (pc := 3) (as := [.int i1, .int i2]) 5 cX5_222 dX5_spots_3 rfl rfl (Nat.le_of_ble_eq_true rfl) rfl okX5_barred (Nat.lt_succ_self d) (cat8 (n := 0) rfl (by decide)) rfl h (k_I (fun r3 T3 h => ?_))
  refine r_istore_n (μ := mX5_spots) (pc := 6) (ls' := [some (.ref 7), some (.int i1), some (.int i2), some (.int r3), none, none]) dX5_spots_6 rfl (Nat.le_of_ble_eq_true rfl) rfl rfl ?_
  refine r_iload_n (μ := mX5_spots) (pc := 7) dX5_spots_7 rfl rfl ?_
  refine r_if_eq (μ := mX5_spots) (pc := 8) (tgt := 13) dX5_spots_8 (by decide) ⟨fun q8 => ?_, fun q8 => ?_⟩
  · have h := h.1 q8
    refine r_iconst (μ := mX5_spots) (pc := 13) (v := nI 0) dX5_spots_13 rfl ?_
    refine r_istore (μ := mX5_spots) (pc := 14) (ls' := [some (.ref 7), some (.int i1), some (.int i2), some (.int r3), some (.int (nI 0)), none]) dX5_spots_14 (Nat.le_of_ble_eq_true rfl) rfl rfl ?_
    refine r_iconst (μ := mX5_spots) (pc := 16) (v := nI 0) dX5_spots_16 rfl ?_
    refine r_istore (μ := mX5_spots) (pc := 17) (ls' := [some (.ref 7), some (.int i1), some (.int i2), some (.int r3), some (.int (nI 0)), some (.int (nI 0))]) dX5_spots_17 (Nat.le_of_ble_eq_true rfl) rfl rfl ?_
    exact h
  · have h := h.2 q8
    refine r_iload_n (μ := mX5_spots) (pc := 11) dX5_spots_11 rfl rfl ?_
    exact r_iret (μ := mX5_spots) (pc := 12) dX5_spots_12 rfl h

set_option maxRecDepth 20000 in
theorem bX5_spots_19 {G : Gl} {l : Launch} {d : Nat} {S : Sg} {P : Int32 → Sg → Prop} (i1 : Int32) (i2 : Int32) (i3 : Int32) (i4 : Int32) (i5 : Int32)
    (h : ((S.1 93 0) ≤ i5 → P i4 S) ∧ (¬ ((S.1 93 0) ≤ i5) → ∃ n45 : Nat, ix ((nI 10) + ((nI 5) * i1)) n45 400 ∧ (Ct G l mX5_goesWith d [.ref 7, .int i1, .int i2, .int (S.1 93 n45), .int i5] S (QI (fun r48 T48 => ∀ x51 : Int32, x51 = (if r48 = (nI 0) then (nI 0) else ((nI 1) <<< (i5 &&& 31))) → (Ev G l mX5_spots (d + 1) 19 [some (.ref 7), some (.int i1), some (.int i2), some (.int i3), some (.int (i4 ||| x51)), some (.int (i5 + (nI 1)))] [] T48 (QI P))))))) :
    Ev G l mX5_spots (d + 1) 19 [some (.ref 7), some (.int i1), some (.int i2), some (.int i3), some (.int i4), some (.int i5)] [] S (QI P) := by
  show Ev G l mX5_spots (d + 1) 19 [some (.ref 7), some (.int i1), some (.int i2), some (.int i3), some (.int i4), some (.int i5)] [] S (QI P)
  refine r_iload (μ := mX5_spots) (pc := 19) dX5_spots_19 rfl ?_
  refine r_aload_n (μ := mX5_spots) (pc := 21) dX5_spots_21 rfl rfl ?_
  refine g_R (μ := mX5_spots) (pc := 22) (k' := 93) fX5_25 dX5_spots_22 rfl rfl ?_
  refine r_iconst (μ := mX5_spots) (pc := 25) (v := nI 0) dX5_spots_25 rfl ?_
  refine r_iald (μ := mX5_spots) (pc := 26) dX5_spots_26 rfl (ix_nI (n := 0) (Nat.le_of_ble_eq_true rfl) (Nat.le_of_ble_eq_true rfl)) ?_
  refine r_icmp_ge (μ := mX5_spots) (pc := 27) (tgt := 71) dX5_spots_27 (by decide) ⟨fun q27 => ?_, fun q27 => ?_⟩
  · have h := h.1 q27
    refine r_iload (μ := mX5_spots) (pc := 71) dX5_spots_71 rfl ?_
    exact r_iret (μ := mX5_spots) (pc := 73) dX5_spots_73 rfl h
  · have h := h.2 q27
    refine r_iload (μ := mX5_spots) (pc := 30) dX5_spots_30 rfl ?_
    refine r_aload_n (μ := mX5_spots) (pc := 32) dX5_spots_32 rfl rfl ?_
    refine r_iload_n (μ := mX5_spots) (pc := 33) dX5_spots_33 rfl rfl ?_
    refine r_iload_n (μ := mX5_spots) (pc := 34) dX5_spots_34 rfl rfl ?_
    refine r_aload_n (μ := mX5_spots) (pc := 35) dX5_spots_35 rfl rfl ?_
    refine g_R (μ := mX5_spots) (pc := 36) (k' := 93) fX5_25 dX5_spots_36 rfl rfl ?_
    refine r_bipush (μ := mX5_spots) (pc := 39) (v := nI 10) dX5_spots_39 rfl ?_
    refine r_iconst (μ := mX5_spots) (pc := 41) (v := nI 5) dX5_spots_41 rfl ?_
    refine r_iload_n (μ := mX5_spots) (pc := 42) dX5_spots_42 rfl rfl ?_
    refine r_imul (μ := mX5_spots) (pc := 43) dX5_spots_43 ?_
    refine r_iadd (μ := mX5_spots) (pc := 44) dX5_spots_44 ?_
    obtain ⟨n45, hx45, h⟩ := h
    refine r_iald (μ := mX5_spots) (pc := 45) dX5_spots_45 rfl hx45 ?_
    refine r_iload (μ := mX5_spots) (pc := 46) dX5_spots_46 rfl ?_
    refine r_callV (μ := mX5_spots) (pc := 48) (as := [.int i1, .int i2, .int (S.1 93 n45), .int i5]) 5 cX5_225 dX5_spots_48 rfl rfl (Nat.le_of_ble_eq_true rfl) rfl okX5_goesWith (Nat.lt_succ_self d) (cat8 (n := 1) rfl (by decide)) rfl h (k_I (fun r48 T48 h => ?_))
    have J51 : ∀ x51 : Int32, x51 = (if r48 = (nI 0) then (nI 0) else ((nI 1) <<< (i5 &&& 31))) → Ev G l mX5_spots (d + 1) 62 [some (.ref 7), some (.int i1), some (.int i2), some (.int i3), some (.int i4), some (.int i5)] [.int x51, .int i4] T48 (QI P) := by
      intro x51 e51
      have h := h x51 e51
      refine r_ior (μ := mX5_spots) (pc := 62) dX5_spots_62 ?_
      refine r_istore (μ := mX5_spots) (pc := 63) (ls' := [some (.ref 7), some (.int i1), some (.int i2), some (.int i3), some (.int (i4 ||| x51)), some (.int i5)]) dX5_spots_63 (Nat.le_of_ble_eq_true rfl) rfl rfl ?_
      refine r_iinc (μ := mX5_spots) (pc := 65) (y := nI 1) (ls' := [some (.ref 7), some (.int i1), some (.int i2), some (.int i3), some (.int (i4 ||| x51)), some (.int (i5 + (nI 1)))]) dX5_spots_65 rfl rfl (Nat.le_of_ble_eq_true rfl) rfl rfl ?_
      refine r_goto (μ := mX5_spots) (pc := 68) (tgt := 19) dX5_spots_68 (by decide) ?_
      exact h
    refine r_if_eq (μ := mX5_spots) (pc := 51) (tgt := 61) dX5_spots_51 (by decide) ⟨fun q51 => ?_, fun q51 => ?_⟩
    · refine r_iconst (μ := mX5_spots) (pc := 61) (v := nI 0) dX5_spots_61 rfl ?_
      exact J51 _ (by first | (rw [if_pos q51]; done) | simp only [if_pos q51])
    · refine r_iconst (μ := mX5_spots) (pc := 54) (v := nI 1) dX5_spots_54 rfl ?_
      refine r_iload (μ := mX5_spots) (pc := 55) dX5_spots_55 rfl ?_
      refine r_ishl (μ := mX5_spots) (pc := 57) dX5_spots_57 ?_
      refine r_goto (μ := mX5_spots) (pc := 58) (tgt := 62) dX5_spots_58 (by decide) ?_
      exact J51 _ (by first | (rw [if_neg q51]; done) | simp only [if_neg q51])

set_option maxRecDepth 20000 in
theorem bX5_waysOf_0 {G : Gl} {l : Launch} {d : Nat} {S : Sg} {P : Int64 → Sg → Prop} (i0 : Int32) (i1 : Int32) (i2 : Int32)
    (h : ∀ x5 : Int64, x5 = (if (i1 &&& (i0 ^^^ (-1))) = (nI 0) then (lN 1) else (lN 0)) → (Ev G l mX5_waysOf (d + 1) 17 [some (.int i0), some (.int i1), some (.int i2), some (.long x5), none, some (.int (nI 0))] [] S (QL P))) :
    Ct G l mX5_waysOf (d + 1) [.int i0, .int i1, .int i2] S (QL P) := by
  show Ev G l mX5_waysOf (d + 1) 0 [some (.int i0), some (.int i1), some (.int i2), none, none, none] [] S (QL P)
  refine r_iload_n (μ := mX5_waysOf) (pc := 0) dX5_waysOf_0 rfl rfl ?_
  refine r_iload_n (μ := mX5_waysOf) (pc := 1) dX5_waysOf_1 rfl rfl ?_
  refine r_iconst (μ := mX5_waysOf) (pc := 2) (v := (-1)) dX5_waysOf_2 rfl ?_
  refine r_ixor (μ := mX5_waysOf) (pc := 3) dX5_waysOf_3 ?_
  refine r_iand (μ := mX5_waysOf) (pc := 4) dX5_waysOf_4 ?_
  have J5 : ∀ x5 : Int64, x5 = (if (i1 &&& (i0 ^^^ (-1))) = (nI 0) then (lN 1) else (lN 0)) → Ev G l mX5_waysOf (d + 1) 13 [some (.int i0), some (.int i1), some (.int i2), none, none, none] [.long x5] S (QL P) := by
    intro x5 e5
    have h := h x5 e5
    refine r_lstore_n (μ := mX5_waysOf) (pc := 13) (ls' := [some (.int i0), some (.int i1), some (.int i2), some (.long x5), none, none]) dX5_waysOf_13 rfl (Nat.le_of_ble_eq_true rfl) rfl rfl ?_
    refine r_iconst (μ := mX5_waysOf) (pc := 14) (v := nI 0) dX5_waysOf_14 rfl ?_
    refine r_istore (μ := mX5_waysOf) (pc := 15) (ls' := [some (.int i0), some (.int i1), some (.int i2), some (.long x5), none, some (.int (nI 0))]) dX5_waysOf_15 (Nat.le_of_ble_eq_true rfl) rfl rfl ?_
    exact h
  refine r_if_ne (μ := mX5_waysOf) (pc := 5) (tgt := 12) dX5_waysOf_5 (by decide) ⟨fun q5 => ?_, fun q5 => ?_⟩
  · refine r_lconst (μ := mX5_waysOf) (pc := 12) (v := lN 0) dX5_waysOf_12 rfl ?_
    exact J5 _ (by first | (rw [if_neg q5]; done) | simp only [if_neg q5])
  · refine r_lconst (μ := mX5_waysOf) (pc := 8) (v := lN 1) dX5_waysOf_8 rfl ?_
    refine r_goto (μ := mX5_waysOf) (pc := 9) (tgt := 13) dX5_waysOf_9 (by decide) ?_
    exact J5 _ (by first | (rw [if_pos q5]; done) | simp only [if_pos q5])

set_option maxRecDepth 20000 in
theorem bX5_waysOf_17 {G : Gl} {l : Launch} {d : Nat} {S : Sg} {P : Int64 → Sg → Prop} (i0 : Int32) (i1 : Int32) (i2 : Int32) (j3 : Int64) (i5 : Int32)
    (h : ((nI 6) ≤ i5 → P j3 S) ∧ (¬ ((nI 6) ≤ i5) → Ct G l mX5_has d [.int i0, .int i5] S (QI (fun r28 T28 => (¬ r28 = (nI 0) → Ct G l mX5_has d [.int i1, .int i5] T28 (QI (fun r41 T41 => ∀ x44 : Int64, x44 = (if r41 = (nI 0) then (((nI 12) - i2).toInt64) else ((i2).toInt64)) → (Ev G l mX5_waysOf (d + 1) 17 [some (.int i0), some (.int i1), some (.int i2), some (.long (j3 * x44)), none, some (.int (i5 + (nI 1)))] [] T41 (QL P))))) ∧ (r28 = (nI 0) → Ev G l mX5_waysOf (d + 1) 17 [some (.int i0), some (.int i1), some (.int i2), some (.long (j3 * (lN 1))), none, some (.int (i5 + (nI 1)))] [] T28 (QL P)))))) :
    Ev G l mX5_waysOf (d + 1) 17 [some (.int i0), some (.int i1), some (.int i2), some (.long j3), none, some (.int i5)] [] S (QL P) := by
  show Ev G l mX5_waysOf (d + 1) 17 [some (.int i0), some (.int i1), some (.int i2), some (.long j3), none, some (.int i5)] [] S (QL P)
  refine r_iload (μ := mX5_waysOf) (pc := 17) dX5_waysOf_17 rfl ?_
  refine r_bipush (μ := mX5_waysOf) (pc := 19) (v := nI 6) dX5_waysOf_19 rfl ?_
  refine r_icmp_ge (μ := mX5_waysOf) (pc := 21) (tgt := 65) dX5_waysOf_21 (by decide) ⟨fun q21 => ?_, fun q21 => ?_⟩
  · have h := h.1 q21
    refine r_lload_n (μ := mX5_waysOf) (pc := 65) dX5_waysOf_65 rfl rfl ?_
    exact r_lret (μ := mX5_waysOf) (pc := 66) dX5_waysOf_66 rfl h
  · have h := h.2 q21
    refine r_lload_n (μ := mX5_waysOf) (pc := 24) dX5_waysOf_24 rfl rfl ?_
    refine r_iload_n (μ := mX5_waysOf) (pc := 25) dX5_waysOf_25 rfl rfl ?_
    refine r_iload (μ := mX5_waysOf) (pc := 26) dX5_waysOf_26 rfl ?_
    refine r_callS (μ := mX5_waysOf) (pc := 28) (as := [.int i0, .int i5]) cX5_143 dX5_waysOf_28 rfl okX5_has (Nat.lt_succ_self d) (cat8 (n := 2) rfl (by decide)) rfl h (k_I (fun r28 T28 h => ?_))
    refine r_if_ne (μ := mX5_waysOf) (pc := 31) (tgt := 38) dX5_waysOf_31 (by decide) ⟨fun q31 => ?_, fun q31 => ?_⟩
    · have h := h.1 q31
      refine r_iload_n (μ := mX5_waysOf) (pc := 38) dX5_waysOf_38 rfl rfl ?_
      refine r_iload (μ := mX5_waysOf) (pc := 39) dX5_waysOf_39 rfl ?_
      refine r_callS (μ := mX5_waysOf) (pc := 41) (as := [.int i1, .int i5]) cX5_143 dX5_waysOf_41 rfl okX5_has (Nat.lt_succ_self d) (cat8 (n := 2) rfl (by decide)) rfl h (k_I (fun r41 T41 h => ?_))
      have J44 : ∀ x44 : Int64, x44 = (if r41 = (nI 0) then (((nI 12) - i2).toInt64) else ((i2).toInt64)) → Ev G l mX5_waysOf (d + 1) 57 [some (.int i0), some (.int i1), some (.int i2), some (.long j3), none, some (.int i5)] [.long x44, .long j3] T41 (QL P) := by
        intro x44 e44
        have h := h x44 e44
        refine r_lmul (μ := mX5_waysOf) (pc := 57) dX5_waysOf_57 ?_
        refine r_lstore_n (μ := mX5_waysOf) (pc := 58) (ls' := [some (.int i0), some (.int i1), some (.int i2), some (.long (j3 * x44)), none, some (.int i5)]) dX5_waysOf_58 rfl (Nat.le_of_ble_eq_true rfl) rfl rfl ?_
        refine r_iinc (μ := mX5_waysOf) (pc := 59) (y := nI 1) (ls' := [some (.int i0), some (.int i1), some (.int i2), some (.long (j3 * x44)), none, some (.int (i5 + (nI 1)))]) dX5_waysOf_59 rfl rfl (Nat.le_of_ble_eq_true rfl) rfl rfl ?_
        refine r_goto (μ := mX5_waysOf) (pc := 62) (tgt := 17) dX5_waysOf_62 (by decide) ?_
        exact h
      refine r_if_eq (μ := mX5_waysOf) (pc := 44) (tgt := 52) dX5_waysOf_44 (by decide) ⟨fun q44 => ?_, fun q44 => ?_⟩
      · refine r_bipush (μ := mX5_waysOf) (pc := 52) (v := nI 12) dX5_waysOf_52 rfl ?_
        refine r_iload_n (μ := mX5_waysOf) (pc := 54) dX5_waysOf_54 rfl rfl ?_
        refine r_isub (μ := mX5_waysOf) (pc := 55) dX5_waysOf_55 ?_
        refine r_i2l (μ := mX5_waysOf) (pc := 56) dX5_waysOf_56 ?_
        exact J44 _ (by first | (rw [if_pos q44]; done) | simp only [if_pos q44])
      · refine r_iload_n (μ := mX5_waysOf) (pc := 47) dX5_waysOf_47 rfl rfl ?_
        refine r_i2l (μ := mX5_waysOf) (pc := 48) dX5_waysOf_48 ?_
        refine r_goto (μ := mX5_waysOf) (pc := 49) (tgt := 57) dX5_waysOf_49 (by decide) ?_
        exact J44 _ (by first | (rw [if_neg q44]; done) | simp only [if_neg q44])
    · have h := h.2 q31
      refine r_lconst (μ := mX5_waysOf) (pc := 34) (v := lN 1) dX5_waysOf_34 rfl ?_
      refine r_goto (μ := mX5_waysOf) (pc := 35) (tgt := 57) dX5_waysOf_35 (by decide) ?_
      refine r_lmul (μ := mX5_waysOf) (pc := 57) dX5_waysOf_57 ?_
      refine r_lstore_n (μ := mX5_waysOf) (pc := 58) (ls' := [some (.int i0), some (.int i1), some (.int i2), some (.long (j3 * (lN 1))), none, some (.int i5)]) dX5_waysOf_58 rfl (Nat.le_of_ble_eq_true rfl) rfl rfl ?_
      refine r_iinc (μ := mX5_waysOf) (pc := 59) (y := nI 1) (ls' := [some (.int i0), some (.int i1), some (.int i2), some (.long (j3 * (lN 1))), none, some (.int (i5 + (nI 1)))]) dX5_waysOf_59 rfl rfl (Nat.le_of_ble_eq_true rfl) rfl rfl ?_
      refine r_goto (μ := mX5_waysOf) (pc := 62) (tgt := 17) dX5_waysOf_62 (by decide) ?_
      exact h

set_option maxRecDepth 20000 in
theorem bX5_belowOf_0 {G : Gl} {l : Launch} {d : Nat} {S : Sg} {P : Int64 → Sg → Prop} (i0 : Int32)
    (h : Ev G l mX5_belowOf (d + 1) 4 [some (.int i0), some (.long (lN 1)), none, some (.int (nI 0))] [] S (QL P)) :
    Ct G l mX5_belowOf (d + 1) [.int i0] S (QL P) := by
  show Ev G l mX5_belowOf (d + 1) 0 [some (.int i0), none, none, none] [] S (QL P)
  refine r_lconst (μ := mX5_belowOf) (pc := 0) (v := lN 1) dX5_belowOf_0 rfl ?_
  refine r_lstore_n (μ := mX5_belowOf) (pc := 1) (ls' := [some (.int i0), some (.long (lN 1)), none, none]) dX5_belowOf_1 rfl (Nat.le_of_ble_eq_true rfl) rfl rfl ?_
  refine r_iconst (μ := mX5_belowOf) (pc := 2) (v := nI 0) dX5_belowOf_2 rfl ?_
  refine r_istore_n (μ := mX5_belowOf) (pc := 3) (ls' := [some (.int i0), some (.long (lN 1)), none, some (.int (nI 0))]) dX5_belowOf_3 rfl (Nat.le_of_ble_eq_true rfl) rfl rfl ?_
  exact h

set_option maxRecDepth 20000 in
theorem bX5_belowOf_4 {G : Gl} {l : Launch} {d : Nat} {S : Sg} {P : Int64 → Sg → Prop} (i0 : Int32) (j1 : Int64) (i3 : Int32)
    (h : ((nI 6) ≤ i3 → P j1 S) ∧ (¬ ((nI 6) ≤ i3) → Ct G l mX5_has d [.int i0, .int i3] S (QI (fun r13 T13 => ∀ x16 : Int64, x16 = (if r13 = (nI 0) then (lN 1) else (lN 12)) → (Ev G l mX5_belowOf (d + 1) 4 [some (.int i0), some (.long (j1 * x16)), none, some (.int (i3 + (nI 1)))] [] T13 (QL P)))))) :
    Ev G l mX5_belowOf (d + 1) 4 [some (.int i0), some (.long j1), none, some (.int i3)] [] S (QL P) := by
  show Ev G l mX5_belowOf (d + 1) 4 [some (.int i0), some (.long j1), none, some (.int i3)] [] S (QL P)
  refine r_iload_n (μ := mX5_belowOf) (pc := 4) dX5_belowOf_4 rfl rfl ?_
  refine r_bipush (μ := mX5_belowOf) (pc := 5) (v := nI 6) dX5_belowOf_5 rfl ?_
  refine r_icmp_ge (μ := mX5_belowOf) (pc := 7) (tgt := 34) dX5_belowOf_7 (by decide) ⟨fun q7 => ?_, fun q7 => ?_⟩
  · have h := h.1 q7
    refine r_lload_n (μ := mX5_belowOf) (pc := 34) dX5_belowOf_34 rfl rfl ?_
    exact r_lret (μ := mX5_belowOf) (pc := 35) dX5_belowOf_35 rfl h
  · have h := h.2 q7
    refine r_lload_n (μ := mX5_belowOf) (pc := 10) dX5_belowOf_10 rfl rfl ?_
    refine r_iload_n (μ := mX5_belowOf) (pc := 11) dX5_belowOf_11 rfl rfl ?_
    refine r_iload_n (μ := mX5_belowOf) (pc := 12) dX5_belowOf_12 rfl rfl ?_
    refine r_callS (μ := mX5_belowOf) (pc := 13) (as := [.int i0, .int i3]) cX5_143 dX5_belowOf_13 rfl okX5_has (Nat.lt_succ_self d) (cat8 (n := 2) rfl (by decide)) rfl h (k_I (fun r13 T13 h => ?_))
    have J16 : ∀ x16 : Int64, x16 = (if r13 = (nI 0) then (lN 1) else (lN 12)) → Ev G l mX5_belowOf (d + 1) 26 [some (.int i0), some (.long j1), none, some (.int i3)] [.long x16, .long j1] T13 (QL P) := by
      intro x16 e16
      have h := h x16 e16
      refine r_lmul (μ := mX5_belowOf) (pc := 26) dX5_belowOf_26 ?_
      refine r_lstore_n (μ := mX5_belowOf) (pc := 27) (ls' := [some (.int i0), some (.long (j1 * x16)), none, some (.int i3)]) dX5_belowOf_27 rfl (Nat.le_of_ble_eq_true rfl) rfl rfl ?_
      refine r_iinc (μ := mX5_belowOf) (pc := 28) (y := nI 1) (ls' := [some (.int i0), some (.long (j1 * x16)), none, some (.int (i3 + (nI 1)))]) dX5_belowOf_28 rfl rfl (Nat.le_of_ble_eq_true rfl) rfl rfl ?_
      refine r_goto (μ := mX5_belowOf) (pc := 31) (tgt := 4) dX5_belowOf_31 (by decide) ?_
      exact h
    refine r_if_eq (μ := mX5_belowOf) (pc := 16) (tgt := 25) dX5_belowOf_16 (by decide) ⟨fun q16 => ?_, fun q16 => ?_⟩
    · refine r_lconst (μ := mX5_belowOf) (pc := 25) (v := lN 1) dX5_belowOf_25 rfl ?_
      exact J16 _ (by first | (rw [if_pos q16]; done) | simp only [if_pos q16])
    · refine r_ldc2 (μ := mX5_belowOf) (pc := 19) (v := lN 12) dX5_belowOf_19 kX5_229 ?_
      refine r_goto (μ := mX5_belowOf) (pc := 22) (tgt := 26) dX5_belowOf_22 (by decide) ?_
      exact J16 _ (by first | (rw [if_neg q16]; done) | simp only [if_neg q16])

set_option maxRecDepth 20000 in
theorem bX5_odds_0 {G : Gl} {l : Launch} {d : Nat} {S : Sg} {P : Int32 → Sg → Prop} (i1 : Int32) (i2 : Int32)
    (h : Ct G l mX5_in d [.int i1, .int (nI 0), .int (nI 99)] S (QI (fun r4 T4 => (r4 = (nI 0) → P (-1) T4) ∧ (¬ (r4 = (nI 0)) → Ct G l mX5_in d [.int i2, .int (nI 0), .int (nI 12)] T4 (QI (fun r14 T14 => (¬ r14 = (nI 0) → Ct G l mX5_are d [.ref 7] T14 (QI (fun r23 T23 => (¬ r23 = (nI 0) → Ct G l mX5_belongersNow d [.ref 7] T23 (QI (fun r33 T33 => Ev G l mX5_odds (d + 1) 43 [some (.ref 7), some (.int i1), some (.int i2), some (.int r33), some (.long (lN 0)), none, some (.int (nI 0))] [] T33 (QI P)))) ∧ (r23 = (nI 0) → P (-4) T23)))) ∧ (r14 = (nI 0) → P (-1) T14))))))) :
    Ct G l mX5_odds (d + 1) [.ref 7, .int i1, .int i2] S (QI P) := by
  show Ev G l mX5_odds (d + 1) 0 [some (.ref 7), some (.int i1), some (.int i2), none, none, none, none] [] S (QI P)
  refine r_iload_n (μ := mX5_odds) (pc := 0) dX5_odds_0 rfl rfl ?_
  refine r_iconst (μ := mX5_odds) (pc := 1) (v := nI 0) dX5_odds_1 rfl ?_
  refine r_bipush (μ := mX5_odds) (pc := 2) (v := nI 99) dX5_odds_2 rfl ?_
  refine r_callS (μ := mX5_odds) (pc := 4) (as := [.int i1, .int (nI 0), .int (nI 99)]) cX5_73 dX5_odds_4 rfl okX5_in (Nat.lt_succ_self d) (cat8 (n := 0) rfl (by decide)) rfl h (k_I (fun r4 T4 h => ?_))
  refine r_if_eq (μ := mX5_odds) (pc := 7) (tgt := 20) dX5_odds_7 (by decide) ⟨fun q7 => ?_, fun q7 => ?_⟩
  · have h := h.1 q7
    refine r_iconst (μ := mX5_odds) (pc := 20) (v := (-1)) dX5_odds_20 rfl ?_
    exact r_iret (μ := mX5_odds) (pc := 21) dX5_odds_21 rfl h
  · have h := h.2 q7
    refine r_iload_n (μ := mX5_odds) (pc := 10) dX5_odds_10 rfl rfl ?_
    refine r_iconst (μ := mX5_odds) (pc := 11) (v := nI 0) dX5_odds_11 rfl ?_
    refine r_bipush (μ := mX5_odds) (pc := 12) (v := nI 12) dX5_odds_12 rfl ?_
    refine r_callS (μ := mX5_odds) (pc := 14) (as := [.int i2, .int (nI 0), .int (nI 12)]) cX5_73 dX5_odds_14 rfl okX5_in (Nat.lt_succ_self d) (cat8 (n := 0) rfl (by decide)) rfl h (k_I (fun r14 T14 h => ?_))
    refine r_if_ne (μ := mX5_odds) (pc := 17) (tgt := 22) dX5_odds_17 (by decide) ⟨fun q17 => ?_, fun q17 => ?_⟩
    · have h := h.1 q17
      refine r_aload_n (μ := mX5_odds) (pc := 22) dX5_odds_22 rfl rfl ?_
      refine r_callV (μ := mX5_odds) (pc := 23) (as := []) 5 cX5_176 dX5_odds_23 rfl rfl (Nat.le_of_ble_eq_true rfl) rfl okX5_are (Nat.lt_succ_self d) (cat8 (n := 0) rfl (by decide)) rfl h (k_I (fun r23 T23 h => ?_))
      refine r_if_ne (μ := mX5_odds) (pc := 26) (tgt := 32) dX5_odds_26 (by decide) ⟨fun q26 => ?_, fun q26 => ?_⟩
      · have h := h.1 q26
        refine r_aload_n (μ := mX5_odds) (pc := 32) dX5_odds_32 rfl rfl ?_
        refine r_callV (μ := mX5_odds) (pc := 33) (as := []) 5 cX5_165 dX5_odds_33 rfl rfl (Nat.le_of_ble_eq_true rfl) rfl okX5_belongersNow (Nat.lt_succ_self d) (cat8 (n := 0) rfl (by decide)) rfl h (k_I (fun r33 T33 h => ?_))
        refine r_istore_n (μ := mX5_odds) (pc := 36) (ls' := [some (.ref 7), some (.int i1), some (.int i2), some (.int r33), none, none, none]) dX5_odds_36 rfl (Nat.le_of_ble_eq_true rfl) rfl rfl ?_
        refine r_lconst (μ := mX5_odds) (pc := 37) (v := lN 0) dX5_odds_37 rfl ?_
        refine r_lstore (μ := mX5_odds) (pc := 38) (ls' := [some (.ref 7), some (.int i1), some (.int i2), some (.int r33), some (.long (lN 0)), none, none]) dX5_odds_38 (Nat.le_of_ble_eq_true rfl) rfl rfl ?_
        refine r_iconst (μ := mX5_odds) (pc := 40) (v := nI 0) dX5_odds_40 rfl ?_
        refine r_istore (μ := mX5_odds) (pc := 41) (ls' := [some (.ref 7), some (.int i1), some (.int i2), some (.int r33), some (.long (lN 0)), none, some (.int (nI 0))]) dX5_odds_41 (Nat.le_of_ble_eq_true rfl) rfl rfl ?_
        exact h
      · have h := h.2 q26
        refine r_bipush (μ := mX5_odds) (pc := 29) (v := (-4)) dX5_odds_29 rfl ?_
        exact r_iret (μ := mX5_odds) (pc := 31) dX5_odds_31 rfl h
    · have h := h.2 q17
      refine r_iconst (μ := mX5_odds) (pc := 20) (v := (-1)) dX5_odds_20 rfl ?_
      exact r_iret (μ := mX5_odds) (pc := 21) dX5_odds_21 rfl h

set_option maxRecDepth 20000 in
theorem bX5_odds_43 {G : Gl} {l : Launch} {d : Nat} {S : Sg} {P : Int32 → Sg → Prop} (i1 : Int32) (i2 : Int32) (i3 : Int32) (j4 : Int64) (i6 : Int32)
    (h : (i3 < i6 → Ct G l mX5_belowOf d [.int i3] S (QL (fun r89 T89 => Ct G l mX5_tellsParts d [.ref 7, .long j4, .long r89] T89 (QI (fun r92 T92 => P r92 T92))))) ∧ (¬ (i3 < i6) → Ct G l mX5_votesIn d [.ref 7, .int (i3 &&& (i6 ^^^ (-1)))] S (QI (fun r58 T58 => (r58 < i1 → Ev G l mX5_odds (d + 1) 43 [some (.ref 7), some (.int i1), some (.int i2), some (.int i3), some (.long (j4 + (lN 0))), none, some (.int (i6 + (nI 1)))] [] T58 (QI P)) ∧ (¬ (r58 < i1) → Ct G l mX5_waysOf d [.int i3, .int i6, .int i2] T58 (QL (fun r69 T69 => Ev G l mX5_odds (d + 1) 43 [some (.ref 7), some (.int i1), some (.int i2), some (.int i3), some (.long (j4 + r69)), none, some (.int (i6 + (nI 1)))] [] T69 (QI P)))))))) :
    Ev G l mX5_odds (d + 1) 43 [some (.ref 7), some (.int i1), some (.int i2), some (.int i3), some (.long j4), none, some (.int i6)] [] S (QI P) := by
  show Ev G l mX5_odds (d + 1) 43 [some (.ref 7), some (.int i1), some (.int i2), some (.int i3), some (.long j4), none, some (.int i6)] [] S (QI P)
  refine r_iload (μ := mX5_odds) (pc := 43) dX5_odds_43 rfl ?_
  refine r_iload_n (μ := mX5_odds) (pc := 45) dX5_odds_45 rfl rfl ?_
  refine r_icmp_gt (μ := mX5_odds) (pc := 46) (tgt := 85) dX5_odds_46 (by decide) ⟨fun q46 => ?_, fun q46 => ?_⟩
  · have h := h.1 q46
    refine r_aload_n (μ := mX5_odds) (pc := 85) dX5_odds_85 rfl rfl ?_
    refine r_lload (μ := mX5_odds) (pc := 86) dX5_odds_86 rfl ?_
    refine r_iload_n (μ := mX5_odds) (pc := 88) dX5_odds_88 rfl rfl ?_
    refine r_callS (μ := mX5_odds) (pc := 89) (as := [.int i3]) cX5_235 dX5_odds_89 rfl okX5_belowOf (Nat.lt_succ_self d) (cat8 (n := 3) rfl (by decide)) rfl h (k_L (fun r89 T89 h => ?_))
    refine r_callV (μ := mX5_odds) (pc := 92) (as := [.long j4, .long r89]) 5 cX5_239 dX5_odds_92 rfl rfl (Nat.le_of_ble_eq_true rfl) rfl okX5_tellsParts (Nat.lt_succ_self d) (cat8 (n := 0) rfl (by decide)) rfl h (k_I (fun r92 T92 h => ?_))
    exact r_iret (μ := mX5_odds) (pc := 95) dX5_odds_95 rfl h
  · have h := h.2 q46
    refine r_lload (μ := mX5_odds) (pc := 49) dX5_odds_49 rfl ?_
    refine r_aload_n (μ := mX5_odds) (pc := 51) dX5_odds_51 rfl rfl ?_
    refine r_iload_n (μ := mX5_odds) (pc := 52) dX5_odds_52 rfl rfl ?_
    refine r_iload (μ := mX5_odds) (pc := 53) dX5_odds_53 rfl ?_
    refine r_iconst (μ := mX5_odds) (pc := 55) (v := (-1)) dX5_odds_55 rfl ?_
    refine r_ixor (μ := mX5_odds) (pc := 56) dX5_odds_56 ?_
    refine r_iand (μ := mX5_odds) (pc := 57) dX5_odds_57 ?_
    refine r_callV (μ := mX5_odds) (pc := 58) (as := [.int (i3 &&& (i6 ^^^ (-1)))]) 5 cX5_169 dX5_odds_58 rfl rfl (Nat.le_of_ble_eq_true rfl) rfl okX5_votesIn (Nat.lt_succ_self d) (cat8 (n := 2) rfl (by decide)) rfl h (k_I (fun r58 T58 h => ?_))
    refine r_iload_n (μ := mX5_odds) (pc := 61) dX5_odds_61 rfl rfl ?_
    refine r_icmp_lt (μ := mX5_odds) (pc := 62) (tgt := 75) dX5_odds_62 (by decide) ⟨fun q62 => ?_, fun q62 => ?_⟩
    · have h := h.1 q62
      refine r_lconst (μ := mX5_odds) (pc := 75) (v := lN 0) dX5_odds_75 rfl ?_
      refine r_ladd (μ := mX5_odds) (pc := 76) dX5_odds_76 ?_
      refine r_lstore (μ := mX5_odds) (pc := 77) (ls' := [some (.ref 7), some (.int i1), some (.int i2), some (.int i3), some (.long (j4 + (lN 0))), none, some (.int i6)]) dX5_odds_77 (Nat.le_of_ble_eq_true rfl) rfl rfl ?_
      refine r_iinc (μ := mX5_odds) (pc := 79) (y := nI 1) (ls' := [some (.ref 7), some (.int i1), some (.int i2), some (.int i3), some (.long (j4 + (lN 0))), none, some (.int (i6 + (nI 1)))]) dX5_odds_79 rfl rfl (Nat.le_of_ble_eq_true rfl) rfl rfl ?_
      refine r_goto (μ := mX5_odds) (pc := 82) (tgt := 43) dX5_odds_82 (by decide) ?_
      exact h
    · have h := h.2 q62
      refine r_iload_n (μ := mX5_odds) (pc := 65) dX5_odds_65 rfl rfl ?_
      refine r_iload (μ := mX5_odds) (pc := 66) dX5_odds_66 rfl ?_
      refine r_iload_n (μ := mX5_odds) (pc := 68) dX5_odds_68 rfl rfl ?_
      refine r_callS (μ := mX5_odds) (pc := 69) (as := [.int i3, .int i6, .int i2]) cX5_231 dX5_odds_69 rfl okX5_waysOf (Nat.lt_succ_self d) (cat8 (n := 2) rfl (by decide)) rfl h (k_L (fun r69 T69 h => ?_))
      refine r_goto (μ := mX5_odds) (pc := 72) (tgt := 76) dX5_odds_72 (by decide) ?_
      refine r_ladd (μ := mX5_odds) (pc := 76) dX5_odds_76 ?_
      refine r_lstore (μ := mX5_odds) (pc := 77) (ls' := [some (.ref 7), some (.int i1), some (.int i2), some (.int i3), some (.long (j4 + r69)), none, some (.int i6)]) dX5_odds_77 (Nat.le_of_ble_eq_true rfl) rfl rfl ?_
      refine r_iinc (μ := mX5_odds) (pc := 79) (y := nI 1) (ls' := [some (.ref 7), some (.int i1), some (.int i2), some (.int i3), some (.long (j4 + r69)), none, some (.int (i6 + (nI 1)))]) dX5_odds_79 rfl rfl (Nat.le_of_ble_eq_true rfl) rfl rfl ?_
      refine r_goto (μ := mX5_odds) (pc := 82) (tgt := 43) dX5_odds_82 (by decide) ?_
      exact h

set_option maxRecDepth 20000 in
theorem bX5_mid_0 {G : Gl} {l : Launch} {d : Nat} {S : Sg} {P : Int32 → Sg → Prop} (i1 : Int32)
    (h : Ct G l mX5_in d [.int i1, .int (nI 0), .int (nI 12)] S (QI (fun r4 T4 => (¬ r4 = (nI 0) → Ct G l mX5_are d [.ref 7] T4 (QI (fun r13 T13 => (¬ r13 = (nI 0) → Ct G l mX5_belongersNow d [.ref 7] T13 (QI (fun r23 T23 => Ev G l mX5_mid (d + 1) 32 [some (.ref 7), some (.int i1), some (.int r23), some (.long (lN 0)), none, some (.int (nI 0)), none, none] [] T23 (QI P)))) ∧ (r13 = (nI 0) → P (-4) T13)))) ∧ (r4 = (nI 0) → P (-1) T4)))) :
    Ct G l mX5_mid (d + 1) [.ref 7, .int i1] S (QI P) := by
  show Ev G l mX5_mid (d + 1) 0 [some (.ref 7), some (.int i1), none, none, none, none, none, none] [] S (QI P)
  refine r_iload_n (μ := mX5_mid) (pc := 0) dX5_mid_0 rfl rfl ?_
  refine r_iconst (μ := mX5_mid) (pc := 1) (v := nI 0) dX5_mid_1 rfl ?_
  refine r_bipush (μ := mX5_mid) (pc := 2) (v := nI 12) dX5_mid_2 rfl ?_
  refine r_callS (μ := mX5_mid) (pc := 4) (as := [.int i1, .int (nI 0), .int (nI 12)]) cX5_73 dX5_mid_4 rfl okX5_in (Nat.lt_succ_self d) (cat8 (n := 0) rfl (by decide)) rfl h (k_I (fun r4 T4 h => ?_))
  refine r_if_ne (μ := mX5_mid) (pc := 7) (tgt := 12) dX5_mid_7 (by decide) ⟨fun q7 => ?_, fun q7 => ?_⟩
  · have h := h.1 q7
    refine r_aload_n (μ := mX5_mid) (pc := 12) dX5_mid_12 rfl rfl ?_
    refine r_callV (μ := mX5_mid) (pc := 13) (as := []) 5 cX5_176 dX5_mid_13 rfl rfl (Nat.le_of_ble_eq_true rfl) rfl okX5_are (Nat.lt_succ_self d) (cat8 (n := 0) rfl (by decide)) rfl h (k_I (fun r13 T13 h => ?_))
    refine r_if_ne (μ := mX5_mid) (pc := 16) (tgt := 22) dX5_mid_16 (by decide) ⟨fun q16 => ?_, fun q16 => ?_⟩
    · have h := h.1 q16
      refine r_aload_n (μ := mX5_mid) (pc := 22) dX5_mid_22 rfl rfl ?_
      refine r_callV (μ := mX5_mid) (pc := 23) (as := []) 5 cX5_165 dX5_mid_23 rfl rfl (Nat.le_of_ble_eq_true rfl) rfl okX5_belongersNow (Nat.lt_succ_self d) (cat8 (n := 0) rfl (by decide)) rfl h (k_I (fun r23 T23 h => ?_))
      refine r_istore_n (μ := mX5_mid) (pc := 26) (ls' := [some (.ref 7), some (.int i1), some (.int r23), none, none, none, none, none]) dX5_mid_26 rfl (Nat.le_of_ble_eq_true rfl) rfl rfl ?_
      refine r_lconst (μ := mX5_mid) (pc := 27) (v := lN 0) dX5_mid_27 rfl ?_
      refine r_lstore_n (μ := mX5_mid) (pc := 28) (ls' := [some (.ref 7), some (.int i1), some (.int r23), some (.long (lN 0)), none, none, none, none]) dX5_mid_28 rfl (Nat.le_of_ble_eq_true rfl) rfl rfl ?_
      refine r_iconst (μ := mX5_mid) (pc := 29) (v := nI 0) dX5_mid_29 rfl ?_
      refine r_istore (μ := mX5_mid) (pc := 30) (ls' := [some (.ref 7), some (.int i1), some (.int r23), some (.long (lN 0)), none, some (.int (nI 0)), none, none]) dX5_mid_30 (Nat.le_of_ble_eq_true rfl) rfl rfl ?_
      exact h
    · have h := h.2 q16
      refine r_bipush (μ := mX5_mid) (pc := 19) (v := (-4)) dX5_mid_19 rfl ?_
      exact r_iret (μ := mX5_mid) (pc := 21) dX5_mid_21 rfl h
  · have h := h.2 q7
    refine r_iconst (μ := mX5_mid) (pc := 10) (v := (-1)) dX5_mid_10 rfl ?_
    exact r_iret (μ := mX5_mid) (pc := 11) dX5_mid_11 rfl h

set_option maxRecDepth 20000 in
theorem bX5_mid_32 {G : Gl} {l : Launch} {d : Nat} {S : Sg} {P : Int32 → Sg → Prop} (i1 : Int32) (i2 : Int32) (j3 : Int64) (i5 : Int32)
    (h : (i2 < i5 → Ct G l mX5_belowOf d [.int i2] S (QL (fun r123 T123 => Ct G l mX5_tellsParts d [.ref 7, .long j3, .long r123] T123 (QI (fun r126 T126 => P r126 T126))))) ∧ (¬ (i2 < i5) → Ev G l mX5_mid (d + 1) 44 [some (.ref 7), some (.int i1), some (.int i2), some (.long j3), none, some (.int i5), some (.int (nI 0)), some (.int (nI 0))] [] S (QI P))) :
    Ev G l mX5_mid (d + 1) 32 [some (.ref 7), some (.int i1), some (.int i2), some (.long j3), none, some (.int i5), none, none] [] S (QI P) := by
  show Ev G l mX5_mid (d + 1) 32 [some (.ref 7), some (.int i1), some (.int i2), some (.long j3), none, some (.int i5), none, none] [] S (QI P)
  refine r_iload (μ := mX5_mid) (pc := 32) dX5_mid_32 rfl ?_
  refine r_iload_n (μ := mX5_mid) (pc := 34) dX5_mid_34 rfl rfl ?_
  refine r_icmp_gt (μ := mX5_mid) (pc := 35) (tgt := 120) dX5_mid_35 (by decide) ⟨fun q35 => ?_, fun q35 => ?_⟩
  · have h := h.1 q35
    refine r_aload_n (μ := mX5_mid) (pc := 120) dX5_mid_120 rfl rfl ?_
    refine r_lload_n (μ := mX5_mid) (pc := 121) dX5_mid_121 rfl rfl ?_
    refine r_iload_n (μ := mX5_mid) (pc := 122) dX5_mid_122 rfl rfl ?_
    refine r_callS (μ := mX5_mid) (pc := 123) (as := [.int i2]) cX5_235 dX5_mid_123 rfl okX5_belowOf (Nat.lt_succ_self d) (cat8 (n := 3) rfl (by decide)) rfl h (k_L (fun r123 T123 h => ?_))
    refine r_callV (μ := mX5_mid) (pc := 126) (as := [.long j3, .long r123]) 5 cX5_239 dX5_mid_126 rfl rfl (Nat.le_of_ble_eq_true rfl) rfl okX5_tellsParts (Nat.lt_succ_self d) (cat8 (n := 0) rfl (by decide)) rfl h (k_I (fun r126 T126 h => ?_))
    exact r_iret (μ := mX5_mid) (pc := 129) dX5_mid_129 rfl h
  · have h := h.2 q35
    refine r_iconst (μ := mX5_mid) (pc := 38) (v := nI 0) dX5_mid_38 rfl ?_
    refine r_istore (μ := mX5_mid) (pc := 39) (ls' := [some (.ref 7), some (.int i1), some (.int i2), some (.long j3), none, some (.int i5), some (.int (nI 0)), none]) dX5_mid_39 (Nat.le_of_ble_eq_true rfl) rfl rfl ?_
    refine r_iconst (μ := mX5_mid) (pc := 41) (v := nI 0) dX5_mid_41 rfl ?_
    refine r_istore (μ := mX5_mid) (pc := 42) (ls' := [some (.ref 7), some (.int i1), some (.int i2), some (.long j3), none, some (.int i5), some (.int (nI 0)), some (.int (nI 0))]) dX5_mid_42 (Nat.le_of_ble_eq_true rfl) rfl rfl ?_
    exact h

set_option maxRecDepth 20000 in
theorem bX5_mid_44 {G : Gl} {l : Launch} {d : Nat} {S : Sg} {P : Int32 → Sg → Prop} (i1 : Int32) (i2 : Int32) (j3 : Int64) (i5 : Int32) (i6 : Int32) (i7 : Int32)
    (h : ((S.1 93 7) ≤ i7 → Ct G l mX5_waysOf d [.int i2, .int i5, .int i1] S (QL (fun r108 T108 => Ev G l mX5_mid (d + 1) 32 [some (.ref 7), some (.int i1), some (.int i2), some (.long (j3 + (((i6).toInt64) * r108))), none, some (.int (i5 + (nI 1))), none, none] [] T108 (QI P)))) ∧ (¬ ((S.1 93 7) ≤ i7) → Ct G l mX5_has d [.int (i2 &&& (i5 ^^^ (-1))), .int i7] S (QI (fun r64 T64 => (r64 = (nI 0) → Ev G l mX5_mid (d + 1) 44 [some (.ref 7), some (.int i1), some (.int i2), some (.long j3), none, some (.int i5), some (.int i6), some (.int (i7 + (nI 1)))] [] T64 (QI P)) ∧ (¬ (r64 = (nI 0)) → Ct G l mX5_votesOf d [.ref 7, .int i7] T64 (QI (fun r73 T73 => (r73 ≤ i6 → Ev G l mX5_mid (d + 1) 44 [some (.ref 7), some (.int i1), some (.int i2), some (.long j3), none, some (.int i5), some (.int i6), some (.int (i7 + (nI 1)))] [] T73 (QI P)) ∧ (¬ (r73 ≤ i6) → Ct G l mX5_votesOf d [.ref 7, .int i7] T73 (QI (fun r84 T84 => Ev G l mX5_mid (d + 1) 44 [some (.ref 7), some (.int i1), some (.int i2), some (.long j3), none, some (.int i5), some (.int r84), some (.int (i7 + (nI 1)))] [] T84 (QI P))))))))))) :
    Ev G l mX5_mid (d + 1) 44 [some (.ref 7), some (.int i1), some (.int i2), some (.long j3), none, some (.int i5), some (.int i6), some (.int i7)] [] S (QI P) := by
  show Ev G l mX5_mid (d + 1) 44 [some (.ref 7), some (.int i1), some (.int i2), some (.long j3), none, some (.int i5), some (.int i6), some (.int i7)] [] S (QI P)
  refine r_iload (μ := mX5_mid) (pc := 44) dX5_mid_44 rfl ?_
  refine r_aload_n (μ := mX5_mid) (pc := 46) dX5_mid_46 rfl rfl ?_
  refine g_R (μ := mX5_mid) (pc := 47) (k' := 93) fX5_25 dX5_mid_47 rfl rfl ?_
  refine r_bipush (μ := mX5_mid) (pc := 50) (v := nI 7) dX5_mid_50 rfl ?_
  refine r_iald (μ := mX5_mid) (pc := 52) dX5_mid_52 rfl (ix_nI (n := 7) (Nat.le_of_ble_eq_true rfl) (Nat.le_of_ble_eq_true rfl)) ?_
  refine r_icmp_ge (μ := mX5_mid) (pc := 53) (tgt := 100) dX5_mid_53 (by decide) ⟨fun q53 => ?_, fun q53 => ?_⟩
  · have h := h.1 q53
    refine r_lload_n (μ := mX5_mid) (pc := 100) dX5_mid_100 rfl rfl ?_
    refine r_iload (μ := mX5_mid) (pc := 101) dX5_mid_101 rfl ?_
    refine r_i2l (μ := mX5_mid) (pc := 103) dX5_mid_103 ?_
    refine r_iload_n (μ := mX5_mid) (pc := 104) dX5_mid_104 rfl rfl ?_
    refine r_iload (μ := mX5_mid) (pc := 105) dX5_mid_105 rfl ?_
    refine r_iload_n (μ := mX5_mid) (pc := 107) dX5_mid_107 rfl rfl ?_
    refine r_callS (μ := mX5_mid) (pc := 108) (as := [.int i2, .int i5, .int i1]) cX5_231 dX5_mid_108 rfl okX5_waysOf (Nat.lt_succ_self d) (cat8 (n := 4) rfl (by decide)) rfl h (k_L (fun r108 T108 h => ?_))
    refine r_lmul (μ := mX5_mid) (pc := 111) dX5_mid_111 ?_
    refine r_ladd (μ := mX5_mid) (pc := 112) dX5_mid_112 ?_
    refine r_lstore_n (μ := mX5_mid) (pc := 113) (ls' := [some (.ref 7), some (.int i1), some (.int i2), some (.long (j3 + (((i6).toInt64) * r108))), none, some (.int i5), some (.int i6), some (.int i7)]) dX5_mid_113 rfl (Nat.le_of_ble_eq_true rfl) rfl rfl ?_
    refine r_iinc (μ := mX5_mid) (pc := 114) (y := nI 1) (ls' := [some (.ref 7), some (.int i1), some (.int i2), some (.long (j3 + (((i6).toInt64) * r108))), none, some (.int (i5 + (nI 1))), some (.int i6), some (.int i7)]) dX5_mid_114 rfl rfl (Nat.le_of_ble_eq_true rfl) rfl rfl ?_
    refine r_goto (μ := mX5_mid) (pc := 117) (tgt := 32) dX5_mid_117 (by decide) ?_
    exact Ev.sub (ls' := [some (.ref 7), some (.int i1), some (.int i2), some (.long (j3 + (((i6).toInt64) * r108))), none, some (.int (i5 + (nI 1))), none, none]) (ls_s (ls_s (ls_s (ls_s (ls_n (ls_s (ls_n (ls_n ls_0)))))))) h
  · have h := h.2 q53
    refine r_iload_n (μ := mX5_mid) (pc := 56) dX5_mid_56 rfl rfl ?_
    refine r_iload (μ := mX5_mid) (pc := 57) dX5_mid_57 rfl ?_
    refine r_iconst (μ := mX5_mid) (pc := 59) (v := (-1)) dX5_mid_59 rfl ?_
    refine r_ixor (μ := mX5_mid) (pc := 60) dX5_mid_60 ?_
    refine r_iand (μ := mX5_mid) (pc := 61) dX5_mid_61 ?_
    refine r_iload (μ := mX5_mid) (pc := 62) dX5_mid_62 rfl ?_
    refine r_callS (μ := mX5_mid) (pc := 64) (as := [.int (i2 &&& (i5 ^^^ (-1))), .int i7]) cX5_143 dX5_mid_64 rfl okX5_has (Nat.lt_succ_self d) (cat8 (n := 0) rfl (by decide)) rfl h (k_I (fun r64 T64 h => ?_))
    refine r_if_eq (μ := mX5_mid) (pc := 67) (tgt := 90) dX5_mid_67 (by decide) ⟨fun q67 => ?_, fun q67 => ?_⟩
    · have h := h.1 q67
      refine r_iload (μ := mX5_mid) (pc := 90) dX5_mid_90 rfl ?_
      refine r_istore (μ := mX5_mid) (pc := 92) (ls' := [some (.ref 7), some (.int i1), some (.int i2), some (.long j3), none, some (.int i5), some (.int i6), some (.int i7)]) dX5_mid_92 (Nat.le_of_ble_eq_true rfl) rfl rfl ?_
      refine r_iinc (μ := mX5_mid) (pc := 94) (y := nI 1) (ls' := [some (.ref 7), some (.int i1), some (.int i2), some (.long j3), none, some (.int i5), some (.int i6), some (.int (i7 + (nI 1)))]) dX5_mid_94 rfl rfl (Nat.le_of_ble_eq_true rfl) rfl rfl ?_
      refine r_goto (μ := mX5_mid) (pc := 97) (tgt := 44) dX5_mid_97 (by decide) ?_
      exact h
    · have h := h.2 q67
      refine r_aload_n (μ := mX5_mid) (pc := 70) dX5_mid_70 rfl rfl ?_
      refine r_iload (μ := mX5_mid) (pc := 71) dX5_mid_71 rfl ?_
      refine r_callV (μ := mX5_mid) (pc := 73) (as := [.int i7]) 5 cX5_147 dX5_mid_73 rfl rfl (Nat.le_of_ble_eq_true rfl) rfl okX5_votesOf (Nat.lt_succ_self d) (cat8 (n := 0) rfl (by decide)) rfl h (k_I (fun r73 T73 h => ?_))
      refine r_iload (μ := mX5_mid) (pc := 76) dX5_mid_76 rfl ?_
      refine r_icmp_le (μ := mX5_mid) (pc := 78) (tgt := 90) dX5_mid_78 (by decide) ⟨fun q78 => ?_, fun q78 => ?_⟩
      · have h := h.1 q78
        refine r_iload (μ := mX5_mid) (pc := 90) dX5_mid_90 rfl ?_
        refine r_istore (μ := mX5_mid) (pc := 92) (ls' := [some (.ref 7), some (.int i1), some (.int i2), some (.long j3), none, some (.int i5), some (.int i6), some (.int i7)]) dX5_mid_92 (Nat.le_of_ble_eq_true rfl) rfl rfl ?_
        refine r_iinc (μ := mX5_mid) (pc := 94) (y := nI 1) (ls' := [some (.ref 7), some (.int i1), some (.int i2), some (.long j3), none, some (.int i5), some (.int i6), some (.int (i7 + (nI 1)))]) dX5_mid_94 rfl rfl (Nat.le_of_ble_eq_true rfl) rfl rfl ?_
        refine r_goto (μ := mX5_mid) (pc := 97) (tgt := 44) dX5_mid_97 (by decide) ?_
        exact h
      · have h := h.2 q78
        refine r_aload_n (μ := mX5_mid) (pc := 81) dX5_mid_81 rfl rfl ?_
        refine r_iload (μ := mX5_mid) (pc := 82) dX5_mid_82 rfl ?_
        refine r_callV (μ := mX5_mid) (pc := 84) (as := [.int i7]) 5 cX5_147 dX5_mid_84 rfl rfl (Nat.le_of_ble_eq_true rfl) rfl okX5_votesOf (Nat.lt_succ_self d) (cat8 (n := 0) rfl (by decide)) rfl h (k_I (fun r84 T84 h => ?_))
        refine r_goto (μ := mX5_mid) (pc := 87) (tgt := 92) dX5_mid_87 (by decide) ?_
        refine r_istore (μ := mX5_mid) (pc := 92) (ls' := [some (.ref 7), some (.int i1), some (.int i2), some (.long j3), none, some (.int i5), some (.int r84), some (.int i7)]) dX5_mid_92 (Nat.le_of_ble_eq_true rfl) rfl rfl ?_
        refine r_iinc (μ := mX5_mid) (pc := 94) (y := nI 1) (ls' := [some (.ref 7), some (.int i1), some (.int i2), some (.long j3), none, some (.int i5), some (.int r84), some (.int (i7 + (nI 1)))]) dX5_mid_94 rfl rfl (Nat.le_of_ble_eq_true rfl) rfl rfl ?_
        refine r_goto (μ := mX5_mid) (pc := 97) (tgt := 44) dX5_mid_97 (by decide) ?_
        exact h

set_option maxRecDepth 20000 in
theorem bX5_lots_0 {G : Gl} {l : Launch} {d : Nat} {S : Sg} {P : Int32 → Sg → Prop} (i1 : Int32) (i2 : Int32)
    (h : Ct G l mX5_in d [.int i1, .int (nI 1), .int (nI 20)] S (QI (fun r4 T4 => (r4 = (nI 0) → P (-1) T4) ∧ (¬ (r4 = (nI 0)) → Ct G l mX5_in d [.int i2, .int (nI 1), .int (nI 2147483646)] T4 (QI (fun r14 T14 => (¬ r14 = (nI 0) → Ct G l mX5_are d [.ref 7] T14 (QI (fun r23 T23 => (¬ r23 = (nI 0) → (((T23.1 93 9) + i1) ≤ (nI 40) → Ev G l mX5_lots (d + 1) 55 [some (.ref 7), some (.int i1), some (.int i2), some (.long ((i2).toInt64)), none, some (.int (nI 0)), none, none] [] T23 (QI P)) ∧ (¬ (((T23.1 93 9) + i1) ≤ (nI 40)) → P (-2) T23)) ∧ (r23 = (nI 0) → P (-4) T23)))) ∧ (r14 = (nI 0) → P (-1) T14))))))) :
    Ct G l mX5_lots (d + 1) [.ref 7, .int i1, .int i2] S (QI P) := by
  show Ev G l mX5_lots (d + 1) 0 [some (.ref 7), some (.int i1), some (.int i2), none, none, none, none, none] [] S (QI P)
  refine r_iload_n (μ := mX5_lots) (pc := 0) dX5_lots_0 rfl rfl ?_
  refine r_iconst (μ := mX5_lots) (pc := 1) (v := nI 1) dX5_lots_1 rfl ?_
  refine r_bipush (μ := mX5_lots) (pc := 2) (v := nI 20) dX5_lots_2 rfl ?_
  refine r_callS (μ := mX5_lots) (pc := 4) (as := [.int i1, .int (nI 1), .int (nI 20)]) cX5_73 dX5_lots_4 rfl okX5_in (Nat.lt_succ_self d) (cat8 (n := 0) rfl (by decide)) rfl h (k_I (fun r4 T4 h => ?_))
  refine r_if_eq (μ := mX5_lots) (pc := 7) (tgt := 20) dX5_lots_7 (by decide) ⟨fun q7 => ?_, fun q7 => ?_⟩
  · have h := h.1 q7
    refine r_iconst (μ := mX5_lots) (pc := 20) (v := (-1)) dX5_lots_20 rfl ?_
    exact r_iret (μ := mX5_lots) (pc := 21) dX5_lots_21 rfl h
  · have h := h.2 q7
    refine r_iload_n (μ := mX5_lots) (pc := 10) dX5_lots_10 rfl rfl ?_
    refine r_iconst (μ := mX5_lots) (pc := 11) (v := nI 1) dX5_lots_11 rfl ?_
    refine r_ldc (μ := mX5_lots) (pc := 12) (v := nI 2147483646) dX5_lots_12 kX5_243 ?_
    refine r_callS (μ := mX5_lots) (pc := 14) (as := [.int i2, .int (nI 1), .int (nI 2147483646)]) cX5_73 dX5_lots_14 rfl okX5_in (Nat.lt_succ_self d) (cat8 (n := 0) rfl (by decide)) rfl h (k_I (fun r14 T14 h => ?_))
    refine r_if_ne (μ := mX5_lots) (pc := 17) (tgt := 22) dX5_lots_17 (by decide) ⟨fun q17 => ?_, fun q17 => ?_⟩
    · have h := h.1 q17
      refine r_aload_n (μ := mX5_lots) (pc := 22) dX5_lots_22 rfl rfl ?_
      refine r_callV (μ := mX5_lots) (pc := 23) (as := []) 5 cX5_176 dX5_lots_23 rfl rfl (Nat.le_of_ble_eq_true rfl) rfl okX5_are (Nat.lt_succ_self d) (cat8 (n := 0) rfl (by decide)) rfl h (k_I (fun r23 T23 h => ?_))
      refine r_if_ne (μ := mX5_lots) (pc := 26) (tgt := 32) dX5_lots_26 (by decide) ⟨fun q26 => ?_, fun q26 => ?_⟩
      · have h := h.1 q26
        refine r_aload_n (μ := mX5_lots) (pc := 32) dX5_lots_32 rfl rfl ?_
        refine g_R (μ := mX5_lots) (pc := 33) (k' := 93) fX5_25 dX5_lots_33 rfl rfl ?_
        refine r_bipush (μ := mX5_lots) (pc := 36) (v := nI 9) dX5_lots_36 rfl ?_
        refine r_iald (μ := mX5_lots) (pc := 38) dX5_lots_38 rfl (ix_nI (n := 9) (Nat.le_of_ble_eq_true rfl) (Nat.le_of_ble_eq_true rfl)) ?_
        refine r_iload_n (μ := mX5_lots) (pc := 39) dX5_lots_39 rfl rfl ?_
        refine r_iadd (μ := mX5_lots) (pc := 40) dX5_lots_40 ?_
        refine r_bipush (μ := mX5_lots) (pc := 41) (v := nI 40) dX5_lots_41 rfl ?_
        refine r_icmp_le (μ := mX5_lots) (pc := 43) (tgt := 49) dX5_lots_43 (by decide) ⟨fun q43 => ?_, fun q43 => ?_⟩
        · have h := h.1 q43
          refine r_iload_n (μ := mX5_lots) (pc := 49) dX5_lots_49 rfl rfl ?_
          refine r_i2l (μ := mX5_lots) (pc := 50) dX5_lots_50 ?_
          refine r_lstore_n (μ := mX5_lots) (pc := 51) (ls' := [some (.ref 7), some (.int i1), some (.int i2), some (.long ((i2).toInt64)), none, none, none, none]) dX5_lots_51 rfl (Nat.le_of_ble_eq_true rfl) rfl rfl ?_
          refine r_iconst (μ := mX5_lots) (pc := 52) (v := nI 0) dX5_lots_52 rfl ?_
          refine r_istore (μ := mX5_lots) (pc := 53) (ls' := [some (.ref 7), some (.int i1), some (.int i2), some (.long ((i2).toInt64)), none, some (.int (nI 0)), none, none]) dX5_lots_53 (Nat.le_of_ble_eq_true rfl) rfl rfl ?_
          exact h
        · have h := h.2 q43
          refine r_bipush (μ := mX5_lots) (pc := 46) (v := (-2)) dX5_lots_46 rfl ?_
          exact r_iret (μ := mX5_lots) (pc := 48) dX5_lots_48 rfl h
      · have h := h.2 q26
        refine r_bipush (μ := mX5_lots) (pc := 29) (v := (-4)) dX5_lots_29 rfl ?_
        exact r_iret (μ := mX5_lots) (pc := 31) dX5_lots_31 rfl h
    · have h := h.2 q17
      refine r_iconst (μ := mX5_lots) (pc := 20) (v := (-1)) dX5_lots_20 rfl ?_
      exact r_iret (μ := mX5_lots) (pc := 21) dX5_lots_21 rfl h

set_option maxRecDepth 20000 in
theorem bX5_lots_55 {G : Gl} {l : Launch} {d : Nat} {S : Sg} {P : Int32 → Sg → Prop} (i1 : Int32) (i2 : Int32) (j3 : Int64) (i5 : Int32)
    (h : (i1 ≤ i5 → P ((S.1 93 2) - (S.1 93 1)) S) ∧ (¬ (i1 ≤ i5) → ∀ v70 : Int64, v70 = ((j3 * (lN 48271)) - (j3 * (lN 48271)) / (lN 2147483647) * (lN 2147483647)) → (Ct G l mX5_notes d [.ref 7] S (QV (fun T72 => (¬ (lg_cmp (v70 - v70 / (lN 3) * (lN 3)) (lN 0)) = (nI 0) → (¬ ((T72.1 93 7).toInt64) = 0) ∧ (∀ v114 : Int32, v114 = (((nI 10) + ((nI 5) * (((v70 / (lN 8)) - (v70 / (lN 8)) / ((T72.1 93 7).toInt64) * ((T72.1 93 7).toInt64)).toInt32))) + (nI 1)) → (∃ n122 : Nat, ix v114 n122 400 ∧ (∀ x130 : Int32, x130 = (if (lg_cmp (v70 - v70 / (lN 3) * (lN 3)) (lN 1)) = (nI 0) then (-1) else (nI 1)) → (Ct G l mX5_isCell d [.ref 7, .int ((T72.1 93 n122) + x130)] T72 (QI (fun r150 T150 => ∀ x153 : Int32, x153 = (if r150 = (nI 0) then (T150.1 93 n122) else ((T72.1 93 n122) + x130)) → (∀ S168 : Sg, S168 = (u2 T150.1 93 n122 x153, T150.2) → (Ev G l mX5_lots (d + 1) 55 [some (.ref 7), some (.int i1), some (.int i2), some (.long v70), none, some (.int (i5 + (nI 1))), none, none] [] S168 (QI P)))))))))) ∧ ((lg_cmp (v70 - v70 / (lN 3) * (lN 3)) (lN 0)) = (nI 0) → Ct G l mX5_ages d [.ref 7] T72 (QV (fun T86 => Ev G l mX5_lots (d + 1) 55 [some (.ref 7), some (.int i1), some (.int i2), some (.long v70), none, some (.int (i5 + (nI 1))), none, none] [] T86 (QI P))))))))) :
    Ev G l mX5_lots (d + 1) 55 [some (.ref 7), some (.int i1), some (.int i2), some (.long j3), none, some (.int i5), none, none] [] S (QI P) := by
  show Ev G l mX5_lots (d + 1) 55 [some (.ref 7), some (.int i1), some (.int i2), some (.long j3), none, some (.int i5), none, none] [] S (QI P)
  refine r_iload (μ := mX5_lots) (pc := 55) dX5_lots_55 rfl ?_
  refine r_iload_n (μ := mX5_lots) (pc := 57) dX5_lots_57 rfl rfl ?_
  refine r_icmp_ge (μ := mX5_lots) (pc := 58) (tgt := 175) dX5_lots_58 (by decide) ⟨fun q58 => ?_, fun q58 => ?_⟩
  · have h := h.1 q58
    refine r_aload_n (μ := mX5_lots) (pc := 175) dX5_lots_175 rfl rfl ?_
    refine g_R (μ := mX5_lots) (pc := 176) (k' := 93) fX5_25 dX5_lots_176 rfl rfl ?_
    refine r_iconst (μ := mX5_lots) (pc := 179) (v := nI 2) dX5_lots_179 rfl ?_
    refine r_iald (μ := mX5_lots) (pc := 180) dX5_lots_180 rfl (ix_nI (n := 2) (Nat.le_of_ble_eq_true rfl) (Nat.le_of_ble_eq_true rfl)) ?_
    refine r_aload_n (μ := mX5_lots) (pc := 181) dX5_lots_181 rfl rfl ?_
    refine g_R (μ := mX5_lots) (pc := 182) (k' := 93) fX5_25 dX5_lots_182 rfl rfl ?_
    refine r_iconst (μ := mX5_lots) (pc := 185) (v := nI 1) dX5_lots_185 rfl ?_
    refine r_iald (μ := mX5_lots) (pc := 186) dX5_lots_186 rfl (ix_nI (n := 1) (Nat.le_of_ble_eq_true rfl) (Nat.le_of_ble_eq_true rfl)) ?_
    refine r_isub (μ := mX5_lots) (pc := 187) dX5_lots_187 ?_
    exact r_iret (μ := mX5_lots) (pc := 188) dX5_lots_188 rfl h
  · have h := h.2 q58
    refine r_lload_n (μ := mX5_lots) (pc := 61) dX5_lots_61 rfl rfl ?_
    refine r_ldc2 (μ := mX5_lots) (pc := 62) (v := lN 48271) dX5_lots_62 kX5_244 ?_
    refine r_lmul (μ := mX5_lots) (pc := 65) dX5_lots_65 ?_
    refine r_ldc2 (μ := mX5_lots) (pc := 66) (v := lN 2147483647) dX5_lots_66 kX5_246 ?_
    refine r_lrem (μ := mX5_lots) (pc := 69) dX5_lots_69 (by decide) ?_
    refine nm_l (fun v70 ev70 => ?_)
    have h := h v70 ev70
    refine r_lstore_n (μ := mX5_lots) (pc := 70) (ls' := [some (.ref 7), some (.int i1), some (.int i2), some (.long v70), none, some (.int i5), none, none]) dX5_lots_70 rfl (Nat.le_of_ble_eq_true rfl) rfl rfl ?_
    refine r_aload_n (μ := mX5_lots) (pc := 71) dX5_lots_71 rfl rfl ?_
    refine r_callV (μ := mX5_lots) (pc := 72) (as := []) 5 cX5_186 dX5_lots_72 rfl rfl (Nat.le_of_ble_eq_true rfl) rfl okX5_notes (Nat.lt_succ_self d) (cat8 (n := 0) rfl (by decide)) rfl h (k_V (fun T72 h => ?_))
    refine r_lload_n (μ := mX5_lots) (pc := 75) dX5_lots_75 rfl rfl ?_
    refine r_ldc2 (μ := mX5_lots) (pc := 76) (v := lN 3) dX5_lots_76 kX5_248 ?_
    refine r_lrem (μ := mX5_lots) (pc := 79) dX5_lots_79 (by decide) ?_
    refine r_lconst (μ := mX5_lots) (pc := 80) (v := lN 0) dX5_lots_80 rfl ?_
    refine r_lcmp (μ := mX5_lots) (pc := 81) dX5_lots_81 ?_
    refine r_if_ne (μ := mX5_lots) (pc := 82) (tgt := 92) dX5_lots_82 (by decide) ⟨fun q82 => ?_, fun q82 => ?_⟩
    · have h := h.1 q82
      refine r_bipush (μ := mX5_lots) (pc := 92) (v := nI 10) dX5_lots_92 rfl ?_
      refine r_iconst (μ := mX5_lots) (pc := 94) (v := nI 5) dX5_lots_94 rfl ?_
      refine r_lload_n (μ := mX5_lots) (pc := 95) dX5_lots_95 rfl rfl ?_
      refine r_ldc2 (μ := mX5_lots) (pc := 96) (v := lN 8) dX5_lots_96 kX5_250 ?_
      refine r_ldiv (μ := mX5_lots) (pc := 99) dX5_lots_99 (by decide) ?_
      refine r_aload_n (μ := mX5_lots) (pc := 100) dX5_lots_100 rfl rfl ?_
      refine g_R (μ := mX5_lots) (pc := 101) (k' := 93) fX5_25 dX5_lots_101 rfl rfl ?_
      refine r_bipush (μ := mX5_lots) (pc := 104) (v := nI 7) dX5_lots_104 rfl ?_
      refine r_iald (μ := mX5_lots) (pc := 106) dX5_lots_106 rfl (ix_nI (n := 7) (Nat.le_of_ble_eq_true rfl) (Nat.le_of_ble_eq_true rfl)) ?_
      refine r_i2l (μ := mX5_lots) (pc := 107) dX5_lots_107 ?_
      obtain ⟨hz108, h⟩ := h
      refine r_lrem (μ := mX5_lots) (pc := 108) dX5_lots_108 hz108 ?_
      refine r_l2i (μ := mX5_lots) (pc := 109) dX5_lots_109 ?_
      refine r_imul (μ := mX5_lots) (pc := 110) dX5_lots_110 ?_
      refine r_iadd (μ := mX5_lots) (pc := 111) dX5_lots_111 ?_
      refine r_iconst (μ := mX5_lots) (pc := 112) (v := nI 1) dX5_lots_112 rfl ?_
      refine r_iadd (μ := mX5_lots) (pc := 113) dX5_lots_113 ?_
      refine nm_i (fun v114 ev114 => ?_)
      have h := h v114 ev114
      refine r_istore (μ := mX5_lots) (pc := 114) (ls' := [some (.ref 7), some (.int i1), some (.int i2), some (.long v70), none, some (.int i5), some (.int v114), none]) dX5_lots_114 (Nat.le_of_ble_eq_true rfl) rfl rfl ?_
      refine r_aload_n (μ := mX5_lots) (pc := 116) dX5_lots_116 rfl rfl ?_
      refine g_R (μ := mX5_lots) (pc := 117) (k' := 93) fX5_25 dX5_lots_117 rfl rfl ?_
      refine r_iload (μ := mX5_lots) (pc := 120) dX5_lots_120 rfl ?_
      obtain ⟨n122, hx122, h⟩ := h
      refine r_iald (μ := mX5_lots) (pc := 122) dX5_lots_122 rfl hx122 ?_
      refine r_lload_n (μ := mX5_lots) (pc := 123) dX5_lots_123 rfl rfl ?_
      refine r_ldc2 (μ := mX5_lots) (pc := 124) (v := lN 3) dX5_lots_124 kX5_248 ?_
      refine r_lrem (μ := mX5_lots) (pc := 127) dX5_lots_127 (by decide) ?_
      refine r_lconst (μ := mX5_lots) (pc := 128) (v := lN 1) dX5_lots_128 rfl ?_
      refine r_lcmp (μ := mX5_lots) (pc := 129) dX5_lots_129 ?_
      have J130 : ∀ x130 : Int32, x130 = (if (lg_cmp (v70 - v70 / (lN 3) * (lN 3)) (lN 1)) = (nI 0) then (-1) else (nI 1)) → Ev G l mX5_lots (d + 1) 138 [some (.ref 7), some (.int i1), some (.int i2), some (.long v70), none, some (.int i5), some (.int v114), none] [.int x130, .int (T72.1 93 n122)] T72 (QI P) := by
        intro x130 e130
        have h := h x130 e130
        refine r_iadd (μ := mX5_lots) (pc := 138) dX5_lots_138 ?_
        refine r_istore (μ := mX5_lots) (pc := 139) (ls' := [some (.ref 7), some (.int i1), some (.int i2), some (.long v70), none, some (.int i5), some (.int v114), some (.int ((T72.1 93 n122) + x130))]) dX5_lots_139 (Nat.le_of_ble_eq_true rfl) rfl rfl ?_
        refine r_aload_n (μ := mX5_lots) (pc := 141) dX5_lots_141 rfl rfl ?_
        refine g_R (μ := mX5_lots) (pc := 142) (k' := 93) fX5_25 dX5_lots_142 rfl rfl ?_
        refine r_iload (μ := mX5_lots) (pc := 145) dX5_lots_145 rfl ?_
        refine r_aload_n (μ := mX5_lots) (pc := 147) dX5_lots_147 rfl rfl ?_
        refine r_iload (μ := mX5_lots) (pc := 148) dX5_lots_148 rfl ?_
        refine r_callV (μ := mX5_lots) (pc := 150) (as := [.int ((T72.1 93 n122) + x130)]) 5 cX5_195 dX5_lots_150 rfl rfl (Nat.le_of_ble_eq_true rfl) rfl okX5_isCell (Nat.lt_succ_self d) (cat8 (n := 2) rfl (by decide)) rfl h (k_I (fun r150 T150 h => ?_))
        have J153 : ∀ x153 : Int32, x153 = (if r150 = (nI 0) then (T150.1 93 n122) else ((T72.1 93 n122) + x130)) → Ev G l mX5_lots (d + 1) 168 [some (.ref 7), some (.int i1), some (.int i2), some (.long v70), none, some (.int i5), some (.int v114), some (.int ((T72.1 93 n122) + x130))] [.int x153, .int v114, .ref 93] T150 (QI P) := by
          intro x153 e153
          have h := h x153 e153
          refine r_iast (μ := mX5_lots) (pc := 168) dX5_lots_168 rfl hx122 ?_
          refine nm_S (fun S168 eS168 => ?_)
          have h := h S168 eS168
          refine r_iinc (μ := mX5_lots) (pc := 169) (y := nI 1) (ls' := [some (.ref 7), some (.int i1), some (.int i2), some (.long v70), none, some (.int (i5 + (nI 1))), some (.int v114), some (.int ((T72.1 93 n122) + x130))]) dX5_lots_169 rfl rfl (Nat.le_of_ble_eq_true rfl) rfl rfl ?_
          refine r_goto (μ := mX5_lots) (pc := 172) (tgt := 55) dX5_lots_172 (by decide) ?_
          exact Ev.sub (ls' := [some (.ref 7), some (.int i1), some (.int i2), some (.long v70), none, some (.int (i5 + (nI 1))), none, none]) (ls_s (ls_s (ls_s (ls_s (ls_n (ls_s (ls_n (ls_n ls_0)))))))) h
        refine r_if_eq (μ := mX5_lots) (pc := 153) (tgt := 161) dX5_lots_153 (by decide) ⟨fun q153 => ?_, fun q153 => ?_⟩
        · refine r_aload_n (μ := mX5_lots) (pc := 161) dX5_lots_161 rfl rfl ?_
          refine g_R (μ := mX5_lots) (pc := 162) (k' := 93) fX5_25 dX5_lots_162 rfl rfl ?_
          refine r_iload (μ := mX5_lots) (pc := 165) dX5_lots_165 rfl ?_
          refine r_iald (μ := mX5_lots) (pc := 167) dX5_lots_167 rfl hx122 ?_
          exact J153 _ (by first | (rw [if_pos q153]; done) | simp only [if_pos q153])
        · refine r_iload (μ := mX5_lots) (pc := 156) dX5_lots_156 rfl ?_
          refine r_goto (μ := mX5_lots) (pc := 158) (tgt := 168) dX5_lots_158 (by decide) ?_
          exact J153 _ (by first | (rw [if_neg q153]; done) | simp only [if_neg q153])
      refine r_if_ne (μ := mX5_lots) (pc := 130) (tgt := 137) dX5_lots_130 (by decide) ⟨fun q130 => ?_, fun q130 => ?_⟩
      · refine r_iconst (μ := mX5_lots) (pc := 137) (v := nI 1) dX5_lots_137 rfl ?_
        exact J130 _ (by first | (rw [if_neg q130]; done) | simp only [if_neg q130])
      · refine r_iconst (μ := mX5_lots) (pc := 133) (v := (-1)) dX5_lots_133 rfl ?_
        refine r_goto (μ := mX5_lots) (pc := 134) (tgt := 138) dX5_lots_134 (by decide) ?_
        exact J130 _ (by first | (rw [if_pos q130]; done) | simp only [if_pos q130])
    · have h := h.2 q82
      refine r_aload_n (μ := mX5_lots) (pc := 85) dX5_lots_85 rfl rfl ?_
      refine r_callV (μ := mX5_lots) (pc := 86) (as := []) 5 cX5_189 dX5_lots_86 rfl rfl (Nat.le_of_ble_eq_true rfl) rfl okX5_ages (Nat.lt_succ_self d) (cat8 (n := 0) rfl (by decide)) rfl h (k_V (fun T86 h => ?_))
      refine r_goto (μ := mX5_lots) (pc := 89) (tgt := 169) dX5_lots_89 (by decide) ?_
      refine r_iinc (μ := mX5_lots) (pc := 169) (y := nI 1) (ls' := [some (.ref 7), some (.int i1), some (.int i2), some (.long v70), none, some (.int (i5 + (nI 1))), none, none]) dX5_lots_169 rfl rfl (Nat.le_of_ble_eq_true rfl) rfl rfl ?_
      refine r_goto (μ := mX5_lots) (pc := 172) (tgt := 55) dX5_lots_172 (by decide) ?_
      exact h

set_option maxRecDepth 20000 in
theorem bX5_asked_0 {G : Gl} {l : Launch} {d : Nat} {S : Sg} {P : Int32 → Sg → Prop} 
    (h : P (S.1 7 11) S) :
    Ct G l mX5_asked (d + 1) [.ref 7] S (QI P) := by
  show Ev G l mX5_asked (d + 1) 0 [some (.ref 7)] [] S (QI P)
  refine r_aload_n (μ := mX5_asked) (pc := 0) dX5_asked_0 rfl rfl ?_
  refine g_I (μ := mX5_asked) (pc := 1) fX5_67 dX5_asked_1 rfl ?_
  exact r_iret (μ := mX5_asked) (pc := 4) dX5_asked_4 rfl h

set_option maxRecDepth 20000 in
theorem bX5_upper_0 {G : Gl} {l : Launch} {d : Nat} {S : Sg} {P : Int64 → Sg → Prop} 
    (h : P (S.2 7 12) S) :
    Ct G l mX5_upper (d + 1) [.ref 7] S (QL P) := by
  show Ev G l mX5_upper (d + 1) 0 [some (.ref 7)] [] S (QL P)
  refine r_aload_n (μ := mX5_upper) (pc := 0) dX5_upper_0 rfl rfl ?_
  refine g_L (μ := mX5_upper) (pc := 1) fX5_70 dX5_upper_1 rfl ?_
  exact r_lret (μ := mX5_upper) (pc := 4) dX5_upper_4 rfl h

set_option maxRecDepth 20000 in
theorem bX5_lower_0 {G : Gl} {l : Launch} {d : Nat} {S : Sg} {P : Int64 → Sg → Prop} 
    (h : P (S.2 7 13) S) :
    Ct G l mX5_lower (d + 1) [.ref 7] S (QL P) := by
  show Ev G l mX5_lower (d + 1) 0 [some (.ref 7)] [] S (QL P)
  refine r_aload_n (μ := mX5_lower) (pc := 0) dX5_lower_0 rfl rfl ?_
  refine g_L (μ := mX5_lower) (pc := 1) fX5_59 dX5_lower_1 rfl ?_
  exact r_lret (μ := mX5_lower) (pc := 4) dX5_lower_4 rfl h

set_option maxRecDepth 20000 in
theorem bX5_count_0 {G : Gl} {l : Launch} {d : Nat} {S : Sg} {P : Int32 → Sg → Prop} (i1 : Int32)
    (h : (i1 = nI 0 → P (S.1 93 7) S) ∧ (¬ i1 = nI 0 → (i1 = nI 1 → P (S.1 93 0) S) ∧ (¬ i1 = nI 1 → (i1 = nI 2 → P (S.1 93 8) S) ∧ (¬ i1 = nI 2 → (i1 = nI 3 → P (S.1 93 9) S) ∧ (¬ i1 = nI 3 → (i1 = nI 4 → P (S.1 93 1) S) ∧ (¬ i1 = nI 4 → (i1 = nI 5 → P (S.1 93 2) S) ∧ (¬ i1 = nI 5 → (i1 = nI 6 → Ct G l mX5_belongersNow d [.ref 7] S (QI (fun r106 T106 => P r106 T106))) ∧ (¬ i1 = nI 6 → (i1 = nI 7 → Ev G l mX5_count (d + 1) 112 [some (.ref 7), some (.int i1), some (.int (nI 0)), some (.int (nI 0))] [] S (QI P)) ∧ (¬ i1 = nI 7 → (i1 = nI 8 → Ev G l mX5_count (d + 1) 159 [some (.ref 7), some (.int i1), some (.int (nI 0)), some (.int (nI 0))] [] S (QI P)) ∧ (¬ i1 = nI 8 → (i1 = nI 9 → Ev G l mX5_count (d + 1) 192 [some (.ref 7), some (.int i1), some (.int (nI 0)), some (.int (nI 0))] [] S (QI P)) ∧ (¬ i1 = nI 9 → (i1 = nI 10 → Ev G l mX5_count (d + 1) 224 [some (.ref 7), some (.int i1), some (.int (nI 0)), some (.int (nI 0))] [] S (QI P)) ∧ (¬ i1 = nI 10 → P (-1) S)))))))))))) :
    Ct G l mX5_count (d + 1) [.ref 7, .int i1] S (QI P) := by
  show Ev G l mX5_count (d + 1) 0 [some (.ref 7), some (.int i1), none, none] [] S (QI P)
  refine r_iconst (μ := mX5_count) (pc := 0) (v := nI 0) dX5_count_0 rfl ?_
  refine r_istore_n (μ := mX5_count) (pc := 1) (ls' := [some (.ref 7), some (.int i1), some (.int (nI 0)), none]) dX5_count_1 rfl (Nat.le_of_ble_eq_true rfl) rfl rfl ?_
  refine r_iload_n (μ := mX5_count) (pc := 2) dX5_count_2 rfl rfl ?_
  refine r_ts (μ := mX5_count) (pc := 3) (td := 254) [(nI 0, 60), (nI 1, 68), (nI 2, 75), (nI 3, 83), (nI 4, 91), (nI 5, 98), (nI 6, 105), (nI 7, 110), (nI 8, 157), (nI 9, 190), (nI 10, 222)] dX5_count_3 rfl rfl rfl rfl ?_
  refine ⟨fun q3 => ?_, fun q3 => ?_⟩
  · have h := h.1 q3
    refine r_aload_n (μ := mX5_count) (pc := 60) dX5_count_60 rfl rfl ?_
    refine g_R (μ := mX5_count) (pc := 61) (k' := 93) fX5_25 dX5_count_61 rfl rfl ?_
    refine r_bipush (μ := mX5_count) (pc := 64) (v := nI 7) dX5_count_64 rfl ?_
    refine r_iald (μ := mX5_count) (pc := 66) dX5_count_66 rfl (ix_nI (n := 7) (Nat.le_of_ble_eq_true rfl) (Nat.le_of_ble_eq_true rfl)) ?_
    exact r_iret (μ := mX5_count) (pc := 67) dX5_count_67 rfl h
  have h := h.2 q3
  refine ⟨fun q3 => ?_, fun q3 => ?_⟩
  · have h := h.1 q3
    refine r_aload_n (μ := mX5_count) (pc := 68) dX5_count_68 rfl rfl ?_
    refine g_R (μ := mX5_count) (pc := 69) (k' := 93) fX5_25 dX5_count_69 rfl rfl ?_
    refine r_iconst (μ := mX5_count) (pc := 72) (v := nI 0) dX5_count_72 rfl ?_
    refine r_iald (μ := mX5_count) (pc := 73) dX5_count_73 rfl (ix_nI (n := 0) (Nat.le_of_ble_eq_true rfl) (Nat.le_of_ble_eq_true rfl)) ?_
    exact r_iret (μ := mX5_count) (pc := 74) dX5_count_74 rfl h
  have h := h.2 q3
  refine ⟨fun q3 => ?_, fun q3 => ?_⟩
  · have h := h.1 q3
    refine r_aload_n (μ := mX5_count) (pc := 75) dX5_count_75 rfl rfl ?_
    refine g_R (μ := mX5_count) (pc := 76) (k' := 93) fX5_25 dX5_count_76 rfl rfl ?_
    refine r_bipush (μ := mX5_count) (pc := 79) (v := nI 8) dX5_count_79 rfl ?_
    refine r_iald (μ := mX5_count) (pc := 81) dX5_count_81 rfl (ix_nI (n := 8) (Nat.le_of_ble_eq_true rfl) (Nat.le_of_ble_eq_true rfl)) ?_
    exact r_iret (μ := mX5_count) (pc := 82) dX5_count_82 rfl h
  have h := h.2 q3
  refine ⟨fun q3 => ?_, fun q3 => ?_⟩
  · have h := h.1 q3
    refine r_aload_n (μ := mX5_count) (pc := 83) dX5_count_83 rfl rfl ?_
    refine g_R (μ := mX5_count) (pc := 84) (k' := 93) fX5_25 dX5_count_84 rfl rfl ?_
    refine r_bipush (μ := mX5_count) (pc := 87) (v := nI 9) dX5_count_87 rfl ?_
    refine r_iald (μ := mX5_count) (pc := 89) dX5_count_89 rfl (ix_nI (n := 9) (Nat.le_of_ble_eq_true rfl) (Nat.le_of_ble_eq_true rfl)) ?_
    exact r_iret (μ := mX5_count) (pc := 90) dX5_count_90 rfl h
  have h := h.2 q3
  refine ⟨fun q3 => ?_, fun q3 => ?_⟩
  · have h := h.1 q3
    refine r_aload_n (μ := mX5_count) (pc := 91) dX5_count_91 rfl rfl ?_
    refine g_R (μ := mX5_count) (pc := 92) (k' := 93) fX5_25 dX5_count_92 rfl rfl ?_
    refine r_iconst (μ := mX5_count) (pc := 95) (v := nI 1) dX5_count_95 rfl ?_
    refine r_iald (μ := mX5_count) (pc := 96) dX5_count_96 rfl (ix_nI (n := 1) (Nat.le_of_ble_eq_true rfl) (Nat.le_of_ble_eq_true rfl)) ?_
    exact r_iret (μ := mX5_count) (pc := 97) dX5_count_97 rfl h
  have h := h.2 q3
  refine ⟨fun q3 => ?_, fun q3 => ?_⟩
  · have h := h.1 q3
    refine r_aload_n (μ := mX5_count) (pc := 98) dX5_count_98 rfl rfl ?_
    refine g_R (μ := mX5_count) (pc := 99) (k' := 93) fX5_25 dX5_count_99 rfl rfl ?_
    refine r_iconst (μ := mX5_count) (pc := 102) (v := nI 2) dX5_count_102 rfl ?_
    refine r_iald (μ := mX5_count) (pc := 103) dX5_count_103 rfl (ix_nI (n := 2) (Nat.le_of_ble_eq_true rfl) (Nat.le_of_ble_eq_true rfl)) ?_
    exact r_iret (μ := mX5_count) (pc := 104) dX5_count_104 rfl h
  have h := h.2 q3
  refine ⟨fun q3 => ?_, fun q3 => ?_⟩
  · have h := h.1 q3
    refine r_aload_n (μ := mX5_count) (pc := 105) dX5_count_105 rfl rfl ?_
    refine r_callV (μ := mX5_count) (pc := 106) (as := []) 5 cX5_165 dX5_count_106 rfl rfl (Nat.le_of_ble_eq_true rfl) rfl okX5_belongersNow (Nat.lt_succ_self d) (cat8 (n := 0) rfl (by decide)) rfl h (k_I (fun r106 T106 h => ?_))
    exact r_iret (μ := mX5_count) (pc := 109) dX5_count_109 rfl h
  have h := h.2 q3
  refine ⟨fun q3 => ?_, fun q3 => ?_⟩
  · have h := h.1 q3
    refine r_iconst (μ := mX5_count) (pc := 110) (v := nI 0) dX5_count_110 rfl ?_
    refine r_istore_n (μ := mX5_count) (pc := 111) (ls' := [some (.ref 7), some (.int i1), some (.int (nI 0)), some (.int (nI 0))]) dX5_count_111 rfl (Nat.le_of_ble_eq_true rfl) rfl rfl ?_
    exact h
  have h := h.2 q3
  refine ⟨fun q3 => ?_, fun q3 => ?_⟩
  · have h := h.1 q3
    refine r_iconst (μ := mX5_count) (pc := 157) (v := nI 0) dX5_count_157 rfl ?_
    refine r_istore_n (μ := mX5_count) (pc := 158) (ls' := [some (.ref 7), some (.int i1), some (.int (nI 0)), some (.int (nI 0))]) dX5_count_158 rfl (Nat.le_of_ble_eq_true rfl) rfl rfl ?_
    exact h
  have h := h.2 q3
  refine ⟨fun q3 => ?_, fun q3 => ?_⟩
  · have h := h.1 q3
    refine r_iconst (μ := mX5_count) (pc := 190) (v := nI 0) dX5_count_190 rfl ?_
    refine r_istore_n (μ := mX5_count) (pc := 191) (ls' := [some (.ref 7), some (.int i1), some (.int (nI 0)), some (.int (nI 0))]) dX5_count_191 rfl (Nat.le_of_ble_eq_true rfl) rfl rfl ?_
    exact h
  have h := h.2 q3
  refine ⟨fun q3 => ?_, fun q3 => ?_⟩
  · have h := h.1 q3
    refine r_iconst (μ := mX5_count) (pc := 222) (v := nI 0) dX5_count_222 rfl ?_
    refine r_istore_n (μ := mX5_count) (pc := 223) (ls' := [some (.ref 7), some (.int i1), some (.int (nI 0)), some (.int (nI 0))]) dX5_count_223 rfl (Nat.le_of_ble_eq_true rfl) rfl rfl ?_
    exact h
  have h := h.2 q3
  refine r_iconst (μ := mX5_count) (pc := 254) (v := (-1)) dX5_count_254 rfl ?_
  exact r_iret (μ := mX5_count) (pc := 255) dX5_count_255 rfl h

set_option maxRecDepth 20000 in
theorem bX5_count_112 {G : Gl} {l : Launch} {d : Nat} {S : Sg} {P : Int32 → Sg → Prop} (i1 : Int32) (i2 : Int32) (i3 : Int32)
    (h : ((S.1 93 7) ≤ i3 → P i2 S) ∧ (¬ ((S.1 93 7) ≤ i3) → ∃ n134 : Nat, ix ((nI 10) + ((nI 5) * i3)) n134 400 ∧ (Ct G l mX5_isOf d [.int (S.1 93 n134), .int (nI 2)] S (QI (fun r136 T136 => ∀ x139 : Int32, x139 = (if r136 = (nI 0) then (nI 0) else (nI 1)) → (Ev G l mX5_count (d + 1) 112 [some (.ref 7), some (.int i1), some (.int (i2 + x139)), some (.int (i3 + (nI 1)))] [] T136 (QI P))))))) :
    Ev G l mX5_count (d + 1) 112 [some (.ref 7), some (.int i1), some (.int i2), some (.int i3)] [] S (QI P) := by
  show Ev G l mX5_count (d + 1) 112 [some (.ref 7), some (.int i1), some (.int i2), some (.int i3)] [] S (QI P)
  refine r_iload_n (μ := mX5_count) (pc := 112) dX5_count_112 rfl rfl ?_
  refine r_aload_n (μ := mX5_count) (pc := 113) dX5_count_113 rfl rfl ?_
  refine g_R (μ := mX5_count) (pc := 114) (k' := 93) fX5_25 dX5_count_114 rfl rfl ?_
  refine r_bipush (μ := mX5_count) (pc := 117) (v := nI 7) dX5_count_117 rfl ?_
  refine r_iald (μ := mX5_count) (pc := 119) dX5_count_119 rfl (ix_nI (n := 7) (Nat.le_of_ble_eq_true rfl) (Nat.le_of_ble_eq_true rfl)) ?_
  refine r_icmp_ge (μ := mX5_count) (pc := 120) (tgt := 155) dX5_count_120 (by decide) ⟨fun q120 => ?_, fun q120 => ?_⟩
  · have h := h.1 q120
    refine r_iload_n (μ := mX5_count) (pc := 155) dX5_count_155 rfl rfl ?_
    exact r_iret (μ := mX5_count) (pc := 156) dX5_count_156 rfl h
  · have h := h.2 q120
    refine r_iload_n (μ := mX5_count) (pc := 123) dX5_count_123 rfl rfl ?_
    refine r_aload_n (μ := mX5_count) (pc := 124) dX5_count_124 rfl rfl ?_
    refine g_R (μ := mX5_count) (pc := 125) (k' := 93) fX5_25 dX5_count_125 rfl rfl ?_
    refine r_bipush (μ := mX5_count) (pc := 128) (v := nI 10) dX5_count_128 rfl ?_
    refine r_iconst (μ := mX5_count) (pc := 130) (v := nI 5) dX5_count_130 rfl ?_
    refine r_iload_n (μ := mX5_count) (pc := 131) dX5_count_131 rfl rfl ?_
    refine r_imul (μ := mX5_count) (pc := 132) dX5_count_132 ?_
    refine r_iadd (μ := mX5_count) (pc := 133) dX5_count_133 ?_
    obtain ⟨n134, hx134, h⟩ := h
    refine r_iald (μ := mX5_count) (pc := 134) dX5_count_134 rfl hx134 ?_
    refine r_iconst (μ := mX5_count) (pc := 135) (v := nI 2) dX5_count_135 rfl ?_
    refine r_callS (μ := mX5_count) (pc := 136) (as := [.int (S.1 93 n134), .int (nI 2)]) cX5_159 dX5_count_136 rfl okX5_isOf (Nat.lt_succ_self d) (cat8 (n := 1) rfl (by decide)) rfl h (k_I (fun r136 T136 h => ?_))
    have J139 : ∀ x139 : Int32, x139 = (if r136 = (nI 0) then (nI 0) else (nI 1)) → Ev G l mX5_count (d + 1) 147 [some (.ref 7), some (.int i1), some (.int i2), some (.int i3)] [.int x139, .int i2] T136 (QI P) := by
      intro x139 e139
      have h := h x139 e139
      refine r_iadd (μ := mX5_count) (pc := 147) dX5_count_147 ?_
      refine r_istore_n (μ := mX5_count) (pc := 148) (ls' := [some (.ref 7), some (.int i1), some (.int (i2 + x139)), some (.int i3)]) dX5_count_148 rfl (Nat.le_of_ble_eq_true rfl) rfl rfl ?_
      refine r_iinc (μ := mX5_count) (pc := 149) (y := nI 1) (ls' := [some (.ref 7), some (.int i1), some (.int (i2 + x139)), some (.int (i3 + (nI 1)))]) dX5_count_149 rfl rfl (Nat.le_of_ble_eq_true rfl) rfl rfl ?_
      refine r_goto (μ := mX5_count) (pc := 152) (tgt := 112) dX5_count_152 (by decide) ?_
      exact h
    refine r_if_eq (μ := mX5_count) (pc := 139) (tgt := 146) dX5_count_139 (by decide) ⟨fun q139 => ?_, fun q139 => ?_⟩
    · refine r_iconst (μ := mX5_count) (pc := 146) (v := nI 0) dX5_count_146 rfl ?_
      exact J139 _ (by first | (rw [if_pos q139]; done) | simp only [if_pos q139])
    · refine r_iconst (μ := mX5_count) (pc := 142) (v := nI 1) dX5_count_142 rfl ?_
      refine r_goto (μ := mX5_count) (pc := 143) (tgt := 147) dX5_count_143 (by decide) ?_
      exact J139 _ (by first | (rw [if_neg q139]; done) | simp only [if_neg q139])

set_option maxRecDepth 20000 in
theorem bX5_count_159 {G : Gl} {l : Launch} {d : Nat} {S : Sg} {P : Int32 → Sg → Prop} (i1 : Int32) (i2 : Int32) (i3 : Int32)
    (h : ((nI 6) ≤ i3 → P i2 S) ∧ (¬ ((nI 6) ≤ i3) → ∃ n171 : Nat, ix i3 n171 6 ∧ (∀ x172 : Int32, x172 = (if (nI 0) ≤ (S.1 88 n171) then (nI 1) else (nI 0)) → (Ev G l mX5_count (d + 1) 159 [some (.ref 7), some (.int i1), some (.int (i2 + x172)), some (.int (i3 + (nI 1)))] [] S (QI P))))) :
    Ev G l mX5_count (d + 1) 159 [some (.ref 7), some (.int i1), some (.int i2), some (.int i3)] [] S (QI P) := by
  show Ev G l mX5_count (d + 1) 159 [some (.ref 7), some (.int i1), some (.int i2), some (.int i3)] [] S (QI P)
  refine r_iload_n (μ := mX5_count) (pc := 159) dX5_count_159 rfl rfl ?_
  refine r_bipush (μ := mX5_count) (pc := 160) (v := nI 6) dX5_count_160 rfl ?_
  refine r_icmp_ge (μ := mX5_count) (pc := 162) (tgt := 188) dX5_count_162 (by decide) ⟨fun q162 => ?_, fun q162 => ?_⟩
  · have h := h.1 q162
    refine r_iload_n (μ := mX5_count) (pc := 188) dX5_count_188 rfl rfl ?_
    exact r_iret (μ := mX5_count) (pc := 189) dX5_count_189 rfl h
  · have h := h.2 q162
    refine r_iload_n (μ := mX5_count) (pc := 165) dX5_count_165 rfl rfl ?_
    refine r_aload_n (μ := mX5_count) (pc := 166) dX5_count_166 rfl rfl ?_
    refine g_R (μ := mX5_count) (pc := 167) (k' := 88) fX5_7 dX5_count_167 rfl rfl ?_
    refine r_iload_n (μ := mX5_count) (pc := 170) dX5_count_170 rfl rfl ?_
    obtain ⟨n171, hx171, h⟩ := h
    refine r_iald (μ := mX5_count) (pc := 171) dX5_count_171 rfl hx171 ?_
    have J172 : ∀ x172 : Int32, x172 = (if (nI 0) ≤ (S.1 88 n171) then (nI 1) else (nI 0)) → Ev G l mX5_count (d + 1) 180 [some (.ref 7), some (.int i1), some (.int i2), some (.int i3)] [.int x172, .int i2] S (QI P) := by
      intro x172 e172
      have h := h x172 e172
      refine r_iadd (μ := mX5_count) (pc := 180) dX5_count_180 ?_
      refine r_istore_n (μ := mX5_count) (pc := 181) (ls' := [some (.ref 7), some (.int i1), some (.int (i2 + x172)), some (.int i3)]) dX5_count_181 rfl (Nat.le_of_ble_eq_true rfl) rfl rfl ?_
      refine r_iinc (μ := mX5_count) (pc := 182) (y := nI 1) (ls' := [some (.ref 7), some (.int i1), some (.int (i2 + x172)), some (.int (i3 + (nI 1)))]) dX5_count_182 rfl rfl (Nat.le_of_ble_eq_true rfl) rfl rfl ?_
      refine r_goto (μ := mX5_count) (pc := 185) (tgt := 159) dX5_count_185 (by decide) ?_
      exact h
    refine r_if_ge (μ := mX5_count) (pc := 172) (tgt := 179) dX5_count_172 (by decide) ⟨fun q172 => ?_, fun q172 => ?_⟩
    · refine r_iconst (μ := mX5_count) (pc := 179) (v := nI 1) dX5_count_179 rfl ?_
      exact J172 _ (by first | (rw [if_pos q172]; done) | simp only [if_pos q172])
    · refine r_iconst (μ := mX5_count) (pc := 175) (v := nI 0) dX5_count_175 rfl ?_
      refine r_goto (μ := mX5_count) (pc := 176) (tgt := 180) dX5_count_176 (by decide) ?_
      exact J172 _ (by first | (rw [if_neg q172]; done) | simp only [if_neg q172])

set_option maxRecDepth 20000 in
theorem bX5_count_192 {G : Gl} {l : Launch} {d : Nat} {S : Sg} {P : Int32 → Sg → Prop} (i1 : Int32) (i2 : Int32) (i3 : Int32)
    (h : ((nI 4) ≤ i3 → P i2 S) ∧ (¬ ((nI 4) ≤ i3) → ∃ n203 : Nat, ix i3 n203 4 ∧ (∀ x204 : Int32, x204 = (if (nI 0) ≤ (S.1 91 n203) then (nI 1) else (nI 0)) → (Ev G l mX5_count (d + 1) 192 [some (.ref 7), some (.int i1), some (.int (i2 + x204)), some (.int (i3 + (nI 1)))] [] S (QI P))))) :
    Ev G l mX5_count (d + 1) 192 [some (.ref 7), some (.int i1), some (.int i2), some (.int i3)] [] S (QI P) := by
  show Ev G l mX5_count (d + 1) 192 [some (.ref 7), some (.int i1), some (.int i2), some (.int i3)] [] S (QI P)
  refine r_iload_n (μ := mX5_count) (pc := 192) dX5_count_192 rfl rfl ?_
  refine r_iconst (μ := mX5_count) (pc := 193) (v := nI 4) dX5_count_193 rfl ?_
  refine r_icmp_ge (μ := mX5_count) (pc := 194) (tgt := 220) dX5_count_194 (by decide) ⟨fun q194 => ?_, fun q194 => ?_⟩
  · have h := h.1 q194
    refine r_iload_n (μ := mX5_count) (pc := 220) dX5_count_220 rfl rfl ?_
    exact r_iret (μ := mX5_count) (pc := 221) dX5_count_221 rfl h
  · have h := h.2 q194
    refine r_iload_n (μ := mX5_count) (pc := 197) dX5_count_197 rfl rfl ?_
    refine r_aload_n (μ := mX5_count) (pc := 198) dX5_count_198 rfl rfl ?_
    refine g_R (μ := mX5_count) (pc := 199) (k' := 91) fX5_19 dX5_count_199 rfl rfl ?_
    refine r_iload_n (μ := mX5_count) (pc := 202) dX5_count_202 rfl rfl ?_
    obtain ⟨n203, hx203, h⟩ := h
    refine r_iald (μ := mX5_count) (pc := 203) dX5_count_203 rfl hx203 ?_
    have J204 : ∀ x204 : Int32, x204 = (if (nI 0) ≤ (S.1 91 n203) then (nI 1) else (nI 0)) → Ev G l mX5_count (d + 1) 212 [some (.ref 7), some (.int i1), some (.int i2), some (.int i3)] [.int x204, .int i2] S (QI P) := by
      intro x204 e204
      have h := h x204 e204
      refine r_iadd (μ := mX5_count) (pc := 212) dX5_count_212 ?_
      refine r_istore_n (μ := mX5_count) (pc := 213) (ls' := [some (.ref 7), some (.int i1), some (.int (i2 + x204)), some (.int i3)]) dX5_count_213 rfl (Nat.le_of_ble_eq_true rfl) rfl rfl ?_
      refine r_iinc (μ := mX5_count) (pc := 214) (y := nI 1) (ls' := [some (.ref 7), some (.int i1), some (.int (i2 + x204)), some (.int (i3 + (nI 1)))]) dX5_count_214 rfl rfl (Nat.le_of_ble_eq_true rfl) rfl rfl ?_
      refine r_goto (μ := mX5_count) (pc := 217) (tgt := 192) dX5_count_217 (by decide) ?_
      exact h
    refine r_if_ge (μ := mX5_count) (pc := 204) (tgt := 211) dX5_count_204 (by decide) ⟨fun q204 => ?_, fun q204 => ?_⟩
    · refine r_iconst (μ := mX5_count) (pc := 211) (v := nI 1) dX5_count_211 rfl ?_
      exact J204 _ (by first | (rw [if_pos q204]; done) | simp only [if_pos q204])
    · refine r_iconst (μ := mX5_count) (pc := 207) (v := nI 0) dX5_count_207 rfl ?_
      refine r_goto (μ := mX5_count) (pc := 208) (tgt := 212) dX5_count_208 (by decide) ?_
      exact J204 _ (by first | (rw [if_neg q204]; done) | simp only [if_neg q204])

set_option maxRecDepth 20000 in
theorem bX5_count_224 {G : Gl} {l : Launch} {d : Nat} {S : Sg} {P : Int32 → Sg → Prop} (i1 : Int32) (i2 : Int32) (i3 : Int32)
    (h : ((nI 3) ≤ i3 → P i2 S) ∧ (¬ ((nI 3) ≤ i3) → ∃ n235 : Nat, ix i3 n235 3 ∧ (∀ x236 : Int32, x236 = (if (S.1 96 n235) = (nI 0) then (nI 0) else (nI 1)) → (Ev G l mX5_count (d + 1) 224 [some (.ref 7), some (.int i1), some (.int (i2 + x236)), some (.int (i3 + (nI 1)))] [] S (QI P))))) :
    Ev G l mX5_count (d + 1) 224 [some (.ref 7), some (.int i1), some (.int i2), some (.int i3)] [] S (QI P) := by
  show Ev G l mX5_count (d + 1) 224 [some (.ref 7), some (.int i1), some (.int i2), some (.int i3)] [] S (QI P)
  refine r_iload_n (μ := mX5_count) (pc := 224) dX5_count_224 rfl rfl ?_
  refine r_iconst (μ := mX5_count) (pc := 225) (v := nI 3) dX5_count_225 rfl ?_
  refine r_icmp_ge (μ := mX5_count) (pc := 226) (tgt := 252) dX5_count_226 (by decide) ⟨fun q226 => ?_, fun q226 => ?_⟩
  · have h := h.1 q226
    refine r_iload_n (μ := mX5_count) (pc := 252) dX5_count_252 rfl rfl ?_
    exact r_iret (μ := mX5_count) (pc := 253) dX5_count_253 rfl h
  · have h := h.2 q226
    refine r_iload_n (μ := mX5_count) (pc := 229) dX5_count_229 rfl rfl ?_
    refine r_aload_n (μ := mX5_count) (pc := 230) dX5_count_230 rfl rfl ?_
    refine g_R (μ := mX5_count) (pc := 231) (k' := 96) fX5_34 dX5_count_231 rfl rfl ?_
    refine r_iload_n (μ := mX5_count) (pc := 234) dX5_count_234 rfl rfl ?_
    obtain ⟨n235, hx235, h⟩ := h
    refine r_zald (μ := mX5_count) (pc := 235) dX5_count_235 rfl hx235 ?_
    have J236 : ∀ x236 : Int32, x236 = (if (S.1 96 n235) = (nI 0) then (nI 0) else (nI 1)) → Ev G l mX5_count (d + 1) 244 [some (.ref 7), some (.int i1), some (.int i2), some (.int i3)] [.int x236, .int i2] S (QI P) := by
      intro x236 e236
      have h := h x236 e236
      refine r_iadd (μ := mX5_count) (pc := 244) dX5_count_244 ?_
      refine r_istore_n (μ := mX5_count) (pc := 245) (ls' := [some (.ref 7), some (.int i1), some (.int (i2 + x236)), some (.int i3)]) dX5_count_245 rfl (Nat.le_of_ble_eq_true rfl) rfl rfl ?_
      refine r_iinc (μ := mX5_count) (pc := 246) (y := nI 1) (ls' := [some (.ref 7), some (.int i1), some (.int (i2 + x236)), some (.int (i3 + (nI 1)))]) dX5_count_246 rfl rfl (Nat.le_of_ble_eq_true rfl) rfl rfl ?_
      refine r_goto (μ := mX5_count) (pc := 249) (tgt := 224) dX5_count_249 (by decide) ?_
      exact h
    refine r_if_eq (μ := mX5_count) (pc := 236) (tgt := 243) dX5_count_236 (by decide) ⟨fun q236 => ?_, fun q236 => ?_⟩
    · refine r_iconst (μ := mX5_count) (pc := 243) (v := nI 0) dX5_count_243 rfl ?_
      exact J236 _ (by first | (rw [if_pos q236]; done) | simp only [if_pos q236])
    · refine r_iconst (μ := mX5_count) (pc := 239) (v := nI 1) dX5_count_239 rfl ?_
      refine r_goto (μ := mX5_count) (pc := 240) (tgt := 244) dX5_count_240 (by decide) ?_
      exact J236 _ (by first | (rw [if_neg q236]; done) | simp only [if_neg q236])

set_option maxRecDepth 20000 in
theorem bX5_finding_0 {G : Gl} {l : Launch} {d : Nat} {S : Sg} {P : Int32 → Sg → Prop} 
    (h : P (S.1 7 10) S) :
    Ct G l mX5_finding (d + 1) [.ref 7] S (QI P) := by
  show Ev G l mX5_finding (d + 1) 0 [some (.ref 7)] [] S (QI P)
  refine r_aload_n (μ := mX5_finding) (pc := 0) dX5_finding_0 rfl rfl ?_
  refine g_I (μ := mX5_finding) (pc := 1) fX5_63 dX5_finding_1 rfl ?_
  exact r_iret (μ := mX5_finding) (pc := 4) dX5_finding_4 rfl h

set_option maxRecDepth 20000 in
theorem bX5_findings_0 {G : Gl} {l : Launch} {d : Nat} {S : Sg} {P : Int32 → Sg → Prop} (i1 : Int32)
    (h : Ct G l mX5_in d [.int i1, .int (nI 1), .int (nI 5)] S (QI (fun r3 T3 => (¬ (r3 = (nI 0)) → ix i1 ((i1).toNatClampNeg) 6) ∧ ∀ x6 : Int32, x6 = (if r3 = (nI 0) then (-1) else (T3.1 97 (i1).toNatClampNeg)) → (P x6 T3)))) :
    Ct G l mX5_findings (d + 1) [.ref 7, .int i1] S (QI P) := by
  show Ev G l mX5_findings (d + 1) 0 [some (.ref 7), some (.int i1)] [] S (QI P)
  refine r_iload_n (μ := mX5_findings) (pc := 0) dX5_findings_0 rfl rfl ?_
  refine r_iconst (μ := mX5_findings) (pc := 1) (v := nI 1) dX5_findings_1 rfl ?_
  refine r_iconst (μ := mX5_findings) (pc := 2) (v := nI 5) dX5_findings_2 rfl ?_
  refine r_callS (μ := mX5_findings) (pc := 3) (as := [.int i1, .int (nI 1), .int (nI 5)]) cX5_73 dX5_findings_3 rfl okX5_in (Nat.lt_succ_self d) (cat8 (n := 0) rfl (by decide)) rfl h (k_I (fun r3 T3 h => ?_))
  obtain ⟨hp14, h⟩ := h
  have J6 : ∀ x6 : Int32, x6 = (if r3 = (nI 0) then (-1) else (T3.1 97 (i1).toNatClampNeg)) → Ev G l mX5_findings (d + 1) 19 [some (.ref 7), some (.int i1)] [.int x6] T3 (QI P) := by
    intro x6 e6
    have h := h x6 e6
    exact r_iret (μ := mX5_findings) (pc := 19) dX5_findings_19 rfl h
  refine r_if_eq (μ := mX5_findings) (pc := 6) (tgt := 18) dX5_findings_6 (by decide) ⟨fun q6 => ?_, fun q6 => ?_⟩
  · refine r_iconst (μ := mX5_findings) (pc := 18) (v := (-1)) dX5_findings_18 rfl ?_
    exact J6 _ (by first | (rw [if_pos q6]; done) | simp only [if_pos q6])
  · have hp14 := hp14 q6
    refine r_aload_n (μ := mX5_findings) (pc := 9) dX5_findings_9 rfl rfl ?_
    refine g_R (μ := mX5_findings) (pc := 10) (k' := 97) fX5_38 dX5_findings_10 rfl rfl ?_
    refine r_iload_n (μ := mX5_findings) (pc := 13) dX5_findings_13 rfl rfl ?_
    refine r_iald (μ := mX5_findings) (pc := 14) dX5_findings_14 rfl hp14 ?_
    refine r_goto (μ := mX5_findings) (pc := 15) (tgt := 19) dX5_findings_15 (by decide) ?_
    exact J6 _ (by first | (rw [if_neg q6]; done) | simp only [if_neg q6])

set_option maxRecDepth 20000 in
theorem bX5_digest_0 {G : Gl} {l : Launch} {d : Nat} {S : Sg} {P : Int64 → Sg → Prop} 
    (h : Ev G l mX5_digest (d + 1) 6 [some (.ref 7), some (.long (lN 17)), none, some (.int (nI 0)), none] [] S (QL P)) :
    Ct G l mX5_digest (d + 1) [.ref 7] S (QL P) := by
  show Ev G l mX5_digest (d + 1) 0 [some (.ref 7), none, none, none, none] [] S (QL P)
  refine r_ldc2 (μ := mX5_digest) (pc := 0) (v := lN 17) dX5_digest_0 kX5_252 ?_
  refine r_lstore_n (μ := mX5_digest) (pc := 3) (ls' := [some (.ref 7), some (.long (lN 17)), none, none, none]) dX5_digest_3 rfl (Nat.le_of_ble_eq_true rfl) rfl rfl ?_
  refine r_iconst (μ := mX5_digest) (pc := 4) (v := nI 0) dX5_digest_4 rfl ?_
  refine r_istore_n (μ := mX5_digest) (pc := 5) (ls' := [some (.ref 7), some (.long (lN 17)), none, some (.int (nI 0)), none]) dX5_digest_5 rfl (Nat.le_of_ble_eq_true rfl) rfl rfl ?_
  exact h

set_option maxRecDepth 20000 in
theorem bX5_digest_6 {G : Gl} {l : Launch} {d : Nat} {S : Sg} {P : Int64 → Sg → Prop} (j1 : Int64) (i3 : Int32)
    (h : ((nI 11) ≤ i3 → Ev G l mX5_digest (d + 1) 33 [some (.ref 7), some (.long j1), none, some (.int (nI 3)), none] [] S (QL P)) ∧ (¬ ((nI 11) ≤ i3) → Ct G l mX5_count d [.ref 7, .int i3] S (QI (fun r19 T19 => Ev G l mX5_digest (d + 1) 6 [some (.ref 7), some (.long (((lN 31) * j1) + ((r19).toInt64))), none, some (.int (i3 + (nI 1))), none] [] T19 (QL P))))) :
    Ev G l mX5_digest (d + 1) 6 [some (.ref 7), some (.long j1), none, some (.int i3), none] [] S (QL P) := by
  show Ev G l mX5_digest (d + 1) 6 [some (.ref 7), some (.long j1), none, some (.int i3), none] [] S (QL P)
  refine r_iload_n (μ := mX5_digest) (pc := 6) dX5_digest_6 rfl rfl ?_
  refine r_bipush (μ := mX5_digest) (pc := 7) (v := nI 11) dX5_digest_7 rfl ?_
  refine r_icmp_ge (μ := mX5_digest) (pc := 9) (tgt := 31) dX5_digest_9 (by decide) ⟨fun q9 => ?_, fun q9 => ?_⟩
  · have h := h.1 q9
    refine r_iconst (μ := mX5_digest) (pc := 31) (v := nI 3) dX5_digest_31 rfl ?_
    refine r_istore_n (μ := mX5_digest) (pc := 32) (ls' := [some (.ref 7), some (.long j1), none, some (.int (nI 3)), none]) dX5_digest_32 rfl (Nat.le_of_ble_eq_true rfl) rfl rfl ?_
    exact h
  · have h := h.2 q9
    refine r_ldc2 (μ := mX5_digest) (pc := 12) (v := lN 31) dX5_digest_12 kX5_254 ?_
    refine r_lload_n (μ := mX5_digest) (pc := 15) dX5_digest_15 rfl rfl ?_
    refine r_lmul (μ := mX5_digest) (pc := 16) dX5_digest_16 ?_
    refine r_aload_n (μ := mX5_digest) (pc := 17) dX5_digest_17 rfl rfl ?_
    refine r_iload_n (μ := mX5_digest) (pc := 18) dX5_digest_18 rfl rfl ?_
    refine r_callV (μ := mX5_digest) (pc := 19) (as := [.int i3]) 5 cX5_256 dX5_digest_19 rfl rfl (Nat.le_of_ble_eq_true rfl) rfl okX5_count (Nat.lt_succ_self d) (cat8 (n := 2) rfl (by decide)) rfl h (k_I (fun r19 T19 h => ?_))
    refine r_i2l (μ := mX5_digest) (pc := 22) dX5_digest_22 ?_
    refine r_ladd (μ := mX5_digest) (pc := 23) dX5_digest_23 ?_
    refine r_lstore_n (μ := mX5_digest) (pc := 24) (ls' := [some (.ref 7), some (.long (((lN 31) * j1) + ((r19).toInt64))), none, some (.int i3), none]) dX5_digest_24 rfl (Nat.le_of_ble_eq_true rfl) rfl rfl ?_
    refine r_iinc (μ := mX5_digest) (pc := 25) (y := nI 1) (ls' := [some (.ref 7), some (.long (((lN 31) * j1) + ((r19).toInt64))), none, some (.int (i3 + (nI 1))), none]) dX5_digest_25 rfl rfl (Nat.le_of_ble_eq_true rfl) rfl rfl ?_
    refine r_goto (μ := mX5_digest) (pc := 28) (tgt := 6) dX5_digest_28 (by decide) ?_
    exact h

set_option maxRecDepth 20000 in
theorem bX5_digest_33 {G : Gl} {l : Launch} {d : Nat} {S : Sg} {P : Int64 → Sg → Prop} (j1 : Int64) (i3 : Int32)
    (h : ((nI 6) ≤ i3 → Ev G l mX5_digest (d + 1) 67 [some (.ref 7), some (.long j1), none, some (.int (nI 0)), none] [] S (QL P)) ∧ (¬ ((nI 6) ≤ i3) → Ct G l mX5_are d [.ref 7] S (QI (fun r40 T40 => (r40 = (nI 0) → Ev G l mX5_digest (d + 1) 67 [some (.ref 7), some (.long j1), none, some (.int (nI 0)), none] [] T40 (QL P)) ∧ (¬ (r40 = (nI 0)) → Ct G l mX5_coastHas d [.ref 7, .int i3] T40 (QI (fun r53 T53 => Ev G l mX5_digest (d + 1) 33 [some (.ref 7), some (.long (((lN 31) * j1) + ((r53).toInt64))), none, some (.int (i3 + (nI 1))), none] [] T53 (QL P)))))))) :
    Ev G l mX5_digest (d + 1) 33 [some (.ref 7), some (.long j1), none, some (.int i3), none] [] S (QL P) := by
  show Ev G l mX5_digest (d + 1) 33 [some (.ref 7), some (.long j1), none, some (.int i3), none] [] S (QL P)
  refine r_iload_n (μ := mX5_digest) (pc := 33) dX5_digest_33 rfl rfl ?_
  refine r_bipush (μ := mX5_digest) (pc := 34) (v := nI 6) dX5_digest_34 rfl ?_
  refine r_icmp_ge (μ := mX5_digest) (pc := 36) (tgt := 65) dX5_digest_36 (by decide) ⟨fun q36 => ?_, fun q36 => ?_⟩
  · have h := h.1 q36
    refine r_iconst (μ := mX5_digest) (pc := 65) (v := nI 0) dX5_digest_65 rfl ?_
    refine r_istore_n (μ := mX5_digest) (pc := 66) (ls' := [some (.ref 7), some (.long j1), none, some (.int (nI 0)), none]) dX5_digest_66 rfl (Nat.le_of_ble_eq_true rfl) rfl rfl ?_
    exact h
  · have h := h.2 q36
    refine r_aload_n (μ := mX5_digest) (pc := 39) dX5_digest_39 rfl rfl ?_
    refine r_callV (μ := mX5_digest) (pc := 40) (as := []) 5 cX5_176 dX5_digest_40 rfl rfl (Nat.le_of_ble_eq_true rfl) rfl okX5_are (Nat.lt_succ_self d) (cat8 (n := 0) rfl (by decide)) rfl h (k_I (fun r40 T40 h => ?_))
    refine r_if_eq (μ := mX5_digest) (pc := 43) (tgt := 65) dX5_digest_43 (by decide) ⟨fun q43 => ?_, fun q43 => ?_⟩
    · have h := h.1 q43
      refine r_iconst (μ := mX5_digest) (pc := 65) (v := nI 0) dX5_digest_65 rfl ?_
      refine r_istore_n (μ := mX5_digest) (pc := 66) (ls' := [some (.ref 7), some (.long j1), none, some (.int (nI 0)), none]) dX5_digest_66 rfl (Nat.le_of_ble_eq_true rfl) rfl rfl ?_
      exact h
    · have h := h.2 q43
      refine r_ldc2 (μ := mX5_digest) (pc := 46) (v := lN 31) dX5_digest_46 kX5_254 ?_
      refine r_lload_n (μ := mX5_digest) (pc := 49) dX5_digest_49 rfl rfl ?_
      refine r_lmul (μ := mX5_digest) (pc := 50) dX5_digest_50 ?_
      refine r_aload_n (μ := mX5_digest) (pc := 51) dX5_digest_51 rfl rfl ?_
      refine r_iload_n (μ := mX5_digest) (pc := 52) dX5_digest_52 rfl rfl ?_
      refine r_callV (μ := mX5_digest) (pc := 53) (as := [.int i3]) 5 cX5_180 dX5_digest_53 rfl rfl (Nat.le_of_ble_eq_true rfl) rfl okX5_coastHas (Nat.lt_succ_self d) (cat8 (n := 2) rfl (by decide)) rfl h (k_I (fun r53 T53 h => ?_))
      refine r_i2l (μ := mX5_digest) (pc := 56) dX5_digest_56 ?_
      refine r_ladd (μ := mX5_digest) (pc := 57) dX5_digest_57 ?_
      refine r_lstore_n (μ := mX5_digest) (pc := 58) (ls' := [some (.ref 7), some (.long (((lN 31) * j1) + ((r53).toInt64))), none, some (.int i3), none]) dX5_digest_58 rfl (Nat.le_of_ble_eq_true rfl) rfl rfl ?_
      refine r_iinc (μ := mX5_digest) (pc := 59) (y := nI 1) (ls' := [some (.ref 7), some (.long (((lN 31) * j1) + ((r53).toInt64))), none, some (.int (i3 + (nI 1))), none]) dX5_digest_59 rfl rfl (Nat.le_of_ble_eq_true rfl) rfl rfl ?_
      refine r_goto (μ := mX5_digest) (pc := 62) (tgt := 33) dX5_digest_62 (by decide) ?_
      exact h

set_option maxRecDepth 20000 in
theorem bX5_digest_67 {G : Gl} {l : Launch} {d : Nat} {S : Sg} {P : Int64 → Sg → Prop} (j1 : Int64) (i3 : Int32)
    (h : (((nI 6) * (S.1 93 7)) ≤ i3 → Ev G l mX5_digest (d + 1) 109 [some (.ref 7), some (.long j1), none, some (.int (nI 0)), none] [] S (QL P)) ∧ (¬ (((nI 6) * (S.1 93 7)) ≤ i3) → Ct G l mX5_oneHas d [.ref 7, .int (i3 / (nI 6)), .int (i3 - i3 / (nI 6) * (nI 6))] S (QI (fun r95 T95 => Ev G l mX5_digest (d + 1) 67 [some (.ref 7), some (.long (((lN 31) * j1) + ((r95).toInt64))), none, some (.int (i3 + (nI 1))), none] [] T95 (QL P))))) :
    Ev G l mX5_digest (d + 1) 67 [some (.ref 7), some (.long j1), none, some (.int i3), none] [] S (QL P) := by
  show Ev G l mX5_digest (d + 1) 67 [some (.ref 7), some (.long j1), none, some (.int i3), none] [] S (QL P)
  refine r_iload_n (μ := mX5_digest) (pc := 67) dX5_digest_67 rfl rfl ?_
  refine r_bipush (μ := mX5_digest) (pc := 68) (v := nI 6) dX5_digest_68 rfl ?_
  refine r_aload_n (μ := mX5_digest) (pc := 70) dX5_digest_70 rfl rfl ?_
  refine g_R (μ := mX5_digest) (pc := 71) (k' := 93) fX5_25 dX5_digest_71 rfl rfl ?_
  refine r_bipush (μ := mX5_digest) (pc := 74) (v := nI 7) dX5_digest_74 rfl ?_
  refine r_iald (μ := mX5_digest) (pc := 76) dX5_digest_76 rfl (ix_nI (n := 7) (Nat.le_of_ble_eq_true rfl) (Nat.le_of_ble_eq_true rfl)) ?_
  refine r_imul (μ := mX5_digest) (pc := 77) dX5_digest_77 ?_
  refine r_icmp_ge (μ := mX5_digest) (pc := 78) (tgt := 107) dX5_digest_78 (by decide) ⟨fun q78 => ?_, fun q78 => ?_⟩
  · have h := h.1 q78
    refine r_iconst (μ := mX5_digest) (pc := 107) (v := nI 0) dX5_digest_107 rfl ?_
    refine r_istore_n (μ := mX5_digest) (pc := 108) (ls' := [some (.ref 7), some (.long j1), none, some (.int (nI 0)), none]) dX5_digest_108 rfl (Nat.le_of_ble_eq_true rfl) rfl rfl ?_
    exact h
  · have h := h.2 q78
    refine r_ldc2 (μ := mX5_digest) (pc := 81) (v := lN 31) dX5_digest_81 kX5_254 ?_
    refine r_lload_n (μ := mX5_digest) (pc := 84) dX5_digest_84 rfl rfl ?_
    refine r_lmul (μ := mX5_digest) (pc := 85) dX5_digest_85 ?_
    refine r_aload_n (μ := mX5_digest) (pc := 86) dX5_digest_86 rfl rfl ?_
    refine r_iload_n (μ := mX5_digest) (pc := 87) dX5_digest_87 rfl rfl ?_
    refine r_bipush (μ := mX5_digest) (pc := 88) (v := nI 6) dX5_digest_88 rfl ?_
    refine r_idiv (μ := mX5_digest) (pc := 90) dX5_digest_90 (by decide) ?_
    refine r_iload_n (μ := mX5_digest) (pc := 91) dX5_digest_91 rfl rfl ?_
    refine r_bipush (μ := mX5_digest) (pc := 92) (v := nI 6) dX5_digest_92 rfl ?_
    refine r_irem (μ := mX5_digest) (pc := 94) dX5_digest_94 (by decide) ?_
    refine r_callV (μ := mX5_digest) (pc := 95) (as := [.int (i3 / (nI 6)), .int (i3 - i3 / (nI 6) * (nI 6))]) 5 cX5_153 dX5_digest_95 rfl rfl (Nat.le_of_ble_eq_true rfl) rfl okX5_oneHas (Nat.lt_succ_self d) (cat8 (n := 2) rfl (by decide)) rfl h (k_I (fun r95 T95 h => ?_))
    refine r_i2l (μ := mX5_digest) (pc := 98) dX5_digest_98 ?_
    refine r_ladd (μ := mX5_digest) (pc := 99) dX5_digest_99 ?_
    refine r_lstore_n (μ := mX5_digest) (pc := 100) (ls' := [some (.ref 7), some (.long (((lN 31) * j1) + ((r95).toInt64))), none, some (.int i3), none]) dX5_digest_100 rfl (Nat.le_of_ble_eq_true rfl) rfl rfl ?_
    refine r_iinc (μ := mX5_digest) (pc := 101) (y := nI 1) (ls' := [some (.ref 7), some (.long (((lN 31) * j1) + ((r95).toInt64))), none, some (.int (i3 + (nI 1))), none]) dX5_digest_101 rfl rfl (Nat.le_of_ble_eq_true rfl) rfl rfl ?_
    refine r_goto (μ := mX5_digest) (pc := 104) (tgt := 67) dX5_digest_104 (by decide) ?_
    exact h

set_option maxRecDepth 20000 in
theorem bX5_digest_109 {G : Gl} {l : Launch} {d : Nat} {S : Sg} {P : Int64 → Sg → Prop} (j1 : Int64) (i3 : Int32)
    (h : ((nI 3) ≤ i3 → Ev G l mX5_digest (d + 1) 156 [some (.ref 7), some (.long j1), none, some (.int (nI 0)), none] [] S (QL P)) ∧ (¬ ((nI 3) ≤ i3) → ∃ n124 : Nat, ix i3 n124 3 ∧ ((¬ ((S.1 96 n124) = (nI 0)) → ix (((nI 400) * i3) + (nI 9)) ((((nI 400) * i3) + (nI 9)).toNatClampNeg) 1200) ∧ ∀ x125 : Int32, x125 = (if (S.1 96 n124) = (nI 0) then (-1) else (S.1 95 (((nI 400) * i3) + (nI 9)).toNatClampNeg)) → (Ev G l mX5_digest (d + 1) 109 [some (.ref 7), some (.long (((lN 31) * j1) + ((x125).toInt64))), none, some (.int (i3 + (nI 1))), none] [] S (QL P))))) :
    Ev G l mX5_digest (d + 1) 109 [some (.ref 7), some (.long j1), none, some (.int i3), none] [] S (QL P) := by
  show Ev G l mX5_digest (d + 1) 109 [some (.ref 7), some (.long j1), none, some (.int i3), none] [] S (QL P)
  refine r_iload_n (μ := mX5_digest) (pc := 109) dX5_digest_109 rfl rfl ?_
  refine r_iconst (μ := mX5_digest) (pc := 110) (v := nI 3) dX5_digest_110 rfl ?_
  refine r_icmp_ge (μ := mX5_digest) (pc := 111) (tgt := 154) dX5_digest_111 (by decide) ⟨fun q111 => ?_, fun q111 => ?_⟩
  · have h := h.1 q111
    refine r_iconst (μ := mX5_digest) (pc := 154) (v := nI 0) dX5_digest_154 rfl ?_
    refine r_istore_n (μ := mX5_digest) (pc := 155) (ls' := [some (.ref 7), some (.long j1), none, some (.int (nI 0)), none]) dX5_digest_155 rfl (Nat.le_of_ble_eq_true rfl) rfl rfl ?_
    exact h
  · have h := h.2 q111
    refine r_ldc2 (μ := mX5_digest) (pc := 114) (v := lN 31) dX5_digest_114 kX5_254 ?_
    refine r_lload_n (μ := mX5_digest) (pc := 117) dX5_digest_117 rfl rfl ?_
    refine r_lmul (μ := mX5_digest) (pc := 118) dX5_digest_118 ?_
    refine r_aload_n (μ := mX5_digest) (pc := 119) dX5_digest_119 rfl rfl ?_
    refine g_R (μ := mX5_digest) (pc := 120) (k' := 96) fX5_34 dX5_digest_120 rfl rfl ?_
    refine r_iload_n (μ := mX5_digest) (pc := 123) dX5_digest_123 rfl rfl ?_
    obtain ⟨n124, hx124, h⟩ := h
    refine r_zald (μ := mX5_digest) (pc := 124) dX5_digest_124 rfl hx124 ?_
    obtain ⟨hp140, h⟩ := h
    have J125 : ∀ x125 : Int32, x125 = (if (S.1 96 n124) = (nI 0) then (-1) else (S.1 95 (((nI 400) * i3) + (nI 9)).toNatClampNeg)) → Ev G l mX5_digest (d + 1) 145 [some (.ref 7), some (.long j1), none, some (.int i3), none] [.int x125, .long ((lN 31) * j1)] S (QL P) := by
      intro x125 e125
      have h := h x125 e125
      refine r_i2l (μ := mX5_digest) (pc := 145) dX5_digest_145 ?_
      refine r_ladd (μ := mX5_digest) (pc := 146) dX5_digest_146 ?_
      refine r_lstore_n (μ := mX5_digest) (pc := 147) (ls' := [some (.ref 7), some (.long (((lN 31) * j1) + ((x125).toInt64))), none, some (.int i3), none]) dX5_digest_147 rfl (Nat.le_of_ble_eq_true rfl) rfl rfl ?_
      refine r_iinc (μ := mX5_digest) (pc := 148) (y := nI 1) (ls' := [some (.ref 7), some (.long (((lN 31) * j1) + ((x125).toInt64))), none, some (.int (i3 + (nI 1))), none]) dX5_digest_148 rfl rfl (Nat.le_of_ble_eq_true rfl) rfl rfl ?_
      refine r_goto (μ := mX5_digest) (pc := 151) (tgt := 109) dX5_digest_151 (by decide) ?_
      exact h
    refine r_if_eq (μ := mX5_digest) (pc := 125) (tgt := 144) dX5_digest_125 (by decide) ⟨fun q125 => ?_, fun q125 => ?_⟩
    · refine r_iconst (μ := mX5_digest) (pc := 144) (v := (-1)) dX5_digest_144 rfl ?_
      exact J125 _ (by first | (rw [if_pos q125]; done) | simp only [if_pos q125])
    · have hp140 := hp140 q125
      refine r_aload_n (μ := mX5_digest) (pc := 128) dX5_digest_128 rfl rfl ?_
      refine g_R (μ := mX5_digest) (pc := 129) (k' := 95) fX5_31 dX5_digest_129 rfl rfl ?_
      refine r_sipush (μ := mX5_digest) (pc := 132) (v := nI 400) dX5_digest_132 rfl ?_
      refine r_iload_n (μ := mX5_digest) (pc := 135) dX5_digest_135 rfl rfl ?_
      refine r_imul (μ := mX5_digest) (pc := 136) dX5_digest_136 ?_
      refine r_bipush (μ := mX5_digest) (pc := 137) (v := nI 9) dX5_digest_137 rfl ?_
      refine r_iadd (μ := mX5_digest) (pc := 139) dX5_digest_139 ?_
      refine r_iald (μ := mX5_digest) (pc := 140) dX5_digest_140 rfl hp140 ?_
      refine r_goto (μ := mX5_digest) (pc := 141) (tgt := 145) dX5_digest_141 (by decide) ?_
      exact J125 _ (by first | (rw [if_neg q125]; done) | simp only [if_neg q125])

set_option maxRecDepth 20000 in
theorem bX5_digest_156 {G : Gl} {l : Launch} {d : Nat} {S : Sg} {P : Int64 → Sg → Prop} (j1 : Int64) (i3 : Int32)
    (h : ((nI 6) ≤ i3 → Ev G l mX5_digest (d + 1) 224 [some (.ref 7), some (.long j1), none, some (.int (nI 0)), none] [] S (QL P)) ∧ (¬ ((nI 6) ≤ i3) → ∃ n172 : Nat, ix i3 n172 6 ∧ (Ev G l mX5_digest (d + 1) 179 [some (.ref 7), some (.long (((lN 31) * j1) + ((S.1 88 n172).toInt64))), none, some (.int i3), some (.int (nI 0))] [] S (QL P)))) :
    Ev G l mX5_digest (d + 1) 156 [some (.ref 7), some (.long j1), none, some (.int i3), none] [] S (QL P) := by
  show Ev G l mX5_digest (d + 1) 156 [some (.ref 7), some (.long j1), none, some (.int i3), none] [] S (QL P)
  refine r_iload_n (μ := mX5_digest) (pc := 156) dX5_digest_156 rfl rfl ?_
  refine r_bipush (μ := mX5_digest) (pc := 157) (v := nI 6) dX5_digest_157 rfl ?_
  refine r_icmp_ge (μ := mX5_digest) (pc := 159) (tgt := 222) dX5_digest_159 (by decide) ⟨fun q159 => ?_, fun q159 => ?_⟩
  · have h := h.1 q159
    refine r_iconst (μ := mX5_digest) (pc := 222) (v := nI 0) dX5_digest_222 rfl ?_
    refine r_istore_n (μ := mX5_digest) (pc := 223) (ls' := [some (.ref 7), some (.long j1), none, some (.int (nI 0)), none]) dX5_digest_223 rfl (Nat.le_of_ble_eq_true rfl) rfl rfl ?_
    exact h
  · have h := h.2 q159
    refine r_ldc2 (μ := mX5_digest) (pc := 162) (v := lN 31) dX5_digest_162 kX5_254 ?_
    refine r_lload_n (μ := mX5_digest) (pc := 165) dX5_digest_165 rfl rfl ?_
    refine r_lmul (μ := mX5_digest) (pc := 166) dX5_digest_166 ?_
    refine r_aload_n (μ := mX5_digest) (pc := 167) dX5_digest_167 rfl rfl ?_
    refine g_R (μ := mX5_digest) (pc := 168) (k' := 88) fX5_7 dX5_digest_168 rfl rfl ?_
    refine r_iload_n (μ := mX5_digest) (pc := 171) dX5_digest_171 rfl rfl ?_
    obtain ⟨n172, hx172, h⟩ := h
    refine r_iald (μ := mX5_digest) (pc := 172) dX5_digest_172 rfl hx172 ?_
    refine r_i2l (μ := mX5_digest) (pc := 173) dX5_digest_173 ?_
    refine r_ladd (μ := mX5_digest) (pc := 174) dX5_digest_174 ?_
    refine r_lstore_n (μ := mX5_digest) (pc := 175) (ls' := [some (.ref 7), some (.long (((lN 31) * j1) + ((S.1 88 n172).toInt64))), none, some (.int i3), none]) dX5_digest_175 rfl (Nat.le_of_ble_eq_true rfl) rfl rfl ?_
    refine r_iconst (μ := mX5_digest) (pc := 176) (v := nI 0) dX5_digest_176 rfl ?_
    refine r_istore (μ := mX5_digest) (pc := 177) (ls' := [some (.ref 7), some (.long (((lN 31) * j1) + ((S.1 88 n172).toInt64))), none, some (.int i3), some (.int (nI 0))]) dX5_digest_177 (Nat.le_of_ble_eq_true rfl) rfl rfl ?_
    exact h

set_option maxRecDepth 20000 in
theorem bX5_digest_179 {G : Gl} {l : Launch} {d : Nat} {S : Sg} {P : Int64 → Sg → Prop} (j1 : Int64) (i3 : Int32) (i4 : Int32)
    (h : ∃ n186 : Nat, ix i3 n186 6 ∧ (((S.1 88 n186) ≤ i4 → Ev G l mX5_digest (d + 1) 156 [some (.ref 7), some (.long j1), none, some (.int (i3 + (nI 1))), none] [] S (QL P)) ∧ (¬ ((S.1 88 n186) ≤ i4) → ∃ n206 : Nat, ix (((nI 40) * i3) + i4) n206 240 ∧ (Ev G l mX5_digest (d + 1) 179 [some (.ref 7), some (.long (((lN 31) * j1) + ((S.1 89 n206).toInt64))), none, some (.int i3), some (.int (i4 + (nI 1)))] [] S (QL P))))) :
    Ev G l mX5_digest (d + 1) 179 [some (.ref 7), some (.long j1), none, some (.int i3), some (.int i4)] [] S (QL P) := by
  show Ev G l mX5_digest (d + 1) 179 [some (.ref 7), some (.long j1), none, some (.int i3), some (.int i4)] [] S (QL P)
  refine r_iload (μ := mX5_digest) (pc := 179) dX5_digest_179 rfl ?_
  refine r_aload_n (μ := mX5_digest) (pc := 181) dX5_digest_181 rfl rfl ?_
  refine g_R (μ := mX5_digest) (pc := 182) (k' := 88) fX5_7 dX5_digest_182 rfl rfl ?_
  refine r_iload_n (μ := mX5_digest) (pc := 185) dX5_digest_185 rfl rfl ?_
  obtain ⟨n186, hx186, h⟩ := h
  refine r_iald (μ := mX5_digest) (pc := 186) dX5_digest_186 rfl hx186 ?_
  refine r_icmp_ge (μ := mX5_digest) (pc := 187) (tgt := 216) dX5_digest_187 (by decide) ⟨fun q187 => ?_, fun q187 => ?_⟩
  · have h := h.1 q187
    refine r_iinc (μ := mX5_digest) (pc := 216) (y := nI 1) (ls' := [some (.ref 7), some (.long j1), none, some (.int (i3 + (nI 1))), some (.int i4)]) dX5_digest_216 rfl rfl (Nat.le_of_ble_eq_true rfl) rfl rfl ?_
    refine r_goto (μ := mX5_digest) (pc := 219) (tgt := 156) dX5_digest_219 (by decide) ?_
    exact Ev.sub (ls' := [some (.ref 7), some (.long j1), none, some (.int (i3 + (nI 1))), none]) (ls_s (ls_s (ls_n (ls_s (ls_n ls_0))))) h
  · have h := h.2 q187
    refine r_ldc2 (μ := mX5_digest) (pc := 190) (v := lN 31) dX5_digest_190 kX5_254 ?_
    refine r_lload_n (μ := mX5_digest) (pc := 193) dX5_digest_193 rfl rfl ?_
    refine r_lmul (μ := mX5_digest) (pc := 194) dX5_digest_194 ?_
    refine r_aload_n (μ := mX5_digest) (pc := 195) dX5_digest_195 rfl rfl ?_
    refine g_R (μ := mX5_digest) (pc := 196) (k' := 89) fX5_13 dX5_digest_196 rfl rfl ?_
    refine r_bipush (μ := mX5_digest) (pc := 199) (v := nI 40) dX5_digest_199 rfl ?_
    refine r_iload_n (μ := mX5_digest) (pc := 201) dX5_digest_201 rfl rfl ?_
    refine r_imul (μ := mX5_digest) (pc := 202) dX5_digest_202 ?_
    refine r_iload (μ := mX5_digest) (pc := 203) dX5_digest_203 rfl ?_
    refine r_iadd (μ := mX5_digest) (pc := 205) dX5_digest_205 ?_
    obtain ⟨n206, hx206, h⟩ := h
    refine r_iald (μ := mX5_digest) (pc := 206) dX5_digest_206 rfl hx206 ?_
    refine r_i2l (μ := mX5_digest) (pc := 207) dX5_digest_207 ?_
    refine r_ladd (μ := mX5_digest) (pc := 208) dX5_digest_208 ?_
    refine r_lstore_n (μ := mX5_digest) (pc := 209) (ls' := [some (.ref 7), some (.long (((lN 31) * j1) + ((S.1 89 n206).toInt64))), none, some (.int i3), some (.int i4)]) dX5_digest_209 rfl (Nat.le_of_ble_eq_true rfl) rfl rfl ?_
    refine r_iinc (μ := mX5_digest) (pc := 210) (y := nI 1) (ls' := [some (.ref 7), some (.long (((lN 31) * j1) + ((S.1 89 n206).toInt64))), none, some (.int i3), some (.int (i4 + (nI 1)))]) dX5_digest_210 rfl rfl (Nat.le_of_ble_eq_true rfl) rfl rfl ?_
    refine r_goto (μ := mX5_digest) (pc := 213) (tgt := 179) dX5_digest_213 (by decide) ?_
    exact h

set_option maxRecDepth 20000 in
theorem bX5_digest_224 {G : Gl} {l : Launch} {d : Nat} {S : Sg} {P : Int64 → Sg → Prop} (j1 : Int64) (i3 : Int32)
    (h : ((nI 4) ≤ i3 → P j1 S) ∧ (¬ ((nI 4) ≤ i3) → ∃ n239 : Nat, ix i3 n239 4 ∧ (Ev G l mX5_digest (d + 1) 246 [some (.ref 7), some (.long (((lN 31) * j1) + ((S.1 91 n239).toInt64))), none, some (.int i3), some (.int (nI 0))] [] S (QL P)))) :
    Ev G l mX5_digest (d + 1) 224 [some (.ref 7), some (.long j1), none, some (.int i3), none] [] S (QL P) := by
  show Ev G l mX5_digest (d + 1) 224 [some (.ref 7), some (.long j1), none, some (.int i3), none] [] S (QL P)
  refine r_iload_n (μ := mX5_digest) (pc := 224) dX5_digest_224 rfl rfl ?_
  refine r_iconst (μ := mX5_digest) (pc := 225) (v := nI 4) dX5_digest_225 rfl ?_
  refine r_icmp_ge (μ := mX5_digest) (pc := 226) (tgt := 289) dX5_digest_226 (by decide) ⟨fun q226 => ?_, fun q226 => ?_⟩
  · have h := h.1 q226
    refine r_lload_n (μ := mX5_digest) (pc := 289) dX5_digest_289 rfl rfl ?_
    exact r_lret (μ := mX5_digest) (pc := 290) dX5_digest_290 rfl h
  · have h := h.2 q226
    refine r_ldc2 (μ := mX5_digest) (pc := 229) (v := lN 31) dX5_digest_229 kX5_254 ?_
    refine r_lload_n (μ := mX5_digest) (pc := 232) dX5_digest_232 rfl rfl ?_
    refine r_lmul (μ := mX5_digest) (pc := 233) dX5_digest_233 ?_
    refine r_aload_n (μ := mX5_digest) (pc := 234) dX5_digest_234 rfl rfl ?_
    refine g_R (μ := mX5_digest) (pc := 235) (k' := 91) fX5_19 dX5_digest_235 rfl rfl ?_
    refine r_iload_n (μ := mX5_digest) (pc := 238) dX5_digest_238 rfl rfl ?_
    obtain ⟨n239, hx239, h⟩ := h
    refine r_iald (μ := mX5_digest) (pc := 239) dX5_digest_239 rfl hx239 ?_
    refine r_i2l (μ := mX5_digest) (pc := 240) dX5_digest_240 ?_
    refine r_ladd (μ := mX5_digest) (pc := 241) dX5_digest_241 ?_
    refine r_lstore_n (μ := mX5_digest) (pc := 242) (ls' := [some (.ref 7), some (.long (((lN 31) * j1) + ((S.1 91 n239).toInt64))), none, some (.int i3), none]) dX5_digest_242 rfl (Nat.le_of_ble_eq_true rfl) rfl rfl ?_
    refine r_iconst (μ := mX5_digest) (pc := 243) (v := nI 0) dX5_digest_243 rfl ?_
    refine r_istore (μ := mX5_digest) (pc := 244) (ls' := [some (.ref 7), some (.long (((lN 31) * j1) + ((S.1 91 n239).toInt64))), none, some (.int i3), some (.int (nI 0))]) dX5_digest_244 (Nat.le_of_ble_eq_true rfl) rfl rfl ?_
    exact h

set_option maxRecDepth 20000 in
theorem bX5_digest_246 {G : Gl} {l : Launch} {d : Nat} {S : Sg} {P : Int64 → Sg → Prop} (j1 : Int64) (i3 : Int32) (i4 : Int32)
    (h : ∃ n253 : Nat, ix i3 n253 4 ∧ (((S.1 91 n253) ≤ i4 → Ev G l mX5_digest (d + 1) 224 [some (.ref 7), some (.long j1), none, some (.int (i3 + (nI 1))), none] [] S (QL P)) ∧ (¬ ((S.1 91 n253) ≤ i4) → ∃ n273 : Nat, ix (((nI 60) * i3) + i4) n273 240 ∧ (Ev G l mX5_digest (d + 1) 246 [some (.ref 7), some (.long (((lN 31) * j1) + ((S.1 92 n273).toInt64))), none, some (.int i3), some (.int (i4 + (nI 1)))] [] S (QL P))))) :
    Ev G l mX5_digest (d + 1) 246 [some (.ref 7), some (.long j1), none, some (.int i3), some (.int i4)] [] S (QL P) := by
  show Ev G l mX5_digest (d + 1) 246 [some (.ref 7), some (.long j1), none, some (.int i3), some (.int i4)] [] S (QL P)
  refine r_iload (μ := mX5_digest) (pc := 246) dX5_digest_246 rfl ?_
  refine r_aload_n (μ := mX5_digest) (pc := 248) dX5_digest_248 rfl rfl ?_
  refine g_R (μ := mX5_digest) (pc := 249) (k' := 91) fX5_19 dX5_digest_249 rfl rfl ?_
  refine r_iload_n (μ := mX5_digest) (pc := 252) dX5_digest_252 rfl rfl ?_
  obtain ⟨n253, hx253, h⟩ := h
  refine r_iald (μ := mX5_digest) (pc := 253) dX5_digest_253 rfl hx253 ?_
  refine r_icmp_ge (μ := mX5_digest) (pc := 254) (tgt := 283) dX5_digest_254 (by decide) ⟨fun q254 => ?_, fun q254 => ?_⟩
  · have h := h.1 q254
    refine r_iinc (μ := mX5_digest) (pc := 283) (y := nI 1) (ls' := [some (.ref 7), some (.long j1), none, some (.int (i3 + (nI 1))), some (.int i4)]) dX5_digest_283 rfl rfl (Nat.le_of_ble_eq_true rfl) rfl rfl ?_
    refine r_goto (μ := mX5_digest) (pc := 286) (tgt := 224) dX5_digest_286 (by decide) ?_
    exact Ev.sub (ls' := [some (.ref 7), some (.long j1), none, some (.int (i3 + (nI 1))), none]) (ls_s (ls_s (ls_n (ls_s (ls_n ls_0))))) h
  · have h := h.2 q254
    refine r_ldc2 (μ := mX5_digest) (pc := 257) (v := lN 31) dX5_digest_257 kX5_254 ?_
    refine r_lload_n (μ := mX5_digest) (pc := 260) dX5_digest_260 rfl rfl ?_
    refine r_lmul (μ := mX5_digest) (pc := 261) dX5_digest_261 ?_
    refine r_aload_n (μ := mX5_digest) (pc := 262) dX5_digest_262 rfl rfl ?_
    refine g_R (μ := mX5_digest) (pc := 263) (k' := 92) fX5_22 dX5_digest_263 rfl rfl ?_
    refine r_bipush (μ := mX5_digest) (pc := 266) (v := nI 60) dX5_digest_266 rfl ?_
    refine r_iload_n (μ := mX5_digest) (pc := 268) dX5_digest_268 rfl rfl ?_
    refine r_imul (μ := mX5_digest) (pc := 269) dX5_digest_269 ?_
    refine r_iload (μ := mX5_digest) (pc := 270) dX5_digest_270 rfl ?_
    refine r_iadd (μ := mX5_digest) (pc := 272) dX5_digest_272 ?_
    obtain ⟨n273, hx273, h⟩ := h
    refine r_iald (μ := mX5_digest) (pc := 273) dX5_digest_273 rfl hx273 ?_
    refine r_i2l (μ := mX5_digest) (pc := 274) dX5_digest_274 ?_
    refine r_ladd (μ := mX5_digest) (pc := 275) dX5_digest_275 ?_
    refine r_lstore_n (μ := mX5_digest) (pc := 276) (ls' := [some (.ref 7), some (.long (((lN 31) * j1) + ((S.1 92 n273).toInt64))), none, some (.int i3), some (.int i4)]) dX5_digest_276 rfl (Nat.le_of_ble_eq_true rfl) rfl rfl ?_
    refine r_iinc (μ := mX5_digest) (pc := 277) (y := nI 1) (ls' := [some (.ref 7), some (.long (((lN 31) * j1) + ((S.1 92 n273).toInt64))), none, some (.int i3), some (.int (i4 + (nI 1)))]) dX5_digest_277 rfl rfl (Nat.le_of_ble_eq_true rfl) rfl rfl ?_
    refine r_goto (μ := mX5_digest) (pc := 280) (tgt := 246) dX5_digest_280 (by decide) ?_
    exact h

