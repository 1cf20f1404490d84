/-! step, walk, undo -/
section step
variable {G : Gl} {l : Launch} {d : Nat} {S : Sg} {H : Nat → Nat → Nat} {n : Nat} {m : Nat → Nat} {P : Int32 → Sg → Prop} {F : Int32 → Int32 → Sg → Prop}
theorem i_sub_m1 (a : Nat) : nI a - (-1) = nI (a + 1) := by
  rw [← z_add_m1 a, Int32.add_sub_cancel]
theorem z_sub_m1 {a b : Nat} (ha : a < 1073741824) (hb : b < 1073741824) : nI a - nI b = -1 ↔ a + 1 = b := by
  rw [← Int32.toInt_inj, z_subT ha hb, z_m1]
  omega
def stW (s : Nat) (back : Bool) (w : Nat) : Nat := if s = 0 then (if back = true then w - 1 else w + 1) else w
def stE (s : Nat) (back : Bool) (e : Nat) : Nat := if s = 0 then e else (if back = true then e + 1 else e - 1)
theorem st_ok {s w e : Nat} (hs : s < 2) (h0 : m 0 ≤ 9) (hwe : w ≤ e) (he : e ≤ m 0) (back : Bool) (hc : sCan m s back w e = true) :
    nI w - (if nI s = nI 0 then byI back else nI 0) = nI (stW s back w) ∧ nI e + (if nI s = nI 1 then byI back else nI 0) = nI (stE s back e) ∧ nI w + (if nI s = nI 0 then (0 - byI back) else nI 0) = nI (stW s back w) ∧ stW s back w ≤ stE s back e ∧ stE s back e ≤ m 0 := by
  have d1 : ¬ nI 0 = nI 1 := by decide
  have d2 : ¬ nI 1 = nI 0 := by decide
  rcases (show s = 0 ∨ s = 1 by omega) with rfl | rfl
  · cases back
    · have hc : w < e := by simpa [sCan] using hc
      simp only [if_true, if_neg d1, byI, stW, stE, Bool.false_eq_true, if_false]
      refine ⟨i_sub_m1 w, z_add e 0, ?_, by omega, by omega⟩
      rw [show (0 : Int32) - (-1) = nI 1 by decide, z_add]
    · have hc : 0 < w := by simpa [sCan] using hc
      simp only [if_true, if_neg d1, byI, stW, stE]
      refine ⟨z_sub hc, z_add e 0, ?_, by omega, by omega⟩
      rw [show (0 : Int32) - nI 1 = -1 by decide]
      conv => lhs; rw [show w = (w - 1) + 1 by omega, z_add_m1]
  · cases back
    · have hc : w < e := by simpa [sCan] using hc
      simp only [if_true, if_neg d2, byI, stW, stE, Bool.false_eq_true, if_false, Nat.one_ne_zero]
      refine ⟨z_sub (Nat.zero_le _), ?_, z_add w 0, by omega, by omega⟩
      conv => lhs; rw [show e = (e - 1) + 1 by omega, z_add_m1]
    · have hc : e < m 0 := by simpa [sCan] using hc
      simp only [if_true, if_neg d2, byI, stW, stE, Nat.one_ne_zero, if_false]
      exact ⟨z_sub (Nat.zero_le _), z_add e 1, z_add w 0, by omega, by omega⟩
theorem st_no {s w e : Nat} (hs : s < 2) (h0 : m 0 ≤ 9) (hwe : w ≤ e) (he : e ≤ m 0) (back : Bool) (hc : sCan m s back w e = false) :
    ¬ (¬ (nI w - (if nI s = nI 0 then byI back else nI 0)) < nI 0 ∧ ¬ (nI e + (if nI s = nI 1 then byI back else nI 0)) < (nI w - (if nI s = nI 0 then byI back else nI 0)) ∧ ¬ nI (m 0) < (nI e + (if nI s = nI 1 then byI back else nI 0))) := by
  have d1 : ¬ nI 0 = nI 1 := by decide
  have d2 : ¬ nI 1 = nI 0 := by decide
  rintro ⟨a1, a2, a3⟩
  rcases (show s = 0 ∨ s = 1 by omega) with rfl | rfl
  · cases back
    · have hc : e ≤ w := by simpa [sCan] using hc
      simp only [if_true, if_neg d1, byI, Bool.false_eq_true, if_false] at a1 a2 a3
      rw [i_sub_m1, z_add, z_lt (by omega) (by omega)] at a2
      omega
    · have hc : w = 0 := by simpa [sCan] using hc
      simp only [if_true, if_neg d1, byI] at a1 a2 a3
      subst hc
      exact a1 (by decide)
  · cases back
    · have hc : e ≤ w := by simpa [sCan] using hc
      simp only [if_true, if_neg d2, byI, Bool.false_eq_true, if_false] at a1 a2 a3
      obtain rfl : w = e := by omega
      rcases (show w = 0 ∨ 0 < w by omega) with q | q
      · subst q
        exact a2 (by decide)
      · apply a2
        conv => lhs; rw [show w = (w - 1) + 1 by omega, z_add_m1]
        rw [z_sub (Nat.zero_le _), z_lt (by omega) (by omega)]
        omega
    · have hc : m 0 ≤ e := by simpa [sCan] using hc
      simp only [if_true, if_neg d2, byI] at a1 a2 a3
      rw [z_add, z_lt (by omega) (by omega)] at a3
      omega
/-- a side has moved -/
def mst (m : Nat → Nat) (s : Nat) (back : Bool) : Nat → Nat := fun k => if k = 1 then stW s back (m 1) else if k = 2 then stE s back (m 2) else if k = 9 then m 9 + 1 else m k
theorem mst_o {s k : Nat} {back : Bool} (h : k ≠ 1 ∧ k ≠ 2 ∧ k ≠ 9) : mst m s back k = m k := by
  unfold mst
  rw [if_neg h.1, if_neg h.2.1, if_neg h.2.2]
theorem u_step_in {T : Sg} {s : Nat} (hs : s < 2) (back : Bool) (h : Ev G l mX5_step (d + 5) 21 [some (.ref 7), some (.int (nI s)), some (.int (byI back)), none, none] [] T (QI P)) : Ct G l mX5_step (d + 5) [.ref 7, .int (nI s), .int (byI back)] T (QI P) := by
  refine bX5_step_0 _ _ (u_inN _ 2 1 rfl (by omega) ?_)
  rw [b2n_y hs (by omega)]
  refine ⟨fun z => absurd z (by decide), fun _ => ?_⟩
  cases back
  · exact ⟨fun z => absurd z (by decide), fun _ => ⟨fun _ => h, fun z => absurd rfl z⟩⟩
  · exact ⟨fun _ => h, fun z => absurd rfl z⟩
theorem step_21 (hR : R S) {s : Nat} (hs : s < 2) (back : Bool) (h : ∀ r S', R S' → F r r S') : Ev G l mX4_step (d + 20) 21 [some (.ref 0), some (.int (nI s)), some (.int (byI back))] [] S (QI (fun r T => Ct G l mX5_step (d + 20) [.ref 7, .int (nI s), .int (byI back)] T (QI (fun r2 T2 => F r r2 T2)))) := by
  obtain ⟨H, n, hH, hD, hM⟩ := hR.2.2.2.2.2.1
  obtain ⟨hI, e9⟩ := hH.2.1 n (Nat.le_refl n)
  have hv := hD.1
  have hu : MV S (H n) := hM.1
  have h40 := hH.1
  obtain ⟨c0, c1, c2, -⟩ := hI.1
  refine bX4_step_21 _ _ (t_isThere la28 hv hI ?_)
  by_cases hc : 0 < H n 0
  · rw [b2y hc]
    refine ⟨fun z => absurd z (by decide), fun _ => ?_⟩
    rw [hv.w, hv.e]
    refine t_canMove la28 hv hI back hs (by omega) (by omega) ?_
    cases hcm : sCan (H n) s back (H n 1) (H n 2)
    · refine ⟨fun z => absurd rfl z, fun _ => u_step_in hs back (bX5_step_21 _ _ (fun x1 e1 x2 e2 => u_are hu hI ?_))⟩
      subst e1 e2
      rw [b2y hc]
      refine ⟨fun z => absurd z (by decide), fun _ => u_areCoasts hu _ _ ?_⟩
      rw [hu 1 (by omega), hu 2 (by omega), b2f (st_no hs c0 c1 c2 back hcm)]
      exact ⟨fun z => absurd rfl z, fun _ => h _ _ hR⟩
    · obtain ⟨k1, k2, k3, k4, k5⟩ := st_ok hs c0 c1 c2 back hcm
      refine ⟨fun _ => t_hasRoomFor la28 hv hI (n := 1) (by omega) ?_, fun z => absurd z (by decide)⟩
      have hyes : b2 (decide (¬ (nI (H n 1) - (if nI s = nI 0 then byI back else nI 0)) < nI 0 ∧ ¬ (nI (H n 2) + (if nI s = nI 1 then byI back else nI 0)) < (nI (H n 1) - (if nI s = nI 0 then byI back else nI 0)) ∧ ¬ nI (H n 0) < (nI (H n 2) + (if nI s = nI 1 then byI back else nI 0)))) = nI 1 := by
        rw [k1, k2]
        exact b2y ⟨n_in (by omega), by rw [z_lt (by omega) (by omega)]; omega, by rw [z_lt (by omega) (by omega)]; omega⟩
      by_cases hf : n < 40
      · rw [b2y (by omega)]
        have hI' : IV (mst (H n) s back) := by
          refine hI.chg rfl (by omega) hc k4 k5 (by rw [mst_o (by omega)]; omega) (fun k hk q => mst_o (by omega)) (fun i hi => ?_)
          rw [mst_o (by omega)]
          exact ⟨(hI.2 i hi).2.1, fun q => ((hI.2 i hi).2.2.2.2.2 q).1⟩
        have h9' : mst (H n) s back 9 = n + 1 := by
          show H n 9 + 1 = _
          rw [e9]
        have hH' := hH.push hf hI' h9' (fun k hk q => mst_o (by omega))
        have h12 := hI.1.2.2.2.2.2.2.2.2.2.2.2 hc
        refine ⟨fun _ x1 e1 x2 e2 => ?_, fun z => absurd z (by decide)⟩
        subst e1 e2
        refine t_act la28 hD hH hf (wk := 0) (by omega) (m' := mst (H n) s back) k3 k2 (z_add _ _) (by rw [z_add]; rfl) h9' (fun k hk q => mst_o (by omega)) (fun T hT hf2 h2 => ?_)
        have hvT := hT.1
        rw [hx_n] at hvT
        refine t_strip la28 hvT hI' ?_
        have e93 : T.1 93 = S.1 93 := hf2 93 (by omega) (by omega) (by omega)
        have hMT : MH (T.1 93) H n := by rw [e93]; exact hM
        have huT : MV T (H n) := hMT.1
        refine u_step_in hs back (bX5_step_21 _ _ (fun x1 e1 x2 e2 => u_are huT hI ?_))
        subst e1 e2
        rw [b2y hc]
        refine ⟨fun z => absurd z (by decide), fun _ => u_areCoasts huT _ _ ?_⟩
        rw [huT 1 (by omega), huT 2 (by omega), hyes, k1, k2]
        refine ⟨fun _ => ⟨fun _ => u_notes hMT hH hf (fun M' g1 g2 g3 S1 e1 S2 e2 => ?_), fun q => ?_⟩, fun z => absurd z (by decide)⟩
        · have eS : S2 = (u1 T.1 93 (upd (upd M' 1 (nI (stW s back (H n 1)))) 2 (nI (stE s back (H n 2)))), T.2) := by
            rw [e2, e1]
            simp only [u1_put]
          rw [eS, z_sub k4]
          refine h _ _ (hR.deed hf2 h2 hH' hT (MH.push (fun k hk => ?_) (fun e he => (g3 e he).mv (fun j hj => by rw [pk_un (by omega), pk_un (by omega)]))))
          rcases (show k = 1 ∨ k = 2 ∨ k = 9 ∨ (k ≠ 1 ∧ k ≠ 2 ∧ k ≠ 9) by omega) with rfl | rfl | rfl | q
          · rw [pk_un (by omega), pk_us]
            rfl
          · rw [pk_us]
            rfl
          · rw [pk_un (by omega), pk_un (by omega), g2, h9']
          · rw [pk_un q.2.1, pk_un q.1, g1 k hk q.2.2, huT k hk, mst_o q]
        · rw [huT 9 (by omega), e9, z_eq (by omega) (by omega)] at q
          omega
      · rw [b2f (by omega)]
        refine ⟨fun z => absurd rfl z, fun _ => u_step_in hs back (bX5_step_21 _ _ (fun x1 e1 x2 e2 => u_are hu hI ?_))⟩
        subst e1 e2
        rw [b2y hc]
        refine ⟨fun z => absurd z (by decide), fun _ => u_areCoasts hu _ _ ?_⟩
        rw [hu 1 (by omega), hu 2 (by omega), hyes]
        refine ⟨fun _ => ⟨fun q => ?_, fun _ => h _ _ hR⟩, fun z => absurd z (by decide)⟩
        rw [hu 9 (by omega), e9, show n = 40 by omega] at q
        exact absurd rfl q
  · rw [b2f hc]
    refine ⟨fun _ => u_step_in hs back (bX5_step_21 _ _ (fun x1 e1 x2 e2 => u_are hu hI ?_)), fun z => absurd rfl z⟩
    rw [b2f hc]
    exact ⟨fun _ => h _ _ hR, fun z => absurd rfl z⟩
theorem pm_step (hR : R S) (i1 i2 : Int32) (h : ∀ r S', R S' → F r r S') : Ct G l mX4_step (d + 20) [.ref 0, .int i1, .int i2] S (QI (fun r T => Ct G l mX5_step (d + 20) [.ref 7, .int i1, .int i2] T (QI (fun r2 T2 => F r r2 T2)))) := by
  rcases o_cases i1 2 (by omega) with q | ⟨s, hs, rfl⟩
  · refine bX4_step_0 _ _ ⟨fun z => (n_bad q (by omega) (by omega) z).elim, fun _ => ⟨fun _ => bX5_step_0 _ _ (u_inN _ 2 1 rfl (by omega) ?_), fun z => (n_bad q (by omega) (by omega) z).elim⟩⟩
    rw [b2n_n q]
    exact ⟨fun _ => h _ _ hR, fun z => absurd rfl z⟩
  · have K9 : Ev G l mX4_step (d + 20) 9 [some (.ref 0), some (.int (nI s)), some (.int i2)] [] S (QI (fun r T => Ct G l mX5_step (d + 20) [.ref 7, .int (nI s), .int i2] T (QI (fun r2 T2 => F r r2 T2)))) := by
      refine bX4_step_9 _ _ ⟨fun z => ?_, fun z1 => ⟨fun z => ?_, fun z2 => bX5_step_0 _ _ (u_inN _ 2 1 rfl (by omega) ?_)⟩⟩
      · subst z
        exact step_21 hR hs true h
      · subst z
        exact step_21 hR hs false h
      · rw [b2n_y hs (by omega)]
        exact ⟨fun z => absurd z (by decide), fun _ => ⟨fun z => absurd z z1, fun _ => ⟨fun z => absurd z z2, fun _ => h _ _ hR⟩⟩⟩
    refine bX4_step_0 _ _ ⟨fun _ => K9, fun z => ⟨fun z2 => ?_, fun _ => K9⟩⟩
    rw [z_eq (by omega) (by omega)] at z z2
    omega
/-- one has walked -/
def mwk (m : Nat → Nat) (j c : Nat) : Nat → Nat := fun k => if k = 11 + 5 * j then c else if k = 9 then m 9 + 1 else m k
theorem mwk_o {j c k : Nat} (h : k ≠ 11 + 5 * j ∧ k ≠ 9) : mwk m j c k = m k := by
  unfold mwk
  rw [if_neg h.1, if_neg h.2]
theorem mwk_w {j c : Nat} : mwk m j c (11 + 5 * j) = c := if_pos rfl
theorem mwk_9 {j c : Nat} : mwk m j c 9 = m 9 + 1 := by
  unfold mwk
  rw [if_neg (by omega), if_pos rfl]
theorem mwk_IV (hI : IV m) (hn : m 9 < 40) (hc : 0 < m 0) {j c : Nat} (hj : c < m 0) : IV (mwk m j c) := by
  have c0 := hI.1.1
  refine hI.chg mwk_9 hn hc ?_ ?_ ?_ (fun k hk q => mwk_o (by omega)) (fun i hi => ?_)
  · rw [mwk_o (by omega), mwk_o (by omega)]
    exact hI.1.2.1
  · rw [mwk_o (by omega)]
    exact hI.1.2.2.1
  · rw [mwk_o (by omega)]
    omega
  · by_cases q : i = j
    · subst q
      rw [mwk_w]
      exact ⟨by omega, fun _ => hj⟩
    · rw [mwk_o (by omega)]
      exact ⟨(hI.2 i hi).2.1, fun q => ((hI.2 i hi).2.2.2.2.2 q).1⟩
theorem mwk_HI (hH : HI H n) (hn : n < 40) (hc : 0 < H n 0) {j c : Nat} (hj : c < H n 0) : HI (hx H n (mwk (H n) j c)) (n + 1) := by
  obtain ⟨hI, e9⟩ := hH.2.1 n (Nat.le_refl n)
  exact hH.push hn (mwk_IV hI (by omega) hc hj) (by rw [mwk_9, e9]) (fun k hk q => mwk_o (by omega))
theorem mwk_MH {M' : Nat → Int32} (hH : HI H n) (k1 : ∀ k, k < 40 → k ≠ 9 → M' k = nI (H n k)) (k2 : M' 9 = nI (n + 1)) (k3 : ∀ e, e < n + 1 → MD M' H e) {j c : Nat} : MH (upd M' (11 + 5 * j) (nI c)) (hx H n (mwk (H n) j c)) (n + 1) ∨ ¬ j < 6 := by
  by_cases hj : j < 6
  · refine Or.inl (MH.push (fun k hk => ?_) (fun e he => (k3 e he).mv (fun i hi => pk_un (by omega))))
    by_cases q : k = 11 + 5 * j
    · subst q
      rw [pk_us, mwk_w]
    · rw [pk_un q]
      by_cases q9 : k = 9
      · subst q9
        rw [k2, mwk_9, (hH.2.1 n (Nat.le_refl n)).2]
      · rw [k1 k hk q9, mwk_o ⟨q, q9⟩]
  · exact Or.inr hj
theorem pm_walk (hR : R S) (i1 i2 : Int32) (h : ∀ r S', R S' → F r r S') : Ct G l mX4_walk (d + 20) [.ref 0, .int i1, .int i2] S (QI (fun r T => Ct G l mX5_walk (d + 20) [.ref 7, .int i1, .int i2] T (QI (fun r2 T2 => F r r2 T2)))) := by
  obtain ⟨H, n, hH, hD, hM⟩ := hR.2.2.2.2.2.1
  obtain ⟨hI, e9⟩ := hH.2.1 n (Nat.le_refl n)
  have hv := hD.1
  have hu : MV S (H n) := hM.1
  have h40 := hH.1
  have hp := hI.p6
  have c0 := hI.1.1
  refine bX4_walk_0 _ _ (t_hasOne la28 hv _ ?_)
  rcases o_cases i1 (H n 7) (by omega) with q | ⟨j, hj, rfl⟩
  · rw [hasOne_n q]
    refine ⟨fun _ => bX5_walk_0 _ _ (u_isOne hu hI _ ?_), fun z => absurd rfl z⟩
    rw [hasOne_n q]
    exact ⟨fun _ => h _ _ hR, fun z => absurd rfl z⟩
  rw [hasOne_y hI hj]
  refine ⟨fun z => absurd z (by decide), fun _ => t_hasCell la28 hv _ ?_⟩
  have hM1 : ∀ (T : Sg) (r : Int32), MV T (H n) → (¬ b2n i2 (H n 0) = nI 0 → Ev G l mX5_walk (d + 20) 0 (ini mX5_walk.2.2.1 [.ref 7, .int (nI j), .int i2]) [] T (QI (fun r2 T2 => F r r2 T2))) → (b2n i2 (H n 0) = nI 0 → F r (-1) T) → Ct G l mX5_walk (d + 20) [.ref 7, .int (nI j), .int i2] T (QI (fun r2 T2 => F r r2 T2)) := by
    intro T r huT k1 k2
    by_cases q : b2n i2 (H n 0) = nI 0
    · refine bX5_walk_0 _ _ (u_isOne huT hI _ ?_)
      rw [hasOne_y hI hj]
      refine ⟨fun z => absurd z (by decide), fun _ => u_isCell huT hI _ ?_⟩
      rw [show b2 (decide (¬ i2 < nI 0 ∧ ¬ nI (H n 0) ≤ i2)) = nI 0 from q]
      exact ⟨fun z => absurd rfl z, fun _ => k2 q⟩
    · exact k1 q
  rcases o_cases i2 (H n 0) (by omega) with q | ⟨c, hc, rfl⟩
  · rw [show b2 (decide (¬ i2 < nI 0 ∧ ¬ nI (H n 0) ≤ i2)) = nI 0 from b2n_n q]
    exact ⟨fun z => absurd rfl z, fun _ => hM1 _ _ hu (fun z => absurd (b2n_n q) z) (fun _ => h _ _ hR)⟩
  clear hM1
  have hyc : b2 (decide (¬ nI c < nI 0 ∧ ¬ nI (H n 0) ≤ nI c)) = nI 1 := b2n_y hc (by omega)
  have h0 : 0 < H n 0 := by omega
  obtain ⟨-, g1, -, -, -, g5⟩ := hI.2 j (by omega)
  have hcl := (g5 hj).1
  rw [hyc]
  have e30 : S.1 30 j = nI (H n (11 + 5 * j)) := hv.cl hj
  refine ⟨fun _ => ⟨j, ix_nI (by omega) (by omega), ?_⟩, fun z => absurd z (by decide)⟩
  rw [e30, z_sub_eq (by omega) (by omega) (by omega), z_sub_m1 (by omega) (by omega)]
  -- the reference, up to the notes
  have hMo : ∀ (T : Sg) (r : Int32), MV T (H n) → (¬ (c = H n (11 + 5 * j) + 1 ∨ H n (11 + 5 * j) = c + 1) → F r (-4) T) → ((c = H n (11 + 5 * j) + 1 ∨ H n (11 + 5 * j) = c + 1) → (n = 40 → F r (-2) T) ∧ (n < 40 → Ct G l mX5_notes (d + 19) [.ref 7] T (QV (fun T58 => ∀ S74 : Sg, S74 = (u2 T58.1 93 (11 + 5 * j) (nI c), T58.2) → Ct G l mX5_oneHas (d + 19) [.ref 7, .int (nI j), .int (nI 5)] S74 (QI (fun r78 T78 => F r r78 T78)))))) → Ct G l mX5_walk (d + 20) [.ref 7, .int (nI j), .int (nI c)] T (QI (fun r2 T2 => F r r2 T2)) := by
    intro T r huT k1 k2
    refine bX5_walk_0 _ _ (u_isOne huT hI _ ?_)
    rw [hasOne_y hI hj]
    refine ⟨fun z => absurd z (by decide), fun _ => u_isCell huT hI _ ?_⟩
    rw [hyc]
    refine ⟨fun _ => ⟨11 + 5 * j, ix_i (z_at j 1) (by omega) (by omega), ?_⟩, fun z => absurd z (by decide)⟩
    rw [huT _ (by omega)]
    refine u_off (by omega) (by omega) ⟨fun q => ?_, fun q => ?_⟩
    · rw [z_eq (by split <;> omega) (by omega)] at q
      have hb : c = H n (11 + 5 * j) + 1 ∨ H n (11 + 5 * j) = c + 1 := by
        split at q <;> omega
      obtain ⟨k3, k4⟩ := k2 hb
      rw [huT 9 (by omega), e9, z_eq (by omega) (by omega)]
      exact ⟨fun z => k4 (by omega), k3⟩
    · rw [z_eq (by split <;> omega) (by omega)] at q
      exact k1 (fun z => q (by split <;> omega))
  have K49 : (c = H n (11 + 5 * j) + 1 ∨ H n (11 + 5 * j) = c + 1) → Ev G l mX4_walk (d + 20) 49 [some (.ref 0), some (.int (nI j)), some (.int (nI c)), some (.int (nI c - nI (H n (11 + 5 * j))))] [] S (QI (fun r T => Ct G l mX5_walk (d + 20) [.ref 7, .int (nI j), .int (nI c)] T (QI (fun r2 T2 => F r r2 T2)))) := by
    intro hb
    refine bX4_walk_49 _ _ _ (t_hasRoomFor la28 hv hI (n := 1) (by omega) ?_)
    by_cases hf : n < 40
    · rw [b2y (by omega)]
      have hI' := mwk_IV hI (by omega) h0 (j := j) hc
      have hH' := mwk_HI hH hf h0 (j := j) hc
      refine ⟨fun _ => t_act la28 hD hH hf (wk := j) hj (m' := mwk (H n) j c) (by rw [z_add, mwk_o (by omega)]; rfl) (by rw [z_add, mwk_o (by omega)]; rfl) (by rw [z_add, mwk_o (by omega)]; rfl) (by rw [i_as, mwk_w]) (by rw [mwk_9, e9]) (fun k hk q => mwk_o (by omega)) (fun T hT hf2 h2 => ?_), fun z => absurd z (by decide)⟩
      have hvT := hT.1
      rw [hx_n] at hvT
      refine t_belongs la28 hvT hI' (by rw [mwk_o (by omega)]; exact hj) (fun x ex => ?_)
      rw [b2c] at ex
      subst ex
      have e93 : T.1 93 = S.1 93 := hf2 93 (by omega) (by omega) (by omega)
      have hMT : MH (T.1 93) H n := by rw [e93]; exact hM
      have huT : MV T (H n) := hMT.1
      refine hMo T _ huT (fun z => absurd hb z) (fun _ => ⟨fun z => absurd z (by omega), fun _ => u_notes hMT hH hf (fun M' g1 g2 g3 S1 e1 => ?_)⟩)
      have hm2 := (mwk_MH hH (fun k hk q => by rw [g1 k hk q]; exact huT k hk) g2 g3 (j := j) (c := c)).resolve_right (by omega)
      have eS : S1 = (u1 T.1 93 (upd M' (11 + 5 * j) (nI c)), T.2) := by
        rw [e1]
        simp only [u1_put]
      subst eS
      have hu2 : MV (u1 T.1 93 (upd M' (11 + 5 * j) (nI c)), T.2) (mwk (H n) j c) := by
        intro k hk
        have a := hm2.1 k hk
        rw [hx_n] at a
        rw [← a]
        show u1 T.1 93 (upd M' (11 + 5 * j) (nI c)) 93 k = upd M' (11 + 5 * j) (nI c) k
        rw [u1_s]
      exact u_oneHas hu2 hI' (by omega) (w := 5) (by omega) (h _ _ (hR.deed hf2 h2 hH' hT hm2))
    · rw [b2f (by omega)]
      exact ⟨fun z => absurd rfl z, fun _ => hMo S _ hu (fun z => absurd hb z) (fun _ => ⟨fun _ => h _ _ hR, fun z => absurd z hf⟩)⟩
  refine ⟨fun q => K49 (by omega), fun q1 => ⟨fun q => K49 (by omega), fun q2 => hMo S _ hu (fun _ => h _ _ hR) (fun z => absurd z (by omega))⟩⟩
end step
