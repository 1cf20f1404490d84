/-! rows and texts, changed -/
section pub2
variable {G : Gl} {l : Launch} {d : Nat} {S : Sg} {P : Int32 → Sg → Prop} {F : Int32 → Int32 → Sg → Prop}
theorem R.rows {S' : Sg} (h : R S) {x : Nat} (hx : x < 6) (E : ∀ k, k ≠ 0 ∧ k ≠ 7 ∧ k ≠ 8 + x ∧ k ≠ 18 + x ∧ k ≠ 88 ∧ k ≠ 89 → S'.1 k = S.1 k) (E88 : ∀ y, y ≠ x → S'.1 88 y = S.1 88 y) (E89 : ∀ y i, y < 6 → y ≠ x → i < 40 → S'.1 89 (40 * y + i) = S.1 89 (40 * y + i)) (hxx : RR S' x) (hF : RF S') (hQ : RQ S') (hL : RL2 S') : R S' := by
  refine ⟨fun y hy => ?_, fun y hy => (h.2.1 y hy).fr E (by omega), hF, hQ, hL, h.2.2.2.2.2.1.fr E ⟨fun k h1 h2 => by omega, by omega⟩, fun k hk => (h.2.2.2.2.2.2 k hk).fr E ⟨fun j h1 h2 => by omega, by omega, by omega⟩⟩
  by_cases q : y = x
  · subst q
    exact hxx
  · have := h.1 y hy
    unfold RR at this ⊢
    rw [E (8 + y) (by omega), E (18 + y) (by omega), E88 y q]
    refine ⟨this.1, this.2.imp (fun z => z) ?_⟩
    rintro ⟨n, h1, h2, h3⟩
    exact ⟨n, h1, h2, fun i hi => by rw [E89 y i hy q (by omega)]; exact h3 i hi⟩
theorem R.txts {S' : Sg} (h : R S) {x : Nat} (hx : x < 4) (E : ∀ k, k ≠ 14 + x ∧ k ≠ 24 + x ∧ k ≠ 91 ∧ k ≠ 92 → S'.1 k = S.1 k) (E91 : ∀ y, y ≠ x → S'.1 91 y = S.1 91 y) (E92 : ∀ y i, y < 4 → y ≠ x → i < 60 → S'.1 92 (60 * y + i) = S.1 92 (60 * y + i)) (hxx : RT S' x) (h2 : S'.2 = S.2) : R S' := by
  refine ⟨fun y hy => (h.1 y hy).fr E (by omega), fun y hy => ?_, ?_, ?_, ?_, h.2.2.2.2.2.1.fr E ⟨fun k h1 h2 => by omega, by omega⟩, fun k hk => (h.2.2.2.2.2.2 k hk).fr E ⟨fun j h1 h2 => by omega, by omega, by omega⟩⟩
  · by_cases q : y = x
    · subst q
      exact hxx
    · have := h.2.1 y hy
      unfold RT at this ⊢
      rw [E (14 + y) (by omega), E (24 + y) (by omega), E91 y q]
      refine ⟨this.1, this.2.imp (fun z => z) ?_⟩
      rintro ⟨n, h1, h2, h3⟩
      exact ⟨n, h1, h2, fun i hi => by rw [E92 y i hy q (by omega)]; exact h3 i hi⟩
  · have := h.2.2.1
    unfold RF at this ⊢
    rw [E 0 (by omega), E 7 (by omega), E 6 (by omega), E 97 (by omega)]
    exact this
  · have := h.2.2.2.1
    unfold RQ at this ⊢
    rw [E 0 (by omega), E 7 (by omega)]
    exact this
  · have := h.2.2.2.2.1
    unfold RL2 at this ⊢
    rw [h2]
    exact this
theorem pm_tear (hR : R S) (i1 : Int32) (h : ∀ r S', R S' → F r r S') : Ct G l mX4_tear (d + 20) [.ref 0, .int i1] S (QI (fun r T => Ct G l mX5_tear (d + 20) [.ref 7, .int i1] T (QI (fun r2 T2 => F r r2 T2)))) := by
  refine bX4_tear_0 _ ?_
  rcases o_cases i1 6 (by omega) with q | ⟨j, hj, rfl⟩
  · refine t_rm_bad sh1 q ⟨fun z => absurd z (by decide), fun _ => bX5_tear_0 _ (u_isRow _ ?_)⟩
    rw [b2n_n q]
    exact ⟨fun z => absurd rfl z, fun _ => h _ _ hR⟩
  have hr := hR.1 j hj
  have e1 : S.1 (rf 1 j) 1 = S.1 88 j := hr.1
  rcases hr.sz with ⟨z, -⟩ | ⟨n, hn, en, -, hc⟩
  · refine t_rm_miss sh1 hj (e1.trans z) ⟨fun z => absurd z (by decide), fun _ => bX5_tear_0 _ (u_isRow _ ?_)⟩
    rw [b2n_y hj (by omega)]
    refine ⟨fun _ => ⟨j, ix_nI hj (by omega), fun q => ?_, fun _ => u_finds (by omega) (h _ _ (hR.found (by omega)))⟩, fun z => absurd z (by decide)⟩
    rw [fdD_88 1 88 (by omega), z] at q
    exact absurd q n_m1
  · refine t_rm_ok sh1 hj (n := n) (by omega) (e1.trans en) ⟨fun _ => ⟨j, ix_nI hj (by omega), fun S1 eS => bX5_tear_0 _ (u_isRow _ ?_)⟩, fun z => absurd rfl z⟩
    subst eS
    have e88 : u2 S.1 (8 + j) 1 (-1) 88 = S.1 88 := u2_o _ (by omega)
    rw [b2n_y hj (by omega)]
    refine ⟨fun _ => ⟨j, ix_nI hj (by omega), fun _ S2 eS => ?_, fun q => ?_⟩, fun z => absurd z (by decide)⟩
    · subst eS
      refine h _ _ (hR.rows hj (fun k hk => ?_) (fun y hy => ?_) (fun y i hy hyx hi => ?_) ?_ ?_ ?_ hR.2.2.2.2.1)
      · show u2 (u2 S.1 (8 + j) 1 (-1)) 88 j (-1) k = _
        rw [u2_o _ (by omega), u2_o _ (by omega)]
      · show u2 (u2 S.1 (8 + j) 1 (-1)) 88 j (-1) 88 y = _
        rw [u2_n _ hy, e88]
      · show u2 (u2 S.1 (8 + j) 1 (-1)) 88 j (-1) 89 _ = _
        rw [u2_o _ (by omega), u2_o _ (by omega)]
      · refine ⟨?_, Or.inl ?_⟩
        · show u2 (u2 S.1 (8 + j) 1 (-1)) 88 j (-1) (8 + j) 1 = u2 (u2 S.1 (8 + j) 1 (-1)) 88 j (-1) 88 j
          rw [u2_o _ (by omega), u2_s, u2_s]
        · show u2 (u2 S.1 (8 + j) 1 (-1)) 88 j (-1) 88 j = _
          rw [u2_s]
      · have := hR.2.2.1
        refine ⟨?_, fun f h1 h2 => ?_⟩
        · show u2 (u2 S.1 (8 + j) 1 (-1)) 88 j (-1) 0 8 = u2 (u2 S.1 (8 + j) 1 (-1)) 88 j (-1) 7 10
          rw [u2_o _ (by omega), u2_o _ (by omega), u2_o _ (by omega), u2_o _ (by omega)]
          exact this.1
        · show u2 (u2 S.1 (8 + j) 1 (-1)) 88 j (-1) 6 f = u2 (u2 S.1 (8 + j) 1 (-1)) 88 j (-1) 97 f
          rw [u2_o _ (by omega), u2_o _ (by omega), u2_o _ (by omega), u2_o _ (by omega)]
          exact this.2 f h1 h2
      · show u2 (u2 S.1 (8 + j) 1 (-1)) 88 j (-1) 0 9 = u2 (u2 S.1 (8 + j) 1 (-1)) 88 j (-1) 7 11
        rw [u2_o _ (by omega), u2_o _ (by omega), u2_o _ (by omega), u2_o _ (by omega)]
        exact hR.2.2.2.1
    · replace q : ¬ nI 0 ≤ u2 S.1 (8 + j) 1 (-1) 88 j := q
      rw [e88, en] at q
      exact absurd (n_le (by omega)) q
/-- the asked, the findings of a state like another in the places 0, 6, 7, 97 -/
theorem RF.fr {S' : Sg} (h : RF S) (e0 : S'.1 0 = S.1 0) (e6 : S'.1 6 = S.1 6) (e7 : S'.1 7 = S.1 7) (e97 : S'.1 97 = S.1 97) : RF S' := by
  unfold RF at h ⊢
  rw [e0, e6, e7, e97]
  exact h
theorem pm_lay (hR : R S) (i1 i2 v : Int32) (h : ∀ r S', R S' → F r r S') : Ct G l mX4_lay (d + 20) [.ref 0, .int i1, .int i2, .int v] S (QI (fun r T => Ct G l mX5_lay (d + 20) [.ref 7, .int i1, .int i2, .int v] T (QI (fun r2 T2 => F r r2 T2)))) := by
  refine bX4_lay_0 _ _ _ ?_
  rcases o_cases i1 6 (by omega) with q | ⟨j, hj, rfl⟩
  · exact t_rp_bad sh1 i2 q ⟨fun z => absurd z (by decide), fun _ => bX5_lay_0 _ _ _ (u_at_bad i2 q ⟨fun _ => h _ _ hR, fun z => absurd z (by decide)⟩)⟩
  have hr := hR.1 j hj
  have e1 : S.1 (rf 1 j) 1 = S.1 88 j := hr.1
  rcases hr.sz with ⟨z, -⟩ | ⟨n, hn, en, -, hc⟩
  · exact t_rp_miss sh1 i2 hj (e1.trans z) ⟨fun z => absurd z (by decide), fun _ => bX5_lay_0 _ _ _ (u_at_miss i2 hj (by rw [fdD_88 1 88 (by omega)]; exact z) ⟨fun _ => h _ _ (hR.found (by omega)), fun z => absurd z (by decide)⟩)⟩
  rcases o_cases i2 n (by omega) with q | ⟨i, hi, rfl⟩
  · exact t_rp_bey sh1 hj (by omega) (e1.trans en) q ⟨fun z => absurd z (by decide), fun _ => bX5_lay_0 _ _ _ (u_at_bey hj (n := n) (by omega) (by rw [fdD_88 2 88 (by omega)]; exact en) q ⟨fun _ => h _ _ (hR.found (by omega)), fun z => absurd z (by decide)⟩)⟩
  · refine t_rp_ok sh1 hj (by omega) (e1.trans en) hi ⟨fun _ => ⟨j, ix_nI hj (by omega), i, ix_nI (by rw [ln_row hj]; omega) (by rw [ln_row hj]; omega), fun S1 e1 S2 e2 => ?_⟩, fun z => absurd rfl z⟩
    subst e1
    subst e2
    rw [show 8 + j + 10 = 18 + j by omega, hc i hi]
    generalize ho : S.1 89 (40 * j + i) = o
    have e88 : u2 (u2 S.1 0 9 o) (18 + j) i v 88 = S.1 88 := by rw [u2_o _ (by omega), u2_o _ (by omega)]
    have e89 : u2 (u2 S.1 0 9 o) (18 + j) i v 89 = S.1 89 := by rw [u2_o _ (by omega), u2_o _ (by omega)]
    refine bX5_lay_0 _ _ _ (u_at_ok hj hn (by show u2 (u2 S.1 0 9 o) (18 + j) i v 88 j = _; rw [e88]; exact en) hi ?_)
    refine ⟨fun z => absurd rfl z, fun _ => ⟨40 * j + i, ix_i (z_row 40 j i) (by omega) (by omega), fun S3 e3 => ?_⟩⟩
    subst e3
    refine h _ _ ?_
    show R (u2 (u2 (u2 (u2 S.1 0 9 o) (18 + j) i v) 7 11 (u2 (u2 S.1 0 9 o) (18 + j) i v 89 (40 * j + i))) 89 (40 * j + i) v, S.2)
    rw [e89, ho]
    have hA := hR.asked o
    refine R.rows (S := (u2 (u2 S.1 0 9 o) 7 11 o, S.2)) hA hj (fun k hk => ?_) (fun y hy => ?_) (fun y i2 hy hyx hi2 => ?_) ?_ ?_ ?_ hR.2.2.2.2.1
    · show u2 (u2 (u2 (u2 S.1 0 9 o) (18 + j) i v) 7 11 o) 89 (40 * j + i) v k = u2 (u2 S.1 0 9 o) 7 11 o k
      rw [u2_o _ (by omega), u2_o _ (by omega), u2_o _ (by omega), u2_o _ (by omega), u2_o _ (by omega), u2_o _ (by omega)]
    · show u2 (u2 (u2 (u2 S.1 0 9 o) (18 + j) i v) 7 11 o) 89 (40 * j + i) v 88 y = u2 (u2 S.1 0 9 o) 7 11 o 88 y
      rw [u2_o _ (by omega), u2_o _ (by omega), u2_o _ (by omega), u2_o _ (by omega), u2_o _ (by omega), u2_o _ (by omega)]
    · show u2 (u2 (u2 (u2 S.1 0 9 o) (18 + j) i v) 7 11 o) 89 (40 * j + i) v 89 _ = u2 (u2 S.1 0 9 o) 7 11 o 89 _
      rw [u2_n _ (by omega), u2_o _ (by omega), u2_o _ (by omega), u2_o _ (by omega), u2_o _ (by omega), u2_o _ (by omega)]
    · refine ⟨?_, Or.inr ⟨n, hn, ?_, fun i2 hi2 => ?_⟩⟩
      · show u2 (u2 (u2 (u2 S.1 0 9 o) (18 + j) i v) 7 11 o) 89 (40 * j + i) v (8 + j) 1 = u2 (u2 (u2 (u2 S.1 0 9 o) (18 + j) i v) 7 11 o) 89 (40 * j + i) v 88 j
        rw [u2_o _ (by omega), u2_o _ (by omega), u2_o _ (by omega), u2_o _ (by omega), u2_o _ (by omega), u2_o _ (by omega), u2_o _ (by omega), u2_o _ (by omega)]
        exact hr.1
      · show u2 (u2 (u2 (u2 S.1 0 9 o) (18 + j) i v) 7 11 o) 89 (40 * j + i) v 88 j = _
        rw [u2_o _ (by omega), u2_o _ (by omega), u2_o _ (by omega), u2_o _ (by omega)]
        exact en
      · show u2 (u2 (u2 (u2 S.1 0 9 o) (18 + j) i v) 7 11 o) 89 (40 * j + i) v (18 + j) i2 = u2 (u2 (u2 (u2 S.1 0 9 o) (18 + j) i v) 7 11 o) 89 (40 * j + i) v 89 (40 * j + i2)
        rw [u2_o _ (by omega), u2_o _ (by omega)]
        by_cases q : i2 = i
        · subst q
          rw [u2_s, u2_s]
        · rw [u2_n _ q, u2_n _ (by omega), u2_o _ (by omega), u2_o _ (by omega), u2_o _ (by omega), u2_o _ (by omega)]
          exact hc i2 hi2
    · refine RF.fr hA.2.2.1 ?_ ?_ ?_ ?_
      · show u2 (u2 (u2 (u2 S.1 0 9 o) (18 + j) i v) 7 11 o) 89 (40 * j + i) v 0 = u2 (u2 S.1 0 9 o) 7 11 o 0
        simp (disch := omega) only [u2_o]
      · show u2 (u2 (u2 (u2 S.1 0 9 o) (18 + j) i v) 7 11 o) 89 (40 * j + i) v 6 = u2 (u2 S.1 0 9 o) 7 11 o 6
        rw [u2_o _ (by omega), u2_o _ (by omega), u2_o _ (by omega), u2_o _ (by omega), u2_o _ (by omega), u2_o _ (by omega)]
      · show u2 (u2 (u2 (u2 S.1 0 9 o) (18 + j) i v) 7 11 o) 89 (40 * j + i) v 7 = u2 (u2 S.1 0 9 o) 7 11 o 7
        rw [u2_o _ (by omega)]
        funext b
        by_cases qb : b = 11
        · subst qb
          rw [u2_s, u2_s]
        · rw [u2_n _ qb, u2_n _ qb, u2_o _ (by omega)]
      · show u2 (u2 (u2 (u2 S.1 0 9 o) (18 + j) i v) 7 11 o) 89 (40 * j + i) v 97 = u2 (u2 S.1 0 9 o) 7 11 o 97
        rw [u2_o _ (by omega), u2_o _ (by omega), u2_o _ (by omega), u2_o _ (by omega), u2_o _ (by omega), u2_o _ (by omega)]
    · show u2 (u2 (u2 (u2 S.1 0 9 o) (18 + j) i v) 7 11 o) 89 (40 * j + i) v 0 9 = u2 (u2 (u2 (u2 S.1 0 9 o) (18 + j) i v) 7 11 o) 89 (40 * j + i) v 7 11
      rw [u2_o _ (by omega), u2_o _ (by omega), u2_o _ (by omega), u2_s, u2_o _ (by omega), u2_s]
theorem pm_put (hR : R S) (i1 i2 v : Int32) (h : ∀ r S', R S' → F r r S') : Ct G l mX4_put (d + 20) [.ref 0, .int i1, .int i2, .int v] S (QI (fun r T => Ct G l mX5_put (d + 20) [.ref 7, .int i1, .int i2, .int v] T (QI (fun r2 T2 => F r r2 T2)))) := by
  refine bX4_put_0 _ _ _ ?_
  rcases o_cases i1 4 (by omega) with q | ⟨j, hj, rfl⟩
  · refine t_rp_bad sh2 i2 q ⟨fun z => absurd z (by decide), fun _ => bX5_put_0 _ _ _ (u_isText _ ?_)⟩
    rw [b2n_n q]
    exact ⟨fun z => absurd rfl z, fun _ => h _ _ hR⟩
  have hr := hR.2.1 j hj
  have e1 : S.1 (rf 2 j) 1 = S.1 91 j := hr.1
  rcases hr.sz with ⟨z, -⟩ | ⟨n, hn, en, -, hc⟩
  · refine t_rp_miss sh2 i2 hj (e1.trans z) ⟨fun z => absurd z (by decide), fun _ => bX5_put_0 _ _ _ (u_isText _ ?_)⟩
    rw [b2n_y hj (by omega)]
    refine ⟨fun _ => ⟨j, ix_nI hj (by omega), fun q => ?_, fun _ => u_finds (by omega) (h _ _ (hR.found (by omega)))⟩, fun z => absurd z (by decide)⟩
    rw [fdD_88 1 91 (by omega), z] at q
    exact absurd q n_m1
  rcases o_cases i2 n (by omega) with q | ⟨i, hi, rfl⟩
  · refine t_rp_bey sh2 hj (by omega) (e1.trans en) q ⟨fun z => absurd z (by decide), fun _ => bX5_put_0 _ _ _ (u_isText _ ?_)⟩
    rw [b2n_y hj (by omega), fdD_88 2 91 (by omega)]
    refine ⟨fun _ => ⟨j, ix_nI hj (by omega), fun _ => u_inS _ _ ⟨n, hn, en⟩ (fun _ => ⟨fun z => absurd rfl z, fun _ => u_finds (by omega) (h _ _ (hR.found (by omega)))⟩) (fun z1 z2 => (q.elim z1 (by rw [en] at z2; exact z2)).elim), fun q => absurd (by rw [en]; exact n_le (by omega)) q⟩, fun z => absurd z (by decide)⟩
  · refine t_rp_ok sh2 hj (by omega) (e1.trans en) hi ⟨fun _ => ⟨j, ix_nI hj (by omega), i, ix_nI (by rw [ln_txt hj]; omega) (by rw [ln_txt hj]; omega), fun S1 e1 => bX5_put_0 _ _ _ (u_isText _ ?_)⟩, fun z => absurd rfl z⟩
    subst e1
    rw [show 14 + j + 10 = 24 + j by omega, hc i hi]
    generalize hw : v.toInt8.toInt32 = w
    have e91 : u2 S.1 (24 + j) i w 91 = S.1 91 := u2_o _ (by omega)
    have e92 : u2 S.1 (24 + j) i w 92 = S.1 92 := u2_o _ (by omega)
    rw [b2n_y hj (by omega)]
    show (¬ nI 1 = nI 0 → ∃ n14 : Nat, ix (nI j) n14 4 ∧ ((nI 0 ≤ u2 S.1 (24 + j) i w 91 n14 → _) ∧ _)) ∧ _
    refine ⟨fun _ => ⟨j, ix_nI hj (by omega), fun _ => ?_, fun q => ?_⟩, fun z => absurd z (by decide)⟩
    · refine u_inS _ _ ⟨n, hn, by show u2 S.1 (24 + j) i w 91 j = _; rw [e91]; exact en⟩ (fun z => ?_) (fun z1 z2 => ⟨fun _ => ⟨60 * j + i, ix_i (z_row 60 j i) (by omega) (by omega), fun S3 e3 => ?_⟩, fun z => absurd z (by decide)⟩)
      · replace z : nI i < nI 0 ∨ u2 S.1 (24 + j) i w 91 j ≤ nI i := z
        rw [e91, en] at z
        exact (n_bad z hi (by omega) rfl).elim
      · subst e3
        show F _ (u2 S.1 (24 + j) i w 92 (60 * j + i) + nI 1000) (u2 (u2 S.1 (24 + j) i w) 92 (60 * j + i) w, S.2)
        rw [e92]
        refine h _ _ (hR.txts hj (fun k hk => ?_) (fun y hy => ?_) (fun y i2 hy hyx hi2 => ?_) ⟨?_, Or.inr ⟨n, hn, ?_, fun i2 hi2 => ?_⟩⟩ rfl)
        · show u2 (u2 S.1 (24 + j) i w) 92 (60 * j + i) w k = _
          rw [u2_o _ (by omega), u2_o _ (by omega)]
        · show u2 (u2 S.1 (24 + j) i w) 92 (60 * j + i) w 91 y = _
          rw [u2_o _ (by omega), e91]
        · show u2 (u2 S.1 (24 + j) i w) 92 (60 * j + i) w 92 _ = _
          rw [u2_n _ (by omega), e92]
        · show u2 (u2 S.1 (24 + j) i w) 92 (60 * j + i) w (14 + j) 1 = u2 (u2 S.1 (24 + j) i w) 92 (60 * j + i) w 91 j
          rw [u2_o _ (by omega), u2_o _ (by omega), u2_o _ (by omega), e91]
          exact hr.1
        · show u2 (u2 S.1 (24 + j) i w) 92 (60 * j + i) w 91 j = _
          rw [u2_o _ (by omega), e91]
          exact en
        · show u2 (u2 S.1 (24 + j) i w) 92 (60 * j + i) w (24 + j) i2 = u2 (u2 S.1 (24 + j) i w) 92 (60 * j + i) w 92 (60 * j + i2)
          rw [u2_o _ (by omega)]
          by_cases q : i2 = i
          · subst q
            rw [u2_s, u2_s]
          · rw [u2_n _ q, u2_n _ (by omega), e92]
            exact hc i2 hi2
    · replace q : ¬ nI 0 ≤ u2 S.1 (24 + j) i w 91 j := q
      rw [e91, en] at q
      exact absurd (n_le (by omega)) q
end pub2
