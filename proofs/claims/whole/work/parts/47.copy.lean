/-! copy -/
section copy
variable {G : Gl} {l : Launch} {d : Nat} {S : Sg} {P : Int32 → Sg → Prop} {F : Int32 → Int32 → Sg → Prop}
theorem lg_run {a c s : Nat} (ha : a < 2147483648) (hc : c < 2147483648) (hs : s < 2147483648) : nI 0 < lg_cmp ((nI a).toInt64 + (nI c).toInt64) (nI s).toInt64 ↔ s < a + c := by
  show (0 : Int32) < _ ↔ _
  rw [lg_cmp_gt, Int64.lt_iff_toInt_lt, Int64.toInt_add, Int32.toInt_toInt64, Int32.toInt_toInt64, Int32.toInt_toInt64, nI_toInt ha, nI_toInt hc, nI_toInt hs, Int.bmod_eq_of_le (by omega) (by omega)]
  omega
def RunOk (i : Int32) (c s : Nat) : Prop := ∃ a, i = nI a ∧ a + c ≤ s
theorem RunOk.no {i : Int32} {c s : Nat} (h : ¬ RunOk i c s) (hi : ¬ i < nI 0) : ∃ a, a < 2147483648 ∧ i = nI a ∧ s < a + c := by
  obtain ⟨a, ha, e⟩ := z_ofx (z_nlt.mp hi)
  refine ⟨a, ha, e, ?_⟩
  apply Classical.byContradiction
  intro q
  exact h ⟨a, e, by omega⟩
theorem n_in' {i : Nat} (hi : i < 2147483648) : ¬ nI i < nI 0 := by rw [z_lt hi (by omega)]; omega
theorem z_nlt' {a b : Int32} : ¬ (a < b) ↔ b ≤ a := z_nlt
theorem t_hasRun {k s c : Nat} (hk : RowAt k) (hs : S.1 k 1 = nI s) (h60 : s ≤ 60) (i : Int32) (hc : c < 2147483648) (h1 : RunOk i c s → P (nI 1) S) (h0 : ¬ RunOk i c s → P (nI 0) S) : Ct G l mX3_hasRun (d + 1) [.ref k, .int i, .int (nI c)] S (QI P) := by
  refine bX3_hasRun_0 k hk _ _ (fun x ex => ?_)
  rw [hs] at ex
  by_cases q : RunOk i c s
  · obtain ⟨a, rfl, hl⟩ := id q
    rw [if_neg (n_in' (by omega)), if_neg (by rw [z_lt (by omega) (by omega)]; omega), if_neg (n_in' hc), if_neg (by rw [z_sub (by omega), z_lt (by omega) hc]; omega)] at ex
    rw [ex]
    exact h1 q
  · have e : x = nI 0 := by
      rw [ex]
      by_cases w : i < nI 0
      · rw [if_pos w]
      · obtain ⟨a, ha, rfl, hl⟩ := RunOk.no q w
        rw [if_neg w]
        by_cases w2 : nI s < nI a
        · rw [if_pos w2]
        · rw [if_neg w2, if_neg (n_in' hc)]
          rw [z_lt (by omega) ha] at w2
          rw [if_pos (by rw [z_sub (by omega), z_lt (by omega) hc]; omega)]
    rw [e]
    exact h0 q
theorem u_copy_1 {U : Sg} {i1 i2 i3 i4 : Int32} {j1 a c : Nat} (hj : j1 < 6) (hac : a + c ≤ 40) (e1 : i1 = nI j1) (e2 : i2 = nI a) (h : Ev G l mX5_copy (d + 5) 141 [some (.ref 7), some (.int i1), some (.int i2), some (.int i3), some (.int i4), some (.int (nI c)), some (.int (nI 0))] [] (u1 U.1 90 (fun k => if k < c then U.1 89 (40 * j1 + a + k) else U.1 90 k), U.2) (QI P)) : ∀ (q i : Nat), i + q = c → Ev G l mX5_copy (d + 5) 104 [some (.ref 7), some (.int i1), some (.int i2), some (.int i3), some (.int i4), some (.int (nI c)), some (.int (nI i))] [] (u1 U.1 90 (fun k => if k < i then U.1 89 (40 * j1 + a + k) else U.1 90 k), U.2) (QI P) := by
  intro q
  induction q with
  | zero =>
    intro i hi
    obtain rfl : i = c := by omega
    exact bX5_copy_104 _ _ _ _ _ _ ⟨fun _ => h, fun z => absurd ((z_le (by omega) (by omega)).mpr (Nat.le_refl _)) z⟩
  | succ q ih =>
    intro i hi
    refine bX5_copy_104 _ _ _ _ _ _ ⟨fun z => ?_, fun _ => ⟨40 * j1 + a + i, ?_, i, ix_nI (by omega) (by omega), fun S2 e => ?_⟩⟩
    · rw [z_le (by omega) (by omega)] at z
      omega
    · rw [e1, e2]
      exact ix_i (by rw [z_mul, z_add, z_add]) (by omega) (by omega)
    · have e3 : S2 = (u1 U.1 90 (fun k => if k < i + 1 then U.1 89 (40 * j1 + a + k) else U.1 90 k), U.2) := by
        rw [e]
        dsimp only
        rw [u1_o _ (show 89 ≠ 90 by omega), u2_u1]
        congr 2
        funext b
        by_cases q1 : b = i
        · simp [q1]
        · by_cases q2 : b < i
          · simp [q1, q2, show b < i + 1 by omega]
          · simp [q1, q2, show ¬ b < i + 1 by omega]
      rw [e3, z_add]
      exact ih (i + 1) (by omega)
theorem u_copy_2 {U : Sg} {i1 i2 i3 i4 : Int32} {j2 b c : Nat} (hj : j2 < 6) (hbc : b + c ≤ 40) (e1 : i3 = nI j2) (e2 : i4 = nI b) (h : P (nI 1) (u1 U.1 89 (fun k => if 40 * j2 + b ≤ k ∧ k < 40 * j2 + b + c then U.1 90 (k - (40 * j2 + b)) else U.1 89 k), U.2)) : ∀ (q i : Nat), i + q = c → Ev G l mX5_copy (d + 5) 141 [some (.ref 7), some (.int i1), some (.int i2), some (.int i3), some (.int i4), some (.int (nI c)), some (.int (nI i))] [] (u1 U.1 89 (fun k => if 40 * j2 + b ≤ k ∧ k < 40 * j2 + b + i then U.1 90 (k - (40 * j2 + b)) else U.1 89 k), U.2) (QI P) := by
  intro q
  induction q with
  | zero =>
    intro i hi
    obtain rfl : i = c := by omega
    exact bX5_copy_141 _ _ _ _ _ _ ⟨fun _ => h, fun z => absurd ((z_le (by omega) (by omega)).mpr (Nat.le_refl _)) z⟩
  | succ q ih =>
    intro i hi
    refine bX5_copy_141 _ _ _ _ _ _ ⟨fun z => ?_, fun _ => ⟨i, ix_nI (by omega) (by omega), 40 * j2 + b + i, ?_, fun S2 e => ?_⟩⟩
    · rw [z_le (by omega) (by omega)] at z
      omega
    · rw [e1, e2]
      exact ix_i (by rw [z_mul, z_add, z_add]) (by omega) (by omega)
    · have e3 : S2 = (u1 U.1 89 (fun k => if 40 * j2 + b ≤ k ∧ k < 40 * j2 + b + (i + 1) then U.1 90 (k - (40 * j2 + b)) else U.1 89 k), U.2) := by
        rw [e]
        dsimp only
        rw [u1_o _ (show 90 ≠ 89 by omega), u2_u1]
        congr 2
        funext k
        by_cases q1 : k = 40 * j2 + b + i
        · rw [if_pos q1, if_pos (by omega), q1, Nat.add_sub_cancel_left]
        · rw [if_neg q1]
          by_cases q2 : 40 * j2 + b ≤ k ∧ k < 40 * j2 + b + i
          · rw [if_pos q2, if_pos (by omega)]
          · rw [if_neg q2, if_neg (by omega)]
      rw [e3, z_add]
      exact ih (i + 1) (by omega)
theorem pm_copy (hR : R S) (i1 i2 i3 i4 i5 : Int32) (h : ∀ r S', R S' → F r r S') : Ct G l mX4_copy (d + 20) [.ref 0, .int i1, .int i2, .int i3, .int i4, .int i5] S (QI (fun r T => Ct G l mX5_copy (d + 20) [.ref 7, .int i1, .int i2, .int i3, .int i4, .int i5] T (QI (fun r2 T2 => F r r2 T2)))) := by
  refine bX4_copy_0 _ _ _ _ _ (t_isRow _ ?_)
  rcases o_cases i1 6 (by omega) with q | ⟨j1, hj1, rfl⟩
  · rw [b2n_n q]
    refine ⟨fun _ => bX5_copy_0 _ _ _ _ _ (u_isRow _ ?_), fun z => absurd rfl z⟩
    rw [b2n_n q]
    exact ⟨fun _ => h _ _ hR, fun z => absurd rfl z⟩
  rw [b2n_y hj1 (by omega)]
  refine ⟨fun z => absurd z (by decide), fun _ => t_isRow _ ?_⟩
  rcases o_cases i3 6 (by omega) with q | ⟨j2, hj2, rfl⟩
  · rw [b2n_n q]
    refine ⟨fun z => absurd rfl z, fun _ => bX5_copy_0 _ _ _ _ _ (u_isRow _ ?_)⟩
    rw [b2n_y hj1 (by omega)]
    refine ⟨fun z => absurd z (by decide), fun _ => u_isRow _ ?_⟩
    rw [b2n_n q]
    exact ⟨fun z => absurd rfl z, fun _ => h _ _ hR⟩
  rw [b2n_y hj2 (by omega)]
  refine ⟨fun _ => ⟨fun hn => ?_, fun hn => t_refuse (by omega) (bX5_copy_0 _ _ _ _ _ (u_isRow _ ?_))⟩, fun z => absurd z (by decide)⟩
  rotate_left
  · rw [b2n_y hj1 (by omega)]
    refine ⟨fun z => absurd z (by decide), fun _ => u_isRow _ ?_⟩
    rw [b2n_y hj2 (by omega)]
    exact ⟨fun _ => ⟨fun z => absurd z hn, fun _ => u_finds (by omega) (h _ _ (hR.found (by omega)))⟩, fun z => absurd z (by decide)⟩
  obtain ⟨c, hc, rfl⟩ := z_ofx hn
  have m0 : ∀ {T : Sg} {Q : Int32 → Sg → Prop}, (∃ n32, ix (nI j1) n32 6 ∧ ((T.1 88 n32 < nI 0 → Ev G l mX5_copy (d + 20) 45 [some (.ref 7), some (.int (nI j1)), some (.int i2), some (.int (nI j2)), some (.int i4), some (.int (nI c)), none] [] T (QI Q)) ∧ (¬ T.1 88 n32 < nI 0 → ∃ n41, ix (nI j2) n41 6 ∧ ((nI 0 ≤ T.1 88 n41 → (i2 < nI 0 → Ev G l mX5_copy (d + 20) 95 [some (.ref 7), some (.int (nI j1)), some (.int i2), some (.int (nI j2)), some (.int i4), some (.int (nI c)), none] [] T (QI Q)) ∧ (¬ i2 < nI 0 → (i4 < nI 0 → Ev G l mX5_copy (d + 20) 95 [some (.ref 7), some (.int (nI j1)), some (.int i2), some (.int (nI j2)), some (.int i4), some (.int (nI c)), none] [] T (QI Q)) ∧ (¬ i4 < nI 0 → (nI 0 < lg_cmp (i2.toInt64 + (nI c).toInt64) (T.1 88 n32).toInt64 → Ev G l mX5_copy (d + 20) 95 [some (.ref 7), some (.int (nI j1)), some (.int i2), some (.int (nI j2)), some (.int i4), some (.int (nI c)), none] [] T (QI Q)) ∧ (¬ nI 0 < lg_cmp (i2.toInt64 + (nI c).toInt64) (T.1 88 n32).toInt64 → (lg_cmp (i4.toInt64 + (nI c).toInt64) (T.1 88 n41).toInt64 ≤ nI 0 → Ev G l mX5_copy (d + 20) 104 [some (.ref 7), some (.int (nI j1)), some (.int i2), some (.int (nI j2)), some (.int i4), some (.int (nI c)), some (.int (nI 0))] [] T (QI Q)) ∧ (¬ lg_cmp (i4.toInt64 + (nI c).toInt64) (T.1 88 n41).toInt64 ≤ nI 0 → Ev G l mX5_copy (d + 20) 95 [some (.ref 7), some (.int (nI j1)), some (.int i2), some (.int (nI j2)), some (.int i4), some (.int (nI c)), none] [] T (QI Q)))))) ∧ (¬ nI 0 ≤ T.1 88 n41 → Ev G l mX5_copy (d + 20) 45 [some (.ref 7), some (.int (nI j1)), some (.int i2), some (.int (nI j2)), some (.int i4), some (.int (nI c)), none] [] T (QI Q)))))) → Ct G l mX5_copy (d + 20) [.ref 7, .int (nI j1), .int i2, .int (nI j2), .int i4, .int (nI c)] T (QI Q) := by
    intro T Q hk
    refine bX5_copy_0 _ _ _ _ _ (u_isRow _ ?_)
    rw [b2n_y hj1 (by omega)]
    refine ⟨fun z => absurd z (by decide), fun _ => u_isRow _ ?_⟩
    rw [b2n_y hj2 (by omega)]
    exact ⟨fun _ => ⟨fun _ => hk, fun z => absurd hn z⟩, fun z => absurd z (by decide)⟩
  have x1 : ix (nI j1) j1 6 := ix_nI hj1 (by omega)
  have x2 : ix (nI j2) j2 6 := ix_nI hj2 (by omega)
  have hr1 := hR.1 j1 hj1
  have hr2 := hR.1 j2 hj2
  have ra1 : RowAt (8 + j1) := ra_F sh1 (ix_nI hj1 (by decide))
  have ra2 : RowAt (8 + j2) := ra_F sh1 (ix_nI hj2 (by decide))
  have e11 : S.1 (8 + j1) 1 = S.1 88 j1 := hr1.1
  have e12 : S.1 (8 + j2) 1 = S.1 88 j2 := hr2.1
  refine ⟨j1, x1, ?_⟩
  rcases hr1.sz with ⟨z1, -⟩ | ⟨s1, hs1, en1, -, hc1⟩
  · refine t_isMissing ra1 (fun q => absurd q (by rw [e11, z1]; exact n_m1)) (fun _ => ⟨fun _ => bX4_copy_51 _ _ _ _ _ (t_refuse (by omega) (m0 ⟨j1, x1, fun _ => bX5_copy_45 _ _ _ _ _ (u_finds (by omega) (h _ _ (hR.found (by omega)))), fun q => ?_⟩)), fun z => absurd z (by decide)⟩)
    rw [fdD_88 1 88 (by omega), z1] at q
    exact absurd (by decide) q
  refine t_isMissing ra1 (fun _ => ⟨fun z => absurd rfl z, fun _ => ⟨j2, x2, ?_⟩⟩) (fun q => absurd (by rw [e11, en1]; exact n_le (by omega)) q)
  rcases hr2.sz with ⟨z2, -⟩ | ⟨s2, hs2, en2, -, hc2⟩
  · refine t_isMissing ra2 (fun q => absurd q (by rw [e12, z2]; exact n_m1)) (fun _ => ⟨fun z => absurd z (by decide), fun _ => bX4_copy_51 _ _ _ _ _ (t_refuse (by omega) (m0 ⟨j1, x1, fun q => ?_, fun _ => ⟨j2, x2, fun q => ?_, fun _ => bX5_copy_45 _ _ _ _ _ (u_finds (by omega) (h _ _ (hR.found (by omega))))⟩⟩))⟩)
    · rw [fdD_88 1 88 (by omega), en1] at q
      exact absurd q (n_in (by omega))
    · rw [fdD_88 1 88 (by omega), z2] at q
      exact absurd q n_m1
  refine t_isMissing ra2 (fun _ => ⟨fun _ => ?_, fun z => absurd rfl z⟩) (fun q => absurd (by rw [e12, en2]; exact n_le (by omega)) q)
  have hbad : ¬ (RunOk i2 c s1 ∧ RunOk i4 c s2) → Ev G l mX4_copy (d + 20) 88 [some (.ref 0), some (.int (nI j1)), some (.int i2), some (.int (nI j2)), some (.int i4), some (.int (nI c))] [] S (QI (fun r T => Ct G l mX5_copy (d + 20) [.ref 7, .int (nI j1), .int i2, .int (nI j2), .int i4, .int (nI c)] T (QI (fun r2 T2 => F r r2 T2)))) := by
    intro hno
    have h95 := bX5_copy_95 (d := d + 19) (S := fdD S 2) (G := G) (l := l) (P := fun r2 T2 => F (-3) r2 T2) (nI j1) i2 (nI j2) i4 (nI c) (u_finds (d := d + 18) (by omega) (h _ _ (hR.found (by omega))))
    refine bX4_copy_88 _ _ _ _ _ (t_refuse (by omega) (m0 ⟨j1, x1, fun q => ?_, fun _ => ⟨j2, x2, fun _ => ⟨fun _ => h95, fun q1 => ⟨fun _ => h95, fun q2 => ⟨fun _ => h95, fun q3 => ⟨fun q4 => ?_, fun _ => h95⟩⟩⟩⟩, fun q => ?_⟩⟩))
    · rw [fdD_88 2 88 (by omega), en1] at q
      exact absurd q (n_in (by omega))
    · exfalso
      rw [fdD_88 2 88 (by omega), en1] at q3
      rw [fdD_88 2 88 (by omega), en2, ← z_nlt'] at q4
      apply hno
      constructor
      · apply Classical.byContradiction
        intro w
        obtain ⟨a, ha, rfl, hl⟩ := RunOk.no w q1
        exact q3 ((lg_run ha hc (by omega)).mpr hl)
      · apply Classical.byContradiction
        intro w
        obtain ⟨a, ha, rfl, hl⟩ := RunOk.no w q2
        exact q4 ((lg_run ha hc (by omega)).mpr hl)
    · rw [fdD_88 2 88 (by omega), en2] at q
      exact absurd (n_le (by omega)) q
  refine t_hasRun ra1 (e11.trans en1) (by omega) _ hc (fun w1 => ⟨fun z => absurd z (by decide), fun _ => ?_⟩) (fun w => ⟨fun _ => hbad (fun y => w y.1), fun z => absurd rfl z⟩)
  refine t_hasRun ra2 (e12.trans en2) (by omega) _ hc (fun w2 => ⟨fun _ => ?_, fun z => absurd z (by decide)⟩) (fun w => ⟨fun z => absurd rfl z, fun _ => hbad (fun y => w y.2)⟩)
  obtain ⟨a, rfl, ha⟩ := w1
  obtain ⟨b, rfl, hb⟩ := w2
  refine ⟨a, b, c, rfl, rfl, rfl, by show a + c ≤ ln (8 + j1 + 10); rw [ln_row hj1]; omega, by show b + c ≤ ln (8 + j2 + 10); rw [ln_row hj2]; omega, fun S1 eS => ?_⟩
  have eS' : S1 = (u1 S.1 (18 + j2) (va_cpy (S.1 (18 + j1)) (S.1 (18 + j2)) a b c), S.2) := by
    rw [eS, show 8 + j2 + 10 = 18 + j2 by omega, show 8 + j1 + 10 = 18 + j1 by omega]
  clear eS
  have g88 : S1.1 88 = S.1 88 := by rw [eS']; dsimp only; rw [u1_o _ (by omega)]
  refine m0 ⟨j1, x1, fun q => ?_, fun _ => ⟨j2, x2, fun _ => ⟨fun q => absurd q (n_in (by omega)), fun _ => ⟨fun q => absurd q (n_in (by omega)), fun _ => ⟨fun q => ?_, fun _ => ⟨fun _ => ?_, fun q => ?_⟩⟩⟩⟩, fun q => ?_⟩⟩
  · rw [g88, en1] at q
    exact absurd q (n_in (by omega))
  · rw [g88, en1] at q
    have := (lg_run (by omega) hc (by omega)).mp q
    omega
  · have g89 : S1.1 89 = S.1 89 := by rw [eS']; dsimp only; rw [u1_o _ (by omega)]
    have b1 := u_copy_1 (d := d + 15) (G := G) (l := l) (P := fun r2 T2 => F (nI 1) r2 T2) (U := S1) (i1 := nI j1) (i2 := nI a) (i3 := nI j2) (i4 := nI b) (j1 := j1) (a := a) (c := c) hj1 (by omega) rfl rfl ?_ c 0 (by omega)
    · rw [u1_id _ _ (by funext k; rw [if_neg (by omega)])] at b1
      exact b1
    · have b2 := u_copy_2 (d := d + 15) (G := G) (l := l) (P := fun r2 T2 => F (nI 1) r2 T2) (U := (u1 S1.1 90 (fun k => if k < c then S1.1 89 (40 * j1 + a + k) else S1.1 90 k), S1.2)) (i1 := nI j1) (i2 := nI a) (i3 := nI j2) (i4 := nI b) (j2 := j2) (b := b) (c := c) hj2 (by omega) rfl rfl ?_ c 0 (by omega)
      · rw [u1_id _ 89 (by funext k; rw [if_neg (by omega)])] at b2
        exact b2
      · refine h _ _ ?_
        dsimp only
        rw [u1_o _ (show 89 ≠ 90 by omega), u1_s, g89]
        have hR9 : R (u1 S.1 90 (fun k => if k < c then S.1 89 (40 * j1 + a + k) else S1.1 90 k), S.2) := by
          refine hR.scr (fun k hk => ?_) rfl
          dsimp only
          rw [u1_o _ (by omega)]
        rw [show S1.2 = S.2 by rw [eS']]
        have gK : ∀ k, k ≠ 18 + j2 → S1.1 k = S.1 k := by
          intro k hk
          rw [eS']
          dsimp only
          rw [u1_o _ hk]
        refine R.rows hR9 hj2 (fun k hk => ?_) (fun y hy => ?_) (fun y i hy hyx hi => ?_) ?_ ?_ ?_ hR9.2.2.2.2.1
        · dsimp only
          rw [u1_o _ (by omega)]
          by_cases q9 : k = 90
          · rw [q9, u1_s, u1_s]
          · rw [u1_o _ q9, u1_o _ q9, gK _ (by omega)]
        · dsimp only
          rw [u1_o _ (by omega), u1_o _ (by omega), u1_o _ (by omega), gK _ (by omega)]
        · dsimp only
          rw [u1_s, if_neg (by omega), u1_o _ (by omega)]
        · refine ⟨?_, Or.inr ⟨s2, hs2, ?_, fun i hi => ?_⟩⟩
          · dsimp only
            rw [u1_o _ (by omega), u1_o _ (by omega), u1_o _ (by omega), u1_o _ (by omega), gK _ (by omega), gK _ (by omega)]
            exact e12
          · dsimp only
            rw [u1_o _ (by omega), u1_o _ (by omega), gK _ (by omega)]
            exact en2
          · dsimp only
            rw [u1_o _ (by omega), u1_o _ (by omega), u1_s, eS']
            dsimp only
            rw [u1_s, va_cpy]
            by_cases q : b ≤ i ∧ i < b + c
            · rw [if_pos q, if_pos (by omega), if_pos (by omega), hc1 _ (by omega)]
              rw [show 40 * j1 + (a + (i - b)) = 40 * j1 + a + (40 * j2 + i - (40 * j2 + b)) by omega]
            · rw [if_neg q, if_neg (by omega)]
              exact hc2 i hi
        · refine RF.fr hR9.2.2.1 ?_ ?_ ?_ ?_ <;> dsimp only <;> rw [u1_o _ (by omega), u1_o _ (by omega), u1_o _ (by omega), gK _ (by omega)]
        · unfold RQ
          dsimp only
          rw [u1_o _ (by omega), u1_o _ (by omega), u1_o _ (by omega), u1_o _ (by omega), gK _ (by omega), gK _ (by omega)]
          exact hR.2.2.2.1
  · rw [g88, en2, ← z_nlt'] at q
    have := (lg_run (by omega) hc (by omega)).mp (Classical.not_not.mp q)
    omega
  · rw [g88, en2] at q
    exact absurd (n_le (by omega)) q
end copy
