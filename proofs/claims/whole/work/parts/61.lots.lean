/-! lots -/
section lots
variable {G : Gl} {l : Launch} {d : Nat} {S : Sg} {H : Nat → Nat → Nat} {n : Nat} {m : Nat → Nat} {P : Int32 → Sg → Prop} {F : Int32 → Int32 → Sg → Prop}
theorem z_xor (a b : Nat) : nI a ^^^ nI b = nI (a ^^^ b) := by
  apply Int32.toBitVec_inj.1
  show BitVec.ofNat 32 a ^^^ BitVec.ofNat 32 b = BitVec.ofNat 32 (a ^^^ b)
  apply BitVec.eq_of_getLsbD_eq
  intro i hi
  simp [hi]
theorem rng_in {x : Int32} {a b : Nat} (hb : b < 2147483648) (ha : a ≤ b) (h1 : ¬ x < nI a) (h2 : ¬ nI b < x) : ∃ j, a ≤ j ∧ j ≤ b ∧ x = nI j := by
  have h0 : nI 0 ≤ x := by
    have q1 := z_nlt.mp h1
    rw [Int32.le_iff_toInt_le, nI_toInt (by omega)] at q1
    rw [Int32.le_iff_toInt_le, nI_toInt (by omega)]
    omega
  obtain ⟨j, hj, rfl⟩ := z_ofx h0
  rw [z_lt hj (by omega)] at h1
  rw [z_lt (by omega) hj] at h2
  exact ⟨j, by omega, by omega, rfl⟩
/-- the numbers of the lots -/
def lx (x : Nat) : Nat → Nat
  | 0 => x
  | k + 1 => lx x k * 48271 % 2147483647
theorem lx_lt {x : Nat} (h : x < 2147483647) : ∀ k, lx x k < 2147483647
  | 0 => h
  | k + 1 => Nat.mod_lt _ (by omega)
def lotW (m : Nat → Nat) (x : Nat) : Nat := x / 8 % m 7
def lotC (m : Nat → Nat) (x : Nat) : Nat := if x % 3 = 1 then (if 0 < m (11 + 5 * lotW m x) then m (11 + 5 * lotW m x) - 1 else m (11 + 5 * lotW m x)) else (if m (11 + 5 * lotW m x) + 1 < m 0 then m (11 + 5 * lotW m x) + 1 else m (11 + 5 * lotW m x))
/-- one lot on -/
def ltm (m : Nat → Nat) (x : Nat) : Nat → Nat := if x % 3 = 0 then yr m else mwk m (lotW m x) (lotC m x)
def Lh (H : Nat → Nat → Nat) (n x : Nat) : Nat → Nat → Nat → Nat
  | 0 => H
  | k + 1 => hx (Lh H n x k) (n + k) (ltm (Lh H n x k (n + k)) (lx x (k + 1)))
theorem lotW_lt {x : Nat} (h : 0 < m 7) : lotW m x < m 7 := Nat.mod_lt _ h
theorem lotC_lt {x : Nat} (hI : IV m) (h : 0 < m 0) : lotC m x < m 0 := by
  have h12 := hI.1.2.2.2.2.2.2.2.2.2.2.2 h
  have hp := hI.p6
  have hw := lotW_lt (m := m) (x := x) (by omega)
  have := ((hI.2 _ (by omega)).2.2.2.2.2 hw).1
  unfold lotC
  repeat' split
  all_goals omega
theorem ltm_HI (hH : HI H n) (hn : n < 40) (hc : 0 < H n 0) (x : Nat) : HI (hx H n (ltm (H n) x)) (n + 1) ∧ ltm (H n) x 0 = H n 0 := by
  unfold ltm
  by_cases q : x % 3 = 0
  · simp only [if_pos q]
    exact ⟨yr_HI hH hn hc, yr_o (by omega)⟩
  · simp only [if_neg q]
    exact ⟨mwk_HI hH hn hc (lotC_lt (hH.2.1 n (Nat.le_refl n)).1 hc), mwk_o (by omega)⟩
theorem Lh_HI (hH : HI H n) (hc : 0 < H n 0) (x : Nat) : ∀ k, n + k ≤ 40 → HI (Lh H n x k) (n + k) ∧ 0 < Lh H n x k (n + k) 0
  | 0, _ => ⟨hH, hc⟩
  | k + 1, h => by
    obtain ⟨h1, h2⟩ := Lh_HI hH hc x k (by omega)
    obtain ⟨h3, h4⟩ := ltm_HI h1 (by omega) h2 (lx x (k + 1))
    refine ⟨h3, ?_⟩
    show 0 < hx (Lh H n x k) (n + k) (ltm (Lh H n x k (n + k)) (lx x (k + 1))) (n + k + 1) 0
    rw [hx_n, h4]
    exact h2
/-- where a walk by lot goes -/
theorem lot_go {b x : Nat} {i2 : Int32} (hb : b ≤ 9) {c : Nat} (hc : c < b) (hi : i2 = if x % 3 = 1 then -1 else nI 1) :
    (b2 (decide (¬ (nI c + i2) < nI 0 ∧ ¬ nI b ≤ (nI c + i2))) = nI 0 ∧ (if x % 3 = 1 then (if 0 < c then c - 1 else c) else (if c + 1 < b then c + 1 else c)) = c) ∨
    (b2 (decide (¬ (nI c + i2) < nI 0 ∧ ¬ nI b ≤ (nI c + i2))) = nI 1 ∧ nI c + i2 = nI (if x % 3 = 1 then (if 0 < c then c - 1 else c) else (if c + 1 < b then c + 1 else c))) := by
  subst hi
  by_cases q : x % 3 = 1
  · simp only [if_pos q]
    by_cases q2 : 0 < c
    · right
      have e : nI c + (-1) = nI (c - 1) := by
        conv => lhs; rw [show c = (c - 1) + 1 by omega, z_add_m1]
      rw [e, if_pos q2]
      exact ⟨b2y ⟨n_in (by omega), n_nle (by omega) (by omega)⟩, rfl⟩
    · left
      obtain rfl : c = 0 := by omega
      exact ⟨b2f (fun z => z.1 (by decide)), rfl⟩
  · simp only [if_neg q]
    rw [z_add]
    by_cases q2 : c + 1 < b
    · right
      rw [if_pos q2]
      exact ⟨b2y ⟨n_in (by omega), n_nle (by omega) (by omega)⟩, rfl⟩
    · left
      rw [if_neg q2]
      exact ⟨b2f (fun z => z.2 (by rw [z_le (by omega) (by omega)]; omega)), rfl⟩
theorem t_floorMod {a b : Nat} (ha : a < 2147483648) (h0 : 0 < b) (hb : b < 2147483648) (h : P (nI (a % b)) S) : Ct G l mJ9_floorMod_7cf53 (d + 1) [.int (nI a), .int (nI b)] S (QI P) := by
  refine bJ9_floorMod_7cf53_0 _ _ ⟨fun z => ?_, fun _ => ?_, fun q => ?_⟩
  · have := (z_eq (a := b) (b := 0) hb (by omega)).mp z
    omega
  · rw [z_rem ha h0 hb]
    exact h
  · exfalso
    apply q
    rw [z_xor]
    have := Nat.xor_lt_two_pow (x := a) (y := b) (n := 31) ha hb
    rw [z_le (by omega) this]
    omega
theorem t_walkByLot {Q : Sg → Prop} {L x : Nat} (hL : LandAt L) (hd : DV S L H n) (hH : HI H n) (hn : n < 40) (hc : 0 < H n 0) (hx' : x < 2147483648) (hq : ¬ x % 3 = 0)
    (h : ∀ T : Sg, DV T L (hx H n (ltm (H n) x)) (n + 1) → (∀ k, k ≠ L → k ≠ L + 2 → ¬ (L + 6 ≤ k ∧ k < L + 12) → T.1 k = S.1 k) → T.2 = S.2 → Q T) : Ct G l mX1_walkByLot (d + 4) [.ref L, .int (nI (x / 8)), .int (if x % 3 = 1 then -1 else nI 1)] S (QV Q) := by
  have hv := hd.1
  obtain ⟨hI, e9⟩ := hH.2.1 n (Nat.le_refl n)
  have h12 := hI.1.2.2.2.2.2.2.2.2.2.2.2 hc
  have hp := hI.p6
  have c0 := hI.1.1
  have hw := lotW_lt (m := H n) (x := x) (by omega)
  have hcl := ((hI.2 _ (by omega)).2.2.2.2.2 hw).1
  refine bX1_walkByLot_0 L hL _ _ ⟨fun _ => ?_, fun z => ?_⟩
  · rw [hv.p]
    refine t_floorMod (by omega) (by omega) (by omega) ⟨lotW (H n) x, ix_nI (show lotW (H n) x < 6 by omega) (by omega), ?_⟩
    rw [hv.cl hw]
    refine t_hasCell hL hv _ (fun x34 e34 => ?_)
    have hm : ltm (H n) x = mwk (H n) (lotW (H n) x) (lotC (H n) x) := by
      unfold ltm
      rw [if_neg hq]
    rw [hm] at h
    refine t_act hL hd hH hn (wk := lotW (H n) x) hw (m' := mwk (H n) (lotW (H n) x) (lotC (H n) x)) (by rw [z_add, mwk_o (by omega)]; rfl) (by rw [z_add, mwk_o (by omega)]; rfl) (by rw [z_add, mwk_o (by omega)]; rfl) ?_ (by rw [mwk_9, e9]) (fun k hk q => mwk_o (by omega)) h
    rw [mwk_w, e34]
    unfold lotC
    rcases lot_go (x := x) c0 hcl rfl with ⟨q1, q2⟩ | ⟨q1, q2⟩
    · rw [if_pos q1, q2, z_add]
      rfl
    · rw [if_neg (by rw [q1]; decide), q2]
  · rw [hv.p, z_lt (by omega) (by omega)] at z
    omega
theorem lcmp0 {a b : Nat} (ha : a < 2 ^ 63) (hb : b < 2 ^ 63) : (lg_cmp (lN a) (lN b) = nI 0) ↔ a = b := (lg_cmp_eq _ _).trans (pk_lEQ ha hb)
theorem lot_v {x : Nat} (h : x < 2147483648) : (lN x * lN 48271) - (lN x * lN 48271) / (lN 2147483647) * (lN 2147483647) = lN (x * 48271 % 2147483647) := by
  rw [lN_mul, pk_lRem (by omega) (by omega) (by omega)]
theorem lot_3 {x : Nat} (h : x < 2147483648) : lN x - lN x / lN 3 * lN 3 = lN (x % 3) := pk_lRem (by omega) (by omega) (by omega)
theorem lot_8 {x : Nat} (h : x < 2147483648) : lN x / lN 8 = lN (x / 8) := pk_lDiv (by omega) (by omega) (by omega)
theorem t_lots_l (hH : HI H n) (hc : 0 < H n 0) {x N : Nat} (hx' : x < 2147483647) (hN : n + N ≤ 40) (h : ∀ T : Sg, DV T 28 (Lh H n x N) (n + N) → (∀ k, k ≠ 28 → k ≠ 30 → ¬ (34 ≤ k ∧ k < 40) → T.1 k = S.1 k) → T.2 = S.2 → P (nI (Lh H n x N (n + N) 2 - Lh H n x N (n + N) 1)) T) :
    ∀ (q k : Nat), k + q = N → ∀ T : Sg, DV T 28 (Lh H n x k) (n + k) → (∀ k, k ≠ 28 → k ≠ 30 → ¬ (34 ≤ k ∧ k < 40) → T.1 k = S.1 k) → T.2 = S.2 → Ev G l mX4_lots (d + 12) 58 [some (.ref 0), some (.int (nI N)), some (.int (nI x)), some (.long (lN (lx x k))), none, some (.int (nI k))] [] T (QI P) := by
  intro q
  induction q with
  | zero =>
    intro k hk T hT hf h2
    obtain rfl : k = N := by omega
    obtain ⟨a1, a2⟩ := Lh_HI hH hc x k hN
    refine bX4_lots_58 _ _ _ _ ⟨fun _ => t_strip la28 hT.1 (a1.2.1 _ (Nat.le_refl _)).1 (h T hT hf h2), fun z => ?_⟩
    rw [z_le (by omega) (by omega)] at z
    omega
  | succ q ih =>
    intro k hk T hT hf h2
    obtain ⟨a1, a2⟩ := Lh_HI hH hc x k (by omega)
    have hl := lx_lt hx' k
    have hl1 := lx_lt hx' (k + 1)
    refine bX4_lots_58 _ _ _ _ ⟨fun z => ?_, fun _ v ev => ?_⟩
    · rw [z_le (by omega) (by omega)] at z
      omega
    · rw [lot_v (by omega)] at ev
      replace ev : v = lN (lx x (k + 1)) := ev
      subst ev
      rw [lot_3 (by omega), lot_8 (by omega), lN_i, lcmp0 (by omega) (by omega)]
      simp only [lcmp0 (show lx x (k + 1) % 3 < 2 ^ 63 by omega) (show 1 < 2 ^ 63 by omega)]
      rw [z_add]
      refine ⟨fun z x1 e1 => ?_, fun z => ?_⟩
      · subst e1
        refine t_walkByLot la28 hT a1 (by omega) a2 (by omega) z (fun T2 hT2 hf3 h3 => ih (k + 1) (by omega) T2 hT2 (fun a b1 b2 b3 => ?_) (h3.trans h2))
        rw [hf3 a (by omega) (by omega) (by omega)]
        exact hf a b1 b2 b3
      · have e : ltm (Lh H n x k (n + k)) (lx x (k + 1)) = yr (Lh H n x k (n + k)) := by
          unfold ltm
          rw [if_pos z]
        refine t_passYear la28 hT a1 (by omega) a2 (fun T2 hT2 hf3 h3 => ih (k + 1) (by omega) T2 ?_ (fun a b1 b2 b3 => ?_) (h3.trans h2))
        · rw [← e] at hT2
          exact hT2
        · rw [hf3 a (by omega) (by omega) (by omega)]
          exact hf a b1 b2 b3
theorem u_lots_l (hH : HI H n) (hc : 0 < H n 0) {x N : Nat} (hx' : x < 2147483647) (hN : n + N ≤ 40) {T : Sg} (h : ∀ M', MH M' (Lh H n x N) (n + N) → P (nI (Lh H n x N (n + N) 2 - Lh H n x N (n + N) 1)) (u1 T.1 93 M', T.2)) :
    ∀ (q k : Nat), k + q = N → ∀ M', MH M' (Lh H n x k) (n + k) → Ev G l mX5_lots (d + 12) 55 [some (.ref 7), some (.int (nI N)), some (.int (nI x)), some (.long (lN (lx x k))), none, some (.int (nI k)), none, none] [] (u1 T.1 93 M', T.2) (QI P) := by
  intro q
  induction q with
  | zero =>
    intro k hk M' hM
    obtain rfl : k = N := by omega
    obtain ⟨a1, a2⟩ := Lh_HI hH hc x k hN
    have b1 := (a1.2.1 _ (Nat.le_refl _)).1.1.2.1
    refine bX5_lots_55 _ _ _ _ ⟨fun _ => ?_, fun z => ?_⟩
    · show P (u1 T.1 93 M' 93 2 - u1 T.1 93 M' 93 1) _
      rw [u1_s, hM.1 2 (by omega), hM.1 1 (by omega), z_sub b1]
      exact h M' hM
    · rw [z_le (by omega) (by omega)] at z
      omega
  | succ q ih =>
    intro k hk M' hM
    obtain ⟨a1, a2⟩ := Lh_HI hH hc x k (by omega)
    obtain ⟨hI, e9⟩ := a1.2.1 _ (Nat.le_refl _)
    have hl := lx_lt hx' k
    have hl1 := lx_lt hx' (k + 1)
    refine bX5_lots_55 _ _ _ _ ⟨fun z => ?_, fun _ v ev => ?_⟩
    · rw [z_le (by omega) (by omega)] at z
      omega
    · rw [lot_v (by omega)] at ev
      replace ev : v = lN (lx x (k + 1)) := ev
      subst ev
      rw [lot_3 (by omega), lot_8 (by omega), lcmp0 (by omega) (by omega)]
      simp only [lcmp0 (show lx x (k + 1) % 3 < 2 ^ 63 by omega) (show 1 < 2 ^ 63 by omega)]
      rw [z_add]
      refine u_notes (H := Lh H n x k) (n := n + k) (by show MH (u1 T.1 93 M' 93) _ _; rw [u1_s]; exact hM) a1 (by omega) (fun M2 k1 k2 k3 => ?_)
      have ea : (u1 (u1 T.1 93 M', T.2).1 93 M2, (u1 T.1 93 M', T.2).2) = (u1 T.1 93 M2, T.2) := by
        show (u1 (u1 T.1 93 M') 93 M2, T.2) = _
        rw [u1_u1]
      rw [ea]
      have k1' : ∀ j, j < 40 → j ≠ 9 → M2 j = nI (Lh H n x k (n + k) j) := fun j hj h9 => by
        rw [k1 j hj h9]
        show u1 T.1 93 M' 93 j = _
        rw [u1_s]
        exact hM.1 j hj
      refine ⟨fun z => ?_, fun z => ?_⟩
      · have h12 := hI.1.2.2.2.2.2.2.2.2.2.2.2 a2
        have hp := hI.p6
        have c0 := hI.1.1
        have hw := lotW_lt (m := Lh H n x k (n + k)) (x := lx x (k + 1)) (by omega)
        have hcl := ((hI.2 _ (by omega)).2.2.2.2.2 hw).1
        have e7 : (u1 T.1 93 M2, T.2).1 93 7 = nI (Lh H n x k (n + k) 7) := by
          show u1 T.1 93 M2 93 7 = _
          rw [u1_s]
          exact k1' 7 (by omega) (by omega)
        rw [e7, nI_l (by omega)]
        refine ⟨fun y => ?_, fun v114 e114 => ⟨11 + 5 * lotW (Lh H n x k (n + k)) (lx x (k + 1)), ?_, fun x130 e130 => ?_⟩⟩
        · have := (pk_lEQ (a := Lh H n x k (n + k) 7) (b := 0) (by omega) (by omega)).mp y
          omega
        · rw [e114, pk_lRem (by omega) (by omega) (by omega), lN_i]
          exact ix_i (z_at _ 1) (by omega) (by omega)
        · have ecl : (u1 T.1 93 M2, T.2).1 93 (11 + 5 * lotW (Lh H n x k (n + k)) (lx x (k + 1))) = nI (Lh H n x k (n + k) (11 + 5 * lotW (Lh H n x k (n + k)) (lx x (k + 1)))) := by
            show u1 T.1 93 M2 93 _ = _
            rw [u1_s]
            exact k1' _ (by omega) (by omega)
          rw [ecl]
          have hIs : ∀ j, (u1 T.1 93 M2, T.2).1 93 j = M2 j := fun j => by
            show u1 T.1 93 M2 93 j = _
            rw [u1_s]
          -- whether it is a cell
          have hcell : ∀ {Q : Int32 → Sg → Prop} (i : Int32), Q (b2 (decide (¬ i < nI 0 ∧ ¬ nI (Lh H n x k (n + k) 0) ≤ i))) (u1 T.1 93 M2, T.2) → Ct G l mX5_isCell (d + 11) [.ref 7, .int i] (u1 T.1 93 M2, T.2) (QI Q) := by
            intro Q i hQ
            refine bX5_isCell_0 _ (u_in _ _ _ ⟨b2_zb _, ?_⟩)
            rw [hIs 0, k1' 0 (by omega) (by omega)]
            have e : decide (¬ i < nI 0 ∧ ¬ nI (Lh H n x k (n + k) 0) - nI 1 < i) = decide (¬ i < nI 0 ∧ ¬ nI (Lh H n x k (n + k) 0) ≤ i) := by
              apply decide_eq_decide.mpr
              constructor
              · rintro ⟨a, b⟩
                exact ⟨a, (z_npred i (by omega) a).mp b⟩
              · rintro ⟨a, b⟩
                exact ⟨a, (z_npred i (by omega) a).mpr b⟩
            rw [e]; exact hQ
          refine hcell _ (fun x153 e153 S168 e168 => ?_)
          have hm : ltm (Lh H n x k (n + k)) (lx x (k + 1)) = mwk (Lh H n x k (n + k)) (lotW (Lh H n x k (n + k)) (lx x (k + 1))) (lotC (Lh H n x k (n + k)) (lx x (k + 1))) := by
            unfold ltm
            rw [if_neg z]
          have ex : x153 = nI (lotC (Lh H n x k (n + k)) (lx x (k + 1))) := by
            rw [e153]
            unfold lotC
            rcases lot_go (x := lx x (k + 1)) c0 hcl e130 with ⟨q1, q2⟩ | ⟨q1, q2⟩
            · rw [if_pos q1, q2]
              exact ecl
            · rw [if_neg (by rw [q1]; decide), q2]
          have eS : S168 = (u1 T.1 93 (upd M2 (11 + 5 * lotW (Lh H n x k (n + k)) (lx x (k + 1))) (nI (lotC (Lh H n x k (n + k)) (lx x (k + 1))))), T.2) := by
            rw [e168, ex]
            simp only [u1_put]
          rw [eS]
          refine ih (k + 1) (by omega) _ ?_
          have := (mwk_MH a1 k1' k2 k3 (j := lotW (Lh H n x k (n + k)) (lx x (k + 1))) (c := lotC (Lh H n x k (n + k)) (lx x (k + 1)))).resolve_right (by omega)
          rw [← hm] at this
          exact this
      · have e : ltm (Lh H n x k (n + k)) (lx x (k + 1)) = yr (Lh H n x k (n + k)) := by
          unfold ltm
          rw [if_pos z]
        refine u_ages_n a1 (by omega) a2 k1' k2 k3 (fun M3 hM3 => ih (k + 1) (by omega) M3 ?_)
        rw [← e] at hM3
        exact hM3
theorem pm_lots (hR : R S) (i1 i2 : Int32) (h : ∀ r S', R S' → F r r S') : Ct G l mX4_lots (d + 20) [.ref 0, .int i1, .int i2] S (QI (fun r T => Ct G l mX5_lots (d + 20) [.ref 7, .int i1, .int i2] T (QI (fun r2 T2 => F r r2 T2)))) := by
  obtain ⟨H, n, hH, hD, hM⟩ := hR.2.2.2.2.2.1
  obtain ⟨hI, e9⟩ := hH.2.1 n (Nat.le_refl n)
  have hv := hD.1
  have hu : MV S (H n) := hM.1
  have h40 := hH.1
  by_cases hA : ¬ i1 < nI 1 ∧ ¬ nI 20 < i1
  · by_cases hB : ¬ i2 < nI 1 ∧ ¬ nI 2147483646 < i2
    · obtain ⟨N, n1, n2, rfl⟩ := rng_in (by omega) (by omega) hA.1 hA.2
      obtain ⟨x, x1, x2, rfl⟩ := rng_in (by omega) (by omega) hB.1 hB.2
      have hMo : ∀ (T : Sg) (r : Int32), MV T (H n) → (0 < H n 0 → n + N ≤ 40 → Ev G l mX5_lots (d + 20) 55 [some (.ref 7), some (.int (nI N)), some (.int (nI x)), some (.long (lN x)), none, some (.int (nI 0)), none, none] [] T (QI (fun r2 T2 => F r r2 T2))) → (0 < H n 0 → ¬ n + N ≤ 40 → F r (-2) T) → (¬ 0 < H n 0 → F r (-4) T) → Ct G l mX5_lots (d + 20) [.ref 7, .int (nI N), .int (nI x)] T (QI (fun r2 T2 => F r r2 T2)) := by
        intro T r huT k1 k2 k3
        refine bX5_lots_0 _ _ (u_in _ _ _ ?_)
        rw [b2y hA]
        refine ⟨fun z => absurd z (by decide), fun _ => u_in _ _ _ ?_⟩
        rw [b2y hB]
        refine ⟨fun _ => u_are huT hI ?_, fun z => absurd z (by decide)⟩
        by_cases hc : 0 < H n 0
        · rw [b2y hc, huT 9 (by omega), e9, z_add, z_le (by omega) (by omega), nI_l (by omega)]
          exact ⟨fun _ => ⟨fun z => k1 hc z, fun z => k2 hc z⟩, fun z => absurd z (by decide)⟩
        · rw [b2f hc]
          exact ⟨fun z => absurd rfl z, fun _ => k3 hc⟩
      refine bX4_lots_0 _ _ ⟨fun z => absurd z hA.1, fun _ => ⟨fun z => absurd z hA.2, fun _ => ⟨fun z => absurd z hB.1, fun _ => ⟨fun _ => t_isThere la28 hv hI ?_, fun z => absurd (z_nlt.mp hB.2) z⟩⟩⟩⟩
      by_cases hc : 0 < H n 0
      · rw [b2y hc]
        refine ⟨fun _ => t_hasRoomFor la28 hv hI (n := N) (by omega) ?_, fun z => absurd z (by decide)⟩
        by_cases hf : n + N ≤ 40
        · rw [b2y (by omega), nI_l (by omega)]
          refine ⟨fun _ => t_lots_l hH hc (x := x) (N := N) (by omega) hf (fun T hT hf2 h2 => ?_) N 0 (by omega) S hD (fun _ _ _ _ => rfl) rfl, fun z => absurd z (by decide)⟩
          have e93 : T.1 93 = S.1 93 := hf2 93 (by omega) (by omega) (by omega)
          have hMT : MH (T.1 93) H n := by rw [e93]; exact hM
          refine hMo T _ hMT.1 (fun _ _ => ?_) (fun _ z => absurd hf z) (fun z => absurd hc z)
          have := u_lots_l (d := d + 8) (l := l) (G := G) (P := fun r2 T2 => F (nI (Lh H n x N (n + N) 2 - Lh H n x N (n + N) 1)) r2 T2) hH hc (x := x) (N := N) (by omega) hf (T := T) (fun M' hM' => h _ _ (hR.deed hf2 h2 (Lh_HI hH hc x N hf).1 hT hM')) N 0 (by omega) (T.1 93) hMT
          rw [u1_id _ _ rfl] at this
          exact this
        · rw [b2f (by omega)]
          exact ⟨fun z => absurd rfl z, fun _ => hMo S _ hu (fun _ z => absurd z hf) (fun _ _ => h _ _ hR) (fun z => absurd hc z)⟩
      · rw [b2f hc]
        exact ⟨fun z => absurd rfl z, fun _ => hMo S _ hu (fun z => absurd z hc) (fun z => absurd z hc) (fun _ => h _ _ hR)⟩
    · have hm : Ct G l mX5_lots (d + 20) [.ref 7, .int i1, .int i2] S (QI (fun r2 T2 => F (-1) r2 T2)) := by
        refine bX5_lots_0 _ _ (u_in _ _ _ ?_)
        rw [b2y hA]
        refine ⟨fun z => absurd z (by decide), fun _ => u_in _ _ _ ?_⟩
        rw [b2f hB]
        exact ⟨fun z => absurd rfl z, fun _ => h _ _ hR⟩
      exact bX4_lots_0 _ _ ⟨fun z => absurd z hA.1, fun _ => ⟨fun z => absurd z hA.2, fun _ => ⟨fun _ => hm, fun z => ⟨fun y => absurd ⟨z, z_nlt.mpr y⟩ hB, fun _ => hm⟩⟩⟩⟩
  · have hm : Ct G l mX5_lots (d + 20) [.ref 7, .int i1, .int i2] S (QI (fun r2 T2 => F (-1) r2 T2)) := by
      refine bX5_lots_0 _ _ (u_in _ _ _ ?_)
      rw [b2f hA]
      exact ⟨fun _ => h _ _ hR, fun z => absurd rfl z⟩
    exact bX4_lots_0 _ _ ⟨fun _ => hm, fun z => ⟨fun _ => hm, fun y => absurd ⟨z, y⟩ hA⟩⟩
end lots
