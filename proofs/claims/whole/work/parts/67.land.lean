/-! fault, land -/
section land
variable {G : Gl} {l : Launch} {d : Nat} {S T : Sg} {F : Int32 → Int32 → Sg → Prop}
theorem su_s {f : Nat → Nat → Int32} {g : Nat → Nat → Int64} {k : Nat} {r : Nat → Int32} : ((u1 f k r, g) : Sg).1 k = r := by
  show u1 f k r k = r
  exact u1_s f
theorem su_o {f : Nat → Nat → Int32} {g : Nat → Nat → Int64} {k a : Nat} {r : Nat → Int32} (h : a ≠ k) : ((u1 f k r, g) : Sg).1 a = f a := by
  show u1 f k r a = f a
  exact u1_o f h
theorem R.read (hR : R S) {U : Sg} {q : Nat} {s : Bool × Nat} (hg : G4 S T q) (hk : K7 T U s) : R U := by
  have E : ∀ k, k < 4 ∨ (5 ≤ k ∧ k < 7) ∨ (8 ≤ k ∧ k < 40) ∨ (52 ≤ k ∧ k < 94) ∨ (95 ≤ k ∧ k ≤ 97) → U.1 k = S.1 k := fun k hk2 => (hk.1 k (by omega) (by omega)).trans (hg.1 k (by omega) (by omega))
  have E7 : ∀ i, i ≠ 20 → i ≠ 21 → U.1 7 i = S.1 7 i := fun i h1 h2 => (hk.2.2.1 i h1 h2).trans (by rw [hg.1 7 (by omega) (by omega)])
  have e2 : U.2 = S.2 := hk.2.1.trans hg.2.1
  refine hR.fr (fun k hk2 => E k (by omega)) ?_ ?_ ?_
  · have := hR.2.2.1
    unfold RF at this ⊢
    rw [E 0 (by omega), E 6 (by omega), E7 10 (by omega) (by omega), E 97 (by omega)]
    exact this
  · have := hR.2.2.2.1
    unfold RQ at this ⊢
    rw [E 0 (by omega), E7 11 (by omega) (by omega)]
    exact this
  · have := hR.2.2.2.2.1
    unfold RL2 at this ⊢
    rw [e2]
    exact this
theorem Tx.of (hR : R S) {y n : Nat} (hy : y < 4) (hn : n ≤ 60) (e : S.1 91 y = nI n) (hc : ∀ i, i < n → S.1 (24 + y) i = S.1 92 (60 * y + i)) : Tx y n (fun i => S.1 92 (60 * y + i)) S :=
  ⟨hy, hn, (hR.2.1 y hy).1.trans e, hc, e, fun _ _ => rfl⟩
theorem pm_fault (hR : R S) (i1 : Int32) (h : ∀ r S', R S' → F r r S') : Ct G l mX4_fault (d + 20) [.ref 0, .int i1] S (QI (fun r T => Ct G l mX5_fault (d + 20) [.ref 7, .int i1] T (QI (fun r2 T2 => F r r2 T2)))) := by
  refine bX4_fault_0 _ ?_
  rcases o_cases i1 4 (by omega) with q | ⟨y, hy, rfl⟩
  · refine t_rm_bad sh2 q ⟨fun z => absurd z (by decide), fun _ => bX5_fault_0 _ (u_isText _ ?_)⟩
    rw [b2n_n q]
    exact ⟨fun z => absurd rfl z, fun _ => h _ _ hR⟩
  have hr := hR.2.1 y hy
  have e1 : S.1 (rf 2 y) 1 = S.1 91 y := hr.1
  rcases hr.sz with ⟨z, -⟩ | ⟨n, hn, en, -, hc⟩
  · refine t_rm_miss sh2 hy (e1.trans z) ⟨fun z => absurd z (by decide), fun _ => bX5_fault_0 _ (u_isText _ ?_)⟩
    rw [b2n_y hy (by omega)]
    refine ⟨fun _ => ⟨y, ix_nI hy (by omega), fun q => ?_, fun _ => u_finds (by omega) (h _ _ (hR.found (by omega)))⟩, fun z => absurd z (by decide)⟩
    rw [fdD_88 1 91 (by omega), z] at q
    exact absurd q n_m1
  · have hX := Tx.of hR hy hn en hc
    refine t_rm_ok sh2 hy hn (e1.trans en) ⟨fun _ => ⟨y, ix_nI hy (by omega), t_read hX (fun T t1 t2 x ex => ?_)⟩, fun z => absurd rfl z⟩
    refine bX5_fault_0 _ (u_isText _ ?_)
    rw [b2n_y hy (by omega)]
    have hXT := t1.tx hX
    refine ⟨fun _ => ⟨y, ix_nI hy (by omega), fun _ => u_reads hXT (fun U k1 k2 => ?_), fun z => ?_⟩, fun z => absurd z (by decide)⟩
    · have hRU := hR.read t1 k1
      have e : x = (if (rdr n (fun i => S.1 92 (60 * y + i))).1.1 = true then -9 else nI (rdr n (fun i => S.1 92 (60 * y + i))).1.2) := by
        rw [ex, t1.2.2]
        cases (rdr n (fun i => S.1 92 (60 * y + i))).1.1
        · rfl
        · rfl
      rw [e]
      exact h _ _ hRU
    · rw [hXT.2.2.2.2.1] at z
      exact absurd (n_le (by omega)) z
theorem t_land_52 {P : Int32 → Sg → Prop} (i1 i2 : Int32) (h : ∀ T' : Sg, (∀ a, ¬ (a = 52 ∨ a = 64 ∨ a = 76) → T'.1 a = S.1 a) → T'.2 = S.2 → (∀ k, k < 3 → T'.1 (52 + 12 * k) 0 = nI 0) → P (T'.1 28 8) T') : Ev G l mX4_land (d + 2) 52 [some (.ref 0), some (.int i1), some (.int i2), some (.int (nI 0))] [] S (QI P) := by
  have hl : ∀ (q k : Nat), k + q = 3 → ∀ T : Sg, (∀ a, ¬ (a = 52 ∨ a = 64 ∨ a = 76) → T.1 a = S.1 a) → T.2 = S.2 → (∀ j, j < k → T.1 (52 + 12 * j) 0 = nI 0) → Ev G l mX4_land (d + 2) 52 [some (.ref 0), some (.int i1), some (.int i2), some (.int (nI k))] [] T (QI P) := by
    intro q
    induction q with
    | zero =>
      intro k hk T f1 f2 f3
      obtain rfl : k = 3 := by omega
      exact bX4_land_52 _ _ _ ⟨fun _ => h T f1 f2 f3, fun z => absurd (by decide) z⟩
    | succ q ih =>
      intro k hk T f1 f2 f3
      refine bX4_land_52 _ _ _ ⟨fun z => ?_, fun _ => ⟨k, ix_nI (by omega) (by omega), fun S1 e1 => ?_⟩⟩
      · rw [z_le (by omega) (by omega)] at z
        omega
      · rw [z_add]
        refine ih (k + 1) (by omega) S1 (fun a ha => ?_) (by rw [e1]; exact f2) (fun j hj => ?_)
        · rw [e1]
          exact (sg_o (by omega)).trans (f1 a ha)
        · rw [e1]
          by_cases z : j = k
          · subst z
            exact sg_s
          · have : (u2 T.1 (52 + 12 * k) 0 (nI 0)) (52 + 12 * j) 0 = T.1 (52 + 12 * j) 0 := by rw [u2_o _ (by omega)]
            exact this.trans (f3 j (by omega))
  exact hl 3 0 rfl S (fun _ _ => rfl) rfl (fun j hj => absurd hj (Nat.not_lt_zero j))
theorem u_land_52 {P : Int32 → Sg → Prop} (i1 : Int32) (h : ∀ T' : Sg, (∀ a, a ≠ 96 → T'.1 a = S.1 a) → T'.2 = S.2 → (∀ k, k < 3 → T'.1 96 k = nI 0) → P (T'.1 93 7) T') : Ev G l mX5_land (d + 2) 52 [some (.ref 7), some (.int i1), some (.int (nI 0))] [] S (QI P) := by
  have hl : ∀ (q k : Nat), k + q = 3 → ∀ T : Sg, (∀ a, a ≠ 96 → T.1 a = S.1 a) → T.2 = S.2 → (∀ j, j < k → T.1 96 j = nI 0) → Ev G l mX5_land (d + 2) 52 [some (.ref 7), some (.int i1), some (.int (nI k))] [] T (QI P) := by
    intro q
    induction q with
    | zero =>
      intro k hk T f1 f2 f3
      obtain rfl : k = 3 := by omega
      exact bX5_land_52 _ _ ⟨fun _ => h T f1 f2 f3, fun z => absurd (by decide) z⟩
    | succ q ih =>
      intro k hk T f1 f2 f3
      refine bX5_land_52 _ _ ⟨fun z => ?_, fun _ => ⟨k, ix_nI (by omega) (by omega), fun S1 e1 => ?_⟩⟩
      · rw [z_le (by omega) (by omega)] at z
        omega
      · rw [z_add]
        refine ih (k + 1) (by omega) S1 (fun a ha => ?_) (by rw [e1]; exact f2) (fun j hj => ?_)
        · rw [e1]
          exact (sg_o ha).trans (f1 a ha)
        · rw [e1]
          by_cases z : j = k
          · subst z
            exact sg_s
          · exact (sg_n z).trans (f3 j (by omega))
  exact hl 3 0 rfl S (fun _ _ => rfl) rfl (fun j hj => absurd hj (Nat.not_lt_zero j))
theorem kd_94 : kd 94 = 10 := rfl
theorem ln_94 : ln 94 = 400 := rfl
theorem pm_land (hR : R S) (i1 : Int32) (h : ∀ r S', R S' → F r r S') : Ct G l mX4_land (d + 20) [.ref 0, .int i1] S (QI (fun r T => Ct G l mX5_land (d + 20) [.ref 7, .int i1] T (QI (fun r2 T2 => F r r2 T2)))) := by
  refine bX4_land_0 _ ?_
  rcases o_cases i1 4 (by omega) with q | ⟨y, hy, rfl⟩
  · refine t_rm_bad sh2 q ⟨fun z => absurd z (by decide), fun _ => bX5_land_0 _ (u_isText _ ?_)⟩
    rw [b2n_n q]
    exact ⟨fun z => absurd rfl z, fun _ => h _ _ hR⟩
  have hr := hR.2.1 y hy
  have e1 : S.1 (rf 2 y) 1 = S.1 91 y := hr.1
  rcases hr.sz with ⟨z, -⟩ | ⟨n, hn, en, -, hc⟩
  · refine t_rm_miss sh2 hy (e1.trans z) ⟨fun z => absurd z (by decide), fun _ => bX5_land_0 _ (u_isText _ ?_)⟩
    rw [b2n_y hy (by omega)]
    refine ⟨fun _ => ⟨y, ix_nI hy (by omega), fun q => ?_, fun _ => u_finds (by omega) (h _ _ (hR.found (by omega)))⟩, fun z => absurd z (by decide)⟩
    rw [fdD_88 1 91 (by omega), z] at q
    exact absurd q n_m1
  · have hX := Tx.of hR hy hn en hc
    refine t_rm_ok sh2 hy hn (e1.trans en) ⟨fun _ => ⟨y, ix_nI hy (by omega), t_read hX (fun T t1 t2 => ?_)⟩, fun z => absurd rfl z⟩
    have hJall := rdr_JV (n := n) (c := fun i => S.1 92 (60 * y + i))
    have hXT := t1.tx hX
    have hreads : ∀ {P : Int32 → Sg → Prop} {V : Sg}, Tx y n (fun i => S.1 92 (60 * y + i)) V → (∀ U : Sg, K7 V U (rdr n (fun i => S.1 92 (60 * y + i))).1 → ((rdr n (fun i => S.1 92 (60 * y + i))).1.1 = true → ∀ k, k < 40 → U.1 94 k = nI ((rdr n (fun i => S.1 92 (60 * y + i))).2 k)) → P (if (rdr n (fun i => S.1 92 (60 * y + i))).1.1 = true then -9 else nI (rdr n (fun i => S.1 92 (60 * y + i))).1.2) U) → Ct G l mX5_reads (d + 19) [.ref 7, .int (nI y)] V (QI P) := fun hV hP => u_reads (d := d + 15) hV hP
    have hp2 : ∀ V U : Sg, K7 V U (rdr n (fun i => S.1 92 (60 * y + i))).1 → ∀ b q, (rdr n (fun i => S.1 92 (60 * y + i))).1 = (b, q) → K7 V U (b, q) := fun V U hK b q e => by rw [← e]; exact hK
    generalize hrd : rdr n (fun i => S.1 92 (60 * y + i)) = rd at t1 t2 hJall hreads hp2
    obtain ⟨⟨b, q⟩, m⟩ := rd
    cases b
    · refine ⟨fun z => absurd rfl z, fun _ => bX5_land_0 _ (u_isText _ ?_)⟩
      rw [b2n_y hy (by omega)]
      refine ⟨fun _ => ⟨y, ix_nI hy (by omega), fun _ => hreads hXT (fun U k1 k2 => ?_), fun z => ?_⟩, fun z => absurd z (by decide)⟩
      · have hqn : q ≤ 60 ∨ 60 < q := by omega
        refine ⟨fun z => ?_, fun _ => h _ _ (hR.read t1 k1)⟩
        have z : nI q = -9 := z
        have h20 := k1.2.2.2.1
        exact absurd z (z_m9_eq (by
          have : q ≤ 60 := by
            have e : q = (rdr n (fun i => S.1 92 (60 * y + i))).1.2 := by rw [hrd]
            rw [e]
            exact Nat.le_trans (rdr_le) hn
          omega))
      · rw [hXT.2.2.2.2.1] at z
        exact absurd (n_le (by omega)) z
    · obtain ⟨hJ, hp⟩ := hJall rfl
      have hp : 0 < m 7 := hp
      have hJ : JV m := hJ
      have hI := hJ.iv hp
      have hvD : LV T 40 m := t2 rfl
      have hc0 : 0 < m 0 := by have := hJ.1; omega
      refine ⟨fun _ => t_becomeAs la28 la40 (by omega) (fun T1 f0 f1 f6 f7 ff f2 => t_land_52 _ _ (fun T2 g1 g2 g3 => ?_)), fun z => absurd z b2t⟩
      have hH : HI (fun _ => m) 0 := ⟨by omega, fun e he => ⟨hI, by show m 9 = e; have := hJ.1.2.2.2.2.2.2.2.2.2.2; omega⟩, fun _ _ _ _ _ => rfl⟩
      have hD1 : DV T1 28 (fun _ => m) 0 := DV.mv (S := T) (L := 40) ⟨hvD, fun e he => absurd he (Nat.not_lt_zero e)⟩ (by omega) hI.p6 f0 f1 f6 f7
      have hD2 : DV T2 28 (fun _ => m) 0 := hD1.fr (A := fun a => ¬ (a = 52 ∨ a = 64 ∨ a = 76)) g1 (fun k a b => by omega)
      rw [hD2.1.p]
      have hX2 : Tx y n (fun i => S.1 92 (60 * y + i)) T2 := by
        have ee : ∀ a, (5 ≤ a ∧ a < 28) ∨ (88 ≤ a) → T2.1 a = T.1 a := fun a ha => (g1 a (by omega)).trans (ff a (by omega))
        exact hXT.fr (ee _ (by omega)) (ee _ (by omega)) (ee _ (by omega)) (ee _ (by omega))
      refine bX5_land_0 _ (u_isText _ ?_)
      rw [b2n_y hy (by omega)]
      refine ⟨fun _ => ⟨y, ix_nI hy (by omega), fun _ => hreads hX2 (fun U k1 k2 => ?_), fun z => ?_⟩, fun z => absurd z (by decide)⟩
      · refine ⟨fun _ => u_copies kd_94 kd_93 (by omega) (by rw [ln_94]; omega) (by rw [ln_93]; omega) (by rw [ln_94]; omega) (by rw [ln_93]; omega) (u_land_52 _ (fun V v1 v2 v3 => ?_)), fun z => absurd rfl z⟩
        have e93 : V.1 93 = va_cpy (U.1 94) (U.1 93) 0 0 400 := (v1 93 (by omega)).trans (su_s)
        have k2' := k2 rfl
        have hM : ∀ k, k < 40 → V.1 93 k = nI (m k) := fun k hk => by
          rw [e93, cpy0 _ _ (by omega)]
          exact k2' k hk
        rw [hM 7 (by omega)]
        refine h _ _ ?_
        -- all that has not changed
        have EV : ∀ a, a ≠ 93 → a ≠ 96 → V.1 a = U.1 a := fun a h1 h2 => (v1 a h2).trans (su_o h1)
        have E : ∀ a, a < 4 ∨ (5 ≤ a ∧ a < 7) ∨ (8 ≤ a ∧ a < 28) ∨ (88 ≤ a ∧ a < 93) ∨ a = 95 ∨ a = 97 → V.1 a = S.1 a := fun a ha => by
          rw [EV a (by omega) (by omega), k1.1 a (by omega) (by omega), g1 a (by omega), ff a (by omega)]
          exact t1.1 a (by omega) (by omega)
        have E7 : ∀ i, i ≠ 20 → i ≠ 21 → V.1 7 i = S.1 7 i := fun i h1 h2 => by
          rw [EV 7 (by omega) (by omega), k1.2.2.1 i h1 h2, g1 7 (by omega), ff 7 (by omega), t1.1 7 (by omega) (by omega)]
        have EL : ∀ a, (28 ≤ a ∧ a < 40) ∨ (52 ≤ a ∧ a < 88) → V.1 a = T2.1 a := fun a ha => by
          rw [EV a (by omega) (by omega)]
          exact k1.1 a (by omega) (by omega)
        have e2 : V.2 = S.2 := v2.trans (k1.2.1.trans (g2.trans (f2.trans t1.2.1)))
        refine ⟨fun x hx => (hR.1 x hx).fr E (by omega), fun z hz => (hR.2.1 z hz).fr E (by omega), ?_, ?_, ?_, ⟨fun _ => m, 0, hH, hD2.fr EL (fun k a b => by omega), ⟨hM, fun e he => absurd he (Nat.not_lt_zero e)⟩⟩, fun k hk => Or.inl ⟨v3 k hk, ?_⟩⟩
        · have := hR.2.2.1
          unfold RF at this ⊢
          rw [E 0 (by omega), E 6 (by omega), E7 10 (by omega) (by omega), E 97 (by omega)]
          exact this
        · have := hR.2.2.2.1
          unfold RQ at this ⊢
          rw [E 0 (by omega), E7 11 (by omega) (by omega)]
          exact this
        · have := hR.2.2.2.2.1
          unfold RL2 at this ⊢
          rw [e2]
          exact this
        · rw [EL (52 + 12 * k) (by omega)]
          exact g3 k hk
      · rw [hX2.2.2.2.2.1] at z
        exact absurd (n_le (by omega)) z
end land
