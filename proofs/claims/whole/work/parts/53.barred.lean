/-! papers, whether they can be -/
section barred
variable {G : Gl} {l : Launch} {d : Nat} {S : Sg} {m : Nat → Nat} {P : Int32 → Sg → Prop} {F : Int32 → Int32 → Sg → Prop}
def GoodP (m : Nat → Nat) (f : Nat → Int32) (k : Nat) : Prop := (¬ f (3 * k) < nI 0 ∧ ¬ f (3 * k + 1) < f (3 * k) ∧ ¬ nI (m 0) < f (3 * k + 1)) ∧ (f (3 * k + 2) = nI 0 ∨ f (3 * k + 2) = nI 1)
theorem pN_of {f : Nat → Int32} {k a : Nat} (h : f k = nI a) (ha : a < 2147483648) : pN f k = a := by
  unfold pN
  rw [h, nI_toInt ha]
  rfl
theorem good_pap {f : Nat → Int32} {t : Nat} (hI : IV m) (h : ∀ k, k < t → GoodP m f k) : Pap f m t := by
  have h0 := hI.1.1
  intro k hk
  obtain ⟨⟨a1, a2, a3⟩, a4⟩ := h k hk
  obtain ⟨w, hw, ew⟩ := z_ofx (z_nlt.mp a1)
  rw [ew] at a2
  have a2' := z_nlt.mp a2
  have a5 : nI 0 ≤ f (3 * k + 1) := by
    rw [Int32.le_iff_toInt_le] at a2' ⊢
    rw [nI_toInt hw] at a2'
    rw [nI_toInt (by omega)]
    omega
  obtain ⟨e, he, ee⟩ := z_ofx a5
  rw [ee] at a2 a3
  rw [z_lt he hw] at a2
  rw [z_lt (by omega) he] at a3
  have a6 : ∃ b, b ≤ 1 ∧ f (3 * k + 2) = nI b := by
    rcases a4 with y | y
    · exact ⟨0, by omega, y⟩
    · exact ⟨1, by omega, y⟩
  obtain ⟨b, hb, eb⟩ := a6
  rw [pN_of ew hw, pN_of ee he, pN_of eb (by omega)]
  exact ⟨by omega, by omega, hb, ew, ee, eb⟩
theorem t_papers_l {T : Sg} {x t : Nat} {i1 i2 i3 : Int32} {f : Nat → Int32} (hx : x < 6) (hv : LV T 28 m) (hI : IV m) (ht : 3 * t ≤ 40) (hs : T.1 (8 + x) 1 = nI (3 * t)) (hf : ∀ i, i < 3 * t → T.1 (8 + x + 10) i = f i) (h1 : (∀ k, k < t → GoodP m f k) → P (nI 0) T) (h0 : ¬ (∀ k, k < t → GoodP m f k) → P (-3) (fdD T 3)) : ∀ (q k : Nat), k + q = t → (∀ j, j < k → GoodP m f j) → Ev G l mX4_refusePapers (d + 3) 56 [some (.ref 0), some (.int i1), some (.int i2), some (.int i3), some (.ref (8 + x)), some (.int (nI (3 * k))), none] [] T (QI P) := by
  have hra : RowAt (8 + x) := ra_F sh1 (ix_nI hx (by decide))
  have hln : ln (8 + x + 10) = 40 := ln_row hx
  intro q
  induction q with
  | zero =>
    intro k hkt hall
    obtain rfl : k = t := by omega
    exact bX4_refusePapers_56 _ _ _ _ hra _ ⟨fun _ => h1 hall, fun z => absurd (by rw [hs, z_add]; exact (z_le (by omega) (by omega)).mpr (by omega)) z⟩
  | succ q ih =>
    intro k hkt hall
    have hgo : GoodP m f k → Ev G l mX4_refusePapers (d + 3) 56 [some (.ref 0), some (.int i1), some (.int i2), some (.int i3), some (.ref (8 + x)), some (.int (nI (3 * (k + 1)))), none] [] T (QI P) := fun w => ih (k + 1) (by omega) (fun j hj => by
      by_cases y : j = k
      · rw [y]; exact w
      · exact hall j (by omega))
    have hbad : ∀ v, ¬ GoodP m f k → Ev G l mX4_refusePapers (d + 3) 119 [some (.ref 0), some (.int i1), some (.int i2), some (.int i3), some (.ref (8 + x)), some (.int (nI (3 * k))), some (.int v)] [] T (QI P) := fun v w => bX4_refusePapers_119 _ _ _ _ hra _ _ (t_refuse (by omega) (h0 (fun y => w (y k (by omega)))))
    refine bX4_refusePapers_56 _ _ _ _ hra _ ⟨fun z => ?_, fun _ => ⟨3 * k + 2, ix_i (z_add _ _) (by omega) (by omega), 3 * k, ix_nI (by omega) (by omega), 3 * k + 1, ix_i (z_add _ _) (by omega) (by omega), ?_⟩⟩
    · rw [hs, z_add, z_le (by omega) (by omega)] at z
      omega
    · rw [hf _ (by omega), hf _ (by omega), hf _ (by omega)]
      refine t_canBeCoasts la28 hv _ _ ?_
      rw [b2_0, z_add]
      refine ⟨fun z => hbad _ (fun w => (of_decide_eq_false z) w.1), fun z => ?_⟩
      have z1 := of_decide_eq_true ((Bool.not_eq_false _).mp z)
      exact ⟨fun y => hgo ⟨z1, Or.inl y⟩, fun y => ⟨fun y2 => hgo ⟨z1, Or.inr y2⟩, fun y2 => hbad _ (fun w => w.2.elim y y2)⟩⟩
theorem u_barred_l {T : Sg} {x t : Nat} {i1 : Int32} {f : Nat → Int32} (hx : x < 6) (hu : MV T m) (ht : 3 * t ≤ 40) (hs : T.1 88 x = nI (3 * t)) (hf : ∀ i, i < 3 * t → T.1 89 (40 * x + i) = f i) (h1 : (∀ k, k < t → GoodP m f k) → P (nI 0) T) (h0 : ¬ (∀ k, k < t → GoodP m f k) → P (-3) (fdM T 3)) : ∀ (q k : Nat) (b : Int32), k + q = t → ((b = nI 1 ∧ ∀ j, j < k → GoodP m f j) ∨ (b = nI 0 ∧ ¬ ∀ j, j < k → GoodP m f j)) → Ev G l mX5_barred (d + 4) 54 [some (.ref 7), some (.int i1), some (.int (nI x)), some (.int b), some (.int (nI (3 * k))), none] [] T (QI P) := by
  intro q
  induction q with
  | zero =>
    intro k b hkt hb
    obtain rfl : k = t := by omega
    refine bX5_barred_54 _ _ _ _ ⟨x, ix_nI hx (by omega), fun _ => ?_, fun z => absurd (by rw [hs]; exact (z_le (by omega) (by omega)).mpr (by omega)) z⟩
    rcases hb with ⟨rfl, w⟩ | ⟨rfl, w⟩
    · exact ⟨fun z => absurd z (by decide), fun _ => h1 w⟩
    · exact ⟨fun _ => u_finds (by omega) (h0 w), fun z => absurd rfl z⟩
  | succ q ih =>
    intro k b hkt hb
    refine bX5_barred_54 _ _ _ _ ⟨x, ix_nI hx (by omega), fun z => ?_, fun _ => ⟨fun z => ?_, fun z => ?_⟩⟩
    · rw [hs, z_le (by omega) (by omega)] at z
      omega
    · rw [z_add]
      refine ih (k + 1) _ (by omega) (Or.inr ⟨rfl, fun w => ?_⟩)
      rcases hb with ⟨rfl, -⟩ | ⟨-, w2⟩
      · exact absurd z (by decide)
      · exact w2 (fun j hj => w j (by omega))
    · have hall : ∀ j, j < k → GoodP m f j := hb.elim (fun y => y.2) (fun y => absurd y.1 z)
      refine ⟨40 * x + 3 * k, ix_i (z_row 40 x _) (by omega) (by omega), 40 * x + (3 * k + 1), ix_i (by rw [z_row, z_add]; congr 1) (by omega) (by omega), ?_⟩
      rw [hf _ (by omega), hf _ (by omega)]
      refine u_areCoasts hu _ _ ?_
      rw [b2_0, z_add]
      refine ⟨fun z => ?_, fun z => ⟨40 * x + (3 * k + 2), ix_i (by rw [z_row, z_add]; congr 1) (by omega) (by omega), ?_⟩⟩
      · exact ih (k + 1) _ (by omega) (Or.inr ⟨rfl, fun w => (of_decide_eq_false z) (w k (by omega)).1⟩)
      · have z1 := of_decide_eq_true ((Bool.not_eq_false _).mp z)
        rw [hf _ (by omega)]
        refine u_inN _ 2 1 rfl (by omega) (fun y ey => ?_)
        rcases o_cases (f (3 * k + 2)) 2 (by omega) with w | ⟨j, hj, w⟩
        · rw [b2n_n w, if_pos rfl] at ey
          rw [ey]
          refine ih (k + 1) _ (by omega) (Or.inr ⟨rfl, fun w2 => ?_⟩)
          rcases (w2 k (by omega)).2 with y2 | y2
          · exact n_bad w (j := 0) (by omega) (by omega) y2
          · exact n_bad w (j := 1) (by omega) (by omega) y2
        · rw [w, b2n_y hj (by omega), if_neg (by decide)] at ey
          rw [ey]
          refine ih (k + 1) _ (by omega) (Or.inl ⟨rfl, fun j2 hj2 => ?_⟩)
          by_cases y2 : j2 = k
          · rw [y2]
            refine ⟨z1, ?_⟩
            rcases (show j = 0 ∨ j = 1 by omega) with rfl | rfl
            · exact Or.inl w
            · exact Or.inr w
          · exact hall j2 (by omega)
end barred
