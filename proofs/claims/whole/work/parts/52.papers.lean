/-! papers -/
section papers
variable {G : Gl} {l : Launch} {d : Nat} {S : Sg} {m : Nat → Nat} {P : Int32 → Sg → Prop} {F : Int32 → Int32 → Sg → Prop}
def pN (f : Nat → Int32) (k : Nat) : Nat := (f k).toInt.toNat
/-- t papers that can be -/
def Pap (f : Nat → Int32) (m : Nat → Nat) (t : Nat) : Prop := ∀ k, k < t → pN f (3 * k) ≤ pN f (3 * k + 1) ∧ pN f (3 * k + 1) ≤ m 0 ∧ pN f (3 * k + 2) ≤ 1 ∧ f (3 * k) = nI (pN f (3 * k)) ∧ f (3 * k + 1) = nI (pN f (3 * k + 1)) ∧ f (3 * k + 2) = nI (pN f (3 * k + 2))
def sAg (m : Nat → Nat) (f : Nat → Int32) (kk c fi k : Nat) : Bool := decide (sBy m kk c fi (pN f (3 * k)) (pN f (3 * k + 1)) = decide (pN f (3 * k + 2) = 1))
theorem t_agrees_l {T : Sg} {x t kk c fi : Nat} {f : Nat → Int32} (hx : x < 6) (hv : LV T 28 m) (hI : IV m) (ht : 3 * t ≤ 40) (hs : T.1 (8 + x) 1 = nI (3 * t)) (hf : ∀ i, i < 3 * t → T.1 (8 + x + 10) i = f i) (hP : Pap f m t) (hk : kk < 6) (hc : c < 100) (hfi : fi < 100) (h1 : (∀ k, k < t → sAg m f kk c fi k = true) → P (nI 1) T) (h0 : ¬ (∀ k, k < t → sAg m f kk c fi k = true) → P (nI 0) T) : ∀ (q k : Nat), k + q = t → (∀ j, j < k → sAg m f kk c fi j = true) → Ev G l mX4_agrees (d + 4) 3 [some (.ref 0), some (.int (nI kk)), some (.int (nI c)), some (.int (nI fi)), some (.ref (8 + x)), some (.int (nI (3 * k))), none] [] T (QI P) := by
  have hc9 := hI.1.1
  have hra : RowAt (8 + x) := ra_F sh1 (ix_nI hx (by decide))
  have hln : ln (8 + x + 10) = 40 := ln_row hx
  intro q
  induction q with
  | zero =>
    intro k hkt hall
    obtain rfl : k = t := by omega
    refine bX4_agrees_3 _ _ _ _ hra _ ⟨fun _ => h1 hall, fun z => absurd (by rw [hs, z_add]; exact (z_le (by omega) (by omega)).mpr (by omega)) z⟩
  | succ q ih =>
    intro k hkt hall
    obtain ⟨p1, p2, p3, p4, p5, p6⟩ := hP k (by omega)
    refine bX4_agrees_3 _ _ _ _ hra _ ⟨fun z => ?_, fun _ => ⟨3 * k + 2, ix_i (z_add _ _) (by omega) (by omega), fun y ey => ⟨3 * k, ix_nI (by omega) (by omega), 3 * k + 1, ix_i (z_add _ _) (by omega) (by omega), ?_⟩⟩⟩
    · rw [hs, z_add, z_le (by omega) (by omega)] at z
      omega
    · rw [hf _ (by omega), p6] at ey
      simp (disch := omega) only [z_eq] at ey
      rw [hf _ (by omega), hf _ (by omega), p4, p5]
      refine t_wouldBelong la28 hv hI hk hc hfi p1 (by omega) ?_
      rw [b2_if] at ey
      rw [ey, z_add]
      refine ⟨fun z => ?_, fun z => h0 (fun y2 => z ?_)⟩
      · refine ih (k + 1) (by omega) (fun j hj => ?_)
        by_cases w : j = k
        · rw [w, sAg]
          refine decide_eq_true ?_
          revert z
          cases sBy m kk c fi (pN f (3 * k)) (pN f (3 * k + 1)) <;> cases decide (pN f (3 * k + 2) = 1) <;> decide
        · exact hall j (by omega)
      · have := of_decide_eq_true (y2 k (by omega))
        rw [this]
theorem u_goes_l {T : Sg} {x t kk c i fi : Nat} {f : Nat → Int32} (hx : x < 6) (hu : MV T m) (hI : IV m) (hi : i < 6) (ht : 3 * t ≤ 40) (hs : T.1 88 x = nI (3 * t)) (hf : ∀ i, i < 3 * t → T.1 89 (40 * x + i) = f i) (hP : Pap f m t) (hk : kk < 6) (hc : c < 100) (hfi : fi = m (12 + 5 * i)) (h1 : (∀ k, k < t → sAg m f kk c fi k = true) → P (nI 1) T) (h0 : ¬ (∀ k, k < t → sAg m f kk c fi k = true) → P (nI 0) T) : ∀ (q k : Nat) (b : Int32), k + q = t → ((b = nI 1 ∧ ∀ j, j < k → sAg m f kk c fi j = true) ∨ (b = nI 0 ∧ ¬ ∀ j, j < k → sAg m f kk c fi j = true)) → Ev G l mX5_goesWith (d + 4) 6 [some (.ref 7), some (.int (nI i)), some (.int (nI x)), some (.int (nI kk)), some (.int (nI c)), some (.int b), some (.int (nI (3 * k))), none] [] T (QI P) := by
  have hc9 := hI.1.1
  have hfi9 := (hI.2 i hi).2.2.1
  intro q
  induction q with
  | zero =>
    intro k b hkt hb
    obtain rfl : k = t := by omega
    refine bX5_goesWith_6 _ _ _ _ _ _ ⟨x, ix_nI hx (by omega), fun _ => ?_, fun z => absurd (by rw [hs]; exact (z_le (by omega) (by omega)).mpr (by omega)) z⟩
    rcases hb with ⟨rfl, w⟩ | ⟨rfl, w⟩
    · exact ⟨b2_zb true, h1 w⟩
    · exact ⟨b2_zb false, h0 w⟩
  | succ q ih =>
    intro k b hkt hb
    obtain ⟨p1, p2, p3, p4, p5, p6⟩ := hP k (by omega)
    refine bX5_goesWith_6 _ _ _ _ _ _ ⟨x, ix_nI hx (by omega), fun z => ?_, fun _ => ⟨fun z => ?_, fun z => ?_⟩⟩
    · rw [hs, z_le (by omega) (by omega)] at z
      omega
    · rw [z_add]
      refine ih (k + 1) _ (by omega) (Or.inr ⟨rfl, fun w => ?_⟩)
      rcases hb with ⟨rfl, -⟩ | ⟨-, w2⟩
      · exact absurd z (by decide)
      · exact w2 (fun j hj => w j (by omega))
    · have hall : ∀ j, j < k → sAg m f kk c fi j = true := hb.elim (fun y => y.2) (fun y => absurd y.1 z)
      refine ⟨12 + 5 * i, ix_i (z_at i 2) (by omega) (by omega), 40 * x + 3 * k, ix_i (z_row 40 x _) (by omega) (by omega), 40 * x + (3 * k + 1), ix_i (by rw [z_row, z_add]; congr 1) (by omega) (by omega), ?_⟩
      rw [hu _ (by omega), hf _ (by omega), hf _ (by omega), p4, p5, ← hfi]
      refine u_belongsBy hu hI hk hc (by omega) p1 (by omega) ⟨40 * x + (3 * k + 2), ix_i (by rw [z_row, z_add]; congr 1) (by omega) (by omega), fun y ey w ew => ?_⟩
      rw [hf _ (by omega), p6] at ey
      simp (disch := omega) only [z_eq] at ey
      rw [b2_if] at ey
      rw [ey, b2_if] at ew
      rw [ew, z_add]
      have e9 : decide (b2 (sBy m kk c fi (pN f (3 * k)) (pN f (3 * k + 1))) = b2 (decide (pN f (3 * k + 2) = 1))) = sAg m f kk c fi k := by
        unfold sAg
        cases sBy m kk c fi (pN f (3 * k)) (pN f (3 * k + 1)) <;> cases decide (pN f (3 * k + 2) = 1) <;> decide
      rw [e9]
      refine ih (k + 1) _ (by omega) ?_
      cases g : sAg m f kk c fi k
      · exact Or.inr ⟨rfl, fun w2 => by have := w2 k (by omega); rw [g] at this; exact absurd this (by decide)⟩
      · refine Or.inl ⟨rfl, fun j hj => ?_⟩
        by_cases w2 : j = k
        · rw [w2]; exact g
        · exact hall j (by omega)
end papers
