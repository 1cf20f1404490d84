/-! by turns -/
section duel
variable {G : Gl} {l : Launch} {d : Nat} {S : Sg} {m : Nat → Nat} {L : Nat} {P : Int32 → Sg → Prop} {F : Int32 → Int32 → Sg → Prop}
def sBet (s a b : Nat) : Nat := if s = 0 then (if b < a then b else a) else (if a < b then b else a)
def tW (s q w : Nat) : Nat := if s = 0 then (if q = 0 then w - 1 else if q = 1 then w + 1 else w) else w
def tE (s q e : Nat) : Nat := if s = 0 then e else (if q = 0 then e + 1 else if q = 1 then e - 1 else e)
/-- whether a side can, in a land of c cells: 0 back, 1 on, 2 stay -/
def tC (c s q w e : Nat) : Bool := if q = 2 then true else if q = 1 then decide (w < e) else if s = 0 then decide (0 < w) else decide (e < c)
def sTurn (m : Nat → Nat) : Nat → Nat → Nat → Nat → Nat
  | 0, _, w, e => sIn m (sBels m w e)
  | n + 1, s, w, e =>
    if tC (m 0) s 1 w e = true then sBet s (if tC (m 0) s 0 w e = true then sBet s (sTurn m n (1 - s) w e) (sTurn m n (1 - s) (tW s 0 w) (tE s 0 e)) else sTurn m n (1 - s) w e) (sTurn m n (1 - s) (tW s 1 w) (tE s 1 e))
    else (if tC (m 0) s 0 w e = true then sBet s (sTurn m n (1 - s) w e) (sTurn m n (1 - s) (tW s 0 w) (tE s 0 e)) else sTurn m n (1 - s) w e)
theorem sBet_le {s a b k : Nat} (ha : a ≤ k) (hb : b ≤ k) : sBet s a b ≤ k := by
  unfold sBet
  repeat' split
  all_goals assumption
theorem sTurn_le {m : Nat → Nat} (hI : IV m) : ∀ n s w e, sTurn m n s w e ≤ 108
  | 0, _, _, _ => sIn_le hI _
  | n + 1, s, w, e => by
    have h1 := sTurn_le hI n (1 - s) w e
    have h2 := sTurn_le hI n (1 - s) (tW s 0 w) (tE s 0 e)
    have h3 := sTurn_le hI n (1 - s) (tW s 1 w) (tE s 1 e)
    unfold sTurn
    split <;> split
    · exact sBet_le (sBet_le h1 h2) h3
    · exact sBet_le h1 h3
    · exact sBet_le h1 h2
    · exact h1
theorem t_betterFor {s a b : Nat} (hs : s < 2) (ha : a < 1000) (hb : b < 1000) (h : P (nI (sBet s a b)) S) : Ct G l mX4_betterFor (d + 1) [.int (nI s), .int (nI a), .int (nI b)] S (QI P) := by
  refine bX4_betterFor_0 _ _ _ (fun x ex => ?_)
  have e : x = nI (sBet s a b) := by
    rw [ex, sBet]
    simp (disch := omega) only [z_eq, z_lt]
    grind
  rw [e]
  exact h
theorem tC_le {c : Nat} {s q w e : Nat} (hs : s < 2) (hq : q < 3) (hwe : w ≤ e) (he : e ≤ c) (h : tC c s q w e = true) : tW s q w ≤ tE s q e ∧ tE s q e ≤ c := by
  unfold tC at h
  unfold tW tE
  rcases (show q = 0 ∨ q = 1 ∨ q = 2 by omega) with rfl | rfl | rfl <;> rcases (show s = 0 ∨ s = 1 by omega) with rfl | rfl <;> simp at h ⊢ <;> omega
theorem t_turn (hv : LV S 28 m) (hI : IV m) : ∀ (n D s w e : Nat), n ≤ D → n < 100 → s < 2 → w ≤ e → e ≤ m 0 → ∀ (P : Int32 → Sg → Prop), P (nI (sTurn m n s w e)) S → Ct G l mX4_votesByTurns (D + 5) [.ref 28, .int (nI n), .int (nI s), .int (nI w), .int (nI e)] S (QI P)
  | 0, D, s, w, e, _, _, hs, hwe, he, P, h => by
    have h0 := hI.1.1
    refine bX4_votesByTurns_0 28 la28 _ _ _ _ ⟨fun q => absurd q (by decide), fun _ => t_votesBelonging la28 hv hI hwe (by omega) h⟩
  | n + 1, D, s, w, e, hD, hn, hs, hwe, he, P, h => by
    have h0 := hI.1.1
    obtain ⟨D, rfl⟩ : ∃ E, D = E + 1 := ⟨D - 1, by omega⟩
    have ih := fun s w e hs hwe he P h => t_turn hv hI n D s w e (by omega) (by omega) hs hwe he P h
    have l1 := sTurn_le hI n (1 - s) w e
    have l2 := sTurn_le hI n (1 - s) (tW s 0 w) (tE s 0 e)
    have l3 := sTurn_le hI n (1 - s) (tW s 1 w) (tE s 1 e)
    have hpred : nI (n + 1) - nI 1 = nI n := by rw [z_sub (by omega), Nat.add_sub_cancel]
    have h96 : ∀ b, b ≤ 108 → P (nI (if tC (m 0) s 1 w e = true then sBet s b (sTurn m n (1 - s) (tW s 1 w) (tE s 1 e)) else b)) S → Ev G l mX4_votesByTurns (D + 6) 96 [some (.ref 28), some (.int (nI (n + 1))), some (.int (nI s)), some (.int (nI w)), some (.int (nI e)), some (.int (nI (1 - s))), some (.int (nI b)), none] [] S (QI P) := by
      intro b hb hP
      refine bX4_votesByTurns_96 28 la28 _ _ _ _ _ _ (t_canMove (w := w) (e := e) la28 hv hI false hs (by omega) (by omega) ?_)
      rw [b2_0, hpred, z_eq (by omega) (by omega)]
      refine ⟨fun q => ?_, fun q => ?_⟩
      · have q1 : tC (m 0) s 1 w e = false := q
        rw [q1, if_neg (by decide)] at hP
        exact hP
      · have q1 : tC (m 0) s 1 w e = true := (Bool.not_eq_false _).mp q
        have hle := tC_le hs (by omega) hwe he q1
        have q2 : w < e := of_decide_eq_true q1
        rw [q1, if_pos rfl] at hP
        rcases (show s = 0 ∨ s = 1 by omega) with rfl | rfl
        · refine ⟨fun z => absurd rfl z, fun _ => ?_⟩
          rw [z_add]
          exact ih 1 (w + 1) e (by omega) hle.1 hle.2 _ (bX4_votesByTurns_143 28 la28 _ _ _ _ _ _ _ (t_betterFor hs (by omega) (Nat.lt_of_le_of_lt (sTurn_le hI _ _ _ _) (by decide)) hP))
        · refine ⟨fun _ => ?_, fun z => absurd z (by decide)⟩
          rw [z_sub (by omega)]
          exact ih 0 w (e - 1) (by omega) hle.1 hle.2 _ (bX4_votesByTurns_143 28 la28 _ _ _ _ _ _ _ (t_betterFor hs (by omega) (Nat.lt_of_le_of_lt (sTurn_le hI _ _ _ _) (by decide)) hP))
    refine bX4_votesByTurns_0 28 la28 _ _ _ _ ⟨fun _ x ex => ?_, fun q => absurd ((z_lt (by omega) (by omega)).mpr (by omega)) q⟩
    have e1 : x = nI (1 - s) := by
      rw [ex]
      rcases (show s = 0 ∨ s = 1 by omega) with rfl | rfl <;> rfl
    rw [e1, hpred]
    refine ih (1 - s) w e (by omega) hwe he _ (t_canMove (w := w) (e := e) la28 hv hI true hs (by omega) (by omega) ?_)
    rw [b2_0, z_eq (by omega) (by omega)]
    rw [sTurn] at h
    refine ⟨fun q => ?_, fun q => ?_⟩
    · have q1 : tC (m 0) s 0 w e = false := q
      refine h96 _ l1 ?_
      simp only [q1, Bool.false_eq_true, if_false] at h
      exact h
    · have q1 : tC (m 0) s 0 w e = true := (Bool.not_eq_false _).mp q
      have hle := tC_le hs (by omega) hwe he q1
      simp only [q1, if_true] at h
      have h8 : Ev G l mX4_votesByTurns (D + 6) 84 [some (.ref 28), some (.int (nI (n + 1))), some (.int (nI s)), some (.int (nI w)), some (.int (nI e)), some (.int (nI (1 - s))), some (.int (nI (sTurn m n (1 - s) w e))), none] [.int (nI (sTurn m n (1 - s) (tW s 0 w) (tE s 0 e)))] S (QI P) := by
        refine bX4_votesByTurns_84 28 la28 _ _ _ _ _ _ _ (t_betterFor hs (by omega) (by omega) (h96 _ (sBet_le l1 l2) h))
      rcases (show s = 0 ∨ s = 1 by omega) with rfl | rfl
      · have q2 : 0 < w := of_decide_eq_true q1
        refine ⟨fun z => absurd rfl z, fun _ => ?_⟩
        rw [z_sub (by omega)]
        exact ih 1 (w - 1) e (by omega) hle.1 hle.2 _ h8
      · refine ⟨fun _ => ?_, fun z => absurd z (by decide)⟩
        rw [z_add]
        exact ih 0 w (e + 1) (by omega) hle.1 hle.2 _ h8
/-- a state later than another one, by what lies at depths i and deeper -/
def Dm (i : Nat) (T T' : Sg) : Prop := T'.2 = T.2 ∧ (∀ k, k < 100 ∨ 103 < k → T'.1 k = T.1 k) ∧ (∀ j, j < i → T'.1 100 j = T.1 100 j ∧ T'.1 101 j = T.1 101 j) ∧ ∀ j, j ≤ i → T'.1 102 j = T.1 102 j ∧ T'.1 103 j = T.1 103 j
theorem Dm.rf (i : Nat) (T : Sg) : Dm i T T := ⟨rfl, fun _ _ => rfl, fun _ _ => ⟨rfl, rfl⟩, fun _ _ => ⟨rfl, rfl⟩⟩
theorem Dm.tr {i j : Nat} {T U V : Sg} (h : Dm i T U) (h2 : Dm j U V) (hij : i ≤ j) : Dm i T V :=
  ⟨h2.1.trans h.1, fun k hk => (h2.2.1 k hk).trans (h.2.1 k hk), fun a ha => ⟨((h2.2.2.1 a (by omega)).1).trans (h.2.2.1 a ha).1, ((h2.2.2.1 a (by omega)).2).trans (h.2.2.1 a ha).2⟩, fun a ha => ⟨((h2.2.2.2 a (by omega)).1).trans (h.2.2.2 a ha).1, ((h2.2.2.2 a (by omega)).2).trans (h.2.2.2 a ha).2⟩⟩
theorem Dm.p0 {i j : Nat} {T : Sg} (hij : i ≤ j) (v : Int32) : Dm i T (u2 T.1 100 j v, T.2) := by
  refine ⟨rfl, fun k hk => ?_, fun a ha => ⟨?_, ?_⟩, fun a ha => ⟨?_, ?_⟩⟩ <;> dsimp only
  · rw [u2_o _ (by omega)]
  · rw [u2_n _ (by omega)]
  all_goals rw [u2_o _ (by omega)]
theorem Dm.p1 {i j : Nat} {T : Sg} (hij : i ≤ j) (v : Int32) : Dm i T (u2 T.1 101 j v, T.2) := by
  refine ⟨rfl, fun k hk => ?_, fun a ha => ⟨?_, ?_⟩, fun a ha => ⟨?_, ?_⟩⟩ <;> dsimp only
  · rw [u2_o _ (by omega)]
  · rw [u2_o _ (by omega)]
  · rw [u2_n _ (by omega)]
  all_goals rw [u2_o _ (by omega)]
theorem Dm.p2 {i j : Nat} {T : Sg} (hij : i < j) (v : Int32) : Dm i T (u2 T.1 102 j v, T.2) := by
  refine ⟨rfl, fun k hk => ?_, fun a ha => ⟨?_, ?_⟩, fun a ha => ⟨?_, ?_⟩⟩ <;> dsimp only
  · rw [u2_o _ (by omega)]
  · rw [u2_o _ (by omega)]
  · rw [u2_o _ (by omega)]
  · rw [u2_n _ (by omega)]
  · rw [u2_o _ (by omega)]
theorem Dm.p3 {i j : Nat} {T : Sg} (hij : i < j) (v : Int32) : Dm i T (u2 T.1 103 j v, T.2) := by
  refine ⟨rfl, fun k hk => ?_, fun a ha => ⟨?_, ?_⟩, fun a ha => ⟨?_, ?_⟩⟩ <;> dsimp only
  · rw [u2_o _ (by omega)]
  · rw [u2_o _ (by omega)]
  · rw [u2_o _ (by omega)]
  · rw [u2_o _ (by omega)]
  · rw [u2_n _ (by omega)]
theorem Dm.mv {i : Nat} {T T' : Sg} (h : Dm i T T') (hu : MV T m) : MV T' m := by
  intro k hk
  rw [h.2.1 93 (by omega)]
  exact hu k hk
def x6 (q : Nat) : Int32 := if nI q = nI 0 then nI 1 else if nI q = nI 1 then -1 else nI 0
def mW (s q w : Nat) : Int32 := nI w - (if nI s = nI 0 then x6 q else nI 0)
def mE (s q e : Nat) : Int32 := nI e + (if nI s = nI 1 then x6 q else nI 0)
def mvb (s q c e w : Nat) : Bool := decide (decide (¬ mW s q w < nI 0 ∧ ¬ mE s q e < mW s q w ∧ ¬ nI c < mE s q e) = tC c s q w e ∧ (tC c s q w e = false ∨ (mW s q w = nI (tW s q w) ∧ mE s q e = nI (tE s q e))))
theorem mv_all : ∀ s, s < 2 → ∀ q, q < 3 → ∀ c, c < 10 → ∀ e, e < 10 → ∀ w, w < 10 → (decide (w ≤ e ∧ e ≤ c) && !mvb s q c e w) = false := by decide +kernel
theorem mv_ok {s q c e w : Nat} (hs : s < 2) (hq : q < 3) (hc : c < 10) (hec : e ≤ c) (hwe : w ≤ e) : decide (¬ mW s q w < nI 0 ∧ ¬ mE s q e < mW s q w ∧ ¬ nI c < mE s q e) = tC c s q w e ∧ (tC c s q w e = true → mW s q w = nI (tW s q w) ∧ mE s q e = nI (tE s q e)) := by
  have h := mv_all s hs q hq c hc e (by omega) w (by omega)
  rw [show decide (w ≤ e ∧ e ≤ c) = true from decide_eq_true ⟨hwe, hec⟩, Bool.true_and, Bool.not_eq_false'] at h
  have h2 := of_decide_eq_true h
  exact ⟨h2.1, fun y => h2.2.resolve_left (by rw [y]; decide)⟩
def cmb (s : Nat) (A v : Int32) : Int32 := if (if A = -9 then nI 1 else if nI s = nI 0 then (if A ≤ v then nI 0 else nI 1) else (if v ≤ A then nI 0 else nI 1)) = nI 0 then A else v
theorem z_par {i : Nat} (hi : i < 1000) : nI i - nI i / nI 2 * nI 2 = nI (i % 2) := z_rem (by omega) (by omega) (by omega)
theorem u_comes {T : Sg} {Q : Sg → Prop} {i : Nat} {v : Int32} (hi : i < 7) (h : Q (u2 T.1 101 i (cmb (i % 2) (T.1 101 i) v), T.2)) : Ct G l mX5_comes (d + 1) [.ref 7, .int (nI i), .int v] T (QV Q) := by
  refine bX5_comes_0 _ _ ⟨i, ix_nI hi (by omega), ?_⟩
  rw [z_par (by omega)]
  intro x ex y ey T2 eT
  have e : y = cmb (i % 2) (T.1 101 i) v := by rw [ey, ex]; rfl
  rw [eT, e]
  exact h
theorem u_moves {T : Sg} {Q : Int32 → Sg → Prop} {i q w e : Nat} (hi : i < 6) (hq : q < 3) (hwe : w ≤ e) (he : e ≤ m 0) (hu : MV T m) (hI : IV m) (h0 : T.1 100 i = nI q) (h2 : T.1 102 i = nI w) (h3 : T.1 103 i = nI e) (h : ∀ T', Dm i T T' → (∀ j, T'.1 100 j = T.1 100 j ∧ T'.1 101 j = T.1 101 j) → (tC (m 0) (i % 2) q w e = true → T'.1 102 (i + 1) = nI (tW (i % 2) q w) ∧ T'.1 103 (i + 1) = nI (tE (i % 2) q e)) → Q (b2 (tC (m 0) (i % 2) q w e)) T') : Ct G l mX5_moves (d + 3) [.ref 7, .int (nI i)] T (QI Q) := by
  have hc := hI.1.1
  have hm := mv_ok (s := i % 2) (q := q) (c := m 0) (e := e) (w := w) (by omega) hq (by omega) he hwe
  refine bX5_moves_0 _ ⟨i, ix_nI (by omega) (by omega), fun x ex y ey => ⟨i + 1, ix_i (z_add i 1) (by omega) (by omega), fun T1 e1 z ez T2 e2 => ?_⟩⟩
  rw [z_par (by omega)] at ey ez
  rw [h0] at ex
  have a1 : T.1 102 i - y = mW (i % 2) q w := by rw [h2, ey, ex]; rfl
  have a2 : T1.1 103 i + z = mE (i % 2) q e := by
    rw [e1]
    show u2 T.1 102 (i + 1) (T.1 102 i - y) 103 i + z = _
    rw [u2_o _ (by omega), h3, ez, ex]
    rfl
  rw [a1] at e1
  rw [a2] at e2
  have b1 : T2.1 102 (i + 1) = mW (i % 2) q w := by
    rw [e2, e1]
    show u2 (u2 T.1 102 (i + 1) (mW (i % 2) q w)) 103 (i + 1) (mE (i % 2) q e) 102 (i + 1) = _
    rw [u2_o _ (by omega), u2_s]
  have b2' : T2.1 103 (i + 1) = mE (i % 2) q e := by
    rw [e2]
    show u2 T1.1 103 (i + 1) (mE (i % 2) q e) 103 (i + 1) = _
    rw [u2_s]
  have hD : Dm i T T2 := by
    refine Dm.tr (U := T1) ?_ ?_ (Nat.le_refl i)
    · rw [e1]; exact Dm.p2 (by omega) _
    · rw [e2]; exact Dm.p3 (by omega) _
  refine u_areCoasts (hD.mv hu) _ _ ?_
  rw [b1, b2', hm.1]
  refine ⟨b2_zb _, h T2 hD (fun j => ?_) (fun y => ?_)⟩
  · rw [e2, e1]
    constructor
    · show u2 (u2 T.1 102 (i + 1) (mW (i % 2) q w)) 103 (i + 1) (mE (i % 2) q e) 100 j = _
      rw [u2_o _ (by omega), u2_o _ (by omega)]
    · show u2 (u2 T.1 102 (i + 1) (mW (i % 2) q w)) 103 (i + 1) (mE (i % 2) q e) 101 j = _
      rw [u2_o _ (by omega), u2_o _ (by omega)]
  · rw [b1, b2']
    exact hm.2 y
/-- what one way on is worth, at a depth -/
def sV (m : Nat → Nat) (r s q w e : Nat) : Nat := sTurn m r (1 - s) (tW s q w) (tE s q e)
def DH (G : Gl) (l : Launch) (d : Nat) (m : Nat → Nat) (P : Int32 → Sg → Prop) (n i r : Nat) : Prop :=
  ∀ T w e, w ≤ e → e ≤ m 0 → MV T m → T.1 100 i = nI 0 → T.1 101 i = -9 → T.1 102 i = nI w → T.1 103 i = nI e →
    (∀ T', Dm i T T' → T'.1 100 i = nI 3 → T'.1 101 i = nI (sTurn m r (i % 2) w e) → Ev G l mX5_duel (d + 6) 76 [some (.ref 7), some (.int (nI n)), some (.int (nI i))] [] T' (QI P)) →
    Ev G l mX5_duel (d + 6) 76 [some (.ref 7), some (.int (nI n)), some (.int (nI i))] [] T (QI P)
theorem u_step (hI : IV m) {n i r w e q : Nat} (hn : n = i + r + 1) (hn6 : n ≤ 6) (hwe : w ≤ e) (he : e ≤ m 0) (hq : q < 3) {T : Sg} (hu : MV T m) (h0 : T.1 100 i = nI q) (h2 : T.1 102 i = nI w) (h3 : T.1 103 i = nI e) (ih : 0 < r → DH G l d m P n (i + 1) r)
    (h : ∀ T', Dm i T T' → T'.1 100 i = nI (q + 1) → T'.1 101 i = (if tC (m 0) (i % 2) q w e = true then cmb (i % 2) (T.1 101 i) (nI (sV m r (i % 2) q w e)) else T.1 101 i) → Ev G l mX5_duel (d + 6) 76 [some (.ref 7), some (.int (nI n)), some (.int (nI i))] [] T' (QI P)) :
    Ev G l mX5_duel (d + 6) 76 [some (.ref 7), some (.int (nI n)), some (.int (nI i))] [] T (QI P) := by
  have hc := hI.1.1
  have hp : (i + 1) % 2 = 1 - i % 2 := by omega
  refine bX5_duel_76 _ _ ⟨fun z => absurd z (n_in (by omega)), fun _ => ⟨i, ix_nI (by omega) (by omega), ⟨fun _ => ?_, fun z => ?_⟩⟩⟩
  · refine u_moves (by omega) hq hwe he hu hI h0 h2 h3 (fun T1 hD hE hT => ?_)
    rw [b2_0]
    refine ⟨fun z => ?_, fun z T2 e2 => ?_⟩
    · have z1 := (Bool.not_eq_false _).mp z
      obtain ⟨t2, t3⟩ := hT z1
      have hle := tC_le (by omega) hq hwe he z1
      rw [z_sub (by omega : 1 ≤ n), z_eq (by omega) (by omega)]
      refine ⟨fun y => ?_, fun y => ?_⟩
      · refine ⟨i + 1, ix_i (z_add i 1) (by omega) (by omega), fun T2 e2 T3 e3 => ?_⟩
        rw [z_add]
        have d2 : Dm i T1 T2 := by rw [e2]; exact Dm.p0 (by omega) _
        have d3 : Dm i T2 T3 := by rw [e3]; exact Dm.p1 (by omega) _
        have d13 : Dm i T T3 := (hD.tr d2 (Nat.le_refl i)).tr d3 (Nat.le_refl i)
        have k1 : T3.1 100 i = nI q ∧ T3.1 101 i = T.1 101 i ∧ T3.1 100 (i + 1) = nI 0 ∧ T3.1 101 (i + 1) = -9 ∧ T3.1 102 (i + 1) = nI (tW (i % 2) q w) ∧ T3.1 103 (i + 1) = nI (tE (i % 2) q e) := by
          rw [e3, e2, ← t2, ← t3, ← h0, ← (hE i).1, ← (hE i).2]
          refine ⟨?_, ?_, ?_, ?_, ?_, ?_⟩
          · show u2 (u2 T1.1 100 (i + 1) (nI 0)) 101 (i + 1) (-9) 100 i = _
            rw [u2_o _ (by omega), u2_n _ (by omega)]
          · show u2 (u2 T1.1 100 (i + 1) (nI 0)) 101 (i + 1) (-9) 101 i = _
            rw [u2_n _ (by omega), u2_o _ (by omega)]
          · show u2 (u2 T1.1 100 (i + 1) (nI 0)) 101 (i + 1) (-9) 100 (i + 1) = _
            rw [u2_o _ (by omega), u2_s]
          · show u2 (u2 T1.1 100 (i + 1) (nI 0)) 101 (i + 1) (-9) 101 (i + 1) = _
            rw [u2_s]
          · show u2 (u2 T1.1 100 (i + 1) (nI 0)) 101 (i + 1) (-9) 102 (i + 1) = _
            rw [u2_o _ (by omega), u2_o _ (by omega)]
          · show u2 (u2 T1.1 100 (i + 1) (nI 0)) 101 (i + 1) (-9) 103 (i + 1) = _
            rw [u2_o _ (by omega), u2_o _ (by omega)]
        obtain ⟨k1, k2, k3, k4, k5, k6⟩ := k1
        refine ih (by omega) T3 _ _ hle.1 hle.2 (d13.mv hu) k3 k4 k5 k6 (fun T4 hD4 h4 h4b => ?_)
        have hpred : nI (i + 1) - nI 1 = nI i := by rw [z_sub (by omega), Nat.add_sub_cancel]
        refine bX5_duel_76 _ _ ⟨fun z => absurd z (n_in (by omega)), fun _ => ⟨i + 1, ix_nI (by omega) (by omega), ⟨fun z => absurd h4 z, fun _ => ⟨fun z => absurd z (by rw [z_le (by omega) (by omega)]; omega), fun _ => ?_⟩⟩⟩⟩
        rw [h4b, hpred, z_add_m1]
        refine u_comes (by omega) ⟨i, ix_nI (by omega) (by omega), fun T6 e6 => h T6 ?_ ?_ ?_⟩
        · refine ((d13.tr hD4 (by omega)).tr (Dm.p1 (Nat.le_refl i) (cmb (i % 2) (T4.1 101 i) (nI (sTurn m r ((i + 1) % 2) (tW (i % 2) q w) (tE (i % 2) q e))))) (Nat.le_refl i)).tr ?_ (Nat.le_refl i)
          rw [e6]
          exact Dm.p0 (Nat.le_refl i) _
        · rw [e6]
          dsimp only
          rw [u2_s, u2_o _ (by omega), (hD4.2.2.1 i (by omega)).1, k1, z_add]
        · rw [e6, if_pos z1, ← k2, ← (hD4.2.2.1 i (by omega)).2]
          dsimp only
          rw [u2_o _ (by omega), u2_s, hp]
          rfl
      · obtain rfl : r = 0 := by omega
        obtain rfl : n = i + 1 := by omega
        refine ⟨i + 1, ix_nI (by omega) (by omega), ?_⟩
        rw [t2, t3]
        refine u_belongers (hD.mv hu) hI hle.1 (by omega) (u_votesIn (hD.mv hu) hI (Nat.lt_trans (sBels_lt hI _ _) (by decide)) (u_comes (by omega) (fun T6 e6 => h T6 ?_ ?_ ?_)))
        · refine (hD.tr (Dm.p1 (Nat.le_refl i) (cmb (i % 2) (T1.1 101 i) (nI (sIn m (sBels m (tW (i % 2) q w) (tE (i % 2) q e)))))) (Nat.le_refl i)).tr ?_ (Nat.le_refl i)
          rw [e6]
          exact Dm.p0 (Nat.le_refl i) _
        · rw [e6]
          dsimp only
          rw [u2_s, u2_o _ (by omega), (hE i).1, h0, z_add]
        · rw [e6, if_pos z1, ← (hE i).2]
          dsimp only
          rw [u2_o _ (by omega), u2_s]
          rfl
    · refine h T2 ?_ ?_ ?_
      · refine hD.tr ?_ (Nat.le_refl i)
        rw [e2]
        exact Dm.p0 (Nat.le_refl i) _
      · rw [e2]
        show u2 T1.1 100 i (T1.1 100 i + nI 1) 100 i = _
        rw [u2_s, (hE i).1, h0, z_add]
      · rw [e2, z, if_neg (by decide), ← (hE i).2]
        show u2 T1.1 100 i (T1.1 100 i + nI 1) 101 i = _
        rw [u2_o _ (by omega)]
  · rw [h0, z_eq (by omega) (by omega)] at z
    omega
theorem cmb_9 (s : Nat) (v : Int32) : cmb s (-9) v = v := by
  rw [cmb, if_pos rfl, if_neg (by decide)]
theorem cmb_n {s a b : Nat} (hs : s < 2) (ha : a < 1000) (hb : b < 1000) : cmb s (nI a) (nI b) = nI (if s = 0 then (if a ≤ b then a else b) else (if b ≤ a then a else b)) := by
  rw [cmb, if_neg (z_m9_eq (by omega))]
  simp (disch := omega) only [z_eq, z_le]
  by_cases q : s = 0
  · rw [if_pos q, if_pos q]
    by_cases w : a ≤ b
    · rw [if_pos w, if_pos w, if_pos rfl]
    · rw [if_neg w, if_neg w, if_neg (by decide)]
  · rw [if_neg q, if_neg q]
    by_cases w : b ≤ a
    · rw [if_pos w, if_pos w, if_pos rfl]
    · rw [if_neg w, if_neg w, if_neg (by decide)]
theorem cmb_turn {m : Nat → Nat} (hI : IV m) {r s w e : Nat} (hs : s < 2) {A B C : Int32}
    (hA : A = (if tC (m 0) s 0 w e = true then cmb s (-9) (nI (sV m r s 0 w e)) else -9))
    (hB : B = (if tC (m 0) s 1 w e = true then cmb s A (nI (sV m r s 1 w e)) else A))
    (hC : C = (if tC (m 0) s 2 w e = true then cmb s B (nI (sV m r s 2 w e)) else B)) : C = nI (sTurn m (r + 1) s w e) := by
  have e2 : tC (m 0) s 2 w e = true := rfl
  have e3 : sV m r s 2 w e = sTurn m r (1 - s) w e := by
    unfold sV tW tE
    rcases (show s = 0 ∨ s = 1 by omega) with rfl | rfl <;> rfl
  have l0 : sV m r s 0 w e ≤ 108 := sTurn_le hI _ _ _ _
  have l1 : sV m r s 1 w e ≤ 108 := sTurn_le hI _ _ _ _
  have l2 : sTurn m r (1 - s) w e ≤ 108 := sTurn_le hI _ _ _ _
  rw [if_pos e2, e3] at hC
  rw [sTurn]
  show C = nI (if _ = true then sBet s (if _ = true then sBet s _ (sV m r s 0 w e) else _) (sV m r s 1 w e) else (if _ = true then sBet s _ (sV m r s 0 w e) else _))
  generalize sV m r s 0 w e = a at *
  generalize sV m r s 1 w e = b at *
  generalize sTurn m r (1 - s) w e = c at *
  cases h0 : tC (m 0) s 0 w e <;> cases h1 : tC (m 0) s 1 w e <;> simp only [h0, h1, Bool.false_eq_true, if_false, if_true, cmb_9] at hA hB hC ⊢ <;> subst hA <;> subst hB
  · rw [hC, cmb_9]
  · rw [hC, cmb_9, cmb_n hs (by omega) (by omega)]
    congr 1
    unfold sBet
    grind
  · rw [hC, cmb_n hs (by omega) (by omega)]
    congr 1
    unfold sBet
    grind
  · rw [hC, cmb_n hs (by omega) (by omega), cmb_n hs (by grind) (by omega)]
    congr 1
    unfold sBet
    grind
theorem u_dh (hI : IV m) {n : Nat} (hn6 : n ≤ 6) : ∀ (r i : Nat), i + (r + 1) = n → DH G l d m P n i (r + 1) := by
  intro r
  induction r with
  | zero =>
    intro i hi T w e hwe he hu h0 h1 h2 h3 h
    refine u_step (r := 0) (w := w) (e := e) (q := 0) hI (by omega) hn6 hwe he (by omega) hu h0 h2 h3 (fun z => absurd z (by decide)) (fun T1 d1 a1 b1 => ?_)
    refine u_step (r := 0) (w := w) (e := e) (q := 1) hI (by omega) hn6 hwe he (by omega) (d1.mv hu) a1 ((d1.2.2.2 i (Nat.le_refl i)).1.trans h2) ((d1.2.2.2 i (Nat.le_refl i)).2.trans h3) (fun z => absurd z (by decide)) (fun T2 d2 a2 b2' => ?_)
    refine u_step (r := 0) (w := w) (e := e) (q := 2) hI (by omega) hn6 hwe he (by omega) (d2.mv (d1.mv hu)) a2 ((d2.2.2.2 i (Nat.le_refl i)).1.trans ((d1.2.2.2 i (Nat.le_refl i)).1.trans h2)) ((d2.2.2.2 i (Nat.le_refl i)).2.trans ((d1.2.2.2 i (Nat.le_refl i)).2.trans h3)) (fun z => absurd z (by decide)) (fun T3 d3 a3 b3 => ?_)
    rw [h1] at b1
    exact h T3 ((d1.tr d2 (Nat.le_refl i)).tr d3 (Nat.le_refl i)) a3 (cmb_turn hI (by omega) b1 b2' b3)
  | succ r ih =>
    intro i hi T w e hwe he hu h0 h1 h2 h3 h
    have ih' : 0 < r + 1 → DH G l d m P n (i + 1) (r + 1) := fun _ => ih (i + 1) (by omega)
    refine u_step (r := r + 1) (w := w) (e := e) (q := 0) hI (by omega) hn6 hwe he (by omega) hu h0 h2 h3 ih' (fun T1 d1 a1 b1 => ?_)
    refine u_step (r := r + 1) (w := w) (e := e) (q := 1) hI (by omega) hn6 hwe he (by omega) (d1.mv hu) a1 ((d1.2.2.2 i (Nat.le_refl i)).1.trans h2) ((d1.2.2.2 i (Nat.le_refl i)).2.trans h3) ih' (fun T2 d2 a2 b2' => ?_)
    refine u_step (r := r + 1) (w := w) (e := e) (q := 2) hI (by omega) hn6 hwe he (by omega) (d2.mv (d1.mv hu)) a2 ((d2.2.2.2 i (Nat.le_refl i)).1.trans ((d1.2.2.2 i (Nat.le_refl i)).1.trans h2)) ((d2.2.2.2 i (Nat.le_refl i)).2.trans ((d1.2.2.2 i (Nat.le_refl i)).2.trans h3)) ih' (fun T3 d3 a3 b3 => ?_)
    rw [h1] at b1
    exact h T3 ((d1.tr d2 (Nat.le_refl i)).tr d3 (Nat.le_refl i)) a3 (cmb_turn hI (by omega) b1 b2' b3)
theorem pm_duel (hR : R S) (i : Int32) (h : ∀ r S', R S' → F r r S') : Ct G l mX4_duel (d + 20) [.ref 0, .int i] S (QI (fun r T => Ct G l mX5_duel (d + 20) [.ref 7, .int i] T (QI (fun r2 T2 => F r r2 T2)))) := by
  obtain ⟨m, hv, hu, hI⟩ := hR.nv
  obtain ⟨h0, h1, h2, -⟩ := hI.1
  rcases o_cases i 7 (by omega) with q | ⟨n, hn, rfl⟩
  · have hm : Ct G l mX5_duel (d + 20) [.ref 7, .int i] S (QI (fun r2 T2 => F (-1) r2 T2)) := by
      refine bX5_duel_0 _ (u_inN _ 7 6 rfl (by omega) ?_)
      rw [b2n_n q]
      exact ⟨fun z => absurd rfl z, fun _ => h _ _ hR⟩
    refine bX4_duel_0 _ ⟨fun _ => hm, fun q0 => ⟨fun q5 => ?_, fun _ => hm⟩⟩
    exact absurd (q.resolve_left q0) ((z_le_succ i (by omega)).mp q5)
  · refine bX4_duel_0 _ ⟨fun q => absurd q (n_in (by omega)), fun _ => ⟨fun _ => t_isThere la28 hv hI ?_, fun q => absurd (by rw [z_le (by omega) (by omega)]; omega) q⟩⟩
    have hi7 : ∀ {Q : Int32 → Sg → Prop}, (0 < m 0 → (∀ T2, Dm 0 S T2 ∨ (T2.2 = S.2 ∧ ∀ k, k < 100 ∨ 103 < k → T2.1 k = S.1 k) → Q (nI (sTurn m n 0 (m 1) (m 2))) T2)) → (¬ 0 < m 0 → Q (-4) S) → Ct G l mX5_duel (d + 20) [.ref 7, .int (nI n)] S (QI Q) := by
      intro Q g1 g2
      refine bX5_duel_0 _ (u_inN _ 7 6 rfl (by omega) ?_)
      rw [b2n_y hn (by omega)]
      refine ⟨fun _ => u_are hu hI ?_, fun z => absurd z (by decide)⟩
      by_cases hc : 0 < m 0
      · rw [b2y hc]
        refine ⟨fun _ T1 e1 T2 e2 => ?_, fun z => absurd z (by decide)⟩
        rw [hu 1 (by omega)] at e1
        have e2' : T2 = (u2 (u2 S.1 102 0 (nI (m 1))) 103 0 (nI (m 2)), S.2) := by
          rw [e2, e1]
          dsimp only
          rw [u2_o _ (by omega), hu 2 (by omega)]
        have hp2 : T2.2 = S.2 ∧ ∀ k, k < 100 ∨ 103 < k → T2.1 k = S.1 k := by
          rw [e2']
          refine ⟨rfl, fun k hk => ?_⟩
          dsimp only
          rw [u2_o _ (by omega), u2_o _ (by omega)]
        have hu2 : MV T2 m := by
          intro k hk
          rw [hp2.2 93 (by omega)]
          exact hu k hk
        refine ⟨fun z T3 e3 T4 e4 => ?_, fun z => ?_⟩
        · have hn0 : n ≠ 0 := fun y => z (by rw [y])
          obtain ⟨r, rfl⟩ : ∃ r, n = r + 1 := ⟨n - 1, by omega⟩
          have hp4 : T4.2 = S.2 ∧ ∀ k, k < 100 ∨ 103 < k → T4.1 k = S.1 k := by
            rw [e4, e3]
            refine ⟨hp2.1, fun k hk => ?_⟩
            dsimp only
            rw [u2_o _ (by omega), u2_o _ (by omega), hp2.2 k hk]
          have hu4 : MV T4 m := by
            intro k hk
            rw [hp4.2 93 (by omega)]
            exact hu k hk
          refine u_dh hI (by omega) r 0 (by omega) T4 (m 1) (m 2) h1 h2 hu4 ?_ ?_ ?_ ?_ (fun T5 d5 a5 b5 => ?_)
          · rw [e4, e3]
            dsimp only
            rw [u2_o _ (by omega), u2_s]
          · rw [e4]
            dsimp only
            rw [u2_s]
          · rw [e4, e3, e2']
            dsimp only
            rw [u2_o _ (by omega), u2_o _ (by omega), u2_o _ (by omega), u2_s]
          · rw [e4, e3, e2']
            dsimp only
            rw [u2_o _ (by omega), u2_o _ (by omega), u2_s]
          · refine bX5_duel_76 _ _ ⟨fun z => absurd z (by decide), fun _ => ⟨0, ix_nI (by omega) (by omega), ⟨fun z => absurd a5 z, fun _ => ⟨fun _ => ?_, fun z => absurd (by decide) z⟩⟩⟩⟩
            refine bX5_duel_76 _ _ ⟨fun _ => ?_, fun z => absurd (by decide) z⟩
            rw [b5]
            exact g1 hc T5 (Or.inr ⟨d5.1.trans hp4.1, fun k hk => (d5.2.1 k hk).trans (hp4.2 k hk)⟩)
        · have hn0 : n = 0 := (z_eq (by omega) (by omega)).mp z
          subst hn0
          refine u_belongersNow hu2 hI (u_votesIn hu2 hI (Nat.lt_trans (sBels_lt hI _ _) (by decide)) ?_)
          exact g1 hc T2 (Or.inr hp2)
      · rw [b2f hc]
        exact ⟨fun z => absurd rfl z, fun _ => g2 hc⟩
    by_cases hc : 0 < m 0
    · rw [b2y hc]
      refine ⟨fun _ => ?_, fun z => absurd z (by decide)⟩
      rw [hv.w, hv.e]
      refine t_turn hv hI n (d + 14) 0 _ _ (by omega) (by omega) (by omega) h1 h2 _ (hi7 (fun _ T2 h9 => ?_) (fun z => absurd hc z))
      have h9' : T2.2 = S.2 ∧ ∀ k, k < 100 ∨ 103 < k → T2.1 k = S.1 k := h9.elim (fun y => ⟨y.1, y.2.1⟩) id
      exact h _ _ (hR.scr (fun k hk => h9'.2 k (by omega)) h9'.1)
    · rw [b2f hc]
      exact ⟨fun z => absurd rfl z, fun _ => hi7 (fun z => absurd z hc) (fun _ => h _ _ hR)⟩
end duel
