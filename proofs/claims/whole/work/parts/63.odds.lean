/-! chances, means -/
section odds
variable {G : Gl} {l : Launch} {d : Nat} {S : Sg} {m : Nat → Nat} {P : Int64 → Sg → Prop} {F : Int32 → Int32 → Sg → Prop}
def sumN (f : Nat → Nat) : Nat → Nat
  | 0 => 0
  | n + 1 => sumN f n + f n
theorem sumN_cong {f g : Nat → Nat} : ∀ n, (∀ i, i < n → f i = g i) → sumN f n = sumN g n
  | 0, _ => rfl
  | n + 1, e => by rw [sumN, sumN, sumN_cong n (fun i hi => e i (by omega)), e n (by omega)]
theorem sumN_first (g : Nat → Nat) : ∀ n, sumN g (n + 1) = g 0 + sumN (fun i => g (i + 1)) n
  | 0 => by simp [sumN]
  | n + 1 => by
    rw [sumN, sumN_first g n, sumN]
    omega
theorem sumN_rev (f : Nat → Nat) : ∀ n, sumN (fun i => f (n - i)) (n + 1) = sumN f (n + 1)
  | 0 => rfl
  | n + 1 => by
    rw [sumN_first]
    have e : sumN (fun i => f (n + 1 - (i + 1))) (n + 1) = sumN (fun i => f (n - i)) (n + 1) := sumN_cong _ (fun i _ => by rw [Nat.add_sub_add_right])
    rw [e, sumN_rev f n]
    conv => rhs; rw [sumN]
    simp only [Nat.sub_zero]
    omega
theorem sumN_le {f : Nat → Nat} {b : Nat} : ∀ n, (∀ i, i < n → f i ≤ b) → sumN f n ≤ b * n
  | 0, _ => by simp [sumN]
  | n + 1, e => by
    have h1 := sumN_le n (fun i hi => e i (by omega))
    have h2 := e n (by omega)
    rw [sumN, Nat.mul_succ]
    omega
/-! one set in another -/
theorem sb_0 : ∀ a, a < 64 → ∀ w, w < 64 → ((w &&& (a ^^^ 4294967295) = 0) ↔ w &&& a = w) := by decide +kernel
theorem sb_1 : ∀ a, a < 64 → ∀ w, w < 64 → w &&& a = w → (a &&& (w ^^^ 4294967295) = a - w ∧ (a - w) &&& a = a - w ∧ w ≤ a ∧ sPop (a - w) 24 + sPop w 24 = sPop a 24) := by decide +kernel
theorem sb_2 : ∀ a, a < 64 → ∀ w, w < 64 → w &&& a = w → ∀ k, k < 6 → bit w k ≤ bit a k := by decide +kernel
theorem sb_3 : ∀ a, a < 64 → ∀ w, w < 64 → a &&& (w ^^^ 4294967295) < 64 := by decide +kernel
theorem pop6 : ∀ a, a < 64 → sPop a 6 = sPop a 24 := by decide +kernel
theorem pop_6 : ∀ a, a < 64 → sPop a 24 ≤ 6 := by decide +kernel
theorem z_not {a w : Nat} : nI a &&& (nI w ^^^ (-1)) = nI (a &&& (w ^^^ 4294967295)) := by
  rw [show (-1 : Int32) = nI 4294967295 by decide, z_xor, z_and]
theorem z_sub0 {a w : Nat} (ha : a < 64) (hw : w < 64) : (nI w &&& (nI a ^^^ (-1)) = nI 0) ↔ w &&& a = w := by
  rw [z_not, ← sb_0 a ha w hw]
  have h : w &&& (a ^^^ 4294967295) ≤ w := Nat.and_le_left
  exact z_eq (by omega) (by omega)
/-! powers -/
theorem t_power {b t : Nat} (hb : b < 100) (ht : t < 100) (h : P (lN (b ^ t)) S) : Ct G l mX4_power (d + 1) [.int (nI b), .int (nI t)] S (QL P) := by
  have hl : ∀ (k i : Nat), i + k = t → Ev G l mX4_power (d + 1) 5 [some (.int (nI b)), some (.int (nI t)), some (.long (lN (b ^ i))), none, some (.int (nI i))] [] S (QL P) := by
    intro k
    induction k with
    | zero =>
      intro i hi
      obtain rfl : i = t := by omega
      refine bX4_power_5 _ _ _ _ ⟨fun _ => h, fun z => ?_⟩
      rw [z_le (by omega) (by omega)] at z
      omega
    | succ k ih =>
      intro i hi
      refine bX4_power_5 _ _ _ _ ⟨fun z => ?_, fun _ => ?_⟩
      · rw [z_le (by omega) (by omega)] at z
        omega
      · rw [nI_l (by omega), lN_mul, z_add, ← Nat.pow_succ]
        exact ih (i + 1) (by omega)
  exact bX4_power_0 _ _ (hl t 0 (by omega))
/-- in how many ways just these are here -/
def sW (a p w : Nat) : Nat := (12 - p) ^ sPop w 24 * p ^ (sPop a 24 - sPop w 24)
theorem pow12 {b t : Nat} (hb : b ≤ 12) : b ^ t ≤ 12 ^ t := Nat.pow_le_pow_left hb t
theorem sW_le {a p w : Nat} (ha : a < 64) (hp : p ≤ 12) (hw : sPop w 24 ≤ sPop a 24) : sW a p w ≤ 2985984 := by
  have h6 := pop_6 a ha
  have h1 : (12 - p) ^ sPop w 24 ≤ 12 ^ sPop w 24 := pow12 (by omega)
  have h2 : p ^ (sPop a 24 - sPop w 24) ≤ 12 ^ (sPop a 24 - sPop w 24) := pow12 hp
  have h3 : sW a p w ≤ 12 ^ sPop w 24 * 12 ^ (sPop a 24 - sPop w 24) := Nat.mul_le_mul h1 h2
  rw [← Nat.pow_add, show sPop w 24 + (sPop a 24 - sPop w 24) = sPop a 24 by omega] at h3
  have h4 : 12 ^ sPop a 24 ≤ 12 ^ 6 := Nat.pow_le_pow_right (by omega) h6
  have h5 : (12 : Nat) ^ 6 = 2985984 := by decide
  omega
theorem t_ways {a w p : Nat} (ha : a < 64) (hw : w < 64) (hs : w &&& a = w) (hp : p ≤ 12) (h : P (lN (sW a p w)) S) : Ct G l mX4_waysToBeHere (d + 2) [.int (nI w), .int (nI a), .int (nI p)] S (QL P) := by
  have h1 := pop_6 a ha
  have h2 := (sb_1 a ha w hw hs).2.2.2
  refine bX4_waysToBeHere_0 _ _ _ (t_bitCount hw ?_)
  rw [z_sub (by omega)]
  refine t_power (by omega) (by omega) (t_bitCount ha ?_)
  rw [z_sub (by omega)]
  refine t_power (by omega) (by omega) ?_
  rw [lN_mul]
  exact h
/-- the reference's product -/
def wf (a w p : Nat) : Nat → Nat
  | 0 => 1
  | k + 1 => wf a w p k * (if bit a k = 1 then (if bit w k = 1 then p else 12 - p) else 1)
theorem wf_eq {a w p : Nat} (hb : ∀ k, k < 6 → bit w k ≤ bit a k) : ∀ k, k ≤ 6 → sPop w k ≤ sPop a k ∧ wf a w p k = p ^ sPop w k * (12 - p) ^ (sPop a k - sPop w k)
  | 0, _ => ⟨Nat.le_refl _, rfl⟩
  | k + 1, h => by
    obtain ⟨h1, h2⟩ := wf_eq hb k (by omega)
    have b1 := hb k (by omega)
    have b2 := bit_le w k
    have b3 := bit_le a k
    rw [wf, h2, sPop, sPop]
    refine ⟨by omega, ?_⟩
    by_cases qa : bit a k = 1
    · rw [if_pos qa]
      by_cases qw : bit w k = 1
      · rw [if_pos qw, qa, qw, show sPop a k + 1 - (sPop w k + 1) = sPop a k - sPop w k by omega, Nat.pow_succ, Nat.mul_right_comm]
      · rw [if_neg qw, qa, show bit w k = 0 by omega, Nat.add_zero, show sPop a k + 1 - sPop w k = (sPop a k - sPop w k) + 1 by omega, Nat.pow_succ, Nat.mul_assoc]
    · rw [if_neg qa, show bit a k = 0 by omega, show bit w k = 0 by omega, Nat.mul_one, Nat.add_zero, Nat.add_zero]
def sX (a p w : Nat) : Nat := if w &&& a = w then sW a p (a - w) else 0
theorem u_waysOf_l {a w p : Nat} (ha : a < 64) (hw : w < 64) (hp : p ≤ 12) {c : Nat} (h : P (lN (c * wf a w p 6)) S) : ∀ (k i : Nat), i + k = 6 → Ev G l mX5_waysOf (d + 2) 17 [some (.int (nI a)), some (.int (nI w)), some (.int (nI p)), some (.long (lN (c * wf a w p i))), none, some (.int (nI i))] [] S (QL P) := by
  intro k
  induction k with
  | zero =>
    intro i hi
    obtain rfl : i = 6 := by omega
    exact bX5_waysOf_17 _ _ _ _ _ ⟨fun _ => h, fun z => absurd (by decide) z⟩
  | succ k ih =>
    intro i hi
    have hn := ih (i + 1) (by omega)
    rw [wf, ← Nat.mul_assoc] at hn
    have b3 := bit_le a i
    have b4 := bit_le w i
    refine bX5_waysOf_17 _ _ _ _ _ ⟨fun z => ?_, fun _ => u_has (by omega) (by omega) ⟨fun z => u_has (by omega) (by omega) (fun x ex => ?_), fun z => ?_⟩⟩
    · rw [z_le (by omega) (by omega)] at z
      omega
    · rw [b2_0] at z
      have qa : bit a i = 1 := by
        apply Classical.byContradiction
        intro y
        exact z (decide_eq_false y)
      rw [if_pos qa] at hn
      have e : x = lN (if bit w i = 1 then p else 12 - p) := by
        rw [ex]
        by_cases qw : bit w i = 1
        · rw [if_neg (by rw [b2y qw]; decide), if_pos qw, nI_l (by omega)]
        · rw [if_pos (b2f qw), if_neg qw, z_sub (by omega), nI_l (by omega)]
      rw [e, lN_mul, z_add]
      exact hn
    · rw [b2_0] at z
      rw [if_neg (of_decide_eq_false z)] at hn
      rw [lN_mul, z_add]
      exact hn
theorem u_waysOf {a w p : Nat} (ha : a < 64) (hw : w < 64) (hp : p ≤ 12) (h : P (lN (sX a p w)) S) : Ct G l mX5_waysOf (d + 2) [.int (nI a), .int (nI w), .int (nI p)] S (QL P) := by
  refine bX5_waysOf_0 _ _ _ (fun x ex => ?_)
  unfold sX at h
  by_cases q : w &&& a = w
  · rw [if_pos q] at h
    rw [if_pos ((z_sub0 ha hw).mpr q)] at ex
    subst ex
    refine u_waysOf_l ha hw hp (c := 1) ?_ 6 0 rfl
    obtain ⟨h1, h2⟩ := wf_eq (p := p) (sb_2 a ha w hw q) 6 (by omega)
    have h3 := (sb_1 a ha w hw q).2.2.2
    rw [h2, Nat.one_mul, pop6 a ha, pop6 w hw]
    unfold sW at h
    rw [show sPop a 24 - sPop (a - w) 24 = sPop w 24 by omega, show sPop (a - w) 24 = sPop a 24 - sPop w 24 by omega, Nat.mul_comm] at h
    exact h
  · rw [if_neg q] at h
    rw [if_neg (fun z => q ((z_sub0 ha hw).mp z))] at ex
    subst ex
    refine u_waysOf_l ha hw hp (c := 0) ?_ 6 0 rfl
    rw [Nat.zero_mul]
    exact h
theorem u_belowOf {a : Nat} (ha : a < 64) (h : P (lN (12 ^ sPop a 24)) S) : Ct G l mX5_belowOf (d + 2) [.int (nI a)] S (QL P) := by
  have hl : ∀ (k i : Nat), i + k = 6 → Ev G l mX5_belowOf (d + 2) 4 [some (.int (nI a)), some (.long (lN (12 ^ sPop a i))), none, some (.int (nI i))] [] S (QL P) := by
    intro k
    induction k with
    | zero =>
      intro i hi
      obtain rfl : i = 6 := by omega
      refine bX5_belowOf_4 _ _ _ ⟨fun _ => ?_, fun z => absurd (by decide) z⟩
      rw [pop6 a ha]
      exact h
    | succ k ih =>
      intro i hi
      have hn := ih (i + 1) (by omega)
      rw [sPop, Nat.pow_add] at hn
      have b3 := bit_le a i
      refine bX5_belowOf_4 _ _ _ ⟨fun z => ?_, fun _ => u_has (by omega) (by omega) (fun x ex => ?_)⟩
      · rw [z_le (by omega) (by omega)] at z
        omega
      · have e : x = lN (12 ^ bit a i) := by
          rw [ex]
          by_cases q : bit a i = 1
          · rw [if_neg (by rw [b2y q]; decide), q]
          · rw [if_pos (b2f q), show bit a i = 0 by omega]
        rw [e, lN_mul, z_add]
        exact hn
  exact bX5_belowOf_0 _ (hl 6 0 rfl)
/-! lowest terms -/
theorem lle0 {a : Nat} (ha : a < 2 ^ 63) : (lg_cmp (lN a) (lN 0) ≤ nI 0) ↔ a = 0 := by
  have h : (lg_cmp (lN a) (lN 0) ≤ nI 0) ↔ lN a ≤ lN 0 := lg_cmp_le _ _
  rw [h, pk_lLE ha (by omega)]
  omega
theorem lne0 {a : Nat} (ha : a < 2 ^ 63) (h : ¬ a = 0) : ¬ lN a = 0 := fun z => h ((pk_lEQ ha (b := 0) (by omega)).mp z)
theorem half_mod {x y : Nat} (hy : 0 < y) (hr : 0 < x % y) : 2 * (y % (x % y)) < y := by
  have h1 : x % y < y := Nat.mod_lt _ hy
  have h2 : y % (x % y) < x % y := Nat.mod_lt _ hr
  have h3 := Nat.div_add_mod y (x % y)
  have h4 : 1 ≤ y / (x % y) := by
    rw [Nat.le_div_iff_mul_le hr]
    omega
  have h5 : (x % y) * 1 ≤ (x % y) * (y / (x % y)) := Nat.mul_le_mul_left _ h4
  omega
theorem t_gcd_l {A B : Int64} {Q : Sg → Prop} {g : Nat} (h : ∀ (i : Int32) (y : Int64), Ev G l mX4_tellFraction (d + 1) 45 [some (.ref 0), some (.long A), none, some (.long B), none, some (.long (lN g)), none, some (.long y), none, some (.int i), none, none] [] S (QV Q)) :
    ∀ (k x y i : Nat), x < 2 ^ 62 → y < 2 ^ 62 → y < 2 ^ k → i + 2 * k + 1 < 1000 → Nat.gcd x y = g → Ev G l mX4_tellFraction (d + 1) 9 [some (.ref 0), some (.long A), none, some (.long B), none, some (.long (lN x)), none, some (.long (lN y)), none, some (.int (nI i)), none, none] [] S (QV Q) := by
  have h0 : ∀ x y i : Nat, i < 1000 → y = 0 → Nat.gcd x y = g → Ev G l mX4_tellFraction (d + 1) 9 [some (.ref 0), some (.long A), none, some (.long B), none, some (.long (lN x)), none, some (.long (lN y)), none, some (.int (nI i)), none, none] [] S (QV Q) := by
    intro x y i hi hy hg
    subst hy
    rw [Nat.gcd_zero_right] at hg
    subst hg
    refine bX4_tellFraction_9 _ _ _ _ _ ⟨fun _ => h _ _, fun _ => ⟨fun _ => h _ _, fun z => ?_⟩⟩
    exact absurd ((lle0 (by omega)).mpr rfl) z
  intro k
  induction k with
  | zero =>
    intro x y i hx hy hk hi hg
    exact h0 x y i (by omega) (by simpa using hk) hg
  | succ k ih =>
    intro x y i hx hy hk hi hg
    by_cases q : y = 0
    · exact h0 x y i (by omega) q hg
    have hg1 : Nat.gcd y (x % y) = g := by
      rw [← hg, Nat.gcd_comm x y, Nat.gcd_rec y x, Nat.gcd_comm]
    have hr : x % y < y := Nat.mod_lt _ (by omega)
    refine bX4_tellFraction_9 _ _ _ _ _ ⟨fun z => ?_, fun _ => ⟨fun z => absurd ((lle0 (by omega)).mp z) q, fun _ => ⟨lne0 (by omega) q, ?_⟩⟩⟩
    · rw [z_le (by omega) (by omega)] at z
      omega
    rw [pk_lRem (by omega) (by omega) (by omega), z_add]
    by_cases q2 : x % y = 0
    · exact h0 y (x % y) (i + 1) (by omega) q2 hg1
    have hg2 : Nat.gcd (x % y) (y % (x % y)) = g := by
      rw [← hg1, Nat.gcd_comm y (x % y), Nat.gcd_rec (x % y) y, Nat.gcd_comm]
    have hm := half_mod (x := x) (y := y) (by omega) (by omega)
    refine bX4_tellFraction_9 _ _ _ _ _ ⟨fun z => ?_, fun _ => ⟨fun z => absurd ((lle0 (by omega)).mp z) q2, fun _ => ⟨lne0 (by omega) q2, ?_⟩⟩⟩
    · rw [z_le (by omega) (by omega)] at z
      omega
    rw [pk_lRem (by omega) (by omega) (by omega), z_add]
    rw [Nat.pow_succ] at hk
    exact ih (x % y) (y % (x % y)) (i + 1 + 1) (by omega) (by omega) (by omega) (by omega) hg2
theorem t_tellFraction {a b : Nat} (ha : a < 2 ^ 62) (hb : 0 < b) (hb2 : b < 2 ^ 62) {Q : Sg → Prop} (h : Q (S.1, u2 (u2 S.2 0 10 (lN (a / Nat.gcd b a))) 0 11 (lN (b / Nat.gcd b a)))) : Ct G l mX4_tellFraction (d + 1) [.ref 0, .long (lN a), .long (lN b)] S (QV Q) := by
  have hg : 0 < Nat.gcd b a := Nat.gcd_pos_of_pos_left _ hb
  have hgl : Nat.gcd b a ≤ b := Nat.gcd_le_left _ hb
  refine bX4_tellFraction_0 _ _ (t_gcd_l (g := Nat.gcd b a) (fun i y => ?_) 62 b a 0 hb2 ha ha (by omega) rfl)
  refine bX4_tellFraction_45 _ _ _ _ _ ⟨fun z => absurd ((lle0 (by omega)).mp z) (by omega), fun _ => ⟨lne0 (by omega) (by omega), fun S1 e1 => ⟨lne0 (by omega) (by omega), fun S2 e2 => ?_⟩⟩⟩
  rw [pk_lDiv (by omega) hg (by omega)] at e1 e2
  rw [e2, e1]
  exact h
theorem u_gcd_l {A B : Int64} {Q : Int32 → Sg → Prop} {g : Nat} (hg0 : 0 < g) (hg1 : g < 2 ^ 62) (h : Q (nI 1) (S.1, u2 (u2 S.2 7 12 (A / lN g)) 7 13 (B / lN g))) :
    ∀ (y x : Nat), x < 2 ^ 62 → y < 2 ^ 62 → Nat.gcd x y = g → Ev G l mX5_tellsParts (d + 1) 6 [some (.ref 7), some (.long A), none, some (.long B), none, some (.long (lN x)), none, some (.long (lN y)), none, none, none] [] S (QI Q) := by
  intro y
  induction y using Nat.strongRecOn with
  | ind y ih =>
    intro x hx hy hg
    refine bX5_tellsParts_6 _ _ _ _ ⟨fun z => ?_, fun z => ?_⟩
    · rw [lcmp0 (by omega) (by omega)] at z
      subst z
      rw [Nat.gcd_zero_right] at hg
      subst hg
      refine ⟨lne0 (by omega) (by omega), fun S1 e1 => ⟨lne0 (by omega) (by omega), fun S2 e2 => ?_⟩⟩
      rw [e2, e1]
      exact h
    · rw [lcmp0 (by omega) (by omega)] at z
      have hr : x % y < y := Nat.mod_lt _ (by omega)
      refine ⟨lne0 (by omega) z, ?_⟩
      rw [pk_lRem (by omega) (by omega) (by omega)]
      refine ih (x % y) hr y hy (by omega) ?_
      rw [← hg, Nat.gcd_comm x y, Nat.gcd_rec y x, Nat.gcd_comm]
theorem u_tellsParts {a b : Nat} (ha : a < 2 ^ 62) (hb : 0 < b) (hb2 : b < 2 ^ 62) {Q : Int32 → Sg → Prop} (h : Q (nI 1) (S.1, u2 (u2 S.2 7 12 (lN (a / Nat.gcd b a))) 7 13 (lN (b / Nat.gcd b a)))) : Ct G l mX5_tellsParts (d + 1) [.ref 7, .long (lN a), .long (lN b)] S (QI Q) := by
  have hg : 0 < Nat.gcd b a := Nat.gcd_pos_of_pos_left _ hb
  have hgl : Nat.gcd b a ≤ b := Nat.gcd_le_left _ hb
  refine bX5_tellsParts_0 _ _ (u_gcd_l (g := Nat.gcd b a) hg (by omega) ?_ b a ha hb2 (Nat.gcd_comm a b))
  rw [pk_lDiv (by omega) hg (by omega), pk_lDiv (by omega) hg (by omega)]
  exact h
/-- a sum over all who can be here, weighed -/
def tA (a p : Nat) (g : Nat → Nat) (w : Nat) : Nat := if w &&& a = w then g w * sW a p w else 0
def tB (a p : Nat) (g : Nat → Nat) (w : Nat) : Nat := g (a &&& (w ^^^ 4294967295)) * sX a p w
theorem tB_tA {a p : Nat} {g : Nat → Nat} (ha : a < 64) {w : Nat} (hw : w ≤ a) : tB a p g w = tA a p g (a - w) := by
  unfold tA tB sX
  by_cases q : w &&& a = w
  · obtain ⟨h1, h2, -, -⟩ := sb_1 a ha w (by omega) q
    rw [if_pos q, if_pos h2, h1]
  · rw [if_neg q, Nat.mul_zero, if_neg (fun z => ?_)]
    have := (sb_1 a ha (a - w) (by omega) z).2.1
    rw [show a - (a - w) = w by omega] at this
    exact q this
theorem sum_AB {a p : Nat} {g : Nat → Nat} (ha : a < 64) : sumN (tB a p g) (a + 1) = sumN (tA a p g) (a + 1) := by
  rw [← sumN_rev (tA a p g) a]
  exact sumN_cong _ (fun i hi => tB_tA ha (by omega))
theorem tA_le {a p : Nat} {g : Nat → Nat} (ha : a < 64) (hp : p ≤ 12) (hg : ∀ w, g w ≤ 18) {w : Nat} (hw : w < 64) : tA a p g w ≤ 53747712 := by
  unfold tA
  by_cases q : w &&& a = w
  · rw [if_pos q]
    have h1 := (sb_1 a ha w hw q).2.2.2
    have h2 := sW_le (w := w) ha hp (by omega)
    have h3 : g w * sW a p w ≤ 18 * 2985984 := Nat.mul_le_mul (hg w) h2
    omega
  · rw [if_neg q]
    omega
theorem sumA_lt {a p : Nat} {g : Nat → Nat} (ha : a < 64) (hp : p ≤ 12) (hg : ∀ w, g w ≤ 18) : sumN (tA a p g) (a + 1) < 2 ^ 62 := by
  have := sumN_le (f := tA a p g) (b := 53747712) (a + 1) (fun i hi => tA_le ha hp hg (by omega))
  have h2 : 53747712 * (a + 1) ≤ 53747712 * 64 := Nat.mul_le_mul_left _ (by omega)
  omega
theorem pow_pos12 {a : Nat} (ha : a < 64) : 0 < 12 ^ sPop a 24 ∧ 12 ^ sPop a 24 < 2 ^ 62 := by
  have h6 := pop_6 a ha
  have h4 : 12 ^ sPop a 24 ≤ 12 ^ 6 := Nat.pow_le_pow_right (by omega) h6
  have h5 : (12 : Nat) ^ 6 = 2985984 := by decide
  exact ⟨Nat.pow_pos (by omega), by omega⟩
/-- the weight of odds() -/
def gO (m : Nat → Nat) (v : Nat) : Nat → Nat := fun w => if sIn m w < v then 0 else 1
theorem t_odds_l (hv : LV S 28 m) (hI : IV m) {a p v : Nat} (ha : a < 64) (hp : p ≤ 12) (hv' : v < 100) {Q : Int32 → Sg → Prop} (h : Q (nI 1) (S.1, u2 (u2 S.2 0 10 (lN (sumN (tA a p (gO m v)) (a + 1) / Nat.gcd (12 ^ sPop a 24) (sumN (tA a p (gO m v)) (a + 1))))) 0 11 (lN (12 ^ sPop a 24 / Nat.gcd (12 ^ sPop a 24) (sumN (tA a p (gO m v)) (a + 1)))))) :
    ∀ (k n : Nat), n + k = a + 1 → Ev G l mX4_odds (d + 6) 46 [some (.ref 0), some (.int (nI v)), some (.int (nI p)), some (.int (nI a)), some (.long (lN (sumN (tA a p (gO m v)) n))), none, some (.int (nI n))] [] S (QI Q) := by
  have hg : ∀ w, gO m v w ≤ 18 := fun w => by unfold gO; split <;> omega
  intro k
  induction k with
  | zero =>
    intro n hn
    obtain rfl : n = a + 1 := by omega
    refine bX4_odds_46 _ _ _ _ _ ⟨fun _ => t_bitCount ha (t_power (by omega) (by have := pop_6 a ha; omega) (t_tellFraction (sumA_lt ha hp hg) (pow_pos12 ha).1 (pow_pos12 ha).2 h)), fun z => ?_⟩
    rw [z_lt (by omega) (by omega)] at z
    omega
  | succ k ih =>
    intro n hn
    have hn2 := ih (n + 1) (by omega)
    rw [sumN, tA] at hn2
    refine bX4_odds_46 _ _ _ _ _ ⟨fun z => ?_, fun _ => ⟨fun z => ?_, fun z => t_votesOf la28 hv hI (by omega) ?_⟩⟩
    · rw [z_lt (by omega) (by omega)] at z
      omega
    · rw [z_sub0 ha (by omega)] at z
      rw [if_neg z, Nat.add_zero] at hn2
      rw [z_add]
      exact hn2
    · rw [z_sub0 ha (by omega)] at z
      have hs := sIn_le hI n
      rw [if_pos z, gO] at hn2
      rw [z_lt (by omega) (by omega), z_add]
      refine ⟨fun y => ?_, fun y => t_ways ha (by omega) z hp ?_⟩
      · rw [if_pos y, Nat.zero_mul, Nat.add_zero] at hn2
        exact hn2
      · rw [if_neg y, Nat.one_mul] at hn2
        rw [lN_add]
        exact hn2
theorem u_odds_l (hu : MV S m) (hI : IV m) {a p v : Nat} (ha : a < 64) (hp : p ≤ 12) (hv' : v < 100) {Q : Int32 → Sg → Prop} (h : Q (nI 1) (S.1, u2 (u2 S.2 7 12 (lN (sumN (tA a p (gO m v)) (a + 1) / Nat.gcd (12 ^ sPop a 24) (sumN (tA a p (gO m v)) (a + 1))))) 7 13 (lN (12 ^ sPop a 24 / Nat.gcd (12 ^ sPop a 24) (sumN (tA a p (gO m v)) (a + 1)))))) :
    ∀ (k n : Nat), n + k = a + 1 → Ev G l mX5_odds (d + 6) 43 [some (.ref 7), some (.int (nI v)), some (.int (nI p)), some (.int (nI a)), some (.long (lN (sumN (tB a p (gO m v)) n))), none, some (.int (nI n))] [] S (QI Q) := by
  have hg : ∀ w, gO m v w ≤ 18 := fun w => by unfold gO; split <;> omega
  intro k
  induction k with
  | zero =>
    intro n hn
    obtain rfl : n = a + 1 := by omega
    refine bX5_odds_43 _ _ _ _ _ ⟨fun _ => u_belowOf ha ?_, fun z => ?_⟩
    · rw [sum_AB ha]
      exact u_tellsParts (sumA_lt ha hp hg) (pow_pos12 ha).1 (pow_pos12 ha).2 h
    · rw [z_lt (by omega) (by omega)] at z
      omega
  | succ k ih =>
    intro n hn
    have hn2 := ih (n + 1) (by omega)
    rw [sumN, tB] at hn2
    have h64 := sb_3 a ha n (by omega)
    refine bX5_odds_43 _ _ _ _ _ ⟨fun z => ?_, fun _ => ?_⟩
    · rw [z_lt (by omega) (by omega)] at z
      omega
    · rw [z_not]
      refine u_votesIn hu hI (by omega) ?_
      have hs := sIn_le hI (a &&& (n ^^^ 4294967295))
      rw [gO] at hn2
      rw [z_lt (by omega) (by omega), z_add]
      refine ⟨fun y => ?_, fun y => u_waysOf ha (by omega) hp ?_⟩
      · rw [if_pos y, Nat.zero_mul] at hn2
        rw [lN_add]
        exact hn2
      · rw [if_neg y, Nat.one_mul] at hn2
        rw [lN_add]
        exact hn2
theorem R.frac (hR : R S) (a b : Int64) : R (S.1, u2 (u2 (u2 (u2 S.2 0 10 a) 0 11 b) 7 12 a) 7 13 b) := hR.longs a b
theorem pm_odds (hR : R S) (i1 i2 : Int32) (h : ∀ r S', R S' → F r r S') : Ct G l mX4_odds (d + 20) [.ref 0, .int i1, .int i2] S (QI (fun r T => Ct G l mX5_odds (d + 20) [.ref 7, .int i1, .int i2] T (QI (fun r2 T2 => F r r2 T2)))) := by
  obtain ⟨m, hv, hu, hI⟩ := hR.nv
  obtain ⟨c0, c1, c2, -⟩ := hI.1
  have hb := sBels_lt hI (m 1) (m 2)
  by_cases hA : ¬ i1 < nI 0 ∧ ¬ nI 99 < i1
  · by_cases hB : ¬ i2 < nI 0 ∧ ¬ nI 12 < i2
    · obtain ⟨v, n1, n2, rfl⟩ := rng_in (by omega) (by omega) hA.1 hA.2
      obtain ⟨p, x1, x2, rfl⟩ := rng_in (by omega) (by omega) hB.1 hB.2
      refine bX4_odds_0 _ _ ⟨fun z => absurd z hA.1, fun _ => ⟨fun z => absurd z hA.2, fun _ => ⟨fun z => absurd z hB.1, fun _ => ⟨fun _ => t_isThere la28 hv hI ?_, fun z => absurd (z_nlt.mp hB.2) z⟩⟩⟩⟩
      by_cases hc : 0 < m 0
      · rw [b2y hc]
        refine ⟨fun _ => bX4_belong_0 ?_, fun z => absurd z (by decide)⟩
        rw [hv.w, hv.e]
        refine t_belonging la28 hv hI c1 (by omega) (t_odds_l hv hI hb x2 (by omega) ?_ (sBels m (m 1) (m 2) + 1) 0 (by omega))
        refine bX5_odds_0 _ _ (u_in _ _ _ ?_)
        rw [b2y hA]
        refine ⟨fun z => absurd z (by decide), fun _ => u_in _ _ _ ?_⟩
        rw [b2y hB]
        refine ⟨fun _ => u_are (S := (S.1, _)) hu hI ?_, fun z => absurd z (by decide)⟩
        rw [b2y hc]
        have hu' : ∀ K, MV (S.1, K) m := fun K => hu
        refine ⟨fun _ => u_belongersNow (hu' _) hI ?_, fun z => absurd z (by decide)⟩
        refine u_odds_l (m := m) (p := p) (v := v) (hu' _) hI hb x2 (by omega) ?_ (sBels m (m 1) (m 2) + 1) 0 (by omega)
        exact h _ _ (hR.frac _ _)
      · rw [b2f hc]
        refine ⟨fun z => absurd rfl z, fun _ => bX5_odds_0 _ _ (u_in _ _ _ ?_)⟩
        rw [b2y hA]
        refine ⟨fun z => absurd z (by decide), fun _ => u_in _ _ _ ?_⟩
        rw [b2y hB]
        refine ⟨fun _ => u_are hu hI ?_, fun z => absurd z (by decide)⟩
        rw [b2f hc]
        exact ⟨fun z => absurd rfl z, fun _ => h _ _ hR⟩
    · have hm : Ct G l mX5_odds (d + 20) [.ref 7, .int i1, .int i2] S (QI (fun r2 T2 => F (-1) r2 T2)) := by
        refine bX5_odds_0 _ _ (u_in _ _ _ ?_)
        rw [b2y hA]
        refine ⟨fun z => absurd z (by decide), fun _ => u_in _ _ _ ?_⟩
        rw [b2f hB]
        exact ⟨fun z => absurd rfl z, fun _ => h _ _ hR⟩
      exact bX4_odds_0 _ _ ⟨fun z => absurd z hA.1, fun _ => ⟨fun z => absurd z hA.2, fun _ => ⟨fun _ => hm, fun z => ⟨fun y => absurd ⟨z, z_nlt.mpr y⟩ hB, fun _ => hm⟩⟩⟩⟩
  · have hm : Ct G l mX5_odds (d + 20) [.ref 7, .int i1, .int i2] S (QI (fun r2 T2 => F (-1) r2 T2)) := by
      refine bX5_odds_0 _ _ (u_in _ _ _ ?_)
      rw [b2f hA]
      exact ⟨fun _ => h _ _ hR, fun z => absurd rfl z⟩
    exact bX4_odds_0 _ _ ⟨fun _ => hm, fun z => ⟨fun _ => hm, fun y => absurd ⟨z, y⟩ hA⟩⟩
/-- the weight of mid() -/
def gM (m : Nat → Nat) : Nat → Nat := fun w => sMost m w (m 7)
theorem t_mid_l (hv : LV S 28 m) (hI : IV m) {a p : Nat} (ha : a < 64) (hp : p ≤ 12) {Q : Int32 → Sg → Prop} (h : Q (nI 1) (S.1, u2 (u2 S.2 0 10 (lN (sumN (tA a p (gM m)) (a + 1) / Nat.gcd (12 ^ sPop a 24) (sumN (tA a p (gM m)) (a + 1))))) 0 11 (lN (12 ^ sPop a 24 / Nat.gcd (12 ^ sPop a 24) (sumN (tA a p (gM m)) (a + 1)))))) :
    ∀ (k n : Nat), n + k = a + 1 → Ev G l mX4_mid (d + 6) 35 [some (.ref 0), some (.int (nI p)), some (.int (nI a)), some (.long (lN (sumN (tA a p (gM m)) n))), none, some (.int (nI n))] [] S (QI Q) := by
  have hp6 := hI.p6
  have hg : ∀ w, gM m w ≤ 18 := fun w => sMost_le hI w _ hp6
  intro k
  induction k with
  | zero =>
    intro n hn
    obtain rfl : n = a + 1 := by omega
    refine bX4_mid_35 _ _ _ _ ⟨fun _ => t_bitCount ha (t_power (by omega) (by have := pop_6 a ha; omega) (t_tellFraction (sumA_lt ha hp hg) (pow_pos12 ha).1 (pow_pos12 ha).2 h)), fun z => ?_⟩
    rw [z_lt (by omega) (by omega)] at z
    omega
  | succ k ih =>
    intro n hn
    have hn2 := ih (n + 1) (by omega)
    rw [sumN, tA] at hn2
    refine bX4_mid_35 _ _ _ _ ⟨fun z => ?_, fun _ => ⟨fun z => ?_, fun z => t_mostVotesIn la28 hv hI (by omega) ?_⟩⟩
    · rw [z_lt (by omega) (by omega)] at z
      omega
    · rw [z_sub0 ha (by omega)] at z
      rw [if_neg z, Nat.add_zero] at hn2
      rw [z_add]
      exact hn2
    · rw [z_sub0 ha (by omega)] at z
      have hs := hg n
      rw [if_pos z] at hn2
      refine t_ways ha (by omega) z hp ?_
      have e : (nI (sMost m n (m 7))).toInt64 = lN (gM m n) := nI_l (by show gM m n < _; omega)
      rw [e, lN_mul, lN_add, z_add]
      exact hn2
theorem u_mid_44 (hu : MV S m) (hI : IV m) {a p n w : Nat} (hw : a &&& (n ^^^ 4294967295) = w) (hw64 : w < 64) {j3 : Int64} {Q : Int32 → Sg → Prop} (h : Ct G l mX5_waysOf (d + 5) [.int (nI a), .int (nI n), .int (nI p)] S (QL (fun r108 T108 => Ev G l mX5_mid (d + 6) 32 [some (.ref 7), some (.int (nI p)), some (.int (nI a)), some (.long (j3 + (((nI (gM m w)).toInt64) * r108))), none, some (.int (nI (n + 1))), none, none] [] T108 (QI Q)))) :
    ∀ (k i : Nat), i + k = m 7 → Ev G l mX5_mid (d + 6) 44 [some (.ref 7), some (.int (nI p)), some (.int (nI a)), some (.long j3), none, some (.int (nI n)), some (.int (nI (sMost m w i))), some (.int (nI i))] [] S (QI Q) := by
  have hp6 := hI.p6
  have e7 := hu 7 (by omega)
  intro k
  induction k with
  | zero =>
    intro i hi
    obtain rfl : i = m 7 := by omega
    refine bX5_mid_44 _ _ _ _ _ _ ⟨fun _ => ?_, fun z => ?_⟩
    · rw [z_add]
      exact h
    · rw [e7, z_le (by omega) (by omega)] at z
      omega
  | succ k ih =>
    intro i hi
    have hn := ih (i + 1) (by omega)
    rw [sMost] at hn
    have b1 := sMost_le hI w i (by omega)
    have b3 := sVo_le (hI.2 i (by omega))
    have b2 := bit_le w i
    refine bX5_mid_44 _ _ _ _ _ _ ⟨fun z => ?_, fun _ => ?_⟩
    · rw [e7, z_le (by omega) (by omega)] at z
      omega
    · rw [z_not, hw, z_add]
      refine u_has (by omega) (by omega) ⟨fun z => ?_, fun z => u_votesOf hu hI (by omega) ⟨fun y => ?_, fun y => u_votesOf hu hI (by omega) ?_⟩⟩
      · rw [b2_0] at z
        rw [if_neg (of_decide_eq_false z)] at hn
        exact hn
      · rw [b2_0] at z
        have qa : bit w i = 1 := by
          apply Classical.byContradiction
          intro y
          exact z (decide_eq_false y)
        rw [z_le (by omega) (by omega)] at y
        rw [if_pos qa, Nat.max_eq_left y] at hn
        exact hn
      · rw [b2_0] at z
        have qa : bit w i = 1 := by
          apply Classical.byContradiction
          intro y
          exact z (decide_eq_false y)
        rw [z_le (by omega) (by omega)] at y
        rw [if_pos qa, Nat.max_eq_right (by omega)] at hn
        exact hn
theorem u_mid_l (hu : MV S m) (hI : IV m) {a p : Nat} (ha : a < 64) (hp : p ≤ 12) {Q : Int32 → Sg → Prop} (h : Q (nI 1) (S.1, u2 (u2 S.2 7 12 (lN (sumN (tA a p (gM m)) (a + 1) / Nat.gcd (12 ^ sPop a 24) (sumN (tA a p (gM m)) (a + 1))))) 7 13 (lN (12 ^ sPop a 24 / Nat.gcd (12 ^ sPop a 24) (sumN (tA a p (gM m)) (a + 1)))))) :
    ∀ (k n : Nat), n + k = a + 1 → Ev G l mX5_mid (d + 6) 32 [some (.ref 7), some (.int (nI p)), some (.int (nI a)), some (.long (lN (sumN (tB a p (gM m)) n))), none, some (.int (nI n)), none, none] [] S (QI Q) := by
  have hp6 := hI.p6
  have hg : ∀ w, gM m w ≤ 18 := fun w => sMost_le hI w _ hp6
  intro k
  induction k with
  | zero =>
    intro n hn
    obtain rfl : n = a + 1 := by omega
    refine bX5_mid_32 _ _ _ _ ⟨fun _ => u_belowOf ha ?_, fun z => ?_⟩
    · rw [sum_AB ha]
      exact u_tellsParts (sumA_lt ha hp hg) (pow_pos12 ha).1 (pow_pos12 ha).2 h
    · rw [z_lt (by omega) (by omega)] at z
      omega
  | succ k ih =>
    intro n hn
    have hn2 := ih (n + 1) (by omega)
    rw [sumN, tB] at hn2
    have h64 := sb_3 a ha n (by omega)
    refine bX5_mid_32 _ _ _ _ ⟨fun z => ?_, fun _ => u_mid_44 hu hI rfl h64 (u_waysOf ha (by omega) hp ?_) (m 7) 0 (by omega)⟩
    · rw [z_lt (by omega) (by omega)] at z
      omega
    · have hs := hg (a &&& (n ^^^ 4294967295))
      rw [nI_l (by omega), lN_mul, lN_add]
      exact hn2
theorem pm_mid (hR : R S) (i1 : Int32) (h : ∀ r S', R S' → F r r S') : Ct G l mX4_mid (d + 20) [.ref 0, .int i1] S (QI (fun r T => Ct G l mX5_mid (d + 20) [.ref 7, .int i1] T (QI (fun r2 T2 => F r r2 T2)))) := by
  obtain ⟨m, hv, hu, hI⟩ := hR.nv
  obtain ⟨c0, c1, c2, -⟩ := hI.1
  have hb := sBels_lt hI (m 1) (m 2)
  by_cases hB : ¬ i1 < nI 0 ∧ ¬ nI 12 < i1
  · obtain ⟨p, x1, x2, rfl⟩ := rng_in (by omega) (by omega) hB.1 hB.2
    refine bX4_mid_0 _ ⟨fun z => absurd z hB.1, fun _ => ⟨fun _ => t_isThere la28 hv hI ?_, fun z => absurd (z_nlt.mp hB.2) z⟩⟩
    by_cases hc : 0 < m 0
    · rw [b2y hc]
      refine ⟨fun _ => bX4_belong_0 ?_, fun z => absurd z (by decide)⟩
      rw [hv.w, hv.e]
      refine t_belonging la28 hv hI c1 (by omega) (t_mid_l hv hI hb x2 ?_ (sBels m (m 1) (m 2) + 1) 0 (by omega))
      refine bX5_mid_0 _ (u_in _ _ _ ?_)
      rw [b2y hB]
      refine ⟨fun _ => u_are (S := (S.1, _)) hu hI ?_, fun z => absurd z (by decide)⟩
      rw [b2y hc]
      have hu' : ∀ K, MV (S.1, K) m := fun K => hu
      refine ⟨fun _ => u_belongersNow (hu' _) hI ?_, fun z => absurd z (by decide)⟩
      refine u_mid_l (m := m) (p := p) (hu' _) hI hb x2 ?_ (sBels m (m 1) (m 2) + 1) 0 (by omega)
      exact h _ _ (hR.frac _ _)
    · rw [b2f hc]
      refine ⟨fun z => absurd rfl z, fun _ => bX5_mid_0 _ (u_in _ _ _ ?_)⟩
      rw [b2y hB]
      refine ⟨fun _ => u_are hu hI ?_, fun z => absurd z (by decide)⟩
      rw [b2f hc]
      exact ⟨fun z => absurd rfl z, fun _ => h _ _ hR⟩
  · have hm : Ct G l mX5_mid (d + 20) [.ref 7, .int i1] S (QI (fun r2 T2 => F (-1) r2 T2)) := by
      refine bX5_mid_0 _ (u_in _ _ _ ?_)
      rw [b2f hB]
      exact ⟨fun z => absurd rfl z, fun _ => h _ _ hR⟩
    exact bX4_mid_0 _ ⟨fun _ => hm, fun z => ⟨fun y => absurd ⟨z, z_nlt.mpr y⟩ hB, fun _ => hm⟩⟩
end odds
