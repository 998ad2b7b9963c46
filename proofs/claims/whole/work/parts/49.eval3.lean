/-! the four ends -/
theorem mul_bd {a b : Int} (ha : -1073741824 ≤ a ∧ a ≤ 1073741824) (hb : -1073741824 ≤ b ∧ b ≤ 1073741824) : -1152921504606846976 ≤ a * b ∧ a * b ≤ 1152921504606846976 := by
  have h : (a * b).natAbs ≤ 1073741824 * 1073741824 := by
    rw [Int.natAbs_mul]
    exact Nat.mul_le_mul (by omega) (by omega)
  omega
theorem en_step {k a b : Nat} (ha : a < 120) (hb : b < 120) {one : Int64} {sx : Int32} {G : Nat → Int64 → Int64 → Wd → Option Wd}
    (h81 : ∀ (rec : Int32 → Int32 → Int32 → Int64 → Int32 → Int32 → Wd → Option Wd) (m : Nat) (x7 : Int32) (va vb : Int64) (z : Wd), fX4_ends_81 rec m (nI k) (nI a) (nI b) one sx x7 va vb z = (G m va vb z).bind fun z' => rec (nI k) (nI a) (nI b) one sx (x7 + 1) z') (m : Nat) (z : Wd) :
    fX4_ends_29 (m + 1) (nI k) (nI a) (nI b) one sx 0 z = ((G m (z.2 9 a) (z.2 9 b) z).bind fun z' => fX4_ends_29 m (nI k) (nI a) (nI b) one sx 1 z') ∧
    fX4_ends_29 (m + 1) (nI k) (nI a) (nI b) one sx 1 z = ((G m (z.2 10 a) (z.2 9 b) z).bind fun z' => fX4_ends_29 m (nI k) (nI a) (nI b) one sx 2 z') ∧
    fX4_ends_29 (m + 1) (nI k) (nI a) (nI b) one sx 2 z = ((G m (z.2 9 a) (z.2 10 b) z).bind fun z' => fX4_ends_29 m (nI k) (nI a) (nI b) one sx 3 z') ∧
    fX4_ends_29 (m + 1) (nI k) (nI a) (nI b) one sx 3 z = ((G m (z.2 10 a) (z.2 10 b) z).bind fun z' => fX4_ends_29 m (nI k) (nI a) (nI b) one sx 4 z') := by
  refine ⟨?_, ?_, ?_, ?_⟩
  · rw [fX4_ends_29, if_neg (by decide), if_pos (by decide), pz_ldL ha (by decide), pz_ldL hb (by decide), Option.bind_some, if_pos (by decide), Option.bind_some, h81]
    rfl
  · rw [fX4_ends_29, if_neg (by decide), if_neg (by decide), pz_ldL ha (by decide), pz_ldL hb (by decide), Option.bind_some, if_pos (by decide), Option.bind_some, h81]
    rfl
  · rw [fX4_ends_29, if_neg (by decide), if_pos (by decide), pz_ldL ha (by decide), Option.bind_some, if_neg (by decide), pz_ldL hb (by decide), Option.bind_some, h81]
    rfl
  · rw [fX4_ends_29, if_neg (by decide), if_neg (by decide), pz_ldL ha (by decide), Option.bind_some, if_neg (by decide), pz_ldL hb (by decide), Option.bind_some, h81]
    rfl
def grow (k : Nat) (G : Nat → Int64 → Int64 → Wd → Option Wd) (F C : Int → Int → Int) (va vb : Int64) : Prop := ∀ (m : Nat), 40 ≤ m → ∀ (z : Wd), ∃ z', G m va vb z = some z' ∧ kX k z z' ∧ (z'.2 9 k).toInt = min (F va.toInt vb.toInt) (z.2 9 k).toInt ∧ (z'.2 10 k).toInt = max (C va.toInt vb.toInt) (z.2 10 k).toInt
theorem q_ends {k a b : Nat} (hk : k < 120) (ha : a < k) (hb : b < k) {one : Int64} {x : Wd} {G : Nat → Int64 → Int64 → Wd → Option Wd} {F C : Int → Int → Int} {n : Nat} (hn : 50 ≤ n)
    (h81 : ∀ (rec : Int32 → Int32 → Int32 → Int64 → Int32 → Int32 → Wd → Option Wd) (m : Nat) (x7 : Int32) (va vb : Int64) (z : Wd), fX4_ends_81 rec m (nI k) (nI a) (nI b) one (x.1 3 k) x7 va vb z = (G m va vb z).bind fun z' => rec (nI k) (nI a) (nI b) one (x.1 3 k) (x7 + 1) z')
    (g1 : grow k G F C (x.2 9 a) (x.2 9 b)) (g2 : grow k G F C (x.2 10 a) (x.2 9 b)) (g3 : grow k G F C (x.2 9 a) (x.2 10 b)) (g4 : grow k G F C (x.2 10 a) (x.2 10 b)) :
    ∃ z, fX4_ends n (nI k) (nI a) (nI b) one x = fX4_ends_29 (n - 4) (nI k) (nI a) (nI b) one (x.1 3 k) 4 z ∧ kX k x z ∧
      (z.2 9 k).toInt = min (F (x.2 10 a).toInt (x.2 10 b).toInt) (min (F (x.2 9 a).toInt (x.2 10 b).toInt) (min (F (x.2 10 a).toInt (x.2 9 b).toInt) (min (F (x.2 9 a).toInt (x.2 9 b).toInt) 4611686018427387904))) ∧
      (z.2 10 k).toInt = max (C (x.2 10 a).toInt (x.2 10 b).toInt) (max (C (x.2 9 a).toInt (x.2 10 b).toInt) (max (C (x.2 10 a).toInt (x.2 9 b).toInt) (max (C (x.2 9 a).toInt (x.2 9 b).toInt) (-4611686018427387904)))) := by
  obtain ⟨m, rfl⟩ : ∃ m, n = m + 4 := ⟨n - 4, by omega⟩
  unfold fX4_ends
  rw [pz_ldI hk (by decide), Option.bind_some, pz_stL hk (by decide), Option.bind_some, pz_stL hk (by decide), Option.bind_some]
  obtain ⟨z0, hz0⟩ : ∃ z0, z0 = ez_sL (ez_sL x 9 k 4611686018427387904) 10 k (-4611686018427387904) := ⟨_, rfl⟩
  rw [← hz0]
  have k0 : kX k x z0 := by
    rw [hz0]
    refine ⟨rfl, fun c j h => ?_⟩
    have h9 : ¬ (c = 9 ∧ j = k) := fun q => h (Or.inl q.1) q.2
    have h10 : ¬ (c = 10 ∧ j = k) := fun q => h (Or.inr q.1) q.2
    rw [pz_sL2, if_neg h10, pz_sL2, if_neg h9]
  have l0 : (z0.2 9 k).toInt = 4611686018427387904 := by rw [hz0]; simp [pz_sL2]
  have u0 : (z0.2 10 k).toInt = -4611686018427387904 := by rw [hz0]; simp [pz_sL2]
  have S := fun (m : Nat) (z : Wd) => en_step (k := k) (show a < 120 by omega) (show b < 120 by omega) h81 m z
  have hak : ∀ {z : Wd}, kX k x z → z.2 9 a = x.2 9 a ∧ z.2 10 a = x.2 10 a ∧ z.2 9 b = x.2 9 b ∧ z.2 10 b = x.2 10 b := fun h => ⟨h.2 _ _ (fun _ => by omega), h.2 _ _ (fun _ => by omega), h.2 _ _ (fun _ => by omega), h.2 _ _ (fun _ => by omega)⟩
  obtain ⟨z1, e1, k1, l1, u1⟩ := g1 (m + 3) (by omega) z0
  obtain ⟨q1, q2, q3, q4⟩ := hak k0
  rw [(S (m + 3) z0).1, q1, q3, e1, Option.bind_some]
  have k1 := k0.tr k1
  obtain ⟨z2, e2, k2, l2, u2⟩ := g2 (m + 2) (by omega) z1
  obtain ⟨q1, q2, q3, q4⟩ := hak k1
  rw [(S (m + 2) z1).2.1, q2, q3, e2, Option.bind_some]
  have k2 := k1.tr k2
  obtain ⟨z3, e3, k3, l3, u3⟩ := g3 (m + 1) (by omega) z2
  obtain ⟨q1, q2, q3, q4⟩ := hak k2
  rw [(S (m + 1) z2).2.2.1, q1, q4, e3, Option.bind_some]
  have k3 := k2.tr k3
  obtain ⟨z4, e4, k4, l4, u4⟩ := g4 m (by omega) z3
  obtain ⟨q1, q2, q3, q4⟩ := hak k3
  rw [(S m z3).2.2.2, q2, q4, e4, Option.bind_some]
  refine ⟨z4, rfl, k3.tr k4, ?_, ?_⟩
  · rw [l4, l3, l2, l1, l0]
  · rw [u4, u3, u2, u1, u0]
/-- behind the ends: is the span within the limit? -/
theorem q_202 {k s : Nat} (hk : k < 120) (hs : s ≤ 18) {one : Int64} (ho : one.toInt = 2 ^ s) {n : Nat} {xa xb : Int32} {x z : Wd} (he : fX4_ends n (nI k) xa xb one x = some z) (hkx : kX k x z) (h0 : x.1 8 k = 0) {lo hi : Int} (hlo : (z.2 9 k).toInt = lo) (hhi : (z.2 10 k).toInt = hi) (hle : lo ≤ hi) : ∃ x', fX4_workOut_202 n (nI k) one xa xb x = some x' ∧ x'.2 = z.2 ∧ (∀ c j, (c = 8 → j ≠ k) → x'.1 c j = x.1 c j) ∧ x'.1 8 k = if 4096 * 2 ^ s < hi ∨ lo < -(4096 * 2 ^ s) then 1 else 0 := by
  obtain ⟨h1, h2⟩ := pow_le18 hs
  have e1 : ((-4096) * one).toInt = -(4096 * 2 ^ s) := by
    have : (-4096 : Int64).toInt = -4096 := rfl
    rw [aL_mul] <;> rw [this, ho] <;> omega
  have e2 : (4096 * one).toInt = 4096 * 2 ^ s := by
    have : (4096 : Int64).toInt = 4096 := rfl
    rw [aL_mul] <;> rw [this, ho] <;> omega
  have yes : (4096 * 2 ^ s < hi ∨ lo < -(4096 * 2 ^ s)) → ∃ x', some (ez_sI z 8 k 1) = some x' ∧ x'.2 = z.2 ∧ (∀ c j, (c = 8 → j ≠ k) → x'.1 c j = x.1 c j) ∧ x'.1 8 k = if 4096 * 2 ^ s < hi ∨ lo < -(4096 * 2 ^ s) then 1 else 0 := by
    intro hq
    refine ⟨_, rfl, rfl, fun c j h => ?_, ?_⟩
    · rw [pz_sI1, if_neg (fun q => h q.1 q.2), hkx.1]
    · rw [if_pos hq, pz_sI1, if_pos ⟨rfl, rfl⟩]
  unfold fX4_workOut_202
  rw [he, Option.bind_some, pz_ldL hk (by decide), pz_ldL hk (by decide), pz_stI hk (by decide), Option.bind_some, Option.bind_some, Option.bind_some]
  by_cases c1 : lo < -(4096 * 2 ^ s)
  · rw [if_pos (by rw [lg_cmp_lt, aL_lt, e1, hlo]; exact c1)]
    exact yes (Or.inr c1)
  · rw [if_neg (by rw [lg_cmp_lt, aL_lt, e1, hlo]; exact c1)]
    by_cases c2 : 4096 * 2 ^ s < hi
    · rw [if_pos (by rw [lg_cmp_gt, aL_lt, e2, hhi]; exact c2)]
      exact yes (Or.inl c2)
    · rw [if_neg (by rw [lg_cmp_gt, aL_lt, e2, hhi]; exact c2), Option.bind_some, if_neg (by rw [lg_cmp_lt, aL_lt, e1, hhi]; omega), Option.bind_some, if_pos (by rw [lg_cmp_le, aL_le, e2, hlo]; omega)]
      refine ⟨z, rfl, rfl, fun c j _ => by rw [hkx.1], ?_⟩
      rw [hkx.1, h0, if_neg (by omega)]
/-- a part's span on both sides -/
def spn (w x : Wd) (i : Nat) (B : Int) : Prop := (w.1 10 i = 0 ∧ x.1 8 i = 0 ∧ w.2 11 i = x.2 9 i ∧ w.2 12 i = x.2 10 i ∧ (w.2 11 i).toInt ≤ (w.2 12 i).toInt ∧ -B ≤ (w.2 11 i).toInt ∧ (w.2 12 i).toInt ≤ B) ∨ (w.1 10 i = 1 ∧ x.1 8 i = 2) ∨ (w.1 10 i = 2 ∧ x.1 8 i = 1)
def atW (k : Nat) (w w' : Wd) : Prop := (∀ c j, (c = 10 → j ≠ k) → w'.1 c j = w.1 c j) ∧ (∀ c j, (c = 11 ∨ c = 12 → j ≠ k) → w'.2 c j = w.2 c j)
def atX (k : Nat) (x x' : Wd) : Prop := (∀ c j, (c = 8 → j ≠ k) → x'.1 c j = x.1 c j) ∧ (∀ c j, (c = 9 ∨ c = 10 → j ≠ k) → x'.2 c j = x.2 c j)
theorem atW_sp (w : Wd) (k : Nat) (st : Int32) (lo hi : Int64) : atW k w (spW w k st lo hi) := by
  refine ⟨fun c j h => ?_, fun c j h => ?_⟩
  · show (ez_sI w 10 k st).1 c j = _
    rw [pz_sI1, if_neg (fun q => h q.1 q.2)]
  · show (ez_sL (ez_sL (ez_sI w 10 k st) 11 k lo) 12 k hi).2 c j = _
    rw [pz_sL2, if_neg (fun q => h (Or.inr q.1) q.2), pz_sL2, if_neg (fun q => h (Or.inl q.1) q.2)]
    rfl
theorem spW_vals (w : Wd) (k : Nat) (st : Int32) (lo hi : Int64) : (spW w k st lo hi).1 10 k = st ∧ (spW w k st lo hi).2 11 k = lo ∧ (spW w k st lo hi).2 12 k = hi := by
  refine ⟨?_, ?_, ?_⟩
  · show (ez_sI w 10 k st).1 10 k = st
    rw [pz_sI1, if_pos ⟨rfl, rfl⟩]
  · show (ez_sL (ez_sL (ez_sI w 10 k st) 11 k lo) 12 k hi).2 11 k = lo
    simp [pz_sL2]
  · show (ez_sL (ez_sL (ez_sI w 10 k st) 11 k lo) 12 k hi).2 12 k = hi
    simp [pz_sL2]
/-- both set a span of equal ends -/
theorem both_span {k s : Nat} (hk : k < 80) (hs : s ≤ 18) {one : Int64} (ho : one.toInt = 2 ^ s) {n : Nat} {xa xb : Int32} {w x1 x z : Wd} (hx1 : ∀ c j, (c = 8 → j ≠ k) → x1.1 c j = x.1 c j) (hx2 : x1.2 = x.2) (he : fX4_ends n (nI k) xa xb one x1 = some z) (hkx : kX k x1 z) (h0 : x1.1 8 k = 0) (lo hi : Int64) (hlo : (z.2 9 k).toInt = lo.toInt) (hhi : (z.2 10 k).toInt = hi.toInt) (hle : lo.toInt ≤ hi.toInt) : ∃ x', fX4_workOut_202 n (nI k) one xa xb x1 = some x' ∧ atX k x x' ∧ spn (spW w k (if 4096 * 2 ^ s < hi.toInt ∨ lo.toInt < -(4096 * 2 ^ s) then 2 else 0) lo hi) x' k (4096 * 2 ^ s) := by
  obtain ⟨x', e, g1, g2, g3⟩ := q_202 (show k < 120 by omega) hs ho he hkx h0 hlo hhi hle
  obtain ⟨v1, v2, v3⟩ := spW_vals w k (if 4096 * 2 ^ s < hi.toInt ∨ lo.toInt < -(4096 * 2 ^ s) then 2 else 0) lo hi
  refine ⟨x', e, ⟨fun c j h => (g2 c j h).trans (hx1 c j h), fun c j h => by rw [g1, hkx.2 c j h, hx2]⟩, ?_⟩
  unfold spn
  rw [v1, v2, v3, g3, g1]
  by_cases hc : 4096 * 2 ^ s < hi.toInt ∨ lo.toInt < -(4096 * 2 ^ s)
  · rw [if_pos hc, if_pos hc]
    exact Or.inr (Or.inr ⟨rfl, rfl⟩)
  · rw [if_neg hc, if_neg hc]
    exact Or.inl ⟨rfl, rfl, (Int64.toInt_inj.mp hlo).symm, (Int64.toInt_inj.mp hhi).symm, hle, by omega, by omega⟩
