/-! each sort of part -/
def sp1 (w x : Wd) (a : Nat) : Prop := w.2 11 a = x.2 9 a ∧ w.2 12 a = x.2 10 a ∧ (w.2 11 a).toInt ≤ (w.2 12 a).toInt ∧ -1073741824 ≤ (w.2 11 a).toInt ∧ (w.2 12 a).toInt ≤ 1073741824
theorem en_tail {k a b : Nat} {one : Int64} {sx : Int32} (h : ¬ sx = 7) (m : Nat) (z : Wd) : fX4_ends_29 (m + 1) (nI k) (nI a) (nI b) one sx 4 z = some z := by
  rw [fX4_ends_29, if_pos (by decide), if_neg h]
theorem q_inc1 (n : Nat) {k : Nat} (hk : k < 120) {a : Int64} (ha : -4611686018427387904 < a.toInt ∧ a.toInt < 4611686018427387904) (x : Wd) : ∃ x', fX4_include n (nI k) a 1 x = some x' ∧ kX k x x' ∧ (x'.2 9 k).toInt = min a.toInt (x.2 9 k).toInt ∧ (x'.2 10 k).toInt = max a.toInt (x.2 10 k).toInt := by
  obtain ⟨x', e, h1, h2, h3⟩ := q_inc n hk (a := a) (b := 1) (by decide) ha x
  refine ⟨x', e, h1, ?_, ?_⟩
  · rw [h2, i1, flo_pos (by decide), Int.ediv_one]
  · rw [h3, i1, flo_pos (by decide), Int.ediv_one, Int.neg_neg]
section SORTS
variable {k s a b n : Nat} {one : Int64} {w x : Wd}
theorem s_sum (hk : k < 80) (hs : s ≤ 18) (ho : one.toInt = 2 ^ s) (hw : w.1 0 4 = nI s) (ha : a < k) (hb : b < k) (hn : 50 ≤ n) (sa : sp1 w x a) (sb : sp1 w x b) (hsx : x.1 3 k = 2) : ∃ w' x', fX2_setSpan n (nI k) (w.2 11 a + w.2 11 b) (w.2 12 a + w.2 12 b) w = some w' ∧ fX4_workOut_202 n (nI k) one (nI a) (nI b) (ez_sI x 8 k 0) = some x' ∧ atW k w w' ∧ atX k x x' ∧ spn w' x' k (4096 * 2 ^ s) := by
  obtain ⟨a1, a2, a3, a4, a5⟩ := sa
  obtain ⟨b1, b2, b3, b4, b5⟩ := sb
  have hs1 : (ez_sI x 8 k 0).1 3 k = 2 := by simp [pz_sI1, hsx]
  have gr : ∀ va vb : Int64, (-1073741824 ≤ va.toInt ∧ va.toInt ≤ 1073741824) → (-1073741824 ≤ vb.toInt ∧ vb.toInt ≤ 1073741824) → grow k (fun m va vb z => fX4_include m (nI k) (va + vb) 1 z) (fun p q => p + q) (fun p q => p + q) va vb := by
    intro va vb h1 h2 m _ z
    have e : (va + vb).toInt = va.toInt + vb.toInt := aL_add (by omega) (by omega)
    obtain ⟨z', f1, f2, f3, f4⟩ := q_inc1 m (show k < 120 by omega) (a := va + vb) (by omega) z
    exact ⟨z', f1, f2, by rw [f3, e], by rw [f4, e]⟩
  obtain ⟨z, e1, e2, e3, e4⟩ := q_ends (x := ez_sI x 8 k 0) (one := one) (show k < 120 by omega) ha hb hn (G := fun m va vb z => fX4_include m (nI k) (va + vb) 1 z) (F := fun p q => p + q) (C := fun p q => p + q) (by
      intro rec m x7 va vb z
      rw [hs1]
      unfold fX4_ends_81
      rw [if_neg (by decide), if_neg (by decide), if_neg (by decide), if_neg (by decide), if_pos rfl])
    (gr _ _ (by rw [pz_sI2, ← a1]; omega) (by rw [pz_sI2, ← b1]; omega)) (gr _ _ (by rw [pz_sI2, ← a2]; omega) (by rw [pz_sI2, ← b1]; omega)) (gr _ _ (by rw [pz_sI2, ← a1]; omega) (by rw [pz_sI2, ← b2]; omega)) (gr _ _ (by rw [pz_sI2, ← a2]; omega) (by rw [pz_sI2, ← b2]; omega))
  obtain ⟨m, hm⟩ : ∃ m, n - 4 = m + 1 := ⟨n - 5, by omega⟩
  rw [hm, hs1, en_tail (by decide)] at e1
  rw [pz_sI2, ← a1, ← a2, ← b1, ← b2] at e3 e4
  have el : (w.2 11 a + w.2 11 b).toInt = (w.2 11 a).toInt + (w.2 11 b).toInt := aL_add (by omega) (by omega)
  have eh : (w.2 12 a + w.2 12 b).toInt = (w.2 12 a).toInt + (w.2 12 b).toInt := aL_add (by omega) (by omega)
  obtain ⟨x', g1, g2, g3⟩ := both_span hk hs ho (w := w) (x := x) (x1 := ez_sI x 8 k 0) (fun c j h => by rw [pz_sI1, if_neg (fun q => h q.1 q.2)]) rfl e1 e2 (by simp [pz_sI1]) (w.2 11 a + w.2 11 b) (w.2 12 a + w.2 12 b) (by rw [e3, el]; omega) (by rw [e4, eh]; omega) (by omega)
  exact ⟨_, x', p_setSpan n w _ _ hk hs hw, g1, atW_sp _ _ _ _ _, g2, g3⟩
theorem s_dif (hk : k < 80) (hs : s ≤ 18) (ho : one.toInt = 2 ^ s) (hw : w.1 0 4 = nI s) (ha : a < k) (hb : b < k) (hn : 50 ≤ n) (sa : sp1 w x a) (sb : sp1 w x b) (hsx : x.1 3 k = 3) : ∃ w' x', fX2_setSpan n (nI k) (w.2 11 a - w.2 12 b) (w.2 12 a - w.2 11 b) w = some w' ∧ fX4_workOut_202 n (nI k) one (nI a) (nI b) (ez_sI x 8 k 0) = some x' ∧ atW k w w' ∧ atX k x x' ∧ spn w' x' k (4096 * 2 ^ s) := by
  obtain ⟨a1, a2, a3, a4, a5⟩ := sa
  obtain ⟨b1, b2, b3, b4, b5⟩ := sb
  have hs1 : (ez_sI x 8 k 0).1 3 k = 3 := by simp [pz_sI1, hsx]
  have gr : ∀ va vb : Int64, (-1073741824 ≤ va.toInt ∧ va.toInt ≤ 1073741824) → (-1073741824 ≤ vb.toInt ∧ vb.toInt ≤ 1073741824) → grow k (fun m va vb z => fX4_include m (nI k) (va - vb) 1 z) (fun p q => p - q) (fun p q => p - q) va vb := by
    intro va vb h1 h2 m _ z
    have e : (va - vb).toInt = va.toInt - vb.toInt := aL_sub (by omega) (by omega)
    obtain ⟨z', f1, f2, f3, f4⟩ := q_inc1 m (show k < 120 by omega) (a := va - vb) (by omega) z
    exact ⟨z', f1, f2, by rw [f3, e], by rw [f4, e]⟩
  obtain ⟨z, e1, e2, e3, e4⟩ := q_ends (x := ez_sI x 8 k 0) (one := one) (show k < 120 by omega) ha hb hn (G := fun m va vb z => fX4_include m (nI k) (va - vb) 1 z) (F := fun p q => p - q) (C := fun p q => p - q) (by
      intro rec m x7 va vb z
      rw [hs1]
      unfold fX4_ends_81
      rw [if_neg (by decide), if_neg (by decide), if_neg (by decide), if_neg (by decide), if_neg (by decide), if_pos rfl])
    (gr _ _ (by rw [pz_sI2, ← a1]; omega) (by rw [pz_sI2, ← b1]; omega)) (gr _ _ (by rw [pz_sI2, ← a2]; omega) (by rw [pz_sI2, ← b1]; omega)) (gr _ _ (by rw [pz_sI2, ← a1]; omega) (by rw [pz_sI2, ← b2]; omega)) (gr _ _ (by rw [pz_sI2, ← a2]; omega) (by rw [pz_sI2, ← b2]; omega))
  obtain ⟨m, hm⟩ : ∃ m, n - 4 = m + 1 := ⟨n - 5, by omega⟩
  rw [hm, hs1, en_tail (by decide)] at e1
  rw [pz_sI2, ← a1, ← a2, ← b1, ← b2] at e3 e4
  have el : (w.2 11 a - w.2 12 b).toInt = (w.2 11 a).toInt - (w.2 12 b).toInt := aL_sub (by omega) (by omega)
  have eh : (w.2 12 a - w.2 11 b).toInt = (w.2 12 a).toInt - (w.2 11 b).toInt := aL_sub (by omega) (by omega)
  obtain ⟨x', g1, g2, g3⟩ := both_span hk hs ho (w := w) (x := x) (x1 := ez_sI x 8 k 0) (fun c j h => by rw [pz_sI1, if_neg (fun q => h q.1 q.2)]) rfl e1 e2 (by simp [pz_sI1]) (w.2 11 a - w.2 12 b) (w.2 12 a - w.2 11 b) (by rw [e3, el]; omega) (by rw [e4, eh]; omega) (by omega)
  exact ⟨_, x', p_setSpan n w _ _ hk hs hw, g1, atW_sp _ _ _ _ _, g2, g3⟩
theorem s_neg (hk : k < 80) (hs : s ≤ 18) (ho : one.toInt = 2 ^ s) (hw : w.1 0 4 = nI s) (ha : a < k) (hn : 50 ≤ n) (sa : sp1 w x a) (hsx : x.1 3 k = 1) : ∃ w' x', fX2_setSpan n (nI k) (-(w.2 12 a)) (-(w.2 11 a)) w = some w' ∧ fX4_workOut_202 n (nI k) one (nI a) (nI a) (ez_sI x 8 k 0) = some x' ∧ atW k w w' ∧ atX k x x' ∧ spn w' x' k (4096 * 2 ^ s) := by
  obtain ⟨a1, a2, a3, a4, a5⟩ := sa
  have hs1 : (ez_sI x 8 k 0).1 3 k = 1 := by simp [pz_sI1, hsx]
  have gr : ∀ va vb : Int64, (-1073741824 ≤ va.toInt ∧ va.toInt ≤ 1073741824) → grow k (fun m va vb z => fX4_include m (nI k) (-va) 1 z) (fun p q => -p) (fun p q => -p) va vb := by
    intro va vb h1 m _ z
    have e : (-va).toInt = -va.toInt := aL_neg (by omega)
    obtain ⟨z', f1, f2, f3, f4⟩ := q_inc1 m (show k < 120 by omega) (a := -va) (by omega) z
    exact ⟨z', f1, f2, by rw [f3, e], by rw [f4, e]⟩
  obtain ⟨z, e1, e2, e3, e4⟩ := q_ends (x := ez_sI x 8 k 0) (one := one) (show k < 120 by omega) ha ha hn (G := fun m va vb z => fX4_include m (nI k) (-va) 1 z) (F := fun p q => -p) (C := fun p q => -p) (by
      intro rec m x7 va vb z
      rw [hs1]
      unfold fX4_ends_81
      rw [if_neg (by decide), if_neg (by decide), if_neg (by decide), if_neg (by decide), if_neg (by decide), if_neg (by decide)])
    (gr _ _ (by rw [pz_sI2, ← a1]; omega)) (gr _ _ (by rw [pz_sI2, ← a2]; omega)) (gr _ _ (by rw [pz_sI2, ← a1]; omega)) (gr _ _ (by rw [pz_sI2, ← a2]; omega))
  obtain ⟨m, hm⟩ : ∃ m, n - 4 = m + 1 := ⟨n - 5, by omega⟩
  rw [hm, hs1, en_tail (by decide)] at e1
  rw [pz_sI2, ← a1, ← a2] at e3 e4
  have el : (-(w.2 12 a)).toInt = -(w.2 12 a).toInt := aL_neg (by omega)
  have eh : (-(w.2 11 a)).toInt = -(w.2 11 a).toInt := aL_neg (by omega)
  obtain ⟨x', g1, g2, g3⟩ := both_span hk hs ho (w := w) (x := x) (x1 := ez_sI x 8 k 0) (fun c j h => by rw [pz_sI1, if_neg (fun q => h q.1 q.2)]) rfl e1 e2 (by simp [pz_sI1]) (-(w.2 12 a)) (-(w.2 11 a)) (by rw [e3, el]; omega) (by rw [e4, eh]; omega) (by omega)
  exact ⟨_, x', p_setSpan n w _ _ hk hs hw, g1, atW_sp _ _ _ _ _, g2, g3⟩
end SORTS
theorem dv_mono {a b d : Int} (hd : 0 < d) (h : a ≤ b) : a / d ≤ b / d := Int.ediv_le_ediv hd h
theorem dv_min {a b d : Int} (hd : 0 < d) : min a b / d = min (a / d) (b / d) := by
  rcases Int.le_total a b with h | h
  · have := dv_mono hd h
    rw [Int.min_eq_left h, Int.min_eq_left this]
  · have := dv_mono hd h
    rw [Int.min_eq_right h, Int.min_eq_right this]
theorem dv_max {a b d : Int} (hd : 0 < d) : -((-(max a b)) / d) = max (-((-a) / d)) (-((-b) / d)) := by
  rcases Int.le_total a b with h | h
  · have := dv_mono hd (show -b ≤ -a by omega)
    rw [Int.max_eq_right h, Int.max_eq_right (by omega)]
  · have := dv_mono hd (show -a ≤ -b by omega)
    rw [Int.max_eq_left h, Int.max_eq_left (by omega)]
theorem dv_le (a : Int) {d : Int} (hd : 0 < d) : a / d ≤ -((-a) / d) := by
  have := flo_neg_le a d (by omega)
  rw [flo_pos hd, flo_pos hd] at this
  omega
theorem dv_bd (a : Int) {d : Int} (hd : 0 < d) : (a / d).natAbs ≤ a.natAbs + 1 := by
  have := flo_bd a d (by omega)
  rw [flo_pos hd] at this
  exact this
theorem mm4 {a b c d : Int} (ha : a ≤ 4611686018427387904) (hb : b ≤ 4611686018427387904) (hc : c ≤ 4611686018427387904) (hd : d ≤ 4611686018427387904) : min d (min b (min c (min a 4611686018427387904))) = min (min a b) (min c d) := by omega
theorem MM4 {a b c d : Int} (ha : -4611686018427387904 ≤ a) (hb : -4611686018427387904 ≤ b) (hc : -4611686018427387904 ≤ c) (hd : -4611686018427387904 ≤ d) : max d (max b (max c (max a (-4611686018427387904)))) = max (max a b) (max c d) := by omega
theorem mM4 {a b c d a' b' c' d' : Int} (h : a ≤ a') : min (min a b) (min c d) ≤ max (max a' b') (max c' d') := by omega
section SORTS2
variable {k s a b n : Nat} {one : Int64} {w x : Wd}
theorem s_mul (hk : k < 80) (hs : s ≤ 18) (ho : one.toInt = 2 ^ s) (hw : w.1 0 4 = nI s) (ha : a < k) (hb : b < k) (hn : 50 ≤ n) (sa : sp1 w x a) (sb : sp1 w x b) (hsx : x.1 3 k = 4) : ∃ w' x', fX2_multiply n (nI k) (nI a) (nI b) w = some w' ∧ fX4_workOut_202 n (nI k) one (nI a) (nI b) (ez_sI x 8 k 0) = some x' ∧ atW k w w' ∧ atX k x x' ∧ spn w' x' k (4096 * 2 ^ s) := by
  obtain ⟨a1, a2, a3, a4, a5⟩ := sa
  obtain ⟨b1, b2, b3, b4, b5⟩ := sb
  obtain ⟨p1, p2⟩ := pow_le18 hs
  have hp : (0 : Int) < 2 ^ s := by omega
  have hs1 : (ez_sI x 8 k 0).1 3 k = 4 := by simp [pz_sI1, hsx]
  have gr : ∀ va vb : Int64, (-1073741824 ≤ va.toInt ∧ va.toInt ≤ 1073741824) → (-1073741824 ≤ vb.toInt ∧ vb.toInt ≤ 1073741824) → grow k (fun m va vb z => fX4_include m (nI k) (va * vb) one z) (fun p q => p * q / 2 ^ s) (fun p q => -((-(p * q)) / 2 ^ s)) va vb := by
    intro va vb h1 h2 m _ z
    have hb := mul_bd h1 h2
    have e : (va * vb).toInt = va.toInt * vb.toInt := aL_mul (by omega) (by omega)
    obtain ⟨z', f1, f2, f3, f4⟩ := q_inc m (show k < 120 by omega) (a := va * vb) (b := one) (by omega) (by omega) z
    exact ⟨z', f1, f2, by rw [f3, e, ho, flo_pos hp], by rw [f4, e, ho, flo_pos hp]⟩
  obtain ⟨z, e1, e2, e3, e4⟩ := q_ends (x := ez_sI x 8 k 0) (one := one) (show k < 120 by omega) ha hb hn (G := fun m va vb z => fX4_include m (nI k) (va * vb) one z) (F := fun p q => p * q / 2 ^ s) (C := fun p q => -((-(p * q)) / 2 ^ s)) (by
      intro rec m x7 va vb z
      rw [hs1]
      unfold fX4_ends_81
      rw [if_neg (by decide), if_pos rfl])
    (gr _ _ (by rw [pz_sI2, ← a1]; omega) (by rw [pz_sI2, ← b1]; omega)) (gr _ _ (by rw [pz_sI2, ← a2]; omega) (by rw [pz_sI2, ← b1]; omega)) (gr _ _ (by rw [pz_sI2, ← a1]; omega) (by rw [pz_sI2, ← b2]; omega)) (gr _ _ (by rw [pz_sI2, ← a2]; omega) (by rw [pz_sI2, ← b2]; omega))
  obtain ⟨m, hm⟩ : ∃ m, n - 4 = m + 1 := ⟨n - 5, by omega⟩
  rw [hm, hs1, en_tail (by decide)] at e1
  rw [pz_sI2, ← a1, ← a2, ← b1, ← b2] at e3 e4
  have B1 := mul_bd (a := (w.2 11 a).toInt) (b := (w.2 11 b).toInt) (by omega) (by omega)
  have B2 := mul_bd (a := (w.2 11 a).toInt) (b := (w.2 12 b).toInt) (by omega) (by omega)
  have B3 := mul_bd (a := (w.2 12 a).toInt) (b := (w.2 11 b).toInt) (by omega) (by omega)
  have B4 := mul_bd (a := (w.2 12 a).toInt) (b := (w.2 12 b).toInt) (by omega) (by omega)
  have m1 : (w.2 11 a * w.2 11 b).toInt = (w.2 11 a).toInt * (w.2 11 b).toInt := aL_mul (by omega) (by omega)
  have m2 : (w.2 11 a * w.2 12 b).toInt = (w.2 11 a).toInt * (w.2 12 b).toInt := aL_mul (by omega) (by omega)
  have m3 : (w.2 12 a * w.2 11 b).toInt = (w.2 12 a).toInt * (w.2 11 b).toInt := aL_mul (by omega) (by omega)
  have m4 : (w.2 12 a * w.2 12 b).toInt = (w.2 12 a).toInt * (w.2 12 b).toInt := aL_mul (by omega) (by omega)
  generalize (w.2 11 a).toInt * (w.2 11 b).toInt = P1 at *
  generalize (w.2 11 a).toInt * (w.2 12 b).toInt = P2 at *
  generalize (w.2 12 a).toInt * (w.2 11 b).toInt = P3 at *
  generalize (w.2 12 a).toInt * (w.2 12 b).toInt = P4 at *
  obtain ⟨n1, u1, v1⟩ := p_min n (w.2 11 a * w.2 11 b) (w.2 11 a * w.2 12 b)
  obtain ⟨n2, u2, v2⟩ := p_min n (w.2 12 a * w.2 11 b) (w.2 12 a * w.2 12 b)
  obtain ⟨n3, u3, v3⟩ := p_min n n1 n2
  obtain ⟨n4, u4, v4⟩ := p_max n (w.2 11 a * w.2 11 b) (w.2 11 a * w.2 12 b)
  obtain ⟨n5, u5, v5⟩ := p_max n (w.2 12 a * w.2 11 b) (w.2 12 a * w.2 12 b)
  obtain ⟨n6, u6, v6⟩ := p_max n n4 n5
  rw [m1, m2] at v1 v4
  rw [m3, m4] at v2 v5
  rw [v1, v2] at v3
  rw [v4, v5] at v6
  obtain ⟨lo, hi, r1, r2, r3⟩ := p_sq n w n3 n6 hk hs hw (by omega)
  have d1 := dv_bd P1 hp
  have d2 := dv_bd P2 hp
  have d3 := dv_bd P3 hp
  have d4 := dv_bd P4 hp
  have d5 := dv_bd (-P1) hp
  have d6 := dv_bd (-P2) hp
  have d7 := dv_bd (-P3) hp
  have d8 := dv_bd (-P4) hp
  have c1 := dv_le P1 hp
  have r1' : lo.toInt = min (min (P1 / 2 ^ s) (P2 / 2 ^ s)) (min (P3 / 2 ^ s) (P4 / 2 ^ s)) := by rw [r1, v3, dv_min hp, dv_min hp, dv_min hp]
  have r2' : hi.toInt = max (max (-((-P1) / 2 ^ s)) (-((-P2) / 2 ^ s))) (max (-((-P3) / 2 ^ s)) (-((-P4) / 2 ^ s))) := by rw [r2, v6, dv_max hp, dv_max hp, dv_max hp]
  have q1 : (z.2 9 k).toInt = lo.toInt := by
    rw [e3, r1']
    exact mm4 (by clear d2 d3 d4 d5 d6 d7 d8 e3 e4 r1' r2'; omega) (by clear d1 d3 d4 d5 d6 d7 d8 e3 e4 r1' r2'; omega) (by clear d1 d2 d4 d5 d6 d7 d8 e3 e4 r1' r2'; omega) (by clear d1 d2 d3 d5 d6 d7 d8 e3 e4 r1' r2'; omega)
  have q2 : (z.2 10 k).toInt = hi.toInt := by
    rw [e4, r2']
    exact MM4 (by clear d1 d2 d3 d4 d6 d7 d8 e3 e4 r1' r2'; omega) (by clear d1 d2 d3 d4 d5 d7 d8 e3 e4 r1' r2'; omega) (by clear d1 d2 d3 d4 d5 d6 d8 e3 e4 r1' r2'; omega) (by clear d1 d2 d3 d4 d5 d6 d7 e3 e4 r1' r2'; omega)
  obtain ⟨x', g1, g2, g3⟩ := both_span hk hs ho (w := w) (x := x) (x1 := ez_sI x 8 k 0) (fun c j h => by rw [pz_sI1, if_neg (fun q => h q.1 q.2)]) rfl e1 e2 (by simp [pz_sI1]) lo hi q1 q2 (by rw [r1', r2']; exact mM4 c1)
  refine ⟨_, x', ?_, g1, atW_sp _ _ _ _ _, g2, g3⟩
  unfold fX2_multiply
  rw [p_low n w (by omega), p_low n w (by omega), p_high n w (by omega), p_high n w (by omega)]
  simp only [Option.bind_some]
  rw [u1, u2, u4, u5]
  simp only [Option.bind_some]
  rw [u3, u6]
  simp only [Option.bind_some]
  rw [r3]
  rfl
end SORTS2
