/-! quotients, squares, roots -/
theorem mm4' {a b c d : Int} (ha : a ≤ 4611686018427387904) (hb : b ≤ 4611686018427387904) (hc : c ≤ 4611686018427387904) (hd : d ≤ 4611686018427387904) : min d (min b (min c (min a 4611686018427387904))) = min (min a c) (min b d) := by omega
theorem MM4' {a b c d : Int} (ha : -4611686018427387904 ≤ a) (hb : -4611686018427387904 ≤ b) (hc : -4611686018427387904 ≤ c) (hd : -4611686018427387904 ≤ d) : max d (max b (max c (max a (-4611686018427387904)))) = max (max a c) (max b d) := by omega
theorem mM4' {a b c d a' b' c' d' : Int} (h : a ≤ a') : min (min a c) (min b d) ≤ max (max a' c') (max b' d') := by omega
theorem one_mul' {s : Nat} (hs : s ≤ 18) {one va : Int64} (ho : one.toInt = 2 ^ s) (h : -1073741824 ≤ va.toInt ∧ va.toInt ≤ 1073741824) : (va * one).toInt = va.toInt * 2 ^ s ∧ -562949953421312 ≤ va.toInt * 2 ^ s ∧ va.toInt * 2 ^ s ≤ 562949953421312 := by
  obtain ⟨h1, h2⟩ := pow_le18 hs
  have hb : -562949953421312 ≤ va.toInt * 2 ^ s ∧ va.toInt * 2 ^ s ≤ 562949953421312 := by
    constructor
    · have a1 := Int.mul_le_mul_of_nonneg_right h.1 (show 0 ≤ (2 : Int) ^ s by omega)
      omega
    · have a1 := Int.mul_le_mul_of_nonneg_right h.2 (show 0 ≤ (2 : Int) ^ s by omega)
      omega
  refine ⟨?_, hb⟩
  rw [aL_mul] <;> rw [ho] <;> omega
theorem fl_bd' {p q : Int} (hq : ¬ q = 0) (hp : -562949953421312 ≤ p ∧ p ≤ 562949953421312) : -4611686018427387904 ≤ flo p q ∧ flo p q ≤ 4611686018427387904 ∧ -4611686018427387904 ≤ -(flo (-p) q) ∧ -(flo (-p) q) ≤ 4611686018427387904 ∧ flo p q ≤ -(flo (-p) q) := by
  have h1 := flo_bd p q hq
  have h2 := flo_bd (-p) q hq
  have h3 := flo_neg_le p q hq
  omega
section SORTS3
variable {k s a b n : Nat} {one : Int64} {w x : Wd}
theorem s_div (hk : k < 80) (hs : s ≤ 18) (ho : one.toInt = 2 ^ s) (hw : w.1 0 4 = nI s) (ha : a < k) (hb : b < k) (hn : 50 ≤ n) (sa : sp1 w x a) (sb : sp1 w x b) (hsx : x.1 3 k = 5) (hz : 0 < (w.2 11 b).toInt ∨ (w.2 12 b).toInt < 0) : ∃ w' x', fX2_divide_27 n (nI k) (nI a) (nI b) w = some w' ∧ fX4_workOut_202 n (nI k) one (nI a) (nI b) (ez_sI x 8 k 0) = some x' ∧ atW k w w' ∧ atX k x x' ∧ spn w' x' k (4096 * 2 ^ s) := by
  obtain ⟨a1, a2, a3, a4, a5⟩ := sa
  obtain ⟨b1, b2, b3, b4, b5⟩ := sb
  have z1 : ¬ (w.2 11 b).toInt = 0 := by omega
  have z2 : ¬ (w.2 12 b).toInt = 0 := by omega
  have hs1 : (ez_sI x 8 k 0).1 3 k = 5 := by simp [pz_sI1, hsx]
  have gr : ∀ va vb : Int64, (-1073741824 ≤ va.toInt ∧ va.toInt ≤ 1073741824) → ¬ vb.toInt = 0 → grow k (fun m va vb z => fX4_include m (nI k) (va * one) vb z) (fun p q => flo (p * 2 ^ s) q) (fun p q => -(flo (-(p * 2 ^ s)) q)) va vb := by
    intro va vb h1 h2 m _ z
    obtain ⟨e, h3⟩ := one_mul' hs ho h1
    obtain ⟨z', f1, f2, f3, f4⟩ := q_inc m (show k < 120 by omega) (a := va * one) (b := vb) h2 (by omega) z
    exact ⟨z', f1, f2, by rw [f3, e], by rw [f4, e]⟩
  obtain ⟨z, e1, e2, e3, e4⟩ := q_ends (x := ez_sI x 8 k 0) (one := one) (show k < 120 by omega) ha hb hn (G := fun m va vb z => fX4_include m (nI k) (va * one) vb z) (F := fun p q => flo (p * 2 ^ s) q) (C := fun p q => -(flo (-(p * 2 ^ s)) q)) (by
      intro rec m x7 va vb z
      rw [hs1]
      unfold fX4_ends_81
      rw [if_neg (by decide), if_neg (by decide), if_pos rfl])
    (gr _ _ (by rw [pz_sI2, ← a1]; omega) (by rw [pz_sI2, ← b1]; exact z1)) (gr _ _ (by rw [pz_sI2, ← a2]; omega) (by rw [pz_sI2, ← b1]; exact z1)) (gr _ _ (by rw [pz_sI2, ← a1]; omega) (by rw [pz_sI2, ← b2]; exact z2)) (gr _ _ (by rw [pz_sI2, ← a2]; omega) (by rw [pz_sI2, ← b2]; exact z2))
  obtain ⟨m, hm⟩ : ∃ m, n - 4 = m + 1 := ⟨n - 5, by omega⟩
  rw [hm, hs1, en_tail (by decide)] at e1
  rw [pz_sI2, ← a1, ← a2, ← b1, ← b2] at e3 e4
  obtain ⟨o1, o2⟩ := one_mul' hs ho (va := w.2 11 a) (by omega)
  obtain ⟨o3, o4⟩ := one_mul' hs ho (va := w.2 12 a) (by omega)
  obtain ⟨A1, A2, A3, A4, A5⟩ := fl_bd' z1 o2
  obtain ⟨B1, B2, B3, B4, B5⟩ := fl_bd' z1 o4
  obtain ⟨C1, C2, C3, C4, C5⟩ := fl_bd' z2 o2
  obtain ⟨D1, D2, D3, D4, D5⟩ := fl_bd' z2 o4
  obtain ⟨q1, u1, v1⟩ := p_least n w (d := w.2 11 b) hs hw (show a < 80 by omega) (by omega) (by omega) z1
  obtain ⟨q2, u2, v2⟩ := p_least n w (d := w.2 12 b) hs hw (show a < 80 by omega) (by omega) (by omega) z2
  obtain ⟨q3, u3, v3⟩ := p_min n q1 q2
  obtain ⟨q4, u4, v4⟩ := p_great n w (d := w.2 11 b) hs hw (show a < 80 by omega) (by omega) (by omega) z1
  obtain ⟨q5, u5, v5⟩ := p_great n w (d := w.2 12 b) hs hw (show a < 80 by omega) (by omega) (by omega) z2
  obtain ⟨q6, u6, v6⟩ := p_max n q4 q5
  rw [v1, v2] at v3
  rw [v4, v5] at v6
  have r1 : (z.2 9 k).toInt = q3.toInt := by
    rw [e3, v3]
    exact mm4' A2 C2 B2 D2
  have r2 : (z.2 10 k).toInt = q6.toInt := by
    rw [e4, v6]
    exact MM4' A3 C3 B3 D3
  obtain ⟨x', g1, g2, g3⟩ := both_span hk hs ho (w := w) (x := x) (x1 := ez_sI x 8 k 0) (fun c j h => by rw [pz_sI1, if_neg (fun q => h q.1 q.2)]) rfl e1 e2 (by simp [pz_sI1]) q3 q6 r1 r2 (by rw [v3, v6]; exact mM4' A5)
  refine ⟨_, x', ?_, g1, atW_sp _ _ _ _ _, g2, g3⟩
  unfold fX2_divide_27
  rw [p_low n w (by omega), p_high n w (by omega)]
  simp only [Option.bind_some]
  rw [u1, u4]
  simp only [Option.bind_some]
  rw [u2, u5]
  simp only [Option.bind_some]
  rw [u3, u6]
  simp only [Option.bind_some]
  rw [p_setSpan n w _ _ hk hs hw]
  rfl
theorem en_tail7 (ha : a < 120) (hk : k < 120) (m : Nat) (z : Wd) : fX4_ends_29 (m + 1) (nI k) (nI a) (nI b) one 7 4 z = some (if (z.2 9 a).toInt ≤ 0 ∧ 0 ≤ (z.2 10 a).toInt then ez_sL z 9 k 0 else z) := by
  rw [fX4_ends_29, if_pos (by decide), if_pos rfl, pz_ldL ha (by decide), Option.bind_some]
  by_cases h1 : (z.2 9 a).toInt ≤ 0
  · rw [if_neg (by rw [lg_cmp_gt, aL_lt, i0]; omega), pz_ldL ha (by decide), Option.bind_some]
    by_cases h2 : 0 ≤ (z.2 10 a).toInt
    · rw [if_neg (by rw [lg_cmp_lt, aL_lt, i0]; omega), pz_stL hk (by decide), if_pos ⟨h1, h2⟩]
      rfl
    · rw [if_pos (by rw [lg_cmp_lt, aL_lt, i0]; omega), if_neg (fun q => h2 q.2)]
  · rw [if_pos (by rw [lg_cmp_gt, aL_lt, i0]; omega), if_neg (fun q => h1 q.1)]
theorem s_sqr (hk : k < 80) (hs : s ≤ 18) (ho : one.toInt = 2 ^ s) (hw : w.1 0 4 = nI s) (ha : a < k) (hn : 50 ≤ n) (sa : sp1 w x a) (hsx : x.1 3 k = 7) : ∃ w' x', fX2_square n (nI k) (nI a) w = some w' ∧ fX4_workOut_202 n (nI k) one (nI a) (nI a) (ez_sI x 8 k 0) = some x' ∧ atW k w w' ∧ atX k x x' ∧ spn w' x' k (4096 * 2 ^ s) := by
  obtain ⟨a1, a2, a3, a4, a5⟩ := sa
  obtain ⟨p1, p2⟩ := pow_le18 hs
  have hp : (0 : Int) < 2 ^ s := by omega
  have hs1 : (ez_sI x 8 k 0).1 3 k = 7 := by simp [pz_sI1, hsx]
  have gr : ∀ va vb : Int64, (-1073741824 ≤ va.toInt ∧ va.toInt ≤ 1073741824) → grow k (fun m va vb z => fX4_include m (nI k) (va * va) one z) (fun p q => p * p / 2 ^ s) (fun p q => -((-(p * p)) / 2 ^ s)) va vb := by
    intro va vb h1 m _ z
    have hb := mul_bd h1 h1
    have e : (va * va).toInt = va.toInt * va.toInt := aL_mul (by omega) (by omega)
    obtain ⟨z', f1, f2, f3, f4⟩ := q_inc m (show k < 120 by omega) (a := va * va) (b := one) (by omega) (by omega) z
    exact ⟨z', f1, f2, by rw [f3, e, ho, flo_pos hp], by rw [f4, e, ho, flo_pos hp]⟩
  obtain ⟨z, e1, e2, e3, e4⟩ := q_ends (x := ez_sI x 8 k 0) (one := one) (show k < 120 by omega) ha ha hn (G := fun m va vb z => fX4_include m (nI k) (va * va) one z) (F := fun p q => p * p / 2 ^ s) (C := fun p q => -((-(p * p)) / 2 ^ s)) (by
      intro rec m x7 va vb z
      rw [hs1]
      unfold fX4_ends_81
      rw [if_pos rfl])
    (gr _ _ (by rw [pz_sI2, ← a1]; omega)) (gr _ _ (by rw [pz_sI2, ← a2]; omega)) (gr _ _ (by rw [pz_sI2, ← a1]; omega)) (gr _ _ (by rw [pz_sI2, ← a2]; omega))
  obtain ⟨m, hm⟩ : ∃ m, n - 4 = m + 1 := ⟨n - 5, by omega⟩
  rw [hm, hs1, en_tail7 (by omega) (by omega)] at e1
  have zl : z.2 9 a = w.2 11 a := by rw [e2.2 9 a (fun _ => by omega), pz_sI2, a1]
  have zh : z.2 10 a = w.2 12 a := by rw [e2.2 10 a (fun _ => by omega), pz_sI2, a2]
  rw [zl, zh] at e1
  rw [pz_sI2, ← a1, ← a2] at e3 e4
  have B1 := mul_bd (a := (w.2 11 a).toInt) (b := (w.2 11 a).toInt) (by omega) (by omega)
  have B2 := mul_bd (a := (w.2 12 a).toInt) (b := (w.2 12 a).toInt) (by omega) (by omega)
  have m1 : (w.2 11 a * w.2 11 a).toInt = (w.2 11 a).toInt * (w.2 11 a).toInt := aL_mul (by omega) (by omega)
  have m2 : (w.2 12 a * w.2 12 a).toInt = (w.2 12 a).toInt * (w.2 12 a).toInt := aL_mul (by omega) (by omega)
  have N1 : 0 ≤ (w.2 11 a).toInt * (w.2 11 a).toInt := by
    rcases Int.le_total 0 (w.2 11 a).toInt with h | h
    · exact Int.mul_nonneg h h
    · exact Int.mul_nonneg_of_nonpos_of_nonpos h h
  generalize (w.2 11 a).toInt * (w.2 11 a).toInt = P1 at *
  generalize (w.2 12 a).toInt * (w.2 12 a).toInt = P2 at *
  obtain ⟨n1, u1, v1⟩ := p_min n (w.2 11 a * w.2 11 a) (w.2 12 a * w.2 12 a)
  obtain ⟨n2, u2, v2⟩ := p_max n (w.2 11 a * w.2 11 a) (w.2 12 a * w.2 12 a)
  rw [m1, m2] at v1 v2
  have d1 := dv_bd P1 hp
  have d2 := dv_bd P2 hp
  have d5 := dv_bd (-P1) hp
  have d6 := dv_bd (-P2) hp
  have c1 := dv_le P1 hp
  have f1 : (z.2 9 k).toInt = min (P1 / 2 ^ s) (P2 / 2 ^ s) := by
    rw [e3]
    clear e3 e4 d5 d6
    omega
  have f2 : (z.2 10 k).toInt = max (-((-P1) / 2 ^ s)) (-((-P2) / 2 ^ s)) := by
    rw [e4]
    clear e3 e4 d1 d2 f1
    omega
  have unf : fX2_square n (nI k) (nI a) w = (if 0 < (w.2 11 a).toInt ∨ (w.2 12 a).toInt < 0 then fX2_square_50 n (nI k) (w.2 11 a * w.2 11 a) (w.2 12 a * w.2 12 a) 0 w else fX2_square_50 n (nI k) (w.2 11 a * w.2 11 a) (w.2 12 a * w.2 12 a) 1 w) := by
    unfold fX2_square
    rw [p_low n w (by omega), p_high n w (by omega)]
    simp only [Option.bind_some]
    by_cases h1 : 0 < (w.2 11 a).toInt
    · rw [if_pos (by rw [lg_cmp_gt, aL_lt, i0]; exact h1), if_pos (Or.inl h1)]
    · rw [if_neg (by rw [lg_cmp_gt, aL_lt, i0]; exact h1)]
      by_cases h2 : (w.2 12 a).toInt < 0
      · rw [if_pos (by rw [lg_cmp_lt, aL_lt, i0]; exact h2), if_pos (Or.inr h2)]
      · rw [if_neg (by rw [lg_cmp_lt, aL_lt, i0]; exact h2), if_neg (by omega)]
  by_cases hz : 0 < (w.2 11 a).toInt ∨ (w.2 12 a).toInt < 0
  · rw [if_neg (by omega)] at e1
    obtain ⟨lo, hi, r1, r2, r3⟩ := p_sq n w n1 n2 hk hs hw (by omega)
    have r1' : lo.toInt = min (P1 / 2 ^ s) (P2 / 2 ^ s) := by rw [r1, v1, dv_min hp]
    have r2' : hi.toInt = max (-((-P1) / 2 ^ s)) (-((-P2) / 2 ^ s)) := by rw [r2, v2, dv_max hp]
    obtain ⟨x', g1, g2, g3⟩ := both_span hk hs ho (w := w) (x := x) (x1 := ez_sI x 8 k 0) (fun c j h => by rw [pz_sI1, if_neg (fun q => h q.1 q.2)]) rfl e1 e2 (by simp [pz_sI1]) lo hi (by rw [f1, r1']) (by rw [f2, r2']) (by rw [r1', r2']; clear r1' r2' f1 f2 e3 e4; omega)
    refine ⟨_, x', ?_, g1, atW_sp _ _ _ _ _, g2, g3⟩
    rw [unf, if_pos hz]
    unfold fX2_square_50
    rw [if_pos rfl, u1, u2]
    simp only [Option.bind_some]
    rw [r3]
    rfl
  · rw [if_pos (by omega)] at e1
    obtain ⟨lo, hi, r1, r2, r3⟩ := p_sq n w 0 n2 hk hs hw (by omega)
    have r1' : lo.toInt = 0 := by rw [r1, i0, Int.zero_ediv]
    have r2' : hi.toInt = max (-((-P1) / 2 ^ s)) (-((-P2) / 2 ^ s)) := by rw [r2, v2, dv_max hp]
    have hnn : 0 ≤ P1 / 2 ^ s := Int.ediv_nonneg N1 (by omega)
    have e2' : kX k (ez_sI x 8 k 0) (ez_sL z 9 k 0) := ⟨e2.1, fun c j h => by rw [pz_sL2, if_neg (fun q => h (Or.inl q.1) q.2)]; exact e2.2 c j h⟩
    obtain ⟨x', g1, g2, g3⟩ := both_span hk hs ho (w := w) (x := x) (x1 := ez_sI x 8 k 0) (fun c j h => by rw [pz_sI1, if_neg (fun q => h q.1 q.2)]) rfl e1 e2' (by simp [pz_sI1]) lo hi (by rw [r1', pz_sL2, if_pos ⟨rfl, rfl⟩]; rfl) (by rw [pz_sL2, if_neg (by omega), f2, r2']) (by rw [r1', r2']; clear r1' r2' f1 f2 e3 e4; omega)
    refine ⟨_, x', ?_, g1, atW_sp _ _ _ _ _, g2, g3⟩
    rw [unf, if_neg hz]
    unfold fX2_square_50
    rw [if_neg (by decide), u2]
    simp only [Option.bind_some]
    rw [r3]
    rfl
theorem s_root (hk : k < 80) (hs : s ≤ 18) (ho : one.toInt = 2 ^ s) (hw : w.1 0 4 = nI s) (ha : a < k) (hn : 50 ≤ n) (sa : sp1 w x a) (hsx : x.1 3 k = 6) (hz : 0 ≤ (w.2 11 a).toInt) : ∃ w' x', fX2_takeRoot n (nI k) (nI a) w = some w' ∧ fX4_workOut_202 n (nI k) one (nI a) (nI a) (ez_sI x 8 k 0) = some x' ∧ atW k w w' ∧ atX k x x' ∧ spn w' x' k (4096 * 2 ^ s) := by
  obtain ⟨a1, a2, a3, a4, a5⟩ := sa
  obtain ⟨p1, p2⟩ := pow_le18 hs
  have hp : (0 : Int) < 2 ^ s := by omega
  have hs1 : (ez_sI x 8 k 0).1 3 k = 6 := by simp [pz_sI1, hsx]
  have nn : ∀ v : Int, 0 ≤ v → 0 ≤ v * 2 ^ s := fun v h => Int.mul_nonneg h (by omega)
  have gr : ∀ va vb : Int64, (-1073741824 ≤ va.toInt ∧ va.toInt ≤ 1073741824) → 0 ≤ va.toInt → grow k (fun m va vb z => (fX4_rootOf m (va * one)).bind fun z13 => (fX4_include m (nI k) z13 1 z).bind fun z15 => if 0 ≤ lg_cmp (z13 * z13) (va * one) then fX4_include m (nI k) z13 1 z15 else fX4_include m (nI k) (z13 + 1) 1 z15) (fun p q => rtF (p * 2 ^ s)) (fun p q => rtC (p * 2 ^ s)) va vb := by
    intro va vb h1 h0 m hm z
    obtain ⟨e, h3⟩ := one_mul' hs ho h1
    have h4 := nn _ h0
    obtain ⟨r, f1, f2⟩ := q_fr m (by omega) (va * one)
    rw [e] at f2
    obtain ⟨R1, R2, R3, R4⟩ := rtF_spec (a := va.toInt * 2 ^ s) h4 (by omega)
    have er : (r * r).toInt = r.toInt * r.toInt := by
      have := Int.mul_le_mul (show r.toInt ≤ 2147483648 by omega) (show r.toInt ≤ 2147483648 by omega) (by omega) (by omega)
      have := Int.mul_nonneg (show 0 ≤ r.toInt by omega) (show 0 ≤ r.toInt by omega)
      exact aL_mul (by omega) (by omega)
    obtain ⟨z1, g1, g2, g3, g4⟩ := q_inc1 m (show k < 120 by omega) (a := r) (by omega) z
    show ∃ z', ((fX4_rootOf m (va * one)).bind fun z13 => (fX4_include m (nI k) z13 1 z).bind fun z15 => if 0 ≤ lg_cmp (z13 * z13) (va * one) then fX4_include m (nI k) z13 1 z15 else fX4_include m (nI k) (z13 + 1) 1 z15) = some z' ∧ _
    rw [f1, Option.bind_some, g1, Option.bind_some]
    by_cases hc : rtF (va.toInt * 2 ^ s) * rtF (va.toInt * 2 ^ s) < va.toInt * 2 ^ s
    · rw [if_neg (by rw [lg_cmp_ge, aL_le, er, e, f2]; omega)]
      have e1 : (r + 1).toInt = r.toInt + 1 := by rw [aL_add] <;> rw [i1] <;> omega
      obtain ⟨z2, k1, k2, k3, k4⟩ := q_inc1 m (show k < 120 by omega) (a := r + 1) (by omega) z1
      have ec : rtC (va.toInt * 2 ^ s) = rtF (va.toInt * 2 ^ s) + 1 := by unfold rtC; rw [if_pos hc]
      refine ⟨z2, k1, g2.tr k2, ?_, ?_⟩
      · rw [k3, g3, e1, f2]
        show _ = min (rtF (va.toInt * 2 ^ s)) _
        omega
      · rw [k4, g4, e1, f2]
        show _ = max (rtC (va.toInt * 2 ^ s)) _
        rw [ec]; omega
    · rw [if_pos (by rw [lg_cmp_ge, aL_le, er, e, f2]; omega)]
      obtain ⟨z2, k1, k2, k3, k4⟩ := q_inc1 m (show k < 120 by omega) (a := r) (by omega) z1
      have ec : rtC (va.toInt * 2 ^ s) = rtF (va.toInt * 2 ^ s) := by unfold rtC; rw [if_neg hc]
      refine ⟨z2, k1, g2.tr k2, ?_, ?_⟩
      · rw [k3, g3, f2]
        show _ = min (rtF (va.toInt * 2 ^ s)) _
        omega
      · rw [k4, g4, f2]
        show _ = max (rtC (va.toInt * 2 ^ s)) _
        rw [ec]; omega
  obtain ⟨z, e1, e2, e3, e4⟩ := q_ends (x := ez_sI x 8 k 0) (one := one) (show k < 120 by omega) ha ha hn (G := fun m va vb z => (fX4_rootOf m (va * one)).bind fun z13 => (fX4_include m (nI k) z13 1 z).bind fun z15 => if 0 ≤ lg_cmp (z13 * z13) (va * one) then fX4_include m (nI k) z13 1 z15 else fX4_include m (nI k) (z13 + 1) 1 z15) (F := fun p q => rtF (p * 2 ^ s)) (C := fun p q => rtC (p * 2 ^ s)) (by
      intro rec m x7 va vb z
      rw [hs1]
      unfold fX4_ends_81
      rw [if_neg (by decide), if_neg (by decide), if_neg (by decide), if_pos rfl]
      cases fX4_rootOf m (va * one) with
      | none => rfl
      | some q =>
        simp only [Option.bind_some]
        cases fX4_include m (nI k) q 1 z with
        | none => rfl
        | some z1 =>
          simp only [Option.bind_some]
          by_cases hc : 0 ≤ lg_cmp (q * q) (va * one)
          · rw [if_pos hc, if_pos hc]
          · rw [if_neg hc, if_neg hc])
    (gr _ _ (by rw [pz_sI2, ← a1]; omega) (by rw [pz_sI2, ← a1]; omega)) (gr _ _ (by rw [pz_sI2, ← a2]; omega) (by rw [pz_sI2, ← a2]; omega)) (gr _ _ (by rw [pz_sI2, ← a1]; omega) (by rw [pz_sI2, ← a1]; omega)) (gr _ _ (by rw [pz_sI2, ← a2]; omega) (by rw [pz_sI2, ← a2]; omega))
  obtain ⟨m, hm⟩ : ∃ m, n - 4 = m + 1 := ⟨n - 5, by omega⟩
  rw [hm, hs1, en_tail (by decide)] at e1
  rw [pz_sI2, ← a1, ← a2] at e3 e4
  obtain ⟨o1, o2, o3⟩ := shl_int hs (a := w.2 11 a) (by omega)
  obtain ⟨o4, o5, o6⟩ := shl_int hs (a := w.2 12 a) (by omega)
  have k1 := nn (w.2 11 a).toInt hz
  have k2 := nn (w.2 12 a).toInt (by omega)
  have hmul : (w.2 11 a).toInt * 2 ^ s ≤ (w.2 12 a).toInt * 2 ^ s := Int.mul_le_mul_of_nonneg_right a3 (by omega)
  have hmono := rtF_mono k1 hmul (by omega)
  have hmonC := rtC_mono k1 hmul (by omega)
  have hFC := rtF_le_C ((w.2 11 a).toInt * 2 ^ s)
  obtain ⟨R1, R2, R3, R4⟩ := rtF_spec k2 (by omega)
  obtain ⟨Q1, Q2, Q3, Q4⟩ := rtF_spec k1 (by omega)
  obtain ⟨r1, u1, v1⟩ := p_fr n (by omega) (w.2 11 a <<< (Int32.toInt64 (nI s) &&& 63))
  obtain ⟨r2, u2, v2⟩ := p_fr n (by omega) (w.2 12 a <<< (Int32.toInt64 (nI s) &&& 63))
  rw [o1] at v1
  rw [o4] at v2
  have er : (r2 * r2).toInt = r2.toInt * r2.toInt := by
    have := Int.mul_le_mul (show r2.toInt ≤ 2147483648 by omega) (show r2.toInt ≤ 2147483648 by omega) (by omega) (by omega)
    have := Int.mul_nonneg (show 0 ≤ r2.toInt by omega) (show 0 ≤ r2.toInt by omega)
    exact aL_mul (by omega) (by omega)
  have f1 : (z.2 9 k).toInt = rtF ((w.2 11 a).toInt * 2 ^ s) := by rw [e3]; omega
  have hC4 : rtC ((w.2 12 a).toInt * 2 ^ s) ≤ rtF ((w.2 12 a).toInt * 2 ^ s) + 1 := by unfold rtC; split <;> omega
  have f2 : (z.2 10 k).toInt = rtC ((w.2 12 a).toInt * 2 ^ s) := by rw [e4]; omega
  unfold fX2_takeRoot
  rw [p_low n w (by omega), p_high n w (by omega), hw]
  simp only [Option.bind_some]
  rw [if_pos (by rw [lg_cmp_ge, aL_le, i0]; omega), if_pos (by rw [lg_cmp_ge, aL_le, i0]; omega), u1, u2]
  simp only [Option.bind_some]
  by_cases hc : rtF ((w.2 12 a).toInt * 2 ^ s) * rtF ((w.2 12 a).toInt * 2 ^ s) < (w.2 12 a).toInt * 2 ^ s
  · have ec : rtC ((w.2 12 a).toInt * 2 ^ s) = rtF ((w.2 12 a).toInt * 2 ^ s) + 1 := by unfold rtC; rw [if_pos hc]
    have e5 : (r2 + 1).toInt = r2.toInt + 1 := by rw [aL_add] <;> rw [i1] <;> omega
    rw [if_neg (by rw [lg_cmp_ge, aL_le, er, o4, v2]; omega)]
    obtain ⟨x', g1, g2, g3⟩ := both_span hk hs ho (w := w) (x := x) (x1 := ez_sI x 8 k 0) (fun c j h => by rw [pz_sI1, if_neg (fun q => h q.1 q.2)]) rfl e1 e2 (by simp [pz_sI1]) r1 (r2 + 1) (by rw [f1, v1]) (by rw [f2, e5, v2, ec]) (by rw [e5, v1, v2]; omega)
    exact ⟨_, x', by rw [p_setSpan n w _ _ hk hs hw]; rfl, g1, atW_sp _ _ _ _ _, g2, g3⟩
  · have ec : rtC ((w.2 12 a).toInt * 2 ^ s) = rtF ((w.2 12 a).toInt * 2 ^ s) := by unfold rtC; rw [if_neg hc]
    rw [if_pos (by rw [lg_cmp_ge, aL_le, er, o4, v2]; omega)]
    obtain ⟨x', g1, g2, g3⟩ := both_span hk hs ho (w := w) (x := x) (x1 := ez_sI x 8 k 0) (fun c j h => by rw [pz_sI1, if_neg (fun q => h q.1 q.2)]) rfl e1 e2 (by simp [pz_sI1]) r1 r2 (by rw [f1, v1]) (by rw [f2, v2, ec]) (by rw [v1, v2]; omega)
    exact ⟨_, x', by rw [p_setSpan n w _ _ hk hs hw]; rfl, g1, atW_sp _ _ _ _ _, g2, g3⟩
end SORTS3
