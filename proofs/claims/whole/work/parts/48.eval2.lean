/-! the class's and the reference's small steps, by their values -/
theorem i0 : (0 : Int64).toInt = 0 := rfl
theorem i1 : (1 : Int64).toInt = 1 := rfl
theorem p_min (n : Nat) (a b : Int64) : ∃ c, fJ9_minL n a b = some c ∧ c.toInt = min a.toInt b.toInt := by
  unfold fJ9_minL
  by_cases h : 0 < lg_cmp a b
  · rw [if_pos h]
    rw [lg_cmp_gt, aL_lt] at h
    exact ⟨_, rfl, by omega⟩
  · rw [if_neg h]
    rw [lg_cmp_gt, aL_lt] at h
    exact ⟨_, rfl, by omega⟩
theorem p_max (n : Nat) (a b : Int64) : ∃ c, fJ9_maxL n a b = some c ∧ c.toInt = max a.toInt b.toInt := by
  unfold fJ9_maxL
  by_cases h : lg_cmp a b < 0
  · rw [if_pos h]
    rw [lg_cmp_lt, aL_lt] at h
    exact ⟨_, rfl, by omega⟩
  · rw [if_neg h]
    rw [lg_cmp_lt, aL_lt] at h
    exact ⟨_, rfl, by omega⟩
theorem p_low (n : Nat) (w : Wd) {a : Nat} (h : a < 80) : fX2_lowOf n (nI a) w = some (w.2 11 a) := by
  unfold fX2_lowOf
  rw [p_has n h, pz_ldL h (by decide)]
  rfl
theorem p_high (n : Nat) (w : Wd) {a : Nat} (h : a < 80) : fX2_highOf n (nI a) w = some (w.2 12 a) := by
  unfold fX2_highOf
  rw [p_has n h, pz_ldL h (by decide)]
  rfl
theorem p_false (n : Nat) (w : Wd) {a : Nat} (h : a < 80) : fX2_isFalse n (nI a) w = some (if w.1 10 a = 1 then 1 else 0) := by
  unfold fX2_isFalse
  rw [p_has n h, pz_ldI h (by decide)]
  simp only [Option.bind_some, one0, if_false]
  split <;> rfl
theorem p_falseN (n : Nat) (w : Wd) : fX2_isFalse n (-1) w = some 0 := by
  unfold fX2_isFalse
  rw [p_hasN]
  rfl
theorem p_open (n : Nat) (w : Wd) {a : Nat} (h : a < 80) : fX2_isOpen n (nI a) w = some (if w.1 10 a = 2 then 1 else 0) := by
  unfold fX2_isOpen
  rw [p_has n h, pz_ldI h (by decide)]
  simp only [Option.bind_some, one0, if_false]
  split <;> rfl
theorem p_openN (n : Nat) (w : Wd) : fX2_isOpen n (-1) w = some 0 := by
  unfold fX2_isOpen
  rw [p_hasN]
  rfl
theorem p_span (n : Nat) (w : Wd) {a : Nat} (h : a < 80) : fX2_hasSpan n (nI a) w = some (if w.1 10 a = 0 then 1 else 0) := by
  unfold fX2_hasSpan
  rw [p_has n h, pz_ldI h (by decide)]
  simp only [Option.bind_some, one0, if_false]
  split <;> rfl
theorem p_setState (n : Nat) (w : Wd) {k : Nat} (v : Int32) (h : k < 80) : fX2_setState n (nI k) v w = some (ez_sI w 10 k v) := by
  unfold fX2_setState
  rw [p_has n h, pz_stI h (by decide)]
  rfl
def spW (w : Wd) (k : Nat) (st : Int32) (lo hi : Int64) : Wd := ez_sL (ez_sL (ez_sI w 10 k st) 11 k lo) 12 k hi
theorem lim_int {s : Nat} (hs : s ≤ 18) : ((4096 : Int64) <<< (Int32.toInt64 (nI s) &&& 63)).toInt = 4096 * 2 ^ s := by
  obtain ⟨h1, h2⟩ := pow_le18 hs
  rw [aL_shl _ (by omega)]
  have e : (4096 : Int64).toInt = 4096 := rfl
  rw [aL_mul] <;> rw [e, aL_two (by omega)] <;> omega
theorem p_setSpan (n : Nat) (w : Wd) {k s : Nat} (lo hi : Int64) (h : k < 80) (hs : s ≤ 18) (hw : w.1 0 4 = nI s) : fX2_setSpan n (nI k) lo hi w = some (spW w k (if 4096 * 2 ^ s < hi.toInt ∨ lo.toInt < -(4096 * 2 ^ s) then 2 else 0) lo hi) := by
  have hl := lim_int hs
  obtain ⟨h1, h2⟩ := pow_le18 hs
  have hm : (-((4096 : Int64) <<< (Int32.toInt64 (nI s) &&& 63))).toInt = -(4096 * 2 ^ s) := by
    rw [aL_neg (by rw [hl]; omega), hl]
  unfold fX2_setSpan
  rw [p_has n h, hw]
  simp only [Option.bind_some, one0, if_false]
  rw [pz_stI h (by decide), pz_stI h (by decide)]
  simp only [Option.bind_some]
  rw [pz_stL h (by decide), pz_stL h (by decide)]
  simp only [Option.bind_some]
  rw [pz_stL h (by decide), pz_stL h (by decide)]
  simp only [Option.bind_some]
  by_cases c1 : 4096 * 2 ^ s < hi.toInt
  · rw [if_pos (by rw [lg_cmp_gt, aL_lt, hl]; exact c1), if_pos (Or.inl c1)]
    rfl
  · rw [if_neg (by rw [lg_cmp_gt, aL_lt, hl]; exact c1)]
    by_cases c2 : lo.toInt < -(4096 * 2 ^ s)
    · rw [if_neg (by rw [lg_cmp_ge, aL_le, hm]; omega), if_pos (Or.inr c2)]
      rfl
    · rw [if_pos (by rw [lg_cmp_ge, aL_le, hm]; omega), if_neg (by omega)]
      rfl
theorem p_sq (n : Nat) (w : Wd) {k s : Nat} (lo hi : Int64) (h : k < 80) (hs : s ≤ 18) (hw : w.1 0 4 = nI s) (hb : -4611686018427387904 < hi.toInt ∧ hi.toInt < 4611686018427387904) : ∃ a b : Int64, a.toInt = lo.toInt / 2 ^ s ∧ b.toInt = -((-hi.toInt) / 2 ^ s) ∧ fX2_setSpanOfSquaredUnits n (nI k) lo hi w = some (spW w k (if 4096 * 2 ^ s < b.toInt ∨ a.toInt < -(4096 * 2 ^ s) then 2 else 0) a b) := by
  refine ⟨lo >>> (Int32.toInt64 (nI s) &&& 63), -((-hi) >>> (Int32.toInt64 (nI s) &&& 63)), aL_shr _ (by omega), ?_, ?_⟩
  · have e1 : (-hi).toInt = -hi.toInt := aL_neg (by omega)
    have e2 : ((-hi) >>> (Int32.toInt64 (nI s) &&& 63)).toInt = (-hi.toInt) / 2 ^ s := by rw [aL_shr _ (by omega), e1]
    obtain ⟨h1, h2⟩ := pow_le18 hs
    have b1 : ((-hi.toInt) / 2 ^ s).natAbs ≤ (-hi.toInt).natAbs + 1 := by
      have := flo_bd (-hi.toInt) (2 ^ s) (by omega)
      rw [flo_pos (by omega)] at this
      exact this
    rw [aL_neg (by rw [e2]; omega), e2]
  · unfold fX2_setSpanOfSquaredUnits
    rw [hw, p_setSpan n w _ _ h hs hw]
    rfl
theorem shl_int {s : Nat} (hs : s ≤ 18) {a : Int64} (h : -2147483648 ≤ a.toInt ∧ a.toInt ≤ 2147483648) : (a <<< (Int32.toInt64 (nI s) &&& 63)).toInt = a.toInt * 2 ^ s ∧ -562949953421312 ≤ a.toInt * 2 ^ s ∧ a.toInt * 2 ^ s ≤ 562949953421312 := by
  obtain ⟨h1, h2⟩ := pow_le18 hs
  have hb : -562949953421312 ≤ a.toInt * 2 ^ s ∧ a.toInt * 2 ^ s ≤ 562949953421312 := by
    constructor
    · have a1 := Int.mul_le_mul_of_nonneg_right h.1 (show 0 ≤ (2 : Int) ^ s by omega)
      omega
    · have a1 := Int.mul_le_mul_of_nonneg_right h.2 (show 0 ≤ (2 : Int) ^ s by omega)
      omega
  refine ⟨?_, hb⟩
  rw [aL_shl _ (by omega)]
  rw [aL_mul] <;> rw [aL_two (by omega)] <;> omega
theorem p_ratio (n : Nat) (w : Wd) {s : Nat} {a d : Int64} (hs : s ≤ 18) (hw : w.1 0 4 = nI s) (ha : -2147483648 ≤ a.toInt ∧ a.toInt ≤ 2147483648) (hd : ¬ d.toInt = 0) : ∃ q, fX2_floorRatio n a d w = some q ∧ q.toInt = flo (a.toInt * 2 ^ s) d.toInt ∧ -562949953421314 < q.toInt ∧ q.toInt < 562949953421314 := by
  have hd0 : ¬ d = 0 := fun h => hd (by rw [h]; rfl)
  obtain ⟨e, h1, h2⟩ := shl_int hs ha
  unfold fX2_floorRatio
  rw [if_neg (by rw [lg_cmp_eq]; exact hd0), hw]
  obtain ⟨q, e1, e2⟩ := p_floorDiv n (a := a <<< (Int32.toInt64 (nI s) &&& 63)) (b := d) hd0 (by rw [e]; omega)
  rw [e1]
  rw [e] at e2
  have := flo_bd (a.toInt * 2 ^ s) d.toInt hd
  exact ⟨q, rfl, e2, by omega, by omega⟩
theorem p_least (n : Nat) (w : Wd) {s a : Nat} {d : Int64} (hs : s ≤ 18) (hw : w.1 0 4 = nI s) (ha : a < 80) (l1 : -2147483648 ≤ (w.2 11 a).toInt ∧ (w.2 11 a).toInt ≤ 2147483648) (l2 : -2147483648 ≤ (w.2 12 a).toInt ∧ (w.2 12 a).toInt ≤ 2147483648) (hd : ¬ d.toInt = 0) : ∃ q, fX2_leastRatio n (nI a) d w = some q ∧ q.toInt = min (flo ((w.2 11 a).toInt * 2 ^ s) d.toInt) (flo ((w.2 12 a).toInt * 2 ^ s) d.toInt) := by
  obtain ⟨q1, f1, g1, -, -⟩ := p_ratio n w hs hw l1 hd
  obtain ⟨q2, f2, g2, -, -⟩ := p_ratio n w hs hw l2 hd
  obtain ⟨q3, f3, g3⟩ := p_min n q1 q2
  unfold fX2_leastRatio
  rw [p_low n w ha, p_high n w ha]
  simp only [Option.bind_some]
  rw [f1]
  simp only [Option.bind_some]
  rw [f2]
  simp only [Option.bind_some]
  rw [f3]
  exact ⟨q3, rfl, by rw [g3, g1, g2]⟩
theorem p_great (n : Nat) (w : Wd) {s a : Nat} {d : Int64} (hs : s ≤ 18) (hw : w.1 0 4 = nI s) (ha : a < 80) (l1 : -2147483648 ≤ (w.2 11 a).toInt ∧ (w.2 11 a).toInt ≤ 2147483648) (l2 : -2147483648 ≤ (w.2 12 a).toInt ∧ (w.2 12 a).toInt ≤ 2147483648) (hd : ¬ d.toInt = 0) : ∃ q, fX2_greatestRatio n (nI a) d w = some q ∧ q.toInt = max (-(flo (-((w.2 11 a).toInt * 2 ^ s)) d.toInt)) (-(flo (-((w.2 12 a).toInt * 2 ^ s)) d.toInt)) := by
  have n1 : (-(w.2 11 a)).toInt = -(w.2 11 a).toInt := aL_neg (by omega)
  have n2 : (-(w.2 12 a)).toInt = -(w.2 12 a).toInt := aL_neg (by omega)
  obtain ⟨q1, f1, g1, b1, b2⟩ := p_ratio n w (a := -(w.2 11 a)) hs hw (by omega) hd
  obtain ⟨q2, f2, g2, b3, b4⟩ := p_ratio n w (a := -(w.2 12 a)) hs hw (by omega) hd
  obtain ⟨q3, f3, g3⟩ := p_max n (-q1) (-q2)
  unfold fX2_greatestRatio
  rw [p_low n w ha, p_high n w ha]
  simp only [Option.bind_some]
  rw [f1]
  simp only [Option.bind_some]
  rw [f2]
  simp only [Option.bind_some]
  rw [f3]
  refine ⟨q3, rfl, ?_⟩
  rw [g3, aL_neg (by omega), aL_neg (by omega), g1, g2, n1, n2, Int.neg_mul, Int.neg_mul]
/-! roots -/
theorem p_root : ∀ (k n : Nat) (a q : Int64), k < n → k ≤ 31 → 0 ≤ q.toInt → q.toInt + 2 ^ k ≤ 2147483648 → ∃ r, fX2_floorRoot_6 n a q (nI k + (-1)) = some r ∧ r.toInt = rtI k q.toInt a.toInt
  | k, 0, a, q, hn, _, _, _ => by omega
  | 0, n + 1, a, q, _, _, _, _ => by
    rw [fX2_floorRoot_6, if_pos ix_0]
    exact ⟨q, rfl, rfl⟩
  | k + 1, n + 1, a, q, hn, hk, h0, hb => by
    have hp : (0 : Int) < 2 ^ k := Int.pow_pos (by decide)
    have e2 : (2 : Int) ^ (k + 1) = 2 ^ k + 2 ^ k := by rw [Int.pow_succ]; omega
    rw [fX2_floorRoot_6, if_neg (ix_lt k (by omega)), pk_m1]
    have et : (q + ((1 : Int64) <<< (Int32.toInt64 (nI k) &&& 63))).toInt = q.toInt + 2 ^ k := by
      rw [aL_add] <;> rw [one_shl (by omega)] <;> omega
    have hm : (q.toInt + 2 ^ k) * (q.toInt + 2 ^ k) ≤ 2147483648 * 2147483648 := Int.mul_le_mul (by omega) (by omega) (by omega) (by omega)
    have hm0 : 0 ≤ (q.toInt + 2 ^ k) * (q.toInt + 2 ^ k) := Int.mul_nonneg (by omega) (by omega)
    have eq : ((q + ((1 : Int64) <<< (Int32.toInt64 (nI k) &&& 63))) * (q + ((1 : Int64) <<< (Int32.toInt64 (nI k) &&& 63)))).toInt = (q.toInt + 2 ^ k) * (q.toInt + 2 ^ k) := by
      rw [aL_mul] <;> rw [et] <;> omega
    rw [rtI]
    by_cases hc : (q.toInt + 2 ^ k) * (q.toInt + 2 ^ k) ≤ a.toInt
    · rw [if_neg (by rw [lg_cmp_gt, aL_lt, eq]; omega), if_pos hc]
      obtain ⟨r, e, h⟩ := p_root k n a (q + ((1 : Int64) <<< (Int32.toInt64 (nI k) &&& 63))) (by omega) (by omega) (by rw [et]; omega) (by rw [et]; omega)
      exact ⟨r, e, by rw [h, et]⟩
    · rw [if_pos (by rw [lg_cmp_gt, aL_lt, eq]; omega), if_neg hc]
      exact p_root k n a q (by omega) (by omega) h0 (by omega)
def bitv : Nat → Int
  | 0 => 0
  | k + 1 => 2 ^ k
theorem bitv_half (k : Nat) : bitv (k + 1) / 2 = bitv k := by
  cases k with
  | zero => rfl
  | succ k =>
    show (2 : Int) ^ (k + 1) / 2 = 2 ^ k
    rw [Int.pow_succ]
    omega
theorem q_root : ∀ (k n : Nat) (a q b : Int64), k < n → k ≤ 31 → 0 ≤ q.toInt → q.toInt + 2 ^ k ≤ 2147483648 → b.toInt = bitv k → ∃ r, fX4_rootOf_7 n a q b = some r ∧ r.toInt = rtI k q.toInt a.toInt
  | k, 0, a, q, b, hn, _, _, _, _ => by omega
  | 0, n + 1, a, q, b, _, _, _, _, hb => by
    rw [fX4_rootOf_7, if_pos (by rw [lg_cmp_le, aL_le, hb]; decide)]
    exact ⟨q, rfl, rfl⟩
  | k + 1, n + 1, a, q, b, hn, hk, h0, hb, hv => by
    have hp : (0 : Int) < 2 ^ k := Int.pow_pos (by decide)
    have e2 : (2 : Int) ^ (k + 1) = 2 ^ k + 2 ^ k := by rw [Int.pow_succ]; omega
    have hv' : b.toInt = 2 ^ k := hv
    rw [fX4_rootOf_7, if_neg (by rw [lg_cmp_le, aL_le, hv', i0]; omega)]
    have et : (q + b).toInt = q.toInt + 2 ^ k := by
      rw [aL_add] <;> rw [hv'] <;> omega
    have hm : (q.toInt + 2 ^ k) * (q.toInt + 2 ^ k) ≤ 2147483648 * 2147483648 := Int.mul_le_mul (by omega) (by omega) (by omega) (by omega)
    have hm0 : 0 ≤ (q.toInt + 2 ^ k) * (q.toInt + 2 ^ k) := Int.mul_nonneg (by omega) (by omega)
    have eq : ((q + b) * (q + b)).toInt = (q.toInt + 2 ^ k) * (q.toInt + 2 ^ k) := by
      rw [aL_mul] <;> rw [et] <;> omega
    have eh : (b >>> (Int32.toInt64 1 &&& 63)).toInt = bitv k := by
      have := aL_shr b (k := 1) (by omega)
      rw [show (Int32.toInt64 1) = (nI 1).toInt64 from rfl, this, hv, ← bitv_half k]
      rfl
    rw [rtI]
    by_cases hc : (q.toInt + 2 ^ k) * (q.toInt + 2 ^ k) ≤ a.toInt
    · rw [if_neg (by rw [lg_cmp_gt, aL_lt, eq]; omega), if_pos hc]
      obtain ⟨r, e, h⟩ := q_root k n a (q + b) (b >>> (Int32.toInt64 1 &&& 63)) (by omega) (by omega) (by rw [et]; omega) (by rw [et]; omega) eh
      exact ⟨r, e, by rw [h, et]⟩
    · rw [if_pos (by rw [lg_cmp_gt, aL_lt, eq]; omega), if_neg hc]
      exact q_root k n a q (b >>> (Int32.toInt64 1 &&& 63)) (by omega) (by omega) h0 (by omega) eh
theorem p_fr (n : Nat) (hn : 31 < n) (a : Int64) : ∃ r, fX2_floorRoot n a = some r ∧ r.toInt = rtF a.toInt := p_root 31 n a 0 hn (by omega) (by decide) (by decide)
theorem q_fr (n : Nat) (hn : 31 < n) (a : Int64) : ∃ r, fX4_rootOf n a = some r ∧ r.toInt = rtF a.toInt := q_root 31 n a 0 1073741824 hn (by omega) (by decide) (by decide) (by decide)
/-! including a ratio -/
def kX (k : Nat) (x x' : Wd) : Prop := x'.1 = x.1 ∧ ∀ c j, (c = 9 ∨ c = 10 → j ≠ k) → x'.2 c j = x.2 c j
theorem kX.rf {k : Nat} {x : Wd} : kX k x x := ⟨rfl, fun _ _ _ => rfl⟩
theorem kX.tr {k : Nat} {a b c : Wd} (h : kX k a b) (g : kX k b c) : kX k a c := ⟨g.1.trans h.1, fun i j hi => (g.2 i j hi).trans (h.2 i j hi)⟩
theorem q_inc (n : Nat) {k : Nat} (hk : k < 120) {a b : Int64} (hb : ¬ b.toInt = 0) (ha : -4611686018427387904 < a.toInt ∧ a.toInt < 4611686018427387904) (x : Wd) : ∃ x', fX4_include n (nI k) a b x = some x' ∧ kX k x x' ∧ (x'.2 9 k).toInt = min (flo a.toInt b.toInt) (x.2 9 k).toInt ∧ (x'.2 10 k).toInt = max (-(flo (-a.toInt) b.toInt)) (x.2 10 k).toInt := by
  have hb0 : ¬ b = 0 := fun h => hb (by rw [h]; rfl)
  have hna : (-a).toInt = -a.toInt := aL_neg (by omega)
  obtain ⟨f, e1, e2⟩ := q_floor n (a := a) hb0 (by omega)
  obtain ⟨g, e3, e4⟩ := q_floor n (a := -a) hb0 (by rw [hna]; omega)
  rw [hna] at e4
  have hg := flo_bd (-a.toInt) b.toInt hb
  have hng : (-g).toInt = -g.toInt := aL_neg (by rw [e4]; omega)
  unfold fX4_include fX4_ceilOf
  rw [e1, e3]
  simp only [Option.bind_some]
  rw [pz_ldL hk (by decide)]
  simp only [Option.bind_some]
  have fin : ∀ lo : Int64, ∃ x', fX4_include_44 n (nI k) (-g) lo (nI k) x = some x' ∧ kX k x x' ∧ x'.2 9 k = lo ∧ (x'.2 10 k).toInt = max (-(flo (-a.toInt) b.toInt)) (x.2 10 k).toInt := by
    intro lo
    unfold fX4_include_44
    rw [pz_stL hk (by decide)]
    simp only [Option.bind_some]
    rw [pz_ldL hk (by decide)]
    simp only [Option.bind_some]
    rw [pz_stL hk (by decide), pz_stL hk (by decide)]
    have eh : (ez_sL x 9 k lo).2 10 k = x.2 10 k := by simp [pz_sL2]
    rw [eh]
    by_cases hc : lg_cmp (-g) (x.2 10 k) ≤ 0
    · rw [if_pos hc]
      rw [lg_cmp_le, aL_le, hng, e4] at hc
      refine ⟨_, rfl, ⟨rfl, fun c j h => ?_⟩, by simp [pz_sL2], ?_⟩
      · have h9 : ¬ (c = 9 ∧ j = k) := fun q => h (Or.inl q.1) q.2
        have h10 : ¬ (c = 10 ∧ j = k) := fun q => h (Or.inr q.1) q.2
        rw [pz_sL2, if_neg h10, pz_sL2, if_neg h9]
      · simp only [pz_sL2]
        simp only [and_self, if_true]
        omega
    · rw [if_neg hc]
      rw [lg_cmp_le, aL_le, hng, e4] at hc
      refine ⟨_, rfl, ⟨rfl, fun c j h => ?_⟩, by simp [pz_sL2], ?_⟩
      · have h9 : ¬ (c = 9 ∧ j = k) := fun q => h (Or.inl q.1) q.2
        have h10 : ¬ (c = 10 ∧ j = k) := fun q => h (Or.inr q.1) q.2
        rw [pz_sL2, if_neg h10, pz_sL2, if_neg h9]
      · simp only [pz_sL2]
        simp only [and_self, if_true]
        rw [hng, e4]
        omega
  by_cases hc : 0 ≤ lg_cmp f (x.2 9 k)
  · rw [if_pos hc]
    rw [lg_cmp_ge, aL_le, e2] at hc
    obtain ⟨x', g1, g2, g3, g4⟩ := fin (x.2 9 k)
    exact ⟨x', g1, g2, by rw [g3]; omega, g4⟩
  · rw [if_neg hc]
    rw [lg_cmp_ge, aL_le, e2] at hc
    obtain ⟨x', g1, g2, g3, g4⟩ := fin f
    exact ⟨x', g1, g2, by rw [g3, e2]; omega, g4⟩
