/-! floors -/
theorem tm_facts {a b : Int} (hb : b ≠ 0) : a.tdiv b * b + a.tmod b = a ∧ (0 ≤ a → 0 ≤ a.tmod b) ∧ (a ≤ 0 → a.tmod b ≤ 0) ∧ (a.tmod b).natAbs < b.natAbs ∧ (a.tdiv b).natAbs ≤ a.natAbs := by
  refine ⟨by rw [Int.mul_comm]; exact Int.mul_tdiv_add_tmod a b, fun h => Int.tmod_nonneg b h, fun h => ?_, ?_, ?_⟩
  · have h1 := Int.tmod_nonneg (a := -a) b (by omega)
    rw [Int.neg_tmod] at h1
    omega
  · rw [Int.natAbs_tmod]
    exact Nat.mod_lt _ (by omega)
  · rw [Int.natAbs_tdiv]
    exact Nat.div_le_self _ _
theorem fl_int {a b : Int} (hb : b ≠ 0) : (if a.tmod b = 0 then a.tdiv b else if (a < 0) = (b < 0) then a.tdiv b else a.tdiv b - 1) = if 0 < b then a / b else (-a) / (-b) := by
  obtain ⟨h1, h2, h3, h4, h5⟩ := tm_facts (a := a) hb
  have key : ∀ q : Int, ∀ d : Int, 0 < d → ∀ c : Int, q * d ≤ c → c < q * d + d → q = c / d := by
    intro q d hd c hl hu
    have e : c = d * q + (c - q * d) := by rw [Int.mul_comm d q]; omega
    rw [e, Int.mul_add_ediv_left _ _ (by omega), Int.ediv_eq_zero_of_lt (by omega) (by omega)]
    omega
  by_cases hp : 0 < b
  · rw [if_pos hp]
    split
    · exact key _ b hp a (by omega) (by omega)
    · split
      · rename_i h6 h7
        have : ¬ a < 0 := by rw [h7]; omega
        exact key _ b hp a (by omega) (by omega)
      · rename_i h6 h7
        have : a < 0 := by
          rcases Int.lt_or_le a 0 with h | h
          · exact h
          · exact absurd (by simp; omega) h7
        refine key _ b hp a ?_ ?_ <;> rw [Int.sub_mul] <;> omega
  · rw [if_neg hp]
    split
    · exact key _ (-b) (by omega) (-a) (by rw [Int.mul_neg]; omega) (by rw [Int.mul_neg]; omega)
    · split
      · rename_i h6 h7
        have : a < 0 := by rw [h7]; omega
        exact key _ (-b) (by omega) (-a) (by rw [Int.mul_neg]; omega) (by rw [Int.mul_neg]; omega)
      · rename_i h6 h7
        have : ¬ a < 0 := by
          intro h
          exact h7 (by simp; omega)
        refine key _ (-b) (by omega) (-a) ?_ ?_ <;> rw [Int.mul_neg, Int.sub_mul] <;> omega
def flo (a b : Int) : Int := if 0 < b then a / b else (-a) / (-b)
theorem rem_int {a b : Int64} (hb : ¬ b = 0) (ha : -9223372036854775808 < a.toInt) : (a / b).toInt = a.toInt.tdiv b.toInt ∧ (a - a / b * b).toInt = a.toInt.tmod b.toInt := by
  have hb0 : b.toInt ≠ 0 := fun h => hb (Int64.toInt_inj.mp (by rw [h]; rfl))
  obtain ⟨h1, h2, h3, h4, h5⟩ := tm_facts (a := a.toInt) hb0
  have a1 := a.toInt_lt
  have b1 := b.toInt_lt
  have b2 := b.le_toInt
  have e1 : (a / b).toInt = a.toInt.tdiv b.toInt := aL_div ha
  have e2 : (a / b * b).toInt = a.toInt.tdiv b.toInt * b.toInt := by
    rw [aL_mul] <;> rw [e1] <;> omega
  refine ⟨e1, ?_⟩
  rw [aL_sub] <;> rw [e2] <;> omega
theorem q_floor (n : Nat) {a b : Int64} (hb : ¬ b = 0) (ha : -9223372036854775808 < a.toInt) : ∃ q, fX4_floorOf n a b = some q ∧ q.toInt = flo a.toInt b.toInt := by
  have hb0 : b.toInt ≠ 0 := fun h => hb (Int64.toInt_inj.mp (by rw [h]; rfl))
  obtain ⟨h1, h2, h3, h4, h5⟩ := tm_facts (a := a.toInt) hb0
  obtain ⟨e1, e2⟩ := rem_int hb ha
  have a1 := a.toInt_lt
  have hf := fl_int (a := a.toInt) hb0
  unfold flo
  rw [← hf]
  have hz : ez_nz b = some () := by unfold ez_nz; rw [if_neg hb]
  unfold fX4_floorOf
  rw [hz]
  have z0 : (0 : Int64).toInt = 0 := rfl
  have e3 : (a / b - 1).toInt = a.toInt.tdiv b.toInt - 1 := by
    have : (1 : Int64).toInt = 1 := rfl
    rw [aL_sub] <;> rw [e1, this] <;> omega
  by_cases hr : a.toInt.tmod b.toInt = 0
  · have hc : lg_cmp (a - a / b * b) 0 = 0 := by rw [lg_cmp_eq]; exact Int64.toInt_inj.mp (by rw [e2, hr]; rfl)
    refine ⟨a / b, ?_, by rw [if_pos hr, e1]⟩
    simp only [Option.bind_some]
    rw [if_pos hc]
  · have hc : ¬ lg_cmp (a - a / b * b) 0 = 0 := by
      rw [lg_cmp_eq]
      intro h
      rw [h] at e2
      exact hr (by rw [← e2]; rfl)
    rw [if_neg hr]
    have ca : (0 ≤ lg_cmp a 0) ↔ ¬ a.toInt < 0 := by rw [lg_cmp_ge, aL_le, z0]; omega
    have cb : (0 ≤ lg_cmp b 0) ↔ ¬ b.toInt < 0 := by rw [lg_cmp_ge, aL_le, z0]; omega
    simp only [Option.bind_some]
    rw [if_neg hc]
    by_cases sa : a.toInt < 0
    · rw [if_neg (by rw [ca]; simpa using sa)]
      by_cases sb : b.toInt < 0
      · rw [if_neg (by rw [cb]; simpa using sb), if_pos (by simp [sa, sb])]
        exact ⟨_, rfl, e1⟩
      · rw [if_pos (cb.mpr sb), if_neg (by simp [sa]; omega)]
        exact ⟨_, rfl, e3⟩
    · rw [if_pos (ca.mpr sa)]
      by_cases sb : b.toInt < 0
      · rw [if_neg (by rw [cb]; simpa using sb), if_neg (by simp [sb]; omega)]
        exact ⟨_, rfl, e3⟩
      · rw [if_pos (cb.mpr sb), if_pos (by simp [sa, sb])]
        exact ⟨_, rfl, e1⟩
theorem xor_ge {a b : Int64} : 0 ≤ a ^^^ b ↔ ((a.toInt < 0) = (b.toInt < 0)) := by
  have h : ∀ x : Int64, (0 ≤ x) ↔ x.toBitVec.msb = false := by
    intro x
    rw [aL_le]
    have z0 : (0 : Int64).toInt = 0 := rfl
    rw [z0]
    show 0 ≤ x.toBitVec.toInt ↔ _
    rw [BitVec.msb_eq_toInt]
    simp
  have g : ∀ x : Int64, (x.toInt < 0) = (x.toBitVec.msb = true) := by
    intro x
    show (x.toBitVec.toInt < 0) = _
    rw [BitVec.msb_eq_toInt]
    simp
  rw [h, Int64.toBitVec_xor, BitVec.msb_xor, g, g]
  cases a.toBitVec.msb <;> cases b.toBitVec.msb <;> simp
theorem p_floorDiv (n : Nat) {a b : Int64} (hb : ¬ b = 0) (ha : -9223372036854775808 < a.toInt) : ∃ q, fJ9_floorDiv n a b = some q ∧ q.toInt = flo a.toInt b.toInt := by
  have hb0 : b.toInt ≠ 0 := fun h => hb (Int64.toInt_inj.mp (by rw [h]; rfl))
  obtain ⟨h1, h2, h3, h4, h5⟩ := tm_facts (a := a.toInt) hb0
  obtain ⟨e1, e2⟩ := rem_int hb ha
  have a1 := a.toInt_lt
  have hf := fl_int (a := a.toInt) hb0
  unfold flo
  rw [← hf]
  have hz : ez_nz b = some () := by unfold ez_nz; rw [if_neg hb]
  unfold fJ9_floorDiv
  rw [hz]
  have e3 : (a / b - 1).toInt = a.toInt.tdiv b.toInt - 1 := by
    have : (1 : Int64).toInt = 1 := rfl
    rw [aL_sub] <;> rw [e1, this] <;> omega
  have e4 : (a / b * b = a) ↔ a.toInt.tmod b.toInt = 0 := by
    rw [← e2]
    constructor
    · intro h
      rw [h, Int64.sub_self]
      rfl
    · intro h
      have h6 : a - a / b * b = 0 := Int64.toInt_inj.mp (by rw [h]; rfl)
      have h7 := Int64.sub_add_cancel a (a / b * b)
      rw [h6, Int64.zero_add] at h7
      exact h7
  simp only [Option.bind_some]
  by_cases hx : (a.toInt < 0) = (b.toInt < 0)
  · rw [if_pos (by rw [lg_cmp_ge]; exact xor_ge.mpr hx)]
    refine ⟨_, rfl, ?_⟩
    rw [e1, if_pos hx]
    split <;> rfl
  · rw [if_neg (by rw [lg_cmp_ge]; exact fun h => hx (xor_ge.mp h))]
    by_cases hr : a.toInt.tmod b.toInt = 0
    · rw [if_pos (by rw [lg_cmp_eq]; exact e4.mpr hr), if_pos hr]
      exact ⟨_, rfl, e1⟩
    · rw [if_neg (by rw [lg_cmp_eq]; exact fun h => hr (e4.mp h)), if_neg hr, if_neg hx]
      exact ⟨_, rfl, e3⟩
theorem flo_pos {a b : Int} (h : 0 < b) : flo a b = a / b := if_pos h
theorem flo_neg_le (a b : Int) (hb : b ≠ 0) : flo a b + flo (-a) b ≤ 0 := by
  have key : ∀ c d : Int, 0 < d → c / d + (-c) / d ≤ 0 := by
    intro c d hd
    have h1 := Int.ediv_mul_le c (b := d) (by omega)
    have h2 := Int.ediv_mul_le (-c) (b := d) (by omega)
    have h3 : (c / d + (-c) / d) * d ≤ 0 := by rw [Int.add_mul]; omega
    rcases Int.lt_or_le 0 (c / d + (-c) / d) with h | h
    · have := Int.mul_le_mul_of_nonneg_right (show 1 ≤ c / d + (-c) / d by omega) (show (0 : Int) ≤ d by omega)
      omega
    · exact h
  unfold flo
  split
  · exact key a b (by assumption)
  · have := key (-a) (-b) (by omega)
    exact this
theorem flo_bd (a b : Int) (hb : b ≠ 0) : (flo a b).natAbs ≤ a.natAbs + 1 := by
  obtain ⟨h1, h2, h3, h4, h5⟩ := tm_facts (a := a) hb
  have hf := fl_int (a := a) hb
  unfold flo
  rw [← hf]
  split
  · omega
  · split <;> omega
/-! decimal -/
theorem dm_loop (d : Nat) (hd : d ≤ 6) (x : Wd) : ∀ (k i m : Nat), i + k = d → fX4_decimal_24 (m + k + 1) (nI d) (ez_p i) (nI i) x = (fX4_floorOf m ((((x.2 0 0) + (x.2 0 1)) * ez_p d) + ((1 : Int64) <<< (Int32.toInt64 (x.1 0 5) &&& 63))) (2 * ((1 : Int64) <<< (Int32.toInt64 (x.1 0 5) &&& 63)))).bind fun z2 => some z2
  | 0, i, m, h => by
    have e : i = d := by omega
    subst e
    rw [fX4_decimal_24, if_pos (nI_le (Nat.le_refl _) (by omega))]
  | k + 1, i, m, h => by
    rw [fX4_decimal_24, if_neg (nI_ge (by omega) (by omega)), nI_1]
    have e : ez_p i * 10 = ez_p (i + 1) := by
      rcases (show i = 0 ∨ i = 1 ∨ i = 2 ∨ i = 3 ∨ i = 4 ∨ i = 5 by omega) with rfl | rfl | rfl | rfl | rfl | rfl <;> rfl
    rw [e]
    exact dm_loop d hd x k (i + 1) m (by omega)
theorem one_shl {s : Nat} (hs : s ≤ 60) : ((1 : Int64) <<< (Int32.toInt64 (nI s) &&& 63)).toInt = (2 : Int) ^ s := by
  rw [aL_shl _ (by omega)]
  have e : (1 : Int64) * lN (2 ^ s) = lN (2 ^ s) := Int64.one_mul _
  rw [e, aL_two (by omega)]
theorem pow_le18 {s : Nat} (hs : s ≤ 18) : 1 ≤ (2 : Int) ^ s ∧ (2 : Int) ^ s ≤ 262144 := by
  constructor
  · have := Int.pow_pos (n := 2) (m := s) (by decide)
    omega
  · have h := Nat.pow_le_pow_right (n := 2) (by decide) hs
    have e : (2 : Int) ^ s = ((2 ^ s : Nat) : Int) := by simp
    rw [e]
    have : (2 : Nat) ^ 18 = 262144 := by decide
    omega
theorem op_decimal (n : Nat) (hn : 10 < n) {w x : Wd} (h : Rel w x) (c : Int32) : ∃ z y, fX3_decimal n c w = some z ∧ fX4_decimal n c x = some y ∧ z = y := by
  obtain ⟨cs, L, tw, tx, hlen, hty, hL, hok, hsw, hsx, hn', hwk, hr⟩ := h
  unfold fX3_decimal fX4_decimal
  rcases hr with ⟨h1, -, -, h2⟩ | ⟨s, hs, h1, h2, h3, h4, h5, l1, l2, l3, l4⟩
  · rw [h1, h2, if_pos rfl, if_pos rfl]
    exact ⟨_, _, rfl, rfl, rfl⟩
  · rw [h1, h2, if_neg (pz_m1 (by omega)), if_neg (show ¬ (1 : Int32) = 0 by decide)]
    by_cases c0 : c < 0
    · rw [if_pos c0, if_pos c0]
      exact ⟨_, _, rfl, rfl, rfl⟩
    · rw [if_neg c0, if_neg c0]
      obtain ⟨d, hd, rfl⟩ := nI_of c0
      by_cases h6 : d ≤ 6
      · rw [if_pos (show nI d < 7 from nI_lt (b := 7) (by omega) (by omega)), if_pos (show nI d ≤ 6 from nI_le (b := 6) h6 (by omega))]
        have hp : ez_p10 (nI d) = some (ez_p d) := by
          unfold ez_p10
          rw [if_neg (nI_in (N := 7) (by omega) (by omega)), nI_clamp (by omega)]
        obtain ⟨m, rfl⟩ : ∃ m, n = m + d + 1 := ⟨n - d - 1, by omega⟩
        rw [hp]
        have hl := dm_loop d h6 x d 0 m (by omega)
        have hl0 : fX4_decimal_24 (m + d + 1) (nI d) 1 0 x = fX4_decimal_24 (m + d + 1) (nI d) (ez_p 0) (nI 0) x := rfl
        rw [hl0, hl, h3, ← h4, ← h5]
        obtain ⟨p1, p2⟩ := pow_le18 hs
        have ep : 1 ≤ (ez_p d).toInt ∧ (ez_p d).toInt ≤ 1000000 := by
          rcases (show d = 0 ∨ d = 1 ∨ d = 2 ∨ d = 3 ∨ d = 4 ∨ d = 5 ∨ d = 6 by omega) with rfl | rfl | rfl | rfl | rfl | rfl | rfl <;> decide
        have eo := one_shl (s := s) (by omega)
        have ea : (w.2 0 0 + w.2 0 1).toInt = (w.2 0 0).toInt + (w.2 0 1).toInt := aL_add (by omega) (by omega)
        have hb : -2147483648000000 ≤ ((w.2 0 0).toInt + (w.2 0 1).toInt) * (ez_p d).toInt ∧ ((w.2 0 0).toInt + (w.2 0 1).toInt) * (ez_p d).toInt ≤ 2147483648000000 := by
          have hu : -2147483648 ≤ (w.2 0 0).toInt + (w.2 0 1).toInt ∧ (w.2 0 0).toInt + (w.2 0 1).toInt ≤ 2147483648 := by omega
          generalize (w.2 0 0).toInt + (w.2 0 1).toInt = u at hu
          constructor
          · have a1 := Int.mul_le_mul_of_nonneg_right hu.1 (show 0 ≤ (ez_p d).toInt by omega)
            have a2 : -2147483648 * (ez_p d).toInt ≥ -2147483648 * 1000000 := by omega
            omega
          · have a1 := Int.mul_le_mul_of_nonneg_right hu.2 (show 0 ≤ (ez_p d).toInt by omega)
            omega
        have em : ((w.2 0 0 + w.2 0 1) * ez_p d).toInt = ((w.2 0 0).toInt + (w.2 0 1).toInt) * (ez_p d).toInt := by
          rw [aL_mul] <;> rw [ea] <;> omega
        generalize ((w.2 0 0).toInt + (w.2 0 1).toInt) * (ez_p d).toInt = T at hb em
        have et : ((w.2 0 0 + w.2 0 1) * ez_p d + ((1 : Int64) <<< (Int32.toInt64 (nI s) &&& 63))).toInt = T + 2 ^ s := by
          rw [aL_add] <;> rw [em, eo] <;> omega
        have e2 : (2 * ((1 : Int64) <<< (Int32.toInt64 (nI s) &&& 63))).toInt = 2 * 2 ^ s := by
          have : (2 : Int64).toInt = 2 := rfl
          rw [aL_mul] <;> rw [this, eo] <;> omega
        obtain ⟨q, eq, hq⟩ := q_floor m (a := (w.2 0 0 + w.2 0 1) * ez_p d + ((1 : Int64) <<< (Int32.toInt64 (nI s) &&& 63))) (b := 2 * ((1 : Int64) <<< (Int32.toInt64 (nI s) &&& 63))) (by intro h; rw [h] at e2; have : (0 : Int64).toInt = 0 := rfl; omega) (by rw [et]; omega)
        refine ⟨_, _, rfl, by rw [eq]; rfl, ?_⟩
        apply Int64.toInt_inj.mp
        rw [hq, et, e2, flo_pos (by omega), nI_1, aL_shr _ (by omega), et, Int.pow_succ, Int.mul_comm]
      · rw [if_neg (show ¬ nI d < 7 from nI_nlt (b := 7) (by omega) (by omega)), if_neg (show ¬ nI d ≤ 6 from nI_ge (a := 6) (by omega) (by omega))]
        exact ⟨_, _, rfl, rfl, rfl⟩
