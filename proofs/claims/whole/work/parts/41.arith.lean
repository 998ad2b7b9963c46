/-! numbers: longs and ints by their value -/
theorem aL_bm {x : Int} (h1 : -9223372036854775808 ≤ x) (h2 : x < 9223372036854775808) : x.bmod (2 ^ 64) = x :=
  Int.bmod_eq_of_le (by omega) (by omega)
theorem aL_add {a b : Int64} (h1 : -9223372036854775808 ≤ a.toInt + b.toInt) (h2 : a.toInt + b.toInt < 9223372036854775808) : (a + b).toInt = a.toInt + b.toInt := by
  rw [Int64.toInt_add]; exact aL_bm h1 h2
theorem aL_sub {a b : Int64} (h1 : -9223372036854775808 ≤ a.toInt - b.toInt) (h2 : a.toInt - b.toInt < 9223372036854775808) : (a - b).toInt = a.toInt - b.toInt := by
  rw [Int64.toInt_sub]; exact aL_bm h1 h2
theorem aL_mul {a b : Int64} (h1 : -9223372036854775808 ≤ a.toInt * b.toInt) (h2 : a.toInt * b.toInt < 9223372036854775808) : (a * b).toInt = a.toInt * b.toInt := by
  rw [Int64.toInt_mul]; exact aL_bm h1 h2
theorem aL_neg {a : Int64} (h : -9223372036854775808 < a.toInt) : (-a).toInt = -a.toInt := by
  have := a.toInt_lt
  rw [Int64.toInt_neg]; exact aL_bm (by omega) (by omega)
theorem aL_div {a b : Int64} (h : -9223372036854775808 < a.toInt) : (a / b).toInt = a.toInt.tdiv b.toInt := by
  apply Int64.toInt_div_of_ne_left
  intro e
  rw [e] at h
  exact absurd h (by decide)
/-- the shift count of a long, for a count below 64 -/
theorem aL_c : ∀ k, k < 64 → ((nI k).toInt64 &&& 63) = lN k := by decide +kernel
theorem aL_sm : ∀ k, k < 64 → (BitVec.ofNat 64 k).smod 64 = BitVec.ofNat 64 k := by decide +kernel
theorem aL_tb (n : Nat) : (lN n).toBitVec = BitVec.ofNat 64 n := rfl
theorem aL_shl (x : Int64) {k : Nat} (hk : k < 64) : x <<< ((nI k).toInt64 &&& 63) = x * lN (2 ^ k) := by
  rw [aL_c k hk]
  apply Int64.toBitVec_inj.mp
  rw [Int64.toBitVec_shiftLeft, Int64.toBitVec_mul, aL_tb, aL_tb, aL_sm k hk]
  apply BitVec.eq_of_toNat_eq
  rw [BitVec.shiftLeft_eq', BitVec.toNat_shiftLeft, BitVec.toNat_mul, BitVec.toNat_ofNat, BitVec.toNat_ofNat, Nat.mod_eq_of_lt (show k < 2 ^ 64 by omega), Nat.shiftLeft_eq, Nat.mul_mod_mod]
theorem aL_two {k : Nat} (hk : k < 63) : (lN (2 ^ k)).toInt = (2 : Int) ^ k := by
  rw [pk_lT (Nat.pow_lt_pow_right (by decide) hk)]
  simp
theorem aL_shr (x : Int64) {k : Nat} (hk : k < 64) : (x >>> ((nI k).toInt64 &&& 63)).toInt = x.toInt / (2 : Int) ^ k := by
  rw [aL_c k hk]
  have hD : ((lN k).toBitVec.smod 64).toNat = k := by
    rw [aL_tb, aL_sm k hk, BitVec.toNat_ofNat, Nat.mod_eq_of_lt (by omega)]
  have e : (x >>> lN k).toInt = x.toInt >>> k := by
    show (x.toBitVec.sshiftRight ((lN k).toBitVec.smod 64).toNat).toInt = _
    rw [hD, BitVec.toInt_sshiftRight]
    rfl
  rw [e, Int.shiftRight_eq_div_pow]
  simp
theorem aL_i2l {n : Nat} (h : n < 2 ^ 31) : (nI n).toInt64 = lN n := nI_l h
theorem aL_le {a b : Int64} : a ≤ b ↔ a.toInt ≤ b.toInt := Int64.le_iff_toInt_le
theorem aL_lt {a b : Int64} : a < b ↔ a.toInt < b.toInt := Int64.lt_iff_toInt_lt
theorem aL_eq {a b : Int64} : a = b ↔ a.toInt = b.toInt := Int64.toInt_inj.symm
/-- the floor of a ratio by a positive number, out of the quotient towards 0 -/
theorem aL_fl {a b : Int} (hb : 0 < b) : (if a - a.tdiv b * b ≠ 0 ∧ a < 0 then a.tdiv b - 1 else a.tdiv b) = a / b := by
  have e := Int.tdiv_eq_ediv (a := a) (b := b)
  have hs : b.sign = 1 := Int.sign_eq_one_of_pos hb
  have hm : a.tdiv b * b + a.tmod b = a := by rw [Int.mul_comm]; exact Int.mul_tdiv_add_tmod a b
  have hd : b ∣ a ↔ a.tmod b = 0 := (Int.dvd_iff_tmod_eq_zero ..)
  rw [hs] at e
  by_cases h0 : 0 ≤ a
  · rw [if_neg (by omega)]
    rw [if_pos (Or.inl h0)] at e
    omega
  · by_cases h1 : a.tmod b = 0
    · rw [if_neg (by omega)]
      rw [if_pos (Or.inr (hd.mpr h1))] at e
      omega
    · rw [if_pos (by omega)]
      rw [if_neg (by intro h; rcases h with h | h; exact h0 h; exact h1 (hd.mp h))] at e
      omega
/-- the root, bit by bit -/
def rtI : Nat → Int → Int → Int
  | 0, q, _ => q
  | k + 1, q, a => if (q + 2 ^ k) * (q + 2 ^ k) ≤ a then rtI k (q + 2 ^ k) a else rtI k q a
theorem rtI_spec : ∀ (k : Nat) (q a : Int), 0 ≤ q → q * q ≤ a → a < (q + 2 ^ k) * (q + 2 ^ k) → 0 ≤ rtI k q a ∧ rtI k q a * rtI k q a ≤ a ∧ a < (rtI k q a + 1) * (rtI k q a + 1) ∧ rtI k q a < q + 2 ^ k
  | 0, q, a, h0, h1, h2 => by
    rw [rtI]
    refine ⟨h0, h1, ?_, ?_⟩
    · simpa using h2
    · simp; omega
  | k + 1, q, a, h0, h1, h2 => by
    have hp : (0 : Int) < 2 ^ k := Int.pow_pos (by decide)
    have e : (2 : Int) ^ (k + 1) = 2 ^ k + 2 ^ k := by rw [Int.pow_succ]; omega
    rw [rtI]
    by_cases hc : (q + 2 ^ k) * (q + 2 ^ k) ≤ a
    · rw [if_pos hc]
      have h := rtI_spec k (q + 2 ^ k) a (by omega) hc (by rw [e] at h2; rw [Int.add_assoc]; exact h2)
      refine ⟨h.1, h.2.1, h.2.2.1, ?_⟩
      rw [e]; have := h.2.2.2; omega
    · rw [if_neg hc]
      have h := rtI_spec k q a h0 h1 (by omega)
      refine ⟨h.1, h.2.1, h.2.2.1, ?_⟩
      rw [e]; have := h.2.2.2; omega
theorem sq_lt {a b : Int} (ha : 0 ≤ a) (hb : 0 ≤ b) (h : a * a < b * b) : a < b := by
  rcases Int.lt_or_le a b with h1 | h1
  · exact h1
  · have := Int.mul_le_mul h1 h1 hb ha
    omega
def rtF (a : Int) : Int := rtI 31 0 a
def rtC (a : Int) : Int := if rtF a * rtF a < a then rtF a + 1 else rtF a
theorem rtF_spec {a : Int} (h0 : 0 ≤ a) (h : a < 4611686018427387904) : 0 ≤ rtF a ∧ rtF a * rtF a ≤ a ∧ a < (rtF a + 1) * (rtF a + 1) ∧ rtF a < 2147483648 := by
  have h := rtI_spec 31 0 a (by decide) (by omega) (by omega)
  exact ⟨h.1, h.2.1, h.2.2.1, by have := h.2.2.2; unfold rtF; omega⟩
theorem rtF_mono {a b : Int} (h0 : 0 ≤ a) (hab : a ≤ b) (h : b < 4611686018427387904) : rtF a ≤ rtF b := by
  have ha := rtF_spec h0 (by omega)
  have hb := rtF_spec (a := b) (by omega) h
  have := sq_lt (a := rtF a) (b := rtF b + 1) ha.1 (by omega) (by omega)
  omega
theorem rtC_mono {a b : Int} (h0 : 0 ≤ a) (hab : a ≤ b) (h : b < 4611686018427387904) : rtC a ≤ rtC b := by
  have hm := rtF_mono h0 hab h
  unfold rtC
  rcases Int.lt_or_le (rtF a) (rtF b) with h1 | h1
  · split <;> split <;> omega
  · have e : rtF a = rtF b := by omega
    rw [e]
    split <;> split <;> omega
theorem rtF_le_C (a : Int) : rtF a ≤ rtC a := by
  unfold rtC
  split <;> omega
