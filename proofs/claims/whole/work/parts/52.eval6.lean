/-! one part -/
section CLS
variable {n k : Nat} {w : Wd} {y1 y2 : Int32}
theorem c_a (h1 : fX0_firstOf n (nI k) w = some y1) (h2 : fX0_secondOf n (nI k) w = some y2) (hk : k < 80) (f1 : fX2_isFalse n y1 w = some 1) : fX2_workOutPart n (nI k) w = some (ez_sI w 10 k 1) := by
  unfold fX2_workOutPart
  rw [h1, Option.bind_some, h2, Option.bind_some, f1, Option.bind_some, if_neg (by decide), p_setState n w 1 hk]
  rfl
theorem c_b (h1 : fX0_firstOf n (nI k) w = some y1) (h2 : fX0_secondOf n (nI k) w = some y2) (hk : k < 80) (f1 : fX2_isFalse n y1 w = some 0) (f2 : fX2_isFalse n y2 w = some 1) : fX2_workOutPart n (nI k) w = some (ez_sI w 10 k 1) := by
  unfold fX2_workOutPart
  rw [h1, Option.bind_some, h2, Option.bind_some, f1, Option.bind_some, if_pos rfl, f2, Option.bind_some, if_neg (by decide), p_setState n w 1 hk]
  rfl
theorem c_c (h1 : fX0_firstOf n (nI k) w = some y1) (h2 : fX0_secondOf n (nI k) w = some y2) (hk : k < 80) (f1 : fX2_isFalse n y1 w = some 0) (f2 : fX2_isFalse n y2 w = some 0) (o1 : fX2_isOpen n y1 w = some 1) : fX2_workOutPart n (nI k) w = some (ez_sI w 10 k 2) := by
  unfold fX2_workOutPart
  rw [h1, Option.bind_some, h2, Option.bind_some, f1, Option.bind_some, if_pos rfl, f2, Option.bind_some, if_pos rfl, o1, Option.bind_some, if_neg (by decide), p_setState n w 2 hk]
  rfl
theorem c_d (h1 : fX0_firstOf n (nI k) w = some y1) (h2 : fX0_secondOf n (nI k) w = some y2) (hk : k < 80) (f1 : fX2_isFalse n y1 w = some 0) (f2 : fX2_isFalse n y2 w = some 0) (o1 : fX2_isOpen n y1 w = some 0) (o2 : fX2_isOpen n y2 w = some 1) : fX2_workOutPart n (nI k) w = some (ez_sI w 10 k 2) := by
  unfold fX2_workOutPart
  rw [h1, Option.bind_some, h2, Option.bind_some, f1, Option.bind_some, if_pos rfl, f2, Option.bind_some, if_pos rfl, o1, Option.bind_some, if_pos rfl, o2, Option.bind_some, if_neg (by decide), p_setState n w 2 hk]
  rfl
/-- all operands are spans: by the sort -/
def disp (n k : Nat) (w : Wd) (y1 y2 z21 : Int32) : Option Wd :=
  if z21 = 0 then (fX0_valueOf n (nI k) w).bind fun z24 => fX2_setWhole n (nI k) (Int32.toInt64 z24) w
  else if z21 = 1 then (fX2_highOf n y1 w).bind fun z29 => (fX2_lowOf n y1 w).bind fun z31 => fX2_setSpan n (nI k) (-z29) (-z31) w
  else if z21 = 2 then (fX2_lowOf n y1 w).bind fun z36 => (fX2_lowOf n y2 w).bind fun z38 => (fX2_highOf n y1 w).bind fun z40 => (fX2_highOf n y2 w).bind fun z42 => fX2_setSpan n (nI k) (z36 + z38) (z40 + z42) w
  else if z21 = 3 then (fX2_lowOf n y1 w).bind fun z47 => (fX2_highOf n y2 w).bind fun z49 => (fX2_highOf n y1 w).bind fun z51 => (fX2_lowOf n y2 w).bind fun z53 => fX2_setSpan n (nI k) (z47 - z49) (z51 - z53) w
  else if z21 = 4 then fX2_multiply n (nI k) y1 y2 w
  else if z21 = 5 then fX2_divide n (nI k) y1 y2 w
  else if z21 = 6 then fX2_square n (nI k) y1 w
  else fX2_takeRoot n (nI k) y1 w
theorem bind_id {α : Type} (x : Option α) : (x.bind fun z => some z) = x := by cases x <;> rfl
theorem c_e (h1 : fX0_firstOf n (nI k) w = some y1) (h2 : fX0_secondOf n (nI k) w = some y2) (hk : k < 80) (f1 : fX2_isFalse n y1 w = some 0) (f2 : fX2_isFalse n y2 w = some 0) (o1 : fX2_isOpen n y1 w = some 0) (o2 : fX2_isOpen n y2 w = some 0) : fX2_workOutPart n (nI k) w = disp n k w y1 y2 (w.1 5 k) := by
  unfold fX2_workOutPart disp
  rw [h1, Option.bind_some, h2, Option.bind_some, f1, Option.bind_some, if_pos rfl, f2, Option.bind_some, if_pos rfl, o1, Option.bind_some, if_pos rfl, o2, Option.bind_some, if_pos rfl, p_sort n w hk, Option.bind_some]
  simp only [bind_id]
end CLS
theorem q_wo {n k a b : Nat} {one : Int64} {x : Wd} (hk : k < 120) (ha : a < 120) (hb : b < 120) (h3 : ¬ x.1 3 k = 0) (h4 : x.1 4 k = nI a) (h5 : x.1 5 k = nI b) : fX4_workOut n (nI k) one x = fX4_workOut_102 n (nI k) one (nI a) (nI b) (if x.1 8 a ≤ x.1 8 b then x.1 8 b else x.1 8 a) (nI k) x := by
  unfold fX4_workOut
  rw [pz_ldI hk (by decide), Option.bind_some, if_neg h3, pz_ldI hk (by decide), Option.bind_some, pz_ldI hk (by decide), Option.bind_some, h4, h5, pz_ldI ha (by decide), Option.bind_some, pz_ldI hb (by decide), Option.bind_some]
  by_cases hc : x.1 8 a ≤ x.1 8 b
  · rw [if_pos hc, if_pos hc, Option.bind_some]
  · rw [if_neg hc, if_neg hc, Option.bind_some]
theorem pz_self (w : Wd) (b i : Nat) (v : Int32) : (ez_sI w b i v).1 b i = v := by rw [pz_sI1, if_pos ⟨rfl, rfl⟩]
theorem q_stop {n k : Nat} {one : Int64} {x : Wd} {xa xb v : Int32} (hk : k < 120) (hv : ¬ v ≤ 0) : fX4_workOut_102 n (nI k) one xa xb v (nI k) x = some (ez_sI x 8 k v) := by
  unfold fX4_workOut_102
  rw [pz_stI hk (by decide), Option.bind_some, pz_ldI hk (by decide), Option.bind_some, pz_self, if_neg hv]
theorem q_go {n k a b : Nat} {one : Int64} {x : Wd} (hk : k < 120) (h6 : ¬ x.1 3 k = 6) (h5 : ¬ x.1 3 k = 5) : fX4_workOut_102 n (nI k) one (nI a) (nI b) 0 (nI k) x = fX4_workOut_202 n (nI k) one (nI a) (nI b) (ez_sI x 8 k 0) := by
  have e3 : (ez_sI x 8 k 0).1 3 k = x.1 3 k := by simp [pz_sI1]
  unfold fX4_workOut_102
  rw [pz_stI hk (by decide), Option.bind_some, pz_ldI hk (by decide), Option.bind_some, pz_self, if_pos (show (0 : Int32) ≤ 0 by decide), pz_ldI hk (by decide), Option.bind_some, e3, if_neg h6]
  unfold fX4_workOut_160
  rw [pz_ldI hk (by decide), Option.bind_some, e3, if_neg h5]
theorem q_go5 {n k a b : Nat} {one : Int64} {x : Wd} (hk : k < 120) (hb : b < 120) (h5 : x.1 3 k = 5) : fX4_workOut_102 n (nI k) one (nI a) (nI b) 0 (nI k) x = if 0 < (x.2 9 b).toInt ∨ (x.2 10 b).toInt < 0 then fX4_workOut_202 n (nI k) one (nI a) (nI b) (ez_sI x 8 k 0) else some (ez_sI (ez_sI x 8 k 0) 8 k 1) := by
  have e3 : (ez_sI x 8 k 0).1 3 k = 5 := by simp [pz_sI1, h5]
  unfold fX4_workOut_102
  rw [pz_stI hk (by decide), Option.bind_some, pz_ldI hk (by decide), Option.bind_some, pz_self, if_pos (show (0 : Int32) ≤ 0 by decide), pz_ldI hk (by decide), Option.bind_some, e3, if_neg (by decide)]
  unfold fX4_workOut_160
  rw [pz_ldI hk (by decide), Option.bind_some, e3, if_pos rfl, pz_ldL hb (by decide), Option.bind_some, pz_sI2]
  by_cases h1 : 0 < (x.2 9 b).toInt
  · rw [if_pos (by rw [lg_cmp_gt, aL_lt, i0]; exact h1), if_pos (Or.inl h1)]
  · rw [if_neg (by rw [lg_cmp_gt, aL_lt, i0]; exact h1), pz_ldL hb (by decide), Option.bind_some, pz_sI2]
    by_cases h2 : (x.2 10 b).toInt < 0
    · rw [if_pos (by rw [lg_cmp_lt, aL_lt, i0]; exact h2), if_pos (Or.inr h2)]
    · rw [if_neg (by rw [lg_cmp_lt, aL_lt, i0]; exact h2), if_neg (by omega), pz_stI hk (by decide)]
      rfl
theorem q_go6 {n k a b : Nat} {one : Int64} {x : Wd} (hk : k < 120) (ha : a < 120) (h6 : x.1 3 k = 6) : fX4_workOut_102 n (nI k) one (nI a) (nI b) 0 (nI k) x = if 0 ≤ (x.2 9 a).toInt then fX4_workOut_202 n (nI k) one (nI a) (nI b) (ez_sI x 8 k 0) else if 0 ≤ (x.2 10 a).toInt then some (ez_sI (ez_sI x 8 k 0) 8 k 1) else some (ez_sI (ez_sI x 8 k 0) 8 k 2) := by
  have e3 : (ez_sI x 8 k 0).1 3 k = 6 := by simp [pz_sI1, h6]
  unfold fX4_workOut_102
  rw [pz_stI hk (by decide), Option.bind_some, pz_ldI hk (by decide), Option.bind_some, pz_self, if_pos (show (0 : Int32) ≤ 0 by decide), pz_ldI hk (by decide), Option.bind_some, e3, if_pos rfl, pz_ldL ha (by decide), Option.bind_some, pz_sI2]
  by_cases h1 : 0 ≤ (x.2 9 a).toInt
  · rw [if_pos (by rw [lg_cmp_ge, aL_le, i0]; exact h1), if_pos h1]
    unfold fX4_workOut_160
    rw [pz_ldI hk (by decide), Option.bind_some, e3, if_neg (by decide)]
  · rw [if_neg (by rw [lg_cmp_ge, aL_le, i0]; exact h1), if_neg h1, pz_ldL ha (by decide), Option.bind_some, pz_sI2]
    by_cases h2 : 0 ≤ (x.2 10 a).toInt
    · rw [if_pos (by rw [lg_cmp_ge, aL_le, i0]; exact h2), if_pos h2, pz_stI hk (by decide)]
      rfl
    · rw [if_neg (by rw [lg_cmp_ge, aL_le, i0]; exact h2), if_neg h2, pz_stI hk (by decide)]
      rfl
theorem atW_s (w : Wd) (k : Nat) (v : Int32) : atW k w (ez_sI w 10 k v) := ⟨fun c j h => by rw [pz_sI1, if_neg (fun q => h q.1 q.2)], fun _ _ _ => rfl⟩
theorem atX_s (x : Wd) (k : Nat) (v : Int32) : atX k x (ez_sI x 8 k v) := ⟨fun c j h => by rw [pz_sI1, if_neg (fun q => h q.1 q.2)], fun _ _ _ => rfl⟩
theorem atX_s2 (x : Wd) (k : Nat) (u v : Int32) : atX k x (ez_sI (ez_sI x 8 k u) 8 k v) := ⟨fun c j h => by rw [pz_sI1, if_neg (fun q => h q.1 q.2), pz_sI1, if_neg (fun q => h q.1 q.2)], fun _ _ _ => rfl⟩
theorem spn_f (w x : Wd) (k : Nat) (B : Int) : spn (ez_sI w 10 k 1) (ez_sI x 8 k 2) k B := Or.inr (Or.inl ⟨by rw [pz_sI1, if_pos ⟨rfl, rfl⟩], by rw [pz_sI1, if_pos ⟨rfl, rfl⟩]⟩)
theorem spn_o (w x : Wd) (k : Nat) (B : Int) : spn (ez_sI w 10 k 2) (ez_sI x 8 k 1) k B := Or.inr (Or.inr ⟨by rw [pz_sI1, if_pos ⟨rfl, rfl⟩], by rw [pz_sI1, if_pos ⟨rfl, rfl⟩]⟩)
/-- what a state says -/
theorem st_f (n : Nat) {w : Wd} {a : Nat} (ha : a < 80) (h : w.1 10 a = 1) : fX2_isFalse n (nI a) w = some 1 ∧ fX2_isOpen n (nI a) w = some 0 := by
  rw [p_false n w ha, p_open n w ha, h]
  exact ⟨rfl, rfl⟩
theorem st_o (n : Nat) {w : Wd} {a : Nat} (ha : a < 80) (h : w.1 10 a = 2) : fX2_isFalse n (nI a) w = some 0 ∧ fX2_isOpen n (nI a) w = some 1 := by
  rw [p_false n w ha, p_open n w ha, h]
  exact ⟨rfl, rfl⟩
theorem st_s (n : Nat) {w : Wd} {a : Nat} (ha : a < 80) (h : w.1 10 a = 0) : fX2_isFalse n (nI a) w = some 0 ∧ fX2_isOpen n (nI a) w = some 0 := by
  rw [p_false n w ha, p_open n w ha, h]
  exact ⟨rfl, rfl⟩
theorem work1 {L : List P4} (hL : L.length ≤ 80) (hok : okL L) {k s n : Nat} (hs : s ≤ 18) {one : Int64} (ho : one.toInt = 2 ^ s) (hn : 60 ≤ n) {w x : Wd} (hw4 : w.1 0 4 = nI s) (hsw : stoW w L) (hsx : stoX x L) {p : P4} (hp : L[k]? = some p) (ops : ∀ a, a < k → (p.2.2.1 = nI a ∨ p.2.2.2 = nI a) → spn w x a (4096 * 2 ^ s)) : ∃ w' x', fX2_workOutPart n (nI k) w = some w' ∧ fX4_workOut n (nI k) one x = some x' ∧ atW k w w' ∧ atX k x x' ∧ spn w' x' k (4096 * 2 ^ s) := by
  have hk : k < L.length := by
    rcases Nat.lt_or_ge k L.length with h | h
    · exact h
    · rw [List.getElem?_eq_none h] at hp; cases hp
  obtain ⟨p1, p2⟩ := pow_le18 hs
  have hk8 : k < 80 := by omega
  obtain ⟨w5, w6, w7, w8⟩ := hsw.2 k p hk8 hp
  obtain ⟨x3, x4, x5⟩ := hsx.2 k p hp
  have f1 : fX0_firstOf n (nI k) w = some p.2.2.1 := by rw [p_first n w hk8, w7]
  have f2 : fX0_secondOf n (nI k) w = some p.2.2.2 := by rw [p_second n w hk8, w8]
  rcases hok k p hp with ⟨v, hv, rfl⟩ | ⟨sc, a, hsc, ha, rfl⟩ | ⟨sc, a, b, hsc, ha, hb, rfl⟩
  · -- a whole number
    have hv1 : (nI v).toInt64 = lN v := aL_i2l (by omega)
    have ev : (lN v).toInt = (v : Int) := pk_lT (by omega)
    have hbv : 0 ≤ (v : Int) * 2 ^ s ∧ (v : Int) * 2 ^ s ≤ 999 * 2 ^ s := ⟨Int.mul_nonneg (by omega) (by omega), Int.mul_le_mul_of_nonneg_right (by omega) (by omega)⟩
    have e1 : (lN v <<< (Int32.toInt64 (nI s) &&& 63)).toInt = (v : Int) * 2 ^ s := by
      have := (shl_int hs (a := lN v) (by omega)).1
      rw [this, ev]
    have e2 : (lN v * one).toInt = (v : Int) * 2 ^ s := by
      rw [aL_mul] <;> rw [ev, ho] <;> omega
    have ee : lN v * one = lN v <<< (Int32.toInt64 (nI s) &&& 63) := Int64.toInt_inj.mp (by rw [e1, e2])
    refine ⟨spW w k 0 (lN v <<< (Int32.toInt64 (nI s) &&& 63)) (lN v <<< (Int32.toInt64 (nI s) &&& 63)), ez_sL (ez_sL (ez_sI x 8 k 0) 9 k (lN v * one)) 10 k (lN v * one), ?_, ?_, atW_sp _ _ _ _ _, ⟨fun c j h => ?_, fun c j h => ?_⟩, ?_⟩
    · rw [c_e f1 f2 hk8 (p_falseN n w) (p_falseN n w) (p_openN n w) (p_openN n w), w5]
      unfold disp
      rw [if_pos (show (pWh (nI v)).1 = 0 from rfl), p_value n w hk8, w6, Option.bind_some]
      unfold fX2_setWhole
      rw [hw4, show (pWh (nI v)).2.1 = nI v from rfl, hv1, p_setSpan n w _ _ hk8 hs hw4, e1, if_neg (by omega)]
      rfl
    · unfold fX4_workOut
      rw [pz_ldI (by omega) (by decide), Option.bind_some, x3, if_pos (show mS (pWh (nI v)) = 0 from rfl), pz_stI (by omega) (by decide), Option.bind_some, pz_ldI (by omega) (by decide), Option.bind_some]
      have e4 : (ez_sI x 8 k 0).1 4 k = nI v := by
        have : mA (pWh (nI v)) = nI v := rfl
        simp [pz_sI1, x4, this]
      rw [e4, hv1, pz_stL (by omega) (by decide), Option.bind_some, pz_ldI (by omega) (by decide), Option.bind_some, pz_sL1, e4, hv1, pz_stL (by omega) (by decide)]
      rfl
    · show (ez_sI x 8 k 0).1 c j = _
      rw [pz_sI1, if_neg (fun q => h q.1 q.2)]
    · rw [pz_sL2, if_neg (fun q => h (Or.inr q.1) q.2), pz_sL2, if_neg (fun q => h (Or.inl q.1) q.2)]
      rfl
    · obtain ⟨v1, v2, v3⟩ := spW_vals w k 0 (lN v <<< (Int32.toInt64 (nI s) &&& 63)) (lN v <<< (Int32.toInt64 (nI s) &&& 63))
      refine Or.inl ⟨v1, ?_, ?_, ?_, ?_, ?_, ?_⟩
      · show (ez_sI x 8 k 0).1 8 k = 0
        rw [pz_sI1, if_pos ⟨rfl, rfl⟩]
      · rw [v2]
        simp [pz_sL2, ee]
      · rw [v3]
        simp [pz_sL2, ee]
      · rw [v2, v3]
        exact Int.le_refl _
      · rw [v2, e1]; omega
      · rw [v3, e1]; omega
  · -- one operand
    have x3' : ¬ x.1 3 k = 0 := by
      rw [x3, show mS (pUn sc (nI a)) = mS (pUn sc 0) from rfl]
      rcases hsc with h | h | h <;> rw [h] <;> decide
    have x4' : x.1 4 k = nI a := by rw [x4]; rcases hsc with h | h | h <;> rw [h] <;> rfl
    have x5' : x.1 5 k = nI a := by rw [x5]; rcases hsc with h | h | h <;> rw [h] <;> rfl
    have f1' : fX0_firstOf n (nI k) w = some (nI a) := f1
    have f2' : fX0_secondOf n (nI k) w = some (-1) := f2
    have ha8 : a < 80 := by omega
    rw [q_wo (by omega) (by omega) (by omega) x3' x4' x5']
    rcases ops a ha (Or.inl rfl) with ⟨g1, g2, g3, g4, g5, g6, g7⟩ | ⟨g1, g2⟩ | ⟨g1, g2⟩
    · obtain ⟨t1, t2⟩ := st_s n ha8 g1
      have sa : sp1 w x a := ⟨g3, g4, g5, by omega, by omega⟩
      rw [g2, if_pos (by decide), c_e f1' f2' hk8 t1 (p_falseN n w) t2 (p_openN n w), w5]
      rcases hsc with rfl | rfl | rfl
      · have hx3 : x.1 3 k = 1 := x3
        rw [q_go (by omega) (by rw [hx3]; decide) (by rw [hx3]; decide)]
        have hd : disp n k w (nI a) (-1) (pUn 1 (nI a)).1 = fX2_setSpan n (nI k) (-(w.2 12 a)) (-(w.2 11 a)) w := by
          show disp n k w (nI a) (-1) 1 = _
          unfold disp
          rw [if_neg (by decide), if_pos rfl, p_high n w ha8, p_low n w ha8]
          rfl
        rw [hd]
        exact s_neg hk8 hs ho hw4 ha (by omega) sa hx3
      · have hx3 : x.1 3 k = 7 := x3
        rw [q_go (by omega) (by rw [hx3]; decide) (by rw [hx3]; decide)]
        have hd : disp n k w (nI a) (-1) (pUn 6 (nI a)).1 = fX2_square n (nI k) (nI a) w := by
          show disp n k w (nI a) (-1) 6 = _
          unfold disp
          rw [if_neg (by decide), if_neg (by decide), if_neg (by decide), if_neg (by decide), if_neg (by decide), if_neg (by decide), if_pos rfl]
        rw [hd]
        exact s_sqr hk8 hs ho hw4 ha (by omega) sa hx3
      · have hx3 : x.1 3 k = 6 := x3
        have hd : disp n k w (nI a) (-1) (pUn 7 (nI a)).1 = fX2_takeRoot n (nI k) (nI a) w := by
          show disp n k w (nI a) (-1) 7 = _
          unfold disp
          rw [if_neg (by decide), if_neg (by decide), if_neg (by decide), if_neg (by decide), if_neg (by decide), if_neg (by decide), if_neg (by decide)]
        rw [hd, q_go6 (by omega) (by omega) hx3, ← g3, ← g4]
        by_cases h1 : 0 ≤ (w.2 11 a).toInt
        · rw [if_pos h1]
          exact s_root hk8 hs ho hw4 ha (by omega) sa hx3 h1
        · rw [if_neg h1]
          have htr : fX2_takeRoot n (nI k) (nI a) w = if 0 ≤ (w.2 12 a).toInt then some (ez_sI w 10 k 2) else some (ez_sI w 10 k 1) := by
            unfold fX2_takeRoot
            rw [p_high n w ha8, Option.bind_some]
            by_cases h2 : 0 ≤ (w.2 12 a).toInt
            · rw [if_pos (by rw [lg_cmp_ge, aL_le, i0]; exact h2), p_low n w ha8, Option.bind_some, if_neg (by rw [lg_cmp_ge, aL_le, i0]; exact h1), p_setState n w 2 hk8, if_pos h2]
              rfl
            · rw [if_neg (by rw [lg_cmp_ge, aL_le, i0]; exact h2), p_setState n w 1 hk8, if_neg h2]
              rfl
          rw [htr]
          by_cases h2 : 0 ≤ (w.2 12 a).toInt
          · rw [if_pos h2, if_pos h2]
            exact ⟨_, _, rfl, rfl, atW_s _ _ _, atX_s2 _ _ _ _, spn_o _ _ _ _⟩
          · rw [if_neg h2, if_neg h2]
            exact ⟨_, _, rfl, rfl, atW_s _ _ _, atX_s2 _ _ _ _, spn_f _ _ _ _⟩
    · obtain ⟨t1, t2⟩ := st_f n ha8 g1
      rw [g2, if_pos (by decide), c_a f1' f2' hk8 t1, q_stop (by omega) (by decide)]
      exact ⟨_, _, rfl, rfl, atW_s _ _ _, atX_s _ _ _, spn_f _ _ _ _⟩
    · obtain ⟨t1, t2⟩ := st_o n ha8 g1
      rw [g2, if_pos (by decide), c_c f1' f2' hk8 t1 (p_falseN n w) t2, q_stop (by omega) (by decide)]
      exact ⟨_, _, rfl, rfl, atW_s _ _ _, atX_s _ _ _, spn_o _ _ _ _⟩
  · -- two operands
    have x3' : ¬ x.1 3 k = 0 := by
      rw [x3, show mS (pBi sc (nI a) (nI b)) = mS (pBi sc 0 0) from rfl]
      rcases hsc with h | h | h | h <;> rw [h] <;> decide
    have x4' : x.1 4 k = nI a := by rw [x4]; rcases hsc with h | h | h | h <;> rw [h] <;> rfl
    have x5' : x.1 5 k = nI b := by rw [x5]; rcases hsc with h | h | h | h <;> rw [h] <;> rfl
    have f1' : fX0_firstOf n (nI k) w = some (nI a) := f1
    have f2' : fX0_secondOf n (nI k) w = some (nI b) := f2
    have ha8 : a < 80 := by omega
    have hb8 : b < 80 := by omega
    rw [q_wo (by omega) (by omega) (by omega) x3' x4' x5']
    rcases ops a ha (Or.inl rfl) with ⟨g1, g2, g3, g4, g5, g6, g7⟩ | ⟨g1, g2⟩ | ⟨g1, g2⟩
    · obtain ⟨t1, t2⟩ := st_s n ha8 g1
      have sa : sp1 w x a := ⟨g3, g4, g5, by omega, by omega⟩
      rcases ops b hb (Or.inr rfl) with ⟨k1, k2, k3, k4, k5, k6, k7⟩ | ⟨k1, k2⟩ | ⟨k1, k2⟩
      · obtain ⟨v1, v2⟩ := st_s n hb8 k1
        have sb : sp1 w x b := ⟨k3, k4, k5, by omega, by omega⟩
        rw [g2, k2, if_pos (by decide), c_e f1' f2' hk8 t1 v1 t2 v2, w5]
        rcases hsc with rfl | rfl | rfl | rfl
        · have hx3 : x.1 3 k = 2 := x3
          rw [q_go (by omega) (by rw [hx3]; decide) (by rw [hx3]; decide)]
          have hd : disp n k w (nI a) (nI b) (pBi 2 (nI a) (nI b)).1 = fX2_setSpan n (nI k) (w.2 11 a + w.2 11 b) (w.2 12 a + w.2 12 b) w := by
            show disp n k w (nI a) (nI b) 2 = _
            unfold disp
            rw [if_neg (by decide), if_neg (by decide), if_pos rfl, p_high n w ha8, p_low n w ha8, p_high n w hb8, p_low n w hb8]
            rfl
          rw [hd]
          exact s_sum hk8 hs ho hw4 ha hb (by omega) sa sb hx3
        · have hx3 : x.1 3 k = 3 := x3
          rw [q_go (by omega) (by rw [hx3]; decide) (by rw [hx3]; decide)]
          have hd : disp n k w (nI a) (nI b) (pBi 3 (nI a) (nI b)).1 = fX2_setSpan n (nI k) (w.2 11 a - w.2 12 b) (w.2 12 a - w.2 11 b) w := by
            show disp n k w (nI a) (nI b) 3 = _
            unfold disp
            rw [if_neg (by decide), if_neg (by decide), if_neg (by decide), if_pos rfl, p_high n w ha8, p_low n w ha8, p_high n w hb8, p_low n w hb8]
            rfl
          rw [hd]
          exact s_dif hk8 hs ho hw4 ha hb (by omega) sa sb hx3
        · have hx3 : x.1 3 k = 4 := x3
          rw [q_go (by omega) (by rw [hx3]; decide) (by rw [hx3]; decide)]
          have hd : disp n k w (nI a) (nI b) (pBi 4 (nI a) (nI b)).1 = fX2_multiply n (nI k) (nI a) (nI b) w := by
            show disp n k w (nI a) (nI b) 4 = _
            unfold disp
            rw [if_neg (by decide), if_neg (by decide), if_neg (by decide), if_neg (by decide), if_pos rfl]
          rw [hd]
          exact s_mul hk8 hs ho hw4 ha hb (by omega) sa sb hx3
        · have hx3 : x.1 3 k = 5 := x3
          have hd : disp n k w (nI a) (nI b) (pBi 5 (nI a) (nI b)).1 = if 0 < (w.2 11 b).toInt ∨ (w.2 12 b).toInt < 0 then fX2_divide_27 n (nI k) (nI a) (nI b) w else some (ez_sI w 10 k 2) := by
            show disp n k w (nI a) (nI b) 5 = _
            unfold disp
            rw [if_neg (by decide), if_neg (by decide), if_neg (by decide), if_neg (by decide), if_neg (by decide), if_pos rfl]
            unfold fX2_divide
            rw [p_low n w hb8, Option.bind_some]
            by_cases h1 : 0 < (w.2 11 b).toInt
            · rw [if_pos (by rw [lg_cmp_gt, aL_lt, i0]; exact h1), if_pos (Or.inl h1)]
            · rw [if_neg (by rw [lg_cmp_gt, aL_lt, i0]; exact h1), p_high n w hb8, Option.bind_some]
              by_cases h2 : (w.2 12 b).toInt < 0
              · rw [if_pos (by rw [lg_cmp_lt, aL_lt, i0]; exact h2), if_pos (Or.inr h2)]
              · rw [if_neg (by rw [lg_cmp_lt, aL_lt, i0]; exact h2), if_neg (by omega), p_setState n w 2 hk8]
                rfl
          rw [hd, q_go5 (by omega) (by omega) hx3, ← k3, ← k4]
          by_cases hz : 0 < (w.2 11 b).toInt ∨ (w.2 12 b).toInt < 0
          · rw [if_pos hz, if_pos hz]
            exact s_div hk8 hs ho hw4 ha hb (by omega) sa sb hx3 hz
          · rw [if_neg hz, if_neg hz]
            exact ⟨_, _, rfl, rfl, atW_s _ _ _, atX_s2 _ _ _ _, spn_o _ _ _ _⟩
      · obtain ⟨v1, v2⟩ := st_f n hb8 k1
        rw [g2, k2, if_pos (by decide), c_b f1' f2' hk8 t1 v1, q_stop (by omega) (by decide)]
        exact ⟨_, _, rfl, rfl, atW_s _ _ _, atX_s _ _ _, spn_f _ _ _ _⟩
      · obtain ⟨v1, v2⟩ := st_o n hb8 k1
        rw [g2, k2, if_pos (by decide), c_d f1' f2' hk8 t1 v1 t2 v2, q_stop (by omega) (by decide)]
        exact ⟨_, _, rfl, rfl, atW_s _ _ _, atX_s _ _ _, spn_o _ _ _ _⟩
    · obtain ⟨t1, t2⟩ := st_f n ha8 g1
      have hm : (if x.1 8 a ≤ x.1 8 b then x.1 8 b else x.1 8 a) = 2 := by
        rcases ops b hb (Or.inr rfl) with ⟨k1, k2, -⟩ | ⟨k1, k2⟩ | ⟨k1, k2⟩ <;> rw [g2, k2] <;> decide
      rw [hm, c_a f1' f2' hk8 t1, q_stop (by omega) (by decide)]
      exact ⟨_, _, rfl, rfl, atW_s _ _ _, atX_s _ _ _, spn_f _ _ _ _⟩
    · obtain ⟨t1, t2⟩ := st_o n ha8 g1
      rcases ops b hb (Or.inr rfl) with ⟨k1, k2, -⟩ | ⟨k1, k2⟩ | ⟨k1, k2⟩
      · obtain ⟨v1, v2⟩ := st_s n hb8 k1
        rw [g2, k2, if_neg (by decide), c_c f1' f2' hk8 t1 v1 t2, q_stop (by omega) (by decide)]
        exact ⟨_, _, rfl, rfl, atW_s _ _ _, atX_s _ _ _, spn_o _ _ _ _⟩
      · obtain ⟨v1, v2⟩ := st_f n hb8 k1
        rw [g2, k2, if_pos (by decide), c_b f1' f2' hk8 t1 v1, q_stop (by omega) (by decide)]
        exact ⟨_, _, rfl, rfl, atW_s _ _ _, atX_s _ _ _, spn_f _ _ _ _⟩
      · obtain ⟨v1, v2⟩ := st_o n hb8 k1
        rw [g2, k2, if_pos (by decide), c_c f1' f2' hk8 t1 v1 t2, q_stop (by omega) (by decide)]
        exact ⟨_, _, rfl, rfl, atW_s _ _ _, atX_s _ _ _, spn_o _ _ _ _⟩
