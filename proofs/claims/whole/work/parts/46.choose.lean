/-! choosing the parts -/
theorem bz1 : vp_nar .boolean 1 = 1 := by decide
theorem bz0 : vp_nar .boolean 0 = 0 := by decide
theorem p_has (n : Nat) {a : Nat} (h : a < 80) : fX0_has n (nI a) = some 1 := by
  unfold fX0_has
  rw [if_neg (nI_pos (by omega)), if_neg (show ¬ (80 : Int32) ≤ nI a from nI_ge (b := 80) h (by omega))]
theorem p_hasN (n : Nat) : fX0_has n (-1) = some 0 := by
  unfold fX0_has
  rw [if_pos (by decide)]
theorem p_first (n : Nat) (w : Wd) {a : Nat} (h : a < 80) : fX0_firstOf n (nI a) w = some (w.1 7 a) := by
  unfold fX0_firstOf
  rw [p_has n h, pz_ldI h (by decide)]
  rfl
theorem p_second (n : Nat) (w : Wd) {a : Nat} (h : a < 80) : fX0_secondOf n (nI a) w = some (w.1 8 a) := by
  unfold fX0_secondOf
  rw [p_has n h, pz_ldI h (by decide)]
  rfl
theorem p_sort (n : Nat) (w : Wd) {a : Nat} (h : a < 80) : fX0_sortOf n (nI a) w = some (w.1 5 a) := by
  unfold fX0_sortOf
  rw [p_has n h, pz_ldI h (by decide)]
  rfl
theorem p_value (n : Nat) (w : Wd) {a : Nat} (h : a < 80) : fX0_valueOf n (nI a) w = some (w.1 6 a) := by
  unfold fX0_valueOf
  rw [p_has n h, pz_ldI h (by decide)]
  rfl
theorem p_chop (n : Nat) (w : Wd) {a : Nat} (h : a < 80) : fX2_chooseOperand n (nI a) w = some (ez_sI w 9 a 1) := by
  unfold fX2_chooseOperand
  rw [p_has n h, pz_stI h (by decide), bz1]
  rfl
theorem p_chopN (n : Nat) (w : Wd) : fX2_chooseOperand n (-1) w = some w := by
  unfold fX2_chooseOperand
  rw [p_hasN]
  rfl
/-- nothing but the marks changed -/
def mkW (w w' : Wd) : Prop := (∀ c j, c ≠ 9 → w'.1 c j = w.1 c j) ∧ w'.2 = w.2
def mkX (x x' : Wd) : Prop := (∀ c j, c ≠ 11 → x'.1 c j = x.1 c j) ∧ x'.2 = x.2
theorem mkW.rf {w : Wd} : mkW w w := ⟨fun _ _ _ => rfl, rfl⟩
theorem mkX.rf {w : Wd} : mkX w w := ⟨fun _ _ _ => rfl, rfl⟩
theorem mkW.tr {a b c : Wd} (h : mkW a b) (g : mkW b c) : mkW a c := ⟨fun i j hi => (g.1 i j hi).trans (h.1 i j hi), g.2.trans h.2⟩
theorem mkX.tr {a b c : Wd} (h : mkX a b) (g : mkX b c) : mkX a c := ⟨fun i j hi => (g.1 i j hi).trans (h.1 i j hi), g.2.trans h.2⟩
theorem mkW.st (w : Wd) (i : Nat) (v : Int32) : mkW w (ez_sI w 9 i v) := ⟨fun c j hc => by simp [pz_sI1, hc], rfl⟩
theorem mkX.st (w : Wd) (i : Nat) (v : Int32) : mkX w (ez_sI w 11 i v) := ⟨fun c j hc => by simp [pz_sI1, hc], rfl⟩
theorem mkW.sto {w w' : Wd} {L : List P4} (h : mkW w w') (g : stoW w L) : stoW w' L := stoW_of g (h.1 _ _ (by decide)) (fun i => h.1 _ _ (by decide)) (fun i => h.1 _ _ (by decide)) (fun i => h.1 _ _ (by decide)) (fun i => h.1 _ _ (by decide))
theorem mkX.sto {w w' : Wd} {L : List P4} (h : mkX w w') (g : stoX w L) : stoX w' L := stoX_of g (h.1 _ _ (by decide)) (fun i => h.1 _ _ (by decide)) (fun i => h.1 _ _ (by decide)) (fun i => h.1 _ _ (by decide))
theorem ch_init (a b : Nat) (ha : a < 80) (hb : b < 80) : ∀ (k i n : Nat) (w : Wd), i + k = 80 → k < n → ∃ w', fX2_choose_3 n (nI a) (nI b) (nI i) w = fX2_choose_47 (n - k - 1) 0 79 w' ∧ (∀ j, i ≤ j → j < 80 → w'.1 9 j = if j = a ∨ j = b then 1 else 0) ∧ (∀ j, j < i → w'.1 9 j = w.1 9 j) ∧ mkW w w'
  | k, i, 0, w, _, hn => by omega
  | 0, i, n + 1, w, hi, _ => by
    have e : i = 80 := by omega
    subst e
    rw [fX2_choose_3, if_pos (show (80 : Int32) ≤ nI 80 from nI_le (a := 80) (b := 80) (by omega) (by omega))]
    exact ⟨w, rfl, fun j h1 h2 => by omega, fun j _ => rfl, mkW.rf⟩
  | k + 1, i, n + 1, w, hi, hn => by
    rw [fX2_choose_3, if_neg (show ¬ (80 : Int32) ≤ nI i from nI_ge (b := 80) (by omega) (by omega)), pz_stI (by omega) (by decide), pz_stI (by omega) (by decide), bz1, bz0, nI_1]
    have ea : (nI i = nI a) ↔ i = a := nI_eq (by omega) (by omega)
    have eb : (nI i = nI b) ↔ i = b := nI_eq (by omega) (by omega)
    have go : ∀ v : Int32, v = (if i = a ∨ i = b then 1 else 0) → ∃ w', fX2_choose_3 n (nI a) (nI b) (nI (i + 1)) (ez_sI w 9 i v) = fX2_choose_47 (n + 1 - (k + 1) - 1) 0 79 w' ∧ (∀ j, i ≤ j → j < 80 → w'.1 9 j = if j = a ∨ j = b then 1 else 0) ∧ (∀ j, j < i → w'.1 9 j = w.1 9 j) ∧ mkW w w' := by
      intro v hv
      obtain ⟨w', e, h1, h2, h3⟩ := ch_init a b ha hb k (i + 1) n (ez_sI w 9 i v) (by omega) (by omega)
      refine ⟨w', by rw [e, show n + 1 - (k + 1) - 1 = n - k - 1 by omega], fun j hj h8 => ?_, fun j hj => ?_, (mkW.st w i v).tr h3⟩
      · by_cases hji : j = i
        · rw [h2 j (by omega), hji, pz_sI1, if_pos ⟨rfl, rfl⟩, hv]
        · exact h1 j (by omega) h8
      · rw [h2 j (by omega), pz_sI1, if_neg (by omega)]
    by_cases h1 : i = a
    · rw [if_pos (ea.mpr h1)]
      exact go 1 (by rw [if_pos (Or.inl h1)])
    · rw [if_neg (fun q => h1 (ea.mp q))]
      by_cases h2 : i = b
      · rw [if_pos (eb.mpr h2)]
        exact go 1 (by rw [if_pos (Or.inr h2)])
      · rw [if_neg (fun q => h2 (eb.mp q))]
        exact go 0 (by rw [if_neg (by omega)])
theorem sp_init (a : Nat) (y : Int32) (ha : a < 120) : ∀ (k i n : Nat) (x : Wd), i + k = 120 → k < n → ∃ x', fX4_spread_2 n (nI a) y (nI i) x = fX4_spread_45 (n - k - 1) 0 ((x'.1 0 1) - 1) x' ∧ (∀ j, i ≤ j → j < 120 → x'.1 11 j = if j = a ∨ nI j = y then 1 else 0) ∧ (∀ j, j < i → x'.1 11 j = x.1 11 j) ∧ mkX x x'
  | k, i, 0, x, _, hn => by omega
  | 0, i, n + 1, x, hi, _ => by
    have e : i = 120 := by omega
    subst e
    rw [fX4_spread_2, if_pos (show (120 : Int32) ≤ nI 120 from nI_le (a := 120) (b := 120) (by omega) (by omega))]
    exact ⟨x, rfl, fun j h1 h2 => by omega, fun j _ => rfl, mkX.rf⟩
  | k + 1, i, n + 1, x, hi, hn => by
    rw [fX4_spread_2, if_neg (show ¬ (120 : Int32) ≤ nI i from nI_ge (b := 120) (by omega) (by omega)), pz_stI (by omega) (by decide), pz_stI (by omega) (by decide), bz1, bz0, nI_1]
    have ea : (nI i = nI a) ↔ i = a := nI_eq (by omega) (by omega)
    have go : ∀ v : Int32, v = (if i = a ∨ nI i = y then 1 else 0) → ∃ x', fX4_spread_2 n (nI a) y (nI (i + 1)) (ez_sI x 11 i v) = fX4_spread_45 (n + 1 - (k + 1) - 1) 0 ((x'.1 0 1) - 1) x' ∧ (∀ j, i ≤ j → j < 120 → x'.1 11 j = if j = a ∨ nI j = y then 1 else 0) ∧ (∀ j, j < i → x'.1 11 j = x.1 11 j) ∧ mkX x x' := by
      intro v hv
      obtain ⟨w', e, h1, h2, h3⟩ := sp_init a y ha k (i + 1) n (ez_sI x 11 i v) (by omega) (by omega)
      refine ⟨w', by rw [e, show n + 1 - (k + 1) - 1 = n - k - 1 by omega], fun j hj h8 => ?_, fun j hj => ?_, (mkX.st x i v).tr h3⟩
      · by_cases hji : j = i
        · rw [h2 j (by omega), hji, pz_sI1, if_pos ⟨rfl, rfl⟩, hv]
        · exact h1 j (by omega) h8
      · rw [h2 j (by omega), pz_sI1, if_neg (by omega)]
    by_cases h1 : i = a
    · rw [if_pos (ea.mpr h1)]
      exact go 1 (by rw [if_pos (Or.inl h1)])
    · rw [if_neg (fun q => h1 (ea.mp q))]
      by_cases h2 : nI i = y
      · rw [if_pos h2]
        exact go 1 (by rw [if_pos (Or.inr h2)])
      · rw [if_neg h2]
        exact go 0 (by rw [if_neg (by intro q; rcases q with q | q <;> contradiction)])
theorem ix_lt (k : Nat) (hk : k < 2147483648) : ¬ (nI (k + 1) + (-1)) < 0 := by rw [pk_m1]; exact nI_pos (by omega)
theorem ix_0 : nI 0 + (-1) < 0 := by decide
/-- the class walks from the last place, where nothing is marked -/
theorem ch_skip (c : Nat) : ∀ (k n : Nat) (r : Int32) (w : Wd), c ≤ k → k ≤ 80 → k - c < n → (∀ j, c ≤ j → j < 80 → w.1 9 j = 0) → fX2_choose_47 n r (nI k + (-1)) w = fX2_choose_47 (n - (k - c)) r (nI c + (-1)) w
  | k, 0, r, w, _, _, hn, _ => by omega
  | 0, n + 1, r, w, h1, _, _, _ => by
    have e : c = 0 := by omega
    subst e
    rfl
  | k + 1, n + 1, r, w, h1, h2, hn, hz => by
    by_cases hc : c = k + 1
    · subst hc
      rw [Nat.sub_self, Nat.sub_zero]
    · rw [fX2_choose_47, if_neg (ix_lt k (by omega)), pk_m1, pz_ldI (by omega) (by decide), hz k (by omega) (by omega), Option.bind_some]
      rw [if_pos rfl, ch_skip c k n r w (by omega) (by omega) (by omega) hz, show n + 1 - (k + 1 - c) = n - (k - c) by omega]
abbrev mk01 (v : Int32) : Prop := v = 0 ∨ v = 1
/-- the marked parts' operands are marked -/
def closed (w : Wd) (L : List P4) : Prop := ∀ (i : Nat) (p : P4), L[i]? = some p → w.1 9 i = 1 → (∀ a, a < i → p.2.2.1 = nI a → w.1 9 a = 1) ∧ (∀ a, a < i → p.2.2.2 = nI a → w.1 9 a = 1)
theorem ch_sim {L : List P4} (hL : L.length ≤ 80) (hok : okL L) : ∀ (k n m : Nat) (r : Int32) (w x : Wd), k ≤ L.length → k < n → k < m → stoW w L → stoX x L → (∀ j, j < 80 → w.1 9 j = x.1 11 j ∧ mk01 (w.1 9 j)) → ∃ r' w' x', fX2_choose_47 n r (nI k + (-1)) w = some (r', w') ∧ fX4_spread_45 m r (nI k + (-1)) x = some (r', x') ∧ mkW w w' ∧ mkX x x' ∧ (∀ j, j < 80 → w'.1 9 j = x'.1 11 j ∧ mk01 (w'.1 9 j)) ∧ (∀ j, w.1 9 j = 1 → w'.1 9 j = 1) ∧ (∀ j, k ≤ j → w'.1 9 j = w.1 9 j) ∧ (∀ (i : Nat) (p : P4), i < k → L[i]? = some p → w'.1 9 i = 1 → (∀ a, a < i → p.2.2.1 = nI a → w'.1 9 a = 1) ∧ (∀ a, a < i → p.2.2.2 = nI a → w'.1 9 a = 1))
  | k, 0, m, r, w, x, _, hn, _, _, _, _ => by omega
  | k, n, 0, r, w, x, _, _, hm, _, _, _ => by omega
  | 0, n + 1, m + 1, r, w, x, _, _, _, hw, hx, hm => by
    rw [fX2_choose_47, fX4_spread_45, if_pos ix_0, if_pos ix_0]
    exact ⟨r, w, x, rfl, rfl, mkW.rf, mkX.rf, hm, fun j h => h, fun j _ => rfl, fun i p hi => by omega⟩
  | k + 1, n + 1, m + 1, r, w, x, hk, hn, hm, hw, hx, hmk => by
    obtain ⟨p, hp⟩ : ∃ p, L[k]? = some p := ⟨L[k], List.getElem?_eq_getElem (by omega)⟩
    obtain ⟨w5, w6, w7, w8⟩ := hw.2 k p (by omega) hp
    obtain ⟨x3, x4, x5⟩ := hx.2 k p hp
    have hpk := hok k p hp
    rw [fX2_choose_47, fX4_spread_45, if_neg (ix_lt k (by omega)), if_neg (ix_lt k (by omega)), pk_m1, pz_ldI (by omega) (by decide), pz_ldI (by omega) (by decide), pz_ldI (by omega) (by decide), pz_ldI (by omega) (by decide), ← (hmk k (by omega)).1, p_first _ _ (by omega), w7, x3, x4]
    simp only [Option.bind_some]
    rcases (hmk k (by omega)).2 with h0 | h1
    · rw [if_pos h0, if_pos h0]
      obtain ⟨r', w', x', e1, e2, a1, a2, a3, a4, a5, a6⟩ := ch_sim hL hok k n m r w x (by omega) (by omega) (by omega) hw hx hmk
      refine ⟨r', w', x', e1, e2, a1, a2, a3, a4, fun j hj => a5 j (by omega), fun i q hi hq hm1 => ?_⟩
      by_cases hik : i = k
      · subst hik
        rw [a5 i (Nat.le_refl _), h0] at hm1
        exact absurd hm1 (by decide)
      · exact a6 i q (by omega) hq hm1
    · have h1' : ¬ w.1 9 k = 0 := by rw [h1]; decide
      rw [if_neg h1', if_neg h1']
      have fin : ∀ (w1 x1 : Wd), mkW w w1 → mkX x x1 → (∀ j, j < 80 → w1.1 9 j = x1.1 11 j ∧ mk01 (w1.1 9 j)) → (∀ j, w.1 9 j = 1 → w1.1 9 j = 1) → (∀ j, k ≤ j → w1.1 9 j = w.1 9 j) → (∀ a, a < k → p.2.2.1 = nI a → w1.1 9 a = 1) → (∀ a, a < k → p.2.2.2 = nI a → w1.1 9 a = 1) → ∃ r' w' x', fX2_choose_47 n (r + 1) (nI k + (-1)) w1 = some (r', w') ∧ fX4_spread_45 m (r + 1) (nI k + (-1)) x1 = some (r', x') ∧ mkW w w' ∧ mkX x x' ∧ (∀ j, j < 80 → w'.1 9 j = x'.1 11 j ∧ mk01 (w'.1 9 j)) ∧ (∀ j, w.1 9 j = 1 → w'.1 9 j = 1) ∧ (∀ j, k + 1 ≤ j → w'.1 9 j = w.1 9 j) ∧ (∀ (i : Nat) (p : P4), i < k + 1 → L[i]? = some p → w'.1 9 i = 1 → (∀ a, a < i → p.2.2.1 = nI a → w'.1 9 a = 1) ∧ (∀ a, a < i → p.2.2.2 = nI a → w'.1 9 a = 1)) := by
        intro w1 x1 b1 b2 b3 b4 b5 b6 b7
        obtain ⟨r', w', x', e1, e2, a1, a2, a3, a4, a5, a6⟩ := ch_sim hL hok k n m (r + 1) w1 x1 (by omega) (by omega) (by omega) (b1.sto hw) (b2.sto hx) b3
        refine ⟨r', w', x', e1, e2, b1.tr a1, b2.tr a2, a3, fun j hj => a4 j (b4 j hj), fun j hj => (a5 j (by omega)).trans (b5 j (by omega)), fun i q hi hq hm1 => ?_⟩
        by_cases hik : i = k
        · subst hik
          rw [hp] at hq
          cases hq
          exact ⟨fun a ha e => a4 a (b6 a ha e), fun a ha e => a4 a (b7 a ha e)⟩
        · exact a6 i q (by omega) hq hm1
      rcases hpk with ⟨v, hv, rfl⟩ | ⟨s, a, hs, ha, rfl⟩ | ⟨s, a, b, hs, ha, hb, rfl⟩
      · have e1 : mS (pWh (nI v)) = 0 := rfl
        have e2 : (pWh (nI v)).2.2.1 = -1 := rfl
        rw [e1, if_pos rfl, e2, p_chopN]
        simp only [Option.bind_some]
        rw [p_second _ _ (by omega), w8]
        simp only [Option.bind_some]
        rw [show (pWh (nI v)).2.2.2 = -1 from rfl, p_chopN]
        simp only [Option.bind_some]
        exact fin w x mkW.rf mkX.rf hmk (fun j h => h) (fun j _ => rfl) (fun a ha e => absurd e.symm (pz_m1 (by omega))) (fun a ha e => absurd e.symm (pz_m1 (by omega)))
      · have e1 : ¬ mS (pUn s (nI a)) = 0 := by rw [show mS (pUn s (nI a)) = mS (pUn s 0) from rfl]; rcases hs with h | h | h <;> rw [h] <;> decide
        have e2 : (pUn s (nI a)).2.2.1 = nI a := rfl
        have e3 : mA (pUn s (nI a)) = nI a := by rcases hs with h | h | h <;> rw [h] <;> rfl
        have e4 : mB (pUn s (nI a)) = nI a := by rcases hs with h | h | h <;> rw [h] <;> rfl
        rw [if_neg e1, e2, p_chop _ _ (by omega), e3, pz_stI (by omega) (by decide), bz1]
        simp only [Option.bind_some]
        rw [p_second _ _ (by omega), pz_ldI (by omega) (by decide), (mkW.st w a 1).1 8 k (by decide), (mkX.st x a 1).1 5 k (by decide), w8, x5, e4]
        simp only [Option.bind_some]
        rw [show (pUn s (nI a)).2.2.2 = -1 from rfl, p_chopN, pz_stI (by omega) (by decide)]
        simp only [Option.bind_some]
        refine fin _ _ (mkW.st w a 1) ((mkX.st x a 1).tr (mkX.st _ a 1)) (fun j hj => ?_) (fun j hj => ?_) (fun j hj => ?_) (fun c hc e => ?_) (fun c hc e => absurd e.symm (pz_m1 (by omega)))
        · have := hmk j hj
          by_cases hja : j = a
          · simp [pz_sI1, hja, mk01]
          · simpa [pz_sI1, hja] using this
        · by_cases hja : j = a
          · simp [pz_sI1, hja]
          · simp [pz_sI1, hja, hj]
        · simp [pz_sI1, show j ≠ a by omega]
        · have : c = a := (pz_inj (by omega) (by omega) e).symm
          simp [pz_sI1, this]
      · have e1 : ¬ mS (pBi s (nI a) (nI b)) = 0 := by rw [show mS (pBi s (nI a) (nI b)) = mS (pBi s 0 0) from rfl]; rcases hs with h | h | h | h <;> rw [h] <;> decide
        have e2 : (pBi s (nI a) (nI b)).2.2.1 = nI a := rfl
        have e3 : mA (pBi s (nI a) (nI b)) = nI a := by rcases hs with h | h | h | h <;> rw [h] <;> rfl
        have e4 : mB (pBi s (nI a) (nI b)) = nI b := by rcases hs with h | h | h | h <;> rw [h] <;> rfl
        rw [if_neg e1, e2, p_chop _ _ (by omega), e3, pz_stI (by omega) (by decide), bz1]
        simp only [Option.bind_some]
        rw [p_second _ _ (by omega), pz_ldI (by omega) (by decide), (mkW.st w a 1).1 8 k (by decide), (mkX.st x a 1).1 5 k (by decide), w8, x5, e4]
        simp only [Option.bind_some]
        rw [show (pBi s (nI a) (nI b)).2.2.2 = nI b from rfl, p_chop _ _ (by omega), pz_stI (by omega) (by decide)]
        simp only [Option.bind_some]
        refine fin _ _ ((mkW.st w a 1).tr (mkW.st _ b 1)) ((mkX.st x a 1).tr (mkX.st _ b 1)) (fun j hj => ?_) (fun j hj => ?_) (fun j hj => ?_) (fun c hc e => ?_) (fun c hc e => ?_)
        · have := hmk j hj
          by_cases hja : j = a
          · simp [pz_sI1, hja, mk01]
          · by_cases hjb : j = b
            · simp [pz_sI1, hjb, mk01]
            · simpa [pz_sI1, hja, hjb] using this
        · by_cases hja : j = a
          · simp [pz_sI1, hja]
          · by_cases hjb : j = b
            · simp [pz_sI1, hjb]
            · simp [pz_sI1, hja, hjb, hj]
        · simp [pz_sI1, show j ≠ a by omega, show j ≠ b by omega]
        · have : c = a := (pz_inj (by omega) (by omega) e).symm
          simp [pz_sI1, this]
        · have : c = b := (pz_inj (by omega) (by omega) e).symm
          simp [pz_sI1, this]
/-- both choose the same parts -/
theorem ch_all {L : List P4} (hL : L.length ≤ 80) (hok : okL L) {n : Nat} (hn : 300 ≤ n) {w x : Wd} (hw : stoW w L) (hx : stoX x L) {a b : Nat} (ha : a < L.length) (hb : b < L.length) (y : Int32) (hy : ∀ j, j < 120 → ((j = a ∨ nI j = y) ↔ (j = a ∨ j = b))) : ∃ r w' x', fX2_choose n (nI a) (nI b) w = some (r, w') ∧ fX4_spread n (nI a) y x = some (r, x') ∧ mkW w w' ∧ mkX x x' ∧ (∀ j, j < 80 → w'.1 9 j = x'.1 11 j ∧ mk01 (w'.1 9 j)) ∧ w'.1 9 a = 1 ∧ w'.1 9 b = 1 ∧ (∀ j, L.length ≤ j → j < 80 → w'.1 9 j = 0) ∧ closed w' L := by
  unfold fX2_choose fX4_spread
  obtain ⟨w1, e1, a1, -, a3⟩ := ch_init a b (by omega) (by omega) 80 0 n w (by omega) (by omega)
  obtain ⟨x1, e2, b1, -, b3⟩ := sp_init a y (by omega) 120 0 n x (by omega) (by omega)
  have e1 : fX2_choose_3 n (nI a) (nI b) 0 w = _ := e1
  have e2 : fX4_spread_2 n (nI a) y 0 x = _ := e2
  have hz : ∀ j, L.length ≤ j → j < 80 → w1.1 9 j = 0 := fun j h1 h2 => by rw [a1 j (by omega) h2, if_neg (by omega)]
  have hs := ch_skip L.length 80 (n - 80 - 1) 0 w1 hL (by omega) (by omega) hz
  have hs : fX2_choose_47 (n - 80 - 1) 0 79 w1 = _ := hs
  have hw1 := a3.sto hw
  have hx1 := b3.sto hx
  have ec : (x1.1 0 1) - 1 = nI L.length + (-1) := by
    rw [hx1.1]
    exact Int32.sub_eq_add_neg _ _
  rw [e1, hs, e2, ec]
  obtain ⟨r', w', x', f1, f2, c1, c2, c3, c4, c5, c6⟩ := ch_sim hL hok L.length (n - 80 - 1 - (80 - L.length)) (n - 120 - 1) 0 w1 x1 (Nat.le_refl _) (by omega) (by omega) hw1 hx1 (fun j hj => by
    rw [a1 j (by omega) hj, b1 j (by omega) (by omega)]
    have h := hy j (by omega)
    by_cases hq : j = a ∨ j = b
    · rw [if_pos hq, if_pos (h.mpr hq)]
      exact ⟨rfl, Or.inr rfl⟩
    · rw [if_neg hq, if_neg (fun q => hq (h.mp q))]
      exact ⟨rfl, Or.inl rfl⟩)
  refine ⟨r', w', x', f1, f2, a3.tr c1, b3.tr c2, c3, c4 a (by rw [a1 a (by omega) (by omega), if_pos (Or.inl rfl)]), c4 b (by rw [a1 b (by omega) (by omega), if_pos (Or.inr rfl)]), fun j h1 h2 => by rw [c5 j h1, hz j h1 h2], fun i p hp => c6 i p ?_ hp⟩
  rcases Nat.lt_or_ge i L.length with h | h
  · exact h
  · rw [List.getElem?_eq_none h] at hp
    cases hp
