/-! carrying the relation over -/
theorem stoW_of {w w' : Wd} {L : List P4} (h : stoW w L) (h0 : w'.1 0 3 = w.1 0 3) (h5 : ∀ i, w'.1 5 i = w.1 5 i) (h6 : ∀ i, w'.1 6 i = w.1 6 i) (h7 : ∀ i, w'.1 7 i = w.1 7 i) (h8 : ∀ i, w'.1 8 i = w.1 8 i) : stoW w' L :=
  ⟨h0.trans h.1, fun i p hi hp => by rw [h5, h6, h7, h8]; exact h.2 i p hi hp⟩
theorem stoX_of {x x' : Wd} {L : List P4} (h : stoX x L) (h0 : x'.1 0 1 = x.1 0 1) (h3 : ∀ i, x'.1 3 i = x.1 3 i) (h4 : ∀ i, x'.1 4 i = x.1 4 i) (h5 : ∀ i, x'.1 5 i = x.1 5 i) : stoX x' L :=
  ⟨h0.trans h.1, fun i p hp => by rw [h3, h4, h5]; exact h.2 i p hp⟩
theorem txt_of {w w' : Wd} {cs : List Int32} (h : txt w cs) (h0 : w'.1 0 0 = w.1 0 0) (h1 : ∀ i, w'.1 1 i = w.1 1 i) : txt w' cs :=
  ⟨h0.trans h.1, fun i c hc => by rw [h1]; exact h.2 i c hc⟩
theorem relN_of {w w' x x' : Wd} {c : Nat} (h : relN w x c) (h3 : ∀ i, w'.1 3 i = w.1 3 i) (h2 : ∀ i, x'.1 2 i = x.1 2 i) : relN w' x' c := fun i hi => by rw [h3, h2]; exact h i hi
theorem relR_of {w w' x x' : Wd} (h : relR w x) (h2 : w'.1 0 2 = w.1 0 2) (hl : w'.2 0 0 = w.2 0 0) (hh : w'.2 0 1 = w.2 0 1) (h6 : x'.1 0 6 = x.1 0 6) (h5 : x'.1 0 5 = x.1 0 5) (xl : x'.2 0 0 = x.2 0 0) (xh : x'.2 0 1 = x.2 0 1) : relR w' x' := by
  unfold relR
  rw [h2, hl, hh, h6, h5, xl, xh]
  exact h
theorem getq_app {α : Type} {l : List α} {a d : α} {i : Nat} (h : (l ++ [a])[i]? = some d) : (l[i]? = some d) ∨ (i = l.length ∧ d = a) := by
  rcases Nat.lt_trichotomy i l.length with h1 | h1 | h1
  · rw [List.getElem?_append_left h1] at h
    exact Or.inl h
  · subst h1
    rw [List.getElem?_append_right (Nat.le_refl _), Nat.sub_self] at h
    exact Or.inr ⟨rfl, (Option.some.inj h).symm⟩
  · rw [List.getElem?_eq_none (by simp; omega)] at h
    cases h
theorem q_type (n : Nat) (c : Int32) (x : Wd) : fX4_type n c x = if 20 ≤ x.1 0 0 then some (0, x) else if typ c then (ez_stI x 1 20 (x.1 0 0) c).bind fun w6 => (ez_fI w6 0 ((w6.1 0 0) + 1)).bind fun w8 => some (1, w8) else some (0, x) := by
  unfold fX4_type
  by_cases h20 : 20 ≤ x.1 0 0
  · rw [if_pos h20, if_pos h20]
  · rw [if_neg h20, if_neg h20, q_isD, q_isN, q_isS]
    by_cases hd : isD c
    · have ht : typ c := Or.inl hd
      simp [hd, ht]
    · by_cases hn : isN c
      · have ht : typ c := Or.inr (Or.inl hn)
        simp [hd, hn, ht]
      · by_cases hs : isS c
        · have ht : typ c := Or.inr (Or.inr (Or.inl hs))
          simp [hd, hn, hs, ht]
        · by_cases h1 : c = 114
          · have ht : typ c := by rw [h1]; decide
            simp [hd, hn, hs, ht, h1]
          · by_cases h2 : c = 94
            · have ht : typ c := by rw [h2]; decide
              simp [hd, hn, hs, ht, h1, h2]
            · by_cases h3 : c = 40
              · have ht : typ c := by rw [h3]; decide
                simp [hd, hn, hs, ht, h1, h2, h3]
              · by_cases h4 : c = 41
                · have ht : typ c := by rw [h4]; decide
                  simp [hd, hn, hs, ht, h1, h2, h3, h4]
                · have ht : ¬ typ c := by
                    intro h
                    rcases h with h | h | h | h | h | h | h <;> contradiction
                  simp [hd, hn, hs, ht, h1, h2, h3, h4]
theorem op_type (n : Nat) {w x : Wd} (h : Rel w x) (c : Int32) : ∃ z y, fX3_type n c w = some z ∧ fX4_type n c x = some y ∧ z.1 = y.1 ∧ Rel z.2 y.2 := by
  have h0 := h
  obtain ⟨cs, L, tw, tx, hlen, hty, hL, hok, hsw, hsx, hn, hwk, hr⟩ := h
  rw [q_type]
  unfold fX3_type
  rw [tw.1, tx.1, p_typ]
  by_cases hfull : 20 ≤ cs.length
  · have hc : (20 : Int32) ≤ nI cs.length := nI_le hfull (by omega)
    rw [if_pos hc, if_pos hc]
    exact ⟨_, _, rfl, rfl, rfl, h0⟩
  · have hc : ¬ (20 : Int32) ≤ nI cs.length := nI_ge (a := cs.length) (b := 20) (by omega) (by omega)
    rw [if_neg hc, if_neg hc]
    by_cases ht : typ c
    · have e := (typ_ch ht).2
      rw [if_pos ht, if_pos ht, e, pz_stI (by omega) (by decide), pz_stI (by omega) (by decide)]
      refine ⟨_, _, rfl, rfl, rfl, cs ++ [c], L, ⟨?_, ?_⟩, ⟨?_, ?_⟩, by simp; omega, ?_, hL, hok, stoW_of hsw (by simp [pz_sI1]) (fun i => by simp [pz_sI1]) (fun i => by simp [pz_sI1]) (fun i => by simp [pz_sI1]) (fun i => by simp [pz_sI1]), stoX_of hsx (by simp [pz_sI1]) (fun i => by simp [pz_sI1]) (fun i => by simp [pz_sI1]) (fun i => by simp [pz_sI1]), relN_of hn (fun i => by simp [pz_sI1]) (fun i => by simp [pz_sI1]), by simpa [pz_sI1] using hwk, relR_of hr (by simp [pz_sI1]) rfl rfl (by simp [pz_sI1]) (by simp [pz_sI1]) rfl rfl⟩
      · simp [pz_sI1, tw.1, nI_1]
      · intro i d hd
        rcases getq_app hd with h1 | ⟨h1, h2⟩
        · have hi : i ≠ cs.length := by
            intro e1
            rw [e1, List.getElem?_eq_none (Nat.le_refl _)] at h1
            cases h1
          simp [pz_sI1, hi]
          exact tw.2 i d h1
        · simp [pz_sI1, h1, h2]
      · simp [pz_sI1, tx.1, nI_1]
      · intro i d hd
        rcases getq_app hd with h1 | ⟨h1, h2⟩
        · have hi : i ≠ cs.length := by
            intro e1
            rw [e1, List.getElem?_eq_none (Nat.le_refl _)] at h1
            cases h1
          simp [pz_sI1, hi]
          exact tx.2 i d h1
        · simp [pz_sI1, h1, h2]
      · intro d hd
        rcases List.mem_append.mp hd with h1 | h1
        · exact hty d h1
        · rw [List.mem_singleton] at h1
          rw [h1]
          exact ht
    · rw [if_neg ht, if_neg ht]
      exact ⟨_, _, rfl, rfl, rfl, h0⟩
theorem op_erase (n : Nat) {w x : Wd} (h : Rel w x) : ∃ z y, fX3_erase n w = some z ∧ fX4_erase n x = some y ∧ z.1 = y.1 ∧ Rel z.2 y.2 := by
  have h0 := h
  obtain ⟨cs, L, tw, tx, hlen, hty, hL, hok, hsw, hsx, hn, hwk, hr⟩ := h
  unfold fX3_erase fX4_erase
  rw [tw.1, tx.1]
  cases hcs : cs.length with
  | zero =>
    rw [if_neg (by decide), if_pos (show nI 0 = 0 from rfl)]
    exact ⟨_, _, rfl, rfl, rfl, h0⟩
  | succ m =>
    have h1 : (0 : Int32) < nI (m + 1) := nI_lt (a := 0) (by omega) (by omega)
    have h2 : ¬ nI (m + 1) = 0 := nI_ne0 (by omega) (by omega)
    have hm : ∀ (i : Nat) (c : Int32), (cs.take m)[i]? = some c → cs[i]? = some c := by
      intro i c hc
      rw [List.getElem?_take] at hc
      split at hc
      · exact hc
      · cases hc
    rw [if_pos h1, if_neg h2, nI_pred]
    refine ⟨_, _, rfl, rfl, rfl, cs.take m, L, ⟨?_, ?_⟩, ⟨?_, ?_⟩, by simp; omega, ?_, hL, hok, stoW_of hsw (by simp [pz_sI1]) (fun i => by simp [pz_sI1]) (fun i => by simp [pz_sI1]) (fun i => by simp [pz_sI1]) (fun i => by simp [pz_sI1]), stoX_of hsx (by simp [pz_sI1]) (fun i => by simp [pz_sI1]) (fun i => by simp [pz_sI1]) (fun i => by simp [pz_sI1]), relN_of hn (fun i => by simp [pz_sI1]) (fun i => by simp [pz_sI1]), by simpa [pz_sI1] using hwk, relR_of hr (by simp [pz_sI1]) rfl rfl (by simp [pz_sI1]) (by simp [pz_sI1]) rfl rfl⟩
    · simp [pz_sI1, hcs]
    · intro i c hc
      simp [pz_sI1]
      exact tw.2 i c (hm i c hc)
    · simp [pz_sI1, hcs]
    · intro i c hc
      simp [pz_sI1]
      exact tx.2 i c (hm i c hc)
    · intro c hc
      exact hty c (List.mem_of_mem_take hc)
theorem op_length (n : Nat) {w x : Wd} (h : Rel w x) : ∃ z y, fX3_length n w = some z ∧ fX4_length n x = some y ∧ z = y := by
  obtain ⟨cs, L, tw, tx, -⟩ := h
  exact ⟨_, _, rfl, rfl, tw.1.trans tx.1.symm⟩
theorem op_work (n : Nat) {w x : Wd} (h : Rel w x) : ∃ z y, fX3_work n w = some z ∧ fX4_work n x = some y ∧ z = y := by
  obtain ⟨cs, L, tw, tx, hlen, hty, hL, hok, hsw, hsx, hn, hwk, hr⟩ := h
  exact ⟨_, _, rfl, rfl, hwk⟩
theorem op_step (n : Nat) {w x : Wd} (h : Rel w x) : ∃ z y, fX3_step n w = some z ∧ fX4_step n x = some y ∧ z = y := by
  obtain ⟨cs, L, tw, tx, hlen, hty, hL, hok, hsw, hsx, hn, hwk, hr⟩ := h
  unfold fX3_step fX4_step
  rcases hr with ⟨h1, -, -, h2⟩ | ⟨s, hs, h1, h2, h3, -⟩
  · rw [h1, h2, if_pos rfl, if_pos rfl]
    exact ⟨_, _, rfl, rfl, rfl⟩
  · rw [h1, h2, h3, if_neg (pz_m1 (by omega)), if_neg (by decide)]
    exact ⟨_, _, rfl, rfl, rfl⟩
theorem op_low (n : Nat) {w x : Wd} (h : Rel w x) : ∃ z y, fX3_low n w = some z ∧ fX4_low n x = some y ∧ z = y := by
  obtain ⟨cs, L, tw, tx, hlen, hty, hL, hok, hsw, hsx, hn, hwk, hr⟩ := h
  unfold fX3_low fX4_low
  rcases hr with ⟨-, h1, -, h2⟩ | ⟨s, hs, -, h2, -, h3, -⟩
  · rw [h2, if_pos rfl]
    exact ⟨_, _, rfl, rfl, h1⟩
  · rw [h2, if_neg (by decide)]
    exact ⟨_, _, rfl, rfl, h3⟩
theorem op_high (n : Nat) {w x : Wd} (h : Rel w x) : ∃ z y, fX3_high n w = some z ∧ fX4_high n x = some y ∧ z = y := by
  obtain ⟨cs, L, tw, tx, hlen, hty, hL, hok, hsw, hsx, hn, hwk, hr⟩ := h
  unfold fX3_high fX4_high
  rcases hr with ⟨-, -, h1, h2⟩ | ⟨s, hs, -, h2, -, -, h3, -⟩
  · rw [h2, if_pos rfl]
    exact ⟨_, _, rfl, rfl, h1⟩
  · rw [h2, if_neg (by decide)]
    exact ⟨_, _, rfl, rfl, h3⟩
/-! clear, and the start -/
theorem fa_loop : ∀ (k i n : Nat) (w : Wd), i + k = 8 → k < n → ∃ z, fX3_forgetAll_15 n (nI i) w = some z ∧ (∀ j, z.1 3 j = if i ≤ j ∧ j < 8 then -1 else w.1 3 j) ∧ (∀ b j, b ≠ 3 → b ≠ 0 → z.1 b j = w.1 b j) ∧ (∀ j, j ≠ 1 → j ≠ 2 → z.1 0 j = w.1 0 j) ∧ z.1 0 1 = 0 ∧ z.1 0 2 = -1 ∧ z.2 0 0 = 0 ∧ z.2 0 1 = 0
  | 0, i, 0, w, _, hn => by omega
  | 0, i, n + 1, w, hi, _ => by
    have e : i = 8 := by omega
    subst e
    rw [fX3_forgetAll_15, if_pos (show (8 : Int32) ≤ nI 8 from nI_le (a := 8) (b := 8) (by omega) (by omega))]
    refine ⟨_, rfl, ?_, ?_, ?_, ?_, ?_, ?_, ?_⟩
    · intro j
      rw [if_neg (by omega)]
      simp [pz_sI1, pz_sL1]
    · intro b j h3 h0
      simp [pz_sI1, pz_sL1, h3, h0]
    · intro j h1 h2
      simp [pz_sI1, pz_sL1, h1, h2]
    · simp [pz_sI1, pz_sL1]
    · simp [pz_sI1, pz_sL1]
    · simp [pz_sL2]
    · simp [pz_sL2]
  | k + 1, i, 0, w, _, hn => by omega
  | k + 1, i, n + 1, w, hi, hn => by
    rw [fX3_forgetAll_15, if_neg (show ¬ (8 : Int32) ≤ nI i from nI_ge (a := i) (b := 8) (by omega) (by omega)), pz_stI (by omega) (by decide)]
    obtain ⟨z, e, h1, h2, h3, h4⟩ := fa_loop k (i + 1) n (ez_sI w 3 i (-1)) (by omega) (by omega)
    refine ⟨z, ?_, ?_, ?_, ?_, h4⟩
    · show fX3_forgetAll_15 n (nI i + 1) _ = _
      rw [nI_1]
      exact e
    · intro j
      rw [h1]
      by_cases hj : j = i
      · subst hj
        rw [if_neg (by omega), if_pos (by omega)]
        simp [pz_sI1]
      · have e9 : (ez_sI w 3 i (-1)).1 3 j = w.1 3 j := by simp [pz_sI1, hj]
        rw [e9]
        by_cases hj2 : i + 1 ≤ j ∧ j < 8
        · rw [if_pos hj2, if_pos (by omega)]
        · rw [if_neg hj2, if_neg (by omega)]
    · intro b j hb h0
      rw [h2 b j hb h0]
      simp [pz_sI1, hb]
    · intro j hj1 hj2
      rw [h3 j hj1 hj2]
      simp [pz_sI1]
theorem fa_all (n : Nat) (hn : 8 < n) (w : Wd) : ∃ z, fX3_forgetAll n w = some z ∧ (∀ j, j < 8 → z.1 3 j = -1) ∧ z.1 0 0 = 0 ∧ z.1 0 1 = 0 ∧ z.1 0 2 = -1 ∧ z.1 0 3 = 0 ∧ z.2 0 0 = 0 ∧ z.2 0 1 = 0 := by
  unfold fX3_forgetAll fX0_shrinkTo
  obtain ⟨z, e, h1, h2, h3, h4, h5, h6⟩ := fa_loop 8 0 n (ez_sI (ez_sI w 0 0 0) 0 3 0) (by omega) hn
  refine ⟨z, e, fun j hj => by rw [h1, if_pos (by omega)], ?_, h4, h5, ?_, h6⟩
  · rw [h3 0 (by decide) (by decide)]
    simp [pz_sI1]
  · rw [h3 3 (by decide) (by decide)]
    simp [pz_sI1]
theorem cl_loop : ∀ (k i n : Nat) (x : Wd), i + k = 8 → k < n → ∃ z, fX4_clear_2 n (nI i) x = some z ∧ (∀ j, z.1 2 j = if i ≤ j ∧ j < 8 then 0 else x.1 2 j) ∧ z.1 0 0 = 0 ∧ z.1 0 1 = 0 ∧ z.1 0 4 = 0 ∧ z.1 0 6 = 0
  | 0, i, 0, x, _, hn => by omega
  | 0, i, n + 1, x, hi, _ => by
    have e : i = 8 := by omega
    subst e
    rw [fX4_clear_2, if_pos (show (8 : Int32) ≤ nI 8 from nI_le (a := 8) (b := 8) (by omega) (by omega))]
    refine ⟨_, rfl, ?_, ?_, ?_, ?_, ?_⟩
    · intro j
      rw [if_neg (by omega)]
      simp [pz_sI1]
    all_goals simp [pz_sI1]
  | k + 1, i, 0, x, _, hn => by omega
  | k + 1, i, n + 1, x, hi, hn => by
    rw [fX4_clear_2, if_neg (show ¬ (8 : Int32) ≤ nI i from nI_ge (a := i) (b := 8) (by omega) (by omega)), pz_stI (by omega) (by decide)]
    obtain ⟨z, e, h1, h4⟩ := cl_loop k (i + 1) n (ez_sI x 2 i 0) (by omega) (by omega)
    refine ⟨z, ?_, ?_, h4⟩
    · show fX4_clear_2 n (nI i + 1) _ = _
      rw [nI_1]
      exact e
    · intro j
      rw [h1]
      by_cases hj : j = i
      · subst hj
        rw [if_neg (by omega), if_pos (by omega)]
        simp [pz_sI1]
      · have e9 : (ez_sI x 2 i (0)).1 2 j = x.1 2 j := by simp [pz_sI1, hj]
        rw [e9]
        by_cases hj2 : i + 1 ≤ j ∧ j < 8
        · rw [if_pos hj2, if_pos (by omega)]
        · rw [if_neg hj2, if_neg (by omega)]
theorem rel_new {w x : Wd} (h3 : ∀ j, j < 8 → w.1 3 j = -1) (w0 : w.1 0 0 = 0) (w1 : w.1 0 1 = 0) (w2 : w.1 0 2 = -1) (w3 : w.1 0 3 = 0) (wl : w.2 0 0 = 0) (wh : w.2 0 1 = 0) (x2 : ∀ j, j < 8 → x.1 2 j = 0) (x0 : x.1 0 0 = 0) (x1 : x.1 0 1 = 0) (x4 : x.1 0 4 = 0) (x6 : x.1 0 6 = 0) : Rel w x :=
  ⟨[], [], ⟨w0, fun i c h => by cases h⟩, ⟨x0, fun i c h => by cases h⟩, by decide, fun c h => (by cases h), by decide, fun i p h => (by cases h), ⟨w3, fun i p _ h => by cases h⟩, ⟨x1, fun i p h => by cases h⟩, fun i hi => Or.inl ⟨h3 i hi, x2 i hi⟩, w1.trans x4.symm, Or.inl ⟨w2, wl, wh, x6⟩⟩
theorem op_clear (n : Nat) (hn : 8 < n) (w x : Wd) : ∃ z y, fX3_clear n w = some z ∧ fX4_clear n x = some y ∧ Rel z y := by
  obtain ⟨z, e, h1, h2, h3, h4, h5, h6, h7⟩ := fa_all n hn w
  obtain ⟨y, e2, g1, g2, g3, g4, g5⟩ := cl_loop 8 0 n x (by omega) hn
  refine ⟨z, y, ?_, e2, rel_new h1 h2 h3 h4 h5 h6 h7 (fun j hj => by rw [g1, if_pos (by omega)]) g2 g3 g4 g5⟩
  unfold fX3_clear
  rw [e]
  rfl
theorem op_start (n : Nat) (hn : 8 < n) : ∃ z, fX3_forgetAll n ez_w0 = some z ∧ Rel z ez_w0 := by
  obtain ⟨z, e, h1, h2, h3, h4, h5, h6, h7⟩ := fa_all n hn ez_w0
  exact ⟨z, e, rel_new h1 h2 h3 h4 h5 h6 h7 (fun _ _ => rfl) rfl rfl rfl rfl⟩
