theorem trial (n : Nat) (p f : Int32) : (fX3_isTrial n p f = some 0 ∧ fX4_inRange n p f = some 0) ∨ ∃ p' f' : Nat, p = nI p' ∧ f = nI f' ∧ p' ≤ 16 ∧ 1 ≤ f' ∧ f' ≤ 20 ∧ fX3_isTrial n p f = some 1 ∧ fX4_inRange n p f = some 1 := by
  have e : fX4_inRange n p f = fX3_isTrial n p f := rfl
  rw [e]
  unfold fX3_isTrial
  by_cases h1 : p < 0
  · rw [if_pos h1]; exact Or.inl ⟨rfl, rfl⟩
  · by_cases h2 : 16 < p
    · rw [if_neg h1, if_pos h2]; exact Or.inl ⟨rfl, rfl⟩
    · by_cases h3 : f < 1
      · rw [if_neg h1, if_neg h2, if_pos h3]; exact Or.inl ⟨rfl, rfl⟩
      · by_cases h4 : 20 < f
        · rw [if_neg h1, if_neg h2, if_neg h3, if_pos h4]; exact Or.inl ⟨rfl, rfl⟩
        · right
          obtain ⟨p', hp', rfl⟩ := nI_of h1
          have hf0 : ¬ f < 0 := by
            intro h
            rw [Int32.lt_iff_toInt_lt] at h h3
            have a : (0 : Int32).toInt = 0 := rfl
            have b : (1 : Int32).toInt = 1 := rfl
            omega
          obtain ⟨f', hf', rfl⟩ := nI_of hf0
          refine ⟨p', f', rfl, rfl, ?_, ?_, ?_, ?_, ?_⟩
          · rcases Nat.lt_or_ge 16 p' with h | h
            · exact absurd (nI_lt (a := 16) h (by omega)) h2
            · exact h
          · rcases Nat.lt_or_ge f' 1 with h | h
            · exact absurd (nI_lt (b := 1) h (by omega)) h3
            · exact h
          · rcases Nat.lt_or_ge 20 f' with h | h
            · exact absurd (nI_lt (a := 20) h (by omega)) h4
            · exact h
          · rw [if_neg h1, if_neg h2, if_neg h3, if_neg h4]
          · rw [if_neg h1, if_neg h2, if_neg h3, if_neg h4]
theorem p_last (n : Nat) {p f : Nat} (hp : p ≤ 16) (hf : 1 ≤ f ∧ f ≤ 20) : fJ9_minI n ((nI p + nI f) - 1) 18 = some (nI (min (p + f - 1) 18)) := by
  have e : (nI p + nI f) - 1 = nI (p + f - 1) := by
    rw [nI_add, show p + f = (p + f - 1) + 1 by omega, nI_pred]
    rfl
  rw [e]
  unfold fJ9_minI
  by_cases h : 18 < p + f - 1
  · rw [if_pos (show (18 : Int32) < nI (p + f - 1) from nI_lt (a := 18) h (by omega)), Nat.min_eq_right (by omega)]
    rfl
  · rw [if_neg (show ¬ (18 : Int32) < nI (p + f - 1) from nI_nlt (a := 18) (by omega) (by omega)), Nat.min_eq_left (by omega)]
theorem op_evaluate (n : Nat) (hn : 500 ≤ n) {w x : Wd} (h : Rel w x) (c p f : Int32) : ∃ z y, fX3_evaluate n c p f w = some z ∧ fX4_evaluate n c p f x = some y ∧ z.1 = y.1 ∧ Rel z.2 y.2 := by
  have h0 := h
  obtain ⟨cs, L, tw, tx, hlen, hty, hL, hok, hsw, hsx, hnm, hwk, hr⟩ := h
  have hcore : core w x cs L := ⟨tw, tx, hlen, hty, hL, hok, hsw, hsx, hnm⟩
  unfold fX3_evaluate fX4_evaluate
  rcases given n hL hnm c with ⟨g1, g2⟩ | ⟨i, j, hi, rfl, hj, e1, e2, g1, g2⟩
  · rw [g1, g2]
    exact ⟨_, _, rfl, rfl, rfl, h0⟩
  · rw [g1, g2, Option.bind_some, Option.bind_some, if_neg (show ¬ (1 : Int32) = 0 by decide), if_neg (show ¬ (1 : Int32) = 0 by decide)]
    rcases trial n p f with ⟨t1, t2⟩ | ⟨p', f', rfl, rfl, hp, hf1, hf2, t1, t2⟩
    · rw [t1, t2]
      exact ⟨_, _, rfl, rfl, rfl, h0⟩
    · rw [t1, t2, Option.bind_some, Option.bind_some, if_neg (show ¬ (1 : Int32) = 0 by decide), if_neg (show ¬ (1 : Int32) = 0 by decide)]
      have hfr : fX3_forgetResult n w = some (ez_sL (ez_sL (ez_sI w 0 2 (-1)) 0 0 0) 0 1 0) := rfl
      obtain ⟨w7, hw7⟩ : ∃ w7, w7 = ez_sL (ez_sL (ez_sI w 0 2 (-1)) 0 0 0) 0 1 0 := ⟨_, rfl⟩
      rw [hfr, Option.bind_some, ← hw7]
      have i7 : ∀ c j, (c = 0 → j ≠ 2) → w7.1 c j = w.1 c j := fun c j hc => by
        rw [hw7]
        show (ez_sI w 0 2 (-1)).1 c j = _
        rw [pz_sI1, if_neg]
        intro q
        exact hc q.1 q.2
      have r7 : w7.1 0 2 = -1 ∧ w7.2 0 0 = 0 ∧ w7.2 0 1 = 0 := by
        rw [hw7]
        refine ⟨?_, ?_, ?_⟩
        · show (ez_sI w 0 2 (-1)).1 0 2 = -1
          rw [pz_self]
        · simp [pz_sL2]
        · simp [pz_sL2]
      have c7 : cW w w7 := fun c j _ _ h3 => i7 c j (fun q => (h3 q).2.2)
      have hsw7 : stoW w7 L := stoW_of hsw (i7 _ _ (by decide)) (fun i => i7 _ _ (fun q => by cases q)) (fun i => i7 _ _ (fun q => by cases q)) (fun i => i7 _ _ (fun q => by cases q)) (fun i => i7 _ _ (fun q => by cases q))
      rw [pz_ldI hi (by decide), i7 3 i (fun q => by cases q), e1, Option.bind_some, pz_ldI hi (by decide), e2, Option.bind_some, nI_pred]
      obtain ⟨r, w8, x8, f1, f2, k1, k2, k3, k4, k5, k6, k7⟩ := ch_all hL hok (show 300 ≤ n by omega) hsw7 hsx hj hj (-1) (fun k hk => by
        have := pz_m1 (a := k) (by omega)
        constructor
        · rintro (q | q)
          · exact Or.inl q
          · exact absurd q this
        · rintro (q | q) <;> exact Or.inl q)
      unfold fX3_trySteps
      rw [p_last n hp ⟨hf1, hf2⟩, Option.bind_some, f1, Option.bind_some, f2, Option.bind_some, pz_fI, Option.bind_some, pz_fI, Option.bind_some, pz_fI, Option.bind_some]
      have m9 : ∀ j, (ez_sI w8 0 1 0).1 9 j = w8.1 9 j := fun j => by simp [pz_sI1]
      have m11 : ∀ j, (ez_sI (ez_sI x8 0 6 0) 0 4 0).1 11 j = x8.1 11 j := fun j => by simp [pz_sI1]
      have rd : ready (ez_sI w8 0 1 0) (ez_sI (ez_sI x8 0 6 0) 0 4 0) L := by
        refine ⟨stoW_of (k1.sto hsw7) (by simp [pz_sI1]) (fun i => by simp [pz_sI1]) (fun i => by simp [pz_sI1]) (fun i => by simp [pz_sI1]) (fun i => by simp [pz_sI1]), stoX_of (k2.sto hsx) (by simp [pz_sI1]) (fun i => by simp [pz_sI1]) (fun i => by simp [pz_sI1]) (fun i => by simp [pz_sI1]), fun j hj => by rw [m9, m11]; exact (k3 j hj).1, fun j h1 h2 => by rw [m9]; exact k6 j h1 h2, closed_of k7 m9, fun j hj => by rw [m9]; exact (k3 j hj).2, by rw [pz_self, pz_self]⟩
      obtain ⟨ans, w', q1, q2, q3⟩ := ev_loop hL hok hj hp ⟨hf1, hf2⟩ r (19 - p') p' n _ _ (by omega) (Nat.le_refl _) (by omega) rd (by rw [m9]; exact k4)
      have cw : cW w w' := c7.tr (k1.ev.c.tr ((ewW_f w8 1 0 (Or.inr rfl)).c.tr q2.c))
      have cx0 : cX x (ez_sI (ez_sI x8 0 6 0) 0 4 0) := k2.ev.c.tr (fun c j _ _ _ _ h5 => by
        rw [pz_sI1, if_neg (by intro q; have := h5 q.1; omega), pz_sI1, if_neg (by intro q; have := h5 q.1; omega)])
      have w2 : w'.1 0 2 = -1 := by
        rw [q2.1 0 2 (by decide) (by decide) (by decide)]
        have : (ez_sI w8 0 1 0).1 0 2 = w8.1 0 2 := by simp [pz_sI1]
        rw [this, k1.1 0 2 (by decide)]
        exact r7.1
      have wl : w'.2 0 0 = 0 ∧ w'.2 0 1 = 0 := by
        rw [q2.2 0 0 (by decide) (by decide), q2.2 0 1 (by decide) (by decide), pz_sI2, k1.2]
        exact r7.2
      rw [q1, Option.bind_some]
      rcases q3 with ⟨a1, x', a2, a3, a4⟩ | ⟨a1, x', u, a2, a3, a4, a5, a6, a7, a8, a9⟩
      · rw [a2, if_neg a1]
        refine ⟨_, _, rfl, rfl, rfl, cs, L, ?_⟩
        have x6 : x'.1 0 6 = 0 := by
          rw [a3.1 0 6 (by decide) (by decide) (by decide), pz_sI1, if_neg (by decide), pz_self]
        obtain ⟨b1, b2, b3, b4, b5, b6, b7, b8, b9⟩ := core_c hcore cw (cx0.tr a3.c)
        exact ⟨b1, b2, b3, b4, b5, b6, b7, b8, b9, a4, Or.inl ⟨w2, wl.1, wl.2, x6⟩⟩
      · rw [a2, if_pos a1]
        have hk : fX3_keepResult n (nI j) w' = some (ez_sL (ez_sL (ez_sI w' 0 2 (w'.1 0 4)) 0 0 (w'.2 11 j)) 0 1 (w'.2 12 j)) := by
          unfold fX3_keepResult fX2_latestStep
          rw [Option.bind_some, pz_fI, Option.bind_some, p_low n _ (by omega), Option.bind_some, pz_fL, Option.bind_some, p_high n _ (by omega), Option.bind_some, pz_fL, Option.bind_some]
          have : (ez_sL (ez_sI w' 0 2 (w'.1 0 4)) 0 0 ((ez_sI w' 0 2 (w'.1 0 4)).2 11 j)).2 12 j = w'.2 12 j := by
            rw [pz_sL2, if_neg (by omega)]
            rfl
          rw [this]
          rfl
        rw [hk]
        refine ⟨_, _, rfl, rfl, a1, cs, L, ?_⟩
        have cw2 : cW w' (ez_sL (ez_sL (ez_sI w' 0 2 (w'.1 0 4)) 0 0 (w'.2 11 j)) 0 1 (w'.2 12 j)) := fun c j _ _ h3 => by
          show (ez_sI w' 0 2 (w'.1 0 4)).1 c j = _
          rw [pz_sI1, if_neg (by intro q; have := h3 q.1; omega)]
        have cx2 : cX x' (setR x' (nI u) (x'.2 9 j) (x'.2 10 j)) := fun c j _ _ _ _ h5 => by
          show (ez_sI (ez_sI x' 0 6 1) 0 5 (nI u)).1 c j = _
          rw [pz_sI1, if_neg (by intro q; have := h5 q.1; omega), pz_sI1, if_neg (by intro q; have := h5 q.1; omega)]
        obtain ⟨b1, b2, b3, b4, b5, b6, b7, b8, b9⟩ := core_c hcore (cw.tr cw2) ((cx0.tr a3.c).tr cx2)
        refine ⟨b1, b2, b3, b4, b5, b6, b7, b8, b9, ?_, Or.inr ⟨u, a5, ?_, ?_, ?_, ?_, ?_, ?_⟩⟩
        · show (ez_sI w' 0 2 (w'.1 0 4)).1 0 1 = (ez_sI (ez_sI x' 0 6 1) 0 5 (nI u)).1 0 4
          simp only [pz_sI1]
          simpa using a4
        · show (ez_sI w' 0 2 (w'.1 0 4)).1 0 2 = nI u
          rw [pz_self, a6]
        · show (ez_sI (ez_sI x' 0 6 1) 0 5 (nI u)).1 0 6 = 1
          simp [pz_sI1]
        · show (ez_sI (ez_sI x' 0 6 1) 0 5 (nI u)).1 0 5 = nI u
          rw [pz_self]
        · show (ez_sL (ez_sL (ez_sI w' 0 2 (w'.1 0 4)) 0 0 (w'.2 11 j)) 0 1 (w'.2 12 j)).2 0 0 = (ez_sL (ez_sL (ez_sI (ez_sI x' 0 6 1) 0 5 (nI u)) 0 0 (x'.2 9 j)) 0 1 (x'.2 10 j)).2 0 0
          simp [pz_sL2, a7]
        · show (ez_sL (ez_sL (ez_sI w' 0 2 (w'.1 0 4)) 0 0 (w'.2 11 j)) 0 1 (w'.2 12 j)).2 0 1 = (ez_sL (ez_sL (ez_sI (ez_sI x' 0 6 1) 0 5 (nI u)) 0 0 (x'.2 9 j)) 0 1 (x'.2 10 j)).2 0 1
          simp [pz_sL2, a8]
        · have v0 : (ez_sL (ez_sL (ez_sI w' 0 2 (w'.1 0 4)) 0 0 (w'.2 11 j)) 0 1 (w'.2 12 j)).2 0 0 = w'.2 11 j := by simp [pz_sL2]
          have v1 : (ez_sL (ez_sL (ez_sI w' 0 2 (w'.1 0 4)) 0 0 (w'.2 11 j)) 0 1 (w'.2 12 j)).2 0 1 = w'.2 12 j := by simp [pz_sL2]
          rw [v0, v1]
          exact a9
theorem op_compare (n : Nat) (hn : 500 ≤ n) {w x : Wd} (h : Rel w x) (c d p f : Int32) : ∃ z y, fX3_compare n c d p f w = some z ∧ fX4_compare n c d p f x = some y ∧ z.1 = y.1 ∧ Rel z.2 y.2 := by
  have h0 := h
  obtain ⟨cs, L, tw, tx, hlen, hty, hL, hok, hsw, hsx, hnm, hwk, hr⟩ := h
  have hcore : core w x cs L := ⟨tw, tx, hlen, hty, hL, hok, hsw, hsx, hnm⟩
  unfold fX3_compare fX4_compare
  rcases given n hL hnm c with ⟨g1, g2⟩ | ⟨i, j, hi, rfl, hj, e1, e2, g1, g2⟩
  · rw [g1, g2]
    exact ⟨_, _, rfl, rfl, rfl, h0⟩
  · rw [g1, g2, Option.bind_some, Option.bind_some, if_neg (show ¬ (1 : Int32) = 0 by decide), if_neg (show ¬ (1 : Int32) = 0 by decide)]
    rcases given n hL hnm d with ⟨g3, g4⟩ | ⟨i2, j2, hi2, rfl, hj2, e3, e4, g3, g4⟩
    · rw [g3, g4]
      exact ⟨_, _, rfl, rfl, rfl, h0⟩
    · rw [g3, g4, Option.bind_some, Option.bind_some, if_neg (show ¬ (1 : Int32) = 0 by decide), if_neg (show ¬ (1 : Int32) = 0 by decide)]
      rcases trial n p f with ⟨t1, t2⟩ | ⟨p', f', rfl, rfl, hp, hf1, hf2, t1, t2⟩
      · rw [t1, t2]
        exact ⟨_, _, rfl, rfl, rfl, h0⟩
      · rw [t1, t2, Option.bind_some, Option.bind_some, if_neg (show ¬ (1 : Int32) = 0 by decide), if_neg (show ¬ (1 : Int32) = 0 by decide), pz_ldI hi (by decide), pz_ldI hi2 (by decide), pz_ldI hi (by decide), pz_ldI hi2 (by decide), e1, e2, e3, e4]
        simp only [Option.bind_some, nI_pred]
        obtain ⟨r, w8, x8, f1, f2, k1, k2, k3, k4, k5, k6, k7⟩ := ch_all hL hok (show 300 ≤ n by omega) hsw hsx hj hj2 (nI j2) (fun k hk => by
          rw [nI_eq (by omega) (by omega)])
        unfold fX3_trySteps
        rw [p_last n hp ⟨hf1, hf2⟩, Option.bind_some, f1, Option.bind_some, f2, Option.bind_some, pz_fI, Option.bind_some, pz_fI, Option.bind_some]
        have m9 : ∀ j, (ez_sI w8 0 1 0).1 9 j = w8.1 9 j := fun j => by simp [pz_sI1]
        have m11 : ∀ j, (ez_sI x8 0 4 0).1 11 j = x8.1 11 j := fun j => by simp [pz_sI1]
        have rd : ready (ez_sI w8 0 1 0) (ez_sI x8 0 4 0) L := by
          refine ⟨stoW_of (k1.sto hsw) (by simp [pz_sI1]) (fun i => by simp [pz_sI1]) (fun i => by simp [pz_sI1]) (fun i => by simp [pz_sI1]) (fun i => by simp [pz_sI1]), stoX_of (k2.sto hsx) (by simp [pz_sI1]) (fun i => by simp [pz_sI1]) (fun i => by simp [pz_sI1]) (fun i => by simp [pz_sI1]), fun j hj => by rw [m9, m11]; exact (k3 j hj).1, fun j h1 h2 => by rw [m9]; exact k6 j h1 h2, closed_of k7 m9, fun j hj => by rw [m9]; exact (k3 j hj).2, by rw [pz_self, pz_self]⟩
        obtain ⟨ans, w', x', q1, q2, q3, q4, q5⟩ := cm_loop hL hok hj hj2 hp ⟨hf1, hf2⟩ r (19 - p') p' n _ _ (by omega) (Nat.le_refl _) (by omega) rd (by rw [m9]; exact k4) (by rw [m9]; exact k5)
        have ew : ewW w w' := k1.ev.w.tr ((ewW_f w8 1 0 (Or.inr rfl)).tr q3)
        have ex : ewX x x' := k2.ev.w.tr ((ewX_f x8 0).tr q4)
        rw [q1, q2]
        obtain ⟨b1, b2, b3, b4, b5, b6, b7, b8, b9⟩ := core_c hcore ew.c ex.c
        exact ⟨_, _, rfl, rfl, rfl, cs, L, b1, b2, b3, b4, b5, b6, b7, b8, b9, q5, relR_of hr (ew.1 _ _ (by decide) (by decide) (by decide)) (ew.2 _ _ (by decide) (by decide)) (ew.2 _ _ (by decide) (by decide)) (ex.1 _ _ (by decide) (by decide) (by decide)) (ex.1 _ _ (by decide) (by decide) (by decide)) (ex.2 _ _ (by decide) (by decide)) (ex.2 _ _ (by decide) (by decide))⟩
