/-! what evaluating may change -/
def evW (w w' : Wd) : Prop := (∀ c j, c ≠ 9 → c ≠ 10 → (c = 0 → j ≠ 4) → w'.1 c j = w.1 c j) ∧ (∀ c j, c ≠ 11 → c ≠ 12 → w'.2 c j = w.2 c j)
def evX (x x' : Wd) : Prop := (∀ c j, c ≠ 8 → c ≠ 11 → x'.1 c j = x.1 c j) ∧ (∀ c j, c ≠ 9 → c ≠ 10 → x'.2 c j = x.2 c j)
theorem evW.rf {w : Wd} : evW w w := ⟨fun _ _ _ _ _ => rfl, fun _ _ _ _ => rfl⟩
theorem evX.rf {w : Wd} : evX w w := ⟨fun _ _ _ _ => rfl, fun _ _ _ _ => rfl⟩
theorem evW.tr {a b c : Wd} (h : evW a b) (g : evW b c) : evW a c := ⟨fun i j h1 h2 h3 => (g.1 i j h1 h2 h3).trans (h.1 i j h1 h2 h3), fun i j h1 h2 => (g.2 i j h1 h2).trans (h.2 i j h1 h2)⟩
theorem evX.tr {a b c : Wd} (h : evX a b) (g : evX b c) : evX a c := ⟨fun i j h1 h2 => (g.1 i j h1 h2).trans (h.1 i j h1 h2), fun i j h1 h2 => (g.2 i j h1 h2).trans (h.2 i j h1 h2)⟩
theorem mkW.ev {w w' : Wd} (h : mkW w w') : evW w w' := ⟨fun c j h1 _ _ => h.1 c j h1, fun c j _ _ => by rw [h.2]⟩
theorem mkX.ev {w w' : Wd} (h : mkX w w') : evX w w' := ⟨fun c j _ h1 => h.1 c j h1, fun c j _ _ => by rw [h.2]⟩
theorem evW.sto {w w' : Wd} {L : List P4} (h : evW w w') (g : stoW w L) : stoW w' L := stoW_of g (h.1 _ _ (by decide) (by decide) (by decide)) (fun i => h.1 _ _ (by decide) (by decide) (fun q => by cases q)) (fun i => h.1 _ _ (by decide) (by decide) (fun q => by cases q)) (fun i => h.1 _ _ (by decide) (by decide) (fun q => by cases q)) (fun i => h.1 _ _ (by decide) (by decide) (fun q => by cases q))
theorem evX.sto {w w' : Wd} {L : List P4} (h : evX w w') (g : stoX w L) : stoX w' L := stoX_of g (h.1 _ _ (by decide) (by decide)) (fun i => h.1 _ _ (by decide) (by decide)) (fun i => h.1 _ _ (by decide) (by decide)) (fun i => h.1 _ _ (by decide) (by decide))
theorem Rel_ev {w w' x x' : Wd} (h : Rel w x) (hw : evW w w') (hx : evX x x') : Rel w' x' := by
  obtain ⟨cs, L, tw, tx, hlen, hty, hL, hok, hsw, hsx, hn, hwk, hr⟩ := h
  refine ⟨cs, L, txt_of tw (hw.1 _ _ (by decide) (by decide) (by decide)) (fun i => hw.1 _ _ (by decide) (by decide) (fun q => by cases q)), txt_of tx (hx.1 _ _ (by decide) (by decide)) (fun i => hx.1 _ _ (by decide) (by decide)), hlen, hty, hL, hok, hw.sto hsw, hx.sto hsx, relN_of hn (fun i => hw.1 _ _ (by decide) (by decide) (fun q => by cases q)) (fun i => hx.1 _ _ (by decide) (by decide)), ?_, relR_of hr (hw.1 _ _ (by decide) (by decide) (by decide)) (hw.2 _ _ (by decide) (by decide)) (hw.2 _ _ (by decide) (by decide)) (hx.1 _ _ (by decide) (by decide)) (hx.1 _ _ (by decide) (by decide)) (hx.2 _ _ (by decide) (by decide)) (hx.2 _ _ (by decide) (by decide))⟩
  rw [hw.1 0 1 (by decide) (by decide) (by decide), hx.1 0 4 (by decide) (by decide)]
  exact hwk
theorem given (n : Nat) {w x : Wd} {c : Nat} (hc : c ≤ 80) (h : relN w x c) (v : Int32) : (fX3_isGiven n v w = some 0 ∧ fX4_isGiven n v x = some 0) ∨ ∃ i j, i < 8 ∧ v = nI i ∧ j < c ∧ w.1 3 i = nI j ∧ x.1 2 i = nI (j + 1) ∧ fX3_isGiven n v w = some 1 ∧ fX4_isGiven n v x = some 1 := by
  unfold fX3_isGiven fX4_isGiven fX3_isName
  by_cases c0 : v < 0
  · left
    rw [if_pos c0, if_pos c0]
    exact ⟨rfl, rfl⟩
  · obtain ⟨i, hi, rfl⟩ := nI_of c0
    rw [if_neg c0, if_neg c0]
    by_cases h8 : i < 8
    · rw [if_neg (show ¬ (8 : Int32) ≤ nI i from nI_ge (b := 8) h8 (by omega)), if_neg (show ¬ (7 : Int32) < nI i from nI_nlt (a := 7) (by omega) (by omega)), pz_ldI h8 (by decide), pz_ldI h8 (by decide)]
      rcases h i h8 with ⟨h1, h2⟩ | ⟨j, hj, h1, h2⟩
      · left
        rw [h1, h2]
        exact ⟨rfl, rfl⟩
      · right
        refine ⟨i, j, h8, rfl, hj, h1, h2, ?_, ?_⟩
        · rw [h1, Option.bind_some, if_neg (show ¬ (1 : Int32) = 0 by decide), Option.bind_some, if_neg (pz_m1 (by omega))]
        · rw [h2, Option.bind_some, if_neg (nI_nle (by omega) (by omega))]
    · left
      rw [if_pos (show (8 : Int32) ≤ nI i from nI_le (a := 8) (by omega) (by omega)), if_pos (show (7 : Int32) < nI i from nI_lt (a := 7) (by omega) (by omega))]
      exact ⟨rfl, rfl⟩
theorem one0 : ((1 : Int32) = 0) = False := by decide
theorem op_parts (n : Nat) (hn : 300 ≤ n) {w x : Wd} (h : Rel w x) (c : Int32) : ∃ z y, fX3_parts n c w = some z ∧ fX4_parts n c x = some y ∧ z.1 = y.1 ∧ Rel z.2 y.2 := by
  have h0 := h
  obtain ⟨cs, L, tw, tx, hlen, hty, hL, hok, hsw, hsx, hnm, hwk, hr⟩ := h
  unfold fX3_parts fX4_parts
  rcases given n hL hnm c with ⟨g1, g2⟩ | ⟨i, j, hi, rfl, hj, e1, e2, g1, g2⟩
  · rw [g1, g2]
    exact ⟨_, _, rfl, rfl, rfl, h0⟩
  · rw [g1, g2, pz_ldI hi (by decide), pz_ldI hi (by decide), e1, e2]
    simp only [Option.bind_some, one0, if_false, nI_pred]
    obtain ⟨r, w', x', f1, f2, k1, k2, -⟩ := ch_all hL hok hn hsw hsx hj hj (-1) (fun k hk => by
      have := pz_m1 (a := k) (by omega)
      constructor
      · rintro (q | q)
        · exact Or.inl q
        · exact absurd q this
      · rintro (q | q) <;> exact Or.inl q)
    rw [f1, f2]
    exact ⟨_, _, rfl, rfl, rfl, Rel_ev h0 k1.ev k2.ev⟩
