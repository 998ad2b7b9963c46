/-! the reference's building -/
def stk (f : Nat → Int32) : List Int32 → Prop
  | [] => True
  | s :: S => f S.length = s ∧ stk f S
theorem stk_of {f g : Nat → Int32} : ∀ {S : List Int32}, stk f S → (∀ i, i < S.length → g i = f i) → stk g S
  | [], _, _ => trivial
  | s :: S, h, hg => ⟨by rw [hg _ (by simp)]; exact h.1, stk_of h.2 fun i hi => hg i (by simp; omega)⟩
def xfr (x0 x : Wd) : Prop := (∀ c j, c ≠ 3 → c ≠ 4 → c ≠ 5 → c ≠ 6 → c ≠ 7 → (c = 0 → j ≠ 1 ∧ j ≠ 2 ∧ j ≠ 3) → x.1 c j = x0.1 c j) ∧ x.2 = x0.2
theorem xfr.rf {x : Wd} : xfr x x := ⟨fun _ _ _ _ _ _ _ _ => rfl, rfl⟩
def BS (x0 : Wd) (S G : List Int32) (L : List P4) (x : Wd) : Prop := xfr x0 x ∧ stoX x L ∧ x.1 0 2 = nI S.length ∧ x.1 0 3 = nI G.length ∧ stk (x.1 6) S ∧ stk (x.1 7) G
theorem sub1 (k : Nat) : nI (k + 1) - 1 = nI k := by
  have := pk_sub (a := k + 1) (b := 1) (by omega)
  exact this
section QB
variable {x0 : Wd} {S G : List Int32} {L : List P4} {x : Wd}
theorem q_take (n : Nat) {s : Int32} (h : BS x0 (s :: S) G L x) (hS : S.length ≤ 20) : ∃ x', fX4_take n x = some (s, x') ∧ BS x0 S G L x' := by
  obtain ⟨h1, h2, h3, h4, h5, h6⟩ := h
  unfold fX4_take
  rw [pz_fI, Option.bind_some, pz_self, h3, List.length_cons, sub1, pz_ldI (by omega) (by decide), Option.bind_some, pz_sI1, if_neg (by simp), h5.1]
  refine ⟨_, rfl, ⟨fun c j a3 a4 a5 a6 a7 a0 => ?_, h1.2⟩, stoX_of h2 ?_ (fun i => ?_) (fun i => ?_) (fun i => ?_), pz_self .., ?_, stk_of h5.2 fun i hi => ?_, stk_of h6 fun i hi => ?_⟩
  · rw [pz_sI1, if_neg (fun q => (a0 q.1).2.1 q.2)]
    exact h1.1 c j a3 a4 a5 a6 a7 a0
  all_goals rw [pz_sI1, if_neg (by simp)]
  exact h4
theorem f_make (n : Nat) {s a b : Int32} {l k : Nat} (h1 : x.1 0 1 = nI l) (h2 : x.1 0 2 = nI k) (hl : l < 120) (hk : k ≤ 20) : fX4_make n s a b x = some (ez_sI (ez_sI (ez_sI (ez_sI (ez_sI (ez_sI x 3 l s) 4 l a) 5 l b) 6 k (nI l)) 0 2 (nI (k + 1))) 0 1 (nI (l + 1))) := by
  unfold fX4_make
  have e1 : (ez_sI x 3 l s).1 0 1 = nI l := by simp [pz_sI1, h1]
  have e2 : (ez_sI (ez_sI x 3 l s) 4 l a).1 0 1 = nI l := by simp [pz_sI1, h1]
  have e3 : (ez_sI (ez_sI (ez_sI x 3 l s) 4 l a) 5 l b).1 0 1 = nI l := by simp [pz_sI1, h1]
  have e4 : (ez_sI (ez_sI (ez_sI x 3 l s) 4 l a) 5 l b).1 0 2 = nI k := by simp [pz_sI1, h2]
  have e5 : (ez_sI (ez_sI (ez_sI (ez_sI x 3 l s) 4 l a) 5 l b) 6 k (nI l)).1 0 2 = nI k := by simp [pz_sI1, h2]
  have e6 : (ez_sI (ez_sI (ez_sI (ez_sI (ez_sI x 3 l s) 4 l a) 5 l b) 6 k (nI l)) 0 2 (nI (k + 1))).1 0 1 = nI l := by simp [pz_sI1, h1]
  rw [h1, pz_stI (by omega) (by decide), Option.bind_some, e1, pz_stI (by omega) (by decide), Option.bind_some, e2, pz_stI (by omega) (by decide), Option.bind_some, e3, e4, pz_stI (by omega) (by decide), Option.bind_some, e5, nI_1, pz_fI, Option.bind_some, e6, nI_1, pz_fI, Option.bind_some]
theorem q_make (n : Nat) {s a b : Int32} (p : P4) (h : BS x0 S G L x) (hS : S.length ≤ 20) (hL : L.length < 120) (e1 : mS p = s) (e2 : mA p = a) (e3 : mB p = b) : ∃ x', fX4_make n s a b x = some x' ∧ BS x0 (nI L.length :: S) G (L ++ [p]) x' := by
  obtain ⟨h1, h2, h3, h4, h5, h6⟩ := h
  refine ⟨_, f_make n h2.1 h3 hL hS, ⟨fun c j a3 a4 a5 a6 a7 a0 => ?_, h1.2⟩, ⟨by rw [pz_self]; simp, fun i q hq => ?_⟩, ?_, ?_, ⟨?_, stk_of h5 fun i hi => ?_⟩, stk_of h6 fun i hi => ?_⟩
  · rw [pz_sI1, if_neg (fun q => (a0 q.1).1 q.2), pz_sI1, if_neg (fun q => (a0 q.1).2.1 q.2), pz_sI1, if_neg (fun q => a6 q.1), pz_sI1, if_neg (fun q => a5 q.1), pz_sI1, if_neg (fun q => a4 q.1), pz_sI1, if_neg (fun q => a3 q.1)]
    exact h1.1 c j a3 a4 a5 a6 a7 a0
  · rcases getq_app hq with hq | ⟨hq1, rfl⟩
    · have hne : i ≠ L.length := by
        intro e
        rw [e, List.getElem?_eq_none (Nat.le_refl _)] at hq
        cases hq
      have := h2.2 i q hq
      simpa [pz_sI1, hne] using this
    · simp [pz_sI1, hq1, e1, e2, e3]
  · simp [pz_sI1]
  · simpa [pz_sI1] using h4
  · simp [pz_sI1]
  · have : i ≠ S.length := by omega
    simp [pz_sI1, this]
  · simp [pz_sI1]
theorem q_hang (n : Nat) (g : Int32) (h : BS x0 S G L x) (hG : G.length ≤ 20) : ∃ x', fX4_hang n g x = some x' ∧ BS x0 S (g :: G) L x' := by
  obtain ⟨h1, h2, h3, h4, h5, h6⟩ := h
  have e1 : (ez_sI x 7 G.length g).1 0 3 = nI G.length := by simp [pz_sI1, h4]
  unfold fX4_hang
  rw [h4, pz_stI (by omega) (by decide), Option.bind_some, e1, nI_1, pz_fI, Option.bind_some]
  refine ⟨_, rfl, ⟨fun c j a3 a4 a5 a6 a7 a0 => ?_, h1.2⟩, stoX_of h2 (by simp [pz_sI1]) (fun i => by simp [pz_sI1]) (fun i => by simp [pz_sI1]) (fun i => by simp [pz_sI1]), by simpa [pz_sI1] using h3, by simp [pz_sI1], stk_of h5 fun i hi => by simp [pz_sI1], ⟨by simp [pz_sI1], stk_of h6 fun i hi => ?_⟩⟩
  · rw [pz_sI1, if_neg (fun q => (a0 q.1).2.2 q.2), pz_sI1, if_neg (fun q => a7 q.1)]
    exact h1.1 c j a3 a4 a5 a6 a7 a0
  · have : i ≠ G.length := by omega
    simp [pz_sI1, this]
theorem q_hold (n : Nat) (g : Int32) : fX4_hold n g = some (nI (hld g)) := by
  unfold fX4_hold hld
  by_cases h1 : g = 1
  · rw [if_pos h1, if_pos h1]; rfl
  · rw [if_neg h1, if_neg h1]
    by_cases h2 : g = 42
    · rw [if_pos h2, if_pos (Or.inl h2)]; rfl
    · rw [if_neg h2]
      by_cases h3 : g = 47
      · rw [if_pos h3, if_pos (Or.inr h3)]; rfl
      · rw [if_neg h3, if_neg (show ¬ (g = 42 ∨ g = 47) from fun q => q.elim h2 h3)]
        by_cases h4 : g = 43
        · rw [if_pos h4, if_pos (Or.inl h4)]; rfl
        · rw [if_neg h4]
          by_cases h5 : g = 45
          · rw [if_pos h5, if_pos (Or.inr h5)]; rfl
          · rw [if_neg h5, if_neg (fun q => q.elim h4 h5)]; rfl
theorem hld_3 (g : Int32) : hld g ≤ 3 := by
  unfold hld
  split
  · omega
  · split
    · omega
    · split <;> omega
end QB
theorem stp_len {g : Int32} {S : List Int32} {L : List P4} {q : List Int32 × List P4} (h : stp g S L = some q) : q.2.length = L.length + 1 ∧ q.1.length ≤ S.length := by
  unfold stp at h
  by_cases h1 : g = 1
  · rw [if_pos h1] at h
    cases S with
    | nil => cases h
    | cons b S => cases h; simp
  · rw [if_neg h1] at h
    cases S with
    | nil => cases h
    | cons b S =>
      cases S with
      | nil => cases h
      | cons a S => cases h; simp
theorem stl_len {lv : Nat} : ∀ {G S : List Int32} {L : List P4} {t : T3}, stl lv G S L = some t → t.2.2.length + t.2.1.length = L.length + G.length ∧ t.1.length ≤ S.length ∧ t.2.1.length ≤ G.length
  | [], S, L, t, h => by cases h; simp
  | g :: G, S, L, t, h => by
    rw [stl] at h
    by_cases hb : lv ≤ hld g
    · rw [if_pos hb] at h
      obtain ⟨q, e, h⟩ := ez_bd h
      have a := stp_len e
      have b := stl_len h
      simp only [List.length_cons]
      omega
    · rw [if_neg hb] at h
      cases h
      simp
theorem pwr_len {e y : Int32} {L : List P4} : (pwr e y L).2.length ≤ L.length + 3 := by
  unfold pwr
  dsimp only
  by_cases a1 : 4 ≤ e
  · rw [if_pos a1]
    by_cases a2 : e = 3 ∨ e = 5
    · rw [if_pos a2]; simp
    · rw [if_neg a2]; simp
  · rw [if_neg a1]
    by_cases a2 : e = 3 ∨ e = 5
    · rw [if_pos a2]; simp
    · rw [if_neg a2]; simp
theorem q_settle {x0 : Wd} {lv : Nat} (hlv : lv ≤ 3) : ∀ {G S : List Int32} {L : List P4} {t : T3} {x : Wd} {n : Nat}, stl lv G S L = some t → BS x0 S G L x → G.length < n → G.length ≤ 20 → S.length ≤ 20 → L.length + G.length ≤ 120 → ∃ x', fX4_settle n (nI lv) x = some x' ∧ BS x0 t.1 t.2.1 t.2.2 x'
  | _, _, _, _, _, 0, _, _, hn, _, _, _ => by omega
  | [], S, L, t, x, n + 1, h, hB, hn, hG, hS, hL => by
    cases h
    have h4 := hB.2.2.2.1
    rw [fX4_settle, h4, if_pos (by decide)]
    exact ⟨x, rfl, hB⟩
  | g :: G, S, L, t, x, n + 1, h, hB, hn, hG, hS, hL => by
    have hB0 := hB
    obtain ⟨h1, h2, h3, h4, h5, h6⟩ := hB
    simp only [List.length_cons] at hn hG hL h4
    have hg3 := hld_3 g
    rw [stl] at h
    rw [fX4_settle, h4, if_neg (show ¬ nI (G.length + 1) ≤ 0 from nI_ge (b := G.length + 1) (a := 0) (by omega) (by omega)), sub1, pz_ldI (by omega) (by decide), Option.bind_some, h6.1, q_hold, Option.bind_some]
    by_cases hb : lv ≤ hld g
    · rw [if_pos hb] at h
      obtain ⟨q, e, h⟩ := ez_bd h
      have hq := stp_len e
      rw [if_neg (show ¬ nI (hld g) < nI lv from Int32.not_lt.mpr (nI_le hb (by omega))), pz_fI, Option.bind_some, pz_self, pz_ldI (by omega) (by decide), Option.bind_some]
      have hB1 : BS x0 S G L (ez_sI x 0 3 (nI G.length)) := by
        refine ⟨⟨fun c j a3 a4 a5 a6 a7 a0 => ?_, h1.2⟩, stoX_of h2 (by simp [pz_sI1]) (fun i => by simp [pz_sI1]) (fun i => by simp [pz_sI1]) (fun i => by simp [pz_sI1]), by simpa [pz_sI1] using h3, pz_self .., stk_of h5 fun i hi => by simp [pz_sI1], stk_of h6.2 fun i hi => by simp [pz_sI1]⟩
        rw [pz_sI1, if_neg (fun q => (a0 q.1).2.2 q.2)]
        exact h1.1 c j a3 a4 a5 a6 a7 a0
      have hy : (ez_sI x 0 3 (nI G.length)).1 7 G.length = g := by
        rw [pz_sI1, if_neg (by simp)]
        exact h6.1
      rw [hy]
      by_cases hg1 : g = 1
      · subst hg1
        cases S with
        | nil => cases e
        | cons b S =>
          rw [stp_1] at e
          cases e
          simp only [List.length_cons] at hS
          obtain ⟨x1, t1, t2⟩ := q_take n hB1 (by omega)
          obtain ⟨x2, m1, m2⟩ := q_make n (s := 1) (a := b) (b := b) (pUn 1 b) t2 (by omega) (by omega) rfl rfl rfl
          rw [t1, Option.bind_some, if_pos rfl, m1, Option.bind_some]
          exact q_settle hlv h m2 (by omega) (by omega) (by simp; omega) (by simp; omega)
      · cases S with
        | nil => unfold stp at e; rw [if_neg hg1] at e; cases e
        | cons b S =>
          cases S with
          | nil => unfold stp at e; rw [if_neg hg1] at e; cases e
          | cons a S =>
            rw [stp_2 hg1] at e
            cases e
            simp only [List.length_cons] at hS
            obtain ⟨x1, t1, t2⟩ := q_take n hB1 (by simp; omega)
            obtain ⟨x2, u1, u2⟩ := q_take n t2 (by omega)
            rw [t1, Option.bind_some, if_neg hg1, u1, Option.bind_some]
            have fin : ∀ s : Int32, opOf g = s → (s = 2 ∨ s = 3 ∨ s = 4 ∨ s = 5) → ∃ x', (fX4_make n s a b x2).bind (fun z => fX4_settle n (nI lv) z) = some x' ∧ BS x0 t.1 t.2.1 t.2.2 x' := by
              intro s hs hss
              rw [hs] at h
              obtain ⟨x3, m1, m2⟩ := q_make n (s := s) (a := a) (b := b) (pBi s a b) u2 (by omega) (by omega) (by rcases hss with r | r | r | r <;> rw [r] <;> rfl) (by rcases hss with r | r | r | r <;> rw [r] <;> rfl) (by rcases hss with r | r | r | r <;> rw [r] <;> rfl)
              rw [m1, Option.bind_some]
              exact q_settle hlv h m2 (by omega) (by omega) (by simp; omega) (by simp; omega)
            unfold opOf at fin
            by_cases c1 : g = 43
            · rw [if_pos c1]
              exact fin 2 (by rw [if_pos c1]) (by simp)
            · rw [if_neg c1]
              rw [if_neg c1] at fin
              by_cases c2 : g = 45
              · rw [if_pos c2]
                exact fin 3 (by rw [if_pos c2]) (by simp)
              · rw [if_neg c2]
                rw [if_neg c2] at fin
                by_cases c3 : g = 42
                · rw [if_pos c3]
                  exact fin 4 (by rw [if_pos c3]) (by simp)
                · rw [if_neg c3]
                  exact fin 5 (by rw [if_neg c3]) (by simp)
    · rw [if_neg hb] at h
      cases h
      rw [if_pos (show nI (hld g) < nI lv from nI_lt (by omega) (by omega))]
      exact ⟨x, rfl, hB0⟩
theorem q_power {x0 : Wd} {S G : List Int32} {L : List P4} {x : Wd} (n : Nat) (e y : Int32) (h : BS x0 (y :: S) G L x) (hS : S.length ≤ 19) (hL : L.length + 3 ≤ 120) : ∃ x', fX4_power n e x = some x' ∧ BS x0 ((pwr e y L).1 :: S) G (pwr e y L).2 x' := by
  obtain ⟨x1, t1, t2⟩ := q_take n h (by omega)
  obtain ⟨x2, m1, m2⟩ := q_make n (s := 7) (a := y) (b := y) (pUn 6 y) t2 (by omega) (by omega) rfl rfl rfl
  unfold fX4_power
  rw [t1, Option.bind_some, m1, Option.bind_some]
  have tail : ∀ (q : Int32) (K : List P4) (x' : Wd), BS x0 (q :: S) G K x' → K.length + 1 ≤ 120 → ∃ x'', fX4_power_31 n e y x' = some x'' ∧ BS x0 ((if e = 3 ∨ e = 5 then (nI K.length, K ++ [pBi 4 q y]) else (q, K)).1 :: S) G (if e = 3 ∨ e = 5 then (nI K.length, K ++ [pBi 4 q y]) else (q, K)).2 x'' := by
    intro q K x' hB hK
    obtain ⟨y1, a1, a2⟩ := q_take n hB (by omega)
    obtain ⟨y2, b1, b2⟩ := q_make n (s := 4) (a := q) (b := y) (pBi 4 q y) a2 (by omega) (by omega) rfl rfl rfl
    unfold fX4_power_31
    by_cases c1 : e = 3
    · rw [if_pos c1, a1, Option.bind_some, b1, Option.bind_some, if_pos (Or.inl c1)]
      exact ⟨_, rfl, b2⟩
    · rw [if_neg c1]
      by_cases c2 : e = 5
      · rw [if_pos c2, a1, Option.bind_some, b1, Option.bind_some, if_pos (Or.inr c2)]
        exact ⟨_, rfl, b2⟩
      · rw [if_neg c2, if_neg (fun q => q.elim c1 c2)]
        exact ⟨_, rfl, hB⟩
  unfold pwr
  dsimp only
  by_cases c4 : 4 ≤ e
  · obtain ⟨x3, a1, a2⟩ := q_take n m2 (by omega)
    obtain ⟨x4, b1, b2⟩ := q_make n (s := 7) (a := nI L.length) (b := nI L.length) (pUn 6 (nI L.length)) a2 (by omega) (by simp; omega) rfl rfl rfl
    rw [if_neg (Int32.not_lt.mpr c4), a1, Option.bind_some, b1, Option.bind_some, if_pos c4]
    exact tail _ _ x4 b2 (by simp; omega)
  · rw [if_pos (Int32.not_le.mp c4), if_neg c4]
    exact tail _ _ x2 m2 (by simp; omega)
