/-! evaluate and compare -/
def core (w x : Wd) (cs : List Int32) (L : List P4) : Prop := txt w cs ∧ txt x cs ∧ cs.length ≤ 20 ∧ (∀ c ∈ cs, typ c) ∧ L.length ≤ 80 ∧ okL L ∧ stoW w L ∧ stoX x L ∧ relN w x L.length
def cW (w w' : Wd) : Prop := ∀ c j, c ≠ 9 → c ≠ 10 → (c = 0 → j ≠ 4 ∧ j ≠ 1 ∧ j ≠ 2) → w'.1 c j = w.1 c j
def cX (x x' : Wd) : Prop := ∀ c j, c ≠ 6 → c ≠ 7 → c ≠ 8 → c ≠ 11 → (c = 0 → j ≠ 2 ∧ j ≠ 3 ∧ j ≠ 4 ∧ j ≠ 5 ∧ j ≠ 6) → x'.1 c j = x.1 c j
theorem cW.tr {a b c : Wd} (h : cW a b) (g : cW b c) : cW a c := fun i j h1 h2 h3 => (g i j h1 h2 h3).trans (h i j h1 h2 h3)
theorem cX.tr {a b c : Wd} (h : cX a b) (g : cX b c) : cX a c := fun i j h1 h2 h3 h4 h5 => (g i j h1 h2 h3 h4 h5).trans (h i j h1 h2 h3 h4 h5)
theorem cW.rf {a : Wd} : cW a a := fun _ _ _ _ _ => rfl
theorem cX.rf {a : Wd} : cX a a := fun _ _ _ _ _ _ _ => rfl
theorem evW.c {w w' : Wd} (h : evW w w') : cW w w' := fun c j h1 h2 h3 => h.1 c j h1 h2 (fun q => (h3 q).1)
theorem evX.c {w w' : Wd} (h : evX w w') : cX w w' := fun c j _ _ h1 h2 _ => h.1 c j h1 h2
theorem core_c {w w' x x' : Wd} {cs : List Int32} {L : List P4} (h : core w x cs L) (hw : cW w w') (hx : cX x x') : core w' x' cs L := by
  obtain ⟨tw, tx, hlen, hty, hL, hok, hsw, hsx, hn⟩ := h
  exact ⟨txt_of tw (hw _ _ (by decide) (by decide) (by decide)) (fun i => hw _ _ (by decide) (by decide) (fun q => by cases q)), txt_of tx (hx _ _ (by decide) (by decide) (by decide) (by decide) (by decide)) (fun i => hx _ _ (by decide) (by decide) (by decide) (by decide) (fun q => by cases q)), hlen, hty, hL, hok, stoW_of hsw (hw _ _ (by decide) (by decide) (by decide)) (fun i => hw _ _ (by decide) (by decide) (fun q => by cases q)) (fun i => hw _ _ (by decide) (by decide) (fun q => by cases q)) (fun i => hw _ _ (by decide) (by decide) (fun q => by cases q)) (fun i => hw _ _ (by decide) (by decide) (fun q => by cases q)), stoX_of hsx (hx _ _ (by decide) (by decide) (by decide) (by decide) (by decide)) (fun i => hx _ _ (by decide) (by decide) (by decide) (by decide) (fun q => by cases q)) (fun i => hx _ _ (by decide) (by decide) (by decide) (by decide) (fun q => by cases q)) (fun i => hx _ _ (by decide) (by decide) (by decide) (by decide) (fun q => by cases q)), relN_of hn (fun i => hw _ _ (by decide) (by decide) (fun q => by cases q)) (fun i => hx _ _ (by decide) (by decide) (by decide) (by decide) (fun q => by cases q))⟩
/-- what a loop over the steps may change -/
def ewW (w w' : Wd) : Prop := (∀ c j, c ≠ 9 → c ≠ 10 → (c = 0 → j ≠ 4 ∧ j ≠ 1) → w'.1 c j = w.1 c j) ∧ (∀ c j, c ≠ 11 → c ≠ 12 → w'.2 c j = w.2 c j)
def ewX (x x' : Wd) : Prop := (∀ c j, c ≠ 8 → c ≠ 11 → (c = 0 → j ≠ 4) → x'.1 c j = x.1 c j) ∧ (∀ c j, c ≠ 9 → c ≠ 10 → x'.2 c j = x.2 c j)
theorem ewW.tr {a b c : Wd} (h : ewW a b) (g : ewW b c) : ewW a c := ⟨fun i j h1 h2 h3 => (g.1 i j h1 h2 h3).trans (h.1 i j h1 h2 h3), fun i j h1 h2 => (g.2 i j h1 h2).trans (h.2 i j h1 h2)⟩
theorem ewX.tr {a b c : Wd} (h : ewX a b) (g : ewX b c) : ewX a c := ⟨fun i j h1 h2 h3 => (g.1 i j h1 h2 h3).trans (h.1 i j h1 h2 h3), fun i j h1 h2 => (g.2 i j h1 h2).trans (h.2 i j h1 h2)⟩
theorem ewW.rf {a : Wd} : ewW a a := ⟨fun _ _ _ _ _ => rfl, fun _ _ _ _ => rfl⟩
theorem ewX.rf {a : Wd} : ewX a a := ⟨fun _ _ _ _ _ => rfl, fun _ _ _ _ => rfl⟩
theorem ewW.c {w w' : Wd} (h : ewW w w') : cW w w' := fun c j h1 h2 h3 => h.1 c j h1 h2 (fun q => ⟨(h3 q).1, (h3 q).2.1⟩)
theorem ewX.c {w w' : Wd} (h : ewX w w') : cX w w' := fun c j _ _ h1 h2 h3 => h.1 c j h1 h2 (fun q => (h3 q).2.2.1)
theorem evW.w {w w' : Wd} (h : evW w w') : ewW w w' := ⟨fun c j h1 h2 h3 => h.1 c j h1 h2 (fun q => (h3 q).1), h.2⟩
theorem evX.w {w w' : Wd} (h : evX w w') : ewX w w' := ⟨fun c j h1 h2 _ => h.1 c j h1 h2, h.2⟩
theorem ewW_f (w : Wd) (k : Nat) (v : Int32) (hk : k = 4 ∨ k = 1) : ewW w (ez_sI w 0 k v) := ⟨fun c j _ _ h3 => by rw [pz_sI1, if_neg]; intro q; have := h3 q.1; omega, fun _ _ _ _ => rfl⟩
theorem ewX_f (w : Wd) (v : Int32) : ewX w (ez_sI w 0 4 v) := ⟨fun c j _ _ h3 => by rw [pz_sI1, if_neg]; intro q; have := h3 q.1; omega, fun _ _ _ _ => rfl⟩
def ready (w x : Wd) (L : List P4) : Prop := stoW w L ∧ stoX x L ∧ (∀ j, j < 80 → w.1 9 j = x.1 11 j) ∧ (∀ j, L.length ≤ j → j < 80 → w.1 9 j = 0) ∧ closed w L ∧ (∀ j, j < 80 → mk01 (w.1 9 j)) ∧ w.1 0 1 = x.1 0 4
theorem spn_f01 {w x : Wd} {a : Nat} {B : Int} (k : Nat) (v : Int32) (h : spn w x a B) : spn (ez_sI w 0 k v) x a B := by
  unfold spn
  have : (ez_sI w 0 k v).1 10 a = w.1 10 a := by simp [pz_sI1]
  rw [this, pz_sI2]
  exact h
theorem closed_of {w w' : Wd} {L : List P4} (h : closed w L) (m9 : ∀ j, w'.1 9 j = w.1 9 j) : closed w' L := fun i p hp hm => by
  rw [m9] at hm
  obtain ⟨d1, d2⟩ := h i p hp hm
  exact ⟨fun a ha q => by rw [m9]; exact d1 a ha q, fun a ha q => by rw [m9]; exact d2 a ha q⟩
theorem step1 {L : List P4} (hL : L.length ≤ 80) (hok : okL L) {t n : Nat} (ht : t ≤ 18) (hn : 400 ≤ n) (r : Int32) {w x : Wd} (h : ready w x L) : ∃ z3 z5, fX2_workOut n (nI t) w = some z3 ∧ fX4_allAt n (nI t) (ez_sI x 0 4 (x.1 0 4 + r)) = some z5 ∧ ready (ez_sI z3 0 1 (z3.1 0 1 + r)) z5 L ∧ ewW w (ez_sI z3 0 1 (z3.1 0 1 + r)) ∧ ewX x z5 ∧ z3.1 0 4 = nI t ∧ (∀ j, j < 80 → (ez_sI z3 0 1 (z3.1 0 1 + r)).1 9 j = w.1 9 j) ∧ (∀ j, j < L.length → w.1 9 j = 1 → spn (ez_sI z3 0 1 (z3.1 0 1 + r)) z5 j (4096 * 2 ^ t)) := by
  obtain ⟨hsw, hsx, hmk, hz, hcl, h01, hwk⟩ := h
  have e1 : evW w (ez_sI w 0 4 (nI t)) := ⟨fun c j _ _ h3 => by rw [pz_sI1, if_neg]; intro q; exact h3 q.1 q.2, fun _ _ _ _ => rfl⟩
  have m9 : ∀ j, (ez_sI w 0 4 (nI t)).1 9 j = w.1 9 j := fun j => by simp [pz_sI1]
  have hsx' : stoX (ez_sI x 0 4 (x.1 0 4 + r)) L := stoX_of hsx (by simp [pz_sI1]) (fun i => by simp [pz_sI1]) (fun i => by simp [pz_sI1]) (fun i => by simp [pz_sI1])
  have m11 : ∀ j, (ez_sI x 0 4 (x.1 0 4 + r)).1 11 j = x.1 11 j := fun j => by simp [pz_sI1]
  obtain ⟨w', x', f1, f2, g1, g2, g3, g4, g5, g6⟩ := wo_sim hL hok ht L.length 0 n (ez_sI w 0 4 (nI t)) (ez_sI x 0 4 (x.1 0 4 + r)) (by omega) (by omega) (pz_self _ _ _ _) (e1.sto hsw) hsx' (fun j hj => by rw [m9, m11]; exact hmk j hj) (fun j h1 h2 => by rw [m9]; exact hz j h1 h2) (closed_of hcl m9) (fun j hj => by rw [m9]; exact h01 j hj) (fun j hj => by omega)
  have n9 : ∀ j, (ez_sI w' 0 1 (w'.1 0 1 + r)).1 9 j = w.1 9 j := fun j => by
    have : (ez_sI w' 0 1 (w'.1 0 1 + r)).1 9 j = w'.1 9 j := by simp [pz_sI1]
    rw [this, g4, m9]
  have n11 : ∀ j, x'.1 11 j = x.1 11 j := fun j => (g5 j).trans (m11 j)
  have ew : ewW w (ez_sI w' 0 1 (w'.1 0 1 + r)) := (e1.w.tr g1.w).tr (ewW_f w' 1 _ (Or.inr rfl))
  refine ⟨w', x', f1, f2, ⟨?_, g2.sto hsx', fun j hj => by rw [n9, n11]; exact hmk j hj, fun j h1 h2 => by rw [n9]; exact hz j h1 h2, closed_of hcl n9, fun j hj => by rw [n9]; exact h01 j hj, ?_⟩, ew, (ewX_f x _).tr g2.w, g3, fun j _ => n9 j, fun j hj hm => spn_f01 1 _ (g6 j hj (by rw [m9]; exact hm))⟩
  · exact stoW_of (g1.sto (e1.sto hsw)) (by simp [pz_sI1]) (fun i => by simp [pz_sI1]) (fun i => by simp [pz_sI1]) (fun i => by simp [pz_sI1]) (fun i => by simp [pz_sI1])
  · rw [pz_self, g2.1 0 4 (by decide) (by decide), pz_self, g1.1 0 1 (by decide) (by decide) (by decide)]
    have : (ez_sI w 0 4 (nI t)).1 0 1 = w.1 0 1 := by simp [pz_sI1]
    rw [this, hwk]
/-- the last step -/
theorem last_lt {p f t : Nat} (hp : p ≤ 16) (hf : 1 ≤ f ∧ f ≤ 20) (ht : t ≤ 40) : (nI (min (p + f - 1) 18) < nI t) ↔ ((nI p + nI f) ≤ nI t ∨ (18 : Int32) < nI t) := by
  have h1 : (nI (min (p + f - 1) 18) < nI t) ↔ min (p + f - 1) 18 < t := nI_ltI (by omega) (by omega)
  have h2 : (nI p + nI f ≤ nI t) ↔ p + f ≤ t := by rw [nI_add]; exact nI_leI (by omega) (by omega)
  have h3 : ((18 : Int32) < nI t) ↔ 18 < t := nI_ltI (a := 18) (by omega) (by omega)
  rw [h1, h2, h3]
  omega
/-- the class's loop ends as soon as there is an answer -/
theorem ts_end {n : Nat} {x1 x2 x3 x5 x6 x7 x8 x9 : Int32} {w : Wd} (h : ¬ x8 = 0) : fX3_trySteps_39 (n + 1) x1 x2 x3 x5 x6 x7 x8 x9 w = some (x8, w) := by
  rw [fX3_trySteps_39]
  by_cases hc : x6 < x9
  · rw [if_pos hc]
  · rw [if_neg hc, if_neg h]
theorem sp_y (n : Nat) {w : Wd} {a : Nat} (ha : a < 80) (h : w.1 10 a = 0) : fX2_hasSpan n (nI a) w = some 1 := by
  rw [p_span n w ha, h]
  rfl
theorem sp_n (n : Nat) {w : Wd} {a : Nat} (ha : a < 80) (h : w.1 10 a = 2) : fX2_hasSpan n (nI a) w = some 0 := by
  rw [p_span n w ha, h]
  rfl
theorem j1_s (n : Nat) {w : Wd} {a : Nat} (ha : a < 80) (h : w.1 10 a = 0) (wd : Int64) : fX3_judgeOne n (nI a) wd w = some (if 0 < lg_cmp (w.2 12 a - w.2 11 a) wd then 0 else 1) := by
  unfold fX3_judgeOne
  rw [(st_s n ha h).1, Option.bind_some, if_pos rfl, sp_y n ha h, Option.bind_some, if_neg (by decide), p_high n w ha, Option.bind_some, p_low n w ha, Option.bind_some]
  split <;> rfl
theorem j1_f (n : Nat) {w : Wd} {a : Nat} (ha : a < 80) (h : w.1 10 a = 1) (wd : Int64) : fX3_judgeOne n (nI a) wd w = some 2 := by
  unfold fX3_judgeOne
  rw [(st_f n ha h).1, Option.bind_some, if_neg (by decide)]
theorem j1_o (n : Nat) {w : Wd} {a : Nat} (ha : a < 80) (h : w.1 10 a = 2) (wd : Int64) : fX3_judgeOne n (nI a) wd w = some 0 := by
  unfold fX3_judgeOne
  rw [(st_o n ha h).1, Option.bind_some, if_pos rfl, sp_n n ha h, Option.bind_some, if_pos rfl]
def setR (x : Wd) (t : Int32) (lo hi : Int64) : Wd := ez_sL (ez_sL (ez_sI (ez_sI x 0 6 1) 0 5 t) 0 0 lo) 0 1 hi
theorem ev_loop {L : List P4} (hL : L.length ≤ 80) (hok : okL L) {a p f : Nat} (ha : a < L.length) (hp : p ≤ 16) (hf : 1 ≤ f ∧ f ≤ 20) (r : Int32) : ∀ (k t n : Nat) (w x : Wd), t + k = 19 → p ≤ t → k + 410 ≤ n → ready w x L → w.1 9 a = 1 → ∃ ans w', fX3_trySteps_39 n (nI a) (nI a) (nI p) 0 (nI (min (p + f - 1) 18)) r 0 (nI t) w = some (ans, w') ∧ ewW w w' ∧ ((¬ ans = 1 ∧ ∃ x', fX4_evaluate_50 n (nI p) (nI f) (nI a) r (nI t) x = some (ans, x') ∧ ewX x x' ∧ w'.1 0 1 = x'.1 0 4) ∨ (ans = 1 ∧ ∃ x' u, fX4_evaluate_50 n (nI p) (nI f) (nI a) r (nI t) x = some (1, setR x' (nI u) (x'.2 9 a) (x'.2 10 a)) ∧ ewX x x' ∧ w'.1 0 1 = x'.1 0 4 ∧ u ≤ 18 ∧ w'.1 0 4 = nI u ∧ w'.2 11 a = x'.2 9 a ∧ w'.2 12 a = x'.2 10 a ∧ -1073741824 ≤ (w'.2 11 a).toInt ∧ (w'.2 11 a).toInt ≤ 1073741824 ∧ -1073741824 ≤ (w'.2 12 a).toInt ∧ (w'.2 12 a).toInt ≤ 1073741824))
  | k, t, 0, w, x, _, _, hn, _, _ => by omega
  | k, t, n + 1, w, x, hk, hpt, hn, hr, hma => by
    rw [fX3_trySteps_39, fX4_evaluate_50]
    have hl := last_lt hp hf (show t ≤ 40 by omega)
    by_cases hq : nI (min (p + f - 1) 18) < nI t
    · rw [if_pos hq]
      have : ∃ x', (if nI p + nI f ≤ nI t then some ((0 : Int32), x) else if 18 < nI t then some (0, x) else (ez_fI x 4 ((x.1 0 4) + r)).bind fun w4 =>
        (fX4_allAt n (nI t) w4).bind fun z5 =>
        (ez_ldI z5 8 120 (nI a)).bind fun y8 =>
        if y8 = 2 then some (2, z5) else
          (ez_ldI z5 8 120 (nI a)).bind fun y11 =>
          if y11 = 0 then
            (ez_ldL z5 10 120 (nI a)).bind fun y14 =>
            (ez_ldL z5 9 120 (nI a)).bind fun y16 =>
            if 0 < (lg_cmp (y14 - y16) ((1 : Int64) <<< (Int32.toInt64 (nI t - nI p) &&& 63))) then
              fX4_evaluate_50 n (nI p) (nI f) (nI a) r (nI t + 1) z5
            else
              (ez_fI z5 6 1).bind fun w19 =>
              (ez_fI w19 5 (nI t)).bind fun w21 =>
              (ez_ldL w21 9 120 (nI a)).bind fun y23 =>
              (ez_fL w21 0 y23).bind fun w25 =>
              (ez_ldL w25 10 120 (nI a)).bind fun y27 =>
              (ez_fL w25 1 y27).bind fun w29 =>
              some (1, w29)
          else
            fX4_evaluate_50 n (nI p) (nI f) (nI a) r (nI t + 1) z5) = some (0, x') ∧ x' = x := by
        rcases hl.mp hq with h | h
        · rw [if_pos h]; exact ⟨x, rfl, rfl⟩
        · by_cases h2 : nI p + nI f ≤ nI t
          · rw [if_pos h2]; exact ⟨x, rfl, rfl⟩
          · rw [if_neg h2, if_pos h]; exact ⟨x, rfl, rfl⟩
      obtain ⟨x', e, rfl⟩ := this
      exact ⟨0, w, rfl, ewW.rf, Or.inl ⟨by decide, x', e, ewX.rf, hr.2.2.2.2.2.2⟩⟩
    · have hq1 : ¬ nI p + nI f ≤ nI t := fun h => hq (hl.mpr (Or.inl h))
      have hq2 : ¬ (18 : Int32) < nI t := fun h => hq (hl.mpr (Or.inr h))
      have ht : t ≤ 18 := by
        rcases Nat.lt_or_ge 18 t with h | h
        · exact absurd (nI_lt (a := 18) h (by omega)) hq2
        · exact h
      obtain ⟨z3, z5, f1, f2, rd, g1, g2, g3, g4, g5⟩ := step1 hL hok ht (show 400 ≤ n by omega) r hr
      have hsp := g5 a ha hma
      have ha8 : a < 80 := by omega
      obtain ⟨pw1, pw2⟩ := pow_le18 ht
      rw [if_neg hq, if_pos rfl, if_neg hq1, if_neg hq2, f1, Option.bind_some, pz_fI, Option.bind_some, pz_fI, Option.bind_some, f2, Option.bind_some, if_pos rfl, pz_ldI (by omega) (by decide), Option.bind_some, nI_1]
      obtain ⟨W1, hW1⟩ : ∃ W1, W1 = ez_sI z3 0 1 (z3.1 0 1 + r) := ⟨_, rfl⟩
      rw [← hW1] at rd g1 g4 hsp ⊢
      have w4 : W1.1 0 4 = nI t := by rw [hW1]; simp [pz_sI1, g3]
      have go : ∃ ans w', fX3_trySteps_39 n (nI a) (nI a) (nI p) 0 (nI (min (p + f - 1) 18)) r 0 (nI (t + 1)) W1 = some (ans, w') ∧ ewW w w' ∧ ((¬ ans = 1 ∧ ∃ x', fX4_evaluate_50 n (nI p) (nI f) (nI a) r (nI (t + 1)) z5 = some (ans, x') ∧ ewX x x' ∧ w'.1 0 1 = x'.1 0 4) ∨ (ans = 1 ∧ ∃ x' u, fX4_evaluate_50 n (nI p) (nI f) (nI a) r (nI (t + 1)) z5 = some (1, setR x' (nI u) (x'.2 9 a) (x'.2 10 a)) ∧ ewX x x' ∧ w'.1 0 1 = x'.1 0 4 ∧ u ≤ 18 ∧ w'.1 0 4 = nI u ∧ w'.2 11 a = x'.2 9 a ∧ w'.2 12 a = x'.2 10 a ∧ -1073741824 ≤ (w'.2 11 a).toInt ∧ (w'.2 11 a).toInt ≤ 1073741824 ∧ -1073741824 ≤ (w'.2 12 a).toInt ∧ (w'.2 12 a).toInt ≤ 1073741824)) := by
        obtain ⟨ans, w', e1, e2, e3⟩ := ev_loop hL hok ha hp hf r (k - 1) (t + 1) n W1 z5 (by omega) (by omega) (by omega) rd (by rw [g4 a ha8]; exact hma)
        refine ⟨ans, w', e1, g1.tr e2, ?_⟩
        rcases e3 with ⟨h1, x', h2, h3, h4⟩ | ⟨h1, x', u, h2, h3, h4⟩
        · exact Or.inl ⟨h1, x', h2, g2.tr h3, h4⟩
        · exact Or.inr ⟨h1, x', u, h2, g2.tr h3, h4⟩
      obtain ⟨m, rfl⟩ : ∃ m, n = m + 1 := ⟨n - 1, by omega⟩
      rcases hsp with ⟨s1, s2, s3, s4, s5, s6, s7⟩ | ⟨s1, s2⟩ | ⟨s1, s2⟩
      · rw [j1_s _ ha8 s1, s2, Option.bind_some, if_neg (show ¬ (0 : Int32) = 2 by decide), Option.bind_some, if_pos (show (0 : Int32) = 0 from rfl), pz_ldL (by omega) (by decide), Option.bind_some, pz_ldL (by omega) (by decide), Option.bind_some, ← s3, ← s4]
        by_cases hc : 0 < lg_cmp (W1.2 12 a - W1.2 11 a) ((1 : Int64) <<< (Int32.toInt64 (nI t - nI p) &&& 63))
        · rw [if_pos hc, if_pos hc]
          exact go
        · rw [if_neg hc, if_neg hc, ts_end (by decide)]
          refine ⟨1, W1, rfl, g1, Or.inr ⟨rfl, z5, t, ?_, g2, rd.2.2.2.2.2.2, ht, w4, s3, s4, by omega, by omega, by omega, by omega⟩⟩
          rw [pz_fI, Option.bind_some, pz_fI, Option.bind_some, pz_ldL (by omega) (by decide), Option.bind_some, pz_fL, Option.bind_some, pz_ldL (by omega) (by decide), Option.bind_some, pz_fL, Option.bind_some]
          have q1 : (ez_sI (ez_sI z5 0 6 1) 0 5 (nI t)).2 9 a = z5.2 9 a := rfl
          have q2 : (ez_sL (ez_sI (ez_sI z5 0 6 1) 0 5 (nI t)) 0 0 (z5.2 9 a)).2 10 a = z5.2 10 a := by
            rw [pz_sL2, if_neg (by omega)]
            rfl
          rw [q1, q2]
          rfl
      · rw [j1_f _ ha8 s1, s2, Option.bind_some, if_pos rfl, ts_end (by decide)]
        exact ⟨2, W1, rfl, g1, Or.inl ⟨by decide, z5, rfl, g2, rd.2.2.2.2.2.2⟩⟩
      · rw [j1_o _ ha8 s1, s2, Option.bind_some, if_neg (by decide), Option.bind_some, if_neg (by decide)]
        exact go
