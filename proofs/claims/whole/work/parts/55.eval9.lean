theorem sp_m (n : Nat) {w : Wd} {a : Nat} (ha : a < 80) (h : w.1 10 a = 1) : fX2_hasSpan n (nI a) w = some 0 := by
  rw [p_span n w ha, h]
  rfl
theorem j2_s (n : Nat) {w x : Wd} {a b : Nat} (ha : a < 80) (hb : b < 80) (h1 : w.1 10 a = 0) (h2 : w.1 10 b = 0) (a1 : w.2 11 a = x.2 9 a) (a2 : w.2 12 a = x.2 10 a) (b1 : w.2 11 b = x.2 9 b) (b2 : w.2 12 b = x.2 10 b) (wd : Int64) : ∃ v, fX3_judgeTwo n (nI a) (nI b) wd w = some v ∧ fX4_relation n (nI a) (nI b) wd x = some v := by
  unfold fX3_judgeTwo fX4_relation
  rw [(st_s n ha h1).1, Option.bind_some, if_pos rfl, (st_s n hb h2).1, Option.bind_some, if_pos rfl, sp_y n ha h1, Option.bind_some, if_neg (show ¬ (1 : Int32) = 0 by decide), sp_y n hb h2, Option.bind_some, if_neg (show ¬ (1 : Int32) = 0 by decide), p_high n w ha, p_low n w hb, p_low n w ha, p_high n w hb, pz_ldL (show a < 120 by omega) (by decide), pz_ldL (show b < 120 by omega) (by decide), pz_ldL (show a < 120 by omega) (by decide), pz_ldL (show b < 120 by omega) (by decide), ← a1, ← a2, ← b1, ← b2]
  simp only [Option.bind_some]
  by_cases c1 : 0 ≤ lg_cmp (w.2 12 a) (w.2 11 b)
  · rw [if_pos c1, if_pos c1]
    by_cases c2 : lg_cmp (w.2 11 a) (w.2 12 b) ≤ 0
    · rw [if_pos c2, if_pos c2]
      obtain ⟨mx, e1, e2⟩ := p_max n (w.2 12 a) (w.2 12 b)
      obtain ⟨mn, e3, e4⟩ := p_min n (w.2 11 a) (w.2 11 b)
      rw [e1, Option.bind_some, e3, Option.bind_some]
      have rest : ∀ lo : Int64, lo = mn → fX4_relation_67 n (nI a) (nI b) wd lo x = some (if 0 < lg_cmp (mx - mn) wd then 0 else 5) := by
        intro lo hlo
        unfold fX4_relation_67
        rw [pz_ldL (show a < 120 by omega) (by decide), pz_ldL (show b < 120 by omega) (by decide), ← a2, ← b2]
        simp only [Option.bind_some]
        by_cases c3 : lg_cmp (w.2 12 a) (w.2 12 b) ≤ 0
        · rw [if_pos c3]
          rw [lg_cmp_le, aL_le] at c3
          have : mx = w.2 12 b := Int64.toInt_inj.mp (by omega)
          rw [hlo, this]
          split <;> rfl
        · rw [if_neg c3]
          rw [lg_cmp_le, aL_le] at c3
          have : mx = w.2 12 a := Int64.toInt_inj.mp (by omega)
          rw [hlo, this]
          split <;> rfl
      by_cases c4 : 0 ≤ lg_cmp (w.2 11 a) (w.2 11 b)
      · rw [if_pos c4]
        rw [lg_cmp_ge, aL_le] at c4
        rw [rest _ (Int64.toInt_inj.mp (by omega))]
        refine ⟨_, ?_, rfl⟩
        split <;> rfl
      · rw [if_neg c4]
        rw [lg_cmp_ge, aL_le] at c4
        rw [rest _ (Int64.toInt_inj.mp (by omega))]
        refine ⟨_, ?_, rfl⟩
        split <;> rfl
    · rw [if_neg c2, if_neg c2]
      exact ⟨_, rfl, rfl⟩
  · rw [if_neg c1, if_neg c1]
    exact ⟨_, rfl, rfl⟩
theorem j2_fa (n : Nat) {w : Wd} {a b : Nat} (ha : a < 80) (h : w.1 10 a = 1) (wd : Int64) : fX3_judgeTwo n (nI a) (nI b) wd w = some 2 := by
  unfold fX3_judgeTwo
  rw [(st_f n ha h).1, Option.bind_some, if_neg (by decide)]
theorem j2_fb (n : Nat) {w : Wd} {a b : Nat} (ha : fX2_isFalse n (nI a) w = some 0) (hb : b < 80) (h : w.1 10 b = 1) (wd : Int64) : fX3_judgeTwo n (nI a) (nI b) wd w = some 2 := by
  unfold fX3_judgeTwo
  rw [ha, Option.bind_some, if_pos rfl, (st_f n hb h).1, Option.bind_some, if_neg (by decide)]
theorem j2_oa (n : Nat) {w : Wd} {a b : Nat} (ha : a < 80) (h : w.1 10 a = 2) (hb : fX2_isFalse n (nI b) w = some 0) (wd : Int64) : fX3_judgeTwo n (nI a) (nI b) wd w = some 0 := by
  unfold fX3_judgeTwo
  rw [(st_o n ha h).1, Option.bind_some, if_pos rfl, hb, Option.bind_some, if_pos rfl, sp_n n ha h, Option.bind_some, if_pos rfl]
theorem j2_ob (n : Nat) {w : Wd} {a b : Nat} (ha : a < 80) (hb : b < 80) (h1 : w.1 10 a = 0) (h : w.1 10 b = 2) (wd : Int64) : fX3_judgeTwo n (nI a) (nI b) wd w = some 0 := by
  unfold fX3_judgeTwo
  rw [(st_s n ha h1).1, Option.bind_some, if_pos rfl, (st_o n hb h).1, Option.bind_some, if_pos rfl, sp_y n ha h1, Option.bind_some, if_neg (by decide), sp_n n hb h, Option.bind_some, if_pos rfl]
theorem cm_loop {L : List P4} (hL : L.length ≤ 80) (hok : okL L) {a b p f : Nat} (ha : a < L.length) (hb : b < L.length) (hp : p ≤ 16) (hf : 1 ≤ f ∧ f ≤ 20) (r : Int32) : ∀ (k t n : Nat) (w x : Wd), t + k = 19 → p ≤ t → k + 410 ≤ n → ready w x L → w.1 9 a = 1 → w.1 9 b = 1 → ∃ ans w' x', fX3_trySteps_39 n (nI a) (nI b) (nI p) 1 (nI (min (p + f - 1) 18)) r 0 (nI t) w = some (ans, w') ∧ fX4_compare_65 n (nI p) (nI f) (nI a) (nI b) r (nI t) x = some (ans, x') ∧ ewW w w' ∧ ewX x x' ∧ w'.1 0 1 = x'.1 0 4
  | k, t, 0, w, x, _, _, hn, _, _, _ => by omega
  | k, t, n + 1, w, x, hk, hpt, hn, hr, hma, hmb => by
    rw [fX3_trySteps_39, fX4_compare_65]
    have hl := last_lt hp hf (show t ≤ 40 by omega)
    by_cases hq : nI (min (p + f - 1) 18) < nI t
    · rw [if_pos hq]
      rcases hl.mp hq with h | h
      · rw [if_pos h]
        exact ⟨0, w, x, rfl, rfl, ewW.rf, ewX.rf, hr.2.2.2.2.2.2⟩
      · by_cases h2 : nI p + nI f ≤ nI t
        · rw [if_pos h2]
          exact ⟨0, w, x, rfl, rfl, ewW.rf, ewX.rf, hr.2.2.2.2.2.2⟩
        · rw [if_neg h2, if_pos h]
          exact ⟨0, w, x, rfl, rfl, ewW.rf, ewX.rf, hr.2.2.2.2.2.2⟩
    · have hq1 : ¬ nI p + nI f ≤ nI t := fun h => hq (hl.mpr (Or.inl h))
      have hq2 : ¬ (18 : Int32) < nI t := fun h => hq (hl.mpr (Or.inr h))
      have ht : t ≤ 18 := by
        rcases Nat.lt_or_ge 18 t with h | h
        · exact absurd (nI_lt (a := 18) h (by omega)) hq2
        · exact h
      obtain ⟨z3, z5, f1, f2, rd, g1, g2, g3, g4, g5⟩ := step1 hL hok ht (show 400 ≤ n by omega) r hr
      have hsa := g5 a ha hma
      have hsb := g5 b hb hmb
      have ha8 : a < 80 := by omega
      have hb8 : b < 80 := by omega
      obtain ⟨pw1, pw2⟩ := pow_le18 ht
      rw [if_neg hq, if_pos rfl, if_neg hq1, if_neg hq2, f1, Option.bind_some, pz_fI, Option.bind_some, pz_fI, Option.bind_some, f2, Option.bind_some, if_neg (show ¬ (1 : Int32) = 0 by decide), pz_ldI (show a < 120 by omega) (by decide), Option.bind_some, pz_ldI (show b < 120 by omega) (by decide), nI_1]
      obtain ⟨W1, hW1⟩ : ∃ W1, W1 = ez_sI z3 0 1 (z3.1 0 1 + r) := ⟨_, rfl⟩
      rw [← hW1] at rd g1 g4 hsa hsb ⊢
      have hwk := rd.2.2.2.2.2.2
      have go : ∃ ans w' x', fX3_trySteps_39 n (nI a) (nI b) (nI p) 1 (nI (min (p + f - 1) 18)) r 0 (nI (t + 1)) W1 = some (ans, w') ∧ fX4_compare_65 n (nI p) (nI f) (nI a) (nI b) r (nI (t + 1)) z5 = some (ans, x') ∧ ewW w w' ∧ ewX x x' ∧ w'.1 0 1 = x'.1 0 4 := by
        obtain ⟨ans, w', x', e1, e2, e3, e4, e5⟩ := cm_loop hL hok ha hb hp hf r (k - 1) (t + 1) n W1 z5 (by omega) (by omega) (by omega) rd (by rw [g4 a ha8]; exact hma) (by rw [g4 b hb8]; exact hmb)
        exact ⟨ans, w', x', e1, e2, g1.tr e3, g2.tr e4, e5⟩
      obtain ⟨m, rfl⟩ : ∃ m, n = m + 1 := ⟨n - 1, by omega⟩
      rcases hsa with ⟨s1, s2, s3, s4, s5, s6, s7⟩ | ⟨s1, s2⟩ | ⟨s1, s2⟩
      · rw [s2, if_neg (show ¬ (0 : Int32) = 2 by decide), Option.bind_some]
        rcases hsb with ⟨u1, u2, u3, u4, u5, u6, u7⟩ | ⟨u1, u2⟩ | ⟨u1, u2⟩
        · obtain ⟨v, e1, e2⟩ := j2_s (m + 1) ha8 hb8 s1 u1 s3 s4 u3 u4 ((1 : Int64) <<< (Int32.toInt64 (nI t - nI p) &&& 63))
          rw [e1, u2, if_neg (show ¬ (0 : Int32) = 2 by decide), Option.bind_some, Option.bind_some, if_pos (show (0 : Int32) = 0 from rfl), Option.bind_some, if_pos (show (0 : Int32) = 0 from rfl), e2, Option.bind_some]
          by_cases hv : v = 0
          · rw [if_pos hv, hv]
            exact go
          · rw [if_neg hv, ts_end hv]
            exact ⟨v, W1, z5, rfl, rfl, g1, g2, hwk⟩
        · rw [j2_fb (m + 1) (st_s (m + 1) ha8 s1).1 hb8 u1, u2, Option.bind_some, if_pos rfl, ts_end (by decide)]
          exact ⟨2, W1, z5, rfl, rfl, g1, g2, hwk⟩
        · rw [j2_ob (m + 1) ha8 hb8 s1 u1, u2, Option.bind_some, if_neg (show ¬ (1 : Int32) = 2 by decide), Option.bind_some, if_pos (show (0 : Int32) = 0 from rfl), Option.bind_some, if_neg (show ¬ (1 : Int32) = 0 by decide)]
          exact go
      · rw [j2_fa (m + 1) ha8 s1, s2, if_pos (show (2 : Int32) = 2 from rfl), Option.bind_some, ts_end (by decide)]
        exact ⟨2, W1, z5, rfl, rfl, g1, g2, hwk⟩
      · rw [s2, if_neg (show ¬ (1 : Int32) = 2 by decide), Option.bind_some]
        rcases hsb with ⟨u1, u2, -⟩ | ⟨u1, u2⟩ | ⟨u1, u2⟩
        · rw [j2_oa (m + 1) ha8 s1 (st_s (m + 1) hb8 u1).1, u2, Option.bind_some, if_neg (show ¬ (0 : Int32) = 2 by decide), Option.bind_some, if_neg (show ¬ (1 : Int32) = 0 by decide)]
          exact go
        · rw [j2_fb (m + 1) (st_o (m + 1) ha8 s1).1 hb8 u1, u2, Option.bind_some, if_pos rfl, ts_end (by decide)]
          exact ⟨2, W1, z5, rfl, rfl, g1, g2, hwk⟩
        · rw [j2_oa (m + 1) ha8 s1 (st_o (m + 1) hb8 u1).1, u2, Option.bind_some, if_neg (show ¬ (1 : Int32) = 2 by decide), Option.bind_some, if_neg (show ¬ (1 : Int32) = 0 by decide)]
          exact go
