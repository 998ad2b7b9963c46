theorem isD_n {c : Int32} (h : isD c) : ∃ d : Nat, 48 ≤ d ∧ d ≤ 57 ∧ c = nI d := by
  have a := Int32.le_iff_toInt_le.mp h.1
  have b := Int32.le_iff_toInt_le.mp h.2
  have a' : (48 : Int32).toInt = 48 := rfl
  have b' : (57 : Int32).toInt = 57 := rfl
  refine ⟨c.toInt.toNat, by omega, by omega, ?_⟩
  apply Int32.toInt_inj.mp
  rw [nI_toInt (by omega)]
  omega
theorem isN_n {c : Int32} (h : isN c) : ∃ d : Nat, d < 8 ∧ c = nI (97 + d) ∧ c - 97 = nI d := by
  have a := Int32.le_iff_toInt_le.mp h.1
  have b := Int32.le_iff_toInt_le.mp h.2
  have a' : (97 : Int32).toInt = 97 := rfl
  have b' : (104 : Int32).toInt = 104 := rfl
  have hc : c = nI (97 + (c.toInt.toNat - 97)) := by
    apply Int32.toInt_inj.mp
    rw [nI_toInt (by omega)]
    omega
  refine ⟨c.toInt.toNat - 97, by omega, hc, ?_⟩
  have e := pk_sub (a := 97 + (c.toInt.toNat - 97)) (b := 97) (by omega)
  have e2 : 97 + (c.toInt.toNat - 97) - 97 = c.toInt.toNat - 97 := by omega
  rw [e2] at e
  calc c - 97 = nI (97 + (c.toInt.toNat - 97)) - nI 97 := by rw [← hc]; rfl
    _ = _ := e
theorem nd_nil : nd [] := fun c r h => by cases h
theorem nd_cons {c : Int32} {r : List Int32} (h : ¬ isD c) : nd (c :: r) := fun c' r' e => by
  cases e
  exact h
theorem digs_nd {cs : List Int32} (h : nd cs) (v : Int32) : digs cs v = (v, cs) := by
  cases cs with
  | nil => rfl
  | cons c r => rw [digs, if_neg (h c r rfl)]
theorem isD_z {cs : List Int32} (h : nd cs) : ¬ isD (hd0 cs) := by
  cases cs with
  | nil => decide
  | cons c r => exact h c r rfl
theorem nD_N {c : Int32} (h : isD c) : ¬ isN c := by
  obtain ⟨d, h1, h2, rfl⟩ := isD_n h
  intro q
  have := Int32.le_iff_toInt_le.mp q.1
  rw [nI_toInt (by omega)] at this
  have a' : (97 : Int32).toInt = 97 := rfl
  omega
theorem nD_o {c : Int32} (h : isD c) : ¬ c = 40 ∧ ¬ c = 41 := by
  constructor <;> intro e <;> rw [e] at h <;> exact absurd h (by decide)
theorem nN_o {c : Int32} (h : isN c) : ¬ c = 40 ∧ ¬ c = 41 := by
  constructor <;> intro e <;> rw [e] at h <;> exact absurd h (by decide)
theorem rn (nm : Int32 → Int32) : ∀ (k i n val : Nat) (w : Wd) (v : Nat → Int32) (cs : List Int32) (L : List P4), i + k = 3 → k < n → sfx w v cs → stoW w L → L.length ≤ 190 → (v 2 = 0 ∨ v 2 = 1) → val < 10 ^ i → ∃ z ds cs' val', fX1_readNumber_4 n (nI val) (nI i) w v = some z ∧ cs = ds ++ cs' ∧ ds.length ≤ k ∧ (ds.length < k → nd cs') ∧ z.1 = nI L.length ∧ val' ≤ 999 ∧ bs nm (1 - 2 * ds.length) w v cs L z.2.1 z.2.2 cs' (L ++ [pWh (nI val')]) ∧ (nd cs' → digs cs (nI val) = (nI val', cs')) ∧ (∀ o, acc cs i o = acc cs' (i + ds.length) o) ∧ ∀ c ∈ ds, isD c
  | k, i, 0, val, w, v, cs, L, _, hn, _, _, _, _, _ => by omega
  | 0, i, n + 1, val, w, v, cs, L, hi, hn, hs, ho, hL, hf, hv => by
    have e : i = 3 := by omega
    subst e
    obtain ⟨w', e1, e2, e3⟩ := p_mkWh n ho (by omega) (nI val)
    rw [fX1_readNumber_4, if_pos (show (3 : Int32) ≤ nI 3 from by decide), e1]
    have hv : val ≤ 999 := by have : (10 : Nat) ^ 3 = 1000 := by decide
                              omega
    exact ⟨_, [], cs, val, rfl, rfl, by simp, fun h => absurd h (by simp), rfl, hv, (bs.mk hs hf e2 e3).le (by simp), fun h => digs_nd h _, fun o => rfl, fun c hc => by cases hc⟩
  | k + 1, i, n + 1, val, w, v, cs, L, hi, hn, hs, ho, hL, hf, hv => by
    have hpw : (10 : Nat) ^ i ≤ 100 := by
      rcases (show i = 0 ∨ i = 1 ∨ i = 2 by omega) with rfl | rfl | rfl <;> decide
    rw [fX1_readNumber_4, if_neg (show ¬ (3 : Int32) ≤ nI i from nI_ge (b := 3) (by omega) (by omega)), p_cur n hs, Option.bind_some, p_isD, Option.bind_some]
    have stopc : nd cs → ∃ z ds cs' val', (fX0_makeWhole n (nI val) w).bind (fun z9 => some (z9.1, z9.2, v)) = some z ∧ cs = ds ++ cs' ∧ ds.length ≤ k + 1 ∧ (ds.length < k + 1 → nd cs') ∧ z.1 = nI L.length ∧ val' ≤ 999 ∧ bs nm (1 - 2 * ds.length) w v cs L z.2.1 z.2.2 cs' (L ++ [pWh (nI val')]) ∧ (nd cs' → digs cs (nI val) = (nI val', cs')) ∧ (∀ o, acc cs i o = acc cs' (i + ds.length) o) ∧ ∀ c ∈ ds, isD c := by
      intro hnd
      obtain ⟨w', e1, e2, e3⟩ := p_mkWh n ho (by omega) (nI val)
      rw [e1]
      exact ⟨_, [], cs, val, rfl, rfl, by simp, fun _ => hnd, rfl, by omega, (bs.mk hs hf e2 e3).le (by simp), fun h => digs_nd h _, fun o => rfl, fun c hc => by cases hc⟩
    cases cs with
    | nil =>
      rw [if_neg (show ¬ isD (hd0 []) by decide), if_pos rfl]
      exact stopc nd_nil
    | cons c r =>
      by_cases hd : isD c
      · rw [if_pos (show isD (hd0 (c :: r)) from hd), if_neg (show ¬ (1 : Int32) = 0 by decide), Option.bind_some, pz_fV, Option.bind_some, nI_1]
        obtain ⟨d, d1, d2, rfl⟩ := isD_n hd
        have ev : nI val * 10 + (hd0 (nI d :: r) - 48) = nI (val * 10 + (d - 48)) := by
          show nI val * nI 10 + (nI d - nI 48) = _
          rw [pk_mul, pk_sub (by omega), nI_add]
        have ev2 : 10 * nI val + nI d - 48 = nI (val * 10 + (d - 48)) := by
          show nI 10 * nI val + nI d - nI 48 = _
          rw [pk_mul, nI_add, pk_sub (by omega)]
          exact pz_i (by omega)
        rw [ev]
        obtain ⟨z, ds, cs', val', f1, f2, f3, f4, f5, f6, f7, f8, f9, f10⟩ := rn nm k (i + 1) n (val * 10 + (d - 48)) w _ r L (by omega) (by omega) (sfx_adv hs) ho hL hf (by rw [Nat.pow_succ]; omega)
        refine ⟨z, nI d :: ds, cs', val', f1, by rw [f2]; rfl, by simp; omega, fun h => f4 (by simp at h; omega), f5, f6, ((bs.adv hs ho hf (nD_N hd)).tr f7).le (by simp; omega), fun h => ?_, fun o => ?_, fun c hc => ?_⟩
        · rw [digs, if_pos hd, ev2]
          exact f8 h
        · rw [acc_some (flw_dig0 hd (by omega)), opn_o (nD_o hd).1 (nD_o hd).2, f9 o]
          simp only [List.length_cons]
          congr 1
          omega
        · rcases List.mem_cons.mp hc with h | h
          · rw [h]; exact hd
          · exact f10 c h
      · rw [if_neg (show ¬ isD (hd0 (c :: r)) from hd), if_pos rfl]
        exact stopc (nd_cons hd)
def nmW (w : Wd) (c : Int32) : Int32 := w.1 3 (c - 97).toNatClampNeg
theorem rl {n : Nat} {w : Wd} {v : Nat → Int32} {c : Int32} {cs : List Int32} {L : List P4} {nm : Int32 → Int32} (hnm : ∀ d, nm d = nmW w d) (hs : sfx w v (c :: cs)) (ho : stoW w L) (hf : v 2 = 0 ∨ v 2 = 1) (hc : isN c) : ∃ r v', fX1_readLetter n w v = some (r, w, v') ∧ bs nm (-2) w v (c :: cs) L w v' cs L ∧ (nm c = -1 → r = 0 ∧ v' 2 = 1) ∧ (¬ nm c = -1 → r = nm c) := by
  obtain ⟨d, hd, hcd, hsub⟩ := isN_n hc
  have e : nm c = w.1 3 d := by rw [hnm]; unfold nmW; rw [hsub, nI_clamp (by omega)]
  unfold fX1_readLetter
  rw [p_cur n hs, Option.bind_some, pz_fV, Option.bind_some]
  have hh : hd0 (c :: cs) = c := rfl
  rw [hh, hsub, if_neg (nI_pos (by omega)), if_neg (show ¬ (8 : Int32) ≤ nI d from nI_ge (b := 8) hd (by omega)), pz_ldI hd (by decide), Option.bind_some, ← e]
  by_cases hu : nm c = -1
  · rw [if_pos hu]
    refine ⟨0, _, rfl, ⟨[c], rfl, ?_, ho, rdW.rf, rfl, ⟨[], by simp⟩, by simp; omega, Or.inr rfl, ?_⟩, fun _ => ⟨rfl, rfl⟩, fun q => absurd hu q⟩
    · obtain ⟨i, h1, h2, h3⟩ := sfx_adv hs
      exact ⟨i, h1, h2, h3⟩
    · constructor
      · intro q
        exact absurd q (by show ¬ (1 : Int32) = 0; decide)
      · rintro ⟨-, q⟩
        exact absurd hu (q c (by simp) hc)
  · rw [if_neg hu]
    refine ⟨nm c, _, rfl, ⟨[c], rfl, sfx_adv hs, ho, rdW.rf, rfl, ⟨[], by simp⟩, by simp; omega, hf, ?_⟩, fun q => absurd q hu, fun _ => rfl⟩
    constructor
    · intro q
      exact ⟨q, fun d hd _ => by rw [List.mem_singleton] at hd; rw [hd]; exact hu⟩
    · rintro ⟨q, -⟩
      exact q
theorem pwr_ok {e : Int32} {x : Nat} {L : List P4} (hx : x < L.length) (hok : okL L) : okL (pwr e (nI x) L).2 ∧ ∃ j, j < (pwr e (nI x) L).2.length ∧ (pwr e (nI x) L).1 = nI j := by
  have ap : ∀ (M : List P4) (p : P4), okL M → okP M.length p → okL (M ++ [p]) := fun M p h1 h2 i q hq => by
    rcases getq_app hq with h | ⟨h, h3⟩
    · exact h1 i q h
    · rw [h, h3]; exact h2
  have h1 : okL (L ++ [pUn 6 (nI x)]) := ap _ _ hok (Or.inr (Or.inl ⟨6, x, by simp, hx, rfl⟩))
  unfold pwr
  dsimp only
  by_cases h4 : 4 ≤ e
  · have h2 : okL ((L ++ [pUn 6 (nI x)]) ++ [pUn 6 (nI L.length)]) := ap _ _ h1 (Or.inr (Or.inl ⟨6, L.length, by simp, by simp, rfl⟩))
    rw [if_pos h4]
    by_cases h3 : e = 3 ∨ e = 5
    · rw [if_pos h3]
      exact ⟨ap _ _ h2 (Or.inr (Or.inr ⟨4, (L ++ [pUn 6 (nI x)]).length, x, by simp, by simp, by simp; omega, rfl⟩)), _, by simp, rfl⟩
    · rw [if_neg h3]
      exact ⟨h2, _, by simp, rfl⟩
  · rw [if_neg h4]
    by_cases h3 : e = 3 ∨ e = 5
    · rw [if_pos h3]
      exact ⟨ap _ _ h1 (Or.inr (Or.inr ⟨4, L.length, x, by simp, by simp, by simp; omega, rfl⟩)), _, by simp, rfl⟩
    · rw [if_neg h3]
      exact ⟨h1, _, by simp, rfl⟩
/-- the power: '^' has been read -/
theorem rp {n : Nat} {w : Wd} {v : Nat → Int32} {cs : List Int32} {L : List P4} {nm : Int32 → Int32} (hs : sfx w v cs) (ho : stoW w L) (hL : L.length ≤ 190) (hf : v 2 = 0 ∨ v 2 = 1) (x : Int32) : (fX1_readPower n x w v = some (-1, w, v) ∧ ∀ o, acc cs 6 o = false) ∨ ∃ c r w', cs = c :: r ∧ (50 ≤ c ∧ c ≤ 53) ∧ fX1_readPower n x w v = some ((pwr (c - 48) x L).1, w', upd v 1 (v 1 + 1)) ∧ bs nm 1 w v cs L w' (upd v 1 (v 1 + 1)) r (pwr (c - 48) x L).2 := by
  unfold fX1_readPower
  rw [p_cur n hs, Option.bind_some]
  cases cs with
  | nil =>
    left
    refine ⟨by rw [if_pos (by decide)], fun o => by simp [acc]⟩
  | cons c r =>
    have hty : typ c := by obtain ⟨i, _, _, _, _, h5⟩ := hs; exact h5 c List.mem_cons_self
    obtain ⟨j, j1, j2, rfl⟩ := typ_n hty
    have hsubT : (nI j - 48).toInt = (j : Int) - 48 := pk_sub_toInt (a := j) (b := 48) (by omega) (by decide)
    have t2 : (2 : Int32).toInt = 2 := rfl
    have t5 : (5 : Int32).toInt = 5 := rfl
    by_cases h2 : j < 50
    · left
      refine ⟨?_, fun o => acc_none (flw_expN ?_)⟩
      · rw [if_pos]
        show nI j - 48 < 2
        rw [Int32.lt_iff_toInt_lt, hsubT, t2]
        omega
      · intro q
        exact absurd (show nI 50 ≤ nI j from q.1) (nI_ge h2 (by omega))
    · have c1 : ¬ (hd0 (nI j :: r) - 48) < 2 := by
        show ¬ nI j - 48 < 2
        rw [Int32.lt_iff_toInt_lt, hsubT, t2]
        omega
      rw [if_neg c1]
      by_cases h5 : j ≤ 53
      · right
        have c2 : (hd0 (nI j :: r) - 48) ≤ 5 := by
          show nI j - 48 ≤ 5
          rw [Int32.le_iff_toInt_le, hsubT, t5]
          omega
        rw [if_pos c2, pz_fV, Option.bind_some]
        have hin : (50 : Int32) ≤ nI j ∧ nI j ≤ 53 := ⟨nI_le (a := 50) (by omega) (by omega), nI_le (b := 53) h5 (by omega)⟩
        have hnn : ¬ isN (nI j) := nD_N (show isD (nI j) from ⟨nI_le (a := 48) (by omega) (by omega), nI_le (b := 57) (by omega) (by omega)⟩)
        have ha := bs.adv (nm := nm) hs ho hf hnn
        obtain ⟨w1, e1, e2, e3⟩ := p_mkUn n ho (by omega) 6 x
        rw [e1, Option.bind_some]
        have b1 := ha.tr (bs.mk ha.s ha.f e2 e3)
        show ∃ c r' w', _ = _ ∧ _ ∧ (if nI j - 48 < 4 then fX1_readPower_57 n x (nI j - 48) (nI L.length) w1 _ else _) = _ ∧ _
        rcases (show j = 50 ∨ j = 51 ∨ j = 52 ∨ j = 53 by omega) with rfl | rfl | rfl | rfl
        · refine ⟨nI 50, r, w1, rfl, hin, ?_, b1.le (by decide)⟩
          rw [if_pos (by decide)]
          unfold fX1_readPower_57
          rw [if_neg (by decide)]
          rfl
        · obtain ⟨w2, e4, e5, e6⟩ := p_mkBi n e2 (by simp; omega) 4 (nI L.length) x
          refine ⟨nI 51, r, w2, rfl, hin, ?_, (b1.tr (bs.mk b1.s b1.f e5 e6)).le (by decide)⟩
          rw [if_pos (by decide)]
          unfold fX1_readPower_57
          rw [if_pos (by decide), e4]
          rfl
        · obtain ⟨w2, e4, e5, e6⟩ := p_mkUn n e2 (by simp; omega) 6 (nI L.length)
          refine ⟨nI 52, r, w2, rfl, hin, ?_, (b1.tr (bs.mk b1.s b1.f e5 e6)).le (by decide)⟩
          rw [if_neg (by decide), e4, Option.bind_some]
          unfold fX1_readPower_57
          rw [if_neg (show ¬ (hd0 (nI 52 :: r) - 48 - (hd0 (nI 52 :: r) - 48) / 2 * 2) = 1 from (show ¬ (nI 52 - 48 - (nI 52 - 48) / 2 * 2) = 1 by decide))]
          rfl
        · obtain ⟨w2, e4, e5, e6⟩ := p_mkUn n e2 (by simp; omega) 6 (nI L.length)
          have b2 := b1.tr (bs.mk b1.s b1.f e5 e6)
          obtain ⟨w3, e7, e8, e9⟩ := p_mkBi n e5 (by simp; omega) 4 (nI (L ++ [pUn 6 x]).length) x
          refine ⟨nI 53, r, w3, rfl, hin, ?_, (b2.tr (bs.mk b2.s b2.f e8 e9)).le (by decide)⟩
          rw [if_neg (by decide), e4, Option.bind_some]
          unfold fX1_readPower_57
          rw [if_pos (show (hd0 (nI 53 :: r) - 48 - (hd0 (nI 53 :: r) - 48) / 2 * 2) = 1 from (show (nI 53 - 48 - (nI 53 - 48) / 2 * 2) = 1 by decide)), e7]
          rfl
      · left
        refine ⟨?_, fun o => acc_none (flw_expN ?_)⟩
        · rw [if_neg]
          show ¬ nI j - 48 ≤ 5
          rw [Int32.le_iff_toInt_le, hsubT, t5]
          omega
        · intro q
          exact absurd (show nI j ≤ nI 53 from q.2) (nI_ge (by omega) (by omega))
