/-! factors, terms, sums -/
def ngs : Nat → Int32 → List P4 → Int32 × List P4
  | 0, x, L => (x, L)
  | k + 1, x, L => ngs k (nI L.length) (L ++ [pUn 1 x])
theorem ngs_stl {S G : List Int32} (hG : weak 3 G) : ∀ (k : Nat) (x : Int32) (L : List P4), stl 3 (List.replicate k 1 ++ G) (x :: S) L = some ((ngs k x L).1 :: S, G, (ngs k x L).2)
  | 0, x, L => stl_weak hG
  | k + 1, x, L => by
    show stl 3 (1 :: (List.replicate k 1 ++ G)) (x :: S) L = _
    rw [stl, if_pos (by decide), stp_1, Option.bind_some]
    exact ngs_stl hG k _ _
theorem ngs_ok : ∀ (k x : Nat) (L : List P4), x < L.length → okL L → okL (ngs k (nI x) L).2 ∧ ∃ j, j < (ngs k (nI x) L).2.length ∧ (ngs k (nI x) L).1 = nI j
  | 0, x, L, hx, hL => ⟨hL, x, hx, rfl⟩
  | k + 1, x, L, hx, hL => by
    rw [ngs]
    exact ngs_ok k L.length _ (by simp) (okL_app hL (Or.inr (Or.inl ⟨1, x, by simp, hx, rfl⟩)))
theorem ngs_ne : ∀ (k : Nat) (x : Int32) (L : List P4), ¬ x = -1 → L.length + k ≤ 1000 → ¬ (ngs k x L).1 = -1
  | 0, x, L, hx, hL => hx
  | k + 1, x, L, hx, hL => by
    rw [ngs]
    exact ngs_ne k _ _ (nI_ne (by omega)) (by simp; omega)
section RD
variable {rs : Int32 → Wd → (Nat → Int32) → Option (Int32 × Wd × (Nat → Int32))} {nm : Int32 → Int32} {b o n : Nat}
theorem rg72N (n s i : Nat) (w : Wd) (v : Nat → Int32) : fX1_readFactor_72 rs (n + 1) (nI s) (-1) (nI i) w v = some (-1, w, v) := by
  rw [fX1_readFactor_72]
  by_cases h : nI s ≤ nI i
  · rw [if_pos h]
  · rw [if_neg h, if_pos rfl]
theorem rg72 (s : Nat) (hs : s ≤ 20) (v : Nat → Int32) (cs : List Int32) (hv : v 2 = 0 ∨ v 2 = 1) : ∀ (k n i : Nat) (w : Wd) (x : Int32) (L : List P4), i + k = s → k < n → sfx w v cs → stoW w L → L.length + k ≤ 190 → ¬ x = -1 → ∃ w', fX1_readFactor_72 rs n (nI s) x (nI i) w v = some ((ngs k x L).1, w', v) ∧ bs nm k w v cs L w' v cs (ngs k x L).2
  | k, 0, i, w, x, L, _, hn, _, _, _, _ => by omega
  | 0, n + 1, i, w, x, L, hi, hn, hsf, ho, hL, hx => by
    rw [fX1_readFactor_72, if_pos (nI_le (by omega) (by omega))]
    exact ⟨w, rfl, bs.rf hsf ho hv⟩
  | k + 1, n + 1, i, w, x, L, hi, hn, hsf, ho, hL, hx => by
    obtain ⟨w1, e1, e2, e3⟩ := p_mkUn n ho (by omega) 1 x
    rw [fX1_readFactor_72, if_neg (nI_ge (by omega) (by omega)), if_neg hx, e1, Option.bind_some, nI_1]
    obtain ⟨w2, f1, f2⟩ := rg72 s hs v cs hv k n (i + 1) w1 (nI L.length) (L ++ [pUn 1 x]) (by omega) (by omega) (sfx_of e3 hsf) e2 (by simp; omega) (nI_ne (by omega))
    exact ⟨w2, f1, ((bs.mk hsf hv e2 e3).tr f2).le (by omega)⟩
/-- what follows an atom: a power or none, then the signs before it -/
theorem rg33 {w : Wd} {v : Nat → Int32} {cs : List Int32} {L : List P4} {s : Nat} (hrs : o < 6 → rsOK rs nm b (o + 1)) (ho : o ≤ 6) (hs : s ≤ 20) (hn : 30 < n) (h : pre nm b w v cs L) (h45 : ¬ hd0 cs = 45) : ∃ z cs' L', fX1_readFactor_33 rs n (nI o) (nI s) w v = some z ∧ postAt s nm (bldF s nm) stopF o w v cs L z cs' L' := by
  obtain ⟨z, cs1, L1, e, hb, hz, hz2⟩ := ra (n := n) hrs ho (by omega) h h45
  have hq := h.on hb (by decide)
  obtain ⟨q1, q2, q3, q4, q5, q6, q7⟩ := hq
  unfold fX1_readFactor_33
  rw [e, Option.bind_some]
  obtain ⟨n, rfl⟩ : ∃ m, n = m + 1 := ⟨n - 1, by omega⟩
  by_cases hz1 : z.1 = -1
  · rw [if_pos hz1, hz1]
    have := rg72N (rs := rs) n s 0 z.2.1 z.2.2
    refine ⟨_, cs1, L1, this, hb.le (by omega), fun _ => hz hz1, fun q => absurd rfl q⟩
  · obtain ⟨g1, ⟨pl, g2, g3, g4, g5⟩, g6⟩ := hz2 hz1
    have g2' : 1 ≤ pl ∧ pl ≤ 4 := by omega
    rw [if_neg hz1, p_cur _ q3, Option.bind_some]
    by_cases h94 : hd0 cs1 = 94
    · obtain ⟨r, rfl⟩ := hd0_some h94 (by decide)
      have ha : bs nm (-2) z.2.1 z.2.2 (94 :: r) L1 z.2.1 (upd z.2.2 1 (z.2.2 1 + 1)) r L1 := bs.adv q3 q4 q7 (by decide)
      have hacc : acc cs 0 o = acc r 6 o := by
        rw [g3, acc_some (flw_hat g2')]
        rfl
      rw [if_pos h94, pz_fV, Option.bind_some]
      rcases rp (nm := nm) (n := n + 1) ha.s ha.o (by omega) ha.f z.1 with ⟨k1, k2⟩ | ⟨c, r1, w', k1, k2, k3, k4⟩
      · rw [k1, Option.bind_some]
        refine ⟨_, r, L1, rg72N n s 0 _ _, (hb.tr ha).le (by omega), fun _ => ?_, fun q => absurd rfl q⟩
        rw [hacc]
        exact k2 o
      · subst k1
        have hbb := (hb.tr ha).tr k4
        have hn2 := hbb.n
        have hcs := h.2.2.2.2.2.1
        have hc1 := hbb.c
        have hp1 : ¬ (pwr (c - 48) z.1 L1).1 = -1 := by
          unfold pwr
          dsimp only
          by_cases a1 : 4 ≤ c - 48
          · rw [if_pos a1]
            by_cases a2 : c - 48 = 3 ∨ c - 48 = 5
            · rw [if_pos a2]; exact nI_ne (by simp; omega)
            · rw [if_neg a2]; exact nI_ne (by simp; omega)
          · rw [if_neg a1]
            by_cases a2 : c - 48 = 3 ∨ c - 48 = 5
            · rw [if_pos a2]; exact nI_ne (by simp; omega)
            · rw [if_neg a2]; exact nI_ne (by omega)
        obtain ⟨w2, f1, f2⟩ := rg72 (rs := rs) (nm := nm) s hs _ r1 k4.f s (n + 1) 0 w' _ _ (by omega) (by omega) k4.s k4.o (by omega) hp1
        rw [k3, Option.bind_some]
        refine ⟨_, r1, _, f1, (hbb.tr f2).le (by omega), fun q => absurd q (ngs_ne _ _ _ hp1 (by omega)), fun _ => ⟨by simp at g1; omega, ⟨7, Or.inr rfl, ?_, fun c1 r2 hc => ⟨fun _ => by omega, fun _ => rfl⟩⟩, fun hv => ⟨fun hok => ?_, fun hnd S G hG => ?_⟩⟩⟩
        · rw [hacc, acc_some (flw_exp k2)]
          have : ¬ c = 40 ∧ ¬ c = 41 := by constructor <;> intro e <;> rw [e] at k2 <;> exact absurd k2 (by decide)
          rw [opn_o this.1 this.2]
        · obtain ⟨m1, j, m2, m3⟩ := (g6 ((ha.tr (k4.tr f2)).z hv)).1 hok
          rw [m3] at *
          obtain ⟨p1, j2, p2, p3⟩ := pwr_ok (e := c - 48) m2 m1
          show okL (ngs s (pwr (c - 48) (nI j) L1).1 (pwr (c - 48) (nI j) L1).2).2 ∧ ∃ j_1, j_1 < _ ∧ (ngs s (pwr (c - 48) (nI j) L1).1 (pwr (c - 48) (nI j) L1).2).1 = _
          rw [p3]
          exact ngs_ok s j2 _ p2 p1
        · obtain ⟨M, m1, m2⟩ := (g6 ((ha.tr (k4.tr f2)).z hv)).2 (nd_cons (by decide)) S (List.replicate s 1 ++ G)
          have m3 : bst nm M = some (r1, (ngs s (pwr (c - 48) z.1 L1).1 (pwr (c - 48) z.1 L1).2).1 :: S, G, false, (ngs s (pwr (c - 48) z.1 L1).1 (pwr (c - 48) z.1 L1).2).2) := by
            rw [m2]
            show bEnd r1 (stl 3 (List.replicate s 1 ++ G) ((pwr (c - 48) z.1 L1).1 :: S) (pwr (c - 48) z.1 L1).2) = _
            rw [ngs_stl hG]
            rfl
          exact ⟨_, m1.tr (Rch.st m3 Rch.rf), rfl, rfl, stl_weak hG⟩
    · rw [if_neg h94]
      obtain ⟨w2, f1, f2⟩ := rg72 (rs := rs) (nm := nm) s hs _ cs1 q7 s (n + 1) 0 z.2.1 z.1 L1 (by omega) (by omega) q3 q4 (by omega) hz1
      refine ⟨_, cs1, _, f1, (hb.tr f2).le (by omega), fun q => absurd q (ngs_ne _ _ _ hz1 (by omega)), fun _ => ⟨g1, ⟨pl, g2, g3, fun c1 r2 hc => ⟨g5 c1 r2 hc, fun q => absurd (by rw [hc]; exact q) h94⟩⟩, fun hv => ⟨fun hok => ?_, fun hnd S G hG => ?_⟩⟩⟩
      · obtain ⟨m1, j, m2, m3⟩ := (g6 hv).1 hok
        show okL (ngs s z.1 L1).2 ∧ ∃ j_1, j_1 < _ ∧ (ngs s z.1 L1).1 = _
        rw [m3]
        exact ngs_ok s j _ m2 m1
      · obtain ⟨M, m1, m2⟩ := (g6 hv).2 hnd S (List.replicate s 1 ++ G)
        have m3 : bst nm M = some (cs1, (ngs s z.1 L1).1 :: S, G, false, (ngs s z.1 L1).2) := by
          rw [m2]
          cases cs1 with
          | nil =>
            show bEnd [] (stl 3 (List.replicate s 1 ++ G) (z.1 :: S) L1) = _
            rw [ngs_stl hG]
            rfl
          | cons c r =>
            show (if c = 94 then _ else bEnd (c :: r) (stl 3 (List.replicate s 1 ++ G) (z.1 :: S) L1)) = _
            rw [if_neg (show ¬ c = 94 from h94), ngs_stl hG]
            rfl
        exact ⟨_, m1.tr (Rch.st m3 Rch.rf), rfl, rfl, stl_weak hG⟩
theorem rg2 (hrs : o < 6 → rsOK rs nm b (o + 1)) (ho : o ≤ 6) : ∀ (cs : List Int32) (n s : Nat) (w : Wd) (v : Nat → Int32) (L : List P4), s + cs.length ≤ 20 → 40 + cs.length < n → pre nm b w v cs L → ∃ z cs' L', fX1_readFactor_2 rs n (nI o) (nI s) w v = some z ∧ postAt s nm (bldF s nm) stopF o w v cs L z cs' L'
  | _, 0, _, _, _, _, _, hn, _ => by omega
  | [], n + 1, s, w, v, L, hs, hn, h => by
    obtain ⟨z, cs', L', e, hp⟩ := rg33 (n := n) hrs ho (by simp at hs; omega) (by simp at hn; omega) h (by decide)
    refine ⟨z, cs', L', ?_, hp⟩
    rw [fX1_readFactor_2]
    by_cases h20 : 20 ≤ nI s
    · rw [if_pos h20, e]
    · rw [if_neg h20, p_cur _ h.2.2.1, Option.bind_some, if_neg (show ¬ hd0 [] = 45 by decide), e]
  | c :: r, n + 1, s, w, v, L, hs, hn, h => by
    simp only [List.length_cons] at hs hn
    have h3 := h.2.2.1
    rw [fX1_readFactor_2, if_neg (show ¬ (20 : Int32) ≤ nI s from nI_ge (b := 20) (by omega) (by omega)), p_cur _ h3, Option.bind_some]
    by_cases h45 : hd0 (c :: r) = 45
    · rw [if_pos h45, pz_fV, Option.bind_some, nI_1]
      have hc : c = 45 := h45
      subst hc
      have ha : bs nm (-2) w v (45 :: r) L w (upd v 1 (v 1 + 1)) r L := bs.adv h3 h.2.2.2.1 h.2.2.2.2.2.2 (by decide)
      obtain ⟨z, cs', L', e, hb, hz, hz2⟩ := rg2 hrs ho r n (s + 1) w _ L (by omega) (by omega) (h.on ha (by decide))
      have hacc : acc (45 :: r) 0 o = acc r 0 o := by
        rw [acc_some flw_min]
        rfl
      refine ⟨z, cs', L', e, (ha.tr hb).le (by omega), fun q => by rw [hacc]; exact hz q, fun q => ?_⟩
      obtain ⟨g1, ⟨pl, g2, g3, g4⟩, g5⟩ := hz2 q
      refine ⟨by simp; omega, ⟨pl, g2, by rw [hacc]; exact g3, g4⟩, fun hv => ⟨(g5 hv).1, fun hnd S G hG => ?_⟩⟩
      obtain ⟨M, m1, m2⟩ := (g5 hv).2 hnd S G hG
      exact ⟨M, Rch.st bst_neg m1, m2⟩
    · rw [if_neg h45]
      exact rg33 (n := n) hrs ho (by omega) (by omega) h h45
theorem sfx_20 {w : Wd} {v : Nat → Int32} {cs : List Int32} (h : sfx w v cs) : cs.length ≤ 20 := by
  obtain ⟨i, _, _, h, _⟩ := h
  omega
theorem rg {w : Wd} {v : Nat → Int32} {cs : List Int32} {L : List P4} (hrs : o < 6 → rsOK rs nm b (o + 1)) (ho : o ≤ 6) (hn : 70 < n) (h : pre nm b w v cs L) : ∃ z cs' L', fX1_readFactor rs n (nI o) w v = some z ∧ postAt 0 nm (bldL 3 nm) stopF o w v cs L z cs' L' := by
  have hl := sfx_20 h.2.2.1
  obtain ⟨z, cs', L', e, hb, hp⟩ := rg2 hrs ho cs n 0 w v L (by omega) (by omega) h
  exact ⟨z, cs', L', e, hb, hp⟩
theorem bldL_dn {lv : Nat} {cs cs' : List Int32} {L L' : List P4} {r : Int32} (h : bldL (lv + 1) nm cs L r cs' L') : bldL lv nm cs L r cs' L' := by
  intro S G hG
  have hG' : weak (lv + 1) G := by
    cases G with
    | nil => trivial
    | cons g G => exact Nat.lt_succ_of_lt hG
  obtain ⟨M, m1, m2, m3, m4⟩ := h S G hG'
  refine ⟨M, m1, m2, m3, ?_⟩
  rw [stl_mono (by omega) _ _ _ m4]
  exact stl_weak hG
theorem comb {c x y : Int32} {cs r cs3 : List Int32} {L L1 L3 : List P4} (hS : isS c) (h1 : bldL (hld c) nm cs L x (c :: r) L1) (h3 : bldL (hld c + 1) nm r L1 y cs3 L3) : bldL (hld c) nm cs L (nI L3.length) cs3 (L3 ++ [pBi (opOf c) x y]) := by
  intro S G hG
  obtain ⟨⟨a, S1, G1, bb, L2⟩, m1, m2, m3, m4⟩ := h1 S G hG
  have m2 : a = _ := m2
  have m3 : bb = _ := m3
  subst m2
  subst m3
  have k1 := bst_sign (nm := nm) (cs := r) hS m4
  obtain ⟨M, n1, n2, n3, n4⟩ := h3 (x :: S) (c :: G) (Nat.lt_succ_self _)
  refine ⟨M, m1.tr (Rch.st k1 n1), n2, n3, ?_⟩
  have hc1 : ¬ c = 1 := by rcases hS with h | h | h | h <;> rw [h] <;> decide
  rw [stl_mono (Nat.le_succ _) _ _ _ n4]
  show stl (hld c) (c :: G) (y :: x :: S) L3 = _
  rw [stl, if_pos (Nat.le_refl _), stp_2 hc1, Option.bind_some]
  exact stl_weak hG
/-- a left side, a sign, a right side -/
theorem joinS {c : Int32} {r cs0 cs3 : List Int32} {L0 L1 L3 : List P4} {w0 : Wd} {v0 : Nat → Int32} {z zr : Int32 × Wd × (Nat → Int32)} {st1 st2 : List Int32 → Nat → Prop} (n : Nat) (hS : isS c) (h : postAt 0 nm (bldL (hld c) nm) st1 o w0 v0 cs0 L0 z (c :: r) L1) (hz : ¬ z.1 = -1) (hr : postAt 0 nm (bldL (hld c + 1) nm) st2 o z.2.1 (upd z.2.2 1 (z.2.2 1 + 1)) r L1 zr cs3 L3) (hL : L3.length ≤ 190) : ∃ z' L4, fX1_join n (opOf c) z.1 zr.1 zr.2.1 zr.2.2 = some z' ∧ postAt 0 nm (bldL (hld c) nm) st2 o w0 v0 cs0 L0 z' cs3 L4 := by
  obtain ⟨b1, a1, a2⟩ := h
  obtain ⟨b2, c1, c2⟩ := hr
  obtain ⟨d1, ⟨pl, d2, d3, d4⟩, d5⟩ := a2 hz
  have hq : ¬ isD c ∧ ¬ isN c ∧ ¬ c = 41 ∧ ¬ c = 40 := by rcases hS with h | h | h | h <;> rw [h] <;> decide
  have ha : bs nm (-2) z.2.1 z.2.2 (c :: r) L1 z.2.1 (upd z.2.2 1 (z.2.2 1 + 1)) r L1 := bs.adv b1.s b1.o b1.f hq.2.1
  have hbb := (b1.tr ha).tr b2
  have hacc : acc cs0 0 o = acc r 0 o := by
    rw [d3, acc_some (flw_sign d2 hS), opn_o hq.2.2.2 hq.2.2.1]
  unfold fX1_join
  by_cases hy : zr.1 = -1
  · rw [if_pos hy]
    exact ⟨_, L3, rfl, hbb.le (by decide), fun _ => by rw [hacc]; exact c1 hy, fun q => absurd rfl q⟩
  · obtain ⟨f1, ⟨pl2, f2, f3, f4⟩, f5⟩ := c2 hy
    obtain ⟨w', e1, e2, e3⟩ := p_mkBi n b2.o (by omega) (opOf c) z.1 zr.1
    rw [if_neg hy, e1, Option.bind_some]
    refine ⟨_, _, rfl, (hbb.tr (bs.mk b2.s b2.f e2 e3)).le (by decide), fun q => absurd q (nI_ne (by omega)), fun _ => ⟨by simp at d1; omega, ⟨pl2, f2, by rw [hacc]; exact f3, f4⟩, fun hv => ?_⟩⟩
    have hv2 : zr.2.2 2 = 0 := hv
    have hv1 := (ha.tr b2).z hv2
    refine ⟨fun hok => ?_, fun hnd => ?_⟩
    · obtain ⟨m1, j, m2, m3⟩ := (d5 hv1).1 hok
      obtain ⟨m4, j2, m5, m6⟩ := (f5 hv2).1 m1
      have hle : L1.length ≤ L3.length := by
        obtain ⟨_, _, _, _, _, _, ⟨M, rfl⟩, _⟩ := b2
        simp
      refine ⟨okL_app m4 (Or.inr (Or.inr ⟨opOf c, j, j2, ?_, by omega, m5, by rw [m3, m6]⟩)), L3.length, by simp, rfl⟩
      rcases hS with h | h | h | h <;> rw [h] <;> decide
    · exact comb hS ((d5 hv1).2 (nd_cons hq.1)) ((f5 hv2).2 hnd)
theorem postAt_dn {d : Int} {lv : Nat} {st : List Int32 → Nat → Prop} {cs cs' : List Int32} {L L' : List P4} {w : Wd} {v : Nat → Int32} {z : Int32 × Wd × (Nat → Int32)} (h : postAt d nm (bldL (lv + 1) nm) st o w v cs L z cs' L') : postAt d nm (bldL lv nm) st o w v cs L z cs' L' := by
  obtain ⟨b1, a1, a2⟩ := h
  refine ⟨b1, a1, fun hz => ?_⟩
  obtain ⟨d1, d2, d3⟩ := a2 hz
  exact ⟨d1, d2, fun hv => ⟨(d3 hv).1, fun hnd => bldL_dn ((d3 hv).2 hnd)⟩⟩
theorem postAt_st {d : Int} {bld : List Int32 → List P4 → Int32 → List Int32 → List P4 → Prop} {st st2 : List Int32 → Nat → Prop} {cs cs' : List Int32} {L L' : List P4} {w : Wd} {v : Nat → Int32} {z : Int32 × Wd × (Nat → Int32)} (h : postAt d nm bld st o w v cs L z cs' L') (hst : ¬ z.1 = -1 → ∀ pl, st cs' pl → st2 cs' pl) : postAt d nm bld st2 o w v cs L z cs' L' := by
  obtain ⟨b1, a1, a2⟩ := h
  refine ⟨b1, a1, fun hz => ?_⟩
  obtain ⟨d1, ⟨pl, d2, d3, d4⟩, d5⟩ := a2 hz
  exact ⟨d1, ⟨pl, d2, d3, hst hz pl d4⟩, d5⟩
theorem rt8 (hrs : o < 6 → rsOK rs nm b (o + 1)) (ho : o ≤ 6) {w0 : Wd} {v0 : Nat → Int32} {cs0 : List Int32} {L0 : List P4} (h0 : pre nm b w0 v0 cs0 L0) : ∀ (n i : Nat) (z : Int32 × Wd × (Nat → Int32)) (cs : List Int32) (L : List P4), i + cs.length ≤ 20 → 71 + cs.length < n → postAt 0 nm (bldL 2 nm) stopF o w0 v0 cs0 L0 z cs L → ∃ z' cs' L', fX1_readTerm_8 rs n (nI o) z.1 (nI i) z.2.1 z.2.2 = some z' ∧ postAt 0 nm (bldL 2 nm) stopT o w0 v0 cs0 L0 z' cs' L'
  | 0, _, _, _, _, _, hn, _ => by omega
  | n + 1, i, z, cs, L, hi, hn, h => by
    have hpr := h0.on h.1 (by decide)
    obtain ⟨q1, q2, q3, q4, q5, q6, q7⟩ := hpr
    rw [fX1_readTerm_8]
    by_cases h20 : 20 ≤ i
    · rw [if_pos (show (20 : Int32) ≤ nI i from nI_le (a := 20) h20 (by omega))]
      refine ⟨_, cs, L, rfl, postAt_st h fun _ pl _ c r hc => ?_⟩
      rw [hc] at hi
      simp at hi
      omega
    · rw [if_neg (show ¬ (20 : Int32) ≤ nI i from nI_ge (b := 20) (by omega) (by omega))]
      by_cases hz : z.1 = -1
      · rw [if_pos hz]
        exact ⟨_, cs, L, rfl, postAt_st h fun q => absurd hz q⟩
      · rw [if_neg hz, p_cur _ q3, Option.bind_some]
        have key : ∀ c r, cs = c :: r → (c = 42 ∨ c = 47) → ∃ z' cs' L', fX1_readTerm_42 rs (fX1_readTerm_8 rs n) n (nI o) z.1 (nI i) c z.2.1 z.2.2 = some z' ∧ postAt 0 nm (bldL 2 nm) stopT o w0 v0 cs0 L0 z' cs' L' := by
          intro c r hc hcc
          subst hc
          have hS : isS c := by rcases hcc with h | h <;> rw [h] <;> decide
          have hN : ¬ isN c := by rcases hcc with h | h <;> rw [h] <;> decide
          have hh : hld c = 2 := by rcases hcc with h | h <;> rw [h] <;> decide
          simp only [List.length_cons] at hi hn q6
          have ha : bs nm (-2) z.2.1 z.2.2 (c :: r) L z.2.1 (upd z.2.2 1 (z.2.2 1 + 1)) r L := bs.adv q3 q4 q7 hN
          have hpr2 := (h0.on h.1 (by decide)).on ha (by decide)
          obtain ⟨zr, cs3, L3, e, hr⟩ := rg (n := n) hrs ho (by omega) hpr2
          have hn3 := hr.1.n
          have hc3 := hr.1.c
          have hj := joinS (st1 := stopF) (st2 := stopF) n hS (by rw [hh]; exact h) hz (by rw [hh]; exact hr) (by omega)
          obtain ⟨z', L4, j1, j2⟩ := hj
          rw [hh] at j2
          unfold fX1_readTerm_42
          rw [pz_fV, Option.bind_some, e, Option.bind_some, nI_1]
          have hrec := rt8 hrs ho h0 n (i + 1) z' cs3 L4 (by omega) (by omega) j2
          rcases hcc with rfl | rfl
          · rw [if_pos rfl, show fX1_join n 4 z.1 zr.1 zr.2.1 zr.2.2 = some z' from j1, Option.bind_some]
            exact hrec
          · rw [if_neg (by decide), show fX1_join n 5 z.1 zr.1 zr.2.1 zr.2.2 = some z' from j1, Option.bind_some]
            exact hrec
        by_cases h1 : hd0 cs = 42
        · rw [if_pos h1, h1]
          obtain ⟨r, hc⟩ := hd0_some h1 (by decide)
          exact key 42 r hc (Or.inl rfl)
        · rw [if_neg h1]
          by_cases h2 : hd0 cs = 47
          · rw [if_pos h2, h2]
            obtain ⟨r, hc⟩ := hd0_some h2 (by decide)
            exact key 47 r hc (Or.inr rfl)
          · rw [if_neg h2]
            refine ⟨_, cs, L, rfl, postAt_st h fun _ pl hs c r hc => ⟨hs c r hc, ?_, ?_⟩⟩
            · rw [hc] at h1; exact h1
            · rw [hc] at h2; exact h2
theorem rt {w : Wd} {v : Nat → Int32} {cs : List Int32} {L : List P4} (hrs : o < 6 → rsOK rs nm b (o + 1)) (ho : o ≤ 6) (hn : 100 < n) (h : pre nm b w v cs L) : ∃ z cs' L', fX1_readTerm rs n (nI o) w v = some z ∧ postAt 0 nm (bldL 2 nm) stopT o w v cs L z cs' L' := by
  have hl := sfx_20 h.2.2.1
  obtain ⟨z, cs', L', e, hp⟩ := rg (n := n) hrs ho (by omega) h
  unfold fX1_readTerm
  rw [e, Option.bind_some]
  have hc := hp.1.c
  exact rt8 hrs ho h n 0 z cs' L' (by omega) (by omega) (postAt_dn hp)
theorem rm8 (hrs : o < 6 → rsOK rs nm b (o + 1)) (ho : o ≤ 6) {w0 : Wd} {v0 : Nat → Int32} {cs0 : List Int32} {L0 : List P4} (h0 : pre nm b w0 v0 cs0 L0) : ∀ (n i : Nat) (z : Int32 × Wd × (Nat → Int32)) (cs : List Int32) (L : List P4), i + cs.length ≤ 20 → 101 + cs.length < n → postAt 0 nm (bldL 1 nm) stopT o w0 v0 cs0 L0 z cs L → ∃ z' cs' L', fX1_readSum_8 rs n (nI o) z.1 (nI i) z.2.1 z.2.2 = some z' ∧ postAt 0 nm (bldL 1 nm) stopS o w0 v0 cs0 L0 z' cs' L'
  | 0, _, _, _, _, _, hn, _ => by omega
  | n + 1, i, z, cs, L, hi, hn, h => by
    have hpr := h0.on h.1 (by decide)
    obtain ⟨q1, q2, q3, q4, q5, q6, q7⟩ := hpr
    rw [fX1_readSum_8]
    by_cases h20 : 20 ≤ i
    · rw [if_pos (show (20 : Int32) ≤ nI i from nI_le (a := 20) h20 (by omega))]
      refine ⟨_, cs, L, rfl, postAt_st h fun _ pl _ c r hc => ?_⟩
      rw [hc] at hi
      simp at hi
      omega
    · rw [if_neg (show ¬ (20 : Int32) ≤ nI i from nI_ge (b := 20) (by omega) (by omega))]
      by_cases hz : z.1 = -1
      · rw [if_pos hz]
        exact ⟨_, cs, L, rfl, postAt_st h fun q => absurd hz q⟩
      · rw [if_neg hz, p_cur _ q3, Option.bind_some]
        have key : ∀ c r, cs = c :: r → (c = 43 ∨ c = 45) → ∃ z' cs' L', fX1_readSum_42 rs (fX1_readSum_8 rs n) n (nI o) z.1 (nI i) c z.2.1 z.2.2 = some z' ∧ postAt 0 nm (bldL 1 nm) stopS o w0 v0 cs0 L0 z' cs' L' := by
          intro c r hc hcc
          subst hc
          have hS : isS c := by rcases hcc with h | h <;> rw [h] <;> decide
          have hN : ¬ isN c := by rcases hcc with h | h <;> rw [h] <;> decide
          have hh : hld c = 1 := by rcases hcc with h | h <;> rw [h] <;> decide
          simp only [List.length_cons] at hi hn q6
          have ha : bs nm (-2) z.2.1 z.2.2 (c :: r) L z.2.1 (upd z.2.2 1 (z.2.2 1 + 1)) r L := bs.adv q3 q4 q7 hN
          have hpr2 := (h0.on h.1 (by decide)).on ha (by decide)
          obtain ⟨zr, cs3, L3, e, hr⟩ := rt (n := n) hrs ho (by omega) hpr2
          have hn3 := hr.1.n
          have hc3 := hr.1.c
          have hj := joinS (st1 := stopT) (st2 := stopT) n hS (by rw [hh]; exact h) hz (by rw [hh]; exact hr) (by omega)
          obtain ⟨z', L4, j1, j2⟩ := hj
          rw [hh] at j2
          unfold fX1_readSum_42
          rw [pz_fV, Option.bind_some, e, Option.bind_some, nI_1]
          have hrec := rm8 hrs ho h0 n (i + 1) z' cs3 L4 (by omega) (by omega) j2
          rcases hcc with rfl | rfl
          · rw [if_pos rfl, show fX1_join n 2 z.1 zr.1 zr.2.1 zr.2.2 = some z' from j1, Option.bind_some]
            exact hrec
          · rw [if_neg (by decide), show fX1_join n 3 z.1 zr.1 zr.2.1 zr.2.2 = some z' from j1, Option.bind_some]
            exact hrec
        by_cases h1 : hd0 cs = 43
        · rw [if_pos h1, h1]
          obtain ⟨r, hc⟩ := hd0_some h1 (by decide)
          exact key 43 r hc (Or.inl rfl)
        · rw [if_neg h1]
          by_cases h2 : hd0 cs = 45
          · rw [if_pos h2, h2]
            obtain ⟨r, hc⟩ := hd0_some h2 (by decide)
            exact key 45 r hc (Or.inr rfl)
          · rw [if_neg h2]
            refine ⟨_, cs, L, rfl, postAt_st h fun _ pl hs c r hc => ⟨hs c r hc, ?_, ?_⟩⟩
            · rw [hc] at h1; exact h1
            · rw [hc] at h2; exact h2
theorem rm {w : Wd} {v : Nat → Int32} {cs : List Int32} {L : List P4} (hrs : o < 6 → rsOK rs nm b (o + 1)) (ho : o ≤ 6) (hn : 140 < n) (h : pre nm b w v cs L) : ∃ z cs' L', fX1_readSum rs n (nI o) w v = some z ∧ postAt 0 nm (bldL 1 nm) stopS o w v cs L z cs' L' := by
  have hl := sfx_20 h.2.2.1
  obtain ⟨z, cs', L', e, hp⟩ := rt (n := n) hrs ho (by omega) h
  unfold fX1_readSum
  rw [e, Option.bind_some]
  have hc := hp.1.c
  exact rm8 hrs ho h n 0 z cs' L' (by omega) (by omega) (postAt_dn hp)
end RD
theorem rsSum (nm : Int32 → Int32) (b n : Nat) (hn : 140 < n) : ∀ (d o : Nat), o ≤ 6 → 7 ≤ d + o → rsOK (fSum d n) nm b o
  | 0, o, ho, hd => by omega
  | d + 1, o, ho, hd => by
    intro w v cs L h
    rw [fSum]
    exact rm (fun q => rsSum nm b n hn d (o + 1) (by omega) (by omega)) ho (by omega) h
