theorem okL_app {M : List P4} {p : P4} (h1 : okL M) (h2 : okP M.length p) : okL (M ++ [p]) := fun i q hq => by
  rcases getq_app hq with h | ⟨h, h3⟩
  · exact h1 i q h
  · rw [h, h3]; exact h2
theorem nI_ne {j : Nat} (h : j < 2000) : ¬ nI j = -1 := by
  intro e
  have := congrArg Int32.toInt e
  rw [nI_toInt (by omega)] at this
  have h2 : (-1 : Int32).toInt = -1 := rfl
  omega
theorem hd0_some {cs : List Int32} {c : Int32} (h : hd0 cs = c) (hc : ¬ c = 0) : ∃ r, cs = c :: r := by
  cases cs with
  | nil => exact absurd h.symm hc
  | cons d r => exact ⟨r, by rw [show d = c from h]⟩
theorem bst_close {nm : Int32 → Int32} {cs S G S1 G1 : List Int32} {L L1 : List P4} {r g : Int32} (h : stl 1 G S L = some (r :: S1, g :: G1, L1)) : bst nm (41 :: cs, S, G, false, L) = if g = 114 then fin cs (nI L1.length :: S1) G1 (L1 ++ [pUn 7 r]) else fin cs (r :: S1) G1 L1 := by
  rw [bst.eq_def]
  dsimp only
  rw [if_neg (show ¬ isD (41 : Int32) by decide), if_neg (show ¬ isN (41 : Int32) by decide), if_pos rfl, if_neg (show ¬ false = true by decide), h, Option.bind_some]
theorem bst_open {nm : Int32 → Int32} {cs S G : List Int32} {b : Bool} {L : List P4} : bst nm (40 :: cs, S, G, b, L) = some (cs, S, 40 :: G, true, L) := by
  rw [bst.eq_def]
  dsimp only
  rw [if_neg (show ¬ isD (40 : Int32) by decide), if_neg (show ¬ isN (40 : Int32) by decide), if_neg (show ¬ (40 : Int32) = 41 by decide), if_neg (show ¬ (40 : Int32) = 114 by decide), if_pos rfl]
theorem bst_root {nm : Int32 → Int32} {c : Int32} {cs S G : List Int32} {b : Bool} {L : List P4} : bst nm (114 :: c :: cs, S, G, b, L) = some (cs, S, 114 :: G, true, L) := by
  rw [bst.eq_def]
  dsimp only
  rw [if_neg (show ¬ isD (114 : Int32) by decide), if_neg (show ¬ isN (114 : Int32) by decide), if_neg (show ¬ (114 : Int32) = 41 by decide), if_pos rfl]
theorem bst_neg {nm : Int32 → Int32} {cs S G : List Int32} {L : List P4} : bst nm (45 :: cs, S, G, true, L) = some (cs, S, 1 :: G, true, L) := by
  rw [bst.eq_def]
  dsimp only
  rw [if_neg (show ¬ isD (45 : Int32) by decide), if_neg (show ¬ isN (45 : Int32) by decide), if_neg (show ¬ (45 : Int32) = 41 by decide), if_neg (show ¬ (45 : Int32) = 114 by decide), if_neg (show ¬ (45 : Int32) = 40 by decide), if_pos rfl]
theorem bst_sign {nm : Int32 → Int32} {c : Int32} {cs S G : List Int32} {L : List P4} {t : T3} (hS : isS c) (h : stl (hld c) G S L = some t) : bst nm (c :: cs, S, G, false, L) = some (cs, t.1, c :: t.2.1, true, t.2.2) := by
  have q : ¬ isD c ∧ ¬ isN c ∧ ¬ c = 41 ∧ ¬ c = 114 ∧ ¬ c = 40 := by
    rcases hS with h | h | h | h <;> rw [h] <;> decide
  rw [bst.eq_def]
  dsimp only
  rw [if_neg q.1, if_neg q.2.1, if_neg q.2.2.1, if_neg q.2.2.2.1, if_neg q.2.2.2.2, if_neg (show ¬ false = true by decide), h, Option.bind_some]
theorem bst_num {nm : Int32 → Int32} {c : Int32} {cs S G : List Int32} {b : Bool} {L : List P4} (h : isD c) : bst nm (c :: cs, S, G, b, L) = fin (digs (c :: cs) 0).2 (nI L.length :: S) G (L ++ [pWh (digs (c :: cs) 0).1]) := by
  rw [bst.eq_def]
  dsimp only
  rw [if_pos h]
theorem bst_let {nm : Int32 → Int32} {c : Int32} {cs S G : List Int32} {b : Bool} {L : List P4} (h : isN c) : bst nm (c :: cs, S, G, b, L) = fin cs (nm c :: S) G L := by
  rw [bst.eq_def]
  dsimp only
  rw [if_neg (fun q => nD_N q h), if_pos h]
def rsOK (rs : Int32 → Wd → (Nat → Int32) → Option (Int32 × Wd × (Nat → Int32))) (nm : Int32 → Int32) (b o : Nat) : Prop := ∀ (w : Wd) (v : Nat → Int32) (cs : List Int32) (L : List P4), pre nm b w v cs L → ∃ z cs' L', rs (nI o) w v = some z ∧ postAt 0 nm (bldL 1 nm) stopS o w v cs L z cs' L'
def bldB (nm : Int32 → Int32) (cs : List Int32) (L : List P4) (r : Int32) (cs' : List Int32) (L' : List P4) : Prop := ∀ (S G : List Int32) (g : Int32), (g = 40 ∨ g = 114) → ∃ cs1 S1 G1 L1, cs = 40 :: cs1 ∧ Rch nm (cs1, S, g :: G, true, L) (41 :: cs', S1, G1, false, L1) ∧ stl 1 G1 S1 L1 = some (r :: S, g :: G, L')
section RD
variable {rs : Int32 → Wd → (Nat → Int32) → Option (Int32 × Wd × (Nat → Int32))} {nm : Int32 → Int32} {b o n : Nat}
theorem rb {w : Wd} {v : Nat → Int32} {cs : List Int32} {L : List P4} (hrs : o < 6 → rsOK rs nm b (o + 1)) (ho : o ≤ 6) (h : pre nm b w v cs L) : ∃ z cs' L', fX1_readBracket rs n (nI o) w v = some z ∧ bs nm 0 w v cs L z.2.1 z.2.2 cs' L' ∧ (z.1 = -1 → ∀ p, (p = 0 ∨ p = 5) → (hd0 cs = 40 ∨ ∀ r c, cs = c :: r → flw p c o = none) → acc cs p o = false) ∧ (¬ z.1 = -1 → bs nm (-2) w v cs L z.2.1 z.2.2 cs' L' ∧ cs'.length < cs.length ∧ (∀ p, (p = 0 ∨ p = 5) → acc cs p o = acc cs' 4 o) ∧ (z.2.2 2 = 0 → (okL L → okL L' ∧ ∃ j, j < L'.length ∧ z.1 = nI j) ∧ bldB nm cs L z.1 cs' L')) := by
  have hp := h
  obtain ⟨h1, h2, h3, h4, h5, h6, h7⟩ := hp
  unfold fX1_readBracket
  rw [p_cur n h3, Option.bind_some]
  by_cases h40 : hd0 cs = 40
  · rw [if_pos h40]
    obtain ⟨r, rfl⟩ := hd0_some h40 (by decide)
    by_cases ho6 : o < 6
    · have ha : bs nm (-2) w v (40 :: r) L w (upd v 1 (v 1 + 1)) r L := bs.adv h3 h4 h7 (by decide)
      obtain ⟨z, cs1, L1, e, hb, hz, hz2⟩ := hrs ho6 w _ r L (h.on ha (by decide))
      rw [if_pos (show nI o < 6 from nI_lt (b := 6) ho6 (by omega)), pz_fV, Option.bind_some, nI_1, e, Option.bind_some]
      have hacc : ∀ p, (p = 0 ∨ p = 5) → acc (40 :: r) p o = acc r 0 (o + 1) := fun p hp => by
        rw [acc_some (flw_open hp ho6)]
        rfl
      by_cases hz1 : z.1 = -1
      · rw [if_pos hz1]
        exact ⟨_, cs1, L1, rfl, (ha.tr hb).le (by decide), fun _ p hp _ => by rw [hacc p hp]; exact hz hz1, fun q => absurd rfl q⟩
      · obtain ⟨g1, ⟨pl, g2, g3, g4⟩, g5⟩ := hz2 hz1
        rw [if_neg hz1, p_cur n hb.s, Option.bind_some]
        by_cases h41 : hd0 cs1 = 41
        · obtain ⟨r1, rfl⟩ := hd0_some h41 (by decide)
          rw [if_pos h41, pz_fV, Option.bind_some]
          have hc : bs nm (-2) z.2.1 z.2.2 (41 :: r1) L1 z.2.1 (upd z.2.2 1 (z.2.2 1 + 1)) r1 L1 := bs.adv hb.s hb.o hb.f (by decide)
          have hbb := ((ha.tr hb).tr hc)
          refine ⟨_, r1, L1, rfl, hbb.le (by decide), fun q => absurd q hz1, fun _ => ⟨hbb.le (by decide), by simp at g1 ⊢; omega, fun p hp => ?_, fun q => ⟨(g5 q).1, fun S G g hg => ?_⟩⟩⟩
          · rw [hacc p hp, g3, acc_some (flw_close g2 (by omega))]
            rfl
          · obtain ⟨⟨a, S1, G1, bb, L2⟩, m1, m2, m3, m4⟩ := (g5 q).2 (nd_cons (by decide)) S (g :: G) (by show hld g < 1; rcases hg with hg | hg <;> rw [hg] <;> decide)
            have m2 : a = _ := m2
            have m3 : bb = _ := m3
            subst m2
            subst m3
            exact ⟨r, S1, G1, L2, rfl, m1, m4⟩
        · rw [if_neg h41]
          refine ⟨_, cs1, L1, rfl, (ha.tr hb).le (by decide), fun _ p hp _ => ?_, fun q => absurd rfl q⟩
          rw [hacc p hp, g3]
          cases cs1 with
          | nil => simp [acc]
          | cons c r1 =>
            obtain ⟨⟨⟨k1, k2⟩, k3, k4⟩, k5, k6⟩ := g4 c r1 rfl
            exact acc_none (flw_rej g2 k1 k2 k3 k4 k5 k6 (fun q => absurd q h41))
    · rw [if_neg (show ¬ nI o < 6 from fun q => absurd q (Int32.not_lt.mpr (nI_le (a := 6) (by omega) (by omega))))]
      exact ⟨_, 40 :: r, L, rfl, bs.rf h3 h4 h7, fun _ p hp _ => acc_none (flw_openN ho6), fun q => absurd rfl q⟩
  · rw [if_neg h40]
    refine ⟨_, cs, L, rfl, bs.rf h3 h4 h7, fun _ p hp hq => ?_, fun q => absurd rfl q⟩
    rcases hq with hq | hq
    · exact absurd hq h40
    · cases cs with
      | nil => rcases hp with rfl | rfl <;> simp [acc]
      | cons c r => exact acc_none (hq r c rfl)
/-- an atom -/
theorem ra {w : Wd} {v : Nat → Int32} {cs : List Int32} {L : List P4} (hrs : o < 6 → rsOK rs nm b (o + 1)) (ho : o ≤ 6) (hn : 3 < n) (h : pre nm b w v cs L) (h45 : ¬ hd0 cs = 45) : ∃ z cs' L', fX1_readAtom rs n (nI o) w v = some z ∧ postAt 0 nm (bldA nm) stopA o w v cs L z cs' L' := by
  have hp := h
  obtain ⟨h1, h2, h3, h4, h5, h6, h7⟩ := hp
  unfold fX1_readAtom
  rw [p_cur n h3, Option.bind_some, p_isD, Option.bind_some]
  by_cases hd : isD (hd0 cs)
  · rw [if_pos hd, if_neg (show ¬ (1 : Int32) = 0 by decide)]
    unfold fX1_readNumber
    obtain ⟨z, ds, cs', val, e1, e2, e3, e4, e5, e6, e7, e8, e9, e10⟩ := rn nm 3 0 n 0 w v cs L rfl hn h3 h4 (by omega) h7 (by decide)
    rw [show fX1_readNumber_4 n 0 0 w v = some z from e1, Option.bind_some]
    have hds : 1 ≤ ds.length := by
      rcases Nat.eq_zero_or_pos ds.length with q | q
      · rw [List.length_eq_zero_iff.mp q] at e2
        have e4 := e4 (by omega)
        rw [show cs = cs' from e2] at hd
        exact absurd hd (isD_z e4)
      · exact q
    have hlen : cs.length = ds.length + cs'.length := by rw [e2]; simp
    have e5' : ¬ z.1 = -1 := by rw [e5]; exact nI_ne (by omega)
    refine ⟨_, cs', _, rfl, e7.le (by omega), fun q => absurd q e5', fun _ => ⟨by omega, ⟨ds.length, by omega, by rw [e9 o, Nat.zero_add], by omega, fun c r hc hcd => ?_⟩, fun _ => ⟨fun hok => ⟨okL_app hok (Or.inl ⟨val, e6, rfl⟩), L.length, by simp, e5⟩, fun hnd S G => ⟨_, Rch.rf, ?_⟩⟩⟩⟩
    · rcases (show ds.length < 3 ∨ 3 ≤ ds.length by omega) with q | q
      · exact absurd hcd (e4 q c r hc)
      · exact q
    · cases cs with
      | nil => exact absurd hd (by decide)
      | cons c r =>
        rw [bst_num (show isD c from hd)]
        have e8 : digs (c :: r) 0 = _ := e8 hnd
        rw [e8]
        show _ = fin cs' (z.1 :: S) G _
        rw [e5]
  · rw [if_neg hd, if_pos rfl, p_isL, Option.bind_some]
    by_cases hN : isN (hd0 cs)
    · rw [if_pos hN, if_neg (show ¬ (1 : Int32) = 0 by decide)]
      cases cs with
      | nil => exact absurd hN (by decide)
      | cons c r =>
        have hN : isN c := hN
        obtain ⟨x, v', e1, e2, e3, e4⟩ := rl (n := n) h1 h3 h4 h7 hN
        rw [e1, Option.bind_some]
        have hx : ¬ x = -1 := by
          by_cases q : nm c = -1
          · rw [(e3 q).1]; decide
          · rw [e4 q]; exact q
        refine ⟨_, r, L, rfl, e2.le (by decide), fun q => absurd q hx, fun _ => ⟨by simp, ⟨4, by omega, by rw [acc_some (flw_let hN), opn_o (nN_o hN).1 (nN_o hN).2], by omega, fun _ _ _ _ => by omega⟩, fun hv => ?_⟩⟩
        have hu : ¬ nm c = -1 := fun q => by
          have hv : v' 2 = 0 := hv
          rw [(e3 q).2] at hv
          exact absurd hv (by decide)
        have hxe := e4 hu
        refine ⟨fun hok => ⟨hok, ?_⟩, fun _ S G => ⟨_, Rch.rf, ?_⟩⟩
        · rcases h2 c hN with q | ⟨j, q1, q2⟩
          · exact absurd q hu
          · exact ⟨j, by omega, hxe.trans q2⟩
        · rw [bst_let hN]
          show _ = fin r (x :: S) G L
          rw [hxe]
    · rw [if_neg hN, if_pos rfl]
      by_cases h114 : hd0 cs = 114
      · rw [if_pos h114]
        obtain ⟨r, rfl⟩ := hd0_some h114 (by decide)
        have ha : bs nm (-2) w v (114 :: r) L w (upd v 1 (v 1 + 1)) r L := bs.adv h3 h4 h7 (by decide)
        obtain ⟨z, cs1, L1, e, hb, hz, hz2⟩ := rb (n := n) hrs ho (h.on ha (by decide))
        rw [pz_fV, Option.bind_some, e, Option.bind_some]
        have hacc : acc (114 :: r) 0 o = acc r 5 o := by
          rw [acc_some flw_r]
          rfl
        by_cases hz1 : z.1 = -1
        · rw [if_pos hz1]
          refine ⟨_, cs1, L1, rfl, (ha.tr hb).le (by decide), fun _ => ?_, fun q => absurd rfl q⟩
          rw [hacc]
          refine hz hz1 5 (Or.inr rfl) ?_
          by_cases q : hd0 r = 40
          · exact Or.inl q
          · exact Or.inr fun r1 c hc => flw_5N (fun q1 => q (by rw [hc]; exact q1))
        · obtain ⟨g1, g2, g3, g4⟩ := hz2 hz1
          rw [if_neg hz1]
          have hnn := (h.on (ha.tr hb) (by decide)).2.2.2.2.2.1
          obtain ⟨w', k1, k2, k3⟩ := p_mkUn n hb.o (by omega) 7 z.1
          rw [k1, Option.bind_some]
          have hbb := ((ha.tr g1).tr (bs.mk g1.s g1.f k2 k3))
          refine ⟨_, cs1, _, rfl, hbb.le (by decide), fun q => absurd q (nI_ne (by omega)), fun _ => ⟨by simp; omega, ⟨4, by omega, by rw [hacc]; exact g3 5 (Or.inr rfl), by omega, fun _ _ _ _ => by omega⟩, fun q => ⟨fun hok => ?_, fun hnd S G => ?_⟩⟩⟩
          · obtain ⟨m1, j, m2, m3⟩ := (g4 q).1 hok
            exact ⟨okL_app m1 (Or.inr (Or.inl ⟨7, j, by simp, m2, by rw [m3]⟩)), L1.length, by simp, rfl⟩
          · obtain ⟨cs2, S1, G1, L2, m1, m2, m3⟩ := (g4 q).2 S G 114 (Or.inr rfl)
            subst m1
            refine ⟨_, Rch.st bst_root m2, ?_⟩
            rw [bst_close m3, if_pos rfl]
      · rw [if_neg h114]
        obtain ⟨z, cs1, L1, e, hb, hz, hz2⟩ := rb (n := n) hrs ho h
        rw [e, Option.bind_some]
        refine ⟨_, cs1, L1, rfl, hb, fun hz1 => ?_, fun hz1 => ?_⟩
        · refine hz hz1 0 (Or.inl rfl) ?_
          by_cases q : hd0 cs = 40
          · exact Or.inl q
          · refine Or.inr fun r c hc => ?_
            subst hc
            exact flw_0N hd q h45 h114 hN
        · obtain ⟨g1, g2, g3, g4⟩ := hz2 hz1
          refine ⟨g2, ⟨4, by omega, g3 0 (Or.inl rfl), by omega, fun _ _ _ _ => by omega⟩, fun q => ⟨(g4 q).1, fun hnd S G => ?_⟩⟩
          obtain ⟨cs2, S1, G1, L2, m1, m2, m3⟩ := (g4 q).2 S G 40 (Or.inl rfl)
          subst m1
          refine ⟨_, Rch.st bst_open m2, ?_⟩
          rw [bst_close m3, if_neg (by decide)]
end RD
