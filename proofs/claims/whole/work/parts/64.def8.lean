/-! define on both sides -/
theorem pre_sto {w : Wd} {L M : List P4} (h : stoW w (L ++ M)) (w' : Wd) (h0 : w'.1 0 3 = nI L.length) (h5 : ∀ c i, c ≠ 0 → w'.1 c i = w.1 c i) : stoW w' L :=
  ⟨h0, fun i p hi hp => by
    have hl : i < L.length := by
      rcases Nat.lt_or_ge i L.length with q | q
      · exact q
      · rw [List.getElem?_eq_none q] at hp; cases hp
    have := h.2 i p hi (by rw [List.getElem?_append_left hl]; exact hp)
    rw [h5 5 i (by decide), h5 6 i (by decide), h5 7 i (by decide), h5 8 i (by decide)]
    exact this⟩
theorem pre_stoX {x : Wd} {L M : List P4} (h : stoX x (L ++ M)) (x' : Wd) (h0 : x'.1 0 1 = nI L.length) (h5 : ∀ c i, c ≠ 0 → x'.1 c i = x.1 c i) : stoX x' L :=
  ⟨h0, fun i p hp => by
    have hl : i < L.length := by
      rcases Nat.lt_or_ge i L.length with q | q
      · exact q
      · rw [List.getElem?_eq_none q] at hp; cases hp
    have := h.2 i p (by rw [List.getElem?_append_left hl]; exact hp)
    rw [h5 3 i (by decide), h5 4 i (by decide), h5 5 i (by decide)]
    exact this⟩
theorem rdW.c {w w' : Wd} (h : rdW w w') (c j : Nat) (h1 : c = 1 ∨ c = 3 ∨ (c = 0 ∧ j ≠ 3)) : w'.1 c j = w.1 c j := by
  refine h.1 c j ?_ ?_ ?_ ?_ ?_ <;> omega
theorem xfr.c {x x' : Wd} (h : xfr x x') (c j : Nat) (h1 : c = 1 ∨ c = 2 ∨ (c = 0 ∧ (j = 0 ∨ 4 ≤ j))) : x'.1 c j = x.1 c j := by
  refine h.1 c j ?_ ?_ ?_ ?_ ?_ ?_ <;> omega
/-- the class's side is put back -/
theorem rel_back {w x w1 : Wd} {cs : List Int32} {L M : List P4} (tw : txt w cs) (hx : txt x cs) (hlen : cs.length ≤ 20) (hty : ∀ c ∈ cs, typ c) (hL : L.length ≤ 80) (hok : okL L) (hsx : stoX x L) (hn : relN w x L.length) (hwk : w.1 0 1 = x.1 0 4) (hr : relR w x) (hfr : rdW w w1) (hst : stoW w1 (L ++ M)) : Rel (ez_sI w1 0 3 (nI L.length)) x := by
  have fr : ∀ c j, (c = 1 ∨ c = 3 ∨ (c = 0 ∧ j ≠ 3)) → (ez_sI w1 0 3 (nI L.length)).1 c j = w.1 c j := fun c j h => by
    rw [pz_sI1, if_neg (by omega)]
    exact hfr.c c j h
  have f2 : (ez_sI w1 0 3 (nI L.length)).2 = w.2 := hfr.2
  refine ⟨cs, L, txt_of tw (fr _ _ (by simp)) (fun i => fr _ _ (by simp)), hx, hlen, hty, hL, hok, pre_sto hst _ (pz_self ..) (fun c i h => by rw [pz_sI1, if_neg (fun q => h q.1)]), hsx, relN_of hn (fun i => fr _ _ (by simp)) (fun _ => rfl), by rw [fr 0 1 (by simp)]; exact hwk, relR_of hr (fr _ _ (by simp)) (by rw [f2]) (by rw [f2]) rfl rfl rfl rfl⟩
theorem nm_sub {j : Nat} : nI (j + 1) - 1 = nI j := sub1 j
theorem op_define {n : Nat} (hn : 300 ≤ n) {w x : Wd} (h : Rel w x) (c : Int32) : ∃ z y, fX3_define n c w = some z ∧ fX4_define n c x = some y ∧ z.1 = y.1 ∧ Rel z.2 y.2 := by
  have h0 := h
  obtain ⟨cs, L, tw, hx, hlen, hty, hL, hok, hsw, hsx, hnn, hwk, hr⟩ := h
  unfold fX3_define fX4_define
  by_cases hc0 : c < 0
  · have : fX3_isName n c = some 0 := by unfold fX3_isName; rw [if_pos hc0]
    rw [this, Option.bind_some, if_pos rfl, if_pos hc0]
    exact ⟨_, _, rfl, rfl, rfl, h0⟩
  · by_cases hc8 : 8 ≤ c
    · have : fX3_isName n c = some 0 := by unfold fX3_isName; rw [if_neg hc0, if_pos hc8]
      have h7 : ¬ c ≤ 7 := by
        intro q
        have a := Int32.le_iff_toInt_le.mp hc8
        have b := Int32.le_iff_toInt_le.mp q
        exact absurd (Int.le_trans a b) (by decide)
      rw [this, Option.bind_some, if_pos rfl, if_neg hc0, if_neg h7]
      exact ⟨_, _, rfl, rfl, rfl, h0⟩
    · have hnm1 : fX3_isName n c = some 1 := by unfold fX3_isName; rw [if_neg hc0, if_neg hc8]
      have t8 : (8 : Int32).toInt = 8 := rfl
      have t0 : (0 : Int32).toInt = 0 := rfl
      have a8 := Int32.lt_iff_toInt_lt.mp (Int32.not_le.mp hc8)
      have a0 := Int32.le_iff_toInt_le.mp (Int32.not_lt.mp hc0)
      obtain ⟨k, hk, hck⟩ : ∃ k : Nat, k < 8 ∧ c = nI k := by
        refine ⟨c.toInt.toNat, by omega, ?_⟩
        apply Int32.toInt_inj.mp
        rw [nI_toInt (by omega)]
        omega
      subst hck
      rw [hnm1, Option.bind_some, if_neg (show ¬ (1 : Int32) = 0 by decide), if_neg hc0, if_pos (show nI k ≤ 7 from nI_le (b := 7) (by omega) (by omega))]
      have hcnt : fX0_count n w = some (nI L.length) := by unfold fX0_count; rw [hsw.1]
      rw [hcnt, Option.bind_some, Option.bind_some]
      -- the names, as one function
      let nm : Int32 → Int32 := fun d => w.1 3 (d - 97).toNatClampNeg
      have hnmd : ∀ d : Nat, d < 8 → nm (nI (97 + d)) = w.1 3 d := fun d hd => by
        show w.1 3 (nI (97 + d) - 97).toNatClampNeg = _
        have e := pk_sub (a := 97 + d) (b := 97) (by omega)
        have e2 : 97 + d - 97 = d := by omega
        rw [e2] at e
        rw [show nI (97 + d) - 97 = nI d from e, nI_clamp (by omega)]
      have hnmOK : nmOK nm L.length := fun d hd => by
        obtain ⟨e, e1, e2, e3⟩ := isN_n hd
        rw [e2, hnmd e e1]
        rcases hnn e e1 with q | ⟨j, q1, q2, q3⟩
        · exact Or.inl q.1
        · exact Or.inr ⟨j, q1, q2⟩
      have hN : ∀ d : Nat, d < 8 → x.1 2 d - 1 = nm (nI (97 + d)) := fun d hd => by
        rw [hnmd d hd]
        rcases hnn d hd with q | ⟨j, q1, q2, q3⟩
        · rw [q.1, q.2]; decide
        · rw [q2, q3]; exact sub1 j
      have hK : ∀ d : Nat, d < 8 → (x.1 2 d ≤ 0 ↔ nm (nI (97 + d)) = -1) := fun d hd => by
        rw [hnmd d hd]
        rcases hnn d hd with q | ⟨j, q1, q2, q3⟩
        · rw [q.1, q.2]; exact ⟨fun _ => rfl, fun _ => by decide⟩
        · rw [q2, q3]
          exact ⟨fun r => absurd r (nI_ge (a := 0) (b := j + 1) (by omega) (by omega)), fun r => absurd r (nI_ne (by omega))⟩
      have htx : tx x 0 cs := ⟨by rw [hx.1, Nat.zero_add], by omega, fun j d hd => by rw [Nat.zero_add]; exact hx.2 j d hd⟩
      have hpre : pre nm L.length w (ez_v0 (w.1 0 0)) cs L := ⟨fun _ => rfl, hnmOK, ⟨0, rfl, by rw [Nat.zero_add]; exact tw.1, by omega, fun j d hd => by rw [Nat.zero_add]; exact tw.2 j d hd, hty⟩, hsw, Nat.le_refl _, by omega, Or.inl rfl⟩
      obtain ⟨z, cs', L', e, hb, hz, hz2⟩ := rsSum nm L.length n (by omega) 7 0 (by omega) (by omega) w _ cs L hpre
      rw [show fSum 7 n 0 w (ez_v0 (w.1 0 0)) = some z from e, Option.bind_some]
      have hb0 := hb
      obtain ⟨pr, b1, ⟨i, s1, s2, s3, s4, s5⟩, b3, b4, b5, ⟨M, b6⟩, b7, b8, b9⟩ := hb0
      have hG : fX4_inGrammar n x = some (if acc cs 0 0 = true then 1 else 0) := q_inG cs n 0 0 0 htx (by omega) (by omega) (by omega)
      have back : ∀ f : Int32, ¬ f = 0 → ∀ y : Int32 × Wd, y.1 = f → Rel (ez_sI z.2.1 0 3 (nI L.length)) y.2 → fX3_faultOf n z.1 z.2.1 z.2.2 = some f → ∃ q : Int32 × Wd, ((fX3_faultOf n z.1 z.2.1 z.2.2).bind fun z10 => if z10 = 0 then (ez_stI z.2.1 3 8 (nI k) z.1).bind fun w14 => (ez_fI w14 0 0).bind fun w16 => (fX0_count n w16).bind fun z17 => some (z17 - nI L.length, w16) else (fX0_shrinkTo n (nI L.length) z.2.1).bind fun z19 => some (z10, z19)) = some q ∧ q.1 = y.1 ∧ Rel q.2 y.2 := by
        intro f hf y hy hRl hfa
        rw [hfa, Option.bind_some, if_neg hf]
        exact ⟨_, rfl, hy.symm, hRl⟩
      have hback : Rel (ez_sI z.2.1 0 3 (nI L.length)) x := rel_back tw hx hlen hty hL hok hsx hnn hwk hr b4 (by rw [← b6]; exact b3)
      by_cases hacc : acc cs 0 0 = true
      · -- in the grammar
        have hz1 : ¬ z.1 = -1 := fun q => by rw [hz q] at hacc; cases hacc
        obtain ⟨g1, ⟨pl, g2, g3, g4⟩, g5⟩ := hz2 hz1
        have hcs' : cs' = [] := by
          cases cs' with
          | nil => rfl
          | cons d r =>
            obtain ⟨⟨⟨k1, k2⟩, k3, k4⟩, k5, k6⟩ := g4 d r rfl
            rw [g3, acc_none (flw_rej g2 k1 k2 k3 k4 k5 k6 (fun _ => rfl))] at hacc
            cases hacc
        subst hcs'
        have hend : fX1_isAtEnd n z.2.1 z.2.2 = some 1 := by
          unfold fX1_isAtEnd
          rw [if_pos (by rw [s1, s2]; rfl)]
        have hpr : pr = cs := by rw [b1]; simp
        rw [hpr] at b9
        rw [hG, if_pos hacc, Option.bind_some, if_neg (show ¬ (1 : Int32) = 0 by decide)]
        obtain ⟨r, r1, r2, r3⟩ := q_all hK cs n 0 1 htx (by omega) (Or.inr rfl)
        rw [show fX4_allKnown n x = some r from r1, Option.bind_some]
        have hbo : fX1_metUnknownLetter n z.2.1 z.2.2 = some (z.2.2 2) := by
          unfold fX1_metUnknownLetter
          have : ez_z .boolean (z.2.2 2) = some () := by rcases b8 with q | q <;> rw [q] <;> decide
          rw [this]
          rfl
        by_cases hu : z.2.2 2 = 0
        · have hall := (b9.mp hu).2
          have hr1 : r = 1 := r3.mpr ⟨rfl, hall⟩
          rw [hr1, if_neg (show ¬ (1 : Int32) = 0 by decide)]
          obtain ⟨g6, g7⟩ := g5 hu
          obtain ⟨hok', j, hj, hzj⟩ := g6 hok
          obtain ⟨Me, ⟨kk, m1⟩, m2, m3, m4⟩ := g7 nd_nil [] [] trivial
          -- the reference builds
          let x2 : Wd := ez_sI (ez_sI x 0 2 0) 0 3 0
          have hB : BS x [] [] L x2 := by
            refine ⟨⟨fun c j a3 a4 a5 a6 a7 a0 => ?_, rfl⟩, stoX_of hsx (by simp [x2, pz_sI1]) (fun i => by simp [x2, pz_sI1]) (fun i => by simp [x2, pz_sI1]) (fun i => by simp [x2, pz_sI1]), by simp [x2, pz_sI1]; rfl, by simp [x2, pz_sI1]; rfl, trivial, trivial⟩
            show (ez_sI (ez_sI x 0 2 0) 0 3 0).1 c j = _
            rw [pz_sI1, if_neg (fun q => (a0 q.1).2.2 q.2), pz_sI1, if_neg (fun q => (a0 q.1).2.1 q.2)]
          obtain ⟨x3, q1, q2⟩ := q_build hN m2 m4 kk (cs, [], [], true, L) x2 0 n m1 hB htx ⟨by simp; omega, by simp; omega, by simp; omega⟩ (by dsimp only; omega)
          have hbd : fX4_build n x = some x3 := q1
          rw [hbd, Option.bind_some]
          obtain ⟨t1, t2, t3, t4, t5, t6⟩ := q2
          dsimp only at t2 t3 t5
          rw [t2.1]
          have hfx := t1.c
          have hLl : L'.length ≤ 160 := by
            have := b7
            simp at this
            omega
          have hLle : L.length ≤ L'.length := by rw [b6]; simp
          have hof : fX0_isOverfull n z.2.1 = if nI L'.length ≤ 80 then some 0 else some 1 := by
            unfold fX0_isOverfull
            rw [b3.1]
          by_cases hfull : L'.length ≤ 80
          · have hle : nI L'.length ≤ 80 := nI_le (b := 80) hfull (by omega)
            have hfa : fX3_faultOf n z.1 z.2.1 z.2.2 = some 0 := by
              unfold fX3_faultOf
              rw [if_neg hz1, hend, Option.bind_some, if_neg (show ¬ (1 : Int32) = 0 by decide), hbo, Option.bind_some, if_pos hu, hof, if_pos hle, Option.bind_some, if_pos rfl]
            rw [hfa, Option.bind_some, if_pos rfl, if_pos hle, pz_stI hk (by decide), Option.bind_some, pz_fI, Option.bind_some]
            have hld0 : ez_ldI x3 6 21 0 = some z.1 := by
              have := pz_ldI (w := x3) (b := 6) (N := 21) (j := 0) (by omega) (by decide)
              rw [show ez_ldI x3 6 21 0 = some (x3.1 6 0) from this]
              exact congrArg some t5.1
            rw [hld0, Option.bind_some, pz_stI hk (by decide), Option.bind_some, pz_fI, Option.bind_some]
            have hc1 : fX0_count n (ez_sI (ez_sI z.2.1 3 k z.1) 0 0 0) = some (nI L'.length) := by
              unfold fX0_count
              rw [pz_sI1, if_neg (by simp), pz_sI1, if_neg (by simp), b3.1]
            have hc2 : (ez_sI (ez_sI x3 2 k (z.1 + 1)) 0 0 0).1 0 1 = nI L'.length := by
              rw [pz_sI1, if_neg (by simp), pz_sI1, if_neg (by simp), t2.1]
            rw [hc1, Option.bind_some, hc2, hsx.1]
            refine ⟨_, _, rfl, rfl, rfl, [], L', ⟨by rw [pz_self]; rfl, fun i c hc => by simp at hc⟩, ⟨by rw [pz_self]; rfl, fun i c hc => by simp at hc⟩, by simp, fun c hc => by simp at hc, hfull, hok', ?_, ?_, ?_, ?_, ?_⟩
            · exact stoW_of b3 (by simp [pz_sI1]) (fun i => by simp [pz_sI1]) (fun i => by simp [pz_sI1]) (fun i => by simp [pz_sI1]) (fun i => by simp [pz_sI1])
            · exact stoX_of t2 (by simp [pz_sI1]) (fun i => by simp [pz_sI1]) (fun i => by simp [pz_sI1]) (fun i => by simp [pz_sI1])
            · intro i hi
              by_cases hik : i = k
              · right
                refine ⟨j, hj, ?_, ?_⟩
                · rw [pz_sI1, if_neg (by simp), pz_sI1, if_pos ⟨rfl, hik⟩, hzj]
                · rw [pz_sI1, if_neg (by simp), pz_sI1, if_pos ⟨rfl, hik⟩, hzj, nI_1]
              · have ew : (ez_sI (ez_sI z.2.1 3 k z.1) 0 0 0).1 3 i = w.1 3 i := by
                  rw [pz_sI1, if_neg (by simp), pz_sI1, if_neg (fun q => hik q.2)]
                  exact b4.c 3 i (by simp)
                have ex : (ez_sI (ez_sI x3 2 k (z.1 + 1)) 0 0 0).1 2 i = x.1 2 i := by
                  rw [pz_sI1, if_neg (by simp), pz_sI1, if_neg (fun q => hik q.2)]
                  exact hfx 2 i (by simp)
                show (_ = -1 ∧ _) ∨ _
                dsimp only
                rw [ew, ex]
                rcases hnn i hi with q | ⟨j2, u1, u2⟩
                · exact Or.inl q
                · exact Or.inr ⟨j2, by omega, u2⟩
            · dsimp only
              rw [pz_sI1, if_neg (by simp), pz_sI1, if_neg (by simp), pz_sI1, if_neg (by simp), pz_sI1, if_neg (by simp), b4.c 0 1 (by simp), hfx 0 4 (by simp)]
              exact hwk
            · have w2 : (ez_sI (ez_sI z.2.1 3 k z.1) 0 0 0).2 = w.2 := b4.2
              have x22 : (ez_sI (ez_sI x3 2 k (z.1 + 1)) 0 0 0).2 = x.2 := t1.2
              refine relR_of hr ?_ (by rw [w2]) (by rw [w2]) ?_ ?_ (by rw [x22]) (by rw [x22])
              · rw [pz_sI1, if_neg (by simp), pz_sI1, if_neg (by simp)]
                exact b4.c 0 2 (by simp)
              · rw [pz_sI1, if_neg (by simp), pz_sI1, if_neg (by simp)]
                exact hfx 0 6 (by simp)
              · rw [pz_sI1, if_neg (by simp), pz_sI1, if_neg (by simp)]
                exact hfx 0 5 (by simp)
          · have hle : ¬ nI L'.length ≤ 80 := nI_ge (a := 80) (b := L'.length) (by omega) (by omega)
            have hfa : fX3_faultOf n z.1 z.2.1 z.2.2 = some (-4) := by
              unfold fX3_faultOf
              rw [if_neg hz1, hend, Option.bind_some, if_neg (show ¬ (1 : Int32) = 0 by decide), hbo, Option.bind_some, if_pos hu, hof, if_neg hle, Option.bind_some, if_neg (show ¬ (1 : Int32) = 0 by decide)]
            rw [if_neg hle, hsx.1, pz_fI, Option.bind_some]
            have fr : ∀ c j, (c = 1 ∨ c = 2 ∨ (c = 0 ∧ (j = 0 ∨ 4 ≤ j))) → (ez_sI x3 0 1 (nI L.length)).1 c j = x.1 c j := fun c j h => by
              rw [pz_sI1, if_neg (by omega)]
              exact hfx c j h
            have f2 : (ez_sI x3 0 1 (nI L.length)).2 = x.2 := t1.2
            have hRl : Rel (ez_sI z.2.1 0 3 (nI L.length)) (ez_sI x3 0 1 (nI L.length)) := by
              refine rel_back tw (txt_of hx (fr _ _ (by simp)) (fun i => fr _ _ (by simp))) hlen hty hL hok (pre_stoX (M := M) (by rw [← b6]; exact t2) _ (pz_self ..) (fun c i h => by rw [pz_sI1, if_neg (fun q => h q.1)])) (relN_of hnn (fun _ => rfl) (fun i => fr _ _ (by simp))) (by rw [fr 0 4 (by simp)]; exact hwk) (relR_of hr rfl rfl rfl (fr _ _ (by simp)) (fr _ _ (by simp)) (by rw [f2]) (by rw [f2])) b4 (by rw [← b6]; exact b3)
            obtain ⟨q, u1, u2, u3⟩ := back (-4) (by decide) (-4, ez_sI x3 0 1 (nI L.length)) rfl hRl hfa
            exact ⟨q, _, u1, rfl, u2, u3⟩
        · have hr0 : r = 0 := by
            rcases r2 with q | q
            · exact q
            · exact absurd (b9.mpr ⟨rfl, (r3.mp q).2⟩) hu
          rw [hr0, if_pos rfl]
          have hfa : fX3_faultOf n z.1 z.2.1 z.2.2 = some (-3) := by
            unfold fX3_faultOf
            rw [if_neg hz1, hend, Option.bind_some, if_neg (show ¬ (1 : Int32) = 0 by decide), hbo, Option.bind_some, if_neg hu]
          obtain ⟨q, u1, u2, u3⟩ := back (-3) (by decide) (-3, x) rfl hback hfa
          exact ⟨q, _, u1, rfl, u2, u3⟩
      · rw [hG, if_neg hacc, Option.bind_some, if_pos rfl]
        have hfa : fX3_faultOf n z.1 z.2.1 z.2.2 = some (-2) := by
          unfold fX3_faultOf
          by_cases hz1 : z.1 = -1
          · rw [if_pos hz1]
          · obtain ⟨g1, ⟨pl, g2, g3, g4⟩, g5⟩ := hz2 hz1
            rw [if_neg hz1]
            have hne : ¬ z.2.2 1 = z.2.2 0 := by
              rw [s1, s2]
              intro q
              have q := pz_inj (by omega) (by omega) q
              have hcs' : cs' = [] := List.length_eq_zero_iff.mp (by omega)
              rw [g3, hcs', acc_nil] at hacc
              exact hacc (by simpa using g2)
            have hend : fX1_isAtEnd n z.2.1 z.2.2 = some 0 := by
              unfold fX1_isAtEnd
              rw [if_neg hne]
            rw [hend, Option.bind_some, if_pos rfl]
        obtain ⟨q, u1, u2, u3⟩ := back (-2) (by decide) (-2, x) rfl hback hfa
        exact ⟨q, _, u1, rfl, u2, u3⟩
