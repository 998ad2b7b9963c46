/-! the reference's building, whole -/
def tx (x0 : Wd) (i : Nat) (cs : List Int32) : Prop := x0.1 0 0 = nI (i + cs.length) ∧ i + cs.length ≤ 20 ∧ ∀ j c, cs[j]? = some c → x0.1 1 (i + j) = c
theorem tx.tl {x0 : Wd} {i : Nat} {c : Int32} {cs : List Int32} (h : tx x0 i (c :: cs)) : tx x0 (i + 1) cs := by
  obtain ⟨h1, h2, h3⟩ := h
  simp only [List.length_cons] at h1 h2
  refine ⟨by rw [h1]; exact pz_i (by omega), by omega, fun j d hd => ?_⟩
  rw [← h3 (j + 1) d hd]
  exact congrArg (x0.1 1) (by omega)
def inv (S G : List Int32) (L : List P4) (cs : List Int32) : Prop := S.length + cs.length ≤ 20 ∧ G.length + cs.length ≤ 20 ∧ L.length + G.length + 2 * cs.length ≤ 120
def bI (b : Bool) : Int32 := if b = true then 1 else 0
section QC
variable {x0 : Wd} {S G : List Int32} {L : List P4} {x : Wd} {cs : List Int32} {i n : Nat}
theorem BS.sz (h : BS x0 S G L x) : x.1 0 0 = x0.1 0 0 := h.1.1 0 0 (by decide) (by decide) (by decide) (by decide) (by decide) (fun _ => by decide)
theorem BS.t (h : BS x0 S G L x) (j : Nat) : x.1 1 j = x0.1 1 j := h.1.1 1 j (by decide) (by decide) (by decide) (by decide) (by decide) (fun q => by cases q)
theorem BS.nm (h : BS x0 S G L x) (j : Nat) : x.1 2 j = x0.1 2 j := h.1.1 2 j (by decide) (by decide) (by decide) (by decide) (by decide) (fun q => by cases q)
theorem BS.end (h : BS x0 S G L x) (ht : tx x0 i []) : x.1 0 0 ≤ nI i := by
  rw [h.sz, ht.1]
  exact nI_le (by simp) (by have := ht.2.1; simp at this ⊢; omega)
theorem BS.more {c : Int32} (h : BS x0 S G L x) (ht : tx x0 i (c :: cs)) : ¬ x.1 0 0 ≤ nI i := by
  have h2 := ht.2.1
  rw [h.sz, ht.1]
  simp only [List.length_cons] at h2 ⊢
  exact nI_ge (by omega) (by omega)
theorem BS.ch {c : Int32} (h : BS x0 S G L x) (ht : tx x0 i (c :: cs)) : ez_ldI x 1 20 (nI i) = some c := by
  have h2 := ht.2.1
  simp only [List.length_cons] at h2
  rw [pz_ldI (by omega) (by decide), h.t]
  exact congrArg some (ht.2.2 0 c rfl)
theorem q_push {s : Int32} (h : BS x0 S G L x) : BS x0 (s :: S) G L (ez_sI (ez_sI x 6 S.length s) 0 2 (nI (S.length + 1))) := by
  obtain ⟨h1, h2, h3, h4, h5, h6⟩ := h
  refine ⟨⟨fun c j a3 a4 a5 a6 a7 a0 => ?_, h1.2⟩, stoX_of h2 (by simp [pz_sI1]) (fun i => by simp [pz_sI1]) (fun i => by simp [pz_sI1]) (fun i => by simp [pz_sI1]), by simp [pz_sI1], by simpa [pz_sI1] using h4, ⟨by simp [pz_sI1], stk_of h5 fun i hi => ?_⟩, stk_of h6 fun i hi => by simp [pz_sI1]⟩
  · rw [pz_sI1, if_neg (fun q => (a0 q.1).2.1 q.2), pz_sI1, if_neg (fun q => a6 q.1)]
    exact h1.1 c j a3 a4 a5 a6 a7 a0
  · have : i ≠ S.length := by omega
    simp [pz_sI1, this]
theorem q_pop {g : Int32} (h : BS x0 S (g :: G) L x) : BS x0 S G L (ez_sI x 0 3 (nI G.length)) ∧ (ez_sI x 0 3 (nI G.length)).1 7 G.length = g := by
  obtain ⟨h1, h2, h3, h4, h5, h6⟩ := h
  refine ⟨⟨⟨fun c j a3 a4 a5 a6 a7 a0 => ?_, h1.2⟩, stoX_of h2 (by simp [pz_sI1]) (fun i => by simp [pz_sI1]) (fun i => by simp [pz_sI1]) (fun i => by simp [pz_sI1]), by simpa [pz_sI1] using h3, pz_self .., stk_of h5 fun i hi => by simp [pz_sI1], stk_of h6.2 fun i hi => by simp [pz_sI1]⟩, ?_⟩
  · rw [pz_sI1, if_neg (fun q => (a0 q.1).2.2 q.2)]
    exact h1.1 c j a3 a4 a5 a6 a7 a0
  · rw [pz_sI1, if_neg (by simp)]
    exact h6.1
def QF (x0 : Wd) (cs : List Int32) (r : Option (Int32 × Wd)) (M : BM) : Prop := ∃ i' x', r = some (nI i', x') ∧ BS x0 M.2.1 M.2.2.1 M.2.2.2.2 x' ∧ M.2.2.2.1 = false ∧ tx x0 i' M.1 ∧ inv M.2.1 M.2.2.1 M.2.2.2.2 M.1 ∧ M.1.length ≤ cs.length
theorem q_bEnd {M : BM} (h : bEnd cs (stl 3 G S L) = some M) (hB : BS x0 S G L x) (ht : tx x0 i cs) (hi : inv S G L cs) (hn : 20 < n) : QF x0 cs ((fX4_settle n 3 x).bind fun z => some (nI i, z)) M := by
  obtain ⟨i1, i2, i3⟩ := hi
  obtain ⟨t, e, h⟩ := ez_bd h
  cases h
  have hl := stl_len e
  obtain ⟨x', e1, e2⟩ := q_settle (n := n) (Nat.le_refl 3) e hB (by omega) (by omega) (by omega) (by omega)
  rw [show fX4_settle n 3 x = some x' from e1, Option.bind_some]
  exact ⟨i, x', rfl, e2, rfl, ht, ⟨by dsimp only; omega, by dsimp only; omega, by dsimp only; omega⟩, Nat.le_refl _⟩
theorem QF.le {cs1 : List Int32} {r : Option (Int32 × Wd)} {M : BM} (h : QF x0 cs r M) (hl : cs.length ≤ cs1.length) : QF x0 cs1 r M := by
  obtain ⟨i', x', h1, h2, h3, h4, h5, h6⟩ := h
  exact ⟨i', x', h1, h2, h3, h4, h5, by omega⟩
theorem q_finish {M : BM} (h : fin cs S G L = some M) (hB : BS x0 S G L x) (ht : tx x0 i cs) (hi : inv S G L cs) (hn : 20 < n) : QF x0 cs (fX4_finish n (nI i) x) M := by
  unfold fX4_finish
  cases cs with
  | nil =>
    rw [if_pos (hB.end ht)]
    exact q_bEnd h hB ht hi hn
  | cons c r =>
    rw [if_neg (hB.more ht), hB.ch ht, Option.bind_some]
    rw [fin.eq_def] at h
    dsimp only at h
    by_cases h94 : c = 94
    · rw [if_pos h94] at h
      rw [if_pos h94]
      cases r with
      | nil => cases h
      | cons e r =>
        cases S with
        | nil => cases h
        | cons y S =>
          obtain ⟨i1, i2, i3⟩ := hi
          simp only [List.length_cons] at i1 i2 i3
          have hq := pwr_len (e := e - 48) (y := y) (L := L)
          obtain ⟨x1, p1, p2⟩ := q_power n (e - 48) y hB (by omega) (by omega)
          rw [nI_1, hB.ch ht.tl, Option.bind_some, p1, Option.bind_some]
          have e2 : nI i + 2 = nI (i + 1 + 1) := by
            show nI i + nI 2 = _
            rw [nI_add]
          rw [e2]
          exact (q_bEnd h p2 ht.tl.tl ⟨by simp; omega, by omega, by omega⟩ hn).le (by simp; omega)
    · rw [if_neg h94] at h
      rw [if_neg h94]
      exact q_bEnd h hB ht hi hn
end QC
theorem q_number4 {x0 : Wd} {S G : List Int32} {L : List P4} {x : Wd} {M : BM} (hB : BS x0 S G L x) : ∀ (cs : List Int32) (i n : Nat) (v : Int32), fin (digs cs v).2 (nI L.length :: S) G (L ++ [pWh (digs cs v).1]) = some M → tx x0 i cs → S.length + 1 + (digs cs v).2.length ≤ 20 → G.length + (digs cs v).2.length ≤ 20 → L.length + 1 + G.length + 2 * (digs cs v).2.length ≤ 120 → 20 + cs.length + 1 < n → QF x0 (digs cs v).2 (fX4_number_4 n v (nI i) x) M
  | _, _, 0, _, _, _, _, _, _, hn => by omega
  | [], i, n + 1, v, h, ht, h1, h2, h3, hn => by
    simp only [digs] at h h1 h2 h3 ⊢
    obtain ⟨x', m1, m2⟩ := q_make n (s := 0) (a := v) (b := 0) (pWh v) hB (by omega) (by omega) rfl rfl rfl
    rw [fX4_number_4, if_pos (hB.end ht), m1, Option.bind_some]
    obtain ⟨i', x2, k1, k2⟩ := q_finish (n := n) h m2 ht ⟨by simp at h1 ⊢; omega, by omega, by simp at h3 ⊢; omega⟩ (by omega)
    rw [k1, Option.bind_some]
    exact ⟨i', x2, rfl, k2⟩
  | c :: r, i, n + 1, v, h, ht, h1, h2, h3, hn => by
    rw [fX4_number_4, if_neg (hB.more ht), hB.ch ht, Option.bind_some, q_isD, Option.bind_some]
    rw [digs] at h h1 h2 h3 ⊢
    by_cases hd : isD c
    · rw [if_pos hd] at h h1 h2 h3 ⊢
      rw [if_pos hd, if_neg (show ¬ (1 : Int32) = 0 by decide), Option.bind_some, nI_1]
      exact q_number4 hB r (i + 1) n _ h ht.tl h1 h2 h3 (by simp at hn; omega)
    · rw [if_neg hd] at h h1 h2 h3 ⊢
      rw [if_neg hd, if_pos rfl]
      obtain ⟨x', m1, m2⟩ := q_make n (s := 0) (a := v) (b := 0) (pWh v) hB (by omega) (by omega) rfl rfl rfl
      rw [m1, Option.bind_some]
      obtain ⟨i', x2, k1, k2⟩ := q_finish (n := n) h m2 ht ⟨by simp at h1 ⊢; omega, by dsimp only at h2; omega, by simp at h3 ⊢; omega⟩ (by omega)
      rw [k1, Option.bind_some]
      exact ⟨i', x2, rfl, k2⟩
theorem digs_len : ∀ (cs : List Int32) (v : Int32), (digs cs v).2.length ≤ cs.length
  | [], v => by simp [digs]
  | c :: r, v => by
    rw [digs]
    by_cases hd : isD c
    · rw [if_pos hd]
      have := digs_len r (10 * v + c - 48)
      simp
      omega
    · rw [if_neg hd]
      exact Nat.le_refl _
theorem q_step {nm : Int32 → Int32} {x0 : Wd} (hN : ∀ d : Nat, d < 8 → x0.1 2 d - 1 = nm (nI (97 + d))) {x : Wd} {c : Int32} {cs S G : List Int32} {b : Bool} {L : List P4} {M : BM} {i n : Nat} (h : bst nm (c :: cs, S, G, b, L) = some M) (hB : BS x0 S G L x) (ht : tx x0 i (c :: cs)) (hi : inv S G L (c :: cs)) (hn : 60 < n) : ∃ i' x', fX4_build_14 (n + 1) (bI b) (nI i) x = fX4_build_14 n (bI M.2.2.2.1) (nI i') x' ∧ BS x0 M.2.1 M.2.2.1 M.2.2.2.2 x' ∧ tx x0 i' M.1 ∧ inv M.2.1 M.2.2.1 M.2.2.2.2 M.1 ∧ M.1.length < (c :: cs).length := by
  obtain ⟨i1, i2, i3⟩ := hi
  have i0 := ht.2.1
  simp only [List.length_cons] at i0 i1 i2 i3
  rw [bst.eq_def] at h
  dsimp only at h
  rw [fX4_build_14, if_neg (hB.more ht), hB.ch ht, Option.bind_some, q_isD, Option.bind_some]
  have fend : ∀ (r : Option (Int32 × Wd)), QF x0 cs r M → ∃ i' x', (r.bind fun z => fX4_build_14 n 0 z.1 z.2) = fX4_build_14 n (bI M.2.2.2.1) (nI i') x' ∧ BS x0 M.2.1 M.2.2.1 M.2.2.2.2 x' ∧ tx x0 i' M.1 ∧ inv M.2.1 M.2.2.1 M.2.2.2.2 M.1 ∧ M.1.length < (c :: cs).length := by
    rintro r ⟨i', x', k1, k2, k3, k4, k5, k6⟩
    rw [k1, Option.bind_some, k3]
    exact ⟨i', x', rfl, k2, k4, k5, by simp; omega⟩
  by_cases hd : isD c
  · rw [if_pos hd] at h
    rw [if_pos hd, if_neg (show ¬ (1 : Int32) = 0 by decide)]
    have hl : (digs (c :: cs) 0).2.length ≤ cs.length := by
      rw [digs, if_pos hd]
      exact digs_len _ _
    exact fend _ ((q_number4 hB (c :: cs) i n 0 h ht (by omega) (by omega) (by omega) (by simp; omega)).le hl)
  · rw [if_neg hd] at h
    rw [if_neg hd, if_pos rfl, q_isN, Option.bind_some]
    by_cases hn1 : isN c
    · rw [if_pos hn1] at h
      obtain ⟨d, d1, d2, d3⟩ := isN_n hn1
      have hy : x.1 2 d - 1 = nm c := by
        rw [hB.nm, hN d d1, ← d2]
      have h3 := hB.2.2.1
      have e2 : (ez_sI x 6 S.length (nm c)).1 0 2 = nI S.length := by simp [pz_sI1, h3]
      rw [if_pos hn1, if_neg (show ¬ (1 : Int32) = 0 by decide), d3, pz_ldI d1 (by decide), Option.bind_some, hy, h3, pz_stI (by omega) (by decide), Option.bind_some, e2, nI_1, pz_fI, Option.bind_some, nI_1]
      exact fend _ (q_finish (n := n) h (q_push hB) ht.tl ⟨by simp; omega, by omega, by omega⟩ (by omega))
    · rw [if_neg hn1] at h
      rw [if_neg hn1, if_pos rfl]
      by_cases h41 : c = 41
      · rw [if_pos h41] at h
        rw [if_pos h41]
        cases b with
        | true => rw [if_pos rfl] at h; cases h
        | false =>
          rw [if_neg (by decide)] at h
          obtain ⟨⟨S1, G1, L1⟩, e, h⟩ := ez_bd h
          have hl := stl_len e
          dsimp only at hl h
          obtain ⟨x1, s1, s2⟩ := q_settle (n := n) (show 1 ≤ 3 by decide) e hB (by omega) (by omega) (by omega) (by omega)
          rw [show fX4_settle n 1 x = some x1 from s1, Option.bind_some]
          cases G1 with
          | nil => cases h
          | cons g G1 =>
            dsimp only at h s2
            simp only [List.length_cons] at hl
            obtain ⟨p1, p2⟩ := q_pop s2
            rw [pz_fI, s2.2.2.2.1, List.length_cons, sub1, Option.bind_some, pz_self, pz_ldI (by omega) (by decide), Option.bind_some, p2]
            by_cases hg : g = 114
            · rw [if_pos hg] at h
              rw [if_pos hg]
              cases S1 with
              | nil => cases h
              | cons y S1 =>
                dsimp only at h
                simp only [List.length_cons] at hl
                obtain ⟨x2, t1, t2⟩ := q_take n p1 (by omega)
                obtain ⟨x3, m1, m2⟩ := q_make n (s := 6) (a := y) (b := y) (pUn 7 y) t2 (by omega) (by omega) rfl rfl rfl
                rw [t1, Option.bind_some, m1, Option.bind_some, nI_1]
                exact fend _ (q_finish (n := n) h m2 ht.tl ⟨by simp; omega, by omega, by simp; omega⟩ (by omega))
            · rw [if_neg hg] at h
              rw [if_neg hg, nI_1]
              exact fend _ (q_finish (n := n) h p1 ht.tl ⟨by omega, by omega, by omega⟩ (by omega))
      · rw [if_neg h41] at h
        rw [if_neg h41]
        by_cases h114 : c = 114
        · rw [if_pos h114] at h
          rw [if_pos h114]
          cases cs with
          | nil => cases h
          | cons c1 cs =>
            cases h
            simp only [List.length_cons] at i0 i1 i2 i3
            obtain ⟨x1, g1, g2⟩ := q_hang n 114 hB (by omega)
            unfold fX4_build_171
            have e2 : nI i + 2 = nI (i + 1 + 1) := by
              show nI i + nI 2 = _
              rw [nI_add]
            rw [h114, g1, Option.bind_some, if_pos rfl, e2]
            exact ⟨_, x1, rfl, g2, ht.tl.tl, ⟨by dsimp only; omega, by simp; omega, by simp; omega⟩, by simp; omega⟩
        · rw [if_neg h114] at h
          rw [if_neg h114]
          by_cases h40 : c = 40
          · rw [if_pos h40] at h
            rw [if_pos h40]
            cases h
            obtain ⟨x1, g1, g2⟩ := q_hang n 40 hB (by omega)
            unfold fX4_build_171
            rw [h40, g1, Option.bind_some, if_neg (by decide), nI_1]
            exact ⟨_, x1, rfl, g2, ht.tl, ⟨by dsimp only; omega, by simp; omega, by simp; omega⟩, by simp⟩
          · rw [if_neg h40] at h
            rw [if_neg h40]
            cases b with
            | true =>
              rw [if_pos rfl] at h
              cases h
              obtain ⟨x1, g1, g2⟩ := q_hang n 1 hB (by omega)
              unfold fX4_build_209
              rw [show bI true = 1 from rfl, if_neg (show ¬ (1 : Int32) = 0 by decide), if_neg (show ¬ (1 : Int32) = 0 by decide), g1, Option.bind_some, nI_1]
              exact ⟨_, x1, rfl, g2, ht.tl, ⟨by dsimp only; omega, by simp; omega, by simp; omega⟩, by simp⟩
            | false =>
              rw [if_neg (by decide)] at h
              obtain ⟨⟨S1, G1, L1⟩, e, h⟩ := ez_bd h
              have hl := stl_len e
              dsimp only at hl h
              cases h
              obtain ⟨x1, s1, s2⟩ := q_settle (n := n) (hld_3 c) e hB (by omega) (by omega) (by omega) (by omega)
              dsimp only at s2
              obtain ⟨x2, g1, g2⟩ := q_hang n c s2 (by omega)
              unfold fX4_build_209
              rw [show bI false = 0 from rfl, if_pos rfl, q_hold, Option.bind_some, s1, Option.bind_some, if_pos rfl, g1, Option.bind_some, nI_1]
              exact ⟨_, x2, rfl, g2, ht.tl, ⟨by dsimp only; omega, by simp; omega, by simp; omega⟩, by simp⟩
theorem q_build {nm : Int32 → Int32} {x0 : Wd} (hN : ∀ d : Nat, d < 8 → x0.1 2 d - 1 = nm (nI (97 + d))) {Me : BM} {t : T3} (hm : Me.1 = []) (hs : stl 1 Me.2.2.1 Me.2.1 Me.2.2.2.2 = some t) : ∀ (k : Nat) (M : BM) (x : Wd) (i n : Nat), rch nm k M Me → BS x0 M.2.1 M.2.2.1 M.2.2.2.2 x → tx x0 i M.1 → inv M.2.1 M.2.2.1 M.2.2.2.2 M.1 → 61 + M.1.length < n → ∃ x', fX4_build_14 n (bI M.2.2.2.1) (nI i) x = some x' ∧ BS x0 t.1 t.2.1 t.2.2 x'
  | _, _, _, _, 0, _, _, _, _, hn => by omega
  | 0, M, x, i, n + 1, hr, hB, ht, hi, hn => by
    have hr : M = Me := hr
    subst hr
    obtain ⟨i1, i2, i3⟩ := hi
    rw [hm] at ht
    obtain ⟨x', s1, s2⟩ := q_settle (n := n) (show 1 ≤ 3 by decide) hs hB (by omega) (by omega) (by omega) (by omega)
    rw [fX4_build_14, if_pos (hB.end ht), show fX4_settle n 1 x = some x' from s1, Option.bind_some]
    exact ⟨x', rfl, s2⟩
  | k + 1, (cs, S, G, b, L), x, i, n + 1, hr, hB, ht, hi, hn => by
    obtain ⟨M1, h1, h2⟩ := hr
    cases cs with
    | nil => cases h1
    | cons c cs =>
      dsimp only at hn
      obtain ⟨i', x', k1, k2, k3, k4, k5⟩ := q_step hN (n := n) h1 hB ht hi (by omega)
      dsimp only
      rw [k1]
      exact q_build hN hm hs k M1 x' i' n h2 k2 k3 k4 (by omega)
