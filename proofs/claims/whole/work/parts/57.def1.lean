/-! define: the class's reader -/
def sfx (w : Wd) (v : Nat → Int32) (cs : List Int32) : Prop := ∃ i : Nat, v 1 = nI i ∧ v 0 = nI (i + cs.length) ∧ i + cs.length ≤ 20 ∧ (∀ (j : Nat) (c : Int32), cs[j]? = some c → w.1 1 (i + j) = c) ∧ ∀ c ∈ cs, typ c
def rdW (w w' : Wd) : Prop := (∀ c j, c ≠ 5 → c ≠ 6 → c ≠ 7 → c ≠ 8 → (c = 0 → j ≠ 3) → w'.1 c j = w.1 c j) ∧ w'.2 = w.2
theorem rdW.rf {w : Wd} : rdW w w := ⟨fun _ _ _ _ _ _ _ => rfl, rfl⟩
theorem rdW.tr {a b c : Wd} (h : rdW a b) (g : rdW b c) : rdW a c := ⟨fun i j h1 h2 h3 h4 h5 => (g.1 i j h1 h2 h3 h4 h5).trans (h.1 i j h1 h2 h3 h4 h5), g.2.trans h.2⟩
theorem sfx_of {w w' : Wd} {v : Nat → Int32} {cs : List Int32} (h : rdW w w') (g : sfx w v cs) : sfx w' v cs := by
  obtain ⟨i, h1, h2, h3, h4, h5⟩ := g
  exact ⟨i, h1, h2, h3, fun j c hc => by rw [h.1 1 _ (by decide) (by decide) (by decide) (by decide) (fun q => by cases q)]; exact h4 j c hc, h5⟩
def hd0 (cs : List Int32) : Int32 := match cs with
  | [] => 0
  | c :: _ => c
theorem p_cur (n : Nat) {w : Wd} {v : Nat → Int32} {cs : List Int32} (h : sfx w v cs) : fX1_current n w v = some (hd0 cs) := by
  obtain ⟨i, h1, h2, h3, h4, h5⟩ := h
  unfold fX1_current
  rw [h1, h2]
  cases cs with
  | nil =>
    rw [if_pos (nI_le (by simp) (by simp; omega))]
    rfl
  | cons c cs =>
    simp only [List.length_cons] at h3 ⊢
    have ht := typ_ch (h5 c List.mem_cons_self)
    have hz : ez_z .char c = some () := by unfold ez_z; rw [if_pos ht.1]
    have h0 := h4 0 c rfl
    rw [if_neg (nI_ge (by omega) (by omega)), if_neg (show ¬ (20 : Int32) ≤ nI i from nI_ge (b := 20) (by omega) (by omega)), pz_ldI (by omega) (by decide), Option.bind_some, show w.1 1 i = c from h0, hz, Option.bind_some]
    rfl
theorem up1 (v : Nat → Int32) (x : Int32) : (upd v 1 x) 0 = v 0 ∧ (upd v 1 x) 1 = x ∧ (upd v 1 x) 2 = v 2 := ⟨rfl, rfl, rfl⟩
theorem sfx_adv {w : Wd} {v : Nat → Int32} {c : Int32} {cs : List Int32} (h : sfx w v (c :: cs)) : sfx w (upd v 1 (v 1 + 1)) cs := by
  obtain ⟨i, h1, h2, h3, h4, h5⟩ := h
  simp only [List.length_cons] at h2 h3
  refine ⟨i + 1, ?_, ?_, by omega, fun j d hd => ?_, fun d hd => h5 d (List.mem_cons_of_mem _ hd)⟩
  · show v 1 + 1 = _
    rw [h1, nI_1]
  · show v 0 = _
    rw [h2]
    exact pz_i (by omega)
  · have := h4 (j + 1) d hd
    rw [← this]
    exact congrArg (w.1 1) (by omega)
theorem p_make (n : Nat) {w : Wd} {L : List P4} (h : stoW w L) (hL : L.length ≤ 200) (s v a b : Int32) : ∃ w', fX0_make n s v a b w = some (nI L.length, w') ∧ stoW w' (L ++ [(s, v, a, b)]) ∧ rdW w w' := by
  unfold fX0_make
  rw [h.1]
  by_cases h8 : 80 ≤ L.length
  · rw [if_pos (show (80 : Int32) ≤ nI L.length from nI_le (a := 80) h8 (by omega)), pz_fI, Option.bind_some, nI_1]
    refine ⟨_, rfl, ⟨?_, fun i p hi hp => ?_⟩, ⟨fun c j _ _ _ _ h5 => by rw [pz_sI1, if_neg (fun q => h5 q.1 q.2)], rfl⟩⟩
    · rw [pz_self]
      simp
    · rw [List.getElem?_append_left (by omega)] at hp
      have := h.2 i p hi hp
      simpa [pz_sI1] using this
  · rw [if_neg (show ¬ (80 : Int32) ≤ nI L.length from nI_ge (b := 80) (by omega) (by omega)), pz_stI (by omega) (by decide), Option.bind_some, pz_stI (by omega) (by decide), Option.bind_some, pz_stI (by omega) (by decide), Option.bind_some, pz_stI (by omega) (by decide), Option.bind_some, pz_fI, Option.bind_some]
    refine ⟨_, rfl, ⟨?_, fun i p hi hp => ?_⟩, ⟨fun c j h1 h2 h3 h4 h5 => ?_, rfl⟩⟩
    · rw [pz_self]
      simp [pz_sI1, h.1, nI_1]
    · rcases getq_app hp with hq | ⟨hq, rfl⟩
      · have hne : i ≠ L.length := by
          intro e
          rw [e, List.getElem?_eq_none (Nat.le_refl _)] at hq
          cases hq
        have := h.2 i p hi hq
        simpa [pz_sI1, hne] using this
      · simp [pz_sI1, hq]
    · rw [pz_sI1, if_neg (fun q => h5 q.1 q.2), pz_sI1, if_neg (fun q => h4 q.1), pz_sI1, if_neg (fun q => h3 q.1), pz_sI1, if_neg (fun q => h2 q.1), pz_sI1, if_neg (fun q => h1 q.1)]
theorem p_mkWh (n : Nat) {w : Wd} {L : List P4} (h : stoW w L) (hL : L.length ≤ 200) (v : Int32) : ∃ w', fX0_makeWhole n v w = some (nI L.length, w') ∧ stoW w' (L ++ [pWh v]) ∧ rdW w w' := by
  obtain ⟨w', e, h1⟩ := p_make n h hL 0 v (-1) (-1)
  unfold fX0_makeWhole
  rw [e]
  exact ⟨w', rfl, h1⟩
theorem p_mkUn (n : Nat) {w : Wd} {L : List P4} (h : stoW w L) (hL : L.length ≤ 200) (s a : Int32) : ∃ w', fX0_makeOfOne n s a w = some (nI L.length, w') ∧ stoW w' (L ++ [pUn s a]) ∧ rdW w w' := by
  obtain ⟨w', e, h1⟩ := p_make n h hL s 0 a (-1)
  unfold fX0_makeOfOne
  rw [e]
  exact ⟨w', rfl, h1⟩
theorem p_mkBi (n : Nat) {w : Wd} {L : List P4} (h : stoW w L) (hL : L.length ≤ 200) (s a b : Int32) : ∃ w', fX0_makeOfTwo n s a b w = some (nI L.length, w') ∧ stoW w' (L ++ [pBi s a b]) ∧ rdW w w' := by
  obtain ⟨w', e, h1⟩ := p_make n h hL s 0 a b
  unfold fX0_makeOfTwo
  rw [e]
  exact ⟨w', rfl, h1⟩
/-- from one state of the reading to a later one; d: what the sum of parts and twice the rest may grow by -/
def bs (nm : Int32 → Int32) (d : Int) (w : Wd) (v : Nat → Int32) (cs : List Int32) (L : List P4) (w' : Wd) (v' : Nat → Int32) (cs' : List Int32) (L' : List P4) : Prop :=
  ∃ pre, cs = pre ++ cs' ∧ sfx w' v' cs' ∧ stoW w' L' ∧ rdW w w' ∧ v' 0 = v 0 ∧ (∃ M, L' = L ++ M) ∧ (L'.length : Int) + 2 * cs'.length ≤ L.length + 2 * cs.length + d ∧ (v' 2 = 0 ∨ v' 2 = 1) ∧ (v' 2 = 0 ↔ v 2 = 0 ∧ ∀ c ∈ pre, isN c → ¬ nm c = -1)
section BS
variable {nm : Int32 → Int32} {d e : Int} {w w' w2 : Wd} {v v' v2 : Nat → Int32} {cs cs' cs2 : List Int32} {L L' L2 : List P4}
theorem bs.rf (h1 : sfx w v cs) (h2 : stoW w L) (h3 : v 2 = 0 ∨ v 2 = 1) : bs nm 0 w v cs L w v cs L := ⟨[], rfl, h1, h2, rdW.rf, rfl, ⟨[], by simp⟩, by omega, h3, ⟨fun h => ⟨h, fun c hc => by cases hc⟩, fun h => h.1⟩⟩
theorem bs.tr (h : bs nm d w v cs L w' v' cs' L') (g : bs nm e w' v' cs' L' w2 v2 cs2 L2) : bs nm (d + e) w v cs L w2 v2 cs2 L2 := by
  obtain ⟨p1, a1, a2, a3, a4, a5, ⟨M1, a6⟩, a7, a8, a9⟩ := h
  obtain ⟨p2, b1, b2, b3, b4, b5, ⟨M2, b6⟩, b7, b8, b9⟩ := g
  refine ⟨p1 ++ p2, by rw [a1, b1, List.append_assoc], b2, b3, a4.tr b4, b5.trans a5, ⟨M1 ++ M2, by rw [b6, a6, List.append_assoc]⟩, by omega, b8, ?_⟩
  rw [b9, a9]
  constructor
  · rintro ⟨⟨h1, h2⟩, h3⟩
    refine ⟨h1, fun c hc => ?_⟩
    rcases List.mem_append.mp hc with q | q
    · exact h2 c q
    · exact h3 c q
  · rintro ⟨h1, h2⟩
    exact ⟨⟨h1, fun c hc => h2 c (List.mem_append.mpr (Or.inl hc))⟩, fun c hc => h2 c (List.mem_append.mpr (Or.inr hc))⟩
theorem bs.le (h : bs nm d w v cs L w' v' cs' L') (hd : d ≤ e) : bs nm e w v cs L w' v' cs' L' := by
  obtain ⟨p1, a1, a2, a3, a4, a5, a6, a7, a8⟩ := h
  exact ⟨p1, a1, a2, a3, a4, a5, a6, by omega, a8⟩
theorem bs.adv {c : Int32} (h1 : sfx w v (c :: cs)) (h2 : stoW w L) (h3 : v 2 = 0 ∨ v 2 = 1) (hc : ¬ isN c) : bs nm (-2) w v (c :: cs) L w (upd v 1 (v 1 + 1)) cs L :=
  ⟨[c], rfl, sfx_adv h1, h2, rdW.rf, rfl, ⟨[], by simp⟩, by simp; omega, h3, ⟨fun h => ⟨h, fun d hd => by rw [List.mem_singleton] at hd; rw [hd]; exact fun q => absurd q hc⟩, fun h => h.1⟩⟩
theorem bs.mk {p : P4} (h1 : sfx w v cs) (h3 : v 2 = 0 ∨ v 2 = 1) (h4 : stoW w' (L ++ [p])) (h5 : rdW w w') : bs nm 1 w v cs L w' v cs (L ++ [p]) :=
  ⟨[], rfl, sfx_of h5 h1, h4, h5, rfl, ⟨[p], rfl⟩, by simp; omega, h3, ⟨fun h => ⟨h, fun c hc => by cases hc⟩, fun h => h.1⟩⟩
theorem bs.s (h : bs nm d w v cs L w' v' cs' L') : sfx w' v' cs' := by obtain ⟨_, _, h, _⟩ := h; exact h
theorem bs.o (h : bs nm d w v cs L w' v' cs' L') : stoW w' L' := by obtain ⟨_, _, _, h, _⟩ := h; exact h
theorem bs.f (h : bs nm d w v cs L w' v' cs' L') : v' 2 = 0 ∨ v' 2 = 1 := by obtain ⟨_, _, _, _, _, _, _, _, h, _⟩ := h; exact h
theorem bs.n (h : bs nm d w v cs L w' v' cs' L') : (L'.length : Int) + 2 * cs'.length ≤ L.length + 2 * cs.length + d := by obtain ⟨_, _, _, _, _, _, _, h, _⟩ := h; exact h
theorem bs.c (h : bs nm d w v cs L w' v' cs' L') : cs'.length ≤ cs.length := by
  obtain ⟨p, h, _⟩ := h
  rw [h]
  simp
theorem bs.z (h : bs nm d w v cs L w' v' cs' L') : v' 2 = 0 → v 2 = 0 := by
  obtain ⟨_, _, _, _, _, _, _, _, _, h⟩ := h
  exact fun q => (h.mp q).1
theorem bs.w3 (h : bs nm d w v cs L w' v' cs' L') (i : Nat) : w'.1 3 i = w.1 3 i := by
  obtain ⟨_, _, _, _, h, _⟩ := h
  exact h.1 3 i (by decide) (by decide) (by decide) (by decide) (fun q => by cases q)
end BS
/-! what the readers promise -/
def nd (cs : List Int32) : Prop := ∀ c r, cs = c :: r → ¬ isD c
def stopA (cs : List Int32) (pl : Nat) : Prop := pl ≤ 4 ∧ ∀ c r, cs = c :: r → (isD c → 3 ≤ pl)
def stopF (cs : List Int32) (pl : Nat) : Prop := ∀ c r, cs = c :: r → (isD c → 3 ≤ pl) ∧ (c = 94 → pl = 7)
def stopT (cs : List Int32) (pl : Nat) : Prop := ∀ c r, cs = c :: r → ((isD c → 3 ≤ pl) ∧ (c = 94 → pl = 7)) ∧ ¬ c = 42 ∧ ¬ c = 47
def stopS (cs : List Int32) (pl : Nat) : Prop := ∀ c r, cs = c :: r → (((isD c → 3 ≤ pl) ∧ (c = 94 → pl = 7)) ∧ ¬ c = 42 ∧ ¬ c = 47) ∧ ¬ c = 43 ∧ ¬ c = 45
def bldA (nm : Int32 → Int32) (cs : List Int32) (L : List P4) (r : Int32) (cs' : List Int32) (L' : List P4) : Prop := ∀ S G, ∃ M, Rch nm (cs, S, G, true, L) M ∧ bst nm M = fin cs' (r :: S) G L'
def bldL (lv : Nat) (nm : Int32 → Int32) (cs : List Int32) (L : List P4) (r : Int32) (cs' : List Int32) (L' : List P4) : Prop := ∀ S G, weak lv G → ∃ M : BM, Rch nm (cs, S, G, true, L) M ∧ M.1 = cs' ∧ M.2.2.2.1 = false ∧ stl lv M.2.2.1 M.2.1 M.2.2.2.2 = some (r :: S, G, L')
def nmOK (nm : Int32 → Int32) (b : Nat) : Prop := ∀ c, isN c → nm c = -1 ∨ ∃ j, j < b ∧ nm c = nI j
def postAt (d : Int) (nm : Int32 → Int32) (bld : List Int32 → List P4 → Int32 → List Int32 → List P4 → Prop) (stop : List Int32 → Nat → Prop) (o : Nat) (w : Wd) (v : Nat → Int32) (cs : List Int32) (L : List P4) (z : Int32 × Wd × (Nat → Int32)) (cs' : List Int32) (L' : List P4) : Prop :=
  bs nm d w v cs L z.2.1 z.2.2 cs' L' ∧ (z.1 = -1 → acc cs 0 o = false) ∧
    (¬ z.1 = -1 → cs'.length < cs.length ∧ (∃ pl, gpl pl ∧ acc cs 0 o = acc cs' pl o ∧ stop cs' pl) ∧ (z.2.2 2 = 0 → (okL L → okL L' ∧ ∃ j, j < L'.length ∧ z.1 = nI j) ∧ (nd cs' → bld cs L z.1 cs' L')))
def bldF (s : Nat) (nm : Int32 → Int32) (cs : List Int32) (L : List P4) (r : Int32) (cs' : List Int32) (L' : List P4) : Prop := ∀ S G, weak 3 G → ∃ M : BM, Rch nm (cs, S, List.replicate s 1 ++ G, true, L) M ∧ M.1 = cs' ∧ M.2.2.2.1 = false ∧ stl 3 M.2.2.1 M.2.1 M.2.2.2.2 = some (r :: S, G, L')
/-- where a reader may begin -/
def pre (nm : Int32 → Int32) (b : Nat) (w : Wd) (v : Nat → Int32) (cs : List Int32) (L : List P4) : Prop := (∀ d, nm d = w.1 3 (d - 97).toNatClampNeg) ∧ nmOK nm b ∧ sfx w v cs ∧ stoW w L ∧ b ≤ L.length ∧ L.length + 2 * cs.length ≤ 120 ∧ (v 2 = 0 ∨ v 2 = 1)
theorem pre.on {nm : Int32 → Int32} {b : Nat} {d : Int} {w w' : Wd} {v v' : Nat → Int32} {cs cs' : List Int32} {L L' : List P4} (h : pre nm b w v cs L) (g : bs nm d w v cs L w' v' cs' L') (hd : d ≤ 0) : pre nm b w' v' cs' L' := by
  obtain ⟨h1, h2, h3, h4, h5, h6, h7⟩ := h
  have g1 := g.n
  have g2 := g.w3
  have g3 := g.s
  have g4 := g.o
  have g5 := g.f
  obtain ⟨_, _, _, _, _, _, ⟨M, rfl⟩, _⟩ := g
  refine ⟨fun d => by rw [g2]; exact h1 d, h2, g3, g4, by simp; omega, by omega, g5⟩
