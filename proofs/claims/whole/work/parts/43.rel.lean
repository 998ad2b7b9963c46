/-! worlds as pure things -/
theorem pz_ldI {w : Wd} {b N j : Nat} (h : j < N) (hN : N < 2147483648) : ez_ldI w b N (nI j) = some (w.1 b j) := by
  unfold ez_ldI
  rw [if_neg (nI_in h (by omega)), nI_clamp (by omega)]
theorem pz_ldL {w : Wd} {b N j : Nat} (h : j < N) (hN : N < 2147483648) : ez_ldL w b N (nI j) = some (w.2 b j) := by
  unfold ez_ldL
  rw [if_neg (nI_in h (by omega)), nI_clamp (by omega)]
theorem pz_stI {w : Wd} {b N j : Nat} {v : Int32} (h : j < N) (hN : N < 2147483648) : ez_stI w b N (nI j) v = some (ez_sI w b j v) := by
  unfold ez_stI
  rw [if_neg (nI_in h (by omega)), nI_clamp (by omega)]
theorem pz_stL {w : Wd} {b N j : Nat} {v : Int64} (h : j < N) (hN : N < 2147483648) : ez_stL w b N (nI j) v = some (ez_sL w b j v) := by
  unfold ez_stL
  rw [if_neg (nI_in h (by omega)), nI_clamp (by omega)]
theorem pz_fI {w : Wd} {k : Nat} {v : Int32} : ez_fI w k v = some (ez_sI w 0 k v) := rfl
theorem pz_fL {w : Wd} {k : Nat} {v : Int64} : ez_fL w k v = some (ez_sL w 0 k v) := rfl
theorem pz_fV {v : Nat → Int32} {k : Nat} {x : Int32} : ez_fV v k x = some (upd v k x) := rfl
theorem pz_up {α : Type} (f : Nat → Nat → α) (b : Nat) (g : Nat → α) (c : Nat) : ez_up f b g c = if c = b then g else f c := by
  unfold ez_up
  by_cases h : c = b
  · subst h
    rw [if_pos rfl, show Nat.beq c c = true from Nat.beq_refl c]
    rfl
  · rw [if_neg h]
    cases hb : Nat.beq c b with
    | true => exact absurd (Nat.eq_of_beq_eq_true hb) h
    | false => rfl
theorem pz_sI1 (w : Wd) (b i : Nat) (v : Int32) (c j : Nat) : (ez_sI w b i v).1 c j = if c = b ∧ j = i then v else w.1 c j := by
  show ez_up w.1 b (upd (w.1 b) i v) c j = _
  rw [pz_up]
  by_cases h : c = b
  · subst h
    rw [if_pos rfl]
    unfold upd
    by_cases hj : j = i
    · rw [if_pos hj, if_pos ⟨rfl, hj⟩]
    · rw [if_neg hj, if_neg (fun q => hj q.2)]
  · rw [if_neg h, if_neg (fun q => h q.1)]
theorem pz_sI2 (w : Wd) (b i : Nat) (v : Int32) : (ez_sI w b i v).2 = w.2 := rfl
theorem pz_sL1 (w : Wd) (b i : Nat) (v : Int64) : (ez_sL w b i v).1 = w.1 := rfl
theorem pz_sL2 (w : Wd) (b i : Nat) (v : Int64) (c j : Nat) : (ez_sL w b i v).2 c j = if c = b ∧ j = i then v else w.2 c j := by
  show ez_up w.2 b (vp_updL (w.2 b) i v) c j = _
  rw [pz_up]
  by_cases h : c = b
  · subst h
    rw [if_pos rfl]
    unfold vp_updL
    by_cases hj : j = i
    · rw [if_pos hj, if_pos ⟨rfl, hj⟩]
    · rw [if_neg hj, if_neg (fun q => hj q.2)]
  · rw [if_neg h, if_neg (fun q => h q.1)]
theorem pz_i {a b : Nat} (h : a = b) : nI a = nI b := by rw [h]
theorem pz_inj {a b : Nat} (ha : a < 2147483648) (hb : b < 2147483648) (h : nI a = nI b) : a = b := (nI_eq (by omega) (by omega)).mp h
theorem pz_m1 {a : Nat} (ha : a < 2147483648) : ¬ nI a = -1 := by
  intro h
  have h1 := nI_toInt (n := a) (by omega)
  rw [h] at h1
  have h2 : (-1 : Int32).toInt = -1 := rfl
  omega
/-! the relation between the class's state and the reference's -/
abbrev typ (c : Int32) : Prop := isD c ∨ isN c ∨ isS c ∨ c = 94 ∨ c = 40 ∨ c = 41 ∨ c = 114
def mS (p : P4) : Int32 := if p.1 = 6 then 7 else if p.1 = 7 then 6 else p.1
def mA (p : P4) : Int32 := if p.1 = 0 then p.2.1 else p.2.2.1
def mB (p : P4) : Int32 := if p.1 = 0 then 0 else if p.1 = 1 ∨ p.1 = 6 ∨ p.1 = 7 then p.2.2.1 else p.2.2.2
/-- a part is well made: its operands stand before it -/
def okP (i : Nat) (p : P4) : Prop := (∃ v : Nat, v ≤ 999 ∧ p = pWh (nI v)) ∨ (∃ (s : Int32) (a : Nat), (s = 1 ∨ s = 6 ∨ s = 7) ∧ a < i ∧ p = pUn s (nI a)) ∨ (∃ (s : Int32) (a b : Nat), (s = 2 ∨ s = 3 ∨ s = 4 ∨ s = 5) ∧ a < i ∧ b < i ∧ p = pBi s (nI a) (nI b))
def okL (L : List P4) : Prop := ∀ i p, L[i]? = some p → okP i p
def stoW (w : Wd) (L : List P4) : Prop := w.1 0 3 = nI L.length ∧ ∀ i p, i < 80 → L[i]? = some p → w.1 5 i = p.1 ∧ w.1 6 i = p.2.1 ∧ w.1 7 i = p.2.2.1 ∧ w.1 8 i = p.2.2.2
def stoX (x : Wd) (L : List P4) : Prop := x.1 0 1 = nI L.length ∧ ∀ i p, L[i]? = some p → x.1 3 i = mS p ∧ x.1 4 i = mA p ∧ x.1 5 i = mB p
def txt (w : Wd) (cs : List Int32) : Prop := w.1 0 0 = nI cs.length ∧ ∀ i c, cs[i]? = some c → w.1 1 i = c
def relN (w x : Wd) (c : Nat) : Prop := ∀ i, i < 8 → (w.1 3 i = -1 ∧ x.1 2 i = 0) ∨ ∃ j, j < c ∧ w.1 3 i = nI j ∧ x.1 2 i = nI (j + 1)
def relR (w x : Wd) : Prop := (w.1 0 2 = -1 ∧ w.2 0 0 = 0 ∧ w.2 0 1 = 0 ∧ x.1 0 6 = 0) ∨ (∃ s : Nat, s ≤ 18 ∧ w.1 0 2 = nI s ∧ x.1 0 6 = 1 ∧ x.1 0 5 = nI s ∧ w.2 0 0 = x.2 0 0 ∧ w.2 0 1 = x.2 0 1 ∧ -1073741824 ≤ (w.2 0 0).toInt ∧ (w.2 0 0).toInt ≤ 1073741824 ∧ -1073741824 ≤ (w.2 0 1).toInt ∧ (w.2 0 1).toInt ≤ 1073741824)
def Rel (w x : Wd) : Prop := ∃ (cs : List Int32) (L : List P4), txt w cs ∧ txt x cs ∧ cs.length ≤ 20 ∧ (∀ c ∈ cs, typ c) ∧ L.length ≤ 80 ∧ okL L ∧ stoW w L ∧ stoX x L ∧ relN w x L.length ∧ w.1 0 1 = x.1 0 4 ∧ relR w x
/-! small statics -/
theorem p_isD (n : Nat) (c : Int32) : fX3_isDigit n c = some (if isD c then 1 else 0) := by
  unfold fX3_isDigit
  by_cases h1 : c < 48
  · rw [if_pos h1, if_neg (fun q => Int32.not_le.mpr h1 q.1)]
  · rw [if_neg h1]
    by_cases h2 : 57 < c
    · rw [if_pos h2, if_neg (fun q => Int32.not_le.mpr h2 q.2)]
    · rw [if_neg h2, if_pos ⟨Int32.not_lt.mp h1, Int32.not_lt.mp h2⟩]
theorem p_isL (n : Nat) (c : Int32) : fX3_isLetter n c = some (if isN c then 1 else 0) := by
  unfold fX3_isLetter
  by_cases h1 : c < 97
  · rw [if_pos h1, if_neg (fun q => Int32.not_le.mpr h1 q.1)]
  · rw [if_neg h1]
    by_cases h2 : 104 < c
    · rw [if_pos h2, if_neg (fun q => Int32.not_le.mpr h2 q.2)]
    · rw [if_neg h2, if_pos ⟨Int32.not_lt.mp h1, Int32.not_lt.mp h2⟩]
theorem q_isD (n : Nat) (c : Int32) : fX4_isDigit n c = some (if isD c then 1 else 0) := p_isD n c
theorem q_isN (n : Nat) (c : Int32) : fX4_isName n c = some (if isN c then 1 else 0) := p_isL n c
theorem q_isS (n : Nat) (c : Int32) : fX4_isSign n c = some (if isS c then 1 else 0) := by
  unfold fX4_isSign
  by_cases h1 : c = 43
  · rw [if_pos h1, if_pos (Or.inl h1)]
  · rw [if_neg h1]
    by_cases h2 : c = 45
    · rw [if_pos h2, if_pos (Or.inr (Or.inl h2))]
    · rw [if_neg h2]
      by_cases h3 : c = 42
      · rw [if_pos h3, if_pos (Or.inr (Or.inr (Or.inl h3)))]
      · rw [if_neg h3]
        by_cases h4 : c = 47
        · rw [if_pos h4, if_pos (Or.inr (Or.inr (Or.inr h4)))]
        · rw [if_neg h4, if_neg (by intro q; rcases q with q | q | q | q <;> contradiction)]
theorem p_typ (n : Nat) (c : Int32) : fX3_isTypable n c = some (if typ c then 1 else 0) := by
  unfold fX3_isTypable
  by_cases ht : typ c
  · rw [if_pos ht]
    repeat (split; rfl)
    rename_i h1 h2 h3 h4 h5 h6 h7 h8
    rw [p_isD, p_isL]
    by_cases hd : isD c
    · simp [hd]
    · by_cases hn : isN c
      · simp [hd, hn]
      · exact absurd ht (by simp only [typ, isS]; simp [hd, hn, h1, h2, h3, h4, h5, h6, h7, h8])
  · have h1 : ¬ c = 40 := fun h => ht (by rw [h]; decide)
    have h2 : ¬ c = 41 := fun h => ht (by rw [h]; decide)
    have h3 : ¬ c = 42 := fun h => ht (by rw [h]; decide)
    have h4 : ¬ c = 43 := fun h => ht (by rw [h]; decide)
    have h5 : ¬ c = 45 := fun h => ht (by rw [h]; decide)
    have h6 : ¬ c = 47 := fun h => ht (by rw [h]; decide)
    have h7 : ¬ c = 94 := fun h => ht (by rw [h]; decide)
    have h8 : ¬ c = 114 := fun h => ht (by rw [h]; decide)
    have h9 : ¬ isD c := fun h => ht (Or.inl h)
    have h10 : ¬ isN c := fun h => ht (Or.inr (Or.inl h))
    rw [if_neg ht, if_neg h1, if_neg h2, if_neg h3, if_neg h4, if_neg h5, if_neg h6, if_neg h7, if_neg h8, p_isD, p_isL, if_neg h9, if_neg h10]
    rfl
/-- a typable code is a small number -/
theorem typ_n {c : Int32} (h : typ c) : ∃ j : Nat, 40 ≤ j ∧ j ≤ 114 ∧ c = nI j := by
  have hb : 40 ≤ c.toInt ∧ c.toInt ≤ 114 := by
    rcases h with h | h | h | h | h | h | h
    · have a := Int32.le_iff_toInt_le.mp h.1
      have b := Int32.le_iff_toInt_le.mp h.2
      exact ⟨Int.le_trans (by decide) a, Int.le_trans b (by decide)⟩
    · have a := Int32.le_iff_toInt_le.mp h.1
      have b := Int32.le_iff_toInt_le.mp h.2
      exact ⟨Int.le_trans (by decide) a, Int.le_trans b (by decide)⟩
    · rcases h with h | h | h | h <;> rw [h] <;> decide
    all_goals rw [h]; decide
  refine ⟨c.toInt.toNat, by omega, by omega, ?_⟩
  apply Int32.toInt_inj.mp
  rw [nI_toInt (by omega)]
  omega
theorem typ_ch {c : Int32} (h : typ c) : vp_nar .char c = c ∧ vp_nar .char ((Int32.toUInt32 c % 65536).toInt32) = c := by
  obtain ⟨j, h1, h2, rfl⟩ := typ_n h
  have a := (pk_charN (q := j) (by omega)).1
  have hc : vp_nar .char (nI j) = nI j := by
    unfold vp_nar
    rw [a]
  refine ⟨hc, ?_⟩
  rw [pk_char, pk_tn (by omega), Nat.mod_eq_of_lt (by omega)]
  exact hc
