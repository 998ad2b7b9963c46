/-! the reference's automaton; define -/
def fR : Option Nat → Int32
  | none => -1
  | some q => nI q
theorem flw_7 {p o q : Nat} {c : Int32} (hp : p ≤ 7) (h : flw p c o = some q) : q ≤ 7 := by
  unfold flw at h
  repeat' (split at h)
  all_goals first
    | (cases h; omega)
    | cases h
theorem flw_c0 {p : Nat} : flw p 41 0 = none := by
  unfold flw
  rw [if_neg (by decide), if_neg (by decide)]
  by_cases h0 : p = 0
  · rw [if_pos h0, if_neg (by decide), if_neg (by decide), if_neg (by decide)]
  · rw [if_neg h0, if_neg (fun q => absurd q.2 (by decide))]
    by_cases hg : (1 ≤ p ∧ p ≤ 4) ∨ p = 7
    · rw [if_pos hg, if_neg (by omega), if_neg (by decide)]
    · rw [if_neg hg]
theorem flw_o6 {p o q : Nat} (h : flw p 40 o = some q) : o < 6 := by
  unfold flw at h
  rw [if_neg (by decide), if_pos rfl] at h
  by_cases h1 : (p = 0 ∨ p = 5) ∧ o < 6
  · exact h1.2
  · rw [if_neg h1] at h
    cases h
theorem nI_iff {a b : Nat} (ha : a < 1000) (hb : b < 1000) : nI a = nI b ↔ a = b := ⟨fun h => pz_inj (by omega) (by omega) h, fun h => by rw [h]⟩
theorem nI_iffL {a b : Nat} (ha : a < 1000) (hb : b < 1000) : nI a < nI b ↔ a < b := ⟨fun h => by
  by_cases q : a < b
  · exact q
  · exact absurd h (Int32.not_lt.mpr (nI_le (by omega) (by omega))), fun h => nI_lt h (by omega)⟩
theorem q_148 (n : Nat) (c : Int32) {o : Nat} (ho : o ≤ 20) : fX4_follow_148 n c (nI o) = some (fR (if c = 41 ∧ 0 < o then some 4 else if isS c then some 0 else none)) := by
  unfold fX4_follow_148
  have tail : ((fX4_isSign n c).bind fun z => if z = 0 then some (-1) else some 0) = some (fR (if isS c then some 0 else none)) := by
    rw [q_isS, Option.bind_some]
    by_cases hs : isS c
    · rw [if_pos hs, if_pos hs, if_neg (show ¬ (1 : Int32) = 0 by decide)]
      rfl
    · rw [if_neg hs, if_neg hs, if_pos rfl]
      rfl
  by_cases h41 : c = 41
  · rw [if_pos h41]
    by_cases h0 : o = 0
    · rw [if_pos (show nI o ≤ 0 by rw [h0]; decide), if_neg (by omega)]
      exact tail
    · rw [if_neg (show ¬ nI o ≤ 0 from nI_ge (b := o) (a := 0) (by omega) (by omega)), if_pos ⟨h41, by omega⟩]
      rfl
  · rw [if_neg h41, if_neg (fun q => h41 q.1)]
    exact tail
theorem q_follow (n : Nat) (c : Int32) {p o : Nat} (hp : p ≤ 7) (ho : o ≤ 20) : fX4_follow n (nI p) c (nI o) = some (fR (flw p c o)) := by
  have e : fX4_follow n (nI p) c (nI o) = fX4_follow_15 n (nI p) c (nI o) (if 1 ≤ p ∧ p ≤ 4 then 1 else 0) := by
    unfold fX4_follow
    by_cases h1 : p < 1
    · rw [if_pos (show nI p < 1 from (nI_iffL (b := 1) (by omega) (by omega)).mpr h1), if_neg (by omega)]
    · rw [if_neg (show ¬ nI p < 1 from fun q => h1 ((nI_iffL (b := 1) (by omega) (by omega)).mp q))]
      by_cases h4 : 4 < p
      · rw [if_pos (show 4 < nI p from (nI_iffL (a := 4) (by omega) (by omega)).mpr h4), if_neg (by omega)]
      · rw [if_neg (show ¬ 4 < nI p from fun q => h4 ((nI_iffL (a := 4) (by omega) (by omega)).mp q)), if_pos (by omega)]
  have e0 : nI p = 0 ↔ p = 0 := nI_iff (b := 0) (by omega) (by omega)
  have e5 : nI p = 5 ↔ p = 5 := nI_iff (b := 5) (by omega) (by omega)
  have e6 : nI p = 6 ↔ p = 6 := nI_iff (b := 6) (by omega) (by omega)
  have e7 : nI p = 7 ↔ p = 7 := nI_iff (b := 7) (by omega) (by omega)
  have l2 : 2 < nI p ↔ 2 < p := nI_iffL (a := 2) (by omega) (by omega)
  rw [e]
  unfold fX4_follow_15 flw
  rw [q_isD, Option.bind_some]
  by_cases hd : isD c
  · rw [if_pos hd, if_neg (show ¬ (1 : Int32) = 0 by decide), if_pos hd]
    by_cases h6 : p = 6
    · rw [if_pos (e6.mpr h6), if_pos h6]
      by_cases a1 : c < 50
      · rw [if_pos a1, if_neg (fun q => Int32.not_le.mpr a1 q.1)]
        rfl
      · rw [if_neg a1]
        by_cases a2 : 53 < c
        · rw [if_pos a2, if_neg (fun q => Int32.not_le.mpr a2 q.2)]
          rfl
        · rw [if_neg a2, if_pos ⟨Int32.not_lt.mp a1, Int32.not_lt.mp a2⟩]
          rfl
    · rw [if_neg (fun q => h6 (e6.mp q)), if_neg h6]
      by_cases h2 : 2 < p
      · rw [if_pos (l2.mpr h2), if_neg (by omega)]
        rfl
      · rw [if_neg (fun q => h2 (l2.mp q)), if_pos (by omega), nI_1]
        rfl
  · rw [if_neg hd, if_pos rfl, if_neg hd]
    by_cases h40 : c = 40
    · rw [if_pos h40, if_pos h40]
      have h6 : (if (6 : Int32) ≤ nI o then some (-1 : Int32) else some 0) = some (fR (if o < 6 then some 0 else none)) := by
        by_cases q : o < 6
        · rw [if_neg (show ¬ (6 : Int32) ≤ nI o from nI_ge (b := 6) q (by omega)), if_pos q]
          rfl
        · rw [if_pos (show (6 : Int32) ≤ nI o from nI_le (a := 6) (by omega) (by omega)), if_neg q]
          rfl
      by_cases h0 : p = 0
      · rw [if_pos (e0.mpr h0), h6]
        by_cases q : o < 6
        · rw [if_pos q, if_pos ⟨Or.inl h0, q⟩]
        · rw [if_neg q, if_neg (fun r => q r.2)]
      · rw [if_neg (fun q => h0 (e0.mp q))]
        by_cases h5 : p = 5
        · rw [if_pos (e5.mpr h5), h6]
          by_cases q : o < 6
          · rw [if_pos q, if_pos ⟨Or.inr h5, q⟩]
          · rw [if_neg q, if_neg (fun r => q r.2)]
        · rw [if_neg (fun q => h5 (e5.mp q)), if_neg (fun r => r.1.elim h0 h5)]
          rfl
    · rw [if_neg h40, if_neg h40]
      by_cases h0 : p = 0
      · rw [if_pos (e0.mpr h0), if_pos h0]
        by_cases h45 : c = 45
        · rw [if_pos h45, if_pos h45]
          rfl
        · rw [if_neg h45, if_neg h45]
          by_cases h114 : c = 114
          · rw [if_pos h114, if_pos h114]
            rfl
          · rw [if_neg h114, if_neg h114, q_isN, Option.bind_some]
            by_cases hN : isN c
            · rw [if_pos hN, if_pos hN, if_neg (show ¬ (1 : Int32) = 0 by decide)]
              rfl
            · rw [if_neg hN, if_neg hN, if_pos rfl]
              rfl
      · rw [if_neg (fun q => h0 (e0.mp q)), if_neg h0]
        by_cases h14 : 1 ≤ p ∧ p ≤ 4
        · rw [if_pos h14, if_neg (show ¬ (1 : Int32) = 0 by decide)]
          by_cases h94 : c = 94
          · rw [if_pos h94, if_pos ⟨h14, h94⟩]
            rfl
          · rw [if_neg h94, if_neg (show ¬ (1 : Int32) = 0 by decide), if_neg (fun q => h94 q.2), if_pos (Or.inl h14), q_148 n c ho]
        · rw [if_neg h14, if_pos rfl, if_pos rfl, if_neg (show ¬ ((1 ≤ p ∧ p ≤ 4) ∧ c = 94) from fun q => h14 q.1)]
          by_cases h7 : p = 7
          · rw [if_pos (e7.mpr h7), if_pos (Or.inr h7), q_148 n c ho]
          · rw [if_neg (fun q => h7 (e7.mp q)), if_neg (fun q => q.elim h14 h7)]
            rfl
theorem q_inG72N (n : Nat) (y : Int32) (x : Wd) : fX4_inGrammar_72 n (-1) y x = some 0 := by
  unfold fX4_inGrammar_72
  by_cases h : y = 0
  · rw [if_pos h, if_pos (by decide), if_neg (by decide)]
  · rw [if_neg h]
theorem q_inGN (n : Nat) (y i : Int32) (x : Wd) : fX4_inGrammar_6 (n + 1) (-1) y i x = some 0 := by
  rw [fX4_inGrammar_6, q_inG72N]
  by_cases h : x.1 0 0 ≤ i
  · rw [if_pos h]
  · rw [if_neg h, if_pos (by decide)]
theorem q_inG {x : Wd} : ∀ (cs : List Int32) (n p o i : Nat), tx x i cs → cs.length + 1 < n → p ≤ 7 → o ≤ 20 → fX4_inGrammar_6 n (nI p) (nI o) (nI i) x = some (if acc cs p o = true then 1 else 0)
  | _, 0, _, _, _, _, hn, _, _ => by omega
  | [], n + 1, p, o, i, ht, hn, hp, ho => by
    have hsz : x.1 0 0 ≤ nI i := by
      rw [ht.1]
      exact nI_le (by simp) (by have := ht.2.1; simp at this ⊢; omega)
    rw [fX4_inGrammar_6, if_pos hsz, acc_nil]
    unfold fX4_inGrammar_72
    have e0 : nI o = 0 ↔ o = 0 := nI_iff (b := 0) (by omega) (by omega)
    have e7 : nI p = 7 ↔ p = 7 := nI_iff (b := 7) (by omega) (by omega)
    have l1 : nI p < 1 ↔ p < 1 := nI_iffL (b := 1) (by omega) (by omega)
    by_cases h0 : o = 0
    · rw [if_pos (e0.mpr h0)]
      by_cases h1 : p < 1
      · rw [if_pos (l1.mpr h1), if_neg (fun q => by have := e7.mp q; omega), if_neg (by simp; omega)]
      · rw [if_neg (fun q => h1 (l1.mp q))]
        by_cases h4 : p ≤ 4
        · rw [if_pos (show nI p ≤ 4 from nI_le (b := 4) h4 (by omega)), if_pos (by simp; omega)]
        · rw [if_neg (show ¬ nI p ≤ 4 from nI_ge (a := 4) (b := p) (by omega) (by omega))]
          by_cases h7 : p = 7
          · rw [if_pos (e7.mpr h7), if_pos (by simp; omega)]
          · rw [if_neg (fun q => h7 (e7.mp q)), if_neg (by simp; omega)]
    · rw [if_neg (fun q => h0 (e0.mp q)), if_neg (by simp; omega)]
  | c :: r, n + 1, p, o, i, ht, hn, hp, ho => by
    have h2 := ht.2.1
    simp only [List.length_cons] at h2 hn
    have hsz : ¬ x.1 0 0 ≤ nI i := by
      rw [ht.1]
      exact nI_ge (by simp) (by simp; omega)
    have hch : ez_ldI x 1 20 (nI i) = some c := by
      rw [pz_ldI (by omega) (by decide)]
      exact congrArg some (ht.2.2 0 c rfl)
    rw [fX4_inGrammar_6, if_neg hsz, if_neg (nI_pos (by omega)), hch, Option.bind_some, q_follow n c hp ho, Option.bind_some, Option.bind_some, Option.bind_some, acc]
    cases hf : flw p c o with
    | none =>
      obtain ⟨m, rfl⟩ : ∃ m, n = m + 1 := ⟨n - 1, by omega⟩
      simp only [fR, q_inGN]
      by_cases h40 : c = 40
      · rw [if_pos h40]; rfl
      · rw [if_neg h40]
        by_cases h41 : c = 41
        · rw [if_pos h41]; rfl
        · rw [if_neg h41]; rfl
    | some q =>
      have hq := flw_7 hp hf
      have hrec := fun (o' : Nat) (ho' : o' ≤ 20) => q_inG r n q o' (i + 1) ht.tl (by omega) hq ho'
      simp only [fR]
      by_cases h40 : c = 40
      · rw [if_pos h40, nI_1, nI_1]
        subst h40
        have := flw_o6 hf
        exact hrec (o + 1) (by omega)
      · rw [if_neg h40]
        by_cases h41 : c = 41
        · subst h41
          rw [if_pos rfl]
          cases o with
          | zero => rw [flw_c0] at hf; cases hf
          | succ k =>
            rw [sub1, nI_1]
            exact hrec k (by omega)
        · rw [if_neg h41, nI_1, opn_o h40 h41]
          exact hrec o ho
theorem q_all {x : Wd} {nm : Int32 → Int32} (hK : ∀ d : Nat, d < 8 → (x.1 2 d ≤ 0 ↔ nm (nI (97 + d)) = -1)) : ∀ (cs : List Int32) (n i : Nat) (u : Int32), tx x i cs → cs.length < n → (u = 0 ∨ u = 1) → ∃ r : Int32, fX4_allKnown_4 n u (nI i) x = some r ∧ (r = 0 ∨ r = 1) ∧ (r = 1 ↔ u = 1 ∧ ∀ c ∈ cs, isN c → ¬ nm c = -1)
  | _, 0, _, _, _, hn, _ => by omega
  | [], n + 1, i, u, ht, hn, hu => by
    have hsz : x.1 0 0 ≤ nI i := by
      rw [ht.1]
      exact nI_le (by simp) (by have := ht.2.1; simp at this ⊢; omega)
    rw [fX4_allKnown_4, if_pos hsz]
    have hz : ez_z .boolean u = some () := by
      rcases hu with rfl | rfl <;> decide
    rw [hz, Option.bind_some]
    exact ⟨u, rfl, hu, by simp⟩
  | c :: r, n + 1, i, u, ht, hn, hu => by
    have h2 := ht.2.1
    simp only [List.length_cons] at h2 hn
    have hsz : ¬ x.1 0 0 ≤ nI i := by
      rw [ht.1]
      exact nI_ge (by simp) (by simp; omega)
    have hch : ez_ldI x 1 20 (nI i) = some c := by
      rw [pz_ldI (by omega) (by decide)]
      exact congrArg some (ht.2.2 0 c rfl)
    have hrec := fun (u' : Int32) (hu' : u' = 0 ∨ u' = 1) => q_all hK r n (i + 1) u' ht.tl (by omega) hu'
    rw [fX4_allKnown_4, if_neg hsz]
    rcases hu with rfl | rfl
    · rw [if_pos rfl, nI_1]
      obtain ⟨s, r1, r2, r3⟩ := hrec 0 (Or.inl rfl)
      refine ⟨s, r1, r2, ?_⟩
      rw [r3]
      exact ⟨fun q => absurd q.1 (by decide), fun q => absurd q.1 (by decide)⟩
    · rw [if_neg (show ¬ (1 : Int32) = 0 by decide), hch, Option.bind_some, q_isN, Option.bind_some, Option.bind_some, nI_1]
      by_cases hN : isN c
      · obtain ⟨d, d1, d2, d3⟩ := isN_n hN
        rw [if_pos hN, if_neg (show ¬ (1 : Int32) = 0 by decide), d3, pz_ldI d1 (by decide), Option.bind_some]
        by_cases hz : x.1 2 d ≤ 0
        · have hu := (hK d d1).mp hz
          rw [← d2] at hu
          rw [if_pos hz]
          obtain ⟨s, r1, r2, r3⟩ := hrec 0 (Or.inl rfl)
          refine ⟨s, r1, r2, ?_⟩
          rw [r3]
          exact ⟨fun q => absurd q.1 (by decide), fun q => absurd hu (q.2 c (by simp) hN)⟩
        · have hu : ¬ nm c = -1 := fun q => hz ((hK d d1).mpr (by rw [← d2]; exact q))
          rw [if_neg hz]
          obtain ⟨s, r1, r2, r3⟩ := hrec 1 (Or.inr rfl)
          refine ⟨s, r1, r2, ?_⟩
          rw [r3]
          exact ⟨fun q => ⟨rfl, fun e he => by
            rcases List.mem_cons.mp he with h | h
            · rw [h]; exact fun _ => hu
            · exact q.2 e h⟩, fun q => ⟨rfl, fun e he => q.2 e (List.mem_cons_of_mem _ he)⟩⟩
      · rw [if_neg hN, if_pos rfl]
        obtain ⟨s, r1, r2, r3⟩ := hrec 1 (Or.inr rfl)
        refine ⟨s, r1, r2, ?_⟩
        rw [r3]
        exact ⟨fun q => ⟨rfl, fun e he => by
          rcases List.mem_cons.mp he with h | h
          · rw [h]; exact fun g => absurd g hN
          · exact q.2 e h⟩, fun q => ⟨rfl, fun e he => q.2 e (List.mem_cons_of_mem _ he)⟩⟩
