/-! the text's grammar and the building of parts, over lists: what both sides are held against -/
abbrev P4 : Type := Int32 × Int32 × Int32 × Int32
def pWh (v : Int32) : P4 := (0, v, -1, -1)
def pUn (s a : Int32) : P4 := (s, 0, a, -1)
def pBi (s a b : Int32) : P4 := (s, 0, a, b)
abbrev isD (c : Int32) : Prop := 48 ≤ c ∧ c ≤ 57
abbrev isN (c : Int32) : Prop := 97 ≤ c ∧ c ≤ 104
abbrev isS (c : Int32) : Prop := c = 43 ∨ c = 45 ∨ c = 42 ∨ c = 47
/-- the automaton's next place -/
def flw (p : Nat) (c : Int32) (o : Nat) : Option Nat :=
  if isD c then (if p = 6 then (if 50 ≤ c ∧ c ≤ 53 then some 7 else none) else if p ≤ 2 then some (p + 1) else none)
  else if c = 40 then (if (p = 0 ∨ p = 5) ∧ o < 6 then some 0 else none)
  else if p = 0 then (if c = 45 then some 0 else if c = 114 then some 5 else if isN c then some 4 else none)
  else if (1 ≤ p ∧ p ≤ 4) ∧ c = 94 then some 6
  else if (1 ≤ p ∧ p ≤ 4) ∨ p = 7 then (if c = 41 ∧ 0 < o then some 4 else if isS c then some 0 else none)
  else none
def opn (c : Int32) (o : Nat) : Nat := if c = 40 then o + 1 else if c = 41 then o - 1 else o
def acc : List Int32 → Nat → Nat → Bool
  | [], p, o => decide (o = 0 ∧ ((1 ≤ p ∧ p ≤ 4) ∨ p = 7))
  | c :: cs, p, o => match flw p c o with
    | none => false
    | some q => acc cs q (opn c o)
theorem acc_nil {p o : Nat} : acc [] p o = decide (o = 0 ∧ ((1 ≤ p ∧ p ≤ 4) ∨ p = 7)) := rfl
theorem acc_some {c : Int32} {cs : List Int32} {p o q : Nat} (h : flw p c o = some q) : acc (c :: cs) p o = acc cs q (opn c o) := by
  rw [acc, h]
theorem acc_none {c : Int32} {cs : List Int32} {p o : Nat} (h : flw p c o = none) : acc (c :: cs) p o = false := by
  rw [acc, h]
/-- how tightly a sign that hangs holds -/
def hld (g : Int32) : Nat := if g = 1 then 3 else if g = 42 ∨ g = 47 then 2 else if g = 43 ∨ g = 45 then 1 else 0
def opOf (g : Int32) : Int32 := if g = 43 then 2 else if g = 45 then 3 else if g = 42 then 4 else 5
abbrev T3 : Type := List Int32 × List Int32 × List P4
/-- one sign is settled -/
def stp (g : Int32) (S : List Int32) (L : List P4) : Option (List Int32 × List P4) :=
  if g = 1 then (match S with
    | [] => none
    | b :: S1 => some (nI L.length :: S1, L ++ [pUn 1 b]))
  else (match S with
    | b :: a :: S2 => some (nI L.length :: S2, L ++ [pBi (opOf g) a b])
    | _ => none)
/-- signs that hold at least lv are settled: what hangs (G), the open parts (S), the parts made (L) -/
def stl (lv : Nat) : List Int32 → List Int32 → List P4 → Option T3
  | [], S, L => some (S, [], L)
  | g :: G, S, L => if lv ≤ hld g then (stp g S L).bind fun q => stl lv G q.1 q.2 else some (S, g :: G, L)
theorem stp_1 {b : Int32} {S : List Int32} {L : List P4} : stp 1 (b :: S) L = some (nI L.length :: S, L ++ [pUn 1 b]) := by
  unfold stp
  rw [if_pos rfl]
theorem stp_2 {g a b : Int32} {S : List Int32} {L : List P4} (h : ¬ g = 1) : stp g (b :: a :: S) L = some (nI L.length :: S, L ++ [pBi (opOf g) a b]) := by
  unfold stp
  rw [if_neg h]
abbrev BM : Type := List Int32 × List Int32 × List Int32 × Bool × List P4
def pwr (e x : Int32) (L : List P4) : Int32 × List P4 :=
  let q1 : Int32 × List P4 := (nI L.length, L ++ [pUn 6 x])
  let q2 : Int32 × List P4 := if 4 ≤ e then (nI q1.2.length, q1.2 ++ [pUn 6 q1.1]) else q1
  if e = 3 ∨ e = 5 then (nI q2.2.length, q2.2 ++ [pBi 4 q2.1 x]) else q2
def bEnd (cs : List Int32) (t : Option T3) : Option BM := t.bind fun t => some (cs, t.1, t.2.1, false, t.2.2)
def fin (cs S G : List Int32) (L : List P4) : Option BM :=
  match cs with
  | [] => bEnd [] (stl 3 G S L)
  | c :: cs1 => if c = 94 then
      (match cs1, S with
      | e :: cs2, x :: S1 => bEnd cs2 (stl 3 G ((pwr (e - 48) x L).1 :: S1) (pwr (e - 48) x L).2)
      | _, _ => none)
    else bEnd (c :: cs1) (stl 3 G S L)
def digs : List Int32 → Int32 → Int32 × List Int32
  | [], v => (v, [])
  | c :: cs, v => if isD c then digs cs (10 * v + c - 48) else (v, c :: cs)
/-- one turn of the building -/
def bst (nm : Int32 → Int32) (M : BM) : Option BM :=
  match M with
  | ([], _) => none
  | (c :: cs, S, G, b, L) =>
    if isD c then fin (digs (c :: cs) 0).2 (nI L.length :: S) G (L ++ [pWh (digs (c :: cs) 0).1])
    else if isN c then fin cs (nm c :: S) G L
    else if c = 41 then
      if b = true then none else
      (stl 1 G S L).bind fun t => (match t.2.1 with
        | [] => none
        | g :: G1 => if g = 114 then (match t.1 with
            | [] => none
            | x :: S1 => fin cs (nI t.2.2.length :: S1) G1 (t.2.2 ++ [pUn 7 x]))
          else fin cs t.1 G1 t.2.2)
    else if c = 114 then (match cs with
      | [] => none
      | _ :: cs1 => some (cs1, S, 114 :: G, true, L))
    else if c = 40 then some (cs, S, 40 :: G, true, L)
    else if b = true then some (cs, S, 1 :: G, true, L)
    else (stl (hld c) G S L).bind fun t => some (cs, t.1, c :: t.2.1, true, t.2.2)
def rch (nm : Int32 → Int32) : Nat → BM → BM → Prop
  | 0, M, M' => M = M'
  | j + 1, M, M' => ∃ M1, bst nm M = some M1 ∧ rch nm j M1 M'
def Rch (nm : Int32 → Int32) (M M' : BM) : Prop := ∃ j, rch nm j M M'
theorem Rch.rf {nm : Int32 → Int32} {M : BM} : Rch nm M M := ⟨0, rfl⟩
theorem Rch.st {nm : Int32 → Int32} {M M1 M2 : BM} (h : bst nm M = some M1) (h2 : Rch nm M1 M2) : Rch nm M M2 := by
  obtain ⟨j, h2⟩ := h2
  exact ⟨j + 1, M1, h, h2⟩
theorem rch_tr {nm : Int32 → Int32} : ∀ (j : Nat) {M M1 M2 : BM}, rch nm j M M1 → Rch nm M1 M2 → Rch nm M M2
  | 0, _, _, _, h, h2 => by
    have h : _ = _ := h
    subst h
    exact h2
  | j + 1, _, _, _, h, h2 => by
    obtain ⟨M3, h3, h4⟩ := h
    exact Rch.st h3 (rch_tr j h4 h2)
theorem Rch.tr {nm : Int32 → Int32} {M M1 M2 : BM} (h : Rch nm M M1) (h2 : Rch nm M1 M2) : Rch nm M M2 := by
  obtain ⟨j, h⟩ := h
  exact rch_tr j h h2
/-- what hangs on top holds less than lv -/
def weak (lv : Nat) (G : List Int32) : Prop := match G with
  | [] => True
  | g :: _ => hld g < lv
theorem stl_weak {lv : Nat} {G S : List Int32} {L : List P4} (h : weak lv G) : stl lv G S L = some (S, G, L) := by
  cases G with
  | nil => rfl
  | cons g G =>
    have h : hld g < lv := h
    rw [stl, if_neg (by omega)]
theorem stl_mono {a b : Nat} (hab : a ≤ b) : ∀ (G S : List Int32) (L : List P4) {t : T3}, stl b G S L = some t → stl a G S L = stl a t.2.1 t.1 t.2.2
  | [], S, L, t, h => by
    rw [stl] at h
    cases h
    rfl
  | g :: G, S, L, t, h => by
    rw [stl] at h
    by_cases hb : b ≤ hld g
    · rw [if_pos hb] at h
      rw [stl, if_pos (Nat.le_trans hab hb)]
      obtain ⟨q, e, h⟩ := ez_bd h
      rw [e]
      exact stl_mono hab G q.1 q.2 h
    · rw [if_neg hb] at h
      cases h
      rfl
/-! the automaton at the places where a reader stops -/
abbrev gpl (p : Nat) : Prop := (1 ≤ p ∧ p ≤ 4) ∨ p = 7
theorem flw_rej {p o : Nat} {c : Int32} (hg : gpl p) (h1 : isD c → 3 ≤ p) (h2 : c = 94 → p = 7) (h3 : c ≠ 42) (h4 : c ≠ 47) (h5 : c ≠ 43) (h6 : c ≠ 45) (h7 : c = 41 → o = 0) : flw p c o = none := by
  have hp : ¬ p = 6 ∧ ¬ p = 0 ∧ ¬ p = 5 := by omega
  unfold flw
  by_cases hd : isD c
  · have := h1 hd
    rw [if_pos hd, if_neg hp.1, if_neg (by omega)]
  · rw [if_neg hd]
    by_cases h40 : c = 40
    · rw [if_pos h40, if_neg (by omega)]
    · rw [if_neg h40, if_neg hp.2.1]
      by_cases h94 : c = 94
      · have := h2 h94
        rw [if_neg (by omega), if_pos (by omega), if_neg (by intro h; rw [h94] at h; exact absurd h.1 (by decide)), if_neg (by intro h; rcases h with h | h | h | h <;> contradiction)]
      · rw [if_neg (fun h => h94 h.2), if_pos hg, if_neg (by intro h; have := h7 h.1; omega), if_neg (by intro h; rcases h with h | h | h | h <;> contradiction)]
theorem flw_dig0 {c : Int32} {o : Nat} (h : isD c) {p : Nat} (hp : p ≤ 2) : flw p c o = some (p + 1) := by
  unfold flw
  rw [if_pos h, if_neg (by omega), if_pos hp]
theorem flw_let {c : Int32} {o : Nat} (h : isN c) : flw 0 c o = some 4 := by
  have h1 : ¬ isD c := by
    intro h2
    have a := Int32.le_iff_toInt_le.mp h.1
    have b := Int32.le_iff_toInt_le.mp h2.2
    exact absurd (Int.le_trans a b) (by decide)
  have h2 : ¬ c = 40 := by intro e; rw [e] at h; exact absurd h (by decide)
  have h3 : ¬ c = 45 := by intro e; rw [e] at h; exact absurd h (by decide)
  have h4 : ¬ c = 114 := by intro e; rw [e] at h; exact absurd h (by decide)
  unfold flw
  rw [if_neg h1, if_neg h2, if_pos rfl, if_neg h3, if_neg h4, if_pos h]
theorem flw_min {o : Nat} : flw 0 45 o = some 0 := by
  unfold flw
  rw [if_neg (by decide), if_neg (by decide), if_pos rfl, if_pos rfl]
theorem flw_r {o : Nat} : flw 0 114 o = some 5 := by
  unfold flw
  rw [if_neg (by decide), if_neg (by decide), if_pos rfl, if_neg (by decide), if_pos rfl]
theorem flw_open {p o : Nat} (hp : p = 0 ∨ p = 5) (ho : o < 6) : flw p 40 o = some 0 := by
  unfold flw
  rw [if_neg (by decide), if_pos rfl, if_pos ⟨hp, ho⟩]
theorem flw_openN {p o : Nat} (ho : ¬ o < 6) : flw p 40 o = none := by
  unfold flw
  rw [if_neg (by decide), if_pos rfl, if_neg (fun h => ho h.2)]
theorem flw_close {p o : Nat} (hg : gpl p) (ho : 0 < o) : flw p 41 o = some 4 := by
  unfold flw
  rw [if_neg (by decide), if_neg (by decide), if_neg (by omega), if_neg (by intro h; exact absurd h.2 (by decide)), if_pos hg, if_pos ⟨rfl, ho⟩]
theorem flw_sign {p o : Nat} {c : Int32} (hg : gpl p) (hs : isS c) : flw p c o = some 0 := by
  have h1 : ¬ isD c ∧ ¬ c = 40 ∧ ¬ c = 94 ∧ ¬ c = 41 := by rcases hs with h | h | h | h <;> rw [h] <;> decide
  unfold flw
  rw [if_neg h1.1, if_neg h1.2.1, if_neg (by omega), if_neg (fun h => h1.2.2.1 h.2), if_pos hg, if_neg (fun h => h1.2.2.2 h.1), if_pos hs]
theorem flw_hat {p o : Nat} (hg : 1 ≤ p ∧ p ≤ 4) : flw p 94 o = some 6 := by
  unfold flw
  rw [if_neg (by decide), if_neg (by decide), if_neg (by omega), if_pos ⟨hg, rfl⟩]
theorem flw_exp {o : Nat} {c : Int32} (h : 50 ≤ c ∧ c ≤ 53) : flw 6 c o = some 7 := by
  have hd : isD c := by
    have a := Int32.le_iff_toInt_le.mp h.1
    have b := Int32.le_iff_toInt_le.mp h.2
    exact ⟨Int32.le_iff_toInt_le.mpr (Int.le_trans (by decide) a), Int32.le_iff_toInt_le.mpr (Int.le_trans b (by decide))⟩
  unfold flw
  rw [if_pos hd, if_pos rfl, if_pos h]
theorem flw_expN {o : Nat} {c : Int32} (h : ¬ (50 ≤ c ∧ c ≤ 53)) : flw 6 c o = none := by
  unfold flw
  by_cases hd : isD c
  · rw [if_pos hd, if_pos rfl, if_neg h]
  · rw [if_neg hd]
    by_cases h40 : c = 40
    · rw [if_pos h40, if_neg (by omega)]
    · rw [if_neg h40, if_neg (by omega), if_neg (by omega), if_neg (by omega)]
theorem flw_0N {o : Nat} {c : Int32} (h1 : ¬ isD c) (h2 : ¬ c = 40) (h3 : ¬ c = 45) (h4 : ¬ c = 114) (h5 : ¬ isN c) : flw 0 c o = none := by
  unfold flw
  rw [if_neg h1, if_neg h2, if_pos rfl, if_neg h3, if_neg h4, if_neg h5]
theorem flw_5N {o : Nat} {c : Int32} (h2 : ¬ c = 40) : flw 5 c o = none := by
  unfold flw
  by_cases hd : isD c
  · rw [if_pos hd, if_neg (by decide), if_neg (by decide)]
  · rw [if_neg hd, if_neg h2, if_neg (by decide), if_neg (by omega), if_neg (by omega)]
theorem opn_o {c : Int32} {o : Nat} (h1 : ¬ c = 40) (h2 : ¬ c = 41) : opn c o = o := by
  unfold opn
  rw [if_neg h1, if_neg h2]
