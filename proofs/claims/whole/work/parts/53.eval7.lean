/-! all parts at a step; evaluate and compare -/
theorem atW.ev {k : Nat} {w w' : Wd} (h : atW k w w') : evW w w' := ⟨fun c j _ h2 _ => h.1 c j (fun q => absurd q h2), fun c j h1 h2 => h.2 c j (fun q => by omega)⟩
theorem atX.ev {k : Nat} {w w' : Wd} (h : atX k w w') : evX w w' := ⟨fun c j h1 _ => h.1 c j (fun q => absurd q h1), fun c j h1 h2 => h.2 c j (fun q => by omega)⟩
theorem spn_at {k a : Nat} {w w' x x' : Wd} {B : Int} (hw : atW k w w') (hx : atX k x x') (hak : a ≠ k) (h : spn w x a B) : spn w' x' a B := by
  unfold spn
  rw [hw.1 10 a (fun _ => hak), hx.1 8 a (fun _ => hak), hw.2 11 a (fun _ => hak), hw.2 12 a (fun _ => hak), hx.2 9 a (fun _ => hak), hx.2 10 a (fun _ => hak)]
  exact h
/-- beyond the last part nothing is marked: the class's walk ends -/
theorem wo_skip : ∀ (r i n : Nat) (w : Wd), i + r = 80 → r < n → (∀ j, i ≤ j → j < 80 → w.1 9 j = 0) → fX2_workOut_7 n (nI i) w = some w
  | r, i, 0, w, _, hn, _ => by omega
  | 0, i, n + 1, w, hi, _, _ => by
    have e : i = 80 := by omega
    subst e
    rw [fX2_workOut_7, if_pos (show (80 : Int32) ≤ nI 80 from nI_le (a := 80) (b := 80) (by omega) (by omega))]
  | r + 1, i, n + 1, w, hi, hn, hz => by
    rw [fX2_workOut_7, if_neg (show ¬ (80 : Int32) ≤ nI i from nI_ge (b := 80) (by omega) (by omega)), pz_ldI (by omega) (by decide), hz i (Nat.le_refl _) (by omega), Option.bind_some, if_pos rfl, nI_1]
    exact wo_skip r (i + 1) n w (by omega) (by omega) (fun j h1 h2 => hz j (by omega) h2)
theorem wo_sim {L : List P4} (hL : L.length ≤ 80) (hok : okL L) {s : Nat} (hs : s ≤ 18) : ∀ (r i n : Nat) (w x : Wd), i + r = L.length → r + 200 < n → w.1 0 4 = nI s → stoW w L → stoX x L → (∀ j, j < 80 → w.1 9 j = x.1 11 j) → (∀ j, L.length ≤ j → j < 80 → w.1 9 j = 0) → closed w L → (∀ j, j < 80 → mk01 (w.1 9 j)) → (∀ j, j < i → w.1 9 j = 1 → spn w x j (4096 * 2 ^ s)) → ∃ w' x', fX2_workOut_7 n (nI i) w = some w' ∧ fX4_allAt_2 n (nI s) (nI i) x = some x' ∧ evW w w' ∧ evX x x' ∧ w'.1 0 4 = nI s ∧ (∀ j, w'.1 9 j = w.1 9 j) ∧ (∀ j, x'.1 11 j = x.1 11 j) ∧ (∀ j, j < L.length → w.1 9 j = 1 → spn w' x' j (4096 * 2 ^ s))
  | r, i, 0, w, x, _, hn, _, _, _, _, _, _, _, _ => by omega
  | 0, i, n + 1, w, x, hi, hn, h4, hsw, hsx, hmk, hz, hcl, h01, hsp => by
    have e : i = L.length := by omega
    subst e
    refine ⟨w, x, wo_skip (80 - L.length) L.length (n + 1) w (by omega) (by omega) hz, ?_, evW.rf, evX.rf, h4, fun _ => rfl, fun _ => rfl, hsp⟩
    rw [fX4_allAt_2, hsx.1, if_pos (nI_le (Nat.le_refl _) (by omega))]
  | r + 1, i, n + 1, w, x, hi, hn, h4, hsw, hsx, hmk, hz, hcl, h01, hsp => by
    rw [fX2_workOut_7, fX4_allAt_2, hsx.1, if_neg (show ¬ (80 : Int32) ≤ nI i from nI_ge (b := 80) (by omega) (by omega)), if_neg (nI_ge (by omega) (by omega)), pz_ldI (by omega) (by decide), pz_ldI (by omega) (by decide), ← hmk i (by omega), Option.bind_some, Option.bind_some, nI_1]
    rcases h01 i (by omega) with h0 | h1
    · rw [if_pos h0, if_pos h0]
      exact wo_sim hL hok hs r (i + 1) n w x (by omega) (by omega) h4 hsw hsx hmk hz hcl h01 (fun j hj hm1 => by
        by_cases hji : j = i
        · rw [hji, h0] at hm1
          exact absurd hm1 (by decide)
        · exact hsp j (by omega) hm1)
    · have h1' : ¬ w.1 9 i = 0 := by rw [h1]; decide
      rw [if_neg h1', if_neg h1']
      obtain ⟨p, hp⟩ : ∃ p, L[i]? = some p := ⟨L[i], List.getElem?_eq_getElem (by omega)⟩
      obtain ⟨c1, c2⟩ := hcl i p hp h1
      obtain ⟨w1, x1, e1, e2, a1, a2, a3⟩ := work1 hL hok hs (one_shl (s := s) (by omega)) (show 60 ≤ n by omega) h4 hsw hsx hp (fun a ha q => by
        rcases q with q | q
        · exact hsp a ha (c1 a ha q)
        · exact hsp a ha (c2 a ha q))
      rw [e1, e2, Option.bind_some, Option.bind_some]
      have m9 : ∀ j, w1.1 9 j = w.1 9 j := fun j => a1.1 9 j (fun q => absurd q (by decide))
      have m11 : ∀ j, x1.1 11 j = x.1 11 j := fun j => a2.1 11 j (fun q => absurd q (by decide))
      obtain ⟨w', x', f1, f2, g1, g2, g3, g4, g5, g6⟩ := wo_sim hL hok hs r (i + 1) n w1 x1 (by omega) (by omega) ((a1.1 0 4 (fun q => absurd q (by decide))).trans h4) (a1.ev.sto hsw) (a2.ev.sto hsx) (fun j hj => by rw [m9, m11]; exact hmk j hj) (fun j h2 h3 => by rw [m9]; exact hz j h2 h3) (fun i' p' hp' hm' => by
          rw [m9] at hm'
          obtain ⟨d1, d2⟩ := hcl i' p' hp' hm'
          exact ⟨fun a ha q => by rw [m9]; exact d1 a ha q, fun a ha q => by rw [m9]; exact d2 a ha q⟩) (fun j hj => by rw [m9]; exact h01 j hj) (fun j hj hm' => by
          by_cases hji : j = i
          · rw [hji]; exact a3
          · rw [m9] at hm'
            exact spn_at a1 a2 hji (hsp j (by omega) hm'))
      exact ⟨w', x', f1, f2, a1.ev.tr g1, a2.ev.tr g2, g3, fun j => (g4 j).trans (m9 j), fun j => (g5 j).trans (m11 j), fun j hj hm' => g6 j hj (by rw [m9]; exact hm')⟩
