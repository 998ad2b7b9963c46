/-! EnclosureCalculator$Reader readBracket -/
theorem dX1_readBracket_0 : decode cX1_readBracket 0 = .ok (.aload_n 0, 1) := by decide +kernel
theorem dX1_readBracket_1 : decode cX1_readBracket 1 = .ok (.invokevirtual 38, 3) := by decide +kernel
theorem dX1_readBracket_4 : decode cX1_readBracket 4 = .ok (.bipush 40, 2) := by decide +kernel
theorem dX1_readBracket_6 : decode cX1_readBracket 6 = .ok (.if_icmp .ne 9, 3) := by decide +kernel
theorem dX1_readBracket_9 : decode cX1_readBracket 9 = .ok (.iload_n 1, 1) := by decide +kernel
theorem dX1_readBracket_10 : decode cX1_readBracket 10 = .ok (.bipush 6, 2) := by decide +kernel
theorem dX1_readBracket_12 : decode cX1_readBracket 12 = .ok (.if_icmp .lt 5, 3) := by decide +kernel
theorem dX1_readBracket_15 : decode cX1_readBracket 15 = .ok (.iconst (-1), 1) := by decide +kernel
theorem dX1_readBracket_16 : decode cX1_readBracket 16 = .ok (.ireturn, 1) := by decide +kernel
theorem dX1_readBracket_17 : decode cX1_readBracket 17 = .ok (.aload_n 0, 1) := by decide +kernel
theorem dX1_readBracket_18 : decode cX1_readBracket 18 = .ok (.dup, 1) := by decide +kernel
theorem dX1_readBracket_19 : decode cX1_readBracket 19 = .ok (.getfield 27, 3) := by decide +kernel
theorem dX1_readBracket_22 : decode cX1_readBracket 22 = .ok (.iconst 1, 1) := by decide +kernel
theorem dX1_readBracket_23 : decode cX1_readBracket 23 = .ok (.iadd, 1) := by decide +kernel
theorem dX1_readBracket_24 : decode cX1_readBracket 24 = .ok (.putfield 27, 3) := by decide +kernel
theorem dX1_readBracket_27 : decode cX1_readBracket 27 = .ok (.aload_n 0, 1) := by decide +kernel
theorem dX1_readBracket_28 : decode cX1_readBracket 28 = .ok (.iload_n 1, 1) := by decide +kernel
theorem dX1_readBracket_29 : decode cX1_readBracket 29 = .ok (.iconst 1, 1) := by decide +kernel
theorem dX1_readBracket_30 : decode cX1_readBracket 30 = .ok (.iadd, 1) := by decide +kernel
theorem dX1_readBracket_31 : decode cX1_readBracket 31 = .ok (.invokevirtual 84, 3) := by decide +kernel
theorem dX1_readBracket_34 : decode cX1_readBracket 34 = .ok (.istore_n 2, 1) := by decide +kernel
theorem dX1_readBracket_35 : decode cX1_readBracket 35 = .ok (.iload_n 2, 1) := by decide +kernel
theorem dX1_readBracket_36 : decode cX1_readBracket 36 = .ok (.iconst (-1), 1) := by decide +kernel
theorem dX1_readBracket_37 : decode cX1_readBracket 37 = .ok (.if_icmp .eq 12, 3) := by decide +kernel
theorem dX1_readBracket_40 : decode cX1_readBracket 40 = .ok (.aload_n 0, 1) := by decide +kernel
theorem dX1_readBracket_41 : decode cX1_readBracket 41 = .ok (.invokevirtual 38, 3) := by decide +kernel
theorem dX1_readBracket_44 : decode cX1_readBracket 44 = .ok (.bipush 41, 2) := by decide +kernel
theorem dX1_readBracket_46 : decode cX1_readBracket 46 = .ok (.if_icmp .eq 5, 3) := by decide +kernel
theorem dX1_readBracket_49 : decode cX1_readBracket 49 = .ok (.iconst (-1), 1) := by decide +kernel
theorem dX1_readBracket_50 : decode cX1_readBracket 50 = .ok (.ireturn, 1) := by decide +kernel
theorem dX1_readBracket_51 : decode cX1_readBracket 51 = .ok (.aload_n 0, 1) := by decide +kernel
theorem dX1_readBracket_52 : decode cX1_readBracket 52 = .ok (.dup, 1) := by decide +kernel
theorem dX1_readBracket_53 : decode cX1_readBracket 53 = .ok (.getfield 27, 3) := by decide +kernel
theorem dX1_readBracket_56 : decode cX1_readBracket 56 = .ok (.iconst 1, 1) := by decide +kernel
theorem dX1_readBracket_57 : decode cX1_readBracket 57 = .ok (.iadd, 1) := by decide +kernel
theorem dX1_readBracket_58 : decode cX1_readBracket 58 = .ok (.putfield 27, 3) := by decide +kernel
theorem dX1_readBracket_61 : decode cX1_readBracket 61 = .ok (.iload_n 2, 1) := by decide +kernel
theorem dX1_readBracket_62 : decode cX1_readBracket 62 = .ok (.ireturn, 1) := by decide +kernel
def fX1_readBracket (rs : Int32 → Wd → (Nat → Int32) → Option (Int32 × Wd × (Nat → Int32))) (n : Nat) (x1 : Int32) (w : Wd) (v : Nat → Int32) : Option (Int32 × Wd × (Nat → Int32)) :=
    (fX1_current n w v).bind fun z1 =>
    if z1 = 40 then
      if x1 < 6 then
        (ez_fV v 1 ((v 1) + 1)).bind fun v6 =>
        (rs (x1 + 1) w v6).bind fun z7 =>
        if z7.1 = (-1) then
          some ((-1), z7.2.1, z7.2.2)
        else
          (fX1_current n z7.2.1 z7.2.2).bind fun z10 =>
          if z10 = 41 then
            (ez_fV z7.2.2 1 ((z7.2.2 1) + 1)).bind fun v14 =>
            some (z7.1, z7.2.1, v14)
          else
            some ((-1), z7.2.1, z7.2.2)
      else
        some ((-1), w, v)
    else
      some ((-1), w, v)
set_option maxHeartbeats 4000000 in
set_option maxRecDepth 100000 in
theorem tX1_readBracket_0 {p : Program} {l : Launch} {e : Env} {s : State} {m : MethodId} {args : Array Value} {below : List Frame} {meth : Method} {c : Code} {A : Nat → Prop} {D : va_G} {a : Nat → Nat} {k : Nat → ClassId} {b : Nat} {z : Int32 × Wd × (Nat → Int32)} (rs : Int32 → Wd → (Nat → Int32) → Option (Int32 × Wd × (Nat → Int32))) (F G : Nat) (hF : 6 ≤ F) (hG : 260 ≤ G) (hrs : ∀ (x1 : Int32) (w : Wd) (v : Nat → Int32) (z : Int32 × Wd × (Nat → Int32)), rs x1 w v = some z → ∀ sz : Nat, Met l yX1_readSum wsX1_readSum ({ frames := F, cells := 0, slots := 0, locals := G } : Room) (ez_Pc D (tC k) [.ref b, .int x1] (wR b a k w v) sz) (ez_Qi D (tC k) (va_A (wR b a k w v) sz) z.1 (wR b a k z.2.1 z.2.2)) 0 0 (va_A (wR b a k w v) sz)) (C0 : ez_C p s m args meth c cX1_readBracket (some .int) 3 RX1 A) (hK : va_K D vwCl (tC k) s) : ∀ (n : Nat) (H : Heap) (locs : List Loc) (ls : Array Slot) (x1 : Int32) (w : Wd) (v : Nat → Int32), lv_has ls 3 [(0, .ref b), (1, .int x1)] → va_P D vwCl (wR b a k w v) H → va_D A (wR b a k w v) → va_S A s.heap H locs → fX1_readBracket rs n x1 w v = some z → W p l e ({ frames := F + 1, cells := 0, slots := 0, locals := G + 25 } : Room) s m args below meth c H locs 0 0 (MQ below (ez_Qi D (tC k) A z.1 (wR b a k z.2.1 z.2.2)) args s 0 0 A) (F0 m 0 ls []) := by
  intro n
  intro H locs ls x1 w v hl hP hD hS h
  rw [fX1_readBracket] at h
  have C1 := C0
  obtain ⟨hx, hb, hr, hml, hown, hw, hlk, hA, hN⟩ := C1
  refine lv_aload_n (pc := 0) hx hb dX1_readBracket_0 rfl (lv_at hl 0 rfl) ?_
  replace h := ez_bd h
  obtain ⟨z1, e2, h⟩ := h
  refine ez_croI (r := z1) (pc := 1) (va_runV (g := F0 m 1 ls [.ref b]) (As := []) (rest := []) ⟨hx, hb, hml, hown, hw⟩ (kX1_current l D a k b n w v z1 e2) (cwV 0 hw (ez_gV mw172 mw174 mp4 mw5 mw175) rfl rfl rfl (by decide +kernel) ⟨by show (0) + 1 ≤ F + 1; omega, by show 8 + (1 + 11) + (0) ≤ G + 25; omega⟩) (ez_preRV (wr := []) (wl := (wR b a k w v)) hP hK hN 0 rfl rfl) rfl rfl hl.1 rfl (lv_room (Nat.le_of_ble_eq_true rfl)) dX1_readBracket_1 ⟨Nat.le_refl _, Nat.le_refl _⟩) ?_
  refine lv_bipush (v := 40) (pc := 4) hx hb dX1_readBracket_4 rfl ?_
  refine lv_icmp_ne (pc := 6) (tgt := 15) hx hb dX1_readBracket_6 (by decide) (fun c3 => ?_) (fun c3 => ?_)
  · replace h := ez_if c3 h
    refine lv_iconst (v := (-1)) (pc := 15) hx hb dX1_readBracket_15 rfl ?_
    obtain rfl := ez_r1 h
    exact ez_retI C0 hP hD hK hS dX1_readBracket_16
  · replace h := ez_it c3 h
    refine lv_iload_n (pc := 9) hx hb dX1_readBracket_9 rfl (lv_at hl 1 rfl) ?_
    refine lv_bipush (v := 6) (pc := 10) hx hb dX1_readBracket_10 rfl ?_
    refine lv_icmp_lt (pc := 12) (tgt := 17) hx hb dX1_readBracket_12 (by decide) (fun c4 => ?_) (fun c4 => ?_)
    · replace h := ez_it c4 h
      refine lv_aload_n (pc := 17) hx hb dX1_readBracket_17 rfl (lv_at hl 0 rfl) ?_
      refine lv_dup (pc := 18) hx hb dX1_readBracket_18 rfl ?_
      refine va_get (D := D) (pc := 19) hx hb hw inX1 hown hK hP 0 rfl rfl 4 (by decide) (hw _ mw145) (fun _ h9 => h9) rfl dX1_readBracket_19 ?_
      refine lv_iconst (v := 1) (pc := 22) hx hb dX1_readBracket_22 rfl ?_
      refine lv_iadd (pc := 23) hx hb dX1_readBracket_23 ?_
      replace h := ez_bd h
      obtain ⟨v6, e5, h⟩ := h
      refine va_put (D := D) (v := .int ((v 1) + 1)) (ty := .int) (pc := 24) hx hb hw inX1 tyX1 tyX1_ok nmX1 hown hK hP hD hS 0 rfl rfl 4 (by decide) (hw _ mw145) (fun _ h9 => h9) rfl (by decide +kernel) rfl rfl (Nat.le_of_ble_eq_true rfl) dX1_readBracket_24 (fun H locs hP hD hS => ?_)
      replace hP : va_P D vwCl (wR b a k w v6) H := by rw [(ez_fVs e5)]; exact hP
      replace hD : va_D A (wR b a k w v6) := by rw [(ez_fVs e5)]; exact hD
      refine lv_aload_n (pc := 27) hx hb dX1_readBracket_27 rfl (lv_at hl 0 rfl) ?_
      refine lv_iload_n (pc := 28) hx hb dX1_readBracket_28 rfl (lv_at hl 1 rfl) ?_
      refine lv_iconst (v := 1) (pc := 29) hx hb dX1_readBracket_29 rfl ?_
      refine lv_iadd (pc := 30) hx hb dX1_readBracket_30 ?_
      replace h := ez_bd h
      obtain ⟨z7, e8, h⟩ := h
      refine ez_callI (r := z7.1) (pc := 31) (wr := []) (wl := (wR b a k w v6)) (wl' := (wR b a k z7.2.1 z7.2.2)) (va_runV (g := F0 m 31 ls [.int (x1 + 1), .ref b]) (As := [.int (x1 + 1)]) (rest := []) ⟨hx, hb, hml, hown, hw⟩ (hrs (x1 + 1) w v6 z7 e8 H.size) (cwV 1 hw (ez_gV mw202 mw161 mw162 mw5 mw163) rfl rfl rfl (by decide +kernel) ⟨by show (F) + 1 ≤ F + 1; omega, by show 8 + (6 + 11) + (G) ≤ G + 25; omega⟩) (ez_preV (wr := []) (wl := (wR b a k w v6)) hP hD hK hN 0 rfl rfl) rfl rfl hl.1 rfl (lv_room (Nat.le_of_ble_eq_true rfl)) dX1_readBracket_31 ⟨Nat.le_refl _, Nat.le_refl _⟩) hP hD hS hA (fun H locs hP hD hS => ?_)
      replace hP : va_P D vwCl (wR b a k z7.2.1 z7.2.2) H := hP
      replace hD : va_D A (wR b a k z7.2.1 z7.2.2) := hD
      refine lv_istore_n (pc := 34) hx hb dX1_readBracket_34 rfl hl (by decide) rfl (fun ls hl => ?_)
      replace hl : lv_has ls 3 [(2, .int z7.1), (0, .ref b), (1, .int x1)] := hl
      refine lv_iload_n (pc := 35) hx hb dX1_readBracket_35 rfl (lv_at hl 0 rfl) ?_
      refine lv_iconst (v := (-1)) (pc := 36) hx hb dX1_readBracket_36 rfl ?_
      refine lv_icmp_eq (pc := 37) (tgt := 49) hx hb dX1_readBracket_37 (by decide) (fun c9 => ?_) (fun c9 => ?_)
      · replace h := ez_it c9 h
        refine lv_iconst (v := (-1)) (pc := 49) hx hb dX1_readBracket_49 rfl ?_
        obtain rfl := ez_r1 h
        exact ez_retI C0 hP hD hK hS dX1_readBracket_50
      · replace h := ez_if c9 h
        refine lv_aload_n (pc := 40) hx hb dX1_readBracket_40 rfl (lv_at hl 1 rfl) ?_
        replace h := ez_bd h
        obtain ⟨z10, e11, h⟩ := h
        refine ez_croI (r := z10) (pc := 41) (va_runV (g := F0 m 41 ls [.ref b]) (As := []) (rest := []) ⟨hx, hb, hml, hown, hw⟩ (kX1_current l D a k b n z7.2.1 z7.2.2 z10 e11) (cwV 0 hw (ez_gV mw172 mw174 mp4 mw5 mw175) rfl rfl rfl (by decide +kernel) ⟨by show (0) + 1 ≤ F + 1; omega, by show 8 + (1 + 11) + (0) ≤ G + 25; omega⟩) (ez_preRV (wr := []) (wl := (wR b a k z7.2.1 z7.2.2)) hP hK hN 0 rfl rfl) rfl rfl hl.1 rfl (lv_room (Nat.le_of_ble_eq_true rfl)) dX1_readBracket_41 ⟨Nat.le_refl _, Nat.le_refl _⟩) ?_
        refine lv_bipush (v := 41) (pc := 44) hx hb dX1_readBracket_44 rfl ?_
        refine lv_icmp_eq (pc := 46) (tgt := 51) hx hb dX1_readBracket_46 (by decide) (fun c12 => ?_) (fun c12 => ?_)
        · replace h := ez_it c12 h
          refine lv_aload_n (pc := 51) hx hb dX1_readBracket_51 rfl (lv_at hl 1 rfl) ?_
          refine lv_dup (pc := 52) hx hb dX1_readBracket_52 rfl ?_
          refine va_get (D := D) (pc := 53) hx hb hw inX1 hown hK hP 0 rfl rfl 4 (by decide) (hw _ mw145) (fun _ h9 => h9) rfl dX1_readBracket_53 ?_
          refine lv_iconst (v := 1) (pc := 56) hx hb dX1_readBracket_56 rfl ?_
          refine lv_iadd (pc := 57) hx hb dX1_readBracket_57 ?_
          replace h := ez_bd h
          obtain ⟨v14, e13, h⟩ := h
          refine va_put (D := D) (v := .int ((z7.2.2 1) + 1)) (ty := .int) (pc := 58) hx hb hw inX1 tyX1 tyX1_ok nmX1 hown hK hP hD hS 0 rfl rfl 4 (by decide) (hw _ mw145) (fun _ h9 => h9) rfl (by decide +kernel) rfl rfl (Nat.le_of_ble_eq_true rfl) dX1_readBracket_58 (fun H locs hP hD hS => ?_)
          replace hP : va_P D vwCl (wR b a k z7.2.1 v14) H := by rw [(ez_fVs e13)]; exact hP
          replace hD : va_D A (wR b a k z7.2.1 v14) := by rw [(ez_fVs e13)]; exact hD
          refine lv_iload_n (pc := 61) hx hb dX1_readBracket_61 rfl (lv_at hl 0 rfl) ?_
          obtain rfl := ez_r1 h
          exact ez_retI C0 hP hD hK hS dX1_readBracket_62
        · replace h := ez_if c12 h
          refine lv_iconst (v := (-1)) (pc := 49) hx hb dX1_readBracket_49 rfl ?_
          obtain rfl := ez_r1 h
          exact ez_retI C0 hP hD hK hS dX1_readBracket_50
    · replace h := ez_if c4 h
      refine lv_iconst (v := (-1)) (pc := 15) hx hb dX1_readBracket_15 rfl ?_
      obtain rfl := ez_r1 h
      exact ez_retI C0 hP hD hK hS dX1_readBracket_16
set_option maxRecDepth 100000 in
theorem kX1_readBracket (l : Launch) (D : va_G) (a : Nat → Nat) (k : Nat → ClassId) (b : Nat) (rs : Int32 → Wd → (Nat → Int32) → Option (Int32 × Wd × (Nat → Int32))) (F G : Nat) (hF : 6 ≤ F) (hG : 260 ≤ G) (hrs : ∀ (x1 : Int32) (w : Wd) (v : Nat → Int32) (z : Int32 × Wd × (Nat → Int32)), rs x1 w v = some z → ∀ sz : Nat, Met l yX1_readSum wsX1_readSum ({ frames := F, cells := 0, slots := 0, locals := G } : Room) (ez_Pc D (tC k) [.ref b, .int x1] (wR b a k w v) sz) (ez_Qi D (tC k) (va_A (wR b a k w v) sz) z.1 (wR b a k z.2.1 z.2.2)) 0 0 (va_A (wR b a k w v) sz)) (n : Nat) (x1 : Int32) (w : Wd) (v : Nat → Int32) (z : Int32 × Wd × (Nat → Int32)) (h : fX1_readBracket rs n x1 w v = some z) (sz : Nat) : Met l yX1_readBracket wsX1_readBracket ({ frames := F + 1, cells := 0, slots := 0, locals := G + 25 } : Room) (ez_Pc D (tC k) [.ref b, .int x1] (wR b a k w v) sz) (ez_Qi D (tC k) (va_A (wR b a k w v) sz) z.1 (wR b a k z.2.1 z.2.2)) 0 0 (va_A (wR b a k w v) sz) :=
  ez_mk (Qf := fun A => (ez_Qi D (tC k) A z.1 (wR b a k z.2.1 z.2.2))) (by decide) rfl (Nat.le_of_ble_eq_true rfl) (fun p e s m below meth c A ls C0 _ hl hP hD hK => tX1_readBracket_0 rs F G hF hG hrs C0 hK n s.heap [] ls x1 w v (lv_sub (l := [(0, .ref b), (1, .int x1)]) hl [0, 1] rfl) hP hD va_S.rf h) sz
/-! EnclosureCalculator$Reader readAtom -/
theorem dX1_readAtom_0 : decode cX1_readAtom 0 = .ok (.aload_n 0, 1) := by decide +kernel
theorem dX1_readAtom_1 : decode cX1_readAtom 1 = .ok (.invokevirtual 38, 3) := by decide +kernel
theorem dX1_readAtom_4 : decode cX1_readAtom 4 = .ok (.istore_n 2, 1) := by decide +kernel
theorem dX1_readAtom_5 : decode cX1_readAtom 5 = .ok (.iload_n 2, 1) := by decide +kernel
theorem dX1_readAtom_6 : decode cX1_readAtom 6 = .ok (.invokestatic 64, 3) := by decide +kernel
theorem dX1_readAtom_9 : decode cX1_readAtom 9 = .ok (.ifCond .eq 8, 3) := by decide +kernel
theorem dX1_readAtom_12 : decode cX1_readAtom 12 = .ok (.aload_n 0, 1) := by decide +kernel
theorem dX1_readAtom_13 : decode cX1_readAtom 13 = .ok (.invokevirtual 68, 3) := by decide +kernel
theorem dX1_readAtom_16 : decode cX1_readAtom 16 = .ok (.ireturn, 1) := by decide +kernel
theorem dX1_readAtom_17 : decode cX1_readAtom 17 = .ok (.iload_n 2, 1) := by decide +kernel
theorem dX1_readAtom_18 : decode cX1_readAtom 18 = .ok (.invokestatic 72, 3) := by decide +kernel
theorem dX1_readAtom_21 : decode cX1_readAtom 21 = .ok (.ifCond .eq 8, 3) := by decide +kernel
theorem dX1_readAtom_24 : decode cX1_readAtom 24 = .ok (.aload_n 0, 1) := by decide +kernel
theorem dX1_readAtom_25 : decode cX1_readAtom 25 = .ok (.invokevirtual 75, 3) := by decide +kernel
theorem dX1_readAtom_28 : decode cX1_readAtom 28 = .ok (.ireturn, 1) := by decide +kernel
theorem dX1_readAtom_29 : decode cX1_readAtom 29 = .ok (.iload_n 2, 1) := by decide +kernel
theorem dX1_readAtom_30 : decode cX1_readAtom 30 = .ok (.bipush 114, 2) := by decide +kernel
theorem dX1_readAtom_32 : decode cX1_readAtom 32 = .ok (.if_icmp .eq 9, 3) := by decide +kernel
theorem dX1_readAtom_35 : decode cX1_readAtom 35 = .ok (.aload_n 0, 1) := by decide +kernel
theorem dX1_readAtom_36 : decode cX1_readAtom 36 = .ok (.iload_n 1, 1) := by decide +kernel
theorem dX1_readAtom_37 : decode cX1_readAtom 37 = .ok (.invokevirtual 78, 3) := by decide +kernel
theorem dX1_readAtom_40 : decode cX1_readAtom 40 = .ok (.ireturn, 1) := by decide +kernel
theorem dX1_readAtom_41 : decode cX1_readAtom 41 = .ok (.aload_n 0, 1) := by decide +kernel
theorem dX1_readAtom_42 : decode cX1_readAtom 42 = .ok (.dup, 1) := by decide +kernel
theorem dX1_readAtom_43 : decode cX1_readAtom 43 = .ok (.getfield 27, 3) := by decide +kernel
theorem dX1_readAtom_46 : decode cX1_readAtom 46 = .ok (.iconst 1, 1) := by decide +kernel
theorem dX1_readAtom_47 : decode cX1_readAtom 47 = .ok (.iadd, 1) := by decide +kernel
theorem dX1_readAtom_48 : decode cX1_readAtom 48 = .ok (.putfield 27, 3) := by decide +kernel
theorem dX1_readAtom_51 : decode cX1_readAtom 51 = .ok (.aload_n 0, 1) := by decide +kernel
theorem dX1_readAtom_52 : decode cX1_readAtom 52 = .ok (.iload_n 1, 1) := by decide +kernel
theorem dX1_readAtom_53 : decode cX1_readAtom 53 = .ok (.invokevirtual 78, 3) := by decide +kernel
theorem dX1_readAtom_56 : decode cX1_readAtom 56 = .ok (.istore_n 3, 1) := by decide +kernel
theorem dX1_readAtom_57 : decode cX1_readAtom 57 = .ok (.iload_n 3, 1) := by decide +kernel
theorem dX1_readAtom_58 : decode cX1_readAtom 58 = .ok (.iconst (-1), 1) := by decide +kernel
theorem dX1_readAtom_59 : decode cX1_readAtom 59 = .ok (.if_icmp .ne 7, 3) := by decide +kernel
theorem dX1_readAtom_62 : decode cX1_readAtom 62 = .ok (.iconst (-1), 1) := by decide +kernel
theorem dX1_readAtom_63 : decode cX1_readAtom 63 = .ok (.goto 13, 3) := by decide +kernel
theorem dX1_readAtom_66 : decode cX1_readAtom 66 = .ok (.aload_n 0, 1) := by decide +kernel
theorem dX1_readAtom_67 : decode cX1_readAtom 67 = .ok (.getfield 23, 3) := by decide +kernel
theorem dX1_readAtom_70 : decode cX1_readAtom 70 = .ok (.bipush 7, 2) := by decide +kernel
theorem dX1_readAtom_72 : decode cX1_readAtom 72 = .ok (.iload_n 3, 1) := by decide +kernel
theorem dX1_readAtom_73 : decode cX1_readAtom 73 = .ok (.invokevirtual 60, 3) := by decide +kernel
theorem dX1_readAtom_76 : decode cX1_readAtom 76 = .ok (.ireturn, 1) := by decide +kernel
def fX1_readAtom (rs : Int32 → Wd → (Nat → Int32) → Option (Int32 × Wd × (Nat → Int32))) (n : Nat) (x1 : Int32) (w : Wd) (v : Nat → Int32) : Option (Int32 × Wd × (Nat → Int32)) :=
    (fX1_current n w v).bind fun z1 =>
    (fX3_isDigit n z1).bind fun z3 =>
    if z3 = 0 then
      (fX3_isLetter n z1).bind fun z6 =>
      if z6 = 0 then
        if z1 = 114 then
          (ez_fV v 1 ((v 1) + 1)).bind fun v11 =>
          (fX1_readBracket rs n x1 w v11).bind fun z12 =>
          if z12.1 = (-1) then
            some ((-1), z12.2.1, z12.2.2)
          else
            (fX0_makeOfOne n 7 z12.1 z12.2.1).bind fun z15 =>
            some (z15.1, z15.2, z12.2.2)
        else
          (fX1_readBracket rs n x1 w v).bind fun z17 =>
          some (z17.1, z17.2.1, z17.2.2)
      else
        (fX1_readLetter n w v).bind fun z19 =>
        some (z19.1, z19.2.1, z19.2.2)
    else
      (fX1_readNumber n w v).bind fun z21 =>
      some (z21.1, z21.2.1, z21.2.2)
set_option maxHeartbeats 4000000 in
set_option maxRecDepth 100000 in
theorem tX1_readAtom_0 {p : Program} {l : Launch} {e : Env} {s : State} {m : MethodId} {args : Array Value} {below : List Frame} {meth : Method} {c : Code} {A : Nat → Prop} {D : va_G} {a : Nat → Nat} {k : Nat → ClassId} {b : Nat} {z : Int32 × Wd × (Nat → Int32)} (rs : Int32 → Wd → (Nat → Int32) → Option (Int32 × Wd × (Nat → Int32))) (F G : Nat) (hF : 6 ≤ F) (hG : 260 ≤ G) (hrs : ∀ (x1 : Int32) (w : Wd) (v : Nat → Int32) (z : Int32 × Wd × (Nat → Int32)), rs x1 w v = some z → ∀ sz : Nat, Met l yX1_readSum wsX1_readSum ({ frames := F, cells := 0, slots := 0, locals := G } : Room) (ez_Pc D (tC k) [.ref b, .int x1] (wR b a k w v) sz) (ez_Qi D (tC k) (va_A (wR b a k w v) sz) z.1 (wR b a k z.2.1 z.2.2)) 0 0 (va_A (wR b a k w v) sz)) (C0 : ez_C p s m args meth c cX1_readAtom (some .int) 4 RX1 A) (hK : va_K D vwCl (tC k) s) : ∀ (n : Nat) (H : Heap) (locs : List Loc) (ls : Array Slot) (x1 : Int32) (w : Wd) (v : Nat → Int32), lv_has ls 4 [(0, .ref b), (1, .int x1)] → va_P D vwCl (wR b a k w v) H → va_D A (wR b a k w v) → va_S A s.heap H locs → fX1_readAtom rs n x1 w v = some z → W p l e ({ frames := F + 2, cells := 0, slots := 0, locals := G + 47 } : Room) s m args below meth c H locs 0 0 (MQ below (ez_Qi D (tC k) A z.1 (wR b a k z.2.1 z.2.2)) args s 0 0 A) (F0 m 0 ls []) := by
  intro n
  intro H locs ls x1 w v hl hP hD hS h
  rw [fX1_readAtom] at h
  have C1 := C0
  obtain ⟨hx, hb, hr, hml, hown, hw, hlk, hA, hN⟩ := C1
  refine lv_aload_n (pc := 0) hx hb dX1_readAtom_0 rfl (lv_at hl 0 rfl) ?_
  replace h := ez_bd h
  obtain ⟨z1, e2, h⟩ := h
  refine ez_croI (r := z1) (pc := 1) (va_runV (g := F0 m 1 ls [.ref b]) (As := []) (rest := []) ⟨hx, hb, hml, hown, hw⟩ (kX1_current l D a k b n w v z1 e2) (cwV 0 hw (ez_gV mw172 mw174 mp4 mw5 mw175) rfl rfl rfl (by decide +kernel) ⟨by show (0) + 1 ≤ F + 2; omega, by show 8 + (1 + 11) + (0) ≤ G + 47; omega⟩) (ez_preRV (wr := []) (wl := (wR b a k w v)) hP hK hN 0 rfl rfl) rfl rfl hl.1 rfl (lv_room (Nat.le_of_ble_eq_true rfl)) dX1_readAtom_1 ⟨Nat.le_refl _, Nat.le_refl _⟩) ?_
  refine lv_istore_n (pc := 4) hx hb dX1_readAtom_4 rfl hl (by decide) rfl (fun ls hl => ?_)
  replace hl : lv_has ls 4 [(2, .int z1), (0, .ref b), (1, .int x1)] := hl
  refine lv_iload_n (pc := 5) hx hb dX1_readAtom_5 rfl (lv_at hl 0 rfl) ?_
  replace h := ez_bd h
  obtain ⟨z3, e4, h⟩ := h
  refine ez_croI (r := z3) (pc := 6) (va_runSN (g := F0 m 6 ls [.int z1]) (As := [.int z1]) (rest := []) ⟨hx, hb, hml, hown, hw⟩ (kX3_isDigit l n z1 z3 e4) ⟨va_cnB 1 hw (ez_gN mw112) rfl rfl rfl (ez_N.n3 hN) (hw _ mw1) (by decide +kernel) ⟨by show (0) + 1 ≤ F + 2; omega, by show 8 + (1 + 11) + (0) ≤ G + 47; omega⟩, hw _ mw111, trivial⟩ (ez_preRS hN) rfl rfl hl.1 rfl (lv_room (Nat.le_of_ble_eq_true rfl)) dX1_readAtom_6 ⟨Nat.le_refl _, Nat.le_refl _⟩) ?_
  refine lv_if_eq (pc := 9) (tgt := 17) hx hb dX1_readAtom_9 (by decide) (fun c5 => ?_) (fun c5 => ?_)
  · replace h := ez_it c5 h
    refine lv_iload_n (pc := 17) hx hb dX1_readAtom_17 rfl (lv_at hl 0 rfl) ?_
    replace h := ez_bd h
    obtain ⟨z6, e7, h⟩ := h
    refine ez_croI (r := z6) (pc := 18) (va_runSN (g := F0 m 18 ls [.int z1]) (As := [.int z1]) (rest := []) ⟨hx, hb, hml, hown, hw⟩ (kX3_isLetter l n z1 z6 e7) ⟨va_cnB 1 hw (ez_gN mw115) rfl rfl rfl (ez_N.n4 hN) (hw _ mw1) (by decide +kernel) ⟨by show (0) + 1 ≤ F + 2; omega, by show 8 + (1 + 11) + (0) ≤ G + 47; omega⟩, hw _ mw114, trivial⟩ (ez_preRS hN) rfl rfl hl.1 rfl (lv_room (Nat.le_of_ble_eq_true rfl)) dX1_readAtom_18 ⟨Nat.le_refl _, Nat.le_refl _⟩) ?_
    refine lv_if_eq (pc := 21) (tgt := 29) hx hb dX1_readAtom_21 (by decide) (fun c8 => ?_) (fun c8 => ?_)
    · replace h := ez_it c8 h
      refine lv_iload_n (pc := 29) hx hb dX1_readAtom_29 rfl (lv_at hl 0 rfl) ?_
      refine lv_bipush (v := 114) (pc := 30) hx hb dX1_readAtom_30 rfl ?_
      refine lv_icmp_eq (pc := 32) (tgt := 41) hx hb dX1_readAtom_32 (by decide) (fun c9 => ?_) (fun c9 => ?_)
      · replace h := ez_it c9 h
        refine lv_aload_n (pc := 41) hx hb dX1_readAtom_41 rfl (lv_at hl 1 rfl) ?_
        refine lv_dup (pc := 42) hx hb dX1_readAtom_42 rfl ?_
        refine va_get (D := D) (pc := 43) hx hb hw inX1 hown hK hP 0 rfl rfl 4 (by decide) (hw _ mw145) (fun _ h9 => h9) rfl dX1_readAtom_43 ?_
        refine lv_iconst (v := 1) (pc := 46) hx hb dX1_readAtom_46 rfl ?_
        refine lv_iadd (pc := 47) hx hb dX1_readAtom_47 ?_
        replace h := ez_bd h
        obtain ⟨v11, e10, h⟩ := h
        refine va_put (D := D) (v := .int ((v 1) + 1)) (ty := .int) (pc := 48) hx hb hw inX1 tyX1 tyX1_ok nmX1 hown hK hP hD hS 0 rfl rfl 4 (by decide) (hw _ mw145) (fun _ h9 => h9) rfl (by decide +kernel) rfl rfl (Nat.le_of_ble_eq_true rfl) dX1_readAtom_48 (fun H locs hP hD hS => ?_)
        replace hP : va_P D vwCl (wR b a k w v11) H := by rw [(ez_fVs e10)]; exact hP
        replace hD : va_D A (wR b a k w v11) := by rw [(ez_fVs e10)]; exact hD
        refine lv_aload_n (pc := 51) hx hb dX1_readAtom_51 rfl (lv_at hl 1 rfl) ?_
        refine lv_iload_n (pc := 52) hx hb dX1_readAtom_52 rfl (lv_at hl 2 rfl) ?_
        replace h := ez_bd h
        obtain ⟨z12, e13, h⟩ := h
        refine ez_callI (r := z12.1) (pc := 53) (wr := []) (wl := (wR b a k w v11)) (wl' := (wR b a k z12.2.1 z12.2.2)) (va_runV (g := F0 m 53 ls [.int x1, .ref b]) (As := [.int x1]) (rest := []) ⟨hx, hb, hml, hown, hw⟩ (kX1_readBracket l D a k b rs F G hF hG hrs n x1 w v11 z12 e13 H.size) (cwV 1 hw (ez_gV mw198 mw200 mp9 mw5 mw201) rfl rfl rfl (by decide +kernel) ⟨by show (F + 1) + 1 ≤ F + 2; omega, by show 8 + (3 + 11) + (G + 25) ≤ G + 47; omega⟩) (ez_preV (wr := []) (wl := (wR b a k w v11)) hP hD hK hN 0 rfl rfl) rfl rfl hl.1 rfl (lv_room (Nat.le_of_ble_eq_true rfl)) dX1_readAtom_53 ⟨Nat.le_refl _, Nat.le_refl _⟩) hP hD hS hA (fun H locs hP hD hS => ?_)
        replace hP : va_P D vwCl (wR b a k z12.2.1 z12.2.2) H := hP
        replace hD : va_D A (wR b a k z12.2.1 z12.2.2) := hD
        refine lv_istore_n (pc := 56) hx hb dX1_readAtom_56 rfl hl (by decide) rfl (fun ls hl => ?_)
        replace hl : lv_has ls 4 [(3, .int z12.1), (2, .int z1), (0, .ref b), (1, .int x1)] := hl
        refine lv_iload_n (pc := 57) hx hb dX1_readAtom_57 rfl (lv_at hl 0 rfl) ?_
        refine lv_iconst (v := (-1)) (pc := 58) hx hb dX1_readAtom_58 rfl ?_
        refine lv_icmp_ne (pc := 59) (tgt := 66) hx hb dX1_readAtom_59 (by decide) (fun c14 => ?_) (fun c14 => ?_)
        · replace h := ez_if c14 h
          refine lv_aload_n (pc := 66) hx hb dX1_readAtom_66 rfl (lv_at hl 2 rfl) ?_
          refine va_get (D := D) (pc := 67) hx hb hw inX1 hown hK hP 0 rfl rfl 3 (by decide) (hw _ mw144) (fun _ h9 => h9) rfl dX1_readAtom_67 ?_
          refine lv_bipush (v := 7) (pc := 70) hx hb dX1_readAtom_70 rfl ?_
          refine lv_iload_n (pc := 72) hx hb dX1_readAtom_72 rfl (lv_at hl 0 rfl) ?_
          replace h := ez_bd h
          obtain ⟨z15, e16, h⟩ := h
          refine ez_callI (r := z15.1) (pc := 73) (wr := (rdc b a z12.2.2)) (wl := (wC a k z12.2.1)) (wl' := (wC a k z15.2)) (va_runV (g := F0 m 73 ls [.int z12.1, .int 7, .ref (a 2)]) (As := [.int 7, .int z12.1]) (rest := []) ⟨hx, hb, hml, hown, hw⟩ (kX0_makeOfOne l D a k n 7 z12.1 z12.2.1 z15 e16 H.size) (cwV 2 hw (ez_gV mw203 mw204 mw205 mw2 mw206) rfl rfl rfl (by decide +kernel) ⟨by show (1) + 1 ≤ F + 2; omega, by show 8 + (3 + 11) + (25) ≤ G + 47; omega⟩) (ez_preV (wr := (rdc b a z12.2.2)) (wl := (wC a k z12.2.1)) hP hD hK hN 2 rfl rfl) rfl rfl hl.1 rfl (lv_room (Nat.le_of_ble_eq_true rfl)) dX1_readAtom_73 ⟨Nat.le_refl _, Nat.le_refl _⟩) hP hD hS hA (fun H locs hP hD hS => ?_)
          replace hP : va_P D vwCl (wR b a k z15.2 z12.2.2) H := hP
          replace hD : va_D A (wR b a k z15.2 z12.2.2) := hD
          obtain rfl := ez_r1 h
          exact ez_retI C0 hP hD hK hS dX1_readAtom_76
        · replace h := ez_it c14 h
          refine lv_iconst (v := (-1)) (pc := 62) hx hb dX1_readAtom_62 rfl ?_
          refine lv_goto (pc := 63) (tgt := 76) hx hb dX1_readAtom_63 (by decide) ?_
          obtain rfl := ez_r1 h
          exact ez_retI C0 hP hD hK hS dX1_readAtom_76
      · replace h := ez_if c9 h
        refine lv_aload_n (pc := 35) hx hb dX1_readAtom_35 rfl (lv_at hl 1 rfl) ?_
        refine lv_iload_n (pc := 36) hx hb dX1_readAtom_36 rfl (lv_at hl 2 rfl) ?_
        replace h := ez_bd h
        obtain ⟨z17, e18, h⟩ := h
        refine ez_callI (r := z17.1) (pc := 37) (wr := []) (wl := (wR b a k w v)) (wl' := (wR b a k z17.2.1 z17.2.2)) (va_runV (g := F0 m 37 ls [.int x1, .ref b]) (As := [.int x1]) (rest := []) ⟨hx, hb, hml, hown, hw⟩ (kX1_readBracket l D a k b rs F G hF hG hrs n x1 w v z17 e18 H.size) (cwV 1 hw (ez_gV mw198 mw200 mp9 mw5 mw201) rfl rfl rfl (by decide +kernel) ⟨by show (F + 1) + 1 ≤ F + 2; omega, by show 8 + (3 + 11) + (G + 25) ≤ G + 47; omega⟩) (ez_preV (wr := []) (wl := (wR b a k w v)) hP hD hK hN 0 rfl rfl) rfl rfl hl.1 rfl (lv_room (Nat.le_of_ble_eq_true rfl)) dX1_readAtom_37 ⟨Nat.le_refl _, Nat.le_refl _⟩) hP hD hS hA (fun H locs hP hD hS => ?_)
        replace hP : va_P D vwCl (wR b a k z17.2.1 z17.2.2) H := hP
        replace hD : va_D A (wR b a k z17.2.1 z17.2.2) := hD
        obtain rfl := ez_r1 h
        exact ez_retI C0 hP hD hK hS dX1_readAtom_40
    · replace h := ez_if c8 h
      refine lv_aload_n (pc := 24) hx hb dX1_readAtom_24 rfl (lv_at hl 1 rfl) ?_
      replace h := ez_bd h
      obtain ⟨z19, e20, h⟩ := h
      refine ez_callI (r := z19.1) (pc := 25) (wr := []) (wl := (wR b a k w v)) (wl' := (wR b a k z19.2.1 z19.2.2)) (va_runV (g := F0 m 25 ls [.ref b]) (As := []) (rest := []) ⟨hx, hb, hml, hown, hw⟩ (kX1_readLetter l D a k b n w v z19 e20 H.size) (cwV 0 hw (ez_gV mw194 mw196 mp8 mw5 mw197) rfl rfl rfl (by decide +kernel) ⟨by show (1) + 1 ≤ F + 2; omega, by show 8 + (3 + 11) + (20) ≤ G + 47; omega⟩) (ez_preV (wr := []) (wl := (wR b a k w v)) hP hD hK hN 0 rfl rfl) rfl rfl hl.1 rfl (lv_room (Nat.le_of_ble_eq_true rfl)) dX1_readAtom_25 ⟨Nat.le_refl _, Nat.le_refl _⟩) hP hD hS hA (fun H locs hP hD hS => ?_)
      replace hP : va_P D vwCl (wR b a k z19.2.1 z19.2.2) H := hP
      replace hD : va_D A (wR b a k z19.2.1 z19.2.2) := hD
      obtain rfl := ez_r1 h
      exact ez_retI C0 hP hD hK hS dX1_readAtom_28
  · replace h := ez_if c5 h
    refine lv_aload_n (pc := 12) hx hb dX1_readAtom_12 rfl (lv_at hl 1 rfl) ?_
    replace h := ez_bd h
    obtain ⟨z21, e22, h⟩ := h
    refine ez_callI (r := z21.1) (pc := 13) (wr := []) (wl := (wR b a k w v)) (wl' := (wR b a k z21.2.1 z21.2.2)) (va_runV (g := F0 m 13 ls [.ref b]) (As := []) (rest := []) ⟨hx, hb, hml, hown, hw⟩ (kX1_readNumber l D a k b n w v z21 e22 H.size) (cwV 0 hw (ez_gV mw181 mw183 mp6 mw5 mw184) rfl rfl rfl (by decide +kernel) ⟨by show (2) + 1 ≤ F + 2; omega, by show 8 + (3 + 11) + (46) ≤ G + 47; omega⟩) (ez_preV (wr := []) (wl := (wR b a k w v)) hP hD hK hN 0 rfl rfl) rfl rfl hl.1 rfl (lv_room (Nat.le_of_ble_eq_true rfl)) dX1_readAtom_13 ⟨Nat.le_refl _, Nat.le_refl _⟩) hP hD hS hA (fun H locs hP hD hS => ?_)
    replace hP : va_P D vwCl (wR b a k z21.2.1 z21.2.2) H := hP
    replace hD : va_D A (wR b a k z21.2.1 z21.2.2) := hD
    obtain rfl := ez_r1 h
    exact ez_retI C0 hP hD hK hS dX1_readAtom_16
set_option maxRecDepth 100000 in
theorem kX1_readAtom (l : Launch) (D : va_G) (a : Nat → Nat) (k : Nat → ClassId) (b : Nat) (rs : Int32 → Wd → (Nat → Int32) → Option (Int32 × Wd × (Nat → Int32))) (F G : Nat) (hF : 6 ≤ F) (hG : 260 ≤ G) (hrs : ∀ (x1 : Int32) (w : Wd) (v : Nat → Int32) (z : Int32 × Wd × (Nat → Int32)), rs x1 w v = some z → ∀ sz : Nat, Met l yX1_readSum wsX1_readSum ({ frames := F, cells := 0, slots := 0, locals := G } : Room) (ez_Pc D (tC k) [.ref b, .int x1] (wR b a k w v) sz) (ez_Qi D (tC k) (va_A (wR b a k w v) sz) z.1 (wR b a k z.2.1 z.2.2)) 0 0 (va_A (wR b a k w v) sz)) (n : Nat) (x1 : Int32) (w : Wd) (v : Nat → Int32) (z : Int32 × Wd × (Nat → Int32)) (h : fX1_readAtom rs n x1 w v = some z) (sz : Nat) : Met l yX1_readAtom wsX1_readAtom ({ frames := F + 2, cells := 0, slots := 0, locals := G + 47 } : Room) (ez_Pc D (tC k) [.ref b, .int x1] (wR b a k w v) sz) (ez_Qi D (tC k) (va_A (wR b a k w v) sz) z.1 (wR b a k z.2.1 z.2.2)) 0 0 (va_A (wR b a k w v) sz) :=
  ez_mk (Qf := fun A => (ez_Qi D (tC k) A z.1 (wR b a k z.2.1 z.2.2))) (by decide) rfl (Nat.le_of_ble_eq_true rfl) (fun p e s m below meth c A ls C0 _ hl hP hD hK => tX1_readAtom_0 rs F G hF hG hrs C0 hK n s.heap [] ls x1 w v (lv_sub (l := [(0, .ref b), (1, .int x1)]) hl [0, 1] rfl) hP hD va_S.rf h) sz
/-! EnclosureCalculator$Reader readFactor -/
theorem dX1_readFactor_0 : decode cX1_readFactor 0 = .ok (.iconst 0, 1) := by decide +kernel
theorem dX1_readFactor_1 : decode cX1_readFactor 1 = .ok (.istore_n 2, 1) := by decide +kernel
theorem dX1_readFactor_2 : decode cX1_readFactor 2 = .ok (.iload_n 2, 1) := by decide +kernel
theorem dX1_readFactor_3 : decode cX1_readFactor 3 = .ok (.bipush 20, 2) := by decide +kernel
theorem dX1_readFactor_5 : decode cX1_readFactor 5 = .ok (.if_icmp .ge 28, 3) := by decide +kernel
theorem dX1_readFactor_8 : decode cX1_readFactor 8 = .ok (.aload_n 0, 1) := by decide +kernel
theorem dX1_readFactor_9 : decode cX1_readFactor 9 = .ok (.invokevirtual 38, 3) := by decide +kernel
theorem dX1_readFactor_12 : decode cX1_readFactor 12 = .ok (.bipush 45, 2) := by decide +kernel
theorem dX1_readFactor_14 : decode cX1_readFactor 14 = .ok (.if_icmp .ne 19, 3) := by decide +kernel
theorem dX1_readFactor_17 : decode cX1_readFactor 17 = .ok (.aload_n 0, 1) := by decide +kernel
theorem dX1_readFactor_18 : decode cX1_readFactor 18 = .ok (.dup, 1) := by decide +kernel
theorem dX1_readFactor_19 : decode cX1_readFactor 19 = .ok (.getfield 27, 3) := by decide +kernel
theorem dX1_readFactor_22 : decode cX1_readFactor 22 = .ok (.iconst 1, 1) := by decide +kernel
theorem dX1_readFactor_23 : decode cX1_readFactor 23 = .ok (.iadd, 1) := by decide +kernel
theorem dX1_readFactor_24 : decode cX1_readFactor 24 = .ok (.putfield 27, 3) := by decide +kernel
theorem dX1_readFactor_27 : decode cX1_readFactor 27 = .ok (.iinc 2 1, 3) := by decide +kernel
theorem dX1_readFactor_30 : decode cX1_readFactor 30 = .ok (.goto (-28), 3) := by decide +kernel
theorem dX1_readFactor_33 : decode cX1_readFactor 33 = .ok (.aload_n 0, 1) := by decide +kernel
theorem dX1_readFactor_34 : decode cX1_readFactor 34 = .ok (.iload_n 1, 1) := by decide +kernel
theorem dX1_readFactor_35 : decode cX1_readFactor 35 = .ok (.invokevirtual 54, 3) := by decide +kernel
theorem dX1_readFactor_38 : decode cX1_readFactor 38 = .ok (.istore_n 3, 1) := by decide +kernel
theorem dX1_readFactor_39 : decode cX1_readFactor 39 = .ok (.iload_n 3, 1) := by decide +kernel
theorem dX1_readFactor_40 : decode cX1_readFactor 40 = .ok (.iconst (-1), 1) := by decide +kernel
theorem dX1_readFactor_41 : decode cX1_readFactor 41 = .ok (.if_icmp .eq 28, 3) := by decide +kernel
theorem dX1_readFactor_44 : decode cX1_readFactor 44 = .ok (.aload_n 0, 1) := by decide +kernel
theorem dX1_readFactor_45 : decode cX1_readFactor 45 = .ok (.invokevirtual 38, 3) := by decide +kernel
theorem dX1_readFactor_48 : decode cX1_readFactor 48 = .ok (.bipush 94, 2) := by decide +kernel
theorem dX1_readFactor_50 : decode cX1_readFactor 50 = .ok (.if_icmp .ne 19, 3) := by decide +kernel
theorem dX1_readFactor_53 : decode cX1_readFactor 53 = .ok (.aload_n 0, 1) := by decide +kernel
theorem dX1_readFactor_54 : decode cX1_readFactor 54 = .ok (.dup, 1) := by decide +kernel
theorem dX1_readFactor_55 : decode cX1_readFactor 55 = .ok (.getfield 27, 3) := by decide +kernel
theorem dX1_readFactor_58 : decode cX1_readFactor 58 = .ok (.iconst 1, 1) := by decide +kernel
theorem dX1_readFactor_59 : decode cX1_readFactor 59 = .ok (.iadd, 1) := by decide +kernel
theorem dX1_readFactor_60 : decode cX1_readFactor 60 = .ok (.putfield 27, 3) := by decide +kernel
theorem dX1_readFactor_63 : decode cX1_readFactor 63 = .ok (.aload_n 0, 1) := by decide +kernel
theorem dX1_readFactor_64 : decode cX1_readFactor 64 = .ok (.iload_n 3, 1) := by decide +kernel
theorem dX1_readFactor_65 : decode cX1_readFactor 65 = .ok (.invokevirtual 57, 3) := by decide +kernel
theorem dX1_readFactor_68 : decode cX1_readFactor 68 = .ok (.istore_n 3, 1) := by decide +kernel
theorem dX1_readFactor_69 : decode cX1_readFactor 69 = .ok (.iconst 0, 1) := by decide +kernel
theorem dX1_readFactor_70 : decode cX1_readFactor 70 = .ok (.istore 4, 2) := by decide +kernel
theorem dX1_readFactor_72 : decode cX1_readFactor 72 = .ok (.iload 4, 2) := by decide +kernel
theorem dX1_readFactor_74 : decode cX1_readFactor 74 = .ok (.iload_n 2, 1) := by decide +kernel
theorem dX1_readFactor_75 : decode cX1_readFactor 75 = .ok (.if_icmp .ge 24, 3) := by decide +kernel
theorem dX1_readFactor_78 : decode cX1_readFactor 78 = .ok (.iload_n 3, 1) := by decide +kernel
theorem dX1_readFactor_79 : decode cX1_readFactor 79 = .ok (.iconst (-1), 1) := by decide +kernel
theorem dX1_readFactor_80 : decode cX1_readFactor 80 = .ok (.if_icmp .eq 19, 3) := by decide +kernel
theorem dX1_readFactor_83 : decode cX1_readFactor 83 = .ok (.aload_n 0, 1) := by decide +kernel
theorem dX1_readFactor_84 : decode cX1_readFactor 84 = .ok (.getfield 23, 3) := by decide +kernel
theorem dX1_readFactor_87 : decode cX1_readFactor 87 = .ok (.iconst 1, 1) := by decide +kernel
theorem dX1_readFactor_88 : decode cX1_readFactor 88 = .ok (.iload_n 3, 1) := by decide +kernel
theorem dX1_readFactor_89 : decode cX1_readFactor 89 = .ok (.invokevirtual 60, 3) := by decide +kernel
theorem dX1_readFactor_92 : decode cX1_readFactor 92 = .ok (.istore_n 3, 1) := by decide +kernel
theorem dX1_readFactor_93 : decode cX1_readFactor 93 = .ok (.iinc 4 1, 3) := by decide +kernel
theorem dX1_readFactor_96 : decode cX1_readFactor 96 = .ok (.goto (-24), 3) := by decide +kernel
theorem dX1_readFactor_99 : decode cX1_readFactor 99 = .ok (.iload_n 3, 1) := by decide +kernel
theorem dX1_readFactor_100 : decode cX1_readFactor 100 = .ok (.ireturn, 1) := by decide +kernel
def fX1_readFactor_72 (rs : Int32 → Wd → (Nat → Int32) → Option (Int32 × Wd × (Nat → Int32))) : Nat → Int32 → Int32 → Int32 → Wd → (Nat → Int32) → Option (Int32 × Wd × (Nat → Int32))
  | 0, _, _, _, _, _ => none
  | n + 1, x2, x3, x4, w, v =>
    if x2 ≤ x4 then
      some (x3, w, v)
    else
      if x3 = (-1) then
        some (x3, w, v)
      else
        (fX0_makeOfOne n 1 x3 w).bind fun z3 =>
        fX1_readFactor_72 rs n x2 z3.1 (x4 + 1) z3.2 v
def fX1_readFactor_33 (rs : Int32 → Wd → (Nat → Int32) → Option (Int32 × Wd × (Nat → Int32))) (n : Nat) (x1 : Int32) (x2 : Int32) (w : Wd) (v : Nat → Int32) : Option (Int32 × Wd × (Nat → Int32)) :=
    (fX1_readAtom rs n x1 w v).bind fun z1 =>
    if z1.1 = (-1) then
      fX1_readFactor_72 rs n x2 z1.1 0 z1.2.1 z1.2.2
    else
      (fX1_current n z1.2.1 z1.2.2).bind fun z4 =>
      if z4 = 94 then
        (ez_fV z1.2.2 1 ((z1.2.2 1) + 1)).bind fun v8 =>
        (fX1_readPower n z1.1 z1.2.1 v8).bind fun z9 =>
        fX1_readFactor_72 rs n x2 z9.1 0 z9.2.1 z9.2.2
      else
        fX1_readFactor_72 rs n x2 z1.1 0 z1.2.1 z1.2.2
def fX1_readFactor_2 (rs : Int32 → Wd → (Nat → Int32) → Option (Int32 × Wd × (Nat → Int32))) : Nat → Int32 → Int32 → Wd → (Nat → Int32) → Option (Int32 × Wd × (Nat → Int32))
  | 0, _, _, _, _ => none
  | n + 1, x1, x2, w, v =>
    if 20 ≤ x2 then
      fX1_readFactor_33 rs n x1 x2 w v
    else
      (fX1_current n w v).bind fun z2 =>
      if z2 = 45 then
        (ez_fV v 1 ((v 1) + 1)).bind fun v6 =>
        fX1_readFactor_2 rs n x1 (x2 + 1) w v6
      else
        fX1_readFactor_33 rs n x1 x2 w v
def fX1_readFactor (rs : Int32 → Wd → (Nat → Int32) → Option (Int32 × Wd × (Nat → Int32))) (n : Nat) (x1 : Int32) (w : Wd) (v : Nat → Int32) : Option (Int32 × Wd × (Nat → Int32)) :=
    fX1_readFactor_2 rs n x1 0 w v
set_option maxHeartbeats 4000000 in
set_option maxRecDepth 100000 in
theorem tX1_readFactor_72 {p : Program} {l : Launch} {e : Env} {s : State} {m : MethodId} {args : Array Value} {below : List Frame} {meth : Method} {c : Code} {A : Nat → Prop} {D : va_G} {a : Nat → Nat} {k : Nat → ClassId} {b : Nat} {z : Int32 × Wd × (Nat → Int32)} (rs : Int32 → Wd → (Nat → Int32) → Option (Int32 × Wd × (Nat → Int32))) (F G : Nat) (hF : 6 ≤ F) (hG : 260 ≤ G) (hrs : ∀ (x1 : Int32) (w : Wd) (v : Nat → Int32) (z : Int32 × Wd × (Nat → Int32)), rs x1 w v = some z → ∀ sz : Nat, Met l yX1_readSum wsX1_readSum ({ frames := F, cells := 0, slots := 0, locals := G } : Room) (ez_Pc D (tC k) [.ref b, .int x1] (wR b a k w v) sz) (ez_Qi D (tC k) (va_A (wR b a k w v) sz) z.1 (wR b a k z.2.1 z.2.2)) 0 0 (va_A (wR b a k w v) sz)) (C0 : ez_C p s m args meth c cX1_readFactor (some .int) 5 RX1 A) (hK : va_K D vwCl (tC k) s) : ∀ (n : Nat) (H : Heap) (locs : List Loc) (ls : Array Slot) (x2 : Int32) (x3 : Int32) (x4 : Int32) (w : Wd) (v : Nat → Int32), lv_has ls 5 [(0, .ref b), (2, .int x2), (3, .int x3), (4, .int x4)] → va_P D vwCl (wR b a k w v) H → va_D A (wR b a k w v) → va_S A s.heap H locs → fX1_readFactor_72 rs n x2 x3 x4 w v = some z → W p l e ({ frames := F + 3, cells := 0, slots := 0, locals := G + 70 } : Room) s m args below meth c H locs 0 0 (MQ below (ez_Qi D (tC k) A z.1 (wR b a k z.2.1 z.2.2)) args s 0 0 A) (F0 m 72 ls []) := by
  intro n
  induction n with
  | zero =>
    intro H locs ls x2 x3 x4 w v hl hP hD hS h
    rw [fX1_readFactor_72] at h
    cases h
  | succ n ih =>
    intro H locs ls x2 x3 x4 w v hl hP hD hS h
    rw [fX1_readFactor_72] at h
    have C1 := C0
    obtain ⟨hx, hb, hr, hml, hown, hw, hlk, hA, hN⟩ := C1
    refine lv_iload (pc := 72) hx hb dX1_readFactor_72 (lv_at hl 3 rfl) ?_
    refine lv_iload_n (pc := 74) hx hb dX1_readFactor_74 rfl (lv_at hl 1 rfl) ?_
    refine lv_icmp_ge (pc := 75) (tgt := 99) hx hb dX1_readFactor_75 (by decide) (fun c1 => ?_) (fun c1 => ?_)
    · replace h := ez_it c1 h
      refine lv_iload_n (pc := 99) hx hb dX1_readFactor_99 rfl (lv_at hl 2 rfl) ?_
      obtain rfl := ez_r1 h
      exact ez_retI C0 hP hD hK hS dX1_readFactor_100
    · replace h := ez_if c1 h
      refine lv_iload_n (pc := 78) hx hb dX1_readFactor_78 rfl (lv_at hl 2 rfl) ?_
      refine lv_iconst (v := (-1)) (pc := 79) hx hb dX1_readFactor_79 rfl ?_
      refine lv_icmp_eq (pc := 80) (tgt := 99) hx hb dX1_readFactor_80 (by decide) (fun c2 => ?_) (fun c2 => ?_)
      · replace h := ez_it c2 h
        refine lv_iload_n (pc := 99) hx hb dX1_readFactor_99 rfl (lv_at hl 2 rfl) ?_
        obtain rfl := ez_r1 h
        exact ez_retI C0 hP hD hK hS dX1_readFactor_100
      · replace h := ez_if c2 h
        refine lv_aload_n (pc := 83) hx hb dX1_readFactor_83 rfl (lv_at hl 0 rfl) ?_
        refine va_get (D := D) (pc := 84) hx hb hw inX1 hown hK hP 0 rfl rfl 3 (by decide) (hw _ mw144) (fun _ h9 => h9) rfl dX1_readFactor_84 ?_
        refine lv_iconst (v := 1) (pc := 87) hx hb dX1_readFactor_87 rfl ?_
        refine lv_iload_n (pc := 88) hx hb dX1_readFactor_88 rfl (lv_at hl 2 rfl) ?_
        replace h := ez_bd h
        obtain ⟨z3, e4, h⟩ := h
        refine ez_callI (r := z3.1) (pc := 89) (wr := (rdc b a v)) (wl := (wC a k w)) (wl' := (wC a k z3.2)) (va_runV (g := F0 m 89 ls [.int x3, .int 1, .ref (a 2)]) (As := [.int 1, .int x3]) (rest := []) ⟨hx, hb, hml, hown, hw⟩ (kX0_makeOfOne l D a k n 1 x3 w z3 e4 H.size) (cwV 2 hw (ez_gV mw203 mw204 mw205 mw2 mw206) rfl rfl rfl (by decide +kernel) ⟨by show (1) + 1 ≤ F + 3; omega, by show 8 + (3 + 11) + (25) ≤ G + 70; omega⟩) (ez_preV (wr := (rdc b a v)) (wl := (wC a k w)) hP hD hK hN 2 rfl rfl) rfl rfl hl.1 rfl (lv_room (Nat.le_of_ble_eq_true rfl)) dX1_readFactor_89 ⟨Nat.le_refl _, Nat.le_refl _⟩) hP hD hS hA (fun H locs hP hD hS => ?_)
        replace hP : va_P D vwCl (wR b a k z3.2 v) H := hP
        replace hD : va_D A (wR b a k z3.2 v) := hD
        refine lv_istore_n (pc := 92) hx hb dX1_readFactor_92 rfl hl (by decide) rfl (fun ls hl => ?_)
        replace hl : lv_has ls 5 [(3, .int z3.1), (0, .ref b), (2, .int x2), (4, .int x4)] := hl
        refine lv_iinc (v := (x4 + 1)) (k := 3) (pc := 93) hx hb dX1_readFactor_93 hl rfl rfl (by decide) rfl (fun ls hl => ?_)
        replace hl : lv_has ls 5 [(4, .int (x4 + 1)), (3, .int z3.1), (0, .ref b), (2, .int x2)] := hl
        refine lv_goto (pc := 96) (tgt := 72) hx hb dX1_readFactor_96 (by decide) ?_
        exact ih _ _ _ x2 z3.1 (x4 + 1) z3.2 v (lv_sub hl [2, 3, 1, 0] rfl) hP hD hS h
set_option maxHeartbeats 4000000 in
set_option maxRecDepth 100000 in
theorem tX1_readFactor_33 {p : Program} {l : Launch} {e : Env} {s : State} {m : MethodId} {args : Array Value} {below : List Frame} {meth : Method} {c : Code} {A : Nat → Prop} {D : va_G} {a : Nat → Nat} {k : Nat → ClassId} {b : Nat} {z : Int32 × Wd × (Nat → Int32)} (rs : Int32 → Wd → (Nat → Int32) → Option (Int32 × Wd × (Nat → Int32))) (F G : Nat) (hF : 6 ≤ F) (hG : 260 ≤ G) (hrs : ∀ (x1 : Int32) (w : Wd) (v : Nat → Int32) (z : Int32 × Wd × (Nat → Int32)), rs x1 w v = some z → ∀ sz : Nat, Met l yX1_readSum wsX1_readSum ({ frames := F, cells := 0, slots := 0, locals := G } : Room) (ez_Pc D (tC k) [.ref b, .int x1] (wR b a k w v) sz) (ez_Qi D (tC k) (va_A (wR b a k w v) sz) z.1 (wR b a k z.2.1 z.2.2)) 0 0 (va_A (wR b a k w v) sz)) (C0 : ez_C p s m args meth c cX1_readFactor (some .int) 5 RX1 A) (hK : va_K D vwCl (tC k) s) : ∀ (n : Nat) (H : Heap) (locs : List Loc) (ls : Array Slot) (x1 : Int32) (x2 : Int32) (w : Wd) (v : Nat → Int32), lv_has ls 5 [(0, .ref b), (1, .int x1), (2, .int x2)] → va_P D vwCl (wR b a k w v) H → va_D A (wR b a k w v) → va_S A s.heap H locs → fX1_readFactor_33 rs n x1 x2 w v = some z → W p l e ({ frames := F + 3, cells := 0, slots := 0, locals := G + 70 } : Room) s m args below meth c H locs 0 0 (MQ below (ez_Qi D (tC k) A z.1 (wR b a k z.2.1 z.2.2)) args s 0 0 A) (F0 m 33 ls []) := by
  intro n
  intro H locs ls x1 x2 w v hl hP hD hS h
  rw [fX1_readFactor_33] at h
  have C1 := C0
  obtain ⟨hx, hb, hr, hml, hown, hw, hlk, hA, hN⟩ := C1
  refine lv_aload_n (pc := 33) hx hb dX1_readFactor_33 rfl (lv_at hl 0 rfl) ?_
  refine lv_iload_n (pc := 34) hx hb dX1_readFactor_34 rfl (lv_at hl 1 rfl) ?_
  replace h := ez_bd h
  obtain ⟨z1, e2, h⟩ := h
  refine ez_callI (r := z1.1) (pc := 35) (wr := []) (wl := (wR b a k w v)) (wl' := (wR b a k z1.2.1 z1.2.2)) (va_runV (g := F0 m 35 ls [.int x1, .ref b]) (As := [.int x1]) (rest := []) ⟨hx, hb, hml, hown, hw⟩ (kX1_readAtom l D a k b rs F G hF hG hrs n x1 w v z1 e2 H.size) (cwV 1 hw (ez_gV mw176 mw178 mp5 mw5 mw179) rfl rfl rfl (by decide +kernel) ⟨by show (F + 2) + 1 ≤ F + 3; omega, by show 8 + (4 + 11) + (G + 47) ≤ G + 70; omega⟩) (ez_preV (wr := []) (wl := (wR b a k w v)) hP hD hK hN 0 rfl rfl) rfl rfl hl.1 rfl (lv_room (Nat.le_of_ble_eq_true rfl)) dX1_readFactor_35 ⟨Nat.le_refl _, Nat.le_refl _⟩) hP hD hS hA (fun H locs hP hD hS => ?_)
  replace hP : va_P D vwCl (wR b a k z1.2.1 z1.2.2) H := hP
  replace hD : va_D A (wR b a k z1.2.1 z1.2.2) := hD
  refine lv_istore_n (pc := 38) hx hb dX1_readFactor_38 rfl hl (by decide) rfl (fun ls hl => ?_)
  replace hl : lv_has ls 5 [(3, .int z1.1), (0, .ref b), (1, .int x1), (2, .int x2)] := hl
  refine lv_iload_n (pc := 39) hx hb dX1_readFactor_39 rfl (lv_at hl 0 rfl) ?_
  refine lv_iconst (v := (-1)) (pc := 40) hx hb dX1_readFactor_40 rfl ?_
  refine lv_icmp_eq (pc := 41) (tgt := 69) hx hb dX1_readFactor_41 (by decide) (fun c3 => ?_) (fun c3 => ?_)
  · replace h := ez_it c3 h
    refine lv_iconst (v := 0) (pc := 69) hx hb dX1_readFactor_69 rfl ?_
    refine lv_istore (pc := 70) hx hb dX1_readFactor_70 hl (by decide) rfl (fun ls hl => ?_)
    replace hl : lv_has ls 5 [(4, .int 0), (3, .int z1.1), (0, .ref b), (1, .int x1), (2, .int x2)] := hl
    exact tX1_readFactor_72 rs F G hF hG hrs C0 hK  n _ _ _ x2 z1.1 0 z1.2.1 z1.2.2 (lv_sub hl [2, 4, 1, 0] rfl) hP hD hS h
  · replace h := ez_if c3 h
    refine lv_aload_n (pc := 44) hx hb dX1_readFactor_44 rfl (lv_at hl 1 rfl) ?_
    replace h := ez_bd h
    obtain ⟨z4, e5, h⟩ := h
    refine ez_croI (r := z4) (pc := 45) (va_runV (g := F0 m 45 ls [.ref b]) (As := []) (rest := []) ⟨hx, hb, hml, hown, hw⟩ (kX1_current l D a k b n z1.2.1 z1.2.2 z4 e5) (cwV 0 hw (ez_gV mw172 mw174 mp4 mw5 mw175) rfl rfl rfl (by decide +kernel) ⟨by show (0) + 1 ≤ F + 3; omega, by show 8 + (1 + 11) + (0) ≤ G + 70; omega⟩) (ez_preRV (wr := []) (wl := (wR b a k z1.2.1 z1.2.2)) hP hK hN 0 rfl rfl) rfl rfl hl.1 rfl (lv_room (Nat.le_of_ble_eq_true rfl)) dX1_readFactor_45 ⟨Nat.le_refl _, Nat.le_refl _⟩) ?_
    refine lv_bipush (v := 94) (pc := 48) hx hb dX1_readFactor_48 rfl ?_
    refine lv_icmp_ne (pc := 50) (tgt := 69) hx hb dX1_readFactor_50 (by decide) (fun c6 => ?_) (fun c6 => ?_)
    · replace h := ez_if c6 h
      refine lv_iconst (v := 0) (pc := 69) hx hb dX1_readFactor_69 rfl ?_
      refine lv_istore (pc := 70) hx hb dX1_readFactor_70 hl (by decide) rfl (fun ls hl => ?_)
      replace hl : lv_has ls 5 [(4, .int 0), (3, .int z1.1), (0, .ref b), (1, .int x1), (2, .int x2)] := hl
      exact tX1_readFactor_72 rs F G hF hG hrs C0 hK  n _ _ _ x2 z1.1 0 z1.2.1 z1.2.2 (lv_sub hl [2, 4, 1, 0] rfl) hP hD hS h
    · replace h := ez_it c6 h
      refine lv_aload_n (pc := 53) hx hb dX1_readFactor_53 rfl (lv_at hl 1 rfl) ?_
      refine lv_dup (pc := 54) hx hb dX1_readFactor_54 rfl ?_
      refine va_get (D := D) (pc := 55) hx hb hw inX1 hown hK hP 0 rfl rfl 4 (by decide) (hw _ mw145) (fun _ h9 => h9) rfl dX1_readFactor_55 ?_
      refine lv_iconst (v := 1) (pc := 58) hx hb dX1_readFactor_58 rfl ?_
      refine lv_iadd (pc := 59) hx hb dX1_readFactor_59 ?_
      replace h := ez_bd h
      obtain ⟨v8, e7, h⟩ := h
      refine va_put (D := D) (v := .int ((z1.2.2 1) + 1)) (ty := .int) (pc := 60) hx hb hw inX1 tyX1 tyX1_ok nmX1 hown hK hP hD hS 0 rfl rfl 4 (by decide) (hw _ mw145) (fun _ h9 => h9) rfl (by decide +kernel) rfl rfl (Nat.le_of_ble_eq_true rfl) dX1_readFactor_60 (fun H locs hP hD hS => ?_)
      replace hP : va_P D vwCl (wR b a k z1.2.1 v8) H := by rw [(ez_fVs e7)]; exact hP
      replace hD : va_D A (wR b a k z1.2.1 v8) := by rw [(ez_fVs e7)]; exact hD
      refine lv_aload_n (pc := 63) hx hb dX1_readFactor_63 rfl (lv_at hl 1 rfl) ?_
      refine lv_iload_n (pc := 64) hx hb dX1_readFactor_64 rfl (lv_at hl 0 rfl) ?_
      replace h := ez_bd h
      obtain ⟨z9, e10, h⟩ := h
      refine ez_callI (r := z9.1) (pc := 65) (wr := []) (wl := (wR b a k z1.2.1 v8)) (wl' := (wR b a k z9.2.1 z9.2.2)) (va_runV (g := F0 m 65 ls [.int z1.1, .ref b]) (As := [.int z1.1]) (rest := []) ⟨hx, hb, hml, hown, hw⟩ (kX1_readPower l D a k b n z1.1 z1.2.1 v8 z9 e10 H.size) (cwV 1 hw (ez_gV mw207 mw209 mp10 mw5 mw210) rfl rfl rfl (by decide +kernel) ⟨by show (2) + 1 ≤ F + 3; omega, by show 8 + (5 + 11) + (48) ≤ G + 70; omega⟩) (ez_preV (wr := []) (wl := (wR b a k z1.2.1 v8)) hP hD hK hN 0 rfl rfl) rfl rfl hl.1 rfl (lv_room (Nat.le_of_ble_eq_true rfl)) dX1_readFactor_65 ⟨Nat.le_refl _, Nat.le_refl _⟩) hP hD hS hA (fun H locs hP hD hS => ?_)
      replace hP : va_P D vwCl (wR b a k z9.2.1 z9.2.2) H := hP
      replace hD : va_D A (wR b a k z9.2.1 z9.2.2) := hD
      refine lv_istore_n (pc := 68) hx hb dX1_readFactor_68 rfl hl (by decide) rfl (fun ls hl => ?_)
      replace hl : lv_has ls 5 [(3, .int z9.1), (0, .ref b), (1, .int x1), (2, .int x2)] := hl
      refine lv_iconst (v := 0) (pc := 69) hx hb dX1_readFactor_69 rfl ?_
      refine lv_istore (pc := 70) hx hb dX1_readFactor_70 hl (by decide) rfl (fun ls hl => ?_)
      replace hl : lv_has ls 5 [(4, .int 0), (3, .int z9.1), (0, .ref b), (1, .int x1), (2, .int x2)] := hl
      exact tX1_readFactor_72 rs F G hF hG hrs C0 hK  n _ _ _ x2 z9.1 0 z9.2.1 z9.2.2 (lv_sub hl [2, 4, 1, 0] rfl) hP hD hS h
set_option maxHeartbeats 4000000 in
set_option maxRecDepth 100000 in
theorem tX1_readFactor_2 {p : Program} {l : Launch} {e : Env} {s : State} {m : MethodId} {args : Array Value} {below : List Frame} {meth : Method} {c : Code} {A : Nat → Prop} {D : va_G} {a : Nat → Nat} {k : Nat → ClassId} {b : Nat} {z : Int32 × Wd × (Nat → Int32)} (rs : Int32 → Wd → (Nat → Int32) → Option (Int32 × Wd × (Nat → Int32))) (F G : Nat) (hF : 6 ≤ F) (hG : 260 ≤ G) (hrs : ∀ (x1 : Int32) (w : Wd) (v : Nat → Int32) (z : Int32 × Wd × (Nat → Int32)), rs x1 w v = some z → ∀ sz : Nat, Met l yX1_readSum wsX1_readSum ({ frames := F, cells := 0, slots := 0, locals := G } : Room) (ez_Pc D (tC k) [.ref b, .int x1] (wR b a k w v) sz) (ez_Qi D (tC k) (va_A (wR b a k w v) sz) z.1 (wR b a k z.2.1 z.2.2)) 0 0 (va_A (wR b a k w v) sz)) (C0 : ez_C p s m args meth c cX1_readFactor (some .int) 5 RX1 A) (hK : va_K D vwCl (tC k) s) : ∀ (n : Nat) (H : Heap) (locs : List Loc) (ls : Array Slot) (x1 : Int32) (x2 : Int32) (w : Wd) (v : Nat → Int32), lv_has ls 5 [(0, .ref b), (1, .int x1), (2, .int x2)] → va_P D vwCl (wR b a k w v) H → va_D A (wR b a k w v) → va_S A s.heap H locs → fX1_readFactor_2 rs n x1 x2 w v = some z → W p l e ({ frames := F + 3, cells := 0, slots := 0, locals := G + 70 } : Room) s m args below meth c H locs 0 0 (MQ below (ez_Qi D (tC k) A z.1 (wR b a k z.2.1 z.2.2)) args s 0 0 A) (F0 m 2 ls []) := by
  intro n
  induction n with
  | zero =>
    intro H locs ls x1 x2 w v hl hP hD hS h
    rw [fX1_readFactor_2] at h
    cases h
  | succ n ih =>
    intro H locs ls x1 x2 w v hl hP hD hS h
    rw [fX1_readFactor_2] at h
    have C1 := C0
    obtain ⟨hx, hb, hr, hml, hown, hw, hlk, hA, hN⟩ := C1
    refine lv_iload_n (pc := 2) hx hb dX1_readFactor_2 rfl (lv_at hl 2 rfl) ?_
    refine lv_bipush (v := 20) (pc := 3) hx hb dX1_readFactor_3 rfl ?_
    refine lv_icmp_ge (pc := 5) (tgt := 33) hx hb dX1_readFactor_5 (by decide) (fun c1 => ?_) (fun c1 => ?_)
    · replace h := ez_it c1 h
      exact tX1_readFactor_33 rs F G hF hG hrs C0 hK  n _ _ _ x1 x2 w v (lv_sub hl [0, 1, 2] rfl) hP hD hS h
    · replace h := ez_if c1 h
      refine lv_aload_n (pc := 8) hx hb dX1_readFactor_8 rfl (lv_at hl 0 rfl) ?_
      replace h := ez_bd h
      obtain ⟨z2, e3, h⟩ := h
      refine ez_croI (r := z2) (pc := 9) (va_runV (g := F0 m 9 ls [.ref b]) (As := []) (rest := []) ⟨hx, hb, hml, hown, hw⟩ (kX1_current l D a k b n w v z2 e3) (cwV 0 hw (ez_gV mw172 mw174 mp4 mw5 mw175) rfl rfl rfl (by decide +kernel) ⟨by show (0) + 1 ≤ F + 3; omega, by show 8 + (1 + 11) + (0) ≤ G + 70; omega⟩) (ez_preRV (wr := []) (wl := (wR b a k w v)) hP hK hN 0 rfl rfl) rfl rfl hl.1 rfl (lv_room (Nat.le_of_ble_eq_true rfl)) dX1_readFactor_9 ⟨Nat.le_refl _, Nat.le_refl _⟩) ?_
      refine lv_bipush (v := 45) (pc := 12) hx hb dX1_readFactor_12 rfl ?_
      refine lv_icmp_ne (pc := 14) (tgt := 33) hx hb dX1_readFactor_14 (by decide) (fun c4 => ?_) (fun c4 => ?_)
      · replace h := ez_if c4 h
        exact tX1_readFactor_33 rs F G hF hG hrs C0 hK  n _ _ _ x1 x2 w v (lv_sub hl [0, 1, 2] rfl) hP hD hS h
      · replace h := ez_it c4 h
        refine lv_aload_n (pc := 17) hx hb dX1_readFactor_17 rfl (lv_at hl 0 rfl) ?_
        refine lv_dup (pc := 18) hx hb dX1_readFactor_18 rfl ?_
        refine va_get (D := D) (pc := 19) hx hb hw inX1 hown hK hP 0 rfl rfl 4 (by decide) (hw _ mw145) (fun _ h9 => h9) rfl dX1_readFactor_19 ?_
        refine lv_iconst (v := 1) (pc := 22) hx hb dX1_readFactor_22 rfl ?_
        refine lv_iadd (pc := 23) hx hb dX1_readFactor_23 ?_
        replace h := ez_bd h
        obtain ⟨v6, e5, h⟩ := h
        refine va_put (D := D) (v := .int ((v 1) + 1)) (ty := .int) (pc := 24) hx hb hw inX1 tyX1 tyX1_ok nmX1 hown hK hP hD hS 0 rfl rfl 4 (by decide) (hw _ mw145) (fun _ h9 => h9) rfl (by decide +kernel) rfl rfl (Nat.le_of_ble_eq_true rfl) dX1_readFactor_24 (fun H locs hP hD hS => ?_)
        replace hP : va_P D vwCl (wR b a k w v6) H := by rw [(ez_fVs e5)]; exact hP
        replace hD : va_D A (wR b a k w v6) := by rw [(ez_fVs e5)]; exact hD
        refine lv_iinc (v := (x2 + 1)) (k := 2) (pc := 27) hx hb dX1_readFactor_27 hl rfl rfl (by decide) rfl (fun ls hl => ?_)
        replace hl : lv_has ls 5 [(2, .int (x2 + 1)), (0, .ref b), (1, .int x1)] := hl
        refine lv_goto (pc := 30) (tgt := 2) hx hb dX1_readFactor_30 (by decide) ?_
        exact ih _ _ _ x1 (x2 + 1) w v6 (lv_sub hl [1, 2, 0] rfl) hP hD hS h
set_option maxHeartbeats 4000000 in
set_option maxRecDepth 100000 in
theorem tX1_readFactor_0 {p : Program} {l : Launch} {e : Env} {s : State} {m : MethodId} {args : Array Value} {below : List Frame} {meth : Method} {c : Code} {A : Nat → Prop} {D : va_G} {a : Nat → Nat} {k : Nat → ClassId} {b : Nat} {z : Int32 × Wd × (Nat → Int32)} (rs : Int32 → Wd → (Nat → Int32) → Option (Int32 × Wd × (Nat → Int32))) (F G : Nat) (hF : 6 ≤ F) (hG : 260 ≤ G) (hrs : ∀ (x1 : Int32) (w : Wd) (v : Nat → Int32) (z : Int32 × Wd × (Nat → Int32)), rs x1 w v = some z → ∀ sz : Nat, Met l yX1_readSum wsX1_readSum ({ frames := F, cells := 0, slots := 0, locals := G } : Room) (ez_Pc D (tC k) [.ref b, .int x1] (wR b a k w v) sz) (ez_Qi D (tC k) (va_A (wR b a k w v) sz) z.1 (wR b a k z.2.1 z.2.2)) 0 0 (va_A (wR b a k w v) sz)) (C0 : ez_C p s m args meth c cX1_readFactor (some .int) 5 RX1 A) (hK : va_K D vwCl (tC k) s) : ∀ (n : Nat) (H : Heap) (locs : List Loc) (ls : Array Slot) (x1 : Int32) (w : Wd) (v : Nat → Int32), lv_has ls 5 [(0, .ref b), (1, .int x1)] → va_P D vwCl (wR b a k w v) H → va_D A (wR b a k w v) → va_S A s.heap H locs → fX1_readFactor rs n x1 w v = some z → W p l e ({ frames := F + 3, cells := 0, slots := 0, locals := G + 70 } : Room) s m args below meth c H locs 0 0 (MQ below (ez_Qi D (tC k) A z.1 (wR b a k z.2.1 z.2.2)) args s 0 0 A) (F0 m 0 ls []) := by
  intro n
  intro H locs ls x1 w v hl hP hD hS h
  rw [fX1_readFactor] at h
  have C1 := C0
  obtain ⟨hx, hb, hr, hml, hown, hw, hlk, hA, hN⟩ := C1
  refine lv_iconst (v := 0) (pc := 0) hx hb dX1_readFactor_0 rfl ?_
  refine lv_istore_n (pc := 1) hx hb dX1_readFactor_1 rfl hl (by decide) rfl (fun ls hl => ?_)
  replace hl : lv_has ls 5 [(2, .int 0), (0, .ref b), (1, .int x1)] := hl
  exact tX1_readFactor_2 rs F G hF hG hrs C0 hK  n _ _ _ x1 0 w v (lv_sub hl [1, 2, 0] rfl) hP hD hS h
set_option maxRecDepth 100000 in
theorem kX1_readFactor (l : Launch) (D : va_G) (a : Nat → Nat) (k : Nat → ClassId) (b : Nat) (rs : Int32 → Wd → (Nat → Int32) → Option (Int32 × Wd × (Nat → Int32))) (F G : Nat) (hF : 6 ≤ F) (hG : 260 ≤ G) (hrs : ∀ (x1 : Int32) (w : Wd) (v : Nat → Int32) (z : Int32 × Wd × (Nat → Int32)), rs x1 w v = some z → ∀ sz : Nat, Met l yX1_readSum wsX1_readSum ({ frames := F, cells := 0, slots := 0, locals := G } : Room) (ez_Pc D (tC k) [.ref b, .int x1] (wR b a k w v) sz) (ez_Qi D (tC k) (va_A (wR b a k w v) sz) z.1 (wR b a k z.2.1 z.2.2)) 0 0 (va_A (wR b a k w v) sz)) (n : Nat) (x1 : Int32) (w : Wd) (v : Nat → Int32) (z : Int32 × Wd × (Nat → Int32)) (h : fX1_readFactor rs n x1 w v = some z) (sz : Nat) : Met l yX1_readFactor wsX1_readFactor ({ frames := F + 3, cells := 0, slots := 0, locals := G + 70 } : Room) (ez_Pc D (tC k) [.ref b, .int x1] (wR b a k w v) sz) (ez_Qi D (tC k) (va_A (wR b a k w v) sz) z.1 (wR b a k z.2.1 z.2.2)) 0 0 (va_A (wR b a k w v) sz) :=
  ez_mk (Qf := fun A => (ez_Qi D (tC k) A z.1 (wR b a k z.2.1 z.2.2))) (by decide) rfl (Nat.le_of_ble_eq_true rfl) (fun p e s m below meth c A ls C0 _ hl hP hD hK => tX1_readFactor_0 rs F G hF hG hrs C0 hK n s.heap [] ls x1 w v (lv_sub (l := [(0, .ref b), (1, .int x1)]) hl [0, 1] rfl) hP hD va_S.rf h) sz
/-! EnclosureCalculator$Reader readTerm -/
theorem dX1_readTerm_0 : decode cX1_readTerm 0 = .ok (.aload_n 0, 1) := by decide +kernel
theorem dX1_readTerm_1 : decode cX1_readTerm 1 = .ok (.iload_n 1, 1) := by decide +kernel
theorem dX1_readTerm_2 : decode cX1_readTerm 2 = .ok (.invokevirtual 48, 3) := by decide +kernel
theorem dX1_readTerm_5 : decode cX1_readTerm 5 = .ok (.istore_n 2, 1) := by decide +kernel
theorem dX1_readTerm_6 : decode cX1_readTerm 6 = .ok (.iconst 0, 1) := by decide +kernel
theorem dX1_readTerm_7 : decode cX1_readTerm 7 = .ok (.istore_n 3, 1) := by decide +kernel
theorem dX1_readTerm_8 : decode cX1_readTerm 8 = .ok (.iload_n 3, 1) := by decide +kernel
theorem dX1_readTerm_9 : decode cX1_readTerm 9 = .ok (.bipush 20, 2) := by decide +kernel
theorem dX1_readTerm_11 : decode cX1_readTerm 11 = .ok (.if_icmp .ge 74, 3) := by decide +kernel
theorem dX1_readTerm_14 : decode cX1_readTerm 14 = .ok (.iload_n 2, 1) := by decide +kernel
theorem dX1_readTerm_15 : decode cX1_readTerm 15 = .ok (.iconst (-1), 1) := by decide +kernel
theorem dX1_readTerm_16 : decode cX1_readTerm 16 = .ok (.if_icmp .eq 69, 3) := by decide +kernel
theorem dX1_readTerm_19 : decode cX1_readTerm 19 = .ok (.aload_n 0, 1) := by decide +kernel
theorem dX1_readTerm_20 : decode cX1_readTerm 20 = .ok (.invokevirtual 38, 3) := by decide +kernel
theorem dX1_readTerm_23 : decode cX1_readTerm 23 = .ok (.istore 4, 2) := by decide +kernel
theorem dX1_readTerm_25 : decode cX1_readTerm 25 = .ok (.iload 4, 2) := by decide +kernel
theorem dX1_readTerm_27 : decode cX1_readTerm 27 = .ok (.bipush 42, 2) := by decide +kernel
theorem dX1_readTerm_29 : decode cX1_readTerm 29 = .ok (.if_icmp .eq 13, 3) := by decide +kernel
theorem dX1_readTerm_32 : decode cX1_readTerm 32 = .ok (.iload 4, 2) := by decide +kernel
theorem dX1_readTerm_34 : decode cX1_readTerm 34 = .ok (.bipush 47, 2) := by decide +kernel
theorem dX1_readTerm_36 : decode cX1_readTerm 36 = .ok (.if_icmp .eq 6, 3) := by decide +kernel
theorem dX1_readTerm_39 : decode cX1_readTerm 39 = .ok (.goto 46, 3) := by decide +kernel
theorem dX1_readTerm_42 : decode cX1_readTerm 42 = .ok (.aload_n 0, 1) := by decide +kernel
theorem dX1_readTerm_43 : decode cX1_readTerm 43 = .ok (.dup, 1) := by decide +kernel
theorem dX1_readTerm_44 : decode cX1_readTerm 44 = .ok (.getfield 27, 3) := by decide +kernel
theorem dX1_readTerm_47 : decode cX1_readTerm 47 = .ok (.iconst 1, 1) := by decide +kernel
theorem dX1_readTerm_48 : decode cX1_readTerm 48 = .ok (.iadd, 1) := by decide +kernel
theorem dX1_readTerm_49 : decode cX1_readTerm 49 = .ok (.putfield 27, 3) := by decide +kernel
theorem dX1_readTerm_52 : decode cX1_readTerm 52 = .ok (.aload_n 0, 1) := by decide +kernel
theorem dX1_readTerm_53 : decode cX1_readTerm 53 = .ok (.iload_n 1, 1) := by decide +kernel
theorem dX1_readTerm_54 : decode cX1_readTerm 54 = .ok (.invokevirtual 48, 3) := by decide +kernel
theorem dX1_readTerm_57 : decode cX1_readTerm 57 = .ok (.istore 5, 2) := by decide +kernel
theorem dX1_readTerm_59 : decode cX1_readTerm 59 = .ok (.aload_n 0, 1) := by decide +kernel
theorem dX1_readTerm_60 : decode cX1_readTerm 60 = .ok (.iload 4, 2) := by decide +kernel
theorem dX1_readTerm_62 : decode cX1_readTerm 62 = .ok (.bipush 42, 2) := by decide +kernel
theorem dX1_readTerm_64 : decode cX1_readTerm 64 = .ok (.if_icmp .ne 7, 3) := by decide +kernel
theorem dX1_readTerm_67 : decode cX1_readTerm 67 = .ok (.iconst 4, 1) := by decide +kernel
theorem dX1_readTerm_68 : decode cX1_readTerm 68 = .ok (.goto 4, 3) := by decide +kernel
theorem dX1_readTerm_71 : decode cX1_readTerm 71 = .ok (.iconst 5, 1) := by decide +kernel
theorem dX1_readTerm_72 : decode cX1_readTerm 72 = .ok (.iload_n 2, 1) := by decide +kernel
theorem dX1_readTerm_73 : decode cX1_readTerm 73 = .ok (.iload 5, 2) := by decide +kernel
theorem dX1_readTerm_75 : decode cX1_readTerm 75 = .ok (.invokevirtual 44, 3) := by decide +kernel
theorem dX1_readTerm_78 : decode cX1_readTerm 78 = .ok (.istore_n 2, 1) := by decide +kernel
theorem dX1_readTerm_79 : decode cX1_readTerm 79 = .ok (.iinc 3 1, 3) := by decide +kernel
theorem dX1_readTerm_82 : decode cX1_readTerm 82 = .ok (.goto (-74), 3) := by decide +kernel
theorem dX1_readTerm_85 : decode cX1_readTerm 85 = .ok (.iload_n 2, 1) := by decide +kernel
theorem dX1_readTerm_86 : decode cX1_readTerm 86 = .ok (.ireturn, 1) := by decide +kernel
def fX1_readTerm_42 (rs : Int32 → Wd → (Nat → Int32) → Option (Int32 × Wd × (Nat → Int32))) (rec8 : Int32 → Int32 → Int32 → Wd → (Nat → Int32) → Option (Int32 × Wd × (Nat → Int32))) (n : Nat) (x1 : Int32) (x2 : Int32) (x3 : Int32) (x4 : Int32) (w : Wd) (v : Nat → Int32) : Option (Int32 × Wd × (Nat → Int32)) :=
    (ez_fV v 1 ((v 1) + 1)).bind fun v2 =>
    (fX1_readFactor rs n x1 w v2).bind fun z3 =>
    if x4 = 42 then
      (fX1_join n 4 x2 z3.1 z3.2.1 z3.2.2).bind fun z8 =>
      rec8 x1 z8.1 (x3 + 1) z8.2.1 z8.2.2
    else
      (fX1_join n 5 x2 z3.1 z3.2.1 z3.2.2).bind fun z6 =>
      rec8 x1 z6.1 (x3 + 1) z6.2.1 z6.2.2
def fX1_readTerm_8 (rs : Int32 → Wd → (Nat → Int32) → Option (Int32 × Wd × (Nat → Int32))) : Nat → Int32 → Int32 → Int32 → Wd → (Nat → Int32) → Option (Int32 × Wd × (Nat → Int32))
  | 0, _, _, _, _, _ => none
  | n + 1, x1, x2, x3, w, v =>
    if 20 ≤ x3 then
      some (x2, w, v)
    else
      if x2 = (-1) then
        some (x2, w, v)
      else
        (fX1_current n w v).bind fun z3 =>
        if z3 = 42 then
          fX1_readTerm_42 rs (fX1_readTerm_8 rs n) n x1 x2 x3 z3 w v
        else
          if z3 = 47 then
            fX1_readTerm_42 rs (fX1_readTerm_8 rs n) n x1 x2 x3 z3 w v
          else
            some (x2, w, v)
def fX1_readTerm (rs : Int32 → Wd → (Nat → Int32) → Option (Int32 × Wd × (Nat → Int32))) (n : Nat) (x1 : Int32) (w : Wd) (v : Nat → Int32) : Option (Int32 × Wd × (Nat → Int32)) :=
    (fX1_readFactor rs n x1 w v).bind fun z1 =>
    fX1_readTerm_8 rs n x1 z1.1 0 z1.2.1 z1.2.2
set_option maxHeartbeats 4000000 in
set_option maxRecDepth 100000 in
theorem tX1_readTerm_42 {p : Program} {l : Launch} {e : Env} {s : State} {m : MethodId} {args : Array Value} {below : List Frame} {meth : Method} {c : Code} {A : Nat → Prop} {D : va_G} {a : Nat → Nat} {k : Nat → ClassId} {b : Nat} {z : Int32 × Wd × (Nat → Int32)} (rs : Int32 → Wd → (Nat → Int32) → Option (Int32 × Wd × (Nat → Int32))) (F G : Nat) (hF : 6 ≤ F) (hG : 260 ≤ G) (hrs : ∀ (x1 : Int32) (w : Wd) (v : Nat → Int32) (z : Int32 × Wd × (Nat → Int32)), rs x1 w v = some z → ∀ sz : Nat, Met l yX1_readSum wsX1_readSum ({ frames := F, cells := 0, slots := 0, locals := G } : Room) (ez_Pc D (tC k) [.ref b, .int x1] (wR b a k w v) sz) (ez_Qi D (tC k) (va_A (wR b a k w v) sz) z.1 (wR b a k z.2.1 z.2.2)) 0 0 (va_A (wR b a k w v) sz)) (C0 : ez_C p s m args meth c cX1_readTerm (some .int) 6 RX1 A) (hK : va_K D vwCl (tC k) s) (rec8 : Int32 → Int32 → Int32 → Wd → (Nat → Int32) → Option (Int32 × Wd × (Nat → Int32))) (hrec8 : ∀ (H : Heap) (locs : List Loc) (ls : Array Slot) (x1 : Int32) (x2 : Int32) (x3 : Int32) (w : Wd) (v : Nat → Int32), lv_has ls 6 [(0, .ref b), (1, .int x1), (2, .int x2), (3, .int x3)] → va_P D vwCl (wR b a k w v) H → va_D A (wR b a k w v) → va_S A s.heap H locs → rec8 x1 x2 x3 w v = some z → W p l e ({ frames := F + 4, cells := 0, slots := 0, locals := G + 94 } : Room) s m args below meth c H locs 0 0 (MQ below (ez_Qi D (tC k) A z.1 (wR b a k z.2.1 z.2.2)) args s 0 0 A) (F0 m 8 ls [])) : ∀ (n : Nat) (H : Heap) (locs : List Loc) (ls : Array Slot) (x1 : Int32) (x2 : Int32) (x3 : Int32) (x4 : Int32) (w : Wd) (v : Nat → Int32), lv_has ls 6 [(0, .ref b), (1, .int x1), (2, .int x2), (3, .int x3), (4, .int x4)] → va_P D vwCl (wR b a k w v) H → va_D A (wR b a k w v) → va_S A s.heap H locs → fX1_readTerm_42 rs rec8 n x1 x2 x3 x4 w v = some z → W p l e ({ frames := F + 4, cells := 0, slots := 0, locals := G + 94 } : Room) s m args below meth c H locs 0 0 (MQ below (ez_Qi D (tC k) A z.1 (wR b a k z.2.1 z.2.2)) args s 0 0 A) (F0 m 42 ls []) := by
  intro n
  intro H locs ls x1 x2 x3 x4 w v hl hP hD hS h
  rw [fX1_readTerm_42] at h
  have C1 := C0
  obtain ⟨hx, hb, hr, hml, hown, hw, hlk, hA, hN⟩ := C1
  refine lv_aload_n (pc := 42) hx hb dX1_readTerm_42 rfl (lv_at hl 0 rfl) ?_
  refine lv_dup (pc := 43) hx hb dX1_readTerm_43 rfl ?_
  refine va_get (D := D) (pc := 44) hx hb hw inX1 hown hK hP 0 rfl rfl 4 (by decide) (hw _ mw145) (fun _ h9 => h9) rfl dX1_readTerm_44 ?_
  refine lv_iconst (v := 1) (pc := 47) hx hb dX1_readTerm_47 rfl ?_
  refine lv_iadd (pc := 48) hx hb dX1_readTerm_48 ?_
  replace h := ez_bd h
  obtain ⟨v2, e1, h⟩ := h
  refine va_put (D := D) (v := .int ((v 1) + 1)) (ty := .int) (pc := 49) hx hb hw inX1 tyX1 tyX1_ok nmX1 hown hK hP hD hS 0 rfl rfl 4 (by decide) (hw _ mw145) (fun _ h9 => h9) rfl (by decide +kernel) rfl rfl (Nat.le_of_ble_eq_true rfl) dX1_readTerm_49 (fun H locs hP hD hS => ?_)
  replace hP : va_P D vwCl (wR b a k w v2) H := by rw [(ez_fVs e1)]; exact hP
  replace hD : va_D A (wR b a k w v2) := by rw [(ez_fVs e1)]; exact hD
  refine lv_aload_n (pc := 52) hx hb dX1_readTerm_52 rfl (lv_at hl 0 rfl) ?_
  refine lv_iload_n (pc := 53) hx hb dX1_readTerm_53 rfl (lv_at hl 1 rfl) ?_
  replace h := ez_bd h
  obtain ⟨z3, e4, h⟩ := h
  refine ez_callI (r := z3.1) (pc := 54) (wr := []) (wl := (wR b a k w v2)) (wl' := (wR b a k z3.2.1 z3.2.2)) (va_runV (g := F0 m 54 ls [.int x1, .ref b]) (As := [.int x1]) (rest := []) ⟨hx, hb, hml, hown, hw⟩ (kX1_readFactor l D a k b rs F G hF hG hrs n x1 w v2 z3 e4 H.size) (cwV 1 hw (ez_gV mw168 mw170 mp3 mw5 mw171) rfl rfl rfl (by decide +kernel) ⟨by show (F + 3) + 1 ≤ F + 4; omega, by show 8 + (5 + 11) + (G + 70) ≤ G + 94; omega⟩) (ez_preV (wr := []) (wl := (wR b a k w v2)) hP hD hK hN 0 rfl rfl) rfl rfl hl.1 rfl (lv_room (Nat.le_of_ble_eq_true rfl)) dX1_readTerm_54 ⟨Nat.le_refl _, Nat.le_refl _⟩) hP hD hS hA (fun H locs hP hD hS => ?_)
  replace hP : va_P D vwCl (wR b a k z3.2.1 z3.2.2) H := hP
  replace hD : va_D A (wR b a k z3.2.1 z3.2.2) := hD
  refine lv_istore (pc := 57) hx hb dX1_readTerm_57 hl (by decide) rfl (fun ls hl => ?_)
  replace hl : lv_has ls 6 [(5, .int z3.1), (0, .ref b), (1, .int x1), (2, .int x2), (3, .int x3), (4, .int x4)] := hl
  refine lv_aload_n (pc := 59) hx hb dX1_readTerm_59 rfl (lv_at hl 1 rfl) ?_
  refine lv_iload (pc := 60) hx hb dX1_readTerm_60 (lv_at hl 5 rfl) ?_
  refine lv_bipush (v := 42) (pc := 62) hx hb dX1_readTerm_62 rfl ?_
  refine lv_icmp_ne (pc := 64) (tgt := 71) hx hb dX1_readTerm_64 (by decide) (fun c5 => ?_) (fun c5 => ?_)
  · replace h := ez_if c5 h
    refine lv_iconst (v := 5) (pc := 71) hx hb dX1_readTerm_71 rfl ?_
    refine lv_iload_n (pc := 72) hx hb dX1_readTerm_72 rfl (lv_at hl 3 rfl) ?_
    refine lv_iload (pc := 73) hx hb dX1_readTerm_73 (lv_at hl 0 rfl) ?_
    replace h := ez_bd h
    obtain ⟨z6, e7, h⟩ := h
    refine ez_callI (r := z6.1) (pc := 75) (wr := []) (wl := (wR b a k z3.2.1 z3.2.2)) (wl' := (wR b a k z6.2.1 z6.2.2)) (va_runV (g := F0 m 75 ls [.int z3.1, .int x2, .int 5, .ref b]) (As := [.int 5, .int x2, .int z3.1]) (rest := []) ⟨hx, hb, hml, hown, hw⟩ (kX1_join l D a k b n 5 x2 z3.1 z3.2.1 z3.2.2 z6 e7 H.size) (cwV 3 hw (ez_gV mw215 mw217 mp11 mw5 mw218) rfl rfl rfl (by decide +kernel) ⟨by show (2) + 1 ≤ F + 4; omega, by show 8 + (4 + 11) + (48) ≤ G + 94; omega⟩) (ez_preV (wr := []) (wl := (wR b a k z3.2.1 z3.2.2)) hP hD hK hN 0 rfl rfl) rfl rfl hl.1 rfl (lv_room (Nat.le_of_ble_eq_true rfl)) dX1_readTerm_75 ⟨Nat.le_refl _, Nat.le_refl _⟩) hP hD hS hA (fun H locs hP hD hS => ?_)
    replace hP : va_P D vwCl (wR b a k z6.2.1 z6.2.2) H := hP
    replace hD : va_D A (wR b a k z6.2.1 z6.2.2) := hD
    refine lv_istore_n (pc := 78) hx hb dX1_readTerm_78 rfl hl (by decide) rfl (fun ls hl => ?_)
    replace hl : lv_has ls 6 [(2, .int z6.1), (5, .int z3.1), (0, .ref b), (1, .int x1), (3, .int x3), (4, .int x4)] := hl
    refine lv_iinc (v := (x3 + 1)) (k := 4) (pc := 79) hx hb dX1_readTerm_79 hl rfl rfl (by decide) rfl (fun ls hl => ?_)
    replace hl : lv_has ls 6 [(3, .int (x3 + 1)), (2, .int z6.1), (5, .int z3.1), (0, .ref b), (1, .int x1), (4, .int x4)] := hl
    refine lv_goto (pc := 82) (tgt := 8) hx hb dX1_readTerm_82 (by decide) ?_
    exact hrec8 _ _ _ x1 z6.1 (x3 + 1) z6.2.1 z6.2.2 (lv_sub hl [3, 4, 1, 0] rfl) hP hD hS h
  · replace h := ez_it c5 h
    refine lv_iconst (v := 4) (pc := 67) hx hb dX1_readTerm_67 rfl ?_
    refine lv_goto (pc := 68) (tgt := 72) hx hb dX1_readTerm_68 (by decide) ?_
    refine lv_iload_n (pc := 72) hx hb dX1_readTerm_72 rfl (lv_at hl 3 rfl) ?_
    refine lv_iload (pc := 73) hx hb dX1_readTerm_73 (lv_at hl 0 rfl) ?_
    replace h := ez_bd h
    obtain ⟨z8, e9, h⟩ := h
    refine ez_callI (r := z8.1) (pc := 75) (wr := []) (wl := (wR b a k z3.2.1 z3.2.2)) (wl' := (wR b a k z8.2.1 z8.2.2)) (va_runV (g := F0 m 75 ls [.int z3.1, .int x2, .int 4, .ref b]) (As := [.int 4, .int x2, .int z3.1]) (rest := []) ⟨hx, hb, hml, hown, hw⟩ (kX1_join l D a k b n 4 x2 z3.1 z3.2.1 z3.2.2 z8 e9 H.size) (cwV 3 hw (ez_gV mw215 mw217 mp11 mw5 mw218) rfl rfl rfl (by decide +kernel) ⟨by show (2) + 1 ≤ F + 4; omega, by show 8 + (4 + 11) + (48) ≤ G + 94; omega⟩) (ez_preV (wr := []) (wl := (wR b a k z3.2.1 z3.2.2)) hP hD hK hN 0 rfl rfl) rfl rfl hl.1 rfl (lv_room (Nat.le_of_ble_eq_true rfl)) dX1_readTerm_75 ⟨Nat.le_refl _, Nat.le_refl _⟩) hP hD hS hA (fun H locs hP hD hS => ?_)
    replace hP : va_P D vwCl (wR b a k z8.2.1 z8.2.2) H := hP
    replace hD : va_D A (wR b a k z8.2.1 z8.2.2) := hD
    refine lv_istore_n (pc := 78) hx hb dX1_readTerm_78 rfl hl (by decide) rfl (fun ls hl => ?_)
    replace hl : lv_has ls 6 [(2, .int z8.1), (5, .int z3.1), (0, .ref b), (1, .int x1), (3, .int x3), (4, .int x4)] := hl
    refine lv_iinc (v := (x3 + 1)) (k := 4) (pc := 79) hx hb dX1_readTerm_79 hl rfl rfl (by decide) rfl (fun ls hl => ?_)
    replace hl : lv_has ls 6 [(3, .int (x3 + 1)), (2, .int z8.1), (5, .int z3.1), (0, .ref b), (1, .int x1), (4, .int x4)] := hl
    refine lv_goto (pc := 82) (tgt := 8) hx hb dX1_readTerm_82 (by decide) ?_
    exact hrec8 _ _ _ x1 z8.1 (x3 + 1) z8.2.1 z8.2.2 (lv_sub hl [3, 4, 1, 0] rfl) hP hD hS h
set_option maxHeartbeats 4000000 in
set_option maxRecDepth 100000 in
theorem tX1_readTerm_8 {p : Program} {l : Launch} {e : Env} {s : State} {m : MethodId} {args : Array Value} {below : List Frame} {meth : Method} {c : Code} {A : Nat → Prop} {D : va_G} {a : Nat → Nat} {k : Nat → ClassId} {b : Nat} {z : Int32 × Wd × (Nat → Int32)} (rs : Int32 → Wd → (Nat → Int32) → Option (Int32 × Wd × (Nat → Int32))) (F G : Nat) (hF : 6 ≤ F) (hG : 260 ≤ G) (hrs : ∀ (x1 : Int32) (w : Wd) (v : Nat → Int32) (z : Int32 × Wd × (Nat → Int32)), rs x1 w v = some z → ∀ sz : Nat, Met l yX1_readSum wsX1_readSum ({ frames := F, cells := 0, slots := 0, locals := G } : Room) (ez_Pc D (tC k) [.ref b, .int x1] (wR b a k w v) sz) (ez_Qi D (tC k) (va_A (wR b a k w v) sz) z.1 (wR b a k z.2.1 z.2.2)) 0 0 (va_A (wR b a k w v) sz)) (C0 : ez_C p s m args meth c cX1_readTerm (some .int) 6 RX1 A) (hK : va_K D vwCl (tC k) s) : ∀ (n : Nat) (H : Heap) (locs : List Loc) (ls : Array Slot) (x1 : Int32) (x2 : Int32) (x3 : Int32) (w : Wd) (v : Nat → Int32), lv_has ls 6 [(0, .ref b), (1, .int x1), (2, .int x2), (3, .int x3)] → va_P D vwCl (wR b a k w v) H → va_D A (wR b a k w v) → va_S A s.heap H locs → fX1_readTerm_8 rs n x1 x2 x3 w v = some z → W p l e ({ frames := F + 4, cells := 0, slots := 0, locals := G + 94 } : Room) s m args below meth c H locs 0 0 (MQ below (ez_Qi D (tC k) A z.1 (wR b a k z.2.1 z.2.2)) args s 0 0 A) (F0 m 8 ls []) := by
  intro n
  induction n with
  | zero =>
    intro H locs ls x1 x2 x3 w v hl hP hD hS h
    rw [fX1_readTerm_8] at h
    cases h
  | succ n ih =>
    intro H locs ls x1 x2 x3 w v hl hP hD hS h
    rw [fX1_readTerm_8] at h
    have C1 := C0
    obtain ⟨hx, hb, hr, hml, hown, hw, hlk, hA, hN⟩ := C1
    refine lv_iload_n (pc := 8) hx hb dX1_readTerm_8 rfl (lv_at hl 3 rfl) ?_
    refine lv_bipush (v := 20) (pc := 9) hx hb dX1_readTerm_9 rfl ?_
    refine lv_icmp_ge (pc := 11) (tgt := 85) hx hb dX1_readTerm_11 (by decide) (fun c1 => ?_) (fun c1 => ?_)
    · replace h := ez_it c1 h
      refine lv_iload_n (pc := 85) hx hb dX1_readTerm_85 rfl (lv_at hl 2 rfl) ?_
      obtain rfl := ez_r1 h
      exact ez_retI C0 hP hD hK hS dX1_readTerm_86
    · replace h := ez_if c1 h
      refine lv_iload_n (pc := 14) hx hb dX1_readTerm_14 rfl (lv_at hl 2 rfl) ?_
      refine lv_iconst (v := (-1)) (pc := 15) hx hb dX1_readTerm_15 rfl ?_
      refine lv_icmp_eq (pc := 16) (tgt := 85) hx hb dX1_readTerm_16 (by decide) (fun c2 => ?_) (fun c2 => ?_)
      · replace h := ez_it c2 h
        refine lv_iload_n (pc := 85) hx hb dX1_readTerm_85 rfl (lv_at hl 2 rfl) ?_
        obtain rfl := ez_r1 h
        exact ez_retI C0 hP hD hK hS dX1_readTerm_86
      · replace h := ez_if c2 h
        refine lv_aload_n (pc := 19) hx hb dX1_readTerm_19 rfl (lv_at hl 0 rfl) ?_
        replace h := ez_bd h
        obtain ⟨z3, e4, h⟩ := h
        refine ez_croI (r := z3) (pc := 20) (va_runV (g := F0 m 20 ls [.ref b]) (As := []) (rest := []) ⟨hx, hb, hml, hown, hw⟩ (kX1_current l D a k b n w v z3 e4) (cwV 0 hw (ez_gV mw172 mw174 mp4 mw5 mw175) rfl rfl rfl (by decide +kernel) ⟨by show (0) + 1 ≤ F + 4; omega, by show 8 + (1 + 11) + (0) ≤ G + 94; omega⟩) (ez_preRV (wr := []) (wl := (wR b a k w v)) hP hK hN 0 rfl rfl) rfl rfl hl.1 rfl (lv_room (Nat.le_of_ble_eq_true rfl)) dX1_readTerm_20 ⟨Nat.le_refl _, Nat.le_refl _⟩) ?_
        refine lv_istore (pc := 23) hx hb dX1_readTerm_23 hl (by decide) rfl (fun ls hl => ?_)
        replace hl : lv_has ls 6 [(4, .int z3), (0, .ref b), (1, .int x1), (2, .int x2), (3, .int x3)] := hl
        refine lv_iload (pc := 25) hx hb dX1_readTerm_25 (lv_at hl 0 rfl) ?_
        refine lv_bipush (v := 42) (pc := 27) hx hb dX1_readTerm_27 rfl ?_
        refine lv_icmp_eq (pc := 29) (tgt := 42) hx hb dX1_readTerm_29 (by decide) (fun c5 => ?_) (fun c5 => ?_)
        · replace h := ez_it c5 h
          exact tX1_readTerm_42 rs F G hF hG hrs C0 hK (fX1_readTerm_8 rs n) ih n _ _ _ x1 x2 x3 z3 w v (lv_sub hl [1, 2, 3, 4, 0] rfl) hP hD hS h
        · replace h := ez_if c5 h
          refine lv_iload (pc := 32) hx hb dX1_readTerm_32 (lv_at hl 0 rfl) ?_
          refine lv_bipush (v := 47) (pc := 34) hx hb dX1_readTerm_34 rfl ?_
          refine lv_icmp_eq (pc := 36) (tgt := 42) hx hb dX1_readTerm_36 (by decide) (fun c6 => ?_) (fun c6 => ?_)
          · replace h := ez_it c6 h
            exact tX1_readTerm_42 rs F G hF hG hrs C0 hK (fX1_readTerm_8 rs n) ih n _ _ _ x1 x2 x3 z3 w v (lv_sub hl [1, 2, 3, 4, 0] rfl) hP hD hS h
          · replace h := ez_if c6 h
            refine lv_goto (pc := 39) (tgt := 85) hx hb dX1_readTerm_39 (by decide) ?_
            refine lv_iload_n (pc := 85) hx hb dX1_readTerm_85 rfl (lv_at hl 3 rfl) ?_
            obtain rfl := ez_r1 h
            exact ez_retI C0 hP hD hK hS dX1_readTerm_86
set_option maxHeartbeats 4000000 in
set_option maxRecDepth 100000 in
theorem tX1_readTerm_0 {p : Program} {l : Launch} {e : Env} {s : State} {m : MethodId} {args : Array Value} {below : List Frame} {meth : Method} {c : Code} {A : Nat → Prop} {D : va_G} {a : Nat → Nat} {k : Nat → ClassId} {b : Nat} {z : Int32 × Wd × (Nat → Int32)} (rs : Int32 → Wd → (Nat → Int32) → Option (Int32 × Wd × (Nat → Int32))) (F G : Nat) (hF : 6 ≤ F) (hG : 260 ≤ G) (hrs : ∀ (x1 : Int32) (w : Wd) (v : Nat → Int32) (z : Int32 × Wd × (Nat → Int32)), rs x1 w v = some z → ∀ sz : Nat, Met l yX1_readSum wsX1_readSum ({ frames := F, cells := 0, slots := 0, locals := G } : Room) (ez_Pc D (tC k) [.ref b, .int x1] (wR b a k w v) sz) (ez_Qi D (tC k) (va_A (wR b a k w v) sz) z.1 (wR b a k z.2.1 z.2.2)) 0 0 (va_A (wR b a k w v) sz)) (C0 : ez_C p s m args meth c cX1_readTerm (some .int) 6 RX1 A) (hK : va_K D vwCl (tC k) s) : ∀ (n : Nat) (H : Heap) (locs : List Loc) (ls : Array Slot) (x1 : Int32) (w : Wd) (v : Nat → Int32), lv_has ls 6 [(0, .ref b), (1, .int x1)] → va_P D vwCl (wR b a k w v) H → va_D A (wR b a k w v) → va_S A s.heap H locs → fX1_readTerm rs n x1 w v = some z → W p l e ({ frames := F + 4, cells := 0, slots := 0, locals := G + 94 } : Room) s m args below meth c H locs 0 0 (MQ below (ez_Qi D (tC k) A z.1 (wR b a k z.2.1 z.2.2)) args s 0 0 A) (F0 m 0 ls []) := by
  intro n
  intro H locs ls x1 w v hl hP hD hS h
  rw [fX1_readTerm] at h
  have C1 := C0
  obtain ⟨hx, hb, hr, hml, hown, hw, hlk, hA, hN⟩ := C1
  refine lv_aload_n (pc := 0) hx hb dX1_readTerm_0 rfl (lv_at hl 0 rfl) ?_
  refine lv_iload_n (pc := 1) hx hb dX1_readTerm_1 rfl (lv_at hl 1 rfl) ?_
  replace h := ez_bd h
  obtain ⟨z1, e2, h⟩ := h
  refine ez_callI (r := z1.1) (pc := 2) (wr := []) (wl := (wR b a k w v)) (wl' := (wR b a k z1.2.1 z1.2.2)) (va_runV (g := F0 m 2 ls [.int x1, .ref b]) (As := [.int x1]) (rest := []) ⟨hx, hb, hml, hown, hw⟩ (kX1_readFactor l D a k b rs F G hF hG hrs n x1 w v z1 e2 H.size) (cwV 1 hw (ez_gV mw168 mw170 mp3 mw5 mw171) rfl rfl rfl (by decide +kernel) ⟨by show (F + 3) + 1 ≤ F + 4; omega, by show 8 + (5 + 11) + (G + 70) ≤ G + 94; omega⟩) (ez_preV (wr := []) (wl := (wR b a k w v)) hP hD hK hN 0 rfl rfl) rfl rfl hl.1 rfl (lv_room (Nat.le_of_ble_eq_true rfl)) dX1_readTerm_2 ⟨Nat.le_refl _, Nat.le_refl _⟩) hP hD hS hA (fun H locs hP hD hS => ?_)
  replace hP : va_P D vwCl (wR b a k z1.2.1 z1.2.2) H := hP
  replace hD : va_D A (wR b a k z1.2.1 z1.2.2) := hD
  refine lv_istore_n (pc := 5) hx hb dX1_readTerm_5 rfl hl (by decide) rfl (fun ls hl => ?_)
  replace hl : lv_has ls 6 [(2, .int z1.1), (0, .ref b), (1, .int x1)] := hl
  refine lv_iconst (v := 0) (pc := 6) hx hb dX1_readTerm_6 rfl ?_
  refine lv_istore_n (pc := 7) hx hb dX1_readTerm_7 rfl hl (by decide) rfl (fun ls hl => ?_)
  replace hl : lv_has ls 6 [(3, .int 0), (2, .int z1.1), (0, .ref b), (1, .int x1)] := hl
  exact tX1_readTerm_8 rs F G hF hG hrs C0 hK  n _ _ _ x1 z1.1 0 z1.2.1 z1.2.2 (lv_sub hl [2, 3, 1, 0] rfl) hP hD hS h
set_option maxRecDepth 100000 in
theorem kX1_readTerm (l : Launch) (D : va_G) (a : Nat → Nat) (k : Nat → ClassId) (b : Nat) (rs : Int32 → Wd → (Nat → Int32) → Option (Int32 × Wd × (Nat → Int32))) (F G : Nat) (hF : 6 ≤ F) (hG : 260 ≤ G) (hrs : ∀ (x1 : Int32) (w : Wd) (v : Nat → Int32) (z : Int32 × Wd × (Nat → Int32)), rs x1 w v = some z → ∀ sz : Nat, Met l yX1_readSum wsX1_readSum ({ frames := F, cells := 0, slots := 0, locals := G } : Room) (ez_Pc D (tC k) [.ref b, .int x1] (wR b a k w v) sz) (ez_Qi D (tC k) (va_A (wR b a k w v) sz) z.1 (wR b a k z.2.1 z.2.2)) 0 0 (va_A (wR b a k w v) sz)) (n : Nat) (x1 : Int32) (w : Wd) (v : Nat → Int32) (z : Int32 × Wd × (Nat → Int32)) (h : fX1_readTerm rs n x1 w v = some z) (sz : Nat) : Met l yX1_readTerm wsX1_readTerm ({ frames := F + 4, cells := 0, slots := 0, locals := G + 94 } : Room) (ez_Pc D (tC k) [.ref b, .int x1] (wR b a k w v) sz) (ez_Qi D (tC k) (va_A (wR b a k w v) sz) z.1 (wR b a k z.2.1 z.2.2)) 0 0 (va_A (wR b a k w v) sz) :=
  ez_mk (Qf := fun A => (ez_Qi D (tC k) A z.1 (wR b a k z.2.1 z.2.2))) (by decide) rfl (Nat.le_of_ble_eq_true rfl) (fun p e s m below meth c A ls C0 _ hl hP hD hK => tX1_readTerm_0 rs F G hF hG hrs C0 hK n s.heap [] ls x1 w v (lv_sub (l := [(0, .ref b), (1, .int x1)]) hl [0, 1] rfl) hP hD va_S.rf h) sz
/-! EnclosureCalculator$Reader readSum -/
theorem dX1_readSum_0 : decode cX1_readSum 0 = .ok (.aload_n 0, 1) := by decide +kernel
theorem dX1_readSum_1 : decode cX1_readSum 1 = .ok (.iload_n 1, 1) := by decide +kernel
theorem dX1_readSum_2 : decode cX1_readSum 2 = .ok (.invokevirtual 34, 3) := by decide +kernel
theorem dX1_readSum_5 : decode cX1_readSum 5 = .ok (.istore_n 2, 1) := by decide +kernel
theorem dX1_readSum_6 : decode cX1_readSum 6 = .ok (.iconst 0, 1) := by decide +kernel
theorem dX1_readSum_7 : decode cX1_readSum 7 = .ok (.istore_n 3, 1) := by decide +kernel
theorem dX1_readSum_8 : decode cX1_readSum 8 = .ok (.iload_n 3, 1) := by decide +kernel
theorem dX1_readSum_9 : decode cX1_readSum 9 = .ok (.bipush 20, 2) := by decide +kernel
theorem dX1_readSum_11 : decode cX1_readSum 11 = .ok (.if_icmp .ge 74, 3) := by decide +kernel
theorem dX1_readSum_14 : decode cX1_readSum 14 = .ok (.iload_n 2, 1) := by decide +kernel
theorem dX1_readSum_15 : decode cX1_readSum 15 = .ok (.iconst (-1), 1) := by decide +kernel
theorem dX1_readSum_16 : decode cX1_readSum 16 = .ok (.if_icmp .eq 69, 3) := by decide +kernel
theorem dX1_readSum_19 : decode cX1_readSum 19 = .ok (.aload_n 0, 1) := by decide +kernel
theorem dX1_readSum_20 : decode cX1_readSum 20 = .ok (.invokevirtual 38, 3) := by decide +kernel
theorem dX1_readSum_23 : decode cX1_readSum 23 = .ok (.istore 4, 2) := by decide +kernel
theorem dX1_readSum_25 : decode cX1_readSum 25 = .ok (.iload 4, 2) := by decide +kernel
theorem dX1_readSum_27 : decode cX1_readSum 27 = .ok (.bipush 43, 2) := by decide +kernel
theorem dX1_readSum_29 : decode cX1_readSum 29 = .ok (.if_icmp .eq 13, 3) := by decide +kernel
theorem dX1_readSum_32 : decode cX1_readSum 32 = .ok (.iload 4, 2) := by decide +kernel
theorem dX1_readSum_34 : decode cX1_readSum 34 = .ok (.bipush 45, 2) := by decide +kernel
theorem dX1_readSum_36 : decode cX1_readSum 36 = .ok (.if_icmp .eq 6, 3) := by decide +kernel
theorem dX1_readSum_39 : decode cX1_readSum 39 = .ok (.goto 46, 3) := by decide +kernel
theorem dX1_readSum_42 : decode cX1_readSum 42 = .ok (.aload_n 0, 1) := by decide +kernel
theorem dX1_readSum_43 : decode cX1_readSum 43 = .ok (.dup, 1) := by decide +kernel
theorem dX1_readSum_44 : decode cX1_readSum 44 = .ok (.getfield 27, 3) := by decide +kernel
theorem dX1_readSum_47 : decode cX1_readSum 47 = .ok (.iconst 1, 1) := by decide +kernel
theorem dX1_readSum_48 : decode cX1_readSum 48 = .ok (.iadd, 1) := by decide +kernel
theorem dX1_readSum_49 : decode cX1_readSum 49 = .ok (.putfield 27, 3) := by decide +kernel
theorem dX1_readSum_52 : decode cX1_readSum 52 = .ok (.aload_n 0, 1) := by decide +kernel
theorem dX1_readSum_53 : decode cX1_readSum 53 = .ok (.iload_n 1, 1) := by decide +kernel
theorem dX1_readSum_54 : decode cX1_readSum 54 = .ok (.invokevirtual 34, 3) := by decide +kernel
theorem dX1_readSum_57 : decode cX1_readSum 57 = .ok (.istore 5, 2) := by decide +kernel
theorem dX1_readSum_59 : decode cX1_readSum 59 = .ok (.aload_n 0, 1) := by decide +kernel
theorem dX1_readSum_60 : decode cX1_readSum 60 = .ok (.iload 4, 2) := by decide +kernel
theorem dX1_readSum_62 : decode cX1_readSum 62 = .ok (.bipush 43, 2) := by decide +kernel
theorem dX1_readSum_64 : decode cX1_readSum 64 = .ok (.if_icmp .ne 7, 3) := by decide +kernel
theorem dX1_readSum_67 : decode cX1_readSum 67 = .ok (.iconst 2, 1) := by decide +kernel
theorem dX1_readSum_68 : decode cX1_readSum 68 = .ok (.goto 4, 3) := by decide +kernel
theorem dX1_readSum_71 : decode cX1_readSum 71 = .ok (.iconst 3, 1) := by decide +kernel
theorem dX1_readSum_72 : decode cX1_readSum 72 = .ok (.iload_n 2, 1) := by decide +kernel
theorem dX1_readSum_73 : decode cX1_readSum 73 = .ok (.iload 5, 2) := by decide +kernel
theorem dX1_readSum_75 : decode cX1_readSum 75 = .ok (.invokevirtual 44, 3) := by decide +kernel
theorem dX1_readSum_78 : decode cX1_readSum 78 = .ok (.istore_n 2, 1) := by decide +kernel
theorem dX1_readSum_79 : decode cX1_readSum 79 = .ok (.iinc 3 1, 3) := by decide +kernel
theorem dX1_readSum_82 : decode cX1_readSum 82 = .ok (.goto (-74), 3) := by decide +kernel
theorem dX1_readSum_85 : decode cX1_readSum 85 = .ok (.iload_n 2, 1) := by decide +kernel
theorem dX1_readSum_86 : decode cX1_readSum 86 = .ok (.ireturn, 1) := by decide +kernel
def fX1_readSum_42 (rs : Int32 → Wd → (Nat → Int32) → Option (Int32 × Wd × (Nat → Int32))) (rec8 : Int32 → Int32 → Int32 → Wd → (Nat → Int32) → Option (Int32 × Wd × (Nat → Int32))) (n : Nat) (x1 : Int32) (x2 : Int32) (x3 : Int32) (x4 : Int32) (w : Wd) (v : Nat → Int32) : Option (Int32 × Wd × (Nat → Int32)) :=
    (ez_fV v 1 ((v 1) + 1)).bind fun v2 =>
    (fX1_readTerm rs n x1 w v2).bind fun z3 =>
    if x4 = 43 then
      (fX1_join n 2 x2 z3.1 z3.2.1 z3.2.2).bind fun z8 =>
      rec8 x1 z8.1 (x3 + 1) z8.2.1 z8.2.2
    else
      (fX1_join n 3 x2 z3.1 z3.2.1 z3.2.2).bind fun z6 =>
      rec8 x1 z6.1 (x3 + 1) z6.2.1 z6.2.2
def fX1_readSum_8 (rs : Int32 → Wd → (Nat → Int32) → Option (Int32 × Wd × (Nat → Int32))) : Nat → Int32 → Int32 → Int32 → Wd → (Nat → Int32) → Option (Int32 × Wd × (Nat → Int32))
  | 0, _, _, _, _, _ => none
  | n + 1, x1, x2, x3, w, v =>
    if 20 ≤ x3 then
      some (x2, w, v)
    else
      if x2 = (-1) then
        some (x2, w, v)
      else
        (fX1_current n w v).bind fun z3 =>
        if z3 = 43 then
          fX1_readSum_42 rs (fX1_readSum_8 rs n) n x1 x2 x3 z3 w v
        else
          if z3 = 45 then
            fX1_readSum_42 rs (fX1_readSum_8 rs n) n x1 x2 x3 z3 w v
          else
            some (x2, w, v)
def fX1_readSum (rs : Int32 → Wd → (Nat → Int32) → Option (Int32 × Wd × (Nat → Int32))) (n : Nat) (x1 : Int32) (w : Wd) (v : Nat → Int32) : Option (Int32 × Wd × (Nat → Int32)) :=
    (fX1_readTerm rs n x1 w v).bind fun z1 =>
    fX1_readSum_8 rs n x1 z1.1 0 z1.2.1 z1.2.2
set_option maxHeartbeats 4000000 in
set_option maxRecDepth 100000 in
theorem tX1_readSum_42 {p : Program} {l : Launch} {e : Env} {s : State} {m : MethodId} {args : Array Value} {below : List Frame} {meth : Method} {c : Code} {A : Nat → Prop} {D : va_G} {a : Nat → Nat} {k : Nat → ClassId} {b : Nat} {z : Int32 × Wd × (Nat → Int32)} (rs : Int32 → Wd → (Nat → Int32) → Option (Int32 × Wd × (Nat → Int32))) (F G : Nat) (hF : 6 ≤ F) (hG : 260 ≤ G) (hrs : ∀ (x1 : Int32) (w : Wd) (v : Nat → Int32) (z : Int32 × Wd × (Nat → Int32)), rs x1 w v = some z → ∀ sz : Nat, Met l yX1_readSum wsX1_readSum ({ frames := F, cells := 0, slots := 0, locals := G } : Room) (ez_Pc D (tC k) [.ref b, .int x1] (wR b a k w v) sz) (ez_Qi D (tC k) (va_A (wR b a k w v) sz) z.1 (wR b a k z.2.1 z.2.2)) 0 0 (va_A (wR b a k w v) sz)) (C0 : ez_C p s m args meth c cX1_readSum (some .int) 6 RX1 A) (hK : va_K D vwCl (tC k) s) (rec8 : Int32 → Int32 → Int32 → Wd → (Nat → Int32) → Option (Int32 × Wd × (Nat → Int32))) (hrec8 : ∀ (H : Heap) (locs : List Loc) (ls : Array Slot) (x1 : Int32) (x2 : Int32) (x3 : Int32) (w : Wd) (v : Nat → Int32), lv_has ls 6 [(0, .ref b), (1, .int x1), (2, .int x2), (3, .int x3)] → va_P D vwCl (wR b a k w v) H → va_D A (wR b a k w v) → va_S A s.heap H locs → rec8 x1 x2 x3 w v = some z → W p l e ({ frames := F + 5, cells := 0, slots := 0, locals := G + 119 } : Room) s m args below meth c H locs 0 0 (MQ below (ez_Qi D (tC k) A z.1 (wR b a k z.2.1 z.2.2)) args s 0 0 A) (F0 m 8 ls [])) : ∀ (n : Nat) (H : Heap) (locs : List Loc) (ls : Array Slot) (x1 : Int32) (x2 : Int32) (x3 : Int32) (x4 : Int32) (w : Wd) (v : Nat → Int32), lv_has ls 6 [(0, .ref b), (1, .int x1), (2, .int x2), (3, .int x3), (4, .int x4)] → va_P D vwCl (wR b a k w v) H → va_D A (wR b a k w v) → va_S A s.heap H locs → fX1_readSum_42 rs rec8 n x1 x2 x3 x4 w v = some z → W p l e ({ frames := F + 5, cells := 0, slots := 0, locals := G + 119 } : Room) s m args below meth c H locs 0 0 (MQ below (ez_Qi D (tC k) A z.1 (wR b a k z.2.1 z.2.2)) args s 0 0 A) (F0 m 42 ls []) := by
  intro n
  intro H locs ls x1 x2 x3 x4 w v hl hP hD hS h
  rw [fX1_readSum_42] at h
  have C1 := C0
  obtain ⟨hx, hb, hr, hml, hown, hw, hlk, hA, hN⟩ := C1
  refine lv_aload_n (pc := 42) hx hb dX1_readSum_42 rfl (lv_at hl 0 rfl) ?_
  refine lv_dup (pc := 43) hx hb dX1_readSum_43 rfl ?_
  refine va_get (D := D) (pc := 44) hx hb hw inX1 hown hK hP 0 rfl rfl 4 (by decide) (hw _ mw145) (fun _ h9 => h9) rfl dX1_readSum_44 ?_
  refine lv_iconst (v := 1) (pc := 47) hx hb dX1_readSum_47 rfl ?_
  refine lv_iadd (pc := 48) hx hb dX1_readSum_48 ?_
  replace h := ez_bd h
  obtain ⟨v2, e1, h⟩ := h
  refine va_put (D := D) (v := .int ((v 1) + 1)) (ty := .int) (pc := 49) hx hb hw inX1 tyX1 tyX1_ok nmX1 hown hK hP hD hS 0 rfl rfl 4 (by decide) (hw _ mw145) (fun _ h9 => h9) rfl (by decide +kernel) rfl rfl (Nat.le_of_ble_eq_true rfl) dX1_readSum_49 (fun H locs hP hD hS => ?_)
  replace hP : va_P D vwCl (wR b a k w v2) H := by rw [(ez_fVs e1)]; exact hP
  replace hD : va_D A (wR b a k w v2) := by rw [(ez_fVs e1)]; exact hD
  refine lv_aload_n (pc := 52) hx hb dX1_readSum_52 rfl (lv_at hl 0 rfl) ?_
  refine lv_iload_n (pc := 53) hx hb dX1_readSum_53 rfl (lv_at hl 1 rfl) ?_
  replace h := ez_bd h
  obtain ⟨z3, e4, h⟩ := h
  refine ez_callI (r := z3.1) (pc := 54) (wr := []) (wl := (wR b a k w v2)) (wl' := (wR b a k z3.2.1 z3.2.2)) (va_runV (g := F0 m 54 ls [.int x1, .ref b]) (As := [.int x1]) (rest := []) ⟨hx, hb, hml, hown, hw⟩ (kX1_readTerm l D a k b rs F G hF hG hrs n x1 w v2 z3 e4 H.size) (cwV 1 hw (ez_gV mw164 mw166 mp2 mw5 mw167) rfl rfl rfl (by decide +kernel) ⟨by show (F + 4) + 1 ≤ F + 5; omega, by show 8 + (6 + 11) + (G + 94) ≤ G + 119; omega⟩) (ez_preV (wr := []) (wl := (wR b a k w v2)) hP hD hK hN 0 rfl rfl) rfl rfl hl.1 rfl (lv_room (Nat.le_of_ble_eq_true rfl)) dX1_readSum_54 ⟨Nat.le_refl _, Nat.le_refl _⟩) hP hD hS hA (fun H locs hP hD hS => ?_)
  replace hP : va_P D vwCl (wR b a k z3.2.1 z3.2.2) H := hP
  replace hD : va_D A (wR b a k z3.2.1 z3.2.2) := hD
  refine lv_istore (pc := 57) hx hb dX1_readSum_57 hl (by decide) rfl (fun ls hl => ?_)
  replace hl : lv_has ls 6 [(5, .int z3.1), (0, .ref b), (1, .int x1), (2, .int x2), (3, .int x3), (4, .int x4)] := hl
  refine lv_aload_n (pc := 59) hx hb dX1_readSum_59 rfl (lv_at hl 1 rfl) ?_
  refine lv_iload (pc := 60) hx hb dX1_readSum_60 (lv_at hl 5 rfl) ?_
  refine lv_bipush (v := 43) (pc := 62) hx hb dX1_readSum_62 rfl ?_
  refine lv_icmp_ne (pc := 64) (tgt := 71) hx hb dX1_readSum_64 (by decide) (fun c5 => ?_) (fun c5 => ?_)
  · replace h := ez_if c5 h
    refine lv_iconst (v := 3) (pc := 71) hx hb dX1_readSum_71 rfl ?_
    refine lv_iload_n (pc := 72) hx hb dX1_readSum_72 rfl (lv_at hl 3 rfl) ?_
    refine lv_iload (pc := 73) hx hb dX1_readSum_73 (lv_at hl 0 rfl) ?_
    replace h := ez_bd h
    obtain ⟨z6, e7, h⟩ := h
    refine ez_callI (r := z6.1) (pc := 75) (wr := []) (wl := (wR b a k z3.2.1 z3.2.2)) (wl' := (wR b a k z6.2.1 z6.2.2)) (va_runV (g := F0 m 75 ls [.int z3.1, .int x2, .int 3, .ref b]) (As := [.int 3, .int x2, .int z3.1]) (rest := []) ⟨hx, hb, hml, hown, hw⟩ (kX1_join l D a k b n 3 x2 z3.1 z3.2.1 z3.2.2 z6 e7 H.size) (cwV 3 hw (ez_gV mw215 mw217 mp11 mw5 mw218) rfl rfl rfl (by decide +kernel) ⟨by show (2) + 1 ≤ F + 5; omega, by show 8 + (4 + 11) + (48) ≤ G + 119; omega⟩) (ez_preV (wr := []) (wl := (wR b a k z3.2.1 z3.2.2)) hP hD hK hN 0 rfl rfl) rfl rfl hl.1 rfl (lv_room (Nat.le_of_ble_eq_true rfl)) dX1_readSum_75 ⟨Nat.le_refl _, Nat.le_refl _⟩) hP hD hS hA (fun H locs hP hD hS => ?_)
    replace hP : va_P D vwCl (wR b a k z6.2.1 z6.2.2) H := hP
    replace hD : va_D A (wR b a k z6.2.1 z6.2.2) := hD
    refine lv_istore_n (pc := 78) hx hb dX1_readSum_78 rfl hl (by decide) rfl (fun ls hl => ?_)
    replace hl : lv_has ls 6 [(2, .int z6.1), (5, .int z3.1), (0, .ref b), (1, .int x1), (3, .int x3), (4, .int x4)] := hl
    refine lv_iinc (v := (x3 + 1)) (k := 4) (pc := 79) hx hb dX1_readSum_79 hl rfl rfl (by decide) rfl (fun ls hl => ?_)
    replace hl : lv_has ls 6 [(3, .int (x3 + 1)), (2, .int z6.1), (5, .int z3.1), (0, .ref b), (1, .int x1), (4, .int x4)] := hl
    refine lv_goto (pc := 82) (tgt := 8) hx hb dX1_readSum_82 (by decide) ?_
    exact hrec8 _ _ _ x1 z6.1 (x3 + 1) z6.2.1 z6.2.2 (lv_sub hl [3, 4, 1, 0] rfl) hP hD hS h
  · replace h := ez_it c5 h
    refine lv_iconst (v := 2) (pc := 67) hx hb dX1_readSum_67 rfl ?_
    refine lv_goto (pc := 68) (tgt := 72) hx hb dX1_readSum_68 (by decide) ?_
    refine lv_iload_n (pc := 72) hx hb dX1_readSum_72 rfl (lv_at hl 3 rfl) ?_
    refine lv_iload (pc := 73) hx hb dX1_readSum_73 (lv_at hl 0 rfl) ?_
    replace h := ez_bd h
    obtain ⟨z8, e9, h⟩ := h
    refine ez_callI (r := z8.1) (pc := 75) (wr := []) (wl := (wR b a k z3.2.1 z3.2.2)) (wl' := (wR b a k z8.2.1 z8.2.2)) (va_runV (g := F0 m 75 ls [.int z3.1, .int x2, .int 2, .ref b]) (As := [.int 2, .int x2, .int z3.1]) (rest := []) ⟨hx, hb, hml, hown, hw⟩ (kX1_join l D a k b n 2 x2 z3.1 z3.2.1 z3.2.2 z8 e9 H.size) (cwV 3 hw (ez_gV mw215 mw217 mp11 mw5 mw218) rfl rfl rfl (by decide +kernel) ⟨by show (2) + 1 ≤ F + 5; omega, by show 8 + (4 + 11) + (48) ≤ G + 119; omega⟩) (ez_preV (wr := []) (wl := (wR b a k z3.2.1 z3.2.2)) hP hD hK hN 0 rfl rfl) rfl rfl hl.1 rfl (lv_room (Nat.le_of_ble_eq_true rfl)) dX1_readSum_75 ⟨Nat.le_refl _, Nat.le_refl _⟩) hP hD hS hA (fun H locs hP hD hS => ?_)
    replace hP : va_P D vwCl (wR b a k z8.2.1 z8.2.2) H := hP
    replace hD : va_D A (wR b a k z8.2.1 z8.2.2) := hD
    refine lv_istore_n (pc := 78) hx hb dX1_readSum_78 rfl hl (by decide) rfl (fun ls hl => ?_)
    replace hl : lv_has ls 6 [(2, .int z8.1), (5, .int z3.1), (0, .ref b), (1, .int x1), (3, .int x3), (4, .int x4)] := hl
    refine lv_iinc (v := (x3 + 1)) (k := 4) (pc := 79) hx hb dX1_readSum_79 hl rfl rfl (by decide) rfl (fun ls hl => ?_)
    replace hl : lv_has ls 6 [(3, .int (x3 + 1)), (2, .int z8.1), (5, .int z3.1), (0, .ref b), (1, .int x1), (4, .int x4)] := hl
    refine lv_goto (pc := 82) (tgt := 8) hx hb dX1_readSum_82 (by decide) ?_
    exact hrec8 _ _ _ x1 z8.1 (x3 + 1) z8.2.1 z8.2.2 (lv_sub hl [3, 4, 1, 0] rfl) hP hD hS h
set_option maxHeartbeats 4000000 in
set_option maxRecDepth 100000 in
theorem tX1_readSum_8 {p : Program} {l : Launch} {e : Env} {s : State} {m : MethodId} {args : Array Value} {below : List Frame} {meth : Method} {c : Code} {A : Nat → Prop} {D : va_G} {a : Nat → Nat} {k : Nat → ClassId} {b : Nat} {z : Int32 × Wd × (Nat → Int32)} (rs : Int32 → Wd → (Nat → Int32) → Option (Int32 × Wd × (Nat → Int32))) (F G : Nat) (hF : 6 ≤ F) (hG : 260 ≤ G) (hrs : ∀ (x1 : Int32) (w : Wd) (v : Nat → Int32) (z : Int32 × Wd × (Nat → Int32)), rs x1 w v = some z → ∀ sz : Nat, Met l yX1_readSum wsX1_readSum ({ frames := F, cells := 0, slots := 0, locals := G } : Room) (ez_Pc D (tC k) [.ref b, .int x1] (wR b a k w v) sz) (ez_Qi D (tC k) (va_A (wR b a k w v) sz) z.1 (wR b a k z.2.1 z.2.2)) 0 0 (va_A (wR b a k w v) sz)) (C0 : ez_C p s m args meth c cX1_readSum (some .int) 6 RX1 A) (hK : va_K D vwCl (tC k) s) : ∀ (n : Nat) (H : Heap) (locs : List Loc) (ls : Array Slot) (x1 : Int32) (x2 : Int32) (x3 : Int32) (w : Wd) (v : Nat → Int32), lv_has ls 6 [(0, .ref b), (1, .int x1), (2, .int x2), (3, .int x3)] → va_P D vwCl (wR b a k w v) H → va_D A (wR b a k w v) → va_S A s.heap H locs → fX1_readSum_8 rs n x1 x2 x3 w v = some z → W p l e ({ frames := F + 5, cells := 0, slots := 0, locals := G + 119 } : Room) s m args below meth c H locs 0 0 (MQ below (ez_Qi D (tC k) A z.1 (wR b a k z.2.1 z.2.2)) args s 0 0 A) (F0 m 8 ls []) := by
  intro n
  induction n with
  | zero =>
    intro H locs ls x1 x2 x3 w v hl hP hD hS h
    rw [fX1_readSum_8] at h
    cases h
  | succ n ih =>
    intro H locs ls x1 x2 x3 w v hl hP hD hS h
    rw [fX1_readSum_8] at h
    have C1 := C0
    obtain ⟨hx, hb, hr, hml, hown, hw, hlk, hA, hN⟩ := C1
    refine lv_iload_n (pc := 8) hx hb dX1_readSum_8 rfl (lv_at hl 3 rfl) ?_
    refine lv_bipush (v := 20) (pc := 9) hx hb dX1_readSum_9 rfl ?_
    refine lv_icmp_ge (pc := 11) (tgt := 85) hx hb dX1_readSum_11 (by decide) (fun c1 => ?_) (fun c1 => ?_)
    · replace h := ez_it c1 h
      refine lv_iload_n (pc := 85) hx hb dX1_readSum_85 rfl (lv_at hl 2 rfl) ?_
      obtain rfl := ez_r1 h
      exact ez_retI C0 hP hD hK hS dX1_readSum_86
    · replace h := ez_if c1 h
      refine lv_iload_n (pc := 14) hx hb dX1_readSum_14 rfl (lv_at hl 2 rfl) ?_
      refine lv_iconst (v := (-1)) (pc := 15) hx hb dX1_readSum_15 rfl ?_
      refine lv_icmp_eq (pc := 16) (tgt := 85) hx hb dX1_readSum_16 (by decide) (fun c2 => ?_) (fun c2 => ?_)
      · replace h := ez_it c2 h
        refine lv_iload_n (pc := 85) hx hb dX1_readSum_85 rfl (lv_at hl 2 rfl) ?_
        obtain rfl := ez_r1 h
        exact ez_retI C0 hP hD hK hS dX1_readSum_86
      · replace h := ez_if c2 h
        refine lv_aload_n (pc := 19) hx hb dX1_readSum_19 rfl (lv_at hl 0 rfl) ?_
        replace h := ez_bd h
        obtain ⟨z3, e4, h⟩ := h
        refine ez_croI (r := z3) (pc := 20) (va_runV (g := F0 m 20 ls [.ref b]) (As := []) (rest := []) ⟨hx, hb, hml, hown, hw⟩ (kX1_current l D a k b n w v z3 e4) (cwV 0 hw (ez_gV mw172 mw174 mp4 mw5 mw175) rfl rfl rfl (by decide +kernel) ⟨by show (0) + 1 ≤ F + 5; omega, by show 8 + (1 + 11) + (0) ≤ G + 119; omega⟩) (ez_preRV (wr := []) (wl := (wR b a k w v)) hP hK hN 0 rfl rfl) rfl rfl hl.1 rfl (lv_room (Nat.le_of_ble_eq_true rfl)) dX1_readSum_20 ⟨Nat.le_refl _, Nat.le_refl _⟩) ?_
        refine lv_istore (pc := 23) hx hb dX1_readSum_23 hl (by decide) rfl (fun ls hl => ?_)
        replace hl : lv_has ls 6 [(4, .int z3), (0, .ref b), (1, .int x1), (2, .int x2), (3, .int x3)] := hl
        refine lv_iload (pc := 25) hx hb dX1_readSum_25 (lv_at hl 0 rfl) ?_
        refine lv_bipush (v := 43) (pc := 27) hx hb dX1_readSum_27 rfl ?_
        refine lv_icmp_eq (pc := 29) (tgt := 42) hx hb dX1_readSum_29 (by decide) (fun c5 => ?_) (fun c5 => ?_)
        · replace h := ez_it c5 h
          exact tX1_readSum_42 rs F G hF hG hrs C0 hK (fX1_readSum_8 rs n) ih n _ _ _ x1 x2 x3 z3 w v (lv_sub hl [1, 2, 3, 4, 0] rfl) hP hD hS h
        · replace h := ez_if c5 h
          refine lv_iload (pc := 32) hx hb dX1_readSum_32 (lv_at hl 0 rfl) ?_
          refine lv_bipush (v := 45) (pc := 34) hx hb dX1_readSum_34 rfl ?_
          refine lv_icmp_eq (pc := 36) (tgt := 42) hx hb dX1_readSum_36 (by decide) (fun c6 => ?_) (fun c6 => ?_)
          · replace h := ez_it c6 h
            exact tX1_readSum_42 rs F G hF hG hrs C0 hK (fX1_readSum_8 rs n) ih n _ _ _ x1 x2 x3 z3 w v (lv_sub hl [1, 2, 3, 4, 0] rfl) hP hD hS h
          · replace h := ez_if c6 h
            refine lv_goto (pc := 39) (tgt := 85) hx hb dX1_readSum_39 (by decide) ?_
            refine lv_iload_n (pc := 85) hx hb dX1_readSum_85 rfl (lv_at hl 3 rfl) ?_
            obtain rfl := ez_r1 h
            exact ez_retI C0 hP hD hK hS dX1_readSum_86
set_option maxHeartbeats 4000000 in
set_option maxRecDepth 100000 in
theorem tX1_readSum_0 {p : Program} {l : Launch} {e : Env} {s : State} {m : MethodId} {args : Array Value} {below : List Frame} {meth : Method} {c : Code} {A : Nat → Prop} {D : va_G} {a : Nat → Nat} {k : Nat → ClassId} {b : Nat} {z : Int32 × Wd × (Nat → Int32)} (rs : Int32 → Wd → (Nat → Int32) → Option (Int32 × Wd × (Nat → Int32))) (F G : Nat) (hF : 6 ≤ F) (hG : 260 ≤ G) (hrs : ∀ (x1 : Int32) (w : Wd) (v : Nat → Int32) (z : Int32 × Wd × (Nat → Int32)), rs x1 w v = some z → ∀ sz : Nat, Met l yX1_readSum wsX1_readSum ({ frames := F, cells := 0, slots := 0, locals := G } : Room) (ez_Pc D (tC k) [.ref b, .int x1] (wR b a k w v) sz) (ez_Qi D (tC k) (va_A (wR b a k w v) sz) z.1 (wR b a k z.2.1 z.2.2)) 0 0 (va_A (wR b a k w v) sz)) (C0 : ez_C p s m args meth c cX1_readSum (some .int) 6 RX1 A) (hK : va_K D vwCl (tC k) s) : ∀ (n : Nat) (H : Heap) (locs : List Loc) (ls : Array Slot) (x1 : Int32) (w : Wd) (v : Nat → Int32), lv_has ls 6 [(0, .ref b), (1, .int x1)] → va_P D vwCl (wR b a k w v) H → va_D A (wR b a k w v) → va_S A s.heap H locs → fX1_readSum rs n x1 w v = some z → W p l e ({ frames := F + 5, cells := 0, slots := 0, locals := G + 119 } : Room) s m args below meth c H locs 0 0 (MQ below (ez_Qi D (tC k) A z.1 (wR b a k z.2.1 z.2.2)) args s 0 0 A) (F0 m 0 ls []) := by
  intro n
  intro H locs ls x1 w v hl hP hD hS h
  rw [fX1_readSum] at h
  have C1 := C0
  obtain ⟨hx, hb, hr, hml, hown, hw, hlk, hA, hN⟩ := C1
  refine lv_aload_n (pc := 0) hx hb dX1_readSum_0 rfl (lv_at hl 0 rfl) ?_
  refine lv_iload_n (pc := 1) hx hb dX1_readSum_1 rfl (lv_at hl 1 rfl) ?_
  replace h := ez_bd h
  obtain ⟨z1, e2, h⟩ := h
  refine ez_callI (r := z1.1) (pc := 2) (wr := []) (wl := (wR b a k w v)) (wl' := (wR b a k z1.2.1 z1.2.2)) (va_runV (g := F0 m 2 ls [.int x1, .ref b]) (As := [.int x1]) (rest := []) ⟨hx, hb, hml, hown, hw⟩ (kX1_readTerm l D a k b rs F G hF hG hrs n x1 w v z1 e2 H.size) (cwV 1 hw (ez_gV mw164 mw166 mp2 mw5 mw167) rfl rfl rfl (by decide +kernel) ⟨by show (F + 4) + 1 ≤ F + 5; omega, by show 8 + (6 + 11) + (G + 94) ≤ G + 119; omega⟩) (ez_preV (wr := []) (wl := (wR b a k w v)) hP hD hK hN 0 rfl rfl) rfl rfl hl.1 rfl (lv_room (Nat.le_of_ble_eq_true rfl)) dX1_readSum_2 ⟨Nat.le_refl _, Nat.le_refl _⟩) hP hD hS hA (fun H locs hP hD hS => ?_)
  replace hP : va_P D vwCl (wR b a k z1.2.1 z1.2.2) H := hP
  replace hD : va_D A (wR b a k z1.2.1 z1.2.2) := hD
  refine lv_istore_n (pc := 5) hx hb dX1_readSum_5 rfl hl (by decide) rfl (fun ls hl => ?_)
  replace hl : lv_has ls 6 [(2, .int z1.1), (0, .ref b), (1, .int x1)] := hl
  refine lv_iconst (v := 0) (pc := 6) hx hb dX1_readSum_6 rfl ?_
  refine lv_istore_n (pc := 7) hx hb dX1_readSum_7 rfl hl (by decide) rfl (fun ls hl => ?_)
  replace hl : lv_has ls 6 [(3, .int 0), (2, .int z1.1), (0, .ref b), (1, .int x1)] := hl
  exact tX1_readSum_8 rs F G hF hG hrs C0 hK  n _ _ _ x1 z1.1 0 z1.2.1 z1.2.2 (lv_sub hl [2, 3, 1, 0] rfl) hP hD hS h
set_option maxRecDepth 100000 in
theorem kX1_readSum (l : Launch) (D : va_G) (a : Nat → Nat) (k : Nat → ClassId) (b : Nat) (rs : Int32 → Wd → (Nat → Int32) → Option (Int32 × Wd × (Nat → Int32))) (F G : Nat) (hF : 6 ≤ F) (hG : 260 ≤ G) (hrs : ∀ (x1 : Int32) (w : Wd) (v : Nat → Int32) (z : Int32 × Wd × (Nat → Int32)), rs x1 w v = some z → ∀ sz : Nat, Met l yX1_readSum wsX1_readSum ({ frames := F, cells := 0, slots := 0, locals := G } : Room) (ez_Pc D (tC k) [.ref b, .int x1] (wR b a k w v) sz) (ez_Qi D (tC k) (va_A (wR b a k w v) sz) z.1 (wR b a k z.2.1 z.2.2)) 0 0 (va_A (wR b a k w v) sz)) (n : Nat) (x1 : Int32) (w : Wd) (v : Nat → Int32) (z : Int32 × Wd × (Nat → Int32)) (h : fX1_readSum rs n x1 w v = some z) (sz : Nat) : Met l yX1_readSum wsX1_readSum ({ frames := F + 5, cells := 0, slots := 0, locals := G + 119 } : Room) (ez_Pc D (tC k) [.ref b, .int x1] (wR b a k w v) sz) (ez_Qi D (tC k) (va_A (wR b a k w v) sz) z.1 (wR b a k z.2.1 z.2.2)) 0 0 (va_A (wR b a k w v) sz) :=
  ez_mk (Qf := fun A => (ez_Qi D (tC k) A z.1 (wR b a k z.2.1 z.2.2))) (by decide) rfl (Nat.le_of_ble_eq_true rfl) (fun p e s m below meth c A ls C0 _ hl hP hD hK => tX1_readSum_0 rs F G hF hG hrs C0 hK n s.heap [] ls x1 w v (lv_sub (l := [(0, .ref b), (1, .int x1)]) hl [0, 1] rfl) hP hD va_S.rf h) sz
def fSum : Nat → Nat → Int32 → Wd → (Nat → Int32) → Option (Int32 × Wd × (Nat → Int32))
  | 0, _, _, _, _ => none
  | d + 1, n, x1, w, v => fX1_readSum (fSum d n) n x1 w v
theorem kSum (l : Launch) (D : va_G) (a : Nat → Nat) (k : Nat → ClassId) (b : Nat) (n : Nat) : ∀ (d : Nat) (x1 : Int32) (w : Wd) (v : Nat → Int32) (z : Int32 × Wd × (Nat → Int32)), fSum d n x1 w v = some z → ∀ sz : Nat, Met l yX1_readSum wsX1_readSum ({ frames := 6 + 5 * d, cells := 0, slots := 0, locals := 260 + 119 * d } : Room) (ez_Pc D (tC k) [.ref b, .int x1] (wR b a k w v) sz) (ez_Qi D (tC k) (va_A (wR b a k w v) sz) z.1 (wR b a k z.2.1 z.2.2)) 0 0 (va_A (wR b a k w v) sz) := by
  intro d
  induction d with
  | zero =>
    intro x1 w v z h
    rw [fSum] at h
    cases h
  | succ d ih =>
    intro x1 w v z h sz
    rw [fSum] at h
    have e1 : 6 + 5 * (d + 1) = (6 + 5 * d) + 5 := by omega
    have e2 : 260 + 119 * (d + 1) = (260 + 119 * d) + 119 := by omega
    rw [e1, e2]
    exact kX1_readSum l D a k b (fSum d n) (6 + 5 * d) (260 + 119 * d) (by omega) (by omega) ih n x1 w v z h sz
