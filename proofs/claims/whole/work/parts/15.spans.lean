/-! EnclosureCalculator$Spans chooseOperand -/
theorem dX2_chooseOperand_0 : decode cX2_chooseOperand 0 = .ok (.iload_n 1, 1) := by decide +kernel
theorem dX2_chooseOperand_1 : decode cX2_chooseOperand 1 = .ok (.invokestatic 37, 3) := by decide +kernel
theorem dX2_chooseOperand_4 : decode cX2_chooseOperand 4 = .ok (.ifCond .eq 10, 3) := by decide +kernel
theorem dX2_chooseOperand_7 : decode cX2_chooseOperand 7 = .ok (.aload_n 0, 1) := by decide +kernel
theorem dX2_chooseOperand_8 : decode cX2_chooseOperand 8 = .ok (.getfield 9, 3) := by decide +kernel
theorem dX2_chooseOperand_11 : decode cX2_chooseOperand 11 = .ok (.iload_n 1, 1) := by decide +kernel
theorem dX2_chooseOperand_12 : decode cX2_chooseOperand 12 = .ok (.iconst 1, 1) := by decide +kernel
theorem dX2_chooseOperand_13 : decode cX2_chooseOperand 13 = .ok (.bastore, 1) := by decide +kernel
theorem dX2_chooseOperand_14 : decode cX2_chooseOperand 14 = .ok (.return_, 1) := by decide +kernel
def fX2_chooseOperand (n : Nat) (x1 : Int32) (w : Wd) : Option (Wd) :=
    (fX0_has n x1).bind fun z1 =>
    if z1 = 0 then
      some w
    else
      (ez_stI w 9 80 x1 (vp_nar .boolean 1)).bind fun w5 =>
      some w5
set_option maxHeartbeats 4000000 in
set_option maxRecDepth 100000 in
theorem tX2_chooseOperand_0 {p : Program} {l : Launch} {e : Env} {s : State} {m : MethodId} {args : Array Value} {below : List Frame} {meth : Method} {c : Code} {A : Nat → Prop} {D : va_G} {a : Nat → Nat} {k : Nat → ClassId} {z : Wd} (C0 : ez_C p s m args meth c cX2_chooseOperand none 2 RX2 A) (hK : va_K D vwCl (tC k) s) : ∀ (n : Nat) (H : Heap) (locs : List Loc) (ls : Array Slot) (x1 : Int32) (w : Wd), lv_has ls 2 [(0, .ref (a 4)), (1, .int x1)] → va_P D vwCl (wC a k w) H → va_D A (wC a k w) → va_S A s.heap H locs → fX2_chooseOperand n x1 w = some z → W p l e ({ frames := 1, cells := 0, slots := 0, locals := 20 } : Room) s m args below meth c H locs 0 0 (MQ below (ez_Qv D (tC k) A (wC a k z)) args s 0 0 A) (F0 m 0 ls []) := by
  intro n
  intro H locs ls x1 w hl hP hD hS h
  rw [fX2_chooseOperand] at h
  have C1 := C0
  obtain ⟨hx, hb, hr, hml, hown, hw, hlk, hA, hN⟩ := C1
  refine lv_iload_n (pc := 0) hx hb dX2_chooseOperand_0 rfl (lv_at hl 1 rfl) ?_
  replace h := ez_bd h
  obtain ⟨z1, e2, h⟩ := h
  refine ez_croI (r := z1) (pc := 1) (va_runS (g := F0 m 1 ls [.int x1]) (As := [.int x1]) (rest := []) ⟨hx, hb, hml, hown, hw⟩ (kX0_has l n x1 z1 e2) (va_cwS 1 hw (ez_gS mw262 mw256 mw2 mw257) rfl rfl rfl (by decide +kernel) ⟨Nat.le_of_ble_eq_true rfl, Nat.le_of_ble_eq_true rfl⟩) (ez_preRS hN) rfl rfl hl.1 rfl (lv_room (Nat.le_of_ble_eq_true rfl)) dX2_chooseOperand_1 ⟨Nat.le_refl _, Nat.le_refl _⟩) ?_
  refine lv_if_eq (pc := 4) (tgt := 14) hx hb dX2_chooseOperand_4 (by decide) (fun c3 => ?_) (fun c3 => ?_)
  · replace h := ez_it c3 h
    obtain rfl := ez_r1 h
    exact ez_retV C0 hP hD hK hS dX2_chooseOperand_14
  · replace h := ez_if c3 h
    refine lv_aload_n (pc := 7) hx hb dX2_chooseOperand_7 rfl (lv_at hl 0 rfl) ?_
    refine va_get (D := D) (pc := 8) hx hb hw inX2 hown hK hP 4 rfl rfl 0 (by decide) (hw _ mw45) (fun _ h9 => h9) rfl dX2_chooseOperand_8 ?_
    refine lv_iload_n (pc := 11) hx hb dX2_chooseOperand_11 rfl (lv_at hl 1 rfl) ?_
    refine lv_iconst (v := 1) (pc := 12) hx hb dX2_chooseOperand_12 rfl ?_
    replace h := ez_bd h
    obtain ⟨w5, e4, h⟩ := h
    obtain ⟨e4i, e4⟩ := ez_stIs e4
    refine va_zast (D := D) (pc := 13) hx hb hK hP hD hS 9 6 rfl rfl e4i dX2_chooseOperand_13 (fun H locs hP hD hS => ?_)
    replace hP : va_P D vwCl (wC a k w5) H := by rw [e4]; exact hP
    replace hD : va_D A (wC a k w5) := by rw [e4]; exact hD
    obtain rfl := ez_r1 h
    exact ez_retV C0 hP hD hK hS dX2_chooseOperand_14
set_option maxRecDepth 100000 in
theorem kX2_chooseOperand (l : Launch) (D : va_G) (a : Nat → Nat) (k : Nat → ClassId) (n : Nat) (x1 : Int32) (w : Wd) (z : Wd) (h : fX2_chooseOperand n x1 w = some z) (sz : Nat) : Met l yX2_chooseOperand wsX2_chooseOperand ({ frames := 1, cells := 0, slots := 0, locals := 20 } : Room) (ez_Pc D (tC k) [.ref (a 4), .int x1] (wC a k w) sz) (ez_Qv D (tC k) (va_A (wC a k w) sz) (wC a k z)) 0 0 (va_A (wC a k w) sz) :=
  ez_mk (Qf := fun A => (ez_Qv D (tC k) A (wC a k z))) (by decide) rfl (Nat.le_of_ble_eq_true rfl) (fun p e s m below meth c A ls C0 _ hl hP hD hK => tX2_chooseOperand_0 C0 hK n s.heap [] ls x1 w (lv_sub (l := [(0, .ref (a 4)), (1, .int x1)]) hl [0, 1] rfl) hP hD va_S.rf h) sz
/-! EnclosureCalculator$Spans choose -/
theorem dX2_choose_0 : decode cX2_choose 0 = .ok (.iconst 0, 1) := by decide +kernel
theorem dX2_choose_1 : decode cX2_choose 1 = .ok (.istore 4, 2) := by decide +kernel
theorem dX2_choose_3 : decode cX2_choose 3 = .ok (.iload 4, 2) := by decide +kernel
theorem dX2_choose_5 : decode cX2_choose 5 = .ok (.bipush 80, 2) := by decide +kernel
theorem dX2_choose_7 : decode cX2_choose 7 = .ok (.if_icmp .ge 33, 3) := by decide +kernel
theorem dX2_choose_10 : decode cX2_choose 10 = .ok (.aload_n 0, 1) := by decide +kernel
theorem dX2_choose_11 : decode cX2_choose 11 = .ok (.getfield 9, 3) := by decide +kernel
theorem dX2_choose_14 : decode cX2_choose 14 = .ok (.iload 4, 2) := by decide +kernel
theorem dX2_choose_16 : decode cX2_choose 16 = .ok (.iload 4, 2) := by decide +kernel
theorem dX2_choose_18 : decode cX2_choose 18 = .ok (.iload_n 2, 1) := by decide +kernel
theorem dX2_choose_19 : decode cX2_choose 19 = .ok (.if_icmp .eq 9, 3) := by decide +kernel
theorem dX2_choose_22 : decode cX2_choose 22 = .ok (.iload 4, 2) := by decide +kernel
theorem dX2_choose_24 : decode cX2_choose 24 = .ok (.iload_n 3, 1) := by decide +kernel
theorem dX2_choose_25 : decode cX2_choose 25 = .ok (.if_icmp .ne 7, 3) := by decide +kernel
theorem dX2_choose_28 : decode cX2_choose 28 = .ok (.iconst 1, 1) := by decide +kernel
theorem dX2_choose_29 : decode cX2_choose 29 = .ok (.goto 4, 3) := by decide +kernel
theorem dX2_choose_32 : decode cX2_choose 32 = .ok (.iconst 0, 1) := by decide +kernel
theorem dX2_choose_33 : decode cX2_choose 33 = .ok (.bastore, 1) := by decide +kernel
theorem dX2_choose_34 : decode cX2_choose 34 = .ok (.iinc 4 1, 3) := by decide +kernel
theorem dX2_choose_37 : decode cX2_choose 37 = .ok (.goto (-34), 3) := by decide +kernel
theorem dX2_choose_40 : decode cX2_choose 40 = .ok (.iconst 0, 1) := by decide +kernel
theorem dX2_choose_41 : decode cX2_choose 41 = .ok (.istore 4, 2) := by decide +kernel
theorem dX2_choose_43 : decode cX2_choose 43 = .ok (.bipush 79, 2) := by decide +kernel
theorem dX2_choose_45 : decode cX2_choose 45 = .ok (.istore 5, 2) := by decide +kernel
theorem dX2_choose_47 : decode cX2_choose 47 = .ok (.iload 5, 2) := by decide +kernel
theorem dX2_choose_49 : decode cX2_choose 49 = .ok (.ifCond .lt 42, 3) := by decide +kernel
theorem dX2_choose_52 : decode cX2_choose 52 = .ok (.aload_n 0, 1) := by decide +kernel
theorem dX2_choose_53 : decode cX2_choose 53 = .ok (.getfield 9, 3) := by decide +kernel
theorem dX2_choose_56 : decode cX2_choose 56 = .ok (.iload 5, 2) := by decide +kernel
theorem dX2_choose_58 : decode cX2_choose 58 = .ok (.baload, 1) := by decide +kernel
theorem dX2_choose_59 : decode cX2_choose 59 = .ok (.ifCond .eq 26, 3) := by decide +kernel
theorem dX2_choose_62 : decode cX2_choose 62 = .ok (.iinc 4 1, 3) := by decide +kernel
theorem dX2_choose_65 : decode cX2_choose 65 = .ok (.aload_n 0, 1) := by decide +kernel
theorem dX2_choose_66 : decode cX2_choose 66 = .ok (.aload_n 1, 1) := by decide +kernel
theorem dX2_choose_67 : decode cX2_choose 67 = .ok (.iload 5, 2) := by decide +kernel
theorem dX2_choose_69 : decode cX2_choose 69 = .ok (.invokevirtual 26, 3) := by decide +kernel
theorem dX2_choose_72 : decode cX2_choose 72 = .ok (.invokevirtual 30, 3) := by decide +kernel
theorem dX2_choose_75 : decode cX2_choose 75 = .ok (.aload_n 0, 1) := by decide +kernel
theorem dX2_choose_76 : decode cX2_choose 76 = .ok (.aload_n 1, 1) := by decide +kernel
theorem dX2_choose_77 : decode cX2_choose 77 = .ok (.iload 5, 2) := by decide +kernel
theorem dX2_choose_79 : decode cX2_choose 79 = .ok (.invokevirtual 34, 3) := by decide +kernel
theorem dX2_choose_82 : decode cX2_choose 82 = .ok (.invokevirtual 30, 3) := by decide +kernel
theorem dX2_choose_85 : decode cX2_choose 85 = .ok (.iinc 5 (-1), 3) := by decide +kernel
theorem dX2_choose_88 : decode cX2_choose 88 = .ok (.goto (-41), 3) := by decide +kernel
theorem dX2_choose_91 : decode cX2_choose 91 = .ok (.iload 4, 2) := by decide +kernel
theorem dX2_choose_93 : decode cX2_choose 93 = .ok (.ireturn, 1) := by decide +kernel
def fX2_choose_47 : Nat → Int32 → Int32 → Wd → Option (Int32 × Wd)
  | 0, _, _, _ => none
  | n + 1, x4, x5, w =>
    if x5 < 0 then
      some (x4, w)
    else
      (ez_ldI w 9 80 x5).bind fun y3 =>
      if y3 = 0 then
        fX2_choose_47 n x4 (x5 + (-1)) w
      else
        (fX0_firstOf n x5 w).bind fun z5 =>
        (fX2_chooseOperand n z5 w).bind fun z7 =>
        (fX0_secondOf n x5 z7).bind fun z9 =>
        (fX2_chooseOperand n z9 z7).bind fun z11 =>
        fX2_choose_47 n (x4 + 1) (x5 + (-1)) z11
def fX2_choose_3 : Nat → Int32 → Int32 → Int32 → Wd → Option (Int32 × Wd)
  | 0, _, _, _, _ => none
  | n + 1, x2, x3, x4, w =>
    if 80 ≤ x4 then
      fX2_choose_47 n 0 79 w
    else
      if x4 = x2 then
        (ez_stI w 9 80 x4 (vp_nar .boolean 1)).bind fun w4 =>
        fX2_choose_3 n x2 x3 (x4 + 1) w4
      else
        if x4 = x3 then
          (ez_stI w 9 80 x4 (vp_nar .boolean 1)).bind fun w9 =>
          fX2_choose_3 n x2 x3 (x4 + 1) w9
        else
          (ez_stI w 9 80 x4 (vp_nar .boolean 0)).bind fun w7 =>
          fX2_choose_3 n x2 x3 (x4 + 1) w7
def fX2_choose (n : Nat) (x2 : Int32) (x3 : Int32) (w : Wd) : Option (Int32 × Wd) :=
    fX2_choose_3 n x2 x3 0 w
set_option maxHeartbeats 4000000 in
set_option maxRecDepth 100000 in
theorem tX2_choose_47 {p : Program} {l : Launch} {e : Env} {s : State} {m : MethodId} {args : Array Value} {below : List Frame} {meth : Method} {c : Code} {A : Nat → Prop} {D : va_G} {a : Nat → Nat} {k : Nat → ClassId} {z : Int32 × Wd} (C0 : ez_C p s m args meth c cX2_choose (some .int) 6 RX2 A) (hK : va_K D vwCl (tC k) s) : ∀ (n : Nat) (H : Heap) (locs : List Loc) (ls : Array Slot) (x4 : Int32) (x5 : Int32) (w : Wd), lv_has ls 6 [(0, .ref (a 4)), (1, .ref (a 2)), (4, .int x4), (5, .int x5)] → va_P D vwCl (wC a k w) H → va_D A (wC a k w) → va_S A s.heap H locs → fX2_choose_47 n x4 x5 w = some z → W p l e ({ frames := 2, cells := 0, slots := 0, locals := 41 } : Room) s m args below meth c H locs 0 0 (MQ below (ez_Qi D (tC k) A z.1 (wC a k z.2)) args s 0 0 A) (F0 m 47 ls []) := by
  intro n
  induction n with
  | zero =>
    intro H locs ls x4 x5 w hl hP hD hS h
    rw [fX2_choose_47] at h
    cases h
  | succ n ih =>
    intro H locs ls x4 x5 w hl hP hD hS h
    rw [fX2_choose_47] at h
    have C1 := C0
    obtain ⟨hx, hb, hr, hml, hown, hw, hlk, hA, hN⟩ := C1
    refine lv_iload (pc := 47) hx hb dX2_choose_47 (lv_at hl 3 rfl) ?_
    refine lv_if_lt (pc := 49) (tgt := 91) hx hb dX2_choose_49 (by decide) (fun c1 => ?_) (fun c1 => ?_)
    · replace h := ez_it c1 h
      refine lv_iload (pc := 91) hx hb dX2_choose_91 (lv_at hl 2 rfl) ?_
      obtain rfl := ez_r1 h
      exact ez_retI C0 hP hD hK hS dX2_choose_93
    · replace h := ez_if c1 h
      refine lv_aload_n (pc := 52) hx hb dX2_choose_52 rfl (lv_at hl 0 rfl) ?_
      refine va_get (D := D) (pc := 53) hx hb hw inX2 hown hK hP 4 rfl rfl 0 (by decide) (hw _ mw45) (fun _ h9 => h9) rfl dX2_choose_53 ?_
      refine lv_iload (pc := 56) hx hb dX2_choose_56 (lv_at hl 3 rfl) ?_
      replace h := ez_bd h
      obtain ⟨y3, e2, h⟩ := h
      obtain ⟨e2i, e2⟩ := ez_ldIs e2
      refine va_zald (D := D) (pc := 58) hx hb hK hP 9 6 rfl rfl e2i dX2_choose_58 ?_
      refine lv_topi (fun y9 hy9 => ?_)
      obtain rfl : y3 = y9 := e2.trans hy9.symm
      refine lv_if_eq (pc := 59) (tgt := 85) hx hb dX2_choose_59 (by decide) (fun c4 => ?_) (fun c4 => ?_)
      · replace h := ez_it c4 h
        refine lv_iinc (v := (x5 + (-1))) (k := 3) (pc := 85) hx hb dX2_choose_85 hl rfl rfl (by decide) rfl (fun ls hl => ?_)
        replace hl : lv_has ls 6 [(5, .int (x5 + (-1))), (0, .ref (a 4)), (1, .ref (a 2)), (4, .int x4)] := hl
        refine lv_goto (pc := 88) (tgt := 47) hx hb dX2_choose_88 (by decide) ?_
        exact ih _ _ _ x4 (x5 + (-1)) w (lv_sub hl [1, 2, 3, 0] rfl) hP hD hS h
      · replace h := ez_if c4 h
        refine lv_iinc (v := (x4 + 1)) (k := 2) (pc := 62) hx hb dX2_choose_62 hl rfl rfl (by decide) rfl (fun ls hl => ?_)
        replace hl : lv_has ls 6 [(4, .int (x4 + 1)), (0, .ref (a 4)), (1, .ref (a 2)), (5, .int x5)] := hl
        refine lv_aload_n (pc := 65) hx hb dX2_choose_65 rfl (lv_at hl 1 rfl) ?_
        refine lv_aload_n (pc := 66) hx hb dX2_choose_66 rfl (lv_at hl 2 rfl) ?_
        refine lv_iload (pc := 67) hx hb dX2_choose_67 (lv_at hl 3 rfl) ?_
        replace h := ez_bd h
        obtain ⟨z5, e6, h⟩ := h
        refine ez_croI (r := z5) (pc := 69) (va_runV (g := F0 m 69 ls [.int x5, .ref (a 2), .ref (a 4)]) (As := [.int x5]) (rest := [.ref (a 4)]) ⟨hx, hb, hml, hown, hw⟩ (kX0_firstOf l D a k n x5 w z5 e6) (cwV 1 hw (ez_gV mw251 mw252 mw253 mw2 mw254) rfl rfl rfl (by decide +kernel) ⟨Nat.le_of_ble_eq_true rfl, Nat.le_of_ble_eq_true rfl⟩) (ez_preRV (wr := []) (wl := (wC a k w)) hP hK hN 2 rfl rfl) rfl rfl hl.1 rfl (lv_room (Nat.le_of_ble_eq_true rfl)) dX2_choose_69 ⟨Nat.le_refl _, Nat.le_refl _⟩) ?_
        replace h := ez_bd h
        obtain ⟨z7, e8, h⟩ := h
        refine ez_callV (pc := 72) (wr := []) (wl := (wC a k w)) (wl' := (wC a k z7)) (va_runV (g := F0 m 72 ls [.int z5, .ref (a 4)]) (As := [.int z5]) (rest := []) ⟨hx, hb, hml, hown, hw⟩ (kX2_chooseOperand l D a k n z5 w z7 e8 H.size) (cwV 1 hw (ez_gV mw258 mw260 mp14 mw3 mw261) rfl rfl rfl (by decide +kernel) ⟨Nat.le_of_ble_eq_true rfl, Nat.le_of_ble_eq_true rfl⟩) (ez_preV (wr := []) (wl := (wC a k w)) hP hD hK hN 4 rfl rfl) rfl rfl hl.1 rfl (lv_room (Nat.le_of_ble_eq_true rfl)) dX2_choose_72 ⟨Nat.le_refl _, Nat.le_refl _⟩) hP hD hS hA (fun H locs hP hD hS => ?_)
        replace hP : va_P D vwCl (wC a k z7) H := hP
        replace hD : va_D A (wC a k z7) := hD
        refine lv_aload_n (pc := 75) hx hb dX2_choose_75 rfl (lv_at hl 1 rfl) ?_
        refine lv_aload_n (pc := 76) hx hb dX2_choose_76 rfl (lv_at hl 2 rfl) ?_
        refine lv_iload (pc := 77) hx hb dX2_choose_77 (lv_at hl 3 rfl) ?_
        replace h := ez_bd h
        obtain ⟨z9, e10, h⟩ := h
        refine ez_croI (r := z9) (pc := 79) (va_runV (g := F0 m 79 ls [.int x5, .ref (a 2), .ref (a 4)]) (As := [.int x5]) (rest := [.ref (a 4)]) ⟨hx, hb, hml, hown, hw⟩ (kX0_secondOf l D a k n x5 z7 z9 e10) (cwV 1 hw (ez_gV mw263 mw264 mw265 mw2 mw266) rfl rfl rfl (by decide +kernel) ⟨Nat.le_of_ble_eq_true rfl, Nat.le_of_ble_eq_true rfl⟩) (ez_preRV (wr := []) (wl := (wC a k z7)) hP hK hN 2 rfl rfl) rfl rfl hl.1 rfl (lv_room (Nat.le_of_ble_eq_true rfl)) dX2_choose_79 ⟨Nat.le_refl _, Nat.le_refl _⟩) ?_
        replace h := ez_bd h
        obtain ⟨z11, e12, h⟩ := h
        refine ez_callV (pc := 82) (wr := []) (wl := (wC a k z7)) (wl' := (wC a k z11)) (va_runV (g := F0 m 82 ls [.int z9, .ref (a 4)]) (As := [.int z9]) (rest := []) ⟨hx, hb, hml, hown, hw⟩ (kX2_chooseOperand l D a k n z9 z7 z11 e12 H.size) (cwV 1 hw (ez_gV mw258 mw260 mp14 mw3 mw261) rfl rfl rfl (by decide +kernel) ⟨Nat.le_of_ble_eq_true rfl, Nat.le_of_ble_eq_true rfl⟩) (ez_preV (wr := []) (wl := (wC a k z7)) hP hD hK hN 4 rfl rfl) rfl rfl hl.1 rfl (lv_room (Nat.le_of_ble_eq_true rfl)) dX2_choose_82 ⟨Nat.le_refl _, Nat.le_refl _⟩) hP hD hS hA (fun H locs hP hD hS => ?_)
        replace hP : va_P D vwCl (wC a k z11) H := hP
        replace hD : va_D A (wC a k z11) := hD
        refine lv_iinc (v := (x5 + (-1))) (k := 3) (pc := 85) hx hb dX2_choose_85 hl rfl rfl (by decide) rfl (fun ls hl => ?_)
        replace hl : lv_has ls 6 [(5, .int (x5 + (-1))), (4, .int (x4 + 1)), (0, .ref (a 4)), (1, .ref (a 2))] := hl
        refine lv_goto (pc := 88) (tgt := 47) hx hb dX2_choose_88 (by decide) ?_
        exact ih _ _ _ (x4 + 1) (x5 + (-1)) z11 (lv_sub hl [2, 3, 1, 0] rfl) hP hD hS h
set_option maxHeartbeats 4000000 in
set_option maxRecDepth 100000 in
theorem tX2_choose_3 {p : Program} {l : Launch} {e : Env} {s : State} {m : MethodId} {args : Array Value} {below : List Frame} {meth : Method} {c : Code} {A : Nat → Prop} {D : va_G} {a : Nat → Nat} {k : Nat → ClassId} {z : Int32 × Wd} (C0 : ez_C p s m args meth c cX2_choose (some .int) 6 RX2 A) (hK : va_K D vwCl (tC k) s) : ∀ (n : Nat) (H : Heap) (locs : List Loc) (ls : Array Slot) (x2 : Int32) (x3 : Int32) (x4 : Int32) (w : Wd), lv_has ls 6 [(0, .ref (a 4)), (1, .ref (a 2)), (2, .int x2), (3, .int x3), (4, .int x4)] → va_P D vwCl (wC a k w) H → va_D A (wC a k w) → va_S A s.heap H locs → fX2_choose_3 n x2 x3 x4 w = some z → W p l e ({ frames := 2, cells := 0, slots := 0, locals := 41 } : Room) s m args below meth c H locs 0 0 (MQ below (ez_Qi D (tC k) A z.1 (wC a k z.2)) args s 0 0 A) (F0 m 3 ls []) := by
  intro n
  induction n with
  | zero =>
    intro H locs ls x2 x3 x4 w hl hP hD hS h
    rw [fX2_choose_3] at h
    cases h
  | succ n ih =>
    intro H locs ls x2 x3 x4 w hl hP hD hS h
    rw [fX2_choose_3] at h
    have C1 := C0
    obtain ⟨hx, hb, hr, hml, hown, hw, hlk, hA, hN⟩ := C1
    refine lv_iload (pc := 3) hx hb dX2_choose_3 (lv_at hl 4 rfl) ?_
    refine lv_bipush (v := 80) (pc := 5) hx hb dX2_choose_5 rfl ?_
    refine lv_icmp_ge (pc := 7) (tgt := 40) hx hb dX2_choose_7 (by decide) (fun c1 => ?_) (fun c1 => ?_)
    · replace h := ez_it c1 h
      refine lv_iconst (v := 0) (pc := 40) hx hb dX2_choose_40 rfl ?_
      refine lv_istore (pc := 41) hx hb dX2_choose_41 hl (by decide) rfl (fun ls hl => ?_)
      replace hl : lv_has ls 6 [(4, .int 0), (0, .ref (a 4)), (1, .ref (a 2)), (2, .int x2), (3, .int x3)] := hl
      refine lv_bipush (v := 79) (pc := 43) hx hb dX2_choose_43 rfl ?_
      refine lv_istore (pc := 45) hx hb dX2_choose_45 hl (by decide) rfl (fun ls hl => ?_)
      replace hl : lv_has ls 6 [(5, .int 79), (4, .int 0), (0, .ref (a 4)), (1, .ref (a 2)), (2, .int x2), (3, .int x3)] := hl
      exact tX2_choose_47 C0 hK  n _ _ _ 0 79 w (lv_sub hl [2, 3, 1, 0] rfl) hP hD hS h
    · replace h := ez_if c1 h
      refine lv_aload_n (pc := 10) hx hb dX2_choose_10 rfl (lv_at hl 0 rfl) ?_
      refine va_get (D := D) (pc := 11) hx hb hw inX2 hown hK hP 4 rfl rfl 0 (by decide) (hw _ mw45) (fun _ h9 => h9) rfl dX2_choose_11 ?_
      refine lv_iload (pc := 14) hx hb dX2_choose_14 (lv_at hl 4 rfl) ?_
      refine lv_iload (pc := 16) hx hb dX2_choose_16 (lv_at hl 4 rfl) ?_
      refine lv_iload_n (pc := 18) hx hb dX2_choose_18 rfl (lv_at hl 2 rfl) ?_
      refine lv_icmp_eq (pc := 19) (tgt := 28) hx hb dX2_choose_19 (by decide) (fun c2 => ?_) (fun c2 => ?_)
      · replace h := ez_it c2 h
        refine lv_iconst (v := 1) (pc := 28) hx hb dX2_choose_28 rfl ?_
        refine lv_goto (pc := 29) (tgt := 33) hx hb dX2_choose_29 (by decide) ?_
        replace h := ez_bd h
        obtain ⟨w4, e3, h⟩ := h
        obtain ⟨e3i, e3⟩ := ez_stIs e3
        refine va_zast (D := D) (pc := 33) hx hb hK hP hD hS 9 6 rfl rfl e3i dX2_choose_33 (fun H locs hP hD hS => ?_)
        replace hP : va_P D vwCl (wC a k w4) H := by rw [e3]; exact hP
        replace hD : va_D A (wC a k w4) := by rw [e3]; exact hD
        refine lv_iinc (v := (x4 + 1)) (k := 4) (pc := 34) hx hb dX2_choose_34 hl rfl rfl (by decide) rfl (fun ls hl => ?_)
        replace hl : lv_has ls 6 [(4, .int (x4 + 1)), (0, .ref (a 4)), (1, .ref (a 2)), (2, .int x2), (3, .int x3)] := hl
        refine lv_goto (pc := 37) (tgt := 3) hx hb dX2_choose_37 (by decide) ?_
        exact ih _ _ _ x2 x3 (x4 + 1) w4 (lv_sub hl [1, 2, 3, 4, 0] rfl) hP hD hS h
      · replace h := ez_if c2 h
        refine lv_iload (pc := 22) hx hb dX2_choose_22 (lv_at hl 4 rfl) ?_
        refine lv_iload_n (pc := 24) hx hb dX2_choose_24 rfl (lv_at hl 3 rfl) ?_
        refine lv_icmp_ne (pc := 25) (tgt := 32) hx hb dX2_choose_25 (by decide) (fun c5 => ?_) (fun c5 => ?_)
        · replace h := ez_if c5 h
          refine lv_iconst (v := 0) (pc := 32) hx hb dX2_choose_32 rfl ?_
          replace h := ez_bd h
          obtain ⟨w7, e6, h⟩ := h
          obtain ⟨e6i, e6⟩ := ez_stIs e6
          refine va_zast (D := D) (pc := 33) hx hb hK hP hD hS 9 6 rfl rfl e6i dX2_choose_33 (fun H locs hP hD hS => ?_)
          replace hP : va_P D vwCl (wC a k w7) H := by rw [e6]; exact hP
          replace hD : va_D A (wC a k w7) := by rw [e6]; exact hD
          refine lv_iinc (v := (x4 + 1)) (k := 4) (pc := 34) hx hb dX2_choose_34 hl rfl rfl (by decide) rfl (fun ls hl => ?_)
          replace hl : lv_has ls 6 [(4, .int (x4 + 1)), (0, .ref (a 4)), (1, .ref (a 2)), (2, .int x2), (3, .int x3)] := hl
          refine lv_goto (pc := 37) (tgt := 3) hx hb dX2_choose_37 (by decide) ?_
          exact ih _ _ _ x2 x3 (x4 + 1) w7 (lv_sub hl [1, 2, 3, 4, 0] rfl) hP hD hS h
        · replace h := ez_it c5 h
          refine lv_iconst (v := 1) (pc := 28) hx hb dX2_choose_28 rfl ?_
          refine lv_goto (pc := 29) (tgt := 33) hx hb dX2_choose_29 (by decide) ?_
          replace h := ez_bd h
          obtain ⟨w9, e8, h⟩ := h
          obtain ⟨e8i, e8⟩ := ez_stIs e8
          refine va_zast (D := D) (pc := 33) hx hb hK hP hD hS 9 6 rfl rfl e8i dX2_choose_33 (fun H locs hP hD hS => ?_)
          replace hP : va_P D vwCl (wC a k w9) H := by rw [e8]; exact hP
          replace hD : va_D A (wC a k w9) := by rw [e8]; exact hD
          refine lv_iinc (v := (x4 + 1)) (k := 4) (pc := 34) hx hb dX2_choose_34 hl rfl rfl (by decide) rfl (fun ls hl => ?_)
          replace hl : lv_has ls 6 [(4, .int (x4 + 1)), (0, .ref (a 4)), (1, .ref (a 2)), (2, .int x2), (3, .int x3)] := hl
          refine lv_goto (pc := 37) (tgt := 3) hx hb dX2_choose_37 (by decide) ?_
          exact ih _ _ _ x2 x3 (x4 + 1) w9 (lv_sub hl [1, 2, 3, 4, 0] rfl) hP hD hS h
set_option maxHeartbeats 4000000 in
set_option maxRecDepth 100000 in
theorem tX2_choose_0 {p : Program} {l : Launch} {e : Env} {s : State} {m : MethodId} {args : Array Value} {below : List Frame} {meth : Method} {c : Code} {A : Nat → Prop} {D : va_G} {a : Nat → Nat} {k : Nat → ClassId} {z : Int32 × Wd} (C0 : ez_C p s m args meth c cX2_choose (some .int) 6 RX2 A) (hK : va_K D vwCl (tC k) s) : ∀ (n : Nat) (H : Heap) (locs : List Loc) (ls : Array Slot) (x2 : Int32) (x3 : Int32) (w : Wd), lv_has ls 6 [(0, .ref (a 4)), (1, .ref (a 2)), (2, .int x2), (3, .int x3)] → va_P D vwCl (wC a k w) H → va_D A (wC a k w) → va_S A s.heap H locs → fX2_choose n x2 x3 w = some z → W p l e ({ frames := 2, cells := 0, slots := 0, locals := 41 } : Room) s m args below meth c H locs 0 0 (MQ below (ez_Qi D (tC k) A z.1 (wC a k z.2)) args s 0 0 A) (F0 m 0 ls []) := by
  intro n
  intro H locs ls x2 x3 w hl hP hD hS h
  rw [fX2_choose] at h
  have C1 := C0
  obtain ⟨hx, hb, hr, hml, hown, hw, hlk, hA, hN⟩ := C1
  refine lv_iconst (v := 0) (pc := 0) hx hb dX2_choose_0 rfl ?_
  refine lv_istore (pc := 1) hx hb dX2_choose_1 hl (by decide) rfl (fun ls hl => ?_)
  replace hl : lv_has ls 6 [(4, .int 0), (0, .ref (a 4)), (1, .ref (a 2)), (2, .int x2), (3, .int x3)] := hl
  exact tX2_choose_3 C0 hK  n _ _ _ x2 x3 0 w (lv_sub hl [1, 2, 3, 4, 0] rfl) hP hD hS h
set_option maxRecDepth 100000 in
theorem kX2_choose (l : Launch) (D : va_G) (a : Nat → Nat) (k : Nat → ClassId) (n : Nat) (x2 : Int32) (x3 : Int32) (w : Wd) (z : Int32 × Wd) (h : fX2_choose n x2 x3 w = some z) (sz : Nat) : Met l yX2_choose wsX2_choose ({ frames := 2, cells := 0, slots := 0, locals := 41 } : Room) (ez_Pc D (tC k) [.ref (a 4), .ref (a 2), .int x2, .int x3] (wC a k w) sz) (ez_Qi D (tC k) (va_A (wC a k w) sz) z.1 (wC a k z.2)) 0 0 (va_A (wC a k w) sz) :=
  ez_mk (Qf := fun A => (ez_Qi D (tC k) A z.1 (wC a k z.2))) (by decide) rfl (Nat.le_of_ble_eq_true rfl) (fun p e s m below meth c A ls C0 _ hl hP hD hK => tX2_choose_0 C0 hK n s.heap [] ls x2 x3 w (lv_sub (l := [(0, .ref (a 4)), (1, .ref (a 2)), (2, .int x2), (3, .int x3)]) hl [0, 1, 2, 3] rfl) hP hD va_S.rf h) sz
/-! EnclosureCalculator$Spans isFalse -/
theorem dX2_isFalse_0 : decode cX2_isFalse 0 = .ok (.iload_n 1, 1) := by decide +kernel
theorem dX2_isFalse_1 : decode cX2_isFalse 1 = .ok (.invokestatic 37, 3) := by decide +kernel
theorem dX2_isFalse_4 : decode cX2_isFalse 4 = .ok (.ifCond .eq 17, 3) := by decide +kernel
theorem dX2_isFalse_7 : decode cX2_isFalse 7 = .ok (.aload_n 0, 1) := by decide +kernel
theorem dX2_isFalse_8 : decode cX2_isFalse 8 = .ok (.getfield 15, 3) := by decide +kernel
theorem dX2_isFalse_11 : decode cX2_isFalse 11 = .ok (.iload_n 1, 1) := by decide +kernel
theorem dX2_isFalse_12 : decode cX2_isFalse 12 = .ok (.iaload, 1) := by decide +kernel
theorem dX2_isFalse_13 : decode cX2_isFalse 13 = .ok (.iconst 1, 1) := by decide +kernel
theorem dX2_isFalse_14 : decode cX2_isFalse 14 = .ok (.if_icmp .ne 7, 3) := by decide +kernel
theorem dX2_isFalse_17 : decode cX2_isFalse 17 = .ok (.iconst 1, 1) := by decide +kernel
theorem dX2_isFalse_18 : decode cX2_isFalse 18 = .ok (.goto 4, 3) := by decide +kernel
theorem dX2_isFalse_21 : decode cX2_isFalse 21 = .ok (.iconst 0, 1) := by decide +kernel
theorem dX2_isFalse_22 : decode cX2_isFalse 22 = .ok (.ireturn, 1) := by decide +kernel
def fX2_isFalse (n : Nat) (x1 : Int32) (w : Wd) : Option (Int32) :=
    (fX0_has n x1).bind fun z1 =>
    if z1 = 0 then
      some 0
    else
      (ez_ldI w 10 80 x1).bind fun y5 =>
      if y5 = 1 then
        some 1
      else
        some 0
set_option maxHeartbeats 4000000 in
set_option maxRecDepth 100000 in
theorem tX2_isFalse_0 {p : Program} {l : Launch} {e : Env} {s : State} {m : MethodId} {args : Array Value} {below : List Frame} {meth : Method} {c : Code} {D : va_G} {a : Nat → Nat} {k : Nat → ClassId} {z : Int32} {w : Wd} (C0 : ez_C p s m args meth c cX2_isFalse (some .boolean) 2 RX2 (fun _ => True)) (hK : va_K D vwCl (tC k) s) (hP : va_P D vwCl (wC a k w) s.heap) : ∀ (n : Nat) (ls : Array Slot) (x1 : Int32), lv_has ls 2 [(0, .ref (a 4)), (1, .int x1)] → fX2_isFalse n x1 w = some z → W p l e ({ frames := 1, cells := 0, slots := 0, locals := 20 } : Room) s m args below meth c s.heap [] 0 0 (MQ below (ez_Ri z) args s 0 0 (fun _ => False)) (F0 m 0 ls []) := by
  intro n
  intro ls x1 hl h
  rw [fX2_isFalse] at h
  have C1 := C0
  obtain ⟨hx, hb, hr, hml, hown, hw, hlk, hA, hN⟩ := C1
  refine lv_iload_n (pc := 0) hx hb dX2_isFalse_0 rfl (lv_at hl 1 rfl) ?_
  replace h := ez_bd h
  obtain ⟨z1, e2, h⟩ := h
  refine ez_croI (r := z1) (pc := 1) (va_runS (g := F0 m 1 ls [.int x1]) (As := [.int x1]) (rest := []) ⟨hx, hb, hml, hown, hw⟩ (kX0_has l n x1 z1 e2) (va_cwS 1 hw (ez_gS mw262 mw256 mw2 mw257) rfl rfl rfl (by decide +kernel) ⟨Nat.le_of_ble_eq_true rfl, Nat.le_of_ble_eq_true rfl⟩) (ez_preRS hN) rfl rfl hl.1 rfl (lv_room (Nat.le_of_ble_eq_true rfl)) dX2_isFalse_1 ⟨Nat.le_refl _, Nat.le_refl _⟩) ?_
  refine lv_if_eq (pc := 4) (tgt := 21) hx hb dX2_isFalse_4 (by decide) (fun c3 => ?_) (fun c3 => ?_)
  · replace h := ez_it c3 h
    refine lv_iconst (v := 0) (pc := 21) hx hb dX2_isFalse_21 rfl ?_
    obtain rfl := ez_r1 h
    exact ez_rroZ C0 (rfl) dX2_isFalse_22
  · replace h := ez_if c3 h
    refine lv_aload_n (pc := 7) hx hb dX2_isFalse_7 rfl (lv_at hl 0 rfl) ?_
    refine va_get (D := D) (pc := 8) hx hb hw inX2 hown hK hP 4 rfl rfl 1 (by decide) (hw _ mw46) (fun _ h9 => h9) rfl dX2_isFalse_8 ?_
    refine lv_iload_n (pc := 11) hx hb dX2_isFalse_11 rfl (lv_at hl 1 rfl) ?_
    replace h := ez_bd h
    obtain ⟨y5, e4, h⟩ := h
    obtain ⟨e4i, e4⟩ := ez_ldIs e4
    refine va_iald (D := D) (pc := 12) hx hb hK hP 10 7 rfl rfl e4i dX2_isFalse_12 ?_
    refine lv_topi (fun y9 hy9 => ?_)
    obtain rfl : y5 = y9 := e4.trans hy9.symm
    refine lv_iconst (v := 1) (pc := 13) hx hb dX2_isFalse_13 rfl ?_
    refine lv_icmp_ne (pc := 14) (tgt := 21) hx hb dX2_isFalse_14 (by decide) (fun c6 => ?_) (fun c6 => ?_)
    · replace h := ez_if c6 h
      refine lv_iconst (v := 0) (pc := 21) hx hb dX2_isFalse_21 rfl ?_
      obtain rfl := ez_r1 h
      exact ez_rroZ C0 (rfl) dX2_isFalse_22
    · replace h := ez_it c6 h
      refine lv_iconst (v := 1) (pc := 17) hx hb dX2_isFalse_17 rfl ?_
      refine lv_goto (pc := 18) (tgt := 22) hx hb dX2_isFalse_18 (by decide) ?_
      obtain rfl := ez_r1 h
      exact ez_rroZ C0 (rfl) dX2_isFalse_22
set_option maxRecDepth 100000 in
theorem kX2_isFalse (l : Launch) (D : va_G) (a : Nat → Nat) (k : Nat → ClassId) (n : Nat) (x1 : Int32) (w : Wd) (z : Int32) (h : fX2_isFalse n x1 w = some z) : Met l yX2_isFalse wsX2_isFalse ({ frames := 1, cells := 0, slots := 0, locals := 20 } : Room) (ez_Rc D (tC k) [.ref (a 4), .int x1] (wC a k w)) (ez_Ri z) 0 0 (fun _ => False) :=
  ez_mkR (by decide) rfl (Nat.le_of_ble_eq_true rfl) (fun p e s m below meth c ls C0 hl hP hK => tX2_isFalse_0 C0 hK hP n ls x1 (lv_sub (l := [(0, .ref (a 4)), (1, .int x1)]) hl [0, 1] rfl) h)
/-! EnclosureCalculator$Spans setState -/
theorem dX2_setState_0 : decode cX2_setState 0 = .ok (.iload_n 1, 1) := by decide +kernel
theorem dX2_setState_1 : decode cX2_setState 1 = .ok (.invokestatic 37, 3) := by decide +kernel
theorem dX2_setState_4 : decode cX2_setState 4 = .ok (.ifCond .eq 10, 3) := by decide +kernel
theorem dX2_setState_7 : decode cX2_setState 7 = .ok (.aload_n 0, 1) := by decide +kernel
theorem dX2_setState_8 : decode cX2_setState 8 = .ok (.getfield 15, 3) := by decide +kernel
theorem dX2_setState_11 : decode cX2_setState 11 = .ok (.iload_n 1, 1) := by decide +kernel
theorem dX2_setState_12 : decode cX2_setState 12 = .ok (.iload_n 2, 1) := by decide +kernel
theorem dX2_setState_13 : decode cX2_setState 13 = .ok (.iastore, 1) := by decide +kernel
theorem dX2_setState_14 : decode cX2_setState 14 = .ok (.return_, 1) := by decide +kernel
def fX2_setState (n : Nat) (x1 : Int32) (x2 : Int32) (w : Wd) : Option (Wd) :=
    (fX0_has n x1).bind fun z1 =>
    if z1 = 0 then
      some w
    else
      (ez_stI w 10 80 x1 x2).bind fun w5 =>
      some w5
set_option maxHeartbeats 4000000 in
set_option maxRecDepth 100000 in
theorem tX2_setState_0 {p : Program} {l : Launch} {e : Env} {s : State} {m : MethodId} {args : Array Value} {below : List Frame} {meth : Method} {c : Code} {A : Nat → Prop} {D : va_G} {a : Nat → Nat} {k : Nat → ClassId} {z : Wd} (C0 : ez_C p s m args meth c cX2_setState none 3 RX2 A) (hK : va_K D vwCl (tC k) s) : ∀ (n : Nat) (H : Heap) (locs : List Loc) (ls : Array Slot) (x1 : Int32) (x2 : Int32) (w : Wd), lv_has ls 3 [(0, .ref (a 4)), (1, .int x1), (2, .int x2)] → va_P D vwCl (wC a k w) H → va_D A (wC a k w) → va_S A s.heap H locs → fX2_setState n x1 x2 w = some z → W p l e ({ frames := 1, cells := 0, slots := 0, locals := 20 } : Room) s m args below meth c H locs 0 0 (MQ below (ez_Qv D (tC k) A (wC a k z)) args s 0 0 A) (F0 m 0 ls []) := by
  intro n
  intro H locs ls x1 x2 w hl hP hD hS h
  rw [fX2_setState] at h
  have C1 := C0
  obtain ⟨hx, hb, hr, hml, hown, hw, hlk, hA, hN⟩ := C1
  refine lv_iload_n (pc := 0) hx hb dX2_setState_0 rfl (lv_at hl 1 rfl) ?_
  replace h := ez_bd h
  obtain ⟨z1, e2, h⟩ := h
  refine ez_croI (r := z1) (pc := 1) (va_runS (g := F0 m 1 ls [.int x1]) (As := [.int x1]) (rest := []) ⟨hx, hb, hml, hown, hw⟩ (kX0_has l n x1 z1 e2) (va_cwS 1 hw (ez_gS mw262 mw256 mw2 mw257) rfl rfl rfl (by decide +kernel) ⟨Nat.le_of_ble_eq_true rfl, Nat.le_of_ble_eq_true rfl⟩) (ez_preRS hN) rfl rfl hl.1 rfl (lv_room (Nat.le_of_ble_eq_true rfl)) dX2_setState_1 ⟨Nat.le_refl _, Nat.le_refl _⟩) ?_
  refine lv_if_eq (pc := 4) (tgt := 14) hx hb dX2_setState_4 (by decide) (fun c3 => ?_) (fun c3 => ?_)
  · replace h := ez_it c3 h
    obtain rfl := ez_r1 h
    exact ez_retV C0 hP hD hK hS dX2_setState_14
  · replace h := ez_if c3 h
    refine lv_aload_n (pc := 7) hx hb dX2_setState_7 rfl (lv_at hl 0 rfl) ?_
    refine va_get (D := D) (pc := 8) hx hb hw inX2 hown hK hP 4 rfl rfl 1 (by decide) (hw _ mw46) (fun _ h9 => h9) rfl dX2_setState_8 ?_
    refine lv_iload_n (pc := 11) hx hb dX2_setState_11 rfl (lv_at hl 1 rfl) ?_
    refine lv_iload_n (pc := 12) hx hb dX2_setState_12 rfl (lv_at hl 2 rfl) ?_
    replace h := ez_bd h
    obtain ⟨w5, e4, h⟩ := h
    obtain ⟨e4i, e4⟩ := ez_stIs e4
    refine va_iast (D := D) (pc := 13) hx hb hK hP hD hS 10 7 rfl rfl e4i dX2_setState_13 (fun H locs hP hD hS => ?_)
    replace hP : va_P D vwCl (wC a k w5) H := by rw [e4]; exact hP
    replace hD : va_D A (wC a k w5) := by rw [e4]; exact hD
    obtain rfl := ez_r1 h
    exact ez_retV C0 hP hD hK hS dX2_setState_14
set_option maxRecDepth 100000 in
theorem kX2_setState (l : Launch) (D : va_G) (a : Nat → Nat) (k : Nat → ClassId) (n : Nat) (x1 : Int32) (x2 : Int32) (w : Wd) (z : Wd) (h : fX2_setState n x1 x2 w = some z) (sz : Nat) : Met l yX2_setState wsX2_setState ({ frames := 1, cells := 0, slots := 0, locals := 20 } : Room) (ez_Pc D (tC k) [.ref (a 4), .int x1, .int x2] (wC a k w) sz) (ez_Qv D (tC k) (va_A (wC a k w) sz) (wC a k z)) 0 0 (va_A (wC a k w) sz) :=
  ez_mk (Qf := fun A => (ez_Qv D (tC k) A (wC a k z))) (by decide) rfl (Nat.le_of_ble_eq_true rfl) (fun p e s m below meth c A ls C0 _ hl hP hD hK => tX2_setState_0 C0 hK n s.heap [] ls x1 x2 w (lv_sub (l := [(0, .ref (a 4)), (1, .int x1), (2, .int x2)]) hl [0, 1, 2] rfl) hP hD va_S.rf h) sz
/-! EnclosureCalculator$Spans isOpen -/
theorem dX2_isOpen_0 : decode cX2_isOpen 0 = .ok (.iload_n 1, 1) := by decide +kernel
theorem dX2_isOpen_1 : decode cX2_isOpen 1 = .ok (.invokestatic 37, 3) := by decide +kernel
theorem dX2_isOpen_4 : decode cX2_isOpen 4 = .ok (.ifCond .eq 17, 3) := by decide +kernel
theorem dX2_isOpen_7 : decode cX2_isOpen 7 = .ok (.aload_n 0, 1) := by decide +kernel
theorem dX2_isOpen_8 : decode cX2_isOpen 8 = .ok (.getfield 15, 3) := by decide +kernel
theorem dX2_isOpen_11 : decode cX2_isOpen 11 = .ok (.iload_n 1, 1) := by decide +kernel
theorem dX2_isOpen_12 : decode cX2_isOpen 12 = .ok (.iaload, 1) := by decide +kernel
theorem dX2_isOpen_13 : decode cX2_isOpen 13 = .ok (.iconst 2, 1) := by decide +kernel
theorem dX2_isOpen_14 : decode cX2_isOpen 14 = .ok (.if_icmp .ne 7, 3) := by decide +kernel
theorem dX2_isOpen_17 : decode cX2_isOpen 17 = .ok (.iconst 1, 1) := by decide +kernel
theorem dX2_isOpen_18 : decode cX2_isOpen 18 = .ok (.goto 4, 3) := by decide +kernel
theorem dX2_isOpen_21 : decode cX2_isOpen 21 = .ok (.iconst 0, 1) := by decide +kernel
theorem dX2_isOpen_22 : decode cX2_isOpen 22 = .ok (.ireturn, 1) := by decide +kernel
def fX2_isOpen (n : Nat) (x1 : Int32) (w : Wd) : Option (Int32) :=
    (fX0_has n x1).bind fun z1 =>
    if z1 = 0 then
      some 0
    else
      (ez_ldI w 10 80 x1).bind fun y5 =>
      if y5 = 2 then
        some 1
      else
        some 0
set_option maxHeartbeats 4000000 in
set_option maxRecDepth 100000 in
theorem tX2_isOpen_0 {p : Program} {l : Launch} {e : Env} {s : State} {m : MethodId} {args : Array Value} {below : List Frame} {meth : Method} {c : Code} {D : va_G} {a : Nat → Nat} {k : Nat → ClassId} {z : Int32} {w : Wd} (C0 : ez_C p s m args meth c cX2_isOpen (some .boolean) 2 RX2 (fun _ => True)) (hK : va_K D vwCl (tC k) s) (hP : va_P D vwCl (wC a k w) s.heap) : ∀ (n : Nat) (ls : Array Slot) (x1 : Int32), lv_has ls 2 [(0, .ref (a 4)), (1, .int x1)] → fX2_isOpen n x1 w = some z → W p l e ({ frames := 1, cells := 0, slots := 0, locals := 20 } : Room) s m args below meth c s.heap [] 0 0 (MQ below (ez_Ri z) args s 0 0 (fun _ => False)) (F0 m 0 ls []) := by
  intro n
  intro ls x1 hl h
  rw [fX2_isOpen] at h
  have C1 := C0
  obtain ⟨hx, hb, hr, hml, hown, hw, hlk, hA, hN⟩ := C1
  refine lv_iload_n (pc := 0) hx hb dX2_isOpen_0 rfl (lv_at hl 1 rfl) ?_
  replace h := ez_bd h
  obtain ⟨z1, e2, h⟩ := h
  refine ez_croI (r := z1) (pc := 1) (va_runS (g := F0 m 1 ls [.int x1]) (As := [.int x1]) (rest := []) ⟨hx, hb, hml, hown, hw⟩ (kX0_has l n x1 z1 e2) (va_cwS 1 hw (ez_gS mw262 mw256 mw2 mw257) rfl rfl rfl (by decide +kernel) ⟨Nat.le_of_ble_eq_true rfl, Nat.le_of_ble_eq_true rfl⟩) (ez_preRS hN) rfl rfl hl.1 rfl (lv_room (Nat.le_of_ble_eq_true rfl)) dX2_isOpen_1 ⟨Nat.le_refl _, Nat.le_refl _⟩) ?_
  refine lv_if_eq (pc := 4) (tgt := 21) hx hb dX2_isOpen_4 (by decide) (fun c3 => ?_) (fun c3 => ?_)
  · replace h := ez_it c3 h
    refine lv_iconst (v := 0) (pc := 21) hx hb dX2_isOpen_21 rfl ?_
    obtain rfl := ez_r1 h
    exact ez_rroZ C0 (rfl) dX2_isOpen_22
  · replace h := ez_if c3 h
    refine lv_aload_n (pc := 7) hx hb dX2_isOpen_7 rfl (lv_at hl 0 rfl) ?_
    refine va_get (D := D) (pc := 8) hx hb hw inX2 hown hK hP 4 rfl rfl 1 (by decide) (hw _ mw46) (fun _ h9 => h9) rfl dX2_isOpen_8 ?_
    refine lv_iload_n (pc := 11) hx hb dX2_isOpen_11 rfl (lv_at hl 1 rfl) ?_
    replace h := ez_bd h
    obtain ⟨y5, e4, h⟩ := h
    obtain ⟨e4i, e4⟩ := ez_ldIs e4
    refine va_iald (D := D) (pc := 12) hx hb hK hP 10 7 rfl rfl e4i dX2_isOpen_12 ?_
    refine lv_topi (fun y9 hy9 => ?_)
    obtain rfl : y5 = y9 := e4.trans hy9.symm
    refine lv_iconst (v := 2) (pc := 13) hx hb dX2_isOpen_13 rfl ?_
    refine lv_icmp_ne (pc := 14) (tgt := 21) hx hb dX2_isOpen_14 (by decide) (fun c6 => ?_) (fun c6 => ?_)
    · replace h := ez_if c6 h
      refine lv_iconst (v := 0) (pc := 21) hx hb dX2_isOpen_21 rfl ?_
      obtain rfl := ez_r1 h
      exact ez_rroZ C0 (rfl) dX2_isOpen_22
    · replace h := ez_it c6 h
      refine lv_iconst (v := 1) (pc := 17) hx hb dX2_isOpen_17 rfl ?_
      refine lv_goto (pc := 18) (tgt := 22) hx hb dX2_isOpen_18 (by decide) ?_
      obtain rfl := ez_r1 h
      exact ez_rroZ C0 (rfl) dX2_isOpen_22
set_option maxRecDepth 100000 in
theorem kX2_isOpen (l : Launch) (D : va_G) (a : Nat → Nat) (k : Nat → ClassId) (n : Nat) (x1 : Int32) (w : Wd) (z : Int32) (h : fX2_isOpen n x1 w = some z) : Met l yX2_isOpen wsX2_isOpen ({ frames := 1, cells := 0, slots := 0, locals := 20 } : Room) (ez_Rc D (tC k) [.ref (a 4), .int x1] (wC a k w)) (ez_Ri z) 0 0 (fun _ => False) :=
  ez_mkR (by decide) rfl (Nat.le_of_ble_eq_true rfl) (fun p e s m below meth c ls C0 hl hP hK => tX2_isOpen_0 C0 hK hP n ls x1 (lv_sub (l := [(0, .ref (a 4)), (1, .int x1)]) hl [0, 1] rfl) h)
/-! EnclosureCalculator$Spans setSpan -/
theorem dX2_setSpan_0 : decode cX2_setSpan 0 = .ok (.iload_n 1, 1) := by decide +kernel
theorem dX2_setSpan_1 : decode cX2_setSpan 1 = .ok (.invokestatic 37, 3) := by decide +kernel
theorem dX2_setSpan_4 : decode cX2_setSpan 4 = .ok (.ifCond .ne 4, 3) := by decide +kernel
theorem dX2_setSpan_7 : decode cX2_setSpan 7 = .ok (.return_, 1) := by decide +kernel
theorem dX2_setSpan_8 : decode cX2_setSpan 8 = .ok (.ldc2_w 93, 3) := by decide +kernel
theorem dX2_setSpan_11 : decode cX2_setSpan 11 = .ok (.aload_n 0, 1) := by decide +kernel
theorem dX2_setSpan_12 : decode cX2_setSpan 12 = .ok (.getfield 41, 3) := by decide +kernel
theorem dX2_setSpan_15 : decode cX2_setSpan 15 = .ok (.lshl, 1) := by decide +kernel
theorem dX2_setSpan_16 : decode cX2_setSpan 16 = .ok (.lstore 6, 2) := by decide +kernel
theorem dX2_setSpan_18 : decode cX2_setSpan 18 = .ok (.aload_n 0, 1) := by decide +kernel
theorem dX2_setSpan_19 : decode cX2_setSpan 19 = .ok (.getfield 15, 3) := by decide +kernel
theorem dX2_setSpan_22 : decode cX2_setSpan 22 = .ok (.iload_n 1, 1) := by decide +kernel
theorem dX2_setSpan_23 : decode cX2_setSpan 23 = .ok (.lload 4, 2) := by decide +kernel
theorem dX2_setSpan_25 : decode cX2_setSpan 25 = .ok (.lload 6, 2) := by decide +kernel
theorem dX2_setSpan_27 : decode cX2_setSpan 27 = .ok (.lcmp, 1) := by decide +kernel
theorem dX2_setSpan_28 : decode cX2_setSpan 28 = .ok (.ifCond .gt 11, 3) := by decide +kernel
theorem dX2_setSpan_31 : decode cX2_setSpan 31 = .ok (.lload_n 2, 1) := by decide +kernel
theorem dX2_setSpan_32 : decode cX2_setSpan 32 = .ok (.lload 6, 2) := by decide +kernel
theorem dX2_setSpan_34 : decode cX2_setSpan 34 = .ok (.lneg, 1) := by decide +kernel
theorem dX2_setSpan_35 : decode cX2_setSpan 35 = .ok (.lcmp, 1) := by decide +kernel
theorem dX2_setSpan_36 : decode cX2_setSpan 36 = .ok (.ifCond .ge 7, 3) := by decide +kernel
theorem dX2_setSpan_39 : decode cX2_setSpan 39 = .ok (.iconst 2, 1) := by decide +kernel
theorem dX2_setSpan_40 : decode cX2_setSpan 40 = .ok (.goto 4, 3) := by decide +kernel
theorem dX2_setSpan_43 : decode cX2_setSpan 43 = .ok (.iconst 0, 1) := by decide +kernel
theorem dX2_setSpan_44 : decode cX2_setSpan 44 = .ok (.iastore, 1) := by decide +kernel
theorem dX2_setSpan_45 : decode cX2_setSpan 45 = .ok (.aload_n 0, 1) := by decide +kernel
theorem dX2_setSpan_46 : decode cX2_setSpan 46 = .ok (.getfield 19, 3) := by decide +kernel
theorem dX2_setSpan_49 : decode cX2_setSpan 49 = .ok (.iload_n 1, 1) := by decide +kernel
theorem dX2_setSpan_50 : decode cX2_setSpan 50 = .ok (.lload_n 2, 1) := by decide +kernel
theorem dX2_setSpan_51 : decode cX2_setSpan 51 = .ok (.lastore, 1) := by decide +kernel
theorem dX2_setSpan_52 : decode cX2_setSpan 52 = .ok (.aload_n 0, 1) := by decide +kernel
theorem dX2_setSpan_53 : decode cX2_setSpan 53 = .ok (.getfield 23, 3) := by decide +kernel
theorem dX2_setSpan_56 : decode cX2_setSpan 56 = .ok (.iload_n 1, 1) := by decide +kernel
theorem dX2_setSpan_57 : decode cX2_setSpan 57 = .ok (.lload 4, 2) := by decide +kernel
theorem dX2_setSpan_59 : decode cX2_setSpan 59 = .ok (.lastore, 1) := by decide +kernel
theorem dX2_setSpan_60 : decode cX2_setSpan 60 = .ok (.return_, 1) := by decide +kernel
def fX2_setSpan (n : Nat) (x1 : Int32) (x2 : Int64) (x4 : Int64) (w : Wd) : Option (Wd) :=
    (fX0_has n x1).bind fun z1 =>
    if z1 = 0 then
      some w
    else
      if 0 < (lg_cmp x4 ((4096 : Int64) <<< (Int32.toInt64 (w.1 0 4) &&& 63))) then
        (ez_stI w 10 80 x1 2).bind fun w6 =>
        (ez_stL w6 11 80 x1 x2).bind fun w8 =>
        (ez_stL w8 12 80 x1 x4).bind fun w10 =>
        some w10
      else
        if 0 ≤ (lg_cmp x2 (-((4096 : Int64) <<< (Int32.toInt64 (w.1 0 4) &&& 63)))) then
          (ez_stI w 10 80 x1 0).bind fun w13 =>
          (ez_stL w13 11 80 x1 x2).bind fun w15 =>
          (ez_stL w15 12 80 x1 x4).bind fun w17 =>
          some w17
        else
          (ez_stI w 10 80 x1 2).bind fun w19 =>
          (ez_stL w19 11 80 x1 x2).bind fun w21 =>
          (ez_stL w21 12 80 x1 x4).bind fun w23 =>
          some w23
set_option maxHeartbeats 4000000 in
set_option maxRecDepth 100000 in
theorem tX2_setSpan_0 {p : Program} {l : Launch} {e : Env} {s : State} {m : MethodId} {args : Array Value} {below : List Frame} {meth : Method} {c : Code} {A : Nat → Prop} {D : va_G} {a : Nat → Nat} {k : Nat → ClassId} {z : Wd} (C0 : ez_C p s m args meth c cX2_setSpan none 8 RX2 A) (hK : va_K D vwCl (tC k) s) : ∀ (n : Nat) (H : Heap) (locs : List Loc) (ls : Array Slot) (x1 : Int32) (x2 : Int64) (x4 : Int64) (w : Wd), lv_has ls 8 [(0, .ref (a 4)), (1, .int x1), (2, .long x2), (4, .long x4)] → va_P D vwCl (wC a k w) H → va_D A (wC a k w) → va_S A s.heap H locs → fX2_setSpan n x1 x2 x4 w = some z → W p l e ({ frames := 1, cells := 0, slots := 0, locals := 20 } : Room) s m args below meth c H locs 0 0 (MQ below (ez_Qv D (tC k) A (wC a k z)) args s 0 0 A) (F0 m 0 ls []) := by
  intro n
  intro H locs ls x1 x2 x4 w hl hP hD hS h
  rw [fX2_setSpan] at h
  have C1 := C0
  obtain ⟨hx, hb, hr, hml, hown, hw, hlk, hA, hN⟩ := C1
  refine lv_iload_n (pc := 0) hx hb dX2_setSpan_0 rfl (lv_at hl 1 rfl) ?_
  replace h := ez_bd h
  obtain ⟨z1, e2, h⟩ := h
  refine ez_croI (r := z1) (pc := 1) (va_runS (g := F0 m 1 ls [.int x1]) (As := [.int x1]) (rest := []) ⟨hx, hb, hml, hown, hw⟩ (kX0_has l n x1 z1 e2) (va_cwS 1 hw (ez_gS mw262 mw256 mw2 mw257) rfl rfl rfl (by decide +kernel) ⟨Nat.le_of_ble_eq_true rfl, Nat.le_of_ble_eq_true rfl⟩) (ez_preRS hN) rfl rfl hl.1 rfl (lv_room (Nat.le_of_ble_eq_true rfl)) dX2_setSpan_1 ⟨Nat.le_refl _, Nat.le_refl _⟩) ?_
  refine lv_if_ne (pc := 4) (tgt := 8) hx hb dX2_setSpan_4 (by decide) (fun c3 => ?_) (fun c3 => ?_)
  · replace h := ez_if c3 h
    refine lv_ldc2 (v := 4096) (pc := 8) hx hb hown (hw _ mw317) dX2_setSpan_8 ?_
    refine lv_aload_n (pc := 11) hx hb dX2_setSpan_11 rfl (lv_at hl 0 rfl) ?_
    refine va_get (D := D) (pc := 12) hx hb hw inX2 hown hK hP 4 rfl rfl 4 (by decide) (hw _ mw49) (fun _ h9 => h9) rfl dX2_setSpan_12 ?_
    refine lv_lshl (pc := 15) hx hb dX2_setSpan_15 rfl ?_
    refine lv_lstore (pc := 16) hx hb dX2_setSpan_16 hl (by decide) rfl (fun ls hl => ?_)
    replace hl : lv_has ls 8 [(6, .long ((4096 : Int64) <<< (Int32.toInt64 (w.1 0 4) &&& 63))), (0, .ref (a 4)), (1, .int x1), (2, .long x2), (4, .long x4)] := hl
    refine lv_aload_n (pc := 18) hx hb dX2_setSpan_18 rfl (lv_at hl 1 rfl) ?_
    refine va_get (D := D) (pc := 19) hx hb hw inX2 hown hK hP 4 rfl rfl 1 (by decide) (hw _ mw46) (fun _ h9 => h9) rfl dX2_setSpan_19 ?_
    refine lv_iload_n (pc := 22) hx hb dX2_setSpan_22 rfl (lv_at hl 2 rfl) ?_
    refine lv_lload (pc := 23) hx hb dX2_setSpan_23 (lv_at hl 4 rfl) ?_
    refine lv_lload (pc := 25) hx hb dX2_setSpan_25 (lv_at hl 0 rfl) ?_
    refine W.lcmp (pc := 27) hx hb dX2_setSpan_27 ?_
    refine lv_if_gt (pc := 28) (tgt := 39) hx hb dX2_setSpan_28 (by decide) (fun c4 => ?_) (fun c4 => ?_)
    · replace h := ez_it c4 h
      refine lv_iconst (v := 2) (pc := 39) hx hb dX2_setSpan_39 rfl ?_
      refine lv_goto (pc := 40) (tgt := 44) hx hb dX2_setSpan_40 (by decide) ?_
      replace h := ez_bd h
      obtain ⟨w6, e5, h⟩ := h
      obtain ⟨e5i, e5⟩ := ez_stIs e5
      refine va_iast (D := D) (pc := 44) hx hb hK hP hD hS 10 7 rfl rfl e5i dX2_setSpan_44 (fun H locs hP hD hS => ?_)
      replace hP : va_P D vwCl (wC a k w6) H := by rw [e5]; exact hP
      replace hD : va_D A (wC a k w6) := by rw [e5]; exact hD
      refine lv_aload_n (pc := 45) hx hb dX2_setSpan_45 rfl (lv_at hl 1 rfl) ?_
      refine va_get (D := D) (pc := 46) hx hb hw inX2 hown hK hP 4 rfl rfl 2 (by decide) (hw _ mw47) (fun _ h9 => h9) rfl dX2_setSpan_46 ?_
      refine lv_iload_n (pc := 49) hx hb dX2_setSpan_49 rfl (lv_at hl 2 rfl) ?_
      refine lv_lload_n (pc := 50) hx hb dX2_setSpan_50 rfl (lv_at hl 3 rfl) ?_
      replace h := ez_bd h
      obtain ⟨w8, e7, h⟩ := h
      obtain ⟨e7i, e7⟩ := ez_stLs e7
      refine va_last (D := D) (pc := 51) hx hb hK hP hD hS 11 8 rfl rfl e7i dX2_setSpan_51 (fun H locs hP hD hS => ?_)
      replace hP : va_P D vwCl (wC a k w8) H := by rw [e7]; exact hP
      replace hD : va_D A (wC a k w8) := by rw [e7]; exact hD
      refine lv_aload_n (pc := 52) hx hb dX2_setSpan_52 rfl (lv_at hl 1 rfl) ?_
      refine va_get (D := D) (pc := 53) hx hb hw inX2 hown hK hP 4 rfl rfl 3 (by decide) (hw _ mw48) (fun _ h9 => h9) rfl dX2_setSpan_53 ?_
      refine lv_iload_n (pc := 56) hx hb dX2_setSpan_56 rfl (lv_at hl 2 rfl) ?_
      refine lv_lload (pc := 57) hx hb dX2_setSpan_57 (lv_at hl 4 rfl) ?_
      replace h := ez_bd h
      obtain ⟨w10, e9, h⟩ := h
      obtain ⟨e9i, e9⟩ := ez_stLs e9
      refine va_last (D := D) (pc := 59) hx hb hK hP hD hS 12 9 rfl rfl e9i dX2_setSpan_59 (fun H locs hP hD hS => ?_)
      replace hP : va_P D vwCl (wC a k w10) H := by rw [e9]; exact hP
      replace hD : va_D A (wC a k w10) := by rw [e9]; exact hD
      obtain rfl := ez_r1 h
      exact ez_retV C0 hP hD hK hS dX2_setSpan_60
    · replace h := ez_if c4 h
      refine lv_lload_n (pc := 31) hx hb dX2_setSpan_31 rfl (lv_at hl 3 rfl) ?_
      refine lv_lload (pc := 32) hx hb dX2_setSpan_32 (lv_at hl 0 rfl) ?_
      refine lv_lneg (pc := 34) hx hb dX2_setSpan_34 ?_
      refine W.lcmp (pc := 35) hx hb dX2_setSpan_35 ?_
      refine lv_if_ge (pc := 36) (tgt := 43) hx hb dX2_setSpan_36 (by decide) (fun c11 => ?_) (fun c11 => ?_)
      · replace h := ez_it c11 h
        refine lv_iconst (v := 0) (pc := 43) hx hb dX2_setSpan_43 rfl ?_
        replace h := ez_bd h
        obtain ⟨w13, e12, h⟩ := h
        obtain ⟨e12i, e12⟩ := ez_stIs e12
        refine va_iast (D := D) (pc := 44) hx hb hK hP hD hS 10 7 rfl rfl e12i dX2_setSpan_44 (fun H locs hP hD hS => ?_)
        replace hP : va_P D vwCl (wC a k w13) H := by rw [e12]; exact hP
        replace hD : va_D A (wC a k w13) := by rw [e12]; exact hD
        refine lv_aload_n (pc := 45) hx hb dX2_setSpan_45 rfl (lv_at hl 1 rfl) ?_
        refine va_get (D := D) (pc := 46) hx hb hw inX2 hown hK hP 4 rfl rfl 2 (by decide) (hw _ mw47) (fun _ h9 => h9) rfl dX2_setSpan_46 ?_
        refine lv_iload_n (pc := 49) hx hb dX2_setSpan_49 rfl (lv_at hl 2 rfl) ?_
        refine lv_lload_n (pc := 50) hx hb dX2_setSpan_50 rfl (lv_at hl 3 rfl) ?_
        replace h := ez_bd h
        obtain ⟨w15, e14, h⟩ := h
        obtain ⟨e14i, e14⟩ := ez_stLs e14
        refine va_last (D := D) (pc := 51) hx hb hK hP hD hS 11 8 rfl rfl e14i dX2_setSpan_51 (fun H locs hP hD hS => ?_)
        replace hP : va_P D vwCl (wC a k w15) H := by rw [e14]; exact hP
        replace hD : va_D A (wC a k w15) := by rw [e14]; exact hD
        refine lv_aload_n (pc := 52) hx hb dX2_setSpan_52 rfl (lv_at hl 1 rfl) ?_
        refine va_get (D := D) (pc := 53) hx hb hw inX2 hown hK hP 4 rfl rfl 3 (by decide) (hw _ mw48) (fun _ h9 => h9) rfl dX2_setSpan_53 ?_
        refine lv_iload_n (pc := 56) hx hb dX2_setSpan_56 rfl (lv_at hl 2 rfl) ?_
        refine lv_lload (pc := 57) hx hb dX2_setSpan_57 (lv_at hl 4 rfl) ?_
        replace h := ez_bd h
        obtain ⟨w17, e16, h⟩ := h
        obtain ⟨e16i, e16⟩ := ez_stLs e16
        refine va_last (D := D) (pc := 59) hx hb hK hP hD hS 12 9 rfl rfl e16i dX2_setSpan_59 (fun H locs hP hD hS => ?_)
        replace hP : va_P D vwCl (wC a k w17) H := by rw [e16]; exact hP
        replace hD : va_D A (wC a k w17) := by rw [e16]; exact hD
        obtain rfl := ez_r1 h
        exact ez_retV C0 hP hD hK hS dX2_setSpan_60
      · replace h := ez_if c11 h
        refine lv_iconst (v := 2) (pc := 39) hx hb dX2_setSpan_39 rfl ?_
        refine lv_goto (pc := 40) (tgt := 44) hx hb dX2_setSpan_40 (by decide) ?_
        replace h := ez_bd h
        obtain ⟨w19, e18, h⟩ := h
        obtain ⟨e18i, e18⟩ := ez_stIs e18
        refine va_iast (D := D) (pc := 44) hx hb hK hP hD hS 10 7 rfl rfl e18i dX2_setSpan_44 (fun H locs hP hD hS => ?_)
        replace hP : va_P D vwCl (wC a k w19) H := by rw [e18]; exact hP
        replace hD : va_D A (wC a k w19) := by rw [e18]; exact hD
        refine lv_aload_n (pc := 45) hx hb dX2_setSpan_45 rfl (lv_at hl 1 rfl) ?_
        refine va_get (D := D) (pc := 46) hx hb hw inX2 hown hK hP 4 rfl rfl 2 (by decide) (hw _ mw47) (fun _ h9 => h9) rfl dX2_setSpan_46 ?_
        refine lv_iload_n (pc := 49) hx hb dX2_setSpan_49 rfl (lv_at hl 2 rfl) ?_
        refine lv_lload_n (pc := 50) hx hb dX2_setSpan_50 rfl (lv_at hl 3 rfl) ?_
        replace h := ez_bd h
        obtain ⟨w21, e20, h⟩ := h
        obtain ⟨e20i, e20⟩ := ez_stLs e20
        refine va_last (D := D) (pc := 51) hx hb hK hP hD hS 11 8 rfl rfl e20i dX2_setSpan_51 (fun H locs hP hD hS => ?_)
        replace hP : va_P D vwCl (wC a k w21) H := by rw [e20]; exact hP
        replace hD : va_D A (wC a k w21) := by rw [e20]; exact hD
        refine lv_aload_n (pc := 52) hx hb dX2_setSpan_52 rfl (lv_at hl 1 rfl) ?_
        refine va_get (D := D) (pc := 53) hx hb hw inX2 hown hK hP 4 rfl rfl 3 (by decide) (hw _ mw48) (fun _ h9 => h9) rfl dX2_setSpan_53 ?_
        refine lv_iload_n (pc := 56) hx hb dX2_setSpan_56 rfl (lv_at hl 2 rfl) ?_
        refine lv_lload (pc := 57) hx hb dX2_setSpan_57 (lv_at hl 4 rfl) ?_
        replace h := ez_bd h
        obtain ⟨w23, e22, h⟩ := h
        obtain ⟨e22i, e22⟩ := ez_stLs e22
        refine va_last (D := D) (pc := 59) hx hb hK hP hD hS 12 9 rfl rfl e22i dX2_setSpan_59 (fun H locs hP hD hS => ?_)
        replace hP : va_P D vwCl (wC a k w23) H := by rw [e22]; exact hP
        replace hD : va_D A (wC a k w23) := by rw [e22]; exact hD
        obtain rfl := ez_r1 h
        exact ez_retV C0 hP hD hK hS dX2_setSpan_60
  · replace h := ez_it c3 h
    obtain rfl := ez_r1 h
    exact ez_retV C0 hP hD hK hS dX2_setSpan_7
set_option maxRecDepth 100000 in
theorem kX2_setSpan (l : Launch) (D : va_G) (a : Nat → Nat) (k : Nat → ClassId) (n : Nat) (x1 : Int32) (x2 : Int64) (x4 : Int64) (w : Wd) (z : Wd) (h : fX2_setSpan n x1 x2 x4 w = some z) (sz : Nat) : Met l yX2_setSpan wsX2_setSpan ({ frames := 1, cells := 0, slots := 0, locals := 20 } : Room) (ez_Pc D (tC k) [.ref (a 4), .int x1, .long x2, .long x4] (wC a k w) sz) (ez_Qv D (tC k) (va_A (wC a k w) sz) (wC a k z)) 0 0 (va_A (wC a k w) sz) :=
  ez_mk (Qf := fun A => (ez_Qv D (tC k) A (wC a k z))) (by decide) rfl (Nat.le_of_ble_eq_true rfl) (fun p e s m below meth c A ls C0 _ hl hP hD hK => tX2_setSpan_0 C0 hK n s.heap [] ls x1 x2 x4 w (lv_sub (l := [(0, .ref (a 4)), (1, .int x1), (2, .long x2), (4, .long x4)]) hl [0, 1, 2, 3] rfl) hP hD va_S.rf h) sz
/-! EnclosureCalculator$Spans setWhole -/
theorem dX2_setWhole_0 : decode cX2_setWhole 0 = .ok (.aload_n 0, 1) := by decide +kernel
theorem dX2_setWhole_1 : decode cX2_setWhole 1 = .ok (.iload_n 1, 1) := by decide +kernel
theorem dX2_setWhole_2 : decode cX2_setWhole 2 = .ok (.lload_n 2, 1) := by decide +kernel
theorem dX2_setWhole_3 : decode cX2_setWhole 3 = .ok (.aload_n 0, 1) := by decide +kernel
theorem dX2_setWhole_4 : decode cX2_setWhole 4 = .ok (.getfield 41, 3) := by decide +kernel
theorem dX2_setWhole_7 : decode cX2_setWhole 7 = .ok (.lshl, 1) := by decide +kernel
theorem dX2_setWhole_8 : decode cX2_setWhole 8 = .ok (.lload_n 2, 1) := by decide +kernel
theorem dX2_setWhole_9 : decode cX2_setWhole 9 = .ok (.aload_n 0, 1) := by decide +kernel
theorem dX2_setWhole_10 : decode cX2_setWhole 10 = .ok (.getfield 41, 3) := by decide +kernel
theorem dX2_setWhole_13 : decode cX2_setWhole 13 = .ok (.lshl, 1) := by decide +kernel
theorem dX2_setWhole_14 : decode cX2_setWhole 14 = .ok (.invokevirtual 76, 3) := by decide +kernel
theorem dX2_setWhole_17 : decode cX2_setWhole 17 = .ok (.return_, 1) := by decide +kernel
def fX2_setWhole (n : Nat) (x1 : Int32) (x2 : Int64) (w : Wd) : Option (Wd) :=
    (fX2_setSpan n x1 (x2 <<< (Int32.toInt64 (w.1 0 4) &&& 63)) (x2 <<< (Int32.toInt64 (w.1 0 4) &&& 63)) w).bind fun z1 =>
    some z1
set_option maxHeartbeats 4000000 in
set_option maxRecDepth 100000 in
theorem tX2_setWhole_0 {p : Program} {l : Launch} {e : Env} {s : State} {m : MethodId} {args : Array Value} {below : List Frame} {meth : Method} {c : Code} {A : Nat → Prop} {D : va_G} {a : Nat → Nat} {k : Nat → ClassId} {z : Wd} (C0 : ez_C p s m args meth c cX2_setWhole none 4 RX2 A) (hK : va_K D vwCl (tC k) s) : ∀ (n : Nat) (H : Heap) (locs : List Loc) (ls : Array Slot) (x1 : Int32) (x2 : Int64) (w : Wd), lv_has ls 4 [(0, .ref (a 4)), (1, .int x1), (2, .long x2)] → va_P D vwCl (wC a k w) H → va_D A (wC a k w) → va_S A s.heap H locs → fX2_setWhole n x1 x2 w = some z → W p l e ({ frames := 2, cells := 0, slots := 0, locals := 47 } : Room) s m args below meth c H locs 0 0 (MQ below (ez_Qv D (tC k) A (wC a k z)) args s 0 0 A) (F0 m 0 ls []) := by
  intro n
  intro H locs ls x1 x2 w hl hP hD hS h
  rw [fX2_setWhole] at h
  have C1 := C0
  obtain ⟨hx, hb, hr, hml, hown, hw, hlk, hA, hN⟩ := C1
  refine lv_aload_n (pc := 0) hx hb dX2_setWhole_0 rfl (lv_at hl 0 rfl) ?_
  refine lv_iload_n (pc := 1) hx hb dX2_setWhole_1 rfl (lv_at hl 1 rfl) ?_
  refine lv_lload_n (pc := 2) hx hb dX2_setWhole_2 rfl (lv_at hl 2 rfl) ?_
  refine lv_aload_n (pc := 3) hx hb dX2_setWhole_3 rfl (lv_at hl 0 rfl) ?_
  refine va_get (D := D) (pc := 4) hx hb hw inX2 hown hK hP 4 rfl rfl 4 (by decide) (hw _ mw49) (fun _ h9 => h9) rfl dX2_setWhole_4 ?_
  refine lv_lshl (pc := 7) hx hb dX2_setWhole_7 rfl ?_
  refine lv_lload_n (pc := 8) hx hb dX2_setWhole_8 rfl (lv_at hl 2 rfl) ?_
  refine lv_aload_n (pc := 9) hx hb dX2_setWhole_9 rfl (lv_at hl 0 rfl) ?_
  refine va_get (D := D) (pc := 10) hx hb hw inX2 hown hK hP 4 rfl rfl 4 (by decide) (hw _ mw49) (fun _ h9 => h9) rfl dX2_setWhole_10 ?_
  refine lv_lshl (pc := 13) hx hb dX2_setWhole_13 rfl ?_
  replace h := ez_bd h
  obtain ⟨z1, e2, h⟩ := h
  refine ez_callV (pc := 14) (wr := []) (wl := (wC a k w)) (wl' := (wC a k z1)) (va_runV (g := F0 m 14 ls [.long (x2 <<< (Int32.toInt64 (w.1 0 4) &&& 63)), .long (x2 <<< (Int32.toInt64 (w.1 0 4) &&& 63)), .int x1, .ref (a 4)]) (As := [.int x1, .long (x2 <<< (Int32.toInt64 (w.1 0 4) &&& 63)), .long (x2 <<< (Int32.toInt64 (w.1 0 4) &&& 63))]) (rest := []) ⟨hx, hb, hml, hown, hw⟩ (kX2_setSpan l D a k n x1 (x2 <<< (Int32.toInt64 (w.1 0 4) &&& 63)) (x2 <<< (Int32.toInt64 (w.1 0 4) &&& 63)) w z1 e2 H.size) (cwV 3 hw (ez_gV mw313 mw315 mp20 mw3 mw316) rfl rfl rfl (by decide +kernel) ⟨Nat.le_of_ble_eq_true rfl, Nat.le_of_ble_eq_true rfl⟩) (ez_preV (wr := []) (wl := (wC a k w)) hP hD hK hN 4 rfl rfl) rfl rfl hl.1 rfl (lv_room (Nat.le_of_ble_eq_true rfl)) dX2_setWhole_14 ⟨Nat.le_refl _, Nat.le_refl _⟩) hP hD hS hA (fun H locs hP hD hS => ?_)
  replace hP : va_P D vwCl (wC a k z1) H := hP
  replace hD : va_D A (wC a k z1) := hD
  obtain rfl := ez_r1 h
  exact ez_retV C0 hP hD hK hS dX2_setWhole_17
set_option maxRecDepth 100000 in
theorem kX2_setWhole (l : Launch) (D : va_G) (a : Nat → Nat) (k : Nat → ClassId) (n : Nat) (x1 : Int32) (x2 : Int64) (w : Wd) (z : Wd) (h : fX2_setWhole n x1 x2 w = some z) (sz : Nat) : Met l yX2_setWhole wsX2_setWhole ({ frames := 2, cells := 0, slots := 0, locals := 47 } : Room) (ez_Pc D (tC k) [.ref (a 4), .int x1, .long x2] (wC a k w) sz) (ez_Qv D (tC k) (va_A (wC a k w) sz) (wC a k z)) 0 0 (va_A (wC a k w) sz) :=
  ez_mk (Qf := fun A => (ez_Qv D (tC k) A (wC a k z))) (by decide) rfl (Nat.le_of_ble_eq_true rfl) (fun p e s m below meth c A ls C0 _ hl hP hD hK => tX2_setWhole_0 C0 hK n s.heap [] ls x1 x2 w (lv_sub (l := [(0, .ref (a 4)), (1, .int x1), (2, .long x2)]) hl [0, 1, 2] rfl) hP hD va_S.rf h) sz
/-! EnclosureCalculator$Spans highOf -/
theorem dX2_highOf_0 : decode cX2_highOf 0 = .ok (.iload_n 1, 1) := by decide +kernel
theorem dX2_highOf_1 : decode cX2_highOf 1 = .ok (.invokestatic 37, 3) := by decide +kernel
theorem dX2_highOf_4 : decode cX2_highOf 4 = .ok (.ifCond .eq 12, 3) := by decide +kernel
theorem dX2_highOf_7 : decode cX2_highOf 7 = .ok (.aload_n 0, 1) := by decide +kernel
theorem dX2_highOf_8 : decode cX2_highOf 8 = .ok (.getfield 23, 3) := by decide +kernel
theorem dX2_highOf_11 : decode cX2_highOf 11 = .ok (.iload_n 1, 1) := by decide +kernel
theorem dX2_highOf_12 : decode cX2_highOf 12 = .ok (.laload, 1) := by decide +kernel
theorem dX2_highOf_13 : decode cX2_highOf 13 = .ok (.goto 4, 3) := by decide +kernel
theorem dX2_highOf_16 : decode cX2_highOf 16 = .ok (.lconst 0, 1) := by decide +kernel
theorem dX2_highOf_17 : decode cX2_highOf 17 = .ok (.lreturn, 1) := by decide +kernel
def fX2_highOf (n : Nat) (x1 : Int32) (w : Wd) : Option (Int64) :=
    (fX0_has n x1).bind fun z1 =>
    if z1 = 0 then
      some 0
    else
      (ez_ldL w 12 80 x1).bind fun y5 =>
      some y5
set_option maxHeartbeats 4000000 in
set_option maxRecDepth 100000 in
theorem tX2_highOf_0 {p : Program} {l : Launch} {e : Env} {s : State} {m : MethodId} {args : Array Value} {below : List Frame} {meth : Method} {c : Code} {D : va_G} {a : Nat → Nat} {k : Nat → ClassId} {z : Int64} {w : Wd} (C0 : ez_C p s m args meth c cX2_highOf (some .long) 2 RX2 (fun _ => True)) (hK : va_K D vwCl (tC k) s) (hP : va_P D vwCl (wC a k w) s.heap) : ∀ (n : Nat) (ls : Array Slot) (x1 : Int32), lv_has ls 2 [(0, .ref (a 4)), (1, .int x1)] → fX2_highOf n x1 w = some z → W p l e ({ frames := 1, cells := 0, slots := 0, locals := 20 } : Room) s m args below meth c s.heap [] 0 0 (MQ below (ez_Rl z) args s 0 0 (fun _ => False)) (F0 m 0 ls []) := by
  intro n
  intro ls x1 hl h
  rw [fX2_highOf] at h
  have C1 := C0
  obtain ⟨hx, hb, hr, hml, hown, hw, hlk, hA, hN⟩ := C1
  refine lv_iload_n (pc := 0) hx hb dX2_highOf_0 rfl (lv_at hl 1 rfl) ?_
  replace h := ez_bd h
  obtain ⟨z1, e2, h⟩ := h
  refine ez_croI (r := z1) (pc := 1) (va_runS (g := F0 m 1 ls [.int x1]) (As := [.int x1]) (rest := []) ⟨hx, hb, hml, hown, hw⟩ (kX0_has l n x1 z1 e2) (va_cwS 1 hw (ez_gS mw262 mw256 mw2 mw257) rfl rfl rfl (by decide +kernel) ⟨Nat.le_of_ble_eq_true rfl, Nat.le_of_ble_eq_true rfl⟩) (ez_preRS hN) rfl rfl hl.1 rfl (lv_room (Nat.le_of_ble_eq_true rfl)) dX2_highOf_1 ⟨Nat.le_refl _, Nat.le_refl _⟩) ?_
  refine lv_if_eq (pc := 4) (tgt := 16) hx hb dX2_highOf_4 (by decide) (fun c3 => ?_) (fun c3 => ?_)
  · replace h := ez_it c3 h
    refine lv_lconst (v := 0) (pc := 16) hx hb dX2_highOf_16 rfl ?_
    obtain rfl := ez_r1 h
    exact ez_rroL C0 dX2_highOf_17
  · replace h := ez_if c3 h
    refine lv_aload_n (pc := 7) hx hb dX2_highOf_7 rfl (lv_at hl 0 rfl) ?_
    refine va_get (D := D) (pc := 8) hx hb hw inX2 hown hK hP 4 rfl rfl 3 (by decide) (hw _ mw48) (fun _ h9 => h9) rfl dX2_highOf_8 ?_
    refine lv_iload_n (pc := 11) hx hb dX2_highOf_11 rfl (lv_at hl 1 rfl) ?_
    replace h := ez_bd h
    obtain ⟨y5, e4, h⟩ := h
    obtain ⟨e4i, e4⟩ := ez_ldLs e4
    refine va_lald (D := D) (pc := 12) hx hb hK hP 12 9 rfl rfl e4i dX2_highOf_12 ?_
    refine lv_topl (fun y9 hy9 => ?_)
    obtain rfl : y5 = y9 := e4.trans hy9.symm
    refine lv_goto (pc := 13) (tgt := 17) hx hb dX2_highOf_13 (by decide) ?_
    obtain rfl := ez_r1 h
    exact ez_rroL C0 dX2_highOf_17
set_option maxRecDepth 100000 in
theorem kX2_highOf (l : Launch) (D : va_G) (a : Nat → Nat) (k : Nat → ClassId) (n : Nat) (x1 : Int32) (w : Wd) (z : Int64) (h : fX2_highOf n x1 w = some z) : Met l yX2_highOf wsX2_highOf ({ frames := 1, cells := 0, slots := 0, locals := 20 } : Room) (ez_Rc D (tC k) [.ref (a 4), .int x1] (wC a k w)) (ez_Rl z) 0 0 (fun _ => False) :=
  ez_mkR (by decide) rfl (Nat.le_of_ble_eq_true rfl) (fun p e s m below meth c ls C0 hl hP hK => tX2_highOf_0 C0 hK hP n ls x1 (lv_sub (l := [(0, .ref (a 4)), (1, .int x1)]) hl [0, 1] rfl) h)
/-! EnclosureCalculator$Spans lowOf -/
theorem dX2_lowOf_0 : decode cX2_lowOf 0 = .ok (.iload_n 1, 1) := by decide +kernel
theorem dX2_lowOf_1 : decode cX2_lowOf 1 = .ok (.invokestatic 37, 3) := by decide +kernel
theorem dX2_lowOf_4 : decode cX2_lowOf 4 = .ok (.ifCond .eq 12, 3) := by decide +kernel
theorem dX2_lowOf_7 : decode cX2_lowOf 7 = .ok (.aload_n 0, 1) := by decide +kernel
theorem dX2_lowOf_8 : decode cX2_lowOf 8 = .ok (.getfield 19, 3) := by decide +kernel
theorem dX2_lowOf_11 : decode cX2_lowOf 11 = .ok (.iload_n 1, 1) := by decide +kernel
theorem dX2_lowOf_12 : decode cX2_lowOf 12 = .ok (.laload, 1) := by decide +kernel
theorem dX2_lowOf_13 : decode cX2_lowOf 13 = .ok (.goto 4, 3) := by decide +kernel
theorem dX2_lowOf_16 : decode cX2_lowOf 16 = .ok (.lconst 0, 1) := by decide +kernel
theorem dX2_lowOf_17 : decode cX2_lowOf 17 = .ok (.lreturn, 1) := by decide +kernel
def fX2_lowOf (n : Nat) (x1 : Int32) (w : Wd) : Option (Int64) :=
    (fX0_has n x1).bind fun z1 =>
    if z1 = 0 then
      some 0
    else
      (ez_ldL w 11 80 x1).bind fun y5 =>
      some y5
set_option maxHeartbeats 4000000 in
set_option maxRecDepth 100000 in
theorem tX2_lowOf_0 {p : Program} {l : Launch} {e : Env} {s : State} {m : MethodId} {args : Array Value} {below : List Frame} {meth : Method} {c : Code} {D : va_G} {a : Nat → Nat} {k : Nat → ClassId} {z : Int64} {w : Wd} (C0 : ez_C p s m args meth c cX2_lowOf (some .long) 2 RX2 (fun _ => True)) (hK : va_K D vwCl (tC k) s) (hP : va_P D vwCl (wC a k w) s.heap) : ∀ (n : Nat) (ls : Array Slot) (x1 : Int32), lv_has ls 2 [(0, .ref (a 4)), (1, .int x1)] → fX2_lowOf n x1 w = some z → W p l e ({ frames := 1, cells := 0, slots := 0, locals := 20 } : Room) s m args below meth c s.heap [] 0 0 (MQ below (ez_Rl z) args s 0 0 (fun _ => False)) (F0 m 0 ls []) := by
  intro n
  intro ls x1 hl h
  rw [fX2_lowOf] at h
  have C1 := C0
  obtain ⟨hx, hb, hr, hml, hown, hw, hlk, hA, hN⟩ := C1
  refine lv_iload_n (pc := 0) hx hb dX2_lowOf_0 rfl (lv_at hl 1 rfl) ?_
  replace h := ez_bd h
  obtain ⟨z1, e2, h⟩ := h
  refine ez_croI (r := z1) (pc := 1) (va_runS (g := F0 m 1 ls [.int x1]) (As := [.int x1]) (rest := []) ⟨hx, hb, hml, hown, hw⟩ (kX0_has l n x1 z1 e2) (va_cwS 1 hw (ez_gS mw262 mw256 mw2 mw257) rfl rfl rfl (by decide +kernel) ⟨Nat.le_of_ble_eq_true rfl, Nat.le_of_ble_eq_true rfl⟩) (ez_preRS hN) rfl rfl hl.1 rfl (lv_room (Nat.le_of_ble_eq_true rfl)) dX2_lowOf_1 ⟨Nat.le_refl _, Nat.le_refl _⟩) ?_
  refine lv_if_eq (pc := 4) (tgt := 16) hx hb dX2_lowOf_4 (by decide) (fun c3 => ?_) (fun c3 => ?_)
  · replace h := ez_it c3 h
    refine lv_lconst (v := 0) (pc := 16) hx hb dX2_lowOf_16 rfl ?_
    obtain rfl := ez_r1 h
    exact ez_rroL C0 dX2_lowOf_17
  · replace h := ez_if c3 h
    refine lv_aload_n (pc := 7) hx hb dX2_lowOf_7 rfl (lv_at hl 0 rfl) ?_
    refine va_get (D := D) (pc := 8) hx hb hw inX2 hown hK hP 4 rfl rfl 2 (by decide) (hw _ mw47) (fun _ h9 => h9) rfl dX2_lowOf_8 ?_
    refine lv_iload_n (pc := 11) hx hb dX2_lowOf_11 rfl (lv_at hl 1 rfl) ?_
    replace h := ez_bd h
    obtain ⟨y5, e4, h⟩ := h
    obtain ⟨e4i, e4⟩ := ez_ldLs e4
    refine va_lald (D := D) (pc := 12) hx hb hK hP 11 8 rfl rfl e4i dX2_lowOf_12 ?_
    refine lv_topl (fun y9 hy9 => ?_)
    obtain rfl : y5 = y9 := e4.trans hy9.symm
    refine lv_goto (pc := 13) (tgt := 17) hx hb dX2_lowOf_13 (by decide) ?_
    obtain rfl := ez_r1 h
    exact ez_rroL C0 dX2_lowOf_17
set_option maxRecDepth 100000 in
theorem kX2_lowOf (l : Launch) (D : va_G) (a : Nat → Nat) (k : Nat → ClassId) (n : Nat) (x1 : Int32) (w : Wd) (z : Int64) (h : fX2_lowOf n x1 w = some z) : Met l yX2_lowOf wsX2_lowOf ({ frames := 1, cells := 0, slots := 0, locals := 20 } : Room) (ez_Rc D (tC k) [.ref (a 4), .int x1] (wC a k w)) (ez_Rl z) 0 0 (fun _ => False) :=
  ez_mkR (by decide) rfl (Nat.le_of_ble_eq_true rfl) (fun p e s m below meth c ls C0 hl hP hK => tX2_lowOf_0 C0 hK hP n ls x1 (lv_sub (l := [(0, .ref (a 4)), (1, .int x1)]) hl [0, 1] rfl) h)
/-! EnclosureCalculator$Spans setSpanOfSquaredUnits -/
theorem dX2_setSpanOfSquaredUnits_0 : decode cX2_setSpanOfSquaredUnits 0 = .ok (.aload_n 0, 1) := by decide +kernel
theorem dX2_setSpanOfSquaredUnits_1 : decode cX2_setSpanOfSquaredUnits 1 = .ok (.iload_n 1, 1) := by decide +kernel
theorem dX2_setSpanOfSquaredUnits_2 : decode cX2_setSpanOfSquaredUnits 2 = .ok (.lload_n 2, 1) := by decide +kernel
theorem dX2_setSpanOfSquaredUnits_3 : decode cX2_setSpanOfSquaredUnits 3 = .ok (.aload_n 0, 1) := by decide +kernel
theorem dX2_setSpanOfSquaredUnits_4 : decode cX2_setSpanOfSquaredUnits 4 = .ok (.getfield 41, 3) := by decide +kernel
theorem dX2_setSpanOfSquaredUnits_7 : decode cX2_setSpanOfSquaredUnits 7 = .ok (.lshr, 1) := by decide +kernel
theorem dX2_setSpanOfSquaredUnits_8 : decode cX2_setSpanOfSquaredUnits 8 = .ok (.lload 4, 2) := by decide +kernel
theorem dX2_setSpanOfSquaredUnits_10 : decode cX2_setSpanOfSquaredUnits 10 = .ok (.lneg, 1) := by decide +kernel
theorem dX2_setSpanOfSquaredUnits_11 : decode cX2_setSpanOfSquaredUnits 11 = .ok (.aload_n 0, 1) := by decide +kernel
theorem dX2_setSpanOfSquaredUnits_12 : decode cX2_setSpanOfSquaredUnits 12 = .ok (.getfield 41, 3) := by decide +kernel
theorem dX2_setSpanOfSquaredUnits_15 : decode cX2_setSpanOfSquaredUnits 15 = .ok (.lshr, 1) := by decide +kernel
theorem dX2_setSpanOfSquaredUnits_16 : decode cX2_setSpanOfSquaredUnits 16 = .ok (.lneg, 1) := by decide +kernel
theorem dX2_setSpanOfSquaredUnits_17 : decode cX2_setSpanOfSquaredUnits 17 = .ok (.invokevirtual 76, 3) := by decide +kernel
theorem dX2_setSpanOfSquaredUnits_20 : decode cX2_setSpanOfSquaredUnits 20 = .ok (.return_, 1) := by decide +kernel
def fX2_setSpanOfSquaredUnits (n : Nat) (x1 : Int32) (x2 : Int64) (x4 : Int64) (w : Wd) : Option (Wd) :=
    (fX2_setSpan n x1 (x2 >>> (Int32.toInt64 (w.1 0 4) &&& 63)) (-((-x4) >>> (Int32.toInt64 (w.1 0 4) &&& 63))) w).bind fun z1 =>
    some z1
set_option maxHeartbeats 4000000 in
set_option maxRecDepth 100000 in
theorem tX2_setSpanOfSquaredUnits_0 {p : Program} {l : Launch} {e : Env} {s : State} {m : MethodId} {args : Array Value} {below : List Frame} {meth : Method} {c : Code} {A : Nat → Prop} {D : va_G} {a : Nat → Nat} {k : Nat → ClassId} {z : Wd} (C0 : ez_C p s m args meth c cX2_setSpanOfSquaredUnits none 6 RX2 A) (hK : va_K D vwCl (tC k) s) : ∀ (n : Nat) (H : Heap) (locs : List Loc) (ls : Array Slot) (x1 : Int32) (x2 : Int64) (x4 : Int64) (w : Wd), lv_has ls 6 [(0, .ref (a 4)), (1, .int x1), (2, .long x2), (4, .long x4)] → va_P D vwCl (wC a k w) H → va_D A (wC a k w) → va_S A s.heap H locs → fX2_setSpanOfSquaredUnits n x1 x2 x4 w = some z → W p l e ({ frames := 2, cells := 0, slots := 0, locals := 47 } : Room) s m args below meth c H locs 0 0 (MQ below (ez_Qv D (tC k) A (wC a k z)) args s 0 0 A) (F0 m 0 ls []) := by
  intro n
  intro H locs ls x1 x2 x4 w hl hP hD hS h
  rw [fX2_setSpanOfSquaredUnits] at h
  have C1 := C0
  obtain ⟨hx, hb, hr, hml, hown, hw, hlk, hA, hN⟩ := C1
  refine lv_aload_n (pc := 0) hx hb dX2_setSpanOfSquaredUnits_0 rfl (lv_at hl 0 rfl) ?_
  refine lv_iload_n (pc := 1) hx hb dX2_setSpanOfSquaredUnits_1 rfl (lv_at hl 1 rfl) ?_
  refine lv_lload_n (pc := 2) hx hb dX2_setSpanOfSquaredUnits_2 rfl (lv_at hl 2 rfl) ?_
  refine lv_aload_n (pc := 3) hx hb dX2_setSpanOfSquaredUnits_3 rfl (lv_at hl 0 rfl) ?_
  refine va_get (D := D) (pc := 4) hx hb hw inX2 hown hK hP 4 rfl rfl 4 (by decide) (hw _ mw49) (fun _ h9 => h9) rfl dX2_setSpanOfSquaredUnits_4 ?_
  refine lv_lshr (pc := 7) hx hb dX2_setSpanOfSquaredUnits_7 rfl ?_
  refine lv_lload (pc := 8) hx hb dX2_setSpanOfSquaredUnits_8 (lv_at hl 3 rfl) ?_
  refine lv_lneg (pc := 10) hx hb dX2_setSpanOfSquaredUnits_10 ?_
  refine lv_aload_n (pc := 11) hx hb dX2_setSpanOfSquaredUnits_11 rfl (lv_at hl 0 rfl) ?_
  refine va_get (D := D) (pc := 12) hx hb hw inX2 hown hK hP 4 rfl rfl 4 (by decide) (hw _ mw49) (fun _ h9 => h9) rfl dX2_setSpanOfSquaredUnits_12 ?_
  refine lv_lshr (pc := 15) hx hb dX2_setSpanOfSquaredUnits_15 rfl ?_
  refine lv_lneg (pc := 16) hx hb dX2_setSpanOfSquaredUnits_16 ?_
  replace h := ez_bd h
  obtain ⟨z1, e2, h⟩ := h
  refine ez_callV (pc := 17) (wr := []) (wl := (wC a k w)) (wl' := (wC a k z1)) (va_runV (g := F0 m 17 ls [.long (-((-x4) >>> (Int32.toInt64 (w.1 0 4) &&& 63))), .long (x2 >>> (Int32.toInt64 (w.1 0 4) &&& 63)), .int x1, .ref (a 4)]) (As := [.int x1, .long (x2 >>> (Int32.toInt64 (w.1 0 4) &&& 63)), .long (-((-x4) >>> (Int32.toInt64 (w.1 0 4) &&& 63)))]) (rest := []) ⟨hx, hb, hml, hown, hw⟩ (kX2_setSpan l D a k n x1 (x2 >>> (Int32.toInt64 (w.1 0 4) &&& 63)) (-((-x4) >>> (Int32.toInt64 (w.1 0 4) &&& 63))) w z1 e2 H.size) (cwV 3 hw (ez_gV mw313 mw315 mp20 mw3 mw316) rfl rfl rfl (by decide +kernel) ⟨Nat.le_of_ble_eq_true rfl, Nat.le_of_ble_eq_true rfl⟩) (ez_preV (wr := []) (wl := (wC a k w)) hP hD hK hN 4 rfl rfl) rfl rfl hl.1 rfl (lv_room (Nat.le_of_ble_eq_true rfl)) dX2_setSpanOfSquaredUnits_17 ⟨Nat.le_refl _, Nat.le_refl _⟩) hP hD hS hA (fun H locs hP hD hS => ?_)
  replace hP : va_P D vwCl (wC a k z1) H := hP
  replace hD : va_D A (wC a k z1) := hD
  obtain rfl := ez_r1 h
  exact ez_retV C0 hP hD hK hS dX2_setSpanOfSquaredUnits_20
set_option maxRecDepth 100000 in
theorem kX2_setSpanOfSquaredUnits (l : Launch) (D : va_G) (a : Nat → Nat) (k : Nat → ClassId) (n : Nat) (x1 : Int32) (x2 : Int64) (x4 : Int64) (w : Wd) (z : Wd) (h : fX2_setSpanOfSquaredUnits n x1 x2 x4 w = some z) (sz : Nat) : Met l yX2_setSpanOfSquaredUnits wsX2_setSpanOfSquaredUnits ({ frames := 2, cells := 0, slots := 0, locals := 47 } : Room) (ez_Pc D (tC k) [.ref (a 4), .int x1, .long x2, .long x4] (wC a k w) sz) (ez_Qv D (tC k) (va_A (wC a k w) sz) (wC a k z)) 0 0 (va_A (wC a k w) sz) :=
  ez_mk (Qf := fun A => (ez_Qv D (tC k) A (wC a k z))) (by decide) rfl (Nat.le_of_ble_eq_true rfl) (fun p e s m below meth c A ls C0 _ hl hP hD hK => tX2_setSpanOfSquaredUnits_0 C0 hK n s.heap [] ls x1 x2 x4 w (lv_sub (l := [(0, .ref (a 4)), (1, .int x1), (2, .long x2), (4, .long x4)]) hl [0, 1, 2, 3] rfl) hP hD va_S.rf h) sz
/-! EnclosureCalculator$Spans multiply -/
theorem dX2_multiply_0 : decode cX2_multiply 0 = .ok (.aload_n 0, 1) := by decide +kernel
theorem dX2_multiply_1 : decode cX2_multiply 1 = .ok (.iload_n 2, 1) := by decide +kernel
theorem dX2_multiply_2 : decode cX2_multiply 2 = .ok (.invokevirtual 73, 3) := by decide +kernel
theorem dX2_multiply_5 : decode cX2_multiply 5 = .ok (.aload_n 0, 1) := by decide +kernel
theorem dX2_multiply_6 : decode cX2_multiply 6 = .ok (.iload_n 3, 1) := by decide +kernel
theorem dX2_multiply_7 : decode cX2_multiply 7 = .ok (.invokevirtual 73, 3) := by decide +kernel
theorem dX2_multiply_10 : decode cX2_multiply 10 = .ok (.lmul, 1) := by decide +kernel
theorem dX2_multiply_11 : decode cX2_multiply 11 = .ok (.lstore 4, 2) := by decide +kernel
theorem dX2_multiply_13 : decode cX2_multiply 13 = .ok (.aload_n 0, 1) := by decide +kernel
theorem dX2_multiply_14 : decode cX2_multiply 14 = .ok (.iload_n 2, 1) := by decide +kernel
theorem dX2_multiply_15 : decode cX2_multiply 15 = .ok (.invokevirtual 73, 3) := by decide +kernel
theorem dX2_multiply_18 : decode cX2_multiply 18 = .ok (.aload_n 0, 1) := by decide +kernel
theorem dX2_multiply_19 : decode cX2_multiply 19 = .ok (.iload_n 3, 1) := by decide +kernel
theorem dX2_multiply_20 : decode cX2_multiply 20 = .ok (.invokevirtual 69, 3) := by decide +kernel
theorem dX2_multiply_23 : decode cX2_multiply 23 = .ok (.lmul, 1) := by decide +kernel
theorem dX2_multiply_24 : decode cX2_multiply 24 = .ok (.lstore 6, 2) := by decide +kernel
theorem dX2_multiply_26 : decode cX2_multiply 26 = .ok (.aload_n 0, 1) := by decide +kernel
theorem dX2_multiply_27 : decode cX2_multiply 27 = .ok (.iload_n 2, 1) := by decide +kernel
theorem dX2_multiply_28 : decode cX2_multiply 28 = .ok (.invokevirtual 69, 3) := by decide +kernel
theorem dX2_multiply_31 : decode cX2_multiply 31 = .ok (.aload_n 0, 1) := by decide +kernel
theorem dX2_multiply_32 : decode cX2_multiply 32 = .ok (.iload_n 3, 1) := by decide +kernel
theorem dX2_multiply_33 : decode cX2_multiply 33 = .ok (.invokevirtual 73, 3) := by decide +kernel
theorem dX2_multiply_36 : decode cX2_multiply 36 = .ok (.lmul, 1) := by decide +kernel
theorem dX2_multiply_37 : decode cX2_multiply 37 = .ok (.lstore 8, 2) := by decide +kernel
theorem dX2_multiply_39 : decode cX2_multiply 39 = .ok (.aload_n 0, 1) := by decide +kernel
theorem dX2_multiply_40 : decode cX2_multiply 40 = .ok (.iload_n 2, 1) := by decide +kernel
theorem dX2_multiply_41 : decode cX2_multiply 41 = .ok (.invokevirtual 69, 3) := by decide +kernel
theorem dX2_multiply_44 : decode cX2_multiply 44 = .ok (.aload_n 0, 1) := by decide +kernel
theorem dX2_multiply_45 : decode cX2_multiply 45 = .ok (.iload_n 3, 1) := by decide +kernel
theorem dX2_multiply_46 : decode cX2_multiply 46 = .ok (.invokevirtual 69, 3) := by decide +kernel
theorem dX2_multiply_49 : decode cX2_multiply 49 = .ok (.lmul, 1) := by decide +kernel
theorem dX2_multiply_50 : decode cX2_multiply 50 = .ok (.lstore 10, 2) := by decide +kernel
theorem dX2_multiply_52 : decode cX2_multiply 52 = .ok (.lload 4, 2) := by decide +kernel
theorem dX2_multiply_54 : decode cX2_multiply 54 = .ok (.lload 6, 2) := by decide +kernel
theorem dX2_multiply_56 : decode cX2_multiply 56 = .ok (.invokestatic 95, 3) := by decide +kernel
theorem dX2_multiply_59 : decode cX2_multiply 59 = .ok (.lload 8, 2) := by decide +kernel
theorem dX2_multiply_61 : decode cX2_multiply 61 = .ok (.lload 10, 2) := by decide +kernel
theorem dX2_multiply_63 : decode cX2_multiply 63 = .ok (.invokestatic 95, 3) := by decide +kernel
theorem dX2_multiply_66 : decode cX2_multiply 66 = .ok (.invokestatic 95, 3) := by decide +kernel
theorem dX2_multiply_69 : decode cX2_multiply 69 = .ok (.lstore 12, 2) := by decide +kernel
theorem dX2_multiply_71 : decode cX2_multiply 71 = .ok (.lload 4, 2) := by decide +kernel
theorem dX2_multiply_73 : decode cX2_multiply 73 = .ok (.lload 6, 2) := by decide +kernel
theorem dX2_multiply_75 : decode cX2_multiply 75 = .ok (.invokestatic 101, 3) := by decide +kernel
theorem dX2_multiply_78 : decode cX2_multiply 78 = .ok (.lload 8, 2) := by decide +kernel
theorem dX2_multiply_80 : decode cX2_multiply 80 = .ok (.lload 10, 2) := by decide +kernel
theorem dX2_multiply_82 : decode cX2_multiply 82 = .ok (.invokestatic 101, 3) := by decide +kernel
theorem dX2_multiply_85 : decode cX2_multiply 85 = .ok (.invokestatic 101, 3) := by decide +kernel
theorem dX2_multiply_88 : decode cX2_multiply 88 = .ok (.lstore 14, 2) := by decide +kernel
theorem dX2_multiply_90 : decode cX2_multiply 90 = .ok (.aload_n 0, 1) := by decide +kernel
theorem dX2_multiply_91 : decode cX2_multiply 91 = .ok (.iload_n 1, 1) := by decide +kernel
theorem dX2_multiply_92 : decode cX2_multiply 92 = .ok (.lload 12, 2) := by decide +kernel
theorem dX2_multiply_94 : decode cX2_multiply 94 = .ok (.lload 14, 2) := by decide +kernel
theorem dX2_multiply_96 : decode cX2_multiply 96 = .ok (.invokevirtual 104, 3) := by decide +kernel
theorem dX2_multiply_99 : decode cX2_multiply 99 = .ok (.return_, 1) := by decide +kernel
def fX2_multiply (n : Nat) (x1 : Int32) (x2 : Int32) (x3 : Int32) (w : Wd) : Option (Wd) :=
    (fX2_lowOf n x2 w).bind fun z1 =>
    (fX2_lowOf n x3 w).bind fun z3 =>
    (fX2_lowOf n x2 w).bind fun z5 =>
    (fX2_highOf n x3 w).bind fun z7 =>
    (fX2_highOf n x2 w).bind fun z9 =>
    (fX2_lowOf n x3 w).bind fun z11 =>
    (fX2_highOf n x2 w).bind fun z13 =>
    (fX2_highOf n x3 w).bind fun z15 =>
    (fJ9_minL n (z1 * z3) (z5 * z7)).bind fun z17 =>
    (fJ9_minL n (z9 * z11) (z13 * z15)).bind fun z19 =>
    (fJ9_minL n z17 z19).bind fun z21 =>
    (fJ9_maxL n (z1 * z3) (z5 * z7)).bind fun z23 =>
    (fJ9_maxL n (z9 * z11) (z13 * z15)).bind fun z25 =>
    (fJ9_maxL n z23 z25).bind fun z27 =>
    (fX2_setSpanOfSquaredUnits n x1 z21 z27 w).bind fun z29 =>
    some z29
set_option maxHeartbeats 4000000 in
set_option maxRecDepth 100000 in
theorem tX2_multiply_0 {p : Program} {l : Launch} {e : Env} {s : State} {m : MethodId} {args : Array Value} {below : List Frame} {meth : Method} {c : Code} {A : Nat → Prop} {D : va_G} {a : Nat → Nat} {k : Nat → ClassId} {z : Wd} (C0 : ez_C p s m args meth c cX2_multiply none 16 RX2 A) (hK : va_K D vwCl (tC k) s) : ∀ (n : Nat) (H : Heap) (locs : List Loc) (ls : Array Slot) (x1 : Int32) (x2 : Int32) (x3 : Int32) (w : Wd), lv_has ls 16 [(0, .ref (a 4)), (1, .int x1), (2, .int x2), (3, .int x3)] → va_P D vwCl (wC a k w) H → va_D A (wC a k w) → va_S A s.heap H locs → fX2_multiply n x1 x2 x3 w = some z → W p l e ({ frames := 3, cells := 0, slots := 0, locals := 72 } : Room) s m args below meth c H locs 0 0 (MQ below (ez_Qv D (tC k) A (wC a k z)) args s 0 0 A) (F0 m 0 ls []) := by
  intro n
  intro H locs ls x1 x2 x3 w hl hP hD hS h
  rw [fX2_multiply] at h
  have C1 := C0
  obtain ⟨hx, hb, hr, hml, hown, hw, hlk, hA, hN⟩ := C1
  refine lv_aload_n (pc := 0) hx hb dX2_multiply_0 rfl (lv_at hl 0 rfl) ?_
  refine lv_iload_n (pc := 1) hx hb dX2_multiply_1 rfl (lv_at hl 2 rfl) ?_
  replace h := ez_bd h
  obtain ⟨z1, e2, h⟩ := h
  refine ez_croL (r := z1) (pc := 2) (va_runV (g := F0 m 2 ls [.int x2, .ref (a 4)]) (As := [.int x2]) (rest := []) ⟨hx, hb, hml, hown, hw⟩ (kX2_lowOf l D a k n x2 w z1 e2) (cwV 1 hw (ez_gV mw322 mw323 mw324 mw3 mw325) rfl rfl rfl (by decide +kernel) ⟨Nat.le_of_ble_eq_true rfl, Nat.le_of_ble_eq_true rfl⟩) (ez_preRV (wr := []) (wl := (wC a k w)) hP hK hN 4 rfl rfl) rfl rfl hl.1 rfl (lv_room (Nat.le_of_ble_eq_true rfl)) dX2_multiply_2 ⟨Nat.le_refl _, Nat.le_refl _⟩) ?_
  refine lv_aload_n (pc := 5) hx hb dX2_multiply_5 rfl (lv_at hl 0 rfl) ?_
  refine lv_iload_n (pc := 6) hx hb dX2_multiply_6 rfl (lv_at hl 3 rfl) ?_
  replace h := ez_bd h
  obtain ⟨z3, e4, h⟩ := h
  refine ez_croL (r := z3) (pc := 7) (va_runV (g := F0 m 7 ls [.int x3, .ref (a 4), .long z1]) (As := [.int x3]) (rest := [.long z1]) ⟨hx, hb, hml, hown, hw⟩ (kX2_lowOf l D a k n x3 w z3 e4) (cwV 1 hw (ez_gV mw322 mw323 mw324 mw3 mw325) rfl rfl rfl (by decide +kernel) ⟨Nat.le_of_ble_eq_true rfl, Nat.le_of_ble_eq_true rfl⟩) (ez_preRV (wr := []) (wl := (wC a k w)) hP hK hN 4 rfl rfl) rfl rfl hl.1 rfl (lv_room (Nat.le_of_ble_eq_true rfl)) dX2_multiply_7 ⟨Nat.le_refl _, Nat.le_refl _⟩) ?_
  refine lv_lmul (pc := 10) hx hb dX2_multiply_10 ?_
  refine lv_lstore (pc := 11) hx hb dX2_multiply_11 hl (by decide) rfl (fun ls hl => ?_)
  replace hl : lv_has ls 16 [(4, .long (z1 * z3)), (0, .ref (a 4)), (1, .int x1), (2, .int x2), (3, .int x3)] := hl
  refine lv_aload_n (pc := 13) hx hb dX2_multiply_13 rfl (lv_at hl 1 rfl) ?_
  refine lv_iload_n (pc := 14) hx hb dX2_multiply_14 rfl (lv_at hl 3 rfl) ?_
  replace h := ez_bd h
  obtain ⟨z5, e6, h⟩ := h
  refine ez_croL (r := z5) (pc := 15) (va_runV (g := F0 m 15 ls [.int x2, .ref (a 4)]) (As := [.int x2]) (rest := []) ⟨hx, hb, hml, hown, hw⟩ (kX2_lowOf l D a k n x2 w z5 e6) (cwV 1 hw (ez_gV mw322 mw323 mw324 mw3 mw325) rfl rfl rfl (by decide +kernel) ⟨Nat.le_of_ble_eq_true rfl, Nat.le_of_ble_eq_true rfl⟩) (ez_preRV (wr := []) (wl := (wC a k w)) hP hK hN 4 rfl rfl) rfl rfl hl.1 rfl (lv_room (Nat.le_of_ble_eq_true rfl)) dX2_multiply_15 ⟨Nat.le_refl _, Nat.le_refl _⟩) ?_
  refine lv_aload_n (pc := 18) hx hb dX2_multiply_18 rfl (lv_at hl 1 rfl) ?_
  refine lv_iload_n (pc := 19) hx hb dX2_multiply_19 rfl (lv_at hl 4 rfl) ?_
  replace h := ez_bd h
  obtain ⟨z7, e8, h⟩ := h
  refine ez_croL (r := z7) (pc := 20) (va_runV (g := F0 m 20 ls [.int x3, .ref (a 4), .long z5]) (As := [.int x3]) (rest := [.long z5]) ⟨hx, hb, hml, hown, hw⟩ (kX2_highOf l D a k n x3 w z7 e8) (cwV 1 hw (ez_gV mw318 mw319 mw320 mw3 mw321) rfl rfl rfl (by decide +kernel) ⟨Nat.le_of_ble_eq_true rfl, Nat.le_of_ble_eq_true rfl⟩) (ez_preRV (wr := []) (wl := (wC a k w)) hP hK hN 4 rfl rfl) rfl rfl hl.1 rfl (lv_room (Nat.le_of_ble_eq_true rfl)) dX2_multiply_20 ⟨Nat.le_refl _, Nat.le_refl _⟩) ?_
  refine lv_lmul (pc := 23) hx hb dX2_multiply_23 ?_
  refine lv_lstore (pc := 24) hx hb dX2_multiply_24 hl (by decide) rfl (fun ls hl => ?_)
  replace hl : lv_has ls 16 [(6, .long (z5 * z7)), (4, .long (z1 * z3)), (0, .ref (a 4)), (1, .int x1), (2, .int x2), (3, .int x3)] := hl
  refine lv_aload_n (pc := 26) hx hb dX2_multiply_26 rfl (lv_at hl 2 rfl) ?_
  refine lv_iload_n (pc := 27) hx hb dX2_multiply_27 rfl (lv_at hl 4 rfl) ?_
  replace h := ez_bd h
  obtain ⟨z9, e10, h⟩ := h
  refine ez_croL (r := z9) (pc := 28) (va_runV (g := F0 m 28 ls [.int x2, .ref (a 4)]) (As := [.int x2]) (rest := []) ⟨hx, hb, hml, hown, hw⟩ (kX2_highOf l D a k n x2 w z9 e10) (cwV 1 hw (ez_gV mw318 mw319 mw320 mw3 mw321) rfl rfl rfl (by decide +kernel) ⟨Nat.le_of_ble_eq_true rfl, Nat.le_of_ble_eq_true rfl⟩) (ez_preRV (wr := []) (wl := (wC a k w)) hP hK hN 4 rfl rfl) rfl rfl hl.1 rfl (lv_room (Nat.le_of_ble_eq_true rfl)) dX2_multiply_28 ⟨Nat.le_refl _, Nat.le_refl _⟩) ?_
  refine lv_aload_n (pc := 31) hx hb dX2_multiply_31 rfl (lv_at hl 2 rfl) ?_
  refine lv_iload_n (pc := 32) hx hb dX2_multiply_32 rfl (lv_at hl 5 rfl) ?_
  replace h := ez_bd h
  obtain ⟨z11, e12, h⟩ := h
  refine ez_croL (r := z11) (pc := 33) (va_runV (g := F0 m 33 ls [.int x3, .ref (a 4), .long z9]) (As := [.int x3]) (rest := [.long z9]) ⟨hx, hb, hml, hown, hw⟩ (kX2_lowOf l D a k n x3 w z11 e12) (cwV 1 hw (ez_gV mw322 mw323 mw324 mw3 mw325) rfl rfl rfl (by decide +kernel) ⟨Nat.le_of_ble_eq_true rfl, Nat.le_of_ble_eq_true rfl⟩) (ez_preRV (wr := []) (wl := (wC a k w)) hP hK hN 4 rfl rfl) rfl rfl hl.1 rfl (lv_room (Nat.le_of_ble_eq_true rfl)) dX2_multiply_33 ⟨Nat.le_refl _, Nat.le_refl _⟩) ?_
  refine lv_lmul (pc := 36) hx hb dX2_multiply_36 ?_
  refine lv_lstore (pc := 37) hx hb dX2_multiply_37 hl (by decide) rfl (fun ls hl => ?_)
  replace hl : lv_has ls 16 [(8, .long (z9 * z11)), (6, .long (z5 * z7)), (4, .long (z1 * z3)), (0, .ref (a 4)), (1, .int x1), (2, .int x2), (3, .int x3)] := hl
  refine lv_aload_n (pc := 39) hx hb dX2_multiply_39 rfl (lv_at hl 3 rfl) ?_
  refine lv_iload_n (pc := 40) hx hb dX2_multiply_40 rfl (lv_at hl 5 rfl) ?_
  replace h := ez_bd h
  obtain ⟨z13, e14, h⟩ := h
  refine ez_croL (r := z13) (pc := 41) (va_runV (g := F0 m 41 ls [.int x2, .ref (a 4)]) (As := [.int x2]) (rest := []) ⟨hx, hb, hml, hown, hw⟩ (kX2_highOf l D a k n x2 w z13 e14) (cwV 1 hw (ez_gV mw318 mw319 mw320 mw3 mw321) rfl rfl rfl (by decide +kernel) ⟨Nat.le_of_ble_eq_true rfl, Nat.le_of_ble_eq_true rfl⟩) (ez_preRV (wr := []) (wl := (wC a k w)) hP hK hN 4 rfl rfl) rfl rfl hl.1 rfl (lv_room (Nat.le_of_ble_eq_true rfl)) dX2_multiply_41 ⟨Nat.le_refl _, Nat.le_refl _⟩) ?_
  refine lv_aload_n (pc := 44) hx hb dX2_multiply_44 rfl (lv_at hl 3 rfl) ?_
  refine lv_iload_n (pc := 45) hx hb dX2_multiply_45 rfl (lv_at hl 6 rfl) ?_
  replace h := ez_bd h
  obtain ⟨z15, e16, h⟩ := h
  refine ez_croL (r := z15) (pc := 46) (va_runV (g := F0 m 46 ls [.int x3, .ref (a 4), .long z13]) (As := [.int x3]) (rest := [.long z13]) ⟨hx, hb, hml, hown, hw⟩ (kX2_highOf l D a k n x3 w z15 e16) (cwV 1 hw (ez_gV mw318 mw319 mw320 mw3 mw321) rfl rfl rfl (by decide +kernel) ⟨Nat.le_of_ble_eq_true rfl, Nat.le_of_ble_eq_true rfl⟩) (ez_preRV (wr := []) (wl := (wC a k w)) hP hK hN 4 rfl rfl) rfl rfl hl.1 rfl (lv_room (Nat.le_of_ble_eq_true rfl)) dX2_multiply_46 ⟨Nat.le_refl _, Nat.le_refl _⟩) ?_
  refine lv_lmul (pc := 49) hx hb dX2_multiply_49 ?_
  refine lv_lstore (pc := 50) hx hb dX2_multiply_50 hl (by decide) rfl (fun ls hl => ?_)
  replace hl : lv_has ls 16 [(10, .long (z13 * z15)), (8, .long (z9 * z11)), (6, .long (z5 * z7)), (4, .long (z1 * z3)), (0, .ref (a 4)), (1, .int x1), (2, .int x2), (3, .int x3)] := hl
  refine lv_lload (pc := 52) hx hb dX2_multiply_52 (lv_at hl 3 rfl) ?_
  refine lv_lload (pc := 54) hx hb dX2_multiply_54 (lv_at hl 2 rfl) ?_
  replace h := ez_bd h
  obtain ⟨z17, e18, h⟩ := h
  refine ez_croL (r := z17) (pc := 56) (va_runS (g := F0 m 56 ls [.long (z5 * z7), .long (z1 * z3)]) (As := [.long (z1 * z3), .long (z5 * z7)]) (rest := []) ⟨hx, hb, hml, hown, hw⟩ (kJ9_minL l n (z1 * z3) (z5 * z7) z17 e18) (va_cwS 2 hw (ez_gS mw330 mw331 mw6 mw332) rfl rfl rfl (by decide +kernel) ⟨Nat.le_of_ble_eq_true rfl, Nat.le_of_ble_eq_true rfl⟩) (ez_preRS hN) rfl rfl hl.1 rfl (lv_room (Nat.le_of_ble_eq_true rfl)) dX2_multiply_56 ⟨Nat.le_refl _, Nat.le_refl _⟩) ?_
  refine lv_lload (pc := 59) hx hb dX2_multiply_59 (lv_at hl 1 rfl) ?_
  refine lv_lload (pc := 61) hx hb dX2_multiply_61 (lv_at hl 0 rfl) ?_
  replace h := ez_bd h
  obtain ⟨z19, e20, h⟩ := h
  refine ez_croL (r := z19) (pc := 63) (va_runS (g := F0 m 63 ls [.long (z13 * z15), .long (z9 * z11), .long z17]) (As := [.long (z9 * z11), .long (z13 * z15)]) (rest := [.long z17]) ⟨hx, hb, hml, hown, hw⟩ (kJ9_minL l n (z9 * z11) (z13 * z15) z19 e20) (va_cwS 2 hw (ez_gS mw330 mw331 mw6 mw332) rfl rfl rfl (by decide +kernel) ⟨Nat.le_of_ble_eq_true rfl, Nat.le_of_ble_eq_true rfl⟩) (ez_preRS hN) rfl rfl hl.1 rfl (lv_room (Nat.le_of_ble_eq_true rfl)) dX2_multiply_63 ⟨Nat.le_refl _, Nat.le_refl _⟩) ?_
  replace h := ez_bd h
  obtain ⟨z21, e22, h⟩ := h
  refine ez_croL (r := z21) (pc := 66) (va_runS (g := F0 m 66 ls [.long z19, .long z17]) (As := [.long z17, .long z19]) (rest := []) ⟨hx, hb, hml, hown, hw⟩ (kJ9_minL l n z17 z19 z21 e22) (va_cwS 2 hw (ez_gS mw330 mw331 mw6 mw332) rfl rfl rfl (by decide +kernel) ⟨Nat.le_of_ble_eq_true rfl, Nat.le_of_ble_eq_true rfl⟩) (ez_preRS hN) rfl rfl hl.1 rfl (lv_room (Nat.le_of_ble_eq_true rfl)) dX2_multiply_66 ⟨Nat.le_refl _, Nat.le_refl _⟩) ?_
  refine lv_lstore (pc := 69) hx hb dX2_multiply_69 hl (by decide) rfl (fun ls hl => ?_)
  replace hl : lv_has ls 16 [(12, .long z21), (10, .long (z13 * z15)), (8, .long (z9 * z11)), (6, .long (z5 * z7)), (4, .long (z1 * z3)), (0, .ref (a 4)), (1, .int x1), (2, .int x2), (3, .int x3)] := hl
  refine lv_lload (pc := 71) hx hb dX2_multiply_71 (lv_at hl 4 rfl) ?_
  refine lv_lload (pc := 73) hx hb dX2_multiply_73 (lv_at hl 3 rfl) ?_
  replace h := ez_bd h
  obtain ⟨z23, e24, h⟩ := h
  refine ez_croL (r := z23) (pc := 75) (va_runS (g := F0 m 75 ls [.long (z5 * z7), .long (z1 * z3)]) (As := [.long (z1 * z3), .long (z5 * z7)]) (rest := []) ⟨hx, hb, hml, hown, hw⟩ (kJ9_maxL l n (z1 * z3) (z5 * z7) z23 e24) (va_cwS 2 hw (ez_gS mw333 mw334 mw6 mw335) rfl rfl rfl (by decide +kernel) ⟨Nat.le_of_ble_eq_true rfl, Nat.le_of_ble_eq_true rfl⟩) (ez_preRS hN) rfl rfl hl.1 rfl (lv_room (Nat.le_of_ble_eq_true rfl)) dX2_multiply_75 ⟨Nat.le_refl _, Nat.le_refl _⟩) ?_
  refine lv_lload (pc := 78) hx hb dX2_multiply_78 (lv_at hl 2 rfl) ?_
  refine lv_lload (pc := 80) hx hb dX2_multiply_80 (lv_at hl 1 rfl) ?_
  replace h := ez_bd h
  obtain ⟨z25, e26, h⟩ := h
  refine ez_croL (r := z25) (pc := 82) (va_runS (g := F0 m 82 ls [.long (z13 * z15), .long (z9 * z11), .long z23]) (As := [.long (z9 * z11), .long (z13 * z15)]) (rest := [.long z23]) ⟨hx, hb, hml, hown, hw⟩ (kJ9_maxL l n (z9 * z11) (z13 * z15) z25 e26) (va_cwS 2 hw (ez_gS mw333 mw334 mw6 mw335) rfl rfl rfl (by decide +kernel) ⟨Nat.le_of_ble_eq_true rfl, Nat.le_of_ble_eq_true rfl⟩) (ez_preRS hN) rfl rfl hl.1 rfl (lv_room (Nat.le_of_ble_eq_true rfl)) dX2_multiply_82 ⟨Nat.le_refl _, Nat.le_refl _⟩) ?_
  replace h := ez_bd h
  obtain ⟨z27, e28, h⟩ := h
  refine ez_croL (r := z27) (pc := 85) (va_runS (g := F0 m 85 ls [.long z25, .long z23]) (As := [.long z23, .long z25]) (rest := []) ⟨hx, hb, hml, hown, hw⟩ (kJ9_maxL l n z23 z25 z27 e28) (va_cwS 2 hw (ez_gS mw333 mw334 mw6 mw335) rfl rfl rfl (by decide +kernel) ⟨Nat.le_of_ble_eq_true rfl, Nat.le_of_ble_eq_true rfl⟩) (ez_preRS hN) rfl rfl hl.1 rfl (lv_room (Nat.le_of_ble_eq_true rfl)) dX2_multiply_85 ⟨Nat.le_refl _, Nat.le_refl _⟩) ?_
  refine lv_lstore (pc := 88) hx hb dX2_multiply_88 hl (by decide) rfl (fun ls hl => ?_)
  replace hl : lv_has ls 16 [(14, .long z27), (12, .long z21), (10, .long (z13 * z15)), (8, .long (z9 * z11)), (6, .long (z5 * z7)), (4, .long (z1 * z3)), (0, .ref (a 4)), (1, .int x1), (2, .int x2), (3, .int x3)] := hl
  refine lv_aload_n (pc := 90) hx hb dX2_multiply_90 rfl (lv_at hl 6 rfl) ?_
  refine lv_iload_n (pc := 91) hx hb dX2_multiply_91 rfl (lv_at hl 7 rfl) ?_
  refine lv_lload (pc := 92) hx hb dX2_multiply_92 (lv_at hl 1 rfl) ?_
  refine lv_lload (pc := 94) hx hb dX2_multiply_94 (lv_at hl 0 rfl) ?_
  replace h := ez_bd h
  obtain ⟨z29, e30, h⟩ := h
  refine ez_callV (pc := 96) (wr := []) (wl := (wC a k w)) (wl' := (wC a k z29)) (va_runV (g := F0 m 96 ls [.long z27, .long z21, .int x1, .ref (a 4)]) (As := [.int x1, .long z21, .long z27]) (rest := []) ⟨hx, hb, hml, hown, hw⟩ (kX2_setSpanOfSquaredUnits l D a k n x1 z21 z27 w z29 e30 H.size) (cwV 3 hw (ez_gV mw336 mw338 mp22 mw3 mw339) rfl rfl rfl (by decide +kernel) ⟨Nat.le_of_ble_eq_true rfl, Nat.le_of_ble_eq_true rfl⟩) (ez_preV (wr := []) (wl := (wC a k w)) hP hD hK hN 4 rfl rfl) rfl rfl hl.1 rfl (lv_room (Nat.le_of_ble_eq_true rfl)) dX2_multiply_96 ⟨Nat.le_refl _, Nat.le_refl _⟩) hP hD hS hA (fun H locs hP hD hS => ?_)
  replace hP : va_P D vwCl (wC a k z29) H := hP
  replace hD : va_D A (wC a k z29) := hD
  obtain rfl := ez_r1 h
  exact ez_retV C0 hP hD hK hS dX2_multiply_99
set_option maxRecDepth 100000 in
theorem kX2_multiply (l : Launch) (D : va_G) (a : Nat → Nat) (k : Nat → ClassId) (n : Nat) (x1 : Int32) (x2 : Int32) (x3 : Int32) (w : Wd) (z : Wd) (h : fX2_multiply n x1 x2 x3 w = some z) (sz : Nat) : Met l yX2_multiply wsX2_multiply ({ frames := 3, cells := 0, slots := 0, locals := 72 } : Room) (ez_Pc D (tC k) [.ref (a 4), .int x1, .int x2, .int x3] (wC a k w) sz) (ez_Qv D (tC k) (va_A (wC a k w) sz) (wC a k z)) 0 0 (va_A (wC a k w) sz) :=
  ez_mk (Qf := fun A => (ez_Qv D (tC k) A (wC a k z))) (by decide) rfl (Nat.le_of_ble_eq_true rfl) (fun p e s m below meth c A ls C0 _ hl hP hD hK => tX2_multiply_0 C0 hK n s.heap [] ls x1 x2 x3 w (lv_sub (l := [(0, .ref (a 4)), (1, .int x1), (2, .int x2), (3, .int x3)]) hl [0, 1, 2, 3] rfl) hP hD va_S.rf h) sz
/-! EnclosureCalculator$Spans floorRatio -/
theorem dX2_floorRatio_0 : decode cX2_floorRatio 0 = .ok (.lload_n 3, 1) := by decide +kernel
theorem dX2_floorRatio_1 : decode cX2_floorRatio 1 = .ok (.lconst 0, 1) := by decide +kernel
theorem dX2_floorRatio_2 : decode cX2_floorRatio 2 = .ok (.lcmp, 1) := by decide +kernel
theorem dX2_floorRatio_3 : decode cX2_floorRatio 3 = .ok (.ifCond .ne 7, 3) := by decide +kernel
theorem dX2_floorRatio_6 : decode cX2_floorRatio 6 = .ok (.lconst 0, 1) := by decide +kernel
theorem dX2_floorRatio_7 : decode cX2_floorRatio 7 = .ok (.goto 13, 3) := by decide +kernel
theorem dX2_floorRatio_10 : decode cX2_floorRatio 10 = .ok (.lload_n 1, 1) := by decide +kernel
theorem dX2_floorRatio_11 : decode cX2_floorRatio 11 = .ok (.aload_n 0, 1) := by decide +kernel
theorem dX2_floorRatio_12 : decode cX2_floorRatio 12 = .ok (.getfield 41, 3) := by decide +kernel
theorem dX2_floorRatio_15 : decode cX2_floorRatio 15 = .ok (.lshl, 1) := by decide +kernel
theorem dX2_floorRatio_16 : decode cX2_floorRatio 16 = .ok (.lload_n 3, 1) := by decide +kernel
theorem dX2_floorRatio_17 : decode cX2_floorRatio 17 = .ok (.invokestatic 117, 3) := by decide +kernel
theorem dX2_floorRatio_20 : decode cX2_floorRatio 20 = .ok (.lreturn, 1) := by decide +kernel
def fX2_floorRatio (n : Nat) (x1 : Int64) (x3 : Int64) (w : Wd) : Option (Int64) :=
    if (lg_cmp x3 0) = 0 then
      some 0
    else
      (fJ9_floorDiv n (x1 <<< (Int32.toInt64 (w.1 0 4) &&& 63)) x3).bind fun z2 =>
      some z2
set_option maxHeartbeats 4000000 in
set_option maxRecDepth 100000 in
theorem tX2_floorRatio_0 {p : Program} {l : Launch} {e : Env} {s : State} {m : MethodId} {args : Array Value} {below : List Frame} {meth : Method} {c : Code} {D : va_G} {a : Nat → Nat} {k : Nat → ClassId} {z : Int64} {w : Wd} (C0 : ez_C p s m args meth c cX2_floorRatio (some .long) 5 RX2 (fun _ => True)) (hK : va_K D vwCl (tC k) s) (hP : va_P D vwCl (wC a k w) s.heap) : ∀ (n : Nat) (ls : Array Slot) (x1 : Int64) (x3 : Int64), lv_has ls 5 [(0, .ref (a 4)), (1, .long x1), (3, .long x3)] → fX2_floorRatio n x1 x3 w = some z → W p l e ({ frames := 1, cells := 0, slots := 0, locals := 25 } : Room) s m args below meth c s.heap [] 0 0 (MQ below (ez_Rl z) args s 0 0 (fun _ => False)) (F0 m 0 ls []) := by
  intro n
  intro ls x1 x3 hl h
  rw [fX2_floorRatio] at h
  have C1 := C0
  obtain ⟨hx, hb, hr, hml, hown, hw, hlk, hA, hN⟩ := C1
  refine lv_lload_n (pc := 0) hx hb dX2_floorRatio_0 rfl (lv_at hl 2 rfl) ?_
  refine lv_lconst (v := 0) (pc := 1) hx hb dX2_floorRatio_1 rfl ?_
  refine W.lcmp (pc := 2) hx hb dX2_floorRatio_2 ?_
  refine lv_if_ne (pc := 3) (tgt := 10) hx hb dX2_floorRatio_3 (by decide) (fun c1 => ?_) (fun c1 => ?_)
  · replace h := ez_if c1 h
    refine lv_lload_n (pc := 10) hx hb dX2_floorRatio_10 rfl (lv_at hl 1 rfl) ?_
    refine lv_aload_n (pc := 11) hx hb dX2_floorRatio_11 rfl (lv_at hl 0 rfl) ?_
    refine va_get (D := D) (pc := 12) hx hb hw inX2 hown hK hP 4 rfl rfl 4 (by decide) (hw _ mw49) (fun _ h9 => h9) rfl dX2_floorRatio_12 ?_
    refine lv_lshl (pc := 15) hx hb dX2_floorRatio_15 rfl ?_
    refine lv_lload_n (pc := 16) hx hb dX2_floorRatio_16 rfl (lv_at hl 2 rfl) ?_
    replace h := ez_bd h
    obtain ⟨z2, e3, h⟩ := h
    refine ez_croL (r := z2) (pc := 17) (va_runS (g := F0 m 17 ls [.long x3, .long (x1 <<< (Int32.toInt64 (w.1 0 4) &&& 63))]) (As := [.long (x1 <<< (Int32.toInt64 (w.1 0 4) &&& 63)), .long x3]) (rest := []) ⟨hx, hb, hml, hown, hw⟩ (kJ9_floorDiv l n (x1 <<< (Int32.toInt64 (w.1 0 4) &&& 63)) x3 z2 e3) (va_cwS 2 hw (ez_gS mw352 mw353 mw6 mw354) rfl rfl rfl (by decide +kernel) ⟨Nat.le_of_ble_eq_true rfl, Nat.le_of_ble_eq_true rfl⟩) (ez_preRS hN) rfl rfl hl.1 rfl (lv_room (Nat.le_of_ble_eq_true rfl)) dX2_floorRatio_17 ⟨Nat.le_refl _, Nat.le_refl _⟩) ?_
    obtain rfl := ez_r1 h
    exact ez_rroL C0 dX2_floorRatio_20
  · replace h := ez_it c1 h
    refine lv_lconst (v := 0) (pc := 6) hx hb dX2_floorRatio_6 rfl ?_
    refine lv_goto (pc := 7) (tgt := 20) hx hb dX2_floorRatio_7 (by decide) ?_
    obtain rfl := ez_r1 h
    exact ez_rroL C0 dX2_floorRatio_20
set_option maxRecDepth 100000 in
theorem kX2_floorRatio (l : Launch) (D : va_G) (a : Nat → Nat) (k : Nat → ClassId) (n : Nat) (x1 : Int64) (x3 : Int64) (w : Wd) (z : Int64) (h : fX2_floorRatio n x1 x3 w = some z) : Met l yX2_floorRatio wsX2_floorRatio ({ frames := 1, cells := 0, slots := 0, locals := 25 } : Room) (ez_Rc D (tC k) [.ref (a 4), .long x1, .long x3] (wC a k w)) (ez_Rl z) 0 0 (fun _ => False) :=
  ez_mkR (by decide) rfl (Nat.le_of_ble_eq_true rfl) (fun p e s m below meth c ls C0 hl hP hK => tX2_floorRatio_0 C0 hK hP n ls x1 x3 (lv_sub (l := [(0, .ref (a 4)), (1, .long x1), (3, .long x3)]) hl [0, 1, 2] rfl) h)
/-! EnclosureCalculator$Spans leastRatio -/
theorem dX2_leastRatio_0 : decode cX2_leastRatio 0 = .ok (.aload_n 0, 1) := by decide +kernel
theorem dX2_leastRatio_1 : decode cX2_leastRatio 1 = .ok (.aload_n 0, 1) := by decide +kernel
theorem dX2_leastRatio_2 : decode cX2_leastRatio 2 = .ok (.iload_n 1, 1) := by decide +kernel
theorem dX2_leastRatio_3 : decode cX2_leastRatio 3 = .ok (.invokevirtual 73, 3) := by decide +kernel
theorem dX2_leastRatio_6 : decode cX2_leastRatio 6 = .ok (.lload_n 2, 1) := by decide +kernel
theorem dX2_leastRatio_7 : decode cX2_leastRatio 7 = .ok (.invokevirtual 114, 3) := by decide +kernel
theorem dX2_leastRatio_10 : decode cX2_leastRatio 10 = .ok (.aload_n 0, 1) := by decide +kernel
theorem dX2_leastRatio_11 : decode cX2_leastRatio 11 = .ok (.aload_n 0, 1) := by decide +kernel
theorem dX2_leastRatio_12 : decode cX2_leastRatio 12 = .ok (.iload_n 1, 1) := by decide +kernel
theorem dX2_leastRatio_13 : decode cX2_leastRatio 13 = .ok (.invokevirtual 69, 3) := by decide +kernel
theorem dX2_leastRatio_16 : decode cX2_leastRatio 16 = .ok (.lload_n 2, 1) := by decide +kernel
theorem dX2_leastRatio_17 : decode cX2_leastRatio 17 = .ok (.invokevirtual 114, 3) := by decide +kernel
theorem dX2_leastRatio_20 : decode cX2_leastRatio 20 = .ok (.invokestatic 95, 3) := by decide +kernel
theorem dX2_leastRatio_23 : decode cX2_leastRatio 23 = .ok (.lreturn, 1) := by decide +kernel
def fX2_leastRatio (n : Nat) (x1 : Int32) (x2 : Int64) (w : Wd) : Option (Int64) :=
    (fX2_lowOf n x1 w).bind fun z1 =>
    (fX2_floorRatio n z1 x2 w).bind fun z3 =>
    (fX2_highOf n x1 w).bind fun z5 =>
    (fX2_floorRatio n z5 x2 w).bind fun z7 =>
    (fJ9_minL n z3 z7).bind fun z9 =>
    some z9
set_option maxHeartbeats 4000000 in
set_option maxRecDepth 100000 in
theorem tX2_leastRatio_0 {p : Program} {l : Launch} {e : Env} {s : State} {m : MethodId} {args : Array Value} {below : List Frame} {meth : Method} {c : Code} {D : va_G} {a : Nat → Nat} {k : Nat → ClassId} {z : Int64} {w : Wd} (C0 : ez_C p s m args meth c cX2_leastRatio (some .long) 4 RX2 (fun _ => True)) (hK : va_K D vwCl (tC k) s) (hP : va_P D vwCl (wC a k w) s.heap) : ∀ (n : Nat) (ls : Array Slot) (x1 : Int32) (x2 : Int64), lv_has ls 4 [(0, .ref (a 4)), (1, .int x1), (2, .long x2)] → fX2_leastRatio n x1 x2 w = some z → W p l e ({ frames := 2, cells := 0, slots := 0, locals := 49 } : Room) s m args below meth c s.heap [] 0 0 (MQ below (ez_Rl z) args s 0 0 (fun _ => False)) (F0 m 0 ls []) := by
  intro n
  intro ls x1 x2 hl h
  rw [fX2_leastRatio] at h
  have C1 := C0
  obtain ⟨hx, hb, hr, hml, hown, hw, hlk, hA, hN⟩ := C1
  refine lv_aload_n (pc := 0) hx hb dX2_leastRatio_0 rfl (lv_at hl 0 rfl) ?_
  refine lv_aload_n (pc := 1) hx hb dX2_leastRatio_1 rfl (lv_at hl 0 rfl) ?_
  refine lv_iload_n (pc := 2) hx hb dX2_leastRatio_2 rfl (lv_at hl 1 rfl) ?_
  replace h := ez_bd h
  obtain ⟨z1, e2, h⟩ := h
  refine ez_croL (r := z1) (pc := 3) (va_runV (g := F0 m 3 ls [.int x1, .ref (a 4), .ref (a 4)]) (As := [.int x1]) (rest := [.ref (a 4)]) ⟨hx, hb, hml, hown, hw⟩ (kX2_lowOf l D a k n x1 w z1 e2) (cwV 1 hw (ez_gV mw322 mw323 mw324 mw3 mw325) rfl rfl rfl (by decide +kernel) ⟨Nat.le_of_ble_eq_true rfl, Nat.le_of_ble_eq_true rfl⟩) (ez_preRV (wr := []) (wl := (wC a k w)) hP hK hN 4 rfl rfl) rfl rfl hl.1 rfl (lv_room (Nat.le_of_ble_eq_true rfl)) dX2_leastRatio_3 ⟨Nat.le_refl _, Nat.le_refl _⟩) ?_
  refine lv_lload_n (pc := 6) hx hb dX2_leastRatio_6 rfl (lv_at hl 2 rfl) ?_
  replace h := ez_bd h
  obtain ⟨z3, e4, h⟩ := h
  refine ez_croL (r := z3) (pc := 7) (va_runV (g := F0 m 7 ls [.long x2, .long z1, .ref (a 4)]) (As := [.long z1, .long x2]) (rest := []) ⟨hx, hb, hml, hown, hw⟩ (kX2_floorRatio l D a k n z1 x2 w z3 e4) (cwV 2 hw (ez_gV mw348 mw350 mp25 mw3 mw351) rfl rfl rfl (by decide +kernel) ⟨Nat.le_of_ble_eq_true rfl, Nat.le_of_ble_eq_true rfl⟩) (ez_preRV (wr := []) (wl := (wC a k w)) hP hK hN 4 rfl rfl) rfl rfl hl.1 rfl (lv_room (Nat.le_of_ble_eq_true rfl)) dX2_leastRatio_7 ⟨Nat.le_refl _, Nat.le_refl _⟩) ?_
  refine lv_aload_n (pc := 10) hx hb dX2_leastRatio_10 rfl (lv_at hl 0 rfl) ?_
  refine lv_aload_n (pc := 11) hx hb dX2_leastRatio_11 rfl (lv_at hl 0 rfl) ?_
  refine lv_iload_n (pc := 12) hx hb dX2_leastRatio_12 rfl (lv_at hl 1 rfl) ?_
  replace h := ez_bd h
  obtain ⟨z5, e6, h⟩ := h
  refine ez_croL (r := z5) (pc := 13) (va_runV (g := F0 m 13 ls [.int x1, .ref (a 4), .ref (a 4), .long z3]) (As := [.int x1]) (rest := [.ref (a 4), .long z3]) ⟨hx, hb, hml, hown, hw⟩ (kX2_highOf l D a k n x1 w z5 e6) (cwV 1 hw (ez_gV mw318 mw319 mw320 mw3 mw321) rfl rfl rfl (by decide +kernel) ⟨Nat.le_of_ble_eq_true rfl, Nat.le_of_ble_eq_true rfl⟩) (ez_preRV (wr := []) (wl := (wC a k w)) hP hK hN 4 rfl rfl) rfl rfl hl.1 rfl (lv_room (Nat.le_of_ble_eq_true rfl)) dX2_leastRatio_13 ⟨Nat.le_refl _, Nat.le_refl _⟩) ?_
  refine lv_lload_n (pc := 16) hx hb dX2_leastRatio_16 rfl (lv_at hl 2 rfl) ?_
  replace h := ez_bd h
  obtain ⟨z7, e8, h⟩ := h
  refine ez_croL (r := z7) (pc := 17) (va_runV (g := F0 m 17 ls [.long x2, .long z5, .ref (a 4), .long z3]) (As := [.long z5, .long x2]) (rest := [.long z3]) ⟨hx, hb, hml, hown, hw⟩ (kX2_floorRatio l D a k n z5 x2 w z7 e8) (cwV 2 hw (ez_gV mw348 mw350 mp25 mw3 mw351) rfl rfl rfl (by decide +kernel) ⟨Nat.le_of_ble_eq_true rfl, Nat.le_of_ble_eq_true rfl⟩) (ez_preRV (wr := []) (wl := (wC a k w)) hP hK hN 4 rfl rfl) rfl rfl hl.1 rfl (lv_room (Nat.le_of_ble_eq_true rfl)) dX2_leastRatio_17 ⟨Nat.le_refl _, Nat.le_refl _⟩) ?_
  replace h := ez_bd h
  obtain ⟨z9, e10, h⟩ := h
  refine ez_croL (r := z9) (pc := 20) (va_runS (g := F0 m 20 ls [.long z7, .long z3]) (As := [.long z3, .long z7]) (rest := []) ⟨hx, hb, hml, hown, hw⟩ (kJ9_minL l n z3 z7 z9 e10) (va_cwS 2 hw (ez_gS mw330 mw331 mw6 mw332) rfl rfl rfl (by decide +kernel) ⟨Nat.le_of_ble_eq_true rfl, Nat.le_of_ble_eq_true rfl⟩) (ez_preRS hN) rfl rfl hl.1 rfl (lv_room (Nat.le_of_ble_eq_true rfl)) dX2_leastRatio_20 ⟨Nat.le_refl _, Nat.le_refl _⟩) ?_
  obtain rfl := ez_r1 h
  exact ez_rroL C0 dX2_leastRatio_23
set_option maxRecDepth 100000 in
theorem kX2_leastRatio (l : Launch) (D : va_G) (a : Nat → Nat) (k : Nat → ClassId) (n : Nat) (x1 : Int32) (x2 : Int64) (w : Wd) (z : Int64) (h : fX2_leastRatio n x1 x2 w = some z) : Met l yX2_leastRatio wsX2_leastRatio ({ frames := 2, cells := 0, slots := 0, locals := 49 } : Room) (ez_Rc D (tC k) [.ref (a 4), .int x1, .long x2] (wC a k w)) (ez_Rl z) 0 0 (fun _ => False) :=
  ez_mkR (by decide) rfl (Nat.le_of_ble_eq_true rfl) (fun p e s m below meth c ls C0 hl hP hK => tX2_leastRatio_0 C0 hK hP n ls x1 x2 (lv_sub (l := [(0, .ref (a 4)), (1, .int x1), (2, .long x2)]) hl [0, 1, 2] rfl) h)
/-! EnclosureCalculator$Spans greatestRatio -/
theorem dX2_greatestRatio_0 : decode cX2_greatestRatio 0 = .ok (.aload_n 0, 1) := by decide +kernel
theorem dX2_greatestRatio_1 : decode cX2_greatestRatio 1 = .ok (.aload_n 0, 1) := by decide +kernel
theorem dX2_greatestRatio_2 : decode cX2_greatestRatio 2 = .ok (.iload_n 1, 1) := by decide +kernel
theorem dX2_greatestRatio_3 : decode cX2_greatestRatio 3 = .ok (.invokevirtual 73, 3) := by decide +kernel
theorem dX2_greatestRatio_6 : decode cX2_greatestRatio 6 = .ok (.lneg, 1) := by decide +kernel
theorem dX2_greatestRatio_7 : decode cX2_greatestRatio 7 = .ok (.lload_n 2, 1) := by decide +kernel
theorem dX2_greatestRatio_8 : decode cX2_greatestRatio 8 = .ok (.invokevirtual 114, 3) := by decide +kernel
theorem dX2_greatestRatio_11 : decode cX2_greatestRatio 11 = .ok (.lneg, 1) := by decide +kernel
theorem dX2_greatestRatio_12 : decode cX2_greatestRatio 12 = .ok (.aload_n 0, 1) := by decide +kernel
theorem dX2_greatestRatio_13 : decode cX2_greatestRatio 13 = .ok (.aload_n 0, 1) := by decide +kernel
theorem dX2_greatestRatio_14 : decode cX2_greatestRatio 14 = .ok (.iload_n 1, 1) := by decide +kernel
theorem dX2_greatestRatio_15 : decode cX2_greatestRatio 15 = .ok (.invokevirtual 69, 3) := by decide +kernel
theorem dX2_greatestRatio_18 : decode cX2_greatestRatio 18 = .ok (.lneg, 1) := by decide +kernel
theorem dX2_greatestRatio_19 : decode cX2_greatestRatio 19 = .ok (.lload_n 2, 1) := by decide +kernel
theorem dX2_greatestRatio_20 : decode cX2_greatestRatio 20 = .ok (.invokevirtual 114, 3) := by decide +kernel
theorem dX2_greatestRatio_23 : decode cX2_greatestRatio 23 = .ok (.lneg, 1) := by decide +kernel
theorem dX2_greatestRatio_24 : decode cX2_greatestRatio 24 = .ok (.invokestatic 101, 3) := by decide +kernel
theorem dX2_greatestRatio_27 : decode cX2_greatestRatio 27 = .ok (.lreturn, 1) := by decide +kernel
def fX2_greatestRatio (n : Nat) (x1 : Int32) (x2 : Int64) (w : Wd) : Option (Int64) :=
    (fX2_lowOf n x1 w).bind fun z1 =>
    (fX2_floorRatio n (-z1) x2 w).bind fun z3 =>
    (fX2_highOf n x1 w).bind fun z5 =>
    (fX2_floorRatio n (-z5) x2 w).bind fun z7 =>
    (fJ9_maxL n (-z3) (-z7)).bind fun z9 =>
    some z9
set_option maxHeartbeats 4000000 in
set_option maxRecDepth 100000 in
theorem tX2_greatestRatio_0 {p : Program} {l : Launch} {e : Env} {s : State} {m : MethodId} {args : Array Value} {below : List Frame} {meth : Method} {c : Code} {D : va_G} {a : Nat → Nat} {k : Nat → ClassId} {z : Int64} {w : Wd} (C0 : ez_C p s m args meth c cX2_greatestRatio (some .long) 4 RX2 (fun _ => True)) (hK : va_K D vwCl (tC k) s) (hP : va_P D vwCl (wC a k w) s.heap) : ∀ (n : Nat) (ls : Array Slot) (x1 : Int32) (x2 : Int64), lv_has ls 4 [(0, .ref (a 4)), (1, .int x1), (2, .long x2)] → fX2_greatestRatio n x1 x2 w = some z → W p l e ({ frames := 2, cells := 0, slots := 0, locals := 49 } : Room) s m args below meth c s.heap [] 0 0 (MQ below (ez_Rl z) args s 0 0 (fun _ => False)) (F0 m 0 ls []) := by
  intro n
  intro ls x1 x2 hl h
  rw [fX2_greatestRatio] at h
  have C1 := C0
  obtain ⟨hx, hb, hr, hml, hown, hw, hlk, hA, hN⟩ := C1
  refine lv_aload_n (pc := 0) hx hb dX2_greatestRatio_0 rfl (lv_at hl 0 rfl) ?_
  refine lv_aload_n (pc := 1) hx hb dX2_greatestRatio_1 rfl (lv_at hl 0 rfl) ?_
  refine lv_iload_n (pc := 2) hx hb dX2_greatestRatio_2 rfl (lv_at hl 1 rfl) ?_
  replace h := ez_bd h
  obtain ⟨z1, e2, h⟩ := h
  refine ez_croL (r := z1) (pc := 3) (va_runV (g := F0 m 3 ls [.int x1, .ref (a 4), .ref (a 4)]) (As := [.int x1]) (rest := [.ref (a 4)]) ⟨hx, hb, hml, hown, hw⟩ (kX2_lowOf l D a k n x1 w z1 e2) (cwV 1 hw (ez_gV mw322 mw323 mw324 mw3 mw325) rfl rfl rfl (by decide +kernel) ⟨Nat.le_of_ble_eq_true rfl, Nat.le_of_ble_eq_true rfl⟩) (ez_preRV (wr := []) (wl := (wC a k w)) hP hK hN 4 rfl rfl) rfl rfl hl.1 rfl (lv_room (Nat.le_of_ble_eq_true rfl)) dX2_greatestRatio_3 ⟨Nat.le_refl _, Nat.le_refl _⟩) ?_
  refine lv_lneg (pc := 6) hx hb dX2_greatestRatio_6 ?_
  refine lv_lload_n (pc := 7) hx hb dX2_greatestRatio_7 rfl (lv_at hl 2 rfl) ?_
  replace h := ez_bd h
  obtain ⟨z3, e4, h⟩ := h
  refine ez_croL (r := z3) (pc := 8) (va_runV (g := F0 m 8 ls [.long x2, .long (-z1), .ref (a 4)]) (As := [.long (-z1), .long x2]) (rest := []) ⟨hx, hb, hml, hown, hw⟩ (kX2_floorRatio l D a k n (-z1) x2 w z3 e4) (cwV 2 hw (ez_gV mw348 mw350 mp25 mw3 mw351) rfl rfl rfl (by decide +kernel) ⟨Nat.le_of_ble_eq_true rfl, Nat.le_of_ble_eq_true rfl⟩) (ez_preRV (wr := []) (wl := (wC a k w)) hP hK hN 4 rfl rfl) rfl rfl hl.1 rfl (lv_room (Nat.le_of_ble_eq_true rfl)) dX2_greatestRatio_8 ⟨Nat.le_refl _, Nat.le_refl _⟩) ?_
  refine lv_lneg (pc := 11) hx hb dX2_greatestRatio_11 ?_
  refine lv_aload_n (pc := 12) hx hb dX2_greatestRatio_12 rfl (lv_at hl 0 rfl) ?_
  refine lv_aload_n (pc := 13) hx hb dX2_greatestRatio_13 rfl (lv_at hl 0 rfl) ?_
  refine lv_iload_n (pc := 14) hx hb dX2_greatestRatio_14 rfl (lv_at hl 1 rfl) ?_
  replace h := ez_bd h
  obtain ⟨z5, e6, h⟩ := h
  refine ez_croL (r := z5) (pc := 15) (va_runV (g := F0 m 15 ls [.int x1, .ref (a 4), .ref (a 4), .long (-z3)]) (As := [.int x1]) (rest := [.ref (a 4), .long (-z3)]) ⟨hx, hb, hml, hown, hw⟩ (kX2_highOf l D a k n x1 w z5 e6) (cwV 1 hw (ez_gV mw318 mw319 mw320 mw3 mw321) rfl rfl rfl (by decide +kernel) ⟨Nat.le_of_ble_eq_true rfl, Nat.le_of_ble_eq_true rfl⟩) (ez_preRV (wr := []) (wl := (wC a k w)) hP hK hN 4 rfl rfl) rfl rfl hl.1 rfl (lv_room (Nat.le_of_ble_eq_true rfl)) dX2_greatestRatio_15 ⟨Nat.le_refl _, Nat.le_refl _⟩) ?_
  refine lv_lneg (pc := 18) hx hb dX2_greatestRatio_18 ?_
  refine lv_lload_n (pc := 19) hx hb dX2_greatestRatio_19 rfl (lv_at hl 2 rfl) ?_
  replace h := ez_bd h
  obtain ⟨z7, e8, h⟩ := h
  refine ez_croL (r := z7) (pc := 20) (va_runV (g := F0 m 20 ls [.long x2, .long (-z5), .ref (a 4), .long (-z3)]) (As := [.long (-z5), .long x2]) (rest := [.long (-z3)]) ⟨hx, hb, hml, hown, hw⟩ (kX2_floorRatio l D a k n (-z5) x2 w z7 e8) (cwV 2 hw (ez_gV mw348 mw350 mp25 mw3 mw351) rfl rfl rfl (by decide +kernel) ⟨Nat.le_of_ble_eq_true rfl, Nat.le_of_ble_eq_true rfl⟩) (ez_preRV (wr := []) (wl := (wC a k w)) hP hK hN 4 rfl rfl) rfl rfl hl.1 rfl (lv_room (Nat.le_of_ble_eq_true rfl)) dX2_greatestRatio_20 ⟨Nat.le_refl _, Nat.le_refl _⟩) ?_
  refine lv_lneg (pc := 23) hx hb dX2_greatestRatio_23 ?_
  replace h := ez_bd h
  obtain ⟨z9, e10, h⟩ := h
  refine ez_croL (r := z9) (pc := 24) (va_runS (g := F0 m 24 ls [.long (-z7), .long (-z3)]) (As := [.long (-z3), .long (-z7)]) (rest := []) ⟨hx, hb, hml, hown, hw⟩ (kJ9_maxL l n (-z3) (-z7) z9 e10) (va_cwS 2 hw (ez_gS mw333 mw334 mw6 mw335) rfl rfl rfl (by decide +kernel) ⟨Nat.le_of_ble_eq_true rfl, Nat.le_of_ble_eq_true rfl⟩) (ez_preRS hN) rfl rfl hl.1 rfl (lv_room (Nat.le_of_ble_eq_true rfl)) dX2_greatestRatio_24 ⟨Nat.le_refl _, Nat.le_refl _⟩) ?_
  obtain rfl := ez_r1 h
  exact ez_rroL C0 dX2_greatestRatio_27
set_option maxRecDepth 100000 in
theorem kX2_greatestRatio (l : Launch) (D : va_G) (a : Nat → Nat) (k : Nat → ClassId) (n : Nat) (x1 : Int32) (x2 : Int64) (w : Wd) (z : Int64) (h : fX2_greatestRatio n x1 x2 w = some z) : Met l yX2_greatestRatio wsX2_greatestRatio ({ frames := 2, cells := 0, slots := 0, locals := 49 } : Room) (ez_Rc D (tC k) [.ref (a 4), .int x1, .long x2] (wC a k w)) (ez_Rl z) 0 0 (fun _ => False) :=
  ez_mkR (by decide) rfl (Nat.le_of_ble_eq_true rfl) (fun p e s m below meth c ls C0 hl hP hK => tX2_greatestRatio_0 C0 hK hP n ls x1 x2 (lv_sub (l := [(0, .ref (a 4)), (1, .int x1), (2, .long x2)]) hl [0, 1, 2] rfl) h)
/-! EnclosureCalculator$Spans divide -/
theorem dX2_divide_0 : decode cX2_divide 0 = .ok (.aload_n 0, 1) := by decide +kernel
theorem dX2_divide_1 : decode cX2_divide 1 = .ok (.iload_n 3, 1) := by decide +kernel
theorem dX2_divide_2 : decode cX2_divide 2 = .ok (.invokevirtual 73, 3) := by decide +kernel
theorem dX2_divide_5 : decode cX2_divide 5 = .ok (.lconst 0, 1) := by decide +kernel
theorem dX2_divide_6 : decode cX2_divide 6 = .ok (.lcmp, 1) := by decide +kernel
theorem dX2_divide_7 : decode cX2_divide 7 = .ok (.ifCond .gt 20, 3) := by decide +kernel
theorem dX2_divide_10 : decode cX2_divide 10 = .ok (.aload_n 0, 1) := by decide +kernel
theorem dX2_divide_11 : decode cX2_divide 11 = .ok (.iload_n 3, 1) := by decide +kernel
theorem dX2_divide_12 : decode cX2_divide 12 = .ok (.invokevirtual 69, 3) := by decide +kernel
theorem dX2_divide_15 : decode cX2_divide 15 = .ok (.lconst 0, 1) := by decide +kernel
theorem dX2_divide_16 : decode cX2_divide 16 = .ok (.lcmp, 1) := by decide +kernel
theorem dX2_divide_17 : decode cX2_divide 17 = .ok (.ifCond .lt 10, 3) := by decide +kernel
theorem dX2_divide_20 : decode cX2_divide 20 = .ok (.aload_n 0, 1) := by decide +kernel
theorem dX2_divide_21 : decode cX2_divide 21 = .ok (.iload_n 1, 1) := by decide +kernel
theorem dX2_divide_22 : decode cX2_divide 22 = .ok (.iconst 2, 1) := by decide +kernel
theorem dX2_divide_23 : decode cX2_divide 23 = .ok (.invokevirtual 52, 3) := by decide +kernel
theorem dX2_divide_26 : decode cX2_divide 26 = .ok (.return_, 1) := by decide +kernel
theorem dX2_divide_27 : decode cX2_divide 27 = .ok (.aload_n 0, 1) := by decide +kernel
theorem dX2_divide_28 : decode cX2_divide 28 = .ok (.iload_n 2, 1) := by decide +kernel
theorem dX2_divide_29 : decode cX2_divide 29 = .ok (.aload_n 0, 1) := by decide +kernel
theorem dX2_divide_30 : decode cX2_divide 30 = .ok (.iload_n 3, 1) := by decide +kernel
theorem dX2_divide_31 : decode cX2_divide 31 = .ok (.invokevirtual 73, 3) := by decide +kernel
theorem dX2_divide_34 : decode cX2_divide 34 = .ok (.invokevirtual 107, 3) := by decide +kernel
theorem dX2_divide_37 : decode cX2_divide 37 = .ok (.aload_n 0, 1) := by decide +kernel
theorem dX2_divide_38 : decode cX2_divide 38 = .ok (.iload_n 2, 1) := by decide +kernel
theorem dX2_divide_39 : decode cX2_divide 39 = .ok (.aload_n 0, 1) := by decide +kernel
theorem dX2_divide_40 : decode cX2_divide 40 = .ok (.iload_n 3, 1) := by decide +kernel
theorem dX2_divide_41 : decode cX2_divide 41 = .ok (.invokevirtual 69, 3) := by decide +kernel
theorem dX2_divide_44 : decode cX2_divide 44 = .ok (.invokevirtual 107, 3) := by decide +kernel
theorem dX2_divide_47 : decode cX2_divide 47 = .ok (.invokestatic 95, 3) := by decide +kernel
theorem dX2_divide_50 : decode cX2_divide 50 = .ok (.lstore 4, 2) := by decide +kernel
theorem dX2_divide_52 : decode cX2_divide 52 = .ok (.aload_n 0, 1) := by decide +kernel
theorem dX2_divide_53 : decode cX2_divide 53 = .ok (.iload_n 2, 1) := by decide +kernel
theorem dX2_divide_54 : decode cX2_divide 54 = .ok (.aload_n 0, 1) := by decide +kernel
theorem dX2_divide_55 : decode cX2_divide 55 = .ok (.iload_n 3, 1) := by decide +kernel
theorem dX2_divide_56 : decode cX2_divide 56 = .ok (.invokevirtual 73, 3) := by decide +kernel
theorem dX2_divide_59 : decode cX2_divide 59 = .ok (.invokevirtual 111, 3) := by decide +kernel
theorem dX2_divide_62 : decode cX2_divide 62 = .ok (.aload_n 0, 1) := by decide +kernel
theorem dX2_divide_63 : decode cX2_divide 63 = .ok (.iload_n 2, 1) := by decide +kernel
theorem dX2_divide_64 : decode cX2_divide 64 = .ok (.aload_n 0, 1) := by decide +kernel
theorem dX2_divide_65 : decode cX2_divide 65 = .ok (.iload_n 3, 1) := by decide +kernel
theorem dX2_divide_66 : decode cX2_divide 66 = .ok (.invokevirtual 69, 3) := by decide +kernel
theorem dX2_divide_69 : decode cX2_divide 69 = .ok (.invokevirtual 111, 3) := by decide +kernel
theorem dX2_divide_72 : decode cX2_divide 72 = .ok (.invokestatic 101, 3) := by decide +kernel
theorem dX2_divide_75 : decode cX2_divide 75 = .ok (.lstore 6, 2) := by decide +kernel
theorem dX2_divide_77 : decode cX2_divide 77 = .ok (.aload_n 0, 1) := by decide +kernel
theorem dX2_divide_78 : decode cX2_divide 78 = .ok (.iload_n 1, 1) := by decide +kernel
theorem dX2_divide_79 : decode cX2_divide 79 = .ok (.lload 4, 2) := by decide +kernel
theorem dX2_divide_81 : decode cX2_divide 81 = .ok (.lload 6, 2) := by decide +kernel
theorem dX2_divide_83 : decode cX2_divide 83 = .ok (.invokevirtual 76, 3) := by decide +kernel
theorem dX2_divide_86 : decode cX2_divide 86 = .ok (.return_, 1) := by decide +kernel
def fX2_divide_27 (n : Nat) (x1 : Int32) (x2 : Int32) (x3 : Int32) (w : Wd) : Option (Wd) :=
    (fX2_lowOf n x3 w).bind fun z1 =>
    (fX2_leastRatio n x2 z1 w).bind fun z3 =>
    (fX2_highOf n x3 w).bind fun z5 =>
    (fX2_leastRatio n x2 z5 w).bind fun z7 =>
    (fJ9_minL n z3 z7).bind fun z9 =>
    (fX2_lowOf n x3 w).bind fun z11 =>
    (fX2_greatestRatio n x2 z11 w).bind fun z13 =>
    (fX2_highOf n x3 w).bind fun z15 =>
    (fX2_greatestRatio n x2 z15 w).bind fun z17 =>
    (fJ9_maxL n z13 z17).bind fun z19 =>
    (fX2_setSpan n x1 z9 z19 w).bind fun z21 =>
    some z21
def fX2_divide (n : Nat) (x1 : Int32) (x2 : Int32) (x3 : Int32) (w : Wd) : Option (Wd) :=
    (fX2_lowOf n x3 w).bind fun z1 =>
    if 0 < (lg_cmp z1 0) then
      fX2_divide_27 n x1 x2 x3 w
    else
      (fX2_highOf n x3 w).bind fun z4 =>
      if (lg_cmp z4 0) < 0 then
        fX2_divide_27 n x1 x2 x3 w
      else
        (fX2_setState n x1 2 w).bind fun z7 =>
        some z7
set_option maxHeartbeats 4000000 in
set_option maxRecDepth 100000 in
theorem tX2_divide_27 {p : Program} {l : Launch} {e : Env} {s : State} {m : MethodId} {args : Array Value} {below : List Frame} {meth : Method} {c : Code} {A : Nat → Prop} {D : va_G} {a : Nat → Nat} {k : Nat → ClassId} {z : Wd} (C0 : ez_C p s m args meth c cX2_divide none 8 RX2 A) (hK : va_K D vwCl (tC k) s) : ∀ (n : Nat) (H : Heap) (locs : List Loc) (ls : Array Slot) (x1 : Int32) (x2 : Int32) (x3 : Int32) (w : Wd), lv_has ls 8 [(0, .ref (a 4)), (1, .int x1), (2, .int x2), (3, .int x3)] → va_P D vwCl (wC a k w) H → va_D A (wC a k w) → va_S A s.heap H locs → fX2_divide_27 n x1 x2 x3 w = some z → W p l e ({ frames := 3, cells := 0, slots := 0, locals := 72 } : Room) s m args below meth c H locs 0 0 (MQ below (ez_Qv D (tC k) A (wC a k z)) args s 0 0 A) (F0 m 27 ls []) := by
  intro n
  intro H locs ls x1 x2 x3 w hl hP hD hS h
  rw [fX2_divide_27] at h
  have C1 := C0
  obtain ⟨hx, hb, hr, hml, hown, hw, hlk, hA, hN⟩ := C1
  refine lv_aload_n (pc := 27) hx hb dX2_divide_27 rfl (lv_at hl 0 rfl) ?_
  refine lv_iload_n (pc := 28) hx hb dX2_divide_28 rfl (lv_at hl 2 rfl) ?_
  refine lv_aload_n (pc := 29) hx hb dX2_divide_29 rfl (lv_at hl 0 rfl) ?_
  refine lv_iload_n (pc := 30) hx hb dX2_divide_30 rfl (lv_at hl 3 rfl) ?_
  replace h := ez_bd h
  obtain ⟨z1, e2, h⟩ := h
  refine ez_croL (r := z1) (pc := 31) (va_runV (g := F0 m 31 ls [.int x3, .ref (a 4), .int x2, .ref (a 4)]) (As := [.int x3]) (rest := [.int x2, .ref (a 4)]) ⟨hx, hb, hml, hown, hw⟩ (kX2_lowOf l D a k n x3 w z1 e2) (cwV 1 hw (ez_gV mw322 mw323 mw324 mw3 mw325) rfl rfl rfl (by decide +kernel) ⟨Nat.le_of_ble_eq_true rfl, Nat.le_of_ble_eq_true rfl⟩) (ez_preRV (wr := []) (wl := (wC a k w)) hP hK hN 4 rfl rfl) rfl rfl hl.1 rfl (lv_room (Nat.le_of_ble_eq_true rfl)) dX2_divide_31 ⟨Nat.le_refl _, Nat.le_refl _⟩) ?_
  replace h := ez_bd h
  obtain ⟨z3, e4, h⟩ := h
  refine ez_croL (r := z3) (pc := 34) (va_runV (g := F0 m 34 ls [.long z1, .int x2, .ref (a 4)]) (As := [.int x2, .long z1]) (rest := []) ⟨hx, hb, hml, hown, hw⟩ (kX2_leastRatio l D a k n x2 z1 w z3 e4) (cwV 2 hw (ez_gV mw344 mw346 mp24 mw3 mw347) rfl rfl rfl (by decide +kernel) ⟨Nat.le_of_ble_eq_true rfl, Nat.le_of_ble_eq_true rfl⟩) (ez_preRV (wr := []) (wl := (wC a k w)) hP hK hN 4 rfl rfl) rfl rfl hl.1 rfl (lv_room (Nat.le_of_ble_eq_true rfl)) dX2_divide_34 ⟨Nat.le_refl _, Nat.le_refl _⟩) ?_
  refine lv_aload_n (pc := 37) hx hb dX2_divide_37 rfl (lv_at hl 0 rfl) ?_
  refine lv_iload_n (pc := 38) hx hb dX2_divide_38 rfl (lv_at hl 2 rfl) ?_
  refine lv_aload_n (pc := 39) hx hb dX2_divide_39 rfl (lv_at hl 0 rfl) ?_
  refine lv_iload_n (pc := 40) hx hb dX2_divide_40 rfl (lv_at hl 3 rfl) ?_
  replace h := ez_bd h
  obtain ⟨z5, e6, h⟩ := h
  refine ez_croL (r := z5) (pc := 41) (va_runV (g := F0 m 41 ls [.int x3, .ref (a 4), .int x2, .ref (a 4), .long z3]) (As := [.int x3]) (rest := [.int x2, .ref (a 4), .long z3]) ⟨hx, hb, hml, hown, hw⟩ (kX2_highOf l D a k n x3 w z5 e6) (cwV 1 hw (ez_gV mw318 mw319 mw320 mw3 mw321) rfl rfl rfl (by decide +kernel) ⟨Nat.le_of_ble_eq_true rfl, Nat.le_of_ble_eq_true rfl⟩) (ez_preRV (wr := []) (wl := (wC a k w)) hP hK hN 4 rfl rfl) rfl rfl hl.1 rfl (lv_room (Nat.le_of_ble_eq_true rfl)) dX2_divide_41 ⟨Nat.le_refl _, Nat.le_refl _⟩) ?_
  replace h := ez_bd h
  obtain ⟨z7, e8, h⟩ := h
  refine ez_croL (r := z7) (pc := 44) (va_runV (g := F0 m 44 ls [.long z5, .int x2, .ref (a 4), .long z3]) (As := [.int x2, .long z5]) (rest := [.long z3]) ⟨hx, hb, hml, hown, hw⟩ (kX2_leastRatio l D a k n x2 z5 w z7 e8) (cwV 2 hw (ez_gV mw344 mw346 mp24 mw3 mw347) rfl rfl rfl (by decide +kernel) ⟨Nat.le_of_ble_eq_true rfl, Nat.le_of_ble_eq_true rfl⟩) (ez_preRV (wr := []) (wl := (wC a k w)) hP hK hN 4 rfl rfl) rfl rfl hl.1 rfl (lv_room (Nat.le_of_ble_eq_true rfl)) dX2_divide_44 ⟨Nat.le_refl _, Nat.le_refl _⟩) ?_
  replace h := ez_bd h
  obtain ⟨z9, e10, h⟩ := h
  refine ez_croL (r := z9) (pc := 47) (va_runS (g := F0 m 47 ls [.long z7, .long z3]) (As := [.long z3, .long z7]) (rest := []) ⟨hx, hb, hml, hown, hw⟩ (kJ9_minL l n z3 z7 z9 e10) (va_cwS 2 hw (ez_gS mw330 mw331 mw6 mw332) rfl rfl rfl (by decide +kernel) ⟨Nat.le_of_ble_eq_true rfl, Nat.le_of_ble_eq_true rfl⟩) (ez_preRS hN) rfl rfl hl.1 rfl (lv_room (Nat.le_of_ble_eq_true rfl)) dX2_divide_47 ⟨Nat.le_refl _, Nat.le_refl _⟩) ?_
  refine lv_lstore (pc := 50) hx hb dX2_divide_50 hl (by decide) rfl (fun ls hl => ?_)
  replace hl : lv_has ls 8 [(4, .long z9), (0, .ref (a 4)), (1, .int x1), (2, .int x2), (3, .int x3)] := hl
  refine lv_aload_n (pc := 52) hx hb dX2_divide_52 rfl (lv_at hl 1 rfl) ?_
  refine lv_iload_n (pc := 53) hx hb dX2_divide_53 rfl (lv_at hl 3 rfl) ?_
  refine lv_aload_n (pc := 54) hx hb dX2_divide_54 rfl (lv_at hl 1 rfl) ?_
  refine lv_iload_n (pc := 55) hx hb dX2_divide_55 rfl (lv_at hl 4 rfl) ?_
  replace h := ez_bd h
  obtain ⟨z11, e12, h⟩ := h
  refine ez_croL (r := z11) (pc := 56) (va_runV (g := F0 m 56 ls [.int x3, .ref (a 4), .int x2, .ref (a 4)]) (As := [.int x3]) (rest := [.int x2, .ref (a 4)]) ⟨hx, hb, hml, hown, hw⟩ (kX2_lowOf l D a k n x3 w z11 e12) (cwV 1 hw (ez_gV mw322 mw323 mw324 mw3 mw325) rfl rfl rfl (by decide +kernel) ⟨Nat.le_of_ble_eq_true rfl, Nat.le_of_ble_eq_true rfl⟩) (ez_preRV (wr := []) (wl := (wC a k w)) hP hK hN 4 rfl rfl) rfl rfl hl.1 rfl (lv_room (Nat.le_of_ble_eq_true rfl)) dX2_divide_56 ⟨Nat.le_refl _, Nat.le_refl _⟩) ?_
  replace h := ez_bd h
  obtain ⟨z13, e14, h⟩ := h
  refine ez_croL (r := z13) (pc := 59) (va_runV (g := F0 m 59 ls [.long z11, .int x2, .ref (a 4)]) (As := [.int x2, .long z11]) (rest := []) ⟨hx, hb, hml, hown, hw⟩ (kX2_greatestRatio l D a k n x2 z11 w z13 e14) (cwV 2 hw (ez_gV mw355 mw357 mp26 mw3 mw358) rfl rfl rfl (by decide +kernel) ⟨Nat.le_of_ble_eq_true rfl, Nat.le_of_ble_eq_true rfl⟩) (ez_preRV (wr := []) (wl := (wC a k w)) hP hK hN 4 rfl rfl) rfl rfl hl.1 rfl (lv_room (Nat.le_of_ble_eq_true rfl)) dX2_divide_59 ⟨Nat.le_refl _, Nat.le_refl _⟩) ?_
  refine lv_aload_n (pc := 62) hx hb dX2_divide_62 rfl (lv_at hl 1 rfl) ?_
  refine lv_iload_n (pc := 63) hx hb dX2_divide_63 rfl (lv_at hl 3 rfl) ?_
  refine lv_aload_n (pc := 64) hx hb dX2_divide_64 rfl (lv_at hl 1 rfl) ?_
  refine lv_iload_n (pc := 65) hx hb dX2_divide_65 rfl (lv_at hl 4 rfl) ?_
  replace h := ez_bd h
  obtain ⟨z15, e16, h⟩ := h
  refine ez_croL (r := z15) (pc := 66) (va_runV (g := F0 m 66 ls [.int x3, .ref (a 4), .int x2, .ref (a 4), .long z13]) (As := [.int x3]) (rest := [.int x2, .ref (a 4), .long z13]) ⟨hx, hb, hml, hown, hw⟩ (kX2_highOf l D a k n x3 w z15 e16) (cwV 1 hw (ez_gV mw318 mw319 mw320 mw3 mw321) rfl rfl rfl (by decide +kernel) ⟨Nat.le_of_ble_eq_true rfl, Nat.le_of_ble_eq_true rfl⟩) (ez_preRV (wr := []) (wl := (wC a k w)) hP hK hN 4 rfl rfl) rfl rfl hl.1 rfl (lv_room (Nat.le_of_ble_eq_true rfl)) dX2_divide_66 ⟨Nat.le_refl _, Nat.le_refl _⟩) ?_
  replace h := ez_bd h
  obtain ⟨z17, e18, h⟩ := h
  refine ez_croL (r := z17) (pc := 69) (va_runV (g := F0 m 69 ls [.long z15, .int x2, .ref (a 4), .long z13]) (As := [.int x2, .long z15]) (rest := [.long z13]) ⟨hx, hb, hml, hown, hw⟩ (kX2_greatestRatio l D a k n x2 z15 w z17 e18) (cwV 2 hw (ez_gV mw355 mw357 mp26 mw3 mw358) rfl rfl rfl (by decide +kernel) ⟨Nat.le_of_ble_eq_true rfl, Nat.le_of_ble_eq_true rfl⟩) (ez_preRV (wr := []) (wl := (wC a k w)) hP hK hN 4 rfl rfl) rfl rfl hl.1 rfl (lv_room (Nat.le_of_ble_eq_true rfl)) dX2_divide_69 ⟨Nat.le_refl _, Nat.le_refl _⟩) ?_
  replace h := ez_bd h
  obtain ⟨z19, e20, h⟩ := h
  refine ez_croL (r := z19) (pc := 72) (va_runS (g := F0 m 72 ls [.long z17, .long z13]) (As := [.long z13, .long z17]) (rest := []) ⟨hx, hb, hml, hown, hw⟩ (kJ9_maxL l n z13 z17 z19 e20) (va_cwS 2 hw (ez_gS mw333 mw334 mw6 mw335) rfl rfl rfl (by decide +kernel) ⟨Nat.le_of_ble_eq_true rfl, Nat.le_of_ble_eq_true rfl⟩) (ez_preRS hN) rfl rfl hl.1 rfl (lv_room (Nat.le_of_ble_eq_true rfl)) dX2_divide_72 ⟨Nat.le_refl _, Nat.le_refl _⟩) ?_
  refine lv_lstore (pc := 75) hx hb dX2_divide_75 hl (by decide) rfl (fun ls hl => ?_)
  replace hl : lv_has ls 8 [(6, .long z19), (4, .long z9), (0, .ref (a 4)), (1, .int x1), (2, .int x2), (3, .int x3)] := hl
  refine lv_aload_n (pc := 77) hx hb dX2_divide_77 rfl (lv_at hl 2 rfl) ?_
  refine lv_iload_n (pc := 78) hx hb dX2_divide_78 rfl (lv_at hl 3 rfl) ?_
  refine lv_lload (pc := 79) hx hb dX2_divide_79 (lv_at hl 1 rfl) ?_
  refine lv_lload (pc := 81) hx hb dX2_divide_81 (lv_at hl 0 rfl) ?_
  replace h := ez_bd h
  obtain ⟨z21, e22, h⟩ := h
  refine ez_callV (pc := 83) (wr := []) (wl := (wC a k w)) (wl' := (wC a k z21)) (va_runV (g := F0 m 83 ls [.long z19, .long z9, .int x1, .ref (a 4)]) (As := [.int x1, .long z9, .long z19]) (rest := []) ⟨hx, hb, hml, hown, hw⟩ (kX2_setSpan l D a k n x1 z9 z19 w z21 e22 H.size) (cwV 3 hw (ez_gV mw313 mw315 mp20 mw3 mw316) rfl rfl rfl (by decide +kernel) ⟨Nat.le_of_ble_eq_true rfl, Nat.le_of_ble_eq_true rfl⟩) (ez_preV (wr := []) (wl := (wC a k w)) hP hD hK hN 4 rfl rfl) rfl rfl hl.1 rfl (lv_room (Nat.le_of_ble_eq_true rfl)) dX2_divide_83 ⟨Nat.le_refl _, Nat.le_refl _⟩) hP hD hS hA (fun H locs hP hD hS => ?_)
  replace hP : va_P D vwCl (wC a k z21) H := hP
  replace hD : va_D A (wC a k z21) := hD
  obtain rfl := ez_r1 h
  exact ez_retV C0 hP hD hK hS dX2_divide_86
set_option maxHeartbeats 4000000 in
set_option maxRecDepth 100000 in
theorem tX2_divide_0 {p : Program} {l : Launch} {e : Env} {s : State} {m : MethodId} {args : Array Value} {below : List Frame} {meth : Method} {c : Code} {A : Nat → Prop} {D : va_G} {a : Nat → Nat} {k : Nat → ClassId} {z : Wd} (C0 : ez_C p s m args meth c cX2_divide none 8 RX2 A) (hK : va_K D vwCl (tC k) s) : ∀ (n : Nat) (H : Heap) (locs : List Loc) (ls : Array Slot) (x1 : Int32) (x2 : Int32) (x3 : Int32) (w : Wd), lv_has ls 8 [(0, .ref (a 4)), (1, .int x1), (2, .int x2), (3, .int x3)] → va_P D vwCl (wC a k w) H → va_D A (wC a k w) → va_S A s.heap H locs → fX2_divide n x1 x2 x3 w = some z → W p l e ({ frames := 3, cells := 0, slots := 0, locals := 72 } : Room) s m args below meth c H locs 0 0 (MQ below (ez_Qv D (tC k) A (wC a k z)) args s 0 0 A) (F0 m 0 ls []) := by
  intro n
  intro H locs ls x1 x2 x3 w hl hP hD hS h
  rw [fX2_divide] at h
  have C1 := C0
  obtain ⟨hx, hb, hr, hml, hown, hw, hlk, hA, hN⟩ := C1
  refine lv_aload_n (pc := 0) hx hb dX2_divide_0 rfl (lv_at hl 0 rfl) ?_
  refine lv_iload_n (pc := 1) hx hb dX2_divide_1 rfl (lv_at hl 3 rfl) ?_
  replace h := ez_bd h
  obtain ⟨z1, e2, h⟩ := h
  refine ez_croL (r := z1) (pc := 2) (va_runV (g := F0 m 2 ls [.int x3, .ref (a 4)]) (As := [.int x3]) (rest := []) ⟨hx, hb, hml, hown, hw⟩ (kX2_lowOf l D a k n x3 w z1 e2) (cwV 1 hw (ez_gV mw322 mw323 mw324 mw3 mw325) rfl rfl rfl (by decide +kernel) ⟨Nat.le_of_ble_eq_true rfl, Nat.le_of_ble_eq_true rfl⟩) (ez_preRV (wr := []) (wl := (wC a k w)) hP hK hN 4 rfl rfl) rfl rfl hl.1 rfl (lv_room (Nat.le_of_ble_eq_true rfl)) dX2_divide_2 ⟨Nat.le_refl _, Nat.le_refl _⟩) ?_
  refine lv_lconst (v := 0) (pc := 5) hx hb dX2_divide_5 rfl ?_
  refine W.lcmp (pc := 6) hx hb dX2_divide_6 ?_
  refine lv_if_gt (pc := 7) (tgt := 27) hx hb dX2_divide_7 (by decide) (fun c3 => ?_) (fun c3 => ?_)
  · replace h := ez_it c3 h
    exact tX2_divide_27 C0 hK  n _ _ _ x1 x2 x3 w (lv_sub hl [0, 1, 2, 3] rfl) hP hD hS h
  · replace h := ez_if c3 h
    refine lv_aload_n (pc := 10) hx hb dX2_divide_10 rfl (lv_at hl 0 rfl) ?_
    refine lv_iload_n (pc := 11) hx hb dX2_divide_11 rfl (lv_at hl 3 rfl) ?_
    replace h := ez_bd h
    obtain ⟨z4, e5, h⟩ := h
    refine ez_croL (r := z4) (pc := 12) (va_runV (g := F0 m 12 ls [.int x3, .ref (a 4)]) (As := [.int x3]) (rest := []) ⟨hx, hb, hml, hown, hw⟩ (kX2_highOf l D a k n x3 w z4 e5) (cwV 1 hw (ez_gV mw318 mw319 mw320 mw3 mw321) rfl rfl rfl (by decide +kernel) ⟨Nat.le_of_ble_eq_true rfl, Nat.le_of_ble_eq_true rfl⟩) (ez_preRV (wr := []) (wl := (wC a k w)) hP hK hN 4 rfl rfl) rfl rfl hl.1 rfl (lv_room (Nat.le_of_ble_eq_true rfl)) dX2_divide_12 ⟨Nat.le_refl _, Nat.le_refl _⟩) ?_
    refine lv_lconst (v := 0) (pc := 15) hx hb dX2_divide_15 rfl ?_
    refine W.lcmp (pc := 16) hx hb dX2_divide_16 ?_
    refine lv_if_lt (pc := 17) (tgt := 27) hx hb dX2_divide_17 (by decide) (fun c6 => ?_) (fun c6 => ?_)
    · replace h := ez_it c6 h
      exact tX2_divide_27 C0 hK  n _ _ _ x1 x2 x3 w (lv_sub hl [0, 1, 2, 3] rfl) hP hD hS h
    · replace h := ez_if c6 h
      refine lv_aload_n (pc := 20) hx hb dX2_divide_20 rfl (lv_at hl 0 rfl) ?_
      refine lv_iload_n (pc := 21) hx hb dX2_divide_21 rfl (lv_at hl 1 rfl) ?_
      refine lv_iconst (v := 2) (pc := 22) hx hb dX2_divide_22 rfl ?_
      replace h := ez_bd h
      obtain ⟨z7, e8, h⟩ := h
      refine ez_callV (pc := 23) (wr := []) (wl := (wC a k w)) (wl' := (wC a k z7)) (va_runV (g := F0 m 23 ls [.int 2, .int x1, .ref (a 4)]) (As := [.int x1, .int 2]) (rest := []) ⟨hx, hb, hml, hown, hw⟩ (kX2_setState l D a k n x1 2 w z7 e8 H.size) (cwV 2 hw (ez_gV mw293 mw295 mp17 mw3 mw296) rfl rfl rfl (by decide +kernel) ⟨Nat.le_of_ble_eq_true rfl, Nat.le_of_ble_eq_true rfl⟩) (ez_preV (wr := []) (wl := (wC a k w)) hP hD hK hN 4 rfl rfl) rfl rfl hl.1 rfl (lv_room (Nat.le_of_ble_eq_true rfl)) dX2_divide_23 ⟨Nat.le_refl _, Nat.le_refl _⟩) hP hD hS hA (fun H locs hP hD hS => ?_)
      replace hP : va_P D vwCl (wC a k z7) H := hP
      replace hD : va_D A (wC a k z7) := hD
      obtain rfl := ez_r1 h
      exact ez_retV C0 hP hD hK hS dX2_divide_26
set_option maxRecDepth 100000 in
theorem kX2_divide (l : Launch) (D : va_G) (a : Nat → Nat) (k : Nat → ClassId) (n : Nat) (x1 : Int32) (x2 : Int32) (x3 : Int32) (w : Wd) (z : Wd) (h : fX2_divide n x1 x2 x3 w = some z) (sz : Nat) : Met l yX2_divide wsX2_divide ({ frames := 3, cells := 0, slots := 0, locals := 72 } : Room) (ez_Pc D (tC k) [.ref (a 4), .int x1, .int x2, .int x3] (wC a k w) sz) (ez_Qv D (tC k) (va_A (wC a k w) sz) (wC a k z)) 0 0 (va_A (wC a k w) sz) :=
  ez_mk (Qf := fun A => (ez_Qv D (tC k) A (wC a k z))) (by decide) rfl (Nat.le_of_ble_eq_true rfl) (fun p e s m below meth c A ls C0 _ hl hP hD hK => tX2_divide_0 C0 hK n s.heap [] ls x1 x2 x3 w (lv_sub (l := [(0, .ref (a 4)), (1, .int x1), (2, .int x2), (3, .int x3)]) hl [0, 1, 2, 3] rfl) hP hD va_S.rf h) sz
/-! EnclosureCalculator$Spans square -/
theorem dX2_square_0 : decode cX2_square 0 = .ok (.aload_n 0, 1) := by decide +kernel
theorem dX2_square_1 : decode cX2_square 1 = .ok (.iload_n 2, 1) := by decide +kernel
theorem dX2_square_2 : decode cX2_square 2 = .ok (.invokevirtual 73, 3) := by decide +kernel
theorem dX2_square_5 : decode cX2_square 5 = .ok (.aload_n 0, 1) := by decide +kernel
theorem dX2_square_6 : decode cX2_square 6 = .ok (.iload_n 2, 1) := by decide +kernel
theorem dX2_square_7 : decode cX2_square 7 = .ok (.invokevirtual 73, 3) := by decide +kernel
theorem dX2_square_10 : decode cX2_square 10 = .ok (.lmul, 1) := by decide +kernel
theorem dX2_square_11 : decode cX2_square 11 = .ok (.lstore_n 3, 1) := by decide +kernel
theorem dX2_square_12 : decode cX2_square 12 = .ok (.aload_n 0, 1) := by decide +kernel
theorem dX2_square_13 : decode cX2_square 13 = .ok (.iload_n 2, 1) := by decide +kernel
theorem dX2_square_14 : decode cX2_square 14 = .ok (.invokevirtual 69, 3) := by decide +kernel
theorem dX2_square_17 : decode cX2_square 17 = .ok (.aload_n 0, 1) := by decide +kernel
theorem dX2_square_18 : decode cX2_square 18 = .ok (.iload_n 2, 1) := by decide +kernel
theorem dX2_square_19 : decode cX2_square 19 = .ok (.invokevirtual 69, 3) := by decide +kernel
theorem dX2_square_22 : decode cX2_square 22 = .ok (.lmul, 1) := by decide +kernel
theorem dX2_square_23 : decode cX2_square 23 = .ok (.lstore 5, 2) := by decide +kernel
theorem dX2_square_25 : decode cX2_square 25 = .ok (.aload_n 0, 1) := by decide +kernel
theorem dX2_square_26 : decode cX2_square 26 = .ok (.iload_n 2, 1) := by decide +kernel
theorem dX2_square_27 : decode cX2_square 27 = .ok (.invokevirtual 73, 3) := by decide +kernel
theorem dX2_square_30 : decode cX2_square 30 = .ok (.lconst 0, 1) := by decide +kernel
theorem dX2_square_31 : decode cX2_square 31 = .ok (.lcmp, 1) := by decide +kernel
theorem dX2_square_32 : decode cX2_square 32 = .ok (.ifCond .gt 17, 3) := by decide +kernel
theorem dX2_square_35 : decode cX2_square 35 = .ok (.aload_n 0, 1) := by decide +kernel
theorem dX2_square_36 : decode cX2_square 36 = .ok (.iload_n 2, 1) := by decide +kernel
theorem dX2_square_37 : decode cX2_square 37 = .ok (.invokevirtual 69, 3) := by decide +kernel
theorem dX2_square_40 : decode cX2_square 40 = .ok (.lconst 0, 1) := by decide +kernel
theorem dX2_square_41 : decode cX2_square 41 = .ok (.lcmp, 1) := by decide +kernel
theorem dX2_square_42 : decode cX2_square 42 = .ok (.ifCond .lt 7, 3) := by decide +kernel
theorem dX2_square_45 : decode cX2_square 45 = .ok (.iconst 1, 1) := by decide +kernel
theorem dX2_square_46 : decode cX2_square 46 = .ok (.goto 4, 3) := by decide +kernel
theorem dX2_square_49 : decode cX2_square 49 = .ok (.iconst 0, 1) := by decide +kernel
theorem dX2_square_50 : decode cX2_square 50 = .ok (.istore 7, 2) := by decide +kernel
theorem dX2_square_52 : decode cX2_square 52 = .ok (.aload_n 0, 1) := by decide +kernel
theorem dX2_square_53 : decode cX2_square 53 = .ok (.iload_n 1, 1) := by decide +kernel
theorem dX2_square_54 : decode cX2_square 54 = .ok (.iload 7, 2) := by decide +kernel
theorem dX2_square_56 : decode cX2_square 56 = .ok (.ifCond .eq 7, 3) := by decide +kernel
theorem dX2_square_59 : decode cX2_square 59 = .ok (.lconst 0, 1) := by decide +kernel
theorem dX2_square_60 : decode cX2_square 60 = .ok (.goto 9, 3) := by decide +kernel
theorem dX2_square_63 : decode cX2_square 63 = .ok (.lload_n 3, 1) := by decide +kernel
theorem dX2_square_64 : decode cX2_square 64 = .ok (.lload 5, 2) := by decide +kernel
theorem dX2_square_66 : decode cX2_square 66 = .ok (.invokestatic 95, 3) := by decide +kernel
theorem dX2_square_69 : decode cX2_square 69 = .ok (.lload_n 3, 1) := by decide +kernel
theorem dX2_square_70 : decode cX2_square 70 = .ok (.lload 5, 2) := by decide +kernel
theorem dX2_square_72 : decode cX2_square 72 = .ok (.invokestatic 101, 3) := by decide +kernel
theorem dX2_square_75 : decode cX2_square 75 = .ok (.invokevirtual 104, 3) := by decide +kernel
theorem dX2_square_78 : decode cX2_square 78 = .ok (.return_, 1) := by decide +kernel
def fX2_square_50 (n : Nat) (x1 : Int32) (x3 : Int64) (x5 : Int64) (s0 : Int32) (w : Wd) : Option (Wd) :=
    if s0 = 0 then
      (fJ9_minL n x3 x5).bind fun z2 =>
      (fJ9_maxL n x3 x5).bind fun z4 =>
      (fX2_setSpanOfSquaredUnits n x1 z2 z4 w).bind fun z6 =>
      some z6
    else
      (fJ9_maxL n x3 x5).bind fun z8 =>
      (fX2_setSpanOfSquaredUnits n x1 0 z8 w).bind fun z10 =>
      some z10
def fX2_square (n : Nat) (x1 : Int32) (x2 : Int32) (w : Wd) : Option (Wd) :=
    (fX2_lowOf n x2 w).bind fun z1 =>
    (fX2_lowOf n x2 w).bind fun z3 =>
    (fX2_highOf n x2 w).bind fun z5 =>
    (fX2_highOf n x2 w).bind fun z7 =>
    (fX2_lowOf n x2 w).bind fun z9 =>
    if 0 < (lg_cmp z9 0) then
      fX2_square_50 n x1 (z1 * z3) (z5 * z7) 0 w
    else
      (fX2_highOf n x2 w).bind fun z12 =>
      if (lg_cmp z12 0) < 0 then
        fX2_square_50 n x1 (z1 * z3) (z5 * z7) 0 w
      else
        fX2_square_50 n x1 (z1 * z3) (z5 * z7) 1 w
set_option maxHeartbeats 4000000 in
set_option maxRecDepth 100000 in
theorem tX2_square_50 {p : Program} {l : Launch} {e : Env} {s : State} {m : MethodId} {args : Array Value} {below : List Frame} {meth : Method} {c : Code} {A : Nat → Prop} {D : va_G} {a : Nat → Nat} {k : Nat → ClassId} {z : Wd} (C0 : ez_C p s m args meth c cX2_square none 8 RX2 A) (hK : va_K D vwCl (tC k) s) : ∀ (n : Nat) (H : Heap) (locs : List Loc) (ls : Array Slot) (x1 : Int32) (x3 : Int64) (x5 : Int64) (s0 : Int32) (w : Wd), lv_has ls 8 [(0, .ref (a 4)), (1, .int x1), (3, .long x3), (5, .long x5)] → va_P D vwCl (wC a k w) H → va_D A (wC a k w) → va_S A s.heap H locs → fX2_square_50 n x1 x3 x5 s0 w = some z → W p l e ({ frames := 3, cells := 0, slots := 0, locals := 72 } : Room) s m args below meth c H locs 0 0 (MQ below (ez_Qv D (tC k) A (wC a k z)) args s 0 0 A) (F0 m 50 ls [.int s0]) := by
  intro n
  intro H locs ls x1 x3 x5 s0 w hl hP hD hS h
  rw [fX2_square_50] at h
  have C1 := C0
  obtain ⟨hx, hb, hr, hml, hown, hw, hlk, hA, hN⟩ := C1
  refine lv_istore (pc := 50) hx hb dX2_square_50 hl (by decide) rfl (fun ls hl => ?_)
  replace hl : lv_has ls 8 [(7, .int s0), (0, .ref (a 4)), (1, .int x1), (3, .long x3), (5, .long x5)] := hl
  refine lv_aload_n (pc := 52) hx hb dX2_square_52 rfl (lv_at hl 1 rfl) ?_
  refine lv_iload_n (pc := 53) hx hb dX2_square_53 rfl (lv_at hl 2 rfl) ?_
  refine lv_iload (pc := 54) hx hb dX2_square_54 (lv_at hl 0 rfl) ?_
  refine lv_if_eq (pc := 56) (tgt := 63) hx hb dX2_square_56 (by decide) (fun c1 => ?_) (fun c1 => ?_)
  · replace h := ez_it c1 h
    refine lv_lload_n (pc := 63) hx hb dX2_square_63 rfl (lv_at hl 3 rfl) ?_
    refine lv_lload (pc := 64) hx hb dX2_square_64 (lv_at hl 4 rfl) ?_
    replace h := ez_bd h
    obtain ⟨z2, e3, h⟩ := h
    refine ez_croL (r := z2) (pc := 66) (va_runS (g := F0 m 66 ls [.long x5, .long x3, .int x1, .ref (a 4)]) (As := [.long x3, .long x5]) (rest := [.int x1, .ref (a 4)]) ⟨hx, hb, hml, hown, hw⟩ (kJ9_minL l n x3 x5 z2 e3) (va_cwS 2 hw (ez_gS mw330 mw331 mw6 mw332) rfl rfl rfl (by decide +kernel) ⟨Nat.le_of_ble_eq_true rfl, Nat.le_of_ble_eq_true rfl⟩) (ez_preRS hN) rfl rfl hl.1 rfl (lv_room (Nat.le_of_ble_eq_true rfl)) dX2_square_66 ⟨Nat.le_refl _, Nat.le_refl _⟩) ?_
    refine lv_lload_n (pc := 69) hx hb dX2_square_69 rfl (lv_at hl 3 rfl) ?_
    refine lv_lload (pc := 70) hx hb dX2_square_70 (lv_at hl 4 rfl) ?_
    replace h := ez_bd h
    obtain ⟨z4, e5, h⟩ := h
    refine ez_croL (r := z4) (pc := 72) (va_runS (g := F0 m 72 ls [.long x5, .long x3, .long z2, .int x1, .ref (a 4)]) (As := [.long x3, .long x5]) (rest := [.long z2, .int x1, .ref (a 4)]) ⟨hx, hb, hml, hown, hw⟩ (kJ9_maxL l n x3 x5 z4 e5) (va_cwS 2 hw (ez_gS mw333 mw334 mw6 mw335) rfl rfl rfl (by decide +kernel) ⟨Nat.le_of_ble_eq_true rfl, Nat.le_of_ble_eq_true rfl⟩) (ez_preRS hN) rfl rfl hl.1 rfl (lv_room (Nat.le_of_ble_eq_true rfl)) dX2_square_72 ⟨Nat.le_refl _, Nat.le_refl _⟩) ?_
    replace h := ez_bd h
    obtain ⟨z6, e7, h⟩ := h
    refine ez_callV (pc := 75) (wr := []) (wl := (wC a k w)) (wl' := (wC a k z6)) (va_runV (g := F0 m 75 ls [.long z4, .long z2, .int x1, .ref (a 4)]) (As := [.int x1, .long z2, .long z4]) (rest := []) ⟨hx, hb, hml, hown, hw⟩ (kX2_setSpanOfSquaredUnits l D a k n x1 z2 z4 w z6 e7 H.size) (cwV 3 hw (ez_gV mw336 mw338 mp22 mw3 mw339) rfl rfl rfl (by decide +kernel) ⟨Nat.le_of_ble_eq_true rfl, Nat.le_of_ble_eq_true rfl⟩) (ez_preV (wr := []) (wl := (wC a k w)) hP hD hK hN 4 rfl rfl) rfl rfl hl.1 rfl (lv_room (Nat.le_of_ble_eq_true rfl)) dX2_square_75 ⟨Nat.le_refl _, Nat.le_refl _⟩) hP hD hS hA (fun H locs hP hD hS => ?_)
    replace hP : va_P D vwCl (wC a k z6) H := hP
    replace hD : va_D A (wC a k z6) := hD
    obtain rfl := ez_r1 h
    exact ez_retV C0 hP hD hK hS dX2_square_78
  · replace h := ez_if c1 h
    refine lv_lconst (v := 0) (pc := 59) hx hb dX2_square_59 rfl ?_
    refine lv_goto (pc := 60) (tgt := 69) hx hb dX2_square_60 (by decide) ?_
    refine lv_lload_n (pc := 69) hx hb dX2_square_69 rfl (lv_at hl 3 rfl) ?_
    refine lv_lload (pc := 70) hx hb dX2_square_70 (lv_at hl 4 rfl) ?_
    replace h := ez_bd h
    obtain ⟨z8, e9, h⟩ := h
    refine ez_croL (r := z8) (pc := 72) (va_runS (g := F0 m 72 ls [.long x5, .long x3, .long 0, .int x1, .ref (a 4)]) (As := [.long x3, .long x5]) (rest := [.long 0, .int x1, .ref (a 4)]) ⟨hx, hb, hml, hown, hw⟩ (kJ9_maxL l n x3 x5 z8 e9) (va_cwS 2 hw (ez_gS mw333 mw334 mw6 mw335) rfl rfl rfl (by decide +kernel) ⟨Nat.le_of_ble_eq_true rfl, Nat.le_of_ble_eq_true rfl⟩) (ez_preRS hN) rfl rfl hl.1 rfl (lv_room (Nat.le_of_ble_eq_true rfl)) dX2_square_72 ⟨Nat.le_refl _, Nat.le_refl _⟩) ?_
    replace h := ez_bd h
    obtain ⟨z10, e11, h⟩ := h
    refine ez_callV (pc := 75) (wr := []) (wl := (wC a k w)) (wl' := (wC a k z10)) (va_runV (g := F0 m 75 ls [.long z8, .long 0, .int x1, .ref (a 4)]) (As := [.int x1, .long 0, .long z8]) (rest := []) ⟨hx, hb, hml, hown, hw⟩ (kX2_setSpanOfSquaredUnits l D a k n x1 0 z8 w z10 e11 H.size) (cwV 3 hw (ez_gV mw336 mw338 mp22 mw3 mw339) rfl rfl rfl (by decide +kernel) ⟨Nat.le_of_ble_eq_true rfl, Nat.le_of_ble_eq_true rfl⟩) (ez_preV (wr := []) (wl := (wC a k w)) hP hD hK hN 4 rfl rfl) rfl rfl hl.1 rfl (lv_room (Nat.le_of_ble_eq_true rfl)) dX2_square_75 ⟨Nat.le_refl _, Nat.le_refl _⟩) hP hD hS hA (fun H locs hP hD hS => ?_)
    replace hP : va_P D vwCl (wC a k z10) H := hP
    replace hD : va_D A (wC a k z10) := hD
    obtain rfl := ez_r1 h
    exact ez_retV C0 hP hD hK hS dX2_square_78
set_option maxHeartbeats 4000000 in
set_option maxRecDepth 100000 in
theorem tX2_square_0 {p : Program} {l : Launch} {e : Env} {s : State} {m : MethodId} {args : Array Value} {below : List Frame} {meth : Method} {c : Code} {A : Nat → Prop} {D : va_G} {a : Nat → Nat} {k : Nat → ClassId} {z : Wd} (C0 : ez_C p s m args meth c cX2_square none 8 RX2 A) (hK : va_K D vwCl (tC k) s) : ∀ (n : Nat) (H : Heap) (locs : List Loc) (ls : Array Slot) (x1 : Int32) (x2 : Int32) (w : Wd), lv_has ls 8 [(0, .ref (a 4)), (1, .int x1), (2, .int x2)] → va_P D vwCl (wC a k w) H → va_D A (wC a k w) → va_S A s.heap H locs → fX2_square n x1 x2 w = some z → W p l e ({ frames := 3, cells := 0, slots := 0, locals := 72 } : Room) s m args below meth c H locs 0 0 (MQ below (ez_Qv D (tC k) A (wC a k z)) args s 0 0 A) (F0 m 0 ls []) := by
  intro n
  intro H locs ls x1 x2 w hl hP hD hS h
  rw [fX2_square] at h
  have C1 := C0
  obtain ⟨hx, hb, hr, hml, hown, hw, hlk, hA, hN⟩ := C1
  refine lv_aload_n (pc := 0) hx hb dX2_square_0 rfl (lv_at hl 0 rfl) ?_
  refine lv_iload_n (pc := 1) hx hb dX2_square_1 rfl (lv_at hl 2 rfl) ?_
  replace h := ez_bd h
  obtain ⟨z1, e2, h⟩ := h
  refine ez_croL (r := z1) (pc := 2) (va_runV (g := F0 m 2 ls [.int x2, .ref (a 4)]) (As := [.int x2]) (rest := []) ⟨hx, hb, hml, hown, hw⟩ (kX2_lowOf l D a k n x2 w z1 e2) (cwV 1 hw (ez_gV mw322 mw323 mw324 mw3 mw325) rfl rfl rfl (by decide +kernel) ⟨Nat.le_of_ble_eq_true rfl, Nat.le_of_ble_eq_true rfl⟩) (ez_preRV (wr := []) (wl := (wC a k w)) hP hK hN 4 rfl rfl) rfl rfl hl.1 rfl (lv_room (Nat.le_of_ble_eq_true rfl)) dX2_square_2 ⟨Nat.le_refl _, Nat.le_refl _⟩) ?_
  refine lv_aload_n (pc := 5) hx hb dX2_square_5 rfl (lv_at hl 0 rfl) ?_
  refine lv_iload_n (pc := 6) hx hb dX2_square_6 rfl (lv_at hl 2 rfl) ?_
  replace h := ez_bd h
  obtain ⟨z3, e4, h⟩ := h
  refine ez_croL (r := z3) (pc := 7) (va_runV (g := F0 m 7 ls [.int x2, .ref (a 4), .long z1]) (As := [.int x2]) (rest := [.long z1]) ⟨hx, hb, hml, hown, hw⟩ (kX2_lowOf l D a k n x2 w z3 e4) (cwV 1 hw (ez_gV mw322 mw323 mw324 mw3 mw325) rfl rfl rfl (by decide +kernel) ⟨Nat.le_of_ble_eq_true rfl, Nat.le_of_ble_eq_true rfl⟩) (ez_preRV (wr := []) (wl := (wC a k w)) hP hK hN 4 rfl rfl) rfl rfl hl.1 rfl (lv_room (Nat.le_of_ble_eq_true rfl)) dX2_square_7 ⟨Nat.le_refl _, Nat.le_refl _⟩) ?_
  refine lv_lmul (pc := 10) hx hb dX2_square_10 ?_
  refine lv_lstore_n (pc := 11) hx hb dX2_square_11 rfl hl (by decide) rfl (fun ls hl => ?_)
  replace hl : lv_has ls 8 [(3, .long (z1 * z3)), (0, .ref (a 4)), (1, .int x1), (2, .int x2)] := hl
  refine lv_aload_n (pc := 12) hx hb dX2_square_12 rfl (lv_at hl 1 rfl) ?_
  refine lv_iload_n (pc := 13) hx hb dX2_square_13 rfl (lv_at hl 3 rfl) ?_
  replace h := ez_bd h
  obtain ⟨z5, e6, h⟩ := h
  refine ez_croL (r := z5) (pc := 14) (va_runV (g := F0 m 14 ls [.int x2, .ref (a 4)]) (As := [.int x2]) (rest := []) ⟨hx, hb, hml, hown, hw⟩ (kX2_highOf l D a k n x2 w z5 e6) (cwV 1 hw (ez_gV mw318 mw319 mw320 mw3 mw321) rfl rfl rfl (by decide +kernel) ⟨Nat.le_of_ble_eq_true rfl, Nat.le_of_ble_eq_true rfl⟩) (ez_preRV (wr := []) (wl := (wC a k w)) hP hK hN 4 rfl rfl) rfl rfl hl.1 rfl (lv_room (Nat.le_of_ble_eq_true rfl)) dX2_square_14 ⟨Nat.le_refl _, Nat.le_refl _⟩) ?_
  refine lv_aload_n (pc := 17) hx hb dX2_square_17 rfl (lv_at hl 1 rfl) ?_
  refine lv_iload_n (pc := 18) hx hb dX2_square_18 rfl (lv_at hl 3 rfl) ?_
  replace h := ez_bd h
  obtain ⟨z7, e8, h⟩ := h
  refine ez_croL (r := z7) (pc := 19) (va_runV (g := F0 m 19 ls [.int x2, .ref (a 4), .long z5]) (As := [.int x2]) (rest := [.long z5]) ⟨hx, hb, hml, hown, hw⟩ (kX2_highOf l D a k n x2 w z7 e8) (cwV 1 hw (ez_gV mw318 mw319 mw320 mw3 mw321) rfl rfl rfl (by decide +kernel) ⟨Nat.le_of_ble_eq_true rfl, Nat.le_of_ble_eq_true rfl⟩) (ez_preRV (wr := []) (wl := (wC a k w)) hP hK hN 4 rfl rfl) rfl rfl hl.1 rfl (lv_room (Nat.le_of_ble_eq_true rfl)) dX2_square_19 ⟨Nat.le_refl _, Nat.le_refl _⟩) ?_
  refine lv_lmul (pc := 22) hx hb dX2_square_22 ?_
  refine lv_lstore (pc := 23) hx hb dX2_square_23 hl (by decide) rfl (fun ls hl => ?_)
  replace hl : lv_has ls 8 [(5, .long (z5 * z7)), (3, .long (z1 * z3)), (0, .ref (a 4)), (1, .int x1), (2, .int x2)] := hl
  refine lv_aload_n (pc := 25) hx hb dX2_square_25 rfl (lv_at hl 2 rfl) ?_
  refine lv_iload_n (pc := 26) hx hb dX2_square_26 rfl (lv_at hl 4 rfl) ?_
  replace h := ez_bd h
  obtain ⟨z9, e10, h⟩ := h
  refine ez_croL (r := z9) (pc := 27) (va_runV (g := F0 m 27 ls [.int x2, .ref (a 4)]) (As := [.int x2]) (rest := []) ⟨hx, hb, hml, hown, hw⟩ (kX2_lowOf l D a k n x2 w z9 e10) (cwV 1 hw (ez_gV mw322 mw323 mw324 mw3 mw325) rfl rfl rfl (by decide +kernel) ⟨Nat.le_of_ble_eq_true rfl, Nat.le_of_ble_eq_true rfl⟩) (ez_preRV (wr := []) (wl := (wC a k w)) hP hK hN 4 rfl rfl) rfl rfl hl.1 rfl (lv_room (Nat.le_of_ble_eq_true rfl)) dX2_square_27 ⟨Nat.le_refl _, Nat.le_refl _⟩) ?_
  refine lv_lconst (v := 0) (pc := 30) hx hb dX2_square_30 rfl ?_
  refine W.lcmp (pc := 31) hx hb dX2_square_31 ?_
  refine lv_if_gt (pc := 32) (tgt := 49) hx hb dX2_square_32 (by decide) (fun c11 => ?_) (fun c11 => ?_)
  · replace h := ez_it c11 h
    refine lv_iconst (v := 0) (pc := 49) hx hb dX2_square_49 rfl ?_
    exact tX2_square_50 C0 hK  n _ _ _ x1 (z1 * z3) (z5 * z7) 0 w (lv_sub hl [2, 3, 1, 0] rfl) hP hD hS h
  · replace h := ez_if c11 h
    refine lv_aload_n (pc := 35) hx hb dX2_square_35 rfl (lv_at hl 2 rfl) ?_
    refine lv_iload_n (pc := 36) hx hb dX2_square_36 rfl (lv_at hl 4 rfl) ?_
    replace h := ez_bd h
    obtain ⟨z12, e13, h⟩ := h
    refine ez_croL (r := z12) (pc := 37) (va_runV (g := F0 m 37 ls [.int x2, .ref (a 4)]) (As := [.int x2]) (rest := []) ⟨hx, hb, hml, hown, hw⟩ (kX2_highOf l D a k n x2 w z12 e13) (cwV 1 hw (ez_gV mw318 mw319 mw320 mw3 mw321) rfl rfl rfl (by decide +kernel) ⟨Nat.le_of_ble_eq_true rfl, Nat.le_of_ble_eq_true rfl⟩) (ez_preRV (wr := []) (wl := (wC a k w)) hP hK hN 4 rfl rfl) rfl rfl hl.1 rfl (lv_room (Nat.le_of_ble_eq_true rfl)) dX2_square_37 ⟨Nat.le_refl _, Nat.le_refl _⟩) ?_
    refine lv_lconst (v := 0) (pc := 40) hx hb dX2_square_40 rfl ?_
    refine W.lcmp (pc := 41) hx hb dX2_square_41 ?_
    refine lv_if_lt (pc := 42) (tgt := 49) hx hb dX2_square_42 (by decide) (fun c14 => ?_) (fun c14 => ?_)
    · replace h := ez_it c14 h
      refine lv_iconst (v := 0) (pc := 49) hx hb dX2_square_49 rfl ?_
      exact tX2_square_50 C0 hK  n _ _ _ x1 (z1 * z3) (z5 * z7) 0 w (lv_sub hl [2, 3, 1, 0] rfl) hP hD hS h
    · replace h := ez_if c14 h
      refine lv_iconst (v := 1) (pc := 45) hx hb dX2_square_45 rfl ?_
      refine lv_goto (pc := 46) (tgt := 50) hx hb dX2_square_46 (by decide) ?_
      exact tX2_square_50 C0 hK  n _ _ _ x1 (z1 * z3) (z5 * z7) 1 w (lv_sub hl [2, 3, 1, 0] rfl) hP hD hS h
set_option maxRecDepth 100000 in
theorem kX2_square (l : Launch) (D : va_G) (a : Nat → Nat) (k : Nat → ClassId) (n : Nat) (x1 : Int32) (x2 : Int32) (w : Wd) (z : Wd) (h : fX2_square n x1 x2 w = some z) (sz : Nat) : Met l yX2_square wsX2_square ({ frames := 3, cells := 0, slots := 0, locals := 72 } : Room) (ez_Pc D (tC k) [.ref (a 4), .int x1, .int x2] (wC a k w) sz) (ez_Qv D (tC k) (va_A (wC a k w) sz) (wC a k z)) 0 0 (va_A (wC a k w) sz) :=
  ez_mk (Qf := fun A => (ez_Qv D (tC k) A (wC a k z))) (by decide) rfl (Nat.le_of_ble_eq_true rfl) (fun p e s m below meth c A ls C0 _ hl hP hD hK => tX2_square_0 C0 hK n s.heap [] ls x1 x2 w (lv_sub (l := [(0, .ref (a 4)), (1, .int x1), (2, .int x2)]) hl [0, 1, 2] rfl) hP hD va_S.rf h) sz
/-! EnclosureCalculator$Spans floorRoot -/
theorem dX2_floorRoot_0 : decode cX2_floorRoot 0 = .ok (.lconst 0, 1) := by decide +kernel
theorem dX2_floorRoot_1 : decode cX2_floorRoot 1 = .ok (.lstore_n 2, 1) := by decide +kernel
theorem dX2_floorRoot_2 : decode cX2_floorRoot 2 = .ok (.bipush 30, 2) := by decide +kernel
theorem dX2_floorRoot_4 : decode cX2_floorRoot 4 = .ok (.istore 4, 2) := by decide +kernel
theorem dX2_floorRoot_6 : decode cX2_floorRoot 6 = .ok (.iload 4, 2) := by decide +kernel
theorem dX2_floorRoot_8 : decode cX2_floorRoot 8 = .ok (.ifCond .lt 30, 3) := by decide +kernel
theorem dX2_floorRoot_11 : decode cX2_floorRoot 11 = .ok (.lload_n 2, 1) := by decide +kernel
theorem dX2_floorRoot_12 : decode cX2_floorRoot 12 = .ok (.lconst 1, 1) := by decide +kernel
theorem dX2_floorRoot_13 : decode cX2_floorRoot 13 = .ok (.iload 4, 2) := by decide +kernel
theorem dX2_floorRoot_15 : decode cX2_floorRoot 15 = .ok (.lshl, 1) := by decide +kernel
theorem dX2_floorRoot_16 : decode cX2_floorRoot 16 = .ok (.ladd, 1) := by decide +kernel
theorem dX2_floorRoot_17 : decode cX2_floorRoot 17 = .ok (.lstore 5, 2) := by decide +kernel
theorem dX2_floorRoot_19 : decode cX2_floorRoot 19 = .ok (.lload 5, 2) := by decide +kernel
theorem dX2_floorRoot_21 : decode cX2_floorRoot 21 = .ok (.lload 5, 2) := by decide +kernel
theorem dX2_floorRoot_23 : decode cX2_floorRoot 23 = .ok (.lmul, 1) := by decide +kernel
theorem dX2_floorRoot_24 : decode cX2_floorRoot 24 = .ok (.lload_n 0, 1) := by decide +kernel
theorem dX2_floorRoot_25 : decode cX2_floorRoot 25 = .ok (.lcmp, 1) := by decide +kernel
theorem dX2_floorRoot_26 : decode cX2_floorRoot 26 = .ok (.ifCond .gt 6, 3) := by decide +kernel
theorem dX2_floorRoot_29 : decode cX2_floorRoot 29 = .ok (.lload 5, 2) := by decide +kernel
theorem dX2_floorRoot_31 : decode cX2_floorRoot 31 = .ok (.lstore_n 2, 1) := by decide +kernel
theorem dX2_floorRoot_32 : decode cX2_floorRoot 32 = .ok (.iinc 4 (-1), 3) := by decide +kernel
theorem dX2_floorRoot_35 : decode cX2_floorRoot 35 = .ok (.goto (-29), 3) := by decide +kernel
theorem dX2_floorRoot_38 : decode cX2_floorRoot 38 = .ok (.lload_n 2, 1) := by decide +kernel
theorem dX2_floorRoot_39 : decode cX2_floorRoot 39 = .ok (.lreturn, 1) := by decide +kernel
def fX2_floorRoot_6 : Nat → Int64 → Int64 → Int32 → Option (Int64)
  | 0, _, _, _ => none
  | n + 1, x0, x2, x4 =>
    if x4 < 0 then
      some x2
    else
      if 0 < (lg_cmp ((x2 + ((1 : Int64) <<< (Int32.toInt64 x4 &&& 63))) * (x2 + ((1 : Int64) <<< (Int32.toInt64 x4 &&& 63)))) x0) then
        fX2_floorRoot_6 n x0 x2 (x4 + (-1))
      else
        fX2_floorRoot_6 n x0 (x2 + ((1 : Int64) <<< (Int32.toInt64 x4 &&& 63))) (x4 + (-1))
def fX2_floorRoot (n : Nat) (x0 : Int64) : Option (Int64) :=
    fX2_floorRoot_6 n x0 0 30
set_option maxHeartbeats 4000000 in
set_option maxRecDepth 100000 in
theorem tX2_floorRoot_6 {p : Program} {l : Launch} {e : Env} {s : State} {m : MethodId} {args : Array Value} {below : List Frame} {meth : Method} {c : Code} {z : Int64} (C0 : ez_C p s m args meth c cX2_floorRoot (some .long) 7 RX2 (fun _ => True)) : ∀ (n : Nat) (ls : Array Slot) (x0 : Int64) (x2 : Int64) (x4 : Int32), lv_has ls 7 [(0, .long x0), (2, .long x2), (4, .int x4)] → fX2_floorRoot_6 n x0 x2 x4 = some z → W p l e ({ frames := 0, cells := 0, slots := 0, locals := 0 } : Room) s m args below meth c s.heap [] 0 0 (MQ below (ez_Rl z) args s 0 0 (fun _ => False)) (F0 m 6 ls []) := by
  intro n
  induction n with
  | zero =>
    intro ls x0 x2 x4 hl h
    rw [fX2_floorRoot_6] at h
    cases h
  | succ n ih =>
    intro ls x0 x2 x4 hl h
    rw [fX2_floorRoot_6] at h
    have C1 := C0
    obtain ⟨hx, hb, hr, hml, hown, hw, hlk, hA, hN⟩ := C1
    refine lv_iload (pc := 6) hx hb dX2_floorRoot_6 (lv_at hl 2 rfl) ?_
    refine lv_if_lt (pc := 8) (tgt := 38) hx hb dX2_floorRoot_8 (by decide) (fun c1 => ?_) (fun c1 => ?_)
    · replace h := ez_it c1 h
      refine lv_lload_n (pc := 38) hx hb dX2_floorRoot_38 rfl (lv_at hl 1 rfl) ?_
      obtain rfl := ez_r1 h
      exact ez_rroL C0 dX2_floorRoot_39
    · replace h := ez_if c1 h
      refine lv_lload_n (pc := 11) hx hb dX2_floorRoot_11 rfl (lv_at hl 1 rfl) ?_
      refine lv_lconst (v := 1) (pc := 12) hx hb dX2_floorRoot_12 rfl ?_
      refine lv_iload (pc := 13) hx hb dX2_floorRoot_13 (lv_at hl 2 rfl) ?_
      refine lv_lshl (pc := 15) hx hb dX2_floorRoot_15 rfl ?_
      refine lv_ladd (pc := 16) hx hb dX2_floorRoot_16 ?_
      refine lv_lstore (pc := 17) hx hb dX2_floorRoot_17 hl (by decide) rfl (fun ls hl => ?_)
      replace hl : lv_has ls 7 [(5, .long (x2 + ((1 : Int64) <<< (Int32.toInt64 x4 &&& 63)))), (0, .long x0), (2, .long x2), (4, .int x4)] := hl
      refine lv_lload (pc := 19) hx hb dX2_floorRoot_19 (lv_at hl 0 rfl) ?_
      refine lv_lload (pc := 21) hx hb dX2_floorRoot_21 (lv_at hl 0 rfl) ?_
      refine lv_lmul (pc := 23) hx hb dX2_floorRoot_23 ?_
      refine lv_lload_n (pc := 24) hx hb dX2_floorRoot_24 rfl (lv_at hl 1 rfl) ?_
      refine W.lcmp (pc := 25) hx hb dX2_floorRoot_25 ?_
      refine lv_if_gt (pc := 26) (tgt := 32) hx hb dX2_floorRoot_26 (by decide) (fun c2 => ?_) (fun c2 => ?_)
      · replace h := ez_it c2 h
        refine lv_iinc (v := (x4 + (-1))) (k := 3) (pc := 32) hx hb dX2_floorRoot_32 hl rfl rfl (by decide) rfl (fun ls hl => ?_)
        replace hl : lv_has ls 7 [(4, .int (x4 + (-1))), (5, .long (x2 + ((1 : Int64) <<< (Int32.toInt64 x4 &&& 63)))), (0, .long x0), (2, .long x2)] := hl
        refine lv_goto (pc := 35) (tgt := 6) hx hb dX2_floorRoot_35 (by decide) ?_
        exact ih _ x0 x2 (x4 + (-1)) (lv_sub hl [2, 3, 0] rfl) h
      · replace h := ez_if c2 h
        refine lv_lload (pc := 29) hx hb dX2_floorRoot_29 (lv_at hl 0 rfl) ?_
        refine lv_lstore_n (pc := 31) hx hb dX2_floorRoot_31 rfl hl (by decide) rfl (fun ls hl => ?_)
        replace hl : lv_has ls 7 [(2, .long (x2 + ((1 : Int64) <<< (Int32.toInt64 x4 &&& 63)))), (5, .long (x2 + ((1 : Int64) <<< (Int32.toInt64 x4 &&& 63)))), (0, .long x0), (4, .int x4)] := hl
        refine lv_iinc (v := (x4 + (-1))) (k := 3) (pc := 32) hx hb dX2_floorRoot_32 hl rfl rfl (by decide) rfl (fun ls hl => ?_)
        replace hl : lv_has ls 7 [(4, .int (x4 + (-1))), (2, .long (x2 + ((1 : Int64) <<< (Int32.toInt64 x4 &&& 63)))), (5, .long (x2 + ((1 : Int64) <<< (Int32.toInt64 x4 &&& 63)))), (0, .long x0)] := hl
        refine lv_goto (pc := 35) (tgt := 6) hx hb dX2_floorRoot_35 (by decide) ?_
        exact ih _ x0 (x2 + ((1 : Int64) <<< (Int32.toInt64 x4 &&& 63))) (x4 + (-1)) (lv_sub hl [3, 1, 0] rfl) h
set_option maxHeartbeats 4000000 in
set_option maxRecDepth 100000 in
theorem tX2_floorRoot_0 {p : Program} {l : Launch} {e : Env} {s : State} {m : MethodId} {args : Array Value} {below : List Frame} {meth : Method} {c : Code} {z : Int64} (C0 : ez_C p s m args meth c cX2_floorRoot (some .long) 7 RX2 (fun _ => True)) : ∀ (n : Nat) (ls : Array Slot) (x0 : Int64), lv_has ls 7 [(0, .long x0)] → fX2_floorRoot n x0 = some z → W p l e ({ frames := 0, cells := 0, slots := 0, locals := 0 } : Room) s m args below meth c s.heap [] 0 0 (MQ below (ez_Rl z) args s 0 0 (fun _ => False)) (F0 m 0 ls []) := by
  intro n
  intro ls x0 hl h
  rw [fX2_floorRoot] at h
  have C1 := C0
  obtain ⟨hx, hb, hr, hml, hown, hw, hlk, hA, hN⟩ := C1
  refine lv_lconst (v := 0) (pc := 0) hx hb dX2_floorRoot_0 rfl ?_
  refine lv_lstore_n (pc := 1) hx hb dX2_floorRoot_1 rfl hl (by decide) rfl (fun ls hl => ?_)
  replace hl : lv_has ls 7 [(2, .long 0), (0, .long x0)] := hl
  refine lv_bipush (v := 30) (pc := 2) hx hb dX2_floorRoot_2 rfl ?_
  refine lv_istore (pc := 4) hx hb dX2_floorRoot_4 hl (by decide) rfl (fun ls hl => ?_)
  replace hl : lv_has ls 7 [(4, .int 30), (2, .long 0), (0, .long x0)] := hl
  exact tX2_floorRoot_6 C0  n _ x0 0 30 (lv_sub hl [2, 1, 0] rfl) h
set_option maxRecDepth 100000 in
theorem kX2_floorRoot (l : Launch) (n : Nat) (x0 : Int64) (z : Int64) (h : fX2_floorRoot n x0 = some z) : Met l yX2_floorRoot wsX2_floorRoot ({ frames := 0, cells := 0, slots := 0, locals := 0 } : Room) (ez_Sc [.long x0]) (ez_Rl z) 0 0 (fun _ => False) :=
  ez_mkS (by decide +kernel) rfl (Nat.le_of_ble_eq_true rfl) (fun p e s m below meth c ls C0 hl => tX2_floorRoot_0 C0 n ls x0 (lv_sub (l := [(0, .long x0)]) hl [0] rfl) h)
/-! EnclosureCalculator$Spans takeRoot -/
theorem dX2_takeRoot_0 : decode cX2_takeRoot 0 = .ok (.aload_n 0, 1) := by decide +kernel
theorem dX2_takeRoot_1 : decode cX2_takeRoot 1 = .ok (.iload_n 2, 1) := by decide +kernel
theorem dX2_takeRoot_2 : decode cX2_takeRoot 2 = .ok (.invokevirtual 69, 3) := by decide +kernel
theorem dX2_takeRoot_5 : decode cX2_takeRoot 5 = .ok (.lconst 0, 1) := by decide +kernel
theorem dX2_takeRoot_6 : decode cX2_takeRoot 6 = .ok (.lcmp, 1) := by decide +kernel
theorem dX2_takeRoot_7 : decode cX2_takeRoot 7 = .ok (.ifCond .ge 10, 3) := by decide +kernel
theorem dX2_takeRoot_10 : decode cX2_takeRoot 10 = .ok (.aload_n 0, 1) := by decide +kernel
theorem dX2_takeRoot_11 : decode cX2_takeRoot 11 = .ok (.iload_n 1, 1) := by decide +kernel
theorem dX2_takeRoot_12 : decode cX2_takeRoot 12 = .ok (.iconst 1, 1) := by decide +kernel
theorem dX2_takeRoot_13 : decode cX2_takeRoot 13 = .ok (.invokevirtual 52, 3) := by decide +kernel
theorem dX2_takeRoot_16 : decode cX2_takeRoot 16 = .ok (.return_, 1) := by decide +kernel
theorem dX2_takeRoot_17 : decode cX2_takeRoot 17 = .ok (.aload_n 0, 1) := by decide +kernel
theorem dX2_takeRoot_18 : decode cX2_takeRoot 18 = .ok (.iload_n 2, 1) := by decide +kernel
theorem dX2_takeRoot_19 : decode cX2_takeRoot 19 = .ok (.invokevirtual 73, 3) := by decide +kernel
theorem dX2_takeRoot_22 : decode cX2_takeRoot 22 = .ok (.lconst 0, 1) := by decide +kernel
theorem dX2_takeRoot_23 : decode cX2_takeRoot 23 = .ok (.lcmp, 1) := by decide +kernel
theorem dX2_takeRoot_24 : decode cX2_takeRoot 24 = .ok (.ifCond .ge 10, 3) := by decide +kernel
theorem dX2_takeRoot_27 : decode cX2_takeRoot 27 = .ok (.aload_n 0, 1) := by decide +kernel
theorem dX2_takeRoot_28 : decode cX2_takeRoot 28 = .ok (.iload_n 1, 1) := by decide +kernel
theorem dX2_takeRoot_29 : decode cX2_takeRoot 29 = .ok (.iconst 2, 1) := by decide +kernel
theorem dX2_takeRoot_30 : decode cX2_takeRoot 30 = .ok (.invokevirtual 52, 3) := by decide +kernel
theorem dX2_takeRoot_33 : decode cX2_takeRoot 33 = .ok (.return_, 1) := by decide +kernel
theorem dX2_takeRoot_34 : decode cX2_takeRoot 34 = .ok (.aload_n 0, 1) := by decide +kernel
theorem dX2_takeRoot_35 : decode cX2_takeRoot 35 = .ok (.iload_n 2, 1) := by decide +kernel
theorem dX2_takeRoot_36 : decode cX2_takeRoot 36 = .ok (.invokevirtual 73, 3) := by decide +kernel
theorem dX2_takeRoot_39 : decode cX2_takeRoot 39 = .ok (.aload_n 0, 1) := by decide +kernel
theorem dX2_takeRoot_40 : decode cX2_takeRoot 40 = .ok (.getfield 41, 3) := by decide +kernel
theorem dX2_takeRoot_43 : decode cX2_takeRoot 43 = .ok (.lshl, 1) := by decide +kernel
theorem dX2_takeRoot_44 : decode cX2_takeRoot 44 = .ok (.invokestatic 120, 3) := by decide +kernel
theorem dX2_takeRoot_47 : decode cX2_takeRoot 47 = .ok (.lstore_n 3, 1) := by decide +kernel
theorem dX2_takeRoot_48 : decode cX2_takeRoot 48 = .ok (.aload_n 0, 1) := by decide +kernel
theorem dX2_takeRoot_49 : decode cX2_takeRoot 49 = .ok (.iload_n 2, 1) := by decide +kernel
theorem dX2_takeRoot_50 : decode cX2_takeRoot 50 = .ok (.invokevirtual 69, 3) := by decide +kernel
theorem dX2_takeRoot_53 : decode cX2_takeRoot 53 = .ok (.aload_n 0, 1) := by decide +kernel
theorem dX2_takeRoot_54 : decode cX2_takeRoot 54 = .ok (.getfield 41, 3) := by decide +kernel
theorem dX2_takeRoot_57 : decode cX2_takeRoot 57 = .ok (.lshl, 1) := by decide +kernel
theorem dX2_takeRoot_58 : decode cX2_takeRoot 58 = .ok (.lstore 5, 2) := by decide +kernel
theorem dX2_takeRoot_60 : decode cX2_takeRoot 60 = .ok (.lload 5, 2) := by decide +kernel
theorem dX2_takeRoot_62 : decode cX2_takeRoot 62 = .ok (.invokestatic 120, 3) := by decide +kernel
theorem dX2_takeRoot_65 : decode cX2_takeRoot 65 = .ok (.lstore 7, 2) := by decide +kernel
theorem dX2_takeRoot_67 : decode cX2_takeRoot 67 = .ok (.aload_n 0, 1) := by decide +kernel
theorem dX2_takeRoot_68 : decode cX2_takeRoot 68 = .ok (.iload_n 1, 1) := by decide +kernel
theorem dX2_takeRoot_69 : decode cX2_takeRoot 69 = .ok (.lload_n 3, 1) := by decide +kernel
theorem dX2_takeRoot_70 : decode cX2_takeRoot 70 = .ok (.lload 7, 2) := by decide +kernel
theorem dX2_takeRoot_72 : decode cX2_takeRoot 72 = .ok (.lload 7, 2) := by decide +kernel
theorem dX2_takeRoot_74 : decode cX2_takeRoot 74 = .ok (.lmul, 1) := by decide +kernel
theorem dX2_takeRoot_75 : decode cX2_takeRoot 75 = .ok (.lload 5, 2) := by decide +kernel
theorem dX2_takeRoot_77 : decode cX2_takeRoot 77 = .ok (.lcmp, 1) := by decide +kernel
theorem dX2_takeRoot_78 : decode cX2_takeRoot 78 = .ok (.ifCond .ge 10, 3) := by decide +kernel
theorem dX2_takeRoot_81 : decode cX2_takeRoot 81 = .ok (.lload 7, 2) := by decide +kernel
theorem dX2_takeRoot_83 : decode cX2_takeRoot 83 = .ok (.lconst 1, 1) := by decide +kernel
theorem dX2_takeRoot_84 : decode cX2_takeRoot 84 = .ok (.ladd, 1) := by decide +kernel
theorem dX2_takeRoot_85 : decode cX2_takeRoot 85 = .ok (.goto 5, 3) := by decide +kernel
theorem dX2_takeRoot_88 : decode cX2_takeRoot 88 = .ok (.lload 7, 2) := by decide +kernel
theorem dX2_takeRoot_90 : decode cX2_takeRoot 90 = .ok (.invokevirtual 76, 3) := by decide +kernel
theorem dX2_takeRoot_93 : decode cX2_takeRoot 93 = .ok (.return_, 1) := by decide +kernel
def fX2_takeRoot (n : Nat) (x1 : Int32) (x2 : Int32) (w : Wd) : Option (Wd) :=
    (fX2_highOf n x2 w).bind fun z1 =>
    if 0 ≤ (lg_cmp z1 0) then
      (fX2_lowOf n x2 w).bind fun z4 =>
      if 0 ≤ (lg_cmp z4 0) then
        (fX2_lowOf n x2 w).bind fun z7 =>
        (fX2_floorRoot n (z7 <<< (Int32.toInt64 (w.1 0 4) &&& 63))).bind fun z9 =>
        (fX2_highOf n x2 w).bind fun z11 =>
        (fX2_floorRoot n (z11 <<< (Int32.toInt64 (w.1 0 4) &&& 63))).bind fun z13 =>
        if 0 ≤ (lg_cmp (z13 * z13) (z11 <<< (Int32.toInt64 (w.1 0 4) &&& 63))) then
          (fX2_setSpan n x1 z9 z13 w).bind fun z16 =>
          some z16
        else
          (fX2_setSpan n x1 z9 (z13 + 1) w).bind fun z18 =>
          some z18
      else
        (fX2_setState n x1 2 w).bind fun z20 =>
        some z20
    else
      (fX2_setState n x1 1 w).bind fun z22 =>
      some z22
set_option maxHeartbeats 4000000 in
set_option maxRecDepth 100000 in
theorem tX2_takeRoot_0 {p : Program} {l : Launch} {e : Env} {s : State} {m : MethodId} {args : Array Value} {below : List Frame} {meth : Method} {c : Code} {A : Nat → Prop} {D : va_G} {a : Nat → Nat} {k : Nat → ClassId} {z : Wd} (C0 : ez_C p s m args meth c cX2_takeRoot none 9 RX2 A) (hK : va_K D vwCl (tC k) s) : ∀ (n : Nat) (H : Heap) (locs : List Loc) (ls : Array Slot) (x1 : Int32) (x2 : Int32) (w : Wd), lv_has ls 9 [(0, .ref (a 4)), (1, .int x1), (2, .int x2)] → va_P D vwCl (wC a k w) H → va_D A (wC a k w) → va_S A s.heap H locs → fX2_takeRoot n x1 x2 w = some z → W p l e ({ frames := 2, cells := 0, slots := 0, locals := 47 } : Room) s m args below meth c H locs 0 0 (MQ below (ez_Qv D (tC k) A (wC a k z)) args s 0 0 A) (F0 m 0 ls []) := by
  intro n
  intro H locs ls x1 x2 w hl hP hD hS h
  rw [fX2_takeRoot] at h
  have C1 := C0
  obtain ⟨hx, hb, hr, hml, hown, hw, hlk, hA, hN⟩ := C1
  refine lv_aload_n (pc := 0) hx hb dX2_takeRoot_0 rfl (lv_at hl 0 rfl) ?_
  refine lv_iload_n (pc := 1) hx hb dX2_takeRoot_1 rfl (lv_at hl 2 rfl) ?_
  replace h := ez_bd h
  obtain ⟨z1, e2, h⟩ := h
  refine ez_croL (r := z1) (pc := 2) (va_runV (g := F0 m 2 ls [.int x2, .ref (a 4)]) (As := [.int x2]) (rest := []) ⟨hx, hb, hml, hown, hw⟩ (kX2_highOf l D a k n x2 w z1 e2) (cwV 1 hw (ez_gV mw318 mw319 mw320 mw3 mw321) rfl rfl rfl (by decide +kernel) ⟨Nat.le_of_ble_eq_true rfl, Nat.le_of_ble_eq_true rfl⟩) (ez_preRV (wr := []) (wl := (wC a k w)) hP hK hN 4 rfl rfl) rfl rfl hl.1 rfl (lv_room (Nat.le_of_ble_eq_true rfl)) dX2_takeRoot_2 ⟨Nat.le_refl _, Nat.le_refl _⟩) ?_
  refine lv_lconst (v := 0) (pc := 5) hx hb dX2_takeRoot_5 rfl ?_
  refine W.lcmp (pc := 6) hx hb dX2_takeRoot_6 ?_
  refine lv_if_ge (pc := 7) (tgt := 17) hx hb dX2_takeRoot_7 (by decide) (fun c3 => ?_) (fun c3 => ?_)
  · replace h := ez_it c3 h
    refine lv_aload_n (pc := 17) hx hb dX2_takeRoot_17 rfl (lv_at hl 0 rfl) ?_
    refine lv_iload_n (pc := 18) hx hb dX2_takeRoot_18 rfl (lv_at hl 2 rfl) ?_
    replace h := ez_bd h
    obtain ⟨z4, e5, h⟩ := h
    refine ez_croL (r := z4) (pc := 19) (va_runV (g := F0 m 19 ls [.int x2, .ref (a 4)]) (As := [.int x2]) (rest := []) ⟨hx, hb, hml, hown, hw⟩ (kX2_lowOf l D a k n x2 w z4 e5) (cwV 1 hw (ez_gV mw322 mw323 mw324 mw3 mw325) rfl rfl rfl (by decide +kernel) ⟨Nat.le_of_ble_eq_true rfl, Nat.le_of_ble_eq_true rfl⟩) (ez_preRV (wr := []) (wl := (wC a k w)) hP hK hN 4 rfl rfl) rfl rfl hl.1 rfl (lv_room (Nat.le_of_ble_eq_true rfl)) dX2_takeRoot_19 ⟨Nat.le_refl _, Nat.le_refl _⟩) ?_
    refine lv_lconst (v := 0) (pc := 22) hx hb dX2_takeRoot_22 rfl ?_
    refine W.lcmp (pc := 23) hx hb dX2_takeRoot_23 ?_
    refine lv_if_ge (pc := 24) (tgt := 34) hx hb dX2_takeRoot_24 (by decide) (fun c6 => ?_) (fun c6 => ?_)
    · replace h := ez_it c6 h
      refine lv_aload_n (pc := 34) hx hb dX2_takeRoot_34 rfl (lv_at hl 0 rfl) ?_
      refine lv_iload_n (pc := 35) hx hb dX2_takeRoot_35 rfl (lv_at hl 2 rfl) ?_
      replace h := ez_bd h
      obtain ⟨z7, e8, h⟩ := h
      refine ez_croL (r := z7) (pc := 36) (va_runV (g := F0 m 36 ls [.int x2, .ref (a 4)]) (As := [.int x2]) (rest := []) ⟨hx, hb, hml, hown, hw⟩ (kX2_lowOf l D a k n x2 w z7 e8) (cwV 1 hw (ez_gV mw322 mw323 mw324 mw3 mw325) rfl rfl rfl (by decide +kernel) ⟨Nat.le_of_ble_eq_true rfl, Nat.le_of_ble_eq_true rfl⟩) (ez_preRV (wr := []) (wl := (wC a k w)) hP hK hN 4 rfl rfl) rfl rfl hl.1 rfl (lv_room (Nat.le_of_ble_eq_true rfl)) dX2_takeRoot_36 ⟨Nat.le_refl _, Nat.le_refl _⟩) ?_
      refine lv_aload_n (pc := 39) hx hb dX2_takeRoot_39 rfl (lv_at hl 0 rfl) ?_
      refine va_get (D := D) (pc := 40) hx hb hw inX2 hown hK hP 4 rfl rfl 4 (by decide) (hw _ mw49) (fun _ h9 => h9) rfl dX2_takeRoot_40 ?_
      refine lv_lshl (pc := 43) hx hb dX2_takeRoot_43 rfl ?_
      replace h := ez_bd h
      obtain ⟨z9, e10, h⟩ := h
      refine ez_croL (r := z9) (pc := 44) (va_runS (g := F0 m 44 ls [.long (z7 <<< (Int32.toInt64 (w.1 0 4) &&& 63))]) (As := [.long (z7 <<< (Int32.toInt64 (w.1 0 4) &&& 63))]) (rest := []) ⟨hx, hb, hml, hown, hw⟩ (kX2_floorRoot l n (z7 <<< (Int32.toInt64 (w.1 0 4) &&& 63)) z9 e10) (va_cwS 1 hw (ez_gS mw367 mw368 mw3 mw369) rfl rfl rfl (by decide +kernel) ⟨Nat.le_of_ble_eq_true rfl, Nat.le_of_ble_eq_true rfl⟩) (ez_preRS hN) rfl rfl hl.1 rfl (lv_room (Nat.le_of_ble_eq_true rfl)) dX2_takeRoot_44 ⟨Nat.le_refl _, Nat.le_refl _⟩) ?_
      refine lv_lstore_n (pc := 47) hx hb dX2_takeRoot_47 rfl hl (by decide) rfl (fun ls hl => ?_)
      replace hl : lv_has ls 9 [(3, .long z9), (0, .ref (a 4)), (1, .int x1), (2, .int x2)] := hl
      refine lv_aload_n (pc := 48) hx hb dX2_takeRoot_48 rfl (lv_at hl 1 rfl) ?_
      refine lv_iload_n (pc := 49) hx hb dX2_takeRoot_49 rfl (lv_at hl 3 rfl) ?_
      replace h := ez_bd h
      obtain ⟨z11, e12, h⟩ := h
      refine ez_croL (r := z11) (pc := 50) (va_runV (g := F0 m 50 ls [.int x2, .ref (a 4)]) (As := [.int x2]) (rest := []) ⟨hx, hb, hml, hown, hw⟩ (kX2_highOf l D a k n x2 w z11 e12) (cwV 1 hw (ez_gV mw318 mw319 mw320 mw3 mw321) rfl rfl rfl (by decide +kernel) ⟨Nat.le_of_ble_eq_true rfl, Nat.le_of_ble_eq_true rfl⟩) (ez_preRV (wr := []) (wl := (wC a k w)) hP hK hN 4 rfl rfl) rfl rfl hl.1 rfl (lv_room (Nat.le_of_ble_eq_true rfl)) dX2_takeRoot_50 ⟨Nat.le_refl _, Nat.le_refl _⟩) ?_
      refine lv_aload_n (pc := 53) hx hb dX2_takeRoot_53 rfl (lv_at hl 1 rfl) ?_
      refine va_get (D := D) (pc := 54) hx hb hw inX2 hown hK hP 4 rfl rfl 4 (by decide) (hw _ mw49) (fun _ h9 => h9) rfl dX2_takeRoot_54 ?_
      refine lv_lshl (pc := 57) hx hb dX2_takeRoot_57 rfl ?_
      refine lv_lstore (pc := 58) hx hb dX2_takeRoot_58 hl (by decide) rfl (fun ls hl => ?_)
      replace hl : lv_has ls 9 [(5, .long (z11 <<< (Int32.toInt64 (w.1 0 4) &&& 63))), (3, .long z9), (0, .ref (a 4)), (1, .int x1), (2, .int x2)] := hl
      refine lv_lload (pc := 60) hx hb dX2_takeRoot_60 (lv_at hl 0 rfl) ?_
      replace h := ez_bd h
      obtain ⟨z13, e14, h⟩ := h
      refine ez_croL (r := z13) (pc := 62) (va_runS (g := F0 m 62 ls [.long (z11 <<< (Int32.toInt64 (w.1 0 4) &&& 63))]) (As := [.long (z11 <<< (Int32.toInt64 (w.1 0 4) &&& 63))]) (rest := []) ⟨hx, hb, hml, hown, hw⟩ (kX2_floorRoot l n (z11 <<< (Int32.toInt64 (w.1 0 4) &&& 63)) z13 e14) (va_cwS 1 hw (ez_gS mw367 mw368 mw3 mw369) rfl rfl rfl (by decide +kernel) ⟨Nat.le_of_ble_eq_true rfl, Nat.le_of_ble_eq_true rfl⟩) (ez_preRS hN) rfl rfl hl.1 rfl (lv_room (Nat.le_of_ble_eq_true rfl)) dX2_takeRoot_62 ⟨Nat.le_refl _, Nat.le_refl _⟩) ?_
      refine lv_lstore (pc := 65) hx hb dX2_takeRoot_65 hl (by decide) rfl (fun ls hl => ?_)
      replace hl : lv_has ls 9 [(7, .long z13), (5, .long (z11 <<< (Int32.toInt64 (w.1 0 4) &&& 63))), (3, .long z9), (0, .ref (a 4)), (1, .int x1), (2, .int x2)] := hl
      refine lv_aload_n (pc := 67) hx hb dX2_takeRoot_67 rfl (lv_at hl 3 rfl) ?_
      refine lv_iload_n (pc := 68) hx hb dX2_takeRoot_68 rfl (lv_at hl 4 rfl) ?_
      refine lv_lload_n (pc := 69) hx hb dX2_takeRoot_69 rfl (lv_at hl 2 rfl) ?_
      refine lv_lload (pc := 70) hx hb dX2_takeRoot_70 (lv_at hl 0 rfl) ?_
      refine lv_lload (pc := 72) hx hb dX2_takeRoot_72 (lv_at hl 0 rfl) ?_
      refine lv_lmul (pc := 74) hx hb dX2_takeRoot_74 ?_
      refine lv_lload (pc := 75) hx hb dX2_takeRoot_75 (lv_at hl 1 rfl) ?_
      refine W.lcmp (pc := 77) hx hb dX2_takeRoot_77 ?_
      refine lv_if_ge (pc := 78) (tgt := 88) hx hb dX2_takeRoot_78 (by decide) (fun c15 => ?_) (fun c15 => ?_)
      · replace h := ez_it c15 h
        refine lv_lload (pc := 88) hx hb dX2_takeRoot_88 (lv_at hl 0 rfl) ?_
        replace h := ez_bd h
        obtain ⟨z16, e17, h⟩ := h
        refine ez_callV (pc := 90) (wr := []) (wl := (wC a k w)) (wl' := (wC a k z16)) (va_runV (g := F0 m 90 ls [.long z13, .long z9, .int x1, .ref (a 4)]) (As := [.int x1, .long z9, .long z13]) (rest := []) ⟨hx, hb, hml, hown, hw⟩ (kX2_setSpan l D a k n x1 z9 z13 w z16 e17 H.size) (cwV 3 hw (ez_gV mw313 mw315 mp20 mw3 mw316) rfl rfl rfl (by decide +kernel) ⟨Nat.le_of_ble_eq_true rfl, Nat.le_of_ble_eq_true rfl⟩) (ez_preV (wr := []) (wl := (wC a k w)) hP hD hK hN 4 rfl rfl) rfl rfl hl.1 rfl (lv_room (Nat.le_of_ble_eq_true rfl)) dX2_takeRoot_90 ⟨Nat.le_refl _, Nat.le_refl _⟩) hP hD hS hA (fun H locs hP hD hS => ?_)
        replace hP : va_P D vwCl (wC a k z16) H := hP
        replace hD : va_D A (wC a k z16) := hD
        obtain rfl := ez_r1 h
        exact ez_retV C0 hP hD hK hS dX2_takeRoot_93
      · replace h := ez_if c15 h
        refine lv_lload (pc := 81) hx hb dX2_takeRoot_81 (lv_at hl 0 rfl) ?_
        refine lv_lconst (v := 1) (pc := 83) hx hb dX2_takeRoot_83 rfl ?_
        refine lv_ladd (pc := 84) hx hb dX2_takeRoot_84 ?_
        refine lv_goto (pc := 85) (tgt := 90) hx hb dX2_takeRoot_85 (by decide) ?_
        replace h := ez_bd h
        obtain ⟨z18, e19, h⟩ := h
        refine ez_callV (pc := 90) (wr := []) (wl := (wC a k w)) (wl' := (wC a k z18)) (va_runV (g := F0 m 90 ls [.long (z13 + 1), .long z9, .int x1, .ref (a 4)]) (As := [.int x1, .long z9, .long (z13 + 1)]) (rest := []) ⟨hx, hb, hml, hown, hw⟩ (kX2_setSpan l D a k n x1 z9 (z13 + 1) w z18 e19 H.size) (cwV 3 hw (ez_gV mw313 mw315 mp20 mw3 mw316) rfl rfl rfl (by decide +kernel) ⟨Nat.le_of_ble_eq_true rfl, Nat.le_of_ble_eq_true rfl⟩) (ez_preV (wr := []) (wl := (wC a k w)) hP hD hK hN 4 rfl rfl) rfl rfl hl.1 rfl (lv_room (Nat.le_of_ble_eq_true rfl)) dX2_takeRoot_90 ⟨Nat.le_refl _, Nat.le_refl _⟩) hP hD hS hA (fun H locs hP hD hS => ?_)
        replace hP : va_P D vwCl (wC a k z18) H := hP
        replace hD : va_D A (wC a k z18) := hD
        obtain rfl := ez_r1 h
        exact ez_retV C0 hP hD hK hS dX2_takeRoot_93
    · replace h := ez_if c6 h
      refine lv_aload_n (pc := 27) hx hb dX2_takeRoot_27 rfl (lv_at hl 0 rfl) ?_
      refine lv_iload_n (pc := 28) hx hb dX2_takeRoot_28 rfl (lv_at hl 1 rfl) ?_
      refine lv_iconst (v := 2) (pc := 29) hx hb dX2_takeRoot_29 rfl ?_
      replace h := ez_bd h
      obtain ⟨z20, e21, h⟩ := h
      refine ez_callV (pc := 30) (wr := []) (wl := (wC a k w)) (wl' := (wC a k z20)) (va_runV (g := F0 m 30 ls [.int 2, .int x1, .ref (a 4)]) (As := [.int x1, .int 2]) (rest := []) ⟨hx, hb, hml, hown, hw⟩ (kX2_setState l D a k n x1 2 w z20 e21 H.size) (cwV 2 hw (ez_gV mw293 mw295 mp17 mw3 mw296) rfl rfl rfl (by decide +kernel) ⟨Nat.le_of_ble_eq_true rfl, Nat.le_of_ble_eq_true rfl⟩) (ez_preV (wr := []) (wl := (wC a k w)) hP hD hK hN 4 rfl rfl) rfl rfl hl.1 rfl (lv_room (Nat.le_of_ble_eq_true rfl)) dX2_takeRoot_30 ⟨Nat.le_refl _, Nat.le_refl _⟩) hP hD hS hA (fun H locs hP hD hS => ?_)
      replace hP : va_P D vwCl (wC a k z20) H := hP
      replace hD : va_D A (wC a k z20) := hD
      obtain rfl := ez_r1 h
      exact ez_retV C0 hP hD hK hS dX2_takeRoot_33
  · replace h := ez_if c3 h
    refine lv_aload_n (pc := 10) hx hb dX2_takeRoot_10 rfl (lv_at hl 0 rfl) ?_
    refine lv_iload_n (pc := 11) hx hb dX2_takeRoot_11 rfl (lv_at hl 1 rfl) ?_
    refine lv_iconst (v := 1) (pc := 12) hx hb dX2_takeRoot_12 rfl ?_
    replace h := ez_bd h
    obtain ⟨z22, e23, h⟩ := h
    refine ez_callV (pc := 13) (wr := []) (wl := (wC a k w)) (wl' := (wC a k z22)) (va_runV (g := F0 m 13 ls [.int 1, .int x1, .ref (a 4)]) (As := [.int x1, .int 1]) (rest := []) ⟨hx, hb, hml, hown, hw⟩ (kX2_setState l D a k n x1 1 w z22 e23 H.size) (cwV 2 hw (ez_gV mw293 mw295 mp17 mw3 mw296) rfl rfl rfl (by decide +kernel) ⟨Nat.le_of_ble_eq_true rfl, Nat.le_of_ble_eq_true rfl⟩) (ez_preV (wr := []) (wl := (wC a k w)) hP hD hK hN 4 rfl rfl) rfl rfl hl.1 rfl (lv_room (Nat.le_of_ble_eq_true rfl)) dX2_takeRoot_13 ⟨Nat.le_refl _, Nat.le_refl _⟩) hP hD hS hA (fun H locs hP hD hS => ?_)
    replace hP : va_P D vwCl (wC a k z22) H := hP
    replace hD : va_D A (wC a k z22) := hD
    obtain rfl := ez_r1 h
    exact ez_retV C0 hP hD hK hS dX2_takeRoot_16
set_option maxRecDepth 100000 in
theorem kX2_takeRoot (l : Launch) (D : va_G) (a : Nat → Nat) (k : Nat → ClassId) (n : Nat) (x1 : Int32) (x2 : Int32) (w : Wd) (z : Wd) (h : fX2_takeRoot n x1 x2 w = some z) (sz : Nat) : Met l yX2_takeRoot wsX2_takeRoot ({ frames := 2, cells := 0, slots := 0, locals := 47 } : Room) (ez_Pc D (tC k) [.ref (a 4), .int x1, .int x2] (wC a k w) sz) (ez_Qv D (tC k) (va_A (wC a k w) sz) (wC a k z)) 0 0 (va_A (wC a k w) sz) :=
  ez_mk (Qf := fun A => (ez_Qv D (tC k) A (wC a k z))) (by decide) rfl (Nat.le_of_ble_eq_true rfl) (fun p e s m below meth c A ls C0 _ hl hP hD hK => tX2_takeRoot_0 C0 hK n s.heap [] ls x1 x2 w (lv_sub (l := [(0, .ref (a 4)), (1, .int x1), (2, .int x2)]) hl [0, 1, 2] rfl) hP hD va_S.rf h) sz
/-! EnclosureCalculator$Spans workOutPart -/
theorem dX2_workOutPart_0 : decode cX2_workOutPart 0 = .ok (.aload_n 1, 1) := by decide +kernel
theorem dX2_workOutPart_1 : decode cX2_workOutPart 1 = .ok (.iload_n 2, 1) := by decide +kernel
theorem dX2_workOutPart_2 : decode cX2_workOutPart 2 = .ok (.invokevirtual 26, 3) := by decide +kernel
theorem dX2_workOutPart_5 : decode cX2_workOutPart 5 = .ok (.istore_n 3, 1) := by decide +kernel
theorem dX2_workOutPart_6 : decode cX2_workOutPart 6 = .ok (.aload_n 1, 1) := by decide +kernel
theorem dX2_workOutPart_7 : decode cX2_workOutPart 7 = .ok (.iload_n 2, 1) := by decide +kernel
theorem dX2_workOutPart_8 : decode cX2_workOutPart 8 = .ok (.invokevirtual 34, 3) := by decide +kernel
theorem dX2_workOutPart_11 : decode cX2_workOutPart 11 = .ok (.istore 4, 2) := by decide +kernel
theorem dX2_workOutPart_13 : decode cX2_workOutPart 13 = .ok (.aload_n 0, 1) := by decide +kernel
theorem dX2_workOutPart_14 : decode cX2_workOutPart 14 = .ok (.iload_n 3, 1) := by decide +kernel
theorem dX2_workOutPart_15 : decode cX2_workOutPart 15 = .ok (.invokevirtual 49, 3) := by decide +kernel
theorem dX2_workOutPart_18 : decode cX2_workOutPart 18 = .ok (.ifCond .ne 12, 3) := by decide +kernel
theorem dX2_workOutPart_21 : decode cX2_workOutPart 21 = .ok (.aload_n 0, 1) := by decide +kernel
theorem dX2_workOutPart_22 : decode cX2_workOutPart 22 = .ok (.iload 4, 2) := by decide +kernel
theorem dX2_workOutPart_24 : decode cX2_workOutPart 24 = .ok (.invokevirtual 49, 3) := by decide +kernel
theorem dX2_workOutPart_27 : decode cX2_workOutPart 27 = .ok (.ifCond .eq 10, 3) := by decide +kernel
theorem dX2_workOutPart_30 : decode cX2_workOutPart 30 = .ok (.aload_n 0, 1) := by decide +kernel
theorem dX2_workOutPart_31 : decode cX2_workOutPart 31 = .ok (.iload_n 2, 1) := by decide +kernel
theorem dX2_workOutPart_32 : decode cX2_workOutPart 32 = .ok (.iconst 1, 1) := by decide +kernel
theorem dX2_workOutPart_33 : decode cX2_workOutPart 33 = .ok (.invokevirtual 52, 3) := by decide +kernel
theorem dX2_workOutPart_36 : decode cX2_workOutPart 36 = .ok (.return_, 1) := by decide +kernel
theorem dX2_workOutPart_37 : decode cX2_workOutPart 37 = .ok (.aload_n 0, 1) := by decide +kernel
theorem dX2_workOutPart_38 : decode cX2_workOutPart 38 = .ok (.iload_n 3, 1) := by decide +kernel
theorem dX2_workOutPart_39 : decode cX2_workOutPart 39 = .ok (.invokevirtual 56, 3) := by decide +kernel
theorem dX2_workOutPart_42 : decode cX2_workOutPart 42 = .ok (.ifCond .ne 12, 3) := by decide +kernel
theorem dX2_workOutPart_45 : decode cX2_workOutPart 45 = .ok (.aload_n 0, 1) := by decide +kernel
theorem dX2_workOutPart_46 : decode cX2_workOutPart 46 = .ok (.iload 4, 2) := by decide +kernel
theorem dX2_workOutPart_48 : decode cX2_workOutPart 48 = .ok (.invokevirtual 56, 3) := by decide +kernel
theorem dX2_workOutPart_51 : decode cX2_workOutPart 51 = .ok (.ifCond .eq 10, 3) := by decide +kernel
theorem dX2_workOutPart_54 : decode cX2_workOutPart 54 = .ok (.aload_n 0, 1) := by decide +kernel
theorem dX2_workOutPart_55 : decode cX2_workOutPart 55 = .ok (.iload_n 2, 1) := by decide +kernel
theorem dX2_workOutPart_56 : decode cX2_workOutPart 56 = .ok (.iconst 2, 1) := by decide +kernel
theorem dX2_workOutPart_57 : decode cX2_workOutPart 57 = .ok (.invokevirtual 52, 3) := by decide +kernel
theorem dX2_workOutPart_60 : decode cX2_workOutPart 60 = .ok (.return_, 1) := by decide +kernel
theorem dX2_workOutPart_61 : decode cX2_workOutPart 61 = .ok (.aload_n 1, 1) := by decide +kernel
theorem dX2_workOutPart_62 : decode cX2_workOutPart 62 = .ok (.iload_n 2, 1) := by decide +kernel
theorem dX2_workOutPart_63 : decode cX2_workOutPart 63 = .ok (.invokevirtual 59, 3) := by decide +kernel
theorem dX2_workOutPart_66 : decode cX2_workOutPart 66 = .ok (.tableswitch 171 0 6 #[42, 56, 76, 108, 140, 151, 162], 42) := by decide +kernel
theorem dX2_workOutPart_108 : decode cX2_workOutPart 108 = .ok (.aload_n 0, 1) := by decide +kernel
theorem dX2_workOutPart_109 : decode cX2_workOutPart 109 = .ok (.iload_n 2, 1) := by decide +kernel
theorem dX2_workOutPart_110 : decode cX2_workOutPart 110 = .ok (.aload_n 1, 1) := by decide +kernel
theorem dX2_workOutPart_111 : decode cX2_workOutPart 111 = .ok (.iload_n 2, 1) := by decide +kernel
theorem dX2_workOutPart_112 : decode cX2_workOutPart 112 = .ok (.invokevirtual 62, 3) := by decide +kernel
theorem dX2_workOutPart_115 : decode cX2_workOutPart 115 = .ok (.i2l, 1) := by decide +kernel
theorem dX2_workOutPart_116 : decode cX2_workOutPart 116 = .ok (.invokevirtual 65, 3) := by decide +kernel
theorem dX2_workOutPart_119 : decode cX2_workOutPart 119 = .ok (.goto 124, 3) := by decide +kernel
theorem dX2_workOutPart_122 : decode cX2_workOutPart 122 = .ok (.aload_n 0, 1) := by decide +kernel
theorem dX2_workOutPart_123 : decode cX2_workOutPart 123 = .ok (.iload_n 2, 1) := by decide +kernel
theorem dX2_workOutPart_124 : decode cX2_workOutPart 124 = .ok (.aload_n 0, 1) := by decide +kernel
theorem dX2_workOutPart_125 : decode cX2_workOutPart 125 = .ok (.iload_n 3, 1) := by decide +kernel
theorem dX2_workOutPart_126 : decode cX2_workOutPart 126 = .ok (.invokevirtual 69, 3) := by decide +kernel
theorem dX2_workOutPart_129 : decode cX2_workOutPart 129 = .ok (.lneg, 1) := by decide +kernel
theorem dX2_workOutPart_130 : decode cX2_workOutPart 130 = .ok (.aload_n 0, 1) := by decide +kernel
theorem dX2_workOutPart_131 : decode cX2_workOutPart 131 = .ok (.iload_n 3, 1) := by decide +kernel
theorem dX2_workOutPart_132 : decode cX2_workOutPart 132 = .ok (.invokevirtual 73, 3) := by decide +kernel
theorem dX2_workOutPart_135 : decode cX2_workOutPart 135 = .ok (.lneg, 1) := by decide +kernel
theorem dX2_workOutPart_136 : decode cX2_workOutPart 136 = .ok (.invokevirtual 76, 3) := by decide +kernel
theorem dX2_workOutPart_139 : decode cX2_workOutPart 139 = .ok (.goto 104, 3) := by decide +kernel
theorem dX2_workOutPart_142 : decode cX2_workOutPart 142 = .ok (.aload_n 0, 1) := by decide +kernel
theorem dX2_workOutPart_143 : decode cX2_workOutPart 143 = .ok (.iload_n 2, 1) := by decide +kernel
theorem dX2_workOutPart_144 : decode cX2_workOutPart 144 = .ok (.aload_n 0, 1) := by decide +kernel
theorem dX2_workOutPart_145 : decode cX2_workOutPart 145 = .ok (.iload_n 3, 1) := by decide +kernel
theorem dX2_workOutPart_146 : decode cX2_workOutPart 146 = .ok (.invokevirtual 73, 3) := by decide +kernel
theorem dX2_workOutPart_149 : decode cX2_workOutPart 149 = .ok (.aload_n 0, 1) := by decide +kernel
theorem dX2_workOutPart_150 : decode cX2_workOutPart 150 = .ok (.iload 4, 2) := by decide +kernel
theorem dX2_workOutPart_152 : decode cX2_workOutPart 152 = .ok (.invokevirtual 73, 3) := by decide +kernel
theorem dX2_workOutPart_155 : decode cX2_workOutPart 155 = .ok (.ladd, 1) := by decide +kernel
theorem dX2_workOutPart_156 : decode cX2_workOutPart 156 = .ok (.aload_n 0, 1) := by decide +kernel
theorem dX2_workOutPart_157 : decode cX2_workOutPart 157 = .ok (.iload_n 3, 1) := by decide +kernel
theorem dX2_workOutPart_158 : decode cX2_workOutPart 158 = .ok (.invokevirtual 69, 3) := by decide +kernel
theorem dX2_workOutPart_161 : decode cX2_workOutPart 161 = .ok (.aload_n 0, 1) := by decide +kernel
theorem dX2_workOutPart_162 : decode cX2_workOutPart 162 = .ok (.iload 4, 2) := by decide +kernel
theorem dX2_workOutPart_164 : decode cX2_workOutPart 164 = .ok (.invokevirtual 69, 3) := by decide +kernel
theorem dX2_workOutPart_167 : decode cX2_workOutPart 167 = .ok (.ladd, 1) := by decide +kernel
theorem dX2_workOutPart_168 : decode cX2_workOutPart 168 = .ok (.invokevirtual 76, 3) := by decide +kernel
theorem dX2_workOutPart_171 : decode cX2_workOutPart 171 = .ok (.goto 72, 3) := by decide +kernel
theorem dX2_workOutPart_174 : decode cX2_workOutPart 174 = .ok (.aload_n 0, 1) := by decide +kernel
theorem dX2_workOutPart_175 : decode cX2_workOutPart 175 = .ok (.iload_n 2, 1) := by decide +kernel
theorem dX2_workOutPart_176 : decode cX2_workOutPart 176 = .ok (.aload_n 0, 1) := by decide +kernel
theorem dX2_workOutPart_177 : decode cX2_workOutPart 177 = .ok (.iload_n 3, 1) := by decide +kernel
theorem dX2_workOutPart_178 : decode cX2_workOutPart 178 = .ok (.invokevirtual 73, 3) := by decide +kernel
theorem dX2_workOutPart_181 : decode cX2_workOutPart 181 = .ok (.aload_n 0, 1) := by decide +kernel
theorem dX2_workOutPart_182 : decode cX2_workOutPart 182 = .ok (.iload 4, 2) := by decide +kernel
theorem dX2_workOutPart_184 : decode cX2_workOutPart 184 = .ok (.invokevirtual 69, 3) := by decide +kernel
theorem dX2_workOutPart_187 : decode cX2_workOutPart 187 = .ok (.lsub, 1) := by decide +kernel
theorem dX2_workOutPart_188 : decode cX2_workOutPart 188 = .ok (.aload_n 0, 1) := by decide +kernel
theorem dX2_workOutPart_189 : decode cX2_workOutPart 189 = .ok (.iload_n 3, 1) := by decide +kernel
theorem dX2_workOutPart_190 : decode cX2_workOutPart 190 = .ok (.invokevirtual 69, 3) := by decide +kernel
theorem dX2_workOutPart_193 : decode cX2_workOutPart 193 = .ok (.aload_n 0, 1) := by decide +kernel
theorem dX2_workOutPart_194 : decode cX2_workOutPart 194 = .ok (.iload 4, 2) := by decide +kernel
theorem dX2_workOutPart_196 : decode cX2_workOutPart 196 = .ok (.invokevirtual 73, 3) := by decide +kernel
theorem dX2_workOutPart_199 : decode cX2_workOutPart 199 = .ok (.lsub, 1) := by decide +kernel
theorem dX2_workOutPart_200 : decode cX2_workOutPart 200 = .ok (.invokevirtual 76, 3) := by decide +kernel
theorem dX2_workOutPart_203 : decode cX2_workOutPart 203 = .ok (.goto 40, 3) := by decide +kernel
theorem dX2_workOutPart_206 : decode cX2_workOutPart 206 = .ok (.aload_n 0, 1) := by decide +kernel
theorem dX2_workOutPart_207 : decode cX2_workOutPart 207 = .ok (.iload_n 2, 1) := by decide +kernel
theorem dX2_workOutPart_208 : decode cX2_workOutPart 208 = .ok (.iload_n 3, 1) := by decide +kernel
theorem dX2_workOutPart_209 : decode cX2_workOutPart 209 = .ok (.iload 4, 2) := by decide +kernel
theorem dX2_workOutPart_211 : decode cX2_workOutPart 211 = .ok (.invokevirtual 80, 3) := by decide +kernel
theorem dX2_workOutPart_214 : decode cX2_workOutPart 214 = .ok (.goto 29, 3) := by decide +kernel
theorem dX2_workOutPart_217 : decode cX2_workOutPart 217 = .ok (.aload_n 0, 1) := by decide +kernel
theorem dX2_workOutPart_218 : decode cX2_workOutPart 218 = .ok (.iload_n 2, 1) := by decide +kernel
theorem dX2_workOutPart_219 : decode cX2_workOutPart 219 = .ok (.iload_n 3, 1) := by decide +kernel
theorem dX2_workOutPart_220 : decode cX2_workOutPart 220 = .ok (.iload 4, 2) := by decide +kernel
theorem dX2_workOutPart_222 : decode cX2_workOutPart 222 = .ok (.invokevirtual 84, 3) := by decide +kernel
theorem dX2_workOutPart_225 : decode cX2_workOutPart 225 = .ok (.goto 18, 3) := by decide +kernel
theorem dX2_workOutPart_228 : decode cX2_workOutPart 228 = .ok (.aload_n 0, 1) := by decide +kernel
theorem dX2_workOutPart_229 : decode cX2_workOutPart 229 = .ok (.iload_n 2, 1) := by decide +kernel
theorem dX2_workOutPart_230 : decode cX2_workOutPart 230 = .ok (.iload_n 3, 1) := by decide +kernel
theorem dX2_workOutPart_231 : decode cX2_workOutPart 231 = .ok (.invokevirtual 87, 3) := by decide +kernel
theorem dX2_workOutPart_234 : decode cX2_workOutPart 234 = .ok (.goto 9, 3) := by decide +kernel
theorem dX2_workOutPart_237 : decode cX2_workOutPart 237 = .ok (.aload_n 0, 1) := by decide +kernel
theorem dX2_workOutPart_238 : decode cX2_workOutPart 238 = .ok (.iload_n 2, 1) := by decide +kernel
theorem dX2_workOutPart_239 : decode cX2_workOutPart 239 = .ok (.iload_n 3, 1) := by decide +kernel
theorem dX2_workOutPart_240 : decode cX2_workOutPart 240 = .ok (.invokevirtual 90, 3) := by decide +kernel
theorem dX2_workOutPart_243 : decode cX2_workOutPart 243 = .ok (.return_, 1) := by decide +kernel
def fX2_workOutPart (n : Nat) (x2 : Int32) (w : Wd) : Option (Wd) :=
    (fX0_firstOf n x2 w).bind fun z1 =>
    (fX0_secondOf n x2 w).bind fun z3 =>
    (fX2_isFalse n z1 w).bind fun z5 =>
    if z5 = 0 then
      (fX2_isFalse n z3 w).bind fun z10 =>
      if z10 = 0 then
        (fX2_isOpen n z1 w).bind fun z13 =>
        if z13 = 0 then
          (fX2_isOpen n z3 w).bind fun z18 =>
          if z18 = 0 then
            (fX0_sortOf n x2 w).bind fun z21 =>
            if z21 = 0 then
              (fX0_valueOf n x2 w).bind fun z24 =>
              (fX2_setWhole n x2 (Int32.toInt64 z24) w).bind fun z26 =>
              some z26
            else
            if z21 = 1 then
              (fX2_highOf n z1 w).bind fun z29 =>
              (fX2_lowOf n z1 w).bind fun z31 =>
              (fX2_setSpan n x2 (-z29) (-z31) w).bind fun z33 =>
              some z33
            else
            if z21 = 2 then
              (fX2_lowOf n z1 w).bind fun z36 =>
              (fX2_lowOf n z3 w).bind fun z38 =>
              (fX2_highOf n z1 w).bind fun z40 =>
              (fX2_highOf n z3 w).bind fun z42 =>
              (fX2_setSpan n x2 (z36 + z38) (z40 + z42) w).bind fun z44 =>
              some z44
            else
            if z21 = 3 then
              (fX2_lowOf n z1 w).bind fun z47 =>
              (fX2_highOf n z3 w).bind fun z49 =>
              (fX2_highOf n z1 w).bind fun z51 =>
              (fX2_lowOf n z3 w).bind fun z53 =>
              (fX2_setSpan n x2 (z47 - z49) (z51 - z53) w).bind fun z55 =>
              some z55
            else
            if z21 = 4 then
              (fX2_multiply n x2 z1 z3 w).bind fun z58 =>
              some z58
            else
            if z21 = 5 then
              (fX2_divide n x2 z1 z3 w).bind fun z61 =>
              some z61
            else
            if z21 = 6 then
              (fX2_square n x2 z1 w).bind fun z64 =>
              some z64
            else
              (fX2_takeRoot n x2 z1 w).bind fun z66 =>
              some z66
          else
            (fX2_setState n x2 2 w).bind fun z68 =>
            some z68
        else
          (fX2_setState n x2 2 w).bind fun z16 =>
          some z16
      else
        (fX2_setState n x2 1 w).bind fun z70 =>
        some z70
    else
      (fX2_setState n x2 1 w).bind fun z8 =>
      some z8
set_option maxHeartbeats 4000000 in
set_option maxRecDepth 100000 in
theorem tX2_workOutPart_0 {p : Program} {l : Launch} {e : Env} {s : State} {m : MethodId} {args : Array Value} {below : List Frame} {meth : Method} {c : Code} {A : Nat → Prop} {D : va_G} {a : Nat → Nat} {k : Nat → ClassId} {z : Wd} (C0 : ez_C p s m args meth c cX2_workOutPart none 5 RX2 A) (hK : va_K D vwCl (tC k) s) : ∀ (n : Nat) (H : Heap) (locs : List Loc) (ls : Array Slot) (x2 : Int32) (w : Wd), lv_has ls 5 [(0, .ref (a 4)), (1, .ref (a 2)), (2, .int x2)] → va_P D vwCl (wC a k w) H → va_D A (wC a k w) → va_S A s.heap H locs → fX2_workOutPart n x2 w = some z → W p l e ({ frames := 4, cells := 0, slots := 0, locals := 107 } : Room) s m args below meth c H locs 0 0 (MQ below (ez_Qv D (tC k) A (wC a k z)) args s 0 0 A) (F0 m 0 ls []) := by
  intro n
  intro H locs ls x2 w hl hP hD hS h
  rw [fX2_workOutPart] at h
  have C1 := C0
  obtain ⟨hx, hb, hr, hml, hown, hw, hlk, hA, hN⟩ := C1
  refine lv_aload_n (pc := 0) hx hb dX2_workOutPart_0 rfl (lv_at hl 1 rfl) ?_
  refine lv_iload_n (pc := 1) hx hb dX2_workOutPart_1 rfl (lv_at hl 2 rfl) ?_
  replace h := ez_bd h
  obtain ⟨z1, e2, h⟩ := h
  refine ez_croI (r := z1) (pc := 2) (va_runV (g := F0 m 2 ls [.int x2, .ref (a 2)]) (As := [.int x2]) (rest := []) ⟨hx, hb, hml, hown, hw⟩ (kX0_firstOf l D a k n x2 w z1 e2) (cwV 1 hw (ez_gV mw251 mw252 mw253 mw2 mw254) rfl rfl rfl (by decide +kernel) ⟨Nat.le_of_ble_eq_true rfl, Nat.le_of_ble_eq_true rfl⟩) (ez_preRV (wr := []) (wl := (wC a k w)) hP hK hN 2 rfl rfl) rfl rfl hl.1 rfl (lv_room (Nat.le_of_ble_eq_true rfl)) dX2_workOutPart_2 ⟨Nat.le_refl _, Nat.le_refl _⟩) ?_
  refine lv_istore_n (pc := 5) hx hb dX2_workOutPart_5 rfl hl (by decide) rfl (fun ls hl => ?_)
  replace hl : lv_has ls 5 [(3, .int z1), (0, .ref (a 4)), (1, .ref (a 2)), (2, .int x2)] := hl
  refine lv_aload_n (pc := 6) hx hb dX2_workOutPart_6 rfl (lv_at hl 2 rfl) ?_
  refine lv_iload_n (pc := 7) hx hb dX2_workOutPart_7 rfl (lv_at hl 3 rfl) ?_
  replace h := ez_bd h
  obtain ⟨z3, e4, h⟩ := h
  refine ez_croI (r := z3) (pc := 8) (va_runV (g := F0 m 8 ls [.int x2, .ref (a 2)]) (As := [.int x2]) (rest := []) ⟨hx, hb, hml, hown, hw⟩ (kX0_secondOf l D a k n x2 w z3 e4) (cwV 1 hw (ez_gV mw263 mw264 mw265 mw2 mw266) rfl rfl rfl (by decide +kernel) ⟨Nat.le_of_ble_eq_true rfl, Nat.le_of_ble_eq_true rfl⟩) (ez_preRV (wr := []) (wl := (wC a k w)) hP hK hN 2 rfl rfl) rfl rfl hl.1 rfl (lv_room (Nat.le_of_ble_eq_true rfl)) dX2_workOutPart_8 ⟨Nat.le_refl _, Nat.le_refl _⟩) ?_
  refine lv_istore (pc := 11) hx hb dX2_workOutPart_11 hl (by decide) rfl (fun ls hl => ?_)
  replace hl : lv_has ls 5 [(4, .int z3), (3, .int z1), (0, .ref (a 4)), (1, .ref (a 2)), (2, .int x2)] := hl
  refine lv_aload_n (pc := 13) hx hb dX2_workOutPart_13 rfl (lv_at hl 2 rfl) ?_
  refine lv_iload_n (pc := 14) hx hb dX2_workOutPart_14 rfl (lv_at hl 1 rfl) ?_
  replace h := ez_bd h
  obtain ⟨z5, e6, h⟩ := h
  refine ez_croI (r := z5) (pc := 15) (va_runV (g := F0 m 15 ls [.int z1, .ref (a 4)]) (As := [.int z1]) (rest := []) ⟨hx, hb, hml, hown, hw⟩ (kX2_isFalse l D a k n z1 w z5 e6) (cwV 1 hw (ez_gV mw289 mw290 mw291 mw3 mw292) rfl rfl rfl (by decide +kernel) ⟨Nat.le_of_ble_eq_true rfl, Nat.le_of_ble_eq_true rfl⟩) (ez_preRV (wr := []) (wl := (wC a k w)) hP hK hN 4 rfl rfl) rfl rfl hl.1 rfl (lv_room (Nat.le_of_ble_eq_true rfl)) dX2_workOutPart_15 ⟨Nat.le_refl _, Nat.le_refl _⟩) ?_
  refine lv_if_ne (pc := 18) (tgt := 30) hx hb dX2_workOutPart_18 (by decide) (fun c7 => ?_) (fun c7 => ?_)
  · replace h := ez_if c7 h
    refine lv_aload_n (pc := 30) hx hb dX2_workOutPart_30 rfl (lv_at hl 2 rfl) ?_
    refine lv_iload_n (pc := 31) hx hb dX2_workOutPart_31 rfl (lv_at hl 4 rfl) ?_
    refine lv_iconst (v := 1) (pc := 32) hx hb dX2_workOutPart_32 rfl ?_
    replace h := ez_bd h
    obtain ⟨z8, e9, h⟩ := h
    refine ez_callV (pc := 33) (wr := []) (wl := (wC a k w)) (wl' := (wC a k z8)) (va_runV (g := F0 m 33 ls [.int 1, .int x2, .ref (a 4)]) (As := [.int x2, .int 1]) (rest := []) ⟨hx, hb, hml, hown, hw⟩ (kX2_setState l D a k n x2 1 w z8 e9 H.size) (cwV 2 hw (ez_gV mw293 mw295 mp17 mw3 mw296) rfl rfl rfl (by decide +kernel) ⟨Nat.le_of_ble_eq_true rfl, Nat.le_of_ble_eq_true rfl⟩) (ez_preV (wr := []) (wl := (wC a k w)) hP hD hK hN 4 rfl rfl) rfl rfl hl.1 rfl (lv_room (Nat.le_of_ble_eq_true rfl)) dX2_workOutPart_33 ⟨Nat.le_refl _, Nat.le_refl _⟩) hP hD hS hA (fun H locs hP hD hS => ?_)
    replace hP : va_P D vwCl (wC a k z8) H := hP
    replace hD : va_D A (wC a k z8) := hD
    obtain rfl := ez_r1 h
    exact ez_retV C0 hP hD hK hS dX2_workOutPart_36
  · replace h := ez_it c7 h
    refine lv_aload_n (pc := 21) hx hb dX2_workOutPart_21 rfl (lv_at hl 2 rfl) ?_
    refine lv_iload (pc := 22) hx hb dX2_workOutPart_22 (lv_at hl 0 rfl) ?_
    replace h := ez_bd h
    obtain ⟨z10, e11, h⟩ := h
    refine ez_croI (r := z10) (pc := 24) (va_runV (g := F0 m 24 ls [.int z3, .ref (a 4)]) (As := [.int z3]) (rest := []) ⟨hx, hb, hml, hown, hw⟩ (kX2_isFalse l D a k n z3 w z10 e11) (cwV 1 hw (ez_gV mw289 mw290 mw291 mw3 mw292) rfl rfl rfl (by decide +kernel) ⟨Nat.le_of_ble_eq_true rfl, Nat.le_of_ble_eq_true rfl⟩) (ez_preRV (wr := []) (wl := (wC a k w)) hP hK hN 4 rfl rfl) rfl rfl hl.1 rfl (lv_room (Nat.le_of_ble_eq_true rfl)) dX2_workOutPart_24 ⟨Nat.le_refl _, Nat.le_refl _⟩) ?_
    refine lv_if_eq (pc := 27) (tgt := 37) hx hb dX2_workOutPart_27 (by decide) (fun c12 => ?_) (fun c12 => ?_)
    · replace h := ez_it c12 h
      refine lv_aload_n (pc := 37) hx hb dX2_workOutPart_37 rfl (lv_at hl 2 rfl) ?_
      refine lv_iload_n (pc := 38) hx hb dX2_workOutPart_38 rfl (lv_at hl 1 rfl) ?_
      replace h := ez_bd h
      obtain ⟨z13, e14, h⟩ := h
      refine ez_croI (r := z13) (pc := 39) (va_runV (g := F0 m 39 ls [.int z1, .ref (a 4)]) (As := [.int z1]) (rest := []) ⟨hx, hb, hml, hown, hw⟩ (kX2_isOpen l D a k n z1 w z13 e14) (cwV 1 hw (ez_gV mw297 mw299 mp18 mw3 mw300) rfl rfl rfl (by decide +kernel) ⟨Nat.le_of_ble_eq_true rfl, Nat.le_of_ble_eq_true rfl⟩) (ez_preRV (wr := []) (wl := (wC a k w)) hP hK hN 4 rfl rfl) rfl rfl hl.1 rfl (lv_room (Nat.le_of_ble_eq_true rfl)) dX2_workOutPart_39 ⟨Nat.le_refl _, Nat.le_refl _⟩) ?_
      refine lv_if_ne (pc := 42) (tgt := 54) hx hb dX2_workOutPart_42 (by decide) (fun c15 => ?_) (fun c15 => ?_)
      · replace h := ez_if c15 h
        refine lv_aload_n (pc := 54) hx hb dX2_workOutPart_54 rfl (lv_at hl 2 rfl) ?_
        refine lv_iload_n (pc := 55) hx hb dX2_workOutPart_55 rfl (lv_at hl 4 rfl) ?_
        refine lv_iconst (v := 2) (pc := 56) hx hb dX2_workOutPart_56 rfl ?_
        replace h := ez_bd h
        obtain ⟨z16, e17, h⟩ := h
        refine ez_callV (pc := 57) (wr := []) (wl := (wC a k w)) (wl' := (wC a k z16)) (va_runV (g := F0 m 57 ls [.int 2, .int x2, .ref (a 4)]) (As := [.int x2, .int 2]) (rest := []) ⟨hx, hb, hml, hown, hw⟩ (kX2_setState l D a k n x2 2 w z16 e17 H.size) (cwV 2 hw (ez_gV mw293 mw295 mp17 mw3 mw296) rfl rfl rfl (by decide +kernel) ⟨Nat.le_of_ble_eq_true rfl, Nat.le_of_ble_eq_true rfl⟩) (ez_preV (wr := []) (wl := (wC a k w)) hP hD hK hN 4 rfl rfl) rfl rfl hl.1 rfl (lv_room (Nat.le_of_ble_eq_true rfl)) dX2_workOutPart_57 ⟨Nat.le_refl _, Nat.le_refl _⟩) hP hD hS hA (fun H locs hP hD hS => ?_)
        replace hP : va_P D vwCl (wC a k z16) H := hP
        replace hD : va_D A (wC a k z16) := hD
        obtain rfl := ez_r1 h
        exact ez_retV C0 hP hD hK hS dX2_workOutPart_60
      · replace h := ez_it c15 h
        refine lv_aload_n (pc := 45) hx hb dX2_workOutPart_45 rfl (lv_at hl 2 rfl) ?_
        refine lv_iload (pc := 46) hx hb dX2_workOutPart_46 (lv_at hl 0 rfl) ?_
        replace h := ez_bd h
        obtain ⟨z18, e19, h⟩ := h
        refine ez_croI (r := z18) (pc := 48) (va_runV (g := F0 m 48 ls [.int z3, .ref (a 4)]) (As := [.int z3]) (rest := []) ⟨hx, hb, hml, hown, hw⟩ (kX2_isOpen l D a k n z3 w z18 e19) (cwV 1 hw (ez_gV mw297 mw299 mp18 mw3 mw300) rfl rfl rfl (by decide +kernel) ⟨Nat.le_of_ble_eq_true rfl, Nat.le_of_ble_eq_true rfl⟩) (ez_preRV (wr := []) (wl := (wC a k w)) hP hK hN 4 rfl rfl) rfl rfl hl.1 rfl (lv_room (Nat.le_of_ble_eq_true rfl)) dX2_workOutPart_48 ⟨Nat.le_refl _, Nat.le_refl _⟩) ?_
        refine lv_if_eq (pc := 51) (tgt := 61) hx hb dX2_workOutPart_51 (by decide) (fun c20 => ?_) (fun c20 => ?_)
        · replace h := ez_it c20 h
          refine lv_aload_n (pc := 61) hx hb dX2_workOutPart_61 rfl (lv_at hl 3 rfl) ?_
          refine lv_iload_n (pc := 62) hx hb dX2_workOutPart_62 rfl (lv_at hl 4 rfl) ?_
          replace h := ez_bd h
          obtain ⟨z21, e22, h⟩ := h
          refine ez_croI (r := z21) (pc := 63) (va_runV (g := F0 m 63 ls [.int x2, .ref (a 2)]) (As := [.int x2]) (rest := []) ⟨hx, hb, hml, hown, hw⟩ (kX0_sortOf l D a k n x2 w z21 e22) (cwV 1 hw (ez_gV mw301 mw302 mw303 mw2 mw304) rfl rfl rfl (by decide +kernel) ⟨Nat.le_of_ble_eq_true rfl, Nat.le_of_ble_eq_true rfl⟩) (ez_preRV (wr := []) (wl := (wC a k w)) hP hK hN 2 rfl rfl) rfl rfl hl.1 rfl (lv_room (Nat.le_of_ble_eq_true rfl)) dX2_workOutPart_63 ⟨Nat.le_refl _, Nat.le_refl _⟩) ?_
          by_cases c23 : z21 = 0
          · replace h := ez_it c23 h
            refine lv_tableIn (pc := 66) (tgt := 108) (off := 42) hx hb dX2_workOutPart_66 (by rw [c23]; decide) (by rw [c23]; decide) (by rw [c23]; rfl) (by decide) ?_
            refine lv_aload_n (pc := 108) hx hb dX2_workOutPart_108 rfl (lv_at hl 2 rfl) ?_
            refine lv_iload_n (pc := 109) hx hb dX2_workOutPart_109 rfl (lv_at hl 4 rfl) ?_
            refine lv_aload_n (pc := 110) hx hb dX2_workOutPart_110 rfl (lv_at hl 3 rfl) ?_
            refine lv_iload_n (pc := 111) hx hb dX2_workOutPart_111 rfl (lv_at hl 4 rfl) ?_
            replace h := ez_bd h
            obtain ⟨z24, e25, h⟩ := h
            refine ez_croI (r := z24) (pc := 112) (va_runV (g := F0 m 112 ls [.int x2, .ref (a 2), .int x2, .ref (a 4)]) (As := [.int x2]) (rest := [.int x2, .ref (a 4)]) ⟨hx, hb, hml, hown, hw⟩ (kX0_valueOf l D a k n x2 w z24 e25) (cwV 1 hw (ez_gV mw305 mw306 mw307 mw2 mw308) rfl rfl rfl (by decide +kernel) ⟨Nat.le_of_ble_eq_true rfl, Nat.le_of_ble_eq_true rfl⟩) (ez_preRV (wr := []) (wl := (wC a k w)) hP hK hN 2 rfl rfl) rfl rfl hl.1 rfl (lv_room (Nat.le_of_ble_eq_true rfl)) dX2_workOutPart_112 ⟨Nat.le_refl _, Nat.le_refl _⟩) ?_
            refine lv_i2l (pc := 115) hx hb dX2_workOutPart_115 rfl ?_
            replace h := ez_bd h
            obtain ⟨z26, e27, h⟩ := h
            refine ez_callV (pc := 116) (wr := []) (wl := (wC a k w)) (wl' := (wC a k z26)) (va_runV (g := F0 m 116 ls [.long (Int32.toInt64 z24), .int x2, .ref (a 4)]) (As := [.int x2, .long (Int32.toInt64 z24)]) (rest := []) ⟨hx, hb, hml, hown, hw⟩ (kX2_setWhole l D a k n x2 (Int32.toInt64 z24) w z26 e27 H.size) (cwV 2 hw (ez_gV mw309 mw311 mp19 mw3 mw312) rfl rfl rfl (by decide +kernel) ⟨Nat.le_of_ble_eq_true rfl, Nat.le_of_ble_eq_true rfl⟩) (ez_preV (wr := []) (wl := (wC a k w)) hP hD hK hN 4 rfl rfl) rfl rfl hl.1 rfl (lv_room (Nat.le_of_ble_eq_true rfl)) dX2_workOutPart_116 ⟨Nat.le_refl _, Nat.le_refl _⟩) hP hD hS hA (fun H locs hP hD hS => ?_)
            replace hP : va_P D vwCl (wC a k z26) H := hP
            replace hD : va_D A (wC a k z26) := hD
            refine lv_goto (pc := 119) (tgt := 243) hx hb dX2_workOutPart_119 (by decide) ?_
            obtain rfl := ez_r1 h
            exact ez_retV C0 hP hD hK hS dX2_workOutPart_243
          · replace h := ez_if c23 h
            by_cases c28 : z21 = 1
            · replace h := ez_it c28 h
              refine lv_tableIn (pc := 66) (tgt := 122) (off := 56) hx hb dX2_workOutPart_66 (by rw [c28]; decide) (by rw [c28]; decide) (by rw [c28]; rfl) (by decide) ?_
              refine lv_aload_n (pc := 122) hx hb dX2_workOutPart_122 rfl (lv_at hl 2 rfl) ?_
              refine lv_iload_n (pc := 123) hx hb dX2_workOutPart_123 rfl (lv_at hl 4 rfl) ?_
              refine lv_aload_n (pc := 124) hx hb dX2_workOutPart_124 rfl (lv_at hl 2 rfl) ?_
              refine lv_iload_n (pc := 125) hx hb dX2_workOutPart_125 rfl (lv_at hl 1 rfl) ?_
              replace h := ez_bd h
              obtain ⟨z29, e30, h⟩ := h
              refine ez_croL (r := z29) (pc := 126) (va_runV (g := F0 m 126 ls [.int z1, .ref (a 4), .int x2, .ref (a 4)]) (As := [.int z1]) (rest := [.int x2, .ref (a 4)]) ⟨hx, hb, hml, hown, hw⟩ (kX2_highOf l D a k n z1 w z29 e30) (cwV 1 hw (ez_gV mw318 mw319 mw320 mw3 mw321) rfl rfl rfl (by decide +kernel) ⟨Nat.le_of_ble_eq_true rfl, Nat.le_of_ble_eq_true rfl⟩) (ez_preRV (wr := []) (wl := (wC a k w)) hP hK hN 4 rfl rfl) rfl rfl hl.1 rfl (lv_room (Nat.le_of_ble_eq_true rfl)) dX2_workOutPart_126 ⟨Nat.le_refl _, Nat.le_refl _⟩) ?_
              refine lv_lneg (pc := 129) hx hb dX2_workOutPart_129 ?_
              refine lv_aload_n (pc := 130) hx hb dX2_workOutPart_130 rfl (lv_at hl 2 rfl) ?_
              refine lv_iload_n (pc := 131) hx hb dX2_workOutPart_131 rfl (lv_at hl 1 rfl) ?_
              replace h := ez_bd h
              obtain ⟨z31, e32, h⟩ := h
              refine ez_croL (r := z31) (pc := 132) (va_runV (g := F0 m 132 ls [.int z1, .ref (a 4), .long (-z29), .int x2, .ref (a 4)]) (As := [.int z1]) (rest := [.long (-z29), .int x2, .ref (a 4)]) ⟨hx, hb, hml, hown, hw⟩ (kX2_lowOf l D a k n z1 w z31 e32) (cwV 1 hw (ez_gV mw322 mw323 mw324 mw3 mw325) rfl rfl rfl (by decide +kernel) ⟨Nat.le_of_ble_eq_true rfl, Nat.le_of_ble_eq_true rfl⟩) (ez_preRV (wr := []) (wl := (wC a k w)) hP hK hN 4 rfl rfl) rfl rfl hl.1 rfl (lv_room (Nat.le_of_ble_eq_true rfl)) dX2_workOutPart_132 ⟨Nat.le_refl _, Nat.le_refl _⟩) ?_
              refine lv_lneg (pc := 135) hx hb dX2_workOutPart_135 ?_
              replace h := ez_bd h
              obtain ⟨z33, e34, h⟩ := h
              refine ez_callV (pc := 136) (wr := []) (wl := (wC a k w)) (wl' := (wC a k z33)) (va_runV (g := F0 m 136 ls [.long (-z31), .long (-z29), .int x2, .ref (a 4)]) (As := [.int x2, .long (-z29), .long (-z31)]) (rest := []) ⟨hx, hb, hml, hown, hw⟩ (kX2_setSpan l D a k n x2 (-z29) (-z31) w z33 e34 H.size) (cwV 3 hw (ez_gV mw313 mw315 mp20 mw3 mw316) rfl rfl rfl (by decide +kernel) ⟨Nat.le_of_ble_eq_true rfl, Nat.le_of_ble_eq_true rfl⟩) (ez_preV (wr := []) (wl := (wC a k w)) hP hD hK hN 4 rfl rfl) rfl rfl hl.1 rfl (lv_room (Nat.le_of_ble_eq_true rfl)) dX2_workOutPart_136 ⟨Nat.le_refl _, Nat.le_refl _⟩) hP hD hS hA (fun H locs hP hD hS => ?_)
              replace hP : va_P D vwCl (wC a k z33) H := hP
              replace hD : va_D A (wC a k z33) := hD
              refine lv_goto (pc := 139) (tgt := 243) hx hb dX2_workOutPart_139 (by decide) ?_
              obtain rfl := ez_r1 h
              exact ez_retV C0 hP hD hK hS dX2_workOutPart_243
            · replace h := ez_if c28 h
              by_cases c35 : z21 = 2
              · replace h := ez_it c35 h
                refine lv_tableIn (pc := 66) (tgt := 142) (off := 76) hx hb dX2_workOutPart_66 (by rw [c35]; decide) (by rw [c35]; decide) (by rw [c35]; rfl) (by decide) ?_
                refine lv_aload_n (pc := 142) hx hb dX2_workOutPart_142 rfl (lv_at hl 2 rfl) ?_
                refine lv_iload_n (pc := 143) hx hb dX2_workOutPart_143 rfl (lv_at hl 4 rfl) ?_
                refine lv_aload_n (pc := 144) hx hb dX2_workOutPart_144 rfl (lv_at hl 2 rfl) ?_
                refine lv_iload_n (pc := 145) hx hb dX2_workOutPart_145 rfl (lv_at hl 1 rfl) ?_
                replace h := ez_bd h
                obtain ⟨z36, e37, h⟩ := h
                refine ez_croL (r := z36) (pc := 146) (va_runV (g := F0 m 146 ls [.int z1, .ref (a 4), .int x2, .ref (a 4)]) (As := [.int z1]) (rest := [.int x2, .ref (a 4)]) ⟨hx, hb, hml, hown, hw⟩ (kX2_lowOf l D a k n z1 w z36 e37) (cwV 1 hw (ez_gV mw322 mw323 mw324 mw3 mw325) rfl rfl rfl (by decide +kernel) ⟨Nat.le_of_ble_eq_true rfl, Nat.le_of_ble_eq_true rfl⟩) (ez_preRV (wr := []) (wl := (wC a k w)) hP hK hN 4 rfl rfl) rfl rfl hl.1 rfl (lv_room (Nat.le_of_ble_eq_true rfl)) dX2_workOutPart_146 ⟨Nat.le_refl _, Nat.le_refl _⟩) ?_
                refine lv_aload_n (pc := 149) hx hb dX2_workOutPart_149 rfl (lv_at hl 2 rfl) ?_
                refine lv_iload (pc := 150) hx hb dX2_workOutPart_150 (lv_at hl 0 rfl) ?_
                replace h := ez_bd h
                obtain ⟨z38, e39, h⟩ := h
                refine ez_croL (r := z38) (pc := 152) (va_runV (g := F0 m 152 ls [.int z3, .ref (a 4), .long z36, .int x2, .ref (a 4)]) (As := [.int z3]) (rest := [.long z36, .int x2, .ref (a 4)]) ⟨hx, hb, hml, hown, hw⟩ (kX2_lowOf l D a k n z3 w z38 e39) (cwV 1 hw (ez_gV mw322 mw323 mw324 mw3 mw325) rfl rfl rfl (by decide +kernel) ⟨Nat.le_of_ble_eq_true rfl, Nat.le_of_ble_eq_true rfl⟩) (ez_preRV (wr := []) (wl := (wC a k w)) hP hK hN 4 rfl rfl) rfl rfl hl.1 rfl (lv_room (Nat.le_of_ble_eq_true rfl)) dX2_workOutPart_152 ⟨Nat.le_refl _, Nat.le_refl _⟩) ?_
                refine lv_ladd (pc := 155) hx hb dX2_workOutPart_155 ?_
                refine lv_aload_n (pc := 156) hx hb dX2_workOutPart_156 rfl (lv_at hl 2 rfl) ?_
                refine lv_iload_n (pc := 157) hx hb dX2_workOutPart_157 rfl (lv_at hl 1 rfl) ?_
                replace h := ez_bd h
                obtain ⟨z40, e41, h⟩ := h
                refine ez_croL (r := z40) (pc := 158) (va_runV (g := F0 m 158 ls [.int z1, .ref (a 4), .long (z36 + z38), .int x2, .ref (a 4)]) (As := [.int z1]) (rest := [.long (z36 + z38), .int x2, .ref (a 4)]) ⟨hx, hb, hml, hown, hw⟩ (kX2_highOf l D a k n z1 w z40 e41) (cwV 1 hw (ez_gV mw318 mw319 mw320 mw3 mw321) rfl rfl rfl (by decide +kernel) ⟨Nat.le_of_ble_eq_true rfl, Nat.le_of_ble_eq_true rfl⟩) (ez_preRV (wr := []) (wl := (wC a k w)) hP hK hN 4 rfl rfl) rfl rfl hl.1 rfl (lv_room (Nat.le_of_ble_eq_true rfl)) dX2_workOutPart_158 ⟨Nat.le_refl _, Nat.le_refl _⟩) ?_
                refine lv_aload_n (pc := 161) hx hb dX2_workOutPart_161 rfl (lv_at hl 2 rfl) ?_
                refine lv_iload (pc := 162) hx hb dX2_workOutPart_162 (lv_at hl 0 rfl) ?_
                replace h := ez_bd h
                obtain ⟨z42, e43, h⟩ := h
                refine ez_croL (r := z42) (pc := 164) (va_runV (g := F0 m 164 ls [.int z3, .ref (a 4), .long z40, .long (z36 + z38), .int x2, .ref (a 4)]) (As := [.int z3]) (rest := [.long z40, .long (z36 + z38), .int x2, .ref (a 4)]) ⟨hx, hb, hml, hown, hw⟩ (kX2_highOf l D a k n z3 w z42 e43) (cwV 1 hw (ez_gV mw318 mw319 mw320 mw3 mw321) rfl rfl rfl (by decide +kernel) ⟨Nat.le_of_ble_eq_true rfl, Nat.le_of_ble_eq_true rfl⟩) (ez_preRV (wr := []) (wl := (wC a k w)) hP hK hN 4 rfl rfl) rfl rfl hl.1 rfl (lv_room (Nat.le_of_ble_eq_true rfl)) dX2_workOutPart_164 ⟨Nat.le_refl _, Nat.le_refl _⟩) ?_
                refine lv_ladd (pc := 167) hx hb dX2_workOutPart_167 ?_
                replace h := ez_bd h
                obtain ⟨z44, e45, h⟩ := h
                refine ez_callV (pc := 168) (wr := []) (wl := (wC a k w)) (wl' := (wC a k z44)) (va_runV (g := F0 m 168 ls [.long (z40 + z42), .long (z36 + z38), .int x2, .ref (a 4)]) (As := [.int x2, .long (z36 + z38), .long (z40 + z42)]) (rest := []) ⟨hx, hb, hml, hown, hw⟩ (kX2_setSpan l D a k n x2 (z36 + z38) (z40 + z42) w z44 e45 H.size) (cwV 3 hw (ez_gV mw313 mw315 mp20 mw3 mw316) rfl rfl rfl (by decide +kernel) ⟨Nat.le_of_ble_eq_true rfl, Nat.le_of_ble_eq_true rfl⟩) (ez_preV (wr := []) (wl := (wC a k w)) hP hD hK hN 4 rfl rfl) rfl rfl hl.1 rfl (lv_room (Nat.le_of_ble_eq_true rfl)) dX2_workOutPart_168 ⟨Nat.le_refl _, Nat.le_refl _⟩) hP hD hS hA (fun H locs hP hD hS => ?_)
                replace hP : va_P D vwCl (wC a k z44) H := hP
                replace hD : va_D A (wC a k z44) := hD
                refine lv_goto (pc := 171) (tgt := 243) hx hb dX2_workOutPart_171 (by decide) ?_
                obtain rfl := ez_r1 h
                exact ez_retV C0 hP hD hK hS dX2_workOutPart_243
              · replace h := ez_if c35 h
                by_cases c46 : z21 = 3
                · replace h := ez_it c46 h
                  refine lv_tableIn (pc := 66) (tgt := 174) (off := 108) hx hb dX2_workOutPart_66 (by rw [c46]; decide) (by rw [c46]; decide) (by rw [c46]; rfl) (by decide) ?_
                  refine lv_aload_n (pc := 174) hx hb dX2_workOutPart_174 rfl (lv_at hl 2 rfl) ?_
                  refine lv_iload_n (pc := 175) hx hb dX2_workOutPart_175 rfl (lv_at hl 4 rfl) ?_
                  refine lv_aload_n (pc := 176) hx hb dX2_workOutPart_176 rfl (lv_at hl 2 rfl) ?_
                  refine lv_iload_n (pc := 177) hx hb dX2_workOutPart_177 rfl (lv_at hl 1 rfl) ?_
                  replace h := ez_bd h
                  obtain ⟨z47, e48, h⟩ := h
                  refine ez_croL (r := z47) (pc := 178) (va_runV (g := F0 m 178 ls [.int z1, .ref (a 4), .int x2, .ref (a 4)]) (As := [.int z1]) (rest := [.int x2, .ref (a 4)]) ⟨hx, hb, hml, hown, hw⟩ (kX2_lowOf l D a k n z1 w z47 e48) (cwV 1 hw (ez_gV mw322 mw323 mw324 mw3 mw325) rfl rfl rfl (by decide +kernel) ⟨Nat.le_of_ble_eq_true rfl, Nat.le_of_ble_eq_true rfl⟩) (ez_preRV (wr := []) (wl := (wC a k w)) hP hK hN 4 rfl rfl) rfl rfl hl.1 rfl (lv_room (Nat.le_of_ble_eq_true rfl)) dX2_workOutPart_178 ⟨Nat.le_refl _, Nat.le_refl _⟩) ?_
                  refine lv_aload_n (pc := 181) hx hb dX2_workOutPart_181 rfl (lv_at hl 2 rfl) ?_
                  refine lv_iload (pc := 182) hx hb dX2_workOutPart_182 (lv_at hl 0 rfl) ?_
                  replace h := ez_bd h
                  obtain ⟨z49, e50, h⟩ := h
                  refine ez_croL (r := z49) (pc := 184) (va_runV (g := F0 m 184 ls [.int z3, .ref (a 4), .long z47, .int x2, .ref (a 4)]) (As := [.int z3]) (rest := [.long z47, .int x2, .ref (a 4)]) ⟨hx, hb, hml, hown, hw⟩ (kX2_highOf l D a k n z3 w z49 e50) (cwV 1 hw (ez_gV mw318 mw319 mw320 mw3 mw321) rfl rfl rfl (by decide +kernel) ⟨Nat.le_of_ble_eq_true rfl, Nat.le_of_ble_eq_true rfl⟩) (ez_preRV (wr := []) (wl := (wC a k w)) hP hK hN 4 rfl rfl) rfl rfl hl.1 rfl (lv_room (Nat.le_of_ble_eq_true rfl)) dX2_workOutPart_184 ⟨Nat.le_refl _, Nat.le_refl _⟩) ?_
                  refine lv_lsub (pc := 187) hx hb dX2_workOutPart_187 ?_
                  refine lv_aload_n (pc := 188) hx hb dX2_workOutPart_188 rfl (lv_at hl 2 rfl) ?_
                  refine lv_iload_n (pc := 189) hx hb dX2_workOutPart_189 rfl (lv_at hl 1 rfl) ?_
                  replace h := ez_bd h
                  obtain ⟨z51, e52, h⟩ := h
                  refine ez_croL (r := z51) (pc := 190) (va_runV (g := F0 m 190 ls [.int z1, .ref (a 4), .long (z47 - z49), .int x2, .ref (a 4)]) (As := [.int z1]) (rest := [.long (z47 - z49), .int x2, .ref (a 4)]) ⟨hx, hb, hml, hown, hw⟩ (kX2_highOf l D a k n z1 w z51 e52) (cwV 1 hw (ez_gV mw318 mw319 mw320 mw3 mw321) rfl rfl rfl (by decide +kernel) ⟨Nat.le_of_ble_eq_true rfl, Nat.le_of_ble_eq_true rfl⟩) (ez_preRV (wr := []) (wl := (wC a k w)) hP hK hN 4 rfl rfl) rfl rfl hl.1 rfl (lv_room (Nat.le_of_ble_eq_true rfl)) dX2_workOutPart_190 ⟨Nat.le_refl _, Nat.le_refl _⟩) ?_
                  refine lv_aload_n (pc := 193) hx hb dX2_workOutPart_193 rfl (lv_at hl 2 rfl) ?_
                  refine lv_iload (pc := 194) hx hb dX2_workOutPart_194 (lv_at hl 0 rfl) ?_
                  replace h := ez_bd h
                  obtain ⟨z53, e54, h⟩ := h
                  refine ez_croL (r := z53) (pc := 196) (va_runV (g := F0 m 196 ls [.int z3, .ref (a 4), .long z51, .long (z47 - z49), .int x2, .ref (a 4)]) (As := [.int z3]) (rest := [.long z51, .long (z47 - z49), .int x2, .ref (a 4)]) ⟨hx, hb, hml, hown, hw⟩ (kX2_lowOf l D a k n z3 w z53 e54) (cwV 1 hw (ez_gV mw322 mw323 mw324 mw3 mw325) rfl rfl rfl (by decide +kernel) ⟨Nat.le_of_ble_eq_true rfl, Nat.le_of_ble_eq_true rfl⟩) (ez_preRV (wr := []) (wl := (wC a k w)) hP hK hN 4 rfl rfl) rfl rfl hl.1 rfl (lv_room (Nat.le_of_ble_eq_true rfl)) dX2_workOutPart_196 ⟨Nat.le_refl _, Nat.le_refl _⟩) ?_
                  refine lv_lsub (pc := 199) hx hb dX2_workOutPart_199 ?_
                  replace h := ez_bd h
                  obtain ⟨z55, e56, h⟩ := h
                  refine ez_callV (pc := 200) (wr := []) (wl := (wC a k w)) (wl' := (wC a k z55)) (va_runV (g := F0 m 200 ls [.long (z51 - z53), .long (z47 - z49), .int x2, .ref (a 4)]) (As := [.int x2, .long (z47 - z49), .long (z51 - z53)]) (rest := []) ⟨hx, hb, hml, hown, hw⟩ (kX2_setSpan l D a k n x2 (z47 - z49) (z51 - z53) w z55 e56 H.size) (cwV 3 hw (ez_gV mw313 mw315 mp20 mw3 mw316) rfl rfl rfl (by decide +kernel) ⟨Nat.le_of_ble_eq_true rfl, Nat.le_of_ble_eq_true rfl⟩) (ez_preV (wr := []) (wl := (wC a k w)) hP hD hK hN 4 rfl rfl) rfl rfl hl.1 rfl (lv_room (Nat.le_of_ble_eq_true rfl)) dX2_workOutPart_200 ⟨Nat.le_refl _, Nat.le_refl _⟩) hP hD hS hA (fun H locs hP hD hS => ?_)
                  replace hP : va_P D vwCl (wC a k z55) H := hP
                  replace hD : va_D A (wC a k z55) := hD
                  refine lv_goto (pc := 203) (tgt := 243) hx hb dX2_workOutPart_203 (by decide) ?_
                  obtain rfl := ez_r1 h
                  exact ez_retV C0 hP hD hK hS dX2_workOutPart_243
                · replace h := ez_if c46 h
                  by_cases c57 : z21 = 4
                  · replace h := ez_it c57 h
                    refine lv_tableIn (pc := 66) (tgt := 206) (off := 140) hx hb dX2_workOutPart_66 (by rw [c57]; decide) (by rw [c57]; decide) (by rw [c57]; rfl) (by decide) ?_
                    refine lv_aload_n (pc := 206) hx hb dX2_workOutPart_206 rfl (lv_at hl 2 rfl) ?_
                    refine lv_iload_n (pc := 207) hx hb dX2_workOutPart_207 rfl (lv_at hl 4 rfl) ?_
                    refine lv_iload_n (pc := 208) hx hb dX2_workOutPart_208 rfl (lv_at hl 1 rfl) ?_
                    refine lv_iload (pc := 209) hx hb dX2_workOutPart_209 (lv_at hl 0 rfl) ?_
                    replace h := ez_bd h
                    obtain ⟨z58, e59, h⟩ := h
                    refine ez_callV (pc := 211) (wr := []) (wl := (wC a k w)) (wl' := (wC a k z58)) (va_runV (g := F0 m 211 ls [.int z3, .int z1, .int x2, .ref (a 4)]) (As := [.int x2, .int z1, .int z3]) (rest := []) ⟨hx, hb, hml, hown, hw⟩ (kX2_multiply l D a k n x2 z1 z3 w z58 e59 H.size) (cwV 3 hw (ez_gV mw326 mw328 mp21 mw3 mw329) rfl rfl rfl (by decide +kernel) ⟨Nat.le_of_ble_eq_true rfl, Nat.le_of_ble_eq_true rfl⟩) (ez_preV (wr := []) (wl := (wC a k w)) hP hD hK hN 4 rfl rfl) rfl rfl hl.1 rfl (lv_room (Nat.le_of_ble_eq_true rfl)) dX2_workOutPart_211 ⟨Nat.le_refl _, Nat.le_refl _⟩) hP hD hS hA (fun H locs hP hD hS => ?_)
                    replace hP : va_P D vwCl (wC a k z58) H := hP
                    replace hD : va_D A (wC a k z58) := hD
                    refine lv_goto (pc := 214) (tgt := 243) hx hb dX2_workOutPart_214 (by decide) ?_
                    obtain rfl := ez_r1 h
                    exact ez_retV C0 hP hD hK hS dX2_workOutPart_243
                  · replace h := ez_if c57 h
                    by_cases c60 : z21 = 5
                    · replace h := ez_it c60 h
                      refine lv_tableIn (pc := 66) (tgt := 217) (off := 151) hx hb dX2_workOutPart_66 (by rw [c60]; decide) (by rw [c60]; decide) (by rw [c60]; rfl) (by decide) ?_
                      refine lv_aload_n (pc := 217) hx hb dX2_workOutPart_217 rfl (lv_at hl 2 rfl) ?_
                      refine lv_iload_n (pc := 218) hx hb dX2_workOutPart_218 rfl (lv_at hl 4 rfl) ?_
                      refine lv_iload_n (pc := 219) hx hb dX2_workOutPart_219 rfl (lv_at hl 1 rfl) ?_
                      refine lv_iload (pc := 220) hx hb dX2_workOutPart_220 (lv_at hl 0 rfl) ?_
                      replace h := ez_bd h
                      obtain ⟨z61, e62, h⟩ := h
                      refine ez_callV (pc := 222) (wr := []) (wl := (wC a k w)) (wl' := (wC a k z61)) (va_runV (g := F0 m 222 ls [.int z3, .int z1, .int x2, .ref (a 4)]) (As := [.int x2, .int z1, .int z3]) (rest := []) ⟨hx, hb, hml, hown, hw⟩ (kX2_divide l D a k n x2 z1 z3 w z61 e62 H.size) (cwV 3 hw (ez_gV mw340 mw342 mp23 mw3 mw343) rfl rfl rfl (by decide +kernel) ⟨Nat.le_of_ble_eq_true rfl, Nat.le_of_ble_eq_true rfl⟩) (ez_preV (wr := []) (wl := (wC a k w)) hP hD hK hN 4 rfl rfl) rfl rfl hl.1 rfl (lv_room (Nat.le_of_ble_eq_true rfl)) dX2_workOutPart_222 ⟨Nat.le_refl _, Nat.le_refl _⟩) hP hD hS hA (fun H locs hP hD hS => ?_)
                      replace hP : va_P D vwCl (wC a k z61) H := hP
                      replace hD : va_D A (wC a k z61) := hD
                      refine lv_goto (pc := 225) (tgt := 243) hx hb dX2_workOutPart_225 (by decide) ?_
                      obtain rfl := ez_r1 h
                      exact ez_retV C0 hP hD hK hS dX2_workOutPart_243
                    · replace h := ez_if c60 h
                      by_cases c63 : z21 = 6
                      · replace h := ez_it c63 h
                        refine lv_tableIn (pc := 66) (tgt := 228) (off := 162) hx hb dX2_workOutPart_66 (by rw [c63]; decide) (by rw [c63]; decide) (by rw [c63]; rfl) (by decide) ?_
                        refine lv_aload_n (pc := 228) hx hb dX2_workOutPart_228 rfl (lv_at hl 2 rfl) ?_
                        refine lv_iload_n (pc := 229) hx hb dX2_workOutPart_229 rfl (lv_at hl 4 rfl) ?_
                        refine lv_iload_n (pc := 230) hx hb dX2_workOutPart_230 rfl (lv_at hl 1 rfl) ?_
                        replace h := ez_bd h
                        obtain ⟨z64, e65, h⟩ := h
                        refine ez_callV (pc := 231) (wr := []) (wl := (wC a k w)) (wl' := (wC a k z64)) (va_runV (g := F0 m 231 ls [.int z1, .int x2, .ref (a 4)]) (As := [.int x2, .int z1]) (rest := []) ⟨hx, hb, hml, hown, hw⟩ (kX2_square l D a k n x2 z1 w z64 e65 H.size) (cwV 2 hw (ez_gV mw359 mw361 mp27 mw3 mw362) rfl rfl rfl (by decide +kernel) ⟨Nat.le_of_ble_eq_true rfl, Nat.le_of_ble_eq_true rfl⟩) (ez_preV (wr := []) (wl := (wC a k w)) hP hD hK hN 4 rfl rfl) rfl rfl hl.1 rfl (lv_room (Nat.le_of_ble_eq_true rfl)) dX2_workOutPart_231 ⟨Nat.le_refl _, Nat.le_refl _⟩) hP hD hS hA (fun H locs hP hD hS => ?_)
                        replace hP : va_P D vwCl (wC a k z64) H := hP
                        replace hD : va_D A (wC a k z64) := hD
                        refine lv_goto (pc := 234) (tgt := 243) hx hb dX2_workOutPart_234 (by decide) ?_
                        obtain rfl := ez_r1 h
                        exact ez_retV C0 hP hD hK hS dX2_workOutPart_243
                      · replace h := ez_if c63 h
                        refine lv_tableOut (pc := 66) (tgt := 237) hx hb dX2_workOutPart_66 (by have := lv_neT (a := 0) c23 rfl; have := lv_neT (a := 1) c28 rfl; have := lv_neT (a := 2) c35 rfl; have := lv_neT (a := 3) c46 rfl; have := lv_neT (a := 4) c57 rfl; have := lv_neT (a := 5) c60 rfl; have := lv_neT (a := 6) c63 rfl; omega) (by decide) ?_
                        refine lv_aload_n (pc := 237) hx hb dX2_workOutPart_237 rfl (lv_at hl 2 rfl) ?_
                        refine lv_iload_n (pc := 238) hx hb dX2_workOutPart_238 rfl (lv_at hl 4 rfl) ?_
                        refine lv_iload_n (pc := 239) hx hb dX2_workOutPart_239 rfl (lv_at hl 1 rfl) ?_
                        replace h := ez_bd h
                        obtain ⟨z66, e67, h⟩ := h
                        refine ez_callV (pc := 240) (wr := []) (wl := (wC a k w)) (wl' := (wC a k z66)) (va_runV (g := F0 m 240 ls [.int z1, .int x2, .ref (a 4)]) (As := [.int x2, .int z1]) (rest := []) ⟨hx, hb, hml, hown, hw⟩ (kX2_takeRoot l D a k n x2 z1 w z66 e67 H.size) (cwV 2 hw (ez_gV mw363 mw365 mp28 mw3 mw366) rfl rfl rfl (by decide +kernel) ⟨Nat.le_of_ble_eq_true rfl, Nat.le_of_ble_eq_true rfl⟩) (ez_preV (wr := []) (wl := (wC a k w)) hP hD hK hN 4 rfl rfl) rfl rfl hl.1 rfl (lv_room (Nat.le_of_ble_eq_true rfl)) dX2_workOutPart_240 ⟨Nat.le_refl _, Nat.le_refl _⟩) hP hD hS hA (fun H locs hP hD hS => ?_)
                        replace hP : va_P D vwCl (wC a k z66) H := hP
                        replace hD : va_D A (wC a k z66) := hD
                        obtain rfl := ez_r1 h
                        exact ez_retV C0 hP hD hK hS dX2_workOutPart_243
        · replace h := ez_if c20 h
          refine lv_aload_n (pc := 54) hx hb dX2_workOutPart_54 rfl (lv_at hl 2 rfl) ?_
          refine lv_iload_n (pc := 55) hx hb dX2_workOutPart_55 rfl (lv_at hl 4 rfl) ?_
          refine lv_iconst (v := 2) (pc := 56) hx hb dX2_workOutPart_56 rfl ?_
          replace h := ez_bd h
          obtain ⟨z68, e69, h⟩ := h
          refine ez_callV (pc := 57) (wr := []) (wl := (wC a k w)) (wl' := (wC a k z68)) (va_runV (g := F0 m 57 ls [.int 2, .int x2, .ref (a 4)]) (As := [.int x2, .int 2]) (rest := []) ⟨hx, hb, hml, hown, hw⟩ (kX2_setState l D a k n x2 2 w z68 e69 H.size) (cwV 2 hw (ez_gV mw293 mw295 mp17 mw3 mw296) rfl rfl rfl (by decide +kernel) ⟨Nat.le_of_ble_eq_true rfl, Nat.le_of_ble_eq_true rfl⟩) (ez_preV (wr := []) (wl := (wC a k w)) hP hD hK hN 4 rfl rfl) rfl rfl hl.1 rfl (lv_room (Nat.le_of_ble_eq_true rfl)) dX2_workOutPart_57 ⟨Nat.le_refl _, Nat.le_refl _⟩) hP hD hS hA (fun H locs hP hD hS => ?_)
          replace hP : va_P D vwCl (wC a k z68) H := hP
          replace hD : va_D A (wC a k z68) := hD
          obtain rfl := ez_r1 h
          exact ez_retV C0 hP hD hK hS dX2_workOutPart_60
    · replace h := ez_if c12 h
      refine lv_aload_n (pc := 30) hx hb dX2_workOutPart_30 rfl (lv_at hl 2 rfl) ?_
      refine lv_iload_n (pc := 31) hx hb dX2_workOutPart_31 rfl (lv_at hl 4 rfl) ?_
      refine lv_iconst (v := 1) (pc := 32) hx hb dX2_workOutPart_32 rfl ?_
      replace h := ez_bd h
      obtain ⟨z70, e71, h⟩ := h
      refine ez_callV (pc := 33) (wr := []) (wl := (wC a k w)) (wl' := (wC a k z70)) (va_runV (g := F0 m 33 ls [.int 1, .int x2, .ref (a 4)]) (As := [.int x2, .int 1]) (rest := []) ⟨hx, hb, hml, hown, hw⟩ (kX2_setState l D a k n x2 1 w z70 e71 H.size) (cwV 2 hw (ez_gV mw293 mw295 mp17 mw3 mw296) rfl rfl rfl (by decide +kernel) ⟨Nat.le_of_ble_eq_true rfl, Nat.le_of_ble_eq_true rfl⟩) (ez_preV (wr := []) (wl := (wC a k w)) hP hD hK hN 4 rfl rfl) rfl rfl hl.1 rfl (lv_room (Nat.le_of_ble_eq_true rfl)) dX2_workOutPart_33 ⟨Nat.le_refl _, Nat.le_refl _⟩) hP hD hS hA (fun H locs hP hD hS => ?_)
      replace hP : va_P D vwCl (wC a k z70) H := hP
      replace hD : va_D A (wC a k z70) := hD
      obtain rfl := ez_r1 h
      exact ez_retV C0 hP hD hK hS dX2_workOutPart_36
set_option maxRecDepth 100000 in
theorem kX2_workOutPart (l : Launch) (D : va_G) (a : Nat → Nat) (k : Nat → ClassId) (n : Nat) (x2 : Int32) (w : Wd) (z : Wd) (h : fX2_workOutPart n x2 w = some z) (sz : Nat) : Met l yX2_workOutPart wsX2_workOutPart ({ frames := 4, cells := 0, slots := 0, locals := 107 } : Room) (ez_Pc D (tC k) [.ref (a 4), .ref (a 2), .int x2] (wC a k w) sz) (ez_Qv D (tC k) (va_A (wC a k w) sz) (wC a k z)) 0 0 (va_A (wC a k w) sz) :=
  ez_mk (Qf := fun A => (ez_Qv D (tC k) A (wC a k z))) (by decide) rfl (Nat.le_of_ble_eq_true rfl) (fun p e s m below meth c A ls C0 _ hl hP hD hK => tX2_workOutPart_0 C0 hK n s.heap [] ls x2 w (lv_sub (l := [(0, .ref (a 4)), (1, .ref (a 2)), (2, .int x2)]) hl [0, 1, 2] rfl) hP hD va_S.rf h) sz
/-! EnclosureCalculator$Spans workOut -/
theorem dX2_workOut_0 : decode cX2_workOut 0 = .ok (.aload_n 0, 1) := by decide +kernel
theorem dX2_workOut_1 : decode cX2_workOut 1 = .ok (.iload_n 2, 1) := by decide +kernel
theorem dX2_workOut_2 : decode cX2_workOut 2 = .ok (.putfield 41, 3) := by decide +kernel
theorem dX2_workOut_5 : decode cX2_workOut 5 = .ok (.iconst 0, 1) := by decide +kernel
theorem dX2_workOut_6 : decode cX2_workOut 6 = .ok (.istore_n 3, 1) := by decide +kernel
theorem dX2_workOut_7 : decode cX2_workOut 7 = .ok (.iload_n 3, 1) := by decide +kernel
theorem dX2_workOut_8 : decode cX2_workOut 8 = .ok (.bipush 80, 2) := by decide +kernel
theorem dX2_workOut_10 : decode cX2_workOut 10 = .ok (.if_icmp .ge 24, 3) := by decide +kernel
theorem dX2_workOut_13 : decode cX2_workOut 13 = .ok (.aload_n 0, 1) := by decide +kernel
theorem dX2_workOut_14 : decode cX2_workOut 14 = .ok (.getfield 9, 3) := by decide +kernel
theorem dX2_workOut_17 : decode cX2_workOut 17 = .ok (.iload_n 3, 1) := by decide +kernel
theorem dX2_workOut_18 : decode cX2_workOut 18 = .ok (.baload, 1) := by decide +kernel
theorem dX2_workOut_19 : decode cX2_workOut 19 = .ok (.ifCond .eq 9, 3) := by decide +kernel
theorem dX2_workOut_22 : decode cX2_workOut 22 = .ok (.aload_n 0, 1) := by decide +kernel
theorem dX2_workOut_23 : decode cX2_workOut 23 = .ok (.aload_n 1, 1) := by decide +kernel
theorem dX2_workOut_24 : decode cX2_workOut 24 = .ok (.iload_n 3, 1) := by decide +kernel
theorem dX2_workOut_25 : decode cX2_workOut 25 = .ok (.invokevirtual 45, 3) := by decide +kernel
theorem dX2_workOut_28 : decode cX2_workOut 28 = .ok (.iinc 3 1, 3) := by decide +kernel
theorem dX2_workOut_31 : decode cX2_workOut 31 = .ok (.goto (-24), 3) := by decide +kernel
theorem dX2_workOut_34 : decode cX2_workOut 34 = .ok (.return_, 1) := by decide +kernel
def fX2_workOut_7 : Nat → Int32 → Wd → Option (Wd)
  | 0, _, _ => none
  | n + 1, x3, w =>
    if 80 ≤ x3 then
      some w
    else
      (ez_ldI w 9 80 x3).bind fun y3 =>
      if y3 = 0 then
        fX2_workOut_7 n (x3 + 1) w
      else
        (fX2_workOutPart n x3 w).bind fun z5 =>
        fX2_workOut_7 n (x3 + 1) z5
def fX2_workOut (n : Nat) (x2 : Int32) (w : Wd) : Option (Wd) :=
    (ez_fI w 4 x2).bind fun w2 =>
    fX2_workOut_7 n 0 w2
set_option maxHeartbeats 4000000 in
set_option maxRecDepth 100000 in
theorem tX2_workOut_7 {p : Program} {l : Launch} {e : Env} {s : State} {m : MethodId} {args : Array Value} {below : List Frame} {meth : Method} {c : Code} {A : Nat → Prop} {D : va_G} {a : Nat → Nat} {k : Nat → ClassId} {z : Wd} (C0 : ez_C p s m args meth c cX2_workOut none 4 RX2 A) (hK : va_K D vwCl (tC k) s) : ∀ (n : Nat) (H : Heap) (locs : List Loc) (ls : Array Slot) (x3 : Int32) (w : Wd), lv_has ls 4 [(0, .ref (a 4)), (1, .ref (a 2)), (3, .int x3)] → va_P D vwCl (wC a k w) H → va_D A (wC a k w) → va_S A s.heap H locs → fX2_workOut_7 n x3 w = some z → W p l e ({ frames := 5, cells := 0, slots := 0, locals := 131 } : Room) s m args below meth c H locs 0 0 (MQ below (ez_Qv D (tC k) A (wC a k z)) args s 0 0 A) (F0 m 7 ls []) := by
  intro n
  induction n with
  | zero =>
    intro H locs ls x3 w hl hP hD hS h
    rw [fX2_workOut_7] at h
    cases h
  | succ n ih =>
    intro H locs ls x3 w hl hP hD hS h
    rw [fX2_workOut_7] at h
    have C1 := C0
    obtain ⟨hx, hb, hr, hml, hown, hw, hlk, hA, hN⟩ := C1
    refine lv_iload_n (pc := 7) hx hb dX2_workOut_7 rfl (lv_at hl 2 rfl) ?_
    refine lv_bipush (v := 80) (pc := 8) hx hb dX2_workOut_8 rfl ?_
    refine lv_icmp_ge (pc := 10) (tgt := 34) hx hb dX2_workOut_10 (by decide) (fun c1 => ?_) (fun c1 => ?_)
    · replace h := ez_it c1 h
      obtain rfl := ez_r1 h
      exact ez_retV C0 hP hD hK hS dX2_workOut_34
    · replace h := ez_if c1 h
      refine lv_aload_n (pc := 13) hx hb dX2_workOut_13 rfl (lv_at hl 0 rfl) ?_
      refine va_get (D := D) (pc := 14) hx hb hw inX2 hown hK hP 4 rfl rfl 0 (by decide) (hw _ mw45) (fun _ h9 => h9) rfl dX2_workOut_14 ?_
      refine lv_iload_n (pc := 17) hx hb dX2_workOut_17 rfl (lv_at hl 2 rfl) ?_
      replace h := ez_bd h
      obtain ⟨y3, e2, h⟩ := h
      obtain ⟨e2i, e2⟩ := ez_ldIs e2
      refine va_zald (D := D) (pc := 18) hx hb hK hP 9 6 rfl rfl e2i dX2_workOut_18 ?_
      refine lv_topi (fun y9 hy9 => ?_)
      obtain rfl : y3 = y9 := e2.trans hy9.symm
      refine lv_if_eq (pc := 19) (tgt := 28) hx hb dX2_workOut_19 (by decide) (fun c4 => ?_) (fun c4 => ?_)
      · replace h := ez_it c4 h
        refine lv_iinc (v := (x3 + 1)) (k := 2) (pc := 28) hx hb dX2_workOut_28 hl rfl rfl (by decide) rfl (fun ls hl => ?_)
        replace hl : lv_has ls 4 [(3, .int (x3 + 1)), (0, .ref (a 4)), (1, .ref (a 2))] := hl
        refine lv_goto (pc := 31) (tgt := 7) hx hb dX2_workOut_31 (by decide) ?_
        exact ih _ _ _ (x3 + 1) w (lv_sub hl [1, 2, 0] rfl) hP hD hS h
      · replace h := ez_if c4 h
        refine lv_aload_n (pc := 22) hx hb dX2_workOut_22 rfl (lv_at hl 0 rfl) ?_
        refine lv_aload_n (pc := 23) hx hb dX2_workOut_23 rfl (lv_at hl 1 rfl) ?_
        refine lv_iload_n (pc := 24) hx hb dX2_workOut_24 rfl (lv_at hl 2 rfl) ?_
        replace h := ez_bd h
        obtain ⟨z5, e6, h⟩ := h
        refine ez_callV (pc := 25) (wr := []) (wl := (wC a k w)) (wl' := (wC a k z5)) (va_runV (g := F0 m 25 ls [.int x3, .ref (a 2), .ref (a 4)]) (As := [.ref (a 2), .int x3]) (rest := []) ⟨hx, hb, hml, hown, hw⟩ (kX2_workOutPart l D a k n x3 w z5 e6 H.size) (cwV 2 hw (ez_gV mw285 mw287 mp16 mw3 mw288) rfl rfl rfl (by decide +kernel) ⟨Nat.le_of_ble_eq_true rfl, Nat.le_of_ble_eq_true rfl⟩) (ez_preV (wr := []) (wl := (wC a k w)) hP hD hK hN 4 rfl rfl) rfl rfl hl.1 rfl (lv_room (Nat.le_of_ble_eq_true rfl)) dX2_workOut_25 ⟨Nat.le_refl _, Nat.le_refl _⟩) hP hD hS hA (fun H locs hP hD hS => ?_)
        replace hP : va_P D vwCl (wC a k z5) H := hP
        replace hD : va_D A (wC a k z5) := hD
        refine lv_iinc (v := (x3 + 1)) (k := 2) (pc := 28) hx hb dX2_workOut_28 hl rfl rfl (by decide) rfl (fun ls hl => ?_)
        replace hl : lv_has ls 4 [(3, .int (x3 + 1)), (0, .ref (a 4)), (1, .ref (a 2))] := hl
        refine lv_goto (pc := 31) (tgt := 7) hx hb dX2_workOut_31 (by decide) ?_
        exact ih _ _ _ (x3 + 1) z5 (lv_sub hl [1, 2, 0] rfl) hP hD hS h
set_option maxHeartbeats 4000000 in
set_option maxRecDepth 100000 in
theorem tX2_workOut_0 {p : Program} {l : Launch} {e : Env} {s : State} {m : MethodId} {args : Array Value} {below : List Frame} {meth : Method} {c : Code} {A : Nat → Prop} {D : va_G} {a : Nat → Nat} {k : Nat → ClassId} {z : Wd} (C0 : ez_C p s m args meth c cX2_workOut none 4 RX2 A) (hK : va_K D vwCl (tC k) s) : ∀ (n : Nat) (H : Heap) (locs : List Loc) (ls : Array Slot) (x2 : Int32) (w : Wd), lv_has ls 4 [(0, .ref (a 4)), (1, .ref (a 2)), (2, .int x2)] → va_P D vwCl (wC a k w) H → va_D A (wC a k w) → va_S A s.heap H locs → fX2_workOut n x2 w = some z → W p l e ({ frames := 5, cells := 0, slots := 0, locals := 131 } : Room) s m args below meth c H locs 0 0 (MQ below (ez_Qv D (tC k) A (wC a k z)) args s 0 0 A) (F0 m 0 ls []) := by
  intro n
  intro H locs ls x2 w hl hP hD hS h
  rw [fX2_workOut] at h
  have C1 := C0
  obtain ⟨hx, hb, hr, hml, hown, hw, hlk, hA, hN⟩ := C1
  refine lv_aload_n (pc := 0) hx hb dX2_workOut_0 rfl (lv_at hl 0 rfl) ?_
  refine lv_iload_n (pc := 1) hx hb dX2_workOut_1 rfl (lv_at hl 2 rfl) ?_
  replace h := ez_bd h
  obtain ⟨w2, e1, h⟩ := h
  refine va_put (D := D) (v := .int x2) (ty := .int) (pc := 2) hx hb hw inX2 tyX2 tyX2_ok nmX2 hown hK hP hD hS 4 rfl rfl 4 (by decide) (hw _ mw49) (fun _ h9 => h9) rfl (by decide +kernel) rfl rfl (Nat.le_of_ble_eq_true rfl) dX2_workOut_2 (fun H locs hP hD hS => ?_)
  replace hP : va_P D vwCl (wC a k w2) H := by rw [(ez_fIs e1)]; exact hP
  replace hD : va_D A (wC a k w2) := by rw [(ez_fIs e1)]; exact hD
  refine lv_iconst (v := 0) (pc := 5) hx hb dX2_workOut_5 rfl ?_
  refine lv_istore_n (pc := 6) hx hb dX2_workOut_6 rfl hl (by decide) rfl (fun ls hl => ?_)
  replace hl : lv_has ls 4 [(3, .int 0), (0, .ref (a 4)), (1, .ref (a 2)), (2, .int x2)] := hl
  exact tX2_workOut_7 C0 hK  n _ _ _ 0 w2 (lv_sub hl [1, 2, 0] rfl) hP hD hS h
set_option maxRecDepth 100000 in
theorem kX2_workOut (l : Launch) (D : va_G) (a : Nat → Nat) (k : Nat → ClassId) (n : Nat) (x2 : Int32) (w : Wd) (z : Wd) (h : fX2_workOut n x2 w = some z) (sz : Nat) : Met l yX2_workOut wsX2_workOut ({ frames := 5, cells := 0, slots := 0, locals := 131 } : Room) (ez_Pc D (tC k) [.ref (a 4), .ref (a 2), .int x2] (wC a k w) sz) (ez_Qv D (tC k) (va_A (wC a k w) sz) (wC a k z)) 0 0 (va_A (wC a k w) sz) :=
  ez_mk (Qf := fun A => (ez_Qv D (tC k) A (wC a k z))) (by decide) rfl (Nat.le_of_ble_eq_true rfl) (fun p e s m below meth c A ls C0 _ hl hP hD hK => tX2_workOut_0 C0 hK n s.heap [] ls x2 w (lv_sub (l := [(0, .ref (a 4)), (1, .ref (a 2)), (2, .int x2)]) hl [0, 1, 2] rfl) hP hD va_S.rf h) sz
/-! EnclosureCalculator$Spans hasSpan -/
theorem dX2_hasSpan_0 : decode cX2_hasSpan 0 = .ok (.iload_n 1, 1) := by decide +kernel
theorem dX2_hasSpan_1 : decode cX2_hasSpan 1 = .ok (.invokestatic 37, 3) := by decide +kernel
theorem dX2_hasSpan_4 : decode cX2_hasSpan 4 = .ok (.ifCond .eq 16, 3) := by decide +kernel
theorem dX2_hasSpan_7 : decode cX2_hasSpan 7 = .ok (.aload_n 0, 1) := by decide +kernel
theorem dX2_hasSpan_8 : decode cX2_hasSpan 8 = .ok (.getfield 15, 3) := by decide +kernel
theorem dX2_hasSpan_11 : decode cX2_hasSpan 11 = .ok (.iload_n 1, 1) := by decide +kernel
theorem dX2_hasSpan_12 : decode cX2_hasSpan 12 = .ok (.iaload, 1) := by decide +kernel
theorem dX2_hasSpan_13 : decode cX2_hasSpan 13 = .ok (.ifCond .ne 7, 3) := by decide +kernel
theorem dX2_hasSpan_16 : decode cX2_hasSpan 16 = .ok (.iconst 1, 1) := by decide +kernel
theorem dX2_hasSpan_17 : decode cX2_hasSpan 17 = .ok (.goto 4, 3) := by decide +kernel
theorem dX2_hasSpan_20 : decode cX2_hasSpan 20 = .ok (.iconst 0, 1) := by decide +kernel
theorem dX2_hasSpan_21 : decode cX2_hasSpan 21 = .ok (.ireturn, 1) := by decide +kernel
def fX2_hasSpan (n : Nat) (x1 : Int32) (w : Wd) : Option (Int32) :=
    (fX0_has n x1).bind fun z1 =>
    if z1 = 0 then
      some 0
    else
      (ez_ldI w 10 80 x1).bind fun y5 =>
      if y5 = 0 then
        some 1
      else
        some 0
set_option maxHeartbeats 4000000 in
set_option maxRecDepth 100000 in
theorem tX2_hasSpan_0 {p : Program} {l : Launch} {e : Env} {s : State} {m : MethodId} {args : Array Value} {below : List Frame} {meth : Method} {c : Code} {D : va_G} {a : Nat → Nat} {k : Nat → ClassId} {z : Int32} {w : Wd} (C0 : ez_C p s m args meth c cX2_hasSpan (some .boolean) 2 RX2 (fun _ => True)) (hK : va_K D vwCl (tC k) s) (hP : va_P D vwCl (wC a k w) s.heap) : ∀ (n : Nat) (ls : Array Slot) (x1 : Int32), lv_has ls 2 [(0, .ref (a 4)), (1, .int x1)] → fX2_hasSpan n x1 w = some z → W p l e ({ frames := 1, cells := 0, slots := 0, locals := 20 } : Room) s m args below meth c s.heap [] 0 0 (MQ below (ez_Ri z) args s 0 0 (fun _ => False)) (F0 m 0 ls []) := by
  intro n
  intro ls x1 hl h
  rw [fX2_hasSpan] at h
  have C1 := C0
  obtain ⟨hx, hb, hr, hml, hown, hw, hlk, hA, hN⟩ := C1
  refine lv_iload_n (pc := 0) hx hb dX2_hasSpan_0 rfl (lv_at hl 1 rfl) ?_
  replace h := ez_bd h
  obtain ⟨z1, e2, h⟩ := h
  refine ez_croI (r := z1) (pc := 1) (va_runS (g := F0 m 1 ls [.int x1]) (As := [.int x1]) (rest := []) ⟨hx, hb, hml, hown, hw⟩ (kX0_has l n x1 z1 e2) (va_cwS 1 hw (ez_gS mw262 mw256 mw2 mw257) rfl rfl rfl (by decide +kernel) ⟨Nat.le_of_ble_eq_true rfl, Nat.le_of_ble_eq_true rfl⟩) (ez_preRS hN) rfl rfl hl.1 rfl (lv_room (Nat.le_of_ble_eq_true rfl)) dX2_hasSpan_1 ⟨Nat.le_refl _, Nat.le_refl _⟩) ?_
  refine lv_if_eq (pc := 4) (tgt := 20) hx hb dX2_hasSpan_4 (by decide) (fun c3 => ?_) (fun c3 => ?_)
  · replace h := ez_it c3 h
    refine lv_iconst (v := 0) (pc := 20) hx hb dX2_hasSpan_20 rfl ?_
    obtain rfl := ez_r1 h
    exact ez_rroZ C0 (rfl) dX2_hasSpan_21
  · replace h := ez_if c3 h
    refine lv_aload_n (pc := 7) hx hb dX2_hasSpan_7 rfl (lv_at hl 0 rfl) ?_
    refine va_get (D := D) (pc := 8) hx hb hw inX2 hown hK hP 4 rfl rfl 1 (by decide) (hw _ mw46) (fun _ h9 => h9) rfl dX2_hasSpan_8 ?_
    refine lv_iload_n (pc := 11) hx hb dX2_hasSpan_11 rfl (lv_at hl 1 rfl) ?_
    replace h := ez_bd h
    obtain ⟨y5, e4, h⟩ := h
    obtain ⟨e4i, e4⟩ := ez_ldIs e4
    refine va_iald (D := D) (pc := 12) hx hb hK hP 10 7 rfl rfl e4i dX2_hasSpan_12 ?_
    refine lv_topi (fun y9 hy9 => ?_)
    obtain rfl : y5 = y9 := e4.trans hy9.symm
    refine lv_if_ne (pc := 13) (tgt := 20) hx hb dX2_hasSpan_13 (by decide) (fun c6 => ?_) (fun c6 => ?_)
    · replace h := ez_if c6 h
      refine lv_iconst (v := 0) (pc := 20) hx hb dX2_hasSpan_20 rfl ?_
      obtain rfl := ez_r1 h
      exact ez_rroZ C0 (rfl) dX2_hasSpan_21
    · replace h := ez_it c6 h
      refine lv_iconst (v := 1) (pc := 16) hx hb dX2_hasSpan_16 rfl ?_
      refine lv_goto (pc := 17) (tgt := 21) hx hb dX2_hasSpan_17 (by decide) ?_
      obtain rfl := ez_r1 h
      exact ez_rroZ C0 (rfl) dX2_hasSpan_21
set_option maxRecDepth 100000 in
theorem kX2_hasSpan (l : Launch) (D : va_G) (a : Nat → Nat) (k : Nat → ClassId) (n : Nat) (x1 : Int32) (w : Wd) (z : Int32) (h : fX2_hasSpan n x1 w = some z) : Met l yX2_hasSpan wsX2_hasSpan ({ frames := 1, cells := 0, slots := 0, locals := 20 } : Room) (ez_Rc D (tC k) [.ref (a 4), .int x1] (wC a k w)) (ez_Ri z) 0 0 (fun _ => False) :=
  ez_mkR (by decide) rfl (Nat.le_of_ble_eq_true rfl) (fun p e s m below meth c ls C0 hl hP hK => tX2_hasSpan_0 C0 hK hP n ls x1 (lv_sub (l := [(0, .ref (a 4)), (1, .int x1)]) hl [0, 1] rfl) h)
/-! EnclosureCalculator$Spans latestStep -/
theorem dX2_latestStep_0 : decode cX2_latestStep 0 = .ok (.aload_n 0, 1) := by decide +kernel
theorem dX2_latestStep_1 : decode cX2_latestStep 1 = .ok (.getfield 41, 3) := by decide +kernel
theorem dX2_latestStep_4 : decode cX2_latestStep 4 = .ok (.ireturn, 1) := by decide +kernel
def fX2_latestStep (n : Nat) (w : Wd) : Option (Int32) :=
    some (w.1 0 4)
set_option maxHeartbeats 4000000 in
set_option maxRecDepth 100000 in
theorem tX2_latestStep_0 {p : Program} {l : Launch} {e : Env} {s : State} {m : MethodId} {args : Array Value} {below : List Frame} {meth : Method} {c : Code} {D : va_G} {a : Nat → Nat} {k : Nat → ClassId} {z : Int32} {w : Wd} (C0 : ez_C p s m args meth c cX2_latestStep (some .int) 1 RX2 (fun _ => True)) (hK : va_K D vwCl (tC k) s) (hP : va_P D vwCl (wC a k w) s.heap) : ∀ (n : Nat) (ls : Array Slot), lv_has ls 1 [(0, .ref (a 4))] → fX2_latestStep n w = some z → W p l e ({ frames := 0, cells := 0, slots := 0, locals := 0 } : Room) s m args below meth c s.heap [] 0 0 (MQ below (ez_Ri z) args s 0 0 (fun _ => False)) (F0 m 0 ls []) := by
  intro n
  intro ls hl h
  rw [fX2_latestStep] at h
  have C1 := C0
  obtain ⟨hx, hb, hr, hml, hown, hw, hlk, hA, hN⟩ := C1
  refine lv_aload_n (pc := 0) hx hb dX2_latestStep_0 rfl (lv_at hl 0 rfl) ?_
  refine va_get (D := D) (pc := 1) hx hb hw inX2 hown hK hP 4 rfl rfl 4 (by decide) (hw _ mw49) (fun _ h9 => h9) rfl dX2_latestStep_1 ?_
  obtain rfl := ez_r1 h
  exact ez_rroI C0 dX2_latestStep_4
set_option maxRecDepth 100000 in
theorem kX2_latestStep (l : Launch) (D : va_G) (a : Nat → Nat) (k : Nat → ClassId) (n : Nat) (w : Wd) (z : Int32) (h : fX2_latestStep n w = some z) : Met l yX2_latestStep wsX2_latestStep ({ frames := 0, cells := 0, slots := 0, locals := 0 } : Room) (ez_Rc D (tC k) [.ref (a 4)] (wC a k w)) (ez_Ri z) 0 0 (fun _ => False) :=
  ez_mkR (by decide) rfl (Nat.le_of_ble_eq_true rfl) (fun p e s m below meth c ls C0 hl hP hK => tX2_latestStep_0 C0 hK hP n ls (lv_sub (l := [(0, .ref (a 4))]) hl [0] rfl) h)
