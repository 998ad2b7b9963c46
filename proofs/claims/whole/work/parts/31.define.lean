/-! EnclosureCalculator define -/
theorem dX3_define_0 : decode cX3_define 0 = .ok (.iload_n 1, 1) := by decide +kernel
theorem dX3_define_1 : decode cX3_define 1 = .ok (.invokestatic 42, 3) := by decide +kernel
theorem dX3_define_4 : decode cX3_define 4 = .ok (.ifCond .ne 5, 3) := by decide +kernel
theorem dX3_define_7 : decode cX3_define 7 = .ok (.iconst (-1), 1) := by decide +kernel
theorem dX3_define_8 : decode cX3_define 8 = .ok (.ireturn, 1) := by decide +kernel
theorem dX3_define_9 : decode cX3_define 9 = .ok (.aload_n 0, 1) := by decide +kernel
theorem dX3_define_10 : decode cX3_define 10 = .ok (.getfield 16, 3) := by decide +kernel
theorem dX3_define_13 : decode cX3_define 13 = .ok (.invokevirtual 45, 3) := by decide +kernel
theorem dX3_define_16 : decode cX3_define 16 = .ok (.istore_n 2, 1) := by decide +kernel
theorem dX3_define_17 : decode cX3_define 17 = .ok (.new 49, 3) := by decide +kernel
theorem dX3_define_20 : decode cX3_define 20 = .ok (.dup, 1) := by decide +kernel
theorem dX3_define_21 : decode cX3_define 21 = .ok (.aload_n 0, 1) := by decide +kernel
theorem dX3_define_22 : decode cX3_define 22 = .ok (.getfield 9, 3) := by decide +kernel
theorem dX3_define_25 : decode cX3_define 25 = .ok (.aload_n 0, 1) := by decide +kernel
theorem dX3_define_26 : decode cX3_define 26 = .ok (.getfield 34, 3) := by decide +kernel
theorem dX3_define_29 : decode cX3_define 29 = .ok (.aload_n 0, 1) := by decide +kernel
theorem dX3_define_30 : decode cX3_define 30 = .ok (.getfield 20, 3) := by decide +kernel
theorem dX3_define_33 : decode cX3_define 33 = .ok (.aload_n 0, 1) := by decide +kernel
theorem dX3_define_34 : decode cX3_define 34 = .ok (.getfield 16, 3) := by decide +kernel
theorem dX3_define_37 : decode cX3_define 37 = .ok (.invokespecial 51, 3) := by decide +kernel
theorem dX3_define_40 : decode cX3_define 40 = .ok (.astore_n 3, 1) := by decide +kernel
theorem dX3_define_41 : decode cX3_define 41 = .ok (.aload_n 3, 1) := by decide +kernel
theorem dX3_define_42 : decode cX3_define 42 = .ok (.iconst 0, 1) := by decide +kernel
theorem dX3_define_43 : decode cX3_define 43 = .ok (.invokevirtual 54, 3) := by decide +kernel
theorem dX3_define_46 : decode cX3_define 46 = .ok (.istore 4, 2) := by decide +kernel
theorem dX3_define_48 : decode cX3_define 48 = .ok (.aload_n 0, 1) := by decide +kernel
theorem dX3_define_49 : decode cX3_define 49 = .ok (.aload_n 3, 1) := by decide +kernel
theorem dX3_define_50 : decode cX3_define 50 = .ok (.iload 4, 2) := by decide +kernel
theorem dX3_define_52 : decode cX3_define 52 = .ok (.invokevirtual 58, 3) := by decide +kernel
theorem dX3_define_55 : decode cX3_define 55 = .ok (.istore 5, 2) := by decide +kernel
theorem dX3_define_57 : decode cX3_define 57 = .ok (.iload 5, 2) := by decide +kernel
theorem dX3_define_59 : decode cX3_define 59 = .ok (.ifCond .eq 14, 3) := by decide +kernel
theorem dX3_define_62 : decode cX3_define 62 = .ok (.aload_n 0, 1) := by decide +kernel
theorem dX3_define_63 : decode cX3_define 63 = .ok (.getfield 16, 3) := by decide +kernel
theorem dX3_define_66 : decode cX3_define 66 = .ok (.iload_n 2, 1) := by decide +kernel
theorem dX3_define_67 : decode cX3_define 67 = .ok (.invokevirtual 62, 3) := by decide +kernel
theorem dX3_define_70 : decode cX3_define 70 = .ok (.iload 5, 2) := by decide +kernel
theorem dX3_define_72 : decode cX3_define 72 = .ok (.ireturn, 1) := by decide +kernel
theorem dX3_define_73 : decode cX3_define 73 = .ok (.aload_n 0, 1) := by decide +kernel
theorem dX3_define_74 : decode cX3_define 74 = .ok (.getfield 20, 3) := by decide +kernel
theorem dX3_define_77 : decode cX3_define 77 = .ok (.iload_n 1, 1) := by decide +kernel
theorem dX3_define_78 : decode cX3_define 78 = .ok (.iload 4, 2) := by decide +kernel
theorem dX3_define_80 : decode cX3_define 80 = .ok (.iastore, 1) := by decide +kernel
theorem dX3_define_81 : decode cX3_define 81 = .ok (.aload_n 0, 1) := by decide +kernel
theorem dX3_define_82 : decode cX3_define 82 = .ok (.iconst 0, 1) := by decide +kernel
theorem dX3_define_83 : decode cX3_define 83 = .ok (.putfield 34, 3) := by decide +kernel
theorem dX3_define_86 : decode cX3_define 86 = .ok (.aload_n 0, 1) := by decide +kernel
theorem dX3_define_87 : decode cX3_define 87 = .ok (.getfield 16, 3) := by decide +kernel
theorem dX3_define_90 : decode cX3_define 90 = .ok (.invokevirtual 45, 3) := by decide +kernel
theorem dX3_define_93 : decode cX3_define 93 = .ok (.iload_n 2, 1) := by decide +kernel
theorem dX3_define_94 : decode cX3_define 94 = .ok (.isub, 1) := by decide +kernel
theorem dX3_define_95 : decode cX3_define 95 = .ok (.ireturn, 1) := by decide +kernel
def fX3_define (n : Nat) (x1 : Int32) (w : Wd) : Option (Int32 × Wd) :=
    (fX3_isName n x1).bind fun z1 =>
    if z1 = 0 then
      some ((-1), w)
    else
      (fX0_count n w).bind fun z4 =>
      (some (ez_v0 (w.1 0 0))).bind fun v6 =>
      (fSum 7 n 0 w (ez_v0 (w.1 0 0))).bind fun z8 =>
      (fX3_faultOf n z8.1 z8.2.1 z8.2.2).bind fun z10 =>
      if z10 = 0 then
        (ez_stI z8.2.1 3 8 x1 z8.1).bind fun w14 =>
        (ez_fI w14 0 0).bind fun w16 =>
        (fX0_count n w16).bind fun z17 =>
        some ((z17 - z4), w16)
      else
        (fX0_shrinkTo n z4 z8.2.1).bind fun z19 =>
        some (z10, z19)
set_option maxHeartbeats 4000000 in
set_option maxRecDepth 100000 in
theorem tX3_define_0 {p : Program} {l : Launch} {e : Env} {s : State} {m : MethodId} {args : Array Value} {below : List Frame} {meth : Method} {c : Code} {A : Nat → Prop} {D : va_G} {a : Nat → Nat} {k : Nat → ClassId} {z : Int32 × Wd} (C0 : ez_C p s m args meth c cX3_define (some .int) 6 RX3 A) (hK : va_K D vwCl (tC k) s) : ∀ (n : Nat) (H : Heap) (locs : List Loc) (ls : Array Slot) (x1 : Int32) (w : Wd), lv_has ls 6 [(0, .ref (a 0)), (1, .int x1)] → va_P D vwCl (wC a k w) H → va_D A (wC a k w) → va_S A s.heap H locs → fX3_define n x1 w = some z → W p l e ({ frames := 42, cells := 1, slots := 6, locals := 1118 } : Room) s m args below meth c H locs 0 0 (MQ below (ez_Qi D (tC k) A z.1 (wC a k z.2)) args s 1 6 A) (F0 m 0 ls []) := by
  intro n
  intro H locs ls x1 w hl hP hD hS h
  rw [fX3_define] at h
  have C1 := C0
  obtain ⟨hx, hb, hr, hml, hown, hw, hlk, hA, hN⟩ := C1
  refine lv_iload_n (pc := 0) hx hb dX3_define_0 rfl (lv_at hl 1 rfl) ?_
  replace h := ez_bd h
  obtain ⟨z1, e2, h⟩ := h
  refine ez_croI (r := z1) (pc := 1) (va_runS (g := F0 m 1 ls [.int x1]) (As := [.int x1]) (rest := []) ⟨hx, hb, hml, hown, hw⟩ (kX3_isName l n x1 z1 e2) (va_cwS 1 hw (ez_gS mw128 mw129 mw1 mw130) rfl rfl rfl (by decide +kernel) ⟨Nat.le_of_ble_eq_true rfl, Nat.le_of_ble_eq_true rfl⟩) (ez_preRS hN) rfl rfl hl.1 rfl (lv_room (Nat.le_of_ble_eq_true rfl)) dX3_define_1 ⟨Nat.le_of_ble_eq_true rfl, Nat.le_of_ble_eq_true rfl⟩) ?_
  refine lv_if_ne (pc := 4) (tgt := 9) hx hb dX3_define_4 (by decide) (fun c3 => ?_) (fun c3 => ?_)
  · replace h := ez_if c3 h
    refine lv_aload_n (pc := 9) hx hb dX3_define_9 rfl (lv_at hl 0 rfl) ?_
    refine va_get (D := D) (pc := 10) hx hb hw inX3 hown hK hP 0 rfl rfl 2 (by decide) (hw _ mw77) (fun _ h9 => h9) rfl dX3_define_10 ?_
    replace h := ez_bd h
    obtain ⟨z4, e5, h⟩ := h
    refine ez_croI (r := z4) (pc := 13) (va_runV (g := F0 m 13 ls [.ref (a 2)]) (As := []) (rest := []) ⟨hx, hb, hml, hown, hw⟩ (kX0_count l D a k n w z4 e5) (cwV 0 hw (ez_gV mw131 mw132 mw133 mw2 mw134) rfl rfl rfl (by decide +kernel) ⟨Nat.le_of_ble_eq_true rfl, Nat.le_of_ble_eq_true rfl⟩) (ez_preRV (wr := []) (wl := (wC a k w)) hP hK hN 2 rfl rfl) rfl rfl hl.1 rfl (lv_room (Nat.le_of_ble_eq_true rfl)) dX3_define_13 ⟨Nat.le_of_ble_eq_true rfl, Nat.le_of_ble_eq_true rfl⟩) ?_
    refine lv_istore_n (pc := 16) hx hb dX3_define_16 rfl hl (by decide) rfl (fun ls hl => ?_)
    replace hl : lv_has ls 6 [(2, .int z4), (0, .ref (a 0)), (1, .int x1)] := hl
    refine va_new (ci := 1) (fs := [.null, .int 0, .null, .null, .int 0, .int 0]) (C := RX1) (T := TX1) (N := 6) (pc := 17) hx hb hw inX1 tyX1 tyX1_ok hown (hw _ mw135) (hw _ mw136) (hw _ mw5) hK hP hD hS hA rfl (fun j hj => by rcases (show j = 0 ∨ j = 1 ∨ j = 2 ∨ j = 3 ∨ j = 4 ∨ j = 5 by omega) with rfl | rfl | rfl | rfl | rfl | rfl <;> rfl) (Nat.le_of_ble_eq_true rfl) (Nat.le_of_ble_eq_true rfl) dX3_define_17 (fun b H hP hD hS => ?_)
    refine lv_dup (pc := 20) hx hb dX3_define_20 rfl ?_
    refine lv_aload_n (pc := 21) hx hb dX3_define_21 rfl (lv_at hl 1 rfl) ?_
    refine va_get (D := D) (pc := 22) hx hb hw inX3 hown hK hP 0 rfl rfl 0 (by decide) (hw _ mw75) (fun _ h9 => h9) rfl dX3_define_22 ?_
    refine lv_aload_n (pc := 25) hx hb dX3_define_25 rfl (lv_at hl 1 rfl) ?_
    refine va_get (D := D) (pc := 26) hx hb hw inX3 hown hK hP 0 rfl rfl 1 (by decide) (hw _ mw76) (fun _ h9 => h9) rfl dX3_define_26 ?_
    refine lv_aload_n (pc := 29) hx hb dX3_define_29 rfl (lv_at hl 1 rfl) ?_
    refine va_get (D := D) (pc := 30) hx hb hw inX3 hown hK hP 0 rfl rfl 3 (by decide) (hw _ mw78) (fun _ h9 => h9) rfl dX3_define_30 ?_
    refine lv_aload_n (pc := 33) hx hb dX3_define_33 rfl (lv_at hl 1 rfl) ?_
    refine va_get (D := D) (pc := 34) hx hb hw inX3 hown hK hP 0 rfl rfl 2 (by decide) (hw _ mw77) (fun _ h9 => h9) rfl dX3_define_34 ?_
    replace h := ez_bd h
    obtain ⟨v6, e7, h⟩ := h
    obtain rfl := ez_r1 e7
    refine ez_callV (pc := 37) (wr := wC a k w) (wl := [(b, .inr (1, [.null, .int 0, .null, .null, .int 0, .int 0]))]) (wl' := rdc b a (ez_v0 (w.1 0 0))) (va_runI (g := F0 m 37 ls [.ref (a 2), .ref (a 3), .int (w.1 0 0), .ref (a 1), .ref b, .ref b]) (As := [.ref (a 1), .int (w.1 0 0), .ref (a 3), .ref (a 2)]) (rest := [.ref b]) ⟨hx, hb, hml, hown, hw⟩ (kX1_init l D (tC k) a b (w.1 0 0) H.size) (cwI 4 hw (ez_gN mw139) rfl rfl rfl (hw _ mw5) (hw _ mw137) (hw _ mw138) rfl (by decide +kernel) ⟨Nat.le_of_ble_eq_true rfl, Nat.le_of_ble_eq_true rfl⟩) (ez_preS (wr := wC a k w) (wl := [(b, .inr (1, [.null, .int 0, .null, .null, .int 0, .int 0]))]) hP hD hK hN) rfl rfl hl.1 rfl (lv_room (Nat.le_of_ble_eq_true rfl)) dX3_define_37 ⟨Nat.le_of_ble_eq_true rfl, Nat.le_of_ble_eq_true rfl⟩) hP hD hS hA (fun H locs hP hD hS => ?_)
    replace hP : va_P D vwCl (wR b a k w (ez_v0 (w.1 0 0))) H := ez_Psw hP
    replace hD : va_D A (wR b a k w (ez_v0 (w.1 0 0))) := ez_Dsw hD
    refine lv_astore_n (pc := 40) hx hb dX3_define_40 rfl hl (by decide) rfl (fun ls hl => ?_)
    replace hl : lv_has ls 6 [(3, .ref b), (2, .int z4), (0, .ref (a 0)), (1, .int x1)] := hl
    refine lv_aload_n (pc := 41) hx hb dX3_define_41 rfl (lv_at hl 0 rfl) ?_
    refine lv_iconst (v := 0) (pc := 42) hx hb dX3_define_42 rfl ?_
    replace h := ez_bd h
    obtain ⟨z8, e9, h⟩ := h
    refine ez_callI (r := z8.1) (pc := 43) (wr := []) (wl := (wR b a k w (ez_v0 (w.1 0 0)))) (wl' := (wR b a k z8.2.1 z8.2.2)) (va_runV (g := F0 m 43 ls [.int 0, .ref b]) (As := [.int 0]) (rest := []) ⟨hx, hb, hml, hown, hw⟩ (kSum l D a k b n 7 0 w (ez_v0 (w.1 0 0)) z8 e9 H.size) (cwV 1 hw (ez_gV mw160 mw161 mw162 mw5 mw163) rfl rfl rfl (by decide +kernel) ⟨Nat.le_of_ble_eq_true rfl, Nat.le_of_ble_eq_true rfl⟩) (ez_preV (wr := []) (wl := (wR b a k w (ez_v0 (w.1 0 0)))) hP hD hK hN 0 rfl rfl) rfl rfl hl.1 rfl (lv_room (Nat.le_of_ble_eq_true rfl)) dX3_define_43 ⟨Nat.le_of_ble_eq_true rfl, Nat.le_of_ble_eq_true rfl⟩) hP hD hS hA (fun H locs hP hD hS => ?_)
    replace hP : va_P D vwCl (wR b a k z8.2.1 z8.2.2) H := hP
    replace hD : va_D A (wR b a k z8.2.1 z8.2.2) := hD
    refine lv_istore (pc := 46) hx hb dX3_define_46 hl (by decide) rfl (fun ls hl => ?_)
    replace hl : lv_has ls 6 [(4, .int z8.1), (3, .ref b), (2, .int z4), (0, .ref (a 0)), (1, .int x1)] := hl
    refine lv_aload_n (pc := 48) hx hb dX3_define_48 rfl (lv_at hl 3 rfl) ?_
    refine lv_aload_n (pc := 49) hx hb dX3_define_49 rfl (lv_at hl 1 rfl) ?_
    refine lv_iload (pc := 50) hx hb dX3_define_50 (lv_at hl 0 rfl) ?_
    replace h := ez_bd h
    obtain ⟨z10, e11, h⟩ := h
    refine ez_croI (r := z10) (pc := 52) (va_runV (g := F0 m 52 ls [.int z8.1, .ref b, .ref (a 0)]) (As := [.ref b, .int z8.1]) (rest := []) ⟨hx, hb, hml, hown, hw⟩ (kX3_faultOf l D a k b n z8.1 z8.2.1 z8.2.2 z10 e11) (cwV 2 hw (ez_gV mw219 mw221 mp12 mw1 mw222) rfl rfl rfl (by decide +kernel) ⟨Nat.le_of_ble_eq_true rfl, Nat.le_of_ble_eq_true rfl⟩) (ez_preRV (wr := []) (wl := (wR b a k z8.2.1 z8.2.2)) hP hK hN 1 rfl rfl) rfl rfl hl.1 rfl (lv_room (Nat.le_of_ble_eq_true rfl)) dX3_define_52 ⟨Nat.le_of_ble_eq_true rfl, Nat.le_of_ble_eq_true rfl⟩) ?_
    refine lv_istore (pc := 55) hx hb dX3_define_55 hl (by decide) rfl (fun ls hl => ?_)
    replace hl : lv_has ls 6 [(5, .int z10), (4, .int z8.1), (3, .ref b), (2, .int z4), (0, .ref (a 0)), (1, .int x1)] := hl
    refine lv_iload (pc := 57) hx hb dX3_define_57 (lv_at hl 0 rfl) ?_
    refine lv_if_eq (pc := 59) (tgt := 73) hx hb dX3_define_59 (by decide) (fun c12 => ?_) (fun c12 => ?_)
    · replace h := ez_it c12 h
      refine lv_aload_n (pc := 73) hx hb dX3_define_73 rfl (lv_at hl 4 rfl) ?_
      refine va_get (D := D) (pc := 74) hx hb hw inX3 hown hK hP 1 rfl rfl 3 (by decide) (hw _ mw78) (fun _ h9 => h9) rfl dX3_define_74 ?_
      refine lv_iload_n (pc := 77) hx hb dX3_define_77 rfl (lv_at hl 5 rfl) ?_
      refine lv_iload (pc := 78) hx hb dX3_define_78 (lv_at hl 1 rfl) ?_
      replace h := ez_bd h
      obtain ⟨w14, e13, h⟩ := h
      obtain ⟨e13i, e13⟩ := ez_stIs e13
      refine va_iast (D := D) (pc := 80) hx hb hK hP hD hS 4 1 rfl rfl e13i dX3_define_80 (fun H locs hP hD hS => ?_)
      replace hP : va_P D vwCl (wR b a k w14 z8.2.2) H := by rw [e13]; exact hP
      replace hD : va_D A (wR b a k w14 z8.2.2) := by rw [e13]; exact hD
      refine lv_aload_n (pc := 81) hx hb dX3_define_81 rfl (lv_at hl 4 rfl) ?_
      refine lv_iconst (v := 0) (pc := 82) hx hb dX3_define_82 rfl ?_
      replace h := ez_bd h
      obtain ⟨w16, e15, h⟩ := h
      refine va_put (D := D) (v := .int 0) (ty := .int) (pc := 83) hx hb hw inX3 tyX3 tyX3_ok nmX3 hown hK hP hD hS 1 rfl rfl 1 (by decide) (hw _ mw76) (fun _ h9 => h9) rfl (by decide +kernel) rfl rfl (Nat.le_of_ble_eq_true rfl) dX3_define_83 (fun H locs hP hD hS => ?_)
      replace hP : va_P D vwCl (wR b a k w16 z8.2.2) H := by rw [(ez_fIs e15)]; exact hP
      replace hD : va_D A (wR b a k w16 z8.2.2) := by rw [(ez_fIs e15)]; exact hD
      refine lv_aload_n (pc := 86) hx hb dX3_define_86 rfl (lv_at hl 4 rfl) ?_
      refine va_get (D := D) (pc := 87) hx hb hw inX3 hown hK hP 1 rfl rfl 2 (by decide) (hw _ mw77) (fun _ h9 => h9) rfl dX3_define_87 ?_
      replace h := ez_bd h
      obtain ⟨z17, e18, h⟩ := h
      refine ez_croI (r := z17) (pc := 90) (va_runV (g := F0 m 90 ls [.ref (a 2)]) (As := []) (rest := []) ⟨hx, hb, hml, hown, hw⟩ (kX0_count l D a k n w16 z17 e18) (cwV 0 hw (ez_gV mw131 mw132 mw133 mw2 mw134) rfl rfl rfl (by decide +kernel) ⟨Nat.le_of_ble_eq_true rfl, Nat.le_of_ble_eq_true rfl⟩) (ez_preRV (wr := (rdc b a z8.2.2)) (wl := (wC a k w16)) hP hK hN 2 rfl rfl) rfl rfl hl.1 rfl (lv_room (Nat.le_of_ble_eq_true rfl)) dX3_define_90 ⟨Nat.le_of_ble_eq_true rfl, Nat.le_of_ble_eq_true rfl⟩) ?_
      refine lv_iload_n (pc := 93) hx hb dX3_define_93 rfl (lv_at hl 3 rfl) ?_
      refine lv_isub (pc := 94) hx hb dX3_define_94 ?_
      replace hP := ez_Pr (wr := rdc b a z8.2.2) (wl := wC a k w16) hP
      replace hD := ez_Dr (wr := rdc b a z8.2.2) (wl := wC a k w16) hD
      obtain rfl := ez_r1 h
      exact ez_retI C0 hP hD hK hS dX3_define_95
    · replace h := ez_if c12 h
      refine lv_aload_n (pc := 62) hx hb dX3_define_62 rfl (lv_at hl 4 rfl) ?_
      refine va_get (D := D) (pc := 63) hx hb hw inX3 hown hK hP 1 rfl rfl 2 (by decide) (hw _ mw77) (fun _ h9 => h9) rfl dX3_define_63 ?_
      refine lv_iload_n (pc := 66) hx hb dX3_define_66 rfl (lv_at hl 3 rfl) ?_
      replace h := ez_bd h
      obtain ⟨z19, e20, h⟩ := h
      refine ez_callV (pc := 67) (wr := (rdc b a z8.2.2)) (wl := (wC a k z8.2.1)) (wl' := (wC a k z19)) (va_runV (g := F0 m 67 ls [.int z4, .ref (a 2)]) (As := [.int z4]) (rest := []) ⟨hx, hb, hml, hown, hw⟩ (kX0_shrinkTo l D a k n z4 z8.2.1 z19 e20 H.size) (cwV 1 hw (ez_gV mw67 mw68 mw69 mw2 mw70) rfl rfl rfl (by decide +kernel) ⟨Nat.le_of_ble_eq_true rfl, Nat.le_of_ble_eq_true rfl⟩) (ez_preV (wr := (rdc b a z8.2.2)) (wl := (wC a k z8.2.1)) hP hD hK hN 2 rfl rfl) rfl rfl hl.1 rfl (lv_room (Nat.le_of_ble_eq_true rfl)) dX3_define_67 ⟨Nat.le_of_ble_eq_true rfl, Nat.le_of_ble_eq_true rfl⟩) hP hD hS hA (fun H locs hP hD hS => ?_)
      replace hP : va_P D vwCl (wR b a k z19 z8.2.2) H := hP
      replace hD : va_D A (wR b a k z19 z8.2.2) := hD
      refine lv_iload (pc := 70) hx hb dX3_define_70 (lv_at hl 0 rfl) ?_
      replace hP := ez_Pr (wr := rdc b a z8.2.2) (wl := wC a k z19) hP
      replace hD := ez_Dr (wr := rdc b a z8.2.2) (wl := wC a k z19) hD
      obtain rfl := ez_r1 h
      exact ez_retI C0 hP hD hK hS dX3_define_72
  · replace h := ez_it c3 h
    refine lv_iconst (v := (-1)) (pc := 7) hx hb dX3_define_7 rfl ?_
    refine W.widen (k := 1) (n := 6) (by decide) (by decide) ?_
    obtain rfl := ez_r1 h
    exact ez_retI C0 hP hD hK hS dX3_define_8
set_option maxRecDepth 100000 in
theorem kX3_define (l : Launch) (D : va_G) (a : Nat → Nat) (k : Nat → ClassId) (n : Nat) (x1 : Int32) (w : Wd) (z : Int32 × Wd) (h : fX3_define n x1 w = some z) (sz : Nat) : Met l yX3_define wsX3_define ({ frames := 42, cells := 1, slots := 6, locals := 1118 } : Room) (ez_Pc D (tC k) [.ref (a 0), .int x1] (wC a k w) sz) (ez_Qi D (tC k) (va_A (wC a k w) sz) z.1 (wC a k z.2)) 1 6 (va_A (wC a k w) sz) :=
  ez_mk (Qf := fun A => (ez_Qi D (tC k) A z.1 (wC a k z.2))) (by decide) rfl (Nat.le_of_ble_eq_true rfl) (fun p e s m below meth c A ls C0 _ hl hP hD hK => tX3_define_0 C0 hK n s.heap [] ls x1 w (lv_sub (l := [(0, .ref (a 0)), (1, .int x1)]) hl [0, 1] rfl) hP hD va_S.rf h) sz
