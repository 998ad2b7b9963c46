/-! EnclosureCalculatorModel type -/
theorem dX4_type_0 : decode cX4_type 0 = .ok (.aload_n 0, 1) := by decide +kernel
theorem dX4_type_1 : decode cX4_type 1 = .ok (.getfield 45, 3) := by decide +kernel
theorem dX4_type_4 : decode cX4_type 4 = .ok (.bipush 20, 2) := by decide +kernel
theorem dX4_type_6 : decode cX4_type 6 = .ok (.if_icmp .ge 48, 3) := by decide +kernel
theorem dX4_type_9 : decode cX4_type 9 = .ok (.iload_n 1, 1) := by decide +kernel
theorem dX4_type_10 : decode cX4_type 10 = .ok (.invokestatic 49, 3) := by decide +kernel
theorem dX4_type_13 : decode cX4_type 13 = .ok (.ifCond .ne 43, 3) := by decide +kernel
theorem dX4_type_16 : decode cX4_type 16 = .ok (.iload_n 1, 1) := by decide +kernel
theorem dX4_type_17 : decode cX4_type 17 = .ok (.invokestatic 53, 3) := by decide +kernel
theorem dX4_type_20 : decode cX4_type 20 = .ok (.ifCond .ne 36, 3) := by decide +kernel
theorem dX4_type_23 : decode cX4_type 23 = .ok (.iload_n 1, 1) := by decide +kernel
theorem dX4_type_24 : decode cX4_type 24 = .ok (.invokestatic 56, 3) := by decide +kernel
theorem dX4_type_27 : decode cX4_type 27 = .ok (.ifCond .ne 29, 3) := by decide +kernel
theorem dX4_type_30 : decode cX4_type 30 = .ok (.iload_n 1, 1) := by decide +kernel
theorem dX4_type_31 : decode cX4_type 31 = .ok (.bipush 114, 2) := by decide +kernel
theorem dX4_type_33 : decode cX4_type 33 = .ok (.if_icmp .eq 23, 3) := by decide +kernel
theorem dX4_type_36 : decode cX4_type 36 = .ok (.iload_n 1, 1) := by decide +kernel
theorem dX4_type_37 : decode cX4_type 37 = .ok (.bipush 94, 2) := by decide +kernel
theorem dX4_type_39 : decode cX4_type 39 = .ok (.if_icmp .eq 17, 3) := by decide +kernel
theorem dX4_type_42 : decode cX4_type 42 = .ok (.iload_n 1, 1) := by decide +kernel
theorem dX4_type_43 : decode cX4_type 43 = .ok (.bipush 40, 2) := by decide +kernel
theorem dX4_type_45 : decode cX4_type 45 = .ok (.if_icmp .eq 11, 3) := by decide +kernel
theorem dX4_type_48 : decode cX4_type 48 = .ok (.iload_n 1, 1) := by decide +kernel
theorem dX4_type_49 : decode cX4_type 49 = .ok (.bipush 41, 2) := by decide +kernel
theorem dX4_type_51 : decode cX4_type 51 = .ok (.if_icmp .eq 5, 3) := by decide +kernel
theorem dX4_type_54 : decode cX4_type 54 = .ok (.iconst 0, 1) := by decide +kernel
theorem dX4_type_55 : decode cX4_type 55 = .ok (.ireturn, 1) := by decide +kernel
theorem dX4_type_56 : decode cX4_type 56 = .ok (.aload_n 0, 1) := by decide +kernel
theorem dX4_type_57 : decode cX4_type 57 = .ok (.getfield 7, 3) := by decide +kernel
theorem dX4_type_60 : decode cX4_type 60 = .ok (.aload_n 0, 1) := by decide +kernel
theorem dX4_type_61 : decode cX4_type 61 = .ok (.getfield 45, 3) := by decide +kernel
theorem dX4_type_64 : decode cX4_type 64 = .ok (.iload_n 1, 1) := by decide +kernel
theorem dX4_type_65 : decode cX4_type 65 = .ok (.iastore, 1) := by decide +kernel
theorem dX4_type_66 : decode cX4_type 66 = .ok (.aload_n 0, 1) := by decide +kernel
theorem dX4_type_67 : decode cX4_type 67 = .ok (.dup, 1) := by decide +kernel
theorem dX4_type_68 : decode cX4_type 68 = .ok (.getfield 45, 3) := by decide +kernel
theorem dX4_type_71 : decode cX4_type 71 = .ok (.iconst 1, 1) := by decide +kernel
theorem dX4_type_72 : decode cX4_type 72 = .ok (.iadd, 1) := by decide +kernel
theorem dX4_type_73 : decode cX4_type 73 = .ok (.putfield 45, 3) := by decide +kernel
theorem dX4_type_76 : decode cX4_type 76 = .ok (.iconst 1, 1) := by decide +kernel
theorem dX4_type_77 : decode cX4_type 77 = .ok (.ireturn, 1) := by decide +kernel
def fX4_type (n : Nat) (x1 : Int32) (w : Wd) : Option (Int32 × Wd) :=
    if 20 ≤ (w.1 0 0) then
      some (0, w)
    else
      (fX4_isDigit n x1).bind fun z2 =>
      if z2 = 0 then
        (fX4_isName n x1).bind fun z9 =>
        if z9 = 0 then
          (fX4_isSign n x1).bind fun z16 =>
          if z16 = 0 then
            if x1 = 114 then
              (ez_stI w 1 20 (w.1 0 0) x1).bind fun w25 =>
              (ez_fI w25 0 ((w25.1 0 0) + 1)).bind fun w27 =>
              some (1, w27)
            else
              if x1 = 94 then
                (ez_stI w 1 20 (w.1 0 0) x1).bind fun w30 =>
                (ez_fI w30 0 ((w30.1 0 0) + 1)).bind fun w32 =>
                some (1, w32)
              else
                if x1 = 40 then
                  (ez_stI w 1 20 (w.1 0 0) x1).bind fun w35 =>
                  (ez_fI w35 0 ((w35.1 0 0) + 1)).bind fun w37 =>
                  some (1, w37)
                else
                  if x1 = 41 then
                    (ez_stI w 1 20 (w.1 0 0) x1).bind fun w40 =>
                    (ez_fI w40 0 ((w40.1 0 0) + 1)).bind fun w42 =>
                    some (1, w42)
                  else
                    some (0, w)
          else
            (ez_stI w 1 20 (w.1 0 0) x1).bind fun w20 =>
            (ez_fI w20 0 ((w20.1 0 0) + 1)).bind fun w22 =>
            some (1, w22)
        else
          (ez_stI w 1 20 (w.1 0 0) x1).bind fun w13 =>
          (ez_fI w13 0 ((w13.1 0 0) + 1)).bind fun w15 =>
          some (1, w15)
      else
        (ez_stI w 1 20 (w.1 0 0) x1).bind fun w6 =>
        (ez_fI w6 0 ((w6.1 0 0) + 1)).bind fun w8 =>
        some (1, w8)
set_option maxHeartbeats 4000000 in
set_option maxRecDepth 100000 in
theorem tX4_type_0 {p : Program} {l : Launch} {e : Env} {s : State} {m : MethodId} {args : Array Value} {below : List Frame} {meth : Method} {c : Code} {A : Nat → Prop} {D : va_G} {a : Nat → Nat} {k : Nat → ClassId} {z : Int32 × Wd} (C0 : ez_C p s m args meth c cX4_type (some .boolean) 2 RX4 A) (hK : va_K D vwCl (tM k) s) : ∀ (n : Nat) (H : Heap) (locs : List Loc) (ls : Array Slot) (x1 : Int32) (w : Wd), lv_has ls 2 [(0, .ref (a 0)), (1, .int x1)] → va_P D vwCl (wM a k w) H → va_D A (wM a k w) → va_S A s.heap H locs → fX4_type n x1 w = some z → W p l e ({ frames := 1, cells := 0, slots := 0, locals := 20 } : Room) s m args below meth c H locs 0 0 (MQ below (ez_Qi D (tM k) A z.1 (wM a k z.2)) args s 0 0 A) (F0 m 0 ls []) := by
  intro n
  intro H locs ls x1 w hl hP hD hS h
  rw [fX4_type] at h
  have C1 := C0
  obtain ⟨hx, hb, hr, hml, hown, hw, hlk, hA, hN⟩ := C1
  refine lv_aload_n (pc := 0) hx hb dX4_type_0 rfl (lv_at hl 0 rfl) ?_
  refine va_get (D := D) (pc := 1) hx hb hw inX4 hown hK hP 0 rfl rfl 0 (by decide) (hw _ mw427) (fun _ h9 => h9) rfl dX4_type_1 ?_
  refine lv_bipush (v := 20) (pc := 4) hx hb dX4_type_4 rfl ?_
  refine lv_icmp_ge (pc := 6) (tgt := 54) hx hb dX4_type_6 (by decide) (fun c1 => ?_) (fun c1 => ?_)
  · replace h := ez_it c1 h
    refine lv_iconst (v := 0) (pc := 54) hx hb dX4_type_54 rfl ?_
    obtain rfl := ez_r1 h
    exact ez_retZ C0 (show narrow .boolean (.int 0) = .int 0 from rfl) hP hD hK hS dX4_type_55
  · replace h := ez_if c1 h
    refine lv_iload_n (pc := 9) hx hb dX4_type_9 rfl (lv_at hl 1 rfl) ?_
    replace h := ez_bd h
    obtain ⟨z2, e3, h⟩ := h
    refine ez_croI (r := z2) (pc := 10) (va_runS (g := F0 m 10 ls [.int x1]) (As := [.int x1]) (rest := []) ⟨hx, hb, hml, hown, hw⟩ (kX4_isDigit l n x1 z2 e3) (va_cwS 1 hw (ez_gS mw492 mw493 mw4 mw494) rfl rfl rfl (by decide +kernel) ⟨Nat.le_of_ble_eq_true rfl, Nat.le_of_ble_eq_true rfl⟩) (ez_preRS hN) rfl rfl hl.1 rfl (lv_room (Nat.le_of_ble_eq_true rfl)) dX4_type_10 ⟨Nat.le_refl _, Nat.le_refl _⟩) ?_
    refine lv_if_ne (pc := 13) (tgt := 56) hx hb dX4_type_13 (by decide) (fun c4 => ?_) (fun c4 => ?_)
    · replace h := ez_if c4 h
      refine lv_aload_n (pc := 56) hx hb dX4_type_56 rfl (lv_at hl 0 rfl) ?_
      refine va_get (D := D) (pc := 57) hx hb hw inX4 hown hK hP 0 rfl rfl 1 (by decide) (hw _ mw428) (fun _ h9 => h9) rfl dX4_type_57 ?_
      refine lv_aload_n (pc := 60) hx hb dX4_type_60 rfl (lv_at hl 0 rfl) ?_
      refine va_get (D := D) (pc := 61) hx hb hw inX4 hown hK hP 0 rfl rfl 0 (by decide) (hw _ mw427) (fun _ h9 => h9) rfl dX4_type_61 ?_
      refine lv_iload_n (pc := 64) hx hb dX4_type_64 rfl (lv_at hl 1 rfl) ?_
      replace h := ez_bd h
      obtain ⟨w6, e5, h⟩ := h
      obtain ⟨e5i, e5⟩ := ez_stIs e5
      refine va_iast (D := D) (pc := 65) hx hb hK hP hD hS 1 0 rfl rfl e5i dX4_type_65 (fun H locs hP hD hS => ?_)
      replace hP : va_P D vwCl (wM a k w6) H := by rw [e5]; exact hP
      replace hD : va_D A (wM a k w6) := by rw [e5]; exact hD
      refine lv_aload_n (pc := 66) hx hb dX4_type_66 rfl (lv_at hl 0 rfl) ?_
      refine lv_dup (pc := 67) hx hb dX4_type_67 rfl ?_
      refine va_get (D := D) (pc := 68) hx hb hw inX4 hown hK hP 0 rfl rfl 0 (by decide) (hw _ mw427) (fun _ h9 => h9) rfl dX4_type_68 ?_
      refine lv_iconst (v := 1) (pc := 71) hx hb dX4_type_71 rfl ?_
      refine lv_iadd (pc := 72) hx hb dX4_type_72 ?_
      replace h := ez_bd h
      obtain ⟨w8, e7, h⟩ := h
      refine va_put (D := D) (v := .int ((w6.1 0 0) + 1)) (ty := .int) (pc := 73) hx hb hw inX4 tyX4 tyX4_ok nmX4 hown hK hP hD hS 0 rfl rfl 0 (by decide) (hw _ mw427) (fun _ h9 => h9) rfl (by decide +kernel) rfl rfl (Nat.le_of_ble_eq_true rfl) dX4_type_73 (fun H locs hP hD hS => ?_)
      replace hP : va_P D vwCl (wM a k w8) H := by rw [(ez_fIs e7)]; exact hP
      replace hD : va_D A (wM a k w8) := by rw [(ez_fIs e7)]; exact hD
      refine lv_iconst (v := 1) (pc := 76) hx hb dX4_type_76 rfl ?_
      obtain rfl := ez_r1 h
      exact ez_retZ C0 (show narrow .boolean (.int 1) = .int 1 from rfl) hP hD hK hS dX4_type_77
    · replace h := ez_it c4 h
      refine lv_iload_n (pc := 16) hx hb dX4_type_16 rfl (lv_at hl 1 rfl) ?_
      replace h := ez_bd h
      obtain ⟨z9, e10, h⟩ := h
      refine ez_croI (r := z9) (pc := 17) (va_runS (g := F0 m 17 ls [.int x1]) (As := [.int x1]) (rest := []) ⟨hx, hb, hml, hown, hw⟩ (kX4_isName l n x1 z9 e10) (va_cwS 1 hw (ez_gS mw495 mw496 mw4 mw497) rfl rfl rfl (by decide +kernel) ⟨Nat.le_of_ble_eq_true rfl, Nat.le_of_ble_eq_true rfl⟩) (ez_preRS hN) rfl rfl hl.1 rfl (lv_room (Nat.le_of_ble_eq_true rfl)) dX4_type_17 ⟨Nat.le_refl _, Nat.le_refl _⟩) ?_
      refine lv_if_ne (pc := 20) (tgt := 56) hx hb dX4_type_20 (by decide) (fun c11 => ?_) (fun c11 => ?_)
      · replace h := ez_if c11 h
        refine lv_aload_n (pc := 56) hx hb dX4_type_56 rfl (lv_at hl 0 rfl) ?_
        refine va_get (D := D) (pc := 57) hx hb hw inX4 hown hK hP 0 rfl rfl 1 (by decide) (hw _ mw428) (fun _ h9 => h9) rfl dX4_type_57 ?_
        refine lv_aload_n (pc := 60) hx hb dX4_type_60 rfl (lv_at hl 0 rfl) ?_
        refine va_get (D := D) (pc := 61) hx hb hw inX4 hown hK hP 0 rfl rfl 0 (by decide) (hw _ mw427) (fun _ h9 => h9) rfl dX4_type_61 ?_
        refine lv_iload_n (pc := 64) hx hb dX4_type_64 rfl (lv_at hl 1 rfl) ?_
        replace h := ez_bd h
        obtain ⟨w13, e12, h⟩ := h
        obtain ⟨e12i, e12⟩ := ez_stIs e12
        refine va_iast (D := D) (pc := 65) hx hb hK hP hD hS 1 0 rfl rfl e12i dX4_type_65 (fun H locs hP hD hS => ?_)
        replace hP : va_P D vwCl (wM a k w13) H := by rw [e12]; exact hP
        replace hD : va_D A (wM a k w13) := by rw [e12]; exact hD
        refine lv_aload_n (pc := 66) hx hb dX4_type_66 rfl (lv_at hl 0 rfl) ?_
        refine lv_dup (pc := 67) hx hb dX4_type_67 rfl ?_
        refine va_get (D := D) (pc := 68) hx hb hw inX4 hown hK hP 0 rfl rfl 0 (by decide) (hw _ mw427) (fun _ h9 => h9) rfl dX4_type_68 ?_
        refine lv_iconst (v := 1) (pc := 71) hx hb dX4_type_71 rfl ?_
        refine lv_iadd (pc := 72) hx hb dX4_type_72 ?_
        replace h := ez_bd h
        obtain ⟨w15, e14, h⟩ := h
        refine va_put (D := D) (v := .int ((w13.1 0 0) + 1)) (ty := .int) (pc := 73) hx hb hw inX4 tyX4 tyX4_ok nmX4 hown hK hP hD hS 0 rfl rfl 0 (by decide) (hw _ mw427) (fun _ h9 => h9) rfl (by decide +kernel) rfl rfl (Nat.le_of_ble_eq_true rfl) dX4_type_73 (fun H locs hP hD hS => ?_)
        replace hP : va_P D vwCl (wM a k w15) H := by rw [(ez_fIs e14)]; exact hP
        replace hD : va_D A (wM a k w15) := by rw [(ez_fIs e14)]; exact hD
        refine lv_iconst (v := 1) (pc := 76) hx hb dX4_type_76 rfl ?_
        obtain rfl := ez_r1 h
        exact ez_retZ C0 (show narrow .boolean (.int 1) = .int 1 from rfl) hP hD hK hS dX4_type_77
      · replace h := ez_it c11 h
        refine lv_iload_n (pc := 23) hx hb dX4_type_23 rfl (lv_at hl 1 rfl) ?_
        replace h := ez_bd h
        obtain ⟨z16, e17, h⟩ := h
        refine ez_croI (r := z16) (pc := 24) (va_runS (g := F0 m 24 ls [.int x1]) (As := [.int x1]) (rest := []) ⟨hx, hb, hml, hown, hw⟩ (kX4_isSign l n x1 z16 e17) (va_cwS 1 hw (ez_gS mw498 mw499 mw4 mw500) rfl rfl rfl (by decide +kernel) ⟨Nat.le_of_ble_eq_true rfl, Nat.le_of_ble_eq_true rfl⟩) (ez_preRS hN) rfl rfl hl.1 rfl (lv_room (Nat.le_of_ble_eq_true rfl)) dX4_type_24 ⟨Nat.le_refl _, Nat.le_refl _⟩) ?_
        refine lv_if_ne (pc := 27) (tgt := 56) hx hb dX4_type_27 (by decide) (fun c18 => ?_) (fun c18 => ?_)
        · replace h := ez_if c18 h
          refine lv_aload_n (pc := 56) hx hb dX4_type_56 rfl (lv_at hl 0 rfl) ?_
          refine va_get (D := D) (pc := 57) hx hb hw inX4 hown hK hP 0 rfl rfl 1 (by decide) (hw _ mw428) (fun _ h9 => h9) rfl dX4_type_57 ?_
          refine lv_aload_n (pc := 60) hx hb dX4_type_60 rfl (lv_at hl 0 rfl) ?_
          refine va_get (D := D) (pc := 61) hx hb hw inX4 hown hK hP 0 rfl rfl 0 (by decide) (hw _ mw427) (fun _ h9 => h9) rfl dX4_type_61 ?_
          refine lv_iload_n (pc := 64) hx hb dX4_type_64 rfl (lv_at hl 1 rfl) ?_
          replace h := ez_bd h
          obtain ⟨w20, e19, h⟩ := h
          obtain ⟨e19i, e19⟩ := ez_stIs e19
          refine va_iast (D := D) (pc := 65) hx hb hK hP hD hS 1 0 rfl rfl e19i dX4_type_65 (fun H locs hP hD hS => ?_)
          replace hP : va_P D vwCl (wM a k w20) H := by rw [e19]; exact hP
          replace hD : va_D A (wM a k w20) := by rw [e19]; exact hD
          refine lv_aload_n (pc := 66) hx hb dX4_type_66 rfl (lv_at hl 0 rfl) ?_
          refine lv_dup (pc := 67) hx hb dX4_type_67 rfl ?_
          refine va_get (D := D) (pc := 68) hx hb hw inX4 hown hK hP 0 rfl rfl 0 (by decide) (hw _ mw427) (fun _ h9 => h9) rfl dX4_type_68 ?_
          refine lv_iconst (v := 1) (pc := 71) hx hb dX4_type_71 rfl ?_
          refine lv_iadd (pc := 72) hx hb dX4_type_72 ?_
          replace h := ez_bd h
          obtain ⟨w22, e21, h⟩ := h
          refine va_put (D := D) (v := .int ((w20.1 0 0) + 1)) (ty := .int) (pc := 73) hx hb hw inX4 tyX4 tyX4_ok nmX4 hown hK hP hD hS 0 rfl rfl 0 (by decide) (hw _ mw427) (fun _ h9 => h9) rfl (by decide +kernel) rfl rfl (Nat.le_of_ble_eq_true rfl) dX4_type_73 (fun H locs hP hD hS => ?_)
          replace hP : va_P D vwCl (wM a k w22) H := by rw [(ez_fIs e21)]; exact hP
          replace hD : va_D A (wM a k w22) := by rw [(ez_fIs e21)]; exact hD
          refine lv_iconst (v := 1) (pc := 76) hx hb dX4_type_76 rfl ?_
          obtain rfl := ez_r1 h
          exact ez_retZ C0 (show narrow .boolean (.int 1) = .int 1 from rfl) hP hD hK hS dX4_type_77
        · replace h := ez_it c18 h
          refine lv_iload_n (pc := 30) hx hb dX4_type_30 rfl (lv_at hl 1 rfl) ?_
          refine lv_bipush (v := 114) (pc := 31) hx hb dX4_type_31 rfl ?_
          refine lv_icmp_eq (pc := 33) (tgt := 56) hx hb dX4_type_33 (by decide) (fun c23 => ?_) (fun c23 => ?_)
          · replace h := ez_it c23 h
            refine lv_aload_n (pc := 56) hx hb dX4_type_56 rfl (lv_at hl 0 rfl) ?_
            refine va_get (D := D) (pc := 57) hx hb hw inX4 hown hK hP 0 rfl rfl 1 (by decide) (hw _ mw428) (fun _ h9 => h9) rfl dX4_type_57 ?_
            refine lv_aload_n (pc := 60) hx hb dX4_type_60 rfl (lv_at hl 0 rfl) ?_
            refine va_get (D := D) (pc := 61) hx hb hw inX4 hown hK hP 0 rfl rfl 0 (by decide) (hw _ mw427) (fun _ h9 => h9) rfl dX4_type_61 ?_
            refine lv_iload_n (pc := 64) hx hb dX4_type_64 rfl (lv_at hl 1 rfl) ?_
            replace h := ez_bd h
            obtain ⟨w25, e24, h⟩ := h
            obtain ⟨e24i, e24⟩ := ez_stIs e24
            refine va_iast (D := D) (pc := 65) hx hb hK hP hD hS 1 0 rfl rfl e24i dX4_type_65 (fun H locs hP hD hS => ?_)
            replace hP : va_P D vwCl (wM a k w25) H := by rw [e24]; exact hP
            replace hD : va_D A (wM a k w25) := by rw [e24]; exact hD
            refine lv_aload_n (pc := 66) hx hb dX4_type_66 rfl (lv_at hl 0 rfl) ?_
            refine lv_dup (pc := 67) hx hb dX4_type_67 rfl ?_
            refine va_get (D := D) (pc := 68) hx hb hw inX4 hown hK hP 0 rfl rfl 0 (by decide) (hw _ mw427) (fun _ h9 => h9) rfl dX4_type_68 ?_
            refine lv_iconst (v := 1) (pc := 71) hx hb dX4_type_71 rfl ?_
            refine lv_iadd (pc := 72) hx hb dX4_type_72 ?_
            replace h := ez_bd h
            obtain ⟨w27, e26, h⟩ := h
            refine va_put (D := D) (v := .int ((w25.1 0 0) + 1)) (ty := .int) (pc := 73) hx hb hw inX4 tyX4 tyX4_ok nmX4 hown hK hP hD hS 0 rfl rfl 0 (by decide) (hw _ mw427) (fun _ h9 => h9) rfl (by decide +kernel) rfl rfl (Nat.le_of_ble_eq_true rfl) dX4_type_73 (fun H locs hP hD hS => ?_)
            replace hP : va_P D vwCl (wM a k w27) H := by rw [(ez_fIs e26)]; exact hP
            replace hD : va_D A (wM a k w27) := by rw [(ez_fIs e26)]; exact hD
            refine lv_iconst (v := 1) (pc := 76) hx hb dX4_type_76 rfl ?_
            obtain rfl := ez_r1 h
            exact ez_retZ C0 (show narrow .boolean (.int 1) = .int 1 from rfl) hP hD hK hS dX4_type_77
          · replace h := ez_if c23 h
            refine lv_iload_n (pc := 36) hx hb dX4_type_36 rfl (lv_at hl 1 rfl) ?_
            refine lv_bipush (v := 94) (pc := 37) hx hb dX4_type_37 rfl ?_
            refine lv_icmp_eq (pc := 39) (tgt := 56) hx hb dX4_type_39 (by decide) (fun c28 => ?_) (fun c28 => ?_)
            · replace h := ez_it c28 h
              refine lv_aload_n (pc := 56) hx hb dX4_type_56 rfl (lv_at hl 0 rfl) ?_
              refine va_get (D := D) (pc := 57) hx hb hw inX4 hown hK hP 0 rfl rfl 1 (by decide) (hw _ mw428) (fun _ h9 => h9) rfl dX4_type_57 ?_
              refine lv_aload_n (pc := 60) hx hb dX4_type_60 rfl (lv_at hl 0 rfl) ?_
              refine va_get (D := D) (pc := 61) hx hb hw inX4 hown hK hP 0 rfl rfl 0 (by decide) (hw _ mw427) (fun _ h9 => h9) rfl dX4_type_61 ?_
              refine lv_iload_n (pc := 64) hx hb dX4_type_64 rfl (lv_at hl 1 rfl) ?_
              replace h := ez_bd h
              obtain ⟨w30, e29, h⟩ := h
              obtain ⟨e29i, e29⟩ := ez_stIs e29
              refine va_iast (D := D) (pc := 65) hx hb hK hP hD hS 1 0 rfl rfl e29i dX4_type_65 (fun H locs hP hD hS => ?_)
              replace hP : va_P D vwCl (wM a k w30) H := by rw [e29]; exact hP
              replace hD : va_D A (wM a k w30) := by rw [e29]; exact hD
              refine lv_aload_n (pc := 66) hx hb dX4_type_66 rfl (lv_at hl 0 rfl) ?_
              refine lv_dup (pc := 67) hx hb dX4_type_67 rfl ?_
              refine va_get (D := D) (pc := 68) hx hb hw inX4 hown hK hP 0 rfl rfl 0 (by decide) (hw _ mw427) (fun _ h9 => h9) rfl dX4_type_68 ?_
              refine lv_iconst (v := 1) (pc := 71) hx hb dX4_type_71 rfl ?_
              refine lv_iadd (pc := 72) hx hb dX4_type_72 ?_
              replace h := ez_bd h
              obtain ⟨w32, e31, h⟩ := h
              refine va_put (D := D) (v := .int ((w30.1 0 0) + 1)) (ty := .int) (pc := 73) hx hb hw inX4 tyX4 tyX4_ok nmX4 hown hK hP hD hS 0 rfl rfl 0 (by decide) (hw _ mw427) (fun _ h9 => h9) rfl (by decide +kernel) rfl rfl (Nat.le_of_ble_eq_true rfl) dX4_type_73 (fun H locs hP hD hS => ?_)
              replace hP : va_P D vwCl (wM a k w32) H := by rw [(ez_fIs e31)]; exact hP
              replace hD : va_D A (wM a k w32) := by rw [(ez_fIs e31)]; exact hD
              refine lv_iconst (v := 1) (pc := 76) hx hb dX4_type_76 rfl ?_
              obtain rfl := ez_r1 h
              exact ez_retZ C0 (show narrow .boolean (.int 1) = .int 1 from rfl) hP hD hK hS dX4_type_77
            · replace h := ez_if c28 h
              refine lv_iload_n (pc := 42) hx hb dX4_type_42 rfl (lv_at hl 1 rfl) ?_
              refine lv_bipush (v := 40) (pc := 43) hx hb dX4_type_43 rfl ?_
              refine lv_icmp_eq (pc := 45) (tgt := 56) hx hb dX4_type_45 (by decide) (fun c33 => ?_) (fun c33 => ?_)
              · replace h := ez_it c33 h
                refine lv_aload_n (pc := 56) hx hb dX4_type_56 rfl (lv_at hl 0 rfl) ?_
                refine va_get (D := D) (pc := 57) hx hb hw inX4 hown hK hP 0 rfl rfl 1 (by decide) (hw _ mw428) (fun _ h9 => h9) rfl dX4_type_57 ?_
                refine lv_aload_n (pc := 60) hx hb dX4_type_60 rfl (lv_at hl 0 rfl) ?_
                refine va_get (D := D) (pc := 61) hx hb hw inX4 hown hK hP 0 rfl rfl 0 (by decide) (hw _ mw427) (fun _ h9 => h9) rfl dX4_type_61 ?_
                refine lv_iload_n (pc := 64) hx hb dX4_type_64 rfl (lv_at hl 1 rfl) ?_
                replace h := ez_bd h
                obtain ⟨w35, e34, h⟩ := h
                obtain ⟨e34i, e34⟩ := ez_stIs e34
                refine va_iast (D := D) (pc := 65) hx hb hK hP hD hS 1 0 rfl rfl e34i dX4_type_65 (fun H locs hP hD hS => ?_)
                replace hP : va_P D vwCl (wM a k w35) H := by rw [e34]; exact hP
                replace hD : va_D A (wM a k w35) := by rw [e34]; exact hD
                refine lv_aload_n (pc := 66) hx hb dX4_type_66 rfl (lv_at hl 0 rfl) ?_
                refine lv_dup (pc := 67) hx hb dX4_type_67 rfl ?_
                refine va_get (D := D) (pc := 68) hx hb hw inX4 hown hK hP 0 rfl rfl 0 (by decide) (hw _ mw427) (fun _ h9 => h9) rfl dX4_type_68 ?_
                refine lv_iconst (v := 1) (pc := 71) hx hb dX4_type_71 rfl ?_
                refine lv_iadd (pc := 72) hx hb dX4_type_72 ?_
                replace h := ez_bd h
                obtain ⟨w37, e36, h⟩ := h
                refine va_put (D := D) (v := .int ((w35.1 0 0) + 1)) (ty := .int) (pc := 73) hx hb hw inX4 tyX4 tyX4_ok nmX4 hown hK hP hD hS 0 rfl rfl 0 (by decide) (hw _ mw427) (fun _ h9 => h9) rfl (by decide +kernel) rfl rfl (Nat.le_of_ble_eq_true rfl) dX4_type_73 (fun H locs hP hD hS => ?_)
                replace hP : va_P D vwCl (wM a k w37) H := by rw [(ez_fIs e36)]; exact hP
                replace hD : va_D A (wM a k w37) := by rw [(ez_fIs e36)]; exact hD
                refine lv_iconst (v := 1) (pc := 76) hx hb dX4_type_76 rfl ?_
                obtain rfl := ez_r1 h
                exact ez_retZ C0 (show narrow .boolean (.int 1) = .int 1 from rfl) hP hD hK hS dX4_type_77
              · replace h := ez_if c33 h
                refine lv_iload_n (pc := 48) hx hb dX4_type_48 rfl (lv_at hl 1 rfl) ?_
                refine lv_bipush (v := 41) (pc := 49) hx hb dX4_type_49 rfl ?_
                refine lv_icmp_eq (pc := 51) (tgt := 56) hx hb dX4_type_51 (by decide) (fun c38 => ?_) (fun c38 => ?_)
                · replace h := ez_it c38 h
                  refine lv_aload_n (pc := 56) hx hb dX4_type_56 rfl (lv_at hl 0 rfl) ?_
                  refine va_get (D := D) (pc := 57) hx hb hw inX4 hown hK hP 0 rfl rfl 1 (by decide) (hw _ mw428) (fun _ h9 => h9) rfl dX4_type_57 ?_
                  refine lv_aload_n (pc := 60) hx hb dX4_type_60 rfl (lv_at hl 0 rfl) ?_
                  refine va_get (D := D) (pc := 61) hx hb hw inX4 hown hK hP 0 rfl rfl 0 (by decide) (hw _ mw427) (fun _ h9 => h9) rfl dX4_type_61 ?_
                  refine lv_iload_n (pc := 64) hx hb dX4_type_64 rfl (lv_at hl 1 rfl) ?_
                  replace h := ez_bd h
                  obtain ⟨w40, e39, h⟩ := h
                  obtain ⟨e39i, e39⟩ := ez_stIs e39
                  refine va_iast (D := D) (pc := 65) hx hb hK hP hD hS 1 0 rfl rfl e39i dX4_type_65 (fun H locs hP hD hS => ?_)
                  replace hP : va_P D vwCl (wM a k w40) H := by rw [e39]; exact hP
                  replace hD : va_D A (wM a k w40) := by rw [e39]; exact hD
                  refine lv_aload_n (pc := 66) hx hb dX4_type_66 rfl (lv_at hl 0 rfl) ?_
                  refine lv_dup (pc := 67) hx hb dX4_type_67 rfl ?_
                  refine va_get (D := D) (pc := 68) hx hb hw inX4 hown hK hP 0 rfl rfl 0 (by decide) (hw _ mw427) (fun _ h9 => h9) rfl dX4_type_68 ?_
                  refine lv_iconst (v := 1) (pc := 71) hx hb dX4_type_71 rfl ?_
                  refine lv_iadd (pc := 72) hx hb dX4_type_72 ?_
                  replace h := ez_bd h
                  obtain ⟨w42, e41, h⟩ := h
                  refine va_put (D := D) (v := .int ((w40.1 0 0) + 1)) (ty := .int) (pc := 73) hx hb hw inX4 tyX4 tyX4_ok nmX4 hown hK hP hD hS 0 rfl rfl 0 (by decide) (hw _ mw427) (fun _ h9 => h9) rfl (by decide +kernel) rfl rfl (Nat.le_of_ble_eq_true rfl) dX4_type_73 (fun H locs hP hD hS => ?_)
                  replace hP : va_P D vwCl (wM a k w42) H := by rw [(ez_fIs e41)]; exact hP
                  replace hD : va_D A (wM a k w42) := by rw [(ez_fIs e41)]; exact hD
                  refine lv_iconst (v := 1) (pc := 76) hx hb dX4_type_76 rfl ?_
                  obtain rfl := ez_r1 h
                  exact ez_retZ C0 (show narrow .boolean (.int 1) = .int 1 from rfl) hP hD hK hS dX4_type_77
                · replace h := ez_if c38 h
                  refine lv_iconst (v := 0) (pc := 54) hx hb dX4_type_54 rfl ?_
                  obtain rfl := ez_r1 h
                  exact ez_retZ C0 (show narrow .boolean (.int 0) = .int 0 from rfl) hP hD hK hS dX4_type_55
set_option maxRecDepth 100000 in
theorem kX4_type (l : Launch) (D : va_G) (a : Nat → Nat) (k : Nat → ClassId) (n : Nat) (x1 : Int32) (w : Wd) (z : Int32 × Wd) (h : fX4_type n x1 w = some z) (sz : Nat) : Met l yX4_type wsX4_type ({ frames := 1, cells := 0, slots := 0, locals := 20 } : Room) (ez_Pc D (tM k) [.ref (a 0), .int x1] (wM a k w) sz) (ez_Qi D (tM k) (va_A (wM a k w) sz) z.1 (wM a k z.2)) 0 0 (va_A (wM a k w) sz) :=
  ez_mk (Qf := fun A => (ez_Qi D (tM k) A z.1 (wM a k z.2))) (by decide) rfl (Nat.le_of_ble_eq_true rfl) (fun p e s m below meth c A ls C0 _ hl hP hD hK => tX4_type_0 C0 hK n s.heap [] ls x1 w (lv_sub (l := [(0, .ref (a 0)), (1, .int x1)]) hl [0, 1] rfl) hP hD va_S.rf h) sz
/-! EnclosureCalculatorModel erase -/
theorem dX4_erase_0 : decode cX4_erase 0 = .ok (.aload_n 0, 1) := by decide +kernel
theorem dX4_erase_1 : decode cX4_erase 1 = .ok (.getfield 45, 3) := by decide +kernel
theorem dX4_erase_4 : decode cX4_erase 4 = .ok (.ifCond .ne 5, 3) := by decide +kernel
theorem dX4_erase_7 : decode cX4_erase 7 = .ok (.iconst 0, 1) := by decide +kernel
theorem dX4_erase_8 : decode cX4_erase 8 = .ok (.ireturn, 1) := by decide +kernel
theorem dX4_erase_9 : decode cX4_erase 9 = .ok (.aload_n 0, 1) := by decide +kernel
theorem dX4_erase_10 : decode cX4_erase 10 = .ok (.dup, 1) := by decide +kernel
theorem dX4_erase_11 : decode cX4_erase 11 = .ok (.getfield 45, 3) := by decide +kernel
theorem dX4_erase_14 : decode cX4_erase 14 = .ok (.iconst 1, 1) := by decide +kernel
theorem dX4_erase_15 : decode cX4_erase 15 = .ok (.isub, 1) := by decide +kernel
theorem dX4_erase_16 : decode cX4_erase 16 = .ok (.putfield 45, 3) := by decide +kernel
theorem dX4_erase_19 : decode cX4_erase 19 = .ok (.iconst 1, 1) := by decide +kernel
theorem dX4_erase_20 : decode cX4_erase 20 = .ok (.ireturn, 1) := by decide +kernel
def fX4_erase (n : Nat) (w : Wd) : Option (Int32 × Wd) :=
    if (w.1 0 0) = 0 then
      some (0, w)
    else
      (ez_fI w 0 ((w.1 0 0) - 1)).bind fun w3 =>
      some (1, w3)
set_option maxHeartbeats 4000000 in
set_option maxRecDepth 100000 in
theorem tX4_erase_0 {p : Program} {l : Launch} {e : Env} {s : State} {m : MethodId} {args : Array Value} {below : List Frame} {meth : Method} {c : Code} {A : Nat → Prop} {D : va_G} {a : Nat → Nat} {k : Nat → ClassId} {z : Int32 × Wd} (C0 : ez_C p s m args meth c cX4_erase (some .boolean) 1 RX4 A) (hK : va_K D vwCl (tM k) s) : ∀ (n : Nat) (H : Heap) (locs : List Loc) (ls : Array Slot) (w : Wd), lv_has ls 1 [(0, .ref (a 0))] → va_P D vwCl (wM a k w) H → va_D A (wM a k w) → va_S A s.heap H locs → fX4_erase n w = some z → W p l e ({ frames := 0, cells := 0, slots := 0, locals := 0 } : Room) s m args below meth c H locs 0 0 (MQ below (ez_Qi D (tM k) A z.1 (wM a k z.2)) args s 0 0 A) (F0 m 0 ls []) := by
  intro n
  intro H locs ls w hl hP hD hS h
  rw [fX4_erase] at h
  have C1 := C0
  obtain ⟨hx, hb, hr, hml, hown, hw, hlk, hA, hN⟩ := C1
  refine lv_aload_n (pc := 0) hx hb dX4_erase_0 rfl (lv_at hl 0 rfl) ?_
  refine va_get (D := D) (pc := 1) hx hb hw inX4 hown hK hP 0 rfl rfl 0 (by decide) (hw _ mw427) (fun _ h9 => h9) rfl dX4_erase_1 ?_
  refine lv_if_ne (pc := 4) (tgt := 9) hx hb dX4_erase_4 (by decide) (fun c1 => ?_) (fun c1 => ?_)
  · replace h := ez_if c1 h
    refine lv_aload_n (pc := 9) hx hb dX4_erase_9 rfl (lv_at hl 0 rfl) ?_
    refine lv_dup (pc := 10) hx hb dX4_erase_10 rfl ?_
    refine va_get (D := D) (pc := 11) hx hb hw inX4 hown hK hP 0 rfl rfl 0 (by decide) (hw _ mw427) (fun _ h9 => h9) rfl dX4_erase_11 ?_
    refine lv_iconst (v := 1) (pc := 14) hx hb dX4_erase_14 rfl ?_
    refine lv_isub (pc := 15) hx hb dX4_erase_15 ?_
    replace h := ez_bd h
    obtain ⟨w3, e2, h⟩ := h
    refine va_put (D := D) (v := .int ((w.1 0 0) - 1)) (ty := .int) (pc := 16) hx hb hw inX4 tyX4 tyX4_ok nmX4 hown hK hP hD hS 0 rfl rfl 0 (by decide) (hw _ mw427) (fun _ h9 => h9) rfl (by decide +kernel) rfl rfl (Nat.le_of_ble_eq_true rfl) dX4_erase_16 (fun H locs hP hD hS => ?_)
    replace hP : va_P D vwCl (wM a k w3) H := by rw [(ez_fIs e2)]; exact hP
    replace hD : va_D A (wM a k w3) := by rw [(ez_fIs e2)]; exact hD
    refine lv_iconst (v := 1) (pc := 19) hx hb dX4_erase_19 rfl ?_
    obtain rfl := ez_r1 h
    exact ez_retZ C0 (show narrow .boolean (.int 1) = .int 1 from rfl) hP hD hK hS dX4_erase_20
  · replace h := ez_it c1 h
    refine lv_iconst (v := 0) (pc := 7) hx hb dX4_erase_7 rfl ?_
    obtain rfl := ez_r1 h
    exact ez_retZ C0 (show narrow .boolean (.int 0) = .int 0 from rfl) hP hD hK hS dX4_erase_8
set_option maxRecDepth 100000 in
theorem kX4_erase (l : Launch) (D : va_G) (a : Nat → Nat) (k : Nat → ClassId) (n : Nat) (w : Wd) (z : Int32 × Wd) (h : fX4_erase n w = some z) (sz : Nat) : Met l yX4_erase wsX4_erase ({ frames := 0, cells := 0, slots := 0, locals := 0 } : Room) (ez_Pc D (tM k) [.ref (a 0)] (wM a k w) sz) (ez_Qi D (tM k) (va_A (wM a k w) sz) z.1 (wM a k z.2)) 0 0 (va_A (wM a k w) sz) :=
  ez_mk (Qf := fun A => (ez_Qi D (tM k) A z.1 (wM a k z.2))) (by decide) rfl (Nat.le_of_ble_eq_true rfl) (fun p e s m below meth c A ls C0 _ hl hP hD hK => tX4_erase_0 C0 hK n s.heap [] ls w (lv_sub (l := [(0, .ref (a 0))]) hl [0] rfl) hP hD va_S.rf h) sz
/-! EnclosureCalculatorModel length -/
theorem dX4_length_0 : decode cX4_length 0 = .ok (.aload_n 0, 1) := by decide +kernel
theorem dX4_length_1 : decode cX4_length 1 = .ok (.getfield 45, 3) := by decide +kernel
theorem dX4_length_4 : decode cX4_length 4 = .ok (.ireturn, 1) := by decide +kernel
def fX4_length (n : Nat) (w : Wd) : Option (Int32) :=
    some (w.1 0 0)
set_option maxHeartbeats 4000000 in
set_option maxRecDepth 100000 in
theorem tX4_length_0 {p : Program} {l : Launch} {e : Env} {s : State} {m : MethodId} {args : Array Value} {below : List Frame} {meth : Method} {c : Code} {D : va_G} {a : Nat → Nat} {k : Nat → ClassId} {z : Int32} {w : Wd} (C0 : ez_C p s m args meth c cX4_length (some .int) 1 RX4 (fun _ => True)) (hK : va_K D vwCl (tM k) s) (hP : va_P D vwCl (wM a k w) s.heap) : ∀ (n : Nat) (ls : Array Slot), lv_has ls 1 [(0, .ref (a 0))] → fX4_length n w = some z → W p l e ({ frames := 0, cells := 0, slots := 0, locals := 0 } : Room) s m args below meth c s.heap [] 0 0 (MQ below (ez_Ri z) args s 0 0 (fun _ => False)) (F0 m 0 ls []) := by
  intro n
  intro ls hl h
  rw [fX4_length] at h
  have C1 := C0
  obtain ⟨hx, hb, hr, hml, hown, hw, hlk, hA, hN⟩ := C1
  refine lv_aload_n (pc := 0) hx hb dX4_length_0 rfl (lv_at hl 0 rfl) ?_
  refine va_get (D := D) (pc := 1) hx hb hw inX4 hown hK hP 0 rfl rfl 0 (by decide) (hw _ mw427) (fun _ h9 => h9) rfl dX4_length_1 ?_
  obtain rfl := ez_r1 h
  exact ez_rroI C0 dX4_length_4
set_option maxRecDepth 100000 in
theorem kX4_length (l : Launch) (D : va_G) (a : Nat → Nat) (k : Nat → ClassId) (n : Nat) (w : Wd) (z : Int32) (h : fX4_length n w = some z) : Met l yX4_length wsX4_length ({ frames := 0, cells := 0, slots := 0, locals := 0 } : Room) (ez_Rc D (tM k) [.ref (a 0)] (wM a k w)) (ez_Ri z) 0 0 (fun _ => False) :=
  ez_mkR (by decide) rfl (Nat.le_of_ble_eq_true rfl) (fun p e s m below meth c ls C0 hl hP hK => tX4_length_0 C0 hK hP n ls (lv_sub (l := [(0, .ref (a 0))]) hl [0] rfl) h)
/-! EnclosureCalculatorModel inGrammar -/
theorem dX4_inGrammar_0 : decode cX4_inGrammar 0 = .ok (.iconst 0, 1) := by decide +kernel
theorem dX4_inGrammar_1 : decode cX4_inGrammar 1 = .ok (.istore_n 1, 1) := by decide +kernel
theorem dX4_inGrammar_2 : decode cX4_inGrammar 2 = .ok (.iconst 0, 1) := by decide +kernel
theorem dX4_inGrammar_3 : decode cX4_inGrammar 3 = .ok (.istore_n 2, 1) := by decide +kernel
theorem dX4_inGrammar_4 : decode cX4_inGrammar 4 = .ok (.iconst 0, 1) := by decide +kernel
theorem dX4_inGrammar_5 : decode cX4_inGrammar 5 = .ok (.istore_n 3, 1) := by decide +kernel
theorem dX4_inGrammar_6 : decode cX4_inGrammar 6 = .ok (.iload_n 3, 1) := by decide +kernel
theorem dX4_inGrammar_7 : decode cX4_inGrammar 7 = .ok (.aload_n 0, 1) := by decide +kernel
theorem dX4_inGrammar_8 : decode cX4_inGrammar 8 = .ok (.getfield 45, 3) := by decide +kernel
theorem dX4_inGrammar_11 : decode cX4_inGrammar 11 = .ok (.if_icmp .ge 61, 3) := by decide +kernel
theorem dX4_inGrammar_14 : decode cX4_inGrammar 14 = .ok (.iload_n 1, 1) := by decide +kernel
theorem dX4_inGrammar_15 : decode cX4_inGrammar 15 = .ok (.ifCond .lt 57, 3) := by decide +kernel
theorem dX4_inGrammar_18 : decode cX4_inGrammar 18 = .ok (.iload_n 1, 1) := by decide +kernel
theorem dX4_inGrammar_19 : decode cX4_inGrammar 19 = .ok (.aload_n 0, 1) := by decide +kernel
theorem dX4_inGrammar_20 : decode cX4_inGrammar 20 = .ok (.getfield 7, 3) := by decide +kernel
theorem dX4_inGrammar_23 : decode cX4_inGrammar 23 = .ok (.iload_n 3, 1) := by decide +kernel
theorem dX4_inGrammar_24 : decode cX4_inGrammar 24 = .ok (.iaload, 1) := by decide +kernel
theorem dX4_inGrammar_25 : decode cX4_inGrammar 25 = .ok (.iload_n 2, 1) := by decide +kernel
theorem dX4_inGrammar_26 : decode cX4_inGrammar 26 = .ok (.invokestatic 59, 3) := by decide +kernel
theorem dX4_inGrammar_29 : decode cX4_inGrammar 29 = .ok (.istore_n 1, 1) := by decide +kernel
theorem dX4_inGrammar_30 : decode cX4_inGrammar 30 = .ok (.aload_n 0, 1) := by decide +kernel
theorem dX4_inGrammar_31 : decode cX4_inGrammar 31 = .ok (.getfield 7, 3) := by decide +kernel
theorem dX4_inGrammar_34 : decode cX4_inGrammar 34 = .ok (.iload_n 3, 1) := by decide +kernel
theorem dX4_inGrammar_35 : decode cX4_inGrammar 35 = .ok (.iaload, 1) := by decide +kernel
theorem dX4_inGrammar_36 : decode cX4_inGrammar 36 = .ok (.bipush 40, 2) := by decide +kernel
theorem dX4_inGrammar_38 : decode cX4_inGrammar 38 = .ok (.if_icmp .ne 9, 3) := by decide +kernel
theorem dX4_inGrammar_41 : decode cX4_inGrammar 41 = .ok (.iload_n 2, 1) := by decide +kernel
theorem dX4_inGrammar_42 : decode cX4_inGrammar 42 = .ok (.iconst 1, 1) := by decide +kernel
theorem dX4_inGrammar_43 : decode cX4_inGrammar 43 = .ok (.iadd, 1) := by decide +kernel
theorem dX4_inGrammar_44 : decode cX4_inGrammar 44 = .ok (.goto 21, 3) := by decide +kernel
theorem dX4_inGrammar_47 : decode cX4_inGrammar 47 = .ok (.aload_n 0, 1) := by decide +kernel
theorem dX4_inGrammar_48 : decode cX4_inGrammar 48 = .ok (.getfield 7, 3) := by decide +kernel
theorem dX4_inGrammar_51 : decode cX4_inGrammar 51 = .ok (.iload_n 3, 1) := by decide +kernel
theorem dX4_inGrammar_52 : decode cX4_inGrammar 52 = .ok (.iaload, 1) := by decide +kernel
theorem dX4_inGrammar_53 : decode cX4_inGrammar 53 = .ok (.bipush 41, 2) := by decide +kernel
theorem dX4_inGrammar_55 : decode cX4_inGrammar 55 = .ok (.if_icmp .ne 9, 3) := by decide +kernel
theorem dX4_inGrammar_58 : decode cX4_inGrammar 58 = .ok (.iload_n 2, 1) := by decide +kernel
theorem dX4_inGrammar_59 : decode cX4_inGrammar 59 = .ok (.iconst 1, 1) := by decide +kernel
theorem dX4_inGrammar_60 : decode cX4_inGrammar 60 = .ok (.isub, 1) := by decide +kernel
theorem dX4_inGrammar_61 : decode cX4_inGrammar 61 = .ok (.goto 4, 3) := by decide +kernel
theorem dX4_inGrammar_64 : decode cX4_inGrammar 64 = .ok (.iload_n 2, 1) := by decide +kernel
theorem dX4_inGrammar_65 : decode cX4_inGrammar 65 = .ok (.istore_n 2, 1) := by decide +kernel
theorem dX4_inGrammar_66 : decode cX4_inGrammar 66 = .ok (.iinc 3 1, 3) := by decide +kernel
theorem dX4_inGrammar_69 : decode cX4_inGrammar 69 = .ok (.goto (-63), 3) := by decide +kernel
theorem dX4_inGrammar_72 : decode cX4_inGrammar 72 = .ok (.iload_n 2, 1) := by decide +kernel
theorem dX4_inGrammar_73 : decode cX4_inGrammar 73 = .ok (.ifCond .ne 23, 3) := by decide +kernel
theorem dX4_inGrammar_76 : decode cX4_inGrammar 76 = .ok (.iload_n 1, 1) := by decide +kernel
theorem dX4_inGrammar_77 : decode cX4_inGrammar 77 = .ok (.iconst 1, 1) := by decide +kernel
theorem dX4_inGrammar_78 : decode cX4_inGrammar 78 = .ok (.if_icmp .lt 8, 3) := by decide +kernel
theorem dX4_inGrammar_81 : decode cX4_inGrammar 81 = .ok (.iload_n 1, 1) := by decide +kernel
theorem dX4_inGrammar_82 : decode cX4_inGrammar 82 = .ok (.iconst 4, 1) := by decide +kernel
theorem dX4_inGrammar_83 : decode cX4_inGrammar 83 = .ok (.if_icmp .le 9, 3) := by decide +kernel
theorem dX4_inGrammar_86 : decode cX4_inGrammar 86 = .ok (.iload_n 1, 1) := by decide +kernel
theorem dX4_inGrammar_87 : decode cX4_inGrammar 87 = .ok (.bipush 7, 2) := by decide +kernel
theorem dX4_inGrammar_89 : decode cX4_inGrammar 89 = .ok (.if_icmp .ne 7, 3) := by decide +kernel
theorem dX4_inGrammar_92 : decode cX4_inGrammar 92 = .ok (.iconst 1, 1) := by decide +kernel
theorem dX4_inGrammar_93 : decode cX4_inGrammar 93 = .ok (.goto 4, 3) := by decide +kernel
theorem dX4_inGrammar_96 : decode cX4_inGrammar 96 = .ok (.iconst 0, 1) := by decide +kernel
theorem dX4_inGrammar_97 : decode cX4_inGrammar 97 = .ok (.ireturn, 1) := by decide +kernel
def fX4_inGrammar_72 (n : Nat) (x1 : Int32) (x2 : Int32) (w : Wd) : Option (Int32) :=
    if x2 = 0 then
      if x1 < 1 then
        if x1 = 7 then
          some 1
        else
          some 0
      else
        if x1 ≤ 4 then
          some 1
        else
          if x1 = 7 then
            some 1
          else
            some 0
    else
      some 0
def fX4_inGrammar_6 : Nat → Int32 → Int32 → Int32 → Wd → Option (Int32)
  | 0, _, _, _, _ => none
  | n + 1, x1, x2, x3, w =>
    if (w.1 0 0) ≤ x3 then
      fX4_inGrammar_72 n x1 x2 w
    else
      if x1 < 0 then
        fX4_inGrammar_72 n x1 x2 w
      else
        (ez_ldI w 1 20 x3).bind fun y4 =>
        (fX4_follow n x1 y4 x2).bind fun z5 =>
        (ez_ldI w 1 20 x3).bind fun y8 =>
        if y8 = 40 then
          fX4_inGrammar_6 n z5 (x2 + 1) (x3 + 1) w
        else
          (ez_ldI w 1 20 x3).bind fun y11 =>
          if y11 = 41 then
            fX4_inGrammar_6 n z5 (x2 - 1) (x3 + 1) w
          else
            fX4_inGrammar_6 n z5 x2 (x3 + 1) w
def fX4_inGrammar (n : Nat) (w : Wd) : Option (Int32) :=
    fX4_inGrammar_6 n 0 0 0 w
set_option maxHeartbeats 4000000 in
set_option maxRecDepth 100000 in
theorem tX4_inGrammar_72 {p : Program} {l : Launch} {e : Env} {s : State} {m : MethodId} {args : Array Value} {below : List Frame} {meth : Method} {c : Code} {D : va_G} {a : Nat → Nat} {k : Nat → ClassId} {z : Int32} {w : Wd} (C0 : ez_C p s m args meth c cX4_inGrammar (some .boolean) 4 RX4 (fun _ => True)) (hK : va_K D vwCl (tM k) s) (hP : va_P D vwCl (wM a k w) s.heap) : ∀ (n : Nat) (ls : Array Slot) (x1 : Int32) (x2 : Int32), lv_has ls 4 [(1, .int x1), (2, .int x2)] → fX4_inGrammar_72 n x1 x2 w = some z → W p l e ({ frames := 2, cells := 0, slots := 0, locals := 43 } : Room) s m args below meth c s.heap [] 0 0 (MQ below (ez_Ri z) args s 0 0 (fun _ => False)) (F0 m 72 ls []) := by
  intro n
  intro ls x1 x2 hl h
  rw [fX4_inGrammar_72] at h
  have C1 := C0
  obtain ⟨hx, hb, hr, hml, hown, hw, hlk, hA, hN⟩ := C1
  refine lv_iload_n (pc := 72) hx hb dX4_inGrammar_72 rfl (lv_at hl 1 rfl) ?_
  refine lv_if_ne (pc := 73) (tgt := 96) hx hb dX4_inGrammar_73 (by decide) (fun c1 => ?_) (fun c1 => ?_)
  · replace h := ez_if c1 h
    refine lv_iconst (v := 0) (pc := 96) hx hb dX4_inGrammar_96 rfl ?_
    obtain rfl := ez_r1 h
    exact ez_rroZ C0 (rfl) dX4_inGrammar_97
  · replace h := ez_it c1 h
    refine lv_iload_n (pc := 76) hx hb dX4_inGrammar_76 rfl (lv_at hl 0 rfl) ?_
    refine lv_iconst (v := 1) (pc := 77) hx hb dX4_inGrammar_77 rfl ?_
    refine lv_icmp_lt (pc := 78) (tgt := 86) hx hb dX4_inGrammar_78 (by decide) (fun c2 => ?_) (fun c2 => ?_)
    · replace h := ez_it c2 h
      refine lv_iload_n (pc := 86) hx hb dX4_inGrammar_86 rfl (lv_at hl 0 rfl) ?_
      refine lv_bipush (v := 7) (pc := 87) hx hb dX4_inGrammar_87 rfl ?_
      refine lv_icmp_ne (pc := 89) (tgt := 96) hx hb dX4_inGrammar_89 (by decide) (fun c3 => ?_) (fun c3 => ?_)
      · replace h := ez_if c3 h
        refine lv_iconst (v := 0) (pc := 96) hx hb dX4_inGrammar_96 rfl ?_
        obtain rfl := ez_r1 h
        exact ez_rroZ C0 (rfl) dX4_inGrammar_97
      · replace h := ez_it c3 h
        refine lv_iconst (v := 1) (pc := 92) hx hb dX4_inGrammar_92 rfl ?_
        refine lv_goto (pc := 93) (tgt := 97) hx hb dX4_inGrammar_93 (by decide) ?_
        obtain rfl := ez_r1 h
        exact ez_rroZ C0 (rfl) dX4_inGrammar_97
    · replace h := ez_if c2 h
      refine lv_iload_n (pc := 81) hx hb dX4_inGrammar_81 rfl (lv_at hl 0 rfl) ?_
      refine lv_iconst (v := 4) (pc := 82) hx hb dX4_inGrammar_82 rfl ?_
      refine lv_icmp_le (pc := 83) (tgt := 92) hx hb dX4_inGrammar_83 (by decide) (fun c4 => ?_) (fun c4 => ?_)
      · replace h := ez_it c4 h
        refine lv_iconst (v := 1) (pc := 92) hx hb dX4_inGrammar_92 rfl ?_
        refine lv_goto (pc := 93) (tgt := 97) hx hb dX4_inGrammar_93 (by decide) ?_
        obtain rfl := ez_r1 h
        exact ez_rroZ C0 (rfl) dX4_inGrammar_97
      · replace h := ez_if c4 h
        refine lv_iload_n (pc := 86) hx hb dX4_inGrammar_86 rfl (lv_at hl 0 rfl) ?_
        refine lv_bipush (v := 7) (pc := 87) hx hb dX4_inGrammar_87 rfl ?_
        refine lv_icmp_ne (pc := 89) (tgt := 96) hx hb dX4_inGrammar_89 (by decide) (fun c5 => ?_) (fun c5 => ?_)
        · replace h := ez_if c5 h
          refine lv_iconst (v := 0) (pc := 96) hx hb dX4_inGrammar_96 rfl ?_
          obtain rfl := ez_r1 h
          exact ez_rroZ C0 (rfl) dX4_inGrammar_97
        · replace h := ez_it c5 h
          refine lv_iconst (v := 1) (pc := 92) hx hb dX4_inGrammar_92 rfl ?_
          refine lv_goto (pc := 93) (tgt := 97) hx hb dX4_inGrammar_93 (by decide) ?_
          obtain rfl := ez_r1 h
          exact ez_rroZ C0 (rfl) dX4_inGrammar_97
set_option maxHeartbeats 4000000 in
set_option maxRecDepth 100000 in
theorem tX4_inGrammar_6 {p : Program} {l : Launch} {e : Env} {s : State} {m : MethodId} {args : Array Value} {below : List Frame} {meth : Method} {c : Code} {D : va_G} {a : Nat → Nat} {k : Nat → ClassId} {z : Int32} {w : Wd} (C0 : ez_C p s m args meth c cX4_inGrammar (some .boolean) 4 RX4 (fun _ => True)) (hK : va_K D vwCl (tM k) s) (hP : va_P D vwCl (wM a k w) s.heap) : ∀ (n : Nat) (ls : Array Slot) (x1 : Int32) (x2 : Int32) (x3 : Int32), lv_has ls 4 [(0, .ref (a 0)), (1, .int x1), (2, .int x2), (3, .int x3)] → fX4_inGrammar_6 n x1 x2 x3 w = some z → W p l e ({ frames := 2, cells := 0, slots := 0, locals := 43 } : Room) s m args below meth c s.heap [] 0 0 (MQ below (ez_Ri z) args s 0 0 (fun _ => False)) (F0 m 6 ls []) := by
  intro n
  induction n with
  | zero =>
    intro ls x1 x2 x3 hl h
    rw [fX4_inGrammar_6] at h
    cases h
  | succ n ih =>
    intro ls x1 x2 x3 hl h
    rw [fX4_inGrammar_6] at h
    have C1 := C0
    obtain ⟨hx, hb, hr, hml, hown, hw, hlk, hA, hN⟩ := C1
    refine lv_iload_n (pc := 6) hx hb dX4_inGrammar_6 rfl (lv_at hl 3 rfl) ?_
    refine lv_aload_n (pc := 7) hx hb dX4_inGrammar_7 rfl (lv_at hl 0 rfl) ?_
    refine va_get (D := D) (pc := 8) hx hb hw inX4 hown hK hP 0 rfl rfl 0 (by decide) (hw _ mw427) (fun _ h9 => h9) rfl dX4_inGrammar_8 ?_
    refine lv_icmp_ge (pc := 11) (tgt := 72) hx hb dX4_inGrammar_11 (by decide) (fun c1 => ?_) (fun c1 => ?_)
    · replace h := ez_it c1 h
      exact tX4_inGrammar_72 C0 hK hP  n _ x1 x2 (lv_sub hl [1, 2] rfl) h
    · replace h := ez_if c1 h
      refine lv_iload_n (pc := 14) hx hb dX4_inGrammar_14 rfl (lv_at hl 1 rfl) ?_
      refine lv_if_lt (pc := 15) (tgt := 72) hx hb dX4_inGrammar_15 (by decide) (fun c2 => ?_) (fun c2 => ?_)
      · replace h := ez_it c2 h
        exact tX4_inGrammar_72 C0 hK hP  n _ x1 x2 (lv_sub hl [1, 2] rfl) h
      · replace h := ez_if c2 h
        refine lv_iload_n (pc := 18) hx hb dX4_inGrammar_18 rfl (lv_at hl 1 rfl) ?_
        refine lv_aload_n (pc := 19) hx hb dX4_inGrammar_19 rfl (lv_at hl 0 rfl) ?_
        refine va_get (D := D) (pc := 20) hx hb hw inX4 hown hK hP 0 rfl rfl 1 (by decide) (hw _ mw428) (fun _ h9 => h9) rfl dX4_inGrammar_20 ?_
        refine lv_iload_n (pc := 23) hx hb dX4_inGrammar_23 rfl (lv_at hl 3 rfl) ?_
        replace h := ez_bd h
        obtain ⟨y4, e3, h⟩ := h
        obtain ⟨e3i, e3⟩ := ez_ldIs e3
        refine va_iald (D := D) (pc := 24) hx hb hK hP 1 0 rfl rfl e3i dX4_inGrammar_24 ?_
        refine lv_topi (fun y9 hy9 => ?_)
        obtain rfl : y4 = y9 := e3.trans hy9.symm
        refine lv_iload_n (pc := 25) hx hb dX4_inGrammar_25 rfl (lv_at hl 2 rfl) ?_
        replace h := ez_bd h
        obtain ⟨z5, e6, h⟩ := h
        refine ez_croI (r := z5) (pc := 26) (va_runS (g := F0 m 26 ls [.int x2, .int y4, .int x1]) (As := [.int x1, .int y4, .int x2]) (rest := []) ⟨hx, hb, hml, hown, hw⟩ (kX4_follow l n x1 y4 x2 z5 e6) (va_cwS 3 hw (ez_gS mw517 mw518 mw4 mw519) rfl rfl rfl (by decide +kernel) ⟨Nat.le_of_ble_eq_true rfl, Nat.le_of_ble_eq_true rfl⟩) (ez_preRS hN) rfl rfl hl.1 rfl (lv_room (Nat.le_of_ble_eq_true rfl)) dX4_inGrammar_26 ⟨Nat.le_refl _, Nat.le_refl _⟩) ?_
        refine lv_istore_n (pc := 29) hx hb dX4_inGrammar_29 rfl hl (by decide) rfl (fun ls hl => ?_)
        replace hl : lv_has ls 4 [(1, .int z5), (0, .ref (a 0)), (2, .int x2), (3, .int x3)] := hl
        refine lv_aload_n (pc := 30) hx hb dX4_inGrammar_30 rfl (lv_at hl 1 rfl) ?_
        refine va_get (D := D) (pc := 31) hx hb hw inX4 hown hK hP 0 rfl rfl 1 (by decide) (hw _ mw428) (fun _ h9 => h9) rfl dX4_inGrammar_31 ?_
        refine lv_iload_n (pc := 34) hx hb dX4_inGrammar_34 rfl (lv_at hl 3 rfl) ?_
        replace h := ez_bd h
        obtain ⟨y8, e7, h⟩ := h
        obtain ⟨e7i, e7⟩ := ez_ldIs e7
        refine va_iald (D := D) (pc := 35) hx hb hK hP 1 0 rfl rfl e7i dX4_inGrammar_35 ?_
        refine lv_topi (fun y9 hy9 => ?_)
        obtain rfl : y8 = y9 := e7.trans hy9.symm
        refine lv_bipush (v := 40) (pc := 36) hx hb dX4_inGrammar_36 rfl ?_
        refine lv_icmp_ne (pc := 38) (tgt := 47) hx hb dX4_inGrammar_38 (by decide) (fun c9 => ?_) (fun c9 => ?_)
        · replace h := ez_if c9 h
          refine lv_aload_n (pc := 47) hx hb dX4_inGrammar_47 rfl (lv_at hl 1 rfl) ?_
          refine va_get (D := D) (pc := 48) hx hb hw inX4 hown hK hP 0 rfl rfl 1 (by decide) (hw _ mw428) (fun _ h9 => h9) rfl dX4_inGrammar_48 ?_
          refine lv_iload_n (pc := 51) hx hb dX4_inGrammar_51 rfl (lv_at hl 3 rfl) ?_
          replace h := ez_bd h
          obtain ⟨y11, e10, h⟩ := h
          obtain ⟨e10i, e10⟩ := ez_ldIs e10
          refine va_iald (D := D) (pc := 52) hx hb hK hP 1 0 rfl rfl e10i dX4_inGrammar_52 ?_
          refine lv_topi (fun y9 hy9 => ?_)
          obtain rfl : y11 = y9 := e10.trans hy9.symm
          refine lv_bipush (v := 41) (pc := 53) hx hb dX4_inGrammar_53 rfl ?_
          refine lv_icmp_ne (pc := 55) (tgt := 64) hx hb dX4_inGrammar_55 (by decide) (fun c12 => ?_) (fun c12 => ?_)
          · replace h := ez_if c12 h
            refine lv_iload_n (pc := 64) hx hb dX4_inGrammar_64 rfl (lv_at hl 2 rfl) ?_
            refine lv_istore_n (pc := 65) hx hb dX4_inGrammar_65 rfl hl (by decide) rfl (fun ls hl => ?_)
            replace hl : lv_has ls 4 [(2, .int x2), (1, .int z5), (0, .ref (a 0)), (3, .int x3)] := hl
            refine lv_iinc (v := (x3 + 1)) (k := 3) (pc := 66) hx hb dX4_inGrammar_66 hl rfl rfl (by decide) rfl (fun ls hl => ?_)
            replace hl : lv_has ls 4 [(3, .int (x3 + 1)), (2, .int x2), (1, .int z5), (0, .ref (a 0))] := hl
            refine lv_goto (pc := 69) (tgt := 6) hx hb dX4_inGrammar_69 (by decide) ?_
            exact ih _ z5 x2 (x3 + 1) (lv_sub hl [3, 2, 1, 0] rfl) h
          · replace h := ez_it c12 h
            refine lv_iload_n (pc := 58) hx hb dX4_inGrammar_58 rfl (lv_at hl 2 rfl) ?_
            refine lv_iconst (v := 1) (pc := 59) hx hb dX4_inGrammar_59 rfl ?_
            refine lv_isub (pc := 60) hx hb dX4_inGrammar_60 ?_
            refine lv_goto (pc := 61) (tgt := 65) hx hb dX4_inGrammar_61 (by decide) ?_
            refine lv_istore_n (pc := 65) hx hb dX4_inGrammar_65 rfl hl (by decide) rfl (fun ls hl => ?_)
            replace hl : lv_has ls 4 [(2, .int (x2 - 1)), (1, .int z5), (0, .ref (a 0)), (3, .int x3)] := hl
            refine lv_iinc (v := (x3 + 1)) (k := 3) (pc := 66) hx hb dX4_inGrammar_66 hl rfl rfl (by decide) rfl (fun ls hl => ?_)
            replace hl : lv_has ls 4 [(3, .int (x3 + 1)), (2, .int (x2 - 1)), (1, .int z5), (0, .ref (a 0))] := hl
            refine lv_goto (pc := 69) (tgt := 6) hx hb dX4_inGrammar_69 (by decide) ?_
            exact ih _ z5 (x2 - 1) (x3 + 1) (lv_sub hl [3, 2, 1, 0] rfl) h
        · replace h := ez_it c9 h
          refine lv_iload_n (pc := 41) hx hb dX4_inGrammar_41 rfl (lv_at hl 2 rfl) ?_
          refine lv_iconst (v := 1) (pc := 42) hx hb dX4_inGrammar_42 rfl ?_
          refine lv_iadd (pc := 43) hx hb dX4_inGrammar_43 ?_
          refine lv_goto (pc := 44) (tgt := 65) hx hb dX4_inGrammar_44 (by decide) ?_
          refine lv_istore_n (pc := 65) hx hb dX4_inGrammar_65 rfl hl (by decide) rfl (fun ls hl => ?_)
          replace hl : lv_has ls 4 [(2, .int (x2 + 1)), (1, .int z5), (0, .ref (a 0)), (3, .int x3)] := hl
          refine lv_iinc (v := (x3 + 1)) (k := 3) (pc := 66) hx hb dX4_inGrammar_66 hl rfl rfl (by decide) rfl (fun ls hl => ?_)
          replace hl : lv_has ls 4 [(3, .int (x3 + 1)), (2, .int (x2 + 1)), (1, .int z5), (0, .ref (a 0))] := hl
          refine lv_goto (pc := 69) (tgt := 6) hx hb dX4_inGrammar_69 (by decide) ?_
          exact ih _ z5 (x2 + 1) (x3 + 1) (lv_sub hl [3, 2, 1, 0] rfl) h
set_option maxHeartbeats 4000000 in
set_option maxRecDepth 100000 in
theorem tX4_inGrammar_0 {p : Program} {l : Launch} {e : Env} {s : State} {m : MethodId} {args : Array Value} {below : List Frame} {meth : Method} {c : Code} {D : va_G} {a : Nat → Nat} {k : Nat → ClassId} {z : Int32} {w : Wd} (C0 : ez_C p s m args meth c cX4_inGrammar (some .boolean) 4 RX4 (fun _ => True)) (hK : va_K D vwCl (tM k) s) (hP : va_P D vwCl (wM a k w) s.heap) : ∀ (n : Nat) (ls : Array Slot), lv_has ls 4 [(0, .ref (a 0))] → fX4_inGrammar n w = some z → W p l e ({ frames := 2, cells := 0, slots := 0, locals := 43 } : Room) s m args below meth c s.heap [] 0 0 (MQ below (ez_Ri z) args s 0 0 (fun _ => False)) (F0 m 0 ls []) := by
  intro n
  intro ls hl h
  rw [fX4_inGrammar] at h
  have C1 := C0
  obtain ⟨hx, hb, hr, hml, hown, hw, hlk, hA, hN⟩ := C1
  refine lv_iconst (v := 0) (pc := 0) hx hb dX4_inGrammar_0 rfl ?_
  refine lv_istore_n (pc := 1) hx hb dX4_inGrammar_1 rfl hl (by decide) rfl (fun ls hl => ?_)
  replace hl : lv_has ls 4 [(1, .int 0), (0, .ref (a 0))] := hl
  refine lv_iconst (v := 0) (pc := 2) hx hb dX4_inGrammar_2 rfl ?_
  refine lv_istore_n (pc := 3) hx hb dX4_inGrammar_3 rfl hl (by decide) rfl (fun ls hl => ?_)
  replace hl : lv_has ls 4 [(2, .int 0), (1, .int 0), (0, .ref (a 0))] := hl
  refine lv_iconst (v := 0) (pc := 4) hx hb dX4_inGrammar_4 rfl ?_
  refine lv_istore_n (pc := 5) hx hb dX4_inGrammar_5 rfl hl (by decide) rfl (fun ls hl => ?_)
  replace hl : lv_has ls 4 [(3, .int 0), (2, .int 0), (1, .int 0), (0, .ref (a 0))] := hl
  exact tX4_inGrammar_6 C0 hK hP  n _ 0 0 0 (lv_sub hl [3, 2, 1, 0] rfl) h
set_option maxRecDepth 100000 in
theorem kX4_inGrammar (l : Launch) (D : va_G) (a : Nat → Nat) (k : Nat → ClassId) (n : Nat) (w : Wd) (z : Int32) (h : fX4_inGrammar n w = some z) : Met l yX4_inGrammar wsX4_inGrammar ({ frames := 2, cells := 0, slots := 0, locals := 43 } : Room) (ez_Rc D (tM k) [.ref (a 0)] (wM a k w)) (ez_Ri z) 0 0 (fun _ => False) :=
  ez_mkR (by decide) rfl (Nat.le_of_ble_eq_true rfl) (fun p e s m below meth c ls C0 hl hP hK => tX4_inGrammar_0 C0 hK hP n ls (lv_sub (l := [(0, .ref (a 0))]) hl [0] rfl) h)
/-! EnclosureCalculatorModel allKnown -/
theorem dX4_allKnown_0 : decode cX4_allKnown 0 = .ok (.iconst 1, 1) := by decide +kernel
theorem dX4_allKnown_1 : decode cX4_allKnown 1 = .ok (.istore_n 1, 1) := by decide +kernel
theorem dX4_allKnown_2 : decode cX4_allKnown 2 = .ok (.iconst 0, 1) := by decide +kernel
theorem dX4_allKnown_3 : decode cX4_allKnown 3 = .ok (.istore_n 2, 1) := by decide +kernel
theorem dX4_allKnown_4 : decode cX4_allKnown 4 = .ok (.iload_n 2, 1) := by decide +kernel
theorem dX4_allKnown_5 : decode cX4_allKnown 5 = .ok (.aload_n 0, 1) := by decide +kernel
theorem dX4_allKnown_6 : decode cX4_allKnown 6 = .ok (.getfield 45, 3) := by decide +kernel
theorem dX4_allKnown_9 : decode cX4_allKnown 9 = .ok (.if_icmp .ge 48, 3) := by decide +kernel
theorem dX4_allKnown_12 : decode cX4_allKnown 12 = .ok (.iload_n 1, 1) := by decide +kernel
theorem dX4_allKnown_13 : decode cX4_allKnown 13 = .ok (.ifCond .eq 36, 3) := by decide +kernel
theorem dX4_allKnown_16 : decode cX4_allKnown 16 = .ok (.aload_n 0, 1) := by decide +kernel
theorem dX4_allKnown_17 : decode cX4_allKnown 17 = .ok (.getfield 7, 3) := by decide +kernel
theorem dX4_allKnown_20 : decode cX4_allKnown 20 = .ok (.iload_n 2, 1) := by decide +kernel
theorem dX4_allKnown_21 : decode cX4_allKnown 21 = .ok (.iaload, 1) := by decide +kernel
theorem dX4_allKnown_22 : decode cX4_allKnown 22 = .ok (.invokestatic 53, 3) := by decide +kernel
theorem dX4_allKnown_25 : decode cX4_allKnown 25 = .ok (.ifCond .eq 20, 3) := by decide +kernel
theorem dX4_allKnown_28 : decode cX4_allKnown 28 = .ok (.aload_n 0, 1) := by decide +kernel
theorem dX4_allKnown_29 : decode cX4_allKnown 29 = .ok (.getfield 13, 3) := by decide +kernel
theorem dX4_allKnown_32 : decode cX4_allKnown 32 = .ok (.aload_n 0, 1) := by decide +kernel
theorem dX4_allKnown_33 : decode cX4_allKnown 33 = .ok (.getfield 7, 3) := by decide +kernel
theorem dX4_allKnown_36 : decode cX4_allKnown 36 = .ok (.iload_n 2, 1) := by decide +kernel
theorem dX4_allKnown_37 : decode cX4_allKnown 37 = .ok (.iaload, 1) := by decide +kernel
theorem dX4_allKnown_38 : decode cX4_allKnown 38 = .ok (.bipush 97, 2) := by decide +kernel
theorem dX4_allKnown_40 : decode cX4_allKnown 40 = .ok (.isub, 1) := by decide +kernel
theorem dX4_allKnown_41 : decode cX4_allKnown 41 = .ok (.iaload, 1) := by decide +kernel
theorem dX4_allKnown_42 : decode cX4_allKnown 42 = .ok (.ifCond .le 7, 3) := by decide +kernel
theorem dX4_allKnown_45 : decode cX4_allKnown 45 = .ok (.iconst 1, 1) := by decide +kernel
theorem dX4_allKnown_46 : decode cX4_allKnown 46 = .ok (.goto 4, 3) := by decide +kernel
theorem dX4_allKnown_49 : decode cX4_allKnown 49 = .ok (.iconst 0, 1) := by decide +kernel
theorem dX4_allKnown_50 : decode cX4_allKnown 50 = .ok (.istore_n 1, 1) := by decide +kernel
theorem dX4_allKnown_51 : decode cX4_allKnown 51 = .ok (.iinc 2 1, 3) := by decide +kernel
theorem dX4_allKnown_54 : decode cX4_allKnown 54 = .ok (.goto (-50), 3) := by decide +kernel
theorem dX4_allKnown_57 : decode cX4_allKnown 57 = .ok (.iload_n 1, 1) := by decide +kernel
theorem dX4_allKnown_58 : decode cX4_allKnown 58 = .ok (.ireturn, 1) := by decide +kernel
def fX4_allKnown_4 : Nat → Int32 → Int32 → Wd → Option (Int32)
  | 0, _, _, _ => none
  | n + 1, x1, x2, w =>
    if (w.1 0 0) ≤ x2 then
      (ez_z .boolean x1).bind fun _ =>
      some x1
    else
      if x1 = 0 then
        fX4_allKnown_4 n 0 (x2 + 1) w
      else
        (ez_ldI w 1 20 x2).bind fun y5 =>
        (fX4_isName n y5).bind fun z6 =>
        if z6 = 0 then
          fX4_allKnown_4 n 1 (x2 + 1) w
        else
          (ez_ldI w 1 20 x2).bind fun y10 =>
          (ez_ldI w 2 8 (y10 - 97)).bind fun y12 =>
          if y12 ≤ 0 then
            fX4_allKnown_4 n 0 (x2 + 1) w
          else
            fX4_allKnown_4 n 1 (x2 + 1) w
def fX4_allKnown (n : Nat) (w : Wd) : Option (Int32) :=
    fX4_allKnown_4 n 1 0 w
set_option maxHeartbeats 4000000 in
set_option maxRecDepth 100000 in
theorem tX4_allKnown_4 {p : Program} {l : Launch} {e : Env} {s : State} {m : MethodId} {args : Array Value} {below : List Frame} {meth : Method} {c : Code} {D : va_G} {a : Nat → Nat} {k : Nat → ClassId} {z : Int32} {w : Wd} (C0 : ez_C p s m args meth c cX4_allKnown (some .boolean) 3 RX4 (fun _ => True)) (hK : va_K D vwCl (tM k) s) (hP : va_P D vwCl (wM a k w) s.heap) : ∀ (n : Nat) (ls : Array Slot) (x1 : Int32) (x2 : Int32), lv_has ls 3 [(0, .ref (a 0)), (1, .int x1), (2, .int x2)] → fX4_allKnown_4 n x1 x2 w = some z → W p l e ({ frames := 1, cells := 0, slots := 0, locals := 20 } : Room) s m args below meth c s.heap [] 0 0 (MQ below (ez_Ri z) args s 0 0 (fun _ => False)) (F0 m 4 ls []) := by
  intro n
  induction n with
  | zero =>
    intro ls x1 x2 hl h
    rw [fX4_allKnown_4] at h
    cases h
  | succ n ih =>
    intro ls x1 x2 hl h
    rw [fX4_allKnown_4] at h
    have C1 := C0
    obtain ⟨hx, hb, hr, hml, hown, hw, hlk, hA, hN⟩ := C1
    refine lv_iload_n (pc := 4) hx hb dX4_allKnown_4 rfl (lv_at hl 2 rfl) ?_
    refine lv_aload_n (pc := 5) hx hb dX4_allKnown_5 rfl (lv_at hl 0 rfl) ?_
    refine va_get (D := D) (pc := 6) hx hb hw inX4 hown hK hP 0 rfl rfl 0 (by decide) (hw _ mw427) (fun _ h9 => h9) rfl dX4_allKnown_6 ?_
    refine lv_icmp_ge (pc := 9) (tgt := 57) hx hb dX4_allKnown_9 (by decide) (fun c1 => ?_) (fun c1 => ?_)
    · replace h := ez_it c1 h
      refine lv_iload_n (pc := 57) hx hb dX4_allKnown_57 rfl (lv_at hl 1 rfl) ?_
      replace h := ez_bd h
      obtain ⟨_, e2, h⟩ := h
      obtain rfl := ez_r1 h
      exact ez_rroZ C0 (ez_narz (ez_zs e2)) dX4_allKnown_58
    · replace h := ez_if c1 h
      refine lv_iload_n (pc := 12) hx hb dX4_allKnown_12 rfl (lv_at hl 1 rfl) ?_
      refine lv_if_eq (pc := 13) (tgt := 49) hx hb dX4_allKnown_13 (by decide) (fun c3 => ?_) (fun c3 => ?_)
      · replace h := ez_it c3 h
        refine lv_iconst (v := 0) (pc := 49) hx hb dX4_allKnown_49 rfl ?_
        refine lv_istore_n (pc := 50) hx hb dX4_allKnown_50 rfl hl (by decide) rfl (fun ls hl => ?_)
        replace hl : lv_has ls 3 [(1, .int 0), (0, .ref (a 0)), (2, .int x2)] := hl
        refine lv_iinc (v := (x2 + 1)) (k := 2) (pc := 51) hx hb dX4_allKnown_51 hl rfl rfl (by decide) rfl (fun ls hl => ?_)
        replace hl : lv_has ls 3 [(2, .int (x2 + 1)), (1, .int 0), (0, .ref (a 0))] := hl
        refine lv_goto (pc := 54) (tgt := 4) hx hb dX4_allKnown_54 (by decide) ?_
        exact ih _ 0 (x2 + 1) (lv_sub hl [2, 1, 0] rfl) h
      · replace h := ez_if c3 h
        refine lv_aload_n (pc := 16) hx hb dX4_allKnown_16 rfl (lv_at hl 0 rfl) ?_
        refine va_get (D := D) (pc := 17) hx hb hw inX4 hown hK hP 0 rfl rfl 1 (by decide) (hw _ mw428) (fun _ h9 => h9) rfl dX4_allKnown_17 ?_
        refine lv_iload_n (pc := 20) hx hb dX4_allKnown_20 rfl (lv_at hl 2 rfl) ?_
        replace h := ez_bd h
        obtain ⟨y5, e4, h⟩ := h
        obtain ⟨e4i, e4⟩ := ez_ldIs e4
        refine va_iald (D := D) (pc := 21) hx hb hK hP 1 0 rfl rfl e4i dX4_allKnown_21 ?_
        refine lv_topi (fun y9 hy9 => ?_)
        obtain rfl : y5 = y9 := e4.trans hy9.symm
        replace h := ez_bd h
        obtain ⟨z6, e7, h⟩ := h
        refine ez_croI (r := z6) (pc := 22) (va_runS (g := F0 m 22 ls [.int y5]) (As := [.int y5]) (rest := []) ⟨hx, hb, hml, hown, hw⟩ (kX4_isName l n y5 z6 e7) (va_cwS 1 hw (ez_gS mw495 mw496 mw4 mw497) rfl rfl rfl (by decide +kernel) ⟨Nat.le_of_ble_eq_true rfl, Nat.le_of_ble_eq_true rfl⟩) (ez_preRS hN) rfl rfl hl.1 rfl (lv_room (Nat.le_of_ble_eq_true rfl)) dX4_allKnown_22 ⟨Nat.le_refl _, Nat.le_refl _⟩) ?_
        refine lv_if_eq (pc := 25) (tgt := 45) hx hb dX4_allKnown_25 (by decide) (fun c8 => ?_) (fun c8 => ?_)
        · replace h := ez_it c8 h
          refine lv_iconst (v := 1) (pc := 45) hx hb dX4_allKnown_45 rfl ?_
          refine lv_goto (pc := 46) (tgt := 50) hx hb dX4_allKnown_46 (by decide) ?_
          refine lv_istore_n (pc := 50) hx hb dX4_allKnown_50 rfl hl (by decide) rfl (fun ls hl => ?_)
          replace hl : lv_has ls 3 [(1, .int 1), (0, .ref (a 0)), (2, .int x2)] := hl
          refine lv_iinc (v := (x2 + 1)) (k := 2) (pc := 51) hx hb dX4_allKnown_51 hl rfl rfl (by decide) rfl (fun ls hl => ?_)
          replace hl : lv_has ls 3 [(2, .int (x2 + 1)), (1, .int 1), (0, .ref (a 0))] := hl
          refine lv_goto (pc := 54) (tgt := 4) hx hb dX4_allKnown_54 (by decide) ?_
          exact ih _ 1 (x2 + 1) (lv_sub hl [2, 1, 0] rfl) h
        · replace h := ez_if c8 h
          refine lv_aload_n (pc := 28) hx hb dX4_allKnown_28 rfl (lv_at hl 0 rfl) ?_
          refine va_get (D := D) (pc := 29) hx hb hw inX4 hown hK hP 0 rfl rfl 2 (by decide) (hw _ mw429) (fun _ h9 => h9) rfl dX4_allKnown_29 ?_
          refine lv_aload_n (pc := 32) hx hb dX4_allKnown_32 rfl (lv_at hl 0 rfl) ?_
          refine va_get (D := D) (pc := 33) hx hb hw inX4 hown hK hP 0 rfl rfl 1 (by decide) (hw _ mw428) (fun _ h9 => h9) rfl dX4_allKnown_33 ?_
          refine lv_iload_n (pc := 36) hx hb dX4_allKnown_36 rfl (lv_at hl 2 rfl) ?_
          replace h := ez_bd h
          obtain ⟨y10, e9, h⟩ := h
          obtain ⟨e9i, e9⟩ := ez_ldIs e9
          refine va_iald (D := D) (pc := 37) hx hb hK hP 1 0 rfl rfl e9i dX4_allKnown_37 ?_
          refine lv_topi (fun y9 hy9 => ?_)
          obtain rfl : y10 = y9 := e9.trans hy9.symm
          refine lv_bipush (v := 97) (pc := 38) hx hb dX4_allKnown_38 rfl ?_
          refine lv_isub (pc := 40) hx hb dX4_allKnown_40 ?_
          replace h := ez_bd h
          obtain ⟨y12, e11, h⟩ := h
          obtain ⟨e11i, e11⟩ := ez_ldIs e11
          refine va_iald (D := D) (pc := 41) hx hb hK hP 2 1 rfl rfl e11i dX4_allKnown_41 ?_
          refine lv_topi (fun y9 hy9 => ?_)
          obtain rfl : y12 = y9 := e11.trans hy9.symm
          refine lv_if_le (pc := 42) (tgt := 49) hx hb dX4_allKnown_42 (by decide) (fun c13 => ?_) (fun c13 => ?_)
          · replace h := ez_it c13 h
            refine lv_iconst (v := 0) (pc := 49) hx hb dX4_allKnown_49 rfl ?_
            refine lv_istore_n (pc := 50) hx hb dX4_allKnown_50 rfl hl (by decide) rfl (fun ls hl => ?_)
            replace hl : lv_has ls 3 [(1, .int 0), (0, .ref (a 0)), (2, .int x2)] := hl
            refine lv_iinc (v := (x2 + 1)) (k := 2) (pc := 51) hx hb dX4_allKnown_51 hl rfl rfl (by decide) rfl (fun ls hl => ?_)
            replace hl : lv_has ls 3 [(2, .int (x2 + 1)), (1, .int 0), (0, .ref (a 0))] := hl
            refine lv_goto (pc := 54) (tgt := 4) hx hb dX4_allKnown_54 (by decide) ?_
            exact ih _ 0 (x2 + 1) (lv_sub hl [2, 1, 0] rfl) h
          · replace h := ez_if c13 h
            refine lv_iconst (v := 1) (pc := 45) hx hb dX4_allKnown_45 rfl ?_
            refine lv_goto (pc := 46) (tgt := 50) hx hb dX4_allKnown_46 (by decide) ?_
            refine lv_istore_n (pc := 50) hx hb dX4_allKnown_50 rfl hl (by decide) rfl (fun ls hl => ?_)
            replace hl : lv_has ls 3 [(1, .int 1), (0, .ref (a 0)), (2, .int x2)] := hl
            refine lv_iinc (v := (x2 + 1)) (k := 2) (pc := 51) hx hb dX4_allKnown_51 hl rfl rfl (by decide) rfl (fun ls hl => ?_)
            replace hl : lv_has ls 3 [(2, .int (x2 + 1)), (1, .int 1), (0, .ref (a 0))] := hl
            refine lv_goto (pc := 54) (tgt := 4) hx hb dX4_allKnown_54 (by decide) ?_
            exact ih _ 1 (x2 + 1) (lv_sub hl [2, 1, 0] rfl) h
set_option maxHeartbeats 4000000 in
set_option maxRecDepth 100000 in
theorem tX4_allKnown_0 {p : Program} {l : Launch} {e : Env} {s : State} {m : MethodId} {args : Array Value} {below : List Frame} {meth : Method} {c : Code} {D : va_G} {a : Nat → Nat} {k : Nat → ClassId} {z : Int32} {w : Wd} (C0 : ez_C p s m args meth c cX4_allKnown (some .boolean) 3 RX4 (fun _ => True)) (hK : va_K D vwCl (tM k) s) (hP : va_P D vwCl (wM a k w) s.heap) : ∀ (n : Nat) (ls : Array Slot), lv_has ls 3 [(0, .ref (a 0))] → fX4_allKnown n w = some z → W p l e ({ frames := 1, cells := 0, slots := 0, locals := 20 } : Room) s m args below meth c s.heap [] 0 0 (MQ below (ez_Ri z) args s 0 0 (fun _ => False)) (F0 m 0 ls []) := by
  intro n
  intro ls hl h
  rw [fX4_allKnown] at h
  have C1 := C0
  obtain ⟨hx, hb, hr, hml, hown, hw, hlk, hA, hN⟩ := C1
  refine lv_iconst (v := 1) (pc := 0) hx hb dX4_allKnown_0 rfl ?_
  refine lv_istore_n (pc := 1) hx hb dX4_allKnown_1 rfl hl (by decide) rfl (fun ls hl => ?_)
  replace hl : lv_has ls 3 [(1, .int 1), (0, .ref (a 0))] := hl
  refine lv_iconst (v := 0) (pc := 2) hx hb dX4_allKnown_2 rfl ?_
  refine lv_istore_n (pc := 3) hx hb dX4_allKnown_3 rfl hl (by decide) rfl (fun ls hl => ?_)
  replace hl : lv_has ls 3 [(2, .int 0), (1, .int 1), (0, .ref (a 0))] := hl
  exact tX4_allKnown_4 C0 hK hP  n _ 1 0 (lv_sub hl [2, 1, 0] rfl) h
set_option maxRecDepth 100000 in
theorem kX4_allKnown (l : Launch) (D : va_G) (a : Nat → Nat) (k : Nat → ClassId) (n : Nat) (w : Wd) (z : Int32) (h : fX4_allKnown n w = some z) : Met l yX4_allKnown wsX4_allKnown ({ frames := 1, cells := 0, slots := 0, locals := 20 } : Room) (ez_Rc D (tM k) [.ref (a 0)] (wM a k w)) (ez_Ri z) 0 0 (fun _ => False) :=
  ez_mkR (by decide) rfl (Nat.le_of_ble_eq_true rfl) (fun p e s m below meth c ls C0 hl hP hK => tX4_allKnown_0 C0 hK hP n ls (lv_sub (l := [(0, .ref (a 0))]) hl [0] rfl) h)
/-! EnclosureCalculatorModel make -/
theorem dX4_make_0 : decode cX4_make 0 = .ok (.aload_n 0, 1) := by decide +kernel
theorem dX4_make_1 : decode cX4_make 1 = .ok (.getfield 16, 3) := by decide +kernel
theorem dX4_make_4 : decode cX4_make 4 = .ok (.aload_n 0, 1) := by decide +kernel
theorem dX4_make_5 : decode cX4_make 5 = .ok (.getfield 63, 3) := by decide +kernel
theorem dX4_make_8 : decode cX4_make 8 = .ok (.iload_n 1, 1) := by decide +kernel
theorem dX4_make_9 : decode cX4_make 9 = .ok (.iastore, 1) := by decide +kernel
theorem dX4_make_10 : decode cX4_make 10 = .ok (.aload_n 0, 1) := by decide +kernel
theorem dX4_make_11 : decode cX4_make 11 = .ok (.getfield 19, 3) := by decide +kernel
theorem dX4_make_14 : decode cX4_make 14 = .ok (.aload_n 0, 1) := by decide +kernel
theorem dX4_make_15 : decode cX4_make 15 = .ok (.getfield 63, 3) := by decide +kernel
theorem dX4_make_18 : decode cX4_make 18 = .ok (.iload_n 2, 1) := by decide +kernel
theorem dX4_make_19 : decode cX4_make 19 = .ok (.iastore, 1) := by decide +kernel
theorem dX4_make_20 : decode cX4_make 20 = .ok (.aload_n 0, 1) := by decide +kernel
theorem dX4_make_21 : decode cX4_make 21 = .ok (.getfield 22, 3) := by decide +kernel
theorem dX4_make_24 : decode cX4_make 24 = .ok (.aload_n 0, 1) := by decide +kernel
theorem dX4_make_25 : decode cX4_make 25 = .ok (.getfield 63, 3) := by decide +kernel
theorem dX4_make_28 : decode cX4_make 28 = .ok (.iload_n 3, 1) := by decide +kernel
theorem dX4_make_29 : decode cX4_make 29 = .ok (.iastore, 1) := by decide +kernel
theorem dX4_make_30 : decode cX4_make 30 = .ok (.aload_n 0, 1) := by decide +kernel
theorem dX4_make_31 : decode cX4_make 31 = .ok (.getfield 25, 3) := by decide +kernel
theorem dX4_make_34 : decode cX4_make 34 = .ok (.aload_n 0, 1) := by decide +kernel
theorem dX4_make_35 : decode cX4_make 35 = .ok (.getfield 66, 3) := by decide +kernel
theorem dX4_make_38 : decode cX4_make 38 = .ok (.aload_n 0, 1) := by decide +kernel
theorem dX4_make_39 : decode cX4_make 39 = .ok (.getfield 63, 3) := by decide +kernel
theorem dX4_make_42 : decode cX4_make 42 = .ok (.iastore, 1) := by decide +kernel
theorem dX4_make_43 : decode cX4_make 43 = .ok (.aload_n 0, 1) := by decide +kernel
theorem dX4_make_44 : decode cX4_make 44 = .ok (.dup, 1) := by decide +kernel
theorem dX4_make_45 : decode cX4_make 45 = .ok (.getfield 66, 3) := by decide +kernel
theorem dX4_make_48 : decode cX4_make 48 = .ok (.iconst 1, 1) := by decide +kernel
theorem dX4_make_49 : decode cX4_make 49 = .ok (.iadd, 1) := by decide +kernel
theorem dX4_make_50 : decode cX4_make 50 = .ok (.putfield 66, 3) := by decide +kernel
theorem dX4_make_53 : decode cX4_make 53 = .ok (.aload_n 0, 1) := by decide +kernel
theorem dX4_make_54 : decode cX4_make 54 = .ok (.dup, 1) := by decide +kernel
theorem dX4_make_55 : decode cX4_make 55 = .ok (.getfield 63, 3) := by decide +kernel
theorem dX4_make_58 : decode cX4_make 58 = .ok (.iconst 1, 1) := by decide +kernel
theorem dX4_make_59 : decode cX4_make 59 = .ok (.iadd, 1) := by decide +kernel
theorem dX4_make_60 : decode cX4_make 60 = .ok (.putfield 63, 3) := by decide +kernel
theorem dX4_make_63 : decode cX4_make 63 = .ok (.return_, 1) := by decide +kernel
def fX4_make (n : Nat) (x1 : Int32) (x2 : Int32) (x3 : Int32) (w : Wd) : Option (Wd) :=
    (ez_stI w 3 120 (w.1 0 1) x1).bind fun w2 =>
    (ez_stI w2 4 120 (w2.1 0 1) x2).bind fun w4 =>
    (ez_stI w4 5 120 (w4.1 0 1) x3).bind fun w6 =>
    (ez_stI w6 6 21 (w6.1 0 2) (w6.1 0 1)).bind fun w8 =>
    (ez_fI w8 2 ((w8.1 0 2) + 1)).bind fun w10 =>
    (ez_fI w10 1 ((w10.1 0 1) + 1)).bind fun w12 =>
    some w12
set_option maxHeartbeats 4000000 in
set_option maxRecDepth 100000 in
theorem tX4_make_0 {p : Program} {l : Launch} {e : Env} {s : State} {m : MethodId} {args : Array Value} {below : List Frame} {meth : Method} {c : Code} {A : Nat → Prop} {D : va_G} {a : Nat → Nat} {k : Nat → ClassId} {z : Wd} (C0 : ez_C p s m args meth c cX4_make none 4 RX4 A) (hK : va_K D vwCl (tM k) s) : ∀ (n : Nat) (H : Heap) (locs : List Loc) (ls : Array Slot) (x1 : Int32) (x2 : Int32) (x3 : Int32) (w : Wd), lv_has ls 4 [(0, .ref (a 0)), (1, .int x1), (2, .int x2), (3, .int x3)] → va_P D vwCl (wM a k w) H → va_D A (wM a k w) → va_S A s.heap H locs → fX4_make n x1 x2 x3 w = some z → W p l e ({ frames := 0, cells := 0, slots := 0, locals := 0 } : Room) s m args below meth c H locs 0 0 (MQ below (ez_Qv D (tM k) A (wM a k z)) args s 0 0 A) (F0 m 0 ls []) := by
  intro n
  intro H locs ls x1 x2 x3 w hl hP hD hS h
  rw [fX4_make] at h
  have C1 := C0
  obtain ⟨hx, hb, hr, hml, hown, hw, hlk, hA, hN⟩ := C1
  refine lv_aload_n (pc := 0) hx hb dX4_make_0 rfl (lv_at hl 0 rfl) ?_
  refine va_get (D := D) (pc := 1) hx hb hw inX4 hown hK hP 0 rfl rfl 4 (by decide) (hw _ mw431) (fun _ h9 => h9) rfl dX4_make_1 ?_
  refine lv_aload_n (pc := 4) hx hb dX4_make_4 rfl (lv_at hl 0 rfl) ?_
  refine va_get (D := D) (pc := 5) hx hb hw inX4 hown hK hP 0 rfl rfl 3 (by decide) (hw _ mw430) (fun _ h9 => h9) rfl dX4_make_5 ?_
  refine lv_iload_n (pc := 8) hx hb dX4_make_8 rfl (lv_at hl 1 rfl) ?_
  replace h := ez_bd h
  obtain ⟨w2, e1, h⟩ := h
  obtain ⟨e1i, e1⟩ := ez_stIs e1
  refine va_iast (D := D) (pc := 9) hx hb hK hP hD hS 3 2 rfl rfl e1i dX4_make_9 (fun H locs hP hD hS => ?_)
  replace hP : va_P D vwCl (wM a k w2) H := by rw [e1]; exact hP
  replace hD : va_D A (wM a k w2) := by rw [e1]; exact hD
  refine lv_aload_n (pc := 10) hx hb dX4_make_10 rfl (lv_at hl 0 rfl) ?_
  refine va_get (D := D) (pc := 11) hx hb hw inX4 hown hK hP 0 rfl rfl 5 (by decide) (hw _ mw432) (fun _ h9 => h9) rfl dX4_make_11 ?_
  refine lv_aload_n (pc := 14) hx hb dX4_make_14 rfl (lv_at hl 0 rfl) ?_
  refine va_get (D := D) (pc := 15) hx hb hw inX4 hown hK hP 0 rfl rfl 3 (by decide) (hw _ mw430) (fun _ h9 => h9) rfl dX4_make_15 ?_
  refine lv_iload_n (pc := 18) hx hb dX4_make_18 rfl (lv_at hl 2 rfl) ?_
  replace h := ez_bd h
  obtain ⟨w4, e3, h⟩ := h
  obtain ⟨e3i, e3⟩ := ez_stIs e3
  refine va_iast (D := D) (pc := 19) hx hb hK hP hD hS 4 3 rfl rfl e3i dX4_make_19 (fun H locs hP hD hS => ?_)
  replace hP : va_P D vwCl (wM a k w4) H := by rw [e3]; exact hP
  replace hD : va_D A (wM a k w4) := by rw [e3]; exact hD
  refine lv_aload_n (pc := 20) hx hb dX4_make_20 rfl (lv_at hl 0 rfl) ?_
  refine va_get (D := D) (pc := 21) hx hb hw inX4 hown hK hP 0 rfl rfl 6 (by decide) (hw _ mw433) (fun _ h9 => h9) rfl dX4_make_21 ?_
  refine lv_aload_n (pc := 24) hx hb dX4_make_24 rfl (lv_at hl 0 rfl) ?_
  refine va_get (D := D) (pc := 25) hx hb hw inX4 hown hK hP 0 rfl rfl 3 (by decide) (hw _ mw430) (fun _ h9 => h9) rfl dX4_make_25 ?_
  refine lv_iload_n (pc := 28) hx hb dX4_make_28 rfl (lv_at hl 3 rfl) ?_
  replace h := ez_bd h
  obtain ⟨w6, e5, h⟩ := h
  obtain ⟨e5i, e5⟩ := ez_stIs e5
  refine va_iast (D := D) (pc := 29) hx hb hK hP hD hS 5 4 rfl rfl e5i dX4_make_29 (fun H locs hP hD hS => ?_)
  replace hP : va_P D vwCl (wM a k w6) H := by rw [e5]; exact hP
  replace hD : va_D A (wM a k w6) := by rw [e5]; exact hD
  refine lv_aload_n (pc := 30) hx hb dX4_make_30 rfl (lv_at hl 0 rfl) ?_
  refine va_get (D := D) (pc := 31) hx hb hw inX4 hown hK hP 0 rfl rfl 8 (by decide) (hw _ mw435) (fun _ h9 => h9) rfl dX4_make_31 ?_
  refine lv_aload_n (pc := 34) hx hb dX4_make_34 rfl (lv_at hl 0 rfl) ?_
  refine va_get (D := D) (pc := 35) hx hb hw inX4 hown hK hP 0 rfl rfl 7 (by decide) (hw _ mw434) (fun _ h9 => h9) rfl dX4_make_35 ?_
  refine lv_aload_n (pc := 38) hx hb dX4_make_38 rfl (lv_at hl 0 rfl) ?_
  refine va_get (D := D) (pc := 39) hx hb hw inX4 hown hK hP 0 rfl rfl 3 (by decide) (hw _ mw430) (fun _ h9 => h9) rfl dX4_make_39 ?_
  replace h := ez_bd h
  obtain ⟨w8, e7, h⟩ := h
  obtain ⟨e7i, e7⟩ := ez_stIs e7
  refine va_iast (D := D) (pc := 42) hx hb hK hP hD hS 6 5 rfl rfl e7i dX4_make_42 (fun H locs hP hD hS => ?_)
  replace hP : va_P D vwCl (wM a k w8) H := by rw [e7]; exact hP
  replace hD : va_D A (wM a k w8) := by rw [e7]; exact hD
  refine lv_aload_n (pc := 43) hx hb dX4_make_43 rfl (lv_at hl 0 rfl) ?_
  refine lv_dup (pc := 44) hx hb dX4_make_44 rfl ?_
  refine va_get (D := D) (pc := 45) hx hb hw inX4 hown hK hP 0 rfl rfl 7 (by decide) (hw _ mw434) (fun _ h9 => h9) rfl dX4_make_45 ?_
  refine lv_iconst (v := 1) (pc := 48) hx hb dX4_make_48 rfl ?_
  refine lv_iadd (pc := 49) hx hb dX4_make_49 ?_
  replace h := ez_bd h
  obtain ⟨w10, e9, h⟩ := h
  refine va_put (D := D) (v := .int ((w8.1 0 2) + 1)) (ty := .int) (pc := 50) hx hb hw inX4 tyX4 tyX4_ok nmX4 hown hK hP hD hS 0 rfl rfl 7 (by decide) (hw _ mw434) (fun _ h9 => h9) rfl (by decide +kernel) rfl rfl (Nat.le_of_ble_eq_true rfl) dX4_make_50 (fun H locs hP hD hS => ?_)
  replace hP : va_P D vwCl (wM a k w10) H := by rw [(ez_fIs e9)]; exact hP
  replace hD : va_D A (wM a k w10) := by rw [(ez_fIs e9)]; exact hD
  refine lv_aload_n (pc := 53) hx hb dX4_make_53 rfl (lv_at hl 0 rfl) ?_
  refine lv_dup (pc := 54) hx hb dX4_make_54 rfl ?_
  refine va_get (D := D) (pc := 55) hx hb hw inX4 hown hK hP 0 rfl rfl 3 (by decide) (hw _ mw430) (fun _ h9 => h9) rfl dX4_make_55 ?_
  refine lv_iconst (v := 1) (pc := 58) hx hb dX4_make_58 rfl ?_
  refine lv_iadd (pc := 59) hx hb dX4_make_59 ?_
  replace h := ez_bd h
  obtain ⟨w12, e11, h⟩ := h
  refine va_put (D := D) (v := .int ((w10.1 0 1) + 1)) (ty := .int) (pc := 60) hx hb hw inX4 tyX4 tyX4_ok nmX4 hown hK hP hD hS 0 rfl rfl 3 (by decide) (hw _ mw430) (fun _ h9 => h9) rfl (by decide +kernel) rfl rfl (Nat.le_of_ble_eq_true rfl) dX4_make_60 (fun H locs hP hD hS => ?_)
  replace hP : va_P D vwCl (wM a k w12) H := by rw [(ez_fIs e11)]; exact hP
  replace hD : va_D A (wM a k w12) := by rw [(ez_fIs e11)]; exact hD
  obtain rfl := ez_r1 h
  exact ez_retV C0 hP hD hK hS dX4_make_63
set_option maxRecDepth 100000 in
theorem kX4_make (l : Launch) (D : va_G) (a : Nat → Nat) (k : Nat → ClassId) (n : Nat) (x1 : Int32) (x2 : Int32) (x3 : Int32) (w : Wd) (z : Wd) (h : fX4_make n x1 x2 x3 w = some z) (sz : Nat) : Met l yX4_make wsX4_make ({ frames := 0, cells := 0, slots := 0, locals := 0 } : Room) (ez_Pc D (tM k) [.ref (a 0), .int x1, .int x2, .int x3] (wM a k w) sz) (ez_Qv D (tM k) (va_A (wM a k w) sz) (wM a k z)) 0 0 (va_A (wM a k w) sz) :=
  ez_mk (Qf := fun A => (ez_Qv D (tM k) A (wM a k z))) (by decide) rfl (Nat.le_of_ble_eq_true rfl) (fun p e s m below meth c A ls C0 _ hl hP hD hK => tX4_make_0 C0 hK n s.heap [] ls x1 x2 x3 w (lv_sub (l := [(0, .ref (a 0)), (1, .int x1), (2, .int x2), (3, .int x3)]) hl [0, 1, 2, 3] rfl) hP hD va_S.rf h) sz
/-! EnclosureCalculatorModel take -/
theorem dX4_take_0 : decode cX4_take 0 = .ok (.aload_n 0, 1) := by decide +kernel
theorem dX4_take_1 : decode cX4_take 1 = .ok (.dup, 1) := by decide +kernel
theorem dX4_take_2 : decode cX4_take 2 = .ok (.getfield 66, 3) := by decide +kernel
theorem dX4_take_5 : decode cX4_take 5 = .ok (.iconst 1, 1) := by decide +kernel
theorem dX4_take_6 : decode cX4_take 6 = .ok (.isub, 1) := by decide +kernel
theorem dX4_take_7 : decode cX4_take 7 = .ok (.putfield 66, 3) := by decide +kernel
theorem dX4_take_10 : decode cX4_take 10 = .ok (.aload_n 0, 1) := by decide +kernel
theorem dX4_take_11 : decode cX4_take 11 = .ok (.getfield 25, 3) := by decide +kernel
theorem dX4_take_14 : decode cX4_take 14 = .ok (.aload_n 0, 1) := by decide +kernel
theorem dX4_take_15 : decode cX4_take 15 = .ok (.getfield 66, 3) := by decide +kernel
theorem dX4_take_18 : decode cX4_take 18 = .ok (.iaload, 1) := by decide +kernel
theorem dX4_take_19 : decode cX4_take 19 = .ok (.ireturn, 1) := by decide +kernel
def fX4_take (n : Nat) (w : Wd) : Option (Int32 × Wd) :=
    (ez_fI w 2 ((w.1 0 2) - 1)).bind fun w2 =>
    (ez_ldI w2 6 21 (w2.1 0 2)).bind fun y4 =>
    some (y4, w2)
set_option maxHeartbeats 4000000 in
set_option maxRecDepth 100000 in
theorem tX4_take_0 {p : Program} {l : Launch} {e : Env} {s : State} {m : MethodId} {args : Array Value} {below : List Frame} {meth : Method} {c : Code} {A : Nat → Prop} {D : va_G} {a : Nat → Nat} {k : Nat → ClassId} {z : Int32 × Wd} (C0 : ez_C p s m args meth c cX4_take (some .int) 1 RX4 A) (hK : va_K D vwCl (tM k) s) : ∀ (n : Nat) (H : Heap) (locs : List Loc) (ls : Array Slot) (w : Wd), lv_has ls 1 [(0, .ref (a 0))] → va_P D vwCl (wM a k w) H → va_D A (wM a k w) → va_S A s.heap H locs → fX4_take n w = some z → W p l e ({ frames := 0, cells := 0, slots := 0, locals := 0 } : Room) s m args below meth c H locs 0 0 (MQ below (ez_Qi D (tM k) A z.1 (wM a k z.2)) args s 0 0 A) (F0 m 0 ls []) := by
  intro n
  intro H locs ls w hl hP hD hS h
  rw [fX4_take] at h
  have C1 := C0
  obtain ⟨hx, hb, hr, hml, hown, hw, hlk, hA, hN⟩ := C1
  refine lv_aload_n (pc := 0) hx hb dX4_take_0 rfl (lv_at hl 0 rfl) ?_
  refine lv_dup (pc := 1) hx hb dX4_take_1 rfl ?_
  refine va_get (D := D) (pc := 2) hx hb hw inX4 hown hK hP 0 rfl rfl 7 (by decide) (hw _ mw434) (fun _ h9 => h9) rfl dX4_take_2 ?_
  refine lv_iconst (v := 1) (pc := 5) hx hb dX4_take_5 rfl ?_
  refine lv_isub (pc := 6) hx hb dX4_take_6 ?_
  replace h := ez_bd h
  obtain ⟨w2, e1, h⟩ := h
  refine va_put (D := D) (v := .int ((w.1 0 2) - 1)) (ty := .int) (pc := 7) hx hb hw inX4 tyX4 tyX4_ok nmX4 hown hK hP hD hS 0 rfl rfl 7 (by decide) (hw _ mw434) (fun _ h9 => h9) rfl (by decide +kernel) rfl rfl (Nat.le_of_ble_eq_true rfl) dX4_take_7 (fun H locs hP hD hS => ?_)
  replace hP : va_P D vwCl (wM a k w2) H := by rw [(ez_fIs e1)]; exact hP
  replace hD : va_D A (wM a k w2) := by rw [(ez_fIs e1)]; exact hD
  refine lv_aload_n (pc := 10) hx hb dX4_take_10 rfl (lv_at hl 0 rfl) ?_
  refine va_get (D := D) (pc := 11) hx hb hw inX4 hown hK hP 0 rfl rfl 8 (by decide) (hw _ mw435) (fun _ h9 => h9) rfl dX4_take_11 ?_
  refine lv_aload_n (pc := 14) hx hb dX4_take_14 rfl (lv_at hl 0 rfl) ?_
  refine va_get (D := D) (pc := 15) hx hb hw inX4 hown hK hP 0 rfl rfl 7 (by decide) (hw _ mw434) (fun _ h9 => h9) rfl dX4_take_15 ?_
  replace h := ez_bd h
  obtain ⟨y4, e3, h⟩ := h
  obtain ⟨e3i, e3⟩ := ez_ldIs e3
  refine va_iald (D := D) (pc := 18) hx hb hK hP 6 5 rfl rfl e3i dX4_take_18 ?_
  refine lv_topi (fun y9 hy9 => ?_)
  obtain rfl : y4 = y9 := e3.trans hy9.symm
  obtain rfl := ez_r1 h
  exact ez_retI C0 hP hD hK hS dX4_take_19
set_option maxRecDepth 100000 in
theorem kX4_take (l : Launch) (D : va_G) (a : Nat → Nat) (k : Nat → ClassId) (n : Nat) (w : Wd) (z : Int32 × Wd) (h : fX4_take n w = some z) (sz : Nat) : Met l yX4_take wsX4_take ({ frames := 0, cells := 0, slots := 0, locals := 0 } : Room) (ez_Pc D (tM k) [.ref (a 0)] (wM a k w) sz) (ez_Qi D (tM k) (va_A (wM a k w) sz) z.1 (wM a k z.2)) 0 0 (va_A (wM a k w) sz) :=
  ez_mk (Qf := fun A => (ez_Qi D (tM k) A z.1 (wM a k z.2))) (by decide) rfl (Nat.le_of_ble_eq_true rfl) (fun p e s m below meth c A ls C0 _ hl hP hD hK => tX4_take_0 C0 hK n s.heap [] ls w (lv_sub (l := [(0, .ref (a 0))]) hl [0] rfl) hP hD va_S.rf h) sz
/-! EnclosureCalculatorModel power -/
theorem dX4_power_0 : decode cX4_power 0 = .ok (.aload_n 0, 1) := by decide +kernel
theorem dX4_power_1 : decode cX4_power 1 = .ok (.invokevirtual 69, 3) := by decide +kernel
theorem dX4_power_4 : decode cX4_power 4 = .ok (.istore_n 2, 1) := by decide +kernel
theorem dX4_power_5 : decode cX4_power 5 = .ok (.aload_n 0, 1) := by decide +kernel
theorem dX4_power_6 : decode cX4_power 6 = .ok (.bipush 7, 2) := by decide +kernel
theorem dX4_power_8 : decode cX4_power 8 = .ok (.iload_n 2, 1) := by decide +kernel
theorem dX4_power_9 : decode cX4_power 9 = .ok (.iload_n 2, 1) := by decide +kernel
theorem dX4_power_10 : decode cX4_power 10 = .ok (.invokevirtual 73, 3) := by decide +kernel
theorem dX4_power_13 : decode cX4_power 13 = .ok (.iload_n 1, 1) := by decide +kernel
theorem dX4_power_14 : decode cX4_power 14 = .ok (.iconst 4, 1) := by decide +kernel
theorem dX4_power_15 : decode cX4_power 15 = .ok (.if_icmp .lt 16, 3) := by decide +kernel
theorem dX4_power_18 : decode cX4_power 18 = .ok (.aload_n 0, 1) := by decide +kernel
theorem dX4_power_19 : decode cX4_power 19 = .ok (.invokevirtual 69, 3) := by decide +kernel
theorem dX4_power_22 : decode cX4_power 22 = .ok (.istore_n 3, 1) := by decide +kernel
theorem dX4_power_23 : decode cX4_power 23 = .ok (.aload_n 0, 1) := by decide +kernel
theorem dX4_power_24 : decode cX4_power 24 = .ok (.bipush 7, 2) := by decide +kernel
theorem dX4_power_26 : decode cX4_power 26 = .ok (.iload_n 3, 1) := by decide +kernel
theorem dX4_power_27 : decode cX4_power 27 = .ok (.iload_n 3, 1) := by decide +kernel
theorem dX4_power_28 : decode cX4_power 28 = .ok (.invokevirtual 73, 3) := by decide +kernel
theorem dX4_power_31 : decode cX4_power 31 = .ok (.iload_n 1, 1) := by decide +kernel
theorem dX4_power_32 : decode cX4_power 32 = .ok (.iconst 3, 1) := by decide +kernel
theorem dX4_power_33 : decode cX4_power 33 = .ok (.if_icmp .eq 8, 3) := by decide +kernel
theorem dX4_power_36 : decode cX4_power 36 = .ok (.iload_n 1, 1) := by decide +kernel
theorem dX4_power_37 : decode cX4_power 37 = .ok (.iconst 5, 1) := by decide +kernel
theorem dX4_power_38 : decode cX4_power 38 = .ok (.if_icmp .ne 15, 3) := by decide +kernel
theorem dX4_power_41 : decode cX4_power 41 = .ok (.aload_n 0, 1) := by decide +kernel
theorem dX4_power_42 : decode cX4_power 42 = .ok (.invokevirtual 69, 3) := by decide +kernel
theorem dX4_power_45 : decode cX4_power 45 = .ok (.istore_n 3, 1) := by decide +kernel
theorem dX4_power_46 : decode cX4_power 46 = .ok (.aload_n 0, 1) := by decide +kernel
theorem dX4_power_47 : decode cX4_power 47 = .ok (.iconst 4, 1) := by decide +kernel
theorem dX4_power_48 : decode cX4_power 48 = .ok (.iload_n 3, 1) := by decide +kernel
theorem dX4_power_49 : decode cX4_power 49 = .ok (.iload_n 2, 1) := by decide +kernel
theorem dX4_power_50 : decode cX4_power 50 = .ok (.invokevirtual 73, 3) := by decide +kernel
theorem dX4_power_53 : decode cX4_power 53 = .ok (.return_, 1) := by decide +kernel
def fX4_power_31 (n : Nat) (x1 : Int32) (x2 : Int32) (w : Wd) : Option (Wd) :=
    if x1 = 3 then
      (fX4_take n w).bind fun z2 =>
      (fX4_make n 4 z2.1 x2 z2.2).bind fun z4 =>
      some z4
    else
      if x1 = 5 then
        (fX4_take n w).bind fun z7 =>
        (fX4_make n 4 z7.1 x2 z7.2).bind fun z9 =>
        some z9
      else
        some w
def fX4_power (n : Nat) (x1 : Int32) (w : Wd) : Option (Wd) :=
    (fX4_take n w).bind fun z1 =>
    (fX4_make n 7 z1.1 z1.1 z1.2).bind fun z3 =>
    if x1 < 4 then
      fX4_power_31 n x1 z1.1 z3
    else
      (fX4_take n z3).bind fun z6 =>
      (fX4_make n 7 z6.1 z6.1 z6.2).bind fun z8 =>
      fX4_power_31 n x1 z1.1 z8
set_option maxHeartbeats 4000000 in
set_option maxRecDepth 100000 in
theorem tX4_power_31 {p : Program} {l : Launch} {e : Env} {s : State} {m : MethodId} {args : Array Value} {below : List Frame} {meth : Method} {c : Code} {A : Nat → Prop} {D : va_G} {a : Nat → Nat} {k : Nat → ClassId} {z : Wd} (C0 : ez_C p s m args meth c cX4_power none 4 RX4 A) (hK : va_K D vwCl (tM k) s) : ∀ (n : Nat) (H : Heap) (locs : List Loc) (ls : Array Slot) (x1 : Int32) (x2 : Int32) (w : Wd), lv_has ls 4 [(0, .ref (a 0)), (1, .int x1), (2, .int x2)] → va_P D vwCl (wM a k w) H → va_D A (wM a k w) → va_S A s.heap H locs → fX4_power_31 n x1 x2 w = some z → W p l e ({ frames := 1, cells := 0, slots := 0, locals := 23 } : Room) s m args below meth c H locs 0 0 (MQ below (ez_Qv D (tM k) A (wM a k z)) args s 0 0 A) (F0 m 31 ls []) := by
  intro n
  intro H locs ls x1 x2 w hl hP hD hS h
  rw [fX4_power_31] at h
  have C1 := C0
  obtain ⟨hx, hb, hr, hml, hown, hw, hlk, hA, hN⟩ := C1
  refine lv_iload_n (pc := 31) hx hb dX4_power_31 rfl (lv_at hl 1 rfl) ?_
  refine lv_iconst (v := 3) (pc := 32) hx hb dX4_power_32 rfl ?_
  refine lv_icmp_eq (pc := 33) (tgt := 41) hx hb dX4_power_33 (by decide) (fun c1 => ?_) (fun c1 => ?_)
  · replace h := ez_it c1 h
    refine lv_aload_n (pc := 41) hx hb dX4_power_41 rfl (lv_at hl 0 rfl) ?_
    replace h := ez_bd h
    obtain ⟨z2, e3, h⟩ := h
    refine ez_callI (r := z2.1) (pc := 42) (wr := []) (wl := (wM a k w)) (wl' := (wM a k z2.2)) (va_runV (g := F0 m 42 ls [.ref (a 0)]) (As := []) (rest := []) ⟨hx, hb, hml, hown, hw⟩ (kX4_take l D a k n w z2 e3 H.size) (cwV 0 hw (ez_gV mw544 mw546 mp39 mw4 mw547) rfl rfl rfl (by decide +kernel) ⟨Nat.le_of_ble_eq_true rfl, Nat.le_of_ble_eq_true rfl⟩) (ez_preV (wr := []) (wl := (wM a k w)) hP hD hK hN 0 rfl rfl) rfl rfl hl.1 rfl (lv_room (Nat.le_of_ble_eq_true rfl)) dX4_power_42 ⟨Nat.le_refl _, Nat.le_refl _⟩) hP hD hS hA (fun H locs hP hD hS => ?_)
    replace hP : va_P D vwCl (wM a k z2.2) H := hP
    replace hD : va_D A (wM a k z2.2) := hD
    refine lv_istore_n (pc := 45) hx hb dX4_power_45 rfl hl (by decide) rfl (fun ls hl => ?_)
    replace hl : lv_has ls 4 [(3, .int z2.1), (0, .ref (a 0)), (1, .int x1), (2, .int x2)] := hl
    refine lv_aload_n (pc := 46) hx hb dX4_power_46 rfl (lv_at hl 1 rfl) ?_
    refine lv_iconst (v := 4) (pc := 47) hx hb dX4_power_47 rfl ?_
    refine lv_iload_n (pc := 48) hx hb dX4_power_48 rfl (lv_at hl 0 rfl) ?_
    refine lv_iload_n (pc := 49) hx hb dX4_power_49 rfl (lv_at hl 3 rfl) ?_
    replace h := ez_bd h
    obtain ⟨z4, e5, h⟩ := h
    refine ez_callV (pc := 50) (wr := []) (wl := (wM a k z2.2)) (wl' := (wM a k z4)) (va_runV (g := F0 m 50 ls [.int x2, .int z2.1, .int 4, .ref (a 0)]) (As := [.int 4, .int z2.1, .int x2]) (rest := []) ⟨hx, hb, hml, hown, hw⟩ (kX4_make l D a k n 4 z2.1 x2 z2.2 z4 e5 H.size) (cwV 3 hw (ez_gV mw532 mw534 mp36 mw4 mw535) rfl rfl rfl (by decide +kernel) ⟨Nat.le_of_ble_eq_true rfl, Nat.le_of_ble_eq_true rfl⟩) (ez_preV (wr := []) (wl := (wM a k z2.2)) hP hD hK hN 0 rfl rfl) rfl rfl hl.1 rfl (lv_room (Nat.le_of_ble_eq_true rfl)) dX4_power_50 ⟨Nat.le_refl _, Nat.le_refl _⟩) hP hD hS hA (fun H locs hP hD hS => ?_)
    replace hP : va_P D vwCl (wM a k z4) H := hP
    replace hD : va_D A (wM a k z4) := hD
    obtain rfl := ez_r1 h
    exact ez_retV C0 hP hD hK hS dX4_power_53
  · replace h := ez_if c1 h
    refine lv_iload_n (pc := 36) hx hb dX4_power_36 rfl (lv_at hl 1 rfl) ?_
    refine lv_iconst (v := 5) (pc := 37) hx hb dX4_power_37 rfl ?_
    refine lv_icmp_ne (pc := 38) (tgt := 53) hx hb dX4_power_38 (by decide) (fun c6 => ?_) (fun c6 => ?_)
    · replace h := ez_if c6 h
      obtain rfl := ez_r1 h
      exact ez_retV C0 hP hD hK hS dX4_power_53
    · replace h := ez_it c6 h
      refine lv_aload_n (pc := 41) hx hb dX4_power_41 rfl (lv_at hl 0 rfl) ?_
      replace h := ez_bd h
      obtain ⟨z7, e8, h⟩ := h
      refine ez_callI (r := z7.1) (pc := 42) (wr := []) (wl := (wM a k w)) (wl' := (wM a k z7.2)) (va_runV (g := F0 m 42 ls [.ref (a 0)]) (As := []) (rest := []) ⟨hx, hb, hml, hown, hw⟩ (kX4_take l D a k n w z7 e8 H.size) (cwV 0 hw (ez_gV mw544 mw546 mp39 mw4 mw547) rfl rfl rfl (by decide +kernel) ⟨Nat.le_of_ble_eq_true rfl, Nat.le_of_ble_eq_true rfl⟩) (ez_preV (wr := []) (wl := (wM a k w)) hP hD hK hN 0 rfl rfl) rfl rfl hl.1 rfl (lv_room (Nat.le_of_ble_eq_true rfl)) dX4_power_42 ⟨Nat.le_refl _, Nat.le_refl _⟩) hP hD hS hA (fun H locs hP hD hS => ?_)
      replace hP : va_P D vwCl (wM a k z7.2) H := hP
      replace hD : va_D A (wM a k z7.2) := hD
      refine lv_istore_n (pc := 45) hx hb dX4_power_45 rfl hl (by decide) rfl (fun ls hl => ?_)
      replace hl : lv_has ls 4 [(3, .int z7.1), (0, .ref (a 0)), (1, .int x1), (2, .int x2)] := hl
      refine lv_aload_n (pc := 46) hx hb dX4_power_46 rfl (lv_at hl 1 rfl) ?_
      refine lv_iconst (v := 4) (pc := 47) hx hb dX4_power_47 rfl ?_
      refine lv_iload_n (pc := 48) hx hb dX4_power_48 rfl (lv_at hl 0 rfl) ?_
      refine lv_iload_n (pc := 49) hx hb dX4_power_49 rfl (lv_at hl 3 rfl) ?_
      replace h := ez_bd h
      obtain ⟨z9, e10, h⟩ := h
      refine ez_callV (pc := 50) (wr := []) (wl := (wM a k z7.2)) (wl' := (wM a k z9)) (va_runV (g := F0 m 50 ls [.int x2, .int z7.1, .int 4, .ref (a 0)]) (As := [.int 4, .int z7.1, .int x2]) (rest := []) ⟨hx, hb, hml, hown, hw⟩ (kX4_make l D a k n 4 z7.1 x2 z7.2 z9 e10 H.size) (cwV 3 hw (ez_gV mw532 mw534 mp36 mw4 mw535) rfl rfl rfl (by decide +kernel) ⟨Nat.le_of_ble_eq_true rfl, Nat.le_of_ble_eq_true rfl⟩) (ez_preV (wr := []) (wl := (wM a k z7.2)) hP hD hK hN 0 rfl rfl) rfl rfl hl.1 rfl (lv_room (Nat.le_of_ble_eq_true rfl)) dX4_power_50 ⟨Nat.le_refl _, Nat.le_refl _⟩) hP hD hS hA (fun H locs hP hD hS => ?_)
      replace hP : va_P D vwCl (wM a k z9) H := hP
      replace hD : va_D A (wM a k z9) := hD
      obtain rfl := ez_r1 h
      exact ez_retV C0 hP hD hK hS dX4_power_53
set_option maxHeartbeats 4000000 in
set_option maxRecDepth 100000 in
theorem tX4_power_0 {p : Program} {l : Launch} {e : Env} {s : State} {m : MethodId} {args : Array Value} {below : List Frame} {meth : Method} {c : Code} {A : Nat → Prop} {D : va_G} {a : Nat → Nat} {k : Nat → ClassId} {z : Wd} (C0 : ez_C p s m args meth c cX4_power none 4 RX4 A) (hK : va_K D vwCl (tM k) s) : ∀ (n : Nat) (H : Heap) (locs : List Loc) (ls : Array Slot) (x1 : Int32) (w : Wd), lv_has ls 4 [(0, .ref (a 0)), (1, .int x1)] → va_P D vwCl (wM a k w) H → va_D A (wM a k w) → va_S A s.heap H locs → fX4_power n x1 w = some z → W p l e ({ frames := 1, cells := 0, slots := 0, locals := 23 } : Room) s m args below meth c H locs 0 0 (MQ below (ez_Qv D (tM k) A (wM a k z)) args s 0 0 A) (F0 m 0 ls []) := by
  intro n
  intro H locs ls x1 w hl hP hD hS h
  rw [fX4_power] at h
  have C1 := C0
  obtain ⟨hx, hb, hr, hml, hown, hw, hlk, hA, hN⟩ := C1
  refine lv_aload_n (pc := 0) hx hb dX4_power_0 rfl (lv_at hl 0 rfl) ?_
  replace h := ez_bd h
  obtain ⟨z1, e2, h⟩ := h
  refine ez_callI (r := z1.1) (pc := 1) (wr := []) (wl := (wM a k w)) (wl' := (wM a k z1.2)) (va_runV (g := F0 m 1 ls [.ref (a 0)]) (As := []) (rest := []) ⟨hx, hb, hml, hown, hw⟩ (kX4_take l D a k n w z1 e2 H.size) (cwV 0 hw (ez_gV mw544 mw546 mp39 mw4 mw547) rfl rfl rfl (by decide +kernel) ⟨Nat.le_of_ble_eq_true rfl, Nat.le_of_ble_eq_true rfl⟩) (ez_preV (wr := []) (wl := (wM a k w)) hP hD hK hN 0 rfl rfl) rfl rfl hl.1 rfl (lv_room (Nat.le_of_ble_eq_true rfl)) dX4_power_1 ⟨Nat.le_refl _, Nat.le_refl _⟩) hP hD hS hA (fun H locs hP hD hS => ?_)
  replace hP : va_P D vwCl (wM a k z1.2) H := hP
  replace hD : va_D A (wM a k z1.2) := hD
  refine lv_istore_n (pc := 4) hx hb dX4_power_4 rfl hl (by decide) rfl (fun ls hl => ?_)
  replace hl : lv_has ls 4 [(2, .int z1.1), (0, .ref (a 0)), (1, .int x1)] := hl
  refine lv_aload_n (pc := 5) hx hb dX4_power_5 rfl (lv_at hl 1 rfl) ?_
  refine lv_bipush (v := 7) (pc := 6) hx hb dX4_power_6 rfl ?_
  refine lv_iload_n (pc := 8) hx hb dX4_power_8 rfl (lv_at hl 0 rfl) ?_
  refine lv_iload_n (pc := 9) hx hb dX4_power_9 rfl (lv_at hl 0 rfl) ?_
  replace h := ez_bd h
  obtain ⟨z3, e4, h⟩ := h
  refine ez_callV (pc := 10) (wr := []) (wl := (wM a k z1.2)) (wl' := (wM a k z3)) (va_runV (g := F0 m 10 ls [.int z1.1, .int z1.1, .int 7, .ref (a 0)]) (As := [.int 7, .int z1.1, .int z1.1]) (rest := []) ⟨hx, hb, hml, hown, hw⟩ (kX4_make l D a k n 7 z1.1 z1.1 z1.2 z3 e4 H.size) (cwV 3 hw (ez_gV mw532 mw534 mp36 mw4 mw535) rfl rfl rfl (by decide +kernel) ⟨Nat.le_of_ble_eq_true rfl, Nat.le_of_ble_eq_true rfl⟩) (ez_preV (wr := []) (wl := (wM a k z1.2)) hP hD hK hN 0 rfl rfl) rfl rfl hl.1 rfl (lv_room (Nat.le_of_ble_eq_true rfl)) dX4_power_10 ⟨Nat.le_refl _, Nat.le_refl _⟩) hP hD hS hA (fun H locs hP hD hS => ?_)
  replace hP : va_P D vwCl (wM a k z3) H := hP
  replace hD : va_D A (wM a k z3) := hD
  refine lv_iload_n (pc := 13) hx hb dX4_power_13 rfl (lv_at hl 2 rfl) ?_
  refine lv_iconst (v := 4) (pc := 14) hx hb dX4_power_14 rfl ?_
  refine lv_icmp_lt (pc := 15) (tgt := 31) hx hb dX4_power_15 (by decide) (fun c5 => ?_) (fun c5 => ?_)
  · replace h := ez_it c5 h
    exact tX4_power_31 C0 hK  n _ _ _ x1 z1.1 z3 (lv_sub hl [1, 2, 0] rfl) hP hD hS h
  · replace h := ez_if c5 h
    refine lv_aload_n (pc := 18) hx hb dX4_power_18 rfl (lv_at hl 1 rfl) ?_
    replace h := ez_bd h
    obtain ⟨z6, e7, h⟩ := h
    refine ez_callI (r := z6.1) (pc := 19) (wr := []) (wl := (wM a k z3)) (wl' := (wM a k z6.2)) (va_runV (g := F0 m 19 ls [.ref (a 0)]) (As := []) (rest := []) ⟨hx, hb, hml, hown, hw⟩ (kX4_take l D a k n z3 z6 e7 H.size) (cwV 0 hw (ez_gV mw544 mw546 mp39 mw4 mw547) rfl rfl rfl (by decide +kernel) ⟨Nat.le_of_ble_eq_true rfl, Nat.le_of_ble_eq_true rfl⟩) (ez_preV (wr := []) (wl := (wM a k z3)) hP hD hK hN 0 rfl rfl) rfl rfl hl.1 rfl (lv_room (Nat.le_of_ble_eq_true rfl)) dX4_power_19 ⟨Nat.le_refl _, Nat.le_refl _⟩) hP hD hS hA (fun H locs hP hD hS => ?_)
    replace hP : va_P D vwCl (wM a k z6.2) H := hP
    replace hD : va_D A (wM a k z6.2) := hD
    refine lv_istore_n (pc := 22) hx hb dX4_power_22 rfl hl (by decide) rfl (fun ls hl => ?_)
    replace hl : lv_has ls 4 [(3, .int z6.1), (2, .int z1.1), (0, .ref (a 0)), (1, .int x1)] := hl
    refine lv_aload_n (pc := 23) hx hb dX4_power_23 rfl (lv_at hl 2 rfl) ?_
    refine lv_bipush (v := 7) (pc := 24) hx hb dX4_power_24 rfl ?_
    refine lv_iload_n (pc := 26) hx hb dX4_power_26 rfl (lv_at hl 0 rfl) ?_
    refine lv_iload_n (pc := 27) hx hb dX4_power_27 rfl (lv_at hl 0 rfl) ?_
    replace h := ez_bd h
    obtain ⟨z8, e9, h⟩ := h
    refine ez_callV (pc := 28) (wr := []) (wl := (wM a k z6.2)) (wl' := (wM a k z8)) (va_runV (g := F0 m 28 ls [.int z6.1, .int z6.1, .int 7, .ref (a 0)]) (As := [.int 7, .int z6.1, .int z6.1]) (rest := []) ⟨hx, hb, hml, hown, hw⟩ (kX4_make l D a k n 7 z6.1 z6.1 z6.2 z8 e9 H.size) (cwV 3 hw (ez_gV mw532 mw534 mp36 mw4 mw535) rfl rfl rfl (by decide +kernel) ⟨Nat.le_of_ble_eq_true rfl, Nat.le_of_ble_eq_true rfl⟩) (ez_preV (wr := []) (wl := (wM a k z6.2)) hP hD hK hN 0 rfl rfl) rfl rfl hl.1 rfl (lv_room (Nat.le_of_ble_eq_true rfl)) dX4_power_28 ⟨Nat.le_refl _, Nat.le_refl _⟩) hP hD hS hA (fun H locs hP hD hS => ?_)
    replace hP : va_P D vwCl (wM a k z8) H := hP
    replace hD : va_D A (wM a k z8) := hD
    exact tX4_power_31 C0 hK  n _ _ _ x1 z1.1 z8 (lv_sub hl [2, 3, 1] rfl) hP hD hS h
set_option maxRecDepth 100000 in
theorem kX4_power (l : Launch) (D : va_G) (a : Nat → Nat) (k : Nat → ClassId) (n : Nat) (x1 : Int32) (w : Wd) (z : Wd) (h : fX4_power n x1 w = some z) (sz : Nat) : Met l yX4_power wsX4_power ({ frames := 1, cells := 0, slots := 0, locals := 23 } : Room) (ez_Pc D (tM k) [.ref (a 0), .int x1] (wM a k w) sz) (ez_Qv D (tM k) (va_A (wM a k w) sz) (wM a k z)) 0 0 (va_A (wM a k w) sz) :=
  ez_mk (Qf := fun A => (ez_Qv D (tM k) A (wM a k z))) (by decide) rfl (Nat.le_of_ble_eq_true rfl) (fun p e s m below meth c A ls C0 _ hl hP hD hK => tX4_power_0 C0 hK n s.heap [] ls x1 w (lv_sub (l := [(0, .ref (a 0)), (1, .int x1)]) hl [0, 1] rfl) hP hD va_S.rf h) sz
/-! EnclosureCalculatorModel settle -/
theorem dX4_settle_0 : decode cX4_settle 0 = .ok (.aload_n 0, 1) := by decide +kernel
theorem dX4_settle_1 : decode cX4_settle 1 = .ok (.getfield 77, 3) := by decide +kernel
theorem dX4_settle_4 : decode cX4_settle 4 = .ok (.ifCond .le 108, 3) := by decide +kernel
theorem dX4_settle_7 : decode cX4_settle 7 = .ok (.aload_n 0, 1) := by decide +kernel
theorem dX4_settle_8 : decode cX4_settle 8 = .ok (.getfield 28, 3) := by decide +kernel
theorem dX4_settle_11 : decode cX4_settle 11 = .ok (.aload_n 0, 1) := by decide +kernel
theorem dX4_settle_12 : decode cX4_settle 12 = .ok (.getfield 77, 3) := by decide +kernel
theorem dX4_settle_15 : decode cX4_settle 15 = .ok (.iconst 1, 1) := by decide +kernel
theorem dX4_settle_16 : decode cX4_settle 16 = .ok (.isub, 1) := by decide +kernel
theorem dX4_settle_17 : decode cX4_settle 17 = .ok (.iaload, 1) := by decide +kernel
theorem dX4_settle_18 : decode cX4_settle 18 = .ok (.invokestatic 80, 3) := by decide +kernel
theorem dX4_settle_21 : decode cX4_settle 21 = .ok (.iload_n 1, 1) := by decide +kernel
theorem dX4_settle_22 : decode cX4_settle 22 = .ok (.if_icmp .lt 90, 3) := by decide +kernel
theorem dX4_settle_25 : decode cX4_settle 25 = .ok (.aload_n 0, 1) := by decide +kernel
theorem dX4_settle_26 : decode cX4_settle 26 = .ok (.dup, 1) := by decide +kernel
theorem dX4_settle_27 : decode cX4_settle 27 = .ok (.getfield 77, 3) := by decide +kernel
theorem dX4_settle_30 : decode cX4_settle 30 = .ok (.iconst 1, 1) := by decide +kernel
theorem dX4_settle_31 : decode cX4_settle 31 = .ok (.isub, 1) := by decide +kernel
theorem dX4_settle_32 : decode cX4_settle 32 = .ok (.putfield 77, 3) := by decide +kernel
theorem dX4_settle_35 : decode cX4_settle 35 = .ok (.aload_n 0, 1) := by decide +kernel
theorem dX4_settle_36 : decode cX4_settle 36 = .ok (.getfield 28, 3) := by decide +kernel
theorem dX4_settle_39 : decode cX4_settle 39 = .ok (.aload_n 0, 1) := by decide +kernel
theorem dX4_settle_40 : decode cX4_settle 40 = .ok (.getfield 77, 3) := by decide +kernel
theorem dX4_settle_43 : decode cX4_settle 43 = .ok (.iaload, 1) := by decide +kernel
theorem dX4_settle_44 : decode cX4_settle 44 = .ok (.istore_n 2, 1) := by decide +kernel
theorem dX4_settle_45 : decode cX4_settle 45 = .ok (.aload_n 0, 1) := by decide +kernel
theorem dX4_settle_46 : decode cX4_settle 46 = .ok (.invokevirtual 69, 3) := by decide +kernel
theorem dX4_settle_49 : decode cX4_settle 49 = .ok (.istore_n 3, 1) := by decide +kernel
theorem dX4_settle_50 : decode cX4_settle 50 = .ok (.iload_n 2, 1) := by decide +kernel
theorem dX4_settle_51 : decode cX4_settle 51 = .ok (.iconst 1, 1) := by decide +kernel
theorem dX4_settle_52 : decode cX4_settle 52 = .ok (.if_icmp .ne 13, 3) := by decide +kernel
theorem dX4_settle_55 : decode cX4_settle 55 = .ok (.aload_n 0, 1) := by decide +kernel
theorem dX4_settle_56 : decode cX4_settle 56 = .ok (.iconst 1, 1) := by decide +kernel
theorem dX4_settle_57 : decode cX4_settle 57 = .ok (.iload_n 3, 1) := by decide +kernel
theorem dX4_settle_58 : decode cX4_settle 58 = .ok (.iload_n 3, 1) := by decide +kernel
theorem dX4_settle_59 : decode cX4_settle 59 = .ok (.invokevirtual 73, 3) := by decide +kernel
theorem dX4_settle_62 : decode cX4_settle 62 = .ok (.goto 47, 3) := by decide +kernel
theorem dX4_settle_65 : decode cX4_settle 65 = .ok (.aload_n 0, 1) := by decide +kernel
theorem dX4_settle_66 : decode cX4_settle 66 = .ok (.invokevirtual 69, 3) := by decide +kernel
theorem dX4_settle_69 : decode cX4_settle 69 = .ok (.istore 4, 2) := by decide +kernel
theorem dX4_settle_71 : decode cX4_settle 71 = .ok (.aload_n 0, 1) := by decide +kernel
theorem dX4_settle_72 : decode cX4_settle 72 = .ok (.iload_n 2, 1) := by decide +kernel
theorem dX4_settle_73 : decode cX4_settle 73 = .ok (.bipush 43, 2) := by decide +kernel
theorem dX4_settle_75 : decode cX4_settle 75 = .ok (.if_icmp .ne 7, 3) := by decide +kernel
theorem dX4_settle_78 : decode cX4_settle 78 = .ok (.iconst 2, 1) := by decide +kernel
theorem dX4_settle_79 : decode cX4_settle 79 = .ok (.goto 24, 3) := by decide +kernel
theorem dX4_settle_82 : decode cX4_settle 82 = .ok (.iload_n 2, 1) := by decide +kernel
theorem dX4_settle_83 : decode cX4_settle 83 = .ok (.bipush 45, 2) := by decide +kernel
theorem dX4_settle_85 : decode cX4_settle 85 = .ok (.if_icmp .ne 7, 3) := by decide +kernel
theorem dX4_settle_88 : decode cX4_settle 88 = .ok (.iconst 3, 1) := by decide +kernel
theorem dX4_settle_89 : decode cX4_settle 89 = .ok (.goto 14, 3) := by decide +kernel
theorem dX4_settle_92 : decode cX4_settle 92 = .ok (.iload_n 2, 1) := by decide +kernel
theorem dX4_settle_93 : decode cX4_settle 93 = .ok (.bipush 42, 2) := by decide +kernel
theorem dX4_settle_95 : decode cX4_settle 95 = .ok (.if_icmp .ne 7, 3) := by decide +kernel
theorem dX4_settle_98 : decode cX4_settle 98 = .ok (.iconst 4, 1) := by decide +kernel
theorem dX4_settle_99 : decode cX4_settle 99 = .ok (.goto 4, 3) := by decide +kernel
theorem dX4_settle_102 : decode cX4_settle 102 = .ok (.iconst 5, 1) := by decide +kernel
theorem dX4_settle_103 : decode cX4_settle 103 = .ok (.iload 4, 2) := by decide +kernel
theorem dX4_settle_105 : decode cX4_settle 105 = .ok (.iload_n 3, 1) := by decide +kernel
theorem dX4_settle_106 : decode cX4_settle 106 = .ok (.invokevirtual 73, 3) := by decide +kernel
theorem dX4_settle_109 : decode cX4_settle 109 = .ok (.goto (-109), 3) := by decide +kernel
theorem dX4_settle_112 : decode cX4_settle 112 = .ok (.return_, 1) := by decide +kernel
def fX4_settle : Nat → Int32 → Wd → Option (Wd)
  | 0, _, _ => none
  | n + 1, x1, w =>
    if (w.1 0 3) ≤ 0 then
      some w
    else
      (ez_ldI w 7 21 ((w.1 0 3) - 1)).bind fun y3 =>
      (fX4_hold n y3).bind fun z4 =>
      if z4 < x1 then
        some w
      else
        (ez_fI w 3 ((w.1 0 3) - 1)).bind fun w8 =>
        (ez_ldI w8 7 21 (w8.1 0 3)).bind fun y10 =>
        (fX4_take n w8).bind fun z11 =>
        if y10 = 1 then
          (fX4_make n 1 z11.1 z11.1 z11.2).bind fun z27 =>
          fX4_settle n x1 z27
        else
          (fX4_take n z11.2).bind fun z14 =>
          if y10 = 43 then
            (fX4_make n 2 z14.1 z11.1 z14.2).bind fun z25 =>
            fX4_settle n x1 z25
          else
            if y10 = 45 then
              (fX4_make n 3 z14.1 z11.1 z14.2).bind fun z23 =>
              fX4_settle n x1 z23
            else
              if y10 = 42 then
                (fX4_make n 4 z14.1 z11.1 z14.2).bind fun z21 =>
                fX4_settle n x1 z21
              else
                (fX4_make n 5 z14.1 z11.1 z14.2).bind fun z19 =>
                fX4_settle n x1 z19
set_option maxHeartbeats 4000000 in
set_option maxRecDepth 100000 in
theorem tX4_settle_0 {p : Program} {l : Launch} {e : Env} {s : State} {m : MethodId} {args : Array Value} {below : List Frame} {meth : Method} {c : Code} {A : Nat → Prop} {D : va_G} {a : Nat → Nat} {k : Nat → ClassId} {z : Wd} (C0 : ez_C p s m args meth c cX4_settle none 5 RX4 A) (hK : va_K D vwCl (tM k) s) : ∀ (n : Nat) (H : Heap) (locs : List Loc) (ls : Array Slot) (x1 : Int32) (w : Wd), lv_has ls 5 [(0, .ref (a 0)), (1, .int x1)] → va_P D vwCl (wM a k w) H → va_D A (wM a k w) → va_S A s.heap H locs → fX4_settle n x1 w = some z → W p l e ({ frames := 1, cells := 0, slots := 0, locals := 23 } : Room) s m args below meth c H locs 0 0 (MQ below (ez_Qv D (tM k) A (wM a k z)) args s 0 0 A) (F0 m 0 ls []) := by
  intro n
  induction n with
  | zero =>
    intro H locs ls x1 w hl hP hD hS h
    rw [fX4_settle] at h
    cases h
  | succ n ih =>
    intro H locs ls x1 w hl hP hD hS h
    rw [fX4_settle] at h
    have C1 := C0
    obtain ⟨hx, hb, hr, hml, hown, hw, hlk, hA, hN⟩ := C1
    refine lv_aload_n (pc := 0) hx hb dX4_settle_0 rfl (lv_at hl 0 rfl) ?_
    refine va_get (D := D) (pc := 1) hx hb hw inX4 hown hK hP 0 rfl rfl 9 (by decide) (hw _ mw436) (fun _ h9 => h9) rfl dX4_settle_1 ?_
    refine lv_if_le (pc := 4) (tgt := 112) hx hb dX4_settle_4 (by decide) (fun c1 => ?_) (fun c1 => ?_)
    · replace h := ez_it c1 h
      obtain rfl := ez_r1 h
      exact ez_retV C0 hP hD hK hS dX4_settle_112
    · replace h := ez_if c1 h
      refine lv_aload_n (pc := 7) hx hb dX4_settle_7 rfl (lv_at hl 0 rfl) ?_
      refine va_get (D := D) (pc := 8) hx hb hw inX4 hown hK hP 0 rfl rfl 10 (by decide) (hw _ mw437) (fun _ h9 => h9) rfl dX4_settle_8 ?_
      refine lv_aload_n (pc := 11) hx hb dX4_settle_11 rfl (lv_at hl 0 rfl) ?_
      refine va_get (D := D) (pc := 12) hx hb hw inX4 hown hK hP 0 rfl rfl 9 (by decide) (hw _ mw436) (fun _ h9 => h9) rfl dX4_settle_12 ?_
      refine lv_iconst (v := 1) (pc := 15) hx hb dX4_settle_15 rfl ?_
      refine lv_isub (pc := 16) hx hb dX4_settle_16 ?_
      replace h := ez_bd h
      obtain ⟨y3, e2, h⟩ := h
      obtain ⟨e2i, e2⟩ := ez_ldIs e2
      refine va_iald (D := D) (pc := 17) hx hb hK hP 7 6 rfl rfl e2i dX4_settle_17 ?_
      refine lv_topi (fun y9 hy9 => ?_)
      obtain rfl : y3 = y9 := e2.trans hy9.symm
      replace h := ez_bd h
      obtain ⟨z4, e5, h⟩ := h
      refine ez_croI (r := z4) (pc := 18) (va_runS (g := F0 m 18 ls [.int y3]) (As := [.int y3]) (rest := []) ⟨hx, hb, hml, hown, hw⟩ (kX4_hold l n y3 z4 e5) (va_cwS 1 hw (ez_gS mw552 mw553 mw4 mw554) rfl rfl rfl (by decide +kernel) ⟨Nat.le_of_ble_eq_true rfl, Nat.le_of_ble_eq_true rfl⟩) (ez_preRS hN) rfl rfl hl.1 rfl (lv_room (Nat.le_of_ble_eq_true rfl)) dX4_settle_18 ⟨Nat.le_refl _, Nat.le_refl _⟩) ?_
      refine lv_iload_n (pc := 21) hx hb dX4_settle_21 rfl (lv_at hl 1 rfl) ?_
      refine lv_icmp_lt (pc := 22) (tgt := 112) hx hb dX4_settle_22 (by decide) (fun c6 => ?_) (fun c6 => ?_)
      · replace h := ez_it c6 h
        obtain rfl := ez_r1 h
        exact ez_retV C0 hP hD hK hS dX4_settle_112
      · replace h := ez_if c6 h
        refine lv_aload_n (pc := 25) hx hb dX4_settle_25 rfl (lv_at hl 0 rfl) ?_
        refine lv_dup (pc := 26) hx hb dX4_settle_26 rfl ?_
        refine va_get (D := D) (pc := 27) hx hb hw inX4 hown hK hP 0 rfl rfl 9 (by decide) (hw _ mw436) (fun _ h9 => h9) rfl dX4_settle_27 ?_
        refine lv_iconst (v := 1) (pc := 30) hx hb dX4_settle_30 rfl ?_
        refine lv_isub (pc := 31) hx hb dX4_settle_31 ?_
        replace h := ez_bd h
        obtain ⟨w8, e7, h⟩ := h
        refine va_put (D := D) (v := .int ((w.1 0 3) - 1)) (ty := .int) (pc := 32) hx hb hw inX4 tyX4 tyX4_ok nmX4 hown hK hP hD hS 0 rfl rfl 9 (by decide) (hw _ mw436) (fun _ h9 => h9) rfl (by decide +kernel) rfl rfl (Nat.le_of_ble_eq_true rfl) dX4_settle_32 (fun H locs hP hD hS => ?_)
        replace hP : va_P D vwCl (wM a k w8) H := by rw [(ez_fIs e7)]; exact hP
        replace hD : va_D A (wM a k w8) := by rw [(ez_fIs e7)]; exact hD
        refine lv_aload_n (pc := 35) hx hb dX4_settle_35 rfl (lv_at hl 0 rfl) ?_
        refine va_get (D := D) (pc := 36) hx hb hw inX4 hown hK hP 0 rfl rfl 10 (by decide) (hw _ mw437) (fun _ h9 => h9) rfl dX4_settle_36 ?_
        refine lv_aload_n (pc := 39) hx hb dX4_settle_39 rfl (lv_at hl 0 rfl) ?_
        refine va_get (D := D) (pc := 40) hx hb hw inX4 hown hK hP 0 rfl rfl 9 (by decide) (hw _ mw436) (fun _ h9 => h9) rfl dX4_settle_40 ?_
        replace h := ez_bd h
        obtain ⟨y10, e9, h⟩ := h
        obtain ⟨e9i, e9⟩ := ez_ldIs e9
        refine va_iald (D := D) (pc := 43) hx hb hK hP 7 6 rfl rfl e9i dX4_settle_43 ?_
        refine lv_topi (fun y9 hy9 => ?_)
        obtain rfl : y10 = y9 := e9.trans hy9.symm
        refine lv_istore_n (pc := 44) hx hb dX4_settle_44 rfl hl (by decide) rfl (fun ls hl => ?_)
        replace hl : lv_has ls 5 [(2, .int y10), (0, .ref (a 0)), (1, .int x1)] := hl
        refine lv_aload_n (pc := 45) hx hb dX4_settle_45 rfl (lv_at hl 1 rfl) ?_
        replace h := ez_bd h
        obtain ⟨z11, e12, h⟩ := h
        refine ez_callI (r := z11.1) (pc := 46) (wr := []) (wl := (wM a k w8)) (wl' := (wM a k z11.2)) (va_runV (g := F0 m 46 ls [.ref (a 0)]) (As := []) (rest := []) ⟨hx, hb, hml, hown, hw⟩ (kX4_take l D a k n w8 z11 e12 H.size) (cwV 0 hw (ez_gV mw544 mw546 mp39 mw4 mw547) rfl rfl rfl (by decide +kernel) ⟨Nat.le_of_ble_eq_true rfl, Nat.le_of_ble_eq_true rfl⟩) (ez_preV (wr := []) (wl := (wM a k w8)) hP hD hK hN 0 rfl rfl) rfl rfl hl.1 rfl (lv_room (Nat.le_of_ble_eq_true rfl)) dX4_settle_46 ⟨Nat.le_refl _, Nat.le_refl _⟩) hP hD hS hA (fun H locs hP hD hS => ?_)
        replace hP : va_P D vwCl (wM a k z11.2) H := hP
        replace hD : va_D A (wM a k z11.2) := hD
        refine lv_istore_n (pc := 49) hx hb dX4_settle_49 rfl hl (by decide) rfl (fun ls hl => ?_)
        replace hl : lv_has ls 5 [(3, .int z11.1), (2, .int y10), (0, .ref (a 0)), (1, .int x1)] := hl
        refine lv_iload_n (pc := 50) hx hb dX4_settle_50 rfl (lv_at hl 1 rfl) ?_
        refine lv_iconst (v := 1) (pc := 51) hx hb dX4_settle_51 rfl ?_
        refine lv_icmp_ne (pc := 52) (tgt := 65) hx hb dX4_settle_52 (by decide) (fun c13 => ?_) (fun c13 => ?_)
        · replace h := ez_if c13 h
          refine lv_aload_n (pc := 65) hx hb dX4_settle_65 rfl (lv_at hl 2 rfl) ?_
          replace h := ez_bd h
          obtain ⟨z14, e15, h⟩ := h
          refine ez_callI (r := z14.1) (pc := 66) (wr := []) (wl := (wM a k z11.2)) (wl' := (wM a k z14.2)) (va_runV (g := F0 m 66 ls [.ref (a 0)]) (As := []) (rest := []) ⟨hx, hb, hml, hown, hw⟩ (kX4_take l D a k n z11.2 z14 e15 H.size) (cwV 0 hw (ez_gV mw544 mw546 mp39 mw4 mw547) rfl rfl rfl (by decide +kernel) ⟨Nat.le_of_ble_eq_true rfl, Nat.le_of_ble_eq_true rfl⟩) (ez_preV (wr := []) (wl := (wM a k z11.2)) hP hD hK hN 0 rfl rfl) rfl rfl hl.1 rfl (lv_room (Nat.le_of_ble_eq_true rfl)) dX4_settle_66 ⟨Nat.le_refl _, Nat.le_refl _⟩) hP hD hS hA (fun H locs hP hD hS => ?_)
          replace hP : va_P D vwCl (wM a k z14.2) H := hP
          replace hD : va_D A (wM a k z14.2) := hD
          refine lv_istore (pc := 69) hx hb dX4_settle_69 hl (by decide) rfl (fun ls hl => ?_)
          replace hl : lv_has ls 5 [(4, .int z14.1), (3, .int z11.1), (2, .int y10), (0, .ref (a 0)), (1, .int x1)] := hl
          refine lv_aload_n (pc := 71) hx hb dX4_settle_71 rfl (lv_at hl 3 rfl) ?_
          refine lv_iload_n (pc := 72) hx hb dX4_settle_72 rfl (lv_at hl 2 rfl) ?_
          refine lv_bipush (v := 43) (pc := 73) hx hb dX4_settle_73 rfl ?_
          refine lv_icmp_ne (pc := 75) (tgt := 82) hx hb dX4_settle_75 (by decide) (fun c16 => ?_) (fun c16 => ?_)
          · replace h := ez_if c16 h
            refine lv_iload_n (pc := 82) hx hb dX4_settle_82 rfl (lv_at hl 2 rfl) ?_
            refine lv_bipush (v := 45) (pc := 83) hx hb dX4_settle_83 rfl ?_
            refine lv_icmp_ne (pc := 85) (tgt := 92) hx hb dX4_settle_85 (by decide) (fun c17 => ?_) (fun c17 => ?_)
            · replace h := ez_if c17 h
              refine lv_iload_n (pc := 92) hx hb dX4_settle_92 rfl (lv_at hl 2 rfl) ?_
              refine lv_bipush (v := 42) (pc := 93) hx hb dX4_settle_93 rfl ?_
              refine lv_icmp_ne (pc := 95) (tgt := 102) hx hb dX4_settle_95 (by decide) (fun c18 => ?_) (fun c18 => ?_)
              · replace h := ez_if c18 h
                refine lv_iconst (v := 5) (pc := 102) hx hb dX4_settle_102 rfl ?_
                refine lv_iload (pc := 103) hx hb dX4_settle_103 (lv_at hl 0 rfl) ?_
                refine lv_iload_n (pc := 105) hx hb dX4_settle_105 rfl (lv_at hl 1 rfl) ?_
                replace h := ez_bd h
                obtain ⟨z19, e20, h⟩ := h
                refine ez_callV (pc := 106) (wr := []) (wl := (wM a k z14.2)) (wl' := (wM a k z19)) (va_runV (g := F0 m 106 ls [.int z11.1, .int z14.1, .int 5, .ref (a 0)]) (As := [.int 5, .int z14.1, .int z11.1]) (rest := []) ⟨hx, hb, hml, hown, hw⟩ (kX4_make l D a k n 5 z14.1 z11.1 z14.2 z19 e20 H.size) (cwV 3 hw (ez_gV mw532 mw534 mp36 mw4 mw535) rfl rfl rfl (by decide +kernel) ⟨Nat.le_of_ble_eq_true rfl, Nat.le_of_ble_eq_true rfl⟩) (ez_preV (wr := []) (wl := (wM a k z14.2)) hP hD hK hN 0 rfl rfl) rfl rfl hl.1 rfl (lv_room (Nat.le_of_ble_eq_true rfl)) dX4_settle_106 ⟨Nat.le_refl _, Nat.le_refl _⟩) hP hD hS hA (fun H locs hP hD hS => ?_)
                replace hP : va_P D vwCl (wM a k z19) H := hP
                replace hD : va_D A (wM a k z19) := hD
                refine lv_goto (pc := 109) (tgt := 0) hx hb dX4_settle_109 (by decide) ?_
                exact ih _ _ _ x1 z19 (lv_sub hl [3, 4] rfl) hP hD hS h
              · replace h := ez_it c18 h
                refine lv_iconst (v := 4) (pc := 98) hx hb dX4_settle_98 rfl ?_
                refine lv_goto (pc := 99) (tgt := 103) hx hb dX4_settle_99 (by decide) ?_
                refine lv_iload (pc := 103) hx hb dX4_settle_103 (lv_at hl 0 rfl) ?_
                refine lv_iload_n (pc := 105) hx hb dX4_settle_105 rfl (lv_at hl 1 rfl) ?_
                replace h := ez_bd h
                obtain ⟨z21, e22, h⟩ := h
                refine ez_callV (pc := 106) (wr := []) (wl := (wM a k z14.2)) (wl' := (wM a k z21)) (va_runV (g := F0 m 106 ls [.int z11.1, .int z14.1, .int 4, .ref (a 0)]) (As := [.int 4, .int z14.1, .int z11.1]) (rest := []) ⟨hx, hb, hml, hown, hw⟩ (kX4_make l D a k n 4 z14.1 z11.1 z14.2 z21 e22 H.size) (cwV 3 hw (ez_gV mw532 mw534 mp36 mw4 mw535) rfl rfl rfl (by decide +kernel) ⟨Nat.le_of_ble_eq_true rfl, Nat.le_of_ble_eq_true rfl⟩) (ez_preV (wr := []) (wl := (wM a k z14.2)) hP hD hK hN 0 rfl rfl) rfl rfl hl.1 rfl (lv_room (Nat.le_of_ble_eq_true rfl)) dX4_settle_106 ⟨Nat.le_refl _, Nat.le_refl _⟩) hP hD hS hA (fun H locs hP hD hS => ?_)
                replace hP : va_P D vwCl (wM a k z21) H := hP
                replace hD : va_D A (wM a k z21) := hD
                refine lv_goto (pc := 109) (tgt := 0) hx hb dX4_settle_109 (by decide) ?_
                exact ih _ _ _ x1 z21 (lv_sub hl [3, 4] rfl) hP hD hS h
            · replace h := ez_it c17 h
              refine lv_iconst (v := 3) (pc := 88) hx hb dX4_settle_88 rfl ?_
              refine lv_goto (pc := 89) (tgt := 103) hx hb dX4_settle_89 (by decide) ?_
              refine lv_iload (pc := 103) hx hb dX4_settle_103 (lv_at hl 0 rfl) ?_
              refine lv_iload_n (pc := 105) hx hb dX4_settle_105 rfl (lv_at hl 1 rfl) ?_
              replace h := ez_bd h
              obtain ⟨z23, e24, h⟩ := h
              refine ez_callV (pc := 106) (wr := []) (wl := (wM a k z14.2)) (wl' := (wM a k z23)) (va_runV (g := F0 m 106 ls [.int z11.1, .int z14.1, .int 3, .ref (a 0)]) (As := [.int 3, .int z14.1, .int z11.1]) (rest := []) ⟨hx, hb, hml, hown, hw⟩ (kX4_make l D a k n 3 z14.1 z11.1 z14.2 z23 e24 H.size) (cwV 3 hw (ez_gV mw532 mw534 mp36 mw4 mw535) rfl rfl rfl (by decide +kernel) ⟨Nat.le_of_ble_eq_true rfl, Nat.le_of_ble_eq_true rfl⟩) (ez_preV (wr := []) (wl := (wM a k z14.2)) hP hD hK hN 0 rfl rfl) rfl rfl hl.1 rfl (lv_room (Nat.le_of_ble_eq_true rfl)) dX4_settle_106 ⟨Nat.le_refl _, Nat.le_refl _⟩) hP hD hS hA (fun H locs hP hD hS => ?_)
              replace hP : va_P D vwCl (wM a k z23) H := hP
              replace hD : va_D A (wM a k z23) := hD
              refine lv_goto (pc := 109) (tgt := 0) hx hb dX4_settle_109 (by decide) ?_
              exact ih _ _ _ x1 z23 (lv_sub hl [3, 4] rfl) hP hD hS h
          · replace h := ez_it c16 h
            refine lv_iconst (v := 2) (pc := 78) hx hb dX4_settle_78 rfl ?_
            refine lv_goto (pc := 79) (tgt := 103) hx hb dX4_settle_79 (by decide) ?_
            refine lv_iload (pc := 103) hx hb dX4_settle_103 (lv_at hl 0 rfl) ?_
            refine lv_iload_n (pc := 105) hx hb dX4_settle_105 rfl (lv_at hl 1 rfl) ?_
            replace h := ez_bd h
            obtain ⟨z25, e26, h⟩ := h
            refine ez_callV (pc := 106) (wr := []) (wl := (wM a k z14.2)) (wl' := (wM a k z25)) (va_runV (g := F0 m 106 ls [.int z11.1, .int z14.1, .int 2, .ref (a 0)]) (As := [.int 2, .int z14.1, .int z11.1]) (rest := []) ⟨hx, hb, hml, hown, hw⟩ (kX4_make l D a k n 2 z14.1 z11.1 z14.2 z25 e26 H.size) (cwV 3 hw (ez_gV mw532 mw534 mp36 mw4 mw535) rfl rfl rfl (by decide +kernel) ⟨Nat.le_of_ble_eq_true rfl, Nat.le_of_ble_eq_true rfl⟩) (ez_preV (wr := []) (wl := (wM a k z14.2)) hP hD hK hN 0 rfl rfl) rfl rfl hl.1 rfl (lv_room (Nat.le_of_ble_eq_true rfl)) dX4_settle_106 ⟨Nat.le_refl _, Nat.le_refl _⟩) hP hD hS hA (fun H locs hP hD hS => ?_)
            replace hP : va_P D vwCl (wM a k z25) H := hP
            replace hD : va_D A (wM a k z25) := hD
            refine lv_goto (pc := 109) (tgt := 0) hx hb dX4_settle_109 (by decide) ?_
            exact ih _ _ _ x1 z25 (lv_sub hl [3, 4] rfl) hP hD hS h
        · replace h := ez_it c13 h
          refine lv_aload_n (pc := 55) hx hb dX4_settle_55 rfl (lv_at hl 2 rfl) ?_
          refine lv_iconst (v := 1) (pc := 56) hx hb dX4_settle_56 rfl ?_
          refine lv_iload_n (pc := 57) hx hb dX4_settle_57 rfl (lv_at hl 0 rfl) ?_
          refine lv_iload_n (pc := 58) hx hb dX4_settle_58 rfl (lv_at hl 0 rfl) ?_
          replace h := ez_bd h
          obtain ⟨z27, e28, h⟩ := h
          refine ez_callV (pc := 59) (wr := []) (wl := (wM a k z11.2)) (wl' := (wM a k z27)) (va_runV (g := F0 m 59 ls [.int z11.1, .int z11.1, .int 1, .ref (a 0)]) (As := [.int 1, .int z11.1, .int z11.1]) (rest := []) ⟨hx, hb, hml, hown, hw⟩ (kX4_make l D a k n 1 z11.1 z11.1 z11.2 z27 e28 H.size) (cwV 3 hw (ez_gV mw532 mw534 mp36 mw4 mw535) rfl rfl rfl (by decide +kernel) ⟨Nat.le_of_ble_eq_true rfl, Nat.le_of_ble_eq_true rfl⟩) (ez_preV (wr := []) (wl := (wM a k z11.2)) hP hD hK hN 0 rfl rfl) rfl rfl hl.1 rfl (lv_room (Nat.le_of_ble_eq_true rfl)) dX4_settle_59 ⟨Nat.le_refl _, Nat.le_refl _⟩) hP hD hS hA (fun H locs hP hD hS => ?_)
          replace hP : va_P D vwCl (wM a k z27) H := hP
          replace hD : va_D A (wM a k z27) := hD
          refine lv_goto (pc := 62) (tgt := 109) hx hb dX4_settle_62 (by decide) ?_
          refine lv_goto (pc := 109) (tgt := 0) hx hb dX4_settle_109 (by decide) ?_
          exact ih _ _ _ x1 z27 (lv_sub hl [2, 3] rfl) hP hD hS h
set_option maxRecDepth 100000 in
theorem kX4_settle (l : Launch) (D : va_G) (a : Nat → Nat) (k : Nat → ClassId) (n : Nat) (x1 : Int32) (w : Wd) (z : Wd) (h : fX4_settle n x1 w = some z) (sz : Nat) : Met l yX4_settle wsX4_settle ({ frames := 1, cells := 0, slots := 0, locals := 23 } : Room) (ez_Pc D (tM k) [.ref (a 0), .int x1] (wM a k w) sz) (ez_Qv D (tM k) (va_A (wM a k w) sz) (wM a k z)) 0 0 (va_A (wM a k w) sz) :=
  ez_mk (Qf := fun A => (ez_Qv D (tM k) A (wM a k z))) (by decide) rfl (Nat.le_of_ble_eq_true rfl) (fun p e s m below meth c A ls C0 _ hl hP hD hK => tX4_settle_0 C0 hK n s.heap [] ls x1 w (lv_sub (l := [(0, .ref (a 0)), (1, .int x1)]) hl [0, 1] rfl) hP hD va_S.rf h) sz
/-! EnclosureCalculatorModel finish -/
theorem dX4_finish_0 : decode cX4_finish 0 = .ok (.iload_n 1, 1) := by decide +kernel
theorem dX4_finish_1 : decode cX4_finish 1 = .ok (.istore_n 2, 1) := by decide +kernel
theorem dX4_finish_2 : decode cX4_finish 2 = .ok (.iload_n 1, 1) := by decide +kernel
theorem dX4_finish_3 : decode cX4_finish 3 = .ok (.aload_n 0, 1) := by decide +kernel
theorem dX4_finish_4 : decode cX4_finish 4 = .ok (.getfield 45, 3) := by decide +kernel
theorem dX4_finish_7 : decode cX4_finish 7 = .ok (.if_icmp .ge 33, 3) := by decide +kernel
theorem dX4_finish_10 : decode cX4_finish 10 = .ok (.aload_n 0, 1) := by decide +kernel
theorem dX4_finish_11 : decode cX4_finish 11 = .ok (.getfield 7, 3) := by decide +kernel
theorem dX4_finish_14 : decode cX4_finish 14 = .ok (.iload_n 1, 1) := by decide +kernel
theorem dX4_finish_15 : decode cX4_finish 15 = .ok (.iaload, 1) := by decide +kernel
theorem dX4_finish_16 : decode cX4_finish 16 = .ok (.bipush 94, 2) := by decide +kernel
theorem dX4_finish_18 : decode cX4_finish 18 = .ok (.if_icmp .ne 22, 3) := by decide +kernel
theorem dX4_finish_21 : decode cX4_finish 21 = .ok (.aload_n 0, 1) := by decide +kernel
theorem dX4_finish_22 : decode cX4_finish 22 = .ok (.aload_n 0, 1) := by decide +kernel
theorem dX4_finish_23 : decode cX4_finish 23 = .ok (.getfield 7, 3) := by decide +kernel
theorem dX4_finish_26 : decode cX4_finish 26 = .ok (.iload_n 1, 1) := by decide +kernel
theorem dX4_finish_27 : decode cX4_finish 27 = .ok (.iconst 1, 1) := by decide +kernel
theorem dX4_finish_28 : decode cX4_finish 28 = .ok (.iadd, 1) := by decide +kernel
theorem dX4_finish_29 : decode cX4_finish 29 = .ok (.iaload, 1) := by decide +kernel
theorem dX4_finish_30 : decode cX4_finish 30 = .ok (.bipush 48, 2) := by decide +kernel
theorem dX4_finish_32 : decode cX4_finish 32 = .ok (.isub, 1) := by decide +kernel
theorem dX4_finish_33 : decode cX4_finish 33 = .ok (.invokevirtual 84, 3) := by decide +kernel
theorem dX4_finish_36 : decode cX4_finish 36 = .ok (.iload_n 1, 1) := by decide +kernel
theorem dX4_finish_37 : decode cX4_finish 37 = .ok (.iconst 2, 1) := by decide +kernel
theorem dX4_finish_38 : decode cX4_finish 38 = .ok (.iadd, 1) := by decide +kernel
theorem dX4_finish_39 : decode cX4_finish 39 = .ok (.istore_n 2, 1) := by decide +kernel
theorem dX4_finish_40 : decode cX4_finish 40 = .ok (.aload_n 0, 1) := by decide +kernel
theorem dX4_finish_41 : decode cX4_finish 41 = .ok (.iconst 3, 1) := by decide +kernel
theorem dX4_finish_42 : decode cX4_finish 42 = .ok (.invokevirtual 88, 3) := by decide +kernel
theorem dX4_finish_45 : decode cX4_finish 45 = .ok (.iload_n 2, 1) := by decide +kernel
theorem dX4_finish_46 : decode cX4_finish 46 = .ok (.ireturn, 1) := by decide +kernel
def fX4_finish (n : Nat) (x1 : Int32) (w : Wd) : Option (Int32 × Wd) :=
    if (w.1 0 0) ≤ x1 then
      (fX4_settle n 3 w).bind fun z2 =>
      some (x1, z2)
    else
      (ez_ldI w 1 20 x1).bind fun y5 =>
      if y5 = 94 then
        (ez_ldI w 1 20 (x1 + 1)).bind fun y10 =>
        (fX4_power n (y10 - 48) w).bind fun z11 =>
        (fX4_settle n 3 z11).bind fun z13 =>
        some ((x1 + 2), z13)
      else
        (fX4_settle n 3 w).bind fun z7 =>
        some (x1, z7)
set_option maxHeartbeats 4000000 in
set_option maxRecDepth 100000 in
theorem tX4_finish_0 {p : Program} {l : Launch} {e : Env} {s : State} {m : MethodId} {args : Array Value} {below : List Frame} {meth : Method} {c : Code} {A : Nat → Prop} {D : va_G} {a : Nat → Nat} {k : Nat → ClassId} {z : Int32 × Wd} (C0 : ez_C p s m args meth c cX4_finish (some .int) 3 RX4 A) (hK : va_K D vwCl (tM k) s) : ∀ (n : Nat) (H : Heap) (locs : List Loc) (ls : Array Slot) (x1 : Int32) (w : Wd), lv_has ls 3 [(0, .ref (a 0)), (1, .int x1)] → va_P D vwCl (wM a k w) H → va_D A (wM a k w) → va_S A s.heap H locs → fX4_finish n x1 w = some z → W p l e ({ frames := 2, cells := 0, slots := 0, locals := 47 } : Room) s m args below meth c H locs 0 0 (MQ below (ez_Qi D (tM k) A z.1 (wM a k z.2)) args s 0 0 A) (F0 m 0 ls []) := by
  intro n
  intro H locs ls x1 w hl hP hD hS h
  rw [fX4_finish] at h
  have C1 := C0
  obtain ⟨hx, hb, hr, hml, hown, hw, hlk, hA, hN⟩ := C1
  refine lv_iload_n (pc := 0) hx hb dX4_finish_0 rfl (lv_at hl 1 rfl) ?_
  refine lv_istore_n (pc := 1) hx hb dX4_finish_1 rfl hl (by decide) rfl (fun ls hl => ?_)
  replace hl : lv_has ls 3 [(2, .int x1), (0, .ref (a 0)), (1, .int x1)] := hl
  refine lv_iload_n (pc := 2) hx hb dX4_finish_2 rfl (lv_at hl 2 rfl) ?_
  refine lv_aload_n (pc := 3) hx hb dX4_finish_3 rfl (lv_at hl 1 rfl) ?_
  refine va_get (D := D) (pc := 4) hx hb hw inX4 hown hK hP 0 rfl rfl 0 (by decide) (hw _ mw427) (fun _ h9 => h9) rfl dX4_finish_4 ?_
  refine lv_icmp_ge (pc := 7) (tgt := 40) hx hb dX4_finish_7 (by decide) (fun c1 => ?_) (fun c1 => ?_)
  · replace h := ez_it c1 h
    refine lv_aload_n (pc := 40) hx hb dX4_finish_40 rfl (lv_at hl 1 rfl) ?_
    refine lv_iconst (v := 3) (pc := 41) hx hb dX4_finish_41 rfl ?_
    replace h := ez_bd h
    obtain ⟨z2, e3, h⟩ := h
    refine ez_callV (pc := 42) (wr := []) (wl := (wM a k w)) (wl' := (wM a k z2)) (va_runV (g := F0 m 42 ls [.int 3, .ref (a 0)]) (As := [.int 3]) (rest := []) ⟨hx, hb, hml, hown, hw⟩ (kX4_settle l D a k n 3 w z2 e3 H.size) (cwV 1 hw (ez_gV mw548 mw550 mp40 mw4 mw551) rfl rfl rfl (by decide +kernel) ⟨Nat.le_of_ble_eq_true rfl, Nat.le_of_ble_eq_true rfl⟩) (ez_preV (wr := []) (wl := (wM a k w)) hP hD hK hN 0 rfl rfl) rfl rfl hl.1 rfl (lv_room (Nat.le_of_ble_eq_true rfl)) dX4_finish_42 ⟨Nat.le_refl _, Nat.le_refl _⟩) hP hD hS hA (fun H locs hP hD hS => ?_)
    replace hP : va_P D vwCl (wM a k z2) H := hP
    replace hD : va_D A (wM a k z2) := hD
    refine lv_iload_n (pc := 45) hx hb dX4_finish_45 rfl (lv_at hl 0 rfl) ?_
    obtain rfl := ez_r1 h
    exact ez_retI C0 hP hD hK hS dX4_finish_46
  · replace h := ez_if c1 h
    refine lv_aload_n (pc := 10) hx hb dX4_finish_10 rfl (lv_at hl 1 rfl) ?_
    refine va_get (D := D) (pc := 11) hx hb hw inX4 hown hK hP 0 rfl rfl 1 (by decide) (hw _ mw428) (fun _ h9 => h9) rfl dX4_finish_11 ?_
    refine lv_iload_n (pc := 14) hx hb dX4_finish_14 rfl (lv_at hl 2 rfl) ?_
    replace h := ez_bd h
    obtain ⟨y5, e4, h⟩ := h
    obtain ⟨e4i, e4⟩ := ez_ldIs e4
    refine va_iald (D := D) (pc := 15) hx hb hK hP 1 0 rfl rfl e4i dX4_finish_15 ?_
    refine lv_topi (fun y9 hy9 => ?_)
    obtain rfl : y5 = y9 := e4.trans hy9.symm
    refine lv_bipush (v := 94) (pc := 16) hx hb dX4_finish_16 rfl ?_
    refine lv_icmp_ne (pc := 18) (tgt := 40) hx hb dX4_finish_18 (by decide) (fun c6 => ?_) (fun c6 => ?_)
    · replace h := ez_if c6 h
      refine lv_aload_n (pc := 40) hx hb dX4_finish_40 rfl (lv_at hl 1 rfl) ?_
      refine lv_iconst (v := 3) (pc := 41) hx hb dX4_finish_41 rfl ?_
      replace h := ez_bd h
      obtain ⟨z7, e8, h⟩ := h
      refine ez_callV (pc := 42) (wr := []) (wl := (wM a k w)) (wl' := (wM a k z7)) (va_runV (g := F0 m 42 ls [.int 3, .ref (a 0)]) (As := [.int 3]) (rest := []) ⟨hx, hb, hml, hown, hw⟩ (kX4_settle l D a k n 3 w z7 e8 H.size) (cwV 1 hw (ez_gV mw548 mw550 mp40 mw4 mw551) rfl rfl rfl (by decide +kernel) ⟨Nat.le_of_ble_eq_true rfl, Nat.le_of_ble_eq_true rfl⟩) (ez_preV (wr := []) (wl := (wM a k w)) hP hD hK hN 0 rfl rfl) rfl rfl hl.1 rfl (lv_room (Nat.le_of_ble_eq_true rfl)) dX4_finish_42 ⟨Nat.le_refl _, Nat.le_refl _⟩) hP hD hS hA (fun H locs hP hD hS => ?_)
      replace hP : va_P D vwCl (wM a k z7) H := hP
      replace hD : va_D A (wM a k z7) := hD
      refine lv_iload_n (pc := 45) hx hb dX4_finish_45 rfl (lv_at hl 0 rfl) ?_
      obtain rfl := ez_r1 h
      exact ez_retI C0 hP hD hK hS dX4_finish_46
    · replace h := ez_it c6 h
      refine lv_aload_n (pc := 21) hx hb dX4_finish_21 rfl (lv_at hl 1 rfl) ?_
      refine lv_aload_n (pc := 22) hx hb dX4_finish_22 rfl (lv_at hl 1 rfl) ?_
      refine va_get (D := D) (pc := 23) hx hb hw inX4 hown hK hP 0 rfl rfl 1 (by decide) (hw _ mw428) (fun _ h9 => h9) rfl dX4_finish_23 ?_
      refine lv_iload_n (pc := 26) hx hb dX4_finish_26 rfl (lv_at hl 2 rfl) ?_
      refine lv_iconst (v := 1) (pc := 27) hx hb dX4_finish_27 rfl ?_
      refine lv_iadd (pc := 28) hx hb dX4_finish_28 ?_
      replace h := ez_bd h
      obtain ⟨y10, e9, h⟩ := h
      obtain ⟨e9i, e9⟩ := ez_ldIs e9
      refine va_iald (D := D) (pc := 29) hx hb hK hP 1 0 rfl rfl e9i dX4_finish_29 ?_
      refine lv_topi (fun y9 hy9 => ?_)
      obtain rfl : y10 = y9 := e9.trans hy9.symm
      refine lv_bipush (v := 48) (pc := 30) hx hb dX4_finish_30 rfl ?_
      refine lv_isub (pc := 32) hx hb dX4_finish_32 ?_
      replace h := ez_bd h
      obtain ⟨z11, e12, h⟩ := h
      refine ez_callV (pc := 33) (wr := []) (wl := (wM a k w)) (wl' := (wM a k z11)) (va_runV (g := F0 m 33 ls [.int (y10 - 48), .ref (a 0)]) (As := [.int (y10 - 48)]) (rest := []) ⟨hx, hb, hml, hown, hw⟩ (kX4_power l D a k n (y10 - 48) w z11 e12 H.size) (cwV 1 hw (ez_gV mw540 mw542 mp38 mw4 mw543) rfl rfl rfl (by decide +kernel) ⟨Nat.le_of_ble_eq_true rfl, Nat.le_of_ble_eq_true rfl⟩) (ez_preV (wr := []) (wl := (wM a k w)) hP hD hK hN 0 rfl rfl) rfl rfl hl.1 rfl (lv_room (Nat.le_of_ble_eq_true rfl)) dX4_finish_33 ⟨Nat.le_refl _, Nat.le_refl _⟩) hP hD hS hA (fun H locs hP hD hS => ?_)
      replace hP : va_P D vwCl (wM a k z11) H := hP
      replace hD : va_D A (wM a k z11) := hD
      refine lv_iload_n (pc := 36) hx hb dX4_finish_36 rfl (lv_at hl 2 rfl) ?_
      refine lv_iconst (v := 2) (pc := 37) hx hb dX4_finish_37 rfl ?_
      refine lv_iadd (pc := 38) hx hb dX4_finish_38 ?_
      refine lv_istore_n (pc := 39) hx hb dX4_finish_39 rfl hl (by decide) rfl (fun ls hl => ?_)
      replace hl : lv_has ls 3 [(2, .int (x1 + 2)), (0, .ref (a 0)), (1, .int x1)] := hl
      refine lv_aload_n (pc := 40) hx hb dX4_finish_40 rfl (lv_at hl 1 rfl) ?_
      refine lv_iconst (v := 3) (pc := 41) hx hb dX4_finish_41 rfl ?_
      replace h := ez_bd h
      obtain ⟨z13, e14, h⟩ := h
      refine ez_callV (pc := 42) (wr := []) (wl := (wM a k z11)) (wl' := (wM a k z13)) (va_runV (g := F0 m 42 ls [.int 3, .ref (a 0)]) (As := [.int 3]) (rest := []) ⟨hx, hb, hml, hown, hw⟩ (kX4_settle l D a k n 3 z11 z13 e14 H.size) (cwV 1 hw (ez_gV mw548 mw550 mp40 mw4 mw551) rfl rfl rfl (by decide +kernel) ⟨Nat.le_of_ble_eq_true rfl, Nat.le_of_ble_eq_true rfl⟩) (ez_preV (wr := []) (wl := (wM a k z11)) hP hD hK hN 0 rfl rfl) rfl rfl hl.1 rfl (lv_room (Nat.le_of_ble_eq_true rfl)) dX4_finish_42 ⟨Nat.le_refl _, Nat.le_refl _⟩) hP hD hS hA (fun H locs hP hD hS => ?_)
      replace hP : va_P D vwCl (wM a k z13) H := hP
      replace hD : va_D A (wM a k z13) := hD
      refine lv_iload_n (pc := 45) hx hb dX4_finish_45 rfl (lv_at hl 0 rfl) ?_
      obtain rfl := ez_r1 h
      exact ez_retI C0 hP hD hK hS dX4_finish_46
set_option maxRecDepth 100000 in
theorem kX4_finish (l : Launch) (D : va_G) (a : Nat → Nat) (k : Nat → ClassId) (n : Nat) (x1 : Int32) (w : Wd) (z : Int32 × Wd) (h : fX4_finish n x1 w = some z) (sz : Nat) : Met l yX4_finish wsX4_finish ({ frames := 2, cells := 0, slots := 0, locals := 47 } : Room) (ez_Pc D (tM k) [.ref (a 0), .int x1] (wM a k w) sz) (ez_Qi D (tM k) (va_A (wM a k w) sz) z.1 (wM a k z.2)) 0 0 (va_A (wM a k w) sz) :=
  ez_mk (Qf := fun A => (ez_Qi D (tM k) A z.1 (wM a k z.2))) (by decide) rfl (Nat.le_of_ble_eq_true rfl) (fun p e s m below meth c A ls C0 _ hl hP hD hK => tX4_finish_0 C0 hK n s.heap [] ls x1 w (lv_sub (l := [(0, .ref (a 0)), (1, .int x1)]) hl [0, 1] rfl) hP hD va_S.rf h) sz
/-! EnclosureCalculatorModel number -/
theorem dX4_number_0 : decode cX4_number 0 = .ok (.iconst 0, 1) := by decide +kernel
theorem dX4_number_1 : decode cX4_number 1 = .ok (.istore_n 2, 1) := by decide +kernel
theorem dX4_number_2 : decode cX4_number 2 = .ok (.iload_n 1, 1) := by decide +kernel
theorem dX4_number_3 : decode cX4_number 3 = .ok (.istore_n 3, 1) := by decide +kernel
theorem dX4_number_4 : decode cX4_number 4 = .ok (.iload_n 3, 1) := by decide +kernel
theorem dX4_number_5 : decode cX4_number 5 = .ok (.aload_n 0, 1) := by decide +kernel
theorem dX4_number_6 : decode cX4_number 6 = .ok (.getfield 45, 3) := by decide +kernel
theorem dX4_number_9 : decode cX4_number 9 = .ok (.if_icmp .ge 36, 3) := by decide +kernel
theorem dX4_number_12 : decode cX4_number 12 = .ok (.aload_n 0, 1) := by decide +kernel
theorem dX4_number_13 : decode cX4_number 13 = .ok (.getfield 7, 3) := by decide +kernel
theorem dX4_number_16 : decode cX4_number 16 = .ok (.iload_n 3, 1) := by decide +kernel
theorem dX4_number_17 : decode cX4_number 17 = .ok (.iaload, 1) := by decide +kernel
theorem dX4_number_18 : decode cX4_number 18 = .ok (.invokestatic 49, 3) := by decide +kernel
theorem dX4_number_21 : decode cX4_number 21 = .ok (.ifCond .eq 24, 3) := by decide +kernel
theorem dX4_number_24 : decode cX4_number 24 = .ok (.bipush 10, 2) := by decide +kernel
theorem dX4_number_26 : decode cX4_number 26 = .ok (.iload_n 2, 1) := by decide +kernel
theorem dX4_number_27 : decode cX4_number 27 = .ok (.imul, 1) := by decide +kernel
theorem dX4_number_28 : decode cX4_number 28 = .ok (.aload_n 0, 1) := by decide +kernel
theorem dX4_number_29 : decode cX4_number 29 = .ok (.getfield 7, 3) := by decide +kernel
theorem dX4_number_32 : decode cX4_number 32 = .ok (.iload_n 3, 1) := by decide +kernel
theorem dX4_number_33 : decode cX4_number 33 = .ok (.iaload, 1) := by decide +kernel
theorem dX4_number_34 : decode cX4_number 34 = .ok (.iadd, 1) := by decide +kernel
theorem dX4_number_35 : decode cX4_number 35 = .ok (.bipush 48, 2) := by decide +kernel
theorem dX4_number_37 : decode cX4_number 37 = .ok (.isub, 1) := by decide +kernel
theorem dX4_number_38 : decode cX4_number 38 = .ok (.istore_n 2, 1) := by decide +kernel
theorem dX4_number_39 : decode cX4_number 39 = .ok (.iinc 3 1, 3) := by decide +kernel
theorem dX4_number_42 : decode cX4_number 42 = .ok (.goto (-38), 3) := by decide +kernel
theorem dX4_number_45 : decode cX4_number 45 = .ok (.aload_n 0, 1) := by decide +kernel
theorem dX4_number_46 : decode cX4_number 46 = .ok (.iconst 0, 1) := by decide +kernel
theorem dX4_number_47 : decode cX4_number 47 = .ok (.iload_n 2, 1) := by decide +kernel
theorem dX4_number_48 : decode cX4_number 48 = .ok (.iconst 0, 1) := by decide +kernel
theorem dX4_number_49 : decode cX4_number 49 = .ok (.invokevirtual 73, 3) := by decide +kernel
theorem dX4_number_52 : decode cX4_number 52 = .ok (.aload_n 0, 1) := by decide +kernel
theorem dX4_number_53 : decode cX4_number 53 = .ok (.iload_n 3, 1) := by decide +kernel
theorem dX4_number_54 : decode cX4_number 54 = .ok (.invokevirtual 91, 3) := by decide +kernel
theorem dX4_number_57 : decode cX4_number 57 = .ok (.ireturn, 1) := by decide +kernel
def fX4_number_4 : Nat → Int32 → Int32 → Wd → Option (Int32 × Wd)
  | 0, _, _, _ => none
  | n + 1, x2, x3, w =>
    if (w.1 0 0) ≤ x3 then
      (fX4_make n 0 x2 0 w).bind fun z2 =>
      (fX4_finish n x3 z2).bind fun z4 =>
      some (z4.1, z4.2)
    else
      (ez_ldI w 1 20 x3).bind fun y7 =>
      (fX4_isDigit n y7).bind fun z8 =>
      if z8 = 0 then
        (fX4_make n 0 x2 0 w).bind fun z11 =>
        (fX4_finish n x3 z11).bind fun z13 =>
        some (z13.1, z13.2)
      else
        (ez_ldI w 1 20 x3).bind fun y16 =>
        fX4_number_4 n (((10 * x2) + y16) - 48) (x3 + 1) w
def fX4_number (n : Nat) (x1 : Int32) (w : Wd) : Option (Int32 × Wd) :=
    fX4_number_4 n 0 x1 w
set_option maxHeartbeats 4000000 in
set_option maxRecDepth 100000 in
theorem tX4_number_4 {p : Program} {l : Launch} {e : Env} {s : State} {m : MethodId} {args : Array Value} {below : List Frame} {meth : Method} {c : Code} {A : Nat → Prop} {D : va_G} {a : Nat → Nat} {k : Nat → ClassId} {z : Int32 × Wd} (C0 : ez_C p s m args meth c cX4_number (some .int) 4 RX4 A) (hK : va_K D vwCl (tM k) s) : ∀ (n : Nat) (H : Heap) (locs : List Loc) (ls : Array Slot) (x2 : Int32) (x3 : Int32) (w : Wd), lv_has ls 4 [(0, .ref (a 0)), (2, .int x2), (3, .int x3)] → va_P D vwCl (wM a k w) H → va_D A (wM a k w) → va_S A s.heap H locs → fX4_number_4 n x2 x3 w = some z → W p l e ({ frames := 3, cells := 0, slots := 0, locals := 69 } : Room) s m args below meth c H locs 0 0 (MQ below (ez_Qi D (tM k) A z.1 (wM a k z.2)) args s 0 0 A) (F0 m 4 ls []) := by
  intro n
  induction n with
  | zero =>
    intro H locs ls x2 x3 w hl hP hD hS h
    rw [fX4_number_4] at h
    cases h
  | succ n ih =>
    intro H locs ls x2 x3 w hl hP hD hS h
    rw [fX4_number_4] at h
    have C1 := C0
    obtain ⟨hx, hb, hr, hml, hown, hw, hlk, hA, hN⟩ := C1
    refine lv_iload_n (pc := 4) hx hb dX4_number_4 rfl (lv_at hl 2 rfl) ?_
    refine lv_aload_n (pc := 5) hx hb dX4_number_5 rfl (lv_at hl 0 rfl) ?_
    refine va_get (D := D) (pc := 6) hx hb hw inX4 hown hK hP 0 rfl rfl 0 (by decide) (hw _ mw427) (fun _ h9 => h9) rfl dX4_number_6 ?_
    refine lv_icmp_ge (pc := 9) (tgt := 45) hx hb dX4_number_9 (by decide) (fun c1 => ?_) (fun c1 => ?_)
    · replace h := ez_it c1 h
      refine lv_aload_n (pc := 45) hx hb dX4_number_45 rfl (lv_at hl 0 rfl) ?_
      refine lv_iconst (v := 0) (pc := 46) hx hb dX4_number_46 rfl ?_
      refine lv_iload_n (pc := 47) hx hb dX4_number_47 rfl (lv_at hl 1 rfl) ?_
      refine lv_iconst (v := 0) (pc := 48) hx hb dX4_number_48 rfl ?_
      replace h := ez_bd h
      obtain ⟨z2, e3, h⟩ := h
      refine ez_callV (pc := 49) (wr := []) (wl := (wM a k w)) (wl' := (wM a k z2)) (va_runV (g := F0 m 49 ls [.int 0, .int x2, .int 0, .ref (a 0)]) (As := [.int 0, .int x2, .int 0]) (rest := []) ⟨hx, hb, hml, hown, hw⟩ (kX4_make l D a k n 0 x2 0 w z2 e3 H.size) (cwV 3 hw (ez_gV mw532 mw534 mp36 mw4 mw535) rfl rfl rfl (by decide +kernel) ⟨Nat.le_of_ble_eq_true rfl, Nat.le_of_ble_eq_true rfl⟩) (ez_preV (wr := []) (wl := (wM a k w)) hP hD hK hN 0 rfl rfl) rfl rfl hl.1 rfl (lv_room (Nat.le_of_ble_eq_true rfl)) dX4_number_49 ⟨Nat.le_refl _, Nat.le_refl _⟩) hP hD hS hA (fun H locs hP hD hS => ?_)
      replace hP : va_P D vwCl (wM a k z2) H := hP
      replace hD : va_D A (wM a k z2) := hD
      refine lv_aload_n (pc := 52) hx hb dX4_number_52 rfl (lv_at hl 0 rfl) ?_
      refine lv_iload_n (pc := 53) hx hb dX4_number_53 rfl (lv_at hl 2 rfl) ?_
      replace h := ez_bd h
      obtain ⟨z4, e5, h⟩ := h
      refine ez_callI (r := z4.1) (pc := 54) (wr := []) (wl := (wM a k z2)) (wl' := (wM a k z4.2)) (va_runV (g := F0 m 54 ls [.int x3, .ref (a 0)]) (As := [.int x3]) (rest := []) ⟨hx, hb, hml, hown, hw⟩ (kX4_finish l D a k n x3 z2 z4 e5 H.size) (cwV 1 hw (ez_gV mw536 mw538 mp37 mw4 mw539) rfl rfl rfl (by decide +kernel) ⟨Nat.le_of_ble_eq_true rfl, Nat.le_of_ble_eq_true rfl⟩) (ez_preV (wr := []) (wl := (wM a k z2)) hP hD hK hN 0 rfl rfl) rfl rfl hl.1 rfl (lv_room (Nat.le_of_ble_eq_true rfl)) dX4_number_54 ⟨Nat.le_refl _, Nat.le_refl _⟩) hP hD hS hA (fun H locs hP hD hS => ?_)
      replace hP : va_P D vwCl (wM a k z4.2) H := hP
      replace hD : va_D A (wM a k z4.2) := hD
      obtain rfl := ez_r1 h
      exact ez_retI C0 hP hD hK hS dX4_number_57
    · replace h := ez_if c1 h
      refine lv_aload_n (pc := 12) hx hb dX4_number_12 rfl (lv_at hl 0 rfl) ?_
      refine va_get (D := D) (pc := 13) hx hb hw inX4 hown hK hP 0 rfl rfl 1 (by decide) (hw _ mw428) (fun _ h9 => h9) rfl dX4_number_13 ?_
      refine lv_iload_n (pc := 16) hx hb dX4_number_16 rfl (lv_at hl 2 rfl) ?_
      replace h := ez_bd h
      obtain ⟨y7, e6, h⟩ := h
      obtain ⟨e6i, e6⟩ := ez_ldIs e6
      refine va_iald (D := D) (pc := 17) hx hb hK hP 1 0 rfl rfl e6i dX4_number_17 ?_
      refine lv_topi (fun y9 hy9 => ?_)
      obtain rfl : y7 = y9 := e6.trans hy9.symm
      replace h := ez_bd h
      obtain ⟨z8, e9, h⟩ := h
      refine ez_croI (r := z8) (pc := 18) (va_runS (g := F0 m 18 ls [.int y7]) (As := [.int y7]) (rest := []) ⟨hx, hb, hml, hown, hw⟩ (kX4_isDigit l n y7 z8 e9) (va_cwS 1 hw (ez_gS mw492 mw493 mw4 mw494) rfl rfl rfl (by decide +kernel) ⟨Nat.le_of_ble_eq_true rfl, Nat.le_of_ble_eq_true rfl⟩) (ez_preRS hN) rfl rfl hl.1 rfl (lv_room (Nat.le_of_ble_eq_true rfl)) dX4_number_18 ⟨Nat.le_refl _, Nat.le_refl _⟩) ?_
      refine lv_if_eq (pc := 21) (tgt := 45) hx hb dX4_number_21 (by decide) (fun c10 => ?_) (fun c10 => ?_)
      · replace h := ez_it c10 h
        refine lv_aload_n (pc := 45) hx hb dX4_number_45 rfl (lv_at hl 0 rfl) ?_
        refine lv_iconst (v := 0) (pc := 46) hx hb dX4_number_46 rfl ?_
        refine lv_iload_n (pc := 47) hx hb dX4_number_47 rfl (lv_at hl 1 rfl) ?_
        refine lv_iconst (v := 0) (pc := 48) hx hb dX4_number_48 rfl ?_
        replace h := ez_bd h
        obtain ⟨z11, e12, h⟩ := h
        refine ez_callV (pc := 49) (wr := []) (wl := (wM a k w)) (wl' := (wM a k z11)) (va_runV (g := F0 m 49 ls [.int 0, .int x2, .int 0, .ref (a 0)]) (As := [.int 0, .int x2, .int 0]) (rest := []) ⟨hx, hb, hml, hown, hw⟩ (kX4_make l D a k n 0 x2 0 w z11 e12 H.size) (cwV 3 hw (ez_gV mw532 mw534 mp36 mw4 mw535) rfl rfl rfl (by decide +kernel) ⟨Nat.le_of_ble_eq_true rfl, Nat.le_of_ble_eq_true rfl⟩) (ez_preV (wr := []) (wl := (wM a k w)) hP hD hK hN 0 rfl rfl) rfl rfl hl.1 rfl (lv_room (Nat.le_of_ble_eq_true rfl)) dX4_number_49 ⟨Nat.le_refl _, Nat.le_refl _⟩) hP hD hS hA (fun H locs hP hD hS => ?_)
        replace hP : va_P D vwCl (wM a k z11) H := hP
        replace hD : va_D A (wM a k z11) := hD
        refine lv_aload_n (pc := 52) hx hb dX4_number_52 rfl (lv_at hl 0 rfl) ?_
        refine lv_iload_n (pc := 53) hx hb dX4_number_53 rfl (lv_at hl 2 rfl) ?_
        replace h := ez_bd h
        obtain ⟨z13, e14, h⟩ := h
        refine ez_callI (r := z13.1) (pc := 54) (wr := []) (wl := (wM a k z11)) (wl' := (wM a k z13.2)) (va_runV (g := F0 m 54 ls [.int x3, .ref (a 0)]) (As := [.int x3]) (rest := []) ⟨hx, hb, hml, hown, hw⟩ (kX4_finish l D a k n x3 z11 z13 e14 H.size) (cwV 1 hw (ez_gV mw536 mw538 mp37 mw4 mw539) rfl rfl rfl (by decide +kernel) ⟨Nat.le_of_ble_eq_true rfl, Nat.le_of_ble_eq_true rfl⟩) (ez_preV (wr := []) (wl := (wM a k z11)) hP hD hK hN 0 rfl rfl) rfl rfl hl.1 rfl (lv_room (Nat.le_of_ble_eq_true rfl)) dX4_number_54 ⟨Nat.le_refl _, Nat.le_refl _⟩) hP hD hS hA (fun H locs hP hD hS => ?_)
        replace hP : va_P D vwCl (wM a k z13.2) H := hP
        replace hD : va_D A (wM a k z13.2) := hD
        obtain rfl := ez_r1 h
        exact ez_retI C0 hP hD hK hS dX4_number_57
      · replace h := ez_if c10 h
        refine lv_bipush (v := 10) (pc := 24) hx hb dX4_number_24 rfl ?_
        refine lv_iload_n (pc := 26) hx hb dX4_number_26 rfl (lv_at hl 1 rfl) ?_
        refine lv_imul (pc := 27) hx hb dX4_number_27 ?_
        refine lv_aload_n (pc := 28) hx hb dX4_number_28 rfl (lv_at hl 0 rfl) ?_
        refine va_get (D := D) (pc := 29) hx hb hw inX4 hown hK hP 0 rfl rfl 1 (by decide) (hw _ mw428) (fun _ h9 => h9) rfl dX4_number_29 ?_
        refine lv_iload_n (pc := 32) hx hb dX4_number_32 rfl (lv_at hl 2 rfl) ?_
        replace h := ez_bd h
        obtain ⟨y16, e15, h⟩ := h
        obtain ⟨e15i, e15⟩ := ez_ldIs e15
        refine va_iald (D := D) (pc := 33) hx hb hK hP 1 0 rfl rfl e15i dX4_number_33 ?_
        refine lv_topi (fun y9 hy9 => ?_)
        obtain rfl : y16 = y9 := e15.trans hy9.symm
        refine lv_iadd (pc := 34) hx hb dX4_number_34 ?_
        refine lv_bipush (v := 48) (pc := 35) hx hb dX4_number_35 rfl ?_
        refine lv_isub (pc := 37) hx hb dX4_number_37 ?_
        refine lv_istore_n (pc := 38) hx hb dX4_number_38 rfl hl (by decide) rfl (fun ls hl => ?_)
        replace hl : lv_has ls 4 [(2, .int (((10 * x2) + y16) - 48)), (0, .ref (a 0)), (3, .int x3)] := hl
        refine lv_iinc (v := (x3 + 1)) (k := 2) (pc := 39) hx hb dX4_number_39 hl rfl rfl (by decide) rfl (fun ls hl => ?_)
        replace hl : lv_has ls 4 [(3, .int (x3 + 1)), (2, .int (((10 * x2) + y16) - 48)), (0, .ref (a 0))] := hl
        refine lv_goto (pc := 42) (tgt := 4) hx hb dX4_number_42 (by decide) ?_
        exact ih _ _ _ (((10 * x2) + y16) - 48) (x3 + 1) w (lv_sub hl [2, 1, 0] rfl) hP hD hS h
set_option maxHeartbeats 4000000 in
set_option maxRecDepth 100000 in
theorem tX4_number_0 {p : Program} {l : Launch} {e : Env} {s : State} {m : MethodId} {args : Array Value} {below : List Frame} {meth : Method} {c : Code} {A : Nat → Prop} {D : va_G} {a : Nat → Nat} {k : Nat → ClassId} {z : Int32 × Wd} (C0 : ez_C p s m args meth c cX4_number (some .int) 4 RX4 A) (hK : va_K D vwCl (tM k) s) : ∀ (n : Nat) (H : Heap) (locs : List Loc) (ls : Array Slot) (x1 : Int32) (w : Wd), lv_has ls 4 [(0, .ref (a 0)), (1, .int x1)] → va_P D vwCl (wM a k w) H → va_D A (wM a k w) → va_S A s.heap H locs → fX4_number n x1 w = some z → W p l e ({ frames := 3, cells := 0, slots := 0, locals := 69 } : Room) s m args below meth c H locs 0 0 (MQ below (ez_Qi D (tM k) A z.1 (wM a k z.2)) args s 0 0 A) (F0 m 0 ls []) := by
  intro n
  intro H locs ls x1 w hl hP hD hS h
  rw [fX4_number] at h
  have C1 := C0
  obtain ⟨hx, hb, hr, hml, hown, hw, hlk, hA, hN⟩ := C1
  refine lv_iconst (v := 0) (pc := 0) hx hb dX4_number_0 rfl ?_
  refine lv_istore_n (pc := 1) hx hb dX4_number_1 rfl hl (by decide) rfl (fun ls hl => ?_)
  replace hl : lv_has ls 4 [(2, .int 0), (0, .ref (a 0)), (1, .int x1)] := hl
  refine lv_iload_n (pc := 2) hx hb dX4_number_2 rfl (lv_at hl 2 rfl) ?_
  refine lv_istore_n (pc := 3) hx hb dX4_number_3 rfl hl (by decide) rfl (fun ls hl => ?_)
  replace hl : lv_has ls 4 [(3, .int x1), (2, .int 0), (0, .ref (a 0)), (1, .int x1)] := hl
  exact tX4_number_4 C0 hK  n _ _ _ 0 x1 w (lv_sub hl [2, 1, 0] rfl) hP hD hS h
set_option maxRecDepth 100000 in
theorem kX4_number (l : Launch) (D : va_G) (a : Nat → Nat) (k : Nat → ClassId) (n : Nat) (x1 : Int32) (w : Wd) (z : Int32 × Wd) (h : fX4_number n x1 w = some z) (sz : Nat) : Met l yX4_number wsX4_number ({ frames := 3, cells := 0, slots := 0, locals := 69 } : Room) (ez_Pc D (tM k) [.ref (a 0), .int x1] (wM a k w) sz) (ez_Qi D (tM k) (va_A (wM a k w) sz) z.1 (wM a k z.2)) 0 0 (va_A (wM a k w) sz) :=
  ez_mk (Qf := fun A => (ez_Qi D (tM k) A z.1 (wM a k z.2))) (by decide) rfl (Nat.le_of_ble_eq_true rfl) (fun p e s m below meth c A ls C0 _ hl hP hD hK => tX4_number_0 C0 hK n s.heap [] ls x1 w (lv_sub (l := [(0, .ref (a 0)), (1, .int x1)]) hl [0, 1] rfl) hP hD va_S.rf h) sz
/-! EnclosureCalculatorModel hang -/
theorem dX4_hang_0 : decode cX4_hang 0 = .ok (.aload_n 0, 1) := by decide +kernel
theorem dX4_hang_1 : decode cX4_hang 1 = .ok (.getfield 28, 3) := by decide +kernel
theorem dX4_hang_4 : decode cX4_hang 4 = .ok (.aload_n 0, 1) := by decide +kernel
theorem dX4_hang_5 : decode cX4_hang 5 = .ok (.getfield 77, 3) := by decide +kernel
theorem dX4_hang_8 : decode cX4_hang 8 = .ok (.iload_n 1, 1) := by decide +kernel
theorem dX4_hang_9 : decode cX4_hang 9 = .ok (.iastore, 1) := by decide +kernel
theorem dX4_hang_10 : decode cX4_hang 10 = .ok (.aload_n 0, 1) := by decide +kernel
theorem dX4_hang_11 : decode cX4_hang 11 = .ok (.dup, 1) := by decide +kernel
theorem dX4_hang_12 : decode cX4_hang 12 = .ok (.getfield 77, 3) := by decide +kernel
theorem dX4_hang_15 : decode cX4_hang 15 = .ok (.iconst 1, 1) := by decide +kernel
theorem dX4_hang_16 : decode cX4_hang 16 = .ok (.iadd, 1) := by decide +kernel
theorem dX4_hang_17 : decode cX4_hang 17 = .ok (.putfield 77, 3) := by decide +kernel
theorem dX4_hang_20 : decode cX4_hang 20 = .ok (.return_, 1) := by decide +kernel
def fX4_hang (n : Nat) (x1 : Int32) (w : Wd) : Option (Wd) :=
    (ez_stI w 7 21 (w.1 0 3) x1).bind fun w2 =>
    (ez_fI w2 3 ((w2.1 0 3) + 1)).bind fun w4 =>
    some w4
set_option maxHeartbeats 4000000 in
set_option maxRecDepth 100000 in
theorem tX4_hang_0 {p : Program} {l : Launch} {e : Env} {s : State} {m : MethodId} {args : Array Value} {below : List Frame} {meth : Method} {c : Code} {A : Nat → Prop} {D : va_G} {a : Nat → Nat} {k : Nat → ClassId} {z : Wd} (C0 : ez_C p s m args meth c cX4_hang none 2 RX4 A) (hK : va_K D vwCl (tM k) s) : ∀ (n : Nat) (H : Heap) (locs : List Loc) (ls : Array Slot) (x1 : Int32) (w : Wd), lv_has ls 2 [(0, .ref (a 0)), (1, .int x1)] → va_P D vwCl (wM a k w) H → va_D A (wM a k w) → va_S A s.heap H locs → fX4_hang n x1 w = some z → W p l e ({ frames := 0, cells := 0, slots := 0, locals := 0 } : Room) s m args below meth c H locs 0 0 (MQ below (ez_Qv D (tM k) A (wM a k z)) args s 0 0 A) (F0 m 0 ls []) := by
  intro n
  intro H locs ls x1 w hl hP hD hS h
  rw [fX4_hang] at h
  have C1 := C0
  obtain ⟨hx, hb, hr, hml, hown, hw, hlk, hA, hN⟩ := C1
  refine lv_aload_n (pc := 0) hx hb dX4_hang_0 rfl (lv_at hl 0 rfl) ?_
  refine va_get (D := D) (pc := 1) hx hb hw inX4 hown hK hP 0 rfl rfl 10 (by decide) (hw _ mw437) (fun _ h9 => h9) rfl dX4_hang_1 ?_
  refine lv_aload_n (pc := 4) hx hb dX4_hang_4 rfl (lv_at hl 0 rfl) ?_
  refine va_get (D := D) (pc := 5) hx hb hw inX4 hown hK hP 0 rfl rfl 9 (by decide) (hw _ mw436) (fun _ h9 => h9) rfl dX4_hang_5 ?_
  refine lv_iload_n (pc := 8) hx hb dX4_hang_8 rfl (lv_at hl 1 rfl) ?_
  replace h := ez_bd h
  obtain ⟨w2, e1, h⟩ := h
  obtain ⟨e1i, e1⟩ := ez_stIs e1
  refine va_iast (D := D) (pc := 9) hx hb hK hP hD hS 7 6 rfl rfl e1i dX4_hang_9 (fun H locs hP hD hS => ?_)
  replace hP : va_P D vwCl (wM a k w2) H := by rw [e1]; exact hP
  replace hD : va_D A (wM a k w2) := by rw [e1]; exact hD
  refine lv_aload_n (pc := 10) hx hb dX4_hang_10 rfl (lv_at hl 0 rfl) ?_
  refine lv_dup (pc := 11) hx hb dX4_hang_11 rfl ?_
  refine va_get (D := D) (pc := 12) hx hb hw inX4 hown hK hP 0 rfl rfl 9 (by decide) (hw _ mw436) (fun _ h9 => h9) rfl dX4_hang_12 ?_
  refine lv_iconst (v := 1) (pc := 15) hx hb dX4_hang_15 rfl ?_
  refine lv_iadd (pc := 16) hx hb dX4_hang_16 ?_
  replace h := ez_bd h
  obtain ⟨w4, e3, h⟩ := h
  refine va_put (D := D) (v := .int ((w2.1 0 3) + 1)) (ty := .int) (pc := 17) hx hb hw inX4 tyX4 tyX4_ok nmX4 hown hK hP hD hS 0 rfl rfl 9 (by decide) (hw _ mw436) (fun _ h9 => h9) rfl (by decide +kernel) rfl rfl (Nat.le_of_ble_eq_true rfl) dX4_hang_17 (fun H locs hP hD hS => ?_)
  replace hP : va_P D vwCl (wM a k w4) H := by rw [(ez_fIs e3)]; exact hP
  replace hD : va_D A (wM a k w4) := by rw [(ez_fIs e3)]; exact hD
  obtain rfl := ez_r1 h
  exact ez_retV C0 hP hD hK hS dX4_hang_20
set_option maxRecDepth 100000 in
theorem kX4_hang (l : Launch) (D : va_G) (a : Nat → Nat) (k : Nat → ClassId) (n : Nat) (x1 : Int32) (w : Wd) (z : Wd) (h : fX4_hang n x1 w = some z) (sz : Nat) : Met l yX4_hang wsX4_hang ({ frames := 0, cells := 0, slots := 0, locals := 0 } : Room) (ez_Pc D (tM k) [.ref (a 0), .int x1] (wM a k w) sz) (ez_Qv D (tM k) (va_A (wM a k w) sz) (wM a k z)) 0 0 (va_A (wM a k w) sz) :=
  ez_mk (Qf := fun A => (ez_Qv D (tM k) A (wM a k z))) (by decide) rfl (Nat.le_of_ble_eq_true rfl) (fun p e s m below meth c A ls C0 _ hl hP hD hK => tX4_hang_0 C0 hK n s.heap [] ls x1 w (lv_sub (l := [(0, .ref (a 0)), (1, .int x1)]) hl [0, 1] rfl) hP hD va_S.rf h) sz
