/-! EnclosureCalculator isDigit -/
theorem dX3_isDigit_0 : decode cX3_isDigit 0 = .ok (.iload_n 0, 1) := by decide +kernel
theorem dX3_isDigit_1 : decode cX3_isDigit 1 = .ok (.bipush 48, 2) := by decide +kernel
theorem dX3_isDigit_3 : decode cX3_isDigit 3 = .ok (.if_icmp .lt 13, 3) := by decide +kernel
theorem dX3_isDigit_6 : decode cX3_isDigit 6 = .ok (.iload_n 0, 1) := by decide +kernel
theorem dX3_isDigit_7 : decode cX3_isDigit 7 = .ok (.bipush 57, 2) := by decide +kernel
theorem dX3_isDigit_9 : decode cX3_isDigit 9 = .ok (.if_icmp .gt 7, 3) := by decide +kernel
theorem dX3_isDigit_12 : decode cX3_isDigit 12 = .ok (.iconst 1, 1) := by decide +kernel
theorem dX3_isDigit_13 : decode cX3_isDigit 13 = .ok (.goto 4, 3) := by decide +kernel
theorem dX3_isDigit_16 : decode cX3_isDigit 16 = .ok (.iconst 0, 1) := by decide +kernel
theorem dX3_isDigit_17 : decode cX3_isDigit 17 = .ok (.ireturn, 1) := by decide +kernel
def fX3_isDigit (n : Nat) (x0 : Int32) : Option (Int32) :=
    if x0 < 48 then
      some 0
    else
      if 57 < x0 then
        some 0
      else
        some 1
set_option maxHeartbeats 4000000 in
set_option maxRecDepth 100000 in
theorem tX3_isDigit_0 {p : Program} {l : Launch} {e : Env} {s : State} {m : MethodId} {args : Array Value} {below : List Frame} {meth : Method} {c : Code} {z : Int32} (C0 : ez_C p s m args meth c cX3_isDigit (some .boolean) 1 RX3 (fun _ => True)) : ∀ (n : Nat) (ls : Array Slot) (x0 : Int32), lv_has ls 1 [(0, .int x0)] → fX3_isDigit n x0 = some z → W p l e ({ frames := 0, cells := 0, slots := 0, locals := 0 } : Room) s m args below meth c s.heap [] 0 0 (MQ below (ez_Ri z) args s 0 0 (fun _ => False)) (F0 m 0 ls []) := by
  intro n
  intro ls x0 hl h
  rw [fX3_isDigit] at h
  have C1 := C0
  obtain ⟨hx, hb, hr, hml, hown, hw, hlk, hA, hN⟩ := C1
  refine lv_iload_n (pc := 0) hx hb dX3_isDigit_0 rfl (lv_at hl 0 rfl) ?_
  refine lv_bipush (v := 48) (pc := 1) hx hb dX3_isDigit_1 rfl ?_
  refine lv_icmp_lt (pc := 3) (tgt := 16) hx hb dX3_isDigit_3 (by decide) (fun c1 => ?_) (fun c1 => ?_)
  · replace h := ez_it c1 h
    refine lv_iconst (v := 0) (pc := 16) hx hb dX3_isDigit_16 rfl ?_
    obtain rfl := ez_r1 h
    exact ez_rroZ C0 (rfl) dX3_isDigit_17
  · replace h := ez_if c1 h
    refine lv_iload_n (pc := 6) hx hb dX3_isDigit_6 rfl (lv_at hl 0 rfl) ?_
    refine lv_bipush (v := 57) (pc := 7) hx hb dX3_isDigit_7 rfl ?_
    refine lv_icmp_gt (pc := 9) (tgt := 16) hx hb dX3_isDigit_9 (by decide) (fun c2 => ?_) (fun c2 => ?_)
    · replace h := ez_it c2 h
      refine lv_iconst (v := 0) (pc := 16) hx hb dX3_isDigit_16 rfl ?_
      obtain rfl := ez_r1 h
      exact ez_rroZ C0 (rfl) dX3_isDigit_17
    · replace h := ez_if c2 h
      refine lv_iconst (v := 1) (pc := 12) hx hb dX3_isDigit_12 rfl ?_
      refine lv_goto (pc := 13) (tgt := 17) hx hb dX3_isDigit_13 (by decide) ?_
      obtain rfl := ez_r1 h
      exact ez_rroZ C0 (rfl) dX3_isDigit_17
set_option maxRecDepth 100000 in
theorem kX3_isDigit (l : Launch) (n : Nat) (x0 : Int32) (z : Int32) (h : fX3_isDigit n x0 = some z) : Met l yX3_isDigit wsX3_isDigit ({ frames := 0, cells := 0, slots := 0, locals := 0 } : Room) (ez_Sc [.int x0]) (ez_Ri z) 0 0 (fun _ => False) :=
  ez_mkS (by decide +kernel) rfl (Nat.le_of_ble_eq_true rfl) (fun p e s m below meth c ls C0 hl => tX3_isDigit_0 C0 n ls x0 (lv_sub (l := [(0, .int x0)]) hl [0] rfl) h)
/-! EnclosureCalculator isLetter -/
theorem dX3_isLetter_0 : decode cX3_isLetter 0 = .ok (.iload_n 0, 1) := by decide +kernel
theorem dX3_isLetter_1 : decode cX3_isLetter 1 = .ok (.bipush 97, 2) := by decide +kernel
theorem dX3_isLetter_3 : decode cX3_isLetter 3 = .ok (.if_icmp .lt 13, 3) := by decide +kernel
theorem dX3_isLetter_6 : decode cX3_isLetter 6 = .ok (.iload_n 0, 1) := by decide +kernel
theorem dX3_isLetter_7 : decode cX3_isLetter 7 = .ok (.bipush 104, 2) := by decide +kernel
theorem dX3_isLetter_9 : decode cX3_isLetter 9 = .ok (.if_icmp .gt 7, 3) := by decide +kernel
theorem dX3_isLetter_12 : decode cX3_isLetter 12 = .ok (.iconst 1, 1) := by decide +kernel
theorem dX3_isLetter_13 : decode cX3_isLetter 13 = .ok (.goto 4, 3) := by decide +kernel
theorem dX3_isLetter_16 : decode cX3_isLetter 16 = .ok (.iconst 0, 1) := by decide +kernel
theorem dX3_isLetter_17 : decode cX3_isLetter 17 = .ok (.ireturn, 1) := by decide +kernel
def fX3_isLetter (n : Nat) (x0 : Int32) : Option (Int32) :=
    if x0 < 97 then
      some 0
    else
      if 104 < x0 then
        some 0
      else
        some 1
set_option maxHeartbeats 4000000 in
set_option maxRecDepth 100000 in
theorem tX3_isLetter_0 {p : Program} {l : Launch} {e : Env} {s : State} {m : MethodId} {args : Array Value} {below : List Frame} {meth : Method} {c : Code} {z : Int32} (C0 : ez_C p s m args meth c cX3_isLetter (some .boolean) 1 RX3 (fun _ => True)) : ∀ (n : Nat) (ls : Array Slot) (x0 : Int32), lv_has ls 1 [(0, .int x0)] → fX3_isLetter n x0 = some z → W p l e ({ frames := 0, cells := 0, slots := 0, locals := 0 } : Room) s m args below meth c s.heap [] 0 0 (MQ below (ez_Ri z) args s 0 0 (fun _ => False)) (F0 m 0 ls []) := by
  intro n
  intro ls x0 hl h
  rw [fX3_isLetter] at h
  have C1 := C0
  obtain ⟨hx, hb, hr, hml, hown, hw, hlk, hA, hN⟩ := C1
  refine lv_iload_n (pc := 0) hx hb dX3_isLetter_0 rfl (lv_at hl 0 rfl) ?_
  refine lv_bipush (v := 97) (pc := 1) hx hb dX3_isLetter_1 rfl ?_
  refine lv_icmp_lt (pc := 3) (tgt := 16) hx hb dX3_isLetter_3 (by decide) (fun c1 => ?_) (fun c1 => ?_)
  · replace h := ez_it c1 h
    refine lv_iconst (v := 0) (pc := 16) hx hb dX3_isLetter_16 rfl ?_
    obtain rfl := ez_r1 h
    exact ez_rroZ C0 (rfl) dX3_isLetter_17
  · replace h := ez_if c1 h
    refine lv_iload_n (pc := 6) hx hb dX3_isLetter_6 rfl (lv_at hl 0 rfl) ?_
    refine lv_bipush (v := 104) (pc := 7) hx hb dX3_isLetter_7 rfl ?_
    refine lv_icmp_gt (pc := 9) (tgt := 16) hx hb dX3_isLetter_9 (by decide) (fun c2 => ?_) (fun c2 => ?_)
    · replace h := ez_it c2 h
      refine lv_iconst (v := 0) (pc := 16) hx hb dX3_isLetter_16 rfl ?_
      obtain rfl := ez_r1 h
      exact ez_rroZ C0 (rfl) dX3_isLetter_17
    · replace h := ez_if c2 h
      refine lv_iconst (v := 1) (pc := 12) hx hb dX3_isLetter_12 rfl ?_
      refine lv_goto (pc := 13) (tgt := 17) hx hb dX3_isLetter_13 (by decide) ?_
      obtain rfl := ez_r1 h
      exact ez_rroZ C0 (rfl) dX3_isLetter_17
set_option maxRecDepth 100000 in
theorem kX3_isLetter (l : Launch) (n : Nat) (x0 : Int32) (z : Int32) (h : fX3_isLetter n x0 = some z) : Met l yX3_isLetter wsX3_isLetter ({ frames := 0, cells := 0, slots := 0, locals := 0 } : Room) (ez_Sc [.int x0]) (ez_Ri z) 0 0 (fun _ => False) :=
  ez_mkS (by decide +kernel) rfl (Nat.le_of_ble_eq_true rfl) (fun p e s m below meth c ls C0 hl => tX3_isLetter_0 C0 n ls x0 (lv_sub (l := [(0, .int x0)]) hl [0] rfl) h)
/-! EnclosureCalculator isTypable -/
theorem dX3_isTypable_0 : decode cX3_isTypable 0 = .ok (.iload_n 0, 1) := by decide +kernel
theorem dX3_isTypable_1 : decode cX3_isTypable 1 = .ok (.lookupswitch 77 #[(40, 75), (41, 75), (42, 75), (43, 75), (45, 75), (47, 75), (94, 75), (114, 75)], 75) := by decide +kernel
theorem dX3_isTypable_76 : decode cX3_isTypable 76 = .ok (.iconst 1, 1) := by decide +kernel
theorem dX3_isTypable_77 : decode cX3_isTypable 77 = .ok (.ireturn, 1) := by decide +kernel
theorem dX3_isTypable_78 : decode cX3_isTypable 78 = .ok (.iload_n 0, 1) := by decide +kernel
theorem dX3_isTypable_79 : decode cX3_isTypable 79 = .ok (.invokestatic 104, 3) := by decide +kernel
theorem dX3_isTypable_82 : decode cX3_isTypable 82 = .ok (.ifCond .ne 10, 3) := by decide +kernel
theorem dX3_isTypable_85 : decode cX3_isTypable 85 = .ok (.iload_n 0, 1) := by decide +kernel
theorem dX3_isTypable_86 : decode cX3_isTypable 86 = .ok (.invokestatic 107, 3) := by decide +kernel
theorem dX3_isTypable_89 : decode cX3_isTypable 89 = .ok (.ifCond .eq 7, 3) := by decide +kernel
theorem dX3_isTypable_92 : decode cX3_isTypable 92 = .ok (.iconst 1, 1) := by decide +kernel
theorem dX3_isTypable_93 : decode cX3_isTypable 93 = .ok (.goto 4, 3) := by decide +kernel
theorem dX3_isTypable_96 : decode cX3_isTypable 96 = .ok (.iconst 0, 1) := by decide +kernel
theorem dX3_isTypable_97 : decode cX3_isTypable 97 = .ok (.ireturn, 1) := by decide +kernel
def fX3_isTypable (n : Nat) (x0 : Int32) : Option (Int32) :=
    if x0 = 40 then
      some 1
    else
    if x0 = 41 then
      some 1
    else
    if x0 = 42 then
      some 1
    else
    if x0 = 43 then
      some 1
    else
    if x0 = 45 then
      some 1
    else
    if x0 = 47 then
      some 1
    else
    if x0 = 94 then
      some 1
    else
    if x0 = 114 then
      some 1
    else
      (fX3_isDigit n x0).bind fun z9 =>
      if z9 = 0 then
        (fX3_isLetter n x0).bind fun z12 =>
        if z12 = 0 then
          some 0
        else
          some 1
      else
        some 1
set_option maxHeartbeats 4000000 in
set_option maxRecDepth 100000 in
theorem tX3_isTypable_0 {p : Program} {l : Launch} {e : Env} {s : State} {m : MethodId} {args : Array Value} {below : List Frame} {meth : Method} {c : Code} {z : Int32} (C0 : ez_C p s m args meth c cX3_isTypable (some .boolean) 1 RX3 (fun _ => True)) : ∀ (n : Nat) (ls : Array Slot) (x0 : Int32), lv_has ls 1 [(0, .int x0)] → fX3_isTypable n x0 = some z → W p l e ({ frames := 1, cells := 0, slots := 0, locals := 20 } : Room) s m args below meth c s.heap [] 0 0 (MQ below (ez_Ri z) args s 0 0 (fun _ => False)) (F0 m 0 ls []) := by
  intro n
  intro ls x0 hl h
  rw [fX3_isTypable] at h
  have C1 := C0
  obtain ⟨hx, hb, hr, hml, hown, hw, hlk, hA, hN⟩ := C1
  refine lv_iload_n (pc := 0) hx hb dX3_isTypable_0 rfl (lv_at hl 0 rfl) ?_
  by_cases c1 : x0 = 40
  · replace h := ez_it c1 h
    refine lv_lookup (pc := 1) (tgt := 76) (off := 75) hx hb dX3_isTypable_1 (by decide) (by rw [c1]; decide) (by decide) ?_
    refine lv_iconst (v := 1) (pc := 76) hx hb dX3_isTypable_76 rfl ?_
    obtain rfl := ez_r1 h
    exact ez_rroZ C0 (rfl) dX3_isTypable_77
  · replace h := ez_if c1 h
    by_cases c2 : x0 = 41
    · replace h := ez_it c2 h
      refine lv_lookup (pc := 1) (tgt := 76) (off := 75) hx hb dX3_isTypable_1 (by decide) (by rw [c2]; decide) (by decide) ?_
      refine lv_iconst (v := 1) (pc := 76) hx hb dX3_isTypable_76 rfl ?_
      obtain rfl := ez_r1 h
      exact ez_rroZ C0 (rfl) dX3_isTypable_77
    · replace h := ez_if c2 h
      by_cases c3 : x0 = 42
      · replace h := ez_it c3 h
        refine lv_lookup (pc := 1) (tgt := 76) (off := 75) hx hb dX3_isTypable_1 (by decide) (by rw [c3]; decide) (by decide) ?_
        refine lv_iconst (v := 1) (pc := 76) hx hb dX3_isTypable_76 rfl ?_
        obtain rfl := ez_r1 h
        exact ez_rroZ C0 (rfl) dX3_isTypable_77
      · replace h := ez_if c3 h
        by_cases c4 : x0 = 43
        · replace h := ez_it c4 h
          refine lv_lookup (pc := 1) (tgt := 76) (off := 75) hx hb dX3_isTypable_1 (by decide) (by rw [c4]; decide) (by decide) ?_
          refine lv_iconst (v := 1) (pc := 76) hx hb dX3_isTypable_76 rfl ?_
          obtain rfl := ez_r1 h
          exact ez_rroZ C0 (rfl) dX3_isTypable_77
        · replace h := ez_if c4 h
          by_cases c5 : x0 = 45
          · replace h := ez_it c5 h
            refine lv_lookup (pc := 1) (tgt := 76) (off := 75) hx hb dX3_isTypable_1 (by decide) (by rw [c5]; decide) (by decide) ?_
            refine lv_iconst (v := 1) (pc := 76) hx hb dX3_isTypable_76 rfl ?_
            obtain rfl := ez_r1 h
            exact ez_rroZ C0 (rfl) dX3_isTypable_77
          · replace h := ez_if c5 h
            by_cases c6 : x0 = 47
            · replace h := ez_it c6 h
              refine lv_lookup (pc := 1) (tgt := 76) (off := 75) hx hb dX3_isTypable_1 (by decide) (by rw [c6]; decide) (by decide) ?_
              refine lv_iconst (v := 1) (pc := 76) hx hb dX3_isTypable_76 rfl ?_
              obtain rfl := ez_r1 h
              exact ez_rroZ C0 (rfl) dX3_isTypable_77
            · replace h := ez_if c6 h
              by_cases c7 : x0 = 94
              · replace h := ez_it c7 h
                refine lv_lookup (pc := 1) (tgt := 76) (off := 75) hx hb dX3_isTypable_1 (by decide) (by rw [c7]; decide) (by decide) ?_
                refine lv_iconst (v := 1) (pc := 76) hx hb dX3_isTypable_76 rfl ?_
                obtain rfl := ez_r1 h
                exact ez_rroZ C0 (rfl) dX3_isTypable_77
              · replace h := ez_if c7 h
                by_cases c8 : x0 = 114
                · replace h := ez_it c8 h
                  refine lv_lookup (pc := 1) (tgt := 76) (off := 75) hx hb dX3_isTypable_1 (by decide) (by rw [c8]; decide) (by decide) ?_
                  refine lv_iconst (v := 1) (pc := 76) hx hb dX3_isTypable_76 rfl ?_
                  obtain rfl := ez_r1 h
                  exact ez_rroZ C0 (rfl) dX3_isTypable_77
                · replace h := ez_if c8 h
                  refine lv_lookup (pc := 1) (tgt := 78) (off := 77) hx hb dX3_isTypable_1 (by decide) (by show Op.lookupswitch.offset [(40, 75), (41, 75), (42, 75), (43, 75), (45, 75), (47, 75), (94, 75), (114, 75)] 77 _ = _; rw [lv_osw (a := 40) c1 rfl, lv_osw (a := 41) c2 rfl, lv_osw (a := 42) c3 rfl, lv_osw (a := 43) c4 rfl, lv_osw (a := 45) c5 rfl, lv_osw (a := 47) c6 rfl, lv_osw (a := 94) c7 rfl, lv_osw (a := 114) c8 rfl]; rfl) (by decide) ?_
                  refine lv_iload_n (pc := 78) hx hb dX3_isTypable_78 rfl (lv_at hl 0 rfl) ?_
                  replace h := ez_bd h
                  obtain ⟨z9, e10, h⟩ := h
                  refine ez_croI (r := z9) (pc := 79) (va_runS (g := F0 m 79 ls [.int x0]) (As := [.int x0]) (rest := []) ⟨hx, hb, hml, hown, hw⟩ (kX3_isDigit l n x0 z9 e10) (va_cwS 1 hw (ez_gS mw110 mw111 mw1 mw112) rfl rfl rfl (by decide +kernel) ⟨Nat.le_of_ble_eq_true rfl, Nat.le_of_ble_eq_true rfl⟩) (ez_preRS hN) rfl rfl hl.1 rfl (lv_room (Nat.le_of_ble_eq_true rfl)) dX3_isTypable_79 ⟨Nat.le_refl _, Nat.le_refl _⟩) ?_
                  refine lv_if_ne (pc := 82) (tgt := 92) hx hb dX3_isTypable_82 (by decide) (fun c11 => ?_) (fun c11 => ?_)
                  · replace h := ez_if c11 h
                    refine lv_iconst (v := 1) (pc := 92) hx hb dX3_isTypable_92 rfl ?_
                    refine lv_goto (pc := 93) (tgt := 97) hx hb dX3_isTypable_93 (by decide) ?_
                    obtain rfl := ez_r1 h
                    exact ez_rroZ C0 (rfl) dX3_isTypable_97
                  · replace h := ez_it c11 h
                    refine lv_iload_n (pc := 85) hx hb dX3_isTypable_85 rfl (lv_at hl 0 rfl) ?_
                    replace h := ez_bd h
                    obtain ⟨z12, e13, h⟩ := h
                    refine ez_croI (r := z12) (pc := 86) (va_runS (g := F0 m 86 ls [.int x0]) (As := [.int x0]) (rest := []) ⟨hx, hb, hml, hown, hw⟩ (kX3_isLetter l n x0 z12 e13) (va_cwS 1 hw (ez_gS mw113 mw114 mw1 mw115) rfl rfl rfl (by decide +kernel) ⟨Nat.le_of_ble_eq_true rfl, Nat.le_of_ble_eq_true rfl⟩) (ez_preRS hN) rfl rfl hl.1 rfl (lv_room (Nat.le_of_ble_eq_true rfl)) dX3_isTypable_86 ⟨Nat.le_refl _, Nat.le_refl _⟩) ?_
                    refine lv_if_eq (pc := 89) (tgt := 96) hx hb dX3_isTypable_89 (by decide) (fun c14 => ?_) (fun c14 => ?_)
                    · replace h := ez_it c14 h
                      refine lv_iconst (v := 0) (pc := 96) hx hb dX3_isTypable_96 rfl ?_
                      obtain rfl := ez_r1 h
                      exact ez_rroZ C0 (rfl) dX3_isTypable_97
                    · replace h := ez_if c14 h
                      refine lv_iconst (v := 1) (pc := 92) hx hb dX3_isTypable_92 rfl ?_
                      refine lv_goto (pc := 93) (tgt := 97) hx hb dX3_isTypable_93 (by decide) ?_
                      obtain rfl := ez_r1 h
                      exact ez_rroZ C0 (rfl) dX3_isTypable_97
set_option maxRecDepth 100000 in
theorem kX3_isTypable (l : Launch) (n : Nat) (x0 : Int32) (z : Int32) (h : fX3_isTypable n x0 = some z) : Met l yX3_isTypable wsX3_isTypable ({ frames := 1, cells := 0, slots := 0, locals := 20 } : Room) (ez_Sc [.int x0]) (ez_Ri z) 0 0 (fun _ => False) :=
  ez_mkS (by decide +kernel) rfl (Nat.le_of_ble_eq_true rfl) (fun p e s m below meth c ls C0 hl => tX3_isTypable_0 C0 n ls x0 (lv_sub (l := [(0, .int x0)]) hl [0] rfl) h)
/-! EnclosureCalculator isName -/
theorem dX3_isName_0 : decode cX3_isName 0 = .ok (.iload_n 0, 1) := by decide +kernel
theorem dX3_isName_1 : decode cX3_isName 1 = .ok (.ifCond .lt 13, 3) := by decide +kernel
theorem dX3_isName_4 : decode cX3_isName 4 = .ok (.iload_n 0, 1) := by decide +kernel
theorem dX3_isName_5 : decode cX3_isName 5 = .ok (.bipush 8, 2) := by decide +kernel
theorem dX3_isName_7 : decode cX3_isName 7 = .ok (.if_icmp .ge 7, 3) := by decide +kernel
theorem dX3_isName_10 : decode cX3_isName 10 = .ok (.iconst 1, 1) := by decide +kernel
theorem dX3_isName_11 : decode cX3_isName 11 = .ok (.goto 4, 3) := by decide +kernel
theorem dX3_isName_14 : decode cX3_isName 14 = .ok (.iconst 0, 1) := by decide +kernel
theorem dX3_isName_15 : decode cX3_isName 15 = .ok (.ireturn, 1) := by decide +kernel
def fX3_isName (n : Nat) (x0 : Int32) : Option (Int32) :=
    if x0 < 0 then
      some 0
    else
      if 8 ≤ x0 then
        some 0
      else
        some 1
set_option maxHeartbeats 4000000 in
set_option maxRecDepth 100000 in
theorem tX3_isName_0 {p : Program} {l : Launch} {e : Env} {s : State} {m : MethodId} {args : Array Value} {below : List Frame} {meth : Method} {c : Code} {z : Int32} (C0 : ez_C p s m args meth c cX3_isName (some .boolean) 1 RX3 (fun _ => True)) : ∀ (n : Nat) (ls : Array Slot) (x0 : Int32), lv_has ls 1 [(0, .int x0)] → fX3_isName n x0 = some z → W p l e ({ frames := 0, cells := 0, slots := 0, locals := 0 } : Room) s m args below meth c s.heap [] 0 0 (MQ below (ez_Ri z) args s 0 0 (fun _ => False)) (F0 m 0 ls []) := by
  intro n
  intro ls x0 hl h
  rw [fX3_isName] at h
  have C1 := C0
  obtain ⟨hx, hb, hr, hml, hown, hw, hlk, hA, hN⟩ := C1
  refine lv_iload_n (pc := 0) hx hb dX3_isName_0 rfl (lv_at hl 0 rfl) ?_
  refine lv_if_lt (pc := 1) (tgt := 14) hx hb dX3_isName_1 (by decide) (fun c1 => ?_) (fun c1 => ?_)
  · replace h := ez_it c1 h
    refine lv_iconst (v := 0) (pc := 14) hx hb dX3_isName_14 rfl ?_
    obtain rfl := ez_r1 h
    exact ez_rroZ C0 (rfl) dX3_isName_15
  · replace h := ez_if c1 h
    refine lv_iload_n (pc := 4) hx hb dX3_isName_4 rfl (lv_at hl 0 rfl) ?_
    refine lv_bipush (v := 8) (pc := 5) hx hb dX3_isName_5 rfl ?_
    refine lv_icmp_ge (pc := 7) (tgt := 14) hx hb dX3_isName_7 (by decide) (fun c2 => ?_) (fun c2 => ?_)
    · replace h := ez_it c2 h
      refine lv_iconst (v := 0) (pc := 14) hx hb dX3_isName_14 rfl ?_
      obtain rfl := ez_r1 h
      exact ez_rroZ C0 (rfl) dX3_isName_15
    · replace h := ez_if c2 h
      refine lv_iconst (v := 1) (pc := 10) hx hb dX3_isName_10 rfl ?_
      refine lv_goto (pc := 11) (tgt := 15) hx hb dX3_isName_11 (by decide) ?_
      obtain rfl := ez_r1 h
      exact ez_rroZ C0 (rfl) dX3_isName_15
set_option maxRecDepth 100000 in
theorem kX3_isName (l : Launch) (n : Nat) (x0 : Int32) (z : Int32) (h : fX3_isName n x0 = some z) : Met l yX3_isName wsX3_isName ({ frames := 0, cells := 0, slots := 0, locals := 0 } : Room) (ez_Sc [.int x0]) (ez_Ri z) 0 0 (fun _ => False) :=
  ez_mkS (by decide +kernel) rfl (Nat.le_of_ble_eq_true rfl) (fun p e s m below meth c ls C0 hl => tX3_isName_0 C0 n ls x0 (lv_sub (l := [(0, .int x0)]) hl [0] rfl) h)
/-! EnclosureCalculator isTrial -/
theorem dX3_isTrial_0 : decode cX3_isTrial 0 = .ok (.iload_n 0, 1) := by decide +kernel
theorem dX3_isTrial_1 : decode cX3_isTrial 1 = .ok (.ifCond .lt 24, 3) := by decide +kernel
theorem dX3_isTrial_4 : decode cX3_isTrial 4 = .ok (.iload_n 0, 1) := by decide +kernel
theorem dX3_isTrial_5 : decode cX3_isTrial 5 = .ok (.bipush 16, 2) := by decide +kernel
theorem dX3_isTrial_7 : decode cX3_isTrial 7 = .ok (.if_icmp .gt 18, 3) := by decide +kernel
theorem dX3_isTrial_10 : decode cX3_isTrial 10 = .ok (.iload_n 1, 1) := by decide +kernel
theorem dX3_isTrial_11 : decode cX3_isTrial 11 = .ok (.iconst 1, 1) := by decide +kernel
theorem dX3_isTrial_12 : decode cX3_isTrial 12 = .ok (.if_icmp .lt 13, 3) := by decide +kernel
theorem dX3_isTrial_15 : decode cX3_isTrial 15 = .ok (.iload_n 1, 1) := by decide +kernel
theorem dX3_isTrial_16 : decode cX3_isTrial 16 = .ok (.bipush 20, 2) := by decide +kernel
theorem dX3_isTrial_18 : decode cX3_isTrial 18 = .ok (.if_icmp .gt 7, 3) := by decide +kernel
theorem dX3_isTrial_21 : decode cX3_isTrial 21 = .ok (.iconst 1, 1) := by decide +kernel
theorem dX3_isTrial_22 : decode cX3_isTrial 22 = .ok (.goto 4, 3) := by decide +kernel
theorem dX3_isTrial_25 : decode cX3_isTrial 25 = .ok (.iconst 0, 1) := by decide +kernel
theorem dX3_isTrial_26 : decode cX3_isTrial 26 = .ok (.ireturn, 1) := by decide +kernel
def fX3_isTrial (n : Nat) (x0 : Int32) (x1 : Int32) : Option (Int32) :=
    if x0 < 0 then
      some 0
    else
      if 16 < x0 then
        some 0
      else
        if x1 < 1 then
          some 0
        else
          if 20 < x1 then
            some 0
          else
            some 1
set_option maxHeartbeats 4000000 in
set_option maxRecDepth 100000 in
theorem tX3_isTrial_0 {p : Program} {l : Launch} {e : Env} {s : State} {m : MethodId} {args : Array Value} {below : List Frame} {meth : Method} {c : Code} {z : Int32} (C0 : ez_C p s m args meth c cX3_isTrial (some .boolean) 2 RX3 (fun _ => True)) : ∀ (n : Nat) (ls : Array Slot) (x0 : Int32) (x1 : Int32), lv_has ls 2 [(0, .int x0), (1, .int x1)] → fX3_isTrial n x0 x1 = some z → W p l e ({ frames := 0, cells := 0, slots := 0, locals := 0 } : Room) s m args below meth c s.heap [] 0 0 (MQ below (ez_Ri z) args s 0 0 (fun _ => False)) (F0 m 0 ls []) := by
  intro n
  intro ls x0 x1 hl h
  rw [fX3_isTrial] at h
  have C1 := C0
  obtain ⟨hx, hb, hr, hml, hown, hw, hlk, hA, hN⟩ := C1
  refine lv_iload_n (pc := 0) hx hb dX3_isTrial_0 rfl (lv_at hl 0 rfl) ?_
  refine lv_if_lt (pc := 1) (tgt := 25) hx hb dX3_isTrial_1 (by decide) (fun c1 => ?_) (fun c1 => ?_)
  · replace h := ez_it c1 h
    refine lv_iconst (v := 0) (pc := 25) hx hb dX3_isTrial_25 rfl ?_
    obtain rfl := ez_r1 h
    exact ez_rroZ C0 (rfl) dX3_isTrial_26
  · replace h := ez_if c1 h
    refine lv_iload_n (pc := 4) hx hb dX3_isTrial_4 rfl (lv_at hl 0 rfl) ?_
    refine lv_bipush (v := 16) (pc := 5) hx hb dX3_isTrial_5 rfl ?_
    refine lv_icmp_gt (pc := 7) (tgt := 25) hx hb dX3_isTrial_7 (by decide) (fun c2 => ?_) (fun c2 => ?_)
    · replace h := ez_it c2 h
      refine lv_iconst (v := 0) (pc := 25) hx hb dX3_isTrial_25 rfl ?_
      obtain rfl := ez_r1 h
      exact ez_rroZ C0 (rfl) dX3_isTrial_26
    · replace h := ez_if c2 h
      refine lv_iload_n (pc := 10) hx hb dX3_isTrial_10 rfl (lv_at hl 1 rfl) ?_
      refine lv_iconst (v := 1) (pc := 11) hx hb dX3_isTrial_11 rfl ?_
      refine lv_icmp_lt (pc := 12) (tgt := 25) hx hb dX3_isTrial_12 (by decide) (fun c3 => ?_) (fun c3 => ?_)
      · replace h := ez_it c3 h
        refine lv_iconst (v := 0) (pc := 25) hx hb dX3_isTrial_25 rfl ?_
        obtain rfl := ez_r1 h
        exact ez_rroZ C0 (rfl) dX3_isTrial_26
      · replace h := ez_if c3 h
        refine lv_iload_n (pc := 15) hx hb dX3_isTrial_15 rfl (lv_at hl 1 rfl) ?_
        refine lv_bipush (v := 20) (pc := 16) hx hb dX3_isTrial_16 rfl ?_
        refine lv_icmp_gt (pc := 18) (tgt := 25) hx hb dX3_isTrial_18 (by decide) (fun c4 => ?_) (fun c4 => ?_)
        · replace h := ez_it c4 h
          refine lv_iconst (v := 0) (pc := 25) hx hb dX3_isTrial_25 rfl ?_
          obtain rfl := ez_r1 h
          exact ez_rroZ C0 (rfl) dX3_isTrial_26
        · replace h := ez_if c4 h
          refine lv_iconst (v := 1) (pc := 21) hx hb dX3_isTrial_21 rfl ?_
          refine lv_goto (pc := 22) (tgt := 26) hx hb dX3_isTrial_22 (by decide) ?_
          obtain rfl := ez_r1 h
          exact ez_rroZ C0 (rfl) dX3_isTrial_26
set_option maxRecDepth 100000 in
theorem kX3_isTrial (l : Launch) (n : Nat) (x0 : Int32) (x1 : Int32) (z : Int32) (h : fX3_isTrial n x0 x1 = some z) : Met l yX3_isTrial wsX3_isTrial ({ frames := 0, cells := 0, slots := 0, locals := 0 } : Room) (ez_Sc [.int x0, .int x1]) (ez_Ri z) 0 0 (fun _ => False) :=
  ez_mkS (by decide +kernel) rfl (Nat.le_of_ble_eq_true rfl) (fun p e s m below meth c ls C0 hl => tX3_isTrial_0 C0 n ls x0 x1 (lv_sub (l := [(0, .int x0), (1, .int x1)]) hl [0, 1] rfl) h)
