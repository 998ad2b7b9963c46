/-! EnclosureCalculatorModel isDigit -/
theorem dX4_isDigit_0 : decode cX4_isDigit 0 = .ok (.iload_n 0, 1) := by decide +kernel
theorem dX4_isDigit_1 : decode cX4_isDigit 1 = .ok (.bipush 48, 2) := by decide +kernel
theorem dX4_isDigit_3 : decode cX4_isDigit 3 = .ok (.if_icmp .lt 13, 3) := by decide +kernel
theorem dX4_isDigit_6 : decode cX4_isDigit 6 = .ok (.iload_n 0, 1) := by decide +kernel
theorem dX4_isDigit_7 : decode cX4_isDigit 7 = .ok (.bipush 57, 2) := by decide +kernel
theorem dX4_isDigit_9 : decode cX4_isDigit 9 = .ok (.if_icmp .gt 7, 3) := by decide +kernel
theorem dX4_isDigit_12 : decode cX4_isDigit 12 = .ok (.iconst 1, 1) := by decide +kernel
theorem dX4_isDigit_13 : decode cX4_isDigit 13 = .ok (.goto 4, 3) := by decide +kernel
theorem dX4_isDigit_16 : decode cX4_isDigit 16 = .ok (.iconst 0, 1) := by decide +kernel
theorem dX4_isDigit_17 : decode cX4_isDigit 17 = .ok (.ireturn, 1) := by decide +kernel
def fX4_isDigit (n : Nat) (x0 : Int32) : Option (Int32) :=
    if x0 < 48 then
      some 0
    else
      if 57 < x0 then
        some 0
      else
        some 1
set_option maxHeartbeats 4000000 in
set_option maxRecDepth 100000 in
theorem tX4_isDigit_0 {p : Program} {l : Launch} {e : Env} {s : State} {m : MethodId} {args : Array Value} {below : List Frame} {meth : Method} {c : Code} {z : Int32} (C0 : ez_C p s m args meth c cX4_isDigit (some .boolean) 1 RX4 (fun _ => True)) : ∀ (n : Nat) (ls : Array Slot) (x0 : Int32), lv_has ls 1 [(0, .int x0)] → fX4_isDigit n x0 = some z → W p l e ({ frames := 0, cells := 0, slots := 0, locals := 0 } : Room) s m args below meth c s.heap [] 0 0 (MQ below (ez_Ri z) args s 0 0 (fun _ => False)) (F0 m 0 ls []) := by
  intro n
  intro ls x0 hl h
  rw [fX4_isDigit] at h
  have C1 := C0
  obtain ⟨hx, hb, hr, hml, hown, hw, hlk, hA, hN⟩ := C1
  refine lv_iload_n (pc := 0) hx hb dX4_isDigit_0 rfl (lv_at hl 0 rfl) ?_
  refine lv_bipush (v := 48) (pc := 1) hx hb dX4_isDigit_1 rfl ?_
  refine lv_icmp_lt (pc := 3) (tgt := 16) hx hb dX4_isDigit_3 (by decide) (fun c1 => ?_) (fun c1 => ?_)
  · replace h := ez_it c1 h
    refine lv_iconst (v := 0) (pc := 16) hx hb dX4_isDigit_16 rfl ?_
    obtain rfl := ez_r1 h
    exact ez_rroZ C0 (rfl) dX4_isDigit_17
  · replace h := ez_if c1 h
    refine lv_iload_n (pc := 6) hx hb dX4_isDigit_6 rfl (lv_at hl 0 rfl) ?_
    refine lv_bipush (v := 57) (pc := 7) hx hb dX4_isDigit_7 rfl ?_
    refine lv_icmp_gt (pc := 9) (tgt := 16) hx hb dX4_isDigit_9 (by decide) (fun c2 => ?_) (fun c2 => ?_)
    · replace h := ez_it c2 h
      refine lv_iconst (v := 0) (pc := 16) hx hb dX4_isDigit_16 rfl ?_
      obtain rfl := ez_r1 h
      exact ez_rroZ C0 (rfl) dX4_isDigit_17
    · replace h := ez_if c2 h
      refine lv_iconst (v := 1) (pc := 12) hx hb dX4_isDigit_12 rfl ?_
      refine lv_goto (pc := 13) (tgt := 17) hx hb dX4_isDigit_13 (by decide) ?_
      obtain rfl := ez_r1 h
      exact ez_rroZ C0 (rfl) dX4_isDigit_17
set_option maxRecDepth 100000 in
theorem kX4_isDigit (l : Launch) (n : Nat) (x0 : Int32) (z : Int32) (h : fX4_isDigit n x0 = some z) : Met l yX4_isDigit wsX4_isDigit ({ frames := 0, cells := 0, slots := 0, locals := 0 } : Room) (ez_Sc [.int x0]) (ez_Ri z) 0 0 (fun _ => False) :=
  ez_mkS (by decide +kernel) rfl (Nat.le_of_ble_eq_true rfl) (fun p e s m below meth c ls C0 hl => tX4_isDigit_0 C0 n ls x0 (lv_sub (l := [(0, .int x0)]) hl [0] rfl) h)
/-! EnclosureCalculatorModel isName -/
theorem dX4_isName_0 : decode cX4_isName 0 = .ok (.iload_n 0, 1) := by decide +kernel
theorem dX4_isName_1 : decode cX4_isName 1 = .ok (.bipush 97, 2) := by decide +kernel
theorem dX4_isName_3 : decode cX4_isName 3 = .ok (.if_icmp .lt 13, 3) := by decide +kernel
theorem dX4_isName_6 : decode cX4_isName 6 = .ok (.iload_n 0, 1) := by decide +kernel
theorem dX4_isName_7 : decode cX4_isName 7 = .ok (.bipush 104, 2) := by decide +kernel
theorem dX4_isName_9 : decode cX4_isName 9 = .ok (.if_icmp .gt 7, 3) := by decide +kernel
theorem dX4_isName_12 : decode cX4_isName 12 = .ok (.iconst 1, 1) := by decide +kernel
theorem dX4_isName_13 : decode cX4_isName 13 = .ok (.goto 4, 3) := by decide +kernel
theorem dX4_isName_16 : decode cX4_isName 16 = .ok (.iconst 0, 1) := by decide +kernel
theorem dX4_isName_17 : decode cX4_isName 17 = .ok (.ireturn, 1) := by decide +kernel
def fX4_isName (n : Nat) (x0 : Int32) : Option (Int32) :=
    if x0 < 97 then
      some 0
    else
      if 104 < x0 then
        some 0
      else
        some 1
set_option maxHeartbeats 4000000 in
set_option maxRecDepth 100000 in
theorem tX4_isName_0 {p : Program} {l : Launch} {e : Env} {s : State} {m : MethodId} {args : Array Value} {below : List Frame} {meth : Method} {c : Code} {z : Int32} (C0 : ez_C p s m args meth c cX4_isName (some .boolean) 1 RX4 (fun _ => True)) : ∀ (n : Nat) (ls : Array Slot) (x0 : Int32), lv_has ls 1 [(0, .int x0)] → fX4_isName n x0 = some z → W p l e ({ frames := 0, cells := 0, slots := 0, locals := 0 } : Room) s m args below meth c s.heap [] 0 0 (MQ below (ez_Ri z) args s 0 0 (fun _ => False)) (F0 m 0 ls []) := by
  intro n
  intro ls x0 hl h
  rw [fX4_isName] at h
  have C1 := C0
  obtain ⟨hx, hb, hr, hml, hown, hw, hlk, hA, hN⟩ := C1
  refine lv_iload_n (pc := 0) hx hb dX4_isName_0 rfl (lv_at hl 0 rfl) ?_
  refine lv_bipush (v := 97) (pc := 1) hx hb dX4_isName_1 rfl ?_
  refine lv_icmp_lt (pc := 3) (tgt := 16) hx hb dX4_isName_3 (by decide) (fun c1 => ?_) (fun c1 => ?_)
  · replace h := ez_it c1 h
    refine lv_iconst (v := 0) (pc := 16) hx hb dX4_isName_16 rfl ?_
    obtain rfl := ez_r1 h
    exact ez_rroZ C0 (rfl) dX4_isName_17
  · replace h := ez_if c1 h
    refine lv_iload_n (pc := 6) hx hb dX4_isName_6 rfl (lv_at hl 0 rfl) ?_
    refine lv_bipush (v := 104) (pc := 7) hx hb dX4_isName_7 rfl ?_
    refine lv_icmp_gt (pc := 9) (tgt := 16) hx hb dX4_isName_9 (by decide) (fun c2 => ?_) (fun c2 => ?_)
    · replace h := ez_it c2 h
      refine lv_iconst (v := 0) (pc := 16) hx hb dX4_isName_16 rfl ?_
      obtain rfl := ez_r1 h
      exact ez_rroZ C0 (rfl) dX4_isName_17
    · replace h := ez_if c2 h
      refine lv_iconst (v := 1) (pc := 12) hx hb dX4_isName_12 rfl ?_
      refine lv_goto (pc := 13) (tgt := 17) hx hb dX4_isName_13 (by decide) ?_
      obtain rfl := ez_r1 h
      exact ez_rroZ C0 (rfl) dX4_isName_17
set_option maxRecDepth 100000 in
theorem kX4_isName (l : Launch) (n : Nat) (x0 : Int32) (z : Int32) (h : fX4_isName n x0 = some z) : Met l yX4_isName wsX4_isName ({ frames := 0, cells := 0, slots := 0, locals := 0 } : Room) (ez_Sc [.int x0]) (ez_Ri z) 0 0 (fun _ => False) :=
  ez_mkS (by decide +kernel) rfl (Nat.le_of_ble_eq_true rfl) (fun p e s m below meth c ls C0 hl => tX4_isName_0 C0 n ls x0 (lv_sub (l := [(0, .int x0)]) hl [0] rfl) h)
/-! EnclosureCalculatorModel isSign -/
theorem dX4_isSign_0 : decode cX4_isSign 0 = .ok (.iload_n 0, 1) := by decide +kernel
theorem dX4_isSign_1 : decode cX4_isSign 1 = .ok (.bipush 43, 2) := by decide +kernel
theorem dX4_isSign_3 : decode cX4_isSign 3 = .ok (.if_icmp .eq 21, 3) := by decide +kernel
theorem dX4_isSign_6 : decode cX4_isSign 6 = .ok (.iload_n 0, 1) := by decide +kernel
theorem dX4_isSign_7 : decode cX4_isSign 7 = .ok (.bipush 45, 2) := by decide +kernel
theorem dX4_isSign_9 : decode cX4_isSign 9 = .ok (.if_icmp .eq 15, 3) := by decide +kernel
theorem dX4_isSign_12 : decode cX4_isSign 12 = .ok (.iload_n 0, 1) := by decide +kernel
theorem dX4_isSign_13 : decode cX4_isSign 13 = .ok (.bipush 42, 2) := by decide +kernel
theorem dX4_isSign_15 : decode cX4_isSign 15 = .ok (.if_icmp .eq 9, 3) := by decide +kernel
theorem dX4_isSign_18 : decode cX4_isSign 18 = .ok (.iload_n 0, 1) := by decide +kernel
theorem dX4_isSign_19 : decode cX4_isSign 19 = .ok (.bipush 47, 2) := by decide +kernel
theorem dX4_isSign_21 : decode cX4_isSign 21 = .ok (.if_icmp .ne 7, 3) := by decide +kernel
theorem dX4_isSign_24 : decode cX4_isSign 24 = .ok (.iconst 1, 1) := by decide +kernel
theorem dX4_isSign_25 : decode cX4_isSign 25 = .ok (.goto 4, 3) := by decide +kernel
theorem dX4_isSign_28 : decode cX4_isSign 28 = .ok (.iconst 0, 1) := by decide +kernel
theorem dX4_isSign_29 : decode cX4_isSign 29 = .ok (.ireturn, 1) := by decide +kernel
def fX4_isSign (n : Nat) (x0 : Int32) : Option (Int32) :=
    if x0 = 43 then
      some 1
    else
      if x0 = 45 then
        some 1
      else
        if x0 = 42 then
          some 1
        else
          if x0 = 47 then
            some 1
          else
            some 0
set_option maxHeartbeats 4000000 in
set_option maxRecDepth 100000 in
theorem tX4_isSign_0 {p : Program} {l : Launch} {e : Env} {s : State} {m : MethodId} {args : Array Value} {below : List Frame} {meth : Method} {c : Code} {z : Int32} (C0 : ez_C p s m args meth c cX4_isSign (some .boolean) 1 RX4 (fun _ => True)) : ∀ (n : Nat) (ls : Array Slot) (x0 : Int32), lv_has ls 1 [(0, .int x0)] → fX4_isSign n x0 = some z → W p l e ({ frames := 0, cells := 0, slots := 0, locals := 0 } : Room) s m args below meth c s.heap [] 0 0 (MQ below (ez_Ri z) args s 0 0 (fun _ => False)) (F0 m 0 ls []) := by
  intro n
  intro ls x0 hl h
  rw [fX4_isSign] at h
  have C1 := C0
  obtain ⟨hx, hb, hr, hml, hown, hw, hlk, hA, hN⟩ := C1
  refine lv_iload_n (pc := 0) hx hb dX4_isSign_0 rfl (lv_at hl 0 rfl) ?_
  refine lv_bipush (v := 43) (pc := 1) hx hb dX4_isSign_1 rfl ?_
  refine lv_icmp_eq (pc := 3) (tgt := 24) hx hb dX4_isSign_3 (by decide) (fun c1 => ?_) (fun c1 => ?_)
  · replace h := ez_it c1 h
    refine lv_iconst (v := 1) (pc := 24) hx hb dX4_isSign_24 rfl ?_
    refine lv_goto (pc := 25) (tgt := 29) hx hb dX4_isSign_25 (by decide) ?_
    obtain rfl := ez_r1 h
    exact ez_rroZ C0 (rfl) dX4_isSign_29
  · replace h := ez_if c1 h
    refine lv_iload_n (pc := 6) hx hb dX4_isSign_6 rfl (lv_at hl 0 rfl) ?_
    refine lv_bipush (v := 45) (pc := 7) hx hb dX4_isSign_7 rfl ?_
    refine lv_icmp_eq (pc := 9) (tgt := 24) hx hb dX4_isSign_9 (by decide) (fun c2 => ?_) (fun c2 => ?_)
    · replace h := ez_it c2 h
      refine lv_iconst (v := 1) (pc := 24) hx hb dX4_isSign_24 rfl ?_
      refine lv_goto (pc := 25) (tgt := 29) hx hb dX4_isSign_25 (by decide) ?_
      obtain rfl := ez_r1 h
      exact ez_rroZ C0 (rfl) dX4_isSign_29
    · replace h := ez_if c2 h
      refine lv_iload_n (pc := 12) hx hb dX4_isSign_12 rfl (lv_at hl 0 rfl) ?_
      refine lv_bipush (v := 42) (pc := 13) hx hb dX4_isSign_13 rfl ?_
      refine lv_icmp_eq (pc := 15) (tgt := 24) hx hb dX4_isSign_15 (by decide) (fun c3 => ?_) (fun c3 => ?_)
      · replace h := ez_it c3 h
        refine lv_iconst (v := 1) (pc := 24) hx hb dX4_isSign_24 rfl ?_
        refine lv_goto (pc := 25) (tgt := 29) hx hb dX4_isSign_25 (by decide) ?_
        obtain rfl := ez_r1 h
        exact ez_rroZ C0 (rfl) dX4_isSign_29
      · replace h := ez_if c3 h
        refine lv_iload_n (pc := 18) hx hb dX4_isSign_18 rfl (lv_at hl 0 rfl) ?_
        refine lv_bipush (v := 47) (pc := 19) hx hb dX4_isSign_19 rfl ?_
        refine lv_icmp_ne (pc := 21) (tgt := 28) hx hb dX4_isSign_21 (by decide) (fun c4 => ?_) (fun c4 => ?_)
        · replace h := ez_if c4 h
          refine lv_iconst (v := 0) (pc := 28) hx hb dX4_isSign_28 rfl ?_
          obtain rfl := ez_r1 h
          exact ez_rroZ C0 (rfl) dX4_isSign_29
        · replace h := ez_it c4 h
          refine lv_iconst (v := 1) (pc := 24) hx hb dX4_isSign_24 rfl ?_
          refine lv_goto (pc := 25) (tgt := 29) hx hb dX4_isSign_25 (by decide) ?_
          obtain rfl := ez_r1 h
          exact ez_rroZ C0 (rfl) dX4_isSign_29
set_option maxRecDepth 100000 in
theorem kX4_isSign (l : Launch) (n : Nat) (x0 : Int32) (z : Int32) (h : fX4_isSign n x0 = some z) : Met l yX4_isSign wsX4_isSign ({ frames := 0, cells := 0, slots := 0, locals := 0 } : Room) (ez_Sc [.int x0]) (ez_Ri z) 0 0 (fun _ => False) :=
  ez_mkS (by decide +kernel) rfl (Nat.le_of_ble_eq_true rfl) (fun p e s m below meth c ls C0 hl => tX4_isSign_0 C0 n ls x0 (lv_sub (l := [(0, .int x0)]) hl [0] rfl) h)
/-! EnclosureCalculatorModel follow -/
theorem dX4_follow_0 : decode cX4_follow 0 = .ok (.iload_n 0, 1) := by decide +kernel
theorem dX4_follow_1 : decode cX4_follow 1 = .ok (.iconst 1, 1) := by decide +kernel
theorem dX4_follow_2 : decode cX4_follow 2 = .ok (.if_icmp .lt 12, 3) := by decide +kernel
theorem dX4_follow_5 : decode cX4_follow 5 = .ok (.iload_n 0, 1) := by decide +kernel
theorem dX4_follow_6 : decode cX4_follow 6 = .ok (.iconst 4, 1) := by decide +kernel
theorem dX4_follow_7 : decode cX4_follow 7 = .ok (.if_icmp .gt 7, 3) := by decide +kernel
theorem dX4_follow_10 : decode cX4_follow 10 = .ok (.iconst 1, 1) := by decide +kernel
theorem dX4_follow_11 : decode cX4_follow 11 = .ok (.goto 4, 3) := by decide +kernel
theorem dX4_follow_14 : decode cX4_follow 14 = .ok (.iconst 0, 1) := by decide +kernel
theorem dX4_follow_15 : decode cX4_follow 15 = .ok (.istore_n 3, 1) := by decide +kernel
theorem dX4_follow_16 : decode cX4_follow 16 = .ok (.iload_n 1, 1) := by decide +kernel
theorem dX4_follow_17 : decode cX4_follow 17 = .ok (.invokestatic 49, 3) := by decide +kernel
theorem dX4_follow_20 : decode cX4_follow 20 = .ok (.ifCond .eq 41, 3) := by decide +kernel
theorem dX4_follow_23 : decode cX4_follow 23 = .ok (.iload_n 0, 1) := by decide +kernel
theorem dX4_follow_24 : decode cX4_follow 24 = .ok (.bipush 6, 2) := by decide +kernel
theorem dX4_follow_26 : decode cX4_follow 26 = .ok (.if_icmp .ne 22, 3) := by decide +kernel
theorem dX4_follow_29 : decode cX4_follow 29 = .ok (.iload_n 1, 1) := by decide +kernel
theorem dX4_follow_30 : decode cX4_follow 30 = .ok (.bipush 50, 2) := by decide +kernel
theorem dX4_follow_32 : decode cX4_follow 32 = .ok (.if_icmp .lt 14, 3) := by decide +kernel
theorem dX4_follow_35 : decode cX4_follow 35 = .ok (.iload_n 1, 1) := by decide +kernel
theorem dX4_follow_36 : decode cX4_follow 36 = .ok (.bipush 53, 2) := by decide +kernel
theorem dX4_follow_38 : decode cX4_follow 38 = .ok (.if_icmp .gt 8, 3) := by decide +kernel
theorem dX4_follow_41 : decode cX4_follow 41 = .ok (.bipush 7, 2) := by decide +kernel
theorem dX4_follow_43 : decode cX4_follow 43 = .ok (.goto 4, 3) := by decide +kernel
theorem dX4_follow_46 : decode cX4_follow 46 = .ok (.iconst (-1), 1) := by decide +kernel
theorem dX4_follow_47 : decode cX4_follow 47 = .ok (.ireturn, 1) := by decide +kernel
theorem dX4_follow_48 : decode cX4_follow 48 = .ok (.iload_n 0, 1) := by decide +kernel
theorem dX4_follow_49 : decode cX4_follow 49 = .ok (.iconst 2, 1) := by decide +kernel
theorem dX4_follow_50 : decode cX4_follow 50 = .ok (.if_icmp .gt 9, 3) := by decide +kernel
theorem dX4_follow_53 : decode cX4_follow 53 = .ok (.iload_n 0, 1) := by decide +kernel
theorem dX4_follow_54 : decode cX4_follow 54 = .ok (.iconst 1, 1) := by decide +kernel
theorem dX4_follow_55 : decode cX4_follow 55 = .ok (.iadd, 1) := by decide +kernel
theorem dX4_follow_56 : decode cX4_follow 56 = .ok (.goto 4, 3) := by decide +kernel
theorem dX4_follow_59 : decode cX4_follow 59 = .ok (.iconst (-1), 1) := by decide +kernel
theorem dX4_follow_60 : decode cX4_follow 60 = .ok (.ireturn, 1) := by decide +kernel
theorem dX4_follow_61 : decode cX4_follow 61 = .ok (.iload_n 1, 1) := by decide +kernel
theorem dX4_follow_62 : decode cX4_follow 62 = .ok (.bipush 40, 2) := by decide +kernel
theorem dX4_follow_64 : decode cX4_follow 64 = .ok (.if_icmp .ne 24, 3) := by decide +kernel
theorem dX4_follow_67 : decode cX4_follow 67 = .ok (.iload_n 0, 1) := by decide +kernel
theorem dX4_follow_68 : decode cX4_follow 68 = .ok (.ifCond .eq 8, 3) := by decide +kernel
theorem dX4_follow_71 : decode cX4_follow 71 = .ok (.iload_n 0, 1) := by decide +kernel
theorem dX4_follow_72 : decode cX4_follow 72 = .ok (.iconst 5, 1) := by decide +kernel
theorem dX4_follow_73 : decode cX4_follow 73 = .ok (.if_icmp .ne 13, 3) := by decide +kernel
theorem dX4_follow_76 : decode cX4_follow 76 = .ok (.iload_n 2, 1) := by decide +kernel
theorem dX4_follow_77 : decode cX4_follow 77 = .ok (.bipush 6, 2) := by decide +kernel
theorem dX4_follow_79 : decode cX4_follow 79 = .ok (.if_icmp .ge 7, 3) := by decide +kernel
theorem dX4_follow_82 : decode cX4_follow 82 = .ok (.iconst 0, 1) := by decide +kernel
theorem dX4_follow_83 : decode cX4_follow 83 = .ok (.goto 4, 3) := by decide +kernel
theorem dX4_follow_86 : decode cX4_follow 86 = .ok (.iconst (-1), 1) := by decide +kernel
theorem dX4_follow_87 : decode cX4_follow 87 = .ok (.ireturn, 1) := by decide +kernel
theorem dX4_follow_88 : decode cX4_follow 88 = .ok (.iload_n 0, 1) := by decide +kernel
theorem dX4_follow_89 : decode cX4_follow 89 = .ok (.ifCond .ne 36, 3) := by decide +kernel
theorem dX4_follow_92 : decode cX4_follow 92 = .ok (.iload_n 1, 1) := by decide +kernel
theorem dX4_follow_93 : decode cX4_follow 93 = .ok (.bipush 45, 2) := by decide +kernel
theorem dX4_follow_95 : decode cX4_follow 95 = .ok (.if_icmp .ne 7, 3) := by decide +kernel
theorem dX4_follow_98 : decode cX4_follow 98 = .ok (.iconst 0, 1) := by decide +kernel
theorem dX4_follow_99 : decode cX4_follow 99 = .ok (.goto 25, 3) := by decide +kernel
theorem dX4_follow_102 : decode cX4_follow 102 = .ok (.iload_n 1, 1) := by decide +kernel
theorem dX4_follow_103 : decode cX4_follow 103 = .ok (.bipush 114, 2) := by decide +kernel
theorem dX4_follow_105 : decode cX4_follow 105 = .ok (.if_icmp .ne 7, 3) := by decide +kernel
theorem dX4_follow_108 : decode cX4_follow 108 = .ok (.iconst 5, 1) := by decide +kernel
theorem dX4_follow_109 : decode cX4_follow 109 = .ok (.goto 15, 3) := by decide +kernel
theorem dX4_follow_112 : decode cX4_follow 112 = .ok (.iload_n 1, 1) := by decide +kernel
theorem dX4_follow_113 : decode cX4_follow 113 = .ok (.invokestatic 53, 3) := by decide +kernel
theorem dX4_follow_116 : decode cX4_follow 116 = .ok (.ifCond .eq 7, 3) := by decide +kernel
theorem dX4_follow_119 : decode cX4_follow 119 = .ok (.iconst 4, 1) := by decide +kernel
theorem dX4_follow_120 : decode cX4_follow 120 = .ok (.goto 4, 3) := by decide +kernel
theorem dX4_follow_123 : decode cX4_follow 123 = .ok (.iconst (-1), 1) := by decide +kernel
theorem dX4_follow_124 : decode cX4_follow 124 = .ok (.ireturn, 1) := by decide +kernel
theorem dX4_follow_125 : decode cX4_follow 125 = .ok (.iload_n 3, 1) := by decide +kernel
theorem dX4_follow_126 : decode cX4_follow 126 = .ok (.ifCond .eq 12, 3) := by decide +kernel
theorem dX4_follow_129 : decode cX4_follow 129 = .ok (.iload_n 1, 1) := by decide +kernel
theorem dX4_follow_130 : decode cX4_follow 130 = .ok (.bipush 94, 2) := by decide +kernel
theorem dX4_follow_132 : decode cX4_follow 132 = .ok (.if_icmp .ne 6, 3) := by decide +kernel
theorem dX4_follow_135 : decode cX4_follow 135 = .ok (.bipush 6, 2) := by decide +kernel
theorem dX4_follow_137 : decode cX4_follow 137 = .ok (.ireturn, 1) := by decide +kernel
theorem dX4_follow_138 : decode cX4_follow 138 = .ok (.iload_n 3, 1) := by decide +kernel
theorem dX4_follow_139 : decode cX4_follow 139 = .ok (.ifCond .ne 9, 3) := by decide +kernel
theorem dX4_follow_142 : decode cX4_follow 142 = .ok (.iload_n 0, 1) := by decide +kernel
theorem dX4_follow_143 : decode cX4_follow 143 = .ok (.bipush 7, 2) := by decide +kernel
theorem dX4_follow_145 : decode cX4_follow 145 = .ok (.if_icmp .ne 30, 3) := by decide +kernel
theorem dX4_follow_148 : decode cX4_follow 148 = .ok (.iload_n 1, 1) := by decide +kernel
theorem dX4_follow_149 : decode cX4_follow 149 = .ok (.bipush 41, 2) := by decide +kernel
theorem dX4_follow_151 : decode cX4_follow 151 = .ok (.if_icmp .ne 11, 3) := by decide +kernel
theorem dX4_follow_154 : decode cX4_follow 154 = .ok (.iload_n 2, 1) := by decide +kernel
theorem dX4_follow_155 : decode cX4_follow 155 = .ok (.ifCond .le 7, 3) := by decide +kernel
theorem dX4_follow_158 : decode cX4_follow 158 = .ok (.iconst 4, 1) := by decide +kernel
theorem dX4_follow_159 : decode cX4_follow 159 = .ok (.goto 15, 3) := by decide +kernel
theorem dX4_follow_162 : decode cX4_follow 162 = .ok (.iload_n 1, 1) := by decide +kernel
theorem dX4_follow_163 : decode cX4_follow 163 = .ok (.invokestatic 56, 3) := by decide +kernel
theorem dX4_follow_166 : decode cX4_follow 166 = .ok (.ifCond .eq 7, 3) := by decide +kernel
theorem dX4_follow_169 : decode cX4_follow 169 = .ok (.iconst 0, 1) := by decide +kernel
theorem dX4_follow_170 : decode cX4_follow 170 = .ok (.goto 4, 3) := by decide +kernel
theorem dX4_follow_173 : decode cX4_follow 173 = .ok (.iconst (-1), 1) := by decide +kernel
theorem dX4_follow_174 : decode cX4_follow 174 = .ok (.ireturn, 1) := by decide +kernel
theorem dX4_follow_175 : decode cX4_follow 175 = .ok (.iconst (-1), 1) := by decide +kernel
theorem dX4_follow_176 : decode cX4_follow 176 = .ok (.ireturn, 1) := by decide +kernel
def fX4_follow_148 (n : Nat) (x1 : Int32) (x2 : Int32) : Option (Int32) :=
    if x1 = 41 then
      if x2 ≤ 0 then
        (fX4_isSign n x1).bind fun z6 =>
        if z6 = 0 then
          some (-1)
        else
          some 0
      else
        some 4
    else
      (fX4_isSign n x1).bind fun z2 =>
      if z2 = 0 then
        some (-1)
      else
        some 0
def fX4_follow_15 (n : Nat) (x0 : Int32) (x1 : Int32) (x2 : Int32) (s0 : Int32) : Option (Int32) :=
    (fX4_isDigit n x1).bind fun z1 =>
    if z1 = 0 then
      if x1 = 40 then
        if x0 = 0 then
          if 6 ≤ x2 then
            some (-1)
          else
            some 0
        else
          if x0 = 5 then
            if 6 ≤ x2 then
              some (-1)
            else
              some 0
          else
            some (-1)
      else
        if x0 = 0 then
          if x1 = 45 then
            some 0
          else
            if x1 = 114 then
              some 5
            else
              (fX4_isName n x1).bind fun z14 =>
              if z14 = 0 then
                some (-1)
              else
                some 4
        else
          if s0 = 0 then
            if s0 = 0 then
              if x0 = 7 then
                fX4_follow_148 n x1 x2
              else
                some (-1)
            else
              fX4_follow_148 n x1 x2
          else
            if x1 = 94 then
              some 6
            else
              if s0 = 0 then
                if x0 = 7 then
                  fX4_follow_148 n x1 x2
                else
                  some (-1)
              else
                fX4_follow_148 n x1 x2
    else
      if x0 = 6 then
        if x1 < 50 then
          some (-1)
        else
          if 53 < x1 then
            some (-1)
          else
            some 7
      else
        if 2 < x0 then
          some (-1)
        else
          some (x0 + 1)
def fX4_follow (n : Nat) (x0 : Int32) (x1 : Int32) (x2 : Int32) : Option (Int32) :=
    if x0 < 1 then
      fX4_follow_15 n x0 x1 x2 0
    else
      if 4 < x0 then
        fX4_follow_15 n x0 x1 x2 0
      else
        fX4_follow_15 n x0 x1 x2 1
set_option maxHeartbeats 4000000 in
set_option maxRecDepth 100000 in
theorem tX4_follow_148 {p : Program} {l : Launch} {e : Env} {s : State} {m : MethodId} {args : Array Value} {below : List Frame} {meth : Method} {c : Code} {z : Int32} (C0 : ez_C p s m args meth c cX4_follow (some .int) 4 RX4 (fun _ => True)) : ∀ (n : Nat) (ls : Array Slot) (x1 : Int32) (x2 : Int32), lv_has ls 4 [(1, .int x1), (2, .int x2)] → fX4_follow_148 n x1 x2 = some z → W p l e ({ frames := 1, cells := 0, slots := 0, locals := 20 } : Room) s m args below meth c s.heap [] 0 0 (MQ below (ez_Ri z) args s 0 0 (fun _ => False)) (F0 m 148 ls []) := by
  intro n
  intro ls x1 x2 hl h
  rw [fX4_follow_148] at h
  have C1 := C0
  obtain ⟨hx, hb, hr, hml, hown, hw, hlk, hA, hN⟩ := C1
  refine lv_iload_n (pc := 148) hx hb dX4_follow_148 rfl (lv_at hl 0 rfl) ?_
  refine lv_bipush (v := 41) (pc := 149) hx hb dX4_follow_149 rfl ?_
  refine lv_icmp_ne (pc := 151) (tgt := 162) hx hb dX4_follow_151 (by decide) (fun c1 => ?_) (fun c1 => ?_)
  · replace h := ez_if c1 h
    refine lv_iload_n (pc := 162) hx hb dX4_follow_162 rfl (lv_at hl 0 rfl) ?_
    replace h := ez_bd h
    obtain ⟨z2, e3, h⟩ := h
    refine ez_croI (r := z2) (pc := 163) (va_runS (g := F0 m 163 ls [.int x1]) (As := [.int x1]) (rest := []) ⟨hx, hb, hml, hown, hw⟩ (kX4_isSign l n x1 z2 e3) (va_cwS 1 hw (ez_gS mw498 mw499 mw4 mw500) rfl rfl rfl (by decide +kernel) ⟨Nat.le_of_ble_eq_true rfl, Nat.le_of_ble_eq_true rfl⟩) (ez_preRS hN) rfl rfl hl.1 rfl (lv_room (Nat.le_of_ble_eq_true rfl)) dX4_follow_163 ⟨Nat.le_refl _, Nat.le_refl _⟩) ?_
    refine lv_if_eq (pc := 166) (tgt := 173) hx hb dX4_follow_166 (by decide) (fun c4 => ?_) (fun c4 => ?_)
    · replace h := ez_it c4 h
      refine lv_iconst (v := (-1)) (pc := 173) hx hb dX4_follow_173 rfl ?_
      obtain rfl := ez_r1 h
      exact ez_rroI C0 dX4_follow_174
    · replace h := ez_if c4 h
      refine lv_iconst (v := 0) (pc := 169) hx hb dX4_follow_169 rfl ?_
      refine lv_goto (pc := 170) (tgt := 174) hx hb dX4_follow_170 (by decide) ?_
      obtain rfl := ez_r1 h
      exact ez_rroI C0 dX4_follow_174
  · replace h := ez_it c1 h
    refine lv_iload_n (pc := 154) hx hb dX4_follow_154 rfl (lv_at hl 1 rfl) ?_
    refine lv_if_le (pc := 155) (tgt := 162) hx hb dX4_follow_155 (by decide) (fun c5 => ?_) (fun c5 => ?_)
    · replace h := ez_it c5 h
      refine lv_iload_n (pc := 162) hx hb dX4_follow_162 rfl (lv_at hl 0 rfl) ?_
      replace h := ez_bd h
      obtain ⟨z6, e7, h⟩ := h
      refine ez_croI (r := z6) (pc := 163) (va_runS (g := F0 m 163 ls [.int x1]) (As := [.int x1]) (rest := []) ⟨hx, hb, hml, hown, hw⟩ (kX4_isSign l n x1 z6 e7) (va_cwS 1 hw (ez_gS mw498 mw499 mw4 mw500) rfl rfl rfl (by decide +kernel) ⟨Nat.le_of_ble_eq_true rfl, Nat.le_of_ble_eq_true rfl⟩) (ez_preRS hN) rfl rfl hl.1 rfl (lv_room (Nat.le_of_ble_eq_true rfl)) dX4_follow_163 ⟨Nat.le_refl _, Nat.le_refl _⟩) ?_
      refine lv_if_eq (pc := 166) (tgt := 173) hx hb dX4_follow_166 (by decide) (fun c8 => ?_) (fun c8 => ?_)
      · replace h := ez_it c8 h
        refine lv_iconst (v := (-1)) (pc := 173) hx hb dX4_follow_173 rfl ?_
        obtain rfl := ez_r1 h
        exact ez_rroI C0 dX4_follow_174
      · replace h := ez_if c8 h
        refine lv_iconst (v := 0) (pc := 169) hx hb dX4_follow_169 rfl ?_
        refine lv_goto (pc := 170) (tgt := 174) hx hb dX4_follow_170 (by decide) ?_
        obtain rfl := ez_r1 h
        exact ez_rroI C0 dX4_follow_174
    · replace h := ez_if c5 h
      refine lv_iconst (v := 4) (pc := 158) hx hb dX4_follow_158 rfl ?_
      refine lv_goto (pc := 159) (tgt := 174) hx hb dX4_follow_159 (by decide) ?_
      obtain rfl := ez_r1 h
      exact ez_rroI C0 dX4_follow_174
set_option maxHeartbeats 4000000 in
set_option maxRecDepth 100000 in
theorem tX4_follow_15 {p : Program} {l : Launch} {e : Env} {s : State} {m : MethodId} {args : Array Value} {below : List Frame} {meth : Method} {c : Code} {z : Int32} (C0 : ez_C p s m args meth c cX4_follow (some .int) 4 RX4 (fun _ => True)) : ∀ (n : Nat) (ls : Array Slot) (x0 : Int32) (x1 : Int32) (x2 : Int32) (s0 : Int32), lv_has ls 4 [(0, .int x0), (1, .int x1), (2, .int x2)] → fX4_follow_15 n x0 x1 x2 s0 = some z → W p l e ({ frames := 1, cells := 0, slots := 0, locals := 20 } : Room) s m args below meth c s.heap [] 0 0 (MQ below (ez_Ri z) args s 0 0 (fun _ => False)) (F0 m 15 ls [.int s0]) := by
  intro n
  intro ls x0 x1 x2 s0 hl h
  rw [fX4_follow_15] at h
  have C1 := C0
  obtain ⟨hx, hb, hr, hml, hown, hw, hlk, hA, hN⟩ := C1
  refine lv_istore_n (pc := 15) hx hb dX4_follow_15 rfl hl (by decide) rfl (fun ls hl => ?_)
  replace hl : lv_has ls 4 [(3, .int s0), (0, .int x0), (1, .int x1), (2, .int x2)] := hl
  refine lv_iload_n (pc := 16) hx hb dX4_follow_16 rfl (lv_at hl 2 rfl) ?_
  replace h := ez_bd h
  obtain ⟨z1, e2, h⟩ := h
  refine ez_croI (r := z1) (pc := 17) (va_runS (g := F0 m 17 ls [.int x1]) (As := [.int x1]) (rest := []) ⟨hx, hb, hml, hown, hw⟩ (kX4_isDigit l n x1 z1 e2) (va_cwS 1 hw (ez_gS mw492 mw493 mw4 mw494) rfl rfl rfl (by decide +kernel) ⟨Nat.le_of_ble_eq_true rfl, Nat.le_of_ble_eq_true rfl⟩) (ez_preRS hN) rfl rfl hl.1 rfl (lv_room (Nat.le_of_ble_eq_true rfl)) dX4_follow_17 ⟨Nat.le_refl _, Nat.le_refl _⟩) ?_
  refine lv_if_eq (pc := 20) (tgt := 61) hx hb dX4_follow_20 (by decide) (fun c3 => ?_) (fun c3 => ?_)
  · replace h := ez_it c3 h
    refine lv_iload_n (pc := 61) hx hb dX4_follow_61 rfl (lv_at hl 2 rfl) ?_
    refine lv_bipush (v := 40) (pc := 62) hx hb dX4_follow_62 rfl ?_
    refine lv_icmp_ne (pc := 64) (tgt := 88) hx hb dX4_follow_64 (by decide) (fun c4 => ?_) (fun c4 => ?_)
    · replace h := ez_if c4 h
      refine lv_iload_n (pc := 88) hx hb dX4_follow_88 rfl (lv_at hl 1 rfl) ?_
      refine lv_if_ne (pc := 89) (tgt := 125) hx hb dX4_follow_89 (by decide) (fun c5 => ?_) (fun c5 => ?_)
      · replace h := ez_if c5 h
        refine lv_iload_n (pc := 125) hx hb dX4_follow_125 rfl (lv_at hl 0 rfl) ?_
        refine lv_if_eq (pc := 126) (tgt := 138) hx hb dX4_follow_126 (by decide) (fun c6 => ?_) (fun c6 => ?_)
        · replace h := ez_it c6 h
          refine lv_iload_n (pc := 138) hx hb dX4_follow_138 rfl (lv_at hl 0 rfl) ?_
          refine lv_if_ne (pc := 139) (tgt := 148) hx hb dX4_follow_139 (by decide) (fun c7 => ?_) (fun c7 => ?_)
          · replace h := ez_if c7 h
            exact tX4_follow_148 C0  n _ x1 x2 (lv_sub hl [2, 3] rfl) h
          · replace h := ez_it c7 h
            refine lv_iload_n (pc := 142) hx hb dX4_follow_142 rfl (lv_at hl 1 rfl) ?_
            refine lv_bipush (v := 7) (pc := 143) hx hb dX4_follow_143 rfl ?_
            refine lv_icmp_ne (pc := 145) (tgt := 175) hx hb dX4_follow_145 (by decide) (fun c8 => ?_) (fun c8 => ?_)
            · replace h := ez_if c8 h
              refine lv_iconst (v := (-1)) (pc := 175) hx hb dX4_follow_175 rfl ?_
              obtain rfl := ez_r1 h
              exact ez_rroI C0 dX4_follow_176
            · replace h := ez_it c8 h
              exact tX4_follow_148 C0  n _ x1 x2 (lv_sub hl [2, 3] rfl) h
        · replace h := ez_if c6 h
          refine lv_iload_n (pc := 129) hx hb dX4_follow_129 rfl (lv_at hl 2 rfl) ?_
          refine lv_bipush (v := 94) (pc := 130) hx hb dX4_follow_130 rfl ?_
          refine lv_icmp_ne (pc := 132) (tgt := 138) hx hb dX4_follow_132 (by decide) (fun c9 => ?_) (fun c9 => ?_)
          · replace h := ez_if c9 h
            refine lv_iload_n (pc := 138) hx hb dX4_follow_138 rfl (lv_at hl 0 rfl) ?_
            refine lv_if_ne (pc := 139) (tgt := 148) hx hb dX4_follow_139 (by decide) (fun c10 => ?_) (fun c10 => ?_)
            · replace h := ez_if c10 h
              exact tX4_follow_148 C0  n _ x1 x2 (lv_sub hl [2, 3] rfl) h
            · replace h := ez_it c10 h
              refine lv_iload_n (pc := 142) hx hb dX4_follow_142 rfl (lv_at hl 1 rfl) ?_
              refine lv_bipush (v := 7) (pc := 143) hx hb dX4_follow_143 rfl ?_
              refine lv_icmp_ne (pc := 145) (tgt := 175) hx hb dX4_follow_145 (by decide) (fun c11 => ?_) (fun c11 => ?_)
              · replace h := ez_if c11 h
                refine lv_iconst (v := (-1)) (pc := 175) hx hb dX4_follow_175 rfl ?_
                obtain rfl := ez_r1 h
                exact ez_rroI C0 dX4_follow_176
              · replace h := ez_it c11 h
                exact tX4_follow_148 C0  n _ x1 x2 (lv_sub hl [2, 3] rfl) h
          · replace h := ez_it c9 h
            refine lv_bipush (v := 6) (pc := 135) hx hb dX4_follow_135 rfl ?_
            obtain rfl := ez_r1 h
            exact ez_rroI C0 dX4_follow_137
      · replace h := ez_it c5 h
        refine lv_iload_n (pc := 92) hx hb dX4_follow_92 rfl (lv_at hl 2 rfl) ?_
        refine lv_bipush (v := 45) (pc := 93) hx hb dX4_follow_93 rfl ?_
        refine lv_icmp_ne (pc := 95) (tgt := 102) hx hb dX4_follow_95 (by decide) (fun c12 => ?_) (fun c12 => ?_)
        · replace h := ez_if c12 h
          refine lv_iload_n (pc := 102) hx hb dX4_follow_102 rfl (lv_at hl 2 rfl) ?_
          refine lv_bipush (v := 114) (pc := 103) hx hb dX4_follow_103 rfl ?_
          refine lv_icmp_ne (pc := 105) (tgt := 112) hx hb dX4_follow_105 (by decide) (fun c13 => ?_) (fun c13 => ?_)
          · replace h := ez_if c13 h
            refine lv_iload_n (pc := 112) hx hb dX4_follow_112 rfl (lv_at hl 2 rfl) ?_
            replace h := ez_bd h
            obtain ⟨z14, e15, h⟩ := h
            refine ez_croI (r := z14) (pc := 113) (va_runS (g := F0 m 113 ls [.int x1]) (As := [.int x1]) (rest := []) ⟨hx, hb, hml, hown, hw⟩ (kX4_isName l n x1 z14 e15) (va_cwS 1 hw (ez_gS mw495 mw496 mw4 mw497) rfl rfl rfl (by decide +kernel) ⟨Nat.le_of_ble_eq_true rfl, Nat.le_of_ble_eq_true rfl⟩) (ez_preRS hN) rfl rfl hl.1 rfl (lv_room (Nat.le_of_ble_eq_true rfl)) dX4_follow_113 ⟨Nat.le_refl _, Nat.le_refl _⟩) ?_
            refine lv_if_eq (pc := 116) (tgt := 123) hx hb dX4_follow_116 (by decide) (fun c16 => ?_) (fun c16 => ?_)
            · replace h := ez_it c16 h
              refine lv_iconst (v := (-1)) (pc := 123) hx hb dX4_follow_123 rfl ?_
              obtain rfl := ez_r1 h
              exact ez_rroI C0 dX4_follow_124
            · replace h := ez_if c16 h
              refine lv_iconst (v := 4) (pc := 119) hx hb dX4_follow_119 rfl ?_
              refine lv_goto (pc := 120) (tgt := 124) hx hb dX4_follow_120 (by decide) ?_
              obtain rfl := ez_r1 h
              exact ez_rroI C0 dX4_follow_124
          · replace h := ez_it c13 h
            refine lv_iconst (v := 5) (pc := 108) hx hb dX4_follow_108 rfl ?_
            refine lv_goto (pc := 109) (tgt := 124) hx hb dX4_follow_109 (by decide) ?_
            obtain rfl := ez_r1 h
            exact ez_rroI C0 dX4_follow_124
        · replace h := ez_it c12 h
          refine lv_iconst (v := 0) (pc := 98) hx hb dX4_follow_98 rfl ?_
          refine lv_goto (pc := 99) (tgt := 124) hx hb dX4_follow_99 (by decide) ?_
          obtain rfl := ez_r1 h
          exact ez_rroI C0 dX4_follow_124
    · replace h := ez_it c4 h
      refine lv_iload_n (pc := 67) hx hb dX4_follow_67 rfl (lv_at hl 1 rfl) ?_
      refine lv_if_eq (pc := 68) (tgt := 76) hx hb dX4_follow_68 (by decide) (fun c17 => ?_) (fun c17 => ?_)
      · replace h := ez_it c17 h
        refine lv_iload_n (pc := 76) hx hb dX4_follow_76 rfl (lv_at hl 3 rfl) ?_
        refine lv_bipush (v := 6) (pc := 77) hx hb dX4_follow_77 rfl ?_
        refine lv_icmp_ge (pc := 79) (tgt := 86) hx hb dX4_follow_79 (by decide) (fun c18 => ?_) (fun c18 => ?_)
        · replace h := ez_it c18 h
          refine lv_iconst (v := (-1)) (pc := 86) hx hb dX4_follow_86 rfl ?_
          obtain rfl := ez_r1 h
          exact ez_rroI C0 dX4_follow_87
        · replace h := ez_if c18 h
          refine lv_iconst (v := 0) (pc := 82) hx hb dX4_follow_82 rfl ?_
          refine lv_goto (pc := 83) (tgt := 87) hx hb dX4_follow_83 (by decide) ?_
          obtain rfl := ez_r1 h
          exact ez_rroI C0 dX4_follow_87
      · replace h := ez_if c17 h
        refine lv_iload_n (pc := 71) hx hb dX4_follow_71 rfl (lv_at hl 1 rfl) ?_
        refine lv_iconst (v := 5) (pc := 72) hx hb dX4_follow_72 rfl ?_
        refine lv_icmp_ne (pc := 73) (tgt := 86) hx hb dX4_follow_73 (by decide) (fun c19 => ?_) (fun c19 => ?_)
        · replace h := ez_if c19 h
          refine lv_iconst (v := (-1)) (pc := 86) hx hb dX4_follow_86 rfl ?_
          obtain rfl := ez_r1 h
          exact ez_rroI C0 dX4_follow_87
        · replace h := ez_it c19 h
          refine lv_iload_n (pc := 76) hx hb dX4_follow_76 rfl (lv_at hl 3 rfl) ?_
          refine lv_bipush (v := 6) (pc := 77) hx hb dX4_follow_77 rfl ?_
          refine lv_icmp_ge (pc := 79) (tgt := 86) hx hb dX4_follow_79 (by decide) (fun c20 => ?_) (fun c20 => ?_)
          · replace h := ez_it c20 h
            refine lv_iconst (v := (-1)) (pc := 86) hx hb dX4_follow_86 rfl ?_
            obtain rfl := ez_r1 h
            exact ez_rroI C0 dX4_follow_87
          · replace h := ez_if c20 h
            refine lv_iconst (v := 0) (pc := 82) hx hb dX4_follow_82 rfl ?_
            refine lv_goto (pc := 83) (tgt := 87) hx hb dX4_follow_83 (by decide) ?_
            obtain rfl := ez_r1 h
            exact ez_rroI C0 dX4_follow_87
  · replace h := ez_if c3 h
    refine lv_iload_n (pc := 23) hx hb dX4_follow_23 rfl (lv_at hl 1 rfl) ?_
    refine lv_bipush (v := 6) (pc := 24) hx hb dX4_follow_24 rfl ?_
    refine lv_icmp_ne (pc := 26) (tgt := 48) hx hb dX4_follow_26 (by decide) (fun c21 => ?_) (fun c21 => ?_)
    · replace h := ez_if c21 h
      refine lv_iload_n (pc := 48) hx hb dX4_follow_48 rfl (lv_at hl 1 rfl) ?_
      refine lv_iconst (v := 2) (pc := 49) hx hb dX4_follow_49 rfl ?_
      refine lv_icmp_gt (pc := 50) (tgt := 59) hx hb dX4_follow_50 (by decide) (fun c22 => ?_) (fun c22 => ?_)
      · replace h := ez_it c22 h
        refine lv_iconst (v := (-1)) (pc := 59) hx hb dX4_follow_59 rfl ?_
        obtain rfl := ez_r1 h
        exact ez_rroI C0 dX4_follow_60
      · replace h := ez_if c22 h
        refine lv_iload_n (pc := 53) hx hb dX4_follow_53 rfl (lv_at hl 1 rfl) ?_
        refine lv_iconst (v := 1) (pc := 54) hx hb dX4_follow_54 rfl ?_
        refine lv_iadd (pc := 55) hx hb dX4_follow_55 ?_
        refine lv_goto (pc := 56) (tgt := 60) hx hb dX4_follow_56 (by decide) ?_
        obtain rfl := ez_r1 h
        exact ez_rroI C0 dX4_follow_60
    · replace h := ez_it c21 h
      refine lv_iload_n (pc := 29) hx hb dX4_follow_29 rfl (lv_at hl 2 rfl) ?_
      refine lv_bipush (v := 50) (pc := 30) hx hb dX4_follow_30 rfl ?_
      refine lv_icmp_lt (pc := 32) (tgt := 46) hx hb dX4_follow_32 (by decide) (fun c23 => ?_) (fun c23 => ?_)
      · replace h := ez_it c23 h
        refine lv_iconst (v := (-1)) (pc := 46) hx hb dX4_follow_46 rfl ?_
        obtain rfl := ez_r1 h
        exact ez_rroI C0 dX4_follow_47
      · replace h := ez_if c23 h
        refine lv_iload_n (pc := 35) hx hb dX4_follow_35 rfl (lv_at hl 2 rfl) ?_
        refine lv_bipush (v := 53) (pc := 36) hx hb dX4_follow_36 rfl ?_
        refine lv_icmp_gt (pc := 38) (tgt := 46) hx hb dX4_follow_38 (by decide) (fun c24 => ?_) (fun c24 => ?_)
        · replace h := ez_it c24 h
          refine lv_iconst (v := (-1)) (pc := 46) hx hb dX4_follow_46 rfl ?_
          obtain rfl := ez_r1 h
          exact ez_rroI C0 dX4_follow_47
        · replace h := ez_if c24 h
          refine lv_bipush (v := 7) (pc := 41) hx hb dX4_follow_41 rfl ?_
          refine lv_goto (pc := 43) (tgt := 47) hx hb dX4_follow_43 (by decide) ?_
          obtain rfl := ez_r1 h
          exact ez_rroI C0 dX4_follow_47
set_option maxHeartbeats 4000000 in
set_option maxRecDepth 100000 in
theorem tX4_follow_0 {p : Program} {l : Launch} {e : Env} {s : State} {m : MethodId} {args : Array Value} {below : List Frame} {meth : Method} {c : Code} {z : Int32} (C0 : ez_C p s m args meth c cX4_follow (some .int) 4 RX4 (fun _ => True)) : ∀ (n : Nat) (ls : Array Slot) (x0 : Int32) (x1 : Int32) (x2 : Int32), lv_has ls 4 [(0, .int x0), (1, .int x1), (2, .int x2)] → fX4_follow n x0 x1 x2 = some z → W p l e ({ frames := 1, cells := 0, slots := 0, locals := 20 } : Room) s m args below meth c s.heap [] 0 0 (MQ below (ez_Ri z) args s 0 0 (fun _ => False)) (F0 m 0 ls []) := by
  intro n
  intro ls x0 x1 x2 hl h
  rw [fX4_follow] at h
  have C1 := C0
  obtain ⟨hx, hb, hr, hml, hown, hw, hlk, hA, hN⟩ := C1
  refine lv_iload_n (pc := 0) hx hb dX4_follow_0 rfl (lv_at hl 0 rfl) ?_
  refine lv_iconst (v := 1) (pc := 1) hx hb dX4_follow_1 rfl ?_
  refine lv_icmp_lt (pc := 2) (tgt := 14) hx hb dX4_follow_2 (by decide) (fun c1 => ?_) (fun c1 => ?_)
  · replace h := ez_it c1 h
    refine lv_iconst (v := 0) (pc := 14) hx hb dX4_follow_14 rfl ?_
    exact tX4_follow_15 C0  n _ x0 x1 x2 0 (lv_sub hl [0, 1, 2] rfl) h
  · replace h := ez_if c1 h
    refine lv_iload_n (pc := 5) hx hb dX4_follow_5 rfl (lv_at hl 0 rfl) ?_
    refine lv_iconst (v := 4) (pc := 6) hx hb dX4_follow_6 rfl ?_
    refine lv_icmp_gt (pc := 7) (tgt := 14) hx hb dX4_follow_7 (by decide) (fun c2 => ?_) (fun c2 => ?_)
    · replace h := ez_it c2 h
      refine lv_iconst (v := 0) (pc := 14) hx hb dX4_follow_14 rfl ?_
      exact tX4_follow_15 C0  n _ x0 x1 x2 0 (lv_sub hl [0, 1, 2] rfl) h
    · replace h := ez_if c2 h
      refine lv_iconst (v := 1) (pc := 10) hx hb dX4_follow_10 rfl ?_
      refine lv_goto (pc := 11) (tgt := 15) hx hb dX4_follow_11 (by decide) ?_
      exact tX4_follow_15 C0  n _ x0 x1 x2 1 (lv_sub hl [0, 1, 2] rfl) h
set_option maxRecDepth 100000 in
theorem kX4_follow (l : Launch) (n : Nat) (x0 : Int32) (x1 : Int32) (x2 : Int32) (z : Int32) (h : fX4_follow n x0 x1 x2 = some z) : Met l yX4_follow wsX4_follow ({ frames := 1, cells := 0, slots := 0, locals := 20 } : Room) (ez_Sc [.int x0, .int x1, .int x2]) (ez_Ri z) 0 0 (fun _ => False) :=
  ez_mkS (by decide +kernel) rfl (Nat.le_of_ble_eq_true rfl) (fun p e s m below meth c ls C0 hl => tX4_follow_0 C0 n ls x0 x1 x2 (lv_sub (l := [(0, .int x0), (1, .int x1), (2, .int x2)]) hl [0, 1, 2] rfl) h)
/-! EnclosureCalculatorModel hold -/
theorem dX4_hold_0 : decode cX4_hold 0 = .ok (.iload_n 0, 1) := by decide +kernel
theorem dX4_hold_1 : decode cX4_hold 1 = .ok (.iconst 1, 1) := by decide +kernel
theorem dX4_hold_2 : decode cX4_hold 2 = .ok (.if_icmp .ne 7, 3) := by decide +kernel
theorem dX4_hold_5 : decode cX4_hold 5 = .ok (.iconst 3, 1) := by decide +kernel
theorem dX4_hold_6 : decode cX4_hold 6 = .ok (.goto 36, 3) := by decide +kernel
theorem dX4_hold_9 : decode cX4_hold 9 = .ok (.iload_n 0, 1) := by decide +kernel
theorem dX4_hold_10 : decode cX4_hold 10 = .ok (.bipush 42, 2) := by decide +kernel
theorem dX4_hold_12 : decode cX4_hold 12 = .ok (.if_icmp .eq 9, 3) := by decide +kernel
theorem dX4_hold_15 : decode cX4_hold 15 = .ok (.iload_n 0, 1) := by decide +kernel
theorem dX4_hold_16 : decode cX4_hold 16 = .ok (.bipush 47, 2) := by decide +kernel
theorem dX4_hold_18 : decode cX4_hold 18 = .ok (.if_icmp .ne 7, 3) := by decide +kernel
theorem dX4_hold_21 : decode cX4_hold 21 = .ok (.iconst 2, 1) := by decide +kernel
theorem dX4_hold_22 : decode cX4_hold 22 = .ok (.goto 20, 3) := by decide +kernel
theorem dX4_hold_25 : decode cX4_hold 25 = .ok (.iload_n 0, 1) := by decide +kernel
theorem dX4_hold_26 : decode cX4_hold 26 = .ok (.bipush 43, 2) := by decide +kernel
theorem dX4_hold_28 : decode cX4_hold 28 = .ok (.if_icmp .eq 9, 3) := by decide +kernel
theorem dX4_hold_31 : decode cX4_hold 31 = .ok (.iload_n 0, 1) := by decide +kernel
theorem dX4_hold_32 : decode cX4_hold 32 = .ok (.bipush 45, 2) := by decide +kernel
theorem dX4_hold_34 : decode cX4_hold 34 = .ok (.if_icmp .ne 7, 3) := by decide +kernel
theorem dX4_hold_37 : decode cX4_hold 37 = .ok (.iconst 1, 1) := by decide +kernel
theorem dX4_hold_38 : decode cX4_hold 38 = .ok (.goto 4, 3) := by decide +kernel
theorem dX4_hold_41 : decode cX4_hold 41 = .ok (.iconst 0, 1) := by decide +kernel
theorem dX4_hold_42 : decode cX4_hold 42 = .ok (.ireturn, 1) := by decide +kernel
def fX4_hold (n : Nat) (x0 : Int32) : Option (Int32) :=
    if x0 = 1 then
      some 3
    else
      if x0 = 42 then
        some 2
      else
        if x0 = 47 then
          some 2
        else
          if x0 = 43 then
            some 1
          else
            if x0 = 45 then
              some 1
            else
              some 0
set_option maxHeartbeats 4000000 in
set_option maxRecDepth 100000 in
theorem tX4_hold_0 {p : Program} {l : Launch} {e : Env} {s : State} {m : MethodId} {args : Array Value} {below : List Frame} {meth : Method} {c : Code} {z : Int32} (C0 : ez_C p s m args meth c cX4_hold (some .int) 1 RX4 (fun _ => True)) : ∀ (n : Nat) (ls : Array Slot) (x0 : Int32), lv_has ls 1 [(0, .int x0)] → fX4_hold n x0 = some z → W p l e ({ frames := 0, cells := 0, slots := 0, locals := 0 } : Room) s m args below meth c s.heap [] 0 0 (MQ below (ez_Ri z) args s 0 0 (fun _ => False)) (F0 m 0 ls []) := by
  intro n
  intro ls x0 hl h
  rw [fX4_hold] at h
  have C1 := C0
  obtain ⟨hx, hb, hr, hml, hown, hw, hlk, hA, hN⟩ := C1
  refine lv_iload_n (pc := 0) hx hb dX4_hold_0 rfl (lv_at hl 0 rfl) ?_
  refine lv_iconst (v := 1) (pc := 1) hx hb dX4_hold_1 rfl ?_
  refine lv_icmp_ne (pc := 2) (tgt := 9) hx hb dX4_hold_2 (by decide) (fun c1 => ?_) (fun c1 => ?_)
  · replace h := ez_if c1 h
    refine lv_iload_n (pc := 9) hx hb dX4_hold_9 rfl (lv_at hl 0 rfl) ?_
    refine lv_bipush (v := 42) (pc := 10) hx hb dX4_hold_10 rfl ?_
    refine lv_icmp_eq (pc := 12) (tgt := 21) hx hb dX4_hold_12 (by decide) (fun c2 => ?_) (fun c2 => ?_)
    · replace h := ez_it c2 h
      refine lv_iconst (v := 2) (pc := 21) hx hb dX4_hold_21 rfl ?_
      refine lv_goto (pc := 22) (tgt := 42) hx hb dX4_hold_22 (by decide) ?_
      obtain rfl := ez_r1 h
      exact ez_rroI C0 dX4_hold_42
    · replace h := ez_if c2 h
      refine lv_iload_n (pc := 15) hx hb dX4_hold_15 rfl (lv_at hl 0 rfl) ?_
      refine lv_bipush (v := 47) (pc := 16) hx hb dX4_hold_16 rfl ?_
      refine lv_icmp_ne (pc := 18) (tgt := 25) hx hb dX4_hold_18 (by decide) (fun c3 => ?_) (fun c3 => ?_)
      · replace h := ez_if c3 h
        refine lv_iload_n (pc := 25) hx hb dX4_hold_25 rfl (lv_at hl 0 rfl) ?_
        refine lv_bipush (v := 43) (pc := 26) hx hb dX4_hold_26 rfl ?_
        refine lv_icmp_eq (pc := 28) (tgt := 37) hx hb dX4_hold_28 (by decide) (fun c4 => ?_) (fun c4 => ?_)
        · replace h := ez_it c4 h
          refine lv_iconst (v := 1) (pc := 37) hx hb dX4_hold_37 rfl ?_
          refine lv_goto (pc := 38) (tgt := 42) hx hb dX4_hold_38 (by decide) ?_
          obtain rfl := ez_r1 h
          exact ez_rroI C0 dX4_hold_42
        · replace h := ez_if c4 h
          refine lv_iload_n (pc := 31) hx hb dX4_hold_31 rfl (lv_at hl 0 rfl) ?_
          refine lv_bipush (v := 45) (pc := 32) hx hb dX4_hold_32 rfl ?_
          refine lv_icmp_ne (pc := 34) (tgt := 41) hx hb dX4_hold_34 (by decide) (fun c5 => ?_) (fun c5 => ?_)
          · replace h := ez_if c5 h
            refine lv_iconst (v := 0) (pc := 41) hx hb dX4_hold_41 rfl ?_
            obtain rfl := ez_r1 h
            exact ez_rroI C0 dX4_hold_42
          · replace h := ez_it c5 h
            refine lv_iconst (v := 1) (pc := 37) hx hb dX4_hold_37 rfl ?_
            refine lv_goto (pc := 38) (tgt := 42) hx hb dX4_hold_38 (by decide) ?_
            obtain rfl := ez_r1 h
            exact ez_rroI C0 dX4_hold_42
      · replace h := ez_it c3 h
        refine lv_iconst (v := 2) (pc := 21) hx hb dX4_hold_21 rfl ?_
        refine lv_goto (pc := 22) (tgt := 42) hx hb dX4_hold_22 (by decide) ?_
        obtain rfl := ez_r1 h
        exact ez_rroI C0 dX4_hold_42
  · replace h := ez_it c1 h
    refine lv_iconst (v := 3) (pc := 5) hx hb dX4_hold_5 rfl ?_
    refine lv_goto (pc := 6) (tgt := 42) hx hb dX4_hold_6 (by decide) ?_
    obtain rfl := ez_r1 h
    exact ez_rroI C0 dX4_hold_42
set_option maxRecDepth 100000 in
theorem kX4_hold (l : Launch) (n : Nat) (x0 : Int32) (z : Int32) (h : fX4_hold n x0 = some z) : Met l yX4_hold wsX4_hold ({ frames := 0, cells := 0, slots := 0, locals := 0 } : Room) (ez_Sc [.int x0]) (ez_Ri z) 0 0 (fun _ => False) :=
  ez_mkS (by decide +kernel) rfl (Nat.le_of_ble_eq_true rfl) (fun p e s m below meth c ls C0 hl => tX4_hold_0 C0 n ls x0 (lv_sub (l := [(0, .int x0)]) hl [0] rfl) h)
/-! EnclosureCalculatorModel inRange -/
theorem dX4_inRange_0 : decode cX4_inRange 0 = .ok (.iload_n 0, 1) := by decide +kernel
theorem dX4_inRange_1 : decode cX4_inRange 1 = .ok (.ifCond .lt 24, 3) := by decide +kernel
theorem dX4_inRange_4 : decode cX4_inRange 4 = .ok (.iload_n 0, 1) := by decide +kernel
theorem dX4_inRange_5 : decode cX4_inRange 5 = .ok (.bipush 16, 2) := by decide +kernel
theorem dX4_inRange_7 : decode cX4_inRange 7 = .ok (.if_icmp .gt 18, 3) := by decide +kernel
theorem dX4_inRange_10 : decode cX4_inRange 10 = .ok (.iload_n 1, 1) := by decide +kernel
theorem dX4_inRange_11 : decode cX4_inRange 11 = .ok (.iconst 1, 1) := by decide +kernel
theorem dX4_inRange_12 : decode cX4_inRange 12 = .ok (.if_icmp .lt 13, 3) := by decide +kernel
theorem dX4_inRange_15 : decode cX4_inRange 15 = .ok (.iload_n 1, 1) := by decide +kernel
theorem dX4_inRange_16 : decode cX4_inRange 16 = .ok (.bipush 20, 2) := by decide +kernel
theorem dX4_inRange_18 : decode cX4_inRange 18 = .ok (.if_icmp .gt 7, 3) := by decide +kernel
theorem dX4_inRange_21 : decode cX4_inRange 21 = .ok (.iconst 1, 1) := by decide +kernel
theorem dX4_inRange_22 : decode cX4_inRange 22 = .ok (.goto 4, 3) := by decide +kernel
theorem dX4_inRange_25 : decode cX4_inRange 25 = .ok (.iconst 0, 1) := by decide +kernel
theorem dX4_inRange_26 : decode cX4_inRange 26 = .ok (.ireturn, 1) := by decide +kernel
def fX4_inRange (n : Nat) (x0 : Int32) (x1 : Int32) : Option (Int32) :=
    if x0 < 0 then
      some 0
    else
      if 16 < x0 then
        some 0
      else
        if x1 < 1 then
          some 0
        else
          if 20 < x1 then
            some 0
          else
            some 1
set_option maxHeartbeats 4000000 in
set_option maxRecDepth 100000 in
theorem tX4_inRange_0 {p : Program} {l : Launch} {e : Env} {s : State} {m : MethodId} {args : Array Value} {below : List Frame} {meth : Method} {c : Code} {z : Int32} (C0 : ez_C p s m args meth c cX4_inRange (some .boolean) 2 RX4 (fun _ => True)) : ∀ (n : Nat) (ls : Array Slot) (x0 : Int32) (x1 : Int32), lv_has ls 2 [(0, .int x0), (1, .int x1)] → fX4_inRange n x0 x1 = some z → W p l e ({ frames := 0, cells := 0, slots := 0, locals := 0 } : Room) s m args below meth c s.heap [] 0 0 (MQ below (ez_Ri z) args s 0 0 (fun _ => False)) (F0 m 0 ls []) := by
  intro n
  intro ls x0 x1 hl h
  rw [fX4_inRange] at h
  have C1 := C0
  obtain ⟨hx, hb, hr, hml, hown, hw, hlk, hA, hN⟩ := C1
  refine lv_iload_n (pc := 0) hx hb dX4_inRange_0 rfl (lv_at hl 0 rfl) ?_
  refine lv_if_lt (pc := 1) (tgt := 25) hx hb dX4_inRange_1 (by decide) (fun c1 => ?_) (fun c1 => ?_)
  · replace h := ez_it c1 h
    refine lv_iconst (v := 0) (pc := 25) hx hb dX4_inRange_25 rfl ?_
    obtain rfl := ez_r1 h
    exact ez_rroZ C0 (rfl) dX4_inRange_26
  · replace h := ez_if c1 h
    refine lv_iload_n (pc := 4) hx hb dX4_inRange_4 rfl (lv_at hl 0 rfl) ?_
    refine lv_bipush (v := 16) (pc := 5) hx hb dX4_inRange_5 rfl ?_
    refine lv_icmp_gt (pc := 7) (tgt := 25) hx hb dX4_inRange_7 (by decide) (fun c2 => ?_) (fun c2 => ?_)
    · replace h := ez_it c2 h
      refine lv_iconst (v := 0) (pc := 25) hx hb dX4_inRange_25 rfl ?_
      obtain rfl := ez_r1 h
      exact ez_rroZ C0 (rfl) dX4_inRange_26
    · replace h := ez_if c2 h
      refine lv_iload_n (pc := 10) hx hb dX4_inRange_10 rfl (lv_at hl 1 rfl) ?_
      refine lv_iconst (v := 1) (pc := 11) hx hb dX4_inRange_11 rfl ?_
      refine lv_icmp_lt (pc := 12) (tgt := 25) hx hb dX4_inRange_12 (by decide) (fun c3 => ?_) (fun c3 => ?_)
      · replace h := ez_it c3 h
        refine lv_iconst (v := 0) (pc := 25) hx hb dX4_inRange_25 rfl ?_
        obtain rfl := ez_r1 h
        exact ez_rroZ C0 (rfl) dX4_inRange_26
      · replace h := ez_if c3 h
        refine lv_iload_n (pc := 15) hx hb dX4_inRange_15 rfl (lv_at hl 1 rfl) ?_
        refine lv_bipush (v := 20) (pc := 16) hx hb dX4_inRange_16 rfl ?_
        refine lv_icmp_gt (pc := 18) (tgt := 25) hx hb dX4_inRange_18 (by decide) (fun c4 => ?_) (fun c4 => ?_)
        · replace h := ez_it c4 h
          refine lv_iconst (v := 0) (pc := 25) hx hb dX4_inRange_25 rfl ?_
          obtain rfl := ez_r1 h
          exact ez_rroZ C0 (rfl) dX4_inRange_26
        · replace h := ez_if c4 h
          refine lv_iconst (v := 1) (pc := 21) hx hb dX4_inRange_21 rfl ?_
          refine lv_goto (pc := 22) (tgt := 26) hx hb dX4_inRange_22 (by decide) ?_
          obtain rfl := ez_r1 h
          exact ez_rroZ C0 (rfl) dX4_inRange_26
set_option maxRecDepth 100000 in
theorem kX4_inRange (l : Launch) (n : Nat) (x0 : Int32) (x1 : Int32) (z : Int32) (h : fX4_inRange n x0 x1 = some z) : Met l yX4_inRange wsX4_inRange ({ frames := 0, cells := 0, slots := 0, locals := 0 } : Room) (ez_Sc [.int x0, .int x1]) (ez_Ri z) 0 0 (fun _ => False) :=
  ez_mkS (by decide +kernel) rfl (Nat.le_of_ble_eq_true rfl) (fun p e s m below meth c ls C0 hl => tX4_inRange_0 C0 n ls x0 x1 (lv_sub (l := [(0, .int x0), (1, .int x1)]) hl [0, 1] rfl) h)
/-! EnclosureCalculatorModel floorOf -/
theorem dX4_floorOf_0 : decode cX4_floorOf 0 = .ok (.lload_n 0, 1) := by decide +kernel
theorem dX4_floorOf_1 : decode cX4_floorOf 1 = .ok (.lload_n 2, 1) := by decide +kernel
theorem dX4_floorOf_2 : decode cX4_floorOf 2 = .ok (.ldiv, 1) := by decide +kernel
theorem dX4_floorOf_3 : decode cX4_floorOf 3 = .ok (.lstore 4, 2) := by decide +kernel
theorem dX4_floorOf_5 : decode cX4_floorOf 5 = .ok (.lload_n 0, 1) := by decide +kernel
theorem dX4_floorOf_6 : decode cX4_floorOf 6 = .ok (.lload_n 2, 1) := by decide +kernel
theorem dX4_floorOf_7 : decode cX4_floorOf 7 = .ok (.lrem, 1) := by decide +kernel
theorem dX4_floorOf_8 : decode cX4_floorOf 8 = .ok (.lconst 0, 1) := by decide +kernel
theorem dX4_floorOf_9 : decode cX4_floorOf 9 = .ok (.lcmp, 1) := by decide +kernel
theorem dX4_floorOf_10 : decode cX4_floorOf 10 = .ok (.ifCond .eq 32, 3) := by decide +kernel
theorem dX4_floorOf_13 : decode cX4_floorOf 13 = .ok (.lload_n 0, 1) := by decide +kernel
theorem dX4_floorOf_14 : decode cX4_floorOf 14 = .ok (.lconst 0, 1) := by decide +kernel
theorem dX4_floorOf_15 : decode cX4_floorOf 15 = .ok (.lcmp, 1) := by decide +kernel
theorem dX4_floorOf_16 : decode cX4_floorOf 16 = .ok (.ifCond .ge 7, 3) := by decide +kernel
theorem dX4_floorOf_19 : decode cX4_floorOf 19 = .ok (.iconst 1, 1) := by decide +kernel
theorem dX4_floorOf_20 : decode cX4_floorOf 20 = .ok (.goto 4, 3) := by decide +kernel
theorem dX4_floorOf_23 : decode cX4_floorOf 23 = .ok (.iconst 0, 1) := by decide +kernel
theorem dX4_floorOf_24 : decode cX4_floorOf 24 = .ok (.lload_n 2, 1) := by decide +kernel
theorem dX4_floorOf_25 : decode cX4_floorOf 25 = .ok (.lconst 0, 1) := by decide +kernel
theorem dX4_floorOf_26 : decode cX4_floorOf 26 = .ok (.lcmp, 1) := by decide +kernel
theorem dX4_floorOf_27 : decode cX4_floorOf 27 = .ok (.ifCond .ge 7, 3) := by decide +kernel
theorem dX4_floorOf_30 : decode cX4_floorOf 30 = .ok (.iconst 1, 1) := by decide +kernel
theorem dX4_floorOf_31 : decode cX4_floorOf 31 = .ok (.goto 4, 3) := by decide +kernel
theorem dX4_floorOf_34 : decode cX4_floorOf 34 = .ok (.iconst 0, 1) := by decide +kernel
theorem dX4_floorOf_35 : decode cX4_floorOf 35 = .ok (.if_icmp .eq 7, 3) := by decide +kernel
theorem dX4_floorOf_38 : decode cX4_floorOf 38 = .ok (.iconst 1, 1) := by decide +kernel
theorem dX4_floorOf_39 : decode cX4_floorOf 39 = .ok (.goto 4, 3) := by decide +kernel
theorem dX4_floorOf_42 : decode cX4_floorOf 42 = .ok (.iconst 0, 1) := by decide +kernel
theorem dX4_floorOf_43 : decode cX4_floorOf 43 = .ok (.istore 6, 2) := by decide +kernel
theorem dX4_floorOf_45 : decode cX4_floorOf 45 = .ok (.iload 6, 2) := by decide +kernel
theorem dX4_floorOf_47 : decode cX4_floorOf 47 = .ok (.ifCond .eq 10, 3) := by decide +kernel
theorem dX4_floorOf_50 : decode cX4_floorOf 50 = .ok (.lload 4, 2) := by decide +kernel
theorem dX4_floorOf_52 : decode cX4_floorOf 52 = .ok (.lconst 1, 1) := by decide +kernel
theorem dX4_floorOf_53 : decode cX4_floorOf 53 = .ok (.lsub, 1) := by decide +kernel
theorem dX4_floorOf_54 : decode cX4_floorOf 54 = .ok (.goto 5, 3) := by decide +kernel
theorem dX4_floorOf_57 : decode cX4_floorOf 57 = .ok (.lload 4, 2) := by decide +kernel
theorem dX4_floorOf_59 : decode cX4_floorOf 59 = .ok (.lreturn, 1) := by decide +kernel
def fX4_floorOf_35 (n : Nat) (x4 : Int64) (s0 : Int32) (s1 : Int32) : Option (Int64) :=
    if s1 = s0 then
      some x4
    else
      some (x4 - 1)
def fX4_floorOf (n : Nat) (x0 : Int64) (x2 : Int64) : Option (Int64) :=
    (ez_nz x2).bind fun _ =>
    (ez_nz x2).bind fun _ =>
    if (lg_cmp (x0 - x0 / x2 * x2) 0) = 0 then
      some (x0 / x2)
    else
      if 0 ≤ (lg_cmp x0 0) then
        if 0 ≤ (lg_cmp x2 0) then
          fX4_floorOf_35 n (x0 / x2) 0 0
        else
          fX4_floorOf_35 n (x0 / x2) 1 0
      else
        if 0 ≤ (lg_cmp x2 0) then
          fX4_floorOf_35 n (x0 / x2) 0 1
        else
          fX4_floorOf_35 n (x0 / x2) 1 1
set_option maxHeartbeats 4000000 in
set_option maxRecDepth 100000 in
theorem tX4_floorOf_35 {p : Program} {l : Launch} {e : Env} {s : State} {m : MethodId} {args : Array Value} {below : List Frame} {meth : Method} {c : Code} {z : Int64} (C0 : ez_C p s m args meth c cX4_floorOf (some .long) 7 RX4 (fun _ => True)) : ∀ (n : Nat) (ls : Array Slot) (x4 : Int64) (s0 : Int32) (s1 : Int32), lv_has ls 7 [(4, .long x4)] → fX4_floorOf_35 n x4 s0 s1 = some z → W p l e ({ frames := 0, cells := 0, slots := 0, locals := 0 } : Room) s m args below meth c s.heap [] 0 0 (MQ below (ez_Rl z) args s 0 0 (fun _ => False)) (F0 m 35 ls [.int s0, .int s1]) := by
  intro n
  intro ls x4 s0 s1 hl h
  rw [fX4_floorOf_35] at h
  have C1 := C0
  obtain ⟨hx, hb, hr, hml, hown, hw, hlk, hA, hN⟩ := C1
  refine lv_icmp_eq (pc := 35) (tgt := 42) hx hb dX4_floorOf_35 (by decide) (fun c1 => ?_) (fun c1 => ?_)
  · replace h := ez_it c1 h
    refine lv_iconst (v := 0) (pc := 42) hx hb dX4_floorOf_42 rfl ?_
    refine lv_istore (pc := 43) hx hb dX4_floorOf_43 hl (by decide) rfl (fun ls hl => ?_)
    replace hl : lv_has ls 7 [(6, .int 0), (4, .long x4)] := hl
    refine lv_iload (pc := 45) hx hb dX4_floorOf_45 (lv_at hl 0 rfl) ?_
    refine lv_if_eq (pc := 47) (tgt := 57) hx hb dX4_floorOf_47 (by decide) (fun _ => ?_) (fun c2 => absurd c2 (by decide))
    refine lv_lload (pc := 57) hx hb dX4_floorOf_57 (lv_at hl 1 rfl) ?_
    obtain rfl := ez_r1 h
    exact ez_rroL C0 dX4_floorOf_59
  · replace h := ez_if c1 h
    refine lv_iconst (v := 1) (pc := 38) hx hb dX4_floorOf_38 rfl ?_
    refine lv_goto (pc := 39) (tgt := 43) hx hb dX4_floorOf_39 (by decide) ?_
    refine lv_istore (pc := 43) hx hb dX4_floorOf_43 hl (by decide) rfl (fun ls hl => ?_)
    replace hl : lv_has ls 7 [(6, .int 1), (4, .long x4)] := hl
    refine lv_iload (pc := 45) hx hb dX4_floorOf_45 (lv_at hl 0 rfl) ?_
    refine lv_if_eq (pc := 47) (tgt := 57) hx hb dX4_floorOf_47 (by decide) (fun c3 => absurd c3 (by decide)) (fun _ => ?_)
    refine lv_lload (pc := 50) hx hb dX4_floorOf_50 (lv_at hl 1 rfl) ?_
    refine lv_lconst (v := 1) (pc := 52) hx hb dX4_floorOf_52 rfl ?_
    refine lv_lsub (pc := 53) hx hb dX4_floorOf_53 ?_
    refine lv_goto (pc := 54) (tgt := 59) hx hb dX4_floorOf_54 (by decide) ?_
    obtain rfl := ez_r1 h
    exact ez_rroL C0 dX4_floorOf_59
set_option maxHeartbeats 4000000 in
set_option maxRecDepth 100000 in
theorem tX4_floorOf_0 {p : Program} {l : Launch} {e : Env} {s : State} {m : MethodId} {args : Array Value} {below : List Frame} {meth : Method} {c : Code} {z : Int64} (C0 : ez_C p s m args meth c cX4_floorOf (some .long) 7 RX4 (fun _ => True)) : ∀ (n : Nat) (ls : Array Slot) (x0 : Int64) (x2 : Int64), lv_has ls 7 [(0, .long x0), (2, .long x2)] → fX4_floorOf n x0 x2 = some z → W p l e ({ frames := 0, cells := 0, slots := 0, locals := 0 } : Room) s m args below meth c s.heap [] 0 0 (MQ below (ez_Rl z) args s 0 0 (fun _ => False)) (F0 m 0 ls []) := by
  intro n
  intro ls x0 x2 hl h
  rw [fX4_floorOf] at h
  have C1 := C0
  obtain ⟨hx, hb, hr, hml, hown, hw, hlk, hA, hN⟩ := C1
  refine lv_lload_n (pc := 0) hx hb dX4_floorOf_0 rfl (lv_at hl 0 rfl) ?_
  refine lv_lload_n (pc := 1) hx hb dX4_floorOf_1 rfl (lv_at hl 1 rfl) ?_
  replace h := ez_bd h
  obtain ⟨_, e1, h⟩ := h
  refine lv_ldiv (pc := 2) hx hb dX4_floorOf_2 (ez_nzs e1) ?_
  refine lv_lstore (pc := 3) hx hb dX4_floorOf_3 hl (by decide) rfl (fun ls hl => ?_)
  replace hl : lv_has ls 7 [(4, .long (x0 / x2)), (0, .long x0), (2, .long x2)] := hl
  refine lv_lload_n (pc := 5) hx hb dX4_floorOf_5 rfl (lv_at hl 1 rfl) ?_
  refine lv_lload_n (pc := 6) hx hb dX4_floorOf_6 rfl (lv_at hl 2 rfl) ?_
  replace h := ez_bd h
  obtain ⟨_, e2, h⟩ := h
  refine lv_lrem (pc := 7) hx hb dX4_floorOf_7 (ez_nzs e2) ?_
  refine lv_lconst (v := 0) (pc := 8) hx hb dX4_floorOf_8 rfl ?_
  refine W.lcmp (pc := 9) hx hb dX4_floorOf_9 ?_
  refine lv_if_eq (pc := 10) (tgt := 42) hx hb dX4_floorOf_10 (by decide) (fun c3 => ?_) (fun c3 => ?_)
  · replace h := ez_it c3 h
    refine lv_iconst (v := 0) (pc := 42) hx hb dX4_floorOf_42 rfl ?_
    refine lv_istore (pc := 43) hx hb dX4_floorOf_43 hl (by decide) rfl (fun ls hl => ?_)
    replace hl : lv_has ls 7 [(6, .int 0), (4, .long (x0 / x2)), (0, .long x0), (2, .long x2)] := hl
    refine lv_iload (pc := 45) hx hb dX4_floorOf_45 (lv_at hl 0 rfl) ?_
    refine lv_if_eq (pc := 47) (tgt := 57) hx hb dX4_floorOf_47 (by decide) (fun _ => ?_) (fun c4 => absurd c4 (by decide))
    refine lv_lload (pc := 57) hx hb dX4_floorOf_57 (lv_at hl 1 rfl) ?_
    obtain rfl := ez_r1 h
    exact ez_rroL C0 dX4_floorOf_59
  · replace h := ez_if c3 h
    refine lv_lload_n (pc := 13) hx hb dX4_floorOf_13 rfl (lv_at hl 1 rfl) ?_
    refine lv_lconst (v := 0) (pc := 14) hx hb dX4_floorOf_14 rfl ?_
    refine W.lcmp (pc := 15) hx hb dX4_floorOf_15 ?_
    refine lv_if_ge (pc := 16) (tgt := 23) hx hb dX4_floorOf_16 (by decide) (fun c5 => ?_) (fun c5 => ?_)
    · replace h := ez_it c5 h
      refine lv_iconst (v := 0) (pc := 23) hx hb dX4_floorOf_23 rfl ?_
      refine lv_lload_n (pc := 24) hx hb dX4_floorOf_24 rfl (lv_at hl 2 rfl) ?_
      refine lv_lconst (v := 0) (pc := 25) hx hb dX4_floorOf_25 rfl ?_
      refine W.lcmp (pc := 26) hx hb dX4_floorOf_26 ?_
      refine lv_if_ge (pc := 27) (tgt := 34) hx hb dX4_floorOf_27 (by decide) (fun c6 => ?_) (fun c6 => ?_)
      · replace h := ez_it c6 h
        refine lv_iconst (v := 0) (pc := 34) hx hb dX4_floorOf_34 rfl ?_
        exact tX4_floorOf_35 C0  n _ (x0 / x2) 0 0 (lv_sub hl [0] rfl) h
      · replace h := ez_if c6 h
        refine lv_iconst (v := 1) (pc := 30) hx hb dX4_floorOf_30 rfl ?_
        refine lv_goto (pc := 31) (tgt := 35) hx hb dX4_floorOf_31 (by decide) ?_
        exact tX4_floorOf_35 C0  n _ (x0 / x2) 1 0 (lv_sub hl [0] rfl) h
    · replace h := ez_if c5 h
      refine lv_iconst (v := 1) (pc := 19) hx hb dX4_floorOf_19 rfl ?_
      refine lv_goto (pc := 20) (tgt := 24) hx hb dX4_floorOf_20 (by decide) ?_
      refine lv_lload_n (pc := 24) hx hb dX4_floorOf_24 rfl (lv_at hl 2 rfl) ?_
      refine lv_lconst (v := 0) (pc := 25) hx hb dX4_floorOf_25 rfl ?_
      refine W.lcmp (pc := 26) hx hb dX4_floorOf_26 ?_
      refine lv_if_ge (pc := 27) (tgt := 34) hx hb dX4_floorOf_27 (by decide) (fun c7 => ?_) (fun c7 => ?_)
      · replace h := ez_it c7 h
        refine lv_iconst (v := 0) (pc := 34) hx hb dX4_floorOf_34 rfl ?_
        exact tX4_floorOf_35 C0  n _ (x0 / x2) 0 1 (lv_sub hl [0] rfl) h
      · replace h := ez_if c7 h
        refine lv_iconst (v := 1) (pc := 30) hx hb dX4_floorOf_30 rfl ?_
        refine lv_goto (pc := 31) (tgt := 35) hx hb dX4_floorOf_31 (by decide) ?_
        exact tX4_floorOf_35 C0  n _ (x0 / x2) 1 1 (lv_sub hl [0] rfl) h
set_option maxRecDepth 100000 in
theorem kX4_floorOf (l : Launch) (n : Nat) (x0 : Int64) (x2 : Int64) (z : Int64) (h : fX4_floorOf n x0 x2 = some z) : Met l yX4_floorOf wsX4_floorOf ({ frames := 0, cells := 0, slots := 0, locals := 0 } : Room) (ez_Sc [.long x0, .long x2]) (ez_Rl z) 0 0 (fun _ => False) :=
  ez_mkS (by decide +kernel) rfl (Nat.le_of_ble_eq_true rfl) (fun p e s m below meth c ls C0 hl => tX4_floorOf_0 C0 n ls x0 x2 (lv_sub (l := [(0, .long x0), (2, .long x2)]) hl [0, 1] rfl) h)
/-! EnclosureCalculatorModel ceilOf -/
theorem dX4_ceilOf_0 : decode cX4_ceilOf 0 = .ok (.lload_n 0, 1) := by decide +kernel
theorem dX4_ceilOf_1 : decode cX4_ceilOf 1 = .ok (.lneg, 1) := by decide +kernel
theorem dX4_ceilOf_2 : decode cX4_ceilOf 2 = .ok (.lload_n 2, 1) := by decide +kernel
theorem dX4_ceilOf_3 : decode cX4_ceilOf 3 = .ok (.invokestatic 117, 3) := by decide +kernel
theorem dX4_ceilOf_6 : decode cX4_ceilOf 6 = .ok (.lneg, 1) := by decide +kernel
theorem dX4_ceilOf_7 : decode cX4_ceilOf 7 = .ok (.lreturn, 1) := by decide +kernel
def fX4_ceilOf (n : Nat) (x0 : Int64) (x2 : Int64) : Option (Int64) :=
    (fX4_floorOf n (-x0) x2).bind fun z1 =>
    some (-z1)
set_option maxHeartbeats 4000000 in
set_option maxRecDepth 100000 in
theorem tX4_ceilOf_0 {p : Program} {l : Launch} {e : Env} {s : State} {m : MethodId} {args : Array Value} {below : List Frame} {meth : Method} {c : Code} {z : Int64} (C0 : ez_C p s m args meth c cX4_ceilOf (some .long) 4 RX4 (fun _ => True)) : ∀ (n : Nat) (ls : Array Slot) (x0 : Int64) (x2 : Int64), lv_has ls 4 [(0, .long x0), (2, .long x2)] → fX4_ceilOf n x0 x2 = some z → W p l e ({ frames := 1, cells := 0, slots := 0, locals := 26 } : Room) s m args below meth c s.heap [] 0 0 (MQ below (ez_Rl z) args s 0 0 (fun _ => False)) (F0 m 0 ls []) := by
  intro n
  intro ls x0 x2 hl h
  rw [fX4_ceilOf] at h
  have C1 := C0
  obtain ⟨hx, hb, hr, hml, hown, hw, hlk, hA, hN⟩ := C1
  refine lv_lload_n (pc := 0) hx hb dX4_ceilOf_0 rfl (lv_at hl 0 rfl) ?_
  refine lv_lneg (pc := 1) hx hb dX4_ceilOf_1 ?_
  refine lv_lload_n (pc := 2) hx hb dX4_ceilOf_2 rfl (lv_at hl 1 rfl) ?_
  replace h := ez_bd h
  obtain ⟨z1, e2, h⟩ := h
  refine ez_croL (r := z1) (pc := 3) (va_runS (g := F0 m 3 ls [.long x2, .long (-x0)]) (As := [.long (-x0), .long x2]) (rest := []) ⟨hx, hb, hml, hown, hw⟩ (kX4_floorOf l n (-x0) x2 z1 e2) (va_cwS 2 hw (ez_gS mw600 mw601 mw4 mw602) rfl rfl rfl (by decide +kernel) ⟨Nat.le_of_ble_eq_true rfl, Nat.le_of_ble_eq_true rfl⟩) (ez_preRS hN) rfl rfl hl.1 rfl (lv_room (Nat.le_of_ble_eq_true rfl)) dX4_ceilOf_3 ⟨Nat.le_refl _, Nat.le_refl _⟩) ?_
  refine lv_lneg (pc := 6) hx hb dX4_ceilOf_6 ?_
  obtain rfl := ez_r1 h
  exact ez_rroL C0 dX4_ceilOf_7
set_option maxRecDepth 100000 in
theorem kX4_ceilOf (l : Launch) (n : Nat) (x0 : Int64) (x2 : Int64) (z : Int64) (h : fX4_ceilOf n x0 x2 = some z) : Met l yX4_ceilOf wsX4_ceilOf ({ frames := 1, cells := 0, slots := 0, locals := 26 } : Room) (ez_Sc [.long x0, .long x2]) (ez_Rl z) 0 0 (fun _ => False) :=
  ez_mkS (by decide +kernel) rfl (Nat.le_of_ble_eq_true rfl) (fun p e s m below meth c ls C0 hl => tX4_ceilOf_0 C0 n ls x0 x2 (lv_sub (l := [(0, .long x0), (2, .long x2)]) hl [0, 1] rfl) h)
/-! EnclosureCalculatorModel rootOf -/
theorem dX4_rootOf_0 : decode cX4_rootOf 0 = .ok (.lconst 0, 1) := by decide +kernel
theorem dX4_rootOf_1 : decode cX4_rootOf 1 = .ok (.lstore_n 2, 1) := by decide +kernel
theorem dX4_rootOf_2 : decode cX4_rootOf 2 = .ok (.ldc2_w 121, 3) := by decide +kernel
theorem dX4_rootOf_5 : decode cX4_rootOf 5 = .ok (.lstore 4, 2) := by decide +kernel
theorem dX4_rootOf_7 : decode cX4_rootOf 7 = .ok (.lload 4, 2) := by decide +kernel
theorem dX4_rootOf_9 : decode cX4_rootOf 9 = .ok (.lconst 0, 1) := by decide +kernel
theorem dX4_rootOf_10 : decode cX4_rootOf 10 = .ok (.lcmp, 1) := by decide +kernel
theorem dX4_rootOf_11 : decode cX4_rootOf 11 = .ok (.ifCond .le 31, 3) := by decide +kernel
theorem dX4_rootOf_14 : decode cX4_rootOf 14 = .ok (.lload_n 2, 1) := by decide +kernel
theorem dX4_rootOf_15 : decode cX4_rootOf 15 = .ok (.lload 4, 2) := by decide +kernel
theorem dX4_rootOf_17 : decode cX4_rootOf 17 = .ok (.ladd, 1) := by decide +kernel
theorem dX4_rootOf_18 : decode cX4_rootOf 18 = .ok (.lload_n 2, 1) := by decide +kernel
theorem dX4_rootOf_19 : decode cX4_rootOf 19 = .ok (.lload 4, 2) := by decide +kernel
theorem dX4_rootOf_21 : decode cX4_rootOf 21 = .ok (.ladd, 1) := by decide +kernel
theorem dX4_rootOf_22 : decode cX4_rootOf 22 = .ok (.lmul, 1) := by decide +kernel
theorem dX4_rootOf_23 : decode cX4_rootOf 23 = .ok (.lload_n 0, 1) := by decide +kernel
theorem dX4_rootOf_24 : decode cX4_rootOf 24 = .ok (.lcmp, 1) := by decide +kernel
theorem dX4_rootOf_25 : decode cX4_rootOf 25 = .ok (.ifCond .gt 8, 3) := by decide +kernel
theorem dX4_rootOf_28 : decode cX4_rootOf 28 = .ok (.lload_n 2, 1) := by decide +kernel
theorem dX4_rootOf_29 : decode cX4_rootOf 29 = .ok (.lload 4, 2) := by decide +kernel
theorem dX4_rootOf_31 : decode cX4_rootOf 31 = .ok (.ladd, 1) := by decide +kernel
theorem dX4_rootOf_32 : decode cX4_rootOf 32 = .ok (.lstore_n 2, 1) := by decide +kernel
theorem dX4_rootOf_33 : decode cX4_rootOf 33 = .ok (.lload 4, 2) := by decide +kernel
theorem dX4_rootOf_35 : decode cX4_rootOf 35 = .ok (.iconst 1, 1) := by decide +kernel
theorem dX4_rootOf_36 : decode cX4_rootOf 36 = .ok (.lshr, 1) := by decide +kernel
theorem dX4_rootOf_37 : decode cX4_rootOf 37 = .ok (.lstore 4, 2) := by decide +kernel
theorem dX4_rootOf_39 : decode cX4_rootOf 39 = .ok (.goto (-32), 3) := by decide +kernel
theorem dX4_rootOf_42 : decode cX4_rootOf 42 = .ok (.lload_n 2, 1) := by decide +kernel
theorem dX4_rootOf_43 : decode cX4_rootOf 43 = .ok (.lreturn, 1) := by decide +kernel
def fX4_rootOf_7 : Nat → Int64 → Int64 → Int64 → Option (Int64)
  | 0, _, _, _ => none
  | n + 1, x0, x2, x4 =>
    if (lg_cmp x4 0) ≤ 0 then
      some x2
    else
      if 0 < (lg_cmp ((x2 + x4) * (x2 + x4)) x0) then
        fX4_rootOf_7 n x0 x2 (x4 >>> (Int32.toInt64 1 &&& 63))
      else
        fX4_rootOf_7 n x0 (x2 + x4) (x4 >>> (Int32.toInt64 1 &&& 63))
def fX4_rootOf (n : Nat) (x0 : Int64) : Option (Int64) :=
    fX4_rootOf_7 n x0 0 1073741824
set_option maxHeartbeats 4000000 in
set_option maxRecDepth 100000 in
theorem tX4_rootOf_7 {p : Program} {l : Launch} {e : Env} {s : State} {m : MethodId} {args : Array Value} {below : List Frame} {meth : Method} {c : Code} {z : Int64} (C0 : ez_C p s m args meth c cX4_rootOf (some .long) 6 RX4 (fun _ => True)) : ∀ (n : Nat) (ls : Array Slot) (x0 : Int64) (x2 : Int64) (x4 : Int64), lv_has ls 6 [(0, .long x0), (2, .long x2), (4, .long x4)] → fX4_rootOf_7 n x0 x2 x4 = some z → W p l e ({ frames := 0, cells := 0, slots := 0, locals := 0 } : Room) s m args below meth c s.heap [] 0 0 (MQ below (ez_Rl z) args s 0 0 (fun _ => False)) (F0 m 7 ls []) := by
  intro n
  induction n with
  | zero =>
    intro ls x0 x2 x4 hl h
    rw [fX4_rootOf_7] at h
    cases h
  | succ n ih =>
    intro ls x0 x2 x4 hl h
    rw [fX4_rootOf_7] at h
    have C1 := C0
    obtain ⟨hx, hb, hr, hml, hown, hw, hlk, hA, hN⟩ := C1
    refine lv_lload (pc := 7) hx hb dX4_rootOf_7 (lv_at hl 2 rfl) ?_
    refine lv_lconst (v := 0) (pc := 9) hx hb dX4_rootOf_9 rfl ?_
    refine W.lcmp (pc := 10) hx hb dX4_rootOf_10 ?_
    refine lv_if_le (pc := 11) (tgt := 42) hx hb dX4_rootOf_11 (by decide) (fun c1 => ?_) (fun c1 => ?_)
    · replace h := ez_it c1 h
      refine lv_lload_n (pc := 42) hx hb dX4_rootOf_42 rfl (lv_at hl 1 rfl) ?_
      obtain rfl := ez_r1 h
      exact ez_rroL C0 dX4_rootOf_43
    · replace h := ez_if c1 h
      refine lv_lload_n (pc := 14) hx hb dX4_rootOf_14 rfl (lv_at hl 1 rfl) ?_
      refine lv_lload (pc := 15) hx hb dX4_rootOf_15 (lv_at hl 2 rfl) ?_
      refine lv_ladd (pc := 17) hx hb dX4_rootOf_17 ?_
      refine lv_lload_n (pc := 18) hx hb dX4_rootOf_18 rfl (lv_at hl 1 rfl) ?_
      refine lv_lload (pc := 19) hx hb dX4_rootOf_19 (lv_at hl 2 rfl) ?_
      refine lv_ladd (pc := 21) hx hb dX4_rootOf_21 ?_
      refine lv_lmul (pc := 22) hx hb dX4_rootOf_22 ?_
      refine lv_lload_n (pc := 23) hx hb dX4_rootOf_23 rfl (lv_at hl 0 rfl) ?_
      refine W.lcmp (pc := 24) hx hb dX4_rootOf_24 ?_
      refine lv_if_gt (pc := 25) (tgt := 33) hx hb dX4_rootOf_25 (by decide) (fun c2 => ?_) (fun c2 => ?_)
      · replace h := ez_it c2 h
        refine lv_lload (pc := 33) hx hb dX4_rootOf_33 (lv_at hl 2 rfl) ?_
        refine lv_iconst (v := 1) (pc := 35) hx hb dX4_rootOf_35 rfl ?_
        refine lv_lshr (pc := 36) hx hb dX4_rootOf_36 rfl ?_
        refine lv_lstore (pc := 37) hx hb dX4_rootOf_37 hl (by decide) rfl (fun ls hl => ?_)
        replace hl : lv_has ls 6 [(4, .long (x4 >>> (Int32.toInt64 1 &&& 63))), (0, .long x0), (2, .long x2)] := hl
        refine lv_goto (pc := 39) (tgt := 7) hx hb dX4_rootOf_39 (by decide) ?_
        exact ih _ x0 x2 (x4 >>> (Int32.toInt64 1 &&& 63)) (lv_sub hl [1, 2, 0] rfl) h
      · replace h := ez_if c2 h
        refine lv_lload_n (pc := 28) hx hb dX4_rootOf_28 rfl (lv_at hl 1 rfl) ?_
        refine lv_lload (pc := 29) hx hb dX4_rootOf_29 (lv_at hl 2 rfl) ?_
        refine lv_ladd (pc := 31) hx hb dX4_rootOf_31 ?_
        refine lv_lstore_n (pc := 32) hx hb dX4_rootOf_32 rfl hl (by decide) rfl (fun ls hl => ?_)
        replace hl : lv_has ls 6 [(2, .long (x2 + x4)), (0, .long x0), (4, .long x4)] := hl
        refine lv_lload (pc := 33) hx hb dX4_rootOf_33 (lv_at hl 2 rfl) ?_
        refine lv_iconst (v := 1) (pc := 35) hx hb dX4_rootOf_35 rfl ?_
        refine lv_lshr (pc := 36) hx hb dX4_rootOf_36 rfl ?_
        refine lv_lstore (pc := 37) hx hb dX4_rootOf_37 hl (by decide) rfl (fun ls hl => ?_)
        replace hl : lv_has ls 6 [(4, .long (x4 >>> (Int32.toInt64 1 &&& 63))), (2, .long (x2 + x4)), (0, .long x0)] := hl
        refine lv_goto (pc := 39) (tgt := 7) hx hb dX4_rootOf_39 (by decide) ?_
        exact ih _ x0 (x2 + x4) (x4 >>> (Int32.toInt64 1 &&& 63)) (lv_sub hl [2, 1, 0] rfl) h
set_option maxHeartbeats 4000000 in
set_option maxRecDepth 100000 in
theorem tX4_rootOf_0 {p : Program} {l : Launch} {e : Env} {s : State} {m : MethodId} {args : Array Value} {below : List Frame} {meth : Method} {c : Code} {z : Int64} (C0 : ez_C p s m args meth c cX4_rootOf (some .long) 6 RX4 (fun _ => True)) : ∀ (n : Nat) (ls : Array Slot) (x0 : Int64), lv_has ls 6 [(0, .long x0)] → fX4_rootOf n x0 = some z → W p l e ({ frames := 0, cells := 0, slots := 0, locals := 0 } : Room) s m args below meth c s.heap [] 0 0 (MQ below (ez_Rl z) args s 0 0 (fun _ => False)) (F0 m 0 ls []) := by
  intro n
  intro ls x0 hl h
  rw [fX4_rootOf] at h
  have C1 := C0
  obtain ⟨hx, hb, hr, hml, hown, hw, hlk, hA, hN⟩ := C1
  refine lv_lconst (v := 0) (pc := 0) hx hb dX4_rootOf_0 rfl ?_
  refine lv_lstore_n (pc := 1) hx hb dX4_rootOf_1 rfl hl (by decide) rfl (fun ls hl => ?_)
  replace hl : lv_has ls 6 [(2, .long 0), (0, .long x0)] := hl
  refine lv_ldc2 (v := 1073741824) (pc := 2) hx hb hown (hw _ mw609) dX4_rootOf_2 ?_
  refine lv_lstore (pc := 5) hx hb dX4_rootOf_5 hl (by decide) rfl (fun ls hl => ?_)
  replace hl : lv_has ls 6 [(4, .long 1073741824), (2, .long 0), (0, .long x0)] := hl
  exact tX4_rootOf_7 C0  n _ x0 0 1073741824 (lv_sub hl [2, 1, 0] rfl) h
set_option maxRecDepth 100000 in
theorem kX4_rootOf (l : Launch) (n : Nat) (x0 : Int64) (z : Int64) (h : fX4_rootOf n x0 = some z) : Met l yX4_rootOf wsX4_rootOf ({ frames := 0, cells := 0, slots := 0, locals := 0 } : Room) (ez_Sc [.long x0]) (ez_Rl z) 0 0 (fun _ => False) :=
  ez_mkS (by decide +kernel) rfl (Nat.le_of_ble_eq_true rfl) (fun p e s m below meth c ls C0 hl => tX4_rootOf_0 C0 n ls x0 (lv_sub (l := [(0, .long x0)]) hl [0] rfl) h)
