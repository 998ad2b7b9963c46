/-! EnclosureCalculatorModel isGiven -/
theorem dX4_isGiven_0 : decode cX4_isGiven 0 = .ok (.iload_n 1, 1) := by decide +kernel
theorem dX4_isGiven_1 : decode cX4_isGiven 1 = .ok (.ifCond .lt 22, 3) := by decide +kernel
theorem dX4_isGiven_4 : decode cX4_isGiven 4 = .ok (.iload_n 1, 1) := by decide +kernel
theorem dX4_isGiven_5 : decode cX4_isGiven 5 = .ok (.bipush 7, 2) := by decide +kernel
theorem dX4_isGiven_7 : decode cX4_isGiven 7 = .ok (.if_icmp .gt 16, 3) := by decide +kernel
theorem dX4_isGiven_10 : decode cX4_isGiven 10 = .ok (.aload_n 0, 1) := by decide +kernel
theorem dX4_isGiven_11 : decode cX4_isGiven 11 = .ok (.getfield 13, 3) := by decide +kernel
theorem dX4_isGiven_14 : decode cX4_isGiven 14 = .ok (.iload_n 1, 1) := by decide +kernel
theorem dX4_isGiven_15 : decode cX4_isGiven 15 = .ok (.iaload, 1) := by decide +kernel
theorem dX4_isGiven_16 : decode cX4_isGiven 16 = .ok (.ifCond .le 7, 3) := by decide +kernel
theorem dX4_isGiven_19 : decode cX4_isGiven 19 = .ok (.iconst 1, 1) := by decide +kernel
theorem dX4_isGiven_20 : decode cX4_isGiven 20 = .ok (.goto 4, 3) := by decide +kernel
theorem dX4_isGiven_23 : decode cX4_isGiven 23 = .ok (.iconst 0, 1) := by decide +kernel
theorem dX4_isGiven_24 : decode cX4_isGiven 24 = .ok (.ireturn, 1) := by decide +kernel
def fX4_isGiven (n : Nat) (x1 : Int32) (w : Wd) : Option (Int32) :=
    if x1 < 0 then
      some 0
    else
      if 7 < x1 then
        some 0
      else
        (ez_ldI w 2 8 x1).bind fun y4 =>
        if y4 ≤ 0 then
          some 0
        else
          some 1
set_option maxHeartbeats 4000000 in
set_option maxRecDepth 100000 in
theorem tX4_isGiven_0 {p : Program} {l : Launch} {e : Env} {s : State} {m : MethodId} {args : Array Value} {below : List Frame} {meth : Method} {c : Code} {D : va_G} {a : Nat → Nat} {k : Nat → ClassId} {z : Int32} {w : Wd} (C0 : ez_C p s m args meth c cX4_isGiven (some .boolean) 2 RX4 (fun _ => True)) (hK : va_K D vwCl (tM k) s) (hP : va_P D vwCl (wM a k w) s.heap) : ∀ (n : Nat) (ls : Array Slot) (x1 : Int32), lv_has ls 2 [(0, .ref (a 0)), (1, .int x1)] → fX4_isGiven n x1 w = some z → W p l e ({ frames := 0, cells := 0, slots := 0, locals := 0 } : Room) s m args below meth c s.heap [] 0 0 (MQ below (ez_Ri z) args s 0 0 (fun _ => False)) (F0 m 0 ls []) := by
  intro n
  intro ls x1 hl h
  rw [fX4_isGiven] at h
  have C1 := C0
  obtain ⟨hx, hb, hr, hml, hown, hw, hlk, hA, hN⟩ := C1
  refine lv_iload_n (pc := 0) hx hb dX4_isGiven_0 rfl (lv_at hl 1 rfl) ?_
  refine lv_if_lt (pc := 1) (tgt := 23) hx hb dX4_isGiven_1 (by decide) (fun c1 => ?_) (fun c1 => ?_)
  · replace h := ez_it c1 h
    refine lv_iconst (v := 0) (pc := 23) hx hb dX4_isGiven_23 rfl ?_
    obtain rfl := ez_r1 h
    exact ez_rroZ C0 (rfl) dX4_isGiven_24
  · replace h := ez_if c1 h
    refine lv_iload_n (pc := 4) hx hb dX4_isGiven_4 rfl (lv_at hl 1 rfl) ?_
    refine lv_bipush (v := 7) (pc := 5) hx hb dX4_isGiven_5 rfl ?_
    refine lv_icmp_gt (pc := 7) (tgt := 23) hx hb dX4_isGiven_7 (by decide) (fun c2 => ?_) (fun c2 => ?_)
    · replace h := ez_it c2 h
      refine lv_iconst (v := 0) (pc := 23) hx hb dX4_isGiven_23 rfl ?_
      obtain rfl := ez_r1 h
      exact ez_rroZ C0 (rfl) dX4_isGiven_24
    · replace h := ez_if c2 h
      refine lv_aload_n (pc := 10) hx hb dX4_isGiven_10 rfl (lv_at hl 0 rfl) ?_
      refine va_get (D := D) (pc := 11) hx hb hw inX4 hown hK hP 0 rfl rfl 2 (by decide) (hw _ mw429) (fun _ h9 => h9) rfl dX4_isGiven_11 ?_
      refine lv_iload_n (pc := 14) hx hb dX4_isGiven_14 rfl (lv_at hl 1 rfl) ?_
      replace h := ez_bd h
      obtain ⟨y4, e3, h⟩ := h
      obtain ⟨e3i, e3⟩ := ez_ldIs e3
      refine va_iald (D := D) (pc := 15) hx hb hK hP 2 1 rfl rfl e3i dX4_isGiven_15 ?_
      refine lv_topi (fun y9 hy9 => ?_)
      obtain rfl : y4 = y9 := e3.trans hy9.symm
      refine lv_if_le (pc := 16) (tgt := 23) hx hb dX4_isGiven_16 (by decide) (fun c5 => ?_) (fun c5 => ?_)
      · replace h := ez_it c5 h
        refine lv_iconst (v := 0) (pc := 23) hx hb dX4_isGiven_23 rfl ?_
        obtain rfl := ez_r1 h
        exact ez_rroZ C0 (rfl) dX4_isGiven_24
      · replace h := ez_if c5 h
        refine lv_iconst (v := 1) (pc := 19) hx hb dX4_isGiven_19 rfl ?_
        refine lv_goto (pc := 20) (tgt := 24) hx hb dX4_isGiven_20 (by decide) ?_
        obtain rfl := ez_r1 h
        exact ez_rroZ C0 (rfl) dX4_isGiven_24
set_option maxRecDepth 100000 in
theorem kX4_isGiven (l : Launch) (D : va_G) (a : Nat → Nat) (k : Nat → ClassId) (n : Nat) (x1 : Int32) (w : Wd) (z : Int32) (h : fX4_isGiven n x1 w = some z) : Met l yX4_isGiven wsX4_isGiven ({ frames := 0, cells := 0, slots := 0, locals := 0 } : Room) (ez_Rc D (tM k) [.ref (a 0), .int x1] (wM a k w)) (ez_Ri z) 0 0 (fun _ => False) :=
  ez_mkR (by decide) rfl (Nat.le_of_ble_eq_true rfl) (fun p e s m below meth c ls C0 hl hP hK => tX4_isGiven_0 C0 hK hP n ls x1 (lv_sub (l := [(0, .ref (a 0)), (1, .int x1)]) hl [0, 1] rfl) h)
/-! EnclosureCalculatorModel spread -/
theorem dX4_spread_0 : decode cX4_spread 0 = .ok (.iconst 0, 1) := by decide +kernel
theorem dX4_spread_1 : decode cX4_spread 1 = .ok (.istore_n 3, 1) := by decide +kernel
theorem dX4_spread_2 : decode cX4_spread 2 = .ok (.iload_n 3, 1) := by decide +kernel
theorem dX4_spread_3 : decode cX4_spread 3 = .ok (.bipush 120, 2) := by decide +kernel
theorem dX4_spread_5 : decode cX4_spread 5 = .ok (.if_icmp .ge 30, 3) := by decide +kernel
theorem dX4_spread_8 : decode cX4_spread 8 = .ok (.aload_n 0, 1) := by decide +kernel
theorem dX4_spread_9 : decode cX4_spread 9 = .ok (.getfield 41, 3) := by decide +kernel
theorem dX4_spread_12 : decode cX4_spread 12 = .ok (.iload_n 3, 1) := by decide +kernel
theorem dX4_spread_13 : decode cX4_spread 13 = .ok (.iload_n 3, 1) := by decide +kernel
theorem dX4_spread_14 : decode cX4_spread 14 = .ok (.iload_n 1, 1) := by decide +kernel
theorem dX4_spread_15 : decode cX4_spread 15 = .ok (.if_icmp .eq 8, 3) := by decide +kernel
theorem dX4_spread_18 : decode cX4_spread 18 = .ok (.iload_n 3, 1) := by decide +kernel
theorem dX4_spread_19 : decode cX4_spread 19 = .ok (.iload_n 2, 1) := by decide +kernel
theorem dX4_spread_20 : decode cX4_spread 20 = .ok (.if_icmp .ne 7, 3) := by decide +kernel
theorem dX4_spread_23 : decode cX4_spread 23 = .ok (.iconst 1, 1) := by decide +kernel
theorem dX4_spread_24 : decode cX4_spread 24 = .ok (.goto 4, 3) := by decide +kernel
theorem dX4_spread_27 : decode cX4_spread 27 = .ok (.iconst 0, 1) := by decide +kernel
theorem dX4_spread_28 : decode cX4_spread 28 = .ok (.bastore, 1) := by decide +kernel
theorem dX4_spread_29 : decode cX4_spread 29 = .ok (.iinc 3 1, 3) := by decide +kernel
theorem dX4_spread_32 : decode cX4_spread 32 = .ok (.goto (-30), 3) := by decide +kernel
theorem dX4_spread_35 : decode cX4_spread 35 = .ok (.iconst 0, 1) := by decide +kernel
theorem dX4_spread_36 : decode cX4_spread 36 = .ok (.istore_n 3, 1) := by decide +kernel
theorem dX4_spread_37 : decode cX4_spread 37 = .ok (.aload_n 0, 1) := by decide +kernel
theorem dX4_spread_38 : decode cX4_spread 38 = .ok (.getfield 63, 3) := by decide +kernel
theorem dX4_spread_41 : decode cX4_spread 41 = .ok (.iconst 1, 1) := by decide +kernel
theorem dX4_spread_42 : decode cX4_spread 42 = .ok (.isub, 1) := by decide +kernel
theorem dX4_spread_43 : decode cX4_spread 43 = .ok (.istore 4, 2) := by decide +kernel
theorem dX4_spread_45 : decode cX4_spread 45 = .ok (.iload 4, 2) := by decide +kernel
theorem dX4_spread_47 : decode cX4_spread 47 = .ok (.ifCond .lt 58, 3) := by decide +kernel
theorem dX4_spread_50 : decode cX4_spread 50 = .ok (.aload_n 0, 1) := by decide +kernel
theorem dX4_spread_51 : decode cX4_spread 51 = .ok (.getfield 41, 3) := by decide +kernel
theorem dX4_spread_54 : decode cX4_spread 54 = .ok (.iload 4, 2) := by decide +kernel
theorem dX4_spread_56 : decode cX4_spread 56 = .ok (.baload, 1) := by decide +kernel
theorem dX4_spread_57 : decode cX4_spread 57 = .ok (.ifCond .eq 42, 3) := by decide +kernel
theorem dX4_spread_60 : decode cX4_spread 60 = .ok (.iinc 3 1, 3) := by decide +kernel
theorem dX4_spread_63 : decode cX4_spread 63 = .ok (.aload_n 0, 1) := by decide +kernel
theorem dX4_spread_64 : decode cX4_spread 64 = .ok (.getfield 16, 3) := by decide +kernel
theorem dX4_spread_67 : decode cX4_spread 67 = .ok (.iload 4, 2) := by decide +kernel
theorem dX4_spread_69 : decode cX4_spread 69 = .ok (.iaload, 1) := by decide +kernel
theorem dX4_spread_70 : decode cX4_spread 70 = .ok (.ifCond .eq 29, 3) := by decide +kernel
theorem dX4_spread_73 : decode cX4_spread 73 = .ok (.aload_n 0, 1) := by decide +kernel
theorem dX4_spread_74 : decode cX4_spread 74 = .ok (.getfield 41, 3) := by decide +kernel
theorem dX4_spread_77 : decode cX4_spread 77 = .ok (.aload_n 0, 1) := by decide +kernel
theorem dX4_spread_78 : decode cX4_spread 78 = .ok (.getfield 19, 3) := by decide +kernel
theorem dX4_spread_81 : decode cX4_spread 81 = .ok (.iload 4, 2) := by decide +kernel
theorem dX4_spread_83 : decode cX4_spread 83 = .ok (.iaload, 1) := by decide +kernel
theorem dX4_spread_84 : decode cX4_spread 84 = .ok (.iconst 1, 1) := by decide +kernel
theorem dX4_spread_85 : decode cX4_spread 85 = .ok (.bastore, 1) := by decide +kernel
theorem dX4_spread_86 : decode cX4_spread 86 = .ok (.aload_n 0, 1) := by decide +kernel
theorem dX4_spread_87 : decode cX4_spread 87 = .ok (.getfield 41, 3) := by decide +kernel
theorem dX4_spread_90 : decode cX4_spread 90 = .ok (.aload_n 0, 1) := by decide +kernel
theorem dX4_spread_91 : decode cX4_spread 91 = .ok (.getfield 22, 3) := by decide +kernel
theorem dX4_spread_94 : decode cX4_spread 94 = .ok (.iload 4, 2) := by decide +kernel
theorem dX4_spread_96 : decode cX4_spread 96 = .ok (.iaload, 1) := by decide +kernel
theorem dX4_spread_97 : decode cX4_spread 97 = .ok (.iconst 1, 1) := by decide +kernel
theorem dX4_spread_98 : decode cX4_spread 98 = .ok (.bastore, 1) := by decide +kernel
theorem dX4_spread_99 : decode cX4_spread 99 = .ok (.iinc 4 (-1), 3) := by decide +kernel
theorem dX4_spread_102 : decode cX4_spread 102 = .ok (.goto (-57), 3) := by decide +kernel
theorem dX4_spread_105 : decode cX4_spread 105 = .ok (.iload_n 3, 1) := by decide +kernel
theorem dX4_spread_106 : decode cX4_spread 106 = .ok (.ireturn, 1) := by decide +kernel
def fX4_spread_45 : Nat → Int32 → Int32 → Wd → Option (Int32 × Wd)
  | 0, _, _, _ => none
  | n + 1, x3, x4, w =>
    if x4 < 0 then
      some (x3, w)
    else
      (ez_ldI w 11 120 x4).bind fun y3 =>
      if y3 = 0 then
        fX4_spread_45 n x3 (x4 + (-1)) w
      else
        (ez_ldI w 3 120 x4).bind fun y6 =>
        if y6 = 0 then
          fX4_spread_45 n (x3 + 1) (x4 + (-1)) w
        else
          (ez_ldI w 4 120 x4).bind fun y9 =>
          (ez_stI w 11 120 y9 (vp_nar .boolean 1)).bind fun w11 =>
          (ez_ldI w11 5 120 x4).bind fun y13 =>
          (ez_stI w11 11 120 y13 (vp_nar .boolean 1)).bind fun w15 =>
          fX4_spread_45 n (x3 + 1) (x4 + (-1)) w15
def fX4_spread_2 : Nat → Int32 → Int32 → Int32 → Wd → Option (Int32 × Wd)
  | 0, _, _, _, _ => none
  | n + 1, x1, x2, x3, w =>
    if 120 ≤ x3 then
      fX4_spread_45 n 0 ((w.1 0 1) - 1) w
    else
      if x3 = x1 then
        (ez_stI w 11 120 x3 (vp_nar .boolean 1)).bind fun w4 =>
        fX4_spread_2 n x1 x2 (x3 + 1) w4
      else
        if x3 = x2 then
          (ez_stI w 11 120 x3 (vp_nar .boolean 1)).bind fun w9 =>
          fX4_spread_2 n x1 x2 (x3 + 1) w9
        else
          (ez_stI w 11 120 x3 (vp_nar .boolean 0)).bind fun w7 =>
          fX4_spread_2 n x1 x2 (x3 + 1) w7
def fX4_spread (n : Nat) (x1 : Int32) (x2 : Int32) (w : Wd) : Option (Int32 × Wd) :=
    fX4_spread_2 n x1 x2 0 w
set_option maxHeartbeats 4000000 in
set_option maxRecDepth 100000 in
theorem tX4_spread_45 {p : Program} {l : Launch} {e : Env} {s : State} {m : MethodId} {args : Array Value} {below : List Frame} {meth : Method} {c : Code} {A : Nat → Prop} {D : va_G} {a : Nat → Nat} {k : Nat → ClassId} {z : Int32 × Wd} (C0 : ez_C p s m args meth c cX4_spread (some .int) 5 RX4 A) (hK : va_K D vwCl (tM k) s) : ∀ (n : Nat) (H : Heap) (locs : List Loc) (ls : Array Slot) (x3 : Int32) (x4 : Int32) (w : Wd), lv_has ls 5 [(0, .ref (a 0)), (3, .int x3), (4, .int x4)] → va_P D vwCl (wM a k w) H → va_D A (wM a k w) → va_S A s.heap H locs → fX4_spread_45 n x3 x4 w = some z → W p l e ({ frames := 0, cells := 0, slots := 0, locals := 0 } : Room) s m args below meth c H locs 0 0 (MQ below (ez_Qi D (tM k) A z.1 (wM a k z.2)) args s 0 0 A) (F0 m 45 ls []) := by
  intro n
  induction n with
  | zero =>
    intro H locs ls x3 x4 w hl hP hD hS h
    rw [fX4_spread_45] at h
    cases h
  | succ n ih =>
    intro H locs ls x3 x4 w hl hP hD hS h
    rw [fX4_spread_45] at h
    have C1 := C0
    obtain ⟨hx, hb, hr, hml, hown, hw, hlk, hA, hN⟩ := C1
    refine lv_iload (pc := 45) hx hb dX4_spread_45 (lv_at hl 2 rfl) ?_
    refine lv_if_lt (pc := 47) (tgt := 105) hx hb dX4_spread_47 (by decide) (fun c1 => ?_) (fun c1 => ?_)
    · replace h := ez_it c1 h
      refine lv_iload_n (pc := 105) hx hb dX4_spread_105 rfl (lv_at hl 1 rfl) ?_
      obtain rfl := ez_r1 h
      exact ez_retI C0 hP hD hK hS dX4_spread_106
    · replace h := ez_if c1 h
      refine lv_aload_n (pc := 50) hx hb dX4_spread_50 rfl (lv_at hl 0 rfl) ?_
      refine va_get (D := D) (pc := 51) hx hb hw inX4 hown hK hP 0 rfl rfl 14 (by decide) (hw _ mw441) (fun _ h9 => h9) rfl dX4_spread_51 ?_
      refine lv_iload (pc := 54) hx hb dX4_spread_54 (lv_at hl 2 rfl) ?_
      replace h := ez_bd h
      obtain ⟨y3, e2, h⟩ := h
      obtain ⟨e2i, e2⟩ := ez_ldIs e2
      refine va_zald (D := D) (pc := 56) hx hb hK hP 11 10 rfl rfl e2i dX4_spread_56 ?_
      refine lv_topi (fun y9 hy9 => ?_)
      obtain rfl : y3 = y9 := e2.trans hy9.symm
      refine lv_if_eq (pc := 57) (tgt := 99) hx hb dX4_spread_57 (by decide) (fun c4 => ?_) (fun c4 => ?_)
      · replace h := ez_it c4 h
        refine lv_iinc (v := (x4 + (-1))) (k := 2) (pc := 99) hx hb dX4_spread_99 hl rfl rfl (by decide) rfl (fun ls hl => ?_)
        replace hl : lv_has ls 5 [(4, .int (x4 + (-1))), (0, .ref (a 0)), (3, .int x3)] := hl
        refine lv_goto (pc := 102) (tgt := 45) hx hb dX4_spread_102 (by decide) ?_
        exact ih _ _ _ x3 (x4 + (-1)) w (lv_sub hl [1, 2, 0] rfl) hP hD hS h
      · replace h := ez_if c4 h
        refine lv_iinc (v := (x3 + 1)) (k := 1) (pc := 60) hx hb dX4_spread_60 hl rfl rfl (by decide) rfl (fun ls hl => ?_)
        replace hl : lv_has ls 5 [(3, .int (x3 + 1)), (0, .ref (a 0)), (4, .int x4)] := hl
        refine lv_aload_n (pc := 63) hx hb dX4_spread_63 rfl (lv_at hl 1 rfl) ?_
        refine va_get (D := D) (pc := 64) hx hb hw inX4 hown hK hP 0 rfl rfl 4 (by decide) (hw _ mw431) (fun _ h9 => h9) rfl dX4_spread_64 ?_
        refine lv_iload (pc := 67) hx hb dX4_spread_67 (lv_at hl 2 rfl) ?_
        replace h := ez_bd h
        obtain ⟨y6, e5, h⟩ := h
        obtain ⟨e5i, e5⟩ := ez_ldIs e5
        refine va_iald (D := D) (pc := 69) hx hb hK hP 3 2 rfl rfl e5i dX4_spread_69 ?_
        refine lv_topi (fun y9 hy9 => ?_)
        obtain rfl : y6 = y9 := e5.trans hy9.symm
        refine lv_if_eq (pc := 70) (tgt := 99) hx hb dX4_spread_70 (by decide) (fun c7 => ?_) (fun c7 => ?_)
        · replace h := ez_it c7 h
          refine lv_iinc (v := (x4 + (-1))) (k := 2) (pc := 99) hx hb dX4_spread_99 hl rfl rfl (by decide) rfl (fun ls hl => ?_)
          replace hl : lv_has ls 5 [(4, .int (x4 + (-1))), (3, .int (x3 + 1)), (0, .ref (a 0))] := hl
          refine lv_goto (pc := 102) (tgt := 45) hx hb dX4_spread_102 (by decide) ?_
          exact ih _ _ _ (x3 + 1) (x4 + (-1)) w (lv_sub hl [2, 1, 0] rfl) hP hD hS h
        · replace h := ez_if c7 h
          refine lv_aload_n (pc := 73) hx hb dX4_spread_73 rfl (lv_at hl 1 rfl) ?_
          refine va_get (D := D) (pc := 74) hx hb hw inX4 hown hK hP 0 rfl rfl 14 (by decide) (hw _ mw441) (fun _ h9 => h9) rfl dX4_spread_74 ?_
          refine lv_aload_n (pc := 77) hx hb dX4_spread_77 rfl (lv_at hl 1 rfl) ?_
          refine va_get (D := D) (pc := 78) hx hb hw inX4 hown hK hP 0 rfl rfl 5 (by decide) (hw _ mw432) (fun _ h9 => h9) rfl dX4_spread_78 ?_
          refine lv_iload (pc := 81) hx hb dX4_spread_81 (lv_at hl 2 rfl) ?_
          replace h := ez_bd h
          obtain ⟨y9, e8, h⟩ := h
          obtain ⟨e8i, e8⟩ := ez_ldIs e8
          refine va_iald (D := D) (pc := 83) hx hb hK hP 4 3 rfl rfl e8i dX4_spread_83 ?_
          refine lv_topi (fun yq hy9 => ?_)
          obtain rfl : y9 = yq := e8.trans hy9.symm
          refine lv_iconst (v := 1) (pc := 84) hx hb dX4_spread_84 rfl ?_
          replace h := ez_bd h
          obtain ⟨w11, e10, h⟩ := h
          obtain ⟨e10i, e10⟩ := ez_stIs e10
          refine va_zast (D := D) (pc := 85) hx hb hK hP hD hS 11 10 rfl rfl e10i dX4_spread_85 (fun H locs hP hD hS => ?_)
          replace hP : va_P D vwCl (wM a k w11) H := by rw [e10]; exact hP
          replace hD : va_D A (wM a k w11) := by rw [e10]; exact hD
          refine lv_aload_n (pc := 86) hx hb dX4_spread_86 rfl (lv_at hl 1 rfl) ?_
          refine va_get (D := D) (pc := 87) hx hb hw inX4 hown hK hP 0 rfl rfl 14 (by decide) (hw _ mw441) (fun _ h9 => h9) rfl dX4_spread_87 ?_
          refine lv_aload_n (pc := 90) hx hb dX4_spread_90 rfl (lv_at hl 1 rfl) ?_
          refine va_get (D := D) (pc := 91) hx hb hw inX4 hown hK hP 0 rfl rfl 6 (by decide) (hw _ mw433) (fun _ h9 => h9) rfl dX4_spread_91 ?_
          refine lv_iload (pc := 94) hx hb dX4_spread_94 (lv_at hl 2 rfl) ?_
          replace h := ez_bd h
          obtain ⟨y13, e12, h⟩ := h
          obtain ⟨e12i, e12⟩ := ez_ldIs e12
          refine va_iald (D := D) (pc := 96) hx hb hK hP 5 4 rfl rfl e12i dX4_spread_96 ?_
          refine lv_topi (fun y9 hy9 => ?_)
          obtain rfl : y13 = y9 := e12.trans hy9.symm
          refine lv_iconst (v := 1) (pc := 97) hx hb dX4_spread_97 rfl ?_
          replace h := ez_bd h
          obtain ⟨w15, e14, h⟩ := h
          obtain ⟨e14i, e14⟩ := ez_stIs e14
          refine va_zast (D := D) (pc := 98) hx hb hK hP hD hS 11 10 rfl rfl e14i dX4_spread_98 (fun H locs hP hD hS => ?_)
          replace hP : va_P D vwCl (wM a k w15) H := by rw [e14]; exact hP
          replace hD : va_D A (wM a k w15) := by rw [e14]; exact hD
          refine lv_iinc (v := (x4 + (-1))) (k := 2) (pc := 99) hx hb dX4_spread_99 hl rfl rfl (by decide) rfl (fun ls hl => ?_)
          replace hl : lv_has ls 5 [(4, .int (x4 + (-1))), (3, .int (x3 + 1)), (0, .ref (a 0))] := hl
          refine lv_goto (pc := 102) (tgt := 45) hx hb dX4_spread_102 (by decide) ?_
          exact ih _ _ _ (x3 + 1) (x4 + (-1)) w15 (lv_sub hl [2, 1, 0] rfl) hP hD hS h
set_option maxHeartbeats 4000000 in
set_option maxRecDepth 100000 in
theorem tX4_spread_2 {p : Program} {l : Launch} {e : Env} {s : State} {m : MethodId} {args : Array Value} {below : List Frame} {meth : Method} {c : Code} {A : Nat → Prop} {D : va_G} {a : Nat → Nat} {k : Nat → ClassId} {z : Int32 × Wd} (C0 : ez_C p s m args meth c cX4_spread (some .int) 5 RX4 A) (hK : va_K D vwCl (tM k) s) : ∀ (n : Nat) (H : Heap) (locs : List Loc) (ls : Array Slot) (x1 : Int32) (x2 : Int32) (x3 : Int32) (w : Wd), lv_has ls 5 [(0, .ref (a 0)), (1, .int x1), (2, .int x2), (3, .int x3)] → va_P D vwCl (wM a k w) H → va_D A (wM a k w) → va_S A s.heap H locs → fX4_spread_2 n x1 x2 x3 w = some z → W p l e ({ frames := 0, cells := 0, slots := 0, locals := 0 } : Room) s m args below meth c H locs 0 0 (MQ below (ez_Qi D (tM k) A z.1 (wM a k z.2)) args s 0 0 A) (F0 m 2 ls []) := by
  intro n
  induction n with
  | zero =>
    intro H locs ls x1 x2 x3 w hl hP hD hS h
    rw [fX4_spread_2] at h
    cases h
  | succ n ih =>
    intro H locs ls x1 x2 x3 w hl hP hD hS h
    rw [fX4_spread_2] at h
    have C1 := C0
    obtain ⟨hx, hb, hr, hml, hown, hw, hlk, hA, hN⟩ := C1
    refine lv_iload_n (pc := 2) hx hb dX4_spread_2 rfl (lv_at hl 3 rfl) ?_
    refine lv_bipush (v := 120) (pc := 3) hx hb dX4_spread_3 rfl ?_
    refine lv_icmp_ge (pc := 5) (tgt := 35) hx hb dX4_spread_5 (by decide) (fun c1 => ?_) (fun c1 => ?_)
    · replace h := ez_it c1 h
      refine lv_iconst (v := 0) (pc := 35) hx hb dX4_spread_35 rfl ?_
      refine lv_istore_n (pc := 36) hx hb dX4_spread_36 rfl hl (by decide) rfl (fun ls hl => ?_)
      replace hl : lv_has ls 5 [(3, .int 0), (0, .ref (a 0)), (1, .int x1), (2, .int x2)] := hl
      refine lv_aload_n (pc := 37) hx hb dX4_spread_37 rfl (lv_at hl 1 rfl) ?_
      refine va_get (D := D) (pc := 38) hx hb hw inX4 hown hK hP 0 rfl rfl 3 (by decide) (hw _ mw430) (fun _ h9 => h9) rfl dX4_spread_38 ?_
      refine lv_iconst (v := 1) (pc := 41) hx hb dX4_spread_41 rfl ?_
      refine lv_isub (pc := 42) hx hb dX4_spread_42 ?_
      refine lv_istore (pc := 43) hx hb dX4_spread_43 hl (by decide) rfl (fun ls hl => ?_)
      replace hl : lv_has ls 5 [(4, .int ((w.1 0 1) - 1)), (3, .int 0), (0, .ref (a 0)), (1, .int x1), (2, .int x2)] := hl
      exact tX4_spread_45 C0 hK  n _ _ _ 0 ((w.1 0 1) - 1) w (lv_sub hl [2, 1, 0] rfl) hP hD hS h
    · replace h := ez_if c1 h
      refine lv_aload_n (pc := 8) hx hb dX4_spread_8 rfl (lv_at hl 0 rfl) ?_
      refine va_get (D := D) (pc := 9) hx hb hw inX4 hown hK hP 0 rfl rfl 14 (by decide) (hw _ mw441) (fun _ h9 => h9) rfl dX4_spread_9 ?_
      refine lv_iload_n (pc := 12) hx hb dX4_spread_12 rfl (lv_at hl 3 rfl) ?_
      refine lv_iload_n (pc := 13) hx hb dX4_spread_13 rfl (lv_at hl 3 rfl) ?_
      refine lv_iload_n (pc := 14) hx hb dX4_spread_14 rfl (lv_at hl 1 rfl) ?_
      refine lv_icmp_eq (pc := 15) (tgt := 23) hx hb dX4_spread_15 (by decide) (fun c2 => ?_) (fun c2 => ?_)
      · replace h := ez_it c2 h
        refine lv_iconst (v := 1) (pc := 23) hx hb dX4_spread_23 rfl ?_
        refine lv_goto (pc := 24) (tgt := 28) hx hb dX4_spread_24 (by decide) ?_
        replace h := ez_bd h
        obtain ⟨w4, e3, h⟩ := h
        obtain ⟨e3i, e3⟩ := ez_stIs e3
        refine va_zast (D := D) (pc := 28) hx hb hK hP hD hS 11 10 rfl rfl e3i dX4_spread_28 (fun H locs hP hD hS => ?_)
        replace hP : va_P D vwCl (wM a k w4) H := by rw [e3]; exact hP
        replace hD : va_D A (wM a k w4) := by rw [e3]; exact hD
        refine lv_iinc (v := (x3 + 1)) (k := 3) (pc := 29) hx hb dX4_spread_29 hl rfl rfl (by decide) rfl (fun ls hl => ?_)
        replace hl : lv_has ls 5 [(3, .int (x3 + 1)), (0, .ref (a 0)), (1, .int x1), (2, .int x2)] := hl
        refine lv_goto (pc := 32) (tgt := 2) hx hb dX4_spread_32 (by decide) ?_
        exact ih _ _ _ x1 x2 (x3 + 1) w4 (lv_sub hl [1, 2, 3, 0] rfl) hP hD hS h
      · replace h := ez_if c2 h
        refine lv_iload_n (pc := 18) hx hb dX4_spread_18 rfl (lv_at hl 3 rfl) ?_
        refine lv_iload_n (pc := 19) hx hb dX4_spread_19 rfl (lv_at hl 2 rfl) ?_
        refine lv_icmp_ne (pc := 20) (tgt := 27) hx hb dX4_spread_20 (by decide) (fun c5 => ?_) (fun c5 => ?_)
        · replace h := ez_if c5 h
          refine lv_iconst (v := 0) (pc := 27) hx hb dX4_spread_27 rfl ?_
          replace h := ez_bd h
          obtain ⟨w7, e6, h⟩ := h
          obtain ⟨e6i, e6⟩ := ez_stIs e6
          refine va_zast (D := D) (pc := 28) hx hb hK hP hD hS 11 10 rfl rfl e6i dX4_spread_28 (fun H locs hP hD hS => ?_)
          replace hP : va_P D vwCl (wM a k w7) H := by rw [e6]; exact hP
          replace hD : va_D A (wM a k w7) := by rw [e6]; exact hD
          refine lv_iinc (v := (x3 + 1)) (k := 3) (pc := 29) hx hb dX4_spread_29 hl rfl rfl (by decide) rfl (fun ls hl => ?_)
          replace hl : lv_has ls 5 [(3, .int (x3 + 1)), (0, .ref (a 0)), (1, .int x1), (2, .int x2)] := hl
          refine lv_goto (pc := 32) (tgt := 2) hx hb dX4_spread_32 (by decide) ?_
          exact ih _ _ _ x1 x2 (x3 + 1) w7 (lv_sub hl [1, 2, 3, 0] rfl) hP hD hS h
        · replace h := ez_it c5 h
          refine lv_iconst (v := 1) (pc := 23) hx hb dX4_spread_23 rfl ?_
          refine lv_goto (pc := 24) (tgt := 28) hx hb dX4_spread_24 (by decide) ?_
          replace h := ez_bd h
          obtain ⟨w9, e8, h⟩ := h
          obtain ⟨e8i, e8⟩ := ez_stIs e8
          refine va_zast (D := D) (pc := 28) hx hb hK hP hD hS 11 10 rfl rfl e8i dX4_spread_28 (fun H locs hP hD hS => ?_)
          replace hP : va_P D vwCl (wM a k w9) H := by rw [e8]; exact hP
          replace hD : va_D A (wM a k w9) := by rw [e8]; exact hD
          refine lv_iinc (v := (x3 + 1)) (k := 3) (pc := 29) hx hb dX4_spread_29 hl rfl rfl (by decide) rfl (fun ls hl => ?_)
          replace hl : lv_has ls 5 [(3, .int (x3 + 1)), (0, .ref (a 0)), (1, .int x1), (2, .int x2)] := hl
          refine lv_goto (pc := 32) (tgt := 2) hx hb dX4_spread_32 (by decide) ?_
          exact ih _ _ _ x1 x2 (x3 + 1) w9 (lv_sub hl [1, 2, 3, 0] rfl) hP hD hS h
set_option maxHeartbeats 4000000 in
set_option maxRecDepth 100000 in
theorem tX4_spread_0 {p : Program} {l : Launch} {e : Env} {s : State} {m : MethodId} {args : Array Value} {below : List Frame} {meth : Method} {c : Code} {A : Nat → Prop} {D : va_G} {a : Nat → Nat} {k : Nat → ClassId} {z : Int32 × Wd} (C0 : ez_C p s m args meth c cX4_spread (some .int) 5 RX4 A) (hK : va_K D vwCl (tM k) s) : ∀ (n : Nat) (H : Heap) (locs : List Loc) (ls : Array Slot) (x1 : Int32) (x2 : Int32) (w : Wd), lv_has ls 5 [(0, .ref (a 0)), (1, .int x1), (2, .int x2)] → va_P D vwCl (wM a k w) H → va_D A (wM a k w) → va_S A s.heap H locs → fX4_spread n x1 x2 w = some z → W p l e ({ frames := 0, cells := 0, slots := 0, locals := 0 } : Room) s m args below meth c H locs 0 0 (MQ below (ez_Qi D (tM k) A z.1 (wM a k z.2)) args s 0 0 A) (F0 m 0 ls []) := by
  intro n
  intro H locs ls x1 x2 w hl hP hD hS h
  rw [fX4_spread] at h
  have C1 := C0
  obtain ⟨hx, hb, hr, hml, hown, hw, hlk, hA, hN⟩ := C1
  refine lv_iconst (v := 0) (pc := 0) hx hb dX4_spread_0 rfl ?_
  refine lv_istore_n (pc := 1) hx hb dX4_spread_1 rfl hl (by decide) rfl (fun ls hl => ?_)
  replace hl : lv_has ls 5 [(3, .int 0), (0, .ref (a 0)), (1, .int x1), (2, .int x2)] := hl
  exact tX4_spread_2 C0 hK  n _ _ _ x1 x2 0 w (lv_sub hl [1, 2, 3, 0] rfl) hP hD hS h
set_option maxRecDepth 100000 in
theorem kX4_spread (l : Launch) (D : va_G) (a : Nat → Nat) (k : Nat → ClassId) (n : Nat) (x1 : Int32) (x2 : Int32) (w : Wd) (z : Int32 × Wd) (h : fX4_spread n x1 x2 w = some z) (sz : Nat) : Met l yX4_spread wsX4_spread ({ frames := 0, cells := 0, slots := 0, locals := 0 } : Room) (ez_Pc D (tM k) [.ref (a 0), .int x1, .int x2] (wM a k w) sz) (ez_Qi D (tM k) (va_A (wM a k w) sz) z.1 (wM a k z.2)) 0 0 (va_A (wM a k w) sz) :=
  ez_mk (Qf := fun A => (ez_Qi D (tM k) A z.1 (wM a k z.2))) (by decide) rfl (Nat.le_of_ble_eq_true rfl) (fun p e s m below meth c A ls C0 _ hl hP hD hK => tX4_spread_0 C0 hK n s.heap [] ls x1 x2 w (lv_sub (l := [(0, .ref (a 0)), (1, .int x1), (2, .int x2)]) hl [0, 1, 2] rfl) hP hD va_S.rf h) sz
/-! EnclosureCalculatorModel parts -/
theorem dX4_parts_0 : decode cX4_parts 0 = .ok (.aload_n 0, 1) := by decide +kernel
theorem dX4_parts_1 : decode cX4_parts 1 = .ok (.iload_n 1, 1) := by decide +kernel
theorem dX4_parts_2 : decode cX4_parts 2 = .ok (.invokevirtual 150, 3) := by decide +kernel
theorem dX4_parts_5 : decode cX4_parts 5 = .ok (.ifCond .eq 19, 3) := by decide +kernel
theorem dX4_parts_8 : decode cX4_parts 8 = .ok (.aload_n 0, 1) := by decide +kernel
theorem dX4_parts_9 : decode cX4_parts 9 = .ok (.aload_n 0, 1) := by decide +kernel
theorem dX4_parts_10 : decode cX4_parts 10 = .ok (.getfield 13, 3) := by decide +kernel
theorem dX4_parts_13 : decode cX4_parts 13 = .ok (.iload_n 1, 1) := by decide +kernel
theorem dX4_parts_14 : decode cX4_parts 14 = .ok (.iaload, 1) := by decide +kernel
theorem dX4_parts_15 : decode cX4_parts 15 = .ok (.iconst 1, 1) := by decide +kernel
theorem dX4_parts_16 : decode cX4_parts 16 = .ok (.isub, 1) := by decide +kernel
theorem dX4_parts_17 : decode cX4_parts 17 = .ok (.iconst (-1), 1) := by decide +kernel
theorem dX4_parts_18 : decode cX4_parts 18 = .ok (.invokevirtual 153, 3) := by decide +kernel
theorem dX4_parts_21 : decode cX4_parts 21 = .ok (.goto 4, 3) := by decide +kernel
theorem dX4_parts_24 : decode cX4_parts 24 = .ok (.iconst (-1), 1) := by decide +kernel
theorem dX4_parts_25 : decode cX4_parts 25 = .ok (.ireturn, 1) := by decide +kernel
def fX4_parts (n : Nat) (x1 : Int32) (w : Wd) : Option (Int32 × Wd) :=
    (fX4_isGiven n x1 w).bind fun z1 =>
    if z1 = 0 then
      some ((-1), w)
    else
      (ez_ldI w 2 8 x1).bind fun y5 =>
      (fX4_spread n (y5 - 1) (-1) w).bind fun z6 =>
      some (z6.1, z6.2)
set_option maxHeartbeats 4000000 in
set_option maxRecDepth 100000 in
theorem tX4_parts_0 {p : Program} {l : Launch} {e : Env} {s : State} {m : MethodId} {args : Array Value} {below : List Frame} {meth : Method} {c : Code} {A : Nat → Prop} {D : va_G} {a : Nat → Nat} {k : Nat → ClassId} {z : Int32 × Wd} (C0 : ez_C p s m args meth c cX4_parts (some .int) 2 RX4 A) (hK : va_K D vwCl (tM k) s) : ∀ (n : Nat) (H : Heap) (locs : List Loc) (ls : Array Slot) (x1 : Int32) (w : Wd), lv_has ls 2 [(0, .ref (a 0)), (1, .int x1)] → va_P D vwCl (wM a k w) H → va_D A (wM a k w) → va_S A s.heap H locs → fX4_parts n x1 w = some z → W p l e ({ frames := 1, cells := 0, slots := 0, locals := 24 } : Room) s m args below meth c H locs 0 0 (MQ below (ez_Qi D (tM k) A z.1 (wM a k z.2)) args s 0 0 A) (F0 m 0 ls []) := by
  intro n
  intro H locs ls x1 w hl hP hD hS h
  rw [fX4_parts] at h
  have C1 := C0
  obtain ⟨hx, hb, hr, hml, hown, hw, hlk, hA, hN⟩ := C1
  refine lv_aload_n (pc := 0) hx hb dX4_parts_0 rfl (lv_at hl 0 rfl) ?_
  refine lv_iload_n (pc := 1) hx hb dX4_parts_1 rfl (lv_at hl 1 rfl) ?_
  replace h := ez_bd h
  obtain ⟨z1, e2, h⟩ := h
  refine ez_croI (r := z1) (pc := 2) (va_runV (g := F0 m 2 ls [.int x1, .ref (a 0)]) (As := [.int x1]) (rest := []) ⟨hx, hb, hml, hown, hw⟩ (kX4_isGiven l D a k n x1 w z1 e2) (cwV 1 hw (ez_gV mw567 mw569 mp42 mw4 mw570) rfl rfl rfl (by decide +kernel) ⟨Nat.le_of_ble_eq_true rfl, Nat.le_of_ble_eq_true rfl⟩) (ez_preRV (wr := []) (wl := (wM a k w)) hP hK hN 0 rfl rfl) rfl rfl hl.1 rfl (lv_room (Nat.le_of_ble_eq_true rfl)) dX4_parts_2 ⟨Nat.le_refl _, Nat.le_refl _⟩) ?_
  refine lv_if_eq (pc := 5) (tgt := 24) hx hb dX4_parts_5 (by decide) (fun c3 => ?_) (fun c3 => ?_)
  · replace h := ez_it c3 h
    refine lv_iconst (v := (-1)) (pc := 24) hx hb dX4_parts_24 rfl ?_
    obtain rfl := ez_r1 h
    exact ez_retI C0 hP hD hK hS dX4_parts_25
  · replace h := ez_if c3 h
    refine lv_aload_n (pc := 8) hx hb dX4_parts_8 rfl (lv_at hl 0 rfl) ?_
    refine lv_aload_n (pc := 9) hx hb dX4_parts_9 rfl (lv_at hl 0 rfl) ?_
    refine va_get (D := D) (pc := 10) hx hb hw inX4 hown hK hP 0 rfl rfl 2 (by decide) (hw _ mw429) (fun _ h9 => h9) rfl dX4_parts_10 ?_
    refine lv_iload_n (pc := 13) hx hb dX4_parts_13 rfl (lv_at hl 1 rfl) ?_
    replace h := ez_bd h
    obtain ⟨y5, e4, h⟩ := h
    obtain ⟨e4i, e4⟩ := ez_ldIs e4
    refine va_iald (D := D) (pc := 14) hx hb hK hP 2 1 rfl rfl e4i dX4_parts_14 ?_
    refine lv_topi (fun y9 hy9 => ?_)
    obtain rfl : y5 = y9 := e4.trans hy9.symm
    refine lv_iconst (v := 1) (pc := 15) hx hb dX4_parts_15 rfl ?_
    refine lv_isub (pc := 16) hx hb dX4_parts_16 ?_
    refine lv_iconst (v := (-1)) (pc := 17) hx hb dX4_parts_17 rfl ?_
    replace h := ez_bd h
    obtain ⟨z6, e7, h⟩ := h
    refine ez_callI (r := z6.1) (pc := 18) (wr := []) (wl := (wM a k w)) (wl' := (wM a k z6.2)) (va_runV (g := F0 m 18 ls [.int (-1), .int (y5 - 1), .ref (a 0)]) (As := [.int (y5 - 1), .int (-1)]) (rest := []) ⟨hx, hb, hml, hown, hw⟩ (kX4_spread l D a k n (y5 - 1) (-1) w z6 e7 H.size) (cwV 2 hw (ez_gV mw571 mw573 mp43 mw4 mw574) rfl rfl rfl (by decide +kernel) ⟨Nat.le_of_ble_eq_true rfl, Nat.le_of_ble_eq_true rfl⟩) (ez_preV (wr := []) (wl := (wM a k w)) hP hD hK hN 0 rfl rfl) rfl rfl hl.1 rfl (lv_room (Nat.le_of_ble_eq_true rfl)) dX4_parts_18 ⟨Nat.le_refl _, Nat.le_refl _⟩) hP hD hS hA (fun H locs hP hD hS => ?_)
    replace hP : va_P D vwCl (wM a k z6.2) H := hP
    replace hD : va_D A (wM a k z6.2) := hD
    refine lv_goto (pc := 21) (tgt := 25) hx hb dX4_parts_21 (by decide) ?_
    obtain rfl := ez_r1 h
    exact ez_retI C0 hP hD hK hS dX4_parts_25
set_option maxRecDepth 100000 in
theorem kX4_parts (l : Launch) (D : va_G) (a : Nat → Nat) (k : Nat → ClassId) (n : Nat) (x1 : Int32) (w : Wd) (z : Int32 × Wd) (h : fX4_parts n x1 w = some z) (sz : Nat) : Met l yX4_parts wsX4_parts ({ frames := 1, cells := 0, slots := 0, locals := 24 } : Room) (ez_Pc D (tM k) [.ref (a 0), .int x1] (wM a k w) sz) (ez_Qi D (tM k) (va_A (wM a k w) sz) z.1 (wM a k z.2)) 0 0 (va_A (wM a k w) sz) :=
  ez_mk (Qf := fun A => (ez_Qi D (tM k) A z.1 (wM a k z.2))) (by decide) rfl (Nat.le_of_ble_eq_true rfl) (fun p e s m below meth c A ls C0 _ hl hP hD hK => tX4_parts_0 C0 hK n s.heap [] ls x1 w (lv_sub (l := [(0, .ref (a 0)), (1, .int x1)]) hl [0, 1] rfl) hP hD va_S.rf h) sz
/-! EnclosureCalculatorModel include -/
theorem dX4_include_0 : decode cX4_include 0 = .ok (.lload_n 2, 1) := by decide +kernel
theorem dX4_include_1 : decode cX4_include 1 = .ok (.lload 4, 2) := by decide +kernel
theorem dX4_include_3 : decode cX4_include 3 = .ok (.invokestatic 117, 3) := by decide +kernel
theorem dX4_include_6 : decode cX4_include 6 = .ok (.lstore 6, 2) := by decide +kernel
theorem dX4_include_8 : decode cX4_include 8 = .ok (.lload_n 2, 1) := by decide +kernel
theorem dX4_include_9 : decode cX4_include 9 = .ok (.lload 4, 2) := by decide +kernel
theorem dX4_include_11 : decode cX4_include 11 = .ok (.invokestatic 123, 3) := by decide +kernel
theorem dX4_include_14 : decode cX4_include 14 = .ok (.lstore 8, 2) := by decide +kernel
theorem dX4_include_16 : decode cX4_include 16 = .ok (.aload_n 0, 1) := by decide +kernel
theorem dX4_include_17 : decode cX4_include 17 = .ok (.getfield 34, 3) := by decide +kernel
theorem dX4_include_20 : decode cX4_include 20 = .ok (.iload_n 1, 1) := by decide +kernel
theorem dX4_include_21 : decode cX4_include 21 = .ok (.lload 6, 2) := by decide +kernel
theorem dX4_include_23 : decode cX4_include 23 = .ok (.aload_n 0, 1) := by decide +kernel
theorem dX4_include_24 : decode cX4_include 24 = .ok (.getfield 34, 3) := by decide +kernel
theorem dX4_include_27 : decode cX4_include 27 = .ok (.iload_n 1, 1) := by decide +kernel
theorem dX4_include_28 : decode cX4_include 28 = .ok (.laload, 1) := by decide +kernel
theorem dX4_include_29 : decode cX4_include 29 = .ok (.lcmp, 1) := by decide +kernel
theorem dX4_include_30 : decode cX4_include 30 = .ok (.ifCond .ge 8, 3) := by decide +kernel
theorem dX4_include_33 : decode cX4_include 33 = .ok (.lload 6, 2) := by decide +kernel
theorem dX4_include_35 : decode cX4_include 35 = .ok (.goto 9, 3) := by decide +kernel
theorem dX4_include_38 : decode cX4_include 38 = .ok (.aload_n 0, 1) := by decide +kernel
theorem dX4_include_39 : decode cX4_include 39 = .ok (.getfield 34, 3) := by decide +kernel
theorem dX4_include_42 : decode cX4_include 42 = .ok (.iload_n 1, 1) := by decide +kernel
theorem dX4_include_43 : decode cX4_include 43 = .ok (.laload, 1) := by decide +kernel
theorem dX4_include_44 : decode cX4_include 44 = .ok (.lastore, 1) := by decide +kernel
theorem dX4_include_45 : decode cX4_include 45 = .ok (.aload_n 0, 1) := by decide +kernel
theorem dX4_include_46 : decode cX4_include 46 = .ok (.getfield 38, 3) := by decide +kernel
theorem dX4_include_49 : decode cX4_include 49 = .ok (.iload_n 1, 1) := by decide +kernel
theorem dX4_include_50 : decode cX4_include 50 = .ok (.lload 8, 2) := by decide +kernel
theorem dX4_include_52 : decode cX4_include 52 = .ok (.aload_n 0, 1) := by decide +kernel
theorem dX4_include_53 : decode cX4_include 53 = .ok (.getfield 38, 3) := by decide +kernel
theorem dX4_include_56 : decode cX4_include 56 = .ok (.iload_n 1, 1) := by decide +kernel
theorem dX4_include_57 : decode cX4_include 57 = .ok (.laload, 1) := by decide +kernel
theorem dX4_include_58 : decode cX4_include 58 = .ok (.lcmp, 1) := by decide +kernel
theorem dX4_include_59 : decode cX4_include 59 = .ok (.ifCond .le 8, 3) := by decide +kernel
theorem dX4_include_62 : decode cX4_include 62 = .ok (.lload 8, 2) := by decide +kernel
theorem dX4_include_64 : decode cX4_include 64 = .ok (.goto 9, 3) := by decide +kernel
theorem dX4_include_67 : decode cX4_include 67 = .ok (.aload_n 0, 1) := by decide +kernel
theorem dX4_include_68 : decode cX4_include 68 = .ok (.getfield 38, 3) := by decide +kernel
theorem dX4_include_71 : decode cX4_include 71 = .ok (.iload_n 1, 1) := by decide +kernel
theorem dX4_include_72 : decode cX4_include 72 = .ok (.laload, 1) := by decide +kernel
theorem dX4_include_73 : decode cX4_include 73 = .ok (.lastore, 1) := by decide +kernel
theorem dX4_include_74 : decode cX4_include 74 = .ok (.return_, 1) := by decide +kernel
def fX4_include_44 (n : Nat) (x1 : Int32) (x8 : Int64) (s0 : Int64) (s1 : Int32) (w : Wd) : Option (Wd) :=
    (ez_stL w 9 120 s1 s0).bind fun w2 =>
    (ez_ldL w2 10 120 x1).bind fun y4 =>
    if (lg_cmp x8 y4) ≤ 0 then
      (ez_ldL w2 10 120 x1).bind fun y7 =>
      (ez_stL w2 10 120 x1 y7).bind fun w9 =>
      some w9
    else
      (ez_stL w2 10 120 x1 x8).bind fun w11 =>
      some w11
def fX4_include (n : Nat) (x1 : Int32) (x2 : Int64) (x4 : Int64) (w : Wd) : Option (Wd) :=
    (fX4_floorOf n x2 x4).bind fun z1 =>
    (fX4_ceilOf n x2 x4).bind fun z3 =>
    (ez_ldL w 9 120 x1).bind fun y6 =>
    if 0 ≤ (lg_cmp z1 y6) then
      (ez_ldL w 9 120 x1).bind fun y9 =>
      fX4_include_44 n x1 z3 y9 x1 w
    else
      fX4_include_44 n x1 z3 z1 x1 w
set_option maxHeartbeats 4000000 in
set_option maxRecDepth 100000 in
theorem tX4_include_44 {p : Program} {l : Launch} {e : Env} {s : State} {m : MethodId} {args : Array Value} {below : List Frame} {meth : Method} {c : Code} {A : Nat → Prop} {D : va_G} {a : Nat → Nat} {k : Nat → ClassId} {z : Wd} (C0 : ez_C p s m args meth c cX4_include none 10 RX4 A) (hK : va_K D vwCl (tM k) s) : ∀ (n : Nat) (H : Heap) (locs : List Loc) (ls : Array Slot) (x1 : Int32) (x8 : Int64) (s0 : Int64) (s1 : Int32) (w : Wd), lv_has ls 10 [(0, .ref (a 0)), (1, .int x1), (8, .long x8)] → va_P D vwCl (wM a k w) H → va_D A (wM a k w) → va_S A s.heap H locs → fX4_include_44 n x1 x8 s0 s1 w = some z → W p l e ({ frames := 2, cells := 0, slots := 0, locals := 49 } : Room) s m args below meth c H locs 0 0 (MQ below (ez_Qv D (tM k) A (wM a k z)) args s 0 0 A) (F0 m 44 ls [.long s0, .int s1, .ref (a 9)]) := by
  intro n
  intro H locs ls x1 x8 s0 s1 w hl hP hD hS h
  rw [fX4_include_44] at h
  have C1 := C0
  obtain ⟨hx, hb, hr, hml, hown, hw, hlk, hA, hN⟩ := C1
  replace h := ez_bd h
  obtain ⟨w2, e1, h⟩ := h
  obtain ⟨e1i, e1⟩ := ez_stLs e1
  refine va_last (D := D) (pc := 44) hx hb hK hP hD hS 9 8 rfl rfl e1i dX4_include_44 (fun H locs hP hD hS => ?_)
  replace hP : va_P D vwCl (wM a k w2) H := by rw [e1]; exact hP
  replace hD : va_D A (wM a k w2) := by rw [e1]; exact hD
  refine lv_aload_n (pc := 45) hx hb dX4_include_45 rfl (lv_at hl 0 rfl) ?_
  refine va_get (D := D) (pc := 46) hx hb hw inX4 hown hK hP 0 rfl rfl 13 (by decide) (hw _ mw440) (fun _ h9 => h9) rfl dX4_include_46 ?_
  refine lv_iload_n (pc := 49) hx hb dX4_include_49 rfl (lv_at hl 1 rfl) ?_
  refine lv_lload (pc := 50) hx hb dX4_include_50 (lv_at hl 2 rfl) ?_
  refine lv_aload_n (pc := 52) hx hb dX4_include_52 rfl (lv_at hl 0 rfl) ?_
  refine va_get (D := D) (pc := 53) hx hb hw inX4 hown hK hP 0 rfl rfl 13 (by decide) (hw _ mw440) (fun _ h9 => h9) rfl dX4_include_53 ?_
  refine lv_iload_n (pc := 56) hx hb dX4_include_56 rfl (lv_at hl 1 rfl) ?_
  replace h := ez_bd h
  obtain ⟨y4, e3, h⟩ := h
  obtain ⟨e3i, e3⟩ := ez_ldLs e3
  refine va_lald (D := D) (pc := 57) hx hb hK hP 10 9 rfl rfl e3i dX4_include_57 ?_
  refine lv_topl (fun y9 hy9 => ?_)
  obtain rfl : y4 = y9 := e3.trans hy9.symm
  refine W.lcmp (pc := 58) hx hb dX4_include_58 ?_
  refine lv_if_le (pc := 59) (tgt := 67) hx hb dX4_include_59 (by decide) (fun c5 => ?_) (fun c5 => ?_)
  · replace h := ez_it c5 h
    refine lv_aload_n (pc := 67) hx hb dX4_include_67 rfl (lv_at hl 0 rfl) ?_
    refine va_get (D := D) (pc := 68) hx hb hw inX4 hown hK hP 0 rfl rfl 13 (by decide) (hw _ mw440) (fun _ h9 => h9) rfl dX4_include_68 ?_
    refine lv_iload_n (pc := 71) hx hb dX4_include_71 rfl (lv_at hl 1 rfl) ?_
    replace h := ez_bd h
    obtain ⟨y7, e6, h⟩ := h
    obtain ⟨e6i, e6⟩ := ez_ldLs e6
    refine va_lald (D := D) (pc := 72) hx hb hK hP 10 9 rfl rfl e6i dX4_include_72 ?_
    refine lv_topl (fun y9 hy9 => ?_)
    obtain rfl : y7 = y9 := e6.trans hy9.symm
    replace h := ez_bd h
    obtain ⟨w9, e8, h⟩ := h
    obtain ⟨e8i, e8⟩ := ez_stLs e8
    refine va_last (D := D) (pc := 73) hx hb hK hP hD hS 10 9 rfl rfl e8i dX4_include_73 (fun H locs hP hD hS => ?_)
    replace hP : va_P D vwCl (wM a k w9) H := by rw [e8]; exact hP
    replace hD : va_D A (wM a k w9) := by rw [e8]; exact hD
    obtain rfl := ez_r1 h
    exact ez_retV C0 hP hD hK hS dX4_include_74
  · replace h := ez_if c5 h
    refine lv_lload (pc := 62) hx hb dX4_include_62 (lv_at hl 2 rfl) ?_
    refine lv_goto (pc := 64) (tgt := 73) hx hb dX4_include_64 (by decide) ?_
    replace h := ez_bd h
    obtain ⟨w11, e10, h⟩ := h
    obtain ⟨e10i, e10⟩ := ez_stLs e10
    refine va_last (D := D) (pc := 73) hx hb hK hP hD hS 10 9 rfl rfl e10i dX4_include_73 (fun H locs hP hD hS => ?_)
    replace hP : va_P D vwCl (wM a k w11) H := by rw [e10]; exact hP
    replace hD : va_D A (wM a k w11) := by rw [e10]; exact hD
    obtain rfl := ez_r1 h
    exact ez_retV C0 hP hD hK hS dX4_include_74
set_option maxHeartbeats 4000000 in
set_option maxRecDepth 100000 in
theorem tX4_include_0 {p : Program} {l : Launch} {e : Env} {s : State} {m : MethodId} {args : Array Value} {below : List Frame} {meth : Method} {c : Code} {A : Nat → Prop} {D : va_G} {a : Nat → Nat} {k : Nat → ClassId} {z : Wd} (C0 : ez_C p s m args meth c cX4_include none 10 RX4 A) (hK : va_K D vwCl (tM k) s) : ∀ (n : Nat) (H : Heap) (locs : List Loc) (ls : Array Slot) (x1 : Int32) (x2 : Int64) (x4 : Int64) (w : Wd), lv_has ls 10 [(0, .ref (a 0)), (1, .int x1), (2, .long x2), (4, .long x4)] → va_P D vwCl (wM a k w) H → va_D A (wM a k w) → va_S A s.heap H locs → fX4_include n x1 x2 x4 w = some z → W p l e ({ frames := 2, cells := 0, slots := 0, locals := 49 } : Room) s m args below meth c H locs 0 0 (MQ below (ez_Qv D (tM k) A (wM a k z)) args s 0 0 A) (F0 m 0 ls []) := by
  intro n
  intro H locs ls x1 x2 x4 w hl hP hD hS h
  rw [fX4_include] at h
  have C1 := C0
  obtain ⟨hx, hb, hr, hml, hown, hw, hlk, hA, hN⟩ := C1
  refine lv_lload_n (pc := 0) hx hb dX4_include_0 rfl (lv_at hl 2 rfl) ?_
  refine lv_lload (pc := 1) hx hb dX4_include_1 (lv_at hl 3 rfl) ?_
  replace h := ez_bd h
  obtain ⟨z1, e2, h⟩ := h
  refine ez_croL (r := z1) (pc := 3) (va_runS (g := F0 m 3 ls [.long x4, .long x2]) (As := [.long x2, .long x4]) (rest := []) ⟨hx, hb, hml, hown, hw⟩ (kX4_floorOf l n x2 x4 z1 e2) (va_cwS 2 hw (ez_gS mw600 mw601 mw4 mw602) rfl rfl rfl (by decide +kernel) ⟨Nat.le_of_ble_eq_true rfl, Nat.le_of_ble_eq_true rfl⟩) (ez_preRS hN) rfl rfl hl.1 rfl (lv_room (Nat.le_of_ble_eq_true rfl)) dX4_include_3 ⟨Nat.le_refl _, Nat.le_refl _⟩) ?_
  refine lv_lstore (pc := 6) hx hb dX4_include_6 hl (by decide) rfl (fun ls hl => ?_)
  replace hl : lv_has ls 10 [(6, .long z1), (0, .ref (a 0)), (1, .int x1), (2, .long x2), (4, .long x4)] := hl
  refine lv_lload_n (pc := 8) hx hb dX4_include_8 rfl (lv_at hl 3 rfl) ?_
  refine lv_lload (pc := 9) hx hb dX4_include_9 (lv_at hl 4 rfl) ?_
  replace h := ez_bd h
  obtain ⟨z3, e4, h⟩ := h
  refine ez_croL (r := z3) (pc := 11) (va_runS (g := F0 m 11 ls [.long x4, .long x2]) (As := [.long x2, .long x4]) (rest := []) ⟨hx, hb, hml, hown, hw⟩ (kX4_ceilOf l n x2 x4 z3 e4) (va_cwS 2 hw (ez_gS mw603 mw604 mw4 mw605) rfl rfl rfl (by decide +kernel) ⟨Nat.le_of_ble_eq_true rfl, Nat.le_of_ble_eq_true rfl⟩) (ez_preRS hN) rfl rfl hl.1 rfl (lv_room (Nat.le_of_ble_eq_true rfl)) dX4_include_11 ⟨Nat.le_refl _, Nat.le_refl _⟩) ?_
  refine lv_lstore (pc := 14) hx hb dX4_include_14 hl (by decide) rfl (fun ls hl => ?_)
  replace hl : lv_has ls 10 [(8, .long z3), (6, .long z1), (0, .ref (a 0)), (1, .int x1), (2, .long x2), (4, .long x4)] := hl
  refine lv_aload_n (pc := 16) hx hb dX4_include_16 rfl (lv_at hl 2 rfl) ?_
  refine va_get (D := D) (pc := 17) hx hb hw inX4 hown hK hP 0 rfl rfl 12 (by decide) (hw _ mw439) (fun _ h9 => h9) rfl dX4_include_17 ?_
  refine lv_iload_n (pc := 20) hx hb dX4_include_20 rfl (lv_at hl 3 rfl) ?_
  refine lv_lload (pc := 21) hx hb dX4_include_21 (lv_at hl 1 rfl) ?_
  refine lv_aload_n (pc := 23) hx hb dX4_include_23 rfl (lv_at hl 2 rfl) ?_
  refine va_get (D := D) (pc := 24) hx hb hw inX4 hown hK hP 0 rfl rfl 12 (by decide) (hw _ mw439) (fun _ h9 => h9) rfl dX4_include_24 ?_
  refine lv_iload_n (pc := 27) hx hb dX4_include_27 rfl (lv_at hl 3 rfl) ?_
  replace h := ez_bd h
  obtain ⟨y6, e5, h⟩ := h
  obtain ⟨e5i, e5⟩ := ez_ldLs e5
  refine va_lald (D := D) (pc := 28) hx hb hK hP 9 8 rfl rfl e5i dX4_include_28 ?_
  refine lv_topl (fun y9 hy9 => ?_)
  obtain rfl : y6 = y9 := e5.trans hy9.symm
  refine W.lcmp (pc := 29) hx hb dX4_include_29 ?_
  refine lv_if_ge (pc := 30) (tgt := 38) hx hb dX4_include_30 (by decide) (fun c7 => ?_) (fun c7 => ?_)
  · replace h := ez_it c7 h
    refine lv_aload_n (pc := 38) hx hb dX4_include_38 rfl (lv_at hl 2 rfl) ?_
    refine va_get (D := D) (pc := 39) hx hb hw inX4 hown hK hP 0 rfl rfl 12 (by decide) (hw _ mw439) (fun _ h9 => h9) rfl dX4_include_39 ?_
    refine lv_iload_n (pc := 42) hx hb dX4_include_42 rfl (lv_at hl 3 rfl) ?_
    replace h := ez_bd h
    obtain ⟨y9, e8, h⟩ := h
    obtain ⟨e8i, e8⟩ := ez_ldLs e8
    refine va_lald (D := D) (pc := 43) hx hb hK hP 9 8 rfl rfl e8i dX4_include_43 ?_
    refine lv_topl (fun yq hy9 => ?_)
    obtain rfl : y9 = yq := e8.trans hy9.symm
    exact tX4_include_44 C0 hK  n _ _ _ x1 z3 y9 x1 w (lv_sub hl [2, 3, 0] rfl) hP hD hS h
  · replace h := ez_if c7 h
    refine lv_lload (pc := 33) hx hb dX4_include_33 (lv_at hl 1 rfl) ?_
    refine lv_goto (pc := 35) (tgt := 44) hx hb dX4_include_35 (by decide) ?_
    exact tX4_include_44 C0 hK  n _ _ _ x1 z3 z1 x1 w (lv_sub hl [2, 3, 0] rfl) hP hD hS h
set_option maxRecDepth 100000 in
theorem kX4_include (l : Launch) (D : va_G) (a : Nat → Nat) (k : Nat → ClassId) (n : Nat) (x1 : Int32) (x2 : Int64) (x4 : Int64) (w : Wd) (z : Wd) (h : fX4_include n x1 x2 x4 w = some z) (sz : Nat) : Met l yX4_include wsX4_include ({ frames := 2, cells := 0, slots := 0, locals := 49 } : Room) (ez_Pc D (tM k) [.ref (a 0), .int x1, .long x2, .long x4] (wM a k w) sz) (ez_Qv D (tM k) (va_A (wM a k w) sz) (wM a k z)) 0 0 (va_A (wM a k w) sz) :=
  ez_mk (Qf := fun A => (ez_Qv D (tM k) A (wM a k z))) (by decide) rfl (Nat.le_of_ble_eq_true rfl) (fun p e s m below meth c A ls C0 _ hl hP hD hK => tX4_include_0 C0 hK n s.heap [] ls x1 x2 x4 w (lv_sub (l := [(0, .ref (a 0)), (1, .int x1), (2, .long x2), (4, .long x4)]) hl [0, 1, 2, 3] rfl) hP hD va_S.rf h) sz
/-! EnclosureCalculatorModel ends -/
theorem dX4_ends_0 : decode cX4_ends 0 = .ok (.aload_n 0, 1) := by decide +kernel
theorem dX4_ends_1 : decode cX4_ends 1 = .ok (.getfield 16, 3) := by decide +kernel
theorem dX4_ends_4 : decode cX4_ends 4 = .ok (.iload_n 1, 1) := by decide +kernel
theorem dX4_ends_5 : decode cX4_ends 5 = .ok (.iaload, 1) := by decide +kernel
theorem dX4_ends_6 : decode cX4_ends 6 = .ok (.istore 6, 2) := by decide +kernel
theorem dX4_ends_8 : decode cX4_ends 8 = .ok (.aload_n 0, 1) := by decide +kernel
theorem dX4_ends_9 : decode cX4_ends 9 = .ok (.getfield 34, 3) := by decide +kernel
theorem dX4_ends_12 : decode cX4_ends 12 = .ok (.iload_n 1, 1) := by decide +kernel
theorem dX4_ends_13 : decode cX4_ends 13 = .ok (.ldc2_w 126, 3) := by decide +kernel
theorem dX4_ends_16 : decode cX4_ends 16 = .ok (.lastore, 1) := by decide +kernel
theorem dX4_ends_17 : decode cX4_ends 17 = .ok (.aload_n 0, 1) := by decide +kernel
theorem dX4_ends_18 : decode cX4_ends 18 = .ok (.getfield 38, 3) := by decide +kernel
theorem dX4_ends_21 : decode cX4_ends 21 = .ok (.iload_n 1, 1) := by decide +kernel
theorem dX4_ends_22 : decode cX4_ends 22 = .ok (.ldc2_w 128, 3) := by decide +kernel
theorem dX4_ends_25 : decode cX4_ends 25 = .ok (.lastore, 1) := by decide +kernel
theorem dX4_ends_26 : decode cX4_ends 26 = .ok (.iconst 0, 1) := by decide +kernel
theorem dX4_ends_27 : decode cX4_ends 27 = .ok (.istore 7, 2) := by decide +kernel
theorem dX4_ends_29 : decode cX4_ends 29 = .ok (.iload 7, 2) := by decide +kernel
theorem dX4_ends_31 : decode cX4_ends 31 = .ok (.iconst 4, 1) := by decide +kernel
theorem dX4_ends_32 : decode cX4_ends 32 = .ok (.if_icmp .ge 215, 3) := by decide +kernel
theorem dX4_ends_35 : decode cX4_ends 35 = .ok (.iload 7, 2) := by decide +kernel
theorem dX4_ends_37 : decode cX4_ends 37 = .ok (.iconst 1, 1) := by decide +kernel
theorem dX4_ends_38 : decode cX4_ends 38 = .ok (.iand, 1) := by decide +kernel
theorem dX4_ends_39 : decode cX4_ends 39 = .ok (.ifCond .ne 12, 3) := by decide +kernel
theorem dX4_ends_42 : decode cX4_ends 42 = .ok (.aload_n 0, 1) := by decide +kernel
theorem dX4_ends_43 : decode cX4_ends 43 = .ok (.getfield 34, 3) := by decide +kernel
theorem dX4_ends_46 : decode cX4_ends 46 = .ok (.iload_n 2, 1) := by decide +kernel
theorem dX4_ends_47 : decode cX4_ends 47 = .ok (.laload, 1) := by decide +kernel
theorem dX4_ends_48 : decode cX4_ends 48 = .ok (.goto 9, 3) := by decide +kernel
theorem dX4_ends_51 : decode cX4_ends 51 = .ok (.aload_n 0, 1) := by decide +kernel
theorem dX4_ends_52 : decode cX4_ends 52 = .ok (.getfield 38, 3) := by decide +kernel
theorem dX4_ends_55 : decode cX4_ends 55 = .ok (.iload_n 2, 1) := by decide +kernel
theorem dX4_ends_56 : decode cX4_ends 56 = .ok (.laload, 1) := by decide +kernel
theorem dX4_ends_57 : decode cX4_ends 57 = .ok (.lstore 8, 2) := by decide +kernel
theorem dX4_ends_59 : decode cX4_ends 59 = .ok (.iload 7, 2) := by decide +kernel
theorem dX4_ends_61 : decode cX4_ends 61 = .ok (.iconst 2, 1) := by decide +kernel
theorem dX4_ends_62 : decode cX4_ends 62 = .ok (.iand, 1) := by decide +kernel
theorem dX4_ends_63 : decode cX4_ends 63 = .ok (.ifCond .ne 12, 3) := by decide +kernel
theorem dX4_ends_66 : decode cX4_ends 66 = .ok (.aload_n 0, 1) := by decide +kernel
theorem dX4_ends_67 : decode cX4_ends 67 = .ok (.getfield 34, 3) := by decide +kernel
theorem dX4_ends_70 : decode cX4_ends 70 = .ok (.iload_n 3, 1) := by decide +kernel
theorem dX4_ends_71 : decode cX4_ends 71 = .ok (.laload, 1) := by decide +kernel
theorem dX4_ends_72 : decode cX4_ends 72 = .ok (.goto 9, 3) := by decide +kernel
theorem dX4_ends_75 : decode cX4_ends 75 = .ok (.aload_n 0, 1) := by decide +kernel
theorem dX4_ends_76 : decode cX4_ends 76 = .ok (.getfield 38, 3) := by decide +kernel
theorem dX4_ends_79 : decode cX4_ends 79 = .ok (.iload_n 3, 1) := by decide +kernel
theorem dX4_ends_80 : decode cX4_ends 80 = .ok (.laload, 1) := by decide +kernel
theorem dX4_ends_81 : decode cX4_ends 81 = .ok (.lstore 10, 2) := by decide +kernel
theorem dX4_ends_83 : decode cX4_ends 83 = .ok (.iload 6, 2) := by decide +kernel
theorem dX4_ends_85 : decode cX4_ends 85 = .ok (.bipush 7, 2) := by decide +kernel
theorem dX4_ends_87 : decode cX4_ends 87 = .ok (.if_icmp .ne 18, 3) := by decide +kernel
theorem dX4_ends_90 : decode cX4_ends 90 = .ok (.aload_n 0, 1) := by decide +kernel
theorem dX4_ends_91 : decode cX4_ends 91 = .ok (.iload_n 1, 1) := by decide +kernel
theorem dX4_ends_92 : decode cX4_ends 92 = .ok (.lload 8, 2) := by decide +kernel
theorem dX4_ends_94 : decode cX4_ends 94 = .ok (.lload 8, 2) := by decide +kernel
theorem dX4_ends_96 : decode cX4_ends 96 = .ok (.lmul, 1) := by decide +kernel
theorem dX4_ends_97 : decode cX4_ends 97 = .ok (.lload 4, 2) := by decide +kernel
theorem dX4_ends_99 : decode cX4_ends 99 = .ok (.invokevirtual 130, 3) := by decide +kernel
theorem dX4_ends_102 : decode cX4_ends 102 = .ok (.goto 139, 3) := by decide +kernel
theorem dX4_ends_105 : decode cX4_ends 105 = .ok (.iload 6, 2) := by decide +kernel
theorem dX4_ends_107 : decode cX4_ends 107 = .ok (.iconst 4, 1) := by decide +kernel
theorem dX4_ends_108 : decode cX4_ends 108 = .ok (.if_icmp .ne 18, 3) := by decide +kernel
theorem dX4_ends_111 : decode cX4_ends 111 = .ok (.aload_n 0, 1) := by decide +kernel
theorem dX4_ends_112 : decode cX4_ends 112 = .ok (.iload_n 1, 1) := by decide +kernel
theorem dX4_ends_113 : decode cX4_ends 113 = .ok (.lload 8, 2) := by decide +kernel
theorem dX4_ends_115 : decode cX4_ends 115 = .ok (.lload 10, 2) := by decide +kernel
theorem dX4_ends_117 : decode cX4_ends 117 = .ok (.lmul, 1) := by decide +kernel
theorem dX4_ends_118 : decode cX4_ends 118 = .ok (.lload 4, 2) := by decide +kernel
theorem dX4_ends_120 : decode cX4_ends 120 = .ok (.invokevirtual 130, 3) := by decide +kernel
theorem dX4_ends_123 : decode cX4_ends 123 = .ok (.goto 118, 3) := by decide +kernel
theorem dX4_ends_126 : decode cX4_ends 126 = .ok (.iload 6, 2) := by decide +kernel
theorem dX4_ends_128 : decode cX4_ends 128 = .ok (.iconst 5, 1) := by decide +kernel
theorem dX4_ends_129 : decode cX4_ends 129 = .ok (.if_icmp .ne 18, 3) := by decide +kernel
theorem dX4_ends_132 : decode cX4_ends 132 = .ok (.aload_n 0, 1) := by decide +kernel
theorem dX4_ends_133 : decode cX4_ends 133 = .ok (.iload_n 1, 1) := by decide +kernel
theorem dX4_ends_134 : decode cX4_ends 134 = .ok (.lload 8, 2) := by decide +kernel
theorem dX4_ends_136 : decode cX4_ends 136 = .ok (.lload 4, 2) := by decide +kernel
theorem dX4_ends_138 : decode cX4_ends 138 = .ok (.lmul, 1) := by decide +kernel
theorem dX4_ends_139 : decode cX4_ends 139 = .ok (.lload 10, 2) := by decide +kernel
theorem dX4_ends_141 : decode cX4_ends 141 = .ok (.invokevirtual 130, 3) := by decide +kernel
theorem dX4_ends_144 : decode cX4_ends 144 = .ok (.goto 97, 3) := by decide +kernel
theorem dX4_ends_147 : decode cX4_ends 147 = .ok (.iload 6, 2) := by decide +kernel
theorem dX4_ends_149 : decode cX4_ends 149 = .ok (.bipush 6, 2) := by decide +kernel
theorem dX4_ends_151 : decode cX4_ends 151 = .ok (.if_icmp .ne 53, 3) := by decide +kernel
theorem dX4_ends_154 : decode cX4_ends 154 = .ok (.lload 8, 2) := by decide +kernel
theorem dX4_ends_156 : decode cX4_ends 156 = .ok (.lload 4, 2) := by decide +kernel
theorem dX4_ends_158 : decode cX4_ends 158 = .ok (.lmul, 1) := by decide +kernel
theorem dX4_ends_159 : decode cX4_ends 159 = .ok (.invokestatic 134, 3) := by decide +kernel
theorem dX4_ends_162 : decode cX4_ends 162 = .ok (.lstore 12, 2) := by decide +kernel
theorem dX4_ends_164 : decode cX4_ends 164 = .ok (.aload_n 0, 1) := by decide +kernel
theorem dX4_ends_165 : decode cX4_ends 165 = .ok (.iload_n 1, 1) := by decide +kernel
theorem dX4_ends_166 : decode cX4_ends 166 = .ok (.lload 12, 2) := by decide +kernel
theorem dX4_ends_168 : decode cX4_ends 168 = .ok (.lconst 1, 1) := by decide +kernel
theorem dX4_ends_169 : decode cX4_ends 169 = .ok (.invokevirtual 130, 3) := by decide +kernel
theorem dX4_ends_172 : decode cX4_ends 172 = .ok (.aload_n 0, 1) := by decide +kernel
theorem dX4_ends_173 : decode cX4_ends 173 = .ok (.iload_n 1, 1) := by decide +kernel
theorem dX4_ends_174 : decode cX4_ends 174 = .ok (.lload 12, 2) := by decide +kernel
theorem dX4_ends_176 : decode cX4_ends 176 = .ok (.lload 12, 2) := by decide +kernel
theorem dX4_ends_178 : decode cX4_ends 178 = .ok (.lmul, 1) := by decide +kernel
theorem dX4_ends_179 : decode cX4_ends 179 = .ok (.lload 8, 2) := by decide +kernel
theorem dX4_ends_181 : decode cX4_ends 181 = .ok (.lload 4, 2) := by decide +kernel
theorem dX4_ends_183 : decode cX4_ends 183 = .ok (.lmul, 1) := by decide +kernel
theorem dX4_ends_184 : decode cX4_ends 184 = .ok (.lcmp, 1) := by decide +kernel
theorem dX4_ends_185 : decode cX4_ends 185 = .ok (.ifCond .ge 10, 3) := by decide +kernel
theorem dX4_ends_188 : decode cX4_ends 188 = .ok (.lload 12, 2) := by decide +kernel
theorem dX4_ends_190 : decode cX4_ends 190 = .ok (.lconst 1, 1) := by decide +kernel
theorem dX4_ends_191 : decode cX4_ends 191 = .ok (.ladd, 1) := by decide +kernel
theorem dX4_ends_192 : decode cX4_ends 192 = .ok (.goto 5, 3) := by decide +kernel
theorem dX4_ends_195 : decode cX4_ends 195 = .ok (.lload 12, 2) := by decide +kernel
theorem dX4_ends_197 : decode cX4_ends 197 = .ok (.lconst 1, 1) := by decide +kernel
theorem dX4_ends_198 : decode cX4_ends 198 = .ok (.invokevirtual 130, 3) := by decide +kernel
theorem dX4_ends_201 : decode cX4_ends 201 = .ok (.goto 40, 3) := by decide +kernel
theorem dX4_ends_204 : decode cX4_ends 204 = .ok (.aload_n 0, 1) := by decide +kernel
theorem dX4_ends_205 : decode cX4_ends 205 = .ok (.iload_n 1, 1) := by decide +kernel
theorem dX4_ends_206 : decode cX4_ends 206 = .ok (.iload 6, 2) := by decide +kernel
theorem dX4_ends_208 : decode cX4_ends 208 = .ok (.iconst 2, 1) := by decide +kernel
theorem dX4_ends_209 : decode cX4_ends 209 = .ok (.if_icmp .ne 11, 3) := by decide +kernel
theorem dX4_ends_212 : decode cX4_ends 212 = .ok (.lload 8, 2) := by decide +kernel
theorem dX4_ends_214 : decode cX4_ends 214 = .ok (.lload 10, 2) := by decide +kernel
theorem dX4_ends_216 : decode cX4_ends 216 = .ok (.ladd, 1) := by decide +kernel
theorem dX4_ends_217 : decode cX4_ends 217 = .ok (.goto 20, 3) := by decide +kernel
theorem dX4_ends_220 : decode cX4_ends 220 = .ok (.iload 6, 2) := by decide +kernel
theorem dX4_ends_222 : decode cX4_ends 222 = .ok (.iconst 3, 1) := by decide +kernel
theorem dX4_ends_223 : decode cX4_ends 223 = .ok (.if_icmp .ne 11, 3) := by decide +kernel
theorem dX4_ends_226 : decode cX4_ends 226 = .ok (.lload 8, 2) := by decide +kernel
theorem dX4_ends_228 : decode cX4_ends 228 = .ok (.lload 10, 2) := by decide +kernel
theorem dX4_ends_230 : decode cX4_ends 230 = .ok (.lsub, 1) := by decide +kernel
theorem dX4_ends_231 : decode cX4_ends 231 = .ok (.goto 6, 3) := by decide +kernel
theorem dX4_ends_234 : decode cX4_ends 234 = .ok (.lload 8, 2) := by decide +kernel
theorem dX4_ends_236 : decode cX4_ends 236 = .ok (.lneg, 1) := by decide +kernel
theorem dX4_ends_237 : decode cX4_ends 237 = .ok (.lconst 1, 1) := by decide +kernel
theorem dX4_ends_238 : decode cX4_ends 238 = .ok (.invokevirtual 130, 3) := by decide +kernel
theorem dX4_ends_241 : decode cX4_ends 241 = .ok (.iinc 7 1, 3) := by decide +kernel
theorem dX4_ends_244 : decode cX4_ends 244 = .ok (.goto (-215), 3) := by decide +kernel
theorem dX4_ends_247 : decode cX4_ends 247 = .ok (.iload 6, 2) := by decide +kernel
theorem dX4_ends_249 : decode cX4_ends 249 = .ok (.bipush 7, 2) := by decide +kernel
theorem dX4_ends_251 : decode cX4_ends 251 = .ok (.if_icmp .ne 32, 3) := by decide +kernel
theorem dX4_ends_254 : decode cX4_ends 254 = .ok (.aload_n 0, 1) := by decide +kernel
theorem dX4_ends_255 : decode cX4_ends 255 = .ok (.getfield 34, 3) := by decide +kernel
theorem dX4_ends_258 : decode cX4_ends 258 = .ok (.iload_n 2, 1) := by decide +kernel
theorem dX4_ends_259 : decode cX4_ends 259 = .ok (.laload, 1) := by decide +kernel
theorem dX4_ends_260 : decode cX4_ends 260 = .ok (.lconst 0, 1) := by decide +kernel
theorem dX4_ends_261 : decode cX4_ends 261 = .ok (.lcmp, 1) := by decide +kernel
theorem dX4_ends_262 : decode cX4_ends 262 = .ok (.ifCond .gt 21, 3) := by decide +kernel
theorem dX4_ends_265 : decode cX4_ends 265 = .ok (.aload_n 0, 1) := by decide +kernel
theorem dX4_ends_266 : decode cX4_ends 266 = .ok (.getfield 38, 3) := by decide +kernel
theorem dX4_ends_269 : decode cX4_ends 269 = .ok (.iload_n 2, 1) := by decide +kernel
theorem dX4_ends_270 : decode cX4_ends 270 = .ok (.laload, 1) := by decide +kernel
theorem dX4_ends_271 : decode cX4_ends 271 = .ok (.lconst 0, 1) := by decide +kernel
theorem dX4_ends_272 : decode cX4_ends 272 = .ok (.lcmp, 1) := by decide +kernel
theorem dX4_ends_273 : decode cX4_ends 273 = .ok (.ifCond .lt 10, 3) := by decide +kernel
theorem dX4_ends_276 : decode cX4_ends 276 = .ok (.aload_n 0, 1) := by decide +kernel
theorem dX4_ends_277 : decode cX4_ends 277 = .ok (.getfield 34, 3) := by decide +kernel
theorem dX4_ends_280 : decode cX4_ends 280 = .ok (.iload_n 1, 1) := by decide +kernel
theorem dX4_ends_281 : decode cX4_ends 281 = .ok (.lconst 0, 1) := by decide +kernel
theorem dX4_ends_282 : decode cX4_ends 282 = .ok (.lastore, 1) := by decide +kernel
theorem dX4_ends_283 : decode cX4_ends 283 = .ok (.return_, 1) := by decide +kernel
def fX4_ends_81 (rec29 : Int32 → Int32 → Int32 → Int64 → Int32 → Int32 → Wd → Option (Wd)) (n : Nat) (x1 : Int32) (x2 : Int32) (x3 : Int32) (x4 : Int64) (x6 : Int32) (x7 : Int32) (x8 : Int64) (s0 : Int64) (w : Wd) : Option (Wd) :=
    if x6 = 7 then
      (fX4_include n x1 (x8 * x8) x4 w).bind fun z26 =>
      rec29 x1 x2 x3 x4 x6 (x7 + 1) z26
    else
      if x6 = 4 then
        (fX4_include n x1 (x8 * s0) x4 w).bind fun z24 =>
        rec29 x1 x2 x3 x4 x6 (x7 + 1) z24
      else
        if x6 = 5 then
          (fX4_include n x1 (x8 * x4) s0 w).bind fun z22 =>
          rec29 x1 x2 x3 x4 x6 (x7 + 1) z22
        else
          if x6 = 6 then
            (fX4_rootOf n (x8 * x4)).bind fun z13 =>
            (fX4_include n x1 z13 1 w).bind fun z15 =>
            if 0 ≤ (lg_cmp (z13 * z13) (x8 * x4)) then
              (fX4_include n x1 z13 1 z15).bind fun z18 =>
              rec29 x1 x2 x3 x4 x6 (x7 + 1) z18
            else
              (fX4_include n x1 (z13 + 1) 1 z15).bind fun z20 =>
              rec29 x1 x2 x3 x4 x6 (x7 + 1) z20
          else
            if x6 = 2 then
              (fX4_include n x1 (x8 + s0) 1 w).bind fun z11 =>
              rec29 x1 x2 x3 x4 x6 (x7 + 1) z11
            else
              if x6 = 3 then
                (fX4_include n x1 (x8 - s0) 1 w).bind fun z9 =>
                rec29 x1 x2 x3 x4 x6 (x7 + 1) z9
              else
                (fX4_include n x1 (-x8) 1 w).bind fun z7 =>
                rec29 x1 x2 x3 x4 x6 (x7 + 1) z7
def fX4_ends_29 : Nat → Int32 → Int32 → Int32 → Int64 → Int32 → Int32 → Wd → Option (Wd)
  | 0, _, _, _, _, _, _, _ => none
  | n + 1, x1, x2, x3, x4, x6, x7, w =>
    if 4 ≤ x7 then
      if x6 = 7 then
        (ez_ldL w 9 120 x2).bind fun y4 =>
        if 0 < (lg_cmp y4 0) then
          some w
        else
          (ez_ldL w 10 120 x2).bind fun y7 =>
          if (lg_cmp y7 0) < 0 then
            some w
          else
            (ez_stL w 9 120 x1 0).bind fun w10 =>
            some w10
      else
        some w
    else
      if (x7 &&& 1) = 0 then
        (ez_ldL w 9 120 x2).bind fun y20 =>
        if (x7 &&& 2) = 0 then
          (ez_ldL w 9 120 x3).bind fun y25 =>
          fX4_ends_81 (fX4_ends_29 n) n x1 x2 x3 x4 x6 x7 y20 y25 w
        else
          (ez_ldL w 10 120 x3).bind fun y23 =>
          fX4_ends_81 (fX4_ends_29 n) n x1 x2 x3 x4 x6 x7 y20 y23 w
      else
        (ez_ldL w 10 120 x2).bind fun y13 =>
        if (x7 &&& 2) = 0 then
          (ez_ldL w 9 120 x3).bind fun y18 =>
          fX4_ends_81 (fX4_ends_29 n) n x1 x2 x3 x4 x6 x7 y13 y18 w
        else
          (ez_ldL w 10 120 x3).bind fun y16 =>
          fX4_ends_81 (fX4_ends_29 n) n x1 x2 x3 x4 x6 x7 y13 y16 w
def fX4_ends (n : Nat) (x1 : Int32) (x2 : Int32) (x3 : Int32) (x4 : Int64) (w : Wd) : Option (Wd) :=
    (ez_ldI w 3 120 x1).bind fun y2 =>
    (ez_stL w 9 120 x1 4611686018427387904).bind fun w4 =>
    (ez_stL w4 10 120 x1 (-4611686018427387904)).bind fun w6 =>
    fX4_ends_29 n x1 x2 x3 x4 y2 0 w6
set_option maxHeartbeats 4000000 in
set_option maxRecDepth 100000 in
theorem tX4_ends_81 {p : Program} {l : Launch} {e : Env} {s : State} {m : MethodId} {args : Array Value} {below : List Frame} {meth : Method} {c : Code} {A : Nat → Prop} {D : va_G} {a : Nat → Nat} {k : Nat → ClassId} {z : Wd} (C0 : ez_C p s m args meth c cX4_ends none 14 RX4 A) (hK : va_K D vwCl (tM k) s) (rec29 : Int32 → Int32 → Int32 → Int64 → Int32 → Int32 → Wd → Option (Wd)) (hrec29 : ∀ (H : Heap) (locs : List Loc) (ls : Array Slot) (x1 : Int32) (x2 : Int32) (x3 : Int32) (x4 : Int64) (x6 : Int32) (x7 : Int32) (w : Wd), lv_has ls 14 [(0, .ref (a 0)), (1, .int x1), (2, .int x2), (3, .int x3), (4, .long x4), (6, .int x6), (7, .int x7)] → va_P D vwCl (wM a k w) H → va_D A (wM a k w) → va_S A s.heap H locs → rec29 x1 x2 x3 x4 x6 x7 w = some z → W p l e ({ frames := 3, cells := 0, slots := 0, locals := 78 } : Room) s m args below meth c H locs 0 0 (MQ below (ez_Qv D (tM k) A (wM a k z)) args s 0 0 A) (F0 m 29 ls [])) : ∀ (n : Nat) (H : Heap) (locs : List Loc) (ls : Array Slot) (x1 : Int32) (x2 : Int32) (x3 : Int32) (x4 : Int64) (x6 : Int32) (x7 : Int32) (x8 : Int64) (s0 : Int64) (w : Wd), lv_has ls 14 [(0, .ref (a 0)), (1, .int x1), (2, .int x2), (3, .int x3), (4, .long x4), (6, .int x6), (7, .int x7), (8, .long x8)] → va_P D vwCl (wM a k w) H → va_D A (wM a k w) → va_S A s.heap H locs → fX4_ends_81 rec29 n x1 x2 x3 x4 x6 x7 x8 s0 w = some z → W p l e ({ frames := 3, cells := 0, slots := 0, locals := 78 } : Room) s m args below meth c H locs 0 0 (MQ below (ez_Qv D (tM k) A (wM a k z)) args s 0 0 A) (F0 m 81 ls [.long s0]) := by
  intro n
  intro H locs ls x1 x2 x3 x4 x6 x7 x8 s0 w hl hP hD hS h
  rw [fX4_ends_81] at h
  have C1 := C0
  obtain ⟨hx, hb, hr, hml, hown, hw, hlk, hA, hN⟩ := C1
  refine lv_lstore (pc := 81) hx hb dX4_ends_81 hl (by decide) rfl (fun ls hl => ?_)
  replace hl : lv_has ls 14 [(10, .long s0), (0, .ref (a 0)), (1, .int x1), (2, .int x2), (3, .int x3), (4, .long x4), (6, .int x6), (7, .int x7), (8, .long x8)] := hl
  refine lv_iload (pc := 83) hx hb dX4_ends_83 (lv_at hl 6 rfl) ?_
  refine lv_bipush (v := 7) (pc := 85) hx hb dX4_ends_85 rfl ?_
  refine lv_icmp_ne (pc := 87) (tgt := 105) hx hb dX4_ends_87 (by decide) (fun c1 => ?_) (fun c1 => ?_)
  · replace h := ez_if c1 h
    refine lv_iload (pc := 105) hx hb dX4_ends_105 (lv_at hl 6 rfl) ?_
    refine lv_iconst (v := 4) (pc := 107) hx hb dX4_ends_107 rfl ?_
    refine lv_icmp_ne (pc := 108) (tgt := 126) hx hb dX4_ends_108 (by decide) (fun c2 => ?_) (fun c2 => ?_)
    · replace h := ez_if c2 h
      refine lv_iload (pc := 126) hx hb dX4_ends_126 (lv_at hl 6 rfl) ?_
      refine lv_iconst (v := 5) (pc := 128) hx hb dX4_ends_128 rfl ?_
      refine lv_icmp_ne (pc := 129) (tgt := 147) hx hb dX4_ends_129 (by decide) (fun c3 => ?_) (fun c3 => ?_)
      · replace h := ez_if c3 h
        refine lv_iload (pc := 147) hx hb dX4_ends_147 (lv_at hl 6 rfl) ?_
        refine lv_bipush (v := 6) (pc := 149) hx hb dX4_ends_149 rfl ?_
        refine lv_icmp_ne (pc := 151) (tgt := 204) hx hb dX4_ends_151 (by decide) (fun c4 => ?_) (fun c4 => ?_)
        · replace h := ez_if c4 h
          refine lv_aload_n (pc := 204) hx hb dX4_ends_204 rfl (lv_at hl 1 rfl) ?_
          refine lv_iload_n (pc := 205) hx hb dX4_ends_205 rfl (lv_at hl 2 rfl) ?_
          refine lv_iload (pc := 206) hx hb dX4_ends_206 (lv_at hl 6 rfl) ?_
          refine lv_iconst (v := 2) (pc := 208) hx hb dX4_ends_208 rfl ?_
          refine lv_icmp_ne (pc := 209) (tgt := 220) hx hb dX4_ends_209 (by decide) (fun c5 => ?_) (fun c5 => ?_)
          · replace h := ez_if c5 h
            refine lv_iload (pc := 220) hx hb dX4_ends_220 (lv_at hl 6 rfl) ?_
            refine lv_iconst (v := 3) (pc := 222) hx hb dX4_ends_222 rfl ?_
            refine lv_icmp_ne (pc := 223) (tgt := 234) hx hb dX4_ends_223 (by decide) (fun c6 => ?_) (fun c6 => ?_)
            · replace h := ez_if c6 h
              refine lv_lload (pc := 234) hx hb dX4_ends_234 (lv_at hl 8 rfl) ?_
              refine lv_lneg (pc := 236) hx hb dX4_ends_236 ?_
              refine lv_lconst (v := 1) (pc := 237) hx hb dX4_ends_237 rfl ?_
              replace h := ez_bd h
              obtain ⟨z7, e8, h⟩ := h
              refine ez_callV (pc := 238) (wr := []) (wl := (wM a k w)) (wl' := (wM a k z7)) (va_runV (g := F0 m 238 ls [.long 1, .long (-x8), .int x1, .ref (a 0)]) (As := [.int x1, .long (-x8), .long 1]) (rest := []) ⟨hx, hb, hml, hown, hw⟩ (kX4_include l D a k n x1 (-x8) 1 w z7 e8 H.size) (cwV 3 hw (ez_gV mw596 mw598 mp47 mw4 mw599) rfl rfl rfl (by decide +kernel) ⟨Nat.le_of_ble_eq_true rfl, Nat.le_of_ble_eq_true rfl⟩) (ez_preV (wr := []) (wl := (wM a k w)) hP hD hK hN 0 rfl rfl) rfl rfl hl.1 rfl (lv_room (Nat.le_of_ble_eq_true rfl)) dX4_ends_238 ⟨Nat.le_refl _, Nat.le_refl _⟩) hP hD hS hA (fun H locs hP hD hS => ?_)
              replace hP : va_P D vwCl (wM a k z7) H := hP
              replace hD : va_D A (wM a k z7) := hD
              refine lv_iinc (v := (x7 + 1)) (k := 7) (pc := 241) hx hb dX4_ends_241 hl rfl rfl (by decide) rfl (fun ls hl => ?_)
              replace hl : lv_has ls 14 [(7, .int (x7 + 1)), (10, .long s0), (0, .ref (a 0)), (1, .int x1), (2, .int x2), (3, .int x3), (4, .long x4), (6, .int x6), (8, .long x8)] := hl
              refine lv_goto (pc := 244) (tgt := 29) hx hb dX4_ends_244 (by decide) ?_
              exact hrec29 _ _ _ x1 x2 x3 x4 x6 (x7 + 1) z7 (lv_sub hl [2, 3, 4, 5, 6, 7, 0] rfl) hP hD hS h
            · replace h := ez_it c6 h
              refine lv_lload (pc := 226) hx hb dX4_ends_226 (lv_at hl 8 rfl) ?_
              refine lv_lload (pc := 228) hx hb dX4_ends_228 (lv_at hl 0 rfl) ?_
              refine lv_lsub (pc := 230) hx hb dX4_ends_230 ?_
              refine lv_goto (pc := 231) (tgt := 237) hx hb dX4_ends_231 (by decide) ?_
              refine lv_lconst (v := 1) (pc := 237) hx hb dX4_ends_237 rfl ?_
              replace h := ez_bd h
              obtain ⟨z9, e10, h⟩ := h
              refine ez_callV (pc := 238) (wr := []) (wl := (wM a k w)) (wl' := (wM a k z9)) (va_runV (g := F0 m 238 ls [.long 1, .long (x8 - s0), .int x1, .ref (a 0)]) (As := [.int x1, .long (x8 - s0), .long 1]) (rest := []) ⟨hx, hb, hml, hown, hw⟩ (kX4_include l D a k n x1 (x8 - s0) 1 w z9 e10 H.size) (cwV 3 hw (ez_gV mw596 mw598 mp47 mw4 mw599) rfl rfl rfl (by decide +kernel) ⟨Nat.le_of_ble_eq_true rfl, Nat.le_of_ble_eq_true rfl⟩) (ez_preV (wr := []) (wl := (wM a k w)) hP hD hK hN 0 rfl rfl) rfl rfl hl.1 rfl (lv_room (Nat.le_of_ble_eq_true rfl)) dX4_ends_238 ⟨Nat.le_refl _, Nat.le_refl _⟩) hP hD hS hA (fun H locs hP hD hS => ?_)
              replace hP : va_P D vwCl (wM a k z9) H := hP
              replace hD : va_D A (wM a k z9) := hD
              refine lv_iinc (v := (x7 + 1)) (k := 7) (pc := 241) hx hb dX4_ends_241 hl rfl rfl (by decide) rfl (fun ls hl => ?_)
              replace hl : lv_has ls 14 [(7, .int (x7 + 1)), (10, .long s0), (0, .ref (a 0)), (1, .int x1), (2, .int x2), (3, .int x3), (4, .long x4), (6, .int x6), (8, .long x8)] := hl
              refine lv_goto (pc := 244) (tgt := 29) hx hb dX4_ends_244 (by decide) ?_
              exact hrec29 _ _ _ x1 x2 x3 x4 x6 (x7 + 1) z9 (lv_sub hl [2, 3, 4, 5, 6, 7, 0] rfl) hP hD hS h
          · replace h := ez_it c5 h
            refine lv_lload (pc := 212) hx hb dX4_ends_212 (lv_at hl 8 rfl) ?_
            refine lv_lload (pc := 214) hx hb dX4_ends_214 (lv_at hl 0 rfl) ?_
            refine lv_ladd (pc := 216) hx hb dX4_ends_216 ?_
            refine lv_goto (pc := 217) (tgt := 237) hx hb dX4_ends_217 (by decide) ?_
            refine lv_lconst (v := 1) (pc := 237) hx hb dX4_ends_237 rfl ?_
            replace h := ez_bd h
            obtain ⟨z11, e12, h⟩ := h
            refine ez_callV (pc := 238) (wr := []) (wl := (wM a k w)) (wl' := (wM a k z11)) (va_runV (g := F0 m 238 ls [.long 1, .long (x8 + s0), .int x1, .ref (a 0)]) (As := [.int x1, .long (x8 + s0), .long 1]) (rest := []) ⟨hx, hb, hml, hown, hw⟩ (kX4_include l D a k n x1 (x8 + s0) 1 w z11 e12 H.size) (cwV 3 hw (ez_gV mw596 mw598 mp47 mw4 mw599) rfl rfl rfl (by decide +kernel) ⟨Nat.le_of_ble_eq_true rfl, Nat.le_of_ble_eq_true rfl⟩) (ez_preV (wr := []) (wl := (wM a k w)) hP hD hK hN 0 rfl rfl) rfl rfl hl.1 rfl (lv_room (Nat.le_of_ble_eq_true rfl)) dX4_ends_238 ⟨Nat.le_refl _, Nat.le_refl _⟩) hP hD hS hA (fun H locs hP hD hS => ?_)
            replace hP : va_P D vwCl (wM a k z11) H := hP
            replace hD : va_D A (wM a k z11) := hD
            refine lv_iinc (v := (x7 + 1)) (k := 7) (pc := 241) hx hb dX4_ends_241 hl rfl rfl (by decide) rfl (fun ls hl => ?_)
            replace hl : lv_has ls 14 [(7, .int (x7 + 1)), (10, .long s0), (0, .ref (a 0)), (1, .int x1), (2, .int x2), (3, .int x3), (4, .long x4), (6, .int x6), (8, .long x8)] := hl
            refine lv_goto (pc := 244) (tgt := 29) hx hb dX4_ends_244 (by decide) ?_
            exact hrec29 _ _ _ x1 x2 x3 x4 x6 (x7 + 1) z11 (lv_sub hl [2, 3, 4, 5, 6, 7, 0] rfl) hP hD hS h
        · replace h := ez_it c4 h
          refine lv_lload (pc := 154) hx hb dX4_ends_154 (lv_at hl 8 rfl) ?_
          refine lv_lload (pc := 156) hx hb dX4_ends_156 (lv_at hl 5 rfl) ?_
          refine lv_lmul (pc := 158) hx hb dX4_ends_158 ?_
          replace h := ez_bd h
          obtain ⟨z13, e14, h⟩ := h
          refine ez_croL (r := z13) (pc := 159) (va_runS (g := F0 m 159 ls [.long (x8 * x4)]) (As := [.long (x8 * x4)]) (rest := []) ⟨hx, hb, hml, hown, hw⟩ (kX4_rootOf l n (x8 * x4) z13 e14) (va_cwS 1 hw (ez_gS mw606 mw607 mw4 mw608) rfl rfl rfl (by decide +kernel) ⟨Nat.le_of_ble_eq_true rfl, Nat.le_of_ble_eq_true rfl⟩) (ez_preRS hN) rfl rfl hl.1 rfl (lv_room (Nat.le_of_ble_eq_true rfl)) dX4_ends_159 ⟨Nat.le_refl _, Nat.le_refl _⟩) ?_
          refine lv_lstore (pc := 162) hx hb dX4_ends_162 hl (by decide) rfl (fun ls hl => ?_)
          replace hl : lv_has ls 14 [(12, .long z13), (10, .long s0), (0, .ref (a 0)), (1, .int x1), (2, .int x2), (3, .int x3), (4, .long x4), (6, .int x6), (7, .int x7), (8, .long x8)] := hl
          refine lv_aload_n (pc := 164) hx hb dX4_ends_164 rfl (lv_at hl 2 rfl) ?_
          refine lv_iload_n (pc := 165) hx hb dX4_ends_165 rfl (lv_at hl 3 rfl) ?_
          refine lv_lload (pc := 166) hx hb dX4_ends_166 (lv_at hl 0 rfl) ?_
          refine lv_lconst (v := 1) (pc := 168) hx hb dX4_ends_168 rfl ?_
          replace h := ez_bd h
          obtain ⟨z15, e16, h⟩ := h
          refine ez_callV (pc := 169) (wr := []) (wl := (wM a k w)) (wl' := (wM a k z15)) (va_runV (g := F0 m 169 ls [.long 1, .long z13, .int x1, .ref (a 0)]) (As := [.int x1, .long z13, .long 1]) (rest := []) ⟨hx, hb, hml, hown, hw⟩ (kX4_include l D a k n x1 z13 1 w z15 e16 H.size) (cwV 3 hw (ez_gV mw596 mw598 mp47 mw4 mw599) rfl rfl rfl (by decide +kernel) ⟨Nat.le_of_ble_eq_true rfl, Nat.le_of_ble_eq_true rfl⟩) (ez_preV (wr := []) (wl := (wM a k w)) hP hD hK hN 0 rfl rfl) rfl rfl hl.1 rfl (lv_room (Nat.le_of_ble_eq_true rfl)) dX4_ends_169 ⟨Nat.le_refl _, Nat.le_refl _⟩) hP hD hS hA (fun H locs hP hD hS => ?_)
          replace hP : va_P D vwCl (wM a k z15) H := hP
          replace hD : va_D A (wM a k z15) := hD
          refine lv_aload_n (pc := 172) hx hb dX4_ends_172 rfl (lv_at hl 2 rfl) ?_
          refine lv_iload_n (pc := 173) hx hb dX4_ends_173 rfl (lv_at hl 3 rfl) ?_
          refine lv_lload (pc := 174) hx hb dX4_ends_174 (lv_at hl 0 rfl) ?_
          refine lv_lload (pc := 176) hx hb dX4_ends_176 (lv_at hl 0 rfl) ?_
          refine lv_lmul (pc := 178) hx hb dX4_ends_178 ?_
          refine lv_lload (pc := 179) hx hb dX4_ends_179 (lv_at hl 9 rfl) ?_
          refine lv_lload (pc := 181) hx hb dX4_ends_181 (lv_at hl 6 rfl) ?_
          refine lv_lmul (pc := 183) hx hb dX4_ends_183 ?_
          refine W.lcmp (pc := 184) hx hb dX4_ends_184 ?_
          refine lv_if_ge (pc := 185) (tgt := 195) hx hb dX4_ends_185 (by decide) (fun c17 => ?_) (fun c17 => ?_)
          · replace h := ez_it c17 h
            refine lv_lload (pc := 195) hx hb dX4_ends_195 (lv_at hl 0 rfl) ?_
            refine lv_lconst (v := 1) (pc := 197) hx hb dX4_ends_197 rfl ?_
            replace h := ez_bd h
            obtain ⟨z18, e19, h⟩ := h
            refine ez_callV (pc := 198) (wr := []) (wl := (wM a k z15)) (wl' := (wM a k z18)) (va_runV (g := F0 m 198 ls [.long 1, .long z13, .int x1, .ref (a 0)]) (As := [.int x1, .long z13, .long 1]) (rest := []) ⟨hx, hb, hml, hown, hw⟩ (kX4_include l D a k n x1 z13 1 z15 z18 e19 H.size) (cwV 3 hw (ez_gV mw596 mw598 mp47 mw4 mw599) rfl rfl rfl (by decide +kernel) ⟨Nat.le_of_ble_eq_true rfl, Nat.le_of_ble_eq_true rfl⟩) (ez_preV (wr := []) (wl := (wM a k z15)) hP hD hK hN 0 rfl rfl) rfl rfl hl.1 rfl (lv_room (Nat.le_of_ble_eq_true rfl)) dX4_ends_198 ⟨Nat.le_refl _, Nat.le_refl _⟩) hP hD hS hA (fun H locs hP hD hS => ?_)
            replace hP : va_P D vwCl (wM a k z18) H := hP
            replace hD : va_D A (wM a k z18) := hD
            refine lv_goto (pc := 201) (tgt := 241) hx hb dX4_ends_201 (by decide) ?_
            refine lv_iinc (v := (x7 + 1)) (k := 8) (pc := 241) hx hb dX4_ends_241 hl rfl rfl (by decide) rfl (fun ls hl => ?_)
            replace hl : lv_has ls 14 [(7, .int (x7 + 1)), (12, .long z13), (10, .long s0), (0, .ref (a 0)), (1, .int x1), (2, .int x2), (3, .int x3), (4, .long x4), (6, .int x6), (8, .long x8)] := hl
            refine lv_goto (pc := 244) (tgt := 29) hx hb dX4_ends_244 (by decide) ?_
            exact hrec29 _ _ _ x1 x2 x3 x4 x6 (x7 + 1) z18 (lv_sub hl [3, 4, 5, 6, 7, 8, 0] rfl) hP hD hS h
          · replace h := ez_if c17 h
            refine lv_lload (pc := 188) hx hb dX4_ends_188 (lv_at hl 0 rfl) ?_
            refine lv_lconst (v := 1) (pc := 190) hx hb dX4_ends_190 rfl ?_
            refine lv_ladd (pc := 191) hx hb dX4_ends_191 ?_
            refine lv_goto (pc := 192) (tgt := 197) hx hb dX4_ends_192 (by decide) ?_
            refine lv_lconst (v := 1) (pc := 197) hx hb dX4_ends_197 rfl ?_
            replace h := ez_bd h
            obtain ⟨z20, e21, h⟩ := h
            refine ez_callV (pc := 198) (wr := []) (wl := (wM a k z15)) (wl' := (wM a k z20)) (va_runV (g := F0 m 198 ls [.long 1, .long (z13 + 1), .int x1, .ref (a 0)]) (As := [.int x1, .long (z13 + 1), .long 1]) (rest := []) ⟨hx, hb, hml, hown, hw⟩ (kX4_include l D a k n x1 (z13 + 1) 1 z15 z20 e21 H.size) (cwV 3 hw (ez_gV mw596 mw598 mp47 mw4 mw599) rfl rfl rfl (by decide +kernel) ⟨Nat.le_of_ble_eq_true rfl, Nat.le_of_ble_eq_true rfl⟩) (ez_preV (wr := []) (wl := (wM a k z15)) hP hD hK hN 0 rfl rfl) rfl rfl hl.1 rfl (lv_room (Nat.le_of_ble_eq_true rfl)) dX4_ends_198 ⟨Nat.le_refl _, Nat.le_refl _⟩) hP hD hS hA (fun H locs hP hD hS => ?_)
            replace hP : va_P D vwCl (wM a k z20) H := hP
            replace hD : va_D A (wM a k z20) := hD
            refine lv_goto (pc := 201) (tgt := 241) hx hb dX4_ends_201 (by decide) ?_
            refine lv_iinc (v := (x7 + 1)) (k := 8) (pc := 241) hx hb dX4_ends_241 hl rfl rfl (by decide) rfl (fun ls hl => ?_)
            replace hl : lv_has ls 14 [(7, .int (x7 + 1)), (12, .long z13), (10, .long s0), (0, .ref (a 0)), (1, .int x1), (2, .int x2), (3, .int x3), (4, .long x4), (6, .int x6), (8, .long x8)] := hl
            refine lv_goto (pc := 244) (tgt := 29) hx hb dX4_ends_244 (by decide) ?_
            exact hrec29 _ _ _ x1 x2 x3 x4 x6 (x7 + 1) z20 (lv_sub hl [3, 4, 5, 6, 7, 8, 0] rfl) hP hD hS h
      · replace h := ez_it c3 h
        refine lv_aload_n (pc := 132) hx hb dX4_ends_132 rfl (lv_at hl 1 rfl) ?_
        refine lv_iload_n (pc := 133) hx hb dX4_ends_133 rfl (lv_at hl 2 rfl) ?_
        refine lv_lload (pc := 134) hx hb dX4_ends_134 (lv_at hl 8 rfl) ?_
        refine lv_lload (pc := 136) hx hb dX4_ends_136 (lv_at hl 5 rfl) ?_
        refine lv_lmul (pc := 138) hx hb dX4_ends_138 ?_
        refine lv_lload (pc := 139) hx hb dX4_ends_139 (lv_at hl 0 rfl) ?_
        replace h := ez_bd h
        obtain ⟨z22, e23, h⟩ := h
        refine ez_callV (pc := 141) (wr := []) (wl := (wM a k w)) (wl' := (wM a k z22)) (va_runV (g := F0 m 141 ls [.long s0, .long (x8 * x4), .int x1, .ref (a 0)]) (As := [.int x1, .long (x8 * x4), .long s0]) (rest := []) ⟨hx, hb, hml, hown, hw⟩ (kX4_include l D a k n x1 (x8 * x4) s0 w z22 e23 H.size) (cwV 3 hw (ez_gV mw596 mw598 mp47 mw4 mw599) rfl rfl rfl (by decide +kernel) ⟨Nat.le_of_ble_eq_true rfl, Nat.le_of_ble_eq_true rfl⟩) (ez_preV (wr := []) (wl := (wM a k w)) hP hD hK hN 0 rfl rfl) rfl rfl hl.1 rfl (lv_room (Nat.le_of_ble_eq_true rfl)) dX4_ends_141 ⟨Nat.le_refl _, Nat.le_refl _⟩) hP hD hS hA (fun H locs hP hD hS => ?_)
        replace hP : va_P D vwCl (wM a k z22) H := hP
        replace hD : va_D A (wM a k z22) := hD
        refine lv_goto (pc := 144) (tgt := 241) hx hb dX4_ends_144 (by decide) ?_
        refine lv_iinc (v := (x7 + 1)) (k := 7) (pc := 241) hx hb dX4_ends_241 hl rfl rfl (by decide) rfl (fun ls hl => ?_)
        replace hl : lv_has ls 14 [(7, .int (x7 + 1)), (10, .long s0), (0, .ref (a 0)), (1, .int x1), (2, .int x2), (3, .int x3), (4, .long x4), (6, .int x6), (8, .long x8)] := hl
        refine lv_goto (pc := 244) (tgt := 29) hx hb dX4_ends_244 (by decide) ?_
        exact hrec29 _ _ _ x1 x2 x3 x4 x6 (x7 + 1) z22 (lv_sub hl [2, 3, 4, 5, 6, 7, 0] rfl) hP hD hS h
    · replace h := ez_it c2 h
      refine lv_aload_n (pc := 111) hx hb dX4_ends_111 rfl (lv_at hl 1 rfl) ?_
      refine lv_iload_n (pc := 112) hx hb dX4_ends_112 rfl (lv_at hl 2 rfl) ?_
      refine lv_lload (pc := 113) hx hb dX4_ends_113 (lv_at hl 8 rfl) ?_
      refine lv_lload (pc := 115) hx hb dX4_ends_115 (lv_at hl 0 rfl) ?_
      refine lv_lmul (pc := 117) hx hb dX4_ends_117 ?_
      refine lv_lload (pc := 118) hx hb dX4_ends_118 (lv_at hl 5 rfl) ?_
      replace h := ez_bd h
      obtain ⟨z24, e25, h⟩ := h
      refine ez_callV (pc := 120) (wr := []) (wl := (wM a k w)) (wl' := (wM a k z24)) (va_runV (g := F0 m 120 ls [.long x4, .long (x8 * s0), .int x1, .ref (a 0)]) (As := [.int x1, .long (x8 * s0), .long x4]) (rest := []) ⟨hx, hb, hml, hown, hw⟩ (kX4_include l D a k n x1 (x8 * s0) x4 w z24 e25 H.size) (cwV 3 hw (ez_gV mw596 mw598 mp47 mw4 mw599) rfl rfl rfl (by decide +kernel) ⟨Nat.le_of_ble_eq_true rfl, Nat.le_of_ble_eq_true rfl⟩) (ez_preV (wr := []) (wl := (wM a k w)) hP hD hK hN 0 rfl rfl) rfl rfl hl.1 rfl (lv_room (Nat.le_of_ble_eq_true rfl)) dX4_ends_120 ⟨Nat.le_refl _, Nat.le_refl _⟩) hP hD hS hA (fun H locs hP hD hS => ?_)
      replace hP : va_P D vwCl (wM a k z24) H := hP
      replace hD : va_D A (wM a k z24) := hD
      refine lv_goto (pc := 123) (tgt := 241) hx hb dX4_ends_123 (by decide) ?_
      refine lv_iinc (v := (x7 + 1)) (k := 7) (pc := 241) hx hb dX4_ends_241 hl rfl rfl (by decide) rfl (fun ls hl => ?_)
      replace hl : lv_has ls 14 [(7, .int (x7 + 1)), (10, .long s0), (0, .ref (a 0)), (1, .int x1), (2, .int x2), (3, .int x3), (4, .long x4), (6, .int x6), (8, .long x8)] := hl
      refine lv_goto (pc := 244) (tgt := 29) hx hb dX4_ends_244 (by decide) ?_
      exact hrec29 _ _ _ x1 x2 x3 x4 x6 (x7 + 1) z24 (lv_sub hl [2, 3, 4, 5, 6, 7, 0] rfl) hP hD hS h
  · replace h := ez_it c1 h
    refine lv_aload_n (pc := 90) hx hb dX4_ends_90 rfl (lv_at hl 1 rfl) ?_
    refine lv_iload_n (pc := 91) hx hb dX4_ends_91 rfl (lv_at hl 2 rfl) ?_
    refine lv_lload (pc := 92) hx hb dX4_ends_92 (lv_at hl 8 rfl) ?_
    refine lv_lload (pc := 94) hx hb dX4_ends_94 (lv_at hl 8 rfl) ?_
    refine lv_lmul (pc := 96) hx hb dX4_ends_96 ?_
    refine lv_lload (pc := 97) hx hb dX4_ends_97 (lv_at hl 5 rfl) ?_
    replace h := ez_bd h
    obtain ⟨z26, e27, h⟩ := h
    refine ez_callV (pc := 99) (wr := []) (wl := (wM a k w)) (wl' := (wM a k z26)) (va_runV (g := F0 m 99 ls [.long x4, .long (x8 * x8), .int x1, .ref (a 0)]) (As := [.int x1, .long (x8 * x8), .long x4]) (rest := []) ⟨hx, hb, hml, hown, hw⟩ (kX4_include l D a k n x1 (x8 * x8) x4 w z26 e27 H.size) (cwV 3 hw (ez_gV mw596 mw598 mp47 mw4 mw599) rfl rfl rfl (by decide +kernel) ⟨Nat.le_of_ble_eq_true rfl, Nat.le_of_ble_eq_true rfl⟩) (ez_preV (wr := []) (wl := (wM a k w)) hP hD hK hN 0 rfl rfl) rfl rfl hl.1 rfl (lv_room (Nat.le_of_ble_eq_true rfl)) dX4_ends_99 ⟨Nat.le_refl _, Nat.le_refl _⟩) hP hD hS hA (fun H locs hP hD hS => ?_)
    replace hP : va_P D vwCl (wM a k z26) H := hP
    replace hD : va_D A (wM a k z26) := hD
    refine lv_goto (pc := 102) (tgt := 241) hx hb dX4_ends_102 (by decide) ?_
    refine lv_iinc (v := (x7 + 1)) (k := 7) (pc := 241) hx hb dX4_ends_241 hl rfl rfl (by decide) rfl (fun ls hl => ?_)
    replace hl : lv_has ls 14 [(7, .int (x7 + 1)), (10, .long s0), (0, .ref (a 0)), (1, .int x1), (2, .int x2), (3, .int x3), (4, .long x4), (6, .int x6), (8, .long x8)] := hl
    refine lv_goto (pc := 244) (tgt := 29) hx hb dX4_ends_244 (by decide) ?_
    exact hrec29 _ _ _ x1 x2 x3 x4 x6 (x7 + 1) z26 (lv_sub hl [2, 3, 4, 5, 6, 7, 0] rfl) hP hD hS h
set_option maxHeartbeats 4000000 in
set_option maxRecDepth 100000 in
theorem tX4_ends_29 {p : Program} {l : Launch} {e : Env} {s : State} {m : MethodId} {args : Array Value} {below : List Frame} {meth : Method} {c : Code} {A : Nat → Prop} {D : va_G} {a : Nat → Nat} {k : Nat → ClassId} {z : Wd} (C0 : ez_C p s m args meth c cX4_ends none 14 RX4 A) (hK : va_K D vwCl (tM k) s) : ∀ (n : Nat) (H : Heap) (locs : List Loc) (ls : Array Slot) (x1 : Int32) (x2 : Int32) (x3 : Int32) (x4 : Int64) (x6 : Int32) (x7 : Int32) (w : Wd), lv_has ls 14 [(0, .ref (a 0)), (1, .int x1), (2, .int x2), (3, .int x3), (4, .long x4), (6, .int x6), (7, .int x7)] → va_P D vwCl (wM a k w) H → va_D A (wM a k w) → va_S A s.heap H locs → fX4_ends_29 n x1 x2 x3 x4 x6 x7 w = some z → W p l e ({ frames := 3, cells := 0, slots := 0, locals := 78 } : Room) s m args below meth c H locs 0 0 (MQ below (ez_Qv D (tM k) A (wM a k z)) args s 0 0 A) (F0 m 29 ls []) := by
  intro n
  induction n with
  | zero =>
    intro H locs ls x1 x2 x3 x4 x6 x7 w hl hP hD hS h
    rw [fX4_ends_29] at h
    cases h
  | succ n ih =>
    intro H locs ls x1 x2 x3 x4 x6 x7 w hl hP hD hS h
    rw [fX4_ends_29] at h
    have C1 := C0
    obtain ⟨hx, hb, hr, hml, hown, hw, hlk, hA, hN⟩ := C1
    refine lv_iload (pc := 29) hx hb dX4_ends_29 (lv_at hl 6 rfl) ?_
    refine lv_iconst (v := 4) (pc := 31) hx hb dX4_ends_31 rfl ?_
    refine lv_icmp_ge (pc := 32) (tgt := 247) hx hb dX4_ends_32 (by decide) (fun c1 => ?_) (fun c1 => ?_)
    · replace h := ez_it c1 h
      refine lv_iload (pc := 247) hx hb dX4_ends_247 (lv_at hl 5 rfl) ?_
      refine lv_bipush (v := 7) (pc := 249) hx hb dX4_ends_249 rfl ?_
      refine lv_icmp_ne (pc := 251) (tgt := 283) hx hb dX4_ends_251 (by decide) (fun c2 => ?_) (fun c2 => ?_)
      · replace h := ez_if c2 h
        obtain rfl := ez_r1 h
        exact ez_retV C0 hP hD hK hS dX4_ends_283
      · replace h := ez_it c2 h
        refine lv_aload_n (pc := 254) hx hb dX4_ends_254 rfl (lv_at hl 0 rfl) ?_
        refine va_get (D := D) (pc := 255) hx hb hw inX4 hown hK hP 0 rfl rfl 12 (by decide) (hw _ mw439) (fun _ h9 => h9) rfl dX4_ends_255 ?_
        refine lv_iload_n (pc := 258) hx hb dX4_ends_258 rfl (lv_at hl 2 rfl) ?_
        replace h := ez_bd h
        obtain ⟨y4, e3, h⟩ := h
        obtain ⟨e3i, e3⟩ := ez_ldLs e3
        refine va_lald (D := D) (pc := 259) hx hb hK hP 9 8 rfl rfl e3i dX4_ends_259 ?_
        refine lv_topl (fun y9 hy9 => ?_)
        obtain rfl : y4 = y9 := e3.trans hy9.symm
        refine lv_lconst (v := 0) (pc := 260) hx hb dX4_ends_260 rfl ?_
        refine W.lcmp (pc := 261) hx hb dX4_ends_261 ?_
        refine lv_if_gt (pc := 262) (tgt := 283) hx hb dX4_ends_262 (by decide) (fun c5 => ?_) (fun c5 => ?_)
        · replace h := ez_it c5 h
          obtain rfl := ez_r1 h
          exact ez_retV C0 hP hD hK hS dX4_ends_283
        · replace h := ez_if c5 h
          refine lv_aload_n (pc := 265) hx hb dX4_ends_265 rfl (lv_at hl 0 rfl) ?_
          refine va_get (D := D) (pc := 266) hx hb hw inX4 hown hK hP 0 rfl rfl 13 (by decide) (hw _ mw440) (fun _ h9 => h9) rfl dX4_ends_266 ?_
          refine lv_iload_n (pc := 269) hx hb dX4_ends_269 rfl (lv_at hl 2 rfl) ?_
          replace h := ez_bd h
          obtain ⟨y7, e6, h⟩ := h
          obtain ⟨e6i, e6⟩ := ez_ldLs e6
          refine va_lald (D := D) (pc := 270) hx hb hK hP 10 9 rfl rfl e6i dX4_ends_270 ?_
          refine lv_topl (fun y9 hy9 => ?_)
          obtain rfl : y7 = y9 := e6.trans hy9.symm
          refine lv_lconst (v := 0) (pc := 271) hx hb dX4_ends_271 rfl ?_
          refine W.lcmp (pc := 272) hx hb dX4_ends_272 ?_
          refine lv_if_lt (pc := 273) (tgt := 283) hx hb dX4_ends_273 (by decide) (fun c8 => ?_) (fun c8 => ?_)
          · replace h := ez_it c8 h
            obtain rfl := ez_r1 h
            exact ez_retV C0 hP hD hK hS dX4_ends_283
          · replace h := ez_if c8 h
            refine lv_aload_n (pc := 276) hx hb dX4_ends_276 rfl (lv_at hl 0 rfl) ?_
            refine va_get (D := D) (pc := 277) hx hb hw inX4 hown hK hP 0 rfl rfl 12 (by decide) (hw _ mw439) (fun _ h9 => h9) rfl dX4_ends_277 ?_
            refine lv_iload_n (pc := 280) hx hb dX4_ends_280 rfl (lv_at hl 1 rfl) ?_
            refine lv_lconst (v := 0) (pc := 281) hx hb dX4_ends_281 rfl ?_
            replace h := ez_bd h
            obtain ⟨w10, e9, h⟩ := h
            obtain ⟨e9i, e9⟩ := ez_stLs e9
            refine va_last (D := D) (pc := 282) hx hb hK hP hD hS 9 8 rfl rfl e9i dX4_ends_282 (fun H locs hP hD hS => ?_)
            replace hP : va_P D vwCl (wM a k w10) H := by rw [e9]; exact hP
            replace hD : va_D A (wM a k w10) := by rw [e9]; exact hD
            obtain rfl := ez_r1 h
            exact ez_retV C0 hP hD hK hS dX4_ends_283
    · replace h := ez_if c1 h
      refine lv_iload (pc := 35) hx hb dX4_ends_35 (lv_at hl 6 rfl) ?_
      refine lv_iconst (v := 1) (pc := 37) hx hb dX4_ends_37 rfl ?_
      refine lv_iand (pc := 38) hx hb dX4_ends_38 ?_
      refine lv_if_ne (pc := 39) (tgt := 51) hx hb dX4_ends_39 (by decide) (fun c11 => ?_) (fun c11 => ?_)
      · replace h := ez_if c11 h
        refine lv_aload_n (pc := 51) hx hb dX4_ends_51 rfl (lv_at hl 0 rfl) ?_
        refine va_get (D := D) (pc := 52) hx hb hw inX4 hown hK hP 0 rfl rfl 13 (by decide) (hw _ mw440) (fun _ h9 => h9) rfl dX4_ends_52 ?_
        refine lv_iload_n (pc := 55) hx hb dX4_ends_55 rfl (lv_at hl 2 rfl) ?_
        replace h := ez_bd h
        obtain ⟨y13, e12, h⟩ := h
        obtain ⟨e12i, e12⟩ := ez_ldLs e12
        refine va_lald (D := D) (pc := 56) hx hb hK hP 10 9 rfl rfl e12i dX4_ends_56 ?_
        refine lv_topl (fun y9 hy9 => ?_)
        obtain rfl : y13 = y9 := e12.trans hy9.symm
        refine lv_lstore (pc := 57) hx hb dX4_ends_57 hl (by decide) rfl (fun ls hl => ?_)
        replace hl : lv_has ls 14 [(8, .long y13), (0, .ref (a 0)), (1, .int x1), (2, .int x2), (3, .int x3), (4, .long x4), (6, .int x6), (7, .int x7)] := hl
        refine lv_iload (pc := 59) hx hb dX4_ends_59 (lv_at hl 7 rfl) ?_
        refine lv_iconst (v := 2) (pc := 61) hx hb dX4_ends_61 rfl ?_
        refine lv_iand (pc := 62) hx hb dX4_ends_62 ?_
        refine lv_if_ne (pc := 63) (tgt := 75) hx hb dX4_ends_63 (by decide) (fun c14 => ?_) (fun c14 => ?_)
        · replace h := ez_if c14 h
          refine lv_aload_n (pc := 75) hx hb dX4_ends_75 rfl (lv_at hl 1 rfl) ?_
          refine va_get (D := D) (pc := 76) hx hb hw inX4 hown hK hP 0 rfl rfl 13 (by decide) (hw _ mw440) (fun _ h9 => h9) rfl dX4_ends_76 ?_
          refine lv_iload_n (pc := 79) hx hb dX4_ends_79 rfl (lv_at hl 4 rfl) ?_
          replace h := ez_bd h
          obtain ⟨y16, e15, h⟩ := h
          obtain ⟨e15i, e15⟩ := ez_ldLs e15
          refine va_lald (D := D) (pc := 80) hx hb hK hP 10 9 rfl rfl e15i dX4_ends_80 ?_
          refine lv_topl (fun y9 hy9 => ?_)
          obtain rfl : y16 = y9 := e15.trans hy9.symm
          exact tX4_ends_81 C0 hK (fX4_ends_29 n) ih n _ _ _ x1 x2 x3 x4 x6 x7 y13 y16 w (lv_sub hl [1, 2, 3, 4, 5, 6, 7, 0] rfl) hP hD hS h
        · replace h := ez_it c14 h
          refine lv_aload_n (pc := 66) hx hb dX4_ends_66 rfl (lv_at hl 1 rfl) ?_
          refine va_get (D := D) (pc := 67) hx hb hw inX4 hown hK hP 0 rfl rfl 12 (by decide) (hw _ mw439) (fun _ h9 => h9) rfl dX4_ends_67 ?_
          refine lv_iload_n (pc := 70) hx hb dX4_ends_70 rfl (lv_at hl 4 rfl) ?_
          replace h := ez_bd h
          obtain ⟨y18, e17, h⟩ := h
          obtain ⟨e17i, e17⟩ := ez_ldLs e17
          refine va_lald (D := D) (pc := 71) hx hb hK hP 9 8 rfl rfl e17i dX4_ends_71 ?_
          refine lv_topl (fun y9 hy9 => ?_)
          obtain rfl : y18 = y9 := e17.trans hy9.symm
          refine lv_goto (pc := 72) (tgt := 81) hx hb dX4_ends_72 (by decide) ?_
          exact tX4_ends_81 C0 hK (fX4_ends_29 n) ih n _ _ _ x1 x2 x3 x4 x6 x7 y13 y18 w (lv_sub hl [1, 2, 3, 4, 5, 6, 7, 0] rfl) hP hD hS h
      · replace h := ez_it c11 h
        refine lv_aload_n (pc := 42) hx hb dX4_ends_42 rfl (lv_at hl 0 rfl) ?_
        refine va_get (D := D) (pc := 43) hx hb hw inX4 hown hK hP 0 rfl rfl 12 (by decide) (hw _ mw439) (fun _ h9 => h9) rfl dX4_ends_43 ?_
        refine lv_iload_n (pc := 46) hx hb dX4_ends_46 rfl (lv_at hl 2 rfl) ?_
        replace h := ez_bd h
        obtain ⟨y20, e19, h⟩ := h
        obtain ⟨e19i, e19⟩ := ez_ldLs e19
        refine va_lald (D := D) (pc := 47) hx hb hK hP 9 8 rfl rfl e19i dX4_ends_47 ?_
        refine lv_topl (fun y9 hy9 => ?_)
        obtain rfl : y20 = y9 := e19.trans hy9.symm
        refine lv_goto (pc := 48) (tgt := 57) hx hb dX4_ends_48 (by decide) ?_
        refine lv_lstore (pc := 57) hx hb dX4_ends_57 hl (by decide) rfl (fun ls hl => ?_)
        replace hl : lv_has ls 14 [(8, .long y20), (0, .ref (a 0)), (1, .int x1), (2, .int x2), (3, .int x3), (4, .long x4), (6, .int x6), (7, .int x7)] := hl
        refine lv_iload (pc := 59) hx hb dX4_ends_59 (lv_at hl 7 rfl) ?_
        refine lv_iconst (v := 2) (pc := 61) hx hb dX4_ends_61 rfl ?_
        refine lv_iand (pc := 62) hx hb dX4_ends_62 ?_
        refine lv_if_ne (pc := 63) (tgt := 75) hx hb dX4_ends_63 (by decide) (fun c21 => ?_) (fun c21 => ?_)
        · replace h := ez_if c21 h
          refine lv_aload_n (pc := 75) hx hb dX4_ends_75 rfl (lv_at hl 1 rfl) ?_
          refine va_get (D := D) (pc := 76) hx hb hw inX4 hown hK hP 0 rfl rfl 13 (by decide) (hw _ mw440) (fun _ h9 => h9) rfl dX4_ends_76 ?_
          refine lv_iload_n (pc := 79) hx hb dX4_ends_79 rfl (lv_at hl 4 rfl) ?_
          replace h := ez_bd h
          obtain ⟨y23, e22, h⟩ := h
          obtain ⟨e22i, e22⟩ := ez_ldLs e22
          refine va_lald (D := D) (pc := 80) hx hb hK hP 10 9 rfl rfl e22i dX4_ends_80 ?_
          refine lv_topl (fun y9 hy9 => ?_)
          obtain rfl : y23 = y9 := e22.trans hy9.symm
          exact tX4_ends_81 C0 hK (fX4_ends_29 n) ih n _ _ _ x1 x2 x3 x4 x6 x7 y20 y23 w (lv_sub hl [1, 2, 3, 4, 5, 6, 7, 0] rfl) hP hD hS h
        · replace h := ez_it c21 h
          refine lv_aload_n (pc := 66) hx hb dX4_ends_66 rfl (lv_at hl 1 rfl) ?_
          refine va_get (D := D) (pc := 67) hx hb hw inX4 hown hK hP 0 rfl rfl 12 (by decide) (hw _ mw439) (fun _ h9 => h9) rfl dX4_ends_67 ?_
          refine lv_iload_n (pc := 70) hx hb dX4_ends_70 rfl (lv_at hl 4 rfl) ?_
          replace h := ez_bd h
          obtain ⟨y25, e24, h⟩ := h
          obtain ⟨e24i, e24⟩ := ez_ldLs e24
          refine va_lald (D := D) (pc := 71) hx hb hK hP 9 8 rfl rfl e24i dX4_ends_71 ?_
          refine lv_topl (fun y9 hy9 => ?_)
          obtain rfl : y25 = y9 := e24.trans hy9.symm
          refine lv_goto (pc := 72) (tgt := 81) hx hb dX4_ends_72 (by decide) ?_
          exact tX4_ends_81 C0 hK (fX4_ends_29 n) ih n _ _ _ x1 x2 x3 x4 x6 x7 y20 y25 w (lv_sub hl [1, 2, 3, 4, 5, 6, 7, 0] rfl) hP hD hS h
set_option maxHeartbeats 4000000 in
set_option maxRecDepth 100000 in
theorem tX4_ends_0 {p : Program} {l : Launch} {e : Env} {s : State} {m : MethodId} {args : Array Value} {below : List Frame} {meth : Method} {c : Code} {A : Nat → Prop} {D : va_G} {a : Nat → Nat} {k : Nat → ClassId} {z : Wd} (C0 : ez_C p s m args meth c cX4_ends none 14 RX4 A) (hK : va_K D vwCl (tM k) s) : ∀ (n : Nat) (H : Heap) (locs : List Loc) (ls : Array Slot) (x1 : Int32) (x2 : Int32) (x3 : Int32) (x4 : Int64) (w : Wd), lv_has ls 14 [(0, .ref (a 0)), (1, .int x1), (2, .int x2), (3, .int x3), (4, .long x4)] → va_P D vwCl (wM a k w) H → va_D A (wM a k w) → va_S A s.heap H locs → fX4_ends n x1 x2 x3 x4 w = some z → W p l e ({ frames := 3, cells := 0, slots := 0, locals := 78 } : Room) s m args below meth c H locs 0 0 (MQ below (ez_Qv D (tM k) A (wM a k z)) args s 0 0 A) (F0 m 0 ls []) := by
  intro n
  intro H locs ls x1 x2 x3 x4 w hl hP hD hS h
  rw [fX4_ends] at h
  have C1 := C0
  obtain ⟨hx, hb, hr, hml, hown, hw, hlk, hA, hN⟩ := C1
  refine lv_aload_n (pc := 0) hx hb dX4_ends_0 rfl (lv_at hl 0 rfl) ?_
  refine va_get (D := D) (pc := 1) hx hb hw inX4 hown hK hP 0 rfl rfl 4 (by decide) (hw _ mw431) (fun _ h9 => h9) rfl dX4_ends_1 ?_
  refine lv_iload_n (pc := 4) hx hb dX4_ends_4 rfl (lv_at hl 1 rfl) ?_
  replace h := ez_bd h
  obtain ⟨y2, e1, h⟩ := h
  obtain ⟨e1i, e1⟩ := ez_ldIs e1
  refine va_iald (D := D) (pc := 5) hx hb hK hP 3 2 rfl rfl e1i dX4_ends_5 ?_
  refine lv_topi (fun y9 hy9 => ?_)
  obtain rfl : y2 = y9 := e1.trans hy9.symm
  refine lv_istore (pc := 6) hx hb dX4_ends_6 hl (by decide) rfl (fun ls hl => ?_)
  replace hl : lv_has ls 14 [(6, .int y2), (0, .ref (a 0)), (1, .int x1), (2, .int x2), (3, .int x3), (4, .long x4)] := hl
  refine lv_aload_n (pc := 8) hx hb dX4_ends_8 rfl (lv_at hl 1 rfl) ?_
  refine va_get (D := D) (pc := 9) hx hb hw inX4 hown hK hP 0 rfl rfl 12 (by decide) (hw _ mw439) (fun _ h9 => h9) rfl dX4_ends_9 ?_
  refine lv_iload_n (pc := 12) hx hb dX4_ends_12 rfl (lv_at hl 2 rfl) ?_
  refine lv_ldc2 (v := 4611686018427387904) (pc := 13) hx hb hown (hw _ mw594) dX4_ends_13 ?_
  replace h := ez_bd h
  obtain ⟨w4, e3, h⟩ := h
  obtain ⟨e3i, e3⟩ := ez_stLs e3
  refine va_last (D := D) (pc := 16) hx hb hK hP hD hS 9 8 rfl rfl e3i dX4_ends_16 (fun H locs hP hD hS => ?_)
  replace hP : va_P D vwCl (wM a k w4) H := by rw [e3]; exact hP
  replace hD : va_D A (wM a k w4) := by rw [e3]; exact hD
  refine lv_aload_n (pc := 17) hx hb dX4_ends_17 rfl (lv_at hl 1 rfl) ?_
  refine va_get (D := D) (pc := 18) hx hb hw inX4 hown hK hP 0 rfl rfl 13 (by decide) (hw _ mw440) (fun _ h9 => h9) rfl dX4_ends_18 ?_
  refine lv_iload_n (pc := 21) hx hb dX4_ends_21 rfl (lv_at hl 2 rfl) ?_
  refine lv_ldc2 (v := (-4611686018427387904)) (pc := 22) hx hb hown (hw _ mw595) dX4_ends_22 ?_
  replace h := ez_bd h
  obtain ⟨w6, e5, h⟩ := h
  obtain ⟨e5i, e5⟩ := ez_stLs e5
  refine va_last (D := D) (pc := 25) hx hb hK hP hD hS 10 9 rfl rfl e5i dX4_ends_25 (fun H locs hP hD hS => ?_)
  replace hP : va_P D vwCl (wM a k w6) H := by rw [e5]; exact hP
  replace hD : va_D A (wM a k w6) := by rw [e5]; exact hD
  refine lv_iconst (v := 0) (pc := 26) hx hb dX4_ends_26 rfl ?_
  refine lv_istore (pc := 27) hx hb dX4_ends_27 hl (by decide) rfl (fun ls hl => ?_)
  replace hl : lv_has ls 14 [(7, .int 0), (6, .int y2), (0, .ref (a 0)), (1, .int x1), (2, .int x2), (3, .int x3), (4, .long x4)] := hl
  exact tX4_ends_29 C0 hK  n _ _ _ x1 x2 x3 x4 y2 0 w6 (lv_sub hl [2, 3, 4, 5, 6, 1, 0] rfl) hP hD hS h
set_option maxRecDepth 100000 in
theorem kX4_ends (l : Launch) (D : va_G) (a : Nat → Nat) (k : Nat → ClassId) (n : Nat) (x1 : Int32) (x2 : Int32) (x3 : Int32) (x4 : Int64) (w : Wd) (z : Wd) (h : fX4_ends n x1 x2 x3 x4 w = some z) (sz : Nat) : Met l yX4_ends wsX4_ends ({ frames := 3, cells := 0, slots := 0, locals := 78 } : Room) (ez_Pc D (tM k) [.ref (a 0), .int x1, .int x2, .int x3, .long x4] (wM a k w) sz) (ez_Qv D (tM k) (va_A (wM a k w) sz) (wM a k z)) 0 0 (va_A (wM a k w) sz) :=
  ez_mk (Qf := fun A => (ez_Qv D (tM k) A (wM a k z))) (by decide) rfl (Nat.le_of_ble_eq_true rfl) (fun p e s m below meth c A ls C0 _ hl hP hD hK => tX4_ends_0 C0 hK n s.heap [] ls x1 x2 x3 x4 w (lv_sub (l := [(0, .ref (a 0)), (1, .int x1), (2, .int x2), (3, .int x3), (4, .long x4)]) hl [0, 1, 2, 3, 4] rfl) hP hD va_S.rf h) sz
/-! EnclosureCalculatorModel workOut -/
theorem dX4_workOut_0 : decode cX4_workOut 0 = .ok (.aload_n 0, 1) := by decide +kernel
theorem dX4_workOut_1 : decode cX4_workOut 1 = .ok (.getfield 16, 3) := by decide +kernel
theorem dX4_workOut_4 : decode cX4_workOut 4 = .ok (.iload_n 1, 1) := by decide +kernel
theorem dX4_workOut_5 : decode cX4_workOut 5 = .ok (.iaload, 1) := by decide +kernel
theorem dX4_workOut_6 : decode cX4_workOut 6 = .ok (.ifCond .ne 41, 3) := by decide +kernel
theorem dX4_workOut_9 : decode cX4_workOut 9 = .ok (.aload_n 0, 1) := by decide +kernel
theorem dX4_workOut_10 : decode cX4_workOut 10 = .ok (.getfield 31, 3) := by decide +kernel
theorem dX4_workOut_13 : decode cX4_workOut 13 = .ok (.iload_n 1, 1) := by decide +kernel
theorem dX4_workOut_14 : decode cX4_workOut 14 = .ok (.iconst 0, 1) := by decide +kernel
theorem dX4_workOut_15 : decode cX4_workOut 15 = .ok (.iastore, 1) := by decide +kernel
theorem dX4_workOut_16 : decode cX4_workOut 16 = .ok (.aload_n 0, 1) := by decide +kernel
theorem dX4_workOut_17 : decode cX4_workOut 17 = .ok (.getfield 34, 3) := by decide +kernel
theorem dX4_workOut_20 : decode cX4_workOut 20 = .ok (.iload_n 1, 1) := by decide +kernel
theorem dX4_workOut_21 : decode cX4_workOut 21 = .ok (.aload_n 0, 1) := by decide +kernel
theorem dX4_workOut_22 : decode cX4_workOut 22 = .ok (.getfield 19, 3) := by decide +kernel
theorem dX4_workOut_25 : decode cX4_workOut 25 = .ok (.iload_n 1, 1) := by decide +kernel
theorem dX4_workOut_26 : decode cX4_workOut 26 = .ok (.iaload, 1) := by decide +kernel
theorem dX4_workOut_27 : decode cX4_workOut 27 = .ok (.i2l, 1) := by decide +kernel
theorem dX4_workOut_28 : decode cX4_workOut 28 = .ok (.lload_n 2, 1) := by decide +kernel
theorem dX4_workOut_29 : decode cX4_workOut 29 = .ok (.lmul, 1) := by decide +kernel
theorem dX4_workOut_30 : decode cX4_workOut 30 = .ok (.lastore, 1) := by decide +kernel
theorem dX4_workOut_31 : decode cX4_workOut 31 = .ok (.aload_n 0, 1) := by decide +kernel
theorem dX4_workOut_32 : decode cX4_workOut 32 = .ok (.getfield 38, 3) := by decide +kernel
theorem dX4_workOut_35 : decode cX4_workOut 35 = .ok (.iload_n 1, 1) := by decide +kernel
theorem dX4_workOut_36 : decode cX4_workOut 36 = .ok (.aload_n 0, 1) := by decide +kernel
theorem dX4_workOut_37 : decode cX4_workOut 37 = .ok (.getfield 19, 3) := by decide +kernel
theorem dX4_workOut_40 : decode cX4_workOut 40 = .ok (.iload_n 1, 1) := by decide +kernel
theorem dX4_workOut_41 : decode cX4_workOut 41 = .ok (.iaload, 1) := by decide +kernel
theorem dX4_workOut_42 : decode cX4_workOut 42 = .ok (.i2l, 1) := by decide +kernel
theorem dX4_workOut_43 : decode cX4_workOut 43 = .ok (.lload_n 2, 1) := by decide +kernel
theorem dX4_workOut_44 : decode cX4_workOut 44 = .ok (.lmul, 1) := by decide +kernel
theorem dX4_workOut_45 : decode cX4_workOut 45 = .ok (.lastore, 1) := by decide +kernel
theorem dX4_workOut_46 : decode cX4_workOut 46 = .ok (.return_, 1) := by decide +kernel
theorem dX4_workOut_47 : decode cX4_workOut 47 = .ok (.aload_n 0, 1) := by decide +kernel
theorem dX4_workOut_48 : decode cX4_workOut 48 = .ok (.getfield 19, 3) := by decide +kernel
theorem dX4_workOut_51 : decode cX4_workOut 51 = .ok (.iload_n 1, 1) := by decide +kernel
theorem dX4_workOut_52 : decode cX4_workOut 52 = .ok (.iaload, 1) := by decide +kernel
theorem dX4_workOut_53 : decode cX4_workOut 53 = .ok (.istore 4, 2) := by decide +kernel
theorem dX4_workOut_55 : decode cX4_workOut 55 = .ok (.aload_n 0, 1) := by decide +kernel
theorem dX4_workOut_56 : decode cX4_workOut 56 = .ok (.getfield 22, 3) := by decide +kernel
theorem dX4_workOut_59 : decode cX4_workOut 59 = .ok (.iload_n 1, 1) := by decide +kernel
theorem dX4_workOut_60 : decode cX4_workOut 60 = .ok (.iaload, 1) := by decide +kernel
theorem dX4_workOut_61 : decode cX4_workOut 61 = .ok (.istore 5, 2) := by decide +kernel
theorem dX4_workOut_63 : decode cX4_workOut 63 = .ok (.aload_n 0, 1) := by decide +kernel
theorem dX4_workOut_64 : decode cX4_workOut 64 = .ok (.getfield 31, 3) := by decide +kernel
theorem dX4_workOut_67 : decode cX4_workOut 67 = .ok (.iload_n 1, 1) := by decide +kernel
theorem dX4_workOut_68 : decode cX4_workOut 68 = .ok (.aload_n 0, 1) := by decide +kernel
theorem dX4_workOut_69 : decode cX4_workOut 69 = .ok (.getfield 31, 3) := by decide +kernel
theorem dX4_workOut_72 : decode cX4_workOut 72 = .ok (.iload 4, 2) := by decide +kernel
theorem dX4_workOut_74 : decode cX4_workOut 74 = .ok (.iaload, 1) := by decide +kernel
theorem dX4_workOut_75 : decode cX4_workOut 75 = .ok (.aload_n 0, 1) := by decide +kernel
theorem dX4_workOut_76 : decode cX4_workOut 76 = .ok (.getfield 31, 3) := by decide +kernel
theorem dX4_workOut_79 : decode cX4_workOut 79 = .ok (.iload 5, 2) := by decide +kernel
theorem dX4_workOut_81 : decode cX4_workOut 81 = .ok (.iaload, 1) := by decide +kernel
theorem dX4_workOut_82 : decode cX4_workOut 82 = .ok (.if_icmp .le 13, 3) := by decide +kernel
theorem dX4_workOut_85 : decode cX4_workOut 85 = .ok (.aload_n 0, 1) := by decide +kernel
theorem dX4_workOut_86 : decode cX4_workOut 86 = .ok (.getfield 31, 3) := by decide +kernel
theorem dX4_workOut_89 : decode cX4_workOut 89 = .ok (.iload 4, 2) := by decide +kernel
theorem dX4_workOut_91 : decode cX4_workOut 91 = .ok (.iaload, 1) := by decide +kernel
theorem dX4_workOut_92 : decode cX4_workOut 92 = .ok (.goto 10, 3) := by decide +kernel
theorem dX4_workOut_95 : decode cX4_workOut 95 = .ok (.aload_n 0, 1) := by decide +kernel
theorem dX4_workOut_96 : decode cX4_workOut 96 = .ok (.getfield 31, 3) := by decide +kernel
theorem dX4_workOut_99 : decode cX4_workOut 99 = .ok (.iload 5, 2) := by decide +kernel
theorem dX4_workOut_101 : decode cX4_workOut 101 = .ok (.iaload, 1) := by decide +kernel
theorem dX4_workOut_102 : decode cX4_workOut 102 = .ok (.iastore, 1) := by decide +kernel
theorem dX4_workOut_103 : decode cX4_workOut 103 = .ok (.aload_n 0, 1) := by decide +kernel
theorem dX4_workOut_104 : decode cX4_workOut 104 = .ok (.getfield 31, 3) := by decide +kernel
theorem dX4_workOut_107 : decode cX4_workOut 107 = .ok (.iload_n 1, 1) := by decide +kernel
theorem dX4_workOut_108 : decode cX4_workOut 108 = .ok (.iaload, 1) := by decide +kernel
theorem dX4_workOut_109 : decode cX4_workOut 109 = .ok (.ifCond .le 4, 3) := by decide +kernel
theorem dX4_workOut_112 : decode cX4_workOut 112 = .ok (.return_, 1) := by decide +kernel
theorem dX4_workOut_113 : decode cX4_workOut 113 = .ok (.aload_n 0, 1) := by decide +kernel
theorem dX4_workOut_114 : decode cX4_workOut 114 = .ok (.getfield 16, 3) := by decide +kernel
theorem dX4_workOut_117 : decode cX4_workOut 117 = .ok (.iload_n 1, 1) := by decide +kernel
theorem dX4_workOut_118 : decode cX4_workOut 118 = .ok (.iaload, 1) := by decide +kernel
theorem dX4_workOut_119 : decode cX4_workOut 119 = .ok (.bipush 6, 2) := by decide +kernel
theorem dX4_workOut_121 : decode cX4_workOut 121 = .ok (.if_icmp .ne 39, 3) := by decide +kernel
theorem dX4_workOut_124 : decode cX4_workOut 124 = .ok (.aload_n 0, 1) := by decide +kernel
theorem dX4_workOut_125 : decode cX4_workOut 125 = .ok (.getfield 34, 3) := by decide +kernel
theorem dX4_workOut_128 : decode cX4_workOut 128 = .ok (.iload 4, 2) := by decide +kernel
theorem dX4_workOut_130 : decode cX4_workOut 130 = .ok (.laload, 1) := by decide +kernel
theorem dX4_workOut_131 : decode cX4_workOut 131 = .ok (.lconst 0, 1) := by decide +kernel
theorem dX4_workOut_132 : decode cX4_workOut 132 = .ok (.lcmp, 1) := by decide +kernel
theorem dX4_workOut_133 : decode cX4_workOut 133 = .ok (.ifCond .ge 27, 3) := by decide +kernel
theorem dX4_workOut_136 : decode cX4_workOut 136 = .ok (.aload_n 0, 1) := by decide +kernel
theorem dX4_workOut_137 : decode cX4_workOut 137 = .ok (.getfield 31, 3) := by decide +kernel
theorem dX4_workOut_140 : decode cX4_workOut 140 = .ok (.iload_n 1, 1) := by decide +kernel
theorem dX4_workOut_141 : decode cX4_workOut 141 = .ok (.aload_n 0, 1) := by decide +kernel
theorem dX4_workOut_142 : decode cX4_workOut 142 = .ok (.getfield 38, 3) := by decide +kernel
theorem dX4_workOut_145 : decode cX4_workOut 145 = .ok (.iload 4, 2) := by decide +kernel
theorem dX4_workOut_147 : decode cX4_workOut 147 = .ok (.laload, 1) := by decide +kernel
theorem dX4_workOut_148 : decode cX4_workOut 148 = .ok (.lconst 0, 1) := by decide +kernel
theorem dX4_workOut_149 : decode cX4_workOut 149 = .ok (.lcmp, 1) := by decide +kernel
theorem dX4_workOut_150 : decode cX4_workOut 150 = .ok (.ifCond .ge 7, 3) := by decide +kernel
theorem dX4_workOut_153 : decode cX4_workOut 153 = .ok (.iconst 2, 1) := by decide +kernel
theorem dX4_workOut_154 : decode cX4_workOut 154 = .ok (.goto 4, 3) := by decide +kernel
theorem dX4_workOut_157 : decode cX4_workOut 157 = .ok (.iconst 1, 1) := by decide +kernel
theorem dX4_workOut_158 : decode cX4_workOut 158 = .ok (.iastore, 1) := by decide +kernel
theorem dX4_workOut_159 : decode cX4_workOut 159 = .ok (.return_, 1) := by decide +kernel
theorem dX4_workOut_160 : decode cX4_workOut 160 = .ok (.aload_n 0, 1) := by decide +kernel
theorem dX4_workOut_161 : decode cX4_workOut 161 = .ok (.getfield 16, 3) := by decide +kernel
theorem dX4_workOut_164 : decode cX4_workOut 164 = .ok (.iload_n 1, 1) := by decide +kernel
theorem dX4_workOut_165 : decode cX4_workOut 165 = .ok (.iaload, 1) := by decide +kernel
theorem dX4_workOut_166 : decode cX4_workOut 166 = .ok (.iconst 5, 1) := by decide +kernel
theorem dX4_workOut_167 : decode cX4_workOut 167 = .ok (.if_icmp .ne 35, 3) := by decide +kernel
theorem dX4_workOut_170 : decode cX4_workOut 170 = .ok (.aload_n 0, 1) := by decide +kernel
theorem dX4_workOut_171 : decode cX4_workOut 171 = .ok (.getfield 34, 3) := by decide +kernel
theorem dX4_workOut_174 : decode cX4_workOut 174 = .ok (.iload 5, 2) := by decide +kernel
theorem dX4_workOut_176 : decode cX4_workOut 176 = .ok (.laload, 1) := by decide +kernel
theorem dX4_workOut_177 : decode cX4_workOut 177 = .ok (.lconst 0, 1) := by decide +kernel
theorem dX4_workOut_178 : decode cX4_workOut 178 = .ok (.lcmp, 1) := by decide +kernel
theorem dX4_workOut_179 : decode cX4_workOut 179 = .ok (.ifCond .gt 23, 3) := by decide +kernel
theorem dX4_workOut_182 : decode cX4_workOut 182 = .ok (.aload_n 0, 1) := by decide +kernel
theorem dX4_workOut_183 : decode cX4_workOut 183 = .ok (.getfield 38, 3) := by decide +kernel
theorem dX4_workOut_186 : decode cX4_workOut 186 = .ok (.iload 5, 2) := by decide +kernel
theorem dX4_workOut_188 : decode cX4_workOut 188 = .ok (.laload, 1) := by decide +kernel
theorem dX4_workOut_189 : decode cX4_workOut 189 = .ok (.lconst 0, 1) := by decide +kernel
theorem dX4_workOut_190 : decode cX4_workOut 190 = .ok (.lcmp, 1) := by decide +kernel
theorem dX4_workOut_191 : decode cX4_workOut 191 = .ok (.ifCond .lt 11, 3) := by decide +kernel
theorem dX4_workOut_194 : decode cX4_workOut 194 = .ok (.aload_n 0, 1) := by decide +kernel
theorem dX4_workOut_195 : decode cX4_workOut 195 = .ok (.getfield 31, 3) := by decide +kernel
theorem dX4_workOut_198 : decode cX4_workOut 198 = .ok (.iload_n 1, 1) := by decide +kernel
theorem dX4_workOut_199 : decode cX4_workOut 199 = .ok (.iconst 1, 1) := by decide +kernel
theorem dX4_workOut_200 : decode cX4_workOut 200 = .ok (.iastore, 1) := by decide +kernel
theorem dX4_workOut_201 : decode cX4_workOut 201 = .ok (.return_, 1) := by decide +kernel
theorem dX4_workOut_202 : decode cX4_workOut 202 = .ok (.aload_n 0, 1) := by decide +kernel
theorem dX4_workOut_203 : decode cX4_workOut 203 = .ok (.iload_n 1, 1) := by decide +kernel
theorem dX4_workOut_204 : decode cX4_workOut 204 = .ok (.iload 4, 2) := by decide +kernel
theorem dX4_workOut_206 : decode cX4_workOut 206 = .ok (.iload 5, 2) := by decide +kernel
theorem dX4_workOut_208 : decode cX4_workOut 208 = .ok (.lload_n 2, 1) := by decide +kernel
theorem dX4_workOut_209 : decode cX4_workOut 209 = .ok (.invokevirtual 138, 3) := by decide +kernel
theorem dX4_workOut_212 : decode cX4_workOut 212 = .ok (.aload_n 0, 1) := by decide +kernel
theorem dX4_workOut_213 : decode cX4_workOut 213 = .ok (.getfield 34, 3) := by decide +kernel
theorem dX4_workOut_216 : decode cX4_workOut 216 = .ok (.iload_n 1, 1) := by decide +kernel
theorem dX4_workOut_217 : decode cX4_workOut 217 = .ok (.laload, 1) := by decide +kernel
theorem dX4_workOut_218 : decode cX4_workOut 218 = .ok (.ldc2_w 142, 3) := by decide +kernel
theorem dX4_workOut_221 : decode cX4_workOut 221 = .ok (.lload_n 2, 1) := by decide +kernel
theorem dX4_workOut_222 : decode cX4_workOut 222 = .ok (.lmul, 1) := by decide +kernel
theorem dX4_workOut_223 : decode cX4_workOut 223 = .ok (.lcmp, 1) := by decide +kernel
theorem dX4_workOut_224 : decode cX4_workOut 224 = .ok (.ifCond .lt 48, 3) := by decide +kernel
theorem dX4_workOut_227 : decode cX4_workOut 227 = .ok (.aload_n 0, 1) := by decide +kernel
theorem dX4_workOut_228 : decode cX4_workOut 228 = .ok (.getfield 38, 3) := by decide +kernel
theorem dX4_workOut_231 : decode cX4_workOut 231 = .ok (.iload_n 1, 1) := by decide +kernel
theorem dX4_workOut_232 : decode cX4_workOut 232 = .ok (.laload, 1) := by decide +kernel
theorem dX4_workOut_233 : decode cX4_workOut 233 = .ok (.ldc2_w 144, 3) := by decide +kernel
theorem dX4_workOut_236 : decode cX4_workOut 236 = .ok (.lload_n 2, 1) := by decide +kernel
theorem dX4_workOut_237 : decode cX4_workOut 237 = .ok (.lmul, 1) := by decide +kernel
theorem dX4_workOut_238 : decode cX4_workOut 238 = .ok (.lcmp, 1) := by decide +kernel
theorem dX4_workOut_239 : decode cX4_workOut 239 = .ok (.ifCond .gt 33, 3) := by decide +kernel
theorem dX4_workOut_242 : decode cX4_workOut 242 = .ok (.aload_n 0, 1) := by decide +kernel
theorem dX4_workOut_243 : decode cX4_workOut 243 = .ok (.getfield 38, 3) := by decide +kernel
theorem dX4_workOut_246 : decode cX4_workOut 246 = .ok (.iload_n 1, 1) := by decide +kernel
theorem dX4_workOut_247 : decode cX4_workOut 247 = .ok (.laload, 1) := by decide +kernel
theorem dX4_workOut_248 : decode cX4_workOut 248 = .ok (.ldc2_w 142, 3) := by decide +kernel
theorem dX4_workOut_251 : decode cX4_workOut 251 = .ok (.lload_n 2, 1) := by decide +kernel
theorem dX4_workOut_252 : decode cX4_workOut 252 = .ok (.lmul, 1) := by decide +kernel
theorem dX4_workOut_253 : decode cX4_workOut 253 = .ok (.lcmp, 1) := by decide +kernel
theorem dX4_workOut_254 : decode cX4_workOut 254 = .ok (.ifCond .lt 18, 3) := by decide +kernel
theorem dX4_workOut_257 : decode cX4_workOut 257 = .ok (.aload_n 0, 1) := by decide +kernel
theorem dX4_workOut_258 : decode cX4_workOut 258 = .ok (.getfield 34, 3) := by decide +kernel
theorem dX4_workOut_261 : decode cX4_workOut 261 = .ok (.iload_n 1, 1) := by decide +kernel
theorem dX4_workOut_262 : decode cX4_workOut 262 = .ok (.laload, 1) := by decide +kernel
theorem dX4_workOut_263 : decode cX4_workOut 263 = .ok (.ldc2_w 144, 3) := by decide +kernel
theorem dX4_workOut_266 : decode cX4_workOut 266 = .ok (.lload_n 2, 1) := by decide +kernel
theorem dX4_workOut_267 : decode cX4_workOut 267 = .ok (.lmul, 1) := by decide +kernel
theorem dX4_workOut_268 : decode cX4_workOut 268 = .ok (.lcmp, 1) := by decide +kernel
theorem dX4_workOut_269 : decode cX4_workOut 269 = .ok (.ifCond .le 10, 3) := by decide +kernel
theorem dX4_workOut_272 : decode cX4_workOut 272 = .ok (.aload_n 0, 1) := by decide +kernel
theorem dX4_workOut_273 : decode cX4_workOut 273 = .ok (.getfield 31, 3) := by decide +kernel
theorem dX4_workOut_276 : decode cX4_workOut 276 = .ok (.iload_n 1, 1) := by decide +kernel
theorem dX4_workOut_277 : decode cX4_workOut 277 = .ok (.iconst 1, 1) := by decide +kernel
theorem dX4_workOut_278 : decode cX4_workOut 278 = .ok (.iastore, 1) := by decide +kernel
theorem dX4_workOut_279 : decode cX4_workOut 279 = .ok (.return_, 1) := by decide +kernel
def fX4_workOut_202 (n : Nat) (x1 : Int32) (x2 : Int64) (x4 : Int32) (x5 : Int32) (w : Wd) : Option (Wd) :=
    (fX4_ends n x1 x4 x5 x2 w).bind fun z1 =>
    (ez_ldL z1 9 120 x1).bind fun y4 =>
    if (lg_cmp y4 ((-4096) * x2)) < 0 then
      (ez_stI z1 8 120 x1 1).bind fun w7 =>
      some w7
    else
      (ez_ldL z1 10 120 x1).bind fun y9 =>
      if 0 < (lg_cmp y9 (4096 * x2)) then
        (ez_stI z1 8 120 x1 1).bind fun w12 =>
        some w12
      else
        (ez_ldL z1 10 120 x1).bind fun y14 =>
        if (lg_cmp y14 ((-4096) * x2)) < 0 then
          (ez_stI z1 8 120 x1 1).bind fun w17 =>
          some w17
        else
          (ez_ldL z1 9 120 x1).bind fun y19 =>
          if (lg_cmp y19 (4096 * x2)) ≤ 0 then
            some z1
          else
            (ez_stI z1 8 120 x1 1).bind fun w22 =>
            some w22
def fX4_workOut_160 (n : Nat) (x1 : Int32) (x2 : Int64) (x4 : Int32) (x5 : Int32) (w : Wd) : Option (Wd) :=
    (ez_ldI w 3 120 x1).bind fun y2 =>
    if y2 = 5 then
      (ez_ldL w 9 120 x5).bind fun y5 =>
      if 0 < (lg_cmp y5 0) then
        fX4_workOut_202 n x1 x2 x4 x5 w
      else
        (ez_ldL w 10 120 x5).bind fun y8 =>
        if (lg_cmp y8 0) < 0 then
          fX4_workOut_202 n x1 x2 x4 x5 w
        else
          (ez_stI w 8 120 x1 1).bind fun w11 =>
          some w11
    else
      fX4_workOut_202 n x1 x2 x4 x5 w
def fX4_workOut_102 (n : Nat) (x1 : Int32) (x2 : Int64) (x4 : Int32) (x5 : Int32) (s0 : Int32) (s1 : Int32) (w : Wd) : Option (Wd) :=
    (ez_stI w 8 120 s1 s0).bind fun w2 =>
    (ez_ldI w2 8 120 x1).bind fun y4 =>
    if y4 ≤ 0 then
      (ez_ldI w2 3 120 x1).bind fun y7 =>
      if y7 = 6 then
        (ez_ldL w2 9 120 x4).bind fun y10 =>
        if 0 ≤ (lg_cmp y10 0) then
          fX4_workOut_160 n x1 x2 x4 x5 w2
        else
          (ez_ldL w2 10 120 x4).bind fun y13 =>
          if 0 ≤ (lg_cmp y13 0) then
            (ez_stI w2 8 120 x1 1).bind fun w16 =>
            some w16
          else
            (ez_stI w2 8 120 x1 2).bind fun w18 =>
            some w18
      else
        fX4_workOut_160 n x1 x2 x4 x5 w2
    else
      some w2
def fX4_workOut (n : Nat) (x1 : Int32) (x2 : Int64) (w : Wd) : Option (Wd) :=
    (ez_ldI w 3 120 x1).bind fun y2 =>
    if y2 = 0 then
      (ez_stI w 8 120 x1 0).bind fun w18 =>
      (ez_ldI w18 4 120 x1).bind fun y20 =>
      (ez_stL w18 9 120 x1 ((Int32.toInt64 y20) * x2)).bind fun w22 =>
      (ez_ldI w22 4 120 x1).bind fun y24 =>
      (ez_stL w22 10 120 x1 ((Int32.toInt64 y24) * x2)).bind fun w26 =>
      some w26
    else
      (ez_ldI w 4 120 x1).bind fun y5 =>
      (ez_ldI w 5 120 x1).bind fun y7 =>
      (ez_ldI w 8 120 y5).bind fun y9 =>
      (ez_ldI w 8 120 y7).bind fun y11 =>
      if y9 ≤ y11 then
        (ez_ldI w 8 120 y7).bind fun y14 =>
        fX4_workOut_102 n x1 x2 y5 y7 y14 x1 w
      else
        (ez_ldI w 8 120 y5).bind fun y16 =>
        fX4_workOut_102 n x1 x2 y5 y7 y16 x1 w
set_option maxHeartbeats 4000000 in
set_option maxRecDepth 100000 in
theorem tX4_workOut_202 {p : Program} {l : Launch} {e : Env} {s : State} {m : MethodId} {args : Array Value} {below : List Frame} {meth : Method} {c : Code} {A : Nat → Prop} {D : va_G} {a : Nat → Nat} {k : Nat → ClassId} {z : Wd} (C0 : ez_C p s m args meth c cX4_workOut none 6 RX4 A) (hK : va_K D vwCl (tM k) s) : ∀ (n : Nat) (H : Heap) (locs : List Loc) (ls : Array Slot) (x1 : Int32) (x2 : Int64) (x4 : Int32) (x5 : Int32) (w : Wd), lv_has ls 6 [(0, .ref (a 0)), (1, .int x1), (2, .long x2), (4, .int x4), (5, .int x5)] → va_P D vwCl (wM a k w) H → va_D A (wM a k w) → va_S A s.heap H locs → fX4_workOut_202 n x1 x2 x4 x5 w = some z → W p l e ({ frames := 4, cells := 0, slots := 0, locals := 111 } : Room) s m args below meth c H locs 0 0 (MQ below (ez_Qv D (tM k) A (wM a k z)) args s 0 0 A) (F0 m 202 ls []) := by
  intro n
  intro H locs ls x1 x2 x4 x5 w hl hP hD hS h
  rw [fX4_workOut_202] at h
  have C1 := C0
  obtain ⟨hx, hb, hr, hml, hown, hw, hlk, hA, hN⟩ := C1
  refine lv_aload_n (pc := 202) hx hb dX4_workOut_202 rfl (lv_at hl 0 rfl) ?_
  refine lv_iload_n (pc := 203) hx hb dX4_workOut_203 rfl (lv_at hl 1 rfl) ?_
  refine lv_iload (pc := 204) hx hb dX4_workOut_204 (lv_at hl 3 rfl) ?_
  refine lv_iload (pc := 206) hx hb dX4_workOut_206 (lv_at hl 4 rfl) ?_
  refine lv_lload_n (pc := 208) hx hb dX4_workOut_208 rfl (lv_at hl 2 rfl) ?_
  replace h := ez_bd h
  obtain ⟨z1, e2, h⟩ := h
  refine ez_callV (pc := 209) (wr := []) (wl := (wM a k w)) (wl' := (wM a k z1)) (va_runV (g := F0 m 209 ls [.long x2, .int x5, .int x4, .int x1, .ref (a 0)]) (As := [.int x1, .int x4, .int x5, .long x2]) (rest := []) ⟨hx, hb, hml, hown, hw⟩ (kX4_ends l D a k n x1 x4 x5 x2 w z1 e2 H.size) (cwV 4 hw (ez_gV mw590 mw592 mp46 mw4 mw593) rfl rfl rfl (by decide +kernel) ⟨Nat.le_of_ble_eq_true rfl, Nat.le_of_ble_eq_true rfl⟩) (ez_preV (wr := []) (wl := (wM a k w)) hP hD hK hN 0 rfl rfl) rfl rfl hl.1 rfl (lv_room (Nat.le_of_ble_eq_true rfl)) dX4_workOut_209 ⟨Nat.le_refl _, Nat.le_refl _⟩) hP hD hS hA (fun H locs hP hD hS => ?_)
  replace hP : va_P D vwCl (wM a k z1) H := hP
  replace hD : va_D A (wM a k z1) := hD
  refine lv_aload_n (pc := 212) hx hb dX4_workOut_212 rfl (lv_at hl 0 rfl) ?_
  refine va_get (D := D) (pc := 213) hx hb hw inX4 hown hK hP 0 rfl rfl 12 (by decide) (hw _ mw439) (fun _ h9 => h9) rfl dX4_workOut_213 ?_
  refine lv_iload_n (pc := 216) hx hb dX4_workOut_216 rfl (lv_at hl 1 rfl) ?_
  replace h := ez_bd h
  obtain ⟨y4, e3, h⟩ := h
  obtain ⟨e3i, e3⟩ := ez_ldLs e3
  refine va_lald (D := D) (pc := 217) hx hb hK hP 9 8 rfl rfl e3i dX4_workOut_217 ?_
  refine lv_topl (fun y9 hy9 => ?_)
  obtain rfl : y4 = y9 := e3.trans hy9.symm
  refine lv_ldc2 (v := (-4096)) (pc := 218) hx hb hown (hw _ mw610) dX4_workOut_218 ?_
  refine lv_lload_n (pc := 221) hx hb dX4_workOut_221 rfl (lv_at hl 2 rfl) ?_
  refine lv_lmul (pc := 222) hx hb dX4_workOut_222 ?_
  refine W.lcmp (pc := 223) hx hb dX4_workOut_223 ?_
  refine lv_if_lt (pc := 224) (tgt := 272) hx hb dX4_workOut_224 (by decide) (fun c5 => ?_) (fun c5 => ?_)
  · replace h := ez_it c5 h
    refine lv_aload_n (pc := 272) hx hb dX4_workOut_272 rfl (lv_at hl 0 rfl) ?_
    refine va_get (D := D) (pc := 273) hx hb hw inX4 hown hK hP 0 rfl rfl 11 (by decide) (hw _ mw438) (fun _ h9 => h9) rfl dX4_workOut_273 ?_
    refine lv_iload_n (pc := 276) hx hb dX4_workOut_276 rfl (lv_at hl 1 rfl) ?_
    refine lv_iconst (v := 1) (pc := 277) hx hb dX4_workOut_277 rfl ?_
    replace h := ez_bd h
    obtain ⟨w7, e6, h⟩ := h
    obtain ⟨e6i, e6⟩ := ez_stIs e6
    refine va_iast (D := D) (pc := 278) hx hb hK hP hD hS 8 7 rfl rfl e6i dX4_workOut_278 (fun H locs hP hD hS => ?_)
    replace hP : va_P D vwCl (wM a k w7) H := by rw [e6]; exact hP
    replace hD : va_D A (wM a k w7) := by rw [e6]; exact hD
    obtain rfl := ez_r1 h
    exact ez_retV C0 hP hD hK hS dX4_workOut_279
  · replace h := ez_if c5 h
    refine lv_aload_n (pc := 227) hx hb dX4_workOut_227 rfl (lv_at hl 0 rfl) ?_
    refine va_get (D := D) (pc := 228) hx hb hw inX4 hown hK hP 0 rfl rfl 13 (by decide) (hw _ mw440) (fun _ h9 => h9) rfl dX4_workOut_228 ?_
    refine lv_iload_n (pc := 231) hx hb dX4_workOut_231 rfl (lv_at hl 1 rfl) ?_
    replace h := ez_bd h
    obtain ⟨y9, e8, h⟩ := h
    obtain ⟨e8i, e8⟩ := ez_ldLs e8
    refine va_lald (D := D) (pc := 232) hx hb hK hP 10 9 rfl rfl e8i dX4_workOut_232 ?_
    refine lv_topl (fun yq hy9 => ?_)
    obtain rfl : y9 = yq := e8.trans hy9.symm
    refine lv_ldc2 (v := 4096) (pc := 233) hx hb hown (hw _ mw611) dX4_workOut_233 ?_
    refine lv_lload_n (pc := 236) hx hb dX4_workOut_236 rfl (lv_at hl 2 rfl) ?_
    refine lv_lmul (pc := 237) hx hb dX4_workOut_237 ?_
    refine W.lcmp (pc := 238) hx hb dX4_workOut_238 ?_
    refine lv_if_gt (pc := 239) (tgt := 272) hx hb dX4_workOut_239 (by decide) (fun c10 => ?_) (fun c10 => ?_)
    · replace h := ez_it c10 h
      refine lv_aload_n (pc := 272) hx hb dX4_workOut_272 rfl (lv_at hl 0 rfl) ?_
      refine va_get (D := D) (pc := 273) hx hb hw inX4 hown hK hP 0 rfl rfl 11 (by decide) (hw _ mw438) (fun _ h9 => h9) rfl dX4_workOut_273 ?_
      refine lv_iload_n (pc := 276) hx hb dX4_workOut_276 rfl (lv_at hl 1 rfl) ?_
      refine lv_iconst (v := 1) (pc := 277) hx hb dX4_workOut_277 rfl ?_
      replace h := ez_bd h
      obtain ⟨w12, e11, h⟩ := h
      obtain ⟨e11i, e11⟩ := ez_stIs e11
      refine va_iast (D := D) (pc := 278) hx hb hK hP hD hS 8 7 rfl rfl e11i dX4_workOut_278 (fun H locs hP hD hS => ?_)
      replace hP : va_P D vwCl (wM a k w12) H := by rw [e11]; exact hP
      replace hD : va_D A (wM a k w12) := by rw [e11]; exact hD
      obtain rfl := ez_r1 h
      exact ez_retV C0 hP hD hK hS dX4_workOut_279
    · replace h := ez_if c10 h
      refine lv_aload_n (pc := 242) hx hb dX4_workOut_242 rfl (lv_at hl 0 rfl) ?_
      refine va_get (D := D) (pc := 243) hx hb hw inX4 hown hK hP 0 rfl rfl 13 (by decide) (hw _ mw440) (fun _ h9 => h9) rfl dX4_workOut_243 ?_
      refine lv_iload_n (pc := 246) hx hb dX4_workOut_246 rfl (lv_at hl 1 rfl) ?_
      replace h := ez_bd h
      obtain ⟨y14, e13, h⟩ := h
      obtain ⟨e13i, e13⟩ := ez_ldLs e13
      refine va_lald (D := D) (pc := 247) hx hb hK hP 10 9 rfl rfl e13i dX4_workOut_247 ?_
      refine lv_topl (fun y9 hy9 => ?_)
      obtain rfl : y14 = y9 := e13.trans hy9.symm
      refine lv_ldc2 (v := (-4096)) (pc := 248) hx hb hown (hw _ mw610) dX4_workOut_248 ?_
      refine lv_lload_n (pc := 251) hx hb dX4_workOut_251 rfl (lv_at hl 2 rfl) ?_
      refine lv_lmul (pc := 252) hx hb dX4_workOut_252 ?_
      refine W.lcmp (pc := 253) hx hb dX4_workOut_253 ?_
      refine lv_if_lt (pc := 254) (tgt := 272) hx hb dX4_workOut_254 (by decide) (fun c15 => ?_) (fun c15 => ?_)
      · replace h := ez_it c15 h
        refine lv_aload_n (pc := 272) hx hb dX4_workOut_272 rfl (lv_at hl 0 rfl) ?_
        refine va_get (D := D) (pc := 273) hx hb hw inX4 hown hK hP 0 rfl rfl 11 (by decide) (hw _ mw438) (fun _ h9 => h9) rfl dX4_workOut_273 ?_
        refine lv_iload_n (pc := 276) hx hb dX4_workOut_276 rfl (lv_at hl 1 rfl) ?_
        refine lv_iconst (v := 1) (pc := 277) hx hb dX4_workOut_277 rfl ?_
        replace h := ez_bd h
        obtain ⟨w17, e16, h⟩ := h
        obtain ⟨e16i, e16⟩ := ez_stIs e16
        refine va_iast (D := D) (pc := 278) hx hb hK hP hD hS 8 7 rfl rfl e16i dX4_workOut_278 (fun H locs hP hD hS => ?_)
        replace hP : va_P D vwCl (wM a k w17) H := by rw [e16]; exact hP
        replace hD : va_D A (wM a k w17) := by rw [e16]; exact hD
        obtain rfl := ez_r1 h
        exact ez_retV C0 hP hD hK hS dX4_workOut_279
      · replace h := ez_if c15 h
        refine lv_aload_n (pc := 257) hx hb dX4_workOut_257 rfl (lv_at hl 0 rfl) ?_
        refine va_get (D := D) (pc := 258) hx hb hw inX4 hown hK hP 0 rfl rfl 12 (by decide) (hw _ mw439) (fun _ h9 => h9) rfl dX4_workOut_258 ?_
        refine lv_iload_n (pc := 261) hx hb dX4_workOut_261 rfl (lv_at hl 1 rfl) ?_
        replace h := ez_bd h
        obtain ⟨y19, e18, h⟩ := h
        obtain ⟨e18i, e18⟩ := ez_ldLs e18
        refine va_lald (D := D) (pc := 262) hx hb hK hP 9 8 rfl rfl e18i dX4_workOut_262 ?_
        refine lv_topl (fun y9 hy9 => ?_)
        obtain rfl : y19 = y9 := e18.trans hy9.symm
        refine lv_ldc2 (v := 4096) (pc := 263) hx hb hown (hw _ mw611) dX4_workOut_263 ?_
        refine lv_lload_n (pc := 266) hx hb dX4_workOut_266 rfl (lv_at hl 2 rfl) ?_
        refine lv_lmul (pc := 267) hx hb dX4_workOut_267 ?_
        refine W.lcmp (pc := 268) hx hb dX4_workOut_268 ?_
        refine lv_if_le (pc := 269) (tgt := 279) hx hb dX4_workOut_269 (by decide) (fun c20 => ?_) (fun c20 => ?_)
        · replace h := ez_it c20 h
          obtain rfl := ez_r1 h
          exact ez_retV C0 hP hD hK hS dX4_workOut_279
        · replace h := ez_if c20 h
          refine lv_aload_n (pc := 272) hx hb dX4_workOut_272 rfl (lv_at hl 0 rfl) ?_
          refine va_get (D := D) (pc := 273) hx hb hw inX4 hown hK hP 0 rfl rfl 11 (by decide) (hw _ mw438) (fun _ h9 => h9) rfl dX4_workOut_273 ?_
          refine lv_iload_n (pc := 276) hx hb dX4_workOut_276 rfl (lv_at hl 1 rfl) ?_
          refine lv_iconst (v := 1) (pc := 277) hx hb dX4_workOut_277 rfl ?_
          replace h := ez_bd h
          obtain ⟨w22, e21, h⟩ := h
          obtain ⟨e21i, e21⟩ := ez_stIs e21
          refine va_iast (D := D) (pc := 278) hx hb hK hP hD hS 8 7 rfl rfl e21i dX4_workOut_278 (fun H locs hP hD hS => ?_)
          replace hP : va_P D vwCl (wM a k w22) H := by rw [e21]; exact hP
          replace hD : va_D A (wM a k w22) := by rw [e21]; exact hD
          obtain rfl := ez_r1 h
          exact ez_retV C0 hP hD hK hS dX4_workOut_279
set_option maxHeartbeats 4000000 in
set_option maxRecDepth 100000 in
theorem tX4_workOut_160 {p : Program} {l : Launch} {e : Env} {s : State} {m : MethodId} {args : Array Value} {below : List Frame} {meth : Method} {c : Code} {A : Nat → Prop} {D : va_G} {a : Nat → Nat} {k : Nat → ClassId} {z : Wd} (C0 : ez_C p s m args meth c cX4_workOut none 6 RX4 A) (hK : va_K D vwCl (tM k) s) : ∀ (n : Nat) (H : Heap) (locs : List Loc) (ls : Array Slot) (x1 : Int32) (x2 : Int64) (x4 : Int32) (x5 : Int32) (w : Wd), lv_has ls 6 [(0, .ref (a 0)), (1, .int x1), (2, .long x2), (4, .int x4), (5, .int x5)] → va_P D vwCl (wM a k w) H → va_D A (wM a k w) → va_S A s.heap H locs → fX4_workOut_160 n x1 x2 x4 x5 w = some z → W p l e ({ frames := 4, cells := 0, slots := 0, locals := 111 } : Room) s m args below meth c H locs 0 0 (MQ below (ez_Qv D (tM k) A (wM a k z)) args s 0 0 A) (F0 m 160 ls []) := by
  intro n
  intro H locs ls x1 x2 x4 x5 w hl hP hD hS h
  rw [fX4_workOut_160] at h
  have C1 := C0
  obtain ⟨hx, hb, hr, hml, hown, hw, hlk, hA, hN⟩ := C1
  refine lv_aload_n (pc := 160) hx hb dX4_workOut_160 rfl (lv_at hl 0 rfl) ?_
  refine va_get (D := D) (pc := 161) hx hb hw inX4 hown hK hP 0 rfl rfl 4 (by decide) (hw _ mw431) (fun _ h9 => h9) rfl dX4_workOut_161 ?_
  refine lv_iload_n (pc := 164) hx hb dX4_workOut_164 rfl (lv_at hl 1 rfl) ?_
  replace h := ez_bd h
  obtain ⟨y2, e1, h⟩ := h
  obtain ⟨e1i, e1⟩ := ez_ldIs e1
  refine va_iald (D := D) (pc := 165) hx hb hK hP 3 2 rfl rfl e1i dX4_workOut_165 ?_
  refine lv_topi (fun y9 hy9 => ?_)
  obtain rfl : y2 = y9 := e1.trans hy9.symm
  refine lv_iconst (v := 5) (pc := 166) hx hb dX4_workOut_166 rfl ?_
  refine lv_icmp_ne (pc := 167) (tgt := 202) hx hb dX4_workOut_167 (by decide) (fun c3 => ?_) (fun c3 => ?_)
  · replace h := ez_if c3 h
    exact tX4_workOut_202 C0 hK  n _ _ _ x1 x2 x4 x5 w (lv_sub hl [0, 1, 2, 3, 4] rfl) hP hD hS h
  · replace h := ez_it c3 h
    refine lv_aload_n (pc := 170) hx hb dX4_workOut_170 rfl (lv_at hl 0 rfl) ?_
    refine va_get (D := D) (pc := 171) hx hb hw inX4 hown hK hP 0 rfl rfl 12 (by decide) (hw _ mw439) (fun _ h9 => h9) rfl dX4_workOut_171 ?_
    refine lv_iload (pc := 174) hx hb dX4_workOut_174 (lv_at hl 4 rfl) ?_
    replace h := ez_bd h
    obtain ⟨y5, e4, h⟩ := h
    obtain ⟨e4i, e4⟩ := ez_ldLs e4
    refine va_lald (D := D) (pc := 176) hx hb hK hP 9 8 rfl rfl e4i dX4_workOut_176 ?_
    refine lv_topl (fun y9 hy9 => ?_)
    obtain rfl : y5 = y9 := e4.trans hy9.symm
    refine lv_lconst (v := 0) (pc := 177) hx hb dX4_workOut_177 rfl ?_
    refine W.lcmp (pc := 178) hx hb dX4_workOut_178 ?_
    refine lv_if_gt (pc := 179) (tgt := 202) hx hb dX4_workOut_179 (by decide) (fun c6 => ?_) (fun c6 => ?_)
    · replace h := ez_it c6 h
      exact tX4_workOut_202 C0 hK  n _ _ _ x1 x2 x4 x5 w (lv_sub hl [0, 1, 2, 3, 4] rfl) hP hD hS h
    · replace h := ez_if c6 h
      refine lv_aload_n (pc := 182) hx hb dX4_workOut_182 rfl (lv_at hl 0 rfl) ?_
      refine va_get (D := D) (pc := 183) hx hb hw inX4 hown hK hP 0 rfl rfl 13 (by decide) (hw _ mw440) (fun _ h9 => h9) rfl dX4_workOut_183 ?_
      refine lv_iload (pc := 186) hx hb dX4_workOut_186 (lv_at hl 4 rfl) ?_
      replace h := ez_bd h
      obtain ⟨y8, e7, h⟩ := h
      obtain ⟨e7i, e7⟩ := ez_ldLs e7
      refine va_lald (D := D) (pc := 188) hx hb hK hP 10 9 rfl rfl e7i dX4_workOut_188 ?_
      refine lv_topl (fun y9 hy9 => ?_)
      obtain rfl : y8 = y9 := e7.trans hy9.symm
      refine lv_lconst (v := 0) (pc := 189) hx hb dX4_workOut_189 rfl ?_
      refine W.lcmp (pc := 190) hx hb dX4_workOut_190 ?_
      refine lv_if_lt (pc := 191) (tgt := 202) hx hb dX4_workOut_191 (by decide) (fun c9 => ?_) (fun c9 => ?_)
      · replace h := ez_it c9 h
        exact tX4_workOut_202 C0 hK  n _ _ _ x1 x2 x4 x5 w (lv_sub hl [0, 1, 2, 3, 4] rfl) hP hD hS h
      · replace h := ez_if c9 h
        refine lv_aload_n (pc := 194) hx hb dX4_workOut_194 rfl (lv_at hl 0 rfl) ?_
        refine va_get (D := D) (pc := 195) hx hb hw inX4 hown hK hP 0 rfl rfl 11 (by decide) (hw _ mw438) (fun _ h9 => h9) rfl dX4_workOut_195 ?_
        refine lv_iload_n (pc := 198) hx hb dX4_workOut_198 rfl (lv_at hl 1 rfl) ?_
        refine lv_iconst (v := 1) (pc := 199) hx hb dX4_workOut_199 rfl ?_
        replace h := ez_bd h
        obtain ⟨w11, e10, h⟩ := h
        obtain ⟨e10i, e10⟩ := ez_stIs e10
        refine va_iast (D := D) (pc := 200) hx hb hK hP hD hS 8 7 rfl rfl e10i dX4_workOut_200 (fun H locs hP hD hS => ?_)
        replace hP : va_P D vwCl (wM a k w11) H := by rw [e10]; exact hP
        replace hD : va_D A (wM a k w11) := by rw [e10]; exact hD
        obtain rfl := ez_r1 h
        exact ez_retV C0 hP hD hK hS dX4_workOut_201
set_option maxHeartbeats 4000000 in
set_option maxRecDepth 100000 in
theorem tX4_workOut_102 {p : Program} {l : Launch} {e : Env} {s : State} {m : MethodId} {args : Array Value} {below : List Frame} {meth : Method} {c : Code} {A : Nat → Prop} {D : va_G} {a : Nat → Nat} {k : Nat → ClassId} {z : Wd} (C0 : ez_C p s m args meth c cX4_workOut none 6 RX4 A) (hK : va_K D vwCl (tM k) s) : ∀ (n : Nat) (H : Heap) (locs : List Loc) (ls : Array Slot) (x1 : Int32) (x2 : Int64) (x4 : Int32) (x5 : Int32) (s0 : Int32) (s1 : Int32) (w : Wd), lv_has ls 6 [(0, .ref (a 0)), (1, .int x1), (2, .long x2), (4, .int x4), (5, .int x5)] → va_P D vwCl (wM a k w) H → va_D A (wM a k w) → va_S A s.heap H locs → fX4_workOut_102 n x1 x2 x4 x5 s0 s1 w = some z → W p l e ({ frames := 4, cells := 0, slots := 0, locals := 111 } : Room) s m args below meth c H locs 0 0 (MQ below (ez_Qv D (tM k) A (wM a k z)) args s 0 0 A) (F0 m 102 ls [.int s0, .int s1, .ref (a 8)]) := by
  intro n
  intro H locs ls x1 x2 x4 x5 s0 s1 w hl hP hD hS h
  rw [fX4_workOut_102] at h
  have C1 := C0
  obtain ⟨hx, hb, hr, hml, hown, hw, hlk, hA, hN⟩ := C1
  replace h := ez_bd h
  obtain ⟨w2, e1, h⟩ := h
  obtain ⟨e1i, e1⟩ := ez_stIs e1
  refine va_iast (D := D) (pc := 102) hx hb hK hP hD hS 8 7 rfl rfl e1i dX4_workOut_102 (fun H locs hP hD hS => ?_)
  replace hP : va_P D vwCl (wM a k w2) H := by rw [e1]; exact hP
  replace hD : va_D A (wM a k w2) := by rw [e1]; exact hD
  refine lv_aload_n (pc := 103) hx hb dX4_workOut_103 rfl (lv_at hl 0 rfl) ?_
  refine va_get (D := D) (pc := 104) hx hb hw inX4 hown hK hP 0 rfl rfl 11 (by decide) (hw _ mw438) (fun _ h9 => h9) rfl dX4_workOut_104 ?_
  refine lv_iload_n (pc := 107) hx hb dX4_workOut_107 rfl (lv_at hl 1 rfl) ?_
  replace h := ez_bd h
  obtain ⟨y4, e3, h⟩ := h
  obtain ⟨e3i, e3⟩ := ez_ldIs e3
  refine va_iald (D := D) (pc := 108) hx hb hK hP 8 7 rfl rfl e3i dX4_workOut_108 ?_
  refine lv_topi (fun y9 hy9 => ?_)
  obtain rfl : y4 = y9 := e3.trans hy9.symm
  refine lv_if_le (pc := 109) (tgt := 113) hx hb dX4_workOut_109 (by decide) (fun c5 => ?_) (fun c5 => ?_)
  · replace h := ez_it c5 h
    refine lv_aload_n (pc := 113) hx hb dX4_workOut_113 rfl (lv_at hl 0 rfl) ?_
    refine va_get (D := D) (pc := 114) hx hb hw inX4 hown hK hP 0 rfl rfl 4 (by decide) (hw _ mw431) (fun _ h9 => h9) rfl dX4_workOut_114 ?_
    refine lv_iload_n (pc := 117) hx hb dX4_workOut_117 rfl (lv_at hl 1 rfl) ?_
    replace h := ez_bd h
    obtain ⟨y7, e6, h⟩ := h
    obtain ⟨e6i, e6⟩ := ez_ldIs e6
    refine va_iald (D := D) (pc := 118) hx hb hK hP 3 2 rfl rfl e6i dX4_workOut_118 ?_
    refine lv_topi (fun y9 hy9 => ?_)
    obtain rfl : y7 = y9 := e6.trans hy9.symm
    refine lv_bipush (v := 6) (pc := 119) hx hb dX4_workOut_119 rfl ?_
    refine lv_icmp_ne (pc := 121) (tgt := 160) hx hb dX4_workOut_121 (by decide) (fun c8 => ?_) (fun c8 => ?_)
    · replace h := ez_if c8 h
      exact tX4_workOut_160 C0 hK  n _ _ _ x1 x2 x4 x5 w2 (lv_sub hl [0, 1, 2, 3, 4] rfl) hP hD hS h
    · replace h := ez_it c8 h
      refine lv_aload_n (pc := 124) hx hb dX4_workOut_124 rfl (lv_at hl 0 rfl) ?_
      refine va_get (D := D) (pc := 125) hx hb hw inX4 hown hK hP 0 rfl rfl 12 (by decide) (hw _ mw439) (fun _ h9 => h9) rfl dX4_workOut_125 ?_
      refine lv_iload (pc := 128) hx hb dX4_workOut_128 (lv_at hl 3 rfl) ?_
      replace h := ez_bd h
      obtain ⟨y10, e9, h⟩ := h
      obtain ⟨e9i, e9⟩ := ez_ldLs e9
      refine va_lald (D := D) (pc := 130) hx hb hK hP 9 8 rfl rfl e9i dX4_workOut_130 ?_
      refine lv_topl (fun y9 hy9 => ?_)
      obtain rfl : y10 = y9 := e9.trans hy9.symm
      refine lv_lconst (v := 0) (pc := 131) hx hb dX4_workOut_131 rfl ?_
      refine W.lcmp (pc := 132) hx hb dX4_workOut_132 ?_
      refine lv_if_ge (pc := 133) (tgt := 160) hx hb dX4_workOut_133 (by decide) (fun c11 => ?_) (fun c11 => ?_)
      · replace h := ez_it c11 h
        exact tX4_workOut_160 C0 hK  n _ _ _ x1 x2 x4 x5 w2 (lv_sub hl [0, 1, 2, 3, 4] rfl) hP hD hS h
      · replace h := ez_if c11 h
        refine lv_aload_n (pc := 136) hx hb dX4_workOut_136 rfl (lv_at hl 0 rfl) ?_
        refine va_get (D := D) (pc := 137) hx hb hw inX4 hown hK hP 0 rfl rfl 11 (by decide) (hw _ mw438) (fun _ h9 => h9) rfl dX4_workOut_137 ?_
        refine lv_iload_n (pc := 140) hx hb dX4_workOut_140 rfl (lv_at hl 1 rfl) ?_
        refine lv_aload_n (pc := 141) hx hb dX4_workOut_141 rfl (lv_at hl 0 rfl) ?_
        refine va_get (D := D) (pc := 142) hx hb hw inX4 hown hK hP 0 rfl rfl 13 (by decide) (hw _ mw440) (fun _ h9 => h9) rfl dX4_workOut_142 ?_
        refine lv_iload (pc := 145) hx hb dX4_workOut_145 (lv_at hl 3 rfl) ?_
        replace h := ez_bd h
        obtain ⟨y13, e12, h⟩ := h
        obtain ⟨e12i, e12⟩ := ez_ldLs e12
        refine va_lald (D := D) (pc := 147) hx hb hK hP 10 9 rfl rfl e12i dX4_workOut_147 ?_
        refine lv_topl (fun y9 hy9 => ?_)
        obtain rfl : y13 = y9 := e12.trans hy9.symm
        refine lv_lconst (v := 0) (pc := 148) hx hb dX4_workOut_148 rfl ?_
        refine W.lcmp (pc := 149) hx hb dX4_workOut_149 ?_
        refine lv_if_ge (pc := 150) (tgt := 157) hx hb dX4_workOut_150 (by decide) (fun c14 => ?_) (fun c14 => ?_)
        · replace h := ez_it c14 h
          refine lv_iconst (v := 1) (pc := 157) hx hb dX4_workOut_157 rfl ?_
          replace h := ez_bd h
          obtain ⟨w16, e15, h⟩ := h
          obtain ⟨e15i, e15⟩ := ez_stIs e15
          refine va_iast (D := D) (pc := 158) hx hb hK hP hD hS 8 7 rfl rfl e15i dX4_workOut_158 (fun H locs hP hD hS => ?_)
          replace hP : va_P D vwCl (wM a k w16) H := by rw [e15]; exact hP
          replace hD : va_D A (wM a k w16) := by rw [e15]; exact hD
          obtain rfl := ez_r1 h
          exact ez_retV C0 hP hD hK hS dX4_workOut_159
        · replace h := ez_if c14 h
          refine lv_iconst (v := 2) (pc := 153) hx hb dX4_workOut_153 rfl ?_
          refine lv_goto (pc := 154) (tgt := 158) hx hb dX4_workOut_154 (by decide) ?_
          replace h := ez_bd h
          obtain ⟨w18, e17, h⟩ := h
          obtain ⟨e17i, e17⟩ := ez_stIs e17
          refine va_iast (D := D) (pc := 158) hx hb hK hP hD hS 8 7 rfl rfl e17i dX4_workOut_158 (fun H locs hP hD hS => ?_)
          replace hP : va_P D vwCl (wM a k w18) H := by rw [e17]; exact hP
          replace hD : va_D A (wM a k w18) := by rw [e17]; exact hD
          obtain rfl := ez_r1 h
          exact ez_retV C0 hP hD hK hS dX4_workOut_159
  · replace h := ez_if c5 h
    obtain rfl := ez_r1 h
    exact ez_retV C0 hP hD hK hS dX4_workOut_112
set_option maxHeartbeats 4000000 in
set_option maxRecDepth 100000 in
theorem tX4_workOut_0 {p : Program} {l : Launch} {e : Env} {s : State} {m : MethodId} {args : Array Value} {below : List Frame} {meth : Method} {c : Code} {A : Nat → Prop} {D : va_G} {a : Nat → Nat} {k : Nat → ClassId} {z : Wd} (C0 : ez_C p s m args meth c cX4_workOut none 6 RX4 A) (hK : va_K D vwCl (tM k) s) : ∀ (n : Nat) (H : Heap) (locs : List Loc) (ls : Array Slot) (x1 : Int32) (x2 : Int64) (w : Wd), lv_has ls 6 [(0, .ref (a 0)), (1, .int x1), (2, .long x2)] → va_P D vwCl (wM a k w) H → va_D A (wM a k w) → va_S A s.heap H locs → fX4_workOut n x1 x2 w = some z → W p l e ({ frames := 4, cells := 0, slots := 0, locals := 111 } : Room) s m args below meth c H locs 0 0 (MQ below (ez_Qv D (tM k) A (wM a k z)) args s 0 0 A) (F0 m 0 ls []) := by
  intro n
  intro H locs ls x1 x2 w hl hP hD hS h
  rw [fX4_workOut] at h
  have C1 := C0
  obtain ⟨hx, hb, hr, hml, hown, hw, hlk, hA, hN⟩ := C1
  refine lv_aload_n (pc := 0) hx hb dX4_workOut_0 rfl (lv_at hl 0 rfl) ?_
  refine va_get (D := D) (pc := 1) hx hb hw inX4 hown hK hP 0 rfl rfl 4 (by decide) (hw _ mw431) (fun _ h9 => h9) rfl dX4_workOut_1 ?_
  refine lv_iload_n (pc := 4) hx hb dX4_workOut_4 rfl (lv_at hl 1 rfl) ?_
  replace h := ez_bd h
  obtain ⟨y2, e1, h⟩ := h
  obtain ⟨e1i, e1⟩ := ez_ldIs e1
  refine va_iald (D := D) (pc := 5) hx hb hK hP 3 2 rfl rfl e1i dX4_workOut_5 ?_
  refine lv_topi (fun y9 hy9 => ?_)
  obtain rfl : y2 = y9 := e1.trans hy9.symm
  refine lv_if_ne (pc := 6) (tgt := 47) hx hb dX4_workOut_6 (by decide) (fun c3 => ?_) (fun c3 => ?_)
  · replace h := ez_if c3 h
    refine lv_aload_n (pc := 47) hx hb dX4_workOut_47 rfl (lv_at hl 0 rfl) ?_
    refine va_get (D := D) (pc := 48) hx hb hw inX4 hown hK hP 0 rfl rfl 5 (by decide) (hw _ mw432) (fun _ h9 => h9) rfl dX4_workOut_48 ?_
    refine lv_iload_n (pc := 51) hx hb dX4_workOut_51 rfl (lv_at hl 1 rfl) ?_
    replace h := ez_bd h
    obtain ⟨y5, e4, h⟩ := h
    obtain ⟨e4i, e4⟩ := ez_ldIs e4
    refine va_iald (D := D) (pc := 52) hx hb hK hP 4 3 rfl rfl e4i dX4_workOut_52 ?_
    refine lv_topi (fun y9 hy9 => ?_)
    obtain rfl : y5 = y9 := e4.trans hy9.symm
    refine lv_istore (pc := 53) hx hb dX4_workOut_53 hl (by decide) rfl (fun ls hl => ?_)
    replace hl : lv_has ls 6 [(4, .int y5), (0, .ref (a 0)), (1, .int x1), (2, .long x2)] := hl
    refine lv_aload_n (pc := 55) hx hb dX4_workOut_55 rfl (lv_at hl 1 rfl) ?_
    refine va_get (D := D) (pc := 56) hx hb hw inX4 hown hK hP 0 rfl rfl 6 (by decide) (hw _ mw433) (fun _ h9 => h9) rfl dX4_workOut_56 ?_
    refine lv_iload_n (pc := 59) hx hb dX4_workOut_59 rfl (lv_at hl 2 rfl) ?_
    replace h := ez_bd h
    obtain ⟨y7, e6, h⟩ := h
    obtain ⟨e6i, e6⟩ := ez_ldIs e6
    refine va_iald (D := D) (pc := 60) hx hb hK hP 5 4 rfl rfl e6i dX4_workOut_60 ?_
    refine lv_topi (fun y9 hy9 => ?_)
    obtain rfl : y7 = y9 := e6.trans hy9.symm
    refine lv_istore (pc := 61) hx hb dX4_workOut_61 hl (by decide) rfl (fun ls hl => ?_)
    replace hl : lv_has ls 6 [(5, .int y7), (4, .int y5), (0, .ref (a 0)), (1, .int x1), (2, .long x2)] := hl
    refine lv_aload_n (pc := 63) hx hb dX4_workOut_63 rfl (lv_at hl 2 rfl) ?_
    refine va_get (D := D) (pc := 64) hx hb hw inX4 hown hK hP 0 rfl rfl 11 (by decide) (hw _ mw438) (fun _ h9 => h9) rfl dX4_workOut_64 ?_
    refine lv_iload_n (pc := 67) hx hb dX4_workOut_67 rfl (lv_at hl 3 rfl) ?_
    refine lv_aload_n (pc := 68) hx hb dX4_workOut_68 rfl (lv_at hl 2 rfl) ?_
    refine va_get (D := D) (pc := 69) hx hb hw inX4 hown hK hP 0 rfl rfl 11 (by decide) (hw _ mw438) (fun _ h9 => h9) rfl dX4_workOut_69 ?_
    refine lv_iload (pc := 72) hx hb dX4_workOut_72 (lv_at hl 1 rfl) ?_
    replace h := ez_bd h
    obtain ⟨y9, e8, h⟩ := h
    obtain ⟨e8i, e8⟩ := ez_ldIs e8
    refine va_iald (D := D) (pc := 74) hx hb hK hP 8 7 rfl rfl e8i dX4_workOut_74 ?_
    refine lv_topi (fun yq hy9 => ?_)
    obtain rfl : y9 = yq := e8.trans hy9.symm
    refine lv_aload_n (pc := 75) hx hb dX4_workOut_75 rfl (lv_at hl 2 rfl) ?_
    refine va_get (D := D) (pc := 76) hx hb hw inX4 hown hK hP 0 rfl rfl 11 (by decide) (hw _ mw438) (fun _ h9 => h9) rfl dX4_workOut_76 ?_
    refine lv_iload (pc := 79) hx hb dX4_workOut_79 (lv_at hl 0 rfl) ?_
    replace h := ez_bd h
    obtain ⟨y11, e10, h⟩ := h
    obtain ⟨e10i, e10⟩ := ez_ldIs e10
    refine va_iald (D := D) (pc := 81) hx hb hK hP 8 7 rfl rfl e10i dX4_workOut_81 ?_
    refine lv_topi (fun y9 hy9 => ?_)
    obtain rfl : y11 = y9 := e10.trans hy9.symm
    refine lv_icmp_le (pc := 82) (tgt := 95) hx hb dX4_workOut_82 (by decide) (fun c12 => ?_) (fun c12 => ?_)
    · replace h := ez_it c12 h
      refine lv_aload_n (pc := 95) hx hb dX4_workOut_95 rfl (lv_at hl 2 rfl) ?_
      refine va_get (D := D) (pc := 96) hx hb hw inX4 hown hK hP 0 rfl rfl 11 (by decide) (hw _ mw438) (fun _ h9 => h9) rfl dX4_workOut_96 ?_
      refine lv_iload (pc := 99) hx hb dX4_workOut_99 (lv_at hl 0 rfl) ?_
      replace h := ez_bd h
      obtain ⟨y14, e13, h⟩ := h
      obtain ⟨e13i, e13⟩ := ez_ldIs e13
      refine va_iald (D := D) (pc := 101) hx hb hK hP 8 7 rfl rfl e13i dX4_workOut_101 ?_
      refine lv_topi (fun y9 hy9 => ?_)
      obtain rfl : y14 = y9 := e13.trans hy9.symm
      exact tX4_workOut_102 C0 hK  n _ _ _ x1 x2 y5 y7 y14 x1 w (lv_sub hl [2, 3, 4, 1, 0] rfl) hP hD hS h
    · replace h := ez_if c12 h
      refine lv_aload_n (pc := 85) hx hb dX4_workOut_85 rfl (lv_at hl 2 rfl) ?_
      refine va_get (D := D) (pc := 86) hx hb hw inX4 hown hK hP 0 rfl rfl 11 (by decide) (hw _ mw438) (fun _ h9 => h9) rfl dX4_workOut_86 ?_
      refine lv_iload (pc := 89) hx hb dX4_workOut_89 (lv_at hl 1 rfl) ?_
      replace h := ez_bd h
      obtain ⟨y16, e15, h⟩ := h
      obtain ⟨e15i, e15⟩ := ez_ldIs e15
      refine va_iald (D := D) (pc := 91) hx hb hK hP 8 7 rfl rfl e15i dX4_workOut_91 ?_
      refine lv_topi (fun y9 hy9 => ?_)
      obtain rfl : y16 = y9 := e15.trans hy9.symm
      refine lv_goto (pc := 92) (tgt := 102) hx hb dX4_workOut_92 (by decide) ?_
      exact tX4_workOut_102 C0 hK  n _ _ _ x1 x2 y5 y7 y16 x1 w (lv_sub hl [2, 3, 4, 1, 0] rfl) hP hD hS h
  · replace h := ez_it c3 h
    refine lv_aload_n (pc := 9) hx hb dX4_workOut_9 rfl (lv_at hl 0 rfl) ?_
    refine va_get (D := D) (pc := 10) hx hb hw inX4 hown hK hP 0 rfl rfl 11 (by decide) (hw _ mw438) (fun _ h9 => h9) rfl dX4_workOut_10 ?_
    refine lv_iload_n (pc := 13) hx hb dX4_workOut_13 rfl (lv_at hl 1 rfl) ?_
    refine lv_iconst (v := 0) (pc := 14) hx hb dX4_workOut_14 rfl ?_
    replace h := ez_bd h
    obtain ⟨w18, e17, h⟩ := h
    obtain ⟨e17i, e17⟩ := ez_stIs e17
    refine va_iast (D := D) (pc := 15) hx hb hK hP hD hS 8 7 rfl rfl e17i dX4_workOut_15 (fun H locs hP hD hS => ?_)
    replace hP : va_P D vwCl (wM a k w18) H := by rw [e17]; exact hP
    replace hD : va_D A (wM a k w18) := by rw [e17]; exact hD
    refine lv_aload_n (pc := 16) hx hb dX4_workOut_16 rfl (lv_at hl 0 rfl) ?_
    refine va_get (D := D) (pc := 17) hx hb hw inX4 hown hK hP 0 rfl rfl 12 (by decide) (hw _ mw439) (fun _ h9 => h9) rfl dX4_workOut_17 ?_
    refine lv_iload_n (pc := 20) hx hb dX4_workOut_20 rfl (lv_at hl 1 rfl) ?_
    refine lv_aload_n (pc := 21) hx hb dX4_workOut_21 rfl (lv_at hl 0 rfl) ?_
    refine va_get (D := D) (pc := 22) hx hb hw inX4 hown hK hP 0 rfl rfl 5 (by decide) (hw _ mw432) (fun _ h9 => h9) rfl dX4_workOut_22 ?_
    refine lv_iload_n (pc := 25) hx hb dX4_workOut_25 rfl (lv_at hl 1 rfl) ?_
    replace h := ez_bd h
    obtain ⟨y20, e19, h⟩ := h
    obtain ⟨e19i, e19⟩ := ez_ldIs e19
    refine va_iald (D := D) (pc := 26) hx hb hK hP 4 3 rfl rfl e19i dX4_workOut_26 ?_
    refine lv_topi (fun y9 hy9 => ?_)
    obtain rfl : y20 = y9 := e19.trans hy9.symm
    refine lv_i2l (pc := 27) hx hb dX4_workOut_27 rfl ?_
    refine lv_lload_n (pc := 28) hx hb dX4_workOut_28 rfl (lv_at hl 2 rfl) ?_
    refine lv_lmul (pc := 29) hx hb dX4_workOut_29 ?_
    replace h := ez_bd h
    obtain ⟨w22, e21, h⟩ := h
    obtain ⟨e21i, e21⟩ := ez_stLs e21
    refine va_last (D := D) (pc := 30) hx hb hK hP hD hS 9 8 rfl rfl e21i dX4_workOut_30 (fun H locs hP hD hS => ?_)
    replace hP : va_P D vwCl (wM a k w22) H := by rw [e21]; exact hP
    replace hD : va_D A (wM a k w22) := by rw [e21]; exact hD
    refine lv_aload_n (pc := 31) hx hb dX4_workOut_31 rfl (lv_at hl 0 rfl) ?_
    refine va_get (D := D) (pc := 32) hx hb hw inX4 hown hK hP 0 rfl rfl 13 (by decide) (hw _ mw440) (fun _ h9 => h9) rfl dX4_workOut_32 ?_
    refine lv_iload_n (pc := 35) hx hb dX4_workOut_35 rfl (lv_at hl 1 rfl) ?_
    refine lv_aload_n (pc := 36) hx hb dX4_workOut_36 rfl (lv_at hl 0 rfl) ?_
    refine va_get (D := D) (pc := 37) hx hb hw inX4 hown hK hP 0 rfl rfl 5 (by decide) (hw _ mw432) (fun _ h9 => h9) rfl dX4_workOut_37 ?_
    refine lv_iload_n (pc := 40) hx hb dX4_workOut_40 rfl (lv_at hl 1 rfl) ?_
    replace h := ez_bd h
    obtain ⟨y24, e23, h⟩ := h
    obtain ⟨e23i, e23⟩ := ez_ldIs e23
    refine va_iald (D := D) (pc := 41) hx hb hK hP 4 3 rfl rfl e23i dX4_workOut_41 ?_
    refine lv_topi (fun y9 hy9 => ?_)
    obtain rfl : y24 = y9 := e23.trans hy9.symm
    refine lv_i2l (pc := 42) hx hb dX4_workOut_42 rfl ?_
    refine lv_lload_n (pc := 43) hx hb dX4_workOut_43 rfl (lv_at hl 2 rfl) ?_
    refine lv_lmul (pc := 44) hx hb dX4_workOut_44 ?_
    replace h := ez_bd h
    obtain ⟨w26, e25, h⟩ := h
    obtain ⟨e25i, e25⟩ := ez_stLs e25
    refine va_last (D := D) (pc := 45) hx hb hK hP hD hS 10 9 rfl rfl e25i dX4_workOut_45 (fun H locs hP hD hS => ?_)
    replace hP : va_P D vwCl (wM a k w26) H := by rw [e25]; exact hP
    replace hD : va_D A (wM a k w26) := by rw [e25]; exact hD
    obtain rfl := ez_r1 h
    exact ez_retV C0 hP hD hK hS dX4_workOut_46
set_option maxRecDepth 100000 in
theorem kX4_workOut (l : Launch) (D : va_G) (a : Nat → Nat) (k : Nat → ClassId) (n : Nat) (x1 : Int32) (x2 : Int64) (w : Wd) (z : Wd) (h : fX4_workOut n x1 x2 w = some z) (sz : Nat) : Met l yX4_workOut wsX4_workOut ({ frames := 4, cells := 0, slots := 0, locals := 111 } : Room) (ez_Pc D (tM k) [.ref (a 0), .int x1, .long x2] (wM a k w) sz) (ez_Qv D (tM k) (va_A (wM a k w) sz) (wM a k z)) 0 0 (va_A (wM a k w) sz) :=
  ez_mk (Qf := fun A => (ez_Qv D (tM k) A (wM a k z))) (by decide) rfl (Nat.le_of_ble_eq_true rfl) (fun p e s m below meth c A ls C0 _ hl hP hD hK => tX4_workOut_0 C0 hK n s.heap [] ls x1 x2 w (lv_sub (l := [(0, .ref (a 0)), (1, .int x1), (2, .long x2)]) hl [0, 1, 2] rfl) hP hD va_S.rf h) sz
/-! EnclosureCalculatorModel allAt -/
theorem dX4_allAt_0 : decode cX4_allAt 0 = .ok (.iconst 0, 1) := by decide +kernel
theorem dX4_allAt_1 : decode cX4_allAt 1 = .ok (.istore_n 2, 1) := by decide +kernel
theorem dX4_allAt_2 : decode cX4_allAt 2 = .ok (.iload_n 2, 1) := by decide +kernel
theorem dX4_allAt_3 : decode cX4_allAt 3 = .ok (.aload_n 0, 1) := by decide +kernel
theorem dX4_allAt_4 : decode cX4_allAt 4 = .ok (.getfield 63, 3) := by decide +kernel
theorem dX4_allAt_7 : decode cX4_allAt 7 = .ok (.if_icmp .ge 26, 3) := by decide +kernel
theorem dX4_allAt_10 : decode cX4_allAt 10 = .ok (.aload_n 0, 1) := by decide +kernel
theorem dX4_allAt_11 : decode cX4_allAt 11 = .ok (.getfield 41, 3) := by decide +kernel
theorem dX4_allAt_14 : decode cX4_allAt 14 = .ok (.iload_n 2, 1) := by decide +kernel
theorem dX4_allAt_15 : decode cX4_allAt 15 = .ok (.baload, 1) := by decide +kernel
theorem dX4_allAt_16 : decode cX4_allAt 16 = .ok (.ifCond .eq 11, 3) := by decide +kernel
theorem dX4_allAt_19 : decode cX4_allAt 19 = .ok (.aload_n 0, 1) := by decide +kernel
theorem dX4_allAt_20 : decode cX4_allAt 20 = .ok (.iload_n 2, 1) := by decide +kernel
theorem dX4_allAt_21 : decode cX4_allAt 21 = .ok (.lconst 1, 1) := by decide +kernel
theorem dX4_allAt_22 : decode cX4_allAt 22 = .ok (.iload_n 1, 1) := by decide +kernel
theorem dX4_allAt_23 : decode cX4_allAt 23 = .ok (.lshl, 1) := by decide +kernel
theorem dX4_allAt_24 : decode cX4_allAt 24 = .ok (.invokevirtual 146, 3) := by decide +kernel
theorem dX4_allAt_27 : decode cX4_allAt 27 = .ok (.iinc 2 1, 3) := by decide +kernel
theorem dX4_allAt_30 : decode cX4_allAt 30 = .ok (.goto (-28), 3) := by decide +kernel
theorem dX4_allAt_33 : decode cX4_allAt 33 = .ok (.return_, 1) := by decide +kernel
def fX4_allAt_2 : Nat → Int32 → Int32 → Wd → Option (Wd)
  | 0, _, _, _ => none
  | n + 1, x1, x2, w =>
    if (w.1 0 1) ≤ x2 then
      some w
    else
      (ez_ldI w 11 120 x2).bind fun y3 =>
      if y3 = 0 then
        fX4_allAt_2 n x1 (x2 + 1) w
      else
        (fX4_workOut n x2 ((1 : Int64) <<< (Int32.toInt64 x1 &&& 63)) w).bind fun z5 =>
        fX4_allAt_2 n x1 (x2 + 1) z5
def fX4_allAt (n : Nat) (x1 : Int32) (w : Wd) : Option (Wd) :=
    fX4_allAt_2 n x1 0 w
set_option maxHeartbeats 4000000 in
set_option maxRecDepth 100000 in
theorem tX4_allAt_2 {p : Program} {l : Launch} {e : Env} {s : State} {m : MethodId} {args : Array Value} {below : List Frame} {meth : Method} {c : Code} {A : Nat → Prop} {D : va_G} {a : Nat → Nat} {k : Nat → ClassId} {z : Wd} (C0 : ez_C p s m args meth c cX4_allAt none 3 RX4 A) (hK : va_K D vwCl (tM k) s) : ∀ (n : Nat) (H : Heap) (locs : List Loc) (ls : Array Slot) (x1 : Int32) (x2 : Int32) (w : Wd), lv_has ls 3 [(0, .ref (a 0)), (1, .int x1), (2, .int x2)] → va_P D vwCl (wM a k w) H → va_D A (wM a k w) → va_S A s.heap H locs → fX4_allAt_2 n x1 x2 w = some z → W p l e ({ frames := 5, cells := 0, slots := 0, locals := 136 } : Room) s m args below meth c H locs 0 0 (MQ below (ez_Qv D (tM k) A (wM a k z)) args s 0 0 A) (F0 m 2 ls []) := by
  intro n
  induction n with
  | zero =>
    intro H locs ls x1 x2 w hl hP hD hS h
    rw [fX4_allAt_2] at h
    cases h
  | succ n ih =>
    intro H locs ls x1 x2 w hl hP hD hS h
    rw [fX4_allAt_2] at h
    have C1 := C0
    obtain ⟨hx, hb, hr, hml, hown, hw, hlk, hA, hN⟩ := C1
    refine lv_iload_n (pc := 2) hx hb dX4_allAt_2 rfl (lv_at hl 2 rfl) ?_
    refine lv_aload_n (pc := 3) hx hb dX4_allAt_3 rfl (lv_at hl 0 rfl) ?_
    refine va_get (D := D) (pc := 4) hx hb hw inX4 hown hK hP 0 rfl rfl 3 (by decide) (hw _ mw430) (fun _ h9 => h9) rfl dX4_allAt_4 ?_
    refine lv_icmp_ge (pc := 7) (tgt := 33) hx hb dX4_allAt_7 (by decide) (fun c1 => ?_) (fun c1 => ?_)
    · replace h := ez_it c1 h
      obtain rfl := ez_r1 h
      exact ez_retV C0 hP hD hK hS dX4_allAt_33
    · replace h := ez_if c1 h
      refine lv_aload_n (pc := 10) hx hb dX4_allAt_10 rfl (lv_at hl 0 rfl) ?_
      refine va_get (D := D) (pc := 11) hx hb hw inX4 hown hK hP 0 rfl rfl 14 (by decide) (hw _ mw441) (fun _ h9 => h9) rfl dX4_allAt_11 ?_
      refine lv_iload_n (pc := 14) hx hb dX4_allAt_14 rfl (lv_at hl 2 rfl) ?_
      replace h := ez_bd h
      obtain ⟨y3, e2, h⟩ := h
      obtain ⟨e2i, e2⟩ := ez_ldIs e2
      refine va_zald (D := D) (pc := 15) hx hb hK hP 11 10 rfl rfl e2i dX4_allAt_15 ?_
      refine lv_topi (fun y9 hy9 => ?_)
      obtain rfl : y3 = y9 := e2.trans hy9.symm
      refine lv_if_eq (pc := 16) (tgt := 27) hx hb dX4_allAt_16 (by decide) (fun c4 => ?_) (fun c4 => ?_)
      · replace h := ez_it c4 h
        refine lv_iinc (v := (x2 + 1)) (k := 2) (pc := 27) hx hb dX4_allAt_27 hl rfl rfl (by decide) rfl (fun ls hl => ?_)
        replace hl : lv_has ls 3 [(2, .int (x2 + 1)), (0, .ref (a 0)), (1, .int x1)] := hl
        refine lv_goto (pc := 30) (tgt := 2) hx hb dX4_allAt_30 (by decide) ?_
        exact ih _ _ _ x1 (x2 + 1) w (lv_sub hl [1, 2, 0] rfl) hP hD hS h
      · replace h := ez_if c4 h
        refine lv_aload_n (pc := 19) hx hb dX4_allAt_19 rfl (lv_at hl 0 rfl) ?_
        refine lv_iload_n (pc := 20) hx hb dX4_allAt_20 rfl (lv_at hl 2 rfl) ?_
        refine lv_lconst (v := 1) (pc := 21) hx hb dX4_allAt_21 rfl ?_
        refine lv_iload_n (pc := 22) hx hb dX4_allAt_22 rfl (lv_at hl 1 rfl) ?_
        refine lv_lshl (pc := 23) hx hb dX4_allAt_23 rfl ?_
        replace h := ez_bd h
        obtain ⟨z5, e6, h⟩ := h
        refine ez_callV (pc := 24) (wr := []) (wl := (wM a k w)) (wl' := (wM a k z5)) (va_runV (g := F0 m 24 ls [.long ((1 : Int64) <<< (Int32.toInt64 x1 &&& 63)), .int x2, .ref (a 0)]) (As := [.int x2, .long ((1 : Int64) <<< (Int32.toInt64 x1 &&& 63))]) (rest := []) ⟨hx, hb, hml, hown, hw⟩ (kX4_workOut l D a k n x2 ((1 : Int64) <<< (Int32.toInt64 x1 &&& 63)) w z5 e6 H.size) (cwV 2 hw (ez_gV mw586 mw588 mp45 mw4 mw589) rfl rfl rfl (by decide +kernel) ⟨Nat.le_of_ble_eq_true rfl, Nat.le_of_ble_eq_true rfl⟩) (ez_preV (wr := []) (wl := (wM a k w)) hP hD hK hN 0 rfl rfl) rfl rfl hl.1 rfl (lv_room (Nat.le_of_ble_eq_true rfl)) dX4_allAt_24 ⟨Nat.le_refl _, Nat.le_refl _⟩) hP hD hS hA (fun H locs hP hD hS => ?_)
        replace hP : va_P D vwCl (wM a k z5) H := hP
        replace hD : va_D A (wM a k z5) := hD
        refine lv_iinc (v := (x2 + 1)) (k := 2) (pc := 27) hx hb dX4_allAt_27 hl rfl rfl (by decide) rfl (fun ls hl => ?_)
        replace hl : lv_has ls 3 [(2, .int (x2 + 1)), (0, .ref (a 0)), (1, .int x1)] := hl
        refine lv_goto (pc := 30) (tgt := 2) hx hb dX4_allAt_30 (by decide) ?_
        exact ih _ _ _ x1 (x2 + 1) z5 (lv_sub hl [1, 2, 0] rfl) hP hD hS h
set_option maxHeartbeats 4000000 in
set_option maxRecDepth 100000 in
theorem tX4_allAt_0 {p : Program} {l : Launch} {e : Env} {s : State} {m : MethodId} {args : Array Value} {below : List Frame} {meth : Method} {c : Code} {A : Nat → Prop} {D : va_G} {a : Nat → Nat} {k : Nat → ClassId} {z : Wd} (C0 : ez_C p s m args meth c cX4_allAt none 3 RX4 A) (hK : va_K D vwCl (tM k) s) : ∀ (n : Nat) (H : Heap) (locs : List Loc) (ls : Array Slot) (x1 : Int32) (w : Wd), lv_has ls 3 [(0, .ref (a 0)), (1, .int x1)] → va_P D vwCl (wM a k w) H → va_D A (wM a k w) → va_S A s.heap H locs → fX4_allAt n x1 w = some z → W p l e ({ frames := 5, cells := 0, slots := 0, locals := 136 } : Room) s m args below meth c H locs 0 0 (MQ below (ez_Qv D (tM k) A (wM a k z)) args s 0 0 A) (F0 m 0 ls []) := by
  intro n
  intro H locs ls x1 w hl hP hD hS h
  rw [fX4_allAt] at h
  have C1 := C0
  obtain ⟨hx, hb, hr, hml, hown, hw, hlk, hA, hN⟩ := C1
  refine lv_iconst (v := 0) (pc := 0) hx hb dX4_allAt_0 rfl ?_
  refine lv_istore_n (pc := 1) hx hb dX4_allAt_1 rfl hl (by decide) rfl (fun ls hl => ?_)
  replace hl : lv_has ls 3 [(2, .int 0), (0, .ref (a 0)), (1, .int x1)] := hl
  exact tX4_allAt_2 C0 hK  n _ _ _ x1 0 w (lv_sub hl [1, 2, 0] rfl) hP hD hS h
set_option maxRecDepth 100000 in
theorem kX4_allAt (l : Launch) (D : va_G) (a : Nat → Nat) (k : Nat → ClassId) (n : Nat) (x1 : Int32) (w : Wd) (z : Wd) (h : fX4_allAt n x1 w = some z) (sz : Nat) : Met l yX4_allAt wsX4_allAt ({ frames := 5, cells := 0, slots := 0, locals := 136 } : Room) (ez_Pc D (tM k) [.ref (a 0), .int x1] (wM a k w) sz) (ez_Qv D (tM k) (va_A (wM a k w) sz) (wM a k z)) 0 0 (va_A (wM a k w) sz) :=
  ez_mk (Qf := fun A => (ez_Qv D (tM k) A (wM a k z))) (by decide) rfl (Nat.le_of_ble_eq_true rfl) (fun p e s m below meth c A ls C0 _ hl hP hD hK => tX4_allAt_0 C0 hK n s.heap [] ls x1 w (lv_sub (l := [(0, .ref (a 0)), (1, .int x1)]) hl [0, 1] rfl) hP hD va_S.rf h) sz
/-! EnclosureCalculatorModel evaluate -/
theorem dX4_evaluate_0 : decode cX4_evaluate 0 = .ok (.aload_n 0, 1) := by decide +kernel
theorem dX4_evaluate_1 : decode cX4_evaluate 1 = .ok (.iload_n 1, 1) := by decide +kernel
theorem dX4_evaluate_2 : decode cX4_evaluate 2 = .ok (.invokevirtual 150, 3) := by decide +kernel
theorem dX4_evaluate_5 : decode cX4_evaluate 5 = .ok (.ifCond .eq 11, 3) := by decide +kernel
theorem dX4_evaluate_8 : decode cX4_evaluate 8 = .ok (.iload_n 2, 1) := by decide +kernel
theorem dX4_evaluate_9 : decode cX4_evaluate 9 = .ok (.iload_n 3, 1) := by decide +kernel
theorem dX4_evaluate_10 : decode cX4_evaluate 10 = .ok (.invokestatic 157, 3) := by decide +kernel
theorem dX4_evaluate_13 : decode cX4_evaluate 13 = .ok (.ifCond .ne 5, 3) := by decide +kernel
theorem dX4_evaluate_16 : decode cX4_evaluate 16 = .ok (.iconst (-1), 1) := by decide +kernel
theorem dX4_evaluate_17 : decode cX4_evaluate 17 = .ok (.ireturn, 1) := by decide +kernel
theorem dX4_evaluate_18 : decode cX4_evaluate 18 = .ok (.aload_n 0, 1) := by decide +kernel
theorem dX4_evaluate_19 : decode cX4_evaluate 19 = .ok (.getfield 13, 3) := by decide +kernel
theorem dX4_evaluate_22 : decode cX4_evaluate 22 = .ok (.iload_n 1, 1) := by decide +kernel
theorem dX4_evaluate_23 : decode cX4_evaluate 23 = .ok (.iaload, 1) := by decide +kernel
theorem dX4_evaluate_24 : decode cX4_evaluate 24 = .ok (.iconst 1, 1) := by decide +kernel
theorem dX4_evaluate_25 : decode cX4_evaluate 25 = .ok (.isub, 1) := by decide +kernel
theorem dX4_evaluate_26 : decode cX4_evaluate 26 = .ok (.istore 4, 2) := by decide +kernel
theorem dX4_evaluate_28 : decode cX4_evaluate 28 = .ok (.aload_n 0, 1) := by decide +kernel
theorem dX4_evaluate_29 : decode cX4_evaluate 29 = .ok (.iload 4, 2) := by decide +kernel
theorem dX4_evaluate_31 : decode cX4_evaluate 31 = .ok (.iconst (-1), 1) := by decide +kernel
theorem dX4_evaluate_32 : decode cX4_evaluate 32 = .ok (.invokevirtual 153, 3) := by decide +kernel
theorem dX4_evaluate_35 : decode cX4_evaluate 35 = .ok (.istore 5, 2) := by decide +kernel
theorem dX4_evaluate_37 : decode cX4_evaluate 37 = .ok (.aload_n 0, 1) := by decide +kernel
theorem dX4_evaluate_38 : decode cX4_evaluate 38 = .ok (.iconst 0, 1) := by decide +kernel
theorem dX4_evaluate_39 : decode cX4_evaluate 39 = .ok (.putfield 113, 3) := by decide +kernel
theorem dX4_evaluate_42 : decode cX4_evaluate 42 = .ok (.aload_n 0, 1) := by decide +kernel
theorem dX4_evaluate_43 : decode cX4_evaluate 43 = .ok (.iconst 0, 1) := by decide +kernel
theorem dX4_evaluate_44 : decode cX4_evaluate 44 = .ok (.putfield 110, 3) := by decide +kernel
theorem dX4_evaluate_47 : decode cX4_evaluate 47 = .ok (.iload_n 2, 1) := by decide +kernel
theorem dX4_evaluate_48 : decode cX4_evaluate 48 = .ok (.istore 6, 2) := by decide +kernel
theorem dX4_evaluate_50 : decode cX4_evaluate 50 = .ok (.iload 6, 2) := by decide +kernel
theorem dX4_evaluate_52 : decode cX4_evaluate 52 = .ok (.iload_n 2, 1) := by decide +kernel
theorem dX4_evaluate_53 : decode cX4_evaluate 53 = .ok (.iload_n 3, 1) := by decide +kernel
theorem dX4_evaluate_54 : decode cX4_evaluate 54 = .ok (.iadd, 1) := by decide +kernel
theorem dX4_evaluate_55 : decode cX4_evaluate 55 = .ok (.if_icmp .ge 116, 3) := by decide +kernel
theorem dX4_evaluate_58 : decode cX4_evaluate 58 = .ok (.iload 6, 2) := by decide +kernel
theorem dX4_evaluate_60 : decode cX4_evaluate 60 = .ok (.bipush 18, 2) := by decide +kernel
theorem dX4_evaluate_62 : decode cX4_evaluate 62 = .ok (.if_icmp .gt 109, 3) := by decide +kernel
theorem dX4_evaluate_65 : decode cX4_evaluate 65 = .ok (.aload_n 0, 1) := by decide +kernel
theorem dX4_evaluate_66 : decode cX4_evaluate 66 = .ok (.aload_n 0, 1) := by decide +kernel
theorem dX4_evaluate_67 : decode cX4_evaluate 67 = .ok (.getfield 110, 3) := by decide +kernel
theorem dX4_evaluate_70 : decode cX4_evaluate 70 = .ok (.iload 5, 2) := by decide +kernel
theorem dX4_evaluate_72 : decode cX4_evaluate 72 = .ok (.iadd, 1) := by decide +kernel
theorem dX4_evaluate_73 : decode cX4_evaluate 73 = .ok (.putfield 110, 3) := by decide +kernel
theorem dX4_evaluate_76 : decode cX4_evaluate 76 = .ok (.aload_n 0, 1) := by decide +kernel
theorem dX4_evaluate_77 : decode cX4_evaluate 77 = .ok (.iload 6, 2) := by decide +kernel
theorem dX4_evaluate_79 : decode cX4_evaluate 79 = .ok (.invokevirtual 161, 3) := by decide +kernel
theorem dX4_evaluate_82 : decode cX4_evaluate 82 = .ok (.aload_n 0, 1) := by decide +kernel
theorem dX4_evaluate_83 : decode cX4_evaluate 83 = .ok (.getfield 31, 3) := by decide +kernel
theorem dX4_evaluate_86 : decode cX4_evaluate 86 = .ok (.iload 4, 2) := by decide +kernel
theorem dX4_evaluate_88 : decode cX4_evaluate 88 = .ok (.iaload, 1) := by decide +kernel
theorem dX4_evaluate_89 : decode cX4_evaluate 89 = .ok (.iconst 2, 1) := by decide +kernel
theorem dX4_evaluate_90 : decode cX4_evaluate 90 = .ok (.if_icmp .ne 5, 3) := by decide +kernel
theorem dX4_evaluate_93 : decode cX4_evaluate 93 = .ok (.iconst 2, 1) := by decide +kernel
theorem dX4_evaluate_94 : decode cX4_evaluate 94 = .ok (.ireturn, 1) := by decide +kernel
theorem dX4_evaluate_95 : decode cX4_evaluate 95 = .ok (.aload_n 0, 1) := by decide +kernel
theorem dX4_evaluate_96 : decode cX4_evaluate 96 = .ok (.getfield 31, 3) := by decide +kernel
theorem dX4_evaluate_99 : decode cX4_evaluate 99 = .ok (.iload 4, 2) := by decide +kernel
theorem dX4_evaluate_101 : decode cX4_evaluate 101 = .ok (.iaload, 1) := by decide +kernel
theorem dX4_evaluate_102 : decode cX4_evaluate 102 = .ok (.ifCond .ne 63, 3) := by decide +kernel
theorem dX4_evaluate_105 : decode cX4_evaluate 105 = .ok (.aload_n 0, 1) := by decide +kernel
theorem dX4_evaluate_106 : decode cX4_evaluate 106 = .ok (.getfield 38, 3) := by decide +kernel
theorem dX4_evaluate_109 : decode cX4_evaluate 109 = .ok (.iload 4, 2) := by decide +kernel
theorem dX4_evaluate_111 : decode cX4_evaluate 111 = .ok (.laload, 1) := by decide +kernel
theorem dX4_evaluate_112 : decode cX4_evaluate 112 = .ok (.aload_n 0, 1) := by decide +kernel
theorem dX4_evaluate_113 : decode cX4_evaluate 113 = .ok (.getfield 34, 3) := by decide +kernel
theorem dX4_evaluate_116 : decode cX4_evaluate 116 = .ok (.iload 4, 2) := by decide +kernel
theorem dX4_evaluate_118 : decode cX4_evaluate 118 = .ok (.laload, 1) := by decide +kernel
theorem dX4_evaluate_119 : decode cX4_evaluate 119 = .ok (.lsub, 1) := by decide +kernel
theorem dX4_evaluate_120 : decode cX4_evaluate 120 = .ok (.lconst 1, 1) := by decide +kernel
theorem dX4_evaluate_121 : decode cX4_evaluate 121 = .ok (.iload 6, 2) := by decide +kernel
theorem dX4_evaluate_123 : decode cX4_evaluate 123 = .ok (.iload_n 2, 1) := by decide +kernel
theorem dX4_evaluate_124 : decode cX4_evaluate 124 = .ok (.isub, 1) := by decide +kernel
theorem dX4_evaluate_125 : decode cX4_evaluate 125 = .ok (.lshl, 1) := by decide +kernel
theorem dX4_evaluate_126 : decode cX4_evaluate 126 = .ok (.lcmp, 1) := by decide +kernel
theorem dX4_evaluate_127 : decode cX4_evaluate 127 = .ok (.ifCond .gt 38, 3) := by decide +kernel
theorem dX4_evaluate_130 : decode cX4_evaluate 130 = .ok (.aload_n 0, 1) := by decide +kernel
theorem dX4_evaluate_131 : decode cX4_evaluate 131 = .ok (.iconst 1, 1) := by decide +kernel
theorem dX4_evaluate_132 : decode cX4_evaluate 132 = .ok (.putfield 113, 3) := by decide +kernel
theorem dX4_evaluate_135 : decode cX4_evaluate 135 = .ok (.aload_n 0, 1) := by decide +kernel
theorem dX4_evaluate_136 : decode cX4_evaluate 136 = .ok (.iload 6, 2) := by decide +kernel
theorem dX4_evaluate_138 : decode cX4_evaluate 138 = .ok (.putfield 164, 3) := by decide +kernel
theorem dX4_evaluate_141 : decode cX4_evaluate 141 = .ok (.aload_n 0, 1) := by decide +kernel
theorem dX4_evaluate_142 : decode cX4_evaluate 142 = .ok (.aload_n 0, 1) := by decide +kernel
theorem dX4_evaluate_143 : decode cX4_evaluate 143 = .ok (.getfield 34, 3) := by decide +kernel
theorem dX4_evaluate_146 : decode cX4_evaluate 146 = .ok (.iload 4, 2) := by decide +kernel
theorem dX4_evaluate_148 : decode cX4_evaluate 148 = .ok (.laload, 1) := by decide +kernel
theorem dX4_evaluate_149 : decode cX4_evaluate 149 = .ok (.putfield 167, 3) := by decide +kernel
theorem dX4_evaluate_152 : decode cX4_evaluate 152 = .ok (.aload_n 0, 1) := by decide +kernel
theorem dX4_evaluate_153 : decode cX4_evaluate 153 = .ok (.aload_n 0, 1) := by decide +kernel
theorem dX4_evaluate_154 : decode cX4_evaluate 154 = .ok (.getfield 38, 3) := by decide +kernel
theorem dX4_evaluate_157 : decode cX4_evaluate 157 = .ok (.iload 4, 2) := by decide +kernel
theorem dX4_evaluate_159 : decode cX4_evaluate 159 = .ok (.laload, 1) := by decide +kernel
theorem dX4_evaluate_160 : decode cX4_evaluate 160 = .ok (.putfield 171, 3) := by decide +kernel
theorem dX4_evaluate_163 : decode cX4_evaluate 163 = .ok (.iconst 1, 1) := by decide +kernel
theorem dX4_evaluate_164 : decode cX4_evaluate 164 = .ok (.ireturn, 1) := by decide +kernel
theorem dX4_evaluate_165 : decode cX4_evaluate 165 = .ok (.iinc 6 1, 3) := by decide +kernel
theorem dX4_evaluate_168 : decode cX4_evaluate 168 = .ok (.goto (-118), 3) := by decide +kernel
theorem dX4_evaluate_171 : decode cX4_evaluate 171 = .ok (.iconst 0, 1) := by decide +kernel
theorem dX4_evaluate_172 : decode cX4_evaluate 172 = .ok (.ireturn, 1) := by decide +kernel
def fX4_evaluate_50 : Nat → Int32 → Int32 → Int32 → Int32 → Int32 → Wd → Option (Int32 × Wd)
  | 0, _, _, _, _, _, _ => none
  | n + 1, x2, x3, x4, x5, x6, w =>
    if (x2 + x3) ≤ x6 then
      some (0, w)
    else
      if 18 < x6 then
        some (0, w)
      else
        (ez_fI w 4 ((w.1 0 4) + x5)).bind fun w4 =>
        (fX4_allAt n x6 w4).bind fun z5 =>
        (ez_ldI z5 8 120 x4).bind fun y8 =>
        if y8 = 2 then
          some (2, z5)
        else
          (ez_ldI z5 8 120 x4).bind fun y11 =>
          if y11 = 0 then
            (ez_ldL z5 10 120 x4).bind fun y14 =>
            (ez_ldL z5 9 120 x4).bind fun y16 =>
            if 0 < (lg_cmp (y14 - y16) ((1 : Int64) <<< (Int32.toInt64 (x6 - x2) &&& 63))) then
              fX4_evaluate_50 n x2 x3 x4 x5 (x6 + 1) z5
            else
              (ez_fI z5 6 1).bind fun w19 =>
              (ez_fI w19 5 x6).bind fun w21 =>
              (ez_ldL w21 9 120 x4).bind fun y23 =>
              (ez_fL w21 0 y23).bind fun w25 =>
              (ez_ldL w25 10 120 x4).bind fun y27 =>
              (ez_fL w25 1 y27).bind fun w29 =>
              some (1, w29)
          else
            fX4_evaluate_50 n x2 x3 x4 x5 (x6 + 1) z5
def fX4_evaluate (n : Nat) (x1 : Int32) (x2 : Int32) (x3 : Int32) (w : Wd) : Option (Int32 × Wd) :=
    (fX4_isGiven n x1 w).bind fun z1 =>
    if z1 = 0 then
      some ((-1), w)
    else
      (fX4_inRange n x2 x3).bind fun z4 =>
      if z4 = 0 then
        some ((-1), w)
      else
        (ez_ldI w 2 8 x1).bind fun y8 =>
        (fX4_spread n (y8 - 1) (-1) w).bind fun z9 =>
        (ez_fI z9.2 6 0).bind fun w12 =>
        (ez_fI w12 4 0).bind fun w14 =>
        fX4_evaluate_50 n x2 x3 (y8 - 1) z9.1 x2 w14
set_option maxHeartbeats 4000000 in
set_option maxRecDepth 100000 in
theorem tX4_evaluate_50 {p : Program} {l : Launch} {e : Env} {s : State} {m : MethodId} {args : Array Value} {below : List Frame} {meth : Method} {c : Code} {A : Nat → Prop} {D : va_G} {a : Nat → Nat} {k : Nat → ClassId} {z : Int32 × Wd} (C0 : ez_C p s m args meth c cX4_evaluate (some .int) 7 RX4 A) (hK : va_K D vwCl (tM k) s) : ∀ (n : Nat) (H : Heap) (locs : List Loc) (ls : Array Slot) (x2 : Int32) (x3 : Int32) (x4 : Int32) (x5 : Int32) (x6 : Int32) (w : Wd), lv_has ls 7 [(0, .ref (a 0)), (2, .int x2), (3, .int x3), (4, .int x4), (5, .int x5), (6, .int x6)] → va_P D vwCl (wM a k w) H → va_D A (wM a k w) → va_S A s.heap H locs → fX4_evaluate_50 n x2 x3 x4 x5 x6 w = some z → W p l e ({ frames := 6, cells := 0, slots := 0, locals := 158 } : Room) s m args below meth c H locs 0 0 (MQ below (ez_Qi D (tM k) A z.1 (wM a k z.2)) args s 0 0 A) (F0 m 50 ls []) := by
  intro n
  induction n with
  | zero =>
    intro H locs ls x2 x3 x4 x5 x6 w hl hP hD hS h
    rw [fX4_evaluate_50] at h
    cases h
  | succ n ih =>
    intro H locs ls x2 x3 x4 x5 x6 w hl hP hD hS h
    rw [fX4_evaluate_50] at h
    have C1 := C0
    obtain ⟨hx, hb, hr, hml, hown, hw, hlk, hA, hN⟩ := C1
    refine lv_iload (pc := 50) hx hb dX4_evaluate_50 (lv_at hl 5 rfl) ?_
    refine lv_iload_n (pc := 52) hx hb dX4_evaluate_52 rfl (lv_at hl 1 rfl) ?_
    refine lv_iload_n (pc := 53) hx hb dX4_evaluate_53 rfl (lv_at hl 2 rfl) ?_
    refine lv_iadd (pc := 54) hx hb dX4_evaluate_54 ?_
    refine lv_icmp_ge (pc := 55) (tgt := 171) hx hb dX4_evaluate_55 (by decide) (fun c1 => ?_) (fun c1 => ?_)
    · replace h := ez_it c1 h
      refine lv_iconst (v := 0) (pc := 171) hx hb dX4_evaluate_171 rfl ?_
      obtain rfl := ez_r1 h
      exact ez_retI C0 hP hD hK hS dX4_evaluate_172
    · replace h := ez_if c1 h
      refine lv_iload (pc := 58) hx hb dX4_evaluate_58 (lv_at hl 5 rfl) ?_
      refine lv_bipush (v := 18) (pc := 60) hx hb dX4_evaluate_60 rfl ?_
      refine lv_icmp_gt (pc := 62) (tgt := 171) hx hb dX4_evaluate_62 (by decide) (fun c2 => ?_) (fun c2 => ?_)
      · replace h := ez_it c2 h
        refine lv_iconst (v := 0) (pc := 171) hx hb dX4_evaluate_171 rfl ?_
        obtain rfl := ez_r1 h
        exact ez_retI C0 hP hD hK hS dX4_evaluate_172
      · replace h := ez_if c2 h
        refine lv_aload_n (pc := 65) hx hb dX4_evaluate_65 rfl (lv_at hl 0 rfl) ?_
        refine lv_aload_n (pc := 66) hx hb dX4_evaluate_66 rfl (lv_at hl 0 rfl) ?_
        refine va_get (D := D) (pc := 67) hx hb hw inX4 hown hK hP 0 rfl rfl 15 (by decide) (hw _ mw442) (fun _ h9 => h9) rfl dX4_evaluate_67 ?_
        refine lv_iload (pc := 70) hx hb dX4_evaluate_70 (lv_at hl 4 rfl) ?_
        refine lv_iadd (pc := 72) hx hb dX4_evaluate_72 ?_
        replace h := ez_bd h
        obtain ⟨w4, e3, h⟩ := h
        refine va_put (D := D) (v := .int ((w.1 0 4) + x5)) (ty := .int) (pc := 73) hx hb hw inX4 tyX4 tyX4_ok nmX4 hown hK hP hD hS 0 rfl rfl 15 (by decide) (hw _ mw442) (fun _ h9 => h9) rfl (by decide +kernel) rfl rfl (Nat.le_of_ble_eq_true rfl) dX4_evaluate_73 (fun H locs hP hD hS => ?_)
        replace hP : va_P D vwCl (wM a k w4) H := by rw [(ez_fIs e3)]; exact hP
        replace hD : va_D A (wM a k w4) := by rw [(ez_fIs e3)]; exact hD
        refine lv_aload_n (pc := 76) hx hb dX4_evaluate_76 rfl (lv_at hl 0 rfl) ?_
        refine lv_iload (pc := 77) hx hb dX4_evaluate_77 (lv_at hl 5 rfl) ?_
        replace h := ez_bd h
        obtain ⟨z5, e6, h⟩ := h
        refine ez_callV (pc := 79) (wr := []) (wl := (wM a k w4)) (wl' := (wM a k z5)) (va_runV (g := F0 m 79 ls [.int x6, .ref (a 0)]) (As := [.int x6]) (rest := []) ⟨hx, hb, hml, hown, hw⟩ (kX4_allAt l D a k n x6 w4 z5 e6 H.size) (cwV 1 hw (ez_gV mw582 mw584 mp44 mw4 mw585) rfl rfl rfl (by decide +kernel) ⟨Nat.le_of_ble_eq_true rfl, Nat.le_of_ble_eq_true rfl⟩) (ez_preV (wr := []) (wl := (wM a k w4)) hP hD hK hN 0 rfl rfl) rfl rfl hl.1 rfl (lv_room (Nat.le_of_ble_eq_true rfl)) dX4_evaluate_79 ⟨Nat.le_refl _, Nat.le_refl _⟩) hP hD hS hA (fun H locs hP hD hS => ?_)
        replace hP : va_P D vwCl (wM a k z5) H := hP
        replace hD : va_D A (wM a k z5) := hD
        refine lv_aload_n (pc := 82) hx hb dX4_evaluate_82 rfl (lv_at hl 0 rfl) ?_
        refine va_get (D := D) (pc := 83) hx hb hw inX4 hown hK hP 0 rfl rfl 11 (by decide) (hw _ mw438) (fun _ h9 => h9) rfl dX4_evaluate_83 ?_
        refine lv_iload (pc := 86) hx hb dX4_evaluate_86 (lv_at hl 3 rfl) ?_
        replace h := ez_bd h
        obtain ⟨y8, e7, h⟩ := h
        obtain ⟨e7i, e7⟩ := ez_ldIs e7
        refine va_iald (D := D) (pc := 88) hx hb hK hP 8 7 rfl rfl e7i dX4_evaluate_88 ?_
        refine lv_topi (fun y9 hy9 => ?_)
        obtain rfl : y8 = y9 := e7.trans hy9.symm
        refine lv_iconst (v := 2) (pc := 89) hx hb dX4_evaluate_89 rfl ?_
        refine lv_icmp_ne (pc := 90) (tgt := 95) hx hb dX4_evaluate_90 (by decide) (fun c9 => ?_) (fun c9 => ?_)
        · replace h := ez_if c9 h
          refine lv_aload_n (pc := 95) hx hb dX4_evaluate_95 rfl (lv_at hl 0 rfl) ?_
          refine va_get (D := D) (pc := 96) hx hb hw inX4 hown hK hP 0 rfl rfl 11 (by decide) (hw _ mw438) (fun _ h9 => h9) rfl dX4_evaluate_96 ?_
          refine lv_iload (pc := 99) hx hb dX4_evaluate_99 (lv_at hl 3 rfl) ?_
          replace h := ez_bd h
          obtain ⟨y11, e10, h⟩ := h
          obtain ⟨e10i, e10⟩ := ez_ldIs e10
          refine va_iald (D := D) (pc := 101) hx hb hK hP 8 7 rfl rfl e10i dX4_evaluate_101 ?_
          refine lv_topi (fun y9 hy9 => ?_)
          obtain rfl : y11 = y9 := e10.trans hy9.symm
          refine lv_if_ne (pc := 102) (tgt := 165) hx hb dX4_evaluate_102 (by decide) (fun c12 => ?_) (fun c12 => ?_)
          · replace h := ez_if c12 h
            refine lv_iinc (v := (x6 + 1)) (k := 5) (pc := 165) hx hb dX4_evaluate_165 hl rfl rfl (by decide) rfl (fun ls hl => ?_)
            replace hl : lv_has ls 7 [(6, .int (x6 + 1)), (0, .ref (a 0)), (2, .int x2), (3, .int x3), (4, .int x4), (5, .int x5)] := hl
            refine lv_goto (pc := 168) (tgt := 50) hx hb dX4_evaluate_168 (by decide) ?_
            exact ih _ _ _ x2 x3 x4 x5 (x6 + 1) z5 (lv_sub hl [1, 2, 3, 4, 5, 0] rfl) hP hD hS h
          · replace h := ez_it c12 h
            refine lv_aload_n (pc := 105) hx hb dX4_evaluate_105 rfl (lv_at hl 0 rfl) ?_
            refine va_get (D := D) (pc := 106) hx hb hw inX4 hown hK hP 0 rfl rfl 13 (by decide) (hw _ mw440) (fun _ h9 => h9) rfl dX4_evaluate_106 ?_
            refine lv_iload (pc := 109) hx hb dX4_evaluate_109 (lv_at hl 3 rfl) ?_
            replace h := ez_bd h
            obtain ⟨y14, e13, h⟩ := h
            obtain ⟨e13i, e13⟩ := ez_ldLs e13
            refine va_lald (D := D) (pc := 111) hx hb hK hP 10 9 rfl rfl e13i dX4_evaluate_111 ?_
            refine lv_topl (fun y9 hy9 => ?_)
            obtain rfl : y14 = y9 := e13.trans hy9.symm
            refine lv_aload_n (pc := 112) hx hb dX4_evaluate_112 rfl (lv_at hl 0 rfl) ?_
            refine va_get (D := D) (pc := 113) hx hb hw inX4 hown hK hP 0 rfl rfl 12 (by decide) (hw _ mw439) (fun _ h9 => h9) rfl dX4_evaluate_113 ?_
            refine lv_iload (pc := 116) hx hb dX4_evaluate_116 (lv_at hl 3 rfl) ?_
            replace h := ez_bd h
            obtain ⟨y16, e15, h⟩ := h
            obtain ⟨e15i, e15⟩ := ez_ldLs e15
            refine va_lald (D := D) (pc := 118) hx hb hK hP 9 8 rfl rfl e15i dX4_evaluate_118 ?_
            refine lv_topl (fun y9 hy9 => ?_)
            obtain rfl : y16 = y9 := e15.trans hy9.symm
            refine lv_lsub (pc := 119) hx hb dX4_evaluate_119 ?_
            refine lv_lconst (v := 1) (pc := 120) hx hb dX4_evaluate_120 rfl ?_
            refine lv_iload (pc := 121) hx hb dX4_evaluate_121 (lv_at hl 5 rfl) ?_
            refine lv_iload_n (pc := 123) hx hb dX4_evaluate_123 rfl (lv_at hl 1 rfl) ?_
            refine lv_isub (pc := 124) hx hb dX4_evaluate_124 ?_
            refine lv_lshl (pc := 125) hx hb dX4_evaluate_125 rfl ?_
            refine W.lcmp (pc := 126) hx hb dX4_evaluate_126 ?_
            refine lv_if_gt (pc := 127) (tgt := 165) hx hb dX4_evaluate_127 (by decide) (fun c17 => ?_) (fun c17 => ?_)
            · replace h := ez_it c17 h
              refine lv_iinc (v := (x6 + 1)) (k := 5) (pc := 165) hx hb dX4_evaluate_165 hl rfl rfl (by decide) rfl (fun ls hl => ?_)
              replace hl : lv_has ls 7 [(6, .int (x6 + 1)), (0, .ref (a 0)), (2, .int x2), (3, .int x3), (4, .int x4), (5, .int x5)] := hl
              refine lv_goto (pc := 168) (tgt := 50) hx hb dX4_evaluate_168 (by decide) ?_
              exact ih _ _ _ x2 x3 x4 x5 (x6 + 1) z5 (lv_sub hl [1, 2, 3, 4, 5, 0] rfl) hP hD hS h
            · replace h := ez_if c17 h
              refine lv_aload_n (pc := 130) hx hb dX4_evaluate_130 rfl (lv_at hl 0 rfl) ?_
              refine lv_iconst (v := 1) (pc := 131) hx hb dX4_evaluate_131 rfl ?_
              replace h := ez_bd h
              obtain ⟨w19, e18, h⟩ := h
              refine va_put (D := D) (v := .int 1) (ty := .boolean) (pc := 132) hx hb hw inX4 tyX4 tyX4_ok nmX4 hown hK hP hD hS 0 rfl rfl 17 (by decide) (hw _ mw444) (fun _ h9 => h9) rfl (by decide +kernel) rfl rfl (Nat.le_of_ble_eq_true rfl) dX4_evaluate_132 (fun H locs hP hD hS => ?_)
              replace hP : va_P D vwCl (wM a k w19) H := by rw [(ez_fIs e18)]; exact hP
              replace hD : va_D A (wM a k w19) := by rw [(ez_fIs e18)]; exact hD
              refine lv_aload_n (pc := 135) hx hb dX4_evaluate_135 rfl (lv_at hl 0 rfl) ?_
              refine lv_iload (pc := 136) hx hb dX4_evaluate_136 (lv_at hl 5 rfl) ?_
              replace h := ez_bd h
              obtain ⟨w21, e20, h⟩ := h
              refine va_put (D := D) (v := .int x6) (ty := .int) (pc := 138) hx hb hw inX4 tyX4 tyX4_ok nmX4 hown hK hP hD hS 0 rfl rfl 16 (by decide) (hw _ mw443) (fun _ h9 => h9) rfl (by decide +kernel) rfl rfl (Nat.le_of_ble_eq_true rfl) dX4_evaluate_138 (fun H locs hP hD hS => ?_)
              replace hP : va_P D vwCl (wM a k w21) H := by rw [(ez_fIs e20)]; exact hP
              replace hD : va_D A (wM a k w21) := by rw [(ez_fIs e20)]; exact hD
              refine lv_aload_n (pc := 141) hx hb dX4_evaluate_141 rfl (lv_at hl 0 rfl) ?_
              refine lv_aload_n (pc := 142) hx hb dX4_evaluate_142 rfl (lv_at hl 0 rfl) ?_
              refine va_get (D := D) (pc := 143) hx hb hw inX4 hown hK hP 0 rfl rfl 12 (by decide) (hw _ mw439) (fun _ h9 => h9) rfl dX4_evaluate_143 ?_
              refine lv_iload (pc := 146) hx hb dX4_evaluate_146 (lv_at hl 3 rfl) ?_
              replace h := ez_bd h
              obtain ⟨y23, e22, h⟩ := h
              obtain ⟨e22i, e22⟩ := ez_ldLs e22
              refine va_lald (D := D) (pc := 148) hx hb hK hP 9 8 rfl rfl e22i dX4_evaluate_148 ?_
              refine lv_topl (fun y9 hy9 => ?_)
              obtain rfl : y23 = y9 := e22.trans hy9.symm
              replace h := ez_bd h
              obtain ⟨w25, e24, h⟩ := h
              refine va_put (D := D) (v := .long y23) (ty := .long) (pc := 149) hx hb hw inX4 tyX4 tyX4_ok nmX4 hown hK hP hD hS 0 rfl rfl 18 (by decide) (hw _ mw445) (fun _ h9 => h9) rfl (by decide +kernel) rfl rfl (Nat.le_of_ble_eq_true rfl) dX4_evaluate_149 (fun H locs hP hD hS => ?_)
              replace hP : va_P D vwCl (wM a k w25) H := by rw [(ez_fLs e24)]; exact hP
              replace hD : va_D A (wM a k w25) := by rw [(ez_fLs e24)]; exact hD
              refine lv_aload_n (pc := 152) hx hb dX4_evaluate_152 rfl (lv_at hl 0 rfl) ?_
              refine lv_aload_n (pc := 153) hx hb dX4_evaluate_153 rfl (lv_at hl 0 rfl) ?_
              refine va_get (D := D) (pc := 154) hx hb hw inX4 hown hK hP 0 rfl rfl 13 (by decide) (hw _ mw440) (fun _ h9 => h9) rfl dX4_evaluate_154 ?_
              refine lv_iload (pc := 157) hx hb dX4_evaluate_157 (lv_at hl 3 rfl) ?_
              replace h := ez_bd h
              obtain ⟨y27, e26, h⟩ := h
              obtain ⟨e26i, e26⟩ := ez_ldLs e26
              refine va_lald (D := D) (pc := 159) hx hb hK hP 10 9 rfl rfl e26i dX4_evaluate_159 ?_
              refine lv_topl (fun y9 hy9 => ?_)
              obtain rfl : y27 = y9 := e26.trans hy9.symm
              replace h := ez_bd h
              obtain ⟨w29, e28, h⟩ := h
              refine va_put (D := D) (v := .long y27) (ty := .long) (pc := 160) hx hb hw inX4 tyX4 tyX4_ok nmX4 hown hK hP hD hS 0 rfl rfl 19 (by decide) (hw _ mw446) (fun _ h9 => h9) rfl (by decide +kernel) rfl rfl (Nat.le_of_ble_eq_true rfl) dX4_evaluate_160 (fun H locs hP hD hS => ?_)
              replace hP : va_P D vwCl (wM a k w29) H := by rw [(ez_fLs e28)]; exact hP
              replace hD : va_D A (wM a k w29) := by rw [(ez_fLs e28)]; exact hD
              refine lv_iconst (v := 1) (pc := 163) hx hb dX4_evaluate_163 rfl ?_
              obtain rfl := ez_r1 h
              exact ez_retI C0 hP hD hK hS dX4_evaluate_164
        · replace h := ez_it c9 h
          refine lv_iconst (v := 2) (pc := 93) hx hb dX4_evaluate_93 rfl ?_
          obtain rfl := ez_r1 h
          exact ez_retI C0 hP hD hK hS dX4_evaluate_94
set_option maxHeartbeats 4000000 in
set_option maxRecDepth 100000 in
theorem tX4_evaluate_0 {p : Program} {l : Launch} {e : Env} {s : State} {m : MethodId} {args : Array Value} {below : List Frame} {meth : Method} {c : Code} {A : Nat → Prop} {D : va_G} {a : Nat → Nat} {k : Nat → ClassId} {z : Int32 × Wd} (C0 : ez_C p s m args meth c cX4_evaluate (some .int) 7 RX4 A) (hK : va_K D vwCl (tM k) s) : ∀ (n : Nat) (H : Heap) (locs : List Loc) (ls : Array Slot) (x1 : Int32) (x2 : Int32) (x3 : Int32) (w : Wd), lv_has ls 7 [(0, .ref (a 0)), (1, .int x1), (2, .int x2), (3, .int x3)] → va_P D vwCl (wM a k w) H → va_D A (wM a k w) → va_S A s.heap H locs → fX4_evaluate n x1 x2 x3 w = some z → W p l e ({ frames := 6, cells := 0, slots := 0, locals := 158 } : Room) s m args below meth c H locs 0 0 (MQ below (ez_Qi D (tM k) A z.1 (wM a k z.2)) args s 0 0 A) (F0 m 0 ls []) := by
  intro n
  intro H locs ls x1 x2 x3 w hl hP hD hS h
  rw [fX4_evaluate] at h
  have C1 := C0
  obtain ⟨hx, hb, hr, hml, hown, hw, hlk, hA, hN⟩ := C1
  refine lv_aload_n (pc := 0) hx hb dX4_evaluate_0 rfl (lv_at hl 0 rfl) ?_
  refine lv_iload_n (pc := 1) hx hb dX4_evaluate_1 rfl (lv_at hl 1 rfl) ?_
  replace h := ez_bd h
  obtain ⟨z1, e2, h⟩ := h
  refine ez_croI (r := z1) (pc := 2) (va_runV (g := F0 m 2 ls [.int x1, .ref (a 0)]) (As := [.int x1]) (rest := []) ⟨hx, hb, hml, hown, hw⟩ (kX4_isGiven l D a k n x1 w z1 e2) (cwV 1 hw (ez_gV mw567 mw569 mp42 mw4 mw570) rfl rfl rfl (by decide +kernel) ⟨Nat.le_of_ble_eq_true rfl, Nat.le_of_ble_eq_true rfl⟩) (ez_preRV (wr := []) (wl := (wM a k w)) hP hK hN 0 rfl rfl) rfl rfl hl.1 rfl (lv_room (Nat.le_of_ble_eq_true rfl)) dX4_evaluate_2 ⟨Nat.le_refl _, Nat.le_refl _⟩) ?_
  refine lv_if_eq (pc := 5) (tgt := 16) hx hb dX4_evaluate_5 (by decide) (fun c3 => ?_) (fun c3 => ?_)
  · replace h := ez_it c3 h
    refine lv_iconst (v := (-1)) (pc := 16) hx hb dX4_evaluate_16 rfl ?_
    obtain rfl := ez_r1 h
    exact ez_retI C0 hP hD hK hS dX4_evaluate_17
  · replace h := ez_if c3 h
    refine lv_iload_n (pc := 8) hx hb dX4_evaluate_8 rfl (lv_at hl 2 rfl) ?_
    refine lv_iload_n (pc := 9) hx hb dX4_evaluate_9 rfl (lv_at hl 3 rfl) ?_
    replace h := ez_bd h
    obtain ⟨z4, e5, h⟩ := h
    refine ez_croI (r := z4) (pc := 10) (va_runS (g := F0 m 10 ls [.int x3, .int x2]) (As := [.int x2, .int x3]) (rest := []) ⟨hx, hb, hml, hown, hw⟩ (kX4_inRange l n x2 x3 z4 e5) (va_cwS 2 hw (ez_gS mw579 mw580 mw4 mw581) rfl rfl rfl (by decide +kernel) ⟨Nat.le_of_ble_eq_true rfl, Nat.le_of_ble_eq_true rfl⟩) (ez_preRS hN) rfl rfl hl.1 rfl (lv_room (Nat.le_of_ble_eq_true rfl)) dX4_evaluate_10 ⟨Nat.le_refl _, Nat.le_refl _⟩) ?_
    refine lv_if_ne (pc := 13) (tgt := 18) hx hb dX4_evaluate_13 (by decide) (fun c6 => ?_) (fun c6 => ?_)
    · replace h := ez_if c6 h
      refine lv_aload_n (pc := 18) hx hb dX4_evaluate_18 rfl (lv_at hl 0 rfl) ?_
      refine va_get (D := D) (pc := 19) hx hb hw inX4 hown hK hP 0 rfl rfl 2 (by decide) (hw _ mw429) (fun _ h9 => h9) rfl dX4_evaluate_19 ?_
      refine lv_iload_n (pc := 22) hx hb dX4_evaluate_22 rfl (lv_at hl 1 rfl) ?_
      replace h := ez_bd h
      obtain ⟨y8, e7, h⟩ := h
      obtain ⟨e7i, e7⟩ := ez_ldIs e7
      refine va_iald (D := D) (pc := 23) hx hb hK hP 2 1 rfl rfl e7i dX4_evaluate_23 ?_
      refine lv_topi (fun y9 hy9 => ?_)
      obtain rfl : y8 = y9 := e7.trans hy9.symm
      refine lv_iconst (v := 1) (pc := 24) hx hb dX4_evaluate_24 rfl ?_
      refine lv_isub (pc := 25) hx hb dX4_evaluate_25 ?_
      refine lv_istore (pc := 26) hx hb dX4_evaluate_26 hl (by decide) rfl (fun ls hl => ?_)
      replace hl : lv_has ls 7 [(4, .int (y8 - 1)), (0, .ref (a 0)), (1, .int x1), (2, .int x2), (3, .int x3)] := hl
      refine lv_aload_n (pc := 28) hx hb dX4_evaluate_28 rfl (lv_at hl 1 rfl) ?_
      refine lv_iload (pc := 29) hx hb dX4_evaluate_29 (lv_at hl 0 rfl) ?_
      refine lv_iconst (v := (-1)) (pc := 31) hx hb dX4_evaluate_31 rfl ?_
      replace h := ez_bd h
      obtain ⟨z9, e10, h⟩ := h
      refine ez_callI (r := z9.1) (pc := 32) (wr := []) (wl := (wM a k w)) (wl' := (wM a k z9.2)) (va_runV (g := F0 m 32 ls [.int (-1), .int (y8 - 1), .ref (a 0)]) (As := [.int (y8 - 1), .int (-1)]) (rest := []) ⟨hx, hb, hml, hown, hw⟩ (kX4_spread l D a k n (y8 - 1) (-1) w z9 e10 H.size) (cwV 2 hw (ez_gV mw571 mw573 mp43 mw4 mw574) rfl rfl rfl (by decide +kernel) ⟨Nat.le_of_ble_eq_true rfl, Nat.le_of_ble_eq_true rfl⟩) (ez_preV (wr := []) (wl := (wM a k w)) hP hD hK hN 0 rfl rfl) rfl rfl hl.1 rfl (lv_room (Nat.le_of_ble_eq_true rfl)) dX4_evaluate_32 ⟨Nat.le_refl _, Nat.le_refl _⟩) hP hD hS hA (fun H locs hP hD hS => ?_)
      replace hP : va_P D vwCl (wM a k z9.2) H := hP
      replace hD : va_D A (wM a k z9.2) := hD
      refine lv_istore (pc := 35) hx hb dX4_evaluate_35 hl (by decide) rfl (fun ls hl => ?_)
      replace hl : lv_has ls 7 [(5, .int z9.1), (4, .int (y8 - 1)), (0, .ref (a 0)), (1, .int x1), (2, .int x2), (3, .int x3)] := hl
      refine lv_aload_n (pc := 37) hx hb dX4_evaluate_37 rfl (lv_at hl 2 rfl) ?_
      refine lv_iconst (v := 0) (pc := 38) hx hb dX4_evaluate_38 rfl ?_
      replace h := ez_bd h
      obtain ⟨w12, e11, h⟩ := h
      refine va_put (D := D) (v := .int 0) (ty := .boolean) (pc := 39) hx hb hw inX4 tyX4 tyX4_ok nmX4 hown hK hP hD hS 0 rfl rfl 17 (by decide) (hw _ mw444) (fun _ h9 => h9) rfl (by decide +kernel) rfl rfl (Nat.le_of_ble_eq_true rfl) dX4_evaluate_39 (fun H locs hP hD hS => ?_)
      replace hP : va_P D vwCl (wM a k w12) H := by rw [(ez_fIs e11)]; exact hP
      replace hD : va_D A (wM a k w12) := by rw [(ez_fIs e11)]; exact hD
      refine lv_aload_n (pc := 42) hx hb dX4_evaluate_42 rfl (lv_at hl 2 rfl) ?_
      refine lv_iconst (v := 0) (pc := 43) hx hb dX4_evaluate_43 rfl ?_
      replace h := ez_bd h
      obtain ⟨w14, e13, h⟩ := h
      refine va_put (D := D) (v := .int 0) (ty := .int) (pc := 44) hx hb hw inX4 tyX4 tyX4_ok nmX4 hown hK hP hD hS 0 rfl rfl 15 (by decide) (hw _ mw442) (fun _ h9 => h9) rfl (by decide +kernel) rfl rfl (Nat.le_of_ble_eq_true rfl) dX4_evaluate_44 (fun H locs hP hD hS => ?_)
      replace hP : va_P D vwCl (wM a k w14) H := by rw [(ez_fIs e13)]; exact hP
      replace hD : va_D A (wM a k w14) := by rw [(ez_fIs e13)]; exact hD
      refine lv_iload_n (pc := 47) hx hb dX4_evaluate_47 rfl (lv_at hl 4 rfl) ?_
      refine lv_istore (pc := 48) hx hb dX4_evaluate_48 hl (by decide) rfl (fun ls hl => ?_)
      replace hl : lv_has ls 7 [(6, .int x2), (5, .int z9.1), (4, .int (y8 - 1)), (0, .ref (a 0)), (1, .int x1), (2, .int x2), (3, .int x3)] := hl
      exact tX4_evaluate_50 C0 hK  n _ _ _ x2 x3 (y8 - 1) z9.1 x2 w14 (lv_sub hl [3, 5, 6, 2, 1, 0] rfl) hP hD hS h
    · replace h := ez_it c6 h
      refine lv_iconst (v := (-1)) (pc := 16) hx hb dX4_evaluate_16 rfl ?_
      obtain rfl := ez_r1 h
      exact ez_retI C0 hP hD hK hS dX4_evaluate_17
set_option maxRecDepth 100000 in
theorem kX4_evaluate (l : Launch) (D : va_G) (a : Nat → Nat) (k : Nat → ClassId) (n : Nat) (x1 : Int32) (x2 : Int32) (x3 : Int32) (w : Wd) (z : Int32 × Wd) (h : fX4_evaluate n x1 x2 x3 w = some z) (sz : Nat) : Met l yX4_evaluate wsX4_evaluate ({ frames := 6, cells := 0, slots := 0, locals := 158 } : Room) (ez_Pc D (tM k) [.ref (a 0), .int x1, .int x2, .int x3] (wM a k w) sz) (ez_Qi D (tM k) (va_A (wM a k w) sz) z.1 (wM a k z.2)) 0 0 (va_A (wM a k w) sz) :=
  ez_mk (Qf := fun A => (ez_Qi D (tM k) A z.1 (wM a k z.2))) (by decide) rfl (Nat.le_of_ble_eq_true rfl) (fun p e s m below meth c A ls C0 _ hl hP hD hK => tX4_evaluate_0 C0 hK n s.heap [] ls x1 x2 x3 w (lv_sub (l := [(0, .ref (a 0)), (1, .int x1), (2, .int x2), (3, .int x3)]) hl [0, 1, 2, 3] rfl) hP hD va_S.rf h) sz
/-! EnclosureCalculatorModel relation -/
theorem dX4_relation_0 : decode cX4_relation 0 = .ok (.aload_n 0, 1) := by decide +kernel
theorem dX4_relation_1 : decode cX4_relation 1 = .ok (.getfield 38, 3) := by decide +kernel
theorem dX4_relation_4 : decode cX4_relation 4 = .ok (.iload_n 1, 1) := by decide +kernel
theorem dX4_relation_5 : decode cX4_relation 5 = .ok (.laload, 1) := by decide +kernel
theorem dX4_relation_6 : decode cX4_relation 6 = .ok (.aload_n 0, 1) := by decide +kernel
theorem dX4_relation_7 : decode cX4_relation 7 = .ok (.getfield 34, 3) := by decide +kernel
theorem dX4_relation_10 : decode cX4_relation 10 = .ok (.iload_n 2, 1) := by decide +kernel
theorem dX4_relation_11 : decode cX4_relation 11 = .ok (.laload, 1) := by decide +kernel
theorem dX4_relation_12 : decode cX4_relation 12 = .ok (.lcmp, 1) := by decide +kernel
theorem dX4_relation_13 : decode cX4_relation 13 = .ok (.ifCond .ge 5, 3) := by decide +kernel
theorem dX4_relation_16 : decode cX4_relation 16 = .ok (.iconst 3, 1) := by decide +kernel
theorem dX4_relation_17 : decode cX4_relation 17 = .ok (.ireturn, 1) := by decide +kernel
theorem dX4_relation_18 : decode cX4_relation 18 = .ok (.aload_n 0, 1) := by decide +kernel
theorem dX4_relation_19 : decode cX4_relation 19 = .ok (.getfield 34, 3) := by decide +kernel
theorem dX4_relation_22 : decode cX4_relation 22 = .ok (.iload_n 1, 1) := by decide +kernel
theorem dX4_relation_23 : decode cX4_relation 23 = .ok (.laload, 1) := by decide +kernel
theorem dX4_relation_24 : decode cX4_relation 24 = .ok (.aload_n 0, 1) := by decide +kernel
theorem dX4_relation_25 : decode cX4_relation 25 = .ok (.getfield 38, 3) := by decide +kernel
theorem dX4_relation_28 : decode cX4_relation 28 = .ok (.iload_n 2, 1) := by decide +kernel
theorem dX4_relation_29 : decode cX4_relation 29 = .ok (.laload, 1) := by decide +kernel
theorem dX4_relation_30 : decode cX4_relation 30 = .ok (.lcmp, 1) := by decide +kernel
theorem dX4_relation_31 : decode cX4_relation 31 = .ok (.ifCond .le 5, 3) := by decide +kernel
theorem dX4_relation_34 : decode cX4_relation 34 = .ok (.iconst 4, 1) := by decide +kernel
theorem dX4_relation_35 : decode cX4_relation 35 = .ok (.ireturn, 1) := by decide +kernel
theorem dX4_relation_36 : decode cX4_relation 36 = .ok (.aload_n 0, 1) := by decide +kernel
theorem dX4_relation_37 : decode cX4_relation 37 = .ok (.getfield 34, 3) := by decide +kernel
theorem dX4_relation_40 : decode cX4_relation 40 = .ok (.iload_n 1, 1) := by decide +kernel
theorem dX4_relation_41 : decode cX4_relation 41 = .ok (.laload, 1) := by decide +kernel
theorem dX4_relation_42 : decode cX4_relation 42 = .ok (.aload_n 0, 1) := by decide +kernel
theorem dX4_relation_43 : decode cX4_relation 43 = .ok (.getfield 34, 3) := by decide +kernel
theorem dX4_relation_46 : decode cX4_relation 46 = .ok (.iload_n 2, 1) := by decide +kernel
theorem dX4_relation_47 : decode cX4_relation 47 = .ok (.laload, 1) := by decide +kernel
theorem dX4_relation_48 : decode cX4_relation 48 = .ok (.lcmp, 1) := by decide +kernel
theorem dX4_relation_49 : decode cX4_relation 49 = .ok (.ifCond .ge 12, 3) := by decide +kernel
theorem dX4_relation_52 : decode cX4_relation 52 = .ok (.aload_n 0, 1) := by decide +kernel
theorem dX4_relation_53 : decode cX4_relation 53 = .ok (.getfield 34, 3) := by decide +kernel
theorem dX4_relation_56 : decode cX4_relation 56 = .ok (.iload_n 1, 1) := by decide +kernel
theorem dX4_relation_57 : decode cX4_relation 57 = .ok (.laload, 1) := by decide +kernel
theorem dX4_relation_58 : decode cX4_relation 58 = .ok (.goto 9, 3) := by decide +kernel
theorem dX4_relation_61 : decode cX4_relation 61 = .ok (.aload_n 0, 1) := by decide +kernel
theorem dX4_relation_62 : decode cX4_relation 62 = .ok (.getfield 34, 3) := by decide +kernel
theorem dX4_relation_65 : decode cX4_relation 65 = .ok (.iload_n 2, 1) := by decide +kernel
theorem dX4_relation_66 : decode cX4_relation 66 = .ok (.laload, 1) := by decide +kernel
theorem dX4_relation_67 : decode cX4_relation 67 = .ok (.lstore 5, 2) := by decide +kernel
theorem dX4_relation_69 : decode cX4_relation 69 = .ok (.aload_n 0, 1) := by decide +kernel
theorem dX4_relation_70 : decode cX4_relation 70 = .ok (.getfield 38, 3) := by decide +kernel
theorem dX4_relation_73 : decode cX4_relation 73 = .ok (.iload_n 1, 1) := by decide +kernel
theorem dX4_relation_74 : decode cX4_relation 74 = .ok (.laload, 1) := by decide +kernel
theorem dX4_relation_75 : decode cX4_relation 75 = .ok (.aload_n 0, 1) := by decide +kernel
theorem dX4_relation_76 : decode cX4_relation 76 = .ok (.getfield 38, 3) := by decide +kernel
theorem dX4_relation_79 : decode cX4_relation 79 = .ok (.iload_n 2, 1) := by decide +kernel
theorem dX4_relation_80 : decode cX4_relation 80 = .ok (.laload, 1) := by decide +kernel
theorem dX4_relation_81 : decode cX4_relation 81 = .ok (.lcmp, 1) := by decide +kernel
theorem dX4_relation_82 : decode cX4_relation 82 = .ok (.ifCond .le 12, 3) := by decide +kernel
theorem dX4_relation_85 : decode cX4_relation 85 = .ok (.aload_n 0, 1) := by decide +kernel
theorem dX4_relation_86 : decode cX4_relation 86 = .ok (.getfield 38, 3) := by decide +kernel
theorem dX4_relation_89 : decode cX4_relation 89 = .ok (.iload_n 1, 1) := by decide +kernel
theorem dX4_relation_90 : decode cX4_relation 90 = .ok (.laload, 1) := by decide +kernel
theorem dX4_relation_91 : decode cX4_relation 91 = .ok (.goto 9, 3) := by decide +kernel
theorem dX4_relation_94 : decode cX4_relation 94 = .ok (.aload_n 0, 1) := by decide +kernel
theorem dX4_relation_95 : decode cX4_relation 95 = .ok (.getfield 38, 3) := by decide +kernel
theorem dX4_relation_98 : decode cX4_relation 98 = .ok (.iload_n 2, 1) := by decide +kernel
theorem dX4_relation_99 : decode cX4_relation 99 = .ok (.laload, 1) := by decide +kernel
theorem dX4_relation_100 : decode cX4_relation 100 = .ok (.lstore 7, 2) := by decide +kernel
theorem dX4_relation_102 : decode cX4_relation 102 = .ok (.lload 7, 2) := by decide +kernel
theorem dX4_relation_104 : decode cX4_relation 104 = .ok (.lload 5, 2) := by decide +kernel
theorem dX4_relation_106 : decode cX4_relation 106 = .ok (.lsub, 1) := by decide +kernel
theorem dX4_relation_107 : decode cX4_relation 107 = .ok (.lload_n 3, 1) := by decide +kernel
theorem dX4_relation_108 : decode cX4_relation 108 = .ok (.lcmp, 1) := by decide +kernel
theorem dX4_relation_109 : decode cX4_relation 109 = .ok (.ifCond .gt 7, 3) := by decide +kernel
theorem dX4_relation_112 : decode cX4_relation 112 = .ok (.iconst 5, 1) := by decide +kernel
theorem dX4_relation_113 : decode cX4_relation 113 = .ok (.goto 4, 3) := by decide +kernel
theorem dX4_relation_116 : decode cX4_relation 116 = .ok (.iconst 0, 1) := by decide +kernel
theorem dX4_relation_117 : decode cX4_relation 117 = .ok (.ireturn, 1) := by decide +kernel
def fX4_relation_67 (n : Nat) (x1 : Int32) (x2 : Int32) (x3 : Int64) (s0 : Int64) (w : Wd) : Option (Int32) :=
    (ez_ldL w 10 120 x1).bind fun y2 =>
    (ez_ldL w 10 120 x2).bind fun y4 =>
    if (lg_cmp y2 y4) ≤ 0 then
      (ez_ldL w 10 120 x2).bind fun y7 =>
      if 0 < (lg_cmp (y7 - s0) x3) then
        some 0
      else
        some 5
    else
      (ez_ldL w 10 120 x1).bind fun y10 =>
      if 0 < (lg_cmp (y10 - s0) x3) then
        some 0
      else
        some 5
def fX4_relation (n : Nat) (x1 : Int32) (x2 : Int32) (x3 : Int64) (w : Wd) : Option (Int32) :=
    (ez_ldL w 10 120 x1).bind fun y2 =>
    (ez_ldL w 9 120 x2).bind fun y4 =>
    if 0 ≤ (lg_cmp y2 y4) then
      (ez_ldL w 9 120 x1).bind fun y7 =>
      (ez_ldL w 10 120 x2).bind fun y9 =>
      if (lg_cmp y7 y9) ≤ 0 then
        (ez_ldL w 9 120 x1).bind fun y12 =>
        (ez_ldL w 9 120 x2).bind fun y14 =>
        if 0 ≤ (lg_cmp y12 y14) then
          (ez_ldL w 9 120 x2).bind fun y17 =>
          fX4_relation_67 n x1 x2 x3 y17 w
        else
          (ez_ldL w 9 120 x1).bind fun y19 =>
          fX4_relation_67 n x1 x2 x3 y19 w
      else
        some 4
    else
      some 3
set_option maxHeartbeats 4000000 in
set_option maxRecDepth 100000 in
theorem tX4_relation_67 {p : Program} {l : Launch} {e : Env} {s : State} {m : MethodId} {args : Array Value} {below : List Frame} {meth : Method} {c : Code} {D : va_G} {a : Nat → Nat} {k : Nat → ClassId} {z : Int32} {w : Wd} (C0 : ez_C p s m args meth c cX4_relation (some .int) 9 RX4 (fun _ => True)) (hK : va_K D vwCl (tM k) s) (hP : va_P D vwCl (wM a k w) s.heap) : ∀ (n : Nat) (ls : Array Slot) (x1 : Int32) (x2 : Int32) (x3 : Int64) (s0 : Int64), lv_has ls 9 [(0, .ref (a 0)), (1, .int x1), (2, .int x2), (3, .long x3)] → fX4_relation_67 n x1 x2 x3 s0 w = some z → W p l e ({ frames := 0, cells := 0, slots := 0, locals := 0 } : Room) s m args below meth c s.heap [] 0 0 (MQ below (ez_Ri z) args s 0 0 (fun _ => False)) (F0 m 67 ls [.long s0]) := by
  intro n
  intro ls x1 x2 x3 s0 hl h
  rw [fX4_relation_67] at h
  have C1 := C0
  obtain ⟨hx, hb, hr, hml, hown, hw, hlk, hA, hN⟩ := C1
  refine lv_lstore (pc := 67) hx hb dX4_relation_67 hl (by decide) rfl (fun ls hl => ?_)
  replace hl : lv_has ls 9 [(5, .long s0), (0, .ref (a 0)), (1, .int x1), (2, .int x2), (3, .long x3)] := hl
  refine lv_aload_n (pc := 69) hx hb dX4_relation_69 rfl (lv_at hl 1 rfl) ?_
  refine va_get (D := D) (pc := 70) hx hb hw inX4 hown hK hP 0 rfl rfl 13 (by decide) (hw _ mw440) (fun _ h9 => h9) rfl dX4_relation_70 ?_
  refine lv_iload_n (pc := 73) hx hb dX4_relation_73 rfl (lv_at hl 2 rfl) ?_
  replace h := ez_bd h
  obtain ⟨y2, e1, h⟩ := h
  obtain ⟨e1i, e1⟩ := ez_ldLs e1
  refine va_lald (D := D) (pc := 74) hx hb hK hP 10 9 rfl rfl e1i dX4_relation_74 ?_
  refine lv_topl (fun y9 hy9 => ?_)
  obtain rfl : y2 = y9 := e1.trans hy9.symm
  refine lv_aload_n (pc := 75) hx hb dX4_relation_75 rfl (lv_at hl 1 rfl) ?_
  refine va_get (D := D) (pc := 76) hx hb hw inX4 hown hK hP 0 rfl rfl 13 (by decide) (hw _ mw440) (fun _ h9 => h9) rfl dX4_relation_76 ?_
  refine lv_iload_n (pc := 79) hx hb dX4_relation_79 rfl (lv_at hl 3 rfl) ?_
  replace h := ez_bd h
  obtain ⟨y4, e3, h⟩ := h
  obtain ⟨e3i, e3⟩ := ez_ldLs e3
  refine va_lald (D := D) (pc := 80) hx hb hK hP 10 9 rfl rfl e3i dX4_relation_80 ?_
  refine lv_topl (fun y9 hy9 => ?_)
  obtain rfl : y4 = y9 := e3.trans hy9.symm
  refine W.lcmp (pc := 81) hx hb dX4_relation_81 ?_
  refine lv_if_le (pc := 82) (tgt := 94) hx hb dX4_relation_82 (by decide) (fun c5 => ?_) (fun c5 => ?_)
  · replace h := ez_it c5 h
    refine lv_aload_n (pc := 94) hx hb dX4_relation_94 rfl (lv_at hl 1 rfl) ?_
    refine va_get (D := D) (pc := 95) hx hb hw inX4 hown hK hP 0 rfl rfl 13 (by decide) (hw _ mw440) (fun _ h9 => h9) rfl dX4_relation_95 ?_
    refine lv_iload_n (pc := 98) hx hb dX4_relation_98 rfl (lv_at hl 3 rfl) ?_
    replace h := ez_bd h
    obtain ⟨y7, e6, h⟩ := h
    obtain ⟨e6i, e6⟩ := ez_ldLs e6
    refine va_lald (D := D) (pc := 99) hx hb hK hP 10 9 rfl rfl e6i dX4_relation_99 ?_
    refine lv_topl (fun y9 hy9 => ?_)
    obtain rfl : y7 = y9 := e6.trans hy9.symm
    refine lv_lstore (pc := 100) hx hb dX4_relation_100 hl (by decide) rfl (fun ls hl => ?_)
    replace hl : lv_has ls 9 [(7, .long y7), (5, .long s0), (0, .ref (a 0)), (1, .int x1), (2, .int x2), (3, .long x3)] := hl
    refine lv_lload (pc := 102) hx hb dX4_relation_102 (lv_at hl 0 rfl) ?_
    refine lv_lload (pc := 104) hx hb dX4_relation_104 (lv_at hl 1 rfl) ?_
    refine lv_lsub (pc := 106) hx hb dX4_relation_106 ?_
    refine lv_lload_n (pc := 107) hx hb dX4_relation_107 rfl (lv_at hl 5 rfl) ?_
    refine W.lcmp (pc := 108) hx hb dX4_relation_108 ?_
    refine lv_if_gt (pc := 109) (tgt := 116) hx hb dX4_relation_109 (by decide) (fun c8 => ?_) (fun c8 => ?_)
    · replace h := ez_it c8 h
      refine lv_iconst (v := 0) (pc := 116) hx hb dX4_relation_116 rfl ?_
      obtain rfl := ez_r1 h
      exact ez_rroI C0 dX4_relation_117
    · replace h := ez_if c8 h
      refine lv_iconst (v := 5) (pc := 112) hx hb dX4_relation_112 rfl ?_
      refine lv_goto (pc := 113) (tgt := 117) hx hb dX4_relation_113 (by decide) ?_
      obtain rfl := ez_r1 h
      exact ez_rroI C0 dX4_relation_117
  · replace h := ez_if c5 h
    refine lv_aload_n (pc := 85) hx hb dX4_relation_85 rfl (lv_at hl 1 rfl) ?_
    refine va_get (D := D) (pc := 86) hx hb hw inX4 hown hK hP 0 rfl rfl 13 (by decide) (hw _ mw440) (fun _ h9 => h9) rfl dX4_relation_86 ?_
    refine lv_iload_n (pc := 89) hx hb dX4_relation_89 rfl (lv_at hl 2 rfl) ?_
    replace h := ez_bd h
    obtain ⟨y10, e9, h⟩ := h
    obtain ⟨e9i, e9⟩ := ez_ldLs e9
    refine va_lald (D := D) (pc := 90) hx hb hK hP 10 9 rfl rfl e9i dX4_relation_90 ?_
    refine lv_topl (fun y9 hy9 => ?_)
    obtain rfl : y10 = y9 := e9.trans hy9.symm
    refine lv_goto (pc := 91) (tgt := 100) hx hb dX4_relation_91 (by decide) ?_
    refine lv_lstore (pc := 100) hx hb dX4_relation_100 hl (by decide) rfl (fun ls hl => ?_)
    replace hl : lv_has ls 9 [(7, .long y10), (5, .long s0), (0, .ref (a 0)), (1, .int x1), (2, .int x2), (3, .long x3)] := hl
    refine lv_lload (pc := 102) hx hb dX4_relation_102 (lv_at hl 0 rfl) ?_
    refine lv_lload (pc := 104) hx hb dX4_relation_104 (lv_at hl 1 rfl) ?_
    refine lv_lsub (pc := 106) hx hb dX4_relation_106 ?_
    refine lv_lload_n (pc := 107) hx hb dX4_relation_107 rfl (lv_at hl 5 rfl) ?_
    refine W.lcmp (pc := 108) hx hb dX4_relation_108 ?_
    refine lv_if_gt (pc := 109) (tgt := 116) hx hb dX4_relation_109 (by decide) (fun c11 => ?_) (fun c11 => ?_)
    · replace h := ez_it c11 h
      refine lv_iconst (v := 0) (pc := 116) hx hb dX4_relation_116 rfl ?_
      obtain rfl := ez_r1 h
      exact ez_rroI C0 dX4_relation_117
    · replace h := ez_if c11 h
      refine lv_iconst (v := 5) (pc := 112) hx hb dX4_relation_112 rfl ?_
      refine lv_goto (pc := 113) (tgt := 117) hx hb dX4_relation_113 (by decide) ?_
      obtain rfl := ez_r1 h
      exact ez_rroI C0 dX4_relation_117
set_option maxHeartbeats 4000000 in
set_option maxRecDepth 100000 in
theorem tX4_relation_0 {p : Program} {l : Launch} {e : Env} {s : State} {m : MethodId} {args : Array Value} {below : List Frame} {meth : Method} {c : Code} {D : va_G} {a : Nat → Nat} {k : Nat → ClassId} {z : Int32} {w : Wd} (C0 : ez_C p s m args meth c cX4_relation (some .int) 9 RX4 (fun _ => True)) (hK : va_K D vwCl (tM k) s) (hP : va_P D vwCl (wM a k w) s.heap) : ∀ (n : Nat) (ls : Array Slot) (x1 : Int32) (x2 : Int32) (x3 : Int64), lv_has ls 9 [(0, .ref (a 0)), (1, .int x1), (2, .int x2), (3, .long x3)] → fX4_relation n x1 x2 x3 w = some z → W p l e ({ frames := 0, cells := 0, slots := 0, locals := 0 } : Room) s m args below meth c s.heap [] 0 0 (MQ below (ez_Ri z) args s 0 0 (fun _ => False)) (F0 m 0 ls []) := by
  intro n
  intro ls x1 x2 x3 hl h
  rw [fX4_relation] at h
  have C1 := C0
  obtain ⟨hx, hb, hr, hml, hown, hw, hlk, hA, hN⟩ := C1
  refine lv_aload_n (pc := 0) hx hb dX4_relation_0 rfl (lv_at hl 0 rfl) ?_
  refine va_get (D := D) (pc := 1) hx hb hw inX4 hown hK hP 0 rfl rfl 13 (by decide) (hw _ mw440) (fun _ h9 => h9) rfl dX4_relation_1 ?_
  refine lv_iload_n (pc := 4) hx hb dX4_relation_4 rfl (lv_at hl 1 rfl) ?_
  replace h := ez_bd h
  obtain ⟨y2, e1, h⟩ := h
  obtain ⟨e1i, e1⟩ := ez_ldLs e1
  refine va_lald (D := D) (pc := 5) hx hb hK hP 10 9 rfl rfl e1i dX4_relation_5 ?_
  refine lv_topl (fun y9 hy9 => ?_)
  obtain rfl : y2 = y9 := e1.trans hy9.symm
  refine lv_aload_n (pc := 6) hx hb dX4_relation_6 rfl (lv_at hl 0 rfl) ?_
  refine va_get (D := D) (pc := 7) hx hb hw inX4 hown hK hP 0 rfl rfl 12 (by decide) (hw _ mw439) (fun _ h9 => h9) rfl dX4_relation_7 ?_
  refine lv_iload_n (pc := 10) hx hb dX4_relation_10 rfl (lv_at hl 2 rfl) ?_
  replace h := ez_bd h
  obtain ⟨y4, e3, h⟩ := h
  obtain ⟨e3i, e3⟩ := ez_ldLs e3
  refine va_lald (D := D) (pc := 11) hx hb hK hP 9 8 rfl rfl e3i dX4_relation_11 ?_
  refine lv_topl (fun y9 hy9 => ?_)
  obtain rfl : y4 = y9 := e3.trans hy9.symm
  refine W.lcmp (pc := 12) hx hb dX4_relation_12 ?_
  refine lv_if_ge (pc := 13) (tgt := 18) hx hb dX4_relation_13 (by decide) (fun c5 => ?_) (fun c5 => ?_)
  · replace h := ez_it c5 h
    refine lv_aload_n (pc := 18) hx hb dX4_relation_18 rfl (lv_at hl 0 rfl) ?_
    refine va_get (D := D) (pc := 19) hx hb hw inX4 hown hK hP 0 rfl rfl 12 (by decide) (hw _ mw439) (fun _ h9 => h9) rfl dX4_relation_19 ?_
    refine lv_iload_n (pc := 22) hx hb dX4_relation_22 rfl (lv_at hl 1 rfl) ?_
    replace h := ez_bd h
    obtain ⟨y7, e6, h⟩ := h
    obtain ⟨e6i, e6⟩ := ez_ldLs e6
    refine va_lald (D := D) (pc := 23) hx hb hK hP 9 8 rfl rfl e6i dX4_relation_23 ?_
    refine lv_topl (fun y9 hy9 => ?_)
    obtain rfl : y7 = y9 := e6.trans hy9.symm
    refine lv_aload_n (pc := 24) hx hb dX4_relation_24 rfl (lv_at hl 0 rfl) ?_
    refine va_get (D := D) (pc := 25) hx hb hw inX4 hown hK hP 0 rfl rfl 13 (by decide) (hw _ mw440) (fun _ h9 => h9) rfl dX4_relation_25 ?_
    refine lv_iload_n (pc := 28) hx hb dX4_relation_28 rfl (lv_at hl 2 rfl) ?_
    replace h := ez_bd h
    obtain ⟨y9, e8, h⟩ := h
    obtain ⟨e8i, e8⟩ := ez_ldLs e8
    refine va_lald (D := D) (pc := 29) hx hb hK hP 10 9 rfl rfl e8i dX4_relation_29 ?_
    refine lv_topl (fun yq hy9 => ?_)
    obtain rfl : y9 = yq := e8.trans hy9.symm
    refine W.lcmp (pc := 30) hx hb dX4_relation_30 ?_
    refine lv_if_le (pc := 31) (tgt := 36) hx hb dX4_relation_31 (by decide) (fun c10 => ?_) (fun c10 => ?_)
    · replace h := ez_it c10 h
      refine lv_aload_n (pc := 36) hx hb dX4_relation_36 rfl (lv_at hl 0 rfl) ?_
      refine va_get (D := D) (pc := 37) hx hb hw inX4 hown hK hP 0 rfl rfl 12 (by decide) (hw _ mw439) (fun _ h9 => h9) rfl dX4_relation_37 ?_
      refine lv_iload_n (pc := 40) hx hb dX4_relation_40 rfl (lv_at hl 1 rfl) ?_
      replace h := ez_bd h
      obtain ⟨y12, e11, h⟩ := h
      obtain ⟨e11i, e11⟩ := ez_ldLs e11
      refine va_lald (D := D) (pc := 41) hx hb hK hP 9 8 rfl rfl e11i dX4_relation_41 ?_
      refine lv_topl (fun y9 hy9 => ?_)
      obtain rfl : y12 = y9 := e11.trans hy9.symm
      refine lv_aload_n (pc := 42) hx hb dX4_relation_42 rfl (lv_at hl 0 rfl) ?_
      refine va_get (D := D) (pc := 43) hx hb hw inX4 hown hK hP 0 rfl rfl 12 (by decide) (hw _ mw439) (fun _ h9 => h9) rfl dX4_relation_43 ?_
      refine lv_iload_n (pc := 46) hx hb dX4_relation_46 rfl (lv_at hl 2 rfl) ?_
      replace h := ez_bd h
      obtain ⟨y14, e13, h⟩ := h
      obtain ⟨e13i, e13⟩ := ez_ldLs e13
      refine va_lald (D := D) (pc := 47) hx hb hK hP 9 8 rfl rfl e13i dX4_relation_47 ?_
      refine lv_topl (fun y9 hy9 => ?_)
      obtain rfl : y14 = y9 := e13.trans hy9.symm
      refine W.lcmp (pc := 48) hx hb dX4_relation_48 ?_
      refine lv_if_ge (pc := 49) (tgt := 61) hx hb dX4_relation_49 (by decide) (fun c15 => ?_) (fun c15 => ?_)
      · replace h := ez_it c15 h
        refine lv_aload_n (pc := 61) hx hb dX4_relation_61 rfl (lv_at hl 0 rfl) ?_
        refine va_get (D := D) (pc := 62) hx hb hw inX4 hown hK hP 0 rfl rfl 12 (by decide) (hw _ mw439) (fun _ h9 => h9) rfl dX4_relation_62 ?_
        refine lv_iload_n (pc := 65) hx hb dX4_relation_65 rfl (lv_at hl 2 rfl) ?_
        replace h := ez_bd h
        obtain ⟨y17, e16, h⟩ := h
        obtain ⟨e16i, e16⟩ := ez_ldLs e16
        refine va_lald (D := D) (pc := 66) hx hb hK hP 9 8 rfl rfl e16i dX4_relation_66 ?_
        refine lv_topl (fun y9 hy9 => ?_)
        obtain rfl : y17 = y9 := e16.trans hy9.symm
        exact tX4_relation_67 C0 hK hP  n _ x1 x2 x3 y17 (lv_sub hl [0, 1, 2, 3] rfl) h
      · replace h := ez_if c15 h
        refine lv_aload_n (pc := 52) hx hb dX4_relation_52 rfl (lv_at hl 0 rfl) ?_
        refine va_get (D := D) (pc := 53) hx hb hw inX4 hown hK hP 0 rfl rfl 12 (by decide) (hw _ mw439) (fun _ h9 => h9) rfl dX4_relation_53 ?_
        refine lv_iload_n (pc := 56) hx hb dX4_relation_56 rfl (lv_at hl 1 rfl) ?_
        replace h := ez_bd h
        obtain ⟨y19, e18, h⟩ := h
        obtain ⟨e18i, e18⟩ := ez_ldLs e18
        refine va_lald (D := D) (pc := 57) hx hb hK hP 9 8 rfl rfl e18i dX4_relation_57 ?_
        refine lv_topl (fun y9 hy9 => ?_)
        obtain rfl : y19 = y9 := e18.trans hy9.symm
        refine lv_goto (pc := 58) (tgt := 67) hx hb dX4_relation_58 (by decide) ?_
        exact tX4_relation_67 C0 hK hP  n _ x1 x2 x3 y19 (lv_sub hl [0, 1, 2, 3] rfl) h
    · replace h := ez_if c10 h
      refine lv_iconst (v := 4) (pc := 34) hx hb dX4_relation_34 rfl ?_
      obtain rfl := ez_r1 h
      exact ez_rroI C0 dX4_relation_35
  · replace h := ez_if c5 h
    refine lv_iconst (v := 3) (pc := 16) hx hb dX4_relation_16 rfl ?_
    obtain rfl := ez_r1 h
    exact ez_rroI C0 dX4_relation_17
set_option maxRecDepth 100000 in
theorem kX4_relation (l : Launch) (D : va_G) (a : Nat → Nat) (k : Nat → ClassId) (n : Nat) (x1 : Int32) (x2 : Int32) (x3 : Int64) (w : Wd) (z : Int32) (h : fX4_relation n x1 x2 x3 w = some z) : Met l yX4_relation wsX4_relation ({ frames := 0, cells := 0, slots := 0, locals := 0 } : Room) (ez_Rc D (tM k) [.ref (a 0), .int x1, .int x2, .long x3] (wM a k w)) (ez_Ri z) 0 0 (fun _ => False) :=
  ez_mkR (by decide) rfl (Nat.le_of_ble_eq_true rfl) (fun p e s m below meth c ls C0 hl hP hK => tX4_relation_0 C0 hK hP n ls x1 x2 x3 (lv_sub (l := [(0, .ref (a 0)), (1, .int x1), (2, .int x2), (3, .long x3)]) hl [0, 1, 2, 3] rfl) h)
/-! EnclosureCalculatorModel compare -/
theorem dX4_compare_0 : decode cX4_compare 0 = .ok (.aload_n 0, 1) := by decide +kernel
theorem dX4_compare_1 : decode cX4_compare 1 = .ok (.iload_n 1, 1) := by decide +kernel
theorem dX4_compare_2 : decode cX4_compare 2 = .ok (.invokevirtual 150, 3) := by decide +kernel
theorem dX4_compare_5 : decode cX4_compare 5 = .ok (.ifCond .eq 20, 3) := by decide +kernel
theorem dX4_compare_8 : decode cX4_compare 8 = .ok (.aload_n 0, 1) := by decide +kernel
theorem dX4_compare_9 : decode cX4_compare 9 = .ok (.iload_n 2, 1) := by decide +kernel
theorem dX4_compare_10 : decode cX4_compare 10 = .ok (.invokevirtual 150, 3) := by decide +kernel
theorem dX4_compare_13 : decode cX4_compare 13 = .ok (.ifCond .eq 12, 3) := by decide +kernel
theorem dX4_compare_16 : decode cX4_compare 16 = .ok (.iload_n 3, 1) := by decide +kernel
theorem dX4_compare_17 : decode cX4_compare 17 = .ok (.iload 4, 2) := by decide +kernel
theorem dX4_compare_19 : decode cX4_compare 19 = .ok (.invokestatic 157, 3) := by decide +kernel
theorem dX4_compare_22 : decode cX4_compare 22 = .ok (.ifCond .ne 5, 3) := by decide +kernel
theorem dX4_compare_25 : decode cX4_compare 25 = .ok (.iconst (-1), 1) := by decide +kernel
theorem dX4_compare_26 : decode cX4_compare 26 = .ok (.ireturn, 1) := by decide +kernel
theorem dX4_compare_27 : decode cX4_compare 27 = .ok (.aload_n 0, 1) := by decide +kernel
theorem dX4_compare_28 : decode cX4_compare 28 = .ok (.getfield 13, 3) := by decide +kernel
theorem dX4_compare_31 : decode cX4_compare 31 = .ok (.iload_n 1, 1) := by decide +kernel
theorem dX4_compare_32 : decode cX4_compare 32 = .ok (.iaload, 1) := by decide +kernel
theorem dX4_compare_33 : decode cX4_compare 33 = .ok (.iconst 1, 1) := by decide +kernel
theorem dX4_compare_34 : decode cX4_compare 34 = .ok (.isub, 1) := by decide +kernel
theorem dX4_compare_35 : decode cX4_compare 35 = .ok (.istore 5, 2) := by decide +kernel
theorem dX4_compare_37 : decode cX4_compare 37 = .ok (.aload_n 0, 1) := by decide +kernel
theorem dX4_compare_38 : decode cX4_compare 38 = .ok (.getfield 13, 3) := by decide +kernel
theorem dX4_compare_41 : decode cX4_compare 41 = .ok (.iload_n 2, 1) := by decide +kernel
theorem dX4_compare_42 : decode cX4_compare 42 = .ok (.iaload, 1) := by decide +kernel
theorem dX4_compare_43 : decode cX4_compare 43 = .ok (.iconst 1, 1) := by decide +kernel
theorem dX4_compare_44 : decode cX4_compare 44 = .ok (.isub, 1) := by decide +kernel
theorem dX4_compare_45 : decode cX4_compare 45 = .ok (.istore 6, 2) := by decide +kernel
theorem dX4_compare_47 : decode cX4_compare 47 = .ok (.aload_n 0, 1) := by decide +kernel
theorem dX4_compare_48 : decode cX4_compare 48 = .ok (.iload 5, 2) := by decide +kernel
theorem dX4_compare_50 : decode cX4_compare 50 = .ok (.iload 6, 2) := by decide +kernel
theorem dX4_compare_52 : decode cX4_compare 52 = .ok (.invokevirtual 153, 3) := by decide +kernel
theorem dX4_compare_55 : decode cX4_compare 55 = .ok (.istore 7, 2) := by decide +kernel
theorem dX4_compare_57 : decode cX4_compare 57 = .ok (.aload_n 0, 1) := by decide +kernel
theorem dX4_compare_58 : decode cX4_compare 58 = .ok (.iconst 0, 1) := by decide +kernel
theorem dX4_compare_59 : decode cX4_compare 59 = .ok (.putfield 110, 3) := by decide +kernel
theorem dX4_compare_62 : decode cX4_compare 62 = .ok (.iload_n 3, 1) := by decide +kernel
theorem dX4_compare_63 : decode cX4_compare 63 = .ok (.istore 8, 2) := by decide +kernel
theorem dX4_compare_65 : decode cX4_compare 65 = .ok (.iload 8, 2) := by decide +kernel
theorem dX4_compare_67 : decode cX4_compare 67 = .ok (.iload_n 3, 1) := by decide +kernel
theorem dX4_compare_68 : decode cX4_compare 68 = .ok (.iload 4, 2) := by decide +kernel
theorem dX4_compare_70 : decode cX4_compare 70 = .ok (.iadd, 1) := by decide +kernel
theorem dX4_compare_71 : decode cX4_compare 71 = .ok (.if_icmp .ge 101, 3) := by decide +kernel
theorem dX4_compare_74 : decode cX4_compare 74 = .ok (.iload 8, 2) := by decide +kernel
theorem dX4_compare_76 : decode cX4_compare 76 = .ok (.bipush 18, 2) := by decide +kernel
theorem dX4_compare_78 : decode cX4_compare 78 = .ok (.if_icmp .gt 94, 3) := by decide +kernel
theorem dX4_compare_81 : decode cX4_compare 81 = .ok (.aload_n 0, 1) := by decide +kernel
theorem dX4_compare_82 : decode cX4_compare 82 = .ok (.aload_n 0, 1) := by decide +kernel
theorem dX4_compare_83 : decode cX4_compare 83 = .ok (.getfield 110, 3) := by decide +kernel
theorem dX4_compare_86 : decode cX4_compare 86 = .ok (.iload 7, 2) := by decide +kernel
theorem dX4_compare_88 : decode cX4_compare 88 = .ok (.iadd, 1) := by decide +kernel
theorem dX4_compare_89 : decode cX4_compare 89 = .ok (.putfield 110, 3) := by decide +kernel
theorem dX4_compare_92 : decode cX4_compare 92 = .ok (.aload_n 0, 1) := by decide +kernel
theorem dX4_compare_93 : decode cX4_compare 93 = .ok (.iload 8, 2) := by decide +kernel
theorem dX4_compare_95 : decode cX4_compare 95 = .ok (.invokevirtual 161, 3) := by decide +kernel
theorem dX4_compare_98 : decode cX4_compare 98 = .ok (.aload_n 0, 1) := by decide +kernel
theorem dX4_compare_99 : decode cX4_compare 99 = .ok (.getfield 31, 3) := by decide +kernel
theorem dX4_compare_102 : decode cX4_compare 102 = .ok (.iload 5, 2) := by decide +kernel
theorem dX4_compare_104 : decode cX4_compare 104 = .ok (.iaload, 1) := by decide +kernel
theorem dX4_compare_105 : decode cX4_compare 105 = .ok (.iconst 2, 1) := by decide +kernel
theorem dX4_compare_106 : decode cX4_compare 106 = .ok (.if_icmp .eq 14, 3) := by decide +kernel
theorem dX4_compare_109 : decode cX4_compare 109 = .ok (.aload_n 0, 1) := by decide +kernel
theorem dX4_compare_110 : decode cX4_compare 110 = .ok (.getfield 31, 3) := by decide +kernel
theorem dX4_compare_113 : decode cX4_compare 113 = .ok (.iload 6, 2) := by decide +kernel
theorem dX4_compare_115 : decode cX4_compare 115 = .ok (.iaload, 1) := by decide +kernel
theorem dX4_compare_116 : decode cX4_compare 116 = .ok (.iconst 2, 1) := by decide +kernel
theorem dX4_compare_117 : decode cX4_compare 117 = .ok (.if_icmp .ne 5, 3) := by decide +kernel
theorem dX4_compare_120 : decode cX4_compare 120 = .ok (.iconst 2, 1) := by decide +kernel
theorem dX4_compare_121 : decode cX4_compare 121 = .ok (.ireturn, 1) := by decide +kernel
theorem dX4_compare_122 : decode cX4_compare 122 = .ok (.aload_n 0, 1) := by decide +kernel
theorem dX4_compare_123 : decode cX4_compare 123 = .ok (.getfield 31, 3) := by decide +kernel
theorem dX4_compare_126 : decode cX4_compare 126 = .ok (.iload 5, 2) := by decide +kernel
theorem dX4_compare_128 : decode cX4_compare 128 = .ok (.iaload, 1) := by decide +kernel
theorem dX4_compare_129 : decode cX4_compare 129 = .ok (.ifCond .ne 37, 3) := by decide +kernel
theorem dX4_compare_132 : decode cX4_compare 132 = .ok (.aload_n 0, 1) := by decide +kernel
theorem dX4_compare_133 : decode cX4_compare 133 = .ok (.getfield 31, 3) := by decide +kernel
theorem dX4_compare_136 : decode cX4_compare 136 = .ok (.iload 6, 2) := by decide +kernel
theorem dX4_compare_138 : decode cX4_compare 138 = .ok (.iaload, 1) := by decide +kernel
theorem dX4_compare_139 : decode cX4_compare 139 = .ok (.ifCond .ne 27, 3) := by decide +kernel
theorem dX4_compare_142 : decode cX4_compare 142 = .ok (.aload_n 0, 1) := by decide +kernel
theorem dX4_compare_143 : decode cX4_compare 143 = .ok (.iload 5, 2) := by decide +kernel
theorem dX4_compare_145 : decode cX4_compare 145 = .ok (.iload 6, 2) := by decide +kernel
theorem dX4_compare_147 : decode cX4_compare 147 = .ok (.lconst 1, 1) := by decide +kernel
theorem dX4_compare_148 : decode cX4_compare 148 = .ok (.iload 8, 2) := by decide +kernel
theorem dX4_compare_150 : decode cX4_compare 150 = .ok (.iload_n 3, 1) := by decide +kernel
theorem dX4_compare_151 : decode cX4_compare 151 = .ok (.isub, 1) := by decide +kernel
theorem dX4_compare_152 : decode cX4_compare 152 = .ok (.lshl, 1) := by decide +kernel
theorem dX4_compare_153 : decode cX4_compare 153 = .ok (.invokevirtual 174, 3) := by decide +kernel
theorem dX4_compare_156 : decode cX4_compare 156 = .ok (.istore 9, 2) := by decide +kernel
theorem dX4_compare_158 : decode cX4_compare 158 = .ok (.iload 9, 2) := by decide +kernel
theorem dX4_compare_160 : decode cX4_compare 160 = .ok (.ifCond .eq 6, 3) := by decide +kernel
theorem dX4_compare_163 : decode cX4_compare 163 = .ok (.iload 9, 2) := by decide +kernel
theorem dX4_compare_165 : decode cX4_compare 165 = .ok (.ireturn, 1) := by decide +kernel
theorem dX4_compare_166 : decode cX4_compare 166 = .ok (.iinc 8 1, 3) := by decide +kernel
theorem dX4_compare_169 : decode cX4_compare 169 = .ok (.goto (-104), 3) := by decide +kernel
theorem dX4_compare_172 : decode cX4_compare 172 = .ok (.iconst 0, 1) := by decide +kernel
theorem dX4_compare_173 : decode cX4_compare 173 = .ok (.ireturn, 1) := by decide +kernel
def fX4_compare_65 : Nat → Int32 → Int32 → Int32 → Int32 → Int32 → Int32 → Wd → Option (Int32 × Wd)
  | 0, _, _, _, _, _, _, _ => none
  | n + 1, x3, x4, x5, x6, x7, x8, w =>
    if (x3 + x4) ≤ x8 then
      some (0, w)
    else
      if 18 < x8 then
        some (0, w)
      else
        (ez_fI w 4 ((w.1 0 4) + x7)).bind fun w4 =>
        (fX4_allAt n x8 w4).bind fun z5 =>
        (ez_ldI z5 8 120 x5).bind fun y8 =>
        if y8 = 2 then
          some (2, z5)
        else
          (ez_ldI z5 8 120 x6).bind fun y11 =>
          if y11 = 2 then
            some (2, z5)
          else
            (ez_ldI z5 8 120 x5).bind fun y14 =>
            if y14 = 0 then
              (ez_ldI z5 8 120 x6).bind fun y17 =>
              if y17 = 0 then
                (fX4_relation n x5 x6 ((1 : Int64) <<< (Int32.toInt64 (x8 - x3) &&& 63)) z5).bind fun z19 =>
                if z19 = 0 then
                  fX4_compare_65 n x3 x4 x5 x6 x7 (x8 + 1) z5
                else
                  some (z19, z5)
              else
                fX4_compare_65 n x3 x4 x5 x6 x7 (x8 + 1) z5
            else
              fX4_compare_65 n x3 x4 x5 x6 x7 (x8 + 1) z5
def fX4_compare (n : Nat) (x1 : Int32) (x2 : Int32) (x3 : Int32) (x4 : Int32) (w : Wd) : Option (Int32 × Wd) :=
    (fX4_isGiven n x1 w).bind fun z1 =>
    if z1 = 0 then
      some ((-1), w)
    else
      (fX4_isGiven n x2 w).bind fun z4 =>
      if z4 = 0 then
        some ((-1), w)
      else
        (fX4_inRange n x3 x4).bind fun z7 =>
        if z7 = 0 then
          some ((-1), w)
        else
          (ez_ldI w 2 8 x1).bind fun y11 =>
          (ez_ldI w 2 8 x2).bind fun y13 =>
          (fX4_spread n (y11 - 1) (y13 - 1) w).bind fun z14 =>
          (ez_fI z14.2 4 0).bind fun w17 =>
          fX4_compare_65 n x3 x4 (y11 - 1) (y13 - 1) z14.1 x3 w17
set_option maxHeartbeats 4000000 in
set_option maxRecDepth 100000 in
theorem tX4_compare_65 {p : Program} {l : Launch} {e : Env} {s : State} {m : MethodId} {args : Array Value} {below : List Frame} {meth : Method} {c : Code} {A : Nat → Prop} {D : va_G} {a : Nat → Nat} {k : Nat → ClassId} {z : Int32 × Wd} (C0 : ez_C p s m args meth c cX4_compare (some .int) 10 RX4 A) (hK : va_K D vwCl (tM k) s) : ∀ (n : Nat) (H : Heap) (locs : List Loc) (ls : Array Slot) (x3 : Int32) (x4 : Int32) (x5 : Int32) (x6 : Int32) (x7 : Int32) (x8 : Int32) (w : Wd), lv_has ls 10 [(0, .ref (a 0)), (3, .int x3), (4, .int x4), (5, .int x5), (6, .int x6), (7, .int x7), (8, .int x8)] → va_P D vwCl (wM a k w) H → va_D A (wM a k w) → va_S A s.heap H locs → fX4_compare_65 n x3 x4 x5 x6 x7 x8 w = some z → W p l e ({ frames := 6, cells := 0, slots := 0, locals := 158 } : Room) s m args below meth c H locs 0 0 (MQ below (ez_Qi D (tM k) A z.1 (wM a k z.2)) args s 0 0 A) (F0 m 65 ls []) := by
  intro n
  induction n with
  | zero =>
    intro H locs ls x3 x4 x5 x6 x7 x8 w hl hP hD hS h
    rw [fX4_compare_65] at h
    cases h
  | succ n ih =>
    intro H locs ls x3 x4 x5 x6 x7 x8 w hl hP hD hS h
    rw [fX4_compare_65] at h
    have C1 := C0
    obtain ⟨hx, hb, hr, hml, hown, hw, hlk, hA, hN⟩ := C1
    refine lv_iload (pc := 65) hx hb dX4_compare_65 (lv_at hl 6 rfl) ?_
    refine lv_iload_n (pc := 67) hx hb dX4_compare_67 rfl (lv_at hl 1 rfl) ?_
    refine lv_iload (pc := 68) hx hb dX4_compare_68 (lv_at hl 2 rfl) ?_
    refine lv_iadd (pc := 70) hx hb dX4_compare_70 ?_
    refine lv_icmp_ge (pc := 71) (tgt := 172) hx hb dX4_compare_71 (by decide) (fun c1 => ?_) (fun c1 => ?_)
    · replace h := ez_it c1 h
      refine lv_iconst (v := 0) (pc := 172) hx hb dX4_compare_172 rfl ?_
      obtain rfl := ez_r1 h
      exact ez_retI C0 hP hD hK hS dX4_compare_173
    · replace h := ez_if c1 h
      refine lv_iload (pc := 74) hx hb dX4_compare_74 (lv_at hl 6 rfl) ?_
      refine lv_bipush (v := 18) (pc := 76) hx hb dX4_compare_76 rfl ?_
      refine lv_icmp_gt (pc := 78) (tgt := 172) hx hb dX4_compare_78 (by decide) (fun c2 => ?_) (fun c2 => ?_)
      · replace h := ez_it c2 h
        refine lv_iconst (v := 0) (pc := 172) hx hb dX4_compare_172 rfl ?_
        obtain rfl := ez_r1 h
        exact ez_retI C0 hP hD hK hS dX4_compare_173
      · replace h := ez_if c2 h
        refine lv_aload_n (pc := 81) hx hb dX4_compare_81 rfl (lv_at hl 0 rfl) ?_
        refine lv_aload_n (pc := 82) hx hb dX4_compare_82 rfl (lv_at hl 0 rfl) ?_
        refine va_get (D := D) (pc := 83) hx hb hw inX4 hown hK hP 0 rfl rfl 15 (by decide) (hw _ mw442) (fun _ h9 => h9) rfl dX4_compare_83 ?_
        refine lv_iload (pc := 86) hx hb dX4_compare_86 (lv_at hl 5 rfl) ?_
        refine lv_iadd (pc := 88) hx hb dX4_compare_88 ?_
        replace h := ez_bd h
        obtain ⟨w4, e3, h⟩ := h
        refine va_put (D := D) (v := .int ((w.1 0 4) + x7)) (ty := .int) (pc := 89) hx hb hw inX4 tyX4 tyX4_ok nmX4 hown hK hP hD hS 0 rfl rfl 15 (by decide) (hw _ mw442) (fun _ h9 => h9) rfl (by decide +kernel) rfl rfl (Nat.le_of_ble_eq_true rfl) dX4_compare_89 (fun H locs hP hD hS => ?_)
        replace hP : va_P D vwCl (wM a k w4) H := by rw [(ez_fIs e3)]; exact hP
        replace hD : va_D A (wM a k w4) := by rw [(ez_fIs e3)]; exact hD
        refine lv_aload_n (pc := 92) hx hb dX4_compare_92 rfl (lv_at hl 0 rfl) ?_
        refine lv_iload (pc := 93) hx hb dX4_compare_93 (lv_at hl 6 rfl) ?_
        replace h := ez_bd h
        obtain ⟨z5, e6, h⟩ := h
        refine ez_callV (pc := 95) (wr := []) (wl := (wM a k w4)) (wl' := (wM a k z5)) (va_runV (g := F0 m 95 ls [.int x8, .ref (a 0)]) (As := [.int x8]) (rest := []) ⟨hx, hb, hml, hown, hw⟩ (kX4_allAt l D a k n x8 w4 z5 e6 H.size) (cwV 1 hw (ez_gV mw582 mw584 mp44 mw4 mw585) rfl rfl rfl (by decide +kernel) ⟨Nat.le_of_ble_eq_true rfl, Nat.le_of_ble_eq_true rfl⟩) (ez_preV (wr := []) (wl := (wM a k w4)) hP hD hK hN 0 rfl rfl) rfl rfl hl.1 rfl (lv_room (Nat.le_of_ble_eq_true rfl)) dX4_compare_95 ⟨Nat.le_refl _, Nat.le_refl _⟩) hP hD hS hA (fun H locs hP hD hS => ?_)
        replace hP : va_P D vwCl (wM a k z5) H := hP
        replace hD : va_D A (wM a k z5) := hD
        refine lv_aload_n (pc := 98) hx hb dX4_compare_98 rfl (lv_at hl 0 rfl) ?_
        refine va_get (D := D) (pc := 99) hx hb hw inX4 hown hK hP 0 rfl rfl 11 (by decide) (hw _ mw438) (fun _ h9 => h9) rfl dX4_compare_99 ?_
        refine lv_iload (pc := 102) hx hb dX4_compare_102 (lv_at hl 3 rfl) ?_
        replace h := ez_bd h
        obtain ⟨y8, e7, h⟩ := h
        obtain ⟨e7i, e7⟩ := ez_ldIs e7
        refine va_iald (D := D) (pc := 104) hx hb hK hP 8 7 rfl rfl e7i dX4_compare_104 ?_
        refine lv_topi (fun y9 hy9 => ?_)
        obtain rfl : y8 = y9 := e7.trans hy9.symm
        refine lv_iconst (v := 2) (pc := 105) hx hb dX4_compare_105 rfl ?_
        refine lv_icmp_eq (pc := 106) (tgt := 120) hx hb dX4_compare_106 (by decide) (fun c9 => ?_) (fun c9 => ?_)
        · replace h := ez_it c9 h
          refine lv_iconst (v := 2) (pc := 120) hx hb dX4_compare_120 rfl ?_
          obtain rfl := ez_r1 h
          exact ez_retI C0 hP hD hK hS dX4_compare_121
        · replace h := ez_if c9 h
          refine lv_aload_n (pc := 109) hx hb dX4_compare_109 rfl (lv_at hl 0 rfl) ?_
          refine va_get (D := D) (pc := 110) hx hb hw inX4 hown hK hP 0 rfl rfl 11 (by decide) (hw _ mw438) (fun _ h9 => h9) rfl dX4_compare_110 ?_
          refine lv_iload (pc := 113) hx hb dX4_compare_113 (lv_at hl 4 rfl) ?_
          replace h := ez_bd h
          obtain ⟨y11, e10, h⟩ := h
          obtain ⟨e10i, e10⟩ := ez_ldIs e10
          refine va_iald (D := D) (pc := 115) hx hb hK hP 8 7 rfl rfl e10i dX4_compare_115 ?_
          refine lv_topi (fun y9 hy9 => ?_)
          obtain rfl : y11 = y9 := e10.trans hy9.symm
          refine lv_iconst (v := 2) (pc := 116) hx hb dX4_compare_116 rfl ?_
          refine lv_icmp_ne (pc := 117) (tgt := 122) hx hb dX4_compare_117 (by decide) (fun c12 => ?_) (fun c12 => ?_)
          · replace h := ez_if c12 h
            refine lv_aload_n (pc := 122) hx hb dX4_compare_122 rfl (lv_at hl 0 rfl) ?_
            refine va_get (D := D) (pc := 123) hx hb hw inX4 hown hK hP 0 rfl rfl 11 (by decide) (hw _ mw438) (fun _ h9 => h9) rfl dX4_compare_123 ?_
            refine lv_iload (pc := 126) hx hb dX4_compare_126 (lv_at hl 3 rfl) ?_
            replace h := ez_bd h
            obtain ⟨y14, e13, h⟩ := h
            obtain ⟨e13i, e13⟩ := ez_ldIs e13
            refine va_iald (D := D) (pc := 128) hx hb hK hP 8 7 rfl rfl e13i dX4_compare_128 ?_
            refine lv_topi (fun y9 hy9 => ?_)
            obtain rfl : y14 = y9 := e13.trans hy9.symm
            refine lv_if_ne (pc := 129) (tgt := 166) hx hb dX4_compare_129 (by decide) (fun c15 => ?_) (fun c15 => ?_)
            · replace h := ez_if c15 h
              refine lv_iinc (v := (x8 + 1)) (k := 6) (pc := 166) hx hb dX4_compare_166 hl rfl rfl (by decide) rfl (fun ls hl => ?_)
              replace hl : lv_has ls 10 [(8, .int (x8 + 1)), (0, .ref (a 0)), (3, .int x3), (4, .int x4), (5, .int x5), (6, .int x6), (7, .int x7)] := hl
              refine lv_goto (pc := 169) (tgt := 65) hx hb dX4_compare_169 (by decide) ?_
              exact ih _ _ _ x3 x4 x5 x6 x7 (x8 + 1) z5 (lv_sub hl [1, 2, 3, 4, 5, 6, 0] rfl) hP hD hS h
            · replace h := ez_it c15 h
              refine lv_aload_n (pc := 132) hx hb dX4_compare_132 rfl (lv_at hl 0 rfl) ?_
              refine va_get (D := D) (pc := 133) hx hb hw inX4 hown hK hP 0 rfl rfl 11 (by decide) (hw _ mw438) (fun _ h9 => h9) rfl dX4_compare_133 ?_
              refine lv_iload (pc := 136) hx hb dX4_compare_136 (lv_at hl 4 rfl) ?_
              replace h := ez_bd h
              obtain ⟨y17, e16, h⟩ := h
              obtain ⟨e16i, e16⟩ := ez_ldIs e16
              refine va_iald (D := D) (pc := 138) hx hb hK hP 8 7 rfl rfl e16i dX4_compare_138 ?_
              refine lv_topi (fun y9 hy9 => ?_)
              obtain rfl : y17 = y9 := e16.trans hy9.symm
              refine lv_if_ne (pc := 139) (tgt := 166) hx hb dX4_compare_139 (by decide) (fun c18 => ?_) (fun c18 => ?_)
              · replace h := ez_if c18 h
                refine lv_iinc (v := (x8 + 1)) (k := 6) (pc := 166) hx hb dX4_compare_166 hl rfl rfl (by decide) rfl (fun ls hl => ?_)
                replace hl : lv_has ls 10 [(8, .int (x8 + 1)), (0, .ref (a 0)), (3, .int x3), (4, .int x4), (5, .int x5), (6, .int x6), (7, .int x7)] := hl
                refine lv_goto (pc := 169) (tgt := 65) hx hb dX4_compare_169 (by decide) ?_
                exact ih _ _ _ x3 x4 x5 x6 x7 (x8 + 1) z5 (lv_sub hl [1, 2, 3, 4, 5, 6, 0] rfl) hP hD hS h
              · replace h := ez_it c18 h
                refine lv_aload_n (pc := 142) hx hb dX4_compare_142 rfl (lv_at hl 0 rfl) ?_
                refine lv_iload (pc := 143) hx hb dX4_compare_143 (lv_at hl 3 rfl) ?_
                refine lv_iload (pc := 145) hx hb dX4_compare_145 (lv_at hl 4 rfl) ?_
                refine lv_lconst (v := 1) (pc := 147) hx hb dX4_compare_147 rfl ?_
                refine lv_iload (pc := 148) hx hb dX4_compare_148 (lv_at hl 6 rfl) ?_
                refine lv_iload_n (pc := 150) hx hb dX4_compare_150 rfl (lv_at hl 1 rfl) ?_
                refine lv_isub (pc := 151) hx hb dX4_compare_151 ?_
                refine lv_lshl (pc := 152) hx hb dX4_compare_152 rfl ?_
                replace h := ez_bd h
                obtain ⟨z19, e20, h⟩ := h
                refine ez_croI (r := z19) (pc := 153) (va_runV (g := F0 m 153 ls [.long ((1 : Int64) <<< (Int32.toInt64 (x8 - x3) &&& 63)), .int x6, .int x5, .ref (a 0)]) (As := [.int x5, .int x6, .long ((1 : Int64) <<< (Int32.toInt64 (x8 - x3) &&& 63))]) (rest := []) ⟨hx, hb, hml, hown, hw⟩ (kX4_relation l D a k n x5 x6 ((1 : Int64) <<< (Int32.toInt64 (x8 - x3) &&& 63)) z5 z19 e20) (cwV 3 hw (ez_gV mw616 mw618 mp48 mw4 mw619) rfl rfl rfl (by decide +kernel) ⟨Nat.le_of_ble_eq_true rfl, Nat.le_of_ble_eq_true rfl⟩) (ez_preRV (wr := []) (wl := (wM a k z5)) hP hK hN 0 rfl rfl) rfl rfl hl.1 rfl (lv_room (Nat.le_of_ble_eq_true rfl)) dX4_compare_153 ⟨Nat.le_refl _, Nat.le_refl _⟩) ?_
                refine lv_istore (pc := 156) hx hb dX4_compare_156 hl (by decide) rfl (fun ls hl => ?_)
                replace hl : lv_has ls 10 [(9, .int z19), (0, .ref (a 0)), (3, .int x3), (4, .int x4), (5, .int x5), (6, .int x6), (7, .int x7), (8, .int x8)] := hl
                refine lv_iload (pc := 158) hx hb dX4_compare_158 (lv_at hl 0 rfl) ?_
                refine lv_if_eq (pc := 160) (tgt := 166) hx hb dX4_compare_160 (by decide) (fun c21 => ?_) (fun c21 => ?_)
                · replace h := ez_it c21 h
                  refine lv_iinc (v := (x8 + 1)) (k := 7) (pc := 166) hx hb dX4_compare_166 hl rfl rfl (by decide) rfl (fun ls hl => ?_)
                  replace hl : lv_has ls 10 [(8, .int (x8 + 1)), (9, .int z19), (0, .ref (a 0)), (3, .int x3), (4, .int x4), (5, .int x5), (6, .int x6), (7, .int x7)] := hl
                  refine lv_goto (pc := 169) (tgt := 65) hx hb dX4_compare_169 (by decide) ?_
                  exact ih _ _ _ x3 x4 x5 x6 x7 (x8 + 1) z5 (lv_sub hl [2, 3, 4, 5, 6, 7, 0] rfl) hP hD hS h
                · replace h := ez_if c21 h
                  refine lv_iload (pc := 163) hx hb dX4_compare_163 (lv_at hl 0 rfl) ?_
                  obtain rfl := ez_r1 h
                  exact ez_retI C0 hP hD hK hS dX4_compare_165
          · replace h := ez_it c12 h
            refine lv_iconst (v := 2) (pc := 120) hx hb dX4_compare_120 rfl ?_
            obtain rfl := ez_r1 h
            exact ez_retI C0 hP hD hK hS dX4_compare_121
set_option maxHeartbeats 4000000 in
set_option maxRecDepth 100000 in
theorem tX4_compare_0 {p : Program} {l : Launch} {e : Env} {s : State} {m : MethodId} {args : Array Value} {below : List Frame} {meth : Method} {c : Code} {A : Nat → Prop} {D : va_G} {a : Nat → Nat} {k : Nat → ClassId} {z : Int32 × Wd} (C0 : ez_C p s m args meth c cX4_compare (some .int) 10 RX4 A) (hK : va_K D vwCl (tM k) s) : ∀ (n : Nat) (H : Heap) (locs : List Loc) (ls : Array Slot) (x1 : Int32) (x2 : Int32) (x3 : Int32) (x4 : Int32) (w : Wd), lv_has ls 10 [(0, .ref (a 0)), (1, .int x1), (2, .int x2), (3, .int x3), (4, .int x4)] → va_P D vwCl (wM a k w) H → va_D A (wM a k w) → va_S A s.heap H locs → fX4_compare n x1 x2 x3 x4 w = some z → W p l e ({ frames := 6, cells := 0, slots := 0, locals := 158 } : Room) s m args below meth c H locs 0 0 (MQ below (ez_Qi D (tM k) A z.1 (wM a k z.2)) args s 0 0 A) (F0 m 0 ls []) := by
  intro n
  intro H locs ls x1 x2 x3 x4 w hl hP hD hS h
  rw [fX4_compare] at h
  have C1 := C0
  obtain ⟨hx, hb, hr, hml, hown, hw, hlk, hA, hN⟩ := C1
  refine lv_aload_n (pc := 0) hx hb dX4_compare_0 rfl (lv_at hl 0 rfl) ?_
  refine lv_iload_n (pc := 1) hx hb dX4_compare_1 rfl (lv_at hl 1 rfl) ?_
  replace h := ez_bd h
  obtain ⟨z1, e2, h⟩ := h
  refine ez_croI (r := z1) (pc := 2) (va_runV (g := F0 m 2 ls [.int x1, .ref (a 0)]) (As := [.int x1]) (rest := []) ⟨hx, hb, hml, hown, hw⟩ (kX4_isGiven l D a k n x1 w z1 e2) (cwV 1 hw (ez_gV mw567 mw569 mp42 mw4 mw570) rfl rfl rfl (by decide +kernel) ⟨Nat.le_of_ble_eq_true rfl, Nat.le_of_ble_eq_true rfl⟩) (ez_preRV (wr := []) (wl := (wM a k w)) hP hK hN 0 rfl rfl) rfl rfl hl.1 rfl (lv_room (Nat.le_of_ble_eq_true rfl)) dX4_compare_2 ⟨Nat.le_refl _, Nat.le_refl _⟩) ?_
  refine lv_if_eq (pc := 5) (tgt := 25) hx hb dX4_compare_5 (by decide) (fun c3 => ?_) (fun c3 => ?_)
  · replace h := ez_it c3 h
    refine lv_iconst (v := (-1)) (pc := 25) hx hb dX4_compare_25 rfl ?_
    obtain rfl := ez_r1 h
    exact ez_retI C0 hP hD hK hS dX4_compare_26
  · replace h := ez_if c3 h
    refine lv_aload_n (pc := 8) hx hb dX4_compare_8 rfl (lv_at hl 0 rfl) ?_
    refine lv_iload_n (pc := 9) hx hb dX4_compare_9 rfl (lv_at hl 2 rfl) ?_
    replace h := ez_bd h
    obtain ⟨z4, e5, h⟩ := h
    refine ez_croI (r := z4) (pc := 10) (va_runV (g := F0 m 10 ls [.int x2, .ref (a 0)]) (As := [.int x2]) (rest := []) ⟨hx, hb, hml, hown, hw⟩ (kX4_isGiven l D a k n x2 w z4 e5) (cwV 1 hw (ez_gV mw567 mw569 mp42 mw4 mw570) rfl rfl rfl (by decide +kernel) ⟨Nat.le_of_ble_eq_true rfl, Nat.le_of_ble_eq_true rfl⟩) (ez_preRV (wr := []) (wl := (wM a k w)) hP hK hN 0 rfl rfl) rfl rfl hl.1 rfl (lv_room (Nat.le_of_ble_eq_true rfl)) dX4_compare_10 ⟨Nat.le_refl _, Nat.le_refl _⟩) ?_
    refine lv_if_eq (pc := 13) (tgt := 25) hx hb dX4_compare_13 (by decide) (fun c6 => ?_) (fun c6 => ?_)
    · replace h := ez_it c6 h
      refine lv_iconst (v := (-1)) (pc := 25) hx hb dX4_compare_25 rfl ?_
      obtain rfl := ez_r1 h
      exact ez_retI C0 hP hD hK hS dX4_compare_26
    · replace h := ez_if c6 h
      refine lv_iload_n (pc := 16) hx hb dX4_compare_16 rfl (lv_at hl 3 rfl) ?_
      refine lv_iload (pc := 17) hx hb dX4_compare_17 (lv_at hl 4 rfl) ?_
      replace h := ez_bd h
      obtain ⟨z7, e8, h⟩ := h
      refine ez_croI (r := z7) (pc := 19) (va_runS (g := F0 m 19 ls [.int x4, .int x3]) (As := [.int x3, .int x4]) (rest := []) ⟨hx, hb, hml, hown, hw⟩ (kX4_inRange l n x3 x4 z7 e8) (va_cwS 2 hw (ez_gS mw579 mw580 mw4 mw581) rfl rfl rfl (by decide +kernel) ⟨Nat.le_of_ble_eq_true rfl, Nat.le_of_ble_eq_true rfl⟩) (ez_preRS hN) rfl rfl hl.1 rfl (lv_room (Nat.le_of_ble_eq_true rfl)) dX4_compare_19 ⟨Nat.le_refl _, Nat.le_refl _⟩) ?_
      refine lv_if_ne (pc := 22) (tgt := 27) hx hb dX4_compare_22 (by decide) (fun c9 => ?_) (fun c9 => ?_)
      · replace h := ez_if c9 h
        refine lv_aload_n (pc := 27) hx hb dX4_compare_27 rfl (lv_at hl 0 rfl) ?_
        refine va_get (D := D) (pc := 28) hx hb hw inX4 hown hK hP 0 rfl rfl 2 (by decide) (hw _ mw429) (fun _ h9 => h9) rfl dX4_compare_28 ?_
        refine lv_iload_n (pc := 31) hx hb dX4_compare_31 rfl (lv_at hl 1 rfl) ?_
        replace h := ez_bd h
        obtain ⟨y11, e10, h⟩ := h
        obtain ⟨e10i, e10⟩ := ez_ldIs e10
        refine va_iald (D := D) (pc := 32) hx hb hK hP 2 1 rfl rfl e10i dX4_compare_32 ?_
        refine lv_topi (fun y9 hy9 => ?_)
        obtain rfl : y11 = y9 := e10.trans hy9.symm
        refine lv_iconst (v := 1) (pc := 33) hx hb dX4_compare_33 rfl ?_
        refine lv_isub (pc := 34) hx hb dX4_compare_34 ?_
        refine lv_istore (pc := 35) hx hb dX4_compare_35 hl (by decide) rfl (fun ls hl => ?_)
        replace hl : lv_has ls 10 [(5, .int (y11 - 1)), (0, .ref (a 0)), (1, .int x1), (2, .int x2), (3, .int x3), (4, .int x4)] := hl
        refine lv_aload_n (pc := 37) hx hb dX4_compare_37 rfl (lv_at hl 1 rfl) ?_
        refine va_get (D := D) (pc := 38) hx hb hw inX4 hown hK hP 0 rfl rfl 2 (by decide) (hw _ mw429) (fun _ h9 => h9) rfl dX4_compare_38 ?_
        refine lv_iload_n (pc := 41) hx hb dX4_compare_41 rfl (lv_at hl 3 rfl) ?_
        replace h := ez_bd h
        obtain ⟨y13, e12, h⟩ := h
        obtain ⟨e12i, e12⟩ := ez_ldIs e12
        refine va_iald (D := D) (pc := 42) hx hb hK hP 2 1 rfl rfl e12i dX4_compare_42 ?_
        refine lv_topi (fun y9 hy9 => ?_)
        obtain rfl : y13 = y9 := e12.trans hy9.symm
        refine lv_iconst (v := 1) (pc := 43) hx hb dX4_compare_43 rfl ?_
        refine lv_isub (pc := 44) hx hb dX4_compare_44 ?_
        refine lv_istore (pc := 45) hx hb dX4_compare_45 hl (by decide) rfl (fun ls hl => ?_)
        replace hl : lv_has ls 10 [(6, .int (y13 - 1)), (5, .int (y11 - 1)), (0, .ref (a 0)), (1, .int x1), (2, .int x2), (3, .int x3), (4, .int x4)] := hl
        refine lv_aload_n (pc := 47) hx hb dX4_compare_47 rfl (lv_at hl 2 rfl) ?_
        refine lv_iload (pc := 48) hx hb dX4_compare_48 (lv_at hl 1 rfl) ?_
        refine lv_iload (pc := 50) hx hb dX4_compare_50 (lv_at hl 0 rfl) ?_
        replace h := ez_bd h
        obtain ⟨z14, e15, h⟩ := h
        refine ez_callI (r := z14.1) (pc := 52) (wr := []) (wl := (wM a k w)) (wl' := (wM a k z14.2)) (va_runV (g := F0 m 52 ls [.int (y13 - 1), .int (y11 - 1), .ref (a 0)]) (As := [.int (y11 - 1), .int (y13 - 1)]) (rest := []) ⟨hx, hb, hml, hown, hw⟩ (kX4_spread l D a k n (y11 - 1) (y13 - 1) w z14 e15 H.size) (cwV 2 hw (ez_gV mw571 mw573 mp43 mw4 mw574) rfl rfl rfl (by decide +kernel) ⟨Nat.le_of_ble_eq_true rfl, Nat.le_of_ble_eq_true rfl⟩) (ez_preV (wr := []) (wl := (wM a k w)) hP hD hK hN 0 rfl rfl) rfl rfl hl.1 rfl (lv_room (Nat.le_of_ble_eq_true rfl)) dX4_compare_52 ⟨Nat.le_refl _, Nat.le_refl _⟩) hP hD hS hA (fun H locs hP hD hS => ?_)
        replace hP : va_P D vwCl (wM a k z14.2) H := hP
        replace hD : va_D A (wM a k z14.2) := hD
        refine lv_istore (pc := 55) hx hb dX4_compare_55 hl (by decide) rfl (fun ls hl => ?_)
        replace hl : lv_has ls 10 [(7, .int z14.1), (6, .int (y13 - 1)), (5, .int (y11 - 1)), (0, .ref (a 0)), (1, .int x1), (2, .int x2), (3, .int x3), (4, .int x4)] := hl
        refine lv_aload_n (pc := 57) hx hb dX4_compare_57 rfl (lv_at hl 3 rfl) ?_
        refine lv_iconst (v := 0) (pc := 58) hx hb dX4_compare_58 rfl ?_
        replace h := ez_bd h
        obtain ⟨w17, e16, h⟩ := h
        refine va_put (D := D) (v := .int 0) (ty := .int) (pc := 59) hx hb hw inX4 tyX4 tyX4_ok nmX4 hown hK hP hD hS 0 rfl rfl 15 (by decide) (hw _ mw442) (fun _ h9 => h9) rfl (by decide +kernel) rfl rfl (Nat.le_of_ble_eq_true rfl) dX4_compare_59 (fun H locs hP hD hS => ?_)
        replace hP : va_P D vwCl (wM a k w17) H := by rw [(ez_fIs e16)]; exact hP
        replace hD : va_D A (wM a k w17) := by rw [(ez_fIs e16)]; exact hD
        refine lv_iload_n (pc := 62) hx hb dX4_compare_62 rfl (lv_at hl 6 rfl) ?_
        refine lv_istore (pc := 63) hx hb dX4_compare_63 hl (by decide) rfl (fun ls hl => ?_)
        replace hl : lv_has ls 10 [(8, .int x3), (7, .int z14.1), (6, .int (y13 - 1)), (5, .int (y11 - 1)), (0, .ref (a 0)), (1, .int x1), (2, .int x2), (3, .int x3), (4, .int x4)] := hl
        exact tX4_compare_65 C0 hK  n _ _ _ x3 x4 (y11 - 1) (y13 - 1) z14.1 x3 w17 (lv_sub hl [4, 7, 8, 3, 2, 1, 0] rfl) hP hD hS h
      · replace h := ez_it c9 h
        refine lv_iconst (v := (-1)) (pc := 25) hx hb dX4_compare_25 rfl ?_
        obtain rfl := ez_r1 h
        exact ez_retI C0 hP hD hK hS dX4_compare_26
set_option maxRecDepth 100000 in
theorem kX4_compare (l : Launch) (D : va_G) (a : Nat → Nat) (k : Nat → ClassId) (n : Nat) (x1 : Int32) (x2 : Int32) (x3 : Int32) (x4 : Int32) (w : Wd) (z : Int32 × Wd) (h : fX4_compare n x1 x2 x3 x4 w = some z) (sz : Nat) : Met l yX4_compare wsX4_compare ({ frames := 6, cells := 0, slots := 0, locals := 158 } : Room) (ez_Pc D (tM k) [.ref (a 0), .int x1, .int x2, .int x3, .int x4] (wM a k w) sz) (ez_Qi D (tM k) (va_A (wM a k w) sz) z.1 (wM a k z.2)) 0 0 (va_A (wM a k w) sz) :=
  ez_mk (Qf := fun A => (ez_Qi D (tM k) A z.1 (wM a k z.2))) (by decide) rfl (Nat.le_of_ble_eq_true rfl) (fun p e s m below meth c A ls C0 _ hl hP hD hK => tX4_compare_0 C0 hK n s.heap [] ls x1 x2 x3 x4 w (lv_sub (l := [(0, .ref (a 0)), (1, .int x1), (2, .int x2), (3, .int x3), (4, .int x4)]) hl [0, 1, 2, 3, 4] rfl) hP hD va_S.rf h) sz
/-! EnclosureCalculatorModel work -/
theorem dX4_work_0 : decode cX4_work 0 = .ok (.aload_n 0, 1) := by decide +kernel
theorem dX4_work_1 : decode cX4_work 1 = .ok (.getfield 110, 3) := by decide +kernel
theorem dX4_work_4 : decode cX4_work 4 = .ok (.ireturn, 1) := by decide +kernel
def fX4_work (n : Nat) (w : Wd) : Option (Int32) :=
    some (w.1 0 4)
set_option maxHeartbeats 4000000 in
set_option maxRecDepth 100000 in
theorem tX4_work_0 {p : Program} {l : Launch} {e : Env} {s : State} {m : MethodId} {args : Array Value} {below : List Frame} {meth : Method} {c : Code} {D : va_G} {a : Nat → Nat} {k : Nat → ClassId} {z : Int32} {w : Wd} (C0 : ez_C p s m args meth c cX4_work (some .int) 1 RX4 (fun _ => True)) (hK : va_K D vwCl (tM k) s) (hP : va_P D vwCl (wM a k w) s.heap) : ∀ (n : Nat) (ls : Array Slot), lv_has ls 1 [(0, .ref (a 0))] → fX4_work n w = some z → W p l e ({ frames := 0, cells := 0, slots := 0, locals := 0 } : Room) s m args below meth c s.heap [] 0 0 (MQ below (ez_Ri z) args s 0 0 (fun _ => False)) (F0 m 0 ls []) := by
  intro n
  intro ls hl h
  rw [fX4_work] at h
  have C1 := C0
  obtain ⟨hx, hb, hr, hml, hown, hw, hlk, hA, hN⟩ := C1
  refine lv_aload_n (pc := 0) hx hb dX4_work_0 rfl (lv_at hl 0 rfl) ?_
  refine va_get (D := D) (pc := 1) hx hb hw inX4 hown hK hP 0 rfl rfl 15 (by decide) (hw _ mw442) (fun _ h9 => h9) rfl dX4_work_1 ?_
  obtain rfl := ez_r1 h
  exact ez_rroI C0 dX4_work_4
set_option maxRecDepth 100000 in
theorem kX4_work (l : Launch) (D : va_G) (a : Nat → Nat) (k : Nat → ClassId) (n : Nat) (w : Wd) (z : Int32) (h : fX4_work n w = some z) : Met l yX4_work wsX4_work ({ frames := 0, cells := 0, slots := 0, locals := 0 } : Room) (ez_Rc D (tM k) [.ref (a 0)] (wM a k w)) (ez_Ri z) 0 0 (fun _ => False) :=
  ez_mkR (by decide) rfl (Nat.le_of_ble_eq_true rfl) (fun p e s m below meth c ls C0 hl hP hK => tX4_work_0 C0 hK hP n ls (lv_sub (l := [(0, .ref (a 0))]) hl [0] rfl) h)
/-! EnclosureCalculatorModel step -/
theorem dX4_step_0 : decode cX4_step 0 = .ok (.aload_n 0, 1) := by decide +kernel
theorem dX4_step_1 : decode cX4_step 1 = .ok (.getfield 113, 3) := by decide +kernel
theorem dX4_step_4 : decode cX4_step 4 = .ok (.ifCond .eq 10, 3) := by decide +kernel
theorem dX4_step_7 : decode cX4_step 7 = .ok (.aload_n 0, 1) := by decide +kernel
theorem dX4_step_8 : decode cX4_step 8 = .ok (.getfield 164, 3) := by decide +kernel
theorem dX4_step_11 : decode cX4_step 11 = .ok (.goto 4, 3) := by decide +kernel
theorem dX4_step_14 : decode cX4_step 14 = .ok (.iconst (-1), 1) := by decide +kernel
theorem dX4_step_15 : decode cX4_step 15 = .ok (.ireturn, 1) := by decide +kernel
def fX4_step (n : Nat) (w : Wd) : Option (Int32) :=
    if (w.1 0 6) = 0 then
      some (-1)
    else
      some (w.1 0 5)
set_option maxHeartbeats 4000000 in
set_option maxRecDepth 100000 in
theorem tX4_step_0 {p : Program} {l : Launch} {e : Env} {s : State} {m : MethodId} {args : Array Value} {below : List Frame} {meth : Method} {c : Code} {D : va_G} {a : Nat → Nat} {k : Nat → ClassId} {z : Int32} {w : Wd} (C0 : ez_C p s m args meth c cX4_step (some .int) 1 RX4 (fun _ => True)) (hK : va_K D vwCl (tM k) s) (hP : va_P D vwCl (wM a k w) s.heap) : ∀ (n : Nat) (ls : Array Slot), lv_has ls 1 [(0, .ref (a 0))] → fX4_step n w = some z → W p l e ({ frames := 0, cells := 0, slots := 0, locals := 0 } : Room) s m args below meth c s.heap [] 0 0 (MQ below (ez_Ri z) args s 0 0 (fun _ => False)) (F0 m 0 ls []) := by
  intro n
  intro ls hl h
  rw [fX4_step] at h
  have C1 := C0
  obtain ⟨hx, hb, hr, hml, hown, hw, hlk, hA, hN⟩ := C1
  refine lv_aload_n (pc := 0) hx hb dX4_step_0 rfl (lv_at hl 0 rfl) ?_
  refine va_get (D := D) (pc := 1) hx hb hw inX4 hown hK hP 0 rfl rfl 17 (by decide) (hw _ mw444) (fun _ h9 => h9) rfl dX4_step_1 ?_
  refine lv_if_eq (pc := 4) (tgt := 14) hx hb dX4_step_4 (by decide) (fun c1 => ?_) (fun c1 => ?_)
  · replace h := ez_it c1 h
    refine lv_iconst (v := (-1)) (pc := 14) hx hb dX4_step_14 rfl ?_
    obtain rfl := ez_r1 h
    exact ez_rroI C0 dX4_step_15
  · replace h := ez_if c1 h
    refine lv_aload_n (pc := 7) hx hb dX4_step_7 rfl (lv_at hl 0 rfl) ?_
    refine va_get (D := D) (pc := 8) hx hb hw inX4 hown hK hP 0 rfl rfl 16 (by decide) (hw _ mw443) (fun _ h9 => h9) rfl dX4_step_8 ?_
    refine lv_goto (pc := 11) (tgt := 15) hx hb dX4_step_11 (by decide) ?_
    obtain rfl := ez_r1 h
    exact ez_rroI C0 dX4_step_15
set_option maxRecDepth 100000 in
theorem kX4_step (l : Launch) (D : va_G) (a : Nat → Nat) (k : Nat → ClassId) (n : Nat) (w : Wd) (z : Int32) (h : fX4_step n w = some z) : Met l yX4_step wsX4_step ({ frames := 0, cells := 0, slots := 0, locals := 0 } : Room) (ez_Rc D (tM k) [.ref (a 0)] (wM a k w)) (ez_Ri z) 0 0 (fun _ => False) :=
  ez_mkR (by decide) rfl (Nat.le_of_ble_eq_true rfl) (fun p e s m below meth c ls C0 hl hP hK => tX4_step_0 C0 hK hP n ls (lv_sub (l := [(0, .ref (a 0))]) hl [0] rfl) h)
/-! EnclosureCalculatorModel low -/
theorem dX4_low_0 : decode cX4_low 0 = .ok (.aload_n 0, 1) := by decide +kernel
theorem dX4_low_1 : decode cX4_low 1 = .ok (.getfield 113, 3) := by decide +kernel
theorem dX4_low_4 : decode cX4_low 4 = .ok (.ifCond .eq 10, 3) := by decide +kernel
theorem dX4_low_7 : decode cX4_low 7 = .ok (.aload_n 0, 1) := by decide +kernel
theorem dX4_low_8 : decode cX4_low 8 = .ok (.getfield 167, 3) := by decide +kernel
theorem dX4_low_11 : decode cX4_low 11 = .ok (.goto 4, 3) := by decide +kernel
theorem dX4_low_14 : decode cX4_low 14 = .ok (.lconst 0, 1) := by decide +kernel
theorem dX4_low_15 : decode cX4_low 15 = .ok (.lreturn, 1) := by decide +kernel
def fX4_low (n : Nat) (w : Wd) : Option (Int64) :=
    if (w.1 0 6) = 0 then
      some 0
    else
      some (w.2 0 0)
set_option maxHeartbeats 4000000 in
set_option maxRecDepth 100000 in
theorem tX4_low_0 {p : Program} {l : Launch} {e : Env} {s : State} {m : MethodId} {args : Array Value} {below : List Frame} {meth : Method} {c : Code} {D : va_G} {a : Nat → Nat} {k : Nat → ClassId} {z : Int64} {w : Wd} (C0 : ez_C p s m args meth c cX4_low (some .long) 1 RX4 (fun _ => True)) (hK : va_K D vwCl (tM k) s) (hP : va_P D vwCl (wM a k w) s.heap) : ∀ (n : Nat) (ls : Array Slot), lv_has ls 1 [(0, .ref (a 0))] → fX4_low n w = some z → W p l e ({ frames := 0, cells := 0, slots := 0, locals := 0 } : Room) s m args below meth c s.heap [] 0 0 (MQ below (ez_Rl z) args s 0 0 (fun _ => False)) (F0 m 0 ls []) := by
  intro n
  intro ls hl h
  rw [fX4_low] at h
  have C1 := C0
  obtain ⟨hx, hb, hr, hml, hown, hw, hlk, hA, hN⟩ := C1
  refine lv_aload_n (pc := 0) hx hb dX4_low_0 rfl (lv_at hl 0 rfl) ?_
  refine va_get (D := D) (pc := 1) hx hb hw inX4 hown hK hP 0 rfl rfl 17 (by decide) (hw _ mw444) (fun _ h9 => h9) rfl dX4_low_1 ?_
  refine lv_if_eq (pc := 4) (tgt := 14) hx hb dX4_low_4 (by decide) (fun c1 => ?_) (fun c1 => ?_)
  · replace h := ez_it c1 h
    refine lv_lconst (v := 0) (pc := 14) hx hb dX4_low_14 rfl ?_
    obtain rfl := ez_r1 h
    exact ez_rroL C0 dX4_low_15
  · replace h := ez_if c1 h
    refine lv_aload_n (pc := 7) hx hb dX4_low_7 rfl (lv_at hl 0 rfl) ?_
    refine va_get (D := D) (pc := 8) hx hb hw inX4 hown hK hP 0 rfl rfl 18 (by decide) (hw _ mw445) (fun _ h9 => h9) rfl dX4_low_8 ?_
    refine lv_goto (pc := 11) (tgt := 15) hx hb dX4_low_11 (by decide) ?_
    obtain rfl := ez_r1 h
    exact ez_rroL C0 dX4_low_15
set_option maxRecDepth 100000 in
theorem kX4_low (l : Launch) (D : va_G) (a : Nat → Nat) (k : Nat → ClassId) (n : Nat) (w : Wd) (z : Int64) (h : fX4_low n w = some z) : Met l yX4_low wsX4_low ({ frames := 0, cells := 0, slots := 0, locals := 0 } : Room) (ez_Rc D (tM k) [.ref (a 0)] (wM a k w)) (ez_Rl z) 0 0 (fun _ => False) :=
  ez_mkR (by decide) rfl (Nat.le_of_ble_eq_true rfl) (fun p e s m below meth c ls C0 hl hP hK => tX4_low_0 C0 hK hP n ls (lv_sub (l := [(0, .ref (a 0))]) hl [0] rfl) h)
/-! EnclosureCalculatorModel high -/
theorem dX4_high_0 : decode cX4_high 0 = .ok (.aload_n 0, 1) := by decide +kernel
theorem dX4_high_1 : decode cX4_high 1 = .ok (.getfield 113, 3) := by decide +kernel
theorem dX4_high_4 : decode cX4_high 4 = .ok (.ifCond .eq 10, 3) := by decide +kernel
theorem dX4_high_7 : decode cX4_high 7 = .ok (.aload_n 0, 1) := by decide +kernel
theorem dX4_high_8 : decode cX4_high 8 = .ok (.getfield 171, 3) := by decide +kernel
theorem dX4_high_11 : decode cX4_high 11 = .ok (.goto 4, 3) := by decide +kernel
theorem dX4_high_14 : decode cX4_high 14 = .ok (.lconst 0, 1) := by decide +kernel
theorem dX4_high_15 : decode cX4_high 15 = .ok (.lreturn, 1) := by decide +kernel
def fX4_high (n : Nat) (w : Wd) : Option (Int64) :=
    if (w.1 0 6) = 0 then
      some 0
    else
      some (w.2 0 1)
set_option maxHeartbeats 4000000 in
set_option maxRecDepth 100000 in
theorem tX4_high_0 {p : Program} {l : Launch} {e : Env} {s : State} {m : MethodId} {args : Array Value} {below : List Frame} {meth : Method} {c : Code} {D : va_G} {a : Nat → Nat} {k : Nat → ClassId} {z : Int64} {w : Wd} (C0 : ez_C p s m args meth c cX4_high (some .long) 1 RX4 (fun _ => True)) (hK : va_K D vwCl (tM k) s) (hP : va_P D vwCl (wM a k w) s.heap) : ∀ (n : Nat) (ls : Array Slot), lv_has ls 1 [(0, .ref (a 0))] → fX4_high n w = some z → W p l e ({ frames := 0, cells := 0, slots := 0, locals := 0 } : Room) s m args below meth c s.heap [] 0 0 (MQ below (ez_Rl z) args s 0 0 (fun _ => False)) (F0 m 0 ls []) := by
  intro n
  intro ls hl h
  rw [fX4_high] at h
  have C1 := C0
  obtain ⟨hx, hb, hr, hml, hown, hw, hlk, hA, hN⟩ := C1
  refine lv_aload_n (pc := 0) hx hb dX4_high_0 rfl (lv_at hl 0 rfl) ?_
  refine va_get (D := D) (pc := 1) hx hb hw inX4 hown hK hP 0 rfl rfl 17 (by decide) (hw _ mw444) (fun _ h9 => h9) rfl dX4_high_1 ?_
  refine lv_if_eq (pc := 4) (tgt := 14) hx hb dX4_high_4 (by decide) (fun c1 => ?_) (fun c1 => ?_)
  · replace h := ez_it c1 h
    refine lv_lconst (v := 0) (pc := 14) hx hb dX4_high_14 rfl ?_
    obtain rfl := ez_r1 h
    exact ez_rroL C0 dX4_high_15
  · replace h := ez_if c1 h
    refine lv_aload_n (pc := 7) hx hb dX4_high_7 rfl (lv_at hl 0 rfl) ?_
    refine va_get (D := D) (pc := 8) hx hb hw inX4 hown hK hP 0 rfl rfl 19 (by decide) (hw _ mw446) (fun _ h9 => h9) rfl dX4_high_8 ?_
    refine lv_goto (pc := 11) (tgt := 15) hx hb dX4_high_11 (by decide) ?_
    obtain rfl := ez_r1 h
    exact ez_rroL C0 dX4_high_15
set_option maxRecDepth 100000 in
theorem kX4_high (l : Launch) (D : va_G) (a : Nat → Nat) (k : Nat → ClassId) (n : Nat) (w : Wd) (z : Int64) (h : fX4_high n w = some z) : Met l yX4_high wsX4_high ({ frames := 0, cells := 0, slots := 0, locals := 0 } : Room) (ez_Rc D (tM k) [.ref (a 0)] (wM a k w)) (ez_Rl z) 0 0 (fun _ => False) :=
  ez_mkR (by decide) rfl (Nat.le_of_ble_eq_true rfl) (fun p e s m below meth c ls C0 hl hP hK => tX4_high_0 C0 hK hP n ls (lv_sub (l := [(0, .ref (a 0))]) hl [0] rfl) h)
/-! EnclosureCalculatorModel decimal -/
theorem dX4_decimal_0 : decode cX4_decimal 0 = .ok (.aload_n 0, 1) := by decide +kernel
theorem dX4_decimal_1 : decode cX4_decimal 1 = .ok (.getfield 113, 3) := by decide +kernel
theorem dX4_decimal_4 : decode cX4_decimal 4 = .ok (.ifCond .eq 13, 3) := by decide +kernel
theorem dX4_decimal_7 : decode cX4_decimal 7 = .ok (.iload_n 1, 1) := by decide +kernel
theorem dX4_decimal_8 : decode cX4_decimal 8 = .ok (.ifCond .lt 9, 3) := by decide +kernel
theorem dX4_decimal_11 : decode cX4_decimal 11 = .ok (.iload_n 1, 1) := by decide +kernel
theorem dX4_decimal_12 : decode cX4_decimal 12 = .ok (.bipush 6, 2) := by decide +kernel
theorem dX4_decimal_14 : decode cX4_decimal 14 = .ok (.if_icmp .le 5, 3) := by decide +kernel
theorem dX4_decimal_17 : decode cX4_decimal 17 = .ok (.lconst 0, 1) := by decide +kernel
theorem dX4_decimal_18 : decode cX4_decimal 18 = .ok (.lreturn, 1) := by decide +kernel
theorem dX4_decimal_19 : decode cX4_decimal 19 = .ok (.lconst 1, 1) := by decide +kernel
theorem dX4_decimal_20 : decode cX4_decimal 20 = .ok (.lstore_n 2, 1) := by decide +kernel
theorem dX4_decimal_21 : decode cX4_decimal 21 = .ok (.iconst 0, 1) := by decide +kernel
theorem dX4_decimal_22 : decode cX4_decimal 22 = .ok (.istore 4, 2) := by decide +kernel
theorem dX4_decimal_24 : decode cX4_decimal 24 = .ok (.iload 4, 2) := by decide +kernel
theorem dX4_decimal_26 : decode cX4_decimal 26 = .ok (.iload_n 1, 1) := by decide +kernel
theorem dX4_decimal_27 : decode cX4_decimal 27 = .ok (.if_icmp .ge 15, 3) := by decide +kernel
theorem dX4_decimal_30 : decode cX4_decimal 30 = .ok (.lload_n 2, 1) := by decide +kernel
theorem dX4_decimal_31 : decode cX4_decimal 31 = .ok (.ldc2_w 178, 3) := by decide +kernel
theorem dX4_decimal_34 : decode cX4_decimal 34 = .ok (.lmul, 1) := by decide +kernel
theorem dX4_decimal_35 : decode cX4_decimal 35 = .ok (.lstore_n 2, 1) := by decide +kernel
theorem dX4_decimal_36 : decode cX4_decimal 36 = .ok (.iinc 4 1, 3) := by decide +kernel
theorem dX4_decimal_39 : decode cX4_decimal 39 = .ok (.goto (-15), 3) := by decide +kernel
theorem dX4_decimal_42 : decode cX4_decimal 42 = .ok (.aload_n 0, 1) := by decide +kernel
theorem dX4_decimal_43 : decode cX4_decimal 43 = .ok (.getfield 167, 3) := by decide +kernel
theorem dX4_decimal_46 : decode cX4_decimal 46 = .ok (.aload_n 0, 1) := by decide +kernel
theorem dX4_decimal_47 : decode cX4_decimal 47 = .ok (.getfield 171, 3) := by decide +kernel
theorem dX4_decimal_50 : decode cX4_decimal 50 = .ok (.ladd, 1) := by decide +kernel
theorem dX4_decimal_51 : decode cX4_decimal 51 = .ok (.lload_n 2, 1) := by decide +kernel
theorem dX4_decimal_52 : decode cX4_decimal 52 = .ok (.lmul, 1) := by decide +kernel
theorem dX4_decimal_53 : decode cX4_decimal 53 = .ok (.lstore 4, 2) := by decide +kernel
theorem dX4_decimal_55 : decode cX4_decimal 55 = .ok (.lconst 1, 1) := by decide +kernel
theorem dX4_decimal_56 : decode cX4_decimal 56 = .ok (.aload_n 0, 1) := by decide +kernel
theorem dX4_decimal_57 : decode cX4_decimal 57 = .ok (.getfield 164, 3) := by decide +kernel
theorem dX4_decimal_60 : decode cX4_decimal 60 = .ok (.lshl, 1) := by decide +kernel
theorem dX4_decimal_61 : decode cX4_decimal 61 = .ok (.lstore 6, 2) := by decide +kernel
theorem dX4_decimal_63 : decode cX4_decimal 63 = .ok (.lload 4, 2) := by decide +kernel
theorem dX4_decimal_65 : decode cX4_decimal 65 = .ok (.lload 6, 2) := by decide +kernel
theorem dX4_decimal_67 : decode cX4_decimal 67 = .ok (.ladd, 1) := by decide +kernel
theorem dX4_decimal_68 : decode cX4_decimal 68 = .ok (.ldc2_w 180, 3) := by decide +kernel
theorem dX4_decimal_71 : decode cX4_decimal 71 = .ok (.lload 6, 2) := by decide +kernel
theorem dX4_decimal_73 : decode cX4_decimal 73 = .ok (.lmul, 1) := by decide +kernel
theorem dX4_decimal_74 : decode cX4_decimal 74 = .ok (.invokestatic 117, 3) := by decide +kernel
theorem dX4_decimal_77 : decode cX4_decimal 77 = .ok (.lreturn, 1) := by decide +kernel
def fX4_decimal_24 : Nat → Int32 → Int64 → Int32 → Wd → Option (Int64)
  | 0, _, _, _, _ => none
  | n + 1, x1, x2, x4, w =>
    if x1 ≤ x4 then
      (fX4_floorOf n ((((w.2 0 0) + (w.2 0 1)) * x2) + ((1 : Int64) <<< (Int32.toInt64 (w.1 0 5) &&& 63))) (2 * ((1 : Int64) <<< (Int32.toInt64 (w.1 0 5) &&& 63)))).bind fun z2 =>
      some z2
    else
      fX4_decimal_24 n x1 (x2 * 10) (x4 + 1) w
def fX4_decimal (n : Nat) (x1 : Int32) (w : Wd) : Option (Int64) :=
    if (w.1 0 6) = 0 then
      some 0
    else
      if x1 < 0 then
        some 0
      else
        if x1 ≤ 6 then
          fX4_decimal_24 n x1 1 0 w
        else
          some 0
set_option maxHeartbeats 4000000 in
set_option maxRecDepth 100000 in
theorem tX4_decimal_24 {p : Program} {l : Launch} {e : Env} {s : State} {m : MethodId} {args : Array Value} {below : List Frame} {meth : Method} {c : Code} {D : va_G} {a : Nat → Nat} {k : Nat → ClassId} {z : Int64} {w : Wd} (C0 : ez_C p s m args meth c cX4_decimal (some .long) 8 RX4 (fun _ => True)) (hK : va_K D vwCl (tM k) s) (hP : va_P D vwCl (wM a k w) s.heap) : ∀ (n : Nat) (ls : Array Slot) (x1 : Int32) (x2 : Int64) (x4 : Int32), lv_has ls 8 [(0, .ref (a 0)), (1, .int x1), (2, .long x2), (4, .int x4)] → fX4_decimal_24 n x1 x2 x4 w = some z → W p l e ({ frames := 1, cells := 0, slots := 0, locals := 26 } : Room) s m args below meth c s.heap [] 0 0 (MQ below (ez_Rl z) args s 0 0 (fun _ => False)) (F0 m 24 ls []) := by
  intro n
  induction n with
  | zero =>
    intro ls x1 x2 x4 hl h
    rw [fX4_decimal_24] at h
    cases h
  | succ n ih =>
    intro ls x1 x2 x4 hl h
    rw [fX4_decimal_24] at h
    have C1 := C0
    obtain ⟨hx, hb, hr, hml, hown, hw, hlk, hA, hN⟩ := C1
    refine lv_iload (pc := 24) hx hb dX4_decimal_24 (lv_at hl 3 rfl) ?_
    refine lv_iload_n (pc := 26) hx hb dX4_decimal_26 rfl (lv_at hl 1 rfl) ?_
    refine lv_icmp_ge (pc := 27) (tgt := 42) hx hb dX4_decimal_27 (by decide) (fun c1 => ?_) (fun c1 => ?_)
    · replace h := ez_it c1 h
      refine lv_aload_n (pc := 42) hx hb dX4_decimal_42 rfl (lv_at hl 0 rfl) ?_
      refine va_get (D := D) (pc := 43) hx hb hw inX4 hown hK hP 0 rfl rfl 18 (by decide) (hw _ mw445) (fun _ h9 => h9) rfl dX4_decimal_43 ?_
      refine lv_aload_n (pc := 46) hx hb dX4_decimal_46 rfl (lv_at hl 0 rfl) ?_
      refine va_get (D := D) (pc := 47) hx hb hw inX4 hown hK hP 0 rfl rfl 19 (by decide) (hw _ mw446) (fun _ h9 => h9) rfl dX4_decimal_47 ?_
      refine lv_ladd (pc := 50) hx hb dX4_decimal_50 ?_
      refine lv_lload_n (pc := 51) hx hb dX4_decimal_51 rfl (lv_at hl 2 rfl) ?_
      refine lv_lmul (pc := 52) hx hb dX4_decimal_52 ?_
      refine lv_lstore (pc := 53) hx hb dX4_decimal_53 hl (by decide) rfl (fun ls hl => ?_)
      replace hl : lv_has ls 8 [(4, .long (((w.2 0 0) + (w.2 0 1)) * x2)), (0, .ref (a 0)), (1, .int x1), (2, .long x2)] := hl
      refine lv_lconst (v := 1) (pc := 55) hx hb dX4_decimal_55 rfl ?_
      refine lv_aload_n (pc := 56) hx hb dX4_decimal_56 rfl (lv_at hl 1 rfl) ?_
      refine va_get (D := D) (pc := 57) hx hb hw inX4 hown hK hP 0 rfl rfl 16 (by decide) (hw _ mw443) (fun _ h9 => h9) rfl dX4_decimal_57 ?_
      refine lv_lshl (pc := 60) hx hb dX4_decimal_60 rfl ?_
      refine lv_lstore (pc := 61) hx hb dX4_decimal_61 hl (by decide) rfl (fun ls hl => ?_)
      replace hl : lv_has ls 8 [(6, .long ((1 : Int64) <<< (Int32.toInt64 (w.1 0 5) &&& 63))), (4, .long (((w.2 0 0) + (w.2 0 1)) * x2)), (0, .ref (a 0)), (1, .int x1), (2, .long x2)] := hl
      refine lv_lload (pc := 63) hx hb dX4_decimal_63 (lv_at hl 1 rfl) ?_
      refine lv_lload (pc := 65) hx hb dX4_decimal_65 (lv_at hl 0 rfl) ?_
      refine lv_ladd (pc := 67) hx hb dX4_decimal_67 ?_
      refine lv_ldc2 (v := 2) (pc := 68) hx hb hown (hw _ mw641) dX4_decimal_68 ?_
      refine lv_lload (pc := 71) hx hb dX4_decimal_71 (lv_at hl 0 rfl) ?_
      refine lv_lmul (pc := 73) hx hb dX4_decimal_73 ?_
      replace h := ez_bd h
      obtain ⟨z2, e3, h⟩ := h
      refine ez_croL (r := z2) (pc := 74) (va_runS (g := F0 m 74 ls [.long (2 * ((1 : Int64) <<< (Int32.toInt64 (w.1 0 5) &&& 63))), .long ((((w.2 0 0) + (w.2 0 1)) * x2) + ((1 : Int64) <<< (Int32.toInt64 (w.1 0 5) &&& 63)))]) (As := [.long ((((w.2 0 0) + (w.2 0 1)) * x2) + ((1 : Int64) <<< (Int32.toInt64 (w.1 0 5) &&& 63))), .long (2 * ((1 : Int64) <<< (Int32.toInt64 (w.1 0 5) &&& 63)))]) (rest := []) ⟨hx, hb, hml, hown, hw⟩ (kX4_floorOf l n ((((w.2 0 0) + (w.2 0 1)) * x2) + ((1 : Int64) <<< (Int32.toInt64 (w.1 0 5) &&& 63))) (2 * ((1 : Int64) <<< (Int32.toInt64 (w.1 0 5) &&& 63))) z2 e3) (va_cwS 2 hw (ez_gS mw600 mw601 mw4 mw602) rfl rfl rfl (by decide +kernel) ⟨Nat.le_of_ble_eq_true rfl, Nat.le_of_ble_eq_true rfl⟩) (ez_preRS hN) rfl rfl hl.1 rfl (lv_room (Nat.le_of_ble_eq_true rfl)) dX4_decimal_74 ⟨Nat.le_refl _, Nat.le_refl _⟩) ?_
      obtain rfl := ez_r1 h
      exact ez_rroL C0 dX4_decimal_77
    · replace h := ez_if c1 h
      refine lv_lload_n (pc := 30) hx hb dX4_decimal_30 rfl (lv_at hl 2 rfl) ?_
      refine lv_ldc2 (v := 10) (pc := 31) hx hb hown (hw _ mw640) dX4_decimal_31 ?_
      refine lv_lmul (pc := 34) hx hb dX4_decimal_34 ?_
      refine lv_lstore_n (pc := 35) hx hb dX4_decimal_35 rfl hl (by decide) rfl (fun ls hl => ?_)
      replace hl : lv_has ls 8 [(2, .long (x2 * 10)), (0, .ref (a 0)), (1, .int x1), (4, .int x4)] := hl
      refine lv_iinc (v := (x4 + 1)) (k := 3) (pc := 36) hx hb dX4_decimal_36 hl rfl rfl (by decide) rfl (fun ls hl => ?_)
      replace hl : lv_has ls 8 [(4, .int (x4 + 1)), (2, .long (x2 * 10)), (0, .ref (a 0)), (1, .int x1)] := hl
      refine lv_goto (pc := 39) (tgt := 24) hx hb dX4_decimal_39 (by decide) ?_
      exact ih _ x1 (x2 * 10) (x4 + 1) (lv_sub hl [2, 3, 1, 0] rfl) h
set_option maxHeartbeats 4000000 in
set_option maxRecDepth 100000 in
theorem tX4_decimal_0 {p : Program} {l : Launch} {e : Env} {s : State} {m : MethodId} {args : Array Value} {below : List Frame} {meth : Method} {c : Code} {D : va_G} {a : Nat → Nat} {k : Nat → ClassId} {z : Int64} {w : Wd} (C0 : ez_C p s m args meth c cX4_decimal (some .long) 8 RX4 (fun _ => True)) (hK : va_K D vwCl (tM k) s) (hP : va_P D vwCl (wM a k w) s.heap) : ∀ (n : Nat) (ls : Array Slot) (x1 : Int32), lv_has ls 8 [(0, .ref (a 0)), (1, .int x1)] → fX4_decimal n x1 w = some z → W p l e ({ frames := 1, cells := 0, slots := 0, locals := 26 } : Room) s m args below meth c s.heap [] 0 0 (MQ below (ez_Rl z) args s 0 0 (fun _ => False)) (F0 m 0 ls []) := by
  intro n
  intro ls x1 hl h
  rw [fX4_decimal] at h
  have C1 := C0
  obtain ⟨hx, hb, hr, hml, hown, hw, hlk, hA, hN⟩ := C1
  refine lv_aload_n (pc := 0) hx hb dX4_decimal_0 rfl (lv_at hl 0 rfl) ?_
  refine va_get (D := D) (pc := 1) hx hb hw inX4 hown hK hP 0 rfl rfl 17 (by decide) (hw _ mw444) (fun _ h9 => h9) rfl dX4_decimal_1 ?_
  refine lv_if_eq (pc := 4) (tgt := 17) hx hb dX4_decimal_4 (by decide) (fun c1 => ?_) (fun c1 => ?_)
  · replace h := ez_it c1 h
    refine lv_lconst (v := 0) (pc := 17) hx hb dX4_decimal_17 rfl ?_
    obtain rfl := ez_r1 h
    exact ez_rroL C0 dX4_decimal_18
  · replace h := ez_if c1 h
    refine lv_iload_n (pc := 7) hx hb dX4_decimal_7 rfl (lv_at hl 1 rfl) ?_
    refine lv_if_lt (pc := 8) (tgt := 17) hx hb dX4_decimal_8 (by decide) (fun c2 => ?_) (fun c2 => ?_)
    · replace h := ez_it c2 h
      refine lv_lconst (v := 0) (pc := 17) hx hb dX4_decimal_17 rfl ?_
      obtain rfl := ez_r1 h
      exact ez_rroL C0 dX4_decimal_18
    · replace h := ez_if c2 h
      refine lv_iload_n (pc := 11) hx hb dX4_decimal_11 rfl (lv_at hl 1 rfl) ?_
      refine lv_bipush (v := 6) (pc := 12) hx hb dX4_decimal_12 rfl ?_
      refine lv_icmp_le (pc := 14) (tgt := 19) hx hb dX4_decimal_14 (by decide) (fun c3 => ?_) (fun c3 => ?_)
      · replace h := ez_it c3 h
        refine lv_lconst (v := 1) (pc := 19) hx hb dX4_decimal_19 rfl ?_
        refine lv_lstore_n (pc := 20) hx hb dX4_decimal_20 rfl hl (by decide) rfl (fun ls hl => ?_)
        replace hl : lv_has ls 8 [(2, .long 1), (0, .ref (a 0)), (1, .int x1)] := hl
        refine lv_iconst (v := 0) (pc := 21) hx hb dX4_decimal_21 rfl ?_
        refine lv_istore (pc := 22) hx hb dX4_decimal_22 hl (by decide) rfl (fun ls hl => ?_)
        replace hl : lv_has ls 8 [(4, .int 0), (2, .long 1), (0, .ref (a 0)), (1, .int x1)] := hl
        exact tX4_decimal_24 C0 hK hP  n _ x1 1 0 (lv_sub hl [2, 3, 1, 0] rfl) h
      · replace h := ez_if c3 h
        refine lv_lconst (v := 0) (pc := 17) hx hb dX4_decimal_17 rfl ?_
        obtain rfl := ez_r1 h
        exact ez_rroL C0 dX4_decimal_18
set_option maxRecDepth 100000 in
theorem kX4_decimal (l : Launch) (D : va_G) (a : Nat → Nat) (k : Nat → ClassId) (n : Nat) (x1 : Int32) (w : Wd) (z : Int64) (h : fX4_decimal n x1 w = some z) : Met l yX4_decimal wsX4_decimal ({ frames := 1, cells := 0, slots := 0, locals := 26 } : Room) (ez_Rc D (tM k) [.ref (a 0), .int x1] (wM a k w)) (ez_Rl z) 0 0 (fun _ => False) :=
  ez_mkR (by decide) rfl (Nat.le_of_ble_eq_true rfl) (fun p e s m below meth c ls C0 hl hP hK => tX4_decimal_0 C0 hK hP n ls x1 (lv_sub (l := [(0, .ref (a 0)), (1, .int x1)]) hl [0, 1] rfl) h)
