/-! java/lang/Math min -/
theorem dJ9_minI_0 : decode cJ9_minI 0 = .ok (.iload_n 0, 1) := by decide +kernel
theorem dJ9_minI_1 : decode cJ9_minI 1 = .ok (.iload_n 1, 1) := by decide +kernel
theorem dJ9_minI_2 : decode cJ9_minI 2 = .ok (.if_icmp .gt 7, 3) := by decide +kernel
theorem dJ9_minI_5 : decode cJ9_minI 5 = .ok (.iload_n 0, 1) := by decide +kernel
theorem dJ9_minI_6 : decode cJ9_minI 6 = .ok (.goto 4, 3) := by decide +kernel
theorem dJ9_minI_9 : decode cJ9_minI 9 = .ok (.iload_n 1, 1) := by decide +kernel
theorem dJ9_minI_10 : decode cJ9_minI 10 = .ok (.ireturn, 1) := by decide +kernel
def fJ9_minI (n : Nat) (x0 : Int32) (x1 : Int32) : Option (Int32) :=
    if x1 < x0 then
      some x1
    else
      some x0
set_option maxHeartbeats 4000000 in
set_option maxRecDepth 100000 in
theorem tJ9_minI_0 {p : Program} {l : Launch} {e : Env} {s : State} {m : MethodId} {args : Array Value} {below : List Frame} {meth : Method} {c : Code} {z : Int32} (C0 : ez_C p s m args meth c cJ9_minI (some .int) 2 RJ9 (fun _ => True)) : ∀ (n : Nat) (ls : Array Slot) (x0 : Int32) (x1 : Int32), lv_has ls 2 [(0, .int x0), (1, .int x1)] → fJ9_minI n x0 x1 = some z → W p l e ({ frames := 0, cells := 0, slots := 0, locals := 0 } : Room) s m args below meth c s.heap [] 0 0 (MQ below (ez_Ri z) args s 0 0 (fun _ => False)) (F0 m 0 ls []) := by
  intro n
  intro ls x0 x1 hl h
  rw [fJ9_minI] at h
  have C1 := C0
  obtain ⟨hx, hb, hr, hml, hown, hw, hlk, hA, hN⟩ := C1
  refine lv_iload_n (pc := 0) hx hb dJ9_minI_0 rfl (lv_at hl 0 rfl) ?_
  refine lv_iload_n (pc := 1) hx hb dJ9_minI_1 rfl (lv_at hl 1 rfl) ?_
  refine lv_icmp_gt (pc := 2) (tgt := 9) hx hb dJ9_minI_2 (by decide) (fun c1 => ?_) (fun c1 => ?_)
  · replace h := ez_it c1 h
    refine lv_iload_n (pc := 9) hx hb dJ9_minI_9 rfl (lv_at hl 1 rfl) ?_
    obtain rfl := ez_r1 h
    exact ez_rroI C0 dJ9_minI_10
  · replace h := ez_if c1 h
    refine lv_iload_n (pc := 5) hx hb dJ9_minI_5 rfl (lv_at hl 0 rfl) ?_
    refine lv_goto (pc := 6) (tgt := 10) hx hb dJ9_minI_6 (by decide) ?_
    obtain rfl := ez_r1 h
    exact ez_rroI C0 dJ9_minI_10
set_option maxRecDepth 100000 in
theorem kJ9_minI (l : Launch) (n : Nat) (x0 : Int32) (x1 : Int32) (z : Int32) (h : fJ9_minI n x0 x1 = some z) : Met l yJ9_minI wsJ9_minI ({ frames := 0, cells := 0, slots := 0, locals := 0 } : Room) (ez_Sc [.int x0, .int x1]) (ez_Ri z) 0 0 (fun _ => False) :=
  ez_mkF (by decide +kernel) rfl (Nat.le_of_ble_eq_true rfl) (fun p e s m below meth c ls C0 hl => tJ9_minI_0 C0 n ls x0 x1 (lv_sub (l := [(0, .int x0), (1, .int x1)]) hl [0, 1] rfl) h)
/-! java/lang/Math min -/
theorem dJ9_minL_0 : decode cJ9_minL 0 = .ok (.lload_n 0, 1) := by decide +kernel
theorem dJ9_minL_1 : decode cJ9_minL 1 = .ok (.lload_n 2, 1) := by decide +kernel
theorem dJ9_minL_2 : decode cJ9_minL 2 = .ok (.lcmp, 1) := by decide +kernel
theorem dJ9_minL_3 : decode cJ9_minL 3 = .ok (.ifCond .gt 7, 3) := by decide +kernel
theorem dJ9_minL_6 : decode cJ9_minL 6 = .ok (.lload_n 0, 1) := by decide +kernel
theorem dJ9_minL_7 : decode cJ9_minL 7 = .ok (.goto 4, 3) := by decide +kernel
theorem dJ9_minL_10 : decode cJ9_minL 10 = .ok (.lload_n 2, 1) := by decide +kernel
theorem dJ9_minL_11 : decode cJ9_minL 11 = .ok (.lreturn, 1) := by decide +kernel
def fJ9_minL (n : Nat) (x0 : Int64) (x2 : Int64) : Option (Int64) :=
    if 0 < (lg_cmp x0 x2) then
      some x2
    else
      some x0
set_option maxHeartbeats 4000000 in
set_option maxRecDepth 100000 in
theorem tJ9_minL_0 {p : Program} {l : Launch} {e : Env} {s : State} {m : MethodId} {args : Array Value} {below : List Frame} {meth : Method} {c : Code} {z : Int64} (C0 : ez_C p s m args meth c cJ9_minL (some .long) 4 RJ9 (fun _ => True)) : ∀ (n : Nat) (ls : Array Slot) (x0 : Int64) (x2 : Int64), lv_has ls 4 [(0, .long x0), (2, .long x2)] → fJ9_minL n x0 x2 = some z → W p l e ({ frames := 0, cells := 0, slots := 0, locals := 0 } : Room) s m args below meth c s.heap [] 0 0 (MQ below (ez_Rl z) args s 0 0 (fun _ => False)) (F0 m 0 ls []) := by
  intro n
  intro ls x0 x2 hl h
  rw [fJ9_minL] at h
  have C1 := C0
  obtain ⟨hx, hb, hr, hml, hown, hw, hlk, hA, hN⟩ := C1
  refine lv_lload_n (pc := 0) hx hb dJ9_minL_0 rfl (lv_at hl 0 rfl) ?_
  refine lv_lload_n (pc := 1) hx hb dJ9_minL_1 rfl (lv_at hl 1 rfl) ?_
  refine W.lcmp (pc := 2) hx hb dJ9_minL_2 ?_
  refine lv_if_gt (pc := 3) (tgt := 10) hx hb dJ9_minL_3 (by decide) (fun c1 => ?_) (fun c1 => ?_)
  · replace h := ez_it c1 h
    refine lv_lload_n (pc := 10) hx hb dJ9_minL_10 rfl (lv_at hl 1 rfl) ?_
    obtain rfl := ez_r1 h
    exact ez_rroL C0 dJ9_minL_11
  · replace h := ez_if c1 h
    refine lv_lload_n (pc := 6) hx hb dJ9_minL_6 rfl (lv_at hl 0 rfl) ?_
    refine lv_goto (pc := 7) (tgt := 11) hx hb dJ9_minL_7 (by decide) ?_
    obtain rfl := ez_r1 h
    exact ez_rroL C0 dJ9_minL_11
set_option maxRecDepth 100000 in
theorem kJ9_minL (l : Launch) (n : Nat) (x0 : Int64) (x2 : Int64) (z : Int64) (h : fJ9_minL n x0 x2 = some z) : Met l yJ9_minL wsJ9_minL ({ frames := 0, cells := 0, slots := 0, locals := 0 } : Room) (ez_Sc [.long x0, .long x2]) (ez_Rl z) 0 0 (fun _ => False) :=
  ez_mkF (by decide +kernel) rfl (Nat.le_of_ble_eq_true rfl) (fun p e s m below meth c ls C0 hl => tJ9_minL_0 C0 n ls x0 x2 (lv_sub (l := [(0, .long x0), (2, .long x2)]) hl [0, 1] rfl) h)
/-! java/lang/Math max -/
theorem dJ9_maxL_0 : decode cJ9_maxL 0 = .ok (.lload_n 0, 1) := by decide +kernel
theorem dJ9_maxL_1 : decode cJ9_maxL 1 = .ok (.lload_n 2, 1) := by decide +kernel
theorem dJ9_maxL_2 : decode cJ9_maxL 2 = .ok (.lcmp, 1) := by decide +kernel
theorem dJ9_maxL_3 : decode cJ9_maxL 3 = .ok (.ifCond .lt 7, 3) := by decide +kernel
theorem dJ9_maxL_6 : decode cJ9_maxL 6 = .ok (.lload_n 0, 1) := by decide +kernel
theorem dJ9_maxL_7 : decode cJ9_maxL 7 = .ok (.goto 4, 3) := by decide +kernel
theorem dJ9_maxL_10 : decode cJ9_maxL 10 = .ok (.lload_n 2, 1) := by decide +kernel
theorem dJ9_maxL_11 : decode cJ9_maxL 11 = .ok (.lreturn, 1) := by decide +kernel
def fJ9_maxL (n : Nat) (x0 : Int64) (x2 : Int64) : Option (Int64) :=
    if (lg_cmp x0 x2) < 0 then
      some x2
    else
      some x0
set_option maxHeartbeats 4000000 in
set_option maxRecDepth 100000 in
theorem tJ9_maxL_0 {p : Program} {l : Launch} {e : Env} {s : State} {m : MethodId} {args : Array Value} {below : List Frame} {meth : Method} {c : Code} {z : Int64} (C0 : ez_C p s m args meth c cJ9_maxL (some .long) 4 RJ9 (fun _ => True)) : ∀ (n : Nat) (ls : Array Slot) (x0 : Int64) (x2 : Int64), lv_has ls 4 [(0, .long x0), (2, .long x2)] → fJ9_maxL n x0 x2 = some z → W p l e ({ frames := 0, cells := 0, slots := 0, locals := 0 } : Room) s m args below meth c s.heap [] 0 0 (MQ below (ez_Rl z) args s 0 0 (fun _ => False)) (F0 m 0 ls []) := by
  intro n
  intro ls x0 x2 hl h
  rw [fJ9_maxL] at h
  have C1 := C0
  obtain ⟨hx, hb, hr, hml, hown, hw, hlk, hA, hN⟩ := C1
  refine lv_lload_n (pc := 0) hx hb dJ9_maxL_0 rfl (lv_at hl 0 rfl) ?_
  refine lv_lload_n (pc := 1) hx hb dJ9_maxL_1 rfl (lv_at hl 1 rfl) ?_
  refine W.lcmp (pc := 2) hx hb dJ9_maxL_2 ?_
  refine lv_if_lt (pc := 3) (tgt := 10) hx hb dJ9_maxL_3 (by decide) (fun c1 => ?_) (fun c1 => ?_)
  · replace h := ez_it c1 h
    refine lv_lload_n (pc := 10) hx hb dJ9_maxL_10 rfl (lv_at hl 1 rfl) ?_
    obtain rfl := ez_r1 h
    exact ez_rroL C0 dJ9_maxL_11
  · replace h := ez_if c1 h
    refine lv_lload_n (pc := 6) hx hb dJ9_maxL_6 rfl (lv_at hl 0 rfl) ?_
    refine lv_goto (pc := 7) (tgt := 11) hx hb dJ9_maxL_7 (by decide) ?_
    obtain rfl := ez_r1 h
    exact ez_rroL C0 dJ9_maxL_11
set_option maxRecDepth 100000 in
theorem kJ9_maxL (l : Launch) (n : Nat) (x0 : Int64) (x2 : Int64) (z : Int64) (h : fJ9_maxL n x0 x2 = some z) : Met l yJ9_maxL wsJ9_maxL ({ frames := 0, cells := 0, slots := 0, locals := 0 } : Room) (ez_Sc [.long x0, .long x2]) (ez_Rl z) 0 0 (fun _ => False) :=
  ez_mkF (by decide +kernel) rfl (Nat.le_of_ble_eq_true rfl) (fun p e s m below meth c ls C0 hl => tJ9_maxL_0 C0 n ls x0 x2 (lv_sub (l := [(0, .long x0), (2, .long x2)]) hl [0, 1] rfl) h)
/-! java/lang/Math floorDiv -/
theorem dJ9_floorDiv_0 : decode cJ9_floorDiv 0 = .ok (.lload_n 0, 1) := by decide +kernel
theorem dJ9_floorDiv_1 : decode cJ9_floorDiv 1 = .ok (.lload_n 2, 1) := by decide +kernel
theorem dJ9_floorDiv_2 : decode cJ9_floorDiv 2 = .ok (.ldiv, 1) := by decide +kernel
theorem dJ9_floorDiv_3 : decode cJ9_floorDiv 3 = .ok (.lstore 4, 2) := by decide +kernel
theorem dJ9_floorDiv_5 : decode cJ9_floorDiv 5 = .ok (.lload_n 0, 1) := by decide +kernel
theorem dJ9_floorDiv_6 : decode cJ9_floorDiv 6 = .ok (.lload_n 2, 1) := by decide +kernel
theorem dJ9_floorDiv_7 : decode cJ9_floorDiv 7 = .ok (.lxor, 1) := by decide +kernel
theorem dJ9_floorDiv_8 : decode cJ9_floorDiv 8 = .ok (.lconst 0, 1) := by decide +kernel
theorem dJ9_floorDiv_9 : decode cJ9_floorDiv 9 = .ok (.lcmp, 1) := by decide +kernel
theorem dJ9_floorDiv_10 : decode cJ9_floorDiv 10 = .ok (.ifCond .ge 17, 3) := by decide +kernel
theorem dJ9_floorDiv_13 : decode cJ9_floorDiv 13 = .ok (.lload 4, 2) := by decide +kernel
theorem dJ9_floorDiv_15 : decode cJ9_floorDiv 15 = .ok (.lload_n 2, 1) := by decide +kernel
theorem dJ9_floorDiv_16 : decode cJ9_floorDiv 16 = .ok (.lmul, 1) := by decide +kernel
theorem dJ9_floorDiv_17 : decode cJ9_floorDiv 17 = .ok (.lload_n 0, 1) := by decide +kernel
theorem dJ9_floorDiv_18 : decode cJ9_floorDiv 18 = .ok (.lcmp, 1) := by decide +kernel
theorem dJ9_floorDiv_19 : decode cJ9_floorDiv 19 = .ok (.ifCond .eq 8, 3) := by decide +kernel
theorem dJ9_floorDiv_22 : decode cJ9_floorDiv 22 = .ok (.lload 4, 2) := by decide +kernel
theorem dJ9_floorDiv_24 : decode cJ9_floorDiv 24 = .ok (.lconst 1, 1) := by decide +kernel
theorem dJ9_floorDiv_25 : decode cJ9_floorDiv 25 = .ok (.lsub, 1) := by decide +kernel
theorem dJ9_floorDiv_26 : decode cJ9_floorDiv 26 = .ok (.lreturn, 1) := by decide +kernel
theorem dJ9_floorDiv_27 : decode cJ9_floorDiv 27 = .ok (.lload 4, 2) := by decide +kernel
theorem dJ9_floorDiv_29 : decode cJ9_floorDiv 29 = .ok (.lreturn, 1) := by decide +kernel
def fJ9_floorDiv (n : Nat) (x0 : Int64) (x2 : Int64) : Option (Int64) :=
    (ez_nz x2).bind fun _ =>
    if 0 ≤ (lg_cmp (x0 ^^^ x2) 0) then
      some (x0 / x2)
    else
      if (lg_cmp ((x0 / x2) * x2) x0) = 0 then
        some (x0 / x2)
      else
        some ((x0 / x2) - 1)
set_option maxHeartbeats 4000000 in
set_option maxRecDepth 100000 in
theorem tJ9_floorDiv_0 {p : Program} {l : Launch} {e : Env} {s : State} {m : MethodId} {args : Array Value} {below : List Frame} {meth : Method} {c : Code} {z : Int64} (C0 : ez_C p s m args meth c cJ9_floorDiv (some .long) 6 RJ9 (fun _ => True)) : ∀ (n : Nat) (ls : Array Slot) (x0 : Int64) (x2 : Int64), lv_has ls 6 [(0, .long x0), (2, .long x2)] → fJ9_floorDiv n x0 x2 = some z → W p l e ({ frames := 0, cells := 0, slots := 0, locals := 0 } : Room) s m args below meth c s.heap [] 0 0 (MQ below (ez_Rl z) args s 0 0 (fun _ => False)) (F0 m 0 ls []) := by
  intro n
  intro ls x0 x2 hl h
  rw [fJ9_floorDiv] at h
  have C1 := C0
  obtain ⟨hx, hb, hr, hml, hown, hw, hlk, hA, hN⟩ := C1
  refine lv_lload_n (pc := 0) hx hb dJ9_floorDiv_0 rfl (lv_at hl 0 rfl) ?_
  refine lv_lload_n (pc := 1) hx hb dJ9_floorDiv_1 rfl (lv_at hl 1 rfl) ?_
  replace h := ez_bd h
  obtain ⟨_, e1, h⟩ := h
  refine lv_ldiv (pc := 2) hx hb dJ9_floorDiv_2 (ez_nzs e1) ?_
  refine lv_lstore (pc := 3) hx hb dJ9_floorDiv_3 hl (by decide) rfl (fun ls hl => ?_)
  replace hl : lv_has ls 6 [(4, .long (x0 / x2)), (0, .long x0), (2, .long x2)] := hl
  refine lv_lload_n (pc := 5) hx hb dJ9_floorDiv_5 rfl (lv_at hl 1 rfl) ?_
  refine lv_lload_n (pc := 6) hx hb dJ9_floorDiv_6 rfl (lv_at hl 2 rfl) ?_
  refine lv_lxor (pc := 7) hx hb dJ9_floorDiv_7 ?_
  refine lv_lconst (v := 0) (pc := 8) hx hb dJ9_floorDiv_8 rfl ?_
  refine W.lcmp (pc := 9) hx hb dJ9_floorDiv_9 ?_
  refine lv_if_ge (pc := 10) (tgt := 27) hx hb dJ9_floorDiv_10 (by decide) (fun c2 => ?_) (fun c2 => ?_)
  · replace h := ez_it c2 h
    refine lv_lload (pc := 27) hx hb dJ9_floorDiv_27 (lv_at hl 0 rfl) ?_
    obtain rfl := ez_r1 h
    exact ez_rroL C0 dJ9_floorDiv_29
  · replace h := ez_if c2 h
    refine lv_lload (pc := 13) hx hb dJ9_floorDiv_13 (lv_at hl 0 rfl) ?_
    refine lv_lload_n (pc := 15) hx hb dJ9_floorDiv_15 rfl (lv_at hl 2 rfl) ?_
    refine lv_lmul (pc := 16) hx hb dJ9_floorDiv_16 ?_
    refine lv_lload_n (pc := 17) hx hb dJ9_floorDiv_17 rfl (lv_at hl 1 rfl) ?_
    refine W.lcmp (pc := 18) hx hb dJ9_floorDiv_18 ?_
    refine lv_if_eq (pc := 19) (tgt := 27) hx hb dJ9_floorDiv_19 (by decide) (fun c3 => ?_) (fun c3 => ?_)
    · replace h := ez_it c3 h
      refine lv_lload (pc := 27) hx hb dJ9_floorDiv_27 (lv_at hl 0 rfl) ?_
      obtain rfl := ez_r1 h
      exact ez_rroL C0 dJ9_floorDiv_29
    · replace h := ez_if c3 h
      refine lv_lload (pc := 22) hx hb dJ9_floorDiv_22 (lv_at hl 0 rfl) ?_
      refine lv_lconst (v := 1) (pc := 24) hx hb dJ9_floorDiv_24 rfl ?_
      refine lv_lsub (pc := 25) hx hb dJ9_floorDiv_25 ?_
      obtain rfl := ez_r1 h
      exact ez_rroL C0 dJ9_floorDiv_26
set_option maxRecDepth 100000 in
theorem kJ9_floorDiv (l : Launch) (n : Nat) (x0 : Int64) (x2 : Int64) (z : Int64) (h : fJ9_floorDiv n x0 x2 = some z) : Met l yJ9_floorDiv wsJ9_floorDiv ({ frames := 0, cells := 0, slots := 0, locals := 0 } : Room) (ez_Sc [.long x0, .long x2]) (ez_Rl z) 0 0 (fun _ => False) :=
  ez_mkF (by decide +kernel) rfl (Nat.le_of_ble_eq_true rfl) (fun p e s m below meth c ls C0 hl => tJ9_floorDiv_0 C0 n ls x0 x2 (lv_sub (l := [(0, .long x0), (2, .long x2)]) hl [0, 1] rfl) h)
