/-! EnclosureCalculator$Reader current -/
theorem dX1_current_0 : decode cX1_current 0 = .ok (.aload_n 0, 1) := by decide +kernel
theorem dX1_current_1 : decode cX1_current 1 = .ok (.getfield 27, 3) := by decide +kernel
theorem dX1_current_4 : decode cX1_current 4 = .ok (.aload_n 0, 1) := by decide +kernel
theorem dX1_current_5 : decode cX1_current 5 = .ok (.getfield 15, 3) := by decide +kernel
theorem dX1_current_8 : decode cX1_current 8 = .ok (.if_icmp .ge 27, 3) := by decide +kernel
theorem dX1_current_11 : decode cX1_current 11 = .ok (.aload_n 0, 1) := by decide +kernel
theorem dX1_current_12 : decode cX1_current 12 = .ok (.getfield 27, 3) := by decide +kernel
theorem dX1_current_15 : decode cX1_current 15 = .ok (.aload_n 0, 1) := by decide +kernel
theorem dX1_current_16 : decode cX1_current 16 = .ok (.getfield 9, 3) := by decide +kernel
theorem dX1_current_19 : decode cX1_current 19 = .ok (.arraylength, 1) := by decide +kernel
theorem dX1_current_20 : decode cX1_current 20 = .ok (.if_icmp .ge 15, 3) := by decide +kernel
theorem dX1_current_23 : decode cX1_current 23 = .ok (.aload_n 0, 1) := by decide +kernel
theorem dX1_current_24 : decode cX1_current 24 = .ok (.getfield 9, 3) := by decide +kernel
theorem dX1_current_27 : decode cX1_current 27 = .ok (.aload_n 0, 1) := by decide +kernel
theorem dX1_current_28 : decode cX1_current 28 = .ok (.getfield 27, 3) := by decide +kernel
theorem dX1_current_31 : decode cX1_current 31 = .ok (.caload, 1) := by decide +kernel
theorem dX1_current_32 : decode cX1_current 32 = .ok (.goto 4, 3) := by decide +kernel
theorem dX1_current_35 : decode cX1_current 35 = .ok (.iconst 0, 1) := by decide +kernel
theorem dX1_current_36 : decode cX1_current 36 = .ok (.ireturn, 1) := by decide +kernel
def fX1_current (n : Nat) (w : Wd) (v : Nat → Int32) : Option (Int32) :=
    if (v 0) ≤ (v 1) then
      some 0
    else
      if 20 ≤ (v 1) then
        some 0
      else
        (ez_ldI w 1 20 (v 1)).bind fun y4 =>
        (ez_z .char y4).bind fun _ =>
        some y4
set_option maxHeartbeats 4000000 in
set_option maxRecDepth 100000 in
theorem tX1_current_0 {p : Program} {l : Launch} {e : Env} {s : State} {m : MethodId} {args : Array Value} {below : List Frame} {meth : Method} {c : Code} {D : va_G} {a : Nat → Nat} {k : Nat → ClassId} {b : Nat} {z : Int32} {w : Wd} {v : Nat → Int32} (C0 : ez_C p s m args meth c cX1_current (some .char) 1 RX1 (fun _ => True)) (hK : va_K D vwCl (tC k) s) (hP : va_P D vwCl (wR b a k w v) s.heap) : ∀ (n : Nat) (ls : Array Slot), lv_has ls 1 [(0, .ref b)] → fX1_current n w v = some z → W p l e ({ frames := 0, cells := 0, slots := 0, locals := 0 } : Room) s m args below meth c s.heap [] 0 0 (MQ below (ez_Ri z) args s 0 0 (fun _ => False)) (F0 m 0 ls []) := by
  intro n
  intro ls hl h
  rw [fX1_current] at h
  have C1 := C0
  obtain ⟨hx, hb, hr, hml, hown, hw, hlk, hA, hN⟩ := C1
  refine lv_aload_n (pc := 0) hx hb dX1_current_0 rfl (lv_at hl 0 rfl) ?_
  refine va_get (D := D) (pc := 1) hx hb hw inX1 hown hK hP 0 rfl rfl 4 (by decide) (hw _ mw145) (fun _ h9 => h9) rfl dX1_current_1 ?_
  refine lv_aload_n (pc := 4) hx hb dX1_current_4 rfl (lv_at hl 0 rfl) ?_
  refine va_get (D := D) (pc := 5) hx hb hw inX1 hown hK hP 0 rfl rfl 1 (by decide) (hw _ mw142) (fun _ h9 => h9) rfl dX1_current_5 ?_
  refine lv_icmp_ge (pc := 8) (tgt := 35) hx hb dX1_current_8 (by decide) (fun c1 => ?_) (fun c1 => ?_)
  · replace h := ez_it c1 h
    refine lv_iconst (v := 0) (pc := 35) hx hb dX1_current_35 rfl ?_
    obtain rfl := ez_r1 h
    exact ez_rroZ C0 (rfl) dX1_current_36
  · replace h := ez_if c1 h
    refine lv_aload_n (pc := 11) hx hb dX1_current_11 rfl (lv_at hl 0 rfl) ?_
    refine va_get (D := D) (pc := 12) hx hb hw inX1 hown hK hP 0 rfl rfl 4 (by decide) (hw _ mw145) (fun _ h9 => h9) rfl dX1_current_12 ?_
    refine lv_aload_n (pc := 15) hx hb dX1_current_15 rfl (lv_at hl 0 rfl) ?_
    refine va_get (D := D) (pc := 16) hx hb hw inX1 hown hK hP 0 rfl rfl 0 (by decide) (hw _ mw141) (fun _ h9 => h9) rfl dX1_current_16 ?_
    refine va_alen (D := D) (v := 20) (pc := 19) hx hb hK hP 2 0 rfl rfl rfl dX1_current_19 ?_
    refine lv_icmp_ge (pc := 20) (tgt := 35) hx hb dX1_current_20 (by decide) (fun c2 => ?_) (fun c2 => ?_)
    · replace h := ez_it c2 h
      refine lv_iconst (v := 0) (pc := 35) hx hb dX1_current_35 rfl ?_
      obtain rfl := ez_r1 h
      exact ez_rroZ C0 (rfl) dX1_current_36
    · replace h := ez_if c2 h
      refine lv_aload_n (pc := 23) hx hb dX1_current_23 rfl (lv_at hl 0 rfl) ?_
      refine va_get (D := D) (pc := 24) hx hb hw inX1 hown hK hP 0 rfl rfl 0 (by decide) (hw _ mw141) (fun _ h9 => h9) rfl dX1_current_24 ?_
      refine lv_aload_n (pc := 27) hx hb dX1_current_27 rfl (lv_at hl 0 rfl) ?_
      refine va_get (D := D) (pc := 28) hx hb hw inX1 hown hK hP 0 rfl rfl 4 (by decide) (hw _ mw145) (fun _ h9 => h9) rfl dX1_current_28 ?_
      replace h := ez_bd h
      obtain ⟨y4, e3, h⟩ := h
      obtain ⟨e3i, e3⟩ := ez_ldIs e3
      refine va_cald (D := D) (pc := 31) hx hb hK hP 2 0 rfl rfl e3i dX1_current_31 ?_
      refine lv_topi (fun y9 hy9 => ?_)
      obtain rfl : y4 = y9 := e3.trans hy9.symm
      refine lv_goto (pc := 32) (tgt := 36) hx hb dX1_current_32 (by decide) ?_
      replace h := ez_bd h
      obtain ⟨_, e5, h⟩ := h
      obtain rfl := ez_r1 h
      exact ez_rroZ C0 (ez_narc (ez_zs e5)) dX1_current_36
set_option maxRecDepth 100000 in
theorem kX1_current (l : Launch) (D : va_G) (a : Nat → Nat) (k : Nat → ClassId) (b : Nat) (n : Nat) (w : Wd) (v : Nat → Int32) (z : Int32) (h : fX1_current n w v = some z) : Met l yX1_current wsX1_current ({ frames := 0, cells := 0, slots := 0, locals := 0 } : Room) (ez_Rc D (tC k) [.ref b] (wR b a k w v)) (ez_Ri z) 0 0 (fun _ => False) :=
  ez_mkR (by decide) rfl (Nat.le_of_ble_eq_true rfl) (fun p e s m below meth c ls C0 hl hP hK => tX1_current_0 C0 hK hP n ls (lv_sub (l := [(0, .ref b)]) hl [0] rfl) h)
/-! EnclosureCalculator$Reader readNumber -/
theorem dX1_readNumber_0 : decode cX1_readNumber 0 = .ok (.iconst 0, 1) := by decide +kernel
theorem dX1_readNumber_1 : decode cX1_readNumber 1 = .ok (.istore_n 1, 1) := by decide +kernel
theorem dX1_readNumber_2 : decode cX1_readNumber 2 = .ok (.iconst 0, 1) := by decide +kernel
theorem dX1_readNumber_3 : decode cX1_readNumber 3 = .ok (.istore_n 2, 1) := by decide +kernel
theorem dX1_readNumber_4 : decode cX1_readNumber 4 = .ok (.iload_n 2, 1) := by decide +kernel
theorem dX1_readNumber_5 : decode cX1_readNumber 5 = .ok (.iconst 3, 1) := by decide +kernel
theorem dX1_readNumber_6 : decode cX1_readNumber 6 = .ok (.if_icmp .ge 42, 3) := by decide +kernel
theorem dX1_readNumber_9 : decode cX1_readNumber 9 = .ok (.aload_n 0, 1) := by decide +kernel
theorem dX1_readNumber_10 : decode cX1_readNumber 10 = .ok (.invokevirtual 38, 3) := by decide +kernel
theorem dX1_readNumber_13 : decode cX1_readNumber 13 = .ok (.invokestatic 64, 3) := by decide +kernel
theorem dX1_readNumber_16 : decode cX1_readNumber 16 = .ok (.ifCond .eq 32, 3) := by decide +kernel
theorem dX1_readNumber_19 : decode cX1_readNumber 19 = .ok (.iload_n 1, 1) := by decide +kernel
theorem dX1_readNumber_20 : decode cX1_readNumber 20 = .ok (.bipush 10, 2) := by decide +kernel
theorem dX1_readNumber_22 : decode cX1_readNumber 22 = .ok (.imul, 1) := by decide +kernel
theorem dX1_readNumber_23 : decode cX1_readNumber 23 = .ok (.aload_n 0, 1) := by decide +kernel
theorem dX1_readNumber_24 : decode cX1_readNumber 24 = .ok (.invokevirtual 38, 3) := by decide +kernel
theorem dX1_readNumber_27 : decode cX1_readNumber 27 = .ok (.bipush 48, 2) := by decide +kernel
theorem dX1_readNumber_29 : decode cX1_readNumber 29 = .ok (.isub, 1) := by decide +kernel
theorem dX1_readNumber_30 : decode cX1_readNumber 30 = .ok (.iadd, 1) := by decide +kernel
theorem dX1_readNumber_31 : decode cX1_readNumber 31 = .ok (.istore_n 1, 1) := by decide +kernel
theorem dX1_readNumber_32 : decode cX1_readNumber 32 = .ok (.aload_n 0, 1) := by decide +kernel
theorem dX1_readNumber_33 : decode cX1_readNumber 33 = .ok (.dup, 1) := by decide +kernel
theorem dX1_readNumber_34 : decode cX1_readNumber 34 = .ok (.getfield 27, 3) := by decide +kernel
theorem dX1_readNumber_37 : decode cX1_readNumber 37 = .ok (.iconst 1, 1) := by decide +kernel
theorem dX1_readNumber_38 : decode cX1_readNumber 38 = .ok (.iadd, 1) := by decide +kernel
theorem dX1_readNumber_39 : decode cX1_readNumber 39 = .ok (.putfield 27, 3) := by decide +kernel
theorem dX1_readNumber_42 : decode cX1_readNumber 42 = .ok (.iinc 2 1, 3) := by decide +kernel
theorem dX1_readNumber_45 : decode cX1_readNumber 45 = .ok (.goto (-41), 3) := by decide +kernel
theorem dX1_readNumber_48 : decode cX1_readNumber 48 = .ok (.aload_n 0, 1) := by decide +kernel
theorem dX1_readNumber_49 : decode cX1_readNumber 49 = .ok (.getfield 23, 3) := by decide +kernel
theorem dX1_readNumber_52 : decode cX1_readNumber 52 = .ok (.iload_n 1, 1) := by decide +kernel
theorem dX1_readNumber_53 : decode cX1_readNumber 53 = .ok (.invokevirtual 81, 3) := by decide +kernel
theorem dX1_readNumber_56 : decode cX1_readNumber 56 = .ok (.ireturn, 1) := by decide +kernel
def fX1_readNumber_4 : Nat → Int32 → Int32 → Wd → (Nat → Int32) → Option (Int32 × Wd × (Nat → Int32))
  | 0, _, _, _, _ => none
  | n + 1, x1, x2, w, v =>
    if 3 ≤ x2 then
      (fX0_makeWhole n x1 w).bind fun z2 =>
      some (z2.1, z2.2, v)
    else
      (fX1_current n w v).bind fun z4 =>
      (fX3_isDigit n z4).bind fun z6 =>
      if z6 = 0 then
        (fX0_makeWhole n x1 w).bind fun z9 =>
        some (z9.1, z9.2, v)
      else
        (fX1_current n w v).bind fun z11 =>
        (ez_fV v 1 ((v 1) + 1)).bind fun v14 =>
        fX1_readNumber_4 n ((x1 * 10) + (z11 - 48)) (x2 + 1) w v14
def fX1_readNumber (n : Nat) (w : Wd) (v : Nat → Int32) : Option (Int32 × Wd × (Nat → Int32)) :=
    fX1_readNumber_4 n 0 0 w v
set_option maxHeartbeats 4000000 in
set_option maxRecDepth 100000 in
theorem tX1_readNumber_4 {p : Program} {l : Launch} {e : Env} {s : State} {m : MethodId} {args : Array Value} {below : List Frame} {meth : Method} {c : Code} {A : Nat → Prop} {D : va_G} {a : Nat → Nat} {k : Nat → ClassId} {b : Nat} {z : Int32 × Wd × (Nat → Int32)} (C0 : ez_C p s m args meth c cX1_readNumber (some .int) 3 RX1 A) (hK : va_K D vwCl (tC k) s) : ∀ (n : Nat) (H : Heap) (locs : List Loc) (ls : Array Slot) (x1 : Int32) (x2 : Int32) (w : Wd) (v : Nat → Int32), lv_has ls 3 [(0, .ref b), (1, .int x1), (2, .int x2)] → va_P D vwCl (wR b a k w v) H → va_D A (wR b a k w v) → va_S A s.heap H locs → fX1_readNumber_4 n x1 x2 w v = some z → W p l e ({ frames := 2, cells := 0, slots := 0, locals := 46 } : Room) s m args below meth c H locs 0 0 (MQ below (ez_Qi D (tC k) A z.1 (wR b a k z.2.1 z.2.2)) args s 0 0 A) (F0 m 4 ls []) := by
  intro n
  induction n with
  | zero =>
    intro H locs ls x1 x2 w v hl hP hD hS h
    rw [fX1_readNumber_4] at h
    cases h
  | succ n ih =>
    intro H locs ls x1 x2 w v hl hP hD hS h
    rw [fX1_readNumber_4] at h
    have C1 := C0
    obtain ⟨hx, hb, hr, hml, hown, hw, hlk, hA, hN⟩ := C1
    refine lv_iload_n (pc := 4) hx hb dX1_readNumber_4 rfl (lv_at hl 2 rfl) ?_
    refine lv_iconst (v := 3) (pc := 5) hx hb dX1_readNumber_5 rfl ?_
    refine lv_icmp_ge (pc := 6) (tgt := 48) hx hb dX1_readNumber_6 (by decide) (fun c1 => ?_) (fun c1 => ?_)
    · replace h := ez_it c1 h
      refine lv_aload_n (pc := 48) hx hb dX1_readNumber_48 rfl (lv_at hl 0 rfl) ?_
      refine va_get (D := D) (pc := 49) hx hb hw inX1 hown hK hP 0 rfl rfl 3 (by decide) (hw _ mw144) (fun _ h9 => h9) rfl dX1_readNumber_49 ?_
      refine lv_iload_n (pc := 52) hx hb dX1_readNumber_52 rfl (lv_at hl 1 rfl) ?_
      replace h := ez_bd h
      obtain ⟨z2, e3, h⟩ := h
      refine ez_callI (r := z2.1) (pc := 53) (wr := (rdc b a v)) (wl := (wC a k w)) (wl' := (wC a k z2.2)) (va_runV (g := F0 m 53 ls [.int x1, .ref (a 2)]) (As := [.int x1]) (rest := []) ⟨hx, hb, hml, hown, hw⟩ (kX0_makeWhole l D a k n x1 w z2 e3 H.size) (cwV 1 hw (ez_gV mw185 mw186 mw187 mw2 mw188) rfl rfl rfl (by decide +kernel) ⟨Nat.le_of_ble_eq_true rfl, Nat.le_of_ble_eq_true rfl⟩) (ez_preV (wr := (rdc b a v)) (wl := (wC a k w)) hP hD hK hN 2 rfl rfl) rfl rfl hl.1 rfl (lv_room (Nat.le_of_ble_eq_true rfl)) dX1_readNumber_53 ⟨Nat.le_refl _, Nat.le_refl _⟩) hP hD hS hA (fun H locs hP hD hS => ?_)
      replace hP : va_P D vwCl (wR b a k z2.2 v) H := hP
      replace hD : va_D A (wR b a k z2.2 v) := hD
      obtain rfl := ez_r1 h
      exact ez_retI C0 hP hD hK hS dX1_readNumber_56
    · replace h := ez_if c1 h
      refine lv_aload_n (pc := 9) hx hb dX1_readNumber_9 rfl (lv_at hl 0 rfl) ?_
      replace h := ez_bd h
      obtain ⟨z4, e5, h⟩ := h
      refine ez_croI (r := z4) (pc := 10) (va_runV (g := F0 m 10 ls [.ref b]) (As := []) (rest := []) ⟨hx, hb, hml, hown, hw⟩ (kX1_current l D a k b n w v z4 e5) (cwV 0 hw (ez_gV mw172 mw174 mp4 mw5 mw175) rfl rfl rfl (by decide +kernel) ⟨Nat.le_of_ble_eq_true rfl, Nat.le_of_ble_eq_true rfl⟩) (ez_preRV (wr := []) (wl := (wR b a k w v)) hP hK hN 0 rfl rfl) rfl rfl hl.1 rfl (lv_room (Nat.le_of_ble_eq_true rfl)) dX1_readNumber_10 ⟨Nat.le_refl _, Nat.le_refl _⟩) ?_
      replace h := ez_bd h
      obtain ⟨z6, e7, h⟩ := h
      refine ez_croI (r := z6) (pc := 13) (va_runSN (g := F0 m 13 ls [.int z4]) (As := [.int z4]) (rest := []) ⟨hx, hb, hml, hown, hw⟩ (kX3_isDigit l n z4 z6 e7) ⟨va_cnB 1 hw (ez_gN mw112) rfl rfl rfl (ez_N.n3 hN) (hw _ mw1) (by decide +kernel) ⟨Nat.le_of_ble_eq_true rfl, Nat.le_of_ble_eq_true rfl⟩, hw _ mw111, trivial⟩ (ez_preRS hN) rfl rfl hl.1 rfl (lv_room (Nat.le_of_ble_eq_true rfl)) dX1_readNumber_13 ⟨Nat.le_refl _, Nat.le_refl _⟩) ?_
      refine lv_if_eq (pc := 16) (tgt := 48) hx hb dX1_readNumber_16 (by decide) (fun c8 => ?_) (fun c8 => ?_)
      · replace h := ez_it c8 h
        refine lv_aload_n (pc := 48) hx hb dX1_readNumber_48 rfl (lv_at hl 0 rfl) ?_
        refine va_get (D := D) (pc := 49) hx hb hw inX1 hown hK hP 0 rfl rfl 3 (by decide) (hw _ mw144) (fun _ h9 => h9) rfl dX1_readNumber_49 ?_
        refine lv_iload_n (pc := 52) hx hb dX1_readNumber_52 rfl (lv_at hl 1 rfl) ?_
        replace h := ez_bd h
        obtain ⟨z9, e10, h⟩ := h
        refine ez_callI (r := z9.1) (pc := 53) (wr := (rdc b a v)) (wl := (wC a k w)) (wl' := (wC a k z9.2)) (va_runV (g := F0 m 53 ls [.int x1, .ref (a 2)]) (As := [.int x1]) (rest := []) ⟨hx, hb, hml, hown, hw⟩ (kX0_makeWhole l D a k n x1 w z9 e10 H.size) (cwV 1 hw (ez_gV mw185 mw186 mw187 mw2 mw188) rfl rfl rfl (by decide +kernel) ⟨Nat.le_of_ble_eq_true rfl, Nat.le_of_ble_eq_true rfl⟩) (ez_preV (wr := (rdc b a v)) (wl := (wC a k w)) hP hD hK hN 2 rfl rfl) rfl rfl hl.1 rfl (lv_room (Nat.le_of_ble_eq_true rfl)) dX1_readNumber_53 ⟨Nat.le_refl _, Nat.le_refl _⟩) hP hD hS hA (fun H locs hP hD hS => ?_)
        replace hP : va_P D vwCl (wR b a k z9.2 v) H := hP
        replace hD : va_D A (wR b a k z9.2 v) := hD
        obtain rfl := ez_r1 h
        exact ez_retI C0 hP hD hK hS dX1_readNumber_56
      · replace h := ez_if c8 h
        refine lv_iload_n (pc := 19) hx hb dX1_readNumber_19 rfl (lv_at hl 1 rfl) ?_
        refine lv_bipush (v := 10) (pc := 20) hx hb dX1_readNumber_20 rfl ?_
        refine lv_imul (pc := 22) hx hb dX1_readNumber_22 ?_
        refine lv_aload_n (pc := 23) hx hb dX1_readNumber_23 rfl (lv_at hl 0 rfl) ?_
        replace h := ez_bd h
        obtain ⟨z11, e12, h⟩ := h
        refine ez_croI (r := z11) (pc := 24) (va_runV (g := F0 m 24 ls [.ref b, .int (x1 * 10)]) (As := []) (rest := [.int (x1 * 10)]) ⟨hx, hb, hml, hown, hw⟩ (kX1_current l D a k b n w v z11 e12) (cwV 0 hw (ez_gV mw172 mw174 mp4 mw5 mw175) rfl rfl rfl (by decide +kernel) ⟨Nat.le_of_ble_eq_true rfl, Nat.le_of_ble_eq_true rfl⟩) (ez_preRV (wr := []) (wl := (wR b a k w v)) hP hK hN 0 rfl rfl) rfl rfl hl.1 rfl (lv_room (Nat.le_of_ble_eq_true rfl)) dX1_readNumber_24 ⟨Nat.le_refl _, Nat.le_refl _⟩) ?_
        refine lv_bipush (v := 48) (pc := 27) hx hb dX1_readNumber_27 rfl ?_
        refine lv_isub (pc := 29) hx hb dX1_readNumber_29 ?_
        refine lv_iadd (pc := 30) hx hb dX1_readNumber_30 ?_
        refine lv_istore_n (pc := 31) hx hb dX1_readNumber_31 rfl hl (by decide) rfl (fun ls hl => ?_)
        replace hl : lv_has ls 3 [(1, .int ((x1 * 10) + (z11 - 48))), (0, .ref b), (2, .int x2)] := hl
        refine lv_aload_n (pc := 32) hx hb dX1_readNumber_32 rfl (lv_at hl 1 rfl) ?_
        refine lv_dup (pc := 33) hx hb dX1_readNumber_33 rfl ?_
        refine va_get (D := D) (pc := 34) hx hb hw inX1 hown hK hP 0 rfl rfl 4 (by decide) (hw _ mw145) (fun _ h9 => h9) rfl dX1_readNumber_34 ?_
        refine lv_iconst (v := 1) (pc := 37) hx hb dX1_readNumber_37 rfl ?_
        refine lv_iadd (pc := 38) hx hb dX1_readNumber_38 ?_
        replace h := ez_bd h
        obtain ⟨v14, e13, h⟩ := h
        refine va_put (D := D) (v := .int ((v 1) + 1)) (ty := .int) (pc := 39) hx hb hw inX1 tyX1 tyX1_ok nmX1 hown hK hP hD hS 0 rfl rfl 4 (by decide) (hw _ mw145) (fun _ h9 => h9) rfl (by decide +kernel) rfl rfl (Nat.le_of_ble_eq_true rfl) dX1_readNumber_39 (fun H locs hP hD hS => ?_)
        replace hP : va_P D vwCl (wR b a k w v14) H := by rw [(ez_fVs e13)]; exact hP
        replace hD : va_D A (wR b a k w v14) := by rw [(ez_fVs e13)]; exact hD
        refine lv_iinc (v := (x2 + 1)) (k := 2) (pc := 42) hx hb dX1_readNumber_42 hl rfl rfl (by decide) rfl (fun ls hl => ?_)
        replace hl : lv_has ls 3 [(2, .int (x2 + 1)), (1, .int ((x1 * 10) + (z11 - 48))), (0, .ref b)] := hl
        refine lv_goto (pc := 45) (tgt := 4) hx hb dX1_readNumber_45 (by decide) ?_
        exact ih _ _ _ ((x1 * 10) + (z11 - 48)) (x2 + 1) w v14 (lv_sub hl [2, 1, 0] rfl) hP hD hS h
set_option maxHeartbeats 4000000 in
set_option maxRecDepth 100000 in
theorem tX1_readNumber_0 {p : Program} {l : Launch} {e : Env} {s : State} {m : MethodId} {args : Array Value} {below : List Frame} {meth : Method} {c : Code} {A : Nat → Prop} {D : va_G} {a : Nat → Nat} {k : Nat → ClassId} {b : Nat} {z : Int32 × Wd × (Nat → Int32)} (C0 : ez_C p s m args meth c cX1_readNumber (some .int) 3 RX1 A) (hK : va_K D vwCl (tC k) s) : ∀ (n : Nat) (H : Heap) (locs : List Loc) (ls : Array Slot) (w : Wd) (v : Nat → Int32), lv_has ls 3 [(0, .ref b)] → va_P D vwCl (wR b a k w v) H → va_D A (wR b a k w v) → va_S A s.heap H locs → fX1_readNumber n w v = some z → W p l e ({ frames := 2, cells := 0, slots := 0, locals := 46 } : Room) s m args below meth c H locs 0 0 (MQ below (ez_Qi D (tC k) A z.1 (wR b a k z.2.1 z.2.2)) args s 0 0 A) (F0 m 0 ls []) := by
  intro n
  intro H locs ls w v hl hP hD hS h
  rw [fX1_readNumber] at h
  have C1 := C0
  obtain ⟨hx, hb, hr, hml, hown, hw, hlk, hA, hN⟩ := C1
  refine lv_iconst (v := 0) (pc := 0) hx hb dX1_readNumber_0 rfl ?_
  refine lv_istore_n (pc := 1) hx hb dX1_readNumber_1 rfl hl (by decide) rfl (fun ls hl => ?_)
  replace hl : lv_has ls 3 [(1, .int 0), (0, .ref b)] := hl
  refine lv_iconst (v := 0) (pc := 2) hx hb dX1_readNumber_2 rfl ?_
  refine lv_istore_n (pc := 3) hx hb dX1_readNumber_3 rfl hl (by decide) rfl (fun ls hl => ?_)
  replace hl : lv_has ls 3 [(2, .int 0), (1, .int 0), (0, .ref b)] := hl
  exact tX1_readNumber_4 C0 hK  n _ _ _ 0 0 w v (lv_sub hl [2, 1, 0] rfl) hP hD hS h
set_option maxRecDepth 100000 in
theorem kX1_readNumber (l : Launch) (D : va_G) (a : Nat → Nat) (k : Nat → ClassId) (b : Nat) (n : Nat) (w : Wd) (v : Nat → Int32) (z : Int32 × Wd × (Nat → Int32)) (h : fX1_readNumber n w v = some z) (sz : Nat) : Met l yX1_readNumber wsX1_readNumber ({ frames := 2, cells := 0, slots := 0, locals := 46 } : Room) (ez_Pc D (tC k) [.ref b] (wR b a k w v) sz) (ez_Qi D (tC k) (va_A (wR b a k w v) sz) z.1 (wR b a k z.2.1 z.2.2)) 0 0 (va_A (wR b a k w v) sz) :=
  ez_mk (Qf := fun A => (ez_Qi D (tC k) A z.1 (wR b a k z.2.1 z.2.2))) (by decide) rfl (Nat.le_of_ble_eq_true rfl) (fun p e s m below meth c A ls C0 _ hl hP hD hK => tX1_readNumber_0 C0 hK n s.heap [] ls w v (lv_sub (l := [(0, .ref b)]) hl [0] rfl) hP hD va_S.rf h) sz
/-! EnclosureCalculator$Reader readLetter -/
theorem dX1_readLetter_0 : decode cX1_readLetter 0 = .ok (.aload_n 0, 1) := by decide +kernel
theorem dX1_readLetter_1 : decode cX1_readLetter 1 = .ok (.invokevirtual 38, 3) := by decide +kernel
theorem dX1_readLetter_4 : decode cX1_readLetter 4 = .ok (.bipush 97, 2) := by decide +kernel
theorem dX1_readLetter_6 : decode cX1_readLetter 6 = .ok (.isub, 1) := by decide +kernel
theorem dX1_readLetter_7 : decode cX1_readLetter 7 = .ok (.istore_n 1, 1) := by decide +kernel
theorem dX1_readLetter_8 : decode cX1_readLetter 8 = .ok (.aload_n 0, 1) := by decide +kernel
theorem dX1_readLetter_9 : decode cX1_readLetter 9 = .ok (.dup, 1) := by decide +kernel
theorem dX1_readLetter_10 : decode cX1_readLetter 10 = .ok (.getfield 27, 3) := by decide +kernel
theorem dX1_readLetter_13 : decode cX1_readLetter 13 = .ok (.iconst 1, 1) := by decide +kernel
theorem dX1_readLetter_14 : decode cX1_readLetter 14 = .ok (.iadd, 1) := by decide +kernel
theorem dX1_readLetter_15 : decode cX1_readLetter 15 = .ok (.putfield 27, 3) := by decide +kernel
theorem dX1_readLetter_18 : decode cX1_readLetter 18 = .ok (.iload_n 1, 1) := by decide +kernel
theorem dX1_readLetter_19 : decode cX1_readLetter 19 = .ok (.ifCond .lt 21, 3) := by decide +kernel
theorem dX1_readLetter_22 : decode cX1_readLetter 22 = .ok (.iload_n 1, 1) := by decide +kernel
theorem dX1_readLetter_23 : decode cX1_readLetter 23 = .ok (.aload_n 0, 1) := by decide +kernel
theorem dX1_readLetter_24 : decode cX1_readLetter 24 = .ok (.getfield 19, 3) := by decide +kernel
theorem dX1_readLetter_27 : decode cX1_readLetter 27 = .ok (.arraylength, 1) := by decide +kernel
theorem dX1_readLetter_28 : decode cX1_readLetter 28 = .ok (.if_icmp .ge 12, 3) := by decide +kernel
theorem dX1_readLetter_31 : decode cX1_readLetter 31 = .ok (.aload_n 0, 1) := by decide +kernel
theorem dX1_readLetter_32 : decode cX1_readLetter 32 = .ok (.getfield 19, 3) := by decide +kernel
theorem dX1_readLetter_35 : decode cX1_readLetter 35 = .ok (.iload_n 1, 1) := by decide +kernel
theorem dX1_readLetter_36 : decode cX1_readLetter 36 = .ok (.iaload, 1) := by decide +kernel
theorem dX1_readLetter_37 : decode cX1_readLetter 37 = .ok (.goto 4, 3) := by decide +kernel
theorem dX1_readLetter_40 : decode cX1_readLetter 40 = .ok (.iconst (-1), 1) := by decide +kernel
theorem dX1_readLetter_41 : decode cX1_readLetter 41 = .ok (.istore_n 2, 1) := by decide +kernel
theorem dX1_readLetter_42 : decode cX1_readLetter 42 = .ok (.iload_n 2, 1) := by decide +kernel
theorem dX1_readLetter_43 : decode cX1_readLetter 43 = .ok (.iconst (-1), 1) := by decide +kernel
theorem dX1_readLetter_44 : decode cX1_readLetter 44 = .ok (.if_icmp .eq 5, 3) := by decide +kernel
theorem dX1_readLetter_47 : decode cX1_readLetter 47 = .ok (.iload_n 2, 1) := by decide +kernel
theorem dX1_readLetter_48 : decode cX1_readLetter 48 = .ok (.ireturn, 1) := by decide +kernel
theorem dX1_readLetter_49 : decode cX1_readLetter 49 = .ok (.aload_n 0, 1) := by decide +kernel
theorem dX1_readLetter_50 : decode cX1_readLetter 50 = .ok (.iconst 1, 1) := by decide +kernel
theorem dX1_readLetter_51 : decode cX1_readLetter 51 = .ok (.putfield 30, 3) := by decide +kernel
theorem dX1_readLetter_54 : decode cX1_readLetter 54 = .ok (.iconst 0, 1) := by decide +kernel
theorem dX1_readLetter_55 : decode cX1_readLetter 55 = .ok (.ireturn, 1) := by decide +kernel
def fX1_readLetter (n : Nat) (w : Wd) (v : Nat → Int32) : Option (Int32 × Wd × (Nat → Int32)) :=
    (fX1_current n w v).bind fun z1 =>
    (ez_fV v 1 ((v 1) + 1)).bind fun v4 =>
    if (z1 - 97) < 0 then
      (ez_fV v4 2 1).bind fun v8 =>
      some (0, w, v8)
    else
      if 8 ≤ (z1 - 97) then
        (ez_fV v4 2 1).bind fun v12 =>
        some (0, w, v12)
      else
        (ez_ldI w 3 8 (z1 - 97)).bind fun y14 =>
        if y14 = (-1) then
          (ez_fV v4 2 1).bind fun v17 =>
          some (0, w, v17)
        else
          some (y14, w, v4)
set_option maxHeartbeats 4000000 in
set_option maxRecDepth 100000 in
theorem tX1_readLetter_0 {p : Program} {l : Launch} {e : Env} {s : State} {m : MethodId} {args : Array Value} {below : List Frame} {meth : Method} {c : Code} {A : Nat → Prop} {D : va_G} {a : Nat → Nat} {k : Nat → ClassId} {b : Nat} {z : Int32 × Wd × (Nat → Int32)} (C0 : ez_C p s m args meth c cX1_readLetter (some .int) 3 RX1 A) (hK : va_K D vwCl (tC k) s) : ∀ (n : Nat) (H : Heap) (locs : List Loc) (ls : Array Slot) (w : Wd) (v : Nat → Int32), lv_has ls 3 [(0, .ref b)] → va_P D vwCl (wR b a k w v) H → va_D A (wR b a k w v) → va_S A s.heap H locs → fX1_readLetter n w v = some z → W p l e ({ frames := 1, cells := 0, slots := 0, locals := 20 } : Room) s m args below meth c H locs 0 0 (MQ below (ez_Qi D (tC k) A z.1 (wR b a k z.2.1 z.2.2)) args s 0 0 A) (F0 m 0 ls []) := by
  intro n
  intro H locs ls w v hl hP hD hS h
  rw [fX1_readLetter] at h
  have C1 := C0
  obtain ⟨hx, hb, hr, hml, hown, hw, hlk, hA, hN⟩ := C1
  refine lv_aload_n (pc := 0) hx hb dX1_readLetter_0 rfl (lv_at hl 0 rfl) ?_
  replace h := ez_bd h
  obtain ⟨z1, e2, h⟩ := h
  refine ez_croI (r := z1) (pc := 1) (va_runV (g := F0 m 1 ls [.ref b]) (As := []) (rest := []) ⟨hx, hb, hml, hown, hw⟩ (kX1_current l D a k b n w v z1 e2) (cwV 0 hw (ez_gV mw172 mw174 mp4 mw5 mw175) rfl rfl rfl (by decide +kernel) ⟨Nat.le_of_ble_eq_true rfl, Nat.le_of_ble_eq_true rfl⟩) (ez_preRV (wr := []) (wl := (wR b a k w v)) hP hK hN 0 rfl rfl) rfl rfl hl.1 rfl (lv_room (Nat.le_of_ble_eq_true rfl)) dX1_readLetter_1 ⟨Nat.le_refl _, Nat.le_refl _⟩) ?_
  refine lv_bipush (v := 97) (pc := 4) hx hb dX1_readLetter_4 rfl ?_
  refine lv_isub (pc := 6) hx hb dX1_readLetter_6 ?_
  refine lv_istore_n (pc := 7) hx hb dX1_readLetter_7 rfl hl (by decide) rfl (fun ls hl => ?_)
  replace hl : lv_has ls 3 [(1, .int (z1 - 97)), (0, .ref b)] := hl
  refine lv_aload_n (pc := 8) hx hb dX1_readLetter_8 rfl (lv_at hl 1 rfl) ?_
  refine lv_dup (pc := 9) hx hb dX1_readLetter_9 rfl ?_
  refine va_get (D := D) (pc := 10) hx hb hw inX1 hown hK hP 0 rfl rfl 4 (by decide) (hw _ mw145) (fun _ h9 => h9) rfl dX1_readLetter_10 ?_
  refine lv_iconst (v := 1) (pc := 13) hx hb dX1_readLetter_13 rfl ?_
  refine lv_iadd (pc := 14) hx hb dX1_readLetter_14 ?_
  replace h := ez_bd h
  obtain ⟨v4, e3, h⟩ := h
  refine va_put (D := D) (v := .int ((v 1) + 1)) (ty := .int) (pc := 15) hx hb hw inX1 tyX1 tyX1_ok nmX1 hown hK hP hD hS 0 rfl rfl 4 (by decide) (hw _ mw145) (fun _ h9 => h9) rfl (by decide +kernel) rfl rfl (Nat.le_of_ble_eq_true rfl) dX1_readLetter_15 (fun H locs hP hD hS => ?_)
  replace hP : va_P D vwCl (wR b a k w v4) H := by rw [(ez_fVs e3)]; exact hP
  replace hD : va_D A (wR b a k w v4) := by rw [(ez_fVs e3)]; exact hD
  refine lv_iload_n (pc := 18) hx hb dX1_readLetter_18 rfl (lv_at hl 0 rfl) ?_
  refine lv_if_lt (pc := 19) (tgt := 40) hx hb dX1_readLetter_19 (by decide) (fun c5 => ?_) (fun c5 => ?_)
  · replace h := ez_it c5 h
    refine lv_iconst (v := (-1)) (pc := 40) hx hb dX1_readLetter_40 rfl ?_
    refine lv_istore_n (pc := 41) hx hb dX1_readLetter_41 rfl hl (by decide) rfl (fun ls hl => ?_)
    replace hl : lv_has ls 3 [(2, .int (-1)), (1, .int (z1 - 97)), (0, .ref b)] := hl
    refine lv_iload_n (pc := 42) hx hb dX1_readLetter_42 rfl (lv_at hl 0 rfl) ?_
    refine lv_iconst (v := (-1)) (pc := 43) hx hb dX1_readLetter_43 rfl ?_
    refine lv_icmp_eq (pc := 44) (tgt := 49) hx hb dX1_readLetter_44 (by decide) (fun _ => ?_) (fun c6 => absurd c6 (by decide))
    refine lv_aload_n (pc := 49) hx hb dX1_readLetter_49 rfl (lv_at hl 2 rfl) ?_
    refine lv_iconst (v := 1) (pc := 50) hx hb dX1_readLetter_50 rfl ?_
    replace h := ez_bd h
    obtain ⟨v8, e7, h⟩ := h
    refine va_put (D := D) (v := .int 1) (ty := .boolean) (pc := 51) hx hb hw inX1 tyX1 tyX1_ok nmX1 hown hK hP hD hS 0 rfl rfl 5 (by decide) (hw _ mw146) (fun _ h9 => h9) rfl (by decide +kernel) rfl rfl (Nat.le_of_ble_eq_true rfl) dX1_readLetter_51 (fun H locs hP hD hS => ?_)
    replace hP : va_P D vwCl (wR b a k w v8) H := by rw [(ez_fVs e7)]; exact hP
    replace hD : va_D A (wR b a k w v8) := by rw [(ez_fVs e7)]; exact hD
    refine lv_iconst (v := 0) (pc := 54) hx hb dX1_readLetter_54 rfl ?_
    obtain rfl := ez_r1 h
    exact ez_retI C0 hP hD hK hS dX1_readLetter_55
  · replace h := ez_if c5 h
    refine lv_iload_n (pc := 22) hx hb dX1_readLetter_22 rfl (lv_at hl 0 rfl) ?_
    refine lv_aload_n (pc := 23) hx hb dX1_readLetter_23 rfl (lv_at hl 1 rfl) ?_
    refine va_get (D := D) (pc := 24) hx hb hw inX1 hown hK hP 0 rfl rfl 2 (by decide) (hw _ mw143) (fun _ h9 => h9) rfl dX1_readLetter_24 ?_
    refine va_alen (D := D) (v := 8) (pc := 27) hx hb hK hP 4 1 rfl rfl rfl dX1_readLetter_27 ?_
    refine lv_icmp_ge (pc := 28) (tgt := 40) hx hb dX1_readLetter_28 (by decide) (fun c9 => ?_) (fun c9 => ?_)
    · replace h := ez_it c9 h
      refine lv_iconst (v := (-1)) (pc := 40) hx hb dX1_readLetter_40 rfl ?_
      refine lv_istore_n (pc := 41) hx hb dX1_readLetter_41 rfl hl (by decide) rfl (fun ls hl => ?_)
      replace hl : lv_has ls 3 [(2, .int (-1)), (1, .int (z1 - 97)), (0, .ref b)] := hl
      refine lv_iload_n (pc := 42) hx hb dX1_readLetter_42 rfl (lv_at hl 0 rfl) ?_
      refine lv_iconst (v := (-1)) (pc := 43) hx hb dX1_readLetter_43 rfl ?_
      refine lv_icmp_eq (pc := 44) (tgt := 49) hx hb dX1_readLetter_44 (by decide) (fun _ => ?_) (fun c10 => absurd c10 (by decide))
      refine lv_aload_n (pc := 49) hx hb dX1_readLetter_49 rfl (lv_at hl 2 rfl) ?_
      refine lv_iconst (v := 1) (pc := 50) hx hb dX1_readLetter_50 rfl ?_
      replace h := ez_bd h
      obtain ⟨v12, e11, h⟩ := h
      refine va_put (D := D) (v := .int 1) (ty := .boolean) (pc := 51) hx hb hw inX1 tyX1 tyX1_ok nmX1 hown hK hP hD hS 0 rfl rfl 5 (by decide) (hw _ mw146) (fun _ h9 => h9) rfl (by decide +kernel) rfl rfl (Nat.le_of_ble_eq_true rfl) dX1_readLetter_51 (fun H locs hP hD hS => ?_)
      replace hP : va_P D vwCl (wR b a k w v12) H := by rw [(ez_fVs e11)]; exact hP
      replace hD : va_D A (wR b a k w v12) := by rw [(ez_fVs e11)]; exact hD
      refine lv_iconst (v := 0) (pc := 54) hx hb dX1_readLetter_54 rfl ?_
      obtain rfl := ez_r1 h
      exact ez_retI C0 hP hD hK hS dX1_readLetter_55
    · replace h := ez_if c9 h
      refine lv_aload_n (pc := 31) hx hb dX1_readLetter_31 rfl (lv_at hl 1 rfl) ?_
      refine va_get (D := D) (pc := 32) hx hb hw inX1 hown hK hP 0 rfl rfl 2 (by decide) (hw _ mw143) (fun _ h9 => h9) rfl dX1_readLetter_32 ?_
      refine lv_iload_n (pc := 35) hx hb dX1_readLetter_35 rfl (lv_at hl 0 rfl) ?_
      replace h := ez_bd h
      obtain ⟨y14, e13, h⟩ := h
      obtain ⟨e13i, e13⟩ := ez_ldIs e13
      refine va_iald (D := D) (pc := 36) hx hb hK hP 4 1 rfl rfl e13i dX1_readLetter_36 ?_
      refine lv_topi (fun y9 hy9 => ?_)
      obtain rfl : y14 = y9 := e13.trans hy9.symm
      refine lv_goto (pc := 37) (tgt := 41) hx hb dX1_readLetter_37 (by decide) ?_
      refine lv_istore_n (pc := 41) hx hb dX1_readLetter_41 rfl hl (by decide) rfl (fun ls hl => ?_)
      replace hl : lv_has ls 3 [(2, .int y14), (1, .int (z1 - 97)), (0, .ref b)] := hl
      refine lv_iload_n (pc := 42) hx hb dX1_readLetter_42 rfl (lv_at hl 0 rfl) ?_
      refine lv_iconst (v := (-1)) (pc := 43) hx hb dX1_readLetter_43 rfl ?_
      refine lv_icmp_eq (pc := 44) (tgt := 49) hx hb dX1_readLetter_44 (by decide) (fun c15 => ?_) (fun c15 => ?_)
      · replace h := ez_it c15 h
        refine lv_aload_n (pc := 49) hx hb dX1_readLetter_49 rfl (lv_at hl 2 rfl) ?_
        refine lv_iconst (v := 1) (pc := 50) hx hb dX1_readLetter_50 rfl ?_
        replace h := ez_bd h
        obtain ⟨v17, e16, h⟩ := h
        refine va_put (D := D) (v := .int 1) (ty := .boolean) (pc := 51) hx hb hw inX1 tyX1 tyX1_ok nmX1 hown hK hP hD hS 0 rfl rfl 5 (by decide) (hw _ mw146) (fun _ h9 => h9) rfl (by decide +kernel) rfl rfl (Nat.le_of_ble_eq_true rfl) dX1_readLetter_51 (fun H locs hP hD hS => ?_)
        replace hP : va_P D vwCl (wR b a k w v17) H := by rw [(ez_fVs e16)]; exact hP
        replace hD : va_D A (wR b a k w v17) := by rw [(ez_fVs e16)]; exact hD
        refine lv_iconst (v := 0) (pc := 54) hx hb dX1_readLetter_54 rfl ?_
        obtain rfl := ez_r1 h
        exact ez_retI C0 hP hD hK hS dX1_readLetter_55
      · replace h := ez_if c15 h
        refine lv_iload_n (pc := 47) hx hb dX1_readLetter_47 rfl (lv_at hl 0 rfl) ?_
        obtain rfl := ez_r1 h
        exact ez_retI C0 hP hD hK hS dX1_readLetter_48
set_option maxRecDepth 100000 in
theorem kX1_readLetter (l : Launch) (D : va_G) (a : Nat → Nat) (k : Nat → ClassId) (b : Nat) (n : Nat) (w : Wd) (v : Nat → Int32) (z : Int32 × Wd × (Nat → Int32)) (h : fX1_readLetter n w v = some z) (sz : Nat) : Met l yX1_readLetter wsX1_readLetter ({ frames := 1, cells := 0, slots := 0, locals := 20 } : Room) (ez_Pc D (tC k) [.ref b] (wR b a k w v) sz) (ez_Qi D (tC k) (va_A (wR b a k w v) sz) z.1 (wR b a k z.2.1 z.2.2)) 0 0 (va_A (wR b a k w v) sz) :=
  ez_mk (Qf := fun A => (ez_Qi D (tC k) A z.1 (wR b a k z.2.1 z.2.2))) (by decide) rfl (Nat.le_of_ble_eq_true rfl) (fun p e s m below meth c A ls C0 _ hl hP hD hK => tX1_readLetter_0 C0 hK n s.heap [] ls w v (lv_sub (l := [(0, .ref b)]) hl [0] rfl) hP hD va_S.rf h) sz
/-! EnclosureCalculator$Reader readPower -/
theorem dX1_readPower_0 : decode cX1_readPower 0 = .ok (.aload_n 0, 1) := by decide +kernel
theorem dX1_readPower_1 : decode cX1_readPower 1 = .ok (.invokevirtual 38, 3) := by decide +kernel
theorem dX1_readPower_4 : decode cX1_readPower 4 = .ok (.bipush 48, 2) := by decide +kernel
theorem dX1_readPower_6 : decode cX1_readPower 6 = .ok (.isub, 1) := by decide +kernel
theorem dX1_readPower_7 : decode cX1_readPower 7 = .ok (.istore_n 2, 1) := by decide +kernel
theorem dX1_readPower_8 : decode cX1_readPower 8 = .ok (.iload_n 2, 1) := by decide +kernel
theorem dX1_readPower_9 : decode cX1_readPower 9 = .ok (.iconst 2, 1) := by decide +kernel
theorem dX1_readPower_10 : decode cX1_readPower 10 = .ok (.if_icmp .lt 8, 3) := by decide +kernel
theorem dX1_readPower_13 : decode cX1_readPower 13 = .ok (.iload_n 2, 1) := by decide +kernel
theorem dX1_readPower_14 : decode cX1_readPower 14 = .ok (.iconst 5, 1) := by decide +kernel
theorem dX1_readPower_15 : decode cX1_readPower 15 = .ok (.if_icmp .le 5, 3) := by decide +kernel
theorem dX1_readPower_18 : decode cX1_readPower 18 = .ok (.iconst (-1), 1) := by decide +kernel
theorem dX1_readPower_19 : decode cX1_readPower 19 = .ok (.ireturn, 1) := by decide +kernel
theorem dX1_readPower_20 : decode cX1_readPower 20 = .ok (.aload_n 0, 1) := by decide +kernel
theorem dX1_readPower_21 : decode cX1_readPower 21 = .ok (.dup, 1) := by decide +kernel
theorem dX1_readPower_22 : decode cX1_readPower 22 = .ok (.getfield 27, 3) := by decide +kernel
theorem dX1_readPower_25 : decode cX1_readPower 25 = .ok (.iconst 1, 1) := by decide +kernel
theorem dX1_readPower_26 : decode cX1_readPower 26 = .ok (.iadd, 1) := by decide +kernel
theorem dX1_readPower_27 : decode cX1_readPower 27 = .ok (.putfield 27, 3) := by decide +kernel
theorem dX1_readPower_30 : decode cX1_readPower 30 = .ok (.aload_n 0, 1) := by decide +kernel
theorem dX1_readPower_31 : decode cX1_readPower 31 = .ok (.getfield 23, 3) := by decide +kernel
theorem dX1_readPower_34 : decode cX1_readPower 34 = .ok (.bipush 6, 2) := by decide +kernel
theorem dX1_readPower_36 : decode cX1_readPower 36 = .ok (.iload_n 1, 1) := by decide +kernel
theorem dX1_readPower_37 : decode cX1_readPower 37 = .ok (.invokevirtual 60, 3) := by decide +kernel
theorem dX1_readPower_40 : decode cX1_readPower 40 = .ok (.istore_n 3, 1) := by decide +kernel
theorem dX1_readPower_41 : decode cX1_readPower 41 = .ok (.iload_n 2, 1) := by decide +kernel
theorem dX1_readPower_42 : decode cX1_readPower 42 = .ok (.iconst 4, 1) := by decide +kernel
theorem dX1_readPower_43 : decode cX1_readPower 43 = .ok (.if_icmp .lt 14, 3) := by decide +kernel
theorem dX1_readPower_46 : decode cX1_readPower 46 = .ok (.aload_n 0, 1) := by decide +kernel
theorem dX1_readPower_47 : decode cX1_readPower 47 = .ok (.getfield 23, 3) := by decide +kernel
theorem dX1_readPower_50 : decode cX1_readPower 50 = .ok (.bipush 6, 2) := by decide +kernel
theorem dX1_readPower_52 : decode cX1_readPower 52 = .ok (.iload_n 3, 1) := by decide +kernel
theorem dX1_readPower_53 : decode cX1_readPower 53 = .ok (.invokevirtual 60, 3) := by decide +kernel
theorem dX1_readPower_56 : decode cX1_readPower 56 = .ok (.istore_n 3, 1) := by decide +kernel
theorem dX1_readPower_57 : decode cX1_readPower 57 = .ok (.iload_n 2, 1) := by decide +kernel
theorem dX1_readPower_58 : decode cX1_readPower 58 = .ok (.iconst 2, 1) := by decide +kernel
theorem dX1_readPower_59 : decode cX1_readPower 59 = .ok (.irem, 1) := by decide +kernel
theorem dX1_readPower_60 : decode cX1_readPower 60 = .ok (.iconst 1, 1) := by decide +kernel
theorem dX1_readPower_61 : decode cX1_readPower 61 = .ok (.if_icmp .ne 7, 3) := by decide +kernel
theorem dX1_readPower_64 : decode cX1_readPower 64 = .ok (.iconst 1, 1) := by decide +kernel
theorem dX1_readPower_65 : decode cX1_readPower 65 = .ok (.goto 4, 3) := by decide +kernel
theorem dX1_readPower_68 : decode cX1_readPower 68 = .ok (.iconst 0, 1) := by decide +kernel
theorem dX1_readPower_69 : decode cX1_readPower 69 = .ok (.istore 4, 2) := by decide +kernel
theorem dX1_readPower_71 : decode cX1_readPower 71 = .ok (.iload 4, 2) := by decide +kernel
theorem dX1_readPower_73 : decode cX1_readPower 73 = .ok (.ifCond .eq 16, 3) := by decide +kernel
theorem dX1_readPower_76 : decode cX1_readPower 76 = .ok (.aload_n 0, 1) := by decide +kernel
theorem dX1_readPower_77 : decode cX1_readPower 77 = .ok (.getfield 23, 3) := by decide +kernel
theorem dX1_readPower_80 : decode cX1_readPower 80 = .ok (.iconst 4, 1) := by decide +kernel
theorem dX1_readPower_81 : decode cX1_readPower 81 = .ok (.iload_n 3, 1) := by decide +kernel
theorem dX1_readPower_82 : decode cX1_readPower 82 = .ok (.iload_n 1, 1) := by decide +kernel
theorem dX1_readPower_83 : decode cX1_readPower 83 = .ok (.invokevirtual 51, 3) := by decide +kernel
theorem dX1_readPower_86 : decode cX1_readPower 86 = .ok (.goto 4, 3) := by decide +kernel
theorem dX1_readPower_89 : decode cX1_readPower 89 = .ok (.iload_n 3, 1) := by decide +kernel
theorem dX1_readPower_90 : decode cX1_readPower 90 = .ok (.ireturn, 1) := by decide +kernel
def fX1_readPower_57 (n : Nat) (x1 : Int32) (x2 : Int32) (x3 : Int32) (w : Wd) (v : Nat → Int32) : Option (Int32 × Wd × (Nat → Int32)) :=
    if (x2 - x2 / 2 * 2) = 1 then
      (fX0_makeOfTwo n 4 x3 x1 w).bind fun z4 =>
      some (z4.1, z4.2, v)
    else
      some (x3, w, v)
def fX1_readPower (n : Nat) (x1 : Int32) (w : Wd) (v : Nat → Int32) : Option (Int32 × Wd × (Nat → Int32)) :=
    (fX1_current n w v).bind fun z1 =>
    if (z1 - 48) < 2 then
      some ((-1), w, v)
    else
      if (z1 - 48) ≤ 5 then
        (ez_fV v 1 ((v 1) + 1)).bind fun v6 =>
        (fX0_makeOfOne n 6 x1 w).bind fun z7 =>
        if (z1 - 48) < 4 then
          fX1_readPower_57 n x1 (z1 - 48) z7.1 z7.2 v6
        else
          (fX0_makeOfOne n 6 z7.1 z7.2).bind fun z10 =>
          fX1_readPower_57 n x1 (z1 - 48) z10.1 z10.2 v6
      else
        some ((-1), w, v)
set_option maxHeartbeats 4000000 in
set_option maxRecDepth 100000 in
theorem tX1_readPower_57 {p : Program} {l : Launch} {e : Env} {s : State} {m : MethodId} {args : Array Value} {below : List Frame} {meth : Method} {c : Code} {A : Nat → Prop} {D : va_G} {a : Nat → Nat} {k : Nat → ClassId} {b : Nat} {z : Int32 × Wd × (Nat → Int32)} (C0 : ez_C p s m args meth c cX1_readPower (some .int) 5 RX1 A) (hK : va_K D vwCl (tC k) s) : ∀ (n : Nat) (H : Heap) (locs : List Loc) (ls : Array Slot) (x1 : Int32) (x2 : Int32) (x3 : Int32) (w : Wd) (v : Nat → Int32), lv_has ls 5 [(0, .ref b), (1, .int x1), (2, .int x2), (3, .int x3)] → va_P D vwCl (wR b a k w v) H → va_D A (wR b a k w v) → va_S A s.heap H locs → fX1_readPower_57 n x1 x2 x3 w v = some z → W p l e ({ frames := 2, cells := 0, slots := 0, locals := 48 } : Room) s m args below meth c H locs 0 0 (MQ below (ez_Qi D (tC k) A z.1 (wR b a k z.2.1 z.2.2)) args s 0 0 A) (F0 m 57 ls []) := by
  intro n
  intro H locs ls x1 x2 x3 w v hl hP hD hS h
  rw [fX1_readPower_57] at h
  have C1 := C0
  obtain ⟨hx, hb, hr, hml, hown, hw, hlk, hA, hN⟩ := C1
  refine lv_iload_n (pc := 57) hx hb dX1_readPower_57 rfl (lv_at hl 2 rfl) ?_
  refine lv_iconst (v := 2) (pc := 58) hx hb dX1_readPower_58 rfl ?_
  refine lv_irem (pc := 59) hx hb dX1_readPower_59 (by decide) ?_
  refine lv_iconst (v := 1) (pc := 60) hx hb dX1_readPower_60 rfl ?_
  refine lv_icmp_ne (pc := 61) (tgt := 68) hx hb dX1_readPower_61 (by decide) (fun c1 => ?_) (fun c1 => ?_)
  · replace h := ez_if c1 h
    refine lv_iconst (v := 0) (pc := 68) hx hb dX1_readPower_68 rfl ?_
    refine lv_istore (pc := 69) hx hb dX1_readPower_69 hl (by decide) rfl (fun ls hl => ?_)
    replace hl : lv_has ls 5 [(4, .int 0), (0, .ref b), (1, .int x1), (2, .int x2), (3, .int x3)] := hl
    refine lv_iload (pc := 71) hx hb dX1_readPower_71 (lv_at hl 0 rfl) ?_
    refine lv_if_eq (pc := 73) (tgt := 89) hx hb dX1_readPower_73 (by decide) (fun _ => ?_) (fun c2 => absurd c2 (by decide))
    refine lv_iload_n (pc := 89) hx hb dX1_readPower_89 rfl (lv_at hl 4 rfl) ?_
    obtain rfl := ez_r1 h
    exact ez_retI C0 hP hD hK hS dX1_readPower_90
  · replace h := ez_it c1 h
    refine lv_iconst (v := 1) (pc := 64) hx hb dX1_readPower_64 rfl ?_
    refine lv_goto (pc := 65) (tgt := 69) hx hb dX1_readPower_65 (by decide) ?_
    refine lv_istore (pc := 69) hx hb dX1_readPower_69 hl (by decide) rfl (fun ls hl => ?_)
    replace hl : lv_has ls 5 [(4, .int 1), (0, .ref b), (1, .int x1), (2, .int x2), (3, .int x3)] := hl
    refine lv_iload (pc := 71) hx hb dX1_readPower_71 (lv_at hl 0 rfl) ?_
    refine lv_if_eq (pc := 73) (tgt := 89) hx hb dX1_readPower_73 (by decide) (fun c3 => absurd c3 (by decide)) (fun _ => ?_)
    refine lv_aload_n (pc := 76) hx hb dX1_readPower_76 rfl (lv_at hl 1 rfl) ?_
    refine va_get (D := D) (pc := 77) hx hb hw inX1 hown hK hP 0 rfl rfl 3 (by decide) (hw _ mw144) (fun _ h9 => h9) rfl dX1_readPower_77 ?_
    refine lv_iconst (v := 4) (pc := 80) hx hb dX1_readPower_80 rfl ?_
    refine lv_iload_n (pc := 81) hx hb dX1_readPower_81 rfl (lv_at hl 4 rfl) ?_
    refine lv_iload_n (pc := 82) hx hb dX1_readPower_82 rfl (lv_at hl 2 rfl) ?_
    replace h := ez_bd h
    obtain ⟨z4, e5, h⟩ := h
    refine ez_callI (r := z4.1) (pc := 83) (wr := (rdc b a v)) (wl := (wC a k w)) (wl' := (wC a k z4.2)) (va_runV (g := F0 m 83 ls [.int x1, .int x3, .int 4, .ref (a 2)]) (As := [.int 4, .int x3, .int x1]) (rest := []) ⟨hx, hb, hml, hown, hw⟩ (kX0_makeOfTwo l D a k n 4 x3 x1 w z4 e5 H.size) (cwV 3 hw (ez_gV mw211 mw212 mw213 mw2 mw214) rfl rfl rfl (by decide +kernel) ⟨Nat.le_of_ble_eq_true rfl, Nat.le_of_ble_eq_true rfl⟩) (ez_preV (wr := (rdc b a v)) (wl := (wC a k w)) hP hD hK hN 2 rfl rfl) rfl rfl hl.1 rfl (lv_room (Nat.le_of_ble_eq_true rfl)) dX1_readPower_83 ⟨Nat.le_refl _, Nat.le_refl _⟩) hP hD hS hA (fun H locs hP hD hS => ?_)
    replace hP : va_P D vwCl (wR b a k z4.2 v) H := hP
    replace hD : va_D A (wR b a k z4.2 v) := hD
    refine lv_goto (pc := 86) (tgt := 90) hx hb dX1_readPower_86 (by decide) ?_
    obtain rfl := ez_r1 h
    exact ez_retI C0 hP hD hK hS dX1_readPower_90
set_option maxHeartbeats 4000000 in
set_option maxRecDepth 100000 in
theorem tX1_readPower_0 {p : Program} {l : Launch} {e : Env} {s : State} {m : MethodId} {args : Array Value} {below : List Frame} {meth : Method} {c : Code} {A : Nat → Prop} {D : va_G} {a : Nat → Nat} {k : Nat → ClassId} {b : Nat} {z : Int32 × Wd × (Nat → Int32)} (C0 : ez_C p s m args meth c cX1_readPower (some .int) 5 RX1 A) (hK : va_K D vwCl (tC k) s) : ∀ (n : Nat) (H : Heap) (locs : List Loc) (ls : Array Slot) (x1 : Int32) (w : Wd) (v : Nat → Int32), lv_has ls 5 [(0, .ref b), (1, .int x1)] → va_P D vwCl (wR b a k w v) H → va_D A (wR b a k w v) → va_S A s.heap H locs → fX1_readPower n x1 w v = some z → W p l e ({ frames := 2, cells := 0, slots := 0, locals := 48 } : Room) s m args below meth c H locs 0 0 (MQ below (ez_Qi D (tC k) A z.1 (wR b a k z.2.1 z.2.2)) args s 0 0 A) (F0 m 0 ls []) := by
  intro n
  intro H locs ls x1 w v hl hP hD hS h
  rw [fX1_readPower] at h
  have C1 := C0
  obtain ⟨hx, hb, hr, hml, hown, hw, hlk, hA, hN⟩ := C1
  refine lv_aload_n (pc := 0) hx hb dX1_readPower_0 rfl (lv_at hl 0 rfl) ?_
  replace h := ez_bd h
  obtain ⟨z1, e2, h⟩ := h
  refine ez_croI (r := z1) (pc := 1) (va_runV (g := F0 m 1 ls [.ref b]) (As := []) (rest := []) ⟨hx, hb, hml, hown, hw⟩ (kX1_current l D a k b n w v z1 e2) (cwV 0 hw (ez_gV mw172 mw174 mp4 mw5 mw175) rfl rfl rfl (by decide +kernel) ⟨Nat.le_of_ble_eq_true rfl, Nat.le_of_ble_eq_true rfl⟩) (ez_preRV (wr := []) (wl := (wR b a k w v)) hP hK hN 0 rfl rfl) rfl rfl hl.1 rfl (lv_room (Nat.le_of_ble_eq_true rfl)) dX1_readPower_1 ⟨Nat.le_refl _, Nat.le_refl _⟩) ?_
  refine lv_bipush (v := 48) (pc := 4) hx hb dX1_readPower_4 rfl ?_
  refine lv_isub (pc := 6) hx hb dX1_readPower_6 ?_
  refine lv_istore_n (pc := 7) hx hb dX1_readPower_7 rfl hl (by decide) rfl (fun ls hl => ?_)
  replace hl : lv_has ls 5 [(2, .int (z1 - 48)), (0, .ref b), (1, .int x1)] := hl
  refine lv_iload_n (pc := 8) hx hb dX1_readPower_8 rfl (lv_at hl 0 rfl) ?_
  refine lv_iconst (v := 2) (pc := 9) hx hb dX1_readPower_9 rfl ?_
  refine lv_icmp_lt (pc := 10) (tgt := 18) hx hb dX1_readPower_10 (by decide) (fun c3 => ?_) (fun c3 => ?_)
  · replace h := ez_it c3 h
    refine lv_iconst (v := (-1)) (pc := 18) hx hb dX1_readPower_18 rfl ?_
    obtain rfl := ez_r1 h
    exact ez_retI C0 hP hD hK hS dX1_readPower_19
  · replace h := ez_if c3 h
    refine lv_iload_n (pc := 13) hx hb dX1_readPower_13 rfl (lv_at hl 0 rfl) ?_
    refine lv_iconst (v := 5) (pc := 14) hx hb dX1_readPower_14 rfl ?_
    refine lv_icmp_le (pc := 15) (tgt := 20) hx hb dX1_readPower_15 (by decide) (fun c4 => ?_) (fun c4 => ?_)
    · replace h := ez_it c4 h
      refine lv_aload_n (pc := 20) hx hb dX1_readPower_20 rfl (lv_at hl 1 rfl) ?_
      refine lv_dup (pc := 21) hx hb dX1_readPower_21 rfl ?_
      refine va_get (D := D) (pc := 22) hx hb hw inX1 hown hK hP 0 rfl rfl 4 (by decide) (hw _ mw145) (fun _ h9 => h9) rfl dX1_readPower_22 ?_
      refine lv_iconst (v := 1) (pc := 25) hx hb dX1_readPower_25 rfl ?_
      refine lv_iadd (pc := 26) hx hb dX1_readPower_26 ?_
      replace h := ez_bd h
      obtain ⟨v6, e5, h⟩ := h
      refine va_put (D := D) (v := .int ((v 1) + 1)) (ty := .int) (pc := 27) hx hb hw inX1 tyX1 tyX1_ok nmX1 hown hK hP hD hS 0 rfl rfl 4 (by decide) (hw _ mw145) (fun _ h9 => h9) rfl (by decide +kernel) rfl rfl (Nat.le_of_ble_eq_true rfl) dX1_readPower_27 (fun H locs hP hD hS => ?_)
      replace hP : va_P D vwCl (wR b a k w v6) H := by rw [(ez_fVs e5)]; exact hP
      replace hD : va_D A (wR b a k w v6) := by rw [(ez_fVs e5)]; exact hD
      refine lv_aload_n (pc := 30) hx hb dX1_readPower_30 rfl (lv_at hl 1 rfl) ?_
      refine va_get (D := D) (pc := 31) hx hb hw inX1 hown hK hP 0 rfl rfl 3 (by decide) (hw _ mw144) (fun _ h9 => h9) rfl dX1_readPower_31 ?_
      refine lv_bipush (v := 6) (pc := 34) hx hb dX1_readPower_34 rfl ?_
      refine lv_iload_n (pc := 36) hx hb dX1_readPower_36 rfl (lv_at hl 2 rfl) ?_
      replace h := ez_bd h
      obtain ⟨z7, e8, h⟩ := h
      refine ez_callI (r := z7.1) (pc := 37) (wr := (rdc b a v6)) (wl := (wC a k w)) (wl' := (wC a k z7.2)) (va_runV (g := F0 m 37 ls [.int x1, .int 6, .ref (a 2)]) (As := [.int 6, .int x1]) (rest := []) ⟨hx, hb, hml, hown, hw⟩ (kX0_makeOfOne l D a k n 6 x1 w z7 e8 H.size) (cwV 2 hw (ez_gV mw203 mw204 mw205 mw2 mw206) rfl rfl rfl (by decide +kernel) ⟨Nat.le_of_ble_eq_true rfl, Nat.le_of_ble_eq_true rfl⟩) (ez_preV (wr := (rdc b a v6)) (wl := (wC a k w)) hP hD hK hN 2 rfl rfl) rfl rfl hl.1 rfl (lv_room (Nat.le_of_ble_eq_true rfl)) dX1_readPower_37 ⟨Nat.le_refl _, Nat.le_refl _⟩) hP hD hS hA (fun H locs hP hD hS => ?_)
      replace hP : va_P D vwCl (wR b a k z7.2 v6) H := hP
      replace hD : va_D A (wR b a k z7.2 v6) := hD
      refine lv_istore_n (pc := 40) hx hb dX1_readPower_40 rfl hl (by decide) rfl (fun ls hl => ?_)
      replace hl : lv_has ls 5 [(3, .int z7.1), (2, .int (z1 - 48)), (0, .ref b), (1, .int x1)] := hl
      refine lv_iload_n (pc := 41) hx hb dX1_readPower_41 rfl (lv_at hl 1 rfl) ?_
      refine lv_iconst (v := 4) (pc := 42) hx hb dX1_readPower_42 rfl ?_
      refine lv_icmp_lt (pc := 43) (tgt := 57) hx hb dX1_readPower_43 (by decide) (fun c9 => ?_) (fun c9 => ?_)
      · replace h := ez_it c9 h
        exact tX1_readPower_57 C0 hK  n _ _ _ x1 (z1 - 48) z7.1 z7.2 v6 (lv_sub hl [2, 3, 1, 0] rfl) hP hD hS h
      · replace h := ez_if c9 h
        refine lv_aload_n (pc := 46) hx hb dX1_readPower_46 rfl (lv_at hl 2 rfl) ?_
        refine va_get (D := D) (pc := 47) hx hb hw inX1 hown hK hP 0 rfl rfl 3 (by decide) (hw _ mw144) (fun _ h9 => h9) rfl dX1_readPower_47 ?_
        refine lv_bipush (v := 6) (pc := 50) hx hb dX1_readPower_50 rfl ?_
        refine lv_iload_n (pc := 52) hx hb dX1_readPower_52 rfl (lv_at hl 0 rfl) ?_
        replace h := ez_bd h
        obtain ⟨z10, e11, h⟩ := h
        refine ez_callI (r := z10.1) (pc := 53) (wr := (rdc b a v6)) (wl := (wC a k z7.2)) (wl' := (wC a k z10.2)) (va_runV (g := F0 m 53 ls [.int z7.1, .int 6, .ref (a 2)]) (As := [.int 6, .int z7.1]) (rest := []) ⟨hx, hb, hml, hown, hw⟩ (kX0_makeOfOne l D a k n 6 z7.1 z7.2 z10 e11 H.size) (cwV 2 hw (ez_gV mw203 mw204 mw205 mw2 mw206) rfl rfl rfl (by decide +kernel) ⟨Nat.le_of_ble_eq_true rfl, Nat.le_of_ble_eq_true rfl⟩) (ez_preV (wr := (rdc b a v6)) (wl := (wC a k z7.2)) hP hD hK hN 2 rfl rfl) rfl rfl hl.1 rfl (lv_room (Nat.le_of_ble_eq_true rfl)) dX1_readPower_53 ⟨Nat.le_refl _, Nat.le_refl _⟩) hP hD hS hA (fun H locs hP hD hS => ?_)
        replace hP : va_P D vwCl (wR b a k z10.2 v6) H := hP
        replace hD : va_D A (wR b a k z10.2 v6) := hD
        refine lv_istore_n (pc := 56) hx hb dX1_readPower_56 rfl hl (by decide) rfl (fun ls hl => ?_)
        replace hl : lv_has ls 5 [(3, .int z10.1), (2, .int (z1 - 48)), (0, .ref b), (1, .int x1)] := hl
        exact tX1_readPower_57 C0 hK  n _ _ _ x1 (z1 - 48) z10.1 z10.2 v6 (lv_sub hl [2, 3, 1, 0] rfl) hP hD hS h
    · replace h := ez_if c4 h
      refine lv_iconst (v := (-1)) (pc := 18) hx hb dX1_readPower_18 rfl ?_
      obtain rfl := ez_r1 h
      exact ez_retI C0 hP hD hK hS dX1_readPower_19
set_option maxRecDepth 100000 in
theorem kX1_readPower (l : Launch) (D : va_G) (a : Nat → Nat) (k : Nat → ClassId) (b : Nat) (n : Nat) (x1 : Int32) (w : Wd) (v : Nat → Int32) (z : Int32 × Wd × (Nat → Int32)) (h : fX1_readPower n x1 w v = some z) (sz : Nat) : Met l yX1_readPower wsX1_readPower ({ frames := 2, cells := 0, slots := 0, locals := 48 } : Room) (ez_Pc D (tC k) [.ref b, .int x1] (wR b a k w v) sz) (ez_Qi D (tC k) (va_A (wR b a k w v) sz) z.1 (wR b a k z.2.1 z.2.2)) 0 0 (va_A (wR b a k w v) sz) :=
  ez_mk (Qf := fun A => (ez_Qi D (tC k) A z.1 (wR b a k z.2.1 z.2.2))) (by decide) rfl (Nat.le_of_ble_eq_true rfl) (fun p e s m below meth c A ls C0 _ hl hP hD hK => tX1_readPower_0 C0 hK n s.heap [] ls x1 w v (lv_sub (l := [(0, .ref b), (1, .int x1)]) hl [0, 1] rfl) hP hD va_S.rf h) sz
/-! EnclosureCalculator$Reader join -/
theorem dX1_join_0 : decode cX1_join 0 = .ok (.iload_n 3, 1) := by decide +kernel
theorem dX1_join_1 : decode cX1_join 1 = .ok (.iconst (-1), 1) := by decide +kernel
theorem dX1_join_2 : decode cX1_join 2 = .ok (.if_icmp .ne 7, 3) := by decide +kernel
theorem dX1_join_5 : decode cX1_join 5 = .ok (.iconst (-1), 1) := by decide +kernel
theorem dX1_join_6 : decode cX1_join 6 = .ok (.goto 13, 3) := by decide +kernel
theorem dX1_join_9 : decode cX1_join 9 = .ok (.aload_n 0, 1) := by decide +kernel
theorem dX1_join_10 : decode cX1_join 10 = .ok (.getfield 23, 3) := by decide +kernel
theorem dX1_join_13 : decode cX1_join 13 = .ok (.iload_n 1, 1) := by decide +kernel
theorem dX1_join_14 : decode cX1_join 14 = .ok (.iload_n 2, 1) := by decide +kernel
theorem dX1_join_15 : decode cX1_join 15 = .ok (.iload_n 3, 1) := by decide +kernel
theorem dX1_join_16 : decode cX1_join 16 = .ok (.invokevirtual 51, 3) := by decide +kernel
theorem dX1_join_19 : decode cX1_join 19 = .ok (.ireturn, 1) := by decide +kernel
def fX1_join (n : Nat) (x1 : Int32) (x2 : Int32) (x3 : Int32) (w : Wd) (v : Nat → Int32) : Option (Int32 × Wd × (Nat → Int32)) :=
    if x3 = (-1) then
      some ((-1), w, v)
    else
      (fX0_makeOfTwo n x1 x2 x3 w).bind fun z2 =>
      some (z2.1, z2.2, v)
set_option maxHeartbeats 4000000 in
set_option maxRecDepth 100000 in
theorem tX1_join_0 {p : Program} {l : Launch} {e : Env} {s : State} {m : MethodId} {args : Array Value} {below : List Frame} {meth : Method} {c : Code} {A : Nat → Prop} {D : va_G} {a : Nat → Nat} {k : Nat → ClassId} {b : Nat} {z : Int32 × Wd × (Nat → Int32)} (C0 : ez_C p s m args meth c cX1_join (some .int) 4 RX1 A) (hK : va_K D vwCl (tC k) s) : ∀ (n : Nat) (H : Heap) (locs : List Loc) (ls : Array Slot) (x1 : Int32) (x2 : Int32) (x3 : Int32) (w : Wd) (v : Nat → Int32), lv_has ls 4 [(0, .ref b), (1, .int x1), (2, .int x2), (3, .int x3)] → va_P D vwCl (wR b a k w v) H → va_D A (wR b a k w v) → va_S A s.heap H locs → fX1_join n x1 x2 x3 w v = some z → W p l e ({ frames := 2, cells := 0, slots := 0, locals := 48 } : Room) s m args below meth c H locs 0 0 (MQ below (ez_Qi D (tC k) A z.1 (wR b a k z.2.1 z.2.2)) args s 0 0 A) (F0 m 0 ls []) := by
  intro n
  intro H locs ls x1 x2 x3 w v hl hP hD hS h
  rw [fX1_join] at h
  have C1 := C0
  obtain ⟨hx, hb, hr, hml, hown, hw, hlk, hA, hN⟩ := C1
  refine lv_iload_n (pc := 0) hx hb dX1_join_0 rfl (lv_at hl 3 rfl) ?_
  refine lv_iconst (v := (-1)) (pc := 1) hx hb dX1_join_1 rfl ?_
  refine lv_icmp_ne (pc := 2) (tgt := 9) hx hb dX1_join_2 (by decide) (fun c1 => ?_) (fun c1 => ?_)
  · replace h := ez_if c1 h
    refine lv_aload_n (pc := 9) hx hb dX1_join_9 rfl (lv_at hl 0 rfl) ?_
    refine va_get (D := D) (pc := 10) hx hb hw inX1 hown hK hP 0 rfl rfl 3 (by decide) (hw _ mw144) (fun _ h9 => h9) rfl dX1_join_10 ?_
    refine lv_iload_n (pc := 13) hx hb dX1_join_13 rfl (lv_at hl 1 rfl) ?_
    refine lv_iload_n (pc := 14) hx hb dX1_join_14 rfl (lv_at hl 2 rfl) ?_
    refine lv_iload_n (pc := 15) hx hb dX1_join_15 rfl (lv_at hl 3 rfl) ?_
    replace h := ez_bd h
    obtain ⟨z2, e3, h⟩ := h
    refine ez_callI (r := z2.1) (pc := 16) (wr := (rdc b a v)) (wl := (wC a k w)) (wl' := (wC a k z2.2)) (va_runV (g := F0 m 16 ls [.int x3, .int x2, .int x1, .ref (a 2)]) (As := [.int x1, .int x2, .int x3]) (rest := []) ⟨hx, hb, hml, hown, hw⟩ (kX0_makeOfTwo l D a k n x1 x2 x3 w z2 e3 H.size) (cwV 3 hw (ez_gV mw211 mw212 mw213 mw2 mw214) rfl rfl rfl (by decide +kernel) ⟨Nat.le_of_ble_eq_true rfl, Nat.le_of_ble_eq_true rfl⟩) (ez_preV (wr := (rdc b a v)) (wl := (wC a k w)) hP hD hK hN 2 rfl rfl) rfl rfl hl.1 rfl (lv_room (Nat.le_of_ble_eq_true rfl)) dX1_join_16 ⟨Nat.le_refl _, Nat.le_refl _⟩) hP hD hS hA (fun H locs hP hD hS => ?_)
    replace hP : va_P D vwCl (wR b a k z2.2 v) H := hP
    replace hD : va_D A (wR b a k z2.2 v) := hD
    obtain rfl := ez_r1 h
    exact ez_retI C0 hP hD hK hS dX1_join_19
  · replace h := ez_it c1 h
    refine lv_iconst (v := (-1)) (pc := 5) hx hb dX1_join_5 rfl ?_
    refine lv_goto (pc := 6) (tgt := 19) hx hb dX1_join_6 (by decide) ?_
    obtain rfl := ez_r1 h
    exact ez_retI C0 hP hD hK hS dX1_join_19
set_option maxRecDepth 100000 in
theorem kX1_join (l : Launch) (D : va_G) (a : Nat → Nat) (k : Nat → ClassId) (b : Nat) (n : Nat) (x1 : Int32) (x2 : Int32) (x3 : Int32) (w : Wd) (v : Nat → Int32) (z : Int32 × Wd × (Nat → Int32)) (h : fX1_join n x1 x2 x3 w v = some z) (sz : Nat) : Met l yX1_join wsX1_join ({ frames := 2, cells := 0, slots := 0, locals := 48 } : Room) (ez_Pc D (tC k) [.ref b, .int x1, .int x2, .int x3] (wR b a k w v) sz) (ez_Qi D (tC k) (va_A (wR b a k w v) sz) z.1 (wR b a k z.2.1 z.2.2)) 0 0 (va_A (wR b a k w v) sz) :=
  ez_mk (Qf := fun A => (ez_Qi D (tC k) A z.1 (wR b a k z.2.1 z.2.2))) (by decide) rfl (Nat.le_of_ble_eq_true rfl) (fun p e s m below meth c A ls C0 _ hl hP hD hK => tX1_join_0 C0 hK n s.heap [] ls x1 x2 x3 w v (lv_sub (l := [(0, .ref b), (1, .int x1), (2, .int x2), (3, .int x3)]) hl [0, 1, 2, 3] rfl) hP hD va_S.rf h) sz
/-! EnclosureCalculator$Reader isAtEnd -/
theorem dX1_isAtEnd_0 : decode cX1_isAtEnd 0 = .ok (.aload_n 0, 1) := by decide +kernel
theorem dX1_isAtEnd_1 : decode cX1_isAtEnd 1 = .ok (.getfield 27, 3) := by decide +kernel
theorem dX1_isAtEnd_4 : decode cX1_isAtEnd 4 = .ok (.aload_n 0, 1) := by decide +kernel
theorem dX1_isAtEnd_5 : decode cX1_isAtEnd 5 = .ok (.getfield 15, 3) := by decide +kernel
theorem dX1_isAtEnd_8 : decode cX1_isAtEnd 8 = .ok (.if_icmp .ne 7, 3) := by decide +kernel
theorem dX1_isAtEnd_11 : decode cX1_isAtEnd 11 = .ok (.iconst 1, 1) := by decide +kernel
theorem dX1_isAtEnd_12 : decode cX1_isAtEnd 12 = .ok (.goto 4, 3) := by decide +kernel
theorem dX1_isAtEnd_15 : decode cX1_isAtEnd 15 = .ok (.iconst 0, 1) := by decide +kernel
theorem dX1_isAtEnd_16 : decode cX1_isAtEnd 16 = .ok (.ireturn, 1) := by decide +kernel
def fX1_isAtEnd (n : Nat) (w : Wd) (v : Nat → Int32) : Option (Int32) :=
    if (v 1) = (v 0) then
      some 1
    else
      some 0
set_option maxHeartbeats 4000000 in
set_option maxRecDepth 100000 in
theorem tX1_isAtEnd_0 {p : Program} {l : Launch} {e : Env} {s : State} {m : MethodId} {args : Array Value} {below : List Frame} {meth : Method} {c : Code} {D : va_G} {a : Nat → Nat} {k : Nat → ClassId} {b : Nat} {z : Int32} {w : Wd} {v : Nat → Int32} (C0 : ez_C p s m args meth c cX1_isAtEnd (some .boolean) 1 RX1 (fun _ => True)) (hK : va_K D vwCl (tC k) s) (hP : va_P D vwCl (wR b a k w v) s.heap) : ∀ (n : Nat) (ls : Array Slot), lv_has ls 1 [(0, .ref b)] → fX1_isAtEnd n w v = some z → W p l e ({ frames := 0, cells := 0, slots := 0, locals := 0 } : Room) s m args below meth c s.heap [] 0 0 (MQ below (ez_Ri z) args s 0 0 (fun _ => False)) (F0 m 0 ls []) := by
  intro n
  intro ls hl h
  rw [fX1_isAtEnd] at h
  have C1 := C0
  obtain ⟨hx, hb, hr, hml, hown, hw, hlk, hA, hN⟩ := C1
  refine lv_aload_n (pc := 0) hx hb dX1_isAtEnd_0 rfl (lv_at hl 0 rfl) ?_
  refine va_get (D := D) (pc := 1) hx hb hw inX1 hown hK hP 0 rfl rfl 4 (by decide) (hw _ mw145) (fun _ h9 => h9) rfl dX1_isAtEnd_1 ?_
  refine lv_aload_n (pc := 4) hx hb dX1_isAtEnd_4 rfl (lv_at hl 0 rfl) ?_
  refine va_get (D := D) (pc := 5) hx hb hw inX1 hown hK hP 0 rfl rfl 1 (by decide) (hw _ mw142) (fun _ h9 => h9) rfl dX1_isAtEnd_5 ?_
  refine lv_icmp_ne (pc := 8) (tgt := 15) hx hb dX1_isAtEnd_8 (by decide) (fun c1 => ?_) (fun c1 => ?_)
  · replace h := ez_if c1 h
    refine lv_iconst (v := 0) (pc := 15) hx hb dX1_isAtEnd_15 rfl ?_
    obtain rfl := ez_r1 h
    exact ez_rroZ C0 (rfl) dX1_isAtEnd_16
  · replace h := ez_it c1 h
    refine lv_iconst (v := 1) (pc := 11) hx hb dX1_isAtEnd_11 rfl ?_
    refine lv_goto (pc := 12) (tgt := 16) hx hb dX1_isAtEnd_12 (by decide) ?_
    obtain rfl := ez_r1 h
    exact ez_rroZ C0 (rfl) dX1_isAtEnd_16
set_option maxRecDepth 100000 in
theorem kX1_isAtEnd (l : Launch) (D : va_G) (a : Nat → Nat) (k : Nat → ClassId) (b : Nat) (n : Nat) (w : Wd) (v : Nat → Int32) (z : Int32) (h : fX1_isAtEnd n w v = some z) : Met l yX1_isAtEnd wsX1_isAtEnd ({ frames := 0, cells := 0, slots := 0, locals := 0 } : Room) (ez_Rc D (tC k) [.ref b] (wR b a k w v)) (ez_Ri z) 0 0 (fun _ => False) :=
  ez_mkR (by decide) rfl (Nat.le_of_ble_eq_true rfl) (fun p e s m below meth c ls C0 hl hP hK => tX1_isAtEnd_0 C0 hK hP n ls (lv_sub (l := [(0, .ref b)]) hl [0] rfl) h)
/-! EnclosureCalculator$Reader metUnknownLetter -/
theorem dX1_metUnknownLetter_0 : decode cX1_metUnknownLetter 0 = .ok (.aload_n 0, 1) := by decide +kernel
theorem dX1_metUnknownLetter_1 : decode cX1_metUnknownLetter 1 = .ok (.getfield 30, 3) := by decide +kernel
theorem dX1_metUnknownLetter_4 : decode cX1_metUnknownLetter 4 = .ok (.ireturn, 1) := by decide +kernel
def fX1_metUnknownLetter (n : Nat) (w : Wd) (v : Nat → Int32) : Option (Int32) :=
    (ez_z .boolean (v 2)).bind fun _ =>
    some (v 2)
set_option maxHeartbeats 4000000 in
set_option maxRecDepth 100000 in
theorem tX1_metUnknownLetter_0 {p : Program} {l : Launch} {e : Env} {s : State} {m : MethodId} {args : Array Value} {below : List Frame} {meth : Method} {c : Code} {D : va_G} {a : Nat → Nat} {k : Nat → ClassId} {b : Nat} {z : Int32} {w : Wd} {v : Nat → Int32} (C0 : ez_C p s m args meth c cX1_metUnknownLetter (some .boolean) 1 RX1 (fun _ => True)) (hK : va_K D vwCl (tC k) s) (hP : va_P D vwCl (wR b a k w v) s.heap) : ∀ (n : Nat) (ls : Array Slot), lv_has ls 1 [(0, .ref b)] → fX1_metUnknownLetter n w v = some z → W p l e ({ frames := 0, cells := 0, slots := 0, locals := 0 } : Room) s m args below meth c s.heap [] 0 0 (MQ below (ez_Ri z) args s 0 0 (fun _ => False)) (F0 m 0 ls []) := by
  intro n
  intro ls hl h
  rw [fX1_metUnknownLetter] at h
  have C1 := C0
  obtain ⟨hx, hb, hr, hml, hown, hw, hlk, hA, hN⟩ := C1
  refine lv_aload_n (pc := 0) hx hb dX1_metUnknownLetter_0 rfl (lv_at hl 0 rfl) ?_
  refine va_get (D := D) (pc := 1) hx hb hw inX1 hown hK hP 0 rfl rfl 5 (by decide) (hw _ mw146) (fun _ h9 => h9) rfl dX1_metUnknownLetter_1 ?_
  replace h := ez_bd h
  obtain ⟨_, e1, h⟩ := h
  obtain rfl := ez_r1 h
  exact ez_rroZ C0 (ez_narz (ez_zs e1)) dX1_metUnknownLetter_4
set_option maxRecDepth 100000 in
theorem kX1_metUnknownLetter (l : Launch) (D : va_G) (a : Nat → Nat) (k : Nat → ClassId) (b : Nat) (n : Nat) (w : Wd) (v : Nat → Int32) (z : Int32) (h : fX1_metUnknownLetter n w v = some z) : Met l yX1_metUnknownLetter wsX1_metUnknownLetter ({ frames := 0, cells := 0, slots := 0, locals := 0 } : Room) (ez_Rc D (tC k) [.ref b] (wR b a k w v)) (ez_Ri z) 0 0 (fun _ => False) :=
  ez_mkR (by decide) rfl (Nat.le_of_ble_eq_true rfl) (fun p e s m below meth c ls C0 hl hP hK => tX1_metUnknownLetter_0 C0 hK hP n ls (lv_sub (l := [(0, .ref b)]) hl [0] rfl) h)
