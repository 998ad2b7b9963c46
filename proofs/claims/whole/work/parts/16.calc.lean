/-! EnclosureCalculator forgetResult -/
theorem dX3_forgetResult_0 : decode cX3_forgetResult 0 = .ok (.aload_n 0, 1) := by decide +kernel
theorem dX3_forgetResult_1 : decode cX3_forgetResult 1 = .ok (.iconst (-1), 1) := by decide +kernel
theorem dX3_forgetResult_2 : decode cX3_forgetResult 2 = .ok (.putfield 90, 3) := by decide +kernel
theorem dX3_forgetResult_5 : decode cX3_forgetResult 5 = .ok (.aload_n 0, 1) := by decide +kernel
theorem dX3_forgetResult_6 : decode cX3_forgetResult 6 = .ok (.lconst 0, 1) := by decide +kernel
theorem dX3_forgetResult_7 : decode cX3_forgetResult 7 = .ok (.putfield 93, 3) := by decide +kernel
theorem dX3_forgetResult_10 : decode cX3_forgetResult 10 = .ok (.aload_n 0, 1) := by decide +kernel
theorem dX3_forgetResult_11 : decode cX3_forgetResult 11 = .ok (.lconst 0, 1) := by decide +kernel
theorem dX3_forgetResult_12 : decode cX3_forgetResult 12 = .ok (.putfield 97, 3) := by decide +kernel
theorem dX3_forgetResult_15 : decode cX3_forgetResult 15 = .ok (.return_, 1) := by decide +kernel
def fX3_forgetResult (n : Nat) (w : Wd) : Option (Wd) :=
    (ez_fI w 2 (-1)).bind fun w2 =>
    (ez_fL w2 0 0).bind fun w4 =>
    (ez_fL w4 1 0).bind fun w6 =>
    some w6
set_option maxHeartbeats 4000000 in
set_option maxRecDepth 100000 in
theorem tX3_forgetResult_0 {p : Program} {l : Launch} {e : Env} {s : State} {m : MethodId} {args : Array Value} {below : List Frame} {meth : Method} {c : Code} {A : Nat → Prop} {D : va_G} {a : Nat → Nat} {k : Nat → ClassId} {z : Wd} (C0 : ez_C p s m args meth c cX3_forgetResult none 1 RX3 A) (hK : va_K D vwCl (tC k) s) : ∀ (n : Nat) (H : Heap) (locs : List Loc) (ls : Array Slot) (w : Wd), lv_has ls 1 [(0, .ref (a 0))] → va_P D vwCl (wC a k w) H → va_D A (wC a k w) → va_S A s.heap H locs → fX3_forgetResult n w = some z → W p l e ({ frames := 0, cells := 0, slots := 0, locals := 0 } : Room) s m args below meth c H locs 0 0 (MQ below (ez_Qv D (tC k) A (wC a k z)) args s 0 0 A) (F0 m 0 ls []) := by
  intro n
  intro H locs ls w hl hP hD hS h
  rw [fX3_forgetResult] at h
  have C1 := C0
  obtain ⟨hx, hb, hr, hml, hown, hw, hlk, hA, hN⟩ := C1
  refine lv_aload_n (pc := 0) hx hb dX3_forgetResult_0 rfl (lv_at hl 0 rfl) ?_
  refine lv_iconst (v := (-1)) (pc := 1) hx hb dX3_forgetResult_1 rfl ?_
  replace h := ez_bd h
  obtain ⟨w2, e1, h⟩ := h
  refine va_put (D := D) (v := .int (-1)) (ty := .int) (pc := 2) hx hb hw inX3 tyX3 tyX3_ok nmX3 hown hK hP hD hS 0 rfl rfl 6 (by decide) (hw _ mw81) (fun _ h9 => h9) rfl (by decide +kernel) rfl rfl (Nat.le_of_ble_eq_true rfl) dX3_forgetResult_2 (fun H locs hP hD hS => ?_)
  replace hP : va_P D vwCl (wC a k w2) H := by rw [(ez_fIs e1)]; exact hP
  replace hD : va_D A (wC a k w2) := by rw [(ez_fIs e1)]; exact hD
  refine lv_aload_n (pc := 5) hx hb dX3_forgetResult_5 rfl (lv_at hl 0 rfl) ?_
  refine lv_lconst (v := 0) (pc := 6) hx hb dX3_forgetResult_6 rfl ?_
  replace h := ez_bd h
  obtain ⟨w4, e3, h⟩ := h
  refine va_put (D := D) (v := .long 0) (ty := .long) (pc := 7) hx hb hw inX3 tyX3 tyX3_ok nmX3 hown hK hP hD hS 0 rfl rfl 7 (by decide) (hw _ mw82) (fun _ h9 => h9) rfl (by decide +kernel) rfl rfl (Nat.le_of_ble_eq_true rfl) dX3_forgetResult_7 (fun H locs hP hD hS => ?_)
  replace hP : va_P D vwCl (wC a k w4) H := by rw [(ez_fLs e3)]; exact hP
  replace hD : va_D A (wC a k w4) := by rw [(ez_fLs e3)]; exact hD
  refine lv_aload_n (pc := 10) hx hb dX3_forgetResult_10 rfl (lv_at hl 0 rfl) ?_
  refine lv_lconst (v := 0) (pc := 11) hx hb dX3_forgetResult_11 rfl ?_
  replace h := ez_bd h
  obtain ⟨w6, e5, h⟩ := h
  refine va_put (D := D) (v := .long 0) (ty := .long) (pc := 12) hx hb hw inX3 tyX3 tyX3_ok nmX3 hown hK hP hD hS 0 rfl rfl 8 (by decide) (hw _ mw83) (fun _ h9 => h9) rfl (by decide +kernel) rfl rfl (Nat.le_of_ble_eq_true rfl) dX3_forgetResult_12 (fun H locs hP hD hS => ?_)
  replace hP : va_P D vwCl (wC a k w6) H := by rw [(ez_fLs e5)]; exact hP
  replace hD : va_D A (wC a k w6) := by rw [(ez_fLs e5)]; exact hD
  obtain rfl := ez_r1 h
  exact ez_retV C0 hP hD hK hS dX3_forgetResult_15
set_option maxRecDepth 100000 in
theorem kX3_forgetResult (l : Launch) (D : va_G) (a : Nat → Nat) (k : Nat → ClassId) (n : Nat) (w : Wd) (z : Wd) (h : fX3_forgetResult n w = some z) (sz : Nat) : Met l yX3_forgetResult wsX3_forgetResult ({ frames := 0, cells := 0, slots := 0, locals := 0 } : Room) (ez_Pc D (tC k) [.ref (a 0)] (wC a k w) sz) (ez_Qv D (tC k) (va_A (wC a k w) sz) (wC a k z)) 0 0 (va_A (wC a k w) sz) :=
  ez_mk (Qf := fun A => (ez_Qv D (tC k) A (wC a k z))) (by decide) rfl (Nat.le_of_ble_eq_true rfl) (fun p e s m below meth c A ls C0 _ hl hP hD hK => tX3_forgetResult_0 C0 hK n s.heap [] ls w (lv_sub (l := [(0, .ref (a 0))]) hl [0] rfl) hP hD va_S.rf h) sz
/-! EnclosureCalculator forgetAll -/
theorem dX3_forgetAll_0 : decode cX3_forgetAll 0 = .ok (.aload_n 0, 1) := by decide +kernel
theorem dX3_forgetAll_1 : decode cX3_forgetAll 1 = .ok (.iconst 0, 1) := by decide +kernel
theorem dX3_forgetAll_2 : decode cX3_forgetAll 2 = .ok (.putfield 34, 3) := by decide +kernel
theorem dX3_forgetAll_5 : decode cX3_forgetAll 5 = .ok (.aload_n 0, 1) := by decide +kernel
theorem dX3_forgetAll_6 : decode cX3_forgetAll 6 = .ok (.getfield 16, 3) := by decide +kernel
theorem dX3_forgetAll_9 : decode cX3_forgetAll 9 = .ok (.iconst 0, 1) := by decide +kernel
theorem dX3_forgetAll_10 : decode cX3_forgetAll 10 = .ok (.invokevirtual 62, 3) := by decide +kernel
theorem dX3_forgetAll_13 : decode cX3_forgetAll 13 = .ok (.iconst 0, 1) := by decide +kernel
theorem dX3_forgetAll_14 : decode cX3_forgetAll 14 = .ok (.istore_n 1, 1) := by decide +kernel
theorem dX3_forgetAll_15 : decode cX3_forgetAll 15 = .ok (.iload_n 1, 1) := by decide +kernel
theorem dX3_forgetAll_16 : decode cX3_forgetAll 16 = .ok (.bipush 8, 2) := by decide +kernel
theorem dX3_forgetAll_18 : decode cX3_forgetAll 18 = .ok (.if_icmp .ge 16, 3) := by decide +kernel
theorem dX3_forgetAll_21 : decode cX3_forgetAll 21 = .ok (.aload_n 0, 1) := by decide +kernel
theorem dX3_forgetAll_22 : decode cX3_forgetAll 22 = .ok (.getfield 20, 3) := by decide +kernel
theorem dX3_forgetAll_25 : decode cX3_forgetAll 25 = .ok (.iload_n 1, 1) := by decide +kernel
theorem dX3_forgetAll_26 : decode cX3_forgetAll 26 = .ok (.iconst (-1), 1) := by decide +kernel
theorem dX3_forgetAll_27 : decode cX3_forgetAll 27 = .ok (.iastore, 1) := by decide +kernel
theorem dX3_forgetAll_28 : decode cX3_forgetAll 28 = .ok (.iinc 1 1, 3) := by decide +kernel
theorem dX3_forgetAll_31 : decode cX3_forgetAll 31 = .ok (.goto (-16), 3) := by decide +kernel
theorem dX3_forgetAll_34 : decode cX3_forgetAll 34 = .ok (.aload_n 0, 1) := by decide +kernel
theorem dX3_forgetAll_35 : decode cX3_forgetAll 35 = .ok (.iconst 0, 1) := by decide +kernel
theorem dX3_forgetAll_36 : decode cX3_forgetAll 36 = .ok (.putfield 87, 3) := by decide +kernel
theorem dX3_forgetAll_39 : decode cX3_forgetAll 39 = .ok (.aload_n 0, 1) := by decide +kernel
theorem dX3_forgetAll_40 : decode cX3_forgetAll 40 = .ok (.invokevirtual 77, 3) := by decide +kernel
theorem dX3_forgetAll_43 : decode cX3_forgetAll 43 = .ok (.return_, 1) := by decide +kernel
def fX3_forgetAll_15 : Nat → Int32 → Wd → Option (Wd)
  | 0, _, _ => none
  | n + 1, x1, w =>
    if 8 ≤ x1 then
      (ez_fI w 1 0).bind fun w3 =>
      (fX3_forgetResult n w3).bind fun z4 =>
      some z4
    else
      (ez_stI w 3 8 x1 (-1)).bind fun w7 =>
      fX3_forgetAll_15 n (x1 + 1) w7
def fX3_forgetAll (n : Nat) (w : Wd) : Option (Wd) :=
    (ez_fI w 0 0).bind fun w2 =>
    (fX0_shrinkTo n 0 w2).bind fun z3 =>
    fX3_forgetAll_15 n 0 z3
set_option maxHeartbeats 4000000 in
set_option maxRecDepth 100000 in
theorem tX3_forgetAll_15 {p : Program} {l : Launch} {e : Env} {s : State} {m : MethodId} {args : Array Value} {below : List Frame} {meth : Method} {c : Code} {A : Nat → Prop} {D : va_G} {a : Nat → Nat} {k : Nat → ClassId} {z : Wd} (C0 : ez_C p s m args meth c cX3_forgetAll none 2 RX3 A) (hK : va_K D vwCl (tC k) s) : ∀ (n : Nat) (H : Heap) (locs : List Loc) (ls : Array Slot) (x1 : Int32) (w : Wd), lv_has ls 2 [(0, .ref (a 0)), (1, .int x1)] → va_P D vwCl (wC a k w) H → va_D A (wC a k w) → va_S A s.heap H locs → fX3_forgetAll_15 n x1 w = some z → W p l e ({ frames := 1, cells := 0, slots := 0, locals := 21 } : Room) s m args below meth c H locs 0 0 (MQ below (ez_Qv D (tC k) A (wC a k z)) args s 0 0 A) (F0 m 15 ls []) := by
  intro n
  induction n with
  | zero =>
    intro H locs ls x1 w hl hP hD hS h
    rw [fX3_forgetAll_15] at h
    cases h
  | succ n ih =>
    intro H locs ls x1 w hl hP hD hS h
    rw [fX3_forgetAll_15] at h
    have C1 := C0
    obtain ⟨hx, hb, hr, hml, hown, hw, hlk, hA, hN⟩ := C1
    refine lv_iload_n (pc := 15) hx hb dX3_forgetAll_15 rfl (lv_at hl 1 rfl) ?_
    refine lv_bipush (v := 8) (pc := 16) hx hb dX3_forgetAll_16 rfl ?_
    refine lv_icmp_ge (pc := 18) (tgt := 34) hx hb dX3_forgetAll_18 (by decide) (fun c1 => ?_) (fun c1 => ?_)
    · replace h := ez_it c1 h
      refine lv_aload_n (pc := 34) hx hb dX3_forgetAll_34 rfl (lv_at hl 0 rfl) ?_
      refine lv_iconst (v := 0) (pc := 35) hx hb dX3_forgetAll_35 rfl ?_
      replace h := ez_bd h
      obtain ⟨w3, e2, h⟩ := h
      refine va_put (D := D) (v := .int 0) (ty := .int) (pc := 36) hx hb hw inX3 tyX3 tyX3_ok nmX3 hown hK hP hD hS 0 rfl rfl 5 (by decide) (hw _ mw80) (fun _ h9 => h9) rfl (by decide +kernel) rfl rfl (Nat.le_of_ble_eq_true rfl) dX3_forgetAll_36 (fun H locs hP hD hS => ?_)
      replace hP : va_P D vwCl (wC a k w3) H := by rw [(ez_fIs e2)]; exact hP
      replace hD : va_D A (wC a k w3) := by rw [(ez_fIs e2)]; exact hD
      refine lv_aload_n (pc := 39) hx hb dX3_forgetAll_39 rfl (lv_at hl 0 rfl) ?_
      replace h := ez_bd h
      obtain ⟨z4, e5, h⟩ := h
      refine ez_callV (pc := 40) (wr := []) (wl := (wC a k w3)) (wl' := (wC a k z4)) (va_runV (g := F0 m 40 ls [.ref (a 0)]) (As := []) (rest := []) ⟨hx, hb, hml, hown, hw⟩ (kX3_forgetResult l D a k n w3 z4 e5 H.size) (cwV 0 hw (ez_gV mw71 mw73 mp1 mw1 mw74) rfl rfl rfl (by decide +kernel) ⟨Nat.le_of_ble_eq_true rfl, Nat.le_of_ble_eq_true rfl⟩) (ez_preV (wr := []) (wl := (wC a k w3)) hP hD hK hN 0 rfl rfl) rfl rfl hl.1 rfl (lv_room (Nat.le_of_ble_eq_true rfl)) dX3_forgetAll_40 ⟨Nat.le_refl _, Nat.le_refl _⟩) hP hD hS hA (fun H locs hP hD hS => ?_)
      replace hP : va_P D vwCl (wC a k z4) H := hP
      replace hD : va_D A (wC a k z4) := hD
      obtain rfl := ez_r1 h
      exact ez_retV C0 hP hD hK hS dX3_forgetAll_43
    · replace h := ez_if c1 h
      refine lv_aload_n (pc := 21) hx hb dX3_forgetAll_21 rfl (lv_at hl 0 rfl) ?_
      refine va_get (D := D) (pc := 22) hx hb hw inX3 hown hK hP 0 rfl rfl 3 (by decide) (hw _ mw78) (fun _ h9 => h9) rfl dX3_forgetAll_22 ?_
      refine lv_iload_n (pc := 25) hx hb dX3_forgetAll_25 rfl (lv_at hl 1 rfl) ?_
      refine lv_iconst (v := (-1)) (pc := 26) hx hb dX3_forgetAll_26 rfl ?_
      replace h := ez_bd h
      obtain ⟨w7, e6, h⟩ := h
      obtain ⟨e6i, e6⟩ := ez_stIs e6
      refine va_iast (D := D) (pc := 27) hx hb hK hP hD hS 3 1 rfl rfl e6i dX3_forgetAll_27 (fun H locs hP hD hS => ?_)
      replace hP : va_P D vwCl (wC a k w7) H := by rw [e6]; exact hP
      replace hD : va_D A (wC a k w7) := by rw [e6]; exact hD
      refine lv_iinc (v := (x1 + 1)) (k := 1) (pc := 28) hx hb dX3_forgetAll_28 hl rfl rfl (by decide) rfl (fun ls hl => ?_)
      replace hl : lv_has ls 2 [(1, .int (x1 + 1)), (0, .ref (a 0))] := hl
      refine lv_goto (pc := 31) (tgt := 15) hx hb dX3_forgetAll_31 (by decide) ?_
      exact ih _ _ _ (x1 + 1) w7 (lv_sub hl [1, 0] rfl) hP hD hS h
set_option maxHeartbeats 4000000 in
set_option maxRecDepth 100000 in
theorem tX3_forgetAll_0 {p : Program} {l : Launch} {e : Env} {s : State} {m : MethodId} {args : Array Value} {below : List Frame} {meth : Method} {c : Code} {A : Nat → Prop} {D : va_G} {a : Nat → Nat} {k : Nat → ClassId} {z : Wd} (C0 : ez_C p s m args meth c cX3_forgetAll none 2 RX3 A) (hK : va_K D vwCl (tC k) s) : ∀ (n : Nat) (H : Heap) (locs : List Loc) (ls : Array Slot) (w : Wd), lv_has ls 2 [(0, .ref (a 0))] → va_P D vwCl (wC a k w) H → va_D A (wC a k w) → va_S A s.heap H locs → fX3_forgetAll n w = some z → W p l e ({ frames := 1, cells := 0, slots := 0, locals := 21 } : Room) s m args below meth c H locs 0 0 (MQ below (ez_Qv D (tC k) A (wC a k z)) args s 0 0 A) (F0 m 0 ls []) := by
  intro n
  intro H locs ls w hl hP hD hS h
  rw [fX3_forgetAll] at h
  have C1 := C0
  obtain ⟨hx, hb, hr, hml, hown, hw, hlk, hA, hN⟩ := C1
  refine lv_aload_n (pc := 0) hx hb dX3_forgetAll_0 rfl (lv_at hl 0 rfl) ?_
  refine lv_iconst (v := 0) (pc := 1) hx hb dX3_forgetAll_1 rfl ?_
  replace h := ez_bd h
  obtain ⟨w2, e1, h⟩ := h
  refine va_put (D := D) (v := .int 0) (ty := .int) (pc := 2) hx hb hw inX3 tyX3 tyX3_ok nmX3 hown hK hP hD hS 0 rfl rfl 1 (by decide) (hw _ mw76) (fun _ h9 => h9) rfl (by decide +kernel) rfl rfl (Nat.le_of_ble_eq_true rfl) dX3_forgetAll_2 (fun H locs hP hD hS => ?_)
  replace hP : va_P D vwCl (wC a k w2) H := by rw [(ez_fIs e1)]; exact hP
  replace hD : va_D A (wC a k w2) := by rw [(ez_fIs e1)]; exact hD
  refine lv_aload_n (pc := 5) hx hb dX3_forgetAll_5 rfl (lv_at hl 0 rfl) ?_
  refine va_get (D := D) (pc := 6) hx hb hw inX3 hown hK hP 0 rfl rfl 2 (by decide) (hw _ mw77) (fun _ h9 => h9) rfl dX3_forgetAll_6 ?_
  refine lv_iconst (v := 0) (pc := 9) hx hb dX3_forgetAll_9 rfl ?_
  replace h := ez_bd h
  obtain ⟨z3, e4, h⟩ := h
  refine ez_callV (pc := 10) (wr := []) (wl := (wC a k w2)) (wl' := (wC a k z3)) (va_runV (g := F0 m 10 ls [.int 0, .ref (a 2)]) (As := [.int 0]) (rest := []) ⟨hx, hb, hml, hown, hw⟩ (kX0_shrinkTo l D a k n 0 w2 z3 e4 H.size) (cwV 1 hw (ez_gV mw67 mw68 mw69 mw2 mw70) rfl rfl rfl (by decide +kernel) ⟨Nat.le_of_ble_eq_true rfl, Nat.le_of_ble_eq_true rfl⟩) (ez_preV (wr := []) (wl := (wC a k w2)) hP hD hK hN 2 rfl rfl) rfl rfl hl.1 rfl (lv_room (Nat.le_of_ble_eq_true rfl)) dX3_forgetAll_10 ⟨Nat.le_refl _, Nat.le_refl _⟩) hP hD hS hA (fun H locs hP hD hS => ?_)
  replace hP : va_P D vwCl (wC a k z3) H := hP
  replace hD : va_D A (wC a k z3) := hD
  refine lv_iconst (v := 0) (pc := 13) hx hb dX3_forgetAll_13 rfl ?_
  refine lv_istore_n (pc := 14) hx hb dX3_forgetAll_14 rfl hl (by decide) rfl (fun ls hl => ?_)
  replace hl : lv_has ls 2 [(1, .int 0), (0, .ref (a 0))] := hl
  exact tX3_forgetAll_15 C0 hK  n _ _ _ 0 z3 (lv_sub hl [1, 0] rfl) hP hD hS h
set_option maxRecDepth 100000 in
theorem kX3_forgetAll (l : Launch) (D : va_G) (a : Nat → Nat) (k : Nat → ClassId) (n : Nat) (w : Wd) (z : Wd) (h : fX3_forgetAll n w = some z) (sz : Nat) : Met l yX3_forgetAll wsX3_forgetAll ({ frames := 1, cells := 0, slots := 0, locals := 21 } : Room) (ez_Pc D (tC k) [.ref (a 0)] (wC a k w) sz) (ez_Qv D (tC k) (va_A (wC a k w) sz) (wC a k z)) 0 0 (va_A (wC a k w) sz) :=
  ez_mk (Qf := fun A => (ez_Qv D (tC k) A (wC a k z))) (by decide) rfl (Nat.le_of_ble_eq_true rfl) (fun p e s m below meth c A ls C0 _ hl hP hD hK => tX3_forgetAll_0 C0 hK n s.heap [] ls w (lv_sub (l := [(0, .ref (a 0))]) hl [0] rfl) hP hD va_S.rf h) sz
/-! EnclosureCalculator type -/
theorem dX3_type_0 : decode cX3_type 0 = .ok (.aload_n 0, 1) := by decide +kernel
theorem dX3_type_1 : decode cX3_type 1 = .ok (.getfield 34, 3) := by decide +kernel
theorem dX3_type_4 : decode cX3_type 4 = .ok (.bipush 20, 2) := by decide +kernel
theorem dX3_type_6 : decode cX3_type 6 = .ok (.if_icmp .ge 10, 3) := by decide +kernel
theorem dX3_type_9 : decode cX3_type 9 = .ok (.iload_n 1, 1) := by decide +kernel
theorem dX3_type_10 : decode cX3_type 10 = .ok (.invokestatic 38, 3) := by decide +kernel
theorem dX3_type_13 : decode cX3_type 13 = .ok (.ifCond .ne 5, 3) := by decide +kernel
theorem dX3_type_16 : decode cX3_type 16 = .ok (.iconst 0, 1) := by decide +kernel
theorem dX3_type_17 : decode cX3_type 17 = .ok (.ireturn, 1) := by decide +kernel
theorem dX3_type_18 : decode cX3_type 18 = .ok (.aload_n 0, 1) := by decide +kernel
theorem dX3_type_19 : decode cX3_type 19 = .ok (.getfield 9, 3) := by decide +kernel
theorem dX3_type_22 : decode cX3_type 22 = .ok (.aload_n 0, 1) := by decide +kernel
theorem dX3_type_23 : decode cX3_type 23 = .ok (.getfield 34, 3) := by decide +kernel
theorem dX3_type_26 : decode cX3_type 26 = .ok (.iload_n 1, 1) := by decide +kernel
theorem dX3_type_27 : decode cX3_type 27 = .ok (.i2c, 1) := by decide +kernel
theorem dX3_type_28 : decode cX3_type 28 = .ok (.castore, 1) := by decide +kernel
theorem dX3_type_29 : decode cX3_type 29 = .ok (.aload_n 0, 1) := by decide +kernel
theorem dX3_type_30 : decode cX3_type 30 = .ok (.dup, 1) := by decide +kernel
theorem dX3_type_31 : decode cX3_type 31 = .ok (.getfield 34, 3) := by decide +kernel
theorem dX3_type_34 : decode cX3_type 34 = .ok (.iconst 1, 1) := by decide +kernel
theorem dX3_type_35 : decode cX3_type 35 = .ok (.iadd, 1) := by decide +kernel
theorem dX3_type_36 : decode cX3_type 36 = .ok (.putfield 34, 3) := by decide +kernel
theorem dX3_type_39 : decode cX3_type 39 = .ok (.iconst 1, 1) := by decide +kernel
theorem dX3_type_40 : decode cX3_type 40 = .ok (.ireturn, 1) := by decide +kernel
def fX3_type (n : Nat) (x1 : Int32) (w : Wd) : Option (Int32 × Wd) :=
    if 20 ≤ (w.1 0 0) then
      some (0, w)
    else
      (fX3_isTypable n x1).bind fun z2 =>
      if z2 = 0 then
        some (0, w)
      else
        (ez_stI w 1 20 (w.1 0 0) (vp_nar .char ((Int32.toUInt32 x1 % 65536).toInt32))).bind fun w6 =>
        (ez_fI w6 0 ((w6.1 0 0) + 1)).bind fun w8 =>
        some (1, w8)
set_option maxHeartbeats 4000000 in
set_option maxRecDepth 100000 in
theorem tX3_type_0 {p : Program} {l : Launch} {e : Env} {s : State} {m : MethodId} {args : Array Value} {below : List Frame} {meth : Method} {c : Code} {A : Nat → Prop} {D : va_G} {a : Nat → Nat} {k : Nat → ClassId} {z : Int32 × Wd} (C0 : ez_C p s m args meth c cX3_type (some .boolean) 2 RX3 A) (hK : va_K D vwCl (tC k) s) : ∀ (n : Nat) (H : Heap) (locs : List Loc) (ls : Array Slot) (x1 : Int32) (w : Wd), lv_has ls 2 [(0, .ref (a 0)), (1, .int x1)] → va_P D vwCl (wC a k w) H → va_D A (wC a k w) → va_S A s.heap H locs → fX3_type n x1 w = some z → W p l e ({ frames := 2, cells := 0, slots := 0, locals := 40 } : Room) s m args below meth c H locs 0 0 (MQ below (ez_Qi D (tC k) A z.1 (wC a k z.2)) args s 0 0 A) (F0 m 0 ls []) := by
  intro n
  intro H locs ls x1 w hl hP hD hS h
  rw [fX3_type] at h
  have C1 := C0
  obtain ⟨hx, hb, hr, hml, hown, hw, hlk, hA, hN⟩ := C1
  refine lv_aload_n (pc := 0) hx hb dX3_type_0 rfl (lv_at hl 0 rfl) ?_
  refine va_get (D := D) (pc := 1) hx hb hw inX3 hown hK hP 0 rfl rfl 1 (by decide) (hw _ mw76) (fun _ h9 => h9) rfl dX3_type_1 ?_
  refine lv_bipush (v := 20) (pc := 4) hx hb dX3_type_4 rfl ?_
  refine lv_icmp_ge (pc := 6) (tgt := 16) hx hb dX3_type_6 (by decide) (fun c1 => ?_) (fun c1 => ?_)
  · replace h := ez_it c1 h
    refine lv_iconst (v := 0) (pc := 16) hx hb dX3_type_16 rfl ?_
    obtain rfl := ez_r1 h
    exact ez_retZ C0 (show narrow .boolean (.int 0) = .int 0 from rfl) hP hD hK hS dX3_type_17
  · replace h := ez_if c1 h
    refine lv_iload_n (pc := 9) hx hb dX3_type_9 rfl (lv_at hl 1 rfl) ?_
    replace h := ez_bd h
    obtain ⟨z2, e3, h⟩ := h
    refine ez_croI (r := z2) (pc := 10) (va_runS (g := F0 m 10 ls [.int x1]) (As := [.int x1]) (rest := []) ⟨hx, hb, hml, hown, hw⟩ (kX3_isTypable l n x1 z2 e3) (va_cwS 1 hw (ez_gS mw107 mw108 mw1 mw109) rfl rfl rfl (by decide +kernel) ⟨Nat.le_of_ble_eq_true rfl, Nat.le_of_ble_eq_true rfl⟩) (ez_preRS hN) rfl rfl hl.1 rfl (lv_room (Nat.le_of_ble_eq_true rfl)) dX3_type_10 ⟨Nat.le_refl _, Nat.le_refl _⟩) ?_
    refine lv_if_ne (pc := 13) (tgt := 18) hx hb dX3_type_13 (by decide) (fun c4 => ?_) (fun c4 => ?_)
    · replace h := ez_if c4 h
      refine lv_aload_n (pc := 18) hx hb dX3_type_18 rfl (lv_at hl 0 rfl) ?_
      refine va_get (D := D) (pc := 19) hx hb hw inX3 hown hK hP 0 rfl rfl 0 (by decide) (hw _ mw75) (fun _ h9 => h9) rfl dX3_type_19 ?_
      refine lv_aload_n (pc := 22) hx hb dX3_type_22 rfl (lv_at hl 0 rfl) ?_
      refine va_get (D := D) (pc := 23) hx hb hw inX3 hown hK hP 0 rfl rfl 1 (by decide) (hw _ mw76) (fun _ h9 => h9) rfl dX3_type_23 ?_
      refine lv_iload_n (pc := 26) hx hb dX3_type_26 rfl (lv_at hl 1 rfl) ?_
      refine lv_i2c (pc := 27) hx hb dX3_type_27 rfl ?_
      replace h := ez_bd h
      obtain ⟨w6, e5, h⟩ := h
      obtain ⟨e5i, e5⟩ := ez_stIs e5
      refine va_cast (D := D) (pc := 28) hx hb hK hP hD hS 1 0 rfl rfl e5i dX3_type_28 (fun H locs hP hD hS => ?_)
      replace hP : va_P D vwCl (wC a k w6) H := by rw [e5]; exact hP
      replace hD : va_D A (wC a k w6) := by rw [e5]; exact hD
      refine lv_aload_n (pc := 29) hx hb dX3_type_29 rfl (lv_at hl 0 rfl) ?_
      refine lv_dup (pc := 30) hx hb dX3_type_30 rfl ?_
      refine va_get (D := D) (pc := 31) hx hb hw inX3 hown hK hP 0 rfl rfl 1 (by decide) (hw _ mw76) (fun _ h9 => h9) rfl dX3_type_31 ?_
      refine lv_iconst (v := 1) (pc := 34) hx hb dX3_type_34 rfl ?_
      refine lv_iadd (pc := 35) hx hb dX3_type_35 ?_
      replace h := ez_bd h
      obtain ⟨w8, e7, h⟩ := h
      refine va_put (D := D) (v := .int ((w6.1 0 0) + 1)) (ty := .int) (pc := 36) hx hb hw inX3 tyX3 tyX3_ok nmX3 hown hK hP hD hS 0 rfl rfl 1 (by decide) (hw _ mw76) (fun _ h9 => h9) rfl (by decide +kernel) rfl rfl (Nat.le_of_ble_eq_true rfl) dX3_type_36 (fun H locs hP hD hS => ?_)
      replace hP : va_P D vwCl (wC a k w8) H := by rw [(ez_fIs e7)]; exact hP
      replace hD : va_D A (wC a k w8) := by rw [(ez_fIs e7)]; exact hD
      refine lv_iconst (v := 1) (pc := 39) hx hb dX3_type_39 rfl ?_
      obtain rfl := ez_r1 h
      exact ez_retZ C0 (show narrow .boolean (.int 1) = .int 1 from rfl) hP hD hK hS dX3_type_40
    · replace h := ez_it c4 h
      refine lv_iconst (v := 0) (pc := 16) hx hb dX3_type_16 rfl ?_
      obtain rfl := ez_r1 h
      exact ez_retZ C0 (show narrow .boolean (.int 0) = .int 0 from rfl) hP hD hK hS dX3_type_17
set_option maxRecDepth 100000 in
theorem kX3_type (l : Launch) (D : va_G) (a : Nat → Nat) (k : Nat → ClassId) (n : Nat) (x1 : Int32) (w : Wd) (z : Int32 × Wd) (h : fX3_type n x1 w = some z) (sz : Nat) : Met l yX3_type wsX3_type ({ frames := 2, cells := 0, slots := 0, locals := 40 } : Room) (ez_Pc D (tC k) [.ref (a 0), .int x1] (wC a k w) sz) (ez_Qi D (tC k) (va_A (wC a k w) sz) z.1 (wC a k z.2)) 0 0 (va_A (wC a k w) sz) :=
  ez_mk (Qf := fun A => (ez_Qi D (tC k) A z.1 (wC a k z.2))) (by decide) rfl (Nat.le_of_ble_eq_true rfl) (fun p e s m below meth c A ls C0 _ hl hP hD hK => tX3_type_0 C0 hK n s.heap [] ls x1 w (lv_sub (l := [(0, .ref (a 0)), (1, .int x1)]) hl [0, 1] rfl) hP hD va_S.rf h) sz
/-! EnclosureCalculator erase -/
theorem dX3_erase_0 : decode cX3_erase 0 = .ok (.aload_n 0, 1) := by decide +kernel
theorem dX3_erase_1 : decode cX3_erase 1 = .ok (.getfield 34, 3) := by decide +kernel
theorem dX3_erase_4 : decode cX3_erase 4 = .ok (.ifCond .gt 5, 3) := by decide +kernel
theorem dX3_erase_7 : decode cX3_erase 7 = .ok (.iconst 0, 1) := by decide +kernel
theorem dX3_erase_8 : decode cX3_erase 8 = .ok (.ireturn, 1) := by decide +kernel
theorem dX3_erase_9 : decode cX3_erase 9 = .ok (.aload_n 0, 1) := by decide +kernel
theorem dX3_erase_10 : decode cX3_erase 10 = .ok (.dup, 1) := by decide +kernel
theorem dX3_erase_11 : decode cX3_erase 11 = .ok (.getfield 34, 3) := by decide +kernel
theorem dX3_erase_14 : decode cX3_erase 14 = .ok (.iconst 1, 1) := by decide +kernel
theorem dX3_erase_15 : decode cX3_erase 15 = .ok (.isub, 1) := by decide +kernel
theorem dX3_erase_16 : decode cX3_erase 16 = .ok (.putfield 34, 3) := by decide +kernel
theorem dX3_erase_19 : decode cX3_erase 19 = .ok (.iconst 1, 1) := by decide +kernel
theorem dX3_erase_20 : decode cX3_erase 20 = .ok (.ireturn, 1) := by decide +kernel
def fX3_erase (n : Nat) (w : Wd) : Option (Int32 × Wd) :=
    if 0 < (w.1 0 0) then
      (ez_fI w 0 ((w.1 0 0) - 1)).bind fun w3 =>
      some (1, w3)
    else
      some (0, w)
set_option maxHeartbeats 4000000 in
set_option maxRecDepth 100000 in
theorem tX3_erase_0 {p : Program} {l : Launch} {e : Env} {s : State} {m : MethodId} {args : Array Value} {below : List Frame} {meth : Method} {c : Code} {A : Nat → Prop} {D : va_G} {a : Nat → Nat} {k : Nat → ClassId} {z : Int32 × Wd} (C0 : ez_C p s m args meth c cX3_erase (some .boolean) 1 RX3 A) (hK : va_K D vwCl (tC k) s) : ∀ (n : Nat) (H : Heap) (locs : List Loc) (ls : Array Slot) (w : Wd), lv_has ls 1 [(0, .ref (a 0))] → va_P D vwCl (wC a k w) H → va_D A (wC a k w) → va_S A s.heap H locs → fX3_erase n w = some z → W p l e ({ frames := 0, cells := 0, slots := 0, locals := 0 } : Room) s m args below meth c H locs 0 0 (MQ below (ez_Qi D (tC k) A z.1 (wC a k z.2)) args s 0 0 A) (F0 m 0 ls []) := by
  intro n
  intro H locs ls w hl hP hD hS h
  rw [fX3_erase] at h
  have C1 := C0
  obtain ⟨hx, hb, hr, hml, hown, hw, hlk, hA, hN⟩ := C1
  refine lv_aload_n (pc := 0) hx hb dX3_erase_0 rfl (lv_at hl 0 rfl) ?_
  refine va_get (D := D) (pc := 1) hx hb hw inX3 hown hK hP 0 rfl rfl 1 (by decide) (hw _ mw76) (fun _ h9 => h9) rfl dX3_erase_1 ?_
  refine lv_if_gt (pc := 4) (tgt := 9) hx hb dX3_erase_4 (by decide) (fun c1 => ?_) (fun c1 => ?_)
  · replace h := ez_it c1 h
    refine lv_aload_n (pc := 9) hx hb dX3_erase_9 rfl (lv_at hl 0 rfl) ?_
    refine lv_dup (pc := 10) hx hb dX3_erase_10 rfl ?_
    refine va_get (D := D) (pc := 11) hx hb hw inX3 hown hK hP 0 rfl rfl 1 (by decide) (hw _ mw76) (fun _ h9 => h9) rfl dX3_erase_11 ?_
    refine lv_iconst (v := 1) (pc := 14) hx hb dX3_erase_14 rfl ?_
    refine lv_isub (pc := 15) hx hb dX3_erase_15 ?_
    replace h := ez_bd h
    obtain ⟨w3, e2, h⟩ := h
    refine va_put (D := D) (v := .int ((w.1 0 0) - 1)) (ty := .int) (pc := 16) hx hb hw inX3 tyX3 tyX3_ok nmX3 hown hK hP hD hS 0 rfl rfl 1 (by decide) (hw _ mw76) (fun _ h9 => h9) rfl (by decide +kernel) rfl rfl (Nat.le_of_ble_eq_true rfl) dX3_erase_16 (fun H locs hP hD hS => ?_)
    replace hP : va_P D vwCl (wC a k w3) H := by rw [(ez_fIs e2)]; exact hP
    replace hD : va_D A (wC a k w3) := by rw [(ez_fIs e2)]; exact hD
    refine lv_iconst (v := 1) (pc := 19) hx hb dX3_erase_19 rfl ?_
    obtain rfl := ez_r1 h
    exact ez_retZ C0 (show narrow .boolean (.int 1) = .int 1 from rfl) hP hD hK hS dX3_erase_20
  · replace h := ez_if c1 h
    refine lv_iconst (v := 0) (pc := 7) hx hb dX3_erase_7 rfl ?_
    obtain rfl := ez_r1 h
    exact ez_retZ C0 (show narrow .boolean (.int 0) = .int 0 from rfl) hP hD hK hS dX3_erase_8
set_option maxRecDepth 100000 in
theorem kX3_erase (l : Launch) (D : va_G) (a : Nat → Nat) (k : Nat → ClassId) (n : Nat) (w : Wd) (z : Int32 × Wd) (h : fX3_erase n w = some z) (sz : Nat) : Met l yX3_erase wsX3_erase ({ frames := 0, cells := 0, slots := 0, locals := 0 } : Room) (ez_Pc D (tC k) [.ref (a 0)] (wC a k w) sz) (ez_Qi D (tC k) (va_A (wC a k w) sz) z.1 (wC a k z.2)) 0 0 (va_A (wC a k w) sz) :=
  ez_mk (Qf := fun A => (ez_Qi D (tC k) A z.1 (wC a k z.2))) (by decide) rfl (Nat.le_of_ble_eq_true rfl) (fun p e s m below meth c A ls C0 _ hl hP hD hK => tX3_erase_0 C0 hK n s.heap [] ls w (lv_sub (l := [(0, .ref (a 0))]) hl [0] rfl) hP hD va_S.rf h) sz
/-! EnclosureCalculator length -/
theorem dX3_length_0 : decode cX3_length 0 = .ok (.aload_n 0, 1) := by decide +kernel
theorem dX3_length_1 : decode cX3_length 1 = .ok (.getfield 34, 3) := by decide +kernel
theorem dX3_length_4 : decode cX3_length 4 = .ok (.ireturn, 1) := by decide +kernel
def fX3_length (n : Nat) (w : Wd) : Option (Int32) :=
    some (w.1 0 0)
set_option maxHeartbeats 4000000 in
set_option maxRecDepth 100000 in
theorem tX3_length_0 {p : Program} {l : Launch} {e : Env} {s : State} {m : MethodId} {args : Array Value} {below : List Frame} {meth : Method} {c : Code} {D : va_G} {a : Nat → Nat} {k : Nat → ClassId} {z : Int32} {w : Wd} (C0 : ez_C p s m args meth c cX3_length (some .int) 1 RX3 (fun _ => True)) (hK : va_K D vwCl (tC k) s) (hP : va_P D vwCl (wC a k w) s.heap) : ∀ (n : Nat) (ls : Array Slot), lv_has ls 1 [(0, .ref (a 0))] → fX3_length n w = some z → W p l e ({ frames := 0, cells := 0, slots := 0, locals := 0 } : Room) s m args below meth c s.heap [] 0 0 (MQ below (ez_Ri z) args s 0 0 (fun _ => False)) (F0 m 0 ls []) := by
  intro n
  intro ls hl h
  rw [fX3_length] at h
  have C1 := C0
  obtain ⟨hx, hb, hr, hml, hown, hw, hlk, hA, hN⟩ := C1
  refine lv_aload_n (pc := 0) hx hb dX3_length_0 rfl (lv_at hl 0 rfl) ?_
  refine va_get (D := D) (pc := 1) hx hb hw inX3 hown hK hP 0 rfl rfl 1 (by decide) (hw _ mw76) (fun _ h9 => h9) rfl dX3_length_1 ?_
  obtain rfl := ez_r1 h
  exact ez_rroI C0 dX3_length_4
set_option maxRecDepth 100000 in
theorem kX3_length (l : Launch) (D : va_G) (a : Nat → Nat) (k : Nat → ClassId) (n : Nat) (w : Wd) (z : Int32) (h : fX3_length n w = some z) : Met l yX3_length wsX3_length ({ frames := 0, cells := 0, slots := 0, locals := 0 } : Room) (ez_Rc D (tC k) [.ref (a 0)] (wC a k w)) (ez_Ri z) 0 0 (fun _ => False) :=
  ez_mkR (by decide) rfl (Nat.le_of_ble_eq_true rfl) (fun p e s m below meth c ls C0 hl hP hK => tX3_length_0 C0 hK hP n ls (lv_sub (l := [(0, .ref (a 0))]) hl [0] rfl) h)
/-! EnclosureCalculator faultOf -/
theorem dX3_faultOf_0 : decode cX3_faultOf 0 = .ok (.iload_n 2, 1) := by decide +kernel
theorem dX3_faultOf_1 : decode cX3_faultOf 1 = .ok (.iconst (-1), 1) := by decide +kernel
theorem dX3_faultOf_2 : decode cX3_faultOf 2 = .ok (.if_icmp .eq 10, 3) := by decide +kernel
theorem dX3_faultOf_5 : decode cX3_faultOf 5 = .ok (.aload_n 1, 1) := by decide +kernel
theorem dX3_faultOf_6 : decode cX3_faultOf 6 = .ok (.invokevirtual 120, 3) := by decide +kernel
theorem dX3_faultOf_9 : decode cX3_faultOf 9 = .ok (.ifCond .ne 6, 3) := by decide +kernel
theorem dX3_faultOf_12 : decode cX3_faultOf 12 = .ok (.bipush (-2), 2) := by decide +kernel
theorem dX3_faultOf_14 : decode cX3_faultOf 14 = .ok (.ireturn, 1) := by decide +kernel
theorem dX3_faultOf_15 : decode cX3_faultOf 15 = .ok (.aload_n 1, 1) := by decide +kernel
theorem dX3_faultOf_16 : decode cX3_faultOf 16 = .ok (.invokevirtual 124, 3) := by decide +kernel
theorem dX3_faultOf_19 : decode cX3_faultOf 19 = .ok (.ifCond .eq 6, 3) := by decide +kernel
theorem dX3_faultOf_22 : decode cX3_faultOf 22 = .ok (.bipush (-3), 2) := by decide +kernel
theorem dX3_faultOf_24 : decode cX3_faultOf 24 = .ok (.ireturn, 1) := by decide +kernel
theorem dX3_faultOf_25 : decode cX3_faultOf 25 = .ok (.aload_n 0, 1) := by decide +kernel
theorem dX3_faultOf_26 : decode cX3_faultOf 26 = .ok (.getfield 16, 3) := by decide +kernel
theorem dX3_faultOf_29 : decode cX3_faultOf 29 = .ok (.invokevirtual 127, 3) := by decide +kernel
theorem dX3_faultOf_32 : decode cX3_faultOf 32 = .ok (.ifCond .eq 8, 3) := by decide +kernel
theorem dX3_faultOf_35 : decode cX3_faultOf 35 = .ok (.bipush (-4), 2) := by decide +kernel
theorem dX3_faultOf_37 : decode cX3_faultOf 37 = .ok (.goto 4, 3) := by decide +kernel
theorem dX3_faultOf_40 : decode cX3_faultOf 40 = .ok (.iconst 0, 1) := by decide +kernel
theorem dX3_faultOf_41 : decode cX3_faultOf 41 = .ok (.ireturn, 1) := by decide +kernel
def fX3_faultOf (n : Nat) (x2 : Int32) (w : Wd) (v : Nat → Int32) : Option (Int32) :=
    if x2 = (-1) then
      some (-2)
    else
      (fX1_isAtEnd n w v).bind fun z2 =>
      if z2 = 0 then
        some (-2)
      else
        (fX1_metUnknownLetter n w v).bind fun z5 =>
        if z5 = 0 then
          (fX0_isOverfull n w).bind fun z8 =>
          if z8 = 0 then
            some 0
          else
            some (-4)
        else
          some (-3)
set_option maxHeartbeats 4000000 in
set_option maxRecDepth 100000 in
theorem tX3_faultOf_0 {p : Program} {l : Launch} {e : Env} {s : State} {m : MethodId} {args : Array Value} {below : List Frame} {meth : Method} {c : Code} {D : va_G} {a : Nat → Nat} {k : Nat → ClassId} {b : Nat} {z : Int32} {w : Wd} {v : Nat → Int32} (C0 : ez_C p s m args meth c cX3_faultOf (some .int) 3 RX3 (fun _ => True)) (hK : va_K D vwCl (tC k) s) (hP : va_P D vwCl (wR b a k w v) s.heap) : ∀ (n : Nat) (ls : Array Slot) (x2 : Int32), lv_has ls 3 [(0, .ref (a 0)), (1, .ref b), (2, .int x2)] → fX3_faultOf n x2 w v = some z → W p l e ({ frames := 1, cells := 0, slots := 0, locals := 20 } : Room) s m args below meth c s.heap [] 0 0 (MQ below (ez_Ri z) args s 0 0 (fun _ => False)) (F0 m 0 ls []) := by
  intro n
  intro ls x2 hl h
  rw [fX3_faultOf] at h
  have C1 := C0
  obtain ⟨hx, hb, hr, hml, hown, hw, hlk, hA, hN⟩ := C1
  refine lv_iload_n (pc := 0) hx hb dX3_faultOf_0 rfl (lv_at hl 2 rfl) ?_
  refine lv_iconst (v := (-1)) (pc := 1) hx hb dX3_faultOf_1 rfl ?_
  refine lv_icmp_eq (pc := 2) (tgt := 12) hx hb dX3_faultOf_2 (by decide) (fun c1 => ?_) (fun c1 => ?_)
  · replace h := ez_it c1 h
    refine lv_bipush (v := (-2)) (pc := 12) hx hb dX3_faultOf_12 rfl ?_
    obtain rfl := ez_r1 h
    exact ez_rroI C0 dX3_faultOf_14
  · replace h := ez_if c1 h
    refine lv_aload_n (pc := 5) hx hb dX3_faultOf_5 rfl (lv_at hl 1 rfl) ?_
    replace h := ez_bd h
    obtain ⟨z2, e3, h⟩ := h
    refine ez_croI (r := z2) (pc := 6) (va_runV (g := F0 m 6 ls [.ref b]) (As := []) (rest := []) ⟨hx, hb, hml, hown, hw⟩ (kX1_isAtEnd l D a k b n w v z2 e3) (cwV 0 hw (ez_gV mw223 mw224 mw225 mw5 mw226) rfl rfl rfl (by decide +kernel) ⟨Nat.le_of_ble_eq_true rfl, Nat.le_of_ble_eq_true rfl⟩) (ez_preRV (wr := []) (wl := (wR b a k w v)) hP hK hN 0 rfl rfl) rfl rfl hl.1 rfl (lv_room (Nat.le_of_ble_eq_true rfl)) dX3_faultOf_6 ⟨Nat.le_refl _, Nat.le_refl _⟩) ?_
    refine lv_if_ne (pc := 9) (tgt := 15) hx hb dX3_faultOf_9 (by decide) (fun c4 => ?_) (fun c4 => ?_)
    · replace h := ez_if c4 h
      refine lv_aload_n (pc := 15) hx hb dX3_faultOf_15 rfl (lv_at hl 1 rfl) ?_
      replace h := ez_bd h
      obtain ⟨z5, e6, h⟩ := h
      refine ez_croI (r := z5) (pc := 16) (va_runV (g := F0 m 16 ls [.ref b]) (As := []) (rest := []) ⟨hx, hb, hml, hown, hw⟩ (kX1_metUnknownLetter l D a k b n w v z5 e6) (cwV 0 hw (ez_gV mw227 mw228 mw229 mw5 mw230) rfl rfl rfl (by decide +kernel) ⟨Nat.le_of_ble_eq_true rfl, Nat.le_of_ble_eq_true rfl⟩) (ez_preRV (wr := []) (wl := (wR b a k w v)) hP hK hN 0 rfl rfl) rfl rfl hl.1 rfl (lv_room (Nat.le_of_ble_eq_true rfl)) dX3_faultOf_16 ⟨Nat.le_refl _, Nat.le_refl _⟩) ?_
      refine lv_if_eq (pc := 19) (tgt := 25) hx hb dX3_faultOf_19 (by decide) (fun c7 => ?_) (fun c7 => ?_)
      · replace h := ez_it c7 h
        refine lv_aload_n (pc := 25) hx hb dX3_faultOf_25 rfl (lv_at hl 0 rfl) ?_
        refine va_get (D := D) (pc := 26) hx hb hw inX3 hown hK hP 1 rfl rfl 2 (by decide) (hw _ mw77) (fun _ h9 => h9) rfl dX3_faultOf_26 ?_
        replace h := ez_bd h
        obtain ⟨z8, e9, h⟩ := h
        refine ez_croI (r := z8) (pc := 29) (va_runV (g := F0 m 29 ls [.ref (a 2)]) (As := []) (rest := []) ⟨hx, hb, hml, hown, hw⟩ (kX0_isOverfull l D a k n w z8 e9) (cwV 0 hw (ez_gV mw231 mw232 mw233 mw2 mw234) rfl rfl rfl (by decide +kernel) ⟨Nat.le_of_ble_eq_true rfl, Nat.le_of_ble_eq_true rfl⟩) (ez_preRV (wr := (rdc b a v)) (wl := (wC a k w)) hP hK hN 2 rfl rfl) rfl rfl hl.1 rfl (lv_room (Nat.le_of_ble_eq_true rfl)) dX3_faultOf_29 ⟨Nat.le_refl _, Nat.le_refl _⟩) ?_
        refine lv_if_eq (pc := 32) (tgt := 40) hx hb dX3_faultOf_32 (by decide) (fun c10 => ?_) (fun c10 => ?_)
        · replace h := ez_it c10 h
          refine lv_iconst (v := 0) (pc := 40) hx hb dX3_faultOf_40 rfl ?_
          obtain rfl := ez_r1 h
          exact ez_rroI C0 dX3_faultOf_41
        · replace h := ez_if c10 h
          refine lv_bipush (v := (-4)) (pc := 35) hx hb dX3_faultOf_35 rfl ?_
          refine lv_goto (pc := 37) (tgt := 41) hx hb dX3_faultOf_37 (by decide) ?_
          obtain rfl := ez_r1 h
          exact ez_rroI C0 dX3_faultOf_41
      · replace h := ez_if c7 h
        refine lv_bipush (v := (-3)) (pc := 22) hx hb dX3_faultOf_22 rfl ?_
        obtain rfl := ez_r1 h
        exact ez_rroI C0 dX3_faultOf_24
    · replace h := ez_it c4 h
      refine lv_bipush (v := (-2)) (pc := 12) hx hb dX3_faultOf_12 rfl ?_
      obtain rfl := ez_r1 h
      exact ez_rroI C0 dX3_faultOf_14
set_option maxRecDepth 100000 in
theorem kX3_faultOf (l : Launch) (D : va_G) (a : Nat → Nat) (k : Nat → ClassId) (b : Nat) (n : Nat) (x2 : Int32) (w : Wd) (v : Nat → Int32) (z : Int32) (h : fX3_faultOf n x2 w v = some z) : Met l yX3_faultOf wsX3_faultOf ({ frames := 1, cells := 0, slots := 0, locals := 20 } : Room) (ez_Rc D (tC k) [.ref (a 0), .ref b, .int x2] (wR b a k w v)) (ez_Ri z) 0 0 (fun _ => False) :=
  ez_mkR (by decide) rfl (Nat.le_of_ble_eq_true rfl) (fun p e s m below meth c ls C0 hl hP hK => tX3_faultOf_0 C0 hK hP n ls x2 (lv_sub (l := [(0, .ref (a 0)), (1, .ref b), (2, .int x2)]) hl [0, 1, 2] rfl) h)
/-! EnclosureCalculator clear -/
theorem dX3_clear_0 : decode cX3_clear 0 = .ok (.aload_n 0, 1) := by decide +kernel
theorem dX3_clear_1 : decode cX3_clear 1 = .ok (.invokevirtual 31, 3) := by decide +kernel
theorem dX3_clear_4 : decode cX3_clear 4 = .ok (.return_, 1) := by decide +kernel
def fX3_clear (n : Nat) (w : Wd) : Option (Wd) :=
    (fX3_forgetAll n w).bind fun z1 =>
    some z1
set_option maxHeartbeats 4000000 in
set_option maxRecDepth 100000 in
theorem tX3_clear_0 {p : Program} {l : Launch} {e : Env} {s : State} {m : MethodId} {args : Array Value} {below : List Frame} {meth : Method} {c : Code} {A : Nat → Prop} {D : va_G} {a : Nat → Nat} {k : Nat → ClassId} {z : Wd} (C0 : ez_C p s m args meth c cX3_clear none 1 RX3 A) (hK : va_K D vwCl (tC k) s) : ∀ (n : Nat) (H : Heap) (locs : List Loc) (ls : Array Slot) (w : Wd), lv_has ls 1 [(0, .ref (a 0))] → va_P D vwCl (wC a k w) H → va_D A (wC a k w) → va_S A s.heap H locs → fX3_clear n w = some z → W p l e ({ frames := 2, cells := 0, slots := 0, locals := 42 } : Room) s m args below meth c H locs 0 0 (MQ below (ez_Qv D (tC k) A (wC a k z)) args s 0 0 A) (F0 m 0 ls []) := by
  intro n
  intro H locs ls w hl hP hD hS h
  rw [fX3_clear] at h
  have C1 := C0
  obtain ⟨hx, hb, hr, hml, hown, hw, hlk, hA, hN⟩ := C1
  refine lv_aload_n (pc := 0) hx hb dX3_clear_0 rfl (lv_at hl 0 rfl) ?_
  replace h := ez_bd h
  obtain ⟨z1, e2, h⟩ := h
  refine ez_callV (pc := 1) (wr := []) (wl := (wC a k w)) (wl' := (wC a k z1)) (va_runV (g := F0 m 1 ls [.ref (a 0)]) (As := []) (rest := []) ⟨hx, hb, hml, hown, hw⟩ (kX3_forgetAll l D a k n w z1 e2 H.size) (cwV 0 hw (ez_gV mw63 mw65 mp0 mw1 mw66) rfl rfl rfl (by decide +kernel) ⟨Nat.le_of_ble_eq_true rfl, Nat.le_of_ble_eq_true rfl⟩) (ez_preV (wr := []) (wl := (wC a k w)) hP hD hK hN 0 rfl rfl) rfl rfl hl.1 rfl (lv_room (Nat.le_of_ble_eq_true rfl)) dX3_clear_1 ⟨Nat.le_refl _, Nat.le_refl _⟩) hP hD hS hA (fun H locs hP hD hS => ?_)
  replace hP : va_P D vwCl (wC a k z1) H := hP
  replace hD : va_D A (wC a k z1) := hD
  obtain rfl := ez_r1 h
  exact ez_retV C0 hP hD hK hS dX3_clear_4
set_option maxRecDepth 100000 in
theorem kX3_clear (l : Launch) (D : va_G) (a : Nat → Nat) (k : Nat → ClassId) (n : Nat) (w : Wd) (z : Wd) (h : fX3_clear n w = some z) (sz : Nat) : Met l yX3_clear wsX3_clear ({ frames := 2, cells := 0, slots := 0, locals := 42 } : Room) (ez_Pc D (tC k) [.ref (a 0)] (wC a k w) sz) (ez_Qv D (tC k) (va_A (wC a k w) sz) (wC a k z)) 0 0 (va_A (wC a k w) sz) :=
  ez_mk (Qf := fun A => (ez_Qv D (tC k) A (wC a k z))) (by decide) rfl (Nat.le_of_ble_eq_true rfl) (fun p e s m below meth c A ls C0 _ hl hP hD hK => tX3_clear_0 C0 hK n s.heap [] ls w (lv_sub (l := [(0, .ref (a 0))]) hl [0] rfl) hP hD va_S.rf h) sz
/-! EnclosureCalculator isGiven -/
theorem dX3_isGiven_0 : decode cX3_isGiven 0 = .ok (.iload_n 1, 1) := by decide +kernel
theorem dX3_isGiven_1 : decode cX3_isGiven 1 = .ok (.invokestatic 42, 3) := by decide +kernel
theorem dX3_isGiven_4 : decode cX3_isGiven 4 = .ok (.ifCond .eq 17, 3) := by decide +kernel
theorem dX3_isGiven_7 : decode cX3_isGiven 7 = .ok (.aload_n 0, 1) := by decide +kernel
theorem dX3_isGiven_8 : decode cX3_isGiven 8 = .ok (.getfield 20, 3) := by decide +kernel
theorem dX3_isGiven_11 : decode cX3_isGiven 11 = .ok (.iload_n 1, 1) := by decide +kernel
theorem dX3_isGiven_12 : decode cX3_isGiven 12 = .ok (.iaload, 1) := by decide +kernel
theorem dX3_isGiven_13 : decode cX3_isGiven 13 = .ok (.iconst (-1), 1) := by decide +kernel
theorem dX3_isGiven_14 : decode cX3_isGiven 14 = .ok (.if_icmp .eq 7, 3) := by decide +kernel
theorem dX3_isGiven_17 : decode cX3_isGiven 17 = .ok (.iconst 1, 1) := by decide +kernel
theorem dX3_isGiven_18 : decode cX3_isGiven 18 = .ok (.goto 4, 3) := by decide +kernel
theorem dX3_isGiven_21 : decode cX3_isGiven 21 = .ok (.iconst 0, 1) := by decide +kernel
theorem dX3_isGiven_22 : decode cX3_isGiven 22 = .ok (.ireturn, 1) := by decide +kernel
def fX3_isGiven (n : Nat) (x1 : Int32) (w : Wd) : Option (Int32) :=
    (fX3_isName n x1).bind fun z1 =>
    if z1 = 0 then
      some 0
    else
      (ez_ldI w 3 8 x1).bind fun y5 =>
      if y5 = (-1) then
        some 0
      else
        some 1
set_option maxHeartbeats 4000000 in
set_option maxRecDepth 100000 in
theorem tX3_isGiven_0 {p : Program} {l : Launch} {e : Env} {s : State} {m : MethodId} {args : Array Value} {below : List Frame} {meth : Method} {c : Code} {D : va_G} {a : Nat → Nat} {k : Nat → ClassId} {z : Int32} {w : Wd} (C0 : ez_C p s m args meth c cX3_isGiven (some .boolean) 2 RX3 (fun _ => True)) (hK : va_K D vwCl (tC k) s) (hP : va_P D vwCl (wC a k w) s.heap) : ∀ (n : Nat) (ls : Array Slot) (x1 : Int32), lv_has ls 2 [(0, .ref (a 0)), (1, .int x1)] → fX3_isGiven n x1 w = some z → W p l e ({ frames := 1, cells := 0, slots := 0, locals := 20 } : Room) s m args below meth c s.heap [] 0 0 (MQ below (ez_Ri z) args s 0 0 (fun _ => False)) (F0 m 0 ls []) := by
  intro n
  intro ls x1 hl h
  rw [fX3_isGiven] at h
  have C1 := C0
  obtain ⟨hx, hb, hr, hml, hown, hw, hlk, hA, hN⟩ := C1
  refine lv_iload_n (pc := 0) hx hb dX3_isGiven_0 rfl (lv_at hl 1 rfl) ?_
  replace h := ez_bd h
  obtain ⟨z1, e2, h⟩ := h
  refine ez_croI (r := z1) (pc := 1) (va_runS (g := F0 m 1 ls [.int x1]) (As := [.int x1]) (rest := []) ⟨hx, hb, hml, hown, hw⟩ (kX3_isName l n x1 z1 e2) (va_cwS 1 hw (ez_gS mw128 mw129 mw1 mw130) rfl rfl rfl (by decide +kernel) ⟨Nat.le_of_ble_eq_true rfl, Nat.le_of_ble_eq_true rfl⟩) (ez_preRS hN) rfl rfl hl.1 rfl (lv_room (Nat.le_of_ble_eq_true rfl)) dX3_isGiven_1 ⟨Nat.le_refl _, Nat.le_refl _⟩) ?_
  refine lv_if_eq (pc := 4) (tgt := 21) hx hb dX3_isGiven_4 (by decide) (fun c3 => ?_) (fun c3 => ?_)
  · replace h := ez_it c3 h
    refine lv_iconst (v := 0) (pc := 21) hx hb dX3_isGiven_21 rfl ?_
    obtain rfl := ez_r1 h
    exact ez_rroZ C0 (rfl) dX3_isGiven_22
  · replace h := ez_if c3 h
    refine lv_aload_n (pc := 7) hx hb dX3_isGiven_7 rfl (lv_at hl 0 rfl) ?_
    refine va_get (D := D) (pc := 8) hx hb hw inX3 hown hK hP 0 rfl rfl 3 (by decide) (hw _ mw78) (fun _ h9 => h9) rfl dX3_isGiven_8 ?_
    refine lv_iload_n (pc := 11) hx hb dX3_isGiven_11 rfl (lv_at hl 1 rfl) ?_
    replace h := ez_bd h
    obtain ⟨y5, e4, h⟩ := h
    obtain ⟨e4i, e4⟩ := ez_ldIs e4
    refine va_iald (D := D) (pc := 12) hx hb hK hP 3 1 rfl rfl e4i dX3_isGiven_12 ?_
    refine lv_topi (fun y9 hy9 => ?_)
    obtain rfl : y5 = y9 := e4.trans hy9.symm
    refine lv_iconst (v := (-1)) (pc := 13) hx hb dX3_isGiven_13 rfl ?_
    refine lv_icmp_eq (pc := 14) (tgt := 21) hx hb dX3_isGiven_14 (by decide) (fun c6 => ?_) (fun c6 => ?_)
    · replace h := ez_it c6 h
      refine lv_iconst (v := 0) (pc := 21) hx hb dX3_isGiven_21 rfl ?_
      obtain rfl := ez_r1 h
      exact ez_rroZ C0 (rfl) dX3_isGiven_22
    · replace h := ez_if c6 h
      refine lv_iconst (v := 1) (pc := 17) hx hb dX3_isGiven_17 rfl ?_
      refine lv_goto (pc := 18) (tgt := 22) hx hb dX3_isGiven_18 (by decide) ?_
      obtain rfl := ez_r1 h
      exact ez_rroZ C0 (rfl) dX3_isGiven_22
set_option maxRecDepth 100000 in
theorem kX3_isGiven (l : Launch) (D : va_G) (a : Nat → Nat) (k : Nat → ClassId) (n : Nat) (x1 : Int32) (w : Wd) (z : Int32) (h : fX3_isGiven n x1 w = some z) : Met l yX3_isGiven wsX3_isGiven ({ frames := 1, cells := 0, slots := 0, locals := 20 } : Room) (ez_Rc D (tC k) [.ref (a 0), .int x1] (wC a k w)) (ez_Ri z) 0 0 (fun _ => False) :=
  ez_mkR (by decide) rfl (Nat.le_of_ble_eq_true rfl) (fun p e s m below meth c ls C0 hl hP hK => tX3_isGiven_0 C0 hK hP n ls x1 (lv_sub (l := [(0, .ref (a 0)), (1, .int x1)]) hl [0, 1] rfl) h)
/-! EnclosureCalculator parts -/
theorem dX3_parts_0 : decode cX3_parts 0 = .ok (.aload_n 0, 1) := by decide +kernel
theorem dX3_parts_1 : decode cX3_parts 1 = .ok (.iload_n 1, 1) := by decide +kernel
theorem dX3_parts_2 : decode cX3_parts 2 = .ok (.invokevirtual 66, 3) := by decide +kernel
theorem dX3_parts_5 : decode cX3_parts 5 = .ok (.ifCond .ne 5, 3) := by decide +kernel
theorem dX3_parts_8 : decode cX3_parts 8 = .ok (.iconst (-1), 1) := by decide +kernel
theorem dX3_parts_9 : decode cX3_parts 9 = .ok (.ireturn, 1) := by decide +kernel
theorem dX3_parts_10 : decode cX3_parts 10 = .ok (.aload_n 0, 1) := by decide +kernel
theorem dX3_parts_11 : decode cX3_parts 11 = .ok (.getfield 27, 3) := by decide +kernel
theorem dX3_parts_14 : decode cX3_parts 14 = .ok (.aload_n 0, 1) := by decide +kernel
theorem dX3_parts_15 : decode cX3_parts 15 = .ok (.getfield 16, 3) := by decide +kernel
theorem dX3_parts_18 : decode cX3_parts 18 = .ok (.aload_n 0, 1) := by decide +kernel
theorem dX3_parts_19 : decode cX3_parts 19 = .ok (.getfield 20, 3) := by decide +kernel
theorem dX3_parts_22 : decode cX3_parts 22 = .ok (.iload_n 1, 1) := by decide +kernel
theorem dX3_parts_23 : decode cX3_parts 23 = .ok (.iaload, 1) := by decide +kernel
theorem dX3_parts_24 : decode cX3_parts 24 = .ok (.aload_n 0, 1) := by decide +kernel
theorem dX3_parts_25 : decode cX3_parts 25 = .ok (.getfield 20, 3) := by decide +kernel
theorem dX3_parts_28 : decode cX3_parts 28 = .ok (.iload_n 1, 1) := by decide +kernel
theorem dX3_parts_29 : decode cX3_parts 29 = .ok (.iaload, 1) := by decide +kernel
theorem dX3_parts_30 : decode cX3_parts 30 = .ok (.invokevirtual 69, 3) := by decide +kernel
theorem dX3_parts_33 : decode cX3_parts 33 = .ok (.ireturn, 1) := by decide +kernel
def fX3_parts (n : Nat) (x1 : Int32) (w : Wd) : Option (Int32 × Wd) :=
    (fX3_isGiven n x1 w).bind fun z1 =>
    if z1 = 0 then
      some ((-1), w)
    else
      (ez_ldI w 3 8 x1).bind fun y5 =>
      (ez_ldI w 3 8 x1).bind fun y7 =>
      (fX2_choose n y5 y7 w).bind fun z8 =>
      some (z8.1, z8.2)
set_option maxHeartbeats 4000000 in
set_option maxRecDepth 100000 in
theorem tX3_parts_0 {p : Program} {l : Launch} {e : Env} {s : State} {m : MethodId} {args : Array Value} {below : List Frame} {meth : Method} {c : Code} {A : Nat → Prop} {D : va_G} {a : Nat → Nat} {k : Nat → ClassId} {z : Int32 × Wd} (C0 : ez_C p s m args meth c cX3_parts (some .int) 2 RX3 A) (hK : va_K D vwCl (tC k) s) : ∀ (n : Nat) (H : Heap) (locs : List Loc) (ls : Array Slot) (x1 : Int32) (w : Wd), lv_has ls 2 [(0, .ref (a 0)), (1, .int x1)] → va_P D vwCl (wC a k w) H → va_D A (wC a k w) → va_S A s.heap H locs → fX3_parts n x1 w = some z → W p l e ({ frames := 3, cells := 0, slots := 0, locals := 66 } : Room) s m args below meth c H locs 0 0 (MQ below (ez_Qi D (tC k) A z.1 (wC a k z.2)) args s 0 0 A) (F0 m 0 ls []) := by
  intro n
  intro H locs ls x1 w hl hP hD hS h
  rw [fX3_parts] at h
  have C1 := C0
  obtain ⟨hx, hb, hr, hml, hown, hw, hlk, hA, hN⟩ := C1
  refine lv_aload_n (pc := 0) hx hb dX3_parts_0 rfl (lv_at hl 0 rfl) ?_
  refine lv_iload_n (pc := 1) hx hb dX3_parts_1 rfl (lv_at hl 1 rfl) ?_
  replace h := ez_bd h
  obtain ⟨z1, e2, h⟩ := h
  refine ez_croI (r := z1) (pc := 2) (va_runV (g := F0 m 2 ls [.int x1, .ref (a 0)]) (As := [.int x1]) (rest := []) ⟨hx, hb, hml, hown, hw⟩ (kX3_isGiven l D a k n x1 w z1 e2) (cwV 1 hw (ez_gV mw243 mw245 mp13 mw1 mw246) rfl rfl rfl (by decide +kernel) ⟨Nat.le_of_ble_eq_true rfl, Nat.le_of_ble_eq_true rfl⟩) (ez_preRV (wr := []) (wl := (wC a k w)) hP hK hN 0 rfl rfl) rfl rfl hl.1 rfl (lv_room (Nat.le_of_ble_eq_true rfl)) dX3_parts_2 ⟨Nat.le_refl _, Nat.le_refl _⟩) ?_
  refine lv_if_ne (pc := 5) (tgt := 10) hx hb dX3_parts_5 (by decide) (fun c3 => ?_) (fun c3 => ?_)
  · replace h := ez_if c3 h
    refine lv_aload_n (pc := 10) hx hb dX3_parts_10 rfl (lv_at hl 0 rfl) ?_
    refine va_get (D := D) (pc := 11) hx hb hw inX3 hown hK hP 0 rfl rfl 4 (by decide) (hw _ mw79) (fun _ h9 => h9) rfl dX3_parts_11 ?_
    refine lv_aload_n (pc := 14) hx hb dX3_parts_14 rfl (lv_at hl 0 rfl) ?_
    refine va_get (D := D) (pc := 15) hx hb hw inX3 hown hK hP 0 rfl rfl 2 (by decide) (hw _ mw77) (fun _ h9 => h9) rfl dX3_parts_15 ?_
    refine lv_aload_n (pc := 18) hx hb dX3_parts_18 rfl (lv_at hl 0 rfl) ?_
    refine va_get (D := D) (pc := 19) hx hb hw inX3 hown hK hP 0 rfl rfl 3 (by decide) (hw _ mw78) (fun _ h9 => h9) rfl dX3_parts_19 ?_
    refine lv_iload_n (pc := 22) hx hb dX3_parts_22 rfl (lv_at hl 1 rfl) ?_
    replace h := ez_bd h
    obtain ⟨y5, e4, h⟩ := h
    obtain ⟨e4i, e4⟩ := ez_ldIs e4
    refine va_iald (D := D) (pc := 23) hx hb hK hP 3 1 rfl rfl e4i dX3_parts_23 ?_
    refine lv_topi (fun y9 hy9 => ?_)
    obtain rfl : y5 = y9 := e4.trans hy9.symm
    refine lv_aload_n (pc := 24) hx hb dX3_parts_24 rfl (lv_at hl 0 rfl) ?_
    refine va_get (D := D) (pc := 25) hx hb hw inX3 hown hK hP 0 rfl rfl 3 (by decide) (hw _ mw78) (fun _ h9 => h9) rfl dX3_parts_25 ?_
    refine lv_iload_n (pc := 28) hx hb dX3_parts_28 rfl (lv_at hl 1 rfl) ?_
    replace h := ez_bd h
    obtain ⟨y7, e6, h⟩ := h
    obtain ⟨e6i, e6⟩ := ez_ldIs e6
    refine va_iald (D := D) (pc := 29) hx hb hK hP 3 1 rfl rfl e6i dX3_parts_29 ?_
    refine lv_topi (fun y9 hy9 => ?_)
    obtain rfl : y7 = y9 := e6.trans hy9.symm
    replace h := ez_bd h
    obtain ⟨z8, e9, h⟩ := h
    refine ez_callI (r := z8.1) (pc := 30) (wr := []) (wl := (wC a k w)) (wl' := (wC a k z8.2)) (va_runV (g := F0 m 30 ls [.int y7, .int y5, .ref (a 2), .ref (a 4)]) (As := [.ref (a 2), .int y5, .int y7]) (rest := []) ⟨hx, hb, hml, hown, hw⟩ (kX2_choose l D a k n y5 y7 w z8 e9 H.size) (cwV 3 hw (ez_gV mw247 mw248 mw249 mw3 mw250) rfl rfl rfl (by decide +kernel) ⟨Nat.le_of_ble_eq_true rfl, Nat.le_of_ble_eq_true rfl⟩) (ez_preV (wr := []) (wl := (wC a k w)) hP hD hK hN 4 rfl rfl) rfl rfl hl.1 rfl (lv_room (Nat.le_of_ble_eq_true rfl)) dX3_parts_30 ⟨Nat.le_refl _, Nat.le_refl _⟩) hP hD hS hA (fun H locs hP hD hS => ?_)
    replace hP : va_P D vwCl (wC a k z8.2) H := hP
    replace hD : va_D A (wC a k z8.2) := hD
    obtain rfl := ez_r1 h
    exact ez_retI C0 hP hD hK hS dX3_parts_33
  · replace h := ez_it c3 h
    refine lv_iconst (v := (-1)) (pc := 8) hx hb dX3_parts_8 rfl ?_
    obtain rfl := ez_r1 h
    exact ez_retI C0 hP hD hK hS dX3_parts_9
set_option maxRecDepth 100000 in
theorem kX3_parts (l : Launch) (D : va_G) (a : Nat → Nat) (k : Nat → ClassId) (n : Nat) (x1 : Int32) (w : Wd) (z : Int32 × Wd) (h : fX3_parts n x1 w = some z) (sz : Nat) : Met l yX3_parts wsX3_parts ({ frames := 3, cells := 0, slots := 0, locals := 66 } : Room) (ez_Pc D (tC k) [.ref (a 0), .int x1] (wC a k w) sz) (ez_Qi D (tC k) (va_A (wC a k w) sz) z.1 (wC a k z.2)) 0 0 (va_A (wC a k w) sz) :=
  ez_mk (Qf := fun A => (ez_Qi D (tC k) A z.1 (wC a k z.2))) (by decide) rfl (Nat.le_of_ble_eq_true rfl) (fun p e s m below meth c A ls C0 _ hl hP hD hK => tX3_parts_0 C0 hK n s.heap [] ls x1 w (lv_sub (l := [(0, .ref (a 0)), (1, .int x1)]) hl [0, 1] rfl) hP hD va_S.rf h) sz
/-! EnclosureCalculator judgeTwo -/
theorem dX3_judgeTwo_0 : decode cX3_judgeTwo 0 = .ok (.aload_n 0, 1) := by decide +kernel
theorem dX3_judgeTwo_1 : decode cX3_judgeTwo 1 = .ok (.getfield 27, 3) := by decide +kernel
theorem dX3_judgeTwo_4 : decode cX3_judgeTwo 4 = .ok (.iload_n 1, 1) := by decide +kernel
theorem dX3_judgeTwo_5 : decode cX3_judgeTwo 5 = .ok (.invokevirtual 148, 3) := by decide +kernel
theorem dX3_judgeTwo_8 : decode cX3_judgeTwo 8 = .ok (.ifCond .ne 14, 3) := by decide +kernel
theorem dX3_judgeTwo_11 : decode cX3_judgeTwo 11 = .ok (.aload_n 0, 1) := by decide +kernel
theorem dX3_judgeTwo_12 : decode cX3_judgeTwo 12 = .ok (.getfield 27, 3) := by decide +kernel
theorem dX3_judgeTwo_15 : decode cX3_judgeTwo 15 = .ok (.iload_n 2, 1) := by decide +kernel
theorem dX3_judgeTwo_16 : decode cX3_judgeTwo 16 = .ok (.invokevirtual 148, 3) := by decide +kernel
theorem dX3_judgeTwo_19 : decode cX3_judgeTwo 19 = .ok (.ifCond .eq 5, 3) := by decide +kernel
theorem dX3_judgeTwo_22 : decode cX3_judgeTwo 22 = .ok (.iconst 2, 1) := by decide +kernel
theorem dX3_judgeTwo_23 : decode cX3_judgeTwo 23 = .ok (.ireturn, 1) := by decide +kernel
theorem dX3_judgeTwo_24 : decode cX3_judgeTwo 24 = .ok (.aload_n 0, 1) := by decide +kernel
theorem dX3_judgeTwo_25 : decode cX3_judgeTwo 25 = .ok (.getfield 27, 3) := by decide +kernel
theorem dX3_judgeTwo_28 : decode cX3_judgeTwo 28 = .ok (.iload_n 1, 1) := by decide +kernel
theorem dX3_judgeTwo_29 : decode cX3_judgeTwo 29 = .ok (.invokevirtual 151, 3) := by decide +kernel
theorem dX3_judgeTwo_32 : decode cX3_judgeTwo 32 = .ok (.ifCond .eq 14, 3) := by decide +kernel
theorem dX3_judgeTwo_35 : decode cX3_judgeTwo 35 = .ok (.aload_n 0, 1) := by decide +kernel
theorem dX3_judgeTwo_36 : decode cX3_judgeTwo 36 = .ok (.getfield 27, 3) := by decide +kernel
theorem dX3_judgeTwo_39 : decode cX3_judgeTwo 39 = .ok (.iload_n 2, 1) := by decide +kernel
theorem dX3_judgeTwo_40 : decode cX3_judgeTwo 40 = .ok (.invokevirtual 151, 3) := by decide +kernel
theorem dX3_judgeTwo_43 : decode cX3_judgeTwo 43 = .ok (.ifCond .ne 5, 3) := by decide +kernel
theorem dX3_judgeTwo_46 : decode cX3_judgeTwo 46 = .ok (.iconst 0, 1) := by decide +kernel
theorem dX3_judgeTwo_47 : decode cX3_judgeTwo 47 = .ok (.ireturn, 1) := by decide +kernel
theorem dX3_judgeTwo_48 : decode cX3_judgeTwo 48 = .ok (.aload_n 0, 1) := by decide +kernel
theorem dX3_judgeTwo_49 : decode cX3_judgeTwo 49 = .ok (.getfield 27, 3) := by decide +kernel
theorem dX3_judgeTwo_52 : decode cX3_judgeTwo 52 = .ok (.iload_n 1, 1) := by decide +kernel
theorem dX3_judgeTwo_53 : decode cX3_judgeTwo 53 = .ok (.invokevirtual 117, 3) := by decide +kernel
theorem dX3_judgeTwo_56 : decode cX3_judgeTwo 56 = .ok (.aload_n 0, 1) := by decide +kernel
theorem dX3_judgeTwo_57 : decode cX3_judgeTwo 57 = .ok (.getfield 27, 3) := by decide +kernel
theorem dX3_judgeTwo_60 : decode cX3_judgeTwo 60 = .ok (.iload_n 2, 1) := by decide +kernel
theorem dX3_judgeTwo_61 : decode cX3_judgeTwo 61 = .ok (.invokevirtual 113, 3) := by decide +kernel
theorem dX3_judgeTwo_64 : decode cX3_judgeTwo 64 = .ok (.lcmp, 1) := by decide +kernel
theorem dX3_judgeTwo_65 : decode cX3_judgeTwo 65 = .ok (.ifCond .ge 5, 3) := by decide +kernel
theorem dX3_judgeTwo_68 : decode cX3_judgeTwo 68 = .ok (.iconst 3, 1) := by decide +kernel
theorem dX3_judgeTwo_69 : decode cX3_judgeTwo 69 = .ok (.ireturn, 1) := by decide +kernel
theorem dX3_judgeTwo_70 : decode cX3_judgeTwo 70 = .ok (.aload_n 0, 1) := by decide +kernel
theorem dX3_judgeTwo_71 : decode cX3_judgeTwo 71 = .ok (.getfield 27, 3) := by decide +kernel
theorem dX3_judgeTwo_74 : decode cX3_judgeTwo 74 = .ok (.iload_n 1, 1) := by decide +kernel
theorem dX3_judgeTwo_75 : decode cX3_judgeTwo 75 = .ok (.invokevirtual 113, 3) := by decide +kernel
theorem dX3_judgeTwo_78 : decode cX3_judgeTwo 78 = .ok (.aload_n 0, 1) := by decide +kernel
theorem dX3_judgeTwo_79 : decode cX3_judgeTwo 79 = .ok (.getfield 27, 3) := by decide +kernel
theorem dX3_judgeTwo_82 : decode cX3_judgeTwo 82 = .ok (.iload_n 2, 1) := by decide +kernel
theorem dX3_judgeTwo_83 : decode cX3_judgeTwo 83 = .ok (.invokevirtual 117, 3) := by decide +kernel
theorem dX3_judgeTwo_86 : decode cX3_judgeTwo 86 = .ok (.lcmp, 1) := by decide +kernel
theorem dX3_judgeTwo_87 : decode cX3_judgeTwo 87 = .ok (.ifCond .le 5, 3) := by decide +kernel
theorem dX3_judgeTwo_90 : decode cX3_judgeTwo 90 = .ok (.iconst 4, 1) := by decide +kernel
theorem dX3_judgeTwo_91 : decode cX3_judgeTwo 91 = .ok (.ireturn, 1) := by decide +kernel
theorem dX3_judgeTwo_92 : decode cX3_judgeTwo 92 = .ok (.aload_n 0, 1) := by decide +kernel
theorem dX3_judgeTwo_93 : decode cX3_judgeTwo 93 = .ok (.getfield 27, 3) := by decide +kernel
theorem dX3_judgeTwo_96 : decode cX3_judgeTwo 96 = .ok (.iload_n 1, 1) := by decide +kernel
theorem dX3_judgeTwo_97 : decode cX3_judgeTwo 97 = .ok (.invokevirtual 117, 3) := by decide +kernel
theorem dX3_judgeTwo_100 : decode cX3_judgeTwo 100 = .ok (.aload_n 0, 1) := by decide +kernel
theorem dX3_judgeTwo_101 : decode cX3_judgeTwo 101 = .ok (.getfield 27, 3) := by decide +kernel
theorem dX3_judgeTwo_104 : decode cX3_judgeTwo 104 = .ok (.iload_n 2, 1) := by decide +kernel
theorem dX3_judgeTwo_105 : decode cX3_judgeTwo 105 = .ok (.invokevirtual 117, 3) := by decide +kernel
theorem dX3_judgeTwo_108 : decode cX3_judgeTwo 108 = .ok (.invokestatic 154, 3) := by decide +kernel
theorem dX3_judgeTwo_111 : decode cX3_judgeTwo 111 = .ok (.lstore 5, 2) := by decide +kernel
theorem dX3_judgeTwo_113 : decode cX3_judgeTwo 113 = .ok (.aload_n 0, 1) := by decide +kernel
theorem dX3_judgeTwo_114 : decode cX3_judgeTwo 114 = .ok (.getfield 27, 3) := by decide +kernel
theorem dX3_judgeTwo_117 : decode cX3_judgeTwo 117 = .ok (.iload_n 1, 1) := by decide +kernel
theorem dX3_judgeTwo_118 : decode cX3_judgeTwo 118 = .ok (.invokevirtual 113, 3) := by decide +kernel
theorem dX3_judgeTwo_121 : decode cX3_judgeTwo 121 = .ok (.aload_n 0, 1) := by decide +kernel
theorem dX3_judgeTwo_122 : decode cX3_judgeTwo 122 = .ok (.getfield 27, 3) := by decide +kernel
theorem dX3_judgeTwo_125 : decode cX3_judgeTwo 125 = .ok (.iload_n 2, 1) := by decide +kernel
theorem dX3_judgeTwo_126 : decode cX3_judgeTwo 126 = .ok (.invokevirtual 113, 3) := by decide +kernel
theorem dX3_judgeTwo_129 : decode cX3_judgeTwo 129 = .ok (.invokestatic 158, 3) := by decide +kernel
theorem dX3_judgeTwo_132 : decode cX3_judgeTwo 132 = .ok (.lstore 7, 2) := by decide +kernel
theorem dX3_judgeTwo_134 : decode cX3_judgeTwo 134 = .ok (.lload 5, 2) := by decide +kernel
theorem dX3_judgeTwo_136 : decode cX3_judgeTwo 136 = .ok (.lload 7, 2) := by decide +kernel
theorem dX3_judgeTwo_138 : decode cX3_judgeTwo 138 = .ok (.lsub, 1) := by decide +kernel
theorem dX3_judgeTwo_139 : decode cX3_judgeTwo 139 = .ok (.lload_n 3, 1) := by decide +kernel
theorem dX3_judgeTwo_140 : decode cX3_judgeTwo 140 = .ok (.lcmp, 1) := by decide +kernel
theorem dX3_judgeTwo_141 : decode cX3_judgeTwo 141 = .ok (.ifCond .gt 7, 3) := by decide +kernel
theorem dX3_judgeTwo_144 : decode cX3_judgeTwo 144 = .ok (.iconst 5, 1) := by decide +kernel
theorem dX3_judgeTwo_145 : decode cX3_judgeTwo 145 = .ok (.goto 4, 3) := by decide +kernel
theorem dX3_judgeTwo_148 : decode cX3_judgeTwo 148 = .ok (.iconst 0, 1) := by decide +kernel
theorem dX3_judgeTwo_149 : decode cX3_judgeTwo 149 = .ok (.ireturn, 1) := by decide +kernel
def fX3_judgeTwo (n : Nat) (x1 : Int32) (x2 : Int32) (x3 : Int64) (w : Wd) : Option (Int32) :=
    (fX2_isFalse n x1 w).bind fun z1 =>
    if z1 = 0 then
      (fX2_isFalse n x2 w).bind fun z4 =>
      if z4 = 0 then
        (fX2_hasSpan n x1 w).bind fun z7 =>
        if z7 = 0 then
          some 0
        else
          (fX2_hasSpan n x2 w).bind fun z10 =>
          if z10 = 0 then
            some 0
          else
            (fX2_highOf n x1 w).bind fun z13 =>
            (fX2_lowOf n x2 w).bind fun z15 =>
            if 0 ≤ (lg_cmp z13 z15) then
              (fX2_lowOf n x1 w).bind fun z18 =>
              (fX2_highOf n x2 w).bind fun z20 =>
              if (lg_cmp z18 z20) ≤ 0 then
                (fX2_highOf n x1 w).bind fun z23 =>
                (fX2_highOf n x2 w).bind fun z25 =>
                (fJ9_maxL n z23 z25).bind fun z27 =>
                (fX2_lowOf n x1 w).bind fun z29 =>
                (fX2_lowOf n x2 w).bind fun z31 =>
                (fJ9_minL n z29 z31).bind fun z33 =>
                if 0 < (lg_cmp (z27 - z33) x3) then
                  some 0
                else
                  some 5
              else
                some 4
            else
              some 3
      else
        some 2
    else
      some 2
set_option maxHeartbeats 4000000 in
set_option maxRecDepth 100000 in
theorem tX3_judgeTwo_0 {p : Program} {l : Launch} {e : Env} {s : State} {m : MethodId} {args : Array Value} {below : List Frame} {meth : Method} {c : Code} {D : va_G} {a : Nat → Nat} {k : Nat → ClassId} {z : Int32} {w : Wd} (C0 : ez_C p s m args meth c cX3_judgeTwo (some .int) 9 RX3 (fun _ => True)) (hK : va_K D vwCl (tC k) s) (hP : va_P D vwCl (wC a k w) s.heap) : ∀ (n : Nat) (ls : Array Slot) (x1 : Int32) (x2 : Int32) (x3 : Int64), lv_has ls 9 [(0, .ref (a 0)), (1, .int x1), (2, .int x2), (3, .long x3)] → fX3_judgeTwo n x1 x2 x3 w = some z → W p l e ({ frames := 2, cells := 0, slots := 0, locals := 41 } : Room) s m args below meth c s.heap [] 0 0 (MQ below (ez_Ri z) args s 0 0 (fun _ => False)) (F0 m 0 ls []) := by
  intro n
  intro ls x1 x2 x3 hl h
  rw [fX3_judgeTwo] at h
  have C1 := C0
  obtain ⟨hx, hb, hr, hml, hown, hw, hlk, hA, hN⟩ := C1
  refine lv_aload_n (pc := 0) hx hb dX3_judgeTwo_0 rfl (lv_at hl 0 rfl) ?_
  refine va_get (D := D) (pc := 1) hx hb hw inX3 hown hK hP 0 rfl rfl 4 (by decide) (hw _ mw79) (fun _ h9 => h9) rfl dX3_judgeTwo_1 ?_
  refine lv_iload_n (pc := 4) hx hb dX3_judgeTwo_4 rfl (lv_at hl 1 rfl) ?_
  replace h := ez_bd h
  obtain ⟨z1, e2, h⟩ := h
  refine ez_croI (r := z1) (pc := 5) (va_runV (g := F0 m 5 ls [.int x1, .ref (a 4)]) (As := [.int x1]) (rest := []) ⟨hx, hb, hml, hown, hw⟩ (kX2_isFalse l D a k n x1 w z1 e2) (cwV 1 hw (ez_gV mw374 mw290 mw291 mw3 mw292) rfl rfl rfl (by decide +kernel) ⟨Nat.le_of_ble_eq_true rfl, Nat.le_of_ble_eq_true rfl⟩) (ez_preRV (wr := []) (wl := (wC a k w)) hP hK hN 4 rfl rfl) rfl rfl hl.1 rfl (lv_room (Nat.le_of_ble_eq_true rfl)) dX3_judgeTwo_5 ⟨Nat.le_refl _, Nat.le_refl _⟩) ?_
  refine lv_if_ne (pc := 8) (tgt := 22) hx hb dX3_judgeTwo_8 (by decide) (fun c3 => ?_) (fun c3 => ?_)
  · replace h := ez_if c3 h
    refine lv_iconst (v := 2) (pc := 22) hx hb dX3_judgeTwo_22 rfl ?_
    obtain rfl := ez_r1 h
    exact ez_rroI C0 dX3_judgeTwo_23
  · replace h := ez_it c3 h
    refine lv_aload_n (pc := 11) hx hb dX3_judgeTwo_11 rfl (lv_at hl 0 rfl) ?_
    refine va_get (D := D) (pc := 12) hx hb hw inX3 hown hK hP 0 rfl rfl 4 (by decide) (hw _ mw79) (fun _ h9 => h9) rfl dX3_judgeTwo_12 ?_
    refine lv_iload_n (pc := 15) hx hb dX3_judgeTwo_15 rfl (lv_at hl 2 rfl) ?_
    replace h := ez_bd h
    obtain ⟨z4, e5, h⟩ := h
    refine ez_croI (r := z4) (pc := 16) (va_runV (g := F0 m 16 ls [.int x2, .ref (a 4)]) (As := [.int x2]) (rest := []) ⟨hx, hb, hml, hown, hw⟩ (kX2_isFalse l D a k n x2 w z4 e5) (cwV 1 hw (ez_gV mw374 mw290 mw291 mw3 mw292) rfl rfl rfl (by decide +kernel) ⟨Nat.le_of_ble_eq_true rfl, Nat.le_of_ble_eq_true rfl⟩) (ez_preRV (wr := []) (wl := (wC a k w)) hP hK hN 4 rfl rfl) rfl rfl hl.1 rfl (lv_room (Nat.le_of_ble_eq_true rfl)) dX3_judgeTwo_16 ⟨Nat.le_refl _, Nat.le_refl _⟩) ?_
    refine lv_if_eq (pc := 19) (tgt := 24) hx hb dX3_judgeTwo_19 (by decide) (fun c6 => ?_) (fun c6 => ?_)
    · replace h := ez_it c6 h
      refine lv_aload_n (pc := 24) hx hb dX3_judgeTwo_24 rfl (lv_at hl 0 rfl) ?_
      refine va_get (D := D) (pc := 25) hx hb hw inX3 hown hK hP 0 rfl rfl 4 (by decide) (hw _ mw79) (fun _ h9 => h9) rfl dX3_judgeTwo_25 ?_
      refine lv_iload_n (pc := 28) hx hb dX3_judgeTwo_28 rfl (lv_at hl 1 rfl) ?_
      replace h := ez_bd h
      obtain ⟨z7, e8, h⟩ := h
      refine ez_croI (r := z7) (pc := 29) (va_runV (g := F0 m 29 ls [.int x1, .ref (a 4)]) (As := [.int x1]) (rest := []) ⟨hx, hb, hml, hown, hw⟩ (kX2_hasSpan l D a k n x1 w z7 e8) (cwV 1 hw (ez_gV mw375 mw376 mw377 mw3 mw378) rfl rfl rfl (by decide +kernel) ⟨Nat.le_of_ble_eq_true rfl, Nat.le_of_ble_eq_true rfl⟩) (ez_preRV (wr := []) (wl := (wC a k w)) hP hK hN 4 rfl rfl) rfl rfl hl.1 rfl (lv_room (Nat.le_of_ble_eq_true rfl)) dX3_judgeTwo_29 ⟨Nat.le_refl _, Nat.le_refl _⟩) ?_
      refine lv_if_eq (pc := 32) (tgt := 46) hx hb dX3_judgeTwo_32 (by decide) (fun c9 => ?_) (fun c9 => ?_)
      · replace h := ez_it c9 h
        refine lv_iconst (v := 0) (pc := 46) hx hb dX3_judgeTwo_46 rfl ?_
        obtain rfl := ez_r1 h
        exact ez_rroI C0 dX3_judgeTwo_47
      · replace h := ez_if c9 h
        refine lv_aload_n (pc := 35) hx hb dX3_judgeTwo_35 rfl (lv_at hl 0 rfl) ?_
        refine va_get (D := D) (pc := 36) hx hb hw inX3 hown hK hP 0 rfl rfl 4 (by decide) (hw _ mw79) (fun _ h9 => h9) rfl dX3_judgeTwo_36 ?_
        refine lv_iload_n (pc := 39) hx hb dX3_judgeTwo_39 rfl (lv_at hl 2 rfl) ?_
        replace h := ez_bd h
        obtain ⟨z10, e11, h⟩ := h
        refine ez_croI (r := z10) (pc := 40) (va_runV (g := F0 m 40 ls [.int x2, .ref (a 4)]) (As := [.int x2]) (rest := []) ⟨hx, hb, hml, hown, hw⟩ (kX2_hasSpan l D a k n x2 w z10 e11) (cwV 1 hw (ez_gV mw375 mw376 mw377 mw3 mw378) rfl rfl rfl (by decide +kernel) ⟨Nat.le_of_ble_eq_true rfl, Nat.le_of_ble_eq_true rfl⟩) (ez_preRV (wr := []) (wl := (wC a k w)) hP hK hN 4 rfl rfl) rfl rfl hl.1 rfl (lv_room (Nat.le_of_ble_eq_true rfl)) dX3_judgeTwo_40 ⟨Nat.le_refl _, Nat.le_refl _⟩) ?_
        refine lv_if_ne (pc := 43) (tgt := 48) hx hb dX3_judgeTwo_43 (by decide) (fun c12 => ?_) (fun c12 => ?_)
        · replace h := ez_if c12 h
          refine lv_aload_n (pc := 48) hx hb dX3_judgeTwo_48 rfl (lv_at hl 0 rfl) ?_
          refine va_get (D := D) (pc := 49) hx hb hw inX3 hown hK hP 0 rfl rfl 4 (by decide) (hw _ mw79) (fun _ h9 => h9) rfl dX3_judgeTwo_49 ?_
          refine lv_iload_n (pc := 52) hx hb dX3_judgeTwo_52 rfl (lv_at hl 1 rfl) ?_
          replace h := ez_bd h
          obtain ⟨z13, e14, h⟩ := h
          refine ez_croL (r := z13) (pc := 53) (va_runV (g := F0 m 53 ls [.int x1, .ref (a 4)]) (As := [.int x1]) (rest := []) ⟨hx, hb, hml, hown, hw⟩ (kX2_highOf l D a k n x1 w z13 e14) (cwV 1 hw (ez_gV mw379 mw319 mw320 mw3 mw321) rfl rfl rfl (by decide +kernel) ⟨Nat.le_of_ble_eq_true rfl, Nat.le_of_ble_eq_true rfl⟩) (ez_preRV (wr := []) (wl := (wC a k w)) hP hK hN 4 rfl rfl) rfl rfl hl.1 rfl (lv_room (Nat.le_of_ble_eq_true rfl)) dX3_judgeTwo_53 ⟨Nat.le_refl _, Nat.le_refl _⟩) ?_
          refine lv_aload_n (pc := 56) hx hb dX3_judgeTwo_56 rfl (lv_at hl 0 rfl) ?_
          refine va_get (D := D) (pc := 57) hx hb hw inX3 hown hK hP 0 rfl rfl 4 (by decide) (hw _ mw79) (fun _ h9 => h9) rfl dX3_judgeTwo_57 ?_
          refine lv_iload_n (pc := 60) hx hb dX3_judgeTwo_60 rfl (lv_at hl 2 rfl) ?_
          replace h := ez_bd h
          obtain ⟨z15, e16, h⟩ := h
          refine ez_croL (r := z15) (pc := 61) (va_runV (g := F0 m 61 ls [.int x2, .ref (a 4), .long z13]) (As := [.int x2]) (rest := [.long z13]) ⟨hx, hb, hml, hown, hw⟩ (kX2_lowOf l D a k n x2 w z15 e16) (cwV 1 hw (ez_gV mw380 mw323 mw324 mw3 mw325) rfl rfl rfl (by decide +kernel) ⟨Nat.le_of_ble_eq_true rfl, Nat.le_of_ble_eq_true rfl⟩) (ez_preRV (wr := []) (wl := (wC a k w)) hP hK hN 4 rfl rfl) rfl rfl hl.1 rfl (lv_room (Nat.le_of_ble_eq_true rfl)) dX3_judgeTwo_61 ⟨Nat.le_refl _, Nat.le_refl _⟩) ?_
          refine W.lcmp (pc := 64) hx hb dX3_judgeTwo_64 ?_
          refine lv_if_ge (pc := 65) (tgt := 70) hx hb dX3_judgeTwo_65 (by decide) (fun c17 => ?_) (fun c17 => ?_)
          · replace h := ez_it c17 h
            refine lv_aload_n (pc := 70) hx hb dX3_judgeTwo_70 rfl (lv_at hl 0 rfl) ?_
            refine va_get (D := D) (pc := 71) hx hb hw inX3 hown hK hP 0 rfl rfl 4 (by decide) (hw _ mw79) (fun _ h9 => h9) rfl dX3_judgeTwo_71 ?_
            refine lv_iload_n (pc := 74) hx hb dX3_judgeTwo_74 rfl (lv_at hl 1 rfl) ?_
            replace h := ez_bd h
            obtain ⟨z18, e19, h⟩ := h
            refine ez_croL (r := z18) (pc := 75) (va_runV (g := F0 m 75 ls [.int x1, .ref (a 4)]) (As := [.int x1]) (rest := []) ⟨hx, hb, hml, hown, hw⟩ (kX2_lowOf l D a k n x1 w z18 e19) (cwV 1 hw (ez_gV mw380 mw323 mw324 mw3 mw325) rfl rfl rfl (by decide +kernel) ⟨Nat.le_of_ble_eq_true rfl, Nat.le_of_ble_eq_true rfl⟩) (ez_preRV (wr := []) (wl := (wC a k w)) hP hK hN 4 rfl rfl) rfl rfl hl.1 rfl (lv_room (Nat.le_of_ble_eq_true rfl)) dX3_judgeTwo_75 ⟨Nat.le_refl _, Nat.le_refl _⟩) ?_
            refine lv_aload_n (pc := 78) hx hb dX3_judgeTwo_78 rfl (lv_at hl 0 rfl) ?_
            refine va_get (D := D) (pc := 79) hx hb hw inX3 hown hK hP 0 rfl rfl 4 (by decide) (hw _ mw79) (fun _ h9 => h9) rfl dX3_judgeTwo_79 ?_
            refine lv_iload_n (pc := 82) hx hb dX3_judgeTwo_82 rfl (lv_at hl 2 rfl) ?_
            replace h := ez_bd h
            obtain ⟨z20, e21, h⟩ := h
            refine ez_croL (r := z20) (pc := 83) (va_runV (g := F0 m 83 ls [.int x2, .ref (a 4), .long z18]) (As := [.int x2]) (rest := [.long z18]) ⟨hx, hb, hml, hown, hw⟩ (kX2_highOf l D a k n x2 w z20 e21) (cwV 1 hw (ez_gV mw379 mw319 mw320 mw3 mw321) rfl rfl rfl (by decide +kernel) ⟨Nat.le_of_ble_eq_true rfl, Nat.le_of_ble_eq_true rfl⟩) (ez_preRV (wr := []) (wl := (wC a k w)) hP hK hN 4 rfl rfl) rfl rfl hl.1 rfl (lv_room (Nat.le_of_ble_eq_true rfl)) dX3_judgeTwo_83 ⟨Nat.le_refl _, Nat.le_refl _⟩) ?_
            refine W.lcmp (pc := 86) hx hb dX3_judgeTwo_86 ?_
            refine lv_if_le (pc := 87) (tgt := 92) hx hb dX3_judgeTwo_87 (by decide) (fun c22 => ?_) (fun c22 => ?_)
            · replace h := ez_it c22 h
              refine lv_aload_n (pc := 92) hx hb dX3_judgeTwo_92 rfl (lv_at hl 0 rfl) ?_
              refine va_get (D := D) (pc := 93) hx hb hw inX3 hown hK hP 0 rfl rfl 4 (by decide) (hw _ mw79) (fun _ h9 => h9) rfl dX3_judgeTwo_93 ?_
              refine lv_iload_n (pc := 96) hx hb dX3_judgeTwo_96 rfl (lv_at hl 1 rfl) ?_
              replace h := ez_bd h
              obtain ⟨z23, e24, h⟩ := h
              refine ez_croL (r := z23) (pc := 97) (va_runV (g := F0 m 97 ls [.int x1, .ref (a 4)]) (As := [.int x1]) (rest := []) ⟨hx, hb, hml, hown, hw⟩ (kX2_highOf l D a k n x1 w z23 e24) (cwV 1 hw (ez_gV mw379 mw319 mw320 mw3 mw321) rfl rfl rfl (by decide +kernel) ⟨Nat.le_of_ble_eq_true rfl, Nat.le_of_ble_eq_true rfl⟩) (ez_preRV (wr := []) (wl := (wC a k w)) hP hK hN 4 rfl rfl) rfl rfl hl.1 rfl (lv_room (Nat.le_of_ble_eq_true rfl)) dX3_judgeTwo_97 ⟨Nat.le_refl _, Nat.le_refl _⟩) ?_
              refine lv_aload_n (pc := 100) hx hb dX3_judgeTwo_100 rfl (lv_at hl 0 rfl) ?_
              refine va_get (D := D) (pc := 101) hx hb hw inX3 hown hK hP 0 rfl rfl 4 (by decide) (hw _ mw79) (fun _ h9 => h9) rfl dX3_judgeTwo_101 ?_
              refine lv_iload_n (pc := 104) hx hb dX3_judgeTwo_104 rfl (lv_at hl 2 rfl) ?_
              replace h := ez_bd h
              obtain ⟨z25, e26, h⟩ := h
              refine ez_croL (r := z25) (pc := 105) (va_runV (g := F0 m 105 ls [.int x2, .ref (a 4), .long z23]) (As := [.int x2]) (rest := [.long z23]) ⟨hx, hb, hml, hown, hw⟩ (kX2_highOf l D a k n x2 w z25 e26) (cwV 1 hw (ez_gV mw379 mw319 mw320 mw3 mw321) rfl rfl rfl (by decide +kernel) ⟨Nat.le_of_ble_eq_true rfl, Nat.le_of_ble_eq_true rfl⟩) (ez_preRV (wr := []) (wl := (wC a k w)) hP hK hN 4 rfl rfl) rfl rfl hl.1 rfl (lv_room (Nat.le_of_ble_eq_true rfl)) dX3_judgeTwo_105 ⟨Nat.le_refl _, Nat.le_refl _⟩) ?_
              replace h := ez_bd h
              obtain ⟨z27, e28, h⟩ := h
              refine ez_croL (r := z27) (pc := 108) (va_runS (g := F0 m 108 ls [.long z25, .long z23]) (As := [.long z23, .long z25]) (rest := []) ⟨hx, hb, hml, hown, hw⟩ (kJ9_maxL l n z23 z25 z27 e28) (va_cwS 2 hw (ez_gS mw381 mw334 mw6 mw335) rfl rfl rfl (by decide +kernel) ⟨Nat.le_of_ble_eq_true rfl, Nat.le_of_ble_eq_true rfl⟩) (ez_preRS hN) rfl rfl hl.1 rfl (lv_room (Nat.le_of_ble_eq_true rfl)) dX3_judgeTwo_108 ⟨Nat.le_refl _, Nat.le_refl _⟩) ?_
              refine lv_lstore (pc := 111) hx hb dX3_judgeTwo_111 hl (by decide) rfl (fun ls hl => ?_)
              replace hl : lv_has ls 9 [(5, .long z27), (0, .ref (a 0)), (1, .int x1), (2, .int x2), (3, .long x3)] := hl
              refine lv_aload_n (pc := 113) hx hb dX3_judgeTwo_113 rfl (lv_at hl 1 rfl) ?_
              refine va_get (D := D) (pc := 114) hx hb hw inX3 hown hK hP 0 rfl rfl 4 (by decide) (hw _ mw79) (fun _ h9 => h9) rfl dX3_judgeTwo_114 ?_
              refine lv_iload_n (pc := 117) hx hb dX3_judgeTwo_117 rfl (lv_at hl 2 rfl) ?_
              replace h := ez_bd h
              obtain ⟨z29, e30, h⟩ := h
              refine ez_croL (r := z29) (pc := 118) (va_runV (g := F0 m 118 ls [.int x1, .ref (a 4)]) (As := [.int x1]) (rest := []) ⟨hx, hb, hml, hown, hw⟩ (kX2_lowOf l D a k n x1 w z29 e30) (cwV 1 hw (ez_gV mw380 mw323 mw324 mw3 mw325) rfl rfl rfl (by decide +kernel) ⟨Nat.le_of_ble_eq_true rfl, Nat.le_of_ble_eq_true rfl⟩) (ez_preRV (wr := []) (wl := (wC a k w)) hP hK hN 4 rfl rfl) rfl rfl hl.1 rfl (lv_room (Nat.le_of_ble_eq_true rfl)) dX3_judgeTwo_118 ⟨Nat.le_refl _, Nat.le_refl _⟩) ?_
              refine lv_aload_n (pc := 121) hx hb dX3_judgeTwo_121 rfl (lv_at hl 1 rfl) ?_
              refine va_get (D := D) (pc := 122) hx hb hw inX3 hown hK hP 0 rfl rfl 4 (by decide) (hw _ mw79) (fun _ h9 => h9) rfl dX3_judgeTwo_122 ?_
              refine lv_iload_n (pc := 125) hx hb dX3_judgeTwo_125 rfl (lv_at hl 3 rfl) ?_
              replace h := ez_bd h
              obtain ⟨z31, e32, h⟩ := h
              refine ez_croL (r := z31) (pc := 126) (va_runV (g := F0 m 126 ls [.int x2, .ref (a 4), .long z29]) (As := [.int x2]) (rest := [.long z29]) ⟨hx, hb, hml, hown, hw⟩ (kX2_lowOf l D a k n x2 w z31 e32) (cwV 1 hw (ez_gV mw380 mw323 mw324 mw3 mw325) rfl rfl rfl (by decide +kernel) ⟨Nat.le_of_ble_eq_true rfl, Nat.le_of_ble_eq_true rfl⟩) (ez_preRV (wr := []) (wl := (wC a k w)) hP hK hN 4 rfl rfl) rfl rfl hl.1 rfl (lv_room (Nat.le_of_ble_eq_true rfl)) dX3_judgeTwo_126 ⟨Nat.le_refl _, Nat.le_refl _⟩) ?_
              replace h := ez_bd h
              obtain ⟨z33, e34, h⟩ := h
              refine ez_croL (r := z33) (pc := 129) (va_runS (g := F0 m 129 ls [.long z31, .long z29]) (As := [.long z29, .long z31]) (rest := []) ⟨hx, hb, hml, hown, hw⟩ (kJ9_minL l n z29 z31 z33 e34) (va_cwS 2 hw (ez_gS mw382 mw331 mw6 mw332) rfl rfl rfl (by decide +kernel) ⟨Nat.le_of_ble_eq_true rfl, Nat.le_of_ble_eq_true rfl⟩) (ez_preRS hN) rfl rfl hl.1 rfl (lv_room (Nat.le_of_ble_eq_true rfl)) dX3_judgeTwo_129 ⟨Nat.le_refl _, Nat.le_refl _⟩) ?_
              refine lv_lstore (pc := 132) hx hb dX3_judgeTwo_132 hl (by decide) rfl (fun ls hl => ?_)
              replace hl : lv_has ls 9 [(7, .long z33), (5, .long z27), (0, .ref (a 0)), (1, .int x1), (2, .int x2), (3, .long x3)] := hl
              refine lv_lload (pc := 134) hx hb dX3_judgeTwo_134 (lv_at hl 1 rfl) ?_
              refine lv_lload (pc := 136) hx hb dX3_judgeTwo_136 (lv_at hl 0 rfl) ?_
              refine lv_lsub (pc := 138) hx hb dX3_judgeTwo_138 ?_
              refine lv_lload_n (pc := 139) hx hb dX3_judgeTwo_139 rfl (lv_at hl 5 rfl) ?_
              refine W.lcmp (pc := 140) hx hb dX3_judgeTwo_140 ?_
              refine lv_if_gt (pc := 141) (tgt := 148) hx hb dX3_judgeTwo_141 (by decide) (fun c35 => ?_) (fun c35 => ?_)
              · replace h := ez_it c35 h
                refine lv_iconst (v := 0) (pc := 148) hx hb dX3_judgeTwo_148 rfl ?_
                obtain rfl := ez_r1 h
                exact ez_rroI C0 dX3_judgeTwo_149
              · replace h := ez_if c35 h
                refine lv_iconst (v := 5) (pc := 144) hx hb dX3_judgeTwo_144 rfl ?_
                refine lv_goto (pc := 145) (tgt := 149) hx hb dX3_judgeTwo_145 (by decide) ?_
                obtain rfl := ez_r1 h
                exact ez_rroI C0 dX3_judgeTwo_149
            · replace h := ez_if c22 h
              refine lv_iconst (v := 4) (pc := 90) hx hb dX3_judgeTwo_90 rfl ?_
              obtain rfl := ez_r1 h
              exact ez_rroI C0 dX3_judgeTwo_91
          · replace h := ez_if c17 h
            refine lv_iconst (v := 3) (pc := 68) hx hb dX3_judgeTwo_68 rfl ?_
            obtain rfl := ez_r1 h
            exact ez_rroI C0 dX3_judgeTwo_69
        · replace h := ez_it c12 h
          refine lv_iconst (v := 0) (pc := 46) hx hb dX3_judgeTwo_46 rfl ?_
          obtain rfl := ez_r1 h
          exact ez_rroI C0 dX3_judgeTwo_47
    · replace h := ez_if c6 h
      refine lv_iconst (v := 2) (pc := 22) hx hb dX3_judgeTwo_22 rfl ?_
      obtain rfl := ez_r1 h
      exact ez_rroI C0 dX3_judgeTwo_23
set_option maxRecDepth 100000 in
theorem kX3_judgeTwo (l : Launch) (D : va_G) (a : Nat → Nat) (k : Nat → ClassId) (n : Nat) (x1 : Int32) (x2 : Int32) (x3 : Int64) (w : Wd) (z : Int32) (h : fX3_judgeTwo n x1 x2 x3 w = some z) : Met l yX3_judgeTwo wsX3_judgeTwo ({ frames := 2, cells := 0, slots := 0, locals := 41 } : Room) (ez_Rc D (tC k) [.ref (a 0), .int x1, .int x2, .long x3] (wC a k w)) (ez_Ri z) 0 0 (fun _ => False) :=
  ez_mkR (by decide) rfl (Nat.le_of_ble_eq_true rfl) (fun p e s m below meth c ls C0 hl hP hK => tX3_judgeTwo_0 C0 hK hP n ls x1 x2 x3 (lv_sub (l := [(0, .ref (a 0)), (1, .int x1), (2, .int x2), (3, .long x3)]) hl [0, 1, 2, 3] rfl) h)
/-! EnclosureCalculator judgeOne -/
theorem dX3_judgeOne_0 : decode cX3_judgeOne 0 = .ok (.aload_n 0, 1) := by decide +kernel
theorem dX3_judgeOne_1 : decode cX3_judgeOne 1 = .ok (.getfield 27, 3) := by decide +kernel
theorem dX3_judgeOne_4 : decode cX3_judgeOne 4 = .ok (.iload_n 1, 1) := by decide +kernel
theorem dX3_judgeOne_5 : decode cX3_judgeOne 5 = .ok (.invokevirtual 148, 3) := by decide +kernel
theorem dX3_judgeOne_8 : decode cX3_judgeOne 8 = .ok (.ifCond .eq 5, 3) := by decide +kernel
theorem dX3_judgeOne_11 : decode cX3_judgeOne 11 = .ok (.iconst 2, 1) := by decide +kernel
theorem dX3_judgeOne_12 : decode cX3_judgeOne 12 = .ok (.ireturn, 1) := by decide +kernel
theorem dX3_judgeOne_13 : decode cX3_judgeOne 13 = .ok (.aload_n 0, 1) := by decide +kernel
theorem dX3_judgeOne_14 : decode cX3_judgeOne 14 = .ok (.getfield 27, 3) := by decide +kernel
theorem dX3_judgeOne_17 : decode cX3_judgeOne 17 = .ok (.iload_n 1, 1) := by decide +kernel
theorem dX3_judgeOne_18 : decode cX3_judgeOne 18 = .ok (.invokevirtual 151, 3) := by decide +kernel
theorem dX3_judgeOne_21 : decode cX3_judgeOne 21 = .ok (.ifCond .ne 5, 3) := by decide +kernel
theorem dX3_judgeOne_24 : decode cX3_judgeOne 24 = .ok (.iconst 0, 1) := by decide +kernel
theorem dX3_judgeOne_25 : decode cX3_judgeOne 25 = .ok (.ireturn, 1) := by decide +kernel
theorem dX3_judgeOne_26 : decode cX3_judgeOne 26 = .ok (.aload_n 0, 1) := by decide +kernel
theorem dX3_judgeOne_27 : decode cX3_judgeOne 27 = .ok (.getfield 27, 3) := by decide +kernel
theorem dX3_judgeOne_30 : decode cX3_judgeOne 30 = .ok (.iload_n 1, 1) := by decide +kernel
theorem dX3_judgeOne_31 : decode cX3_judgeOne 31 = .ok (.invokevirtual 117, 3) := by decide +kernel
theorem dX3_judgeOne_34 : decode cX3_judgeOne 34 = .ok (.aload_n 0, 1) := by decide +kernel
theorem dX3_judgeOne_35 : decode cX3_judgeOne 35 = .ok (.getfield 27, 3) := by decide +kernel
theorem dX3_judgeOne_38 : decode cX3_judgeOne 38 = .ok (.iload_n 1, 1) := by decide +kernel
theorem dX3_judgeOne_39 : decode cX3_judgeOne 39 = .ok (.invokevirtual 113, 3) := by decide +kernel
theorem dX3_judgeOne_42 : decode cX3_judgeOne 42 = .ok (.lsub, 1) := by decide +kernel
theorem dX3_judgeOne_43 : decode cX3_judgeOne 43 = .ok (.lload_n 2, 1) := by decide +kernel
theorem dX3_judgeOne_44 : decode cX3_judgeOne 44 = .ok (.lcmp, 1) := by decide +kernel
theorem dX3_judgeOne_45 : decode cX3_judgeOne 45 = .ok (.ifCond .gt 7, 3) := by decide +kernel
theorem dX3_judgeOne_48 : decode cX3_judgeOne 48 = .ok (.iconst 1, 1) := by decide +kernel
theorem dX3_judgeOne_49 : decode cX3_judgeOne 49 = .ok (.goto 4, 3) := by decide +kernel
theorem dX3_judgeOne_52 : decode cX3_judgeOne 52 = .ok (.iconst 0, 1) := by decide +kernel
theorem dX3_judgeOne_53 : decode cX3_judgeOne 53 = .ok (.ireturn, 1) := by decide +kernel
def fX3_judgeOne (n : Nat) (x1 : Int32) (x2 : Int64) (w : Wd) : Option (Int32) :=
    (fX2_isFalse n x1 w).bind fun z1 =>
    if z1 = 0 then
      (fX2_hasSpan n x1 w).bind fun z4 =>
      if z4 = 0 then
        some 0
      else
        (fX2_highOf n x1 w).bind fun z7 =>
        (fX2_lowOf n x1 w).bind fun z9 =>
        if 0 < (lg_cmp (z7 - z9) x2) then
          some 0
        else
          some 1
    else
      some 2
set_option maxHeartbeats 4000000 in
set_option maxRecDepth 100000 in
theorem tX3_judgeOne_0 {p : Program} {l : Launch} {e : Env} {s : State} {m : MethodId} {args : Array Value} {below : List Frame} {meth : Method} {c : Code} {D : va_G} {a : Nat → Nat} {k : Nat → ClassId} {z : Int32} {w : Wd} (C0 : ez_C p s m args meth c cX3_judgeOne (some .int) 4 RX3 (fun _ => True)) (hK : va_K D vwCl (tC k) s) (hP : va_P D vwCl (wC a k w) s.heap) : ∀ (n : Nat) (ls : Array Slot) (x1 : Int32) (x2 : Int64), lv_has ls 4 [(0, .ref (a 0)), (1, .int x1), (2, .long x2)] → fX3_judgeOne n x1 x2 w = some z → W p l e ({ frames := 2, cells := 0, slots := 0, locals := 41 } : Room) s m args below meth c s.heap [] 0 0 (MQ below (ez_Ri z) args s 0 0 (fun _ => False)) (F0 m 0 ls []) := by
  intro n
  intro ls x1 x2 hl h
  rw [fX3_judgeOne] at h
  have C1 := C0
  obtain ⟨hx, hb, hr, hml, hown, hw, hlk, hA, hN⟩ := C1
  refine lv_aload_n (pc := 0) hx hb dX3_judgeOne_0 rfl (lv_at hl 0 rfl) ?_
  refine va_get (D := D) (pc := 1) hx hb hw inX3 hown hK hP 0 rfl rfl 4 (by decide) (hw _ mw79) (fun _ h9 => h9) rfl dX3_judgeOne_1 ?_
  refine lv_iload_n (pc := 4) hx hb dX3_judgeOne_4 rfl (lv_at hl 1 rfl) ?_
  replace h := ez_bd h
  obtain ⟨z1, e2, h⟩ := h
  refine ez_croI (r := z1) (pc := 5) (va_runV (g := F0 m 5 ls [.int x1, .ref (a 4)]) (As := [.int x1]) (rest := []) ⟨hx, hb, hml, hown, hw⟩ (kX2_isFalse l D a k n x1 w z1 e2) (cwV 1 hw (ez_gV mw374 mw290 mw291 mw3 mw292) rfl rfl rfl (by decide +kernel) ⟨Nat.le_of_ble_eq_true rfl, Nat.le_of_ble_eq_true rfl⟩) (ez_preRV (wr := []) (wl := (wC a k w)) hP hK hN 4 rfl rfl) rfl rfl hl.1 rfl (lv_room (Nat.le_of_ble_eq_true rfl)) dX3_judgeOne_5 ⟨Nat.le_refl _, Nat.le_refl _⟩) ?_
  refine lv_if_eq (pc := 8) (tgt := 13) hx hb dX3_judgeOne_8 (by decide) (fun c3 => ?_) (fun c3 => ?_)
  · replace h := ez_it c3 h
    refine lv_aload_n (pc := 13) hx hb dX3_judgeOne_13 rfl (lv_at hl 0 rfl) ?_
    refine va_get (D := D) (pc := 14) hx hb hw inX3 hown hK hP 0 rfl rfl 4 (by decide) (hw _ mw79) (fun _ h9 => h9) rfl dX3_judgeOne_14 ?_
    refine lv_iload_n (pc := 17) hx hb dX3_judgeOne_17 rfl (lv_at hl 1 rfl) ?_
    replace h := ez_bd h
    obtain ⟨z4, e5, h⟩ := h
    refine ez_croI (r := z4) (pc := 18) (va_runV (g := F0 m 18 ls [.int x1, .ref (a 4)]) (As := [.int x1]) (rest := []) ⟨hx, hb, hml, hown, hw⟩ (kX2_hasSpan l D a k n x1 w z4 e5) (cwV 1 hw (ez_gV mw375 mw376 mw377 mw3 mw378) rfl rfl rfl (by decide +kernel) ⟨Nat.le_of_ble_eq_true rfl, Nat.le_of_ble_eq_true rfl⟩) (ez_preRV (wr := []) (wl := (wC a k w)) hP hK hN 4 rfl rfl) rfl rfl hl.1 rfl (lv_room (Nat.le_of_ble_eq_true rfl)) dX3_judgeOne_18 ⟨Nat.le_refl _, Nat.le_refl _⟩) ?_
    refine lv_if_ne (pc := 21) (tgt := 26) hx hb dX3_judgeOne_21 (by decide) (fun c6 => ?_) (fun c6 => ?_)
    · replace h := ez_if c6 h
      refine lv_aload_n (pc := 26) hx hb dX3_judgeOne_26 rfl (lv_at hl 0 rfl) ?_
      refine va_get (D := D) (pc := 27) hx hb hw inX3 hown hK hP 0 rfl rfl 4 (by decide) (hw _ mw79) (fun _ h9 => h9) rfl dX3_judgeOne_27 ?_
      refine lv_iload_n (pc := 30) hx hb dX3_judgeOne_30 rfl (lv_at hl 1 rfl) ?_
      replace h := ez_bd h
      obtain ⟨z7, e8, h⟩ := h
      refine ez_croL (r := z7) (pc := 31) (va_runV (g := F0 m 31 ls [.int x1, .ref (a 4)]) (As := [.int x1]) (rest := []) ⟨hx, hb, hml, hown, hw⟩ (kX2_highOf l D a k n x1 w z7 e8) (cwV 1 hw (ez_gV mw379 mw319 mw320 mw3 mw321) rfl rfl rfl (by decide +kernel) ⟨Nat.le_of_ble_eq_true rfl, Nat.le_of_ble_eq_true rfl⟩) (ez_preRV (wr := []) (wl := (wC a k w)) hP hK hN 4 rfl rfl) rfl rfl hl.1 rfl (lv_room (Nat.le_of_ble_eq_true rfl)) dX3_judgeOne_31 ⟨Nat.le_refl _, Nat.le_refl _⟩) ?_
      refine lv_aload_n (pc := 34) hx hb dX3_judgeOne_34 rfl (lv_at hl 0 rfl) ?_
      refine va_get (D := D) (pc := 35) hx hb hw inX3 hown hK hP 0 rfl rfl 4 (by decide) (hw _ mw79) (fun _ h9 => h9) rfl dX3_judgeOne_35 ?_
      refine lv_iload_n (pc := 38) hx hb dX3_judgeOne_38 rfl (lv_at hl 1 rfl) ?_
      replace h := ez_bd h
      obtain ⟨z9, e10, h⟩ := h
      refine ez_croL (r := z9) (pc := 39) (va_runV (g := F0 m 39 ls [.int x1, .ref (a 4), .long z7]) (As := [.int x1]) (rest := [.long z7]) ⟨hx, hb, hml, hown, hw⟩ (kX2_lowOf l D a k n x1 w z9 e10) (cwV 1 hw (ez_gV mw380 mw323 mw324 mw3 mw325) rfl rfl rfl (by decide +kernel) ⟨Nat.le_of_ble_eq_true rfl, Nat.le_of_ble_eq_true rfl⟩) (ez_preRV (wr := []) (wl := (wC a k w)) hP hK hN 4 rfl rfl) rfl rfl hl.1 rfl (lv_room (Nat.le_of_ble_eq_true rfl)) dX3_judgeOne_39 ⟨Nat.le_refl _, Nat.le_refl _⟩) ?_
      refine lv_lsub (pc := 42) hx hb dX3_judgeOne_42 ?_
      refine lv_lload_n (pc := 43) hx hb dX3_judgeOne_43 rfl (lv_at hl 2 rfl) ?_
      refine W.lcmp (pc := 44) hx hb dX3_judgeOne_44 ?_
      refine lv_if_gt (pc := 45) (tgt := 52) hx hb dX3_judgeOne_45 (by decide) (fun c11 => ?_) (fun c11 => ?_)
      · replace h := ez_it c11 h
        refine lv_iconst (v := 0) (pc := 52) hx hb dX3_judgeOne_52 rfl ?_
        obtain rfl := ez_r1 h
        exact ez_rroI C0 dX3_judgeOne_53
      · replace h := ez_if c11 h
        refine lv_iconst (v := 1) (pc := 48) hx hb dX3_judgeOne_48 rfl ?_
        refine lv_goto (pc := 49) (tgt := 53) hx hb dX3_judgeOne_49 (by decide) ?_
        obtain rfl := ez_r1 h
        exact ez_rroI C0 dX3_judgeOne_53
    · replace h := ez_it c6 h
      refine lv_iconst (v := 0) (pc := 24) hx hb dX3_judgeOne_24 rfl ?_
      obtain rfl := ez_r1 h
      exact ez_rroI C0 dX3_judgeOne_25
  · replace h := ez_if c3 h
    refine lv_iconst (v := 2) (pc := 11) hx hb dX3_judgeOne_11 rfl ?_
    obtain rfl := ez_r1 h
    exact ez_rroI C0 dX3_judgeOne_12
set_option maxRecDepth 100000 in
theorem kX3_judgeOne (l : Launch) (D : va_G) (a : Nat → Nat) (k : Nat → ClassId) (n : Nat) (x1 : Int32) (x2 : Int64) (w : Wd) (z : Int32) (h : fX3_judgeOne n x1 x2 w = some z) : Met l yX3_judgeOne wsX3_judgeOne ({ frames := 2, cells := 0, slots := 0, locals := 41 } : Room) (ez_Rc D (tC k) [.ref (a 0), .int x1, .long x2] (wC a k w)) (ez_Ri z) 0 0 (fun _ => False) :=
  ez_mkR (by decide) rfl (Nat.le_of_ble_eq_true rfl) (fun p e s m below meth c ls C0 hl hP hK => tX3_judgeOne_0 C0 hK hP n ls x1 x2 (lv_sub (l := [(0, .ref (a 0)), (1, .int x1), (2, .long x2)]) hl [0, 1, 2] rfl) h)
/-! EnclosureCalculator trySteps -/
theorem dX3_trySteps_0 : decode cX3_trySteps 0 = .ok (.iload_n 3, 1) := by decide +kernel
theorem dX3_trySteps_1 : decode cX3_trySteps 1 = .ok (.iload 4, 2) := by decide +kernel
theorem dX3_trySteps_3 : decode cX3_trySteps 3 = .ok (.iadd, 1) := by decide +kernel
theorem dX3_trySteps_4 : decode cX3_trySteps 4 = .ok (.iconst 1, 1) := by decide +kernel
theorem dX3_trySteps_5 : decode cX3_trySteps 5 = .ok (.isub, 1) := by decide +kernel
theorem dX3_trySteps_6 : decode cX3_trySteps 6 = .ok (.bipush 18, 2) := by decide +kernel
theorem dX3_trySteps_8 : decode cX3_trySteps 8 = .ok (.invokestatic 130, 3) := by decide +kernel
theorem dX3_trySteps_11 : decode cX3_trySteps 11 = .ok (.istore 6, 2) := by decide +kernel
theorem dX3_trySteps_13 : decode cX3_trySteps 13 = .ok (.aload_n 0, 1) := by decide +kernel
theorem dX3_trySteps_14 : decode cX3_trySteps 14 = .ok (.getfield 27, 3) := by decide +kernel
theorem dX3_trySteps_17 : decode cX3_trySteps 17 = .ok (.aload_n 0, 1) := by decide +kernel
theorem dX3_trySteps_18 : decode cX3_trySteps 18 = .ok (.getfield 16, 3) := by decide +kernel
theorem dX3_trySteps_21 : decode cX3_trySteps 21 = .ok (.iload_n 1, 1) := by decide +kernel
theorem dX3_trySteps_22 : decode cX3_trySteps 22 = .ok (.iload_n 2, 1) := by decide +kernel
theorem dX3_trySteps_23 : decode cX3_trySteps 23 = .ok (.invokevirtual 69, 3) := by decide +kernel
theorem dX3_trySteps_26 : decode cX3_trySteps 26 = .ok (.istore 7, 2) := by decide +kernel
theorem dX3_trySteps_28 : decode cX3_trySteps 28 = .ok (.iconst 0, 1) := by decide +kernel
theorem dX3_trySteps_29 : decode cX3_trySteps 29 = .ok (.istore 8, 2) := by decide +kernel
theorem dX3_trySteps_31 : decode cX3_trySteps 31 = .ok (.aload_n 0, 1) := by decide +kernel
theorem dX3_trySteps_32 : decode cX3_trySteps 32 = .ok (.iconst 0, 1) := by decide +kernel
theorem dX3_trySteps_33 : decode cX3_trySteps 33 = .ok (.putfield 87, 3) := by decide +kernel
theorem dX3_trySteps_36 : decode cX3_trySteps 36 = .ok (.iload_n 3, 1) := by decide +kernel
theorem dX3_trySteps_37 : decode cX3_trySteps 37 = .ok (.istore 9, 2) := by decide +kernel
theorem dX3_trySteps_39 : decode cX3_trySteps 39 = .ok (.iload 9, 2) := by decide +kernel
theorem dX3_trySteps_41 : decode cX3_trySteps 41 = .ok (.iload 6, 2) := by decide +kernel
theorem dX3_trySteps_43 : decode cX3_trySteps 43 = .ok (.if_icmp .gt 71, 3) := by decide +kernel
theorem dX3_trySteps_46 : decode cX3_trySteps 46 = .ok (.iload 8, 2) := by decide +kernel
theorem dX3_trySteps_48 : decode cX3_trySteps 48 = .ok (.ifCond .ne 66, 3) := by decide +kernel
theorem dX3_trySteps_51 : decode cX3_trySteps 51 = .ok (.aload_n 0, 1) := by decide +kernel
theorem dX3_trySteps_52 : decode cX3_trySteps 52 = .ok (.getfield 27, 3) := by decide +kernel
theorem dX3_trySteps_55 : decode cX3_trySteps 55 = .ok (.aload_n 0, 1) := by decide +kernel
theorem dX3_trySteps_56 : decode cX3_trySteps 56 = .ok (.getfield 16, 3) := by decide +kernel
theorem dX3_trySteps_59 : decode cX3_trySteps 59 = .ok (.iload 9, 2) := by decide +kernel
theorem dX3_trySteps_61 : decode cX3_trySteps 61 = .ok (.invokevirtual 136, 3) := by decide +kernel
theorem dX3_trySteps_64 : decode cX3_trySteps 64 = .ok (.aload_n 0, 1) := by decide +kernel
theorem dX3_trySteps_65 : decode cX3_trySteps 65 = .ok (.dup, 1) := by decide +kernel
theorem dX3_trySteps_66 : decode cX3_trySteps 66 = .ok (.getfield 87, 3) := by decide +kernel
theorem dX3_trySteps_69 : decode cX3_trySteps 69 = .ok (.iload 7, 2) := by decide +kernel
theorem dX3_trySteps_71 : decode cX3_trySteps 71 = .ok (.iadd, 1) := by decide +kernel
theorem dX3_trySteps_72 : decode cX3_trySteps 72 = .ok (.putfield 87, 3) := by decide +kernel
theorem dX3_trySteps_75 : decode cX3_trySteps 75 = .ok (.lconst 1, 1) := by decide +kernel
theorem dX3_trySteps_76 : decode cX3_trySteps 76 = .ok (.iload 9, 2) := by decide +kernel
theorem dX3_trySteps_78 : decode cX3_trySteps 78 = .ok (.iload_n 3, 1) := by decide +kernel
theorem dX3_trySteps_79 : decode cX3_trySteps 79 = .ok (.isub, 1) := by decide +kernel
theorem dX3_trySteps_80 : decode cX3_trySteps 80 = .ok (.lshl, 1) := by decide +kernel
theorem dX3_trySteps_81 : decode cX3_trySteps 81 = .ok (.lstore 10, 2) := by decide +kernel
theorem dX3_trySteps_83 : decode cX3_trySteps 83 = .ok (.iload 5, 2) := by decide +kernel
theorem dX3_trySteps_85 : decode cX3_trySteps 85 = .ok (.ifCond .eq 14, 3) := by decide +kernel
theorem dX3_trySteps_88 : decode cX3_trySteps 88 = .ok (.aload_n 0, 1) := by decide +kernel
theorem dX3_trySteps_89 : decode cX3_trySteps 89 = .ok (.iload_n 1, 1) := by decide +kernel
theorem dX3_trySteps_90 : decode cX3_trySteps 90 = .ok (.iload_n 2, 1) := by decide +kernel
theorem dX3_trySteps_91 : decode cX3_trySteps 91 = .ok (.lload 10, 2) := by decide +kernel
theorem dX3_trySteps_93 : decode cX3_trySteps 93 = .ok (.invokevirtual 140, 3) := by decide +kernel
theorem dX3_trySteps_96 : decode cX3_trySteps 96 = .ok (.goto 10, 3) := by decide +kernel
theorem dX3_trySteps_99 : decode cX3_trySteps 99 = .ok (.aload_n 0, 1) := by decide +kernel
theorem dX3_trySteps_100 : decode cX3_trySteps 100 = .ok (.iload_n 1, 1) := by decide +kernel
theorem dX3_trySteps_101 : decode cX3_trySteps 101 = .ok (.lload 10, 2) := by decide +kernel
theorem dX3_trySteps_103 : decode cX3_trySteps 103 = .ok (.invokevirtual 144, 3) := by decide +kernel
theorem dX3_trySteps_106 : decode cX3_trySteps 106 = .ok (.istore 8, 2) := by decide +kernel
theorem dX3_trySteps_108 : decode cX3_trySteps 108 = .ok (.iinc 9 1, 3) := by decide +kernel
theorem dX3_trySteps_111 : decode cX3_trySteps 111 = .ok (.goto (-72), 3) := by decide +kernel
theorem dX3_trySteps_114 : decode cX3_trySteps 114 = .ok (.iload 8, 2) := by decide +kernel
theorem dX3_trySteps_116 : decode cX3_trySteps 116 = .ok (.ireturn, 1) := by decide +kernel
def fX3_trySteps_39 : Nat → Int32 → Int32 → Int32 → Int32 → Int32 → Int32 → Int32 → Int32 → Wd → Option (Int32 × Wd)
  | 0, _, _, _, _, _, _, _, _, _ => none
  | n + 1, x1, x2, x3, x5, x6, x7, x8, x9, w =>
    if x6 < x9 then
      some (x8, w)
    else
      if x8 = 0 then
        (fX2_workOut n x9 w).bind fun z3 =>
        (ez_fI z3 1 ((z3.1 0 1) + x7)).bind fun w6 =>
        if x5 = 0 then
          (fX3_judgeOne n x1 ((1 : Int64) <<< (Int32.toInt64 (x9 - x3) &&& 63)) w6).bind fun z8 =>
          fX3_trySteps_39 n x1 x2 x3 x5 x6 x7 z8 (x9 + 1) w6
        else
          (fX3_judgeTwo n x1 x2 ((1 : Int64) <<< (Int32.toInt64 (x9 - x3) &&& 63)) w6).bind fun z10 =>
          fX3_trySteps_39 n x1 x2 x3 x5 x6 x7 z10 (x9 + 1) w6
      else
        some (x8, w)
def fX3_trySteps (n : Nat) (x1 : Int32) (x2 : Int32) (x3 : Int32) (x4 : Int32) (x5 : Int32) (w : Wd) : Option (Int32 × Wd) :=
    (fJ9_minI n ((x3 + x4) - 1) 18).bind fun z1 =>
    (fX2_choose n x1 x2 w).bind fun z3 =>
    (ez_fI z3.2 1 0).bind fun w6 =>
    fX3_trySteps_39 n x1 x2 x3 x5 z1 z3.1 0 x3 w6
set_option maxHeartbeats 4000000 in
set_option maxRecDepth 100000 in
theorem tX3_trySteps_39 {p : Program} {l : Launch} {e : Env} {s : State} {m : MethodId} {args : Array Value} {below : List Frame} {meth : Method} {c : Code} {A : Nat → Prop} {D : va_G} {a : Nat → Nat} {k : Nat → ClassId} {z : Int32 × Wd} (C0 : ez_C p s m args meth c cX3_trySteps (some .int) 12 RX3 A) (hK : va_K D vwCl (tC k) s) : ∀ (n : Nat) (H : Heap) (locs : List Loc) (ls : Array Slot) (x1 : Int32) (x2 : Int32) (x3 : Int32) (x5 : Int32) (x6 : Int32) (x7 : Int32) (x8 : Int32) (x9 : Int32) (w : Wd), lv_has ls 12 [(0, .ref (a 0)), (1, .int x1), (2, .int x2), (3, .int x3), (5, .int x5), (6, .int x6), (7, .int x7), (8, .int x8), (9, .int x9)] → va_P D vwCl (wC a k w) H → va_D A (wC a k w) → va_S A s.heap H locs → fX3_trySteps_39 n x1 x2 x3 x5 x6 x7 x8 x9 w = some z → W p l e ({ frames := 6, cells := 0, slots := 0, locals := 154 } : Room) s m args below meth c H locs 0 0 (MQ below (ez_Qi D (tC k) A z.1 (wC a k z.2)) args s 0 0 A) (F0 m 39 ls []) := by
  intro n
  induction n with
  | zero =>
    intro H locs ls x1 x2 x3 x5 x6 x7 x8 x9 w hl hP hD hS h
    rw [fX3_trySteps_39] at h
    cases h
  | succ n ih =>
    intro H locs ls x1 x2 x3 x5 x6 x7 x8 x9 w hl hP hD hS h
    rw [fX3_trySteps_39] at h
    have C1 := C0
    obtain ⟨hx, hb, hr, hml, hown, hw, hlk, hA, hN⟩ := C1
    refine lv_iload (pc := 39) hx hb dX3_trySteps_39 (lv_at hl 8 rfl) ?_
    refine lv_iload (pc := 41) hx hb dX3_trySteps_41 (lv_at hl 5 rfl) ?_
    refine lv_icmp_gt (pc := 43) (tgt := 114) hx hb dX3_trySteps_43 (by decide) (fun c1 => ?_) (fun c1 => ?_)
    · replace h := ez_it c1 h
      refine lv_iload (pc := 114) hx hb dX3_trySteps_114 (lv_at hl 7 rfl) ?_
      obtain rfl := ez_r1 h
      exact ez_retI C0 hP hD hK hS dX3_trySteps_116
    · replace h := ez_if c1 h
      refine lv_iload (pc := 46) hx hb dX3_trySteps_46 (lv_at hl 7 rfl) ?_
      refine lv_if_ne (pc := 48) (tgt := 114) hx hb dX3_trySteps_48 (by decide) (fun c2 => ?_) (fun c2 => ?_)
      · replace h := ez_if c2 h
        refine lv_iload (pc := 114) hx hb dX3_trySteps_114 (lv_at hl 7 rfl) ?_
        obtain rfl := ez_r1 h
        exact ez_retI C0 hP hD hK hS dX3_trySteps_116
      · replace h := ez_it c2 h
        refine lv_aload_n (pc := 51) hx hb dX3_trySteps_51 rfl (lv_at hl 0 rfl) ?_
        refine va_get (D := D) (pc := 52) hx hb hw inX3 hown hK hP 0 rfl rfl 4 (by decide) (hw _ mw79) (fun _ h9 => h9) rfl dX3_trySteps_52 ?_
        refine lv_aload_n (pc := 55) hx hb dX3_trySteps_55 rfl (lv_at hl 0 rfl) ?_
        refine va_get (D := D) (pc := 56) hx hb hw inX3 hown hK hP 0 rfl rfl 2 (by decide) (hw _ mw77) (fun _ h9 => h9) rfl dX3_trySteps_56 ?_
        refine lv_iload (pc := 59) hx hb dX3_trySteps_59 (lv_at hl 8 rfl) ?_
        replace h := ez_bd h
        obtain ⟨z3, e4, h⟩ := h
        refine ez_callV (pc := 61) (wr := []) (wl := (wC a k w)) (wl' := (wC a k z3)) (va_runV (g := F0 m 61 ls [.int x9, .ref (a 2), .ref (a 4)]) (As := [.ref (a 2), .int x9]) (rest := []) ⟨hx, hb, hml, hown, hw⟩ (kX2_workOut l D a k n x9 w z3 e4 H.size) (cwV 2 hw (ez_gV mw281 mw282 mw283 mw3 mw284) rfl rfl rfl (by decide +kernel) ⟨Nat.le_of_ble_eq_true rfl, Nat.le_of_ble_eq_true rfl⟩) (ez_preV (wr := []) (wl := (wC a k w)) hP hD hK hN 4 rfl rfl) rfl rfl hl.1 rfl (lv_room (Nat.le_of_ble_eq_true rfl)) dX3_trySteps_61 ⟨Nat.le_refl _, Nat.le_refl _⟩) hP hD hS hA (fun H locs hP hD hS => ?_)
        replace hP : va_P D vwCl (wC a k z3) H := hP
        replace hD : va_D A (wC a k z3) := hD
        refine lv_aload_n (pc := 64) hx hb dX3_trySteps_64 rfl (lv_at hl 0 rfl) ?_
        refine lv_dup (pc := 65) hx hb dX3_trySteps_65 rfl ?_
        refine va_get (D := D) (pc := 66) hx hb hw inX3 hown hK hP 0 rfl rfl 5 (by decide) (hw _ mw80) (fun _ h9 => h9) rfl dX3_trySteps_66 ?_
        refine lv_iload (pc := 69) hx hb dX3_trySteps_69 (lv_at hl 6 rfl) ?_
        refine lv_iadd (pc := 71) hx hb dX3_trySteps_71 ?_
        replace h := ez_bd h
        obtain ⟨w6, e5, h⟩ := h
        refine va_put (D := D) (v := .int ((z3.1 0 1) + x7)) (ty := .int) (pc := 72) hx hb hw inX3 tyX3 tyX3_ok nmX3 hown hK hP hD hS 0 rfl rfl 5 (by decide) (hw _ mw80) (fun _ h9 => h9) rfl (by decide +kernel) rfl rfl (Nat.le_of_ble_eq_true rfl) dX3_trySteps_72 (fun H locs hP hD hS => ?_)
        replace hP : va_P D vwCl (wC a k w6) H := by rw [(ez_fIs e5)]; exact hP
        replace hD : va_D A (wC a k w6) := by rw [(ez_fIs e5)]; exact hD
        refine lv_lconst (v := 1) (pc := 75) hx hb dX3_trySteps_75 rfl ?_
        refine lv_iload (pc := 76) hx hb dX3_trySteps_76 (lv_at hl 8 rfl) ?_
        refine lv_iload_n (pc := 78) hx hb dX3_trySteps_78 rfl (lv_at hl 3 rfl) ?_
        refine lv_isub (pc := 79) hx hb dX3_trySteps_79 ?_
        refine lv_lshl (pc := 80) hx hb dX3_trySteps_80 rfl ?_
        refine lv_lstore (pc := 81) hx hb dX3_trySteps_81 hl (by decide) rfl (fun ls hl => ?_)
        replace hl : lv_has ls 12 [(10, .long ((1 : Int64) <<< (Int32.toInt64 (x9 - x3) &&& 63))), (0, .ref (a 0)), (1, .int x1), (2, .int x2), (3, .int x3), (5, .int x5), (6, .int x6), (7, .int x7), (8, .int x8), (9, .int x9)] := hl
        refine lv_iload (pc := 83) hx hb dX3_trySteps_83 (lv_at hl 5 rfl) ?_
        refine lv_if_eq (pc := 85) (tgt := 99) hx hb dX3_trySteps_85 (by decide) (fun c7 => ?_) (fun c7 => ?_)
        · replace h := ez_it c7 h
          refine lv_aload_n (pc := 99) hx hb dX3_trySteps_99 rfl (lv_at hl 1 rfl) ?_
          refine lv_iload_n (pc := 100) hx hb dX3_trySteps_100 rfl (lv_at hl 2 rfl) ?_
          refine lv_lload (pc := 101) hx hb dX3_trySteps_101 (lv_at hl 0 rfl) ?_
          replace h := ez_bd h
          obtain ⟨z8, e9, h⟩ := h
          refine ez_croI (r := z8) (pc := 103) (va_runV (g := F0 m 103 ls [.long ((1 : Int64) <<< (Int32.toInt64 (x9 - x3) &&& 63)), .int x1, .ref (a 0)]) (As := [.int x1, .long ((1 : Int64) <<< (Int32.toInt64 (x9 - x3) &&& 63))]) (rest := []) ⟨hx, hb, hml, hown, hw⟩ (kX3_judgeOne l D a k n x1 ((1 : Int64) <<< (Int32.toInt64 (x9 - x3) &&& 63)) w6 z8 e9) (cwV 2 hw (ez_gV mw383 mw385 mp30 mw1 mw386) rfl rfl rfl (by decide +kernel) ⟨Nat.le_of_ble_eq_true rfl, Nat.le_of_ble_eq_true rfl⟩) (ez_preRV (wr := []) (wl := (wC a k w6)) hP hK hN 0 rfl rfl) rfl rfl hl.1 rfl (lv_room (Nat.le_of_ble_eq_true rfl)) dX3_trySteps_103 ⟨Nat.le_refl _, Nat.le_refl _⟩) ?_
          refine lv_istore (pc := 106) hx hb dX3_trySteps_106 hl (by decide) rfl (fun ls hl => ?_)
          replace hl : lv_has ls 12 [(8, .int z8), (10, .long ((1 : Int64) <<< (Int32.toInt64 (x9 - x3) &&& 63))), (0, .ref (a 0)), (1, .int x1), (2, .int x2), (3, .int x3), (5, .int x5), (6, .int x6), (7, .int x7), (9, .int x9)] := hl
          refine lv_iinc (v := (x9 + 1)) (k := 9) (pc := 108) hx hb dX3_trySteps_108 hl rfl rfl (by decide) rfl (fun ls hl => ?_)
          replace hl : lv_has ls 12 [(9, .int (x9 + 1)), (8, .int z8), (10, .long ((1 : Int64) <<< (Int32.toInt64 (x9 - x3) &&& 63))), (0, .ref (a 0)), (1, .int x1), (2, .int x2), (3, .int x3), (5, .int x5), (6, .int x6), (7, .int x7)] := hl
          refine lv_goto (pc := 111) (tgt := 39) hx hb dX3_trySteps_111 (by decide) ?_
          exact ih _ _ _ x1 x2 x3 x5 x6 x7 z8 (x9 + 1) w6 (lv_sub hl [3, 4, 5, 6, 7, 8, 9, 1, 0] rfl) hP hD hS h
        · replace h := ez_if c7 h
          refine lv_aload_n (pc := 88) hx hb dX3_trySteps_88 rfl (lv_at hl 1 rfl) ?_
          refine lv_iload_n (pc := 89) hx hb dX3_trySteps_89 rfl (lv_at hl 2 rfl) ?_
          refine lv_iload_n (pc := 90) hx hb dX3_trySteps_90 rfl (lv_at hl 3 rfl) ?_
          refine lv_lload (pc := 91) hx hb dX3_trySteps_91 (lv_at hl 0 rfl) ?_
          replace h := ez_bd h
          obtain ⟨z10, e11, h⟩ := h
          refine ez_croI (r := z10) (pc := 93) (va_runV (g := F0 m 93 ls [.long ((1 : Int64) <<< (Int32.toInt64 (x9 - x3) &&& 63)), .int x2, .int x1, .ref (a 0)]) (As := [.int x1, .int x2, .long ((1 : Int64) <<< (Int32.toInt64 (x9 - x3) &&& 63))]) (rest := []) ⟨hx, hb, hml, hown, hw⟩ (kX3_judgeTwo l D a k n x1 x2 ((1 : Int64) <<< (Int32.toInt64 (x9 - x3) &&& 63)) w6 z10 e11) (cwV 3 hw (ez_gV mw370 mw372 mp29 mw1 mw373) rfl rfl rfl (by decide +kernel) ⟨Nat.le_of_ble_eq_true rfl, Nat.le_of_ble_eq_true rfl⟩) (ez_preRV (wr := []) (wl := (wC a k w6)) hP hK hN 0 rfl rfl) rfl rfl hl.1 rfl (lv_room (Nat.le_of_ble_eq_true rfl)) dX3_trySteps_93 ⟨Nat.le_refl _, Nat.le_refl _⟩) ?_
          refine lv_goto (pc := 96) (tgt := 106) hx hb dX3_trySteps_96 (by decide) ?_
          refine lv_istore (pc := 106) hx hb dX3_trySteps_106 hl (by decide) rfl (fun ls hl => ?_)
          replace hl : lv_has ls 12 [(8, .int z10), (10, .long ((1 : Int64) <<< (Int32.toInt64 (x9 - x3) &&& 63))), (0, .ref (a 0)), (1, .int x1), (2, .int x2), (3, .int x3), (5, .int x5), (6, .int x6), (7, .int x7), (9, .int x9)] := hl
          refine lv_iinc (v := (x9 + 1)) (k := 9) (pc := 108) hx hb dX3_trySteps_108 hl rfl rfl (by decide) rfl (fun ls hl => ?_)
          replace hl : lv_has ls 12 [(9, .int (x9 + 1)), (8, .int z10), (10, .long ((1 : Int64) <<< (Int32.toInt64 (x9 - x3) &&& 63))), (0, .ref (a 0)), (1, .int x1), (2, .int x2), (3, .int x3), (5, .int x5), (6, .int x6), (7, .int x7)] := hl
          refine lv_goto (pc := 111) (tgt := 39) hx hb dX3_trySteps_111 (by decide) ?_
          exact ih _ _ _ x1 x2 x3 x5 x6 x7 z10 (x9 + 1) w6 (lv_sub hl [3, 4, 5, 6, 7, 8, 9, 1, 0] rfl) hP hD hS h
set_option maxHeartbeats 4000000 in
set_option maxRecDepth 100000 in
theorem tX3_trySteps_0 {p : Program} {l : Launch} {e : Env} {s : State} {m : MethodId} {args : Array Value} {below : List Frame} {meth : Method} {c : Code} {A : Nat → Prop} {D : va_G} {a : Nat → Nat} {k : Nat → ClassId} {z : Int32 × Wd} (C0 : ez_C p s m args meth c cX3_trySteps (some .int) 12 RX3 A) (hK : va_K D vwCl (tC k) s) : ∀ (n : Nat) (H : Heap) (locs : List Loc) (ls : Array Slot) (x1 : Int32) (x2 : Int32) (x3 : Int32) (x4 : Int32) (x5 : Int32) (w : Wd), lv_has ls 12 [(0, .ref (a 0)), (1, .int x1), (2, .int x2), (3, .int x3), (4, .int x4), (5, .int x5)] → va_P D vwCl (wC a k w) H → va_D A (wC a k w) → va_S A s.heap H locs → fX3_trySteps n x1 x2 x3 x4 x5 w = some z → W p l e ({ frames := 6, cells := 0, slots := 0, locals := 154 } : Room) s m args below meth c H locs 0 0 (MQ below (ez_Qi D (tC k) A z.1 (wC a k z.2)) args s 0 0 A) (F0 m 0 ls []) := by
  intro n
  intro H locs ls x1 x2 x3 x4 x5 w hl hP hD hS h
  rw [fX3_trySteps] at h
  have C1 := C0
  obtain ⟨hx, hb, hr, hml, hown, hw, hlk, hA, hN⟩ := C1
  refine lv_iload_n (pc := 0) hx hb dX3_trySteps_0 rfl (lv_at hl 3 rfl) ?_
  refine lv_iload (pc := 1) hx hb dX3_trySteps_1 (lv_at hl 4 rfl) ?_
  refine lv_iadd (pc := 3) hx hb dX3_trySteps_3 ?_
  refine lv_iconst (v := 1) (pc := 4) hx hb dX3_trySteps_4 rfl ?_
  refine lv_isub (pc := 5) hx hb dX3_trySteps_5 ?_
  refine lv_bipush (v := 18) (pc := 6) hx hb dX3_trySteps_6 rfl ?_
  replace h := ez_bd h
  obtain ⟨z1, e2, h⟩ := h
  refine ez_croI (r := z1) (pc := 8) (va_runS (g := F0 m 8 ls [.int 18, .int ((x3 + x4) - 1)]) (As := [.int ((x3 + x4) - 1), .int 18]) (rest := []) ⟨hx, hb, hml, hown, hw⟩ (kJ9_minI l n ((x3 + x4) - 1) 18 z1 e2) (va_cwS 2 hw (ez_gS mw278 mw279 mw6 mw280) rfl rfl rfl (by decide +kernel) ⟨Nat.le_of_ble_eq_true rfl, Nat.le_of_ble_eq_true rfl⟩) (ez_preRS hN) rfl rfl hl.1 rfl (lv_room (Nat.le_of_ble_eq_true rfl)) dX3_trySteps_8 ⟨Nat.le_refl _, Nat.le_refl _⟩) ?_
  refine lv_istore (pc := 11) hx hb dX3_trySteps_11 hl (by decide) rfl (fun ls hl => ?_)
  replace hl : lv_has ls 12 [(6, .int z1), (0, .ref (a 0)), (1, .int x1), (2, .int x2), (3, .int x3), (4, .int x4), (5, .int x5)] := hl
  refine lv_aload_n (pc := 13) hx hb dX3_trySteps_13 rfl (lv_at hl 1 rfl) ?_
  refine va_get (D := D) (pc := 14) hx hb hw inX3 hown hK hP 0 rfl rfl 4 (by decide) (hw _ mw79) (fun _ h9 => h9) rfl dX3_trySteps_14 ?_
  refine lv_aload_n (pc := 17) hx hb dX3_trySteps_17 rfl (lv_at hl 1 rfl) ?_
  refine va_get (D := D) (pc := 18) hx hb hw inX3 hown hK hP 0 rfl rfl 2 (by decide) (hw _ mw77) (fun _ h9 => h9) rfl dX3_trySteps_18 ?_
  refine lv_iload_n (pc := 21) hx hb dX3_trySteps_21 rfl (lv_at hl 2 rfl) ?_
  refine lv_iload_n (pc := 22) hx hb dX3_trySteps_22 rfl (lv_at hl 3 rfl) ?_
  replace h := ez_bd h
  obtain ⟨z3, e4, h⟩ := h
  refine ez_callI (r := z3.1) (pc := 23) (wr := []) (wl := (wC a k w)) (wl' := (wC a k z3.2)) (va_runV (g := F0 m 23 ls [.int x2, .int x1, .ref (a 2), .ref (a 4)]) (As := [.ref (a 2), .int x1, .int x2]) (rest := []) ⟨hx, hb, hml, hown, hw⟩ (kX2_choose l D a k n x1 x2 w z3 e4 H.size) (cwV 3 hw (ez_gV mw247 mw248 mw249 mw3 mw250) rfl rfl rfl (by decide +kernel) ⟨Nat.le_of_ble_eq_true rfl, Nat.le_of_ble_eq_true rfl⟩) (ez_preV (wr := []) (wl := (wC a k w)) hP hD hK hN 4 rfl rfl) rfl rfl hl.1 rfl (lv_room (Nat.le_of_ble_eq_true rfl)) dX3_trySteps_23 ⟨Nat.le_refl _, Nat.le_refl _⟩) hP hD hS hA (fun H locs hP hD hS => ?_)
  replace hP : va_P D vwCl (wC a k z3.2) H := hP
  replace hD : va_D A (wC a k z3.2) := hD
  refine lv_istore (pc := 26) hx hb dX3_trySteps_26 hl (by decide) rfl (fun ls hl => ?_)
  replace hl : lv_has ls 12 [(7, .int z3.1), (6, .int z1), (0, .ref (a 0)), (1, .int x1), (2, .int x2), (3, .int x3), (4, .int x4), (5, .int x5)] := hl
  refine lv_iconst (v := 0) (pc := 28) hx hb dX3_trySteps_28 rfl ?_
  refine lv_istore (pc := 29) hx hb dX3_trySteps_29 hl (by decide) rfl (fun ls hl => ?_)
  replace hl : lv_has ls 12 [(8, .int 0), (7, .int z3.1), (6, .int z1), (0, .ref (a 0)), (1, .int x1), (2, .int x2), (3, .int x3), (4, .int x4), (5, .int x5)] := hl
  refine lv_aload_n (pc := 31) hx hb dX3_trySteps_31 rfl (lv_at hl 3 rfl) ?_
  refine lv_iconst (v := 0) (pc := 32) hx hb dX3_trySteps_32 rfl ?_
  replace h := ez_bd h
  obtain ⟨w6, e5, h⟩ := h
  refine va_put (D := D) (v := .int 0) (ty := .int) (pc := 33) hx hb hw inX3 tyX3 tyX3_ok nmX3 hown hK hP hD hS 0 rfl rfl 5 (by decide) (hw _ mw80) (fun _ h9 => h9) rfl (by decide +kernel) rfl rfl (Nat.le_of_ble_eq_true rfl) dX3_trySteps_33 (fun H locs hP hD hS => ?_)
  replace hP : va_P D vwCl (wC a k w6) H := by rw [(ez_fIs e5)]; exact hP
  replace hD : va_D A (wC a k w6) := by rw [(ez_fIs e5)]; exact hD
  refine lv_iload_n (pc := 36) hx hb dX3_trySteps_36 rfl (lv_at hl 6 rfl) ?_
  refine lv_istore (pc := 37) hx hb dX3_trySteps_37 hl (by decide) rfl (fun ls hl => ?_)
  replace hl : lv_has ls 12 [(9, .int x3), (8, .int 0), (7, .int z3.1), (6, .int z1), (0, .ref (a 0)), (1, .int x1), (2, .int x2), (3, .int x3), (4, .int x4), (5, .int x5)] := hl
  exact tX3_trySteps_39 C0 hK  n _ _ _ x1 x2 x3 x5 z1 z3.1 0 x3 w6 (lv_sub hl [4, 5, 6, 7, 9, 3, 2, 1, 0] rfl) hP hD hS h
set_option maxRecDepth 100000 in
theorem kX3_trySteps (l : Launch) (D : va_G) (a : Nat → Nat) (k : Nat → ClassId) (n : Nat) (x1 : Int32) (x2 : Int32) (x3 : Int32) (x4 : Int32) (x5 : Int32) (w : Wd) (z : Int32 × Wd) (h : fX3_trySteps n x1 x2 x3 x4 x5 w = some z) (sz : Nat) : Met l yX3_trySteps wsX3_trySteps ({ frames := 6, cells := 0, slots := 0, locals := 154 } : Room) (ez_Pc D (tC k) [.ref (a 0), .int x1, .int x2, .int x3, .int x4, .int x5] (wC a k w) sz) (ez_Qi D (tC k) (va_A (wC a k w) sz) z.1 (wC a k z.2)) 0 0 (va_A (wC a k w) sz) :=
  ez_mk (Qf := fun A => (ez_Qi D (tC k) A z.1 (wC a k z.2))) (by decide) rfl (Nat.le_of_ble_eq_true rfl) (fun p e s m below meth c A ls C0 _ hl hP hD hK => tX3_trySteps_0 C0 hK n s.heap [] ls x1 x2 x3 x4 x5 w (lv_sub (l := [(0, .ref (a 0)), (1, .int x1), (2, .int x2), (3, .int x3), (4, .int x4), (5, .int x5)]) hl [0, 1, 2, 3, 4, 5] rfl) hP hD va_S.rf h) sz
/-! EnclosureCalculator keepResult -/
theorem dX3_keepResult_0 : decode cX3_keepResult 0 = .ok (.aload_n 0, 1) := by decide +kernel
theorem dX3_keepResult_1 : decode cX3_keepResult 1 = .ok (.aload_n 0, 1) := by decide +kernel
theorem dX3_keepResult_2 : decode cX3_keepResult 2 = .ok (.getfield 27, 3) := by decide +kernel
theorem dX3_keepResult_5 : decode cX3_keepResult 5 = .ok (.invokevirtual 110, 3) := by decide +kernel
theorem dX3_keepResult_8 : decode cX3_keepResult 8 = .ok (.putfield 90, 3) := by decide +kernel
theorem dX3_keepResult_11 : decode cX3_keepResult 11 = .ok (.aload_n 0, 1) := by decide +kernel
theorem dX3_keepResult_12 : decode cX3_keepResult 12 = .ok (.aload_n 0, 1) := by decide +kernel
theorem dX3_keepResult_13 : decode cX3_keepResult 13 = .ok (.getfield 27, 3) := by decide +kernel
theorem dX3_keepResult_16 : decode cX3_keepResult 16 = .ok (.iload_n 1, 1) := by decide +kernel
theorem dX3_keepResult_17 : decode cX3_keepResult 17 = .ok (.invokevirtual 113, 3) := by decide +kernel
theorem dX3_keepResult_20 : decode cX3_keepResult 20 = .ok (.putfield 93, 3) := by decide +kernel
theorem dX3_keepResult_23 : decode cX3_keepResult 23 = .ok (.aload_n 0, 1) := by decide +kernel
theorem dX3_keepResult_24 : decode cX3_keepResult 24 = .ok (.aload_n 0, 1) := by decide +kernel
theorem dX3_keepResult_25 : decode cX3_keepResult 25 = .ok (.getfield 27, 3) := by decide +kernel
theorem dX3_keepResult_28 : decode cX3_keepResult 28 = .ok (.iload_n 1, 1) := by decide +kernel
theorem dX3_keepResult_29 : decode cX3_keepResult 29 = .ok (.invokevirtual 117, 3) := by decide +kernel
theorem dX3_keepResult_32 : decode cX3_keepResult 32 = .ok (.putfield 97, 3) := by decide +kernel
theorem dX3_keepResult_35 : decode cX3_keepResult 35 = .ok (.return_, 1) := by decide +kernel
def fX3_keepResult (n : Nat) (x1 : Int32) (w : Wd) : Option (Wd) :=
    (fX2_latestStep n w).bind fun z1 =>
    (ez_fI w 2 z1).bind fun w4 =>
    (fX2_lowOf n x1 w4).bind fun z5 =>
    (ez_fL w4 0 z5).bind fun w8 =>
    (fX2_highOf n x1 w8).bind fun z9 =>
    (ez_fL w8 1 z9).bind fun w12 =>
    some w12
set_option maxHeartbeats 4000000 in
set_option maxRecDepth 100000 in
theorem tX3_keepResult_0 {p : Program} {l : Launch} {e : Env} {s : State} {m : MethodId} {args : Array Value} {below : List Frame} {meth : Method} {c : Code} {A : Nat → Prop} {D : va_G} {a : Nat → Nat} {k : Nat → ClassId} {z : Wd} (C0 : ez_C p s m args meth c cX3_keepResult none 2 RX3 A) (hK : va_K D vwCl (tC k) s) : ∀ (n : Nat) (H : Heap) (locs : List Loc) (ls : Array Slot) (x1 : Int32) (w : Wd), lv_has ls 2 [(0, .ref (a 0)), (1, .int x1)] → va_P D vwCl (wC a k w) H → va_D A (wC a k w) → va_S A s.heap H locs → fX3_keepResult n x1 w = some z → W p l e ({ frames := 2, cells := 0, slots := 0, locals := 41 } : Room) s m args below meth c H locs 0 0 (MQ below (ez_Qv D (tC k) A (wC a k z)) args s 0 0 A) (F0 m 0 ls []) := by
  intro n
  intro H locs ls x1 w hl hP hD hS h
  rw [fX3_keepResult] at h
  have C1 := C0
  obtain ⟨hx, hb, hr, hml, hown, hw, hlk, hA, hN⟩ := C1
  refine lv_aload_n (pc := 0) hx hb dX3_keepResult_0 rfl (lv_at hl 0 rfl) ?_
  refine lv_aload_n (pc := 1) hx hb dX3_keepResult_1 rfl (lv_at hl 0 rfl) ?_
  refine va_get (D := D) (pc := 2) hx hb hw inX3 hown hK hP 0 rfl rfl 4 (by decide) (hw _ mw79) (fun _ h9 => h9) rfl dX3_keepResult_2 ?_
  replace h := ez_bd h
  obtain ⟨z1, e2, h⟩ := h
  refine ez_croI (r := z1) (pc := 5) (va_runV (g := F0 m 5 ls [.ref (a 4), .ref (a 0)]) (As := []) (rest := [.ref (a 0)]) ⟨hx, hb, hml, hown, hw⟩ (kX2_latestStep l D a k n w z1 e2) (cwV 0 hw (ez_gV mw391 mw392 mw393 mw3 mw394) rfl rfl rfl (by decide +kernel) ⟨Nat.le_of_ble_eq_true rfl, Nat.le_of_ble_eq_true rfl⟩) (ez_preRV (wr := []) (wl := (wC a k w)) hP hK hN 4 rfl rfl) rfl rfl hl.1 rfl (lv_room (Nat.le_of_ble_eq_true rfl)) dX3_keepResult_5 ⟨Nat.le_refl _, Nat.le_refl _⟩) ?_
  replace h := ez_bd h
  obtain ⟨w4, e3, h⟩ := h
  refine va_put (D := D) (v := .int z1) (ty := .int) (pc := 8) hx hb hw inX3 tyX3 tyX3_ok nmX3 hown hK hP hD hS 0 rfl rfl 6 (by decide) (hw _ mw81) (fun _ h9 => h9) rfl (by decide +kernel) rfl rfl (Nat.le_of_ble_eq_true rfl) dX3_keepResult_8 (fun H locs hP hD hS => ?_)
  replace hP : va_P D vwCl (wC a k w4) H := by rw [(ez_fIs e3)]; exact hP
  replace hD : va_D A (wC a k w4) := by rw [(ez_fIs e3)]; exact hD
  refine lv_aload_n (pc := 11) hx hb dX3_keepResult_11 rfl (lv_at hl 0 rfl) ?_
  refine lv_aload_n (pc := 12) hx hb dX3_keepResult_12 rfl (lv_at hl 0 rfl) ?_
  refine va_get (D := D) (pc := 13) hx hb hw inX3 hown hK hP 0 rfl rfl 4 (by decide) (hw _ mw79) (fun _ h9 => h9) rfl dX3_keepResult_13 ?_
  refine lv_iload_n (pc := 16) hx hb dX3_keepResult_16 rfl (lv_at hl 1 rfl) ?_
  replace h := ez_bd h
  obtain ⟨z5, e6, h⟩ := h
  refine ez_croL (r := z5) (pc := 17) (va_runV (g := F0 m 17 ls [.int x1, .ref (a 4), .ref (a 0)]) (As := [.int x1]) (rest := [.ref (a 0)]) ⟨hx, hb, hml, hown, hw⟩ (kX2_lowOf l D a k n x1 w4 z5 e6) (cwV 1 hw (ez_gV mw380 mw323 mw324 mw3 mw325) rfl rfl rfl (by decide +kernel) ⟨Nat.le_of_ble_eq_true rfl, Nat.le_of_ble_eq_true rfl⟩) (ez_preRV (wr := []) (wl := (wC a k w4)) hP hK hN 4 rfl rfl) rfl rfl hl.1 rfl (lv_room (Nat.le_of_ble_eq_true rfl)) dX3_keepResult_17 ⟨Nat.le_refl _, Nat.le_refl _⟩) ?_
  replace h := ez_bd h
  obtain ⟨w8, e7, h⟩ := h
  refine va_put (D := D) (v := .long z5) (ty := .long) (pc := 20) hx hb hw inX3 tyX3 tyX3_ok nmX3 hown hK hP hD hS 0 rfl rfl 7 (by decide) (hw _ mw82) (fun _ h9 => h9) rfl (by decide +kernel) rfl rfl (Nat.le_of_ble_eq_true rfl) dX3_keepResult_20 (fun H locs hP hD hS => ?_)
  replace hP : va_P D vwCl (wC a k w8) H := by rw [(ez_fLs e7)]; exact hP
  replace hD : va_D A (wC a k w8) := by rw [(ez_fLs e7)]; exact hD
  refine lv_aload_n (pc := 23) hx hb dX3_keepResult_23 rfl (lv_at hl 0 rfl) ?_
  refine lv_aload_n (pc := 24) hx hb dX3_keepResult_24 rfl (lv_at hl 0 rfl) ?_
  refine va_get (D := D) (pc := 25) hx hb hw inX3 hown hK hP 0 rfl rfl 4 (by decide) (hw _ mw79) (fun _ h9 => h9) rfl dX3_keepResult_25 ?_
  refine lv_iload_n (pc := 28) hx hb dX3_keepResult_28 rfl (lv_at hl 1 rfl) ?_
  replace h := ez_bd h
  obtain ⟨z9, e10, h⟩ := h
  refine ez_croL (r := z9) (pc := 29) (va_runV (g := F0 m 29 ls [.int x1, .ref (a 4), .ref (a 0)]) (As := [.int x1]) (rest := [.ref (a 0)]) ⟨hx, hb, hml, hown, hw⟩ (kX2_highOf l D a k n x1 w8 z9 e10) (cwV 1 hw (ez_gV mw379 mw319 mw320 mw3 mw321) rfl rfl rfl (by decide +kernel) ⟨Nat.le_of_ble_eq_true rfl, Nat.le_of_ble_eq_true rfl⟩) (ez_preRV (wr := []) (wl := (wC a k w8)) hP hK hN 4 rfl rfl) rfl rfl hl.1 rfl (lv_room (Nat.le_of_ble_eq_true rfl)) dX3_keepResult_29 ⟨Nat.le_refl _, Nat.le_refl _⟩) ?_
  replace h := ez_bd h
  obtain ⟨w12, e11, h⟩ := h
  refine va_put (D := D) (v := .long z9) (ty := .long) (pc := 32) hx hb hw inX3 tyX3 tyX3_ok nmX3 hown hK hP hD hS 0 rfl rfl 8 (by decide) (hw _ mw83) (fun _ h9 => h9) rfl (by decide +kernel) rfl rfl (Nat.le_of_ble_eq_true rfl) dX3_keepResult_32 (fun H locs hP hD hS => ?_)
  replace hP : va_P D vwCl (wC a k w12) H := by rw [(ez_fLs e11)]; exact hP
  replace hD : va_D A (wC a k w12) := by rw [(ez_fLs e11)]; exact hD
  obtain rfl := ez_r1 h
  exact ez_retV C0 hP hD hK hS dX3_keepResult_35
set_option maxRecDepth 100000 in
theorem kX3_keepResult (l : Launch) (D : va_G) (a : Nat → Nat) (k : Nat → ClassId) (n : Nat) (x1 : Int32) (w : Wd) (z : Wd) (h : fX3_keepResult n x1 w = some z) (sz : Nat) : Met l yX3_keepResult wsX3_keepResult ({ frames := 2, cells := 0, slots := 0, locals := 41 } : Room) (ez_Pc D (tC k) [.ref (a 0), .int x1] (wC a k w) sz) (ez_Qv D (tC k) (va_A (wC a k w) sz) (wC a k z)) 0 0 (va_A (wC a k w) sz) :=
  ez_mk (Qf := fun A => (ez_Qv D (tC k) A (wC a k z))) (by decide) rfl (Nat.le_of_ble_eq_true rfl) (fun p e s m below meth c A ls C0 _ hl hP hD hK => tX3_keepResult_0 C0 hK n s.heap [] ls x1 w (lv_sub (l := [(0, .ref (a 0)), (1, .int x1)]) hl [0, 1] rfl) hP hD va_S.rf h) sz
/-! EnclosureCalculator evaluate -/
theorem dX3_evaluate_0 : decode cX3_evaluate 0 = .ok (.aload_n 0, 1) := by decide +kernel
theorem dX3_evaluate_1 : decode cX3_evaluate 1 = .ok (.iload_n 1, 1) := by decide +kernel
theorem dX3_evaluate_2 : decode cX3_evaluate 2 = .ok (.invokevirtual 66, 3) := by decide +kernel
theorem dX3_evaluate_5 : decode cX3_evaluate 5 = .ok (.ifCond .eq 11, 3) := by decide +kernel
theorem dX3_evaluate_8 : decode cX3_evaluate 8 = .ok (.iload_n 2, 1) := by decide +kernel
theorem dX3_evaluate_9 : decode cX3_evaluate 9 = .ok (.iload_n 3, 1) := by decide +kernel
theorem dX3_evaluate_10 : decode cX3_evaluate 10 = .ok (.invokestatic 73, 3) := by decide +kernel
theorem dX3_evaluate_13 : decode cX3_evaluate 13 = .ok (.ifCond .ne 5, 3) := by decide +kernel
theorem dX3_evaluate_16 : decode cX3_evaluate 16 = .ok (.iconst (-1), 1) := by decide +kernel
theorem dX3_evaluate_17 : decode cX3_evaluate 17 = .ok (.ireturn, 1) := by decide +kernel
theorem dX3_evaluate_18 : decode cX3_evaluate 18 = .ok (.aload_n 0, 1) := by decide +kernel
theorem dX3_evaluate_19 : decode cX3_evaluate 19 = .ok (.invokevirtual 77, 3) := by decide +kernel
theorem dX3_evaluate_22 : decode cX3_evaluate 22 = .ok (.aload_n 0, 1) := by decide +kernel
theorem dX3_evaluate_23 : decode cX3_evaluate 23 = .ok (.getfield 20, 3) := by decide +kernel
theorem dX3_evaluate_26 : decode cX3_evaluate 26 = .ok (.iload_n 1, 1) := by decide +kernel
theorem dX3_evaluate_27 : decode cX3_evaluate 27 = .ok (.iaload, 1) := by decide +kernel
theorem dX3_evaluate_28 : decode cX3_evaluate 28 = .ok (.istore 4, 2) := by decide +kernel
theorem dX3_evaluate_30 : decode cX3_evaluate 30 = .ok (.aload_n 0, 1) := by decide +kernel
theorem dX3_evaluate_31 : decode cX3_evaluate 31 = .ok (.iload 4, 2) := by decide +kernel
theorem dX3_evaluate_33 : decode cX3_evaluate 33 = .ok (.iload 4, 2) := by decide +kernel
theorem dX3_evaluate_35 : decode cX3_evaluate 35 = .ok (.iload_n 2, 1) := by decide +kernel
theorem dX3_evaluate_36 : decode cX3_evaluate 36 = .ok (.iload_n 3, 1) := by decide +kernel
theorem dX3_evaluate_37 : decode cX3_evaluate 37 = .ok (.iconst 0, 1) := by decide +kernel
theorem dX3_evaluate_38 : decode cX3_evaluate 38 = .ok (.invokevirtual 80, 3) := by decide +kernel
theorem dX3_evaluate_41 : decode cX3_evaluate 41 = .ok (.istore 5, 2) := by decide +kernel
theorem dX3_evaluate_43 : decode cX3_evaluate 43 = .ok (.iload 5, 2) := by decide +kernel
theorem dX3_evaluate_45 : decode cX3_evaluate 45 = .ok (.iconst 1, 1) := by decide +kernel
theorem dX3_evaluate_46 : decode cX3_evaluate 46 = .ok (.if_icmp .ne 9, 3) := by decide +kernel
theorem dX3_evaluate_49 : decode cX3_evaluate 49 = .ok (.aload_n 0, 1) := by decide +kernel
theorem dX3_evaluate_50 : decode cX3_evaluate 50 = .ok (.iload 4, 2) := by decide +kernel
theorem dX3_evaluate_52 : decode cX3_evaluate 52 = .ok (.invokevirtual 84, 3) := by decide +kernel
theorem dX3_evaluate_55 : decode cX3_evaluate 55 = .ok (.iload 5, 2) := by decide +kernel
theorem dX3_evaluate_57 : decode cX3_evaluate 57 = .ok (.ireturn, 1) := by decide +kernel
def fX3_evaluate (n : Nat) (x1 : Int32) (x2 : Int32) (x3 : Int32) (w : Wd) : Option (Int32 × Wd) :=
    (fX3_isGiven n x1 w).bind fun z1 =>
    if z1 = 0 then
      some ((-1), w)
    else
      (fX3_isTrial n x2 x3).bind fun z4 =>
      if z4 = 0 then
        some ((-1), w)
      else
        (fX3_forgetResult n w).bind fun z7 =>
        (ez_ldI z7 3 8 x1).bind fun y10 =>
        (fX3_trySteps n y10 y10 x2 x3 0 z7).bind fun z11 =>
        if z11.1 = 1 then
          (fX3_keepResult n y10 z11.2).bind fun z14 =>
          some (z11.1, z14)
        else
          some (z11.1, z11.2)
set_option maxHeartbeats 4000000 in
set_option maxRecDepth 100000 in
theorem tX3_evaluate_0 {p : Program} {l : Launch} {e : Env} {s : State} {m : MethodId} {args : Array Value} {below : List Frame} {meth : Method} {c : Code} {A : Nat → Prop} {D : va_G} {a : Nat → Nat} {k : Nat → ClassId} {z : Int32 × Wd} (C0 : ez_C p s m args meth c cX3_evaluate (some .int) 6 RX3 A) (hK : va_K D vwCl (tC k) s) : ∀ (n : Nat) (H : Heap) (locs : List Loc) (ls : Array Slot) (x1 : Int32) (x2 : Int32) (x3 : Int32) (w : Wd), lv_has ls 6 [(0, .ref (a 0)), (1, .int x1), (2, .int x2), (3, .int x3)] → va_P D vwCl (wC a k w) H → va_D A (wC a k w) → va_S A s.heap H locs → fX3_evaluate n x1 x2 x3 w = some z → W p l e ({ frames := 7, cells := 0, slots := 0, locals := 185 } : Room) s m args below meth c H locs 0 0 (MQ below (ez_Qi D (tC k) A z.1 (wC a k z.2)) args s 0 0 A) (F0 m 0 ls []) := by
  intro n
  intro H locs ls x1 x2 x3 w hl hP hD hS h
  rw [fX3_evaluate] at h
  have C1 := C0
  obtain ⟨hx, hb, hr, hml, hown, hw, hlk, hA, hN⟩ := C1
  refine lv_aload_n (pc := 0) hx hb dX3_evaluate_0 rfl (lv_at hl 0 rfl) ?_
  refine lv_iload_n (pc := 1) hx hb dX3_evaluate_1 rfl (lv_at hl 1 rfl) ?_
  replace h := ez_bd h
  obtain ⟨z1, e2, h⟩ := h
  refine ez_croI (r := z1) (pc := 2) (va_runV (g := F0 m 2 ls [.int x1, .ref (a 0)]) (As := [.int x1]) (rest := []) ⟨hx, hb, hml, hown, hw⟩ (kX3_isGiven l D a k n x1 w z1 e2) (cwV 1 hw (ez_gV mw243 mw245 mp13 mw1 mw246) rfl rfl rfl (by decide +kernel) ⟨Nat.le_of_ble_eq_true rfl, Nat.le_of_ble_eq_true rfl⟩) (ez_preRV (wr := []) (wl := (wC a k w)) hP hK hN 0 rfl rfl) rfl rfl hl.1 rfl (lv_room (Nat.le_of_ble_eq_true rfl)) dX3_evaluate_2 ⟨Nat.le_refl _, Nat.le_refl _⟩) ?_
  refine lv_if_eq (pc := 5) (tgt := 16) hx hb dX3_evaluate_5 (by decide) (fun c3 => ?_) (fun c3 => ?_)
  · replace h := ez_it c3 h
    refine lv_iconst (v := (-1)) (pc := 16) hx hb dX3_evaluate_16 rfl ?_
    obtain rfl := ez_r1 h
    exact ez_retI C0 hP hD hK hS dX3_evaluate_17
  · replace h := ez_if c3 h
    refine lv_iload_n (pc := 8) hx hb dX3_evaluate_8 rfl (lv_at hl 2 rfl) ?_
    refine lv_iload_n (pc := 9) hx hb dX3_evaluate_9 rfl (lv_at hl 3 rfl) ?_
    replace h := ez_bd h
    obtain ⟨z4, e5, h⟩ := h
    refine ez_croI (r := z4) (pc := 10) (va_runS (g := F0 m 10 ls [.int x3, .int x2]) (As := [.int x2, .int x3]) (rest := []) ⟨hx, hb, hml, hown, hw⟩ (kX3_isTrial l n x2 x3 z4 e5) (va_cwS 2 hw (ez_gS mw271 mw272 mw1 mw273) rfl rfl rfl (by decide +kernel) ⟨Nat.le_of_ble_eq_true rfl, Nat.le_of_ble_eq_true rfl⟩) (ez_preRS hN) rfl rfl hl.1 rfl (lv_room (Nat.le_of_ble_eq_true rfl)) dX3_evaluate_10 ⟨Nat.le_refl _, Nat.le_refl _⟩) ?_
    refine lv_if_ne (pc := 13) (tgt := 18) hx hb dX3_evaluate_13 (by decide) (fun c6 => ?_) (fun c6 => ?_)
    · replace h := ez_if c6 h
      refine lv_aload_n (pc := 18) hx hb dX3_evaluate_18 rfl (lv_at hl 0 rfl) ?_
      replace h := ez_bd h
      obtain ⟨z7, e8, h⟩ := h
      refine ez_callV (pc := 19) (wr := []) (wl := (wC a k w)) (wl' := (wC a k z7)) (va_runV (g := F0 m 19 ls [.ref (a 0)]) (As := []) (rest := []) ⟨hx, hb, hml, hown, hw⟩ (kX3_forgetResult l D a k n w z7 e8 H.size) (cwV 0 hw (ez_gV mw71 mw73 mp1 mw1 mw74) rfl rfl rfl (by decide +kernel) ⟨Nat.le_of_ble_eq_true rfl, Nat.le_of_ble_eq_true rfl⟩) (ez_preV (wr := []) (wl := (wC a k w)) hP hD hK hN 0 rfl rfl) rfl rfl hl.1 rfl (lv_room (Nat.le_of_ble_eq_true rfl)) dX3_evaluate_19 ⟨Nat.le_refl _, Nat.le_refl _⟩) hP hD hS hA (fun H locs hP hD hS => ?_)
      replace hP : va_P D vwCl (wC a k z7) H := hP
      replace hD : va_D A (wC a k z7) := hD
      refine lv_aload_n (pc := 22) hx hb dX3_evaluate_22 rfl (lv_at hl 0 rfl) ?_
      refine va_get (D := D) (pc := 23) hx hb hw inX3 hown hK hP 0 rfl rfl 3 (by decide) (hw _ mw78) (fun _ h9 => h9) rfl dX3_evaluate_23 ?_
      refine lv_iload_n (pc := 26) hx hb dX3_evaluate_26 rfl (lv_at hl 1 rfl) ?_
      replace h := ez_bd h
      obtain ⟨y10, e9, h⟩ := h
      obtain ⟨e9i, e9⟩ := ez_ldIs e9
      refine va_iald (D := D) (pc := 27) hx hb hK hP 3 1 rfl rfl e9i dX3_evaluate_27 ?_
      refine lv_topi (fun y9 hy9 => ?_)
      obtain rfl : y10 = y9 := e9.trans hy9.symm
      refine lv_istore (pc := 28) hx hb dX3_evaluate_28 hl (by decide) rfl (fun ls hl => ?_)
      replace hl : lv_has ls 6 [(4, .int y10), (0, .ref (a 0)), (1, .int x1), (2, .int x2), (3, .int x3)] := hl
      refine lv_aload_n (pc := 30) hx hb dX3_evaluate_30 rfl (lv_at hl 1 rfl) ?_
      refine lv_iload (pc := 31) hx hb dX3_evaluate_31 (lv_at hl 0 rfl) ?_
      refine lv_iload (pc := 33) hx hb dX3_evaluate_33 (lv_at hl 0 rfl) ?_
      refine lv_iload_n (pc := 35) hx hb dX3_evaluate_35 rfl (lv_at hl 3 rfl) ?_
      refine lv_iload_n (pc := 36) hx hb dX3_evaluate_36 rfl (lv_at hl 4 rfl) ?_
      refine lv_iconst (v := 0) (pc := 37) hx hb dX3_evaluate_37 rfl ?_
      replace h := ez_bd h
      obtain ⟨z11, e12, h⟩ := h
      refine ez_callI (r := z11.1) (pc := 38) (wr := []) (wl := (wC a k z7)) (wl' := (wC a k z11.2)) (va_runV (g := F0 m 38 ls [.int 0, .int x3, .int x2, .int y10, .int y10, .ref (a 0)]) (As := [.int y10, .int y10, .int x2, .int x3, .int 0]) (rest := []) ⟨hx, hb, hml, hown, hw⟩ (kX3_trySteps l D a k n y10 y10 x2 x3 0 z7 z11 e12 H.size) (cwV 5 hw (ez_gV mw274 mw276 mp15 mw1 mw277) rfl rfl rfl (by decide +kernel) ⟨Nat.le_of_ble_eq_true rfl, Nat.le_of_ble_eq_true rfl⟩) (ez_preV (wr := []) (wl := (wC a k z7)) hP hD hK hN 0 rfl rfl) rfl rfl hl.1 rfl (lv_room (Nat.le_of_ble_eq_true rfl)) dX3_evaluate_38 ⟨Nat.le_refl _, Nat.le_refl _⟩) hP hD hS hA (fun H locs hP hD hS => ?_)
      replace hP : va_P D vwCl (wC a k z11.2) H := hP
      replace hD : va_D A (wC a k z11.2) := hD
      refine lv_istore (pc := 41) hx hb dX3_evaluate_41 hl (by decide) rfl (fun ls hl => ?_)
      replace hl : lv_has ls 6 [(5, .int z11.1), (4, .int y10), (0, .ref (a 0)), (1, .int x1), (2, .int x2), (3, .int x3)] := hl
      refine lv_iload (pc := 43) hx hb dX3_evaluate_43 (lv_at hl 0 rfl) ?_
      refine lv_iconst (v := 1) (pc := 45) hx hb dX3_evaluate_45 rfl ?_
      refine lv_icmp_ne (pc := 46) (tgt := 55) hx hb dX3_evaluate_46 (by decide) (fun c13 => ?_) (fun c13 => ?_)
      · replace h := ez_if c13 h
        refine lv_iload (pc := 55) hx hb dX3_evaluate_55 (lv_at hl 0 rfl) ?_
        obtain rfl := ez_r1 h
        exact ez_retI C0 hP hD hK hS dX3_evaluate_57
      · replace h := ez_it c13 h
        refine lv_aload_n (pc := 49) hx hb dX3_evaluate_49 rfl (lv_at hl 2 rfl) ?_
        refine lv_iload (pc := 50) hx hb dX3_evaluate_50 (lv_at hl 1 rfl) ?_
        replace h := ez_bd h
        obtain ⟨z14, e15, h⟩ := h
        refine ez_callV (pc := 52) (wr := []) (wl := (wC a k z11.2)) (wl' := (wC a k z14)) (va_runV (g := F0 m 52 ls [.int y10, .ref (a 0)]) (As := [.int y10]) (rest := []) ⟨hx, hb, hml, hown, hw⟩ (kX3_keepResult l D a k n y10 z11.2 z14 e15 H.size) (cwV 1 hw (ez_gV mw387 mw389 mp31 mw1 mw390) rfl rfl rfl (by decide +kernel) ⟨Nat.le_of_ble_eq_true rfl, Nat.le_of_ble_eq_true rfl⟩) (ez_preV (wr := []) (wl := (wC a k z11.2)) hP hD hK hN 0 rfl rfl) rfl rfl hl.1 rfl (lv_room (Nat.le_of_ble_eq_true rfl)) dX3_evaluate_52 ⟨Nat.le_refl _, Nat.le_refl _⟩) hP hD hS hA (fun H locs hP hD hS => ?_)
        replace hP : va_P D vwCl (wC a k z14) H := hP
        replace hD : va_D A (wC a k z14) := hD
        refine lv_iload (pc := 55) hx hb dX3_evaluate_55 (lv_at hl 0 rfl) ?_
        obtain rfl := ez_r1 h
        exact ez_retI C0 hP hD hK hS dX3_evaluate_57
    · replace h := ez_it c6 h
      refine lv_iconst (v := (-1)) (pc := 16) hx hb dX3_evaluate_16 rfl ?_
      obtain rfl := ez_r1 h
      exact ez_retI C0 hP hD hK hS dX3_evaluate_17
set_option maxRecDepth 100000 in
theorem kX3_evaluate (l : Launch) (D : va_G) (a : Nat → Nat) (k : Nat → ClassId) (n : Nat) (x1 : Int32) (x2 : Int32) (x3 : Int32) (w : Wd) (z : Int32 × Wd) (h : fX3_evaluate n x1 x2 x3 w = some z) (sz : Nat) : Met l yX3_evaluate wsX3_evaluate ({ frames := 7, cells := 0, slots := 0, locals := 185 } : Room) (ez_Pc D (tC k) [.ref (a 0), .int x1, .int x2, .int x3] (wC a k w) sz) (ez_Qi D (tC k) (va_A (wC a k w) sz) z.1 (wC a k z.2)) 0 0 (va_A (wC a k w) sz) :=
  ez_mk (Qf := fun A => (ez_Qi D (tC k) A z.1 (wC a k z.2))) (by decide) rfl (Nat.le_of_ble_eq_true rfl) (fun p e s m below meth c A ls C0 _ hl hP hD hK => tX3_evaluate_0 C0 hK n s.heap [] ls x1 x2 x3 w (lv_sub (l := [(0, .ref (a 0)), (1, .int x1), (2, .int x2), (3, .int x3)]) hl [0, 1, 2, 3] rfl) hP hD va_S.rf h) sz
/-! EnclosureCalculator compare -/
theorem dX3_compare_0 : decode cX3_compare 0 = .ok (.aload_n 0, 1) := by decide +kernel
theorem dX3_compare_1 : decode cX3_compare 1 = .ok (.iload_n 1, 1) := by decide +kernel
theorem dX3_compare_2 : decode cX3_compare 2 = .ok (.invokevirtual 66, 3) := by decide +kernel
theorem dX3_compare_5 : decode cX3_compare 5 = .ok (.ifCond .eq 20, 3) := by decide +kernel
theorem dX3_compare_8 : decode cX3_compare 8 = .ok (.aload_n 0, 1) := by decide +kernel
theorem dX3_compare_9 : decode cX3_compare 9 = .ok (.iload_n 2, 1) := by decide +kernel
theorem dX3_compare_10 : decode cX3_compare 10 = .ok (.invokevirtual 66, 3) := by decide +kernel
theorem dX3_compare_13 : decode cX3_compare 13 = .ok (.ifCond .eq 12, 3) := by decide +kernel
theorem dX3_compare_16 : decode cX3_compare 16 = .ok (.iload_n 3, 1) := by decide +kernel
theorem dX3_compare_17 : decode cX3_compare 17 = .ok (.iload 4, 2) := by decide +kernel
theorem dX3_compare_19 : decode cX3_compare 19 = .ok (.invokestatic 73, 3) := by decide +kernel
theorem dX3_compare_22 : decode cX3_compare 22 = .ok (.ifCond .ne 5, 3) := by decide +kernel
theorem dX3_compare_25 : decode cX3_compare 25 = .ok (.iconst (-1), 1) := by decide +kernel
theorem dX3_compare_26 : decode cX3_compare 26 = .ok (.ireturn, 1) := by decide +kernel
theorem dX3_compare_27 : decode cX3_compare 27 = .ok (.aload_n 0, 1) := by decide +kernel
theorem dX3_compare_28 : decode cX3_compare 28 = .ok (.aload_n 0, 1) := by decide +kernel
theorem dX3_compare_29 : decode cX3_compare 29 = .ok (.getfield 20, 3) := by decide +kernel
theorem dX3_compare_32 : decode cX3_compare 32 = .ok (.iload_n 1, 1) := by decide +kernel
theorem dX3_compare_33 : decode cX3_compare 33 = .ok (.iaload, 1) := by decide +kernel
theorem dX3_compare_34 : decode cX3_compare 34 = .ok (.aload_n 0, 1) := by decide +kernel
theorem dX3_compare_35 : decode cX3_compare 35 = .ok (.getfield 20, 3) := by decide +kernel
theorem dX3_compare_38 : decode cX3_compare 38 = .ok (.iload_n 2, 1) := by decide +kernel
theorem dX3_compare_39 : decode cX3_compare 39 = .ok (.iaload, 1) := by decide +kernel
theorem dX3_compare_40 : decode cX3_compare 40 = .ok (.iload_n 3, 1) := by decide +kernel
theorem dX3_compare_41 : decode cX3_compare 41 = .ok (.iload 4, 2) := by decide +kernel
theorem dX3_compare_43 : decode cX3_compare 43 = .ok (.iconst 1, 1) := by decide +kernel
theorem dX3_compare_44 : decode cX3_compare 44 = .ok (.invokevirtual 80, 3) := by decide +kernel
theorem dX3_compare_47 : decode cX3_compare 47 = .ok (.ireturn, 1) := by decide +kernel
def fX3_compare (n : Nat) (x1 : Int32) (x2 : Int32) (x3 : Int32) (x4 : Int32) (w : Wd) : Option (Int32 × Wd) :=
    (fX3_isGiven n x1 w).bind fun z1 =>
    if z1 = 0 then
      some ((-1), w)
    else
      (fX3_isGiven n x2 w).bind fun z4 =>
      if z4 = 0 then
        some ((-1), w)
      else
        (fX3_isTrial n x3 x4).bind fun z7 =>
        if z7 = 0 then
          some ((-1), w)
        else
          (ez_ldI w 3 8 x1).bind fun y11 =>
          (ez_ldI w 3 8 x2).bind fun y13 =>
          (fX3_trySteps n y11 y13 x3 x4 1 w).bind fun z14 =>
          some (z14.1, z14.2)
set_option maxHeartbeats 4000000 in
set_option maxRecDepth 100000 in
theorem tX3_compare_0 {p : Program} {l : Launch} {e : Env} {s : State} {m : MethodId} {args : Array Value} {below : List Frame} {meth : Method} {c : Code} {A : Nat → Prop} {D : va_G} {a : Nat → Nat} {k : Nat → ClassId} {z : Int32 × Wd} (C0 : ez_C p s m args meth c cX3_compare (some .int) 5 RX3 A) (hK : va_K D vwCl (tC k) s) : ∀ (n : Nat) (H : Heap) (locs : List Loc) (ls : Array Slot) (x1 : Int32) (x2 : Int32) (x3 : Int32) (x4 : Int32) (w : Wd), lv_has ls 5 [(0, .ref (a 0)), (1, .int x1), (2, .int x2), (3, .int x3), (4, .int x4)] → va_P D vwCl (wC a k w) H → va_D A (wC a k w) → va_S A s.heap H locs → fX3_compare n x1 x2 x3 x4 w = some z → W p l e ({ frames := 7, cells := 0, slots := 0, locals := 185 } : Room) s m args below meth c H locs 0 0 (MQ below (ez_Qi D (tC k) A z.1 (wC a k z.2)) args s 0 0 A) (F0 m 0 ls []) := by
  intro n
  intro H locs ls x1 x2 x3 x4 w hl hP hD hS h
  rw [fX3_compare] at h
  have C1 := C0
  obtain ⟨hx, hb, hr, hml, hown, hw, hlk, hA, hN⟩ := C1
  refine lv_aload_n (pc := 0) hx hb dX3_compare_0 rfl (lv_at hl 0 rfl) ?_
  refine lv_iload_n (pc := 1) hx hb dX3_compare_1 rfl (lv_at hl 1 rfl) ?_
  replace h := ez_bd h
  obtain ⟨z1, e2, h⟩ := h
  refine ez_croI (r := z1) (pc := 2) (va_runV (g := F0 m 2 ls [.int x1, .ref (a 0)]) (As := [.int x1]) (rest := []) ⟨hx, hb, hml, hown, hw⟩ (kX3_isGiven l D a k n x1 w z1 e2) (cwV 1 hw (ez_gV mw243 mw245 mp13 mw1 mw246) rfl rfl rfl (by decide +kernel) ⟨Nat.le_of_ble_eq_true rfl, Nat.le_of_ble_eq_true rfl⟩) (ez_preRV (wr := []) (wl := (wC a k w)) hP hK hN 0 rfl rfl) rfl rfl hl.1 rfl (lv_room (Nat.le_of_ble_eq_true rfl)) dX3_compare_2 ⟨Nat.le_refl _, Nat.le_refl _⟩) ?_
  refine lv_if_eq (pc := 5) (tgt := 25) hx hb dX3_compare_5 (by decide) (fun c3 => ?_) (fun c3 => ?_)
  · replace h := ez_it c3 h
    refine lv_iconst (v := (-1)) (pc := 25) hx hb dX3_compare_25 rfl ?_
    obtain rfl := ez_r1 h
    exact ez_retI C0 hP hD hK hS dX3_compare_26
  · replace h := ez_if c3 h
    refine lv_aload_n (pc := 8) hx hb dX3_compare_8 rfl (lv_at hl 0 rfl) ?_
    refine lv_iload_n (pc := 9) hx hb dX3_compare_9 rfl (lv_at hl 2 rfl) ?_
    replace h := ez_bd h
    obtain ⟨z4, e5, h⟩ := h
    refine ez_croI (r := z4) (pc := 10) (va_runV (g := F0 m 10 ls [.int x2, .ref (a 0)]) (As := [.int x2]) (rest := []) ⟨hx, hb, hml, hown, hw⟩ (kX3_isGiven l D a k n x2 w z4 e5) (cwV 1 hw (ez_gV mw243 mw245 mp13 mw1 mw246) rfl rfl rfl (by decide +kernel) ⟨Nat.le_of_ble_eq_true rfl, Nat.le_of_ble_eq_true rfl⟩) (ez_preRV (wr := []) (wl := (wC a k w)) hP hK hN 0 rfl rfl) rfl rfl hl.1 rfl (lv_room (Nat.le_of_ble_eq_true rfl)) dX3_compare_10 ⟨Nat.le_refl _, Nat.le_refl _⟩) ?_
    refine lv_if_eq (pc := 13) (tgt := 25) hx hb dX3_compare_13 (by decide) (fun c6 => ?_) (fun c6 => ?_)
    · replace h := ez_it c6 h
      refine lv_iconst (v := (-1)) (pc := 25) hx hb dX3_compare_25 rfl ?_
      obtain rfl := ez_r1 h
      exact ez_retI C0 hP hD hK hS dX3_compare_26
    · replace h := ez_if c6 h
      refine lv_iload_n (pc := 16) hx hb dX3_compare_16 rfl (lv_at hl 3 rfl) ?_
      refine lv_iload (pc := 17) hx hb dX3_compare_17 (lv_at hl 4 rfl) ?_
      replace h := ez_bd h
      obtain ⟨z7, e8, h⟩ := h
      refine ez_croI (r := z7) (pc := 19) (va_runS (g := F0 m 19 ls [.int x4, .int x3]) (As := [.int x3, .int x4]) (rest := []) ⟨hx, hb, hml, hown, hw⟩ (kX3_isTrial l n x3 x4 z7 e8) (va_cwS 2 hw (ez_gS mw271 mw272 mw1 mw273) rfl rfl rfl (by decide +kernel) ⟨Nat.le_of_ble_eq_true rfl, Nat.le_of_ble_eq_true rfl⟩) (ez_preRS hN) rfl rfl hl.1 rfl (lv_room (Nat.le_of_ble_eq_true rfl)) dX3_compare_19 ⟨Nat.le_refl _, Nat.le_refl _⟩) ?_
      refine lv_if_ne (pc := 22) (tgt := 27) hx hb dX3_compare_22 (by decide) (fun c9 => ?_) (fun c9 => ?_)
      · replace h := ez_if c9 h
        refine lv_aload_n (pc := 27) hx hb dX3_compare_27 rfl (lv_at hl 0 rfl) ?_
        refine lv_aload_n (pc := 28) hx hb dX3_compare_28 rfl (lv_at hl 0 rfl) ?_
        refine va_get (D := D) (pc := 29) hx hb hw inX3 hown hK hP 0 rfl rfl 3 (by decide) (hw _ mw78) (fun _ h9 => h9) rfl dX3_compare_29 ?_
        refine lv_iload_n (pc := 32) hx hb dX3_compare_32 rfl (lv_at hl 1 rfl) ?_
        replace h := ez_bd h
        obtain ⟨y11, e10, h⟩ := h
        obtain ⟨e10i, e10⟩ := ez_ldIs e10
        refine va_iald (D := D) (pc := 33) hx hb hK hP 3 1 rfl rfl e10i dX3_compare_33 ?_
        refine lv_topi (fun y9 hy9 => ?_)
        obtain rfl : y11 = y9 := e10.trans hy9.symm
        refine lv_aload_n (pc := 34) hx hb dX3_compare_34 rfl (lv_at hl 0 rfl) ?_
        refine va_get (D := D) (pc := 35) hx hb hw inX3 hown hK hP 0 rfl rfl 3 (by decide) (hw _ mw78) (fun _ h9 => h9) rfl dX3_compare_35 ?_
        refine lv_iload_n (pc := 38) hx hb dX3_compare_38 rfl (lv_at hl 2 rfl) ?_
        replace h := ez_bd h
        obtain ⟨y13, e12, h⟩ := h
        obtain ⟨e12i, e12⟩ := ez_ldIs e12
        refine va_iald (D := D) (pc := 39) hx hb hK hP 3 1 rfl rfl e12i dX3_compare_39 ?_
        refine lv_topi (fun y9 hy9 => ?_)
        obtain rfl : y13 = y9 := e12.trans hy9.symm
        refine lv_iload_n (pc := 40) hx hb dX3_compare_40 rfl (lv_at hl 3 rfl) ?_
        refine lv_iload (pc := 41) hx hb dX3_compare_41 (lv_at hl 4 rfl) ?_
        refine lv_iconst (v := 1) (pc := 43) hx hb dX3_compare_43 rfl ?_
        replace h := ez_bd h
        obtain ⟨z14, e15, h⟩ := h
        refine ez_callI (r := z14.1) (pc := 44) (wr := []) (wl := (wC a k w)) (wl' := (wC a k z14.2)) (va_runV (g := F0 m 44 ls [.int 1, .int x4, .int x3, .int y13, .int y11, .ref (a 0)]) (As := [.int y11, .int y13, .int x3, .int x4, .int 1]) (rest := []) ⟨hx, hb, hml, hown, hw⟩ (kX3_trySteps l D a k n y11 y13 x3 x4 1 w z14 e15 H.size) (cwV 5 hw (ez_gV mw274 mw276 mp15 mw1 mw277) rfl rfl rfl (by decide +kernel) ⟨Nat.le_of_ble_eq_true rfl, Nat.le_of_ble_eq_true rfl⟩) (ez_preV (wr := []) (wl := (wC a k w)) hP hD hK hN 0 rfl rfl) rfl rfl hl.1 rfl (lv_room (Nat.le_of_ble_eq_true rfl)) dX3_compare_44 ⟨Nat.le_refl _, Nat.le_refl _⟩) hP hD hS hA (fun H locs hP hD hS => ?_)
        replace hP : va_P D vwCl (wC a k z14.2) H := hP
        replace hD : va_D A (wC a k z14.2) := hD
        obtain rfl := ez_r1 h
        exact ez_retI C0 hP hD hK hS dX3_compare_47
      · replace h := ez_it c9 h
        refine lv_iconst (v := (-1)) (pc := 25) hx hb dX3_compare_25 rfl ?_
        obtain rfl := ez_r1 h
        exact ez_retI C0 hP hD hK hS dX3_compare_26
set_option maxRecDepth 100000 in
theorem kX3_compare (l : Launch) (D : va_G) (a : Nat → Nat) (k : Nat → ClassId) (n : Nat) (x1 : Int32) (x2 : Int32) (x3 : Int32) (x4 : Int32) (w : Wd) (z : Int32 × Wd) (h : fX3_compare n x1 x2 x3 x4 w = some z) (sz : Nat) : Met l yX3_compare wsX3_compare ({ frames := 7, cells := 0, slots := 0, locals := 185 } : Room) (ez_Pc D (tC k) [.ref (a 0), .int x1, .int x2, .int x3, .int x4] (wC a k w) sz) (ez_Qi D (tC k) (va_A (wC a k w) sz) z.1 (wC a k z.2)) 0 0 (va_A (wC a k w) sz) :=
  ez_mk (Qf := fun A => (ez_Qi D (tC k) A z.1 (wC a k z.2))) (by decide) rfl (Nat.le_of_ble_eq_true rfl) (fun p e s m below meth c A ls C0 _ hl hP hD hK => tX3_compare_0 C0 hK n s.heap [] ls x1 x2 x3 x4 w (lv_sub (l := [(0, .ref (a 0)), (1, .int x1), (2, .int x2), (3, .int x3), (4, .int x4)]) hl [0, 1, 2, 3, 4] rfl) hP hD va_S.rf h) sz
/-! EnclosureCalculator work -/
theorem dX3_work_0 : decode cX3_work 0 = .ok (.aload_n 0, 1) := by decide +kernel
theorem dX3_work_1 : decode cX3_work 1 = .ok (.getfield 87, 3) := by decide +kernel
theorem dX3_work_4 : decode cX3_work 4 = .ok (.ireturn, 1) := by decide +kernel
def fX3_work (n : Nat) (w : Wd) : Option (Int32) :=
    some (w.1 0 1)
set_option maxHeartbeats 4000000 in
set_option maxRecDepth 100000 in
theorem tX3_work_0 {p : Program} {l : Launch} {e : Env} {s : State} {m : MethodId} {args : Array Value} {below : List Frame} {meth : Method} {c : Code} {D : va_G} {a : Nat → Nat} {k : Nat → ClassId} {z : Int32} {w : Wd} (C0 : ez_C p s m args meth c cX3_work (some .int) 1 RX3 (fun _ => True)) (hK : va_K D vwCl (tC k) s) (hP : va_P D vwCl (wC a k w) s.heap) : ∀ (n : Nat) (ls : Array Slot), lv_has ls 1 [(0, .ref (a 0))] → fX3_work n w = some z → W p l e ({ frames := 0, cells := 0, slots := 0, locals := 0 } : Room) s m args below meth c s.heap [] 0 0 (MQ below (ez_Ri z) args s 0 0 (fun _ => False)) (F0 m 0 ls []) := by
  intro n
  intro ls hl h
  rw [fX3_work] at h
  have C1 := C0
  obtain ⟨hx, hb, hr, hml, hown, hw, hlk, hA, hN⟩ := C1
  refine lv_aload_n (pc := 0) hx hb dX3_work_0 rfl (lv_at hl 0 rfl) ?_
  refine va_get (D := D) (pc := 1) hx hb hw inX3 hown hK hP 0 rfl rfl 5 (by decide) (hw _ mw80) (fun _ h9 => h9) rfl dX3_work_1 ?_
  obtain rfl := ez_r1 h
  exact ez_rroI C0 dX3_work_4
set_option maxRecDepth 100000 in
theorem kX3_work (l : Launch) (D : va_G) (a : Nat → Nat) (k : Nat → ClassId) (n : Nat) (w : Wd) (z : Int32) (h : fX3_work n w = some z) : Met l yX3_work wsX3_work ({ frames := 0, cells := 0, slots := 0, locals := 0 } : Room) (ez_Rc D (tC k) [.ref (a 0)] (wC a k w)) (ez_Ri z) 0 0 (fun _ => False) :=
  ez_mkR (by decide) rfl (Nat.le_of_ble_eq_true rfl) (fun p e s m below meth c ls C0 hl hP hK => tX3_work_0 C0 hK hP n ls (lv_sub (l := [(0, .ref (a 0))]) hl [0] rfl) h)
/-! EnclosureCalculator step -/
theorem dX3_step_0 : decode cX3_step 0 = .ok (.aload_n 0, 1) := by decide +kernel
theorem dX3_step_1 : decode cX3_step 1 = .ok (.getfield 90, 3) := by decide +kernel
theorem dX3_step_4 : decode cX3_step 4 = .ok (.iconst (-1), 1) := by decide +kernel
theorem dX3_step_5 : decode cX3_step 5 = .ok (.if_icmp .ne 7, 3) := by decide +kernel
theorem dX3_step_8 : decode cX3_step 8 = .ok (.iconst (-1), 1) := by decide +kernel
theorem dX3_step_9 : decode cX3_step 9 = .ok (.goto 7, 3) := by decide +kernel
theorem dX3_step_12 : decode cX3_step 12 = .ok (.aload_n 0, 1) := by decide +kernel
theorem dX3_step_13 : decode cX3_step 13 = .ok (.getfield 90, 3) := by decide +kernel
theorem dX3_step_16 : decode cX3_step 16 = .ok (.ireturn, 1) := by decide +kernel
def fX3_step (n : Nat) (w : Wd) : Option (Int32) :=
    if (w.1 0 2) = (-1) then
      some (-1)
    else
      some (w.1 0 2)
set_option maxHeartbeats 4000000 in
set_option maxRecDepth 100000 in
theorem tX3_step_0 {p : Program} {l : Launch} {e : Env} {s : State} {m : MethodId} {args : Array Value} {below : List Frame} {meth : Method} {c : Code} {D : va_G} {a : Nat → Nat} {k : Nat → ClassId} {z : Int32} {w : Wd} (C0 : ez_C p s m args meth c cX3_step (some .int) 1 RX3 (fun _ => True)) (hK : va_K D vwCl (tC k) s) (hP : va_P D vwCl (wC a k w) s.heap) : ∀ (n : Nat) (ls : Array Slot), lv_has ls 1 [(0, .ref (a 0))] → fX3_step n w = some z → W p l e ({ frames := 0, cells := 0, slots := 0, locals := 0 } : Room) s m args below meth c s.heap [] 0 0 (MQ below (ez_Ri z) args s 0 0 (fun _ => False)) (F0 m 0 ls []) := by
  intro n
  intro ls hl h
  rw [fX3_step] at h
  have C1 := C0
  obtain ⟨hx, hb, hr, hml, hown, hw, hlk, hA, hN⟩ := C1
  refine lv_aload_n (pc := 0) hx hb dX3_step_0 rfl (lv_at hl 0 rfl) ?_
  refine va_get (D := D) (pc := 1) hx hb hw inX3 hown hK hP 0 rfl rfl 6 (by decide) (hw _ mw81) (fun _ h9 => h9) rfl dX3_step_1 ?_
  refine lv_iconst (v := (-1)) (pc := 4) hx hb dX3_step_4 rfl ?_
  refine lv_icmp_ne (pc := 5) (tgt := 12) hx hb dX3_step_5 (by decide) (fun c1 => ?_) (fun c1 => ?_)
  · replace h := ez_if c1 h
    refine lv_aload_n (pc := 12) hx hb dX3_step_12 rfl (lv_at hl 0 rfl) ?_
    refine va_get (D := D) (pc := 13) hx hb hw inX3 hown hK hP 0 rfl rfl 6 (by decide) (hw _ mw81) (fun _ h9 => h9) rfl dX3_step_13 ?_
    obtain rfl := ez_r1 h
    exact ez_rroI C0 dX3_step_16
  · replace h := ez_it c1 h
    refine lv_iconst (v := (-1)) (pc := 8) hx hb dX3_step_8 rfl ?_
    refine lv_goto (pc := 9) (tgt := 16) hx hb dX3_step_9 (by decide) ?_
    obtain rfl := ez_r1 h
    exact ez_rroI C0 dX3_step_16
set_option maxRecDepth 100000 in
theorem kX3_step (l : Launch) (D : va_G) (a : Nat → Nat) (k : Nat → ClassId) (n : Nat) (w : Wd) (z : Int32) (h : fX3_step n w = some z) : Met l yX3_step wsX3_step ({ frames := 0, cells := 0, slots := 0, locals := 0 } : Room) (ez_Rc D (tC k) [.ref (a 0)] (wC a k w)) (ez_Ri z) 0 0 (fun _ => False) :=
  ez_mkR (by decide) rfl (Nat.le_of_ble_eq_true rfl) (fun p e s m below meth c ls C0 hl hP hK => tX3_step_0 C0 hK hP n ls (lv_sub (l := [(0, .ref (a 0))]) hl [0] rfl) h)
/-! EnclosureCalculator low -/
theorem dX3_low_0 : decode cX3_low 0 = .ok (.aload_n 0, 1) := by decide +kernel
theorem dX3_low_1 : decode cX3_low 1 = .ok (.getfield 93, 3) := by decide +kernel
theorem dX3_low_4 : decode cX3_low 4 = .ok (.lreturn, 1) := by decide +kernel
def fX3_low (n : Nat) (w : Wd) : Option (Int64) :=
    some (w.2 0 0)
set_option maxHeartbeats 4000000 in
set_option maxRecDepth 100000 in
theorem tX3_low_0 {p : Program} {l : Launch} {e : Env} {s : State} {m : MethodId} {args : Array Value} {below : List Frame} {meth : Method} {c : Code} {D : va_G} {a : Nat → Nat} {k : Nat → ClassId} {z : Int64} {w : Wd} (C0 : ez_C p s m args meth c cX3_low (some .long) 1 RX3 (fun _ => True)) (hK : va_K D vwCl (tC k) s) (hP : va_P D vwCl (wC a k w) s.heap) : ∀ (n : Nat) (ls : Array Slot), lv_has ls 1 [(0, .ref (a 0))] → fX3_low n w = some z → W p l e ({ frames := 0, cells := 0, slots := 0, locals := 0 } : Room) s m args below meth c s.heap [] 0 0 (MQ below (ez_Rl z) args s 0 0 (fun _ => False)) (F0 m 0 ls []) := by
  intro n
  intro ls hl h
  rw [fX3_low] at h
  have C1 := C0
  obtain ⟨hx, hb, hr, hml, hown, hw, hlk, hA, hN⟩ := C1
  refine lv_aload_n (pc := 0) hx hb dX3_low_0 rfl (lv_at hl 0 rfl) ?_
  refine va_get (D := D) (pc := 1) hx hb hw inX3 hown hK hP 0 rfl rfl 7 (by decide) (hw _ mw82) (fun _ h9 => h9) rfl dX3_low_1 ?_
  obtain rfl := ez_r1 h
  exact ez_rroL C0 dX3_low_4
set_option maxRecDepth 100000 in
theorem kX3_low (l : Launch) (D : va_G) (a : Nat → Nat) (k : Nat → ClassId) (n : Nat) (w : Wd) (z : Int64) (h : fX3_low n w = some z) : Met l yX3_low wsX3_low ({ frames := 0, cells := 0, slots := 0, locals := 0 } : Room) (ez_Rc D (tC k) [.ref (a 0)] (wC a k w)) (ez_Rl z) 0 0 (fun _ => False) :=
  ez_mkR (by decide) rfl (Nat.le_of_ble_eq_true rfl) (fun p e s m below meth c ls C0 hl hP hK => tX3_low_0 C0 hK hP n ls (lv_sub (l := [(0, .ref (a 0))]) hl [0] rfl) h)
/-! EnclosureCalculator high -/
theorem dX3_high_0 : decode cX3_high 0 = .ok (.aload_n 0, 1) := by decide +kernel
theorem dX3_high_1 : decode cX3_high 1 = .ok (.getfield 97, 3) := by decide +kernel
theorem dX3_high_4 : decode cX3_high 4 = .ok (.lreturn, 1) := by decide +kernel
def fX3_high (n : Nat) (w : Wd) : Option (Int64) :=
    some (w.2 0 1)
set_option maxHeartbeats 4000000 in
set_option maxRecDepth 100000 in
theorem tX3_high_0 {p : Program} {l : Launch} {e : Env} {s : State} {m : MethodId} {args : Array Value} {below : List Frame} {meth : Method} {c : Code} {D : va_G} {a : Nat → Nat} {k : Nat → ClassId} {z : Int64} {w : Wd} (C0 : ez_C p s m args meth c cX3_high (some .long) 1 RX3 (fun _ => True)) (hK : va_K D vwCl (tC k) s) (hP : va_P D vwCl (wC a k w) s.heap) : ∀ (n : Nat) (ls : Array Slot), lv_has ls 1 [(0, .ref (a 0))] → fX3_high n w = some z → W p l e ({ frames := 0, cells := 0, slots := 0, locals := 0 } : Room) s m args below meth c s.heap [] 0 0 (MQ below (ez_Rl z) args s 0 0 (fun _ => False)) (F0 m 0 ls []) := by
  intro n
  intro ls hl h
  rw [fX3_high] at h
  have C1 := C0
  obtain ⟨hx, hb, hr, hml, hown, hw, hlk, hA, hN⟩ := C1
  refine lv_aload_n (pc := 0) hx hb dX3_high_0 rfl (lv_at hl 0 rfl) ?_
  refine va_get (D := D) (pc := 1) hx hb hw inX3 hown hK hP 0 rfl rfl 8 (by decide) (hw _ mw83) (fun _ h9 => h9) rfl dX3_high_1 ?_
  obtain rfl := ez_r1 h
  exact ez_rroL C0 dX3_high_4
set_option maxRecDepth 100000 in
theorem kX3_high (l : Launch) (D : va_G) (a : Nat → Nat) (k : Nat → ClassId) (n : Nat) (w : Wd) (z : Int64) (h : fX3_high n w = some z) : Met l yX3_high wsX3_high ({ frames := 0, cells := 0, slots := 0, locals := 0 } : Room) (ez_Rc D (tC k) [.ref (a 0)] (wC a k w)) (ez_Rl z) 0 0 (fun _ => False) :=
  ez_mkR (by decide) rfl (Nat.le_of_ble_eq_true rfl) (fun p e s m below meth c ls C0 hl hP hK => tX3_high_0 C0 hK hP n ls (lv_sub (l := [(0, .ref (a 0))]) hl [0] rfl) h)
