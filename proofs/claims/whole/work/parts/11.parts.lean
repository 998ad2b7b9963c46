/-! EnclosureCalculator$Parts shrinkTo -/
theorem dX0_shrinkTo_0 : decode cX0_shrinkTo 0 = .ok (.aload_n 0, 1) := by decide +kernel
theorem dX0_shrinkTo_1 : decode cX0_shrinkTo 1 = .ok (.iload_n 1, 1) := by decide +kernel
theorem dX0_shrinkTo_2 : decode cX0_shrinkTo 2 = .ok (.putfield 24, 3) := by decide +kernel
theorem dX0_shrinkTo_5 : decode cX0_shrinkTo 5 = .ok (.return_, 1) := by decide +kernel
def fX0_shrinkTo (n : Nat) (x1 : Int32) (w : Wd) : Option (Wd) :=
    (ez_fI w 3 x1).bind fun w2 =>
    some w2
set_option maxHeartbeats 4000000 in
set_option maxRecDepth 100000 in
theorem tX0_shrinkTo_0 {p : Program} {l : Launch} {e : Env} {s : State} {m : MethodId} {args : Array Value} {below : List Frame} {meth : Method} {c : Code} {A : Nat → Prop} {D : va_G} {a : Nat → Nat} {k : Nat → ClassId} {z : Wd} (C0 : ez_C p s m args meth c cX0_shrinkTo none 2 RX0 A) (hK : va_K D vwCl (tC k) s) : ∀ (n : Nat) (H : Heap) (locs : List Loc) (ls : Array Slot) (x1 : Int32) (w : Wd), lv_has ls 2 [(0, .ref (a 2)), (1, .int x1)] → va_P D vwCl (wC a k w) H → va_D A (wC a k w) → va_S A s.heap H locs → fX0_shrinkTo n x1 w = some z → W p l e ({ frames := 0, cells := 0, slots := 0, locals := 0 } : Room) s m args below meth c H locs 0 0 (MQ below (ez_Qv D (tC k) A (wC a k z)) args s 0 0 A) (F0 m 0 ls []) := by
  intro n
  intro H locs ls x1 w hl hP hD hS h
  rw [fX0_shrinkTo] at h
  have C1 := C0
  obtain ⟨hx, hb, hr, hml, hown, hw, hlk, hA, hN⟩ := C1
  refine lv_aload_n (pc := 0) hx hb dX0_shrinkTo_0 rfl (lv_at hl 0 rfl) ?_
  refine lv_iload_n (pc := 1) hx hb dX0_shrinkTo_1 rfl (lv_at hl 1 rfl) ?_
  replace h := ez_bd h
  obtain ⟨w2, e1, h⟩ := h
  refine va_put (D := D) (v := .int x1) (ty := .int) (pc := 2) hx hb hw inX0 tyX0 tyX0_ok nmX0 hown hK hP hD hS 2 rfl rfl 4 (by decide) (hw _ mw25) (fun _ h9 => h9) rfl (by decide +kernel) rfl rfl (Nat.le_of_ble_eq_true rfl) dX0_shrinkTo_2 (fun H locs hP hD hS => ?_)
  replace hP : va_P D vwCl (wC a k w2) H := by rw [(ez_fIs e1)]; exact hP
  replace hD : va_D A (wC a k w2) := by rw [(ez_fIs e1)]; exact hD
  obtain rfl := ez_r1 h
  exact ez_retV C0 hP hD hK hS dX0_shrinkTo_5
set_option maxRecDepth 100000 in
theorem kX0_shrinkTo (l : Launch) (D : va_G) (a : Nat → Nat) (k : Nat → ClassId) (n : Nat) (x1 : Int32) (w : Wd) (z : Wd) (h : fX0_shrinkTo n x1 w = some z) (sz : Nat) : Met l yX0_shrinkTo wsX0_shrinkTo ({ frames := 0, cells := 0, slots := 0, locals := 0 } : Room) (ez_Pc D (tC k) [.ref (a 2), .int x1] (wC a k w) sz) (ez_Qv D (tC k) (va_A (wC a k w) sz) (wC a k z)) 0 0 (va_A (wC a k w) sz) :=
  ez_mk (Qf := fun A => (ez_Qv D (tC k) A (wC a k z))) (by decide) rfl (Nat.le_of_ble_eq_true rfl) (fun p e s m below meth c A ls C0 _ hl hP hD hK => tX0_shrinkTo_0 C0 hK n s.heap [] ls x1 w (lv_sub (l := [(0, .ref (a 2)), (1, .int x1)]) hl [0, 1] rfl) hP hD va_S.rf h) sz
/-! EnclosureCalculator$Parts count -/
theorem dX0_count_0 : decode cX0_count 0 = .ok (.aload_n 0, 1) := by decide +kernel
theorem dX0_count_1 : decode cX0_count 1 = .ok (.getfield 24, 3) := by decide +kernel
theorem dX0_count_4 : decode cX0_count 4 = .ok (.ireturn, 1) := by decide +kernel
def fX0_count (n : Nat) (w : Wd) : Option (Int32) :=
    some (w.1 0 3)
set_option maxHeartbeats 4000000 in
set_option maxRecDepth 100000 in
theorem tX0_count_0 {p : Program} {l : Launch} {e : Env} {s : State} {m : MethodId} {args : Array Value} {below : List Frame} {meth : Method} {c : Code} {D : va_G} {a : Nat → Nat} {k : Nat → ClassId} {z : Int32} {w : Wd} (C0 : ez_C p s m args meth c cX0_count (some .int) 1 RX0 (fun _ => True)) (hK : va_K D vwCl (tC k) s) (hP : va_P D vwCl (wC a k w) s.heap) : ∀ (n : Nat) (ls : Array Slot), lv_has ls 1 [(0, .ref (a 2))] → fX0_count n w = some z → W p l e ({ frames := 0, cells := 0, slots := 0, locals := 0 } : Room) s m args below meth c s.heap [] 0 0 (MQ below (ez_Ri z) args s 0 0 (fun _ => False)) (F0 m 0 ls []) := by
  intro n
  intro ls hl h
  rw [fX0_count] at h
  have C1 := C0
  obtain ⟨hx, hb, hr, hml, hown, hw, hlk, hA, hN⟩ := C1
  refine lv_aload_n (pc := 0) hx hb dX0_count_0 rfl (lv_at hl 0 rfl) ?_
  refine va_get (D := D) (pc := 1) hx hb hw inX0 hown hK hP 2 rfl rfl 4 (by decide) (hw _ mw25) (fun _ h9 => h9) rfl dX0_count_1 ?_
  obtain rfl := ez_r1 h
  exact ez_rroI C0 dX0_count_4
set_option maxRecDepth 100000 in
theorem kX0_count (l : Launch) (D : va_G) (a : Nat → Nat) (k : Nat → ClassId) (n : Nat) (w : Wd) (z : Int32) (h : fX0_count n w = some z) : Met l yX0_count wsX0_count ({ frames := 0, cells := 0, slots := 0, locals := 0 } : Room) (ez_Rc D (tC k) [.ref (a 2)] (wC a k w)) (ez_Ri z) 0 0 (fun _ => False) :=
  ez_mkR (by decide) rfl (Nat.le_of_ble_eq_true rfl) (fun p e s m below meth c ls C0 hl hP hK => tX0_count_0 C0 hK hP n ls (lv_sub (l := [(0, .ref (a 2))]) hl [0] rfl) h)
/-! EnclosureCalculator$Parts make -/
theorem dX0_make_0 : decode cX0_make 0 = .ok (.aload_n 0, 1) := by decide +kernel
theorem dX0_make_1 : decode cX0_make 1 = .ok (.getfield 24, 3) := by decide +kernel
theorem dX0_make_4 : decode cX0_make 4 = .ok (.istore 5, 2) := by decide +kernel
theorem dX0_make_6 : decode cX0_make 6 = .ok (.iload 5, 2) := by decide +kernel
theorem dX0_make_8 : decode cX0_make 8 = .ok (.bipush 80, 2) := by decide +kernel
theorem dX0_make_10 : decode cX0_make 10 = .ok (.if_icmp .ge 36, 3) := by decide +kernel
theorem dX0_make_13 : decode cX0_make 13 = .ok (.aload_n 0, 1) := by decide +kernel
theorem dX0_make_14 : decode cX0_make 14 = .ok (.getfield 11, 3) := by decide +kernel
theorem dX0_make_17 : decode cX0_make 17 = .ok (.iload 5, 2) := by decide +kernel
theorem dX0_make_19 : decode cX0_make 19 = .ok (.iload_n 1, 1) := by decide +kernel
theorem dX0_make_20 : decode cX0_make 20 = .ok (.iastore, 1) := by decide +kernel
theorem dX0_make_21 : decode cX0_make 21 = .ok (.aload_n 0, 1) := by decide +kernel
theorem dX0_make_22 : decode cX0_make 22 = .ok (.getfield 15, 3) := by decide +kernel
theorem dX0_make_25 : decode cX0_make 25 = .ok (.iload 5, 2) := by decide +kernel
theorem dX0_make_27 : decode cX0_make 27 = .ok (.iload_n 2, 1) := by decide +kernel
theorem dX0_make_28 : decode cX0_make 28 = .ok (.iastore, 1) := by decide +kernel
theorem dX0_make_29 : decode cX0_make 29 = .ok (.aload_n 0, 1) := by decide +kernel
theorem dX0_make_30 : decode cX0_make 30 = .ok (.getfield 18, 3) := by decide +kernel
theorem dX0_make_33 : decode cX0_make 33 = .ok (.iload 5, 2) := by decide +kernel
theorem dX0_make_35 : decode cX0_make 35 = .ok (.iload_n 3, 1) := by decide +kernel
theorem dX0_make_36 : decode cX0_make 36 = .ok (.iastore, 1) := by decide +kernel
theorem dX0_make_37 : decode cX0_make 37 = .ok (.aload_n 0, 1) := by decide +kernel
theorem dX0_make_38 : decode cX0_make 38 = .ok (.getfield 21, 3) := by decide +kernel
theorem dX0_make_41 : decode cX0_make 41 = .ok (.iload 5, 2) := by decide +kernel
theorem dX0_make_43 : decode cX0_make 43 = .ok (.iload 4, 2) := by decide +kernel
theorem dX0_make_45 : decode cX0_make 45 = .ok (.iastore, 1) := by decide +kernel
theorem dX0_make_46 : decode cX0_make 46 = .ok (.aload_n 0, 1) := by decide +kernel
theorem dX0_make_47 : decode cX0_make 47 = .ok (.dup, 1) := by decide +kernel
theorem dX0_make_48 : decode cX0_make 48 = .ok (.getfield 24, 3) := by decide +kernel
theorem dX0_make_51 : decode cX0_make 51 = .ok (.iconst 1, 1) := by decide +kernel
theorem dX0_make_52 : decode cX0_make 52 = .ok (.iadd, 1) := by decide +kernel
theorem dX0_make_53 : decode cX0_make 53 = .ok (.putfield 24, 3) := by decide +kernel
theorem dX0_make_56 : decode cX0_make 56 = .ok (.iload 5, 2) := by decide +kernel
theorem dX0_make_58 : decode cX0_make 58 = .ok (.ireturn, 1) := by decide +kernel
def fX0_make (n : Nat) (x1 : Int32) (x2 : Int32) (x3 : Int32) (x4 : Int32) (w : Wd) : Option (Int32 × Wd) :=
    if 80 ≤ (w.1 0 3) then
      (ez_fI w 3 ((w.1 0 3) + 1)).bind fun w3 =>
      some ((w.1 0 3), w3)
    else
      (ez_stI w 5 80 (w.1 0 3) x1).bind fun w5 =>
      (ez_stI w5 6 80 (w.1 0 3) x2).bind fun w7 =>
      (ez_stI w7 7 80 (w.1 0 3) x3).bind fun w9 =>
      (ez_stI w9 8 80 (w.1 0 3) x4).bind fun w11 =>
      (ez_fI w11 3 ((w11.1 0 3) + 1)).bind fun w13 =>
      some ((w.1 0 3), w13)
set_option maxHeartbeats 4000000 in
set_option maxRecDepth 100000 in
theorem tX0_make_0 {p : Program} {l : Launch} {e : Env} {s : State} {m : MethodId} {args : Array Value} {below : List Frame} {meth : Method} {c : Code} {A : Nat → Prop} {D : va_G} {a : Nat → Nat} {k : Nat → ClassId} {z : Int32 × Wd} (C0 : ez_C p s m args meth c cX0_make (some .int) 6 RX0 A) (hK : va_K D vwCl (tC k) s) : ∀ (n : Nat) (H : Heap) (locs : List Loc) (ls : Array Slot) (x1 : Int32) (x2 : Int32) (x3 : Int32) (x4 : Int32) (w : Wd), lv_has ls 6 [(0, .ref (a 2)), (1, .int x1), (2, .int x2), (3, .int x3), (4, .int x4)] → va_P D vwCl (wC a k w) H → va_D A (wC a k w) → va_S A s.heap H locs → fX0_make n x1 x2 x3 x4 w = some z → W p l e ({ frames := 0, cells := 0, slots := 0, locals := 0 } : Room) s m args below meth c H locs 0 0 (MQ below (ez_Qi D (tC k) A z.1 (wC a k z.2)) args s 0 0 A) (F0 m 0 ls []) := by
  intro n
  intro H locs ls x1 x2 x3 x4 w hl hP hD hS h
  rw [fX0_make] at h
  have C1 := C0
  obtain ⟨hx, hb, hr, hml, hown, hw, hlk, hA, hN⟩ := C1
  refine lv_aload_n (pc := 0) hx hb dX0_make_0 rfl (lv_at hl 0 rfl) ?_
  refine va_get (D := D) (pc := 1) hx hb hw inX0 hown hK hP 2 rfl rfl 4 (by decide) (hw _ mw25) (fun _ h9 => h9) rfl dX0_make_1 ?_
  refine lv_istore (pc := 4) hx hb dX0_make_4 hl (by decide) rfl (fun ls hl => ?_)
  replace hl : lv_has ls 6 [(5, .int (w.1 0 3)), (0, .ref (a 2)), (1, .int x1), (2, .int x2), (3, .int x3), (4, .int x4)] := hl
  refine lv_iload (pc := 6) hx hb dX0_make_6 (lv_at hl 0 rfl) ?_
  refine lv_bipush (v := 80) (pc := 8) hx hb dX0_make_8 rfl ?_
  refine lv_icmp_ge (pc := 10) (tgt := 46) hx hb dX0_make_10 (by decide) (fun c1 => ?_) (fun c1 => ?_)
  · replace h := ez_it c1 h
    refine lv_aload_n (pc := 46) hx hb dX0_make_46 rfl (lv_at hl 1 rfl) ?_
    refine lv_dup (pc := 47) hx hb dX0_make_47 rfl ?_
    refine va_get (D := D) (pc := 48) hx hb hw inX0 hown hK hP 2 rfl rfl 4 (by decide) (hw _ mw25) (fun _ h9 => h9) rfl dX0_make_48 ?_
    refine lv_iconst (v := 1) (pc := 51) hx hb dX0_make_51 rfl ?_
    refine lv_iadd (pc := 52) hx hb dX0_make_52 ?_
    replace h := ez_bd h
    obtain ⟨w3, e2, h⟩ := h
    refine va_put (D := D) (v := .int ((w.1 0 3) + 1)) (ty := .int) (pc := 53) hx hb hw inX0 tyX0 tyX0_ok nmX0 hown hK hP hD hS 2 rfl rfl 4 (by decide) (hw _ mw25) (fun _ h9 => h9) rfl (by decide +kernel) rfl rfl (Nat.le_of_ble_eq_true rfl) dX0_make_53 (fun H locs hP hD hS => ?_)
    replace hP : va_P D vwCl (wC a k w3) H := by rw [(ez_fIs e2)]; exact hP
    replace hD : va_D A (wC a k w3) := by rw [(ez_fIs e2)]; exact hD
    refine lv_iload (pc := 56) hx hb dX0_make_56 (lv_at hl 0 rfl) ?_
    obtain rfl := ez_r1 h
    exact ez_retI C0 hP hD hK hS dX0_make_58
  · replace h := ez_if c1 h
    refine lv_aload_n (pc := 13) hx hb dX0_make_13 rfl (lv_at hl 1 rfl) ?_
    refine va_get (D := D) (pc := 14) hx hb hw inX0 hown hK hP 2 rfl rfl 0 (by decide) (hw _ mw21) (fun _ h9 => h9) rfl dX0_make_14 ?_
    refine lv_iload (pc := 17) hx hb dX0_make_17 (lv_at hl 0 rfl) ?_
    refine lv_iload_n (pc := 19) hx hb dX0_make_19 rfl (lv_at hl 2 rfl) ?_
    replace h := ez_bd h
    obtain ⟨w5, e4, h⟩ := h
    obtain ⟨e4i, e4⟩ := ez_stIs e4
    refine va_iast (D := D) (pc := 20) hx hb hK hP hD hS 5 2 rfl rfl e4i dX0_make_20 (fun H locs hP hD hS => ?_)
    replace hP : va_P D vwCl (wC a k w5) H := by rw [e4]; exact hP
    replace hD : va_D A (wC a k w5) := by rw [e4]; exact hD
    refine lv_aload_n (pc := 21) hx hb dX0_make_21 rfl (lv_at hl 1 rfl) ?_
    refine va_get (D := D) (pc := 22) hx hb hw inX0 hown hK hP 2 rfl rfl 1 (by decide) (hw _ mw22) (fun _ h9 => h9) rfl dX0_make_22 ?_
    refine lv_iload (pc := 25) hx hb dX0_make_25 (lv_at hl 0 rfl) ?_
    refine lv_iload_n (pc := 27) hx hb dX0_make_27 rfl (lv_at hl 3 rfl) ?_
    replace h := ez_bd h
    obtain ⟨w7, e6, h⟩ := h
    obtain ⟨e6i, e6⟩ := ez_stIs e6
    refine va_iast (D := D) (pc := 28) hx hb hK hP hD hS 6 3 rfl rfl e6i dX0_make_28 (fun H locs hP hD hS => ?_)
    replace hP : va_P D vwCl (wC a k w7) H := by rw [e6]; exact hP
    replace hD : va_D A (wC a k w7) := by rw [e6]; exact hD
    refine lv_aload_n (pc := 29) hx hb dX0_make_29 rfl (lv_at hl 1 rfl) ?_
    refine va_get (D := D) (pc := 30) hx hb hw inX0 hown hK hP 2 rfl rfl 2 (by decide) (hw _ mw23) (fun _ h9 => h9) rfl dX0_make_30 ?_
    refine lv_iload (pc := 33) hx hb dX0_make_33 (lv_at hl 0 rfl) ?_
    refine lv_iload_n (pc := 35) hx hb dX0_make_35 rfl (lv_at hl 4 rfl) ?_
    replace h := ez_bd h
    obtain ⟨w9, e8, h⟩ := h
    obtain ⟨e8i, e8⟩ := ez_stIs e8
    refine va_iast (D := D) (pc := 36) hx hb hK hP hD hS 7 4 rfl rfl e8i dX0_make_36 (fun H locs hP hD hS => ?_)
    replace hP : va_P D vwCl (wC a k w9) H := by rw [e8]; exact hP
    replace hD : va_D A (wC a k w9) := by rw [e8]; exact hD
    refine lv_aload_n (pc := 37) hx hb dX0_make_37 rfl (lv_at hl 1 rfl) ?_
    refine va_get (D := D) (pc := 38) hx hb hw inX0 hown hK hP 2 rfl rfl 3 (by decide) (hw _ mw24) (fun _ h9 => h9) rfl dX0_make_38 ?_
    refine lv_iload (pc := 41) hx hb dX0_make_41 (lv_at hl 0 rfl) ?_
    refine lv_iload (pc := 43) hx hb dX0_make_43 (lv_at hl 5 rfl) ?_
    replace h := ez_bd h
    obtain ⟨w11, e10, h⟩ := h
    obtain ⟨e10i, e10⟩ := ez_stIs e10
    refine va_iast (D := D) (pc := 45) hx hb hK hP hD hS 8 5 rfl rfl e10i dX0_make_45 (fun H locs hP hD hS => ?_)
    replace hP : va_P D vwCl (wC a k w11) H := by rw [e10]; exact hP
    replace hD : va_D A (wC a k w11) := by rw [e10]; exact hD
    refine lv_aload_n (pc := 46) hx hb dX0_make_46 rfl (lv_at hl 1 rfl) ?_
    refine lv_dup (pc := 47) hx hb dX0_make_47 rfl ?_
    refine va_get (D := D) (pc := 48) hx hb hw inX0 hown hK hP 2 rfl rfl 4 (by decide) (hw _ mw25) (fun _ h9 => h9) rfl dX0_make_48 ?_
    refine lv_iconst (v := 1) (pc := 51) hx hb dX0_make_51 rfl ?_
    refine lv_iadd (pc := 52) hx hb dX0_make_52 ?_
    replace h := ez_bd h
    obtain ⟨w13, e12, h⟩ := h
    refine va_put (D := D) (v := .int ((w11.1 0 3) + 1)) (ty := .int) (pc := 53) hx hb hw inX0 tyX0 tyX0_ok nmX0 hown hK hP hD hS 2 rfl rfl 4 (by decide) (hw _ mw25) (fun _ h9 => h9) rfl (by decide +kernel) rfl rfl (Nat.le_of_ble_eq_true rfl) dX0_make_53 (fun H locs hP hD hS => ?_)
    replace hP : va_P D vwCl (wC a k w13) H := by rw [(ez_fIs e12)]; exact hP
    replace hD : va_D A (wC a k w13) := by rw [(ez_fIs e12)]; exact hD
    refine lv_iload (pc := 56) hx hb dX0_make_56 (lv_at hl 0 rfl) ?_
    obtain rfl := ez_r1 h
    exact ez_retI C0 hP hD hK hS dX0_make_58
set_option maxRecDepth 100000 in
theorem kX0_make (l : Launch) (D : va_G) (a : Nat → Nat) (k : Nat → ClassId) (n : Nat) (x1 : Int32) (x2 : Int32) (x3 : Int32) (x4 : Int32) (w : Wd) (z : Int32 × Wd) (h : fX0_make n x1 x2 x3 x4 w = some z) (sz : Nat) : Met l yX0_make wsX0_make ({ frames := 0, cells := 0, slots := 0, locals := 0 } : Room) (ez_Pc D (tC k) [.ref (a 2), .int x1, .int x2, .int x3, .int x4] (wC a k w) sz) (ez_Qi D (tC k) (va_A (wC a k w) sz) z.1 (wC a k z.2)) 0 0 (va_A (wC a k w) sz) :=
  ez_mk (Qf := fun A => (ez_Qi D (tC k) A z.1 (wC a k z.2))) (by decide) rfl (Nat.le_of_ble_eq_true rfl) (fun p e s m below meth c A ls C0 _ hl hP hD hK => tX0_make_0 C0 hK n s.heap [] ls x1 x2 x3 x4 w (lv_sub (l := [(0, .ref (a 2)), (1, .int x1), (2, .int x2), (3, .int x3), (4, .int x4)]) hl [0, 1, 2, 3, 4] rfl) hP hD va_S.rf h) sz
/-! EnclosureCalculator$Parts makeWhole -/
theorem dX0_makeWhole_0 : decode cX0_makeWhole 0 = .ok (.aload_n 0, 1) := by decide +kernel
theorem dX0_makeWhole_1 : decode cX0_makeWhole 1 = .ok (.iconst 0, 1) := by decide +kernel
theorem dX0_makeWhole_2 : decode cX0_makeWhole 2 = .ok (.iload_n 1, 1) := by decide +kernel
theorem dX0_makeWhole_3 : decode cX0_makeWhole 3 = .ok (.iconst (-1), 1) := by decide +kernel
theorem dX0_makeWhole_4 : decode cX0_makeWhole 4 = .ok (.iconst (-1), 1) := by decide +kernel
theorem dX0_makeWhole_5 : decode cX0_makeWhole 5 = .ok (.invokevirtual 28, 3) := by decide +kernel
theorem dX0_makeWhole_8 : decode cX0_makeWhole 8 = .ok (.ireturn, 1) := by decide +kernel
def fX0_makeWhole (n : Nat) (x1 : Int32) (w : Wd) : Option (Int32 × Wd) :=
    (fX0_make n 0 x1 (-1) (-1) w).bind fun z1 =>
    some (z1.1, z1.2)
set_option maxHeartbeats 4000000 in
set_option maxRecDepth 100000 in
theorem tX0_makeWhole_0 {p : Program} {l : Launch} {e : Env} {s : State} {m : MethodId} {args : Array Value} {below : List Frame} {meth : Method} {c : Code} {A : Nat → Prop} {D : va_G} {a : Nat → Nat} {k : Nat → ClassId} {z : Int32 × Wd} (C0 : ez_C p s m args meth c cX0_makeWhole (some .int) 2 RX0 A) (hK : va_K D vwCl (tC k) s) : ∀ (n : Nat) (H : Heap) (locs : List Loc) (ls : Array Slot) (x1 : Int32) (w : Wd), lv_has ls 2 [(0, .ref (a 2)), (1, .int x1)] → va_P D vwCl (wC a k w) H → va_D A (wC a k w) → va_S A s.heap H locs → fX0_makeWhole n x1 w = some z → W p l e ({ frames := 1, cells := 0, slots := 0, locals := 25 } : Room) s m args below meth c H locs 0 0 (MQ below (ez_Qi D (tC k) A z.1 (wC a k z.2)) args s 0 0 A) (F0 m 0 ls []) := by
  intro n
  intro H locs ls x1 w hl hP hD hS h
  rw [fX0_makeWhole] at h
  have C1 := C0
  obtain ⟨hx, hb, hr, hml, hown, hw, hlk, hA, hN⟩ := C1
  refine lv_aload_n (pc := 0) hx hb dX0_makeWhole_0 rfl (lv_at hl 0 rfl) ?_
  refine lv_iconst (v := 0) (pc := 1) hx hb dX0_makeWhole_1 rfl ?_
  refine lv_iload_n (pc := 2) hx hb dX0_makeWhole_2 rfl (lv_at hl 1 rfl) ?_
  refine lv_iconst (v := (-1)) (pc := 3) hx hb dX0_makeWhole_3 rfl ?_
  refine lv_iconst (v := (-1)) (pc := 4) hx hb dX0_makeWhole_4 rfl ?_
  replace h := ez_bd h
  obtain ⟨z1, e2, h⟩ := h
  refine ez_callI (r := z1.1) (pc := 5) (wr := []) (wl := (wC a k w)) (wl' := (wC a k z1.2)) (va_runV (g := F0 m 5 ls [.int (-1), .int (-1), .int x1, .int 0, .ref (a 2)]) (As := [.int 0, .int x1, .int (-1), .int (-1)]) (rest := []) ⟨hx, hb, hml, hown, hw⟩ (kX0_make l D a k n 0 x1 (-1) (-1) w z1 e2 H.size) (cwV 4 hw (ez_gV mw189 mw191 mp7 mw2 mw192) rfl rfl rfl (by decide +kernel) ⟨Nat.le_of_ble_eq_true rfl, Nat.le_of_ble_eq_true rfl⟩) (ez_preV (wr := []) (wl := (wC a k w)) hP hD hK hN 2 rfl rfl) rfl rfl hl.1 rfl (lv_room (Nat.le_of_ble_eq_true rfl)) dX0_makeWhole_5 ⟨Nat.le_refl _, Nat.le_refl _⟩) hP hD hS hA (fun H locs hP hD hS => ?_)
  replace hP : va_P D vwCl (wC a k z1.2) H := hP
  replace hD : va_D A (wC a k z1.2) := hD
  obtain rfl := ez_r1 h
  exact ez_retI C0 hP hD hK hS dX0_makeWhole_8
set_option maxRecDepth 100000 in
theorem kX0_makeWhole (l : Launch) (D : va_G) (a : Nat → Nat) (k : Nat → ClassId) (n : Nat) (x1 : Int32) (w : Wd) (z : Int32 × Wd) (h : fX0_makeWhole n x1 w = some z) (sz : Nat) : Met l yX0_makeWhole wsX0_makeWhole ({ frames := 1, cells := 0, slots := 0, locals := 25 } : Room) (ez_Pc D (tC k) [.ref (a 2), .int x1] (wC a k w) sz) (ez_Qi D (tC k) (va_A (wC a k w) sz) z.1 (wC a k z.2)) 0 0 (va_A (wC a k w) sz) :=
  ez_mk (Qf := fun A => (ez_Qi D (tC k) A z.1 (wC a k z.2))) (by decide) rfl (Nat.le_of_ble_eq_true rfl) (fun p e s m below meth c A ls C0 _ hl hP hD hK => tX0_makeWhole_0 C0 hK n s.heap [] ls x1 w (lv_sub (l := [(0, .ref (a 2)), (1, .int x1)]) hl [0, 1] rfl) hP hD va_S.rf h) sz
/-! EnclosureCalculator$Parts makeOfOne -/
theorem dX0_makeOfOne_0 : decode cX0_makeOfOne 0 = .ok (.aload_n 0, 1) := by decide +kernel
theorem dX0_makeOfOne_1 : decode cX0_makeOfOne 1 = .ok (.iload_n 1, 1) := by decide +kernel
theorem dX0_makeOfOne_2 : decode cX0_makeOfOne 2 = .ok (.iconst 0, 1) := by decide +kernel
theorem dX0_makeOfOne_3 : decode cX0_makeOfOne 3 = .ok (.iload_n 2, 1) := by decide +kernel
theorem dX0_makeOfOne_4 : decode cX0_makeOfOne 4 = .ok (.iconst (-1), 1) := by decide +kernel
theorem dX0_makeOfOne_5 : decode cX0_makeOfOne 5 = .ok (.invokevirtual 28, 3) := by decide +kernel
theorem dX0_makeOfOne_8 : decode cX0_makeOfOne 8 = .ok (.ireturn, 1) := by decide +kernel
def fX0_makeOfOne (n : Nat) (x1 : Int32) (x2 : Int32) (w : Wd) : Option (Int32 × Wd) :=
    (fX0_make n x1 0 x2 (-1) w).bind fun z1 =>
    some (z1.1, z1.2)
set_option maxHeartbeats 4000000 in
set_option maxRecDepth 100000 in
theorem tX0_makeOfOne_0 {p : Program} {l : Launch} {e : Env} {s : State} {m : MethodId} {args : Array Value} {below : List Frame} {meth : Method} {c : Code} {A : Nat → Prop} {D : va_G} {a : Nat → Nat} {k : Nat → ClassId} {z : Int32 × Wd} (C0 : ez_C p s m args meth c cX0_makeOfOne (some .int) 3 RX0 A) (hK : va_K D vwCl (tC k) s) : ∀ (n : Nat) (H : Heap) (locs : List Loc) (ls : Array Slot) (x1 : Int32) (x2 : Int32) (w : Wd), lv_has ls 3 [(0, .ref (a 2)), (1, .int x1), (2, .int x2)] → va_P D vwCl (wC a k w) H → va_D A (wC a k w) → va_S A s.heap H locs → fX0_makeOfOne n x1 x2 w = some z → W p l e ({ frames := 1, cells := 0, slots := 0, locals := 25 } : Room) s m args below meth c H locs 0 0 (MQ below (ez_Qi D (tC k) A z.1 (wC a k z.2)) args s 0 0 A) (F0 m 0 ls []) := by
  intro n
  intro H locs ls x1 x2 w hl hP hD hS h
  rw [fX0_makeOfOne] at h
  have C1 := C0
  obtain ⟨hx, hb, hr, hml, hown, hw, hlk, hA, hN⟩ := C1
  refine lv_aload_n (pc := 0) hx hb dX0_makeOfOne_0 rfl (lv_at hl 0 rfl) ?_
  refine lv_iload_n (pc := 1) hx hb dX0_makeOfOne_1 rfl (lv_at hl 1 rfl) ?_
  refine lv_iconst (v := 0) (pc := 2) hx hb dX0_makeOfOne_2 rfl ?_
  refine lv_iload_n (pc := 3) hx hb dX0_makeOfOne_3 rfl (lv_at hl 2 rfl) ?_
  refine lv_iconst (v := (-1)) (pc := 4) hx hb dX0_makeOfOne_4 rfl ?_
  replace h := ez_bd h
  obtain ⟨z1, e2, h⟩ := h
  refine ez_callI (r := z1.1) (pc := 5) (wr := []) (wl := (wC a k w)) (wl' := (wC a k z1.2)) (va_runV (g := F0 m 5 ls [.int (-1), .int x2, .int 0, .int x1, .ref (a 2)]) (As := [.int x1, .int 0, .int x2, .int (-1)]) (rest := []) ⟨hx, hb, hml, hown, hw⟩ (kX0_make l D a k n x1 0 x2 (-1) w z1 e2 H.size) (cwV 4 hw (ez_gV mw189 mw191 mp7 mw2 mw192) rfl rfl rfl (by decide +kernel) ⟨Nat.le_of_ble_eq_true rfl, Nat.le_of_ble_eq_true rfl⟩) (ez_preV (wr := []) (wl := (wC a k w)) hP hD hK hN 2 rfl rfl) rfl rfl hl.1 rfl (lv_room (Nat.le_of_ble_eq_true rfl)) dX0_makeOfOne_5 ⟨Nat.le_refl _, Nat.le_refl _⟩) hP hD hS hA (fun H locs hP hD hS => ?_)
  replace hP : va_P D vwCl (wC a k z1.2) H := hP
  replace hD : va_D A (wC a k z1.2) := hD
  obtain rfl := ez_r1 h
  exact ez_retI C0 hP hD hK hS dX0_makeOfOne_8
set_option maxRecDepth 100000 in
theorem kX0_makeOfOne (l : Launch) (D : va_G) (a : Nat → Nat) (k : Nat → ClassId) (n : Nat) (x1 : Int32) (x2 : Int32) (w : Wd) (z : Int32 × Wd) (h : fX0_makeOfOne n x1 x2 w = some z) (sz : Nat) : Met l yX0_makeOfOne wsX0_makeOfOne ({ frames := 1, cells := 0, slots := 0, locals := 25 } : Room) (ez_Pc D (tC k) [.ref (a 2), .int x1, .int x2] (wC a k w) sz) (ez_Qi D (tC k) (va_A (wC a k w) sz) z.1 (wC a k z.2)) 0 0 (va_A (wC a k w) sz) :=
  ez_mk (Qf := fun A => (ez_Qi D (tC k) A z.1 (wC a k z.2))) (by decide) rfl (Nat.le_of_ble_eq_true rfl) (fun p e s m below meth c A ls C0 _ hl hP hD hK => tX0_makeOfOne_0 C0 hK n s.heap [] ls x1 x2 w (lv_sub (l := [(0, .ref (a 2)), (1, .int x1), (2, .int x2)]) hl [0, 1, 2] rfl) hP hD va_S.rf h) sz
/-! EnclosureCalculator$Parts makeOfTwo -/
theorem dX0_makeOfTwo_0 : decode cX0_makeOfTwo 0 = .ok (.aload_n 0, 1) := by decide +kernel
theorem dX0_makeOfTwo_1 : decode cX0_makeOfTwo 1 = .ok (.iload_n 1, 1) := by decide +kernel
theorem dX0_makeOfTwo_2 : decode cX0_makeOfTwo 2 = .ok (.iconst 0, 1) := by decide +kernel
theorem dX0_makeOfTwo_3 : decode cX0_makeOfTwo 3 = .ok (.iload_n 2, 1) := by decide +kernel
theorem dX0_makeOfTwo_4 : decode cX0_makeOfTwo 4 = .ok (.iload_n 3, 1) := by decide +kernel
theorem dX0_makeOfTwo_5 : decode cX0_makeOfTwo 5 = .ok (.invokevirtual 28, 3) := by decide +kernel
theorem dX0_makeOfTwo_8 : decode cX0_makeOfTwo 8 = .ok (.ireturn, 1) := by decide +kernel
def fX0_makeOfTwo (n : Nat) (x1 : Int32) (x2 : Int32) (x3 : Int32) (w : Wd) : Option (Int32 × Wd) :=
    (fX0_make n x1 0 x2 x3 w).bind fun z1 =>
    some (z1.1, z1.2)
set_option maxHeartbeats 4000000 in
set_option maxRecDepth 100000 in
theorem tX0_makeOfTwo_0 {p : Program} {l : Launch} {e : Env} {s : State} {m : MethodId} {args : Array Value} {below : List Frame} {meth : Method} {c : Code} {A : Nat → Prop} {D : va_G} {a : Nat → Nat} {k : Nat → ClassId} {z : Int32 × Wd} (C0 : ez_C p s m args meth c cX0_makeOfTwo (some .int) 4 RX0 A) (hK : va_K D vwCl (tC k) s) : ∀ (n : Nat) (H : Heap) (locs : List Loc) (ls : Array Slot) (x1 : Int32) (x2 : Int32) (x3 : Int32) (w : Wd), lv_has ls 4 [(0, .ref (a 2)), (1, .int x1), (2, .int x2), (3, .int x3)] → va_P D vwCl (wC a k w) H → va_D A (wC a k w) → va_S A s.heap H locs → fX0_makeOfTwo n x1 x2 x3 w = some z → W p l e ({ frames := 1, cells := 0, slots := 0, locals := 25 } : Room) s m args below meth c H locs 0 0 (MQ below (ez_Qi D (tC k) A z.1 (wC a k z.2)) args s 0 0 A) (F0 m 0 ls []) := by
  intro n
  intro H locs ls x1 x2 x3 w hl hP hD hS h
  rw [fX0_makeOfTwo] at h
  have C1 := C0
  obtain ⟨hx, hb, hr, hml, hown, hw, hlk, hA, hN⟩ := C1
  refine lv_aload_n (pc := 0) hx hb dX0_makeOfTwo_0 rfl (lv_at hl 0 rfl) ?_
  refine lv_iload_n (pc := 1) hx hb dX0_makeOfTwo_1 rfl (lv_at hl 1 rfl) ?_
  refine lv_iconst (v := 0) (pc := 2) hx hb dX0_makeOfTwo_2 rfl ?_
  refine lv_iload_n (pc := 3) hx hb dX0_makeOfTwo_3 rfl (lv_at hl 2 rfl) ?_
  refine lv_iload_n (pc := 4) hx hb dX0_makeOfTwo_4 rfl (lv_at hl 3 rfl) ?_
  replace h := ez_bd h
  obtain ⟨z1, e2, h⟩ := h
  refine ez_callI (r := z1.1) (pc := 5) (wr := []) (wl := (wC a k w)) (wl' := (wC a k z1.2)) (va_runV (g := F0 m 5 ls [.int x3, .int x2, .int 0, .int x1, .ref (a 2)]) (As := [.int x1, .int 0, .int x2, .int x3]) (rest := []) ⟨hx, hb, hml, hown, hw⟩ (kX0_make l D a k n x1 0 x2 x3 w z1 e2 H.size) (cwV 4 hw (ez_gV mw189 mw191 mp7 mw2 mw192) rfl rfl rfl (by decide +kernel) ⟨Nat.le_of_ble_eq_true rfl, Nat.le_of_ble_eq_true rfl⟩) (ez_preV (wr := []) (wl := (wC a k w)) hP hD hK hN 2 rfl rfl) rfl rfl hl.1 rfl (lv_room (Nat.le_of_ble_eq_true rfl)) dX0_makeOfTwo_5 ⟨Nat.le_refl _, Nat.le_refl _⟩) hP hD hS hA (fun H locs hP hD hS => ?_)
  replace hP : va_P D vwCl (wC a k z1.2) H := hP
  replace hD : va_D A (wC a k z1.2) := hD
  obtain rfl := ez_r1 h
  exact ez_retI C0 hP hD hK hS dX0_makeOfTwo_8
set_option maxRecDepth 100000 in
theorem kX0_makeOfTwo (l : Launch) (D : va_G) (a : Nat → Nat) (k : Nat → ClassId) (n : Nat) (x1 : Int32) (x2 : Int32) (x3 : Int32) (w : Wd) (z : Int32 × Wd) (h : fX0_makeOfTwo n x1 x2 x3 w = some z) (sz : Nat) : Met l yX0_makeOfTwo wsX0_makeOfTwo ({ frames := 1, cells := 0, slots := 0, locals := 25 } : Room) (ez_Pc D (tC k) [.ref (a 2), .int x1, .int x2, .int x3] (wC a k w) sz) (ez_Qi D (tC k) (va_A (wC a k w) sz) z.1 (wC a k z.2)) 0 0 (va_A (wC a k w) sz) :=
  ez_mk (Qf := fun A => (ez_Qi D (tC k) A z.1 (wC a k z.2))) (by decide) rfl (Nat.le_of_ble_eq_true rfl) (fun p e s m below meth c A ls C0 _ hl hP hD hK => tX0_makeOfTwo_0 C0 hK n s.heap [] ls x1 x2 x3 w (lv_sub (l := [(0, .ref (a 2)), (1, .int x1), (2, .int x2), (3, .int x3)]) hl [0, 1, 2, 3] rfl) hP hD va_S.rf h) sz
/-! EnclosureCalculator$Parts isOverfull -/
theorem dX0_isOverfull_0 : decode cX0_isOverfull 0 = .ok (.aload_n 0, 1) := by decide +kernel
theorem dX0_isOverfull_1 : decode cX0_isOverfull 1 = .ok (.getfield 24, 3) := by decide +kernel
theorem dX0_isOverfull_4 : decode cX0_isOverfull 4 = .ok (.bipush 80, 2) := by decide +kernel
theorem dX0_isOverfull_6 : decode cX0_isOverfull 6 = .ok (.if_icmp .le 7, 3) := by decide +kernel
theorem dX0_isOverfull_9 : decode cX0_isOverfull 9 = .ok (.iconst 1, 1) := by decide +kernel
theorem dX0_isOverfull_10 : decode cX0_isOverfull 10 = .ok (.goto 4, 3) := by decide +kernel
theorem dX0_isOverfull_13 : decode cX0_isOverfull 13 = .ok (.iconst 0, 1) := by decide +kernel
theorem dX0_isOverfull_14 : decode cX0_isOverfull 14 = .ok (.ireturn, 1) := by decide +kernel
def fX0_isOverfull (n : Nat) (w : Wd) : Option (Int32) :=
    if (w.1 0 3) ≤ 80 then
      some 0
    else
      some 1
set_option maxHeartbeats 4000000 in
set_option maxRecDepth 100000 in
theorem tX0_isOverfull_0 {p : Program} {l : Launch} {e : Env} {s : State} {m : MethodId} {args : Array Value} {below : List Frame} {meth : Method} {c : Code} {D : va_G} {a : Nat → Nat} {k : Nat → ClassId} {z : Int32} {w : Wd} (C0 : ez_C p s m args meth c cX0_isOverfull (some .boolean) 1 RX0 (fun _ => True)) (hK : va_K D vwCl (tC k) s) (hP : va_P D vwCl (wC a k w) s.heap) : ∀ (n : Nat) (ls : Array Slot), lv_has ls 1 [(0, .ref (a 2))] → fX0_isOverfull n w = some z → W p l e ({ frames := 0, cells := 0, slots := 0, locals := 0 } : Room) s m args below meth c s.heap [] 0 0 (MQ below (ez_Ri z) args s 0 0 (fun _ => False)) (F0 m 0 ls []) := by
  intro n
  intro ls hl h
  rw [fX0_isOverfull] at h
  have C1 := C0
  obtain ⟨hx, hb, hr, hml, hown, hw, hlk, hA, hN⟩ := C1
  refine lv_aload_n (pc := 0) hx hb dX0_isOverfull_0 rfl (lv_at hl 0 rfl) ?_
  refine va_get (D := D) (pc := 1) hx hb hw inX0 hown hK hP 2 rfl rfl 4 (by decide) (hw _ mw25) (fun _ h9 => h9) rfl dX0_isOverfull_1 ?_
  refine lv_bipush (v := 80) (pc := 4) hx hb dX0_isOverfull_4 rfl ?_
  refine lv_icmp_le (pc := 6) (tgt := 13) hx hb dX0_isOverfull_6 (by decide) (fun c1 => ?_) (fun c1 => ?_)
  · replace h := ez_it c1 h
    refine lv_iconst (v := 0) (pc := 13) hx hb dX0_isOverfull_13 rfl ?_
    obtain rfl := ez_r1 h
    exact ez_rroZ C0 (rfl) dX0_isOverfull_14
  · replace h := ez_if c1 h
    refine lv_iconst (v := 1) (pc := 9) hx hb dX0_isOverfull_9 rfl ?_
    refine lv_goto (pc := 10) (tgt := 14) hx hb dX0_isOverfull_10 (by decide) ?_
    obtain rfl := ez_r1 h
    exact ez_rroZ C0 (rfl) dX0_isOverfull_14
set_option maxRecDepth 100000 in
theorem kX0_isOverfull (l : Launch) (D : va_G) (a : Nat → Nat) (k : Nat → ClassId) (n : Nat) (w : Wd) (z : Int32) (h : fX0_isOverfull n w = some z) : Met l yX0_isOverfull wsX0_isOverfull ({ frames := 0, cells := 0, slots := 0, locals := 0 } : Room) (ez_Rc D (tC k) [.ref (a 2)] (wC a k w)) (ez_Ri z) 0 0 (fun _ => False) :=
  ez_mkR (by decide) rfl (Nat.le_of_ble_eq_true rfl) (fun p e s m below meth c ls C0 hl hP hK => tX0_isOverfull_0 C0 hK hP n ls (lv_sub (l := [(0, .ref (a 2))]) hl [0] rfl) h)
/-! EnclosureCalculator$Parts has -/
theorem dX0_has_0 : decode cX0_has 0 = .ok (.iload_n 0, 1) := by decide +kernel
theorem dX0_has_1 : decode cX0_has 1 = .ok (.ifCond .lt 13, 3) := by decide +kernel
theorem dX0_has_4 : decode cX0_has 4 = .ok (.iload_n 0, 1) := by decide +kernel
theorem dX0_has_5 : decode cX0_has 5 = .ok (.bipush 80, 2) := by decide +kernel
theorem dX0_has_7 : decode cX0_has 7 = .ok (.if_icmp .ge 7, 3) := by decide +kernel
theorem dX0_has_10 : decode cX0_has 10 = .ok (.iconst 1, 1) := by decide +kernel
theorem dX0_has_11 : decode cX0_has 11 = .ok (.goto 4, 3) := by decide +kernel
theorem dX0_has_14 : decode cX0_has 14 = .ok (.iconst 0, 1) := by decide +kernel
theorem dX0_has_15 : decode cX0_has 15 = .ok (.ireturn, 1) := by decide +kernel
def fX0_has (n : Nat) (x0 : Int32) : Option (Int32) :=
    if x0 < 0 then
      some 0
    else
      if 80 ≤ x0 then
        some 0
      else
        some 1
set_option maxHeartbeats 4000000 in
set_option maxRecDepth 100000 in
theorem tX0_has_0 {p : Program} {l : Launch} {e : Env} {s : State} {m : MethodId} {args : Array Value} {below : List Frame} {meth : Method} {c : Code} {z : Int32} (C0 : ez_C p s m args meth c cX0_has (some .boolean) 1 RX0 (fun _ => True)) : ∀ (n : Nat) (ls : Array Slot) (x0 : Int32), lv_has ls 1 [(0, .int x0)] → fX0_has n x0 = some z → W p l e ({ frames := 0, cells := 0, slots := 0, locals := 0 } : Room) s m args below meth c s.heap [] 0 0 (MQ below (ez_Ri z) args s 0 0 (fun _ => False)) (F0 m 0 ls []) := by
  intro n
  intro ls x0 hl h
  rw [fX0_has] at h
  have C1 := C0
  obtain ⟨hx, hb, hr, hml, hown, hw, hlk, hA, hN⟩ := C1
  refine lv_iload_n (pc := 0) hx hb dX0_has_0 rfl (lv_at hl 0 rfl) ?_
  refine lv_if_lt (pc := 1) (tgt := 14) hx hb dX0_has_1 (by decide) (fun c1 => ?_) (fun c1 => ?_)
  · replace h := ez_it c1 h
    refine lv_iconst (v := 0) (pc := 14) hx hb dX0_has_14 rfl ?_
    obtain rfl := ez_r1 h
    exact ez_rroZ C0 (rfl) dX0_has_15
  · replace h := ez_if c1 h
    refine lv_iload_n (pc := 4) hx hb dX0_has_4 rfl (lv_at hl 0 rfl) ?_
    refine lv_bipush (v := 80) (pc := 5) hx hb dX0_has_5 rfl ?_
    refine lv_icmp_ge (pc := 7) (tgt := 14) hx hb dX0_has_7 (by decide) (fun c2 => ?_) (fun c2 => ?_)
    · replace h := ez_it c2 h
      refine lv_iconst (v := 0) (pc := 14) hx hb dX0_has_14 rfl ?_
      obtain rfl := ez_r1 h
      exact ez_rroZ C0 (rfl) dX0_has_15
    · replace h := ez_if c2 h
      refine lv_iconst (v := 1) (pc := 10) hx hb dX0_has_10 rfl ?_
      refine lv_goto (pc := 11) (tgt := 15) hx hb dX0_has_11 (by decide) ?_
      obtain rfl := ez_r1 h
      exact ez_rroZ C0 (rfl) dX0_has_15
set_option maxRecDepth 100000 in
theorem kX0_has (l : Launch) (n : Nat) (x0 : Int32) (z : Int32) (h : fX0_has n x0 = some z) : Met l yX0_has wsX0_has ({ frames := 0, cells := 0, slots := 0, locals := 0 } : Room) (ez_Sc [.int x0]) (ez_Ri z) 0 0 (fun _ => False) :=
  ez_mkS (by decide +kernel) rfl (Nat.le_of_ble_eq_true rfl) (fun p e s m below meth c ls C0 hl => tX0_has_0 C0 n ls x0 (lv_sub (l := [(0, .int x0)]) hl [0] rfl) h)
/-! EnclosureCalculator$Parts firstOf -/
theorem dX0_firstOf_0 : decode cX0_firstOf 0 = .ok (.iload_n 1, 1) := by decide +kernel
theorem dX0_firstOf_1 : decode cX0_firstOf 1 = .ok (.invokestatic 32, 3) := by decide +kernel
theorem dX0_firstOf_4 : decode cX0_firstOf 4 = .ok (.ifCond .eq 12, 3) := by decide +kernel
theorem dX0_firstOf_7 : decode cX0_firstOf 7 = .ok (.aload_n 0, 1) := by decide +kernel
theorem dX0_firstOf_8 : decode cX0_firstOf 8 = .ok (.getfield 18, 3) := by decide +kernel
theorem dX0_firstOf_11 : decode cX0_firstOf 11 = .ok (.iload_n 1, 1) := by decide +kernel
theorem dX0_firstOf_12 : decode cX0_firstOf 12 = .ok (.iaload, 1) := by decide +kernel
theorem dX0_firstOf_13 : decode cX0_firstOf 13 = .ok (.goto 4, 3) := by decide +kernel
theorem dX0_firstOf_16 : decode cX0_firstOf 16 = .ok (.iconst (-1), 1) := by decide +kernel
theorem dX0_firstOf_17 : decode cX0_firstOf 17 = .ok (.ireturn, 1) := by decide +kernel
def fX0_firstOf (n : Nat) (x1 : Int32) (w : Wd) : Option (Int32) :=
    (fX0_has n x1).bind fun z1 =>
    if z1 = 0 then
      some (-1)
    else
      (ez_ldI w 7 80 x1).bind fun y5 =>
      some y5
set_option maxHeartbeats 4000000 in
set_option maxRecDepth 100000 in
theorem tX0_firstOf_0 {p : Program} {l : Launch} {e : Env} {s : State} {m : MethodId} {args : Array Value} {below : List Frame} {meth : Method} {c : Code} {D : va_G} {a : Nat → Nat} {k : Nat → ClassId} {z : Int32} {w : Wd} (C0 : ez_C p s m args meth c cX0_firstOf (some .int) 2 RX0 (fun _ => True)) (hK : va_K D vwCl (tC k) s) (hP : va_P D vwCl (wC a k w) s.heap) : ∀ (n : Nat) (ls : Array Slot) (x1 : Int32), lv_has ls 2 [(0, .ref (a 2)), (1, .int x1)] → fX0_firstOf n x1 w = some z → W p l e ({ frames := 1, cells := 0, slots := 0, locals := 20 } : Room) s m args below meth c s.heap [] 0 0 (MQ below (ez_Ri z) args s 0 0 (fun _ => False)) (F0 m 0 ls []) := by
  intro n
  intro ls x1 hl h
  rw [fX0_firstOf] at h
  have C1 := C0
  obtain ⟨hx, hb, hr, hml, hown, hw, hlk, hA, hN⟩ := C1
  refine lv_iload_n (pc := 0) hx hb dX0_firstOf_0 rfl (lv_at hl 1 rfl) ?_
  replace h := ez_bd h
  obtain ⟨z1, e2, h⟩ := h
  refine ez_croI (r := z1) (pc := 1) (va_runS (g := F0 m 1 ls [.int x1]) (As := [.int x1]) (rest := []) ⟨hx, hb, hml, hown, hw⟩ (kX0_has l n x1 z1 e2) (va_cwS 1 hw (ez_gS mw255 mw256 mw2 mw257) rfl rfl rfl (by decide +kernel) ⟨Nat.le_of_ble_eq_true rfl, Nat.le_of_ble_eq_true rfl⟩) (ez_preRS hN) rfl rfl hl.1 rfl (lv_room (Nat.le_of_ble_eq_true rfl)) dX0_firstOf_1 ⟨Nat.le_refl _, Nat.le_refl _⟩) ?_
  refine lv_if_eq (pc := 4) (tgt := 16) hx hb dX0_firstOf_4 (by decide) (fun c3 => ?_) (fun c3 => ?_)
  · replace h := ez_it c3 h
    refine lv_iconst (v := (-1)) (pc := 16) hx hb dX0_firstOf_16 rfl ?_
    obtain rfl := ez_r1 h
    exact ez_rroI C0 dX0_firstOf_17
  · replace h := ez_if c3 h
    refine lv_aload_n (pc := 7) hx hb dX0_firstOf_7 rfl (lv_at hl 0 rfl) ?_
    refine va_get (D := D) (pc := 8) hx hb hw inX0 hown hK hP 2 rfl rfl 2 (by decide) (hw _ mw23) (fun _ h9 => h9) rfl dX0_firstOf_8 ?_
    refine lv_iload_n (pc := 11) hx hb dX0_firstOf_11 rfl (lv_at hl 1 rfl) ?_
    replace h := ez_bd h
    obtain ⟨y5, e4, h⟩ := h
    obtain ⟨e4i, e4⟩ := ez_ldIs e4
    refine va_iald (D := D) (pc := 12) hx hb hK hP 7 4 rfl rfl e4i dX0_firstOf_12 ?_
    refine lv_topi (fun y9 hy9 => ?_)
    obtain rfl : y5 = y9 := e4.trans hy9.symm
    refine lv_goto (pc := 13) (tgt := 17) hx hb dX0_firstOf_13 (by decide) ?_
    obtain rfl := ez_r1 h
    exact ez_rroI C0 dX0_firstOf_17
set_option maxRecDepth 100000 in
theorem kX0_firstOf (l : Launch) (D : va_G) (a : Nat → Nat) (k : Nat → ClassId) (n : Nat) (x1 : Int32) (w : Wd) (z : Int32) (h : fX0_firstOf n x1 w = some z) : Met l yX0_firstOf wsX0_firstOf ({ frames := 1, cells := 0, slots := 0, locals := 20 } : Room) (ez_Rc D (tC k) [.ref (a 2), .int x1] (wC a k w)) (ez_Ri z) 0 0 (fun _ => False) :=
  ez_mkR (by decide) rfl (Nat.le_of_ble_eq_true rfl) (fun p e s m below meth c ls C0 hl hP hK => tX0_firstOf_0 C0 hK hP n ls x1 (lv_sub (l := [(0, .ref (a 2)), (1, .int x1)]) hl [0, 1] rfl) h)
/-! EnclosureCalculator$Parts secondOf -/
theorem dX0_secondOf_0 : decode cX0_secondOf 0 = .ok (.iload_n 1, 1) := by decide +kernel
theorem dX0_secondOf_1 : decode cX0_secondOf 1 = .ok (.invokestatic 32, 3) := by decide +kernel
theorem dX0_secondOf_4 : decode cX0_secondOf 4 = .ok (.ifCond .eq 12, 3) := by decide +kernel
theorem dX0_secondOf_7 : decode cX0_secondOf 7 = .ok (.aload_n 0, 1) := by decide +kernel
theorem dX0_secondOf_8 : decode cX0_secondOf 8 = .ok (.getfield 21, 3) := by decide +kernel
theorem dX0_secondOf_11 : decode cX0_secondOf 11 = .ok (.iload_n 1, 1) := by decide +kernel
theorem dX0_secondOf_12 : decode cX0_secondOf 12 = .ok (.iaload, 1) := by decide +kernel
theorem dX0_secondOf_13 : decode cX0_secondOf 13 = .ok (.goto 4, 3) := by decide +kernel
theorem dX0_secondOf_16 : decode cX0_secondOf 16 = .ok (.iconst (-1), 1) := by decide +kernel
theorem dX0_secondOf_17 : decode cX0_secondOf 17 = .ok (.ireturn, 1) := by decide +kernel
def fX0_secondOf (n : Nat) (x1 : Int32) (w : Wd) : Option (Int32) :=
    (fX0_has n x1).bind fun z1 =>
    if z1 = 0 then
      some (-1)
    else
      (ez_ldI w 8 80 x1).bind fun y5 =>
      some y5
set_option maxHeartbeats 4000000 in
set_option maxRecDepth 100000 in
theorem tX0_secondOf_0 {p : Program} {l : Launch} {e : Env} {s : State} {m : MethodId} {args : Array Value} {below : List Frame} {meth : Method} {c : Code} {D : va_G} {a : Nat → Nat} {k : Nat → ClassId} {z : Int32} {w : Wd} (C0 : ez_C p s m args meth c cX0_secondOf (some .int) 2 RX0 (fun _ => True)) (hK : va_K D vwCl (tC k) s) (hP : va_P D vwCl (wC a k w) s.heap) : ∀ (n : Nat) (ls : Array Slot) (x1 : Int32), lv_has ls 2 [(0, .ref (a 2)), (1, .int x1)] → fX0_secondOf n x1 w = some z → W p l e ({ frames := 1, cells := 0, slots := 0, locals := 20 } : Room) s m args below meth c s.heap [] 0 0 (MQ below (ez_Ri z) args s 0 0 (fun _ => False)) (F0 m 0 ls []) := by
  intro n
  intro ls x1 hl h
  rw [fX0_secondOf] at h
  have C1 := C0
  obtain ⟨hx, hb, hr, hml, hown, hw, hlk, hA, hN⟩ := C1
  refine lv_iload_n (pc := 0) hx hb dX0_secondOf_0 rfl (lv_at hl 1 rfl) ?_
  replace h := ez_bd h
  obtain ⟨z1, e2, h⟩ := h
  refine ez_croI (r := z1) (pc := 1) (va_runS (g := F0 m 1 ls [.int x1]) (As := [.int x1]) (rest := []) ⟨hx, hb, hml, hown, hw⟩ (kX0_has l n x1 z1 e2) (va_cwS 1 hw (ez_gS mw255 mw256 mw2 mw257) rfl rfl rfl (by decide +kernel) ⟨Nat.le_of_ble_eq_true rfl, Nat.le_of_ble_eq_true rfl⟩) (ez_preRS hN) rfl rfl hl.1 rfl (lv_room (Nat.le_of_ble_eq_true rfl)) dX0_secondOf_1 ⟨Nat.le_refl _, Nat.le_refl _⟩) ?_
  refine lv_if_eq (pc := 4) (tgt := 16) hx hb dX0_secondOf_4 (by decide) (fun c3 => ?_) (fun c3 => ?_)
  · replace h := ez_it c3 h
    refine lv_iconst (v := (-1)) (pc := 16) hx hb dX0_secondOf_16 rfl ?_
    obtain rfl := ez_r1 h
    exact ez_rroI C0 dX0_secondOf_17
  · replace h := ez_if c3 h
    refine lv_aload_n (pc := 7) hx hb dX0_secondOf_7 rfl (lv_at hl 0 rfl) ?_
    refine va_get (D := D) (pc := 8) hx hb hw inX0 hown hK hP 2 rfl rfl 3 (by decide) (hw _ mw24) (fun _ h9 => h9) rfl dX0_secondOf_8 ?_
    refine lv_iload_n (pc := 11) hx hb dX0_secondOf_11 rfl (lv_at hl 1 rfl) ?_
    replace h := ez_bd h
    obtain ⟨y5, e4, h⟩ := h
    obtain ⟨e4i, e4⟩ := ez_ldIs e4
    refine va_iald (D := D) (pc := 12) hx hb hK hP 8 5 rfl rfl e4i dX0_secondOf_12 ?_
    refine lv_topi (fun y9 hy9 => ?_)
    obtain rfl : y5 = y9 := e4.trans hy9.symm
    refine lv_goto (pc := 13) (tgt := 17) hx hb dX0_secondOf_13 (by decide) ?_
    obtain rfl := ez_r1 h
    exact ez_rroI C0 dX0_secondOf_17
set_option maxRecDepth 100000 in
theorem kX0_secondOf (l : Launch) (D : va_G) (a : Nat → Nat) (k : Nat → ClassId) (n : Nat) (x1 : Int32) (w : Wd) (z : Int32) (h : fX0_secondOf n x1 w = some z) : Met l yX0_secondOf wsX0_secondOf ({ frames := 1, cells := 0, slots := 0, locals := 20 } : Room) (ez_Rc D (tC k) [.ref (a 2), .int x1] (wC a k w)) (ez_Ri z) 0 0 (fun _ => False) :=
  ez_mkR (by decide) rfl (Nat.le_of_ble_eq_true rfl) (fun p e s m below meth c ls C0 hl hP hK => tX0_secondOf_0 C0 hK hP n ls x1 (lv_sub (l := [(0, .ref (a 2)), (1, .int x1)]) hl [0, 1] rfl) h)
/-! EnclosureCalculator$Parts sortOf -/
theorem dX0_sortOf_0 : decode cX0_sortOf 0 = .ok (.iload_n 1, 1) := by decide +kernel
theorem dX0_sortOf_1 : decode cX0_sortOf 1 = .ok (.invokestatic 32, 3) := by decide +kernel
theorem dX0_sortOf_4 : decode cX0_sortOf 4 = .ok (.ifCond .eq 12, 3) := by decide +kernel
theorem dX0_sortOf_7 : decode cX0_sortOf 7 = .ok (.aload_n 0, 1) := by decide +kernel
theorem dX0_sortOf_8 : decode cX0_sortOf 8 = .ok (.getfield 11, 3) := by decide +kernel
theorem dX0_sortOf_11 : decode cX0_sortOf 11 = .ok (.iload_n 1, 1) := by decide +kernel
theorem dX0_sortOf_12 : decode cX0_sortOf 12 = .ok (.iaload, 1) := by decide +kernel
theorem dX0_sortOf_13 : decode cX0_sortOf 13 = .ok (.goto 4, 3) := by decide +kernel
theorem dX0_sortOf_16 : decode cX0_sortOf 16 = .ok (.iconst 0, 1) := by decide +kernel
theorem dX0_sortOf_17 : decode cX0_sortOf 17 = .ok (.ireturn, 1) := by decide +kernel
def fX0_sortOf (n : Nat) (x1 : Int32) (w : Wd) : Option (Int32) :=
    (fX0_has n x1).bind fun z1 =>
    if z1 = 0 then
      some 0
    else
      (ez_ldI w 5 80 x1).bind fun y5 =>
      some y5
set_option maxHeartbeats 4000000 in
set_option maxRecDepth 100000 in
theorem tX0_sortOf_0 {p : Program} {l : Launch} {e : Env} {s : State} {m : MethodId} {args : Array Value} {below : List Frame} {meth : Method} {c : Code} {D : va_G} {a : Nat → Nat} {k : Nat → ClassId} {z : Int32} {w : Wd} (C0 : ez_C p s m args meth c cX0_sortOf (some .int) 2 RX0 (fun _ => True)) (hK : va_K D vwCl (tC k) s) (hP : va_P D vwCl (wC a k w) s.heap) : ∀ (n : Nat) (ls : Array Slot) (x1 : Int32), lv_has ls 2 [(0, .ref (a 2)), (1, .int x1)] → fX0_sortOf n x1 w = some z → W p l e ({ frames := 1, cells := 0, slots := 0, locals := 20 } : Room) s m args below meth c s.heap [] 0 0 (MQ below (ez_Ri z) args s 0 0 (fun _ => False)) (F0 m 0 ls []) := by
  intro n
  intro ls x1 hl h
  rw [fX0_sortOf] at h
  have C1 := C0
  obtain ⟨hx, hb, hr, hml, hown, hw, hlk, hA, hN⟩ := C1
  refine lv_iload_n (pc := 0) hx hb dX0_sortOf_0 rfl (lv_at hl 1 rfl) ?_
  replace h := ez_bd h
  obtain ⟨z1, e2, h⟩ := h
  refine ez_croI (r := z1) (pc := 1) (va_runS (g := F0 m 1 ls [.int x1]) (As := [.int x1]) (rest := []) ⟨hx, hb, hml, hown, hw⟩ (kX0_has l n x1 z1 e2) (va_cwS 1 hw (ez_gS mw255 mw256 mw2 mw257) rfl rfl rfl (by decide +kernel) ⟨Nat.le_of_ble_eq_true rfl, Nat.le_of_ble_eq_true rfl⟩) (ez_preRS hN) rfl rfl hl.1 rfl (lv_room (Nat.le_of_ble_eq_true rfl)) dX0_sortOf_1 ⟨Nat.le_refl _, Nat.le_refl _⟩) ?_
  refine lv_if_eq (pc := 4) (tgt := 16) hx hb dX0_sortOf_4 (by decide) (fun c3 => ?_) (fun c3 => ?_)
  · replace h := ez_it c3 h
    refine lv_iconst (v := 0) (pc := 16) hx hb dX0_sortOf_16 rfl ?_
    obtain rfl := ez_r1 h
    exact ez_rroI C0 dX0_sortOf_17
  · replace h := ez_if c3 h
    refine lv_aload_n (pc := 7) hx hb dX0_sortOf_7 rfl (lv_at hl 0 rfl) ?_
    refine va_get (D := D) (pc := 8) hx hb hw inX0 hown hK hP 2 rfl rfl 0 (by decide) (hw _ mw21) (fun _ h9 => h9) rfl dX0_sortOf_8 ?_
    refine lv_iload_n (pc := 11) hx hb dX0_sortOf_11 rfl (lv_at hl 1 rfl) ?_
    replace h := ez_bd h
    obtain ⟨y5, e4, h⟩ := h
    obtain ⟨e4i, e4⟩ := ez_ldIs e4
    refine va_iald (D := D) (pc := 12) hx hb hK hP 5 2 rfl rfl e4i dX0_sortOf_12 ?_
    refine lv_topi (fun y9 hy9 => ?_)
    obtain rfl : y5 = y9 := e4.trans hy9.symm
    refine lv_goto (pc := 13) (tgt := 17) hx hb dX0_sortOf_13 (by decide) ?_
    obtain rfl := ez_r1 h
    exact ez_rroI C0 dX0_sortOf_17
set_option maxRecDepth 100000 in
theorem kX0_sortOf (l : Launch) (D : va_G) (a : Nat → Nat) (k : Nat → ClassId) (n : Nat) (x1 : Int32) (w : Wd) (z : Int32) (h : fX0_sortOf n x1 w = some z) : Met l yX0_sortOf wsX0_sortOf ({ frames := 1, cells := 0, slots := 0, locals := 20 } : Room) (ez_Rc D (tC k) [.ref (a 2), .int x1] (wC a k w)) (ez_Ri z) 0 0 (fun _ => False) :=
  ez_mkR (by decide) rfl (Nat.le_of_ble_eq_true rfl) (fun p e s m below meth c ls C0 hl hP hK => tX0_sortOf_0 C0 hK hP n ls x1 (lv_sub (l := [(0, .ref (a 2)), (1, .int x1)]) hl [0, 1] rfl) h)
/-! EnclosureCalculator$Parts valueOf -/
theorem dX0_valueOf_0 : decode cX0_valueOf 0 = .ok (.iload_n 1, 1) := by decide +kernel
theorem dX0_valueOf_1 : decode cX0_valueOf 1 = .ok (.invokestatic 32, 3) := by decide +kernel
theorem dX0_valueOf_4 : decode cX0_valueOf 4 = .ok (.ifCond .eq 12, 3) := by decide +kernel
theorem dX0_valueOf_7 : decode cX0_valueOf 7 = .ok (.aload_n 0, 1) := by decide +kernel
theorem dX0_valueOf_8 : decode cX0_valueOf 8 = .ok (.getfield 15, 3) := by decide +kernel
theorem dX0_valueOf_11 : decode cX0_valueOf 11 = .ok (.iload_n 1, 1) := by decide +kernel
theorem dX0_valueOf_12 : decode cX0_valueOf 12 = .ok (.iaload, 1) := by decide +kernel
theorem dX0_valueOf_13 : decode cX0_valueOf 13 = .ok (.goto 4, 3) := by decide +kernel
theorem dX0_valueOf_16 : decode cX0_valueOf 16 = .ok (.iconst 0, 1) := by decide +kernel
theorem dX0_valueOf_17 : decode cX0_valueOf 17 = .ok (.ireturn, 1) := by decide +kernel
def fX0_valueOf (n : Nat) (x1 : Int32) (w : Wd) : Option (Int32) :=
    (fX0_has n x1).bind fun z1 =>
    if z1 = 0 then
      some 0
    else
      (ez_ldI w 6 80 x1).bind fun y5 =>
      some y5
set_option maxHeartbeats 4000000 in
set_option maxRecDepth 100000 in
theorem tX0_valueOf_0 {p : Program} {l : Launch} {e : Env} {s : State} {m : MethodId} {args : Array Value} {below : List Frame} {meth : Method} {c : Code} {D : va_G} {a : Nat → Nat} {k : Nat → ClassId} {z : Int32} {w : Wd} (C0 : ez_C p s m args meth c cX0_valueOf (some .int) 2 RX0 (fun _ => True)) (hK : va_K D vwCl (tC k) s) (hP : va_P D vwCl (wC a k w) s.heap) : ∀ (n : Nat) (ls : Array Slot) (x1 : Int32), lv_has ls 2 [(0, .ref (a 2)), (1, .int x1)] → fX0_valueOf n x1 w = some z → W p l e ({ frames := 1, cells := 0, slots := 0, locals := 20 } : Room) s m args below meth c s.heap [] 0 0 (MQ below (ez_Ri z) args s 0 0 (fun _ => False)) (F0 m 0 ls []) := by
  intro n
  intro ls x1 hl h
  rw [fX0_valueOf] at h
  have C1 := C0
  obtain ⟨hx, hb, hr, hml, hown, hw, hlk, hA, hN⟩ := C1
  refine lv_iload_n (pc := 0) hx hb dX0_valueOf_0 rfl (lv_at hl 1 rfl) ?_
  replace h := ez_bd h
  obtain ⟨z1, e2, h⟩ := h
  refine ez_croI (r := z1) (pc := 1) (va_runS (g := F0 m 1 ls [.int x1]) (As := [.int x1]) (rest := []) ⟨hx, hb, hml, hown, hw⟩ (kX0_has l n x1 z1 e2) (va_cwS 1 hw (ez_gS mw255 mw256 mw2 mw257) rfl rfl rfl (by decide +kernel) ⟨Nat.le_of_ble_eq_true rfl, Nat.le_of_ble_eq_true rfl⟩) (ez_preRS hN) rfl rfl hl.1 rfl (lv_room (Nat.le_of_ble_eq_true rfl)) dX0_valueOf_1 ⟨Nat.le_refl _, Nat.le_refl _⟩) ?_
  refine lv_if_eq (pc := 4) (tgt := 16) hx hb dX0_valueOf_4 (by decide) (fun c3 => ?_) (fun c3 => ?_)
  · replace h := ez_it c3 h
    refine lv_iconst (v := 0) (pc := 16) hx hb dX0_valueOf_16 rfl ?_
    obtain rfl := ez_r1 h
    exact ez_rroI C0 dX0_valueOf_17
  · replace h := ez_if c3 h
    refine lv_aload_n (pc := 7) hx hb dX0_valueOf_7 rfl (lv_at hl 0 rfl) ?_
    refine va_get (D := D) (pc := 8) hx hb hw inX0 hown hK hP 2 rfl rfl 1 (by decide) (hw _ mw22) (fun _ h9 => h9) rfl dX0_valueOf_8 ?_
    refine lv_iload_n (pc := 11) hx hb dX0_valueOf_11 rfl (lv_at hl 1 rfl) ?_
    replace h := ez_bd h
    obtain ⟨y5, e4, h⟩ := h
    obtain ⟨e4i, e4⟩ := ez_ldIs e4
    refine va_iald (D := D) (pc := 12) hx hb hK hP 6 3 rfl rfl e4i dX0_valueOf_12 ?_
    refine lv_topi (fun y9 hy9 => ?_)
    obtain rfl : y5 = y9 := e4.trans hy9.symm
    refine lv_goto (pc := 13) (tgt := 17) hx hb dX0_valueOf_13 (by decide) ?_
    obtain rfl := ez_r1 h
    exact ez_rroI C0 dX0_valueOf_17
set_option maxRecDepth 100000 in
theorem kX0_valueOf (l : Launch) (D : va_G) (a : Nat → Nat) (k : Nat → ClassId) (n : Nat) (x1 : Int32) (w : Wd) (z : Int32) (h : fX0_valueOf n x1 w = some z) : Met l yX0_valueOf wsX0_valueOf ({ frames := 1, cells := 0, slots := 0, locals := 20 } : Room) (ez_Rc D (tC k) [.ref (a 2), .int x1] (wC a k w)) (ez_Ri z) 0 0 (fun _ => False) :=
  ez_mkR (by decide) rfl (Nat.le_of_ble_eq_true rfl) (fun p e s m below meth c ls C0 hl hP hK => tX0_valueOf_0 C0 hK hP n ls x1 (lv_sub (l := [(0, .ref (a 2)), (1, .int x1)]) hl [0, 1] rfl) h)
