def wP0 (h : Nat) (u : (Nat → Nat) × (Nat → ClassId)) : va_W := [(h, .inr (0, [.ref (u.1 5), .ref (u.1 6), .ref (u.1 7), .ref (u.1 8), .int 0])), (u.1 5, .inl (u.2 5, 80, .inl (fun _ => 0))), (u.1 6, .inl (u.2 6, 80, .inl (fun _ => 0))), (u.1 7, .inl (u.2 7, 80, .inl (fun _ => 0))), (u.1 8, .inl (u.2 8, 80, .inl (fun _ => 0)))]
def tP0 (k : Nat → ClassId) : List (ClassId × FieldType) := [(k 5, .int), (k 6, .int), (k 7, .int), (k 8, .int)]
def wS0 (h : Nat) (u : (Nat → Nat) × (Nat → ClassId)) : va_W := [(h, .inr (2, [.ref (u.1 9), .ref (u.1 10), .ref (u.1 11), .ref (u.1 12), .int 0])), (u.1 9, .inl (u.2 9, 80, .inl (fun _ => 0))), (u.1 10, .inl (u.2 10, 80, .inl (fun _ => 0))), (u.1 11, .inl (u.2 11, 80, .inr (.inl (fun _ => 0)))), (u.1 12, .inl (u.2 12, 80, .inr (.inl (fun _ => 0))))]
def tS0 (k : Nat → ClassId) : List (ClassId × FieldType) := [(k 9, .boolean), (k 10, .int), (k 11, .long), (k 12, .long)]
theorem dX0_init_0 : decode cX0_init 0 = .ok (.aload_n 0, 1) := by decide +kernel
theorem dX0_init_1 : decode cX0_init 1 = .ok (.invokespecial 3, 3) := by decide +kernel
theorem dX0_init_4 : decode cX0_init 4 = .ok (.aload_n 0, 1) := by decide +kernel
theorem dX0_init_5 : decode cX0_init 5 = .ok (.bipush 80, 2) := by decide +kernel
theorem dX0_init_7 : decode cX0_init 7 = .ok (.newarray .int, 2) := by decide +kernel
theorem dX0_init_9 : decode cX0_init 9 = .ok (.putfield 11, 3) := by decide +kernel
theorem dX0_init_12 : decode cX0_init 12 = .ok (.aload_n 0, 1) := by decide +kernel
theorem dX0_init_13 : decode cX0_init 13 = .ok (.bipush 80, 2) := by decide +kernel
theorem dX0_init_15 : decode cX0_init 15 = .ok (.newarray .int, 2) := by decide +kernel
theorem dX0_init_17 : decode cX0_init 17 = .ok (.putfield 15, 3) := by decide +kernel
theorem dX0_init_20 : decode cX0_init 20 = .ok (.aload_n 0, 1) := by decide +kernel
theorem dX0_init_21 : decode cX0_init 21 = .ok (.bipush 80, 2) := by decide +kernel
theorem dX0_init_23 : decode cX0_init 23 = .ok (.newarray .int, 2) := by decide +kernel
theorem dX0_init_25 : decode cX0_init 25 = .ok (.putfield 18, 3) := by decide +kernel
theorem dX0_init_28 : decode cX0_init 28 = .ok (.aload_n 0, 1) := by decide +kernel
theorem dX0_init_29 : decode cX0_init 29 = .ok (.bipush 80, 2) := by decide +kernel
theorem dX0_init_31 : decode cX0_init 31 = .ok (.newarray .int, 2) := by decide +kernel
theorem dX0_init_33 : decode cX0_init 33 = .ok (.putfield 21, 3) := by decide +kernel
theorem dX0_init_36 : decode cX0_init 36 = .ok (.return_, 1) := by decide +kernel
set_option maxHeartbeats 4000000 in
set_option maxRecDepth 100000 in
theorem kX0_init (l : Launch) (D : va_G) (h0 : Nat) (sz : Nat) : Met l yX0_init wsX0_init ({ frames := 1, cells := 4, slots := 320, locals := 12 } : Room) (ez_Pc D [] [.ref h0] [(h0, .inr (0, [.null, .null, .null, .null, .int 0]))] sz) (va_Qv (S := (Nat → Nat) × (Nat → ClassId)) (fun _ => True) (fun u t => va_P D vwCl (wP0 h0 u) t.heap ∧ va_K D vwCl (tP0 u.2) t ∧ va_D (va_A [(h0, .inr (0, [.null, .null, .null, .null, .int 0]))] sz) (wP0 h0 u)) (va_A [(h0, .inr (0, [.null, .null, .null, .null, .int 0]))] sz)) 4 320 (va_A [(h0, .inr (0, [.null, .null, .null, .null, .int 0]))] sz) := by
  refine ez_mk (Qf := fun A => (va_Qv (S := (Nat → Nat) × (Nat → ClassId)) (fun _ => True) (fun u t => va_P D vwCl (wP0 h0 u) t.heap ∧ va_K D vwCl (tP0 u.2) t ∧ va_D A (wP0 h0 u)) A)) (by decide) rfl (Nat.le_of_ble_eq_true rfl) (fun p e s m below meth c A ls C0 hin hl hP hD hK => ?_) sz
  replace hin : meth.name = "<init>" := hin
  replace hl : lv_has ls 1 [(0, .ref h0)] := hl
  have hS : va_S A s.heap s.heap [] := va_S.rf
  obtain ⟨hx, hb, hr, hml, hown, hw, hlk, hA, hN⟩ := C0
  replace hP : va_P D vwCl [(h0, .inr (0, [.null, .null, .null, .null, .int 0]))] s.heap := hP
  replace hD : va_D A [(h0, .inr (0, [.null, .null, .null, .null, .int 0]))] := hD
  refine lv_aload_n (pc := 0) hx hb dX0_init_0 rfl (lv_at hl 0 rfl) ?_
  refine W.objInit hx hb hown (hw _ mw20) (hw _ mw13) (hw _ mw14) rfl (by rw [hml]; exact hl.1) rfl dX0_init_1 (Nat.le_of_ble_eq_true rfl) (Nat.le_of_ble_eq_true rfl) ?_
  refine W.eq (g2 := F0 m 4 ls []) rfl ?_
  refine lv_aload_n (pc := 4) hx hb dX0_init_4 rfl (lv_at hl 0 rfl) ?_
  refine lv_bipush (v := 80) (pc := 5) hx hb dX0_init_5 rfl ?_
  refine va_newa (D := D) (atype := .int) (ty := .int) (N' := 80) (a0 := (80, .inl (fun _ => 0))) (pc := 7) hx hb (hw _ mw38) rfl hK hP hD hS hA (fun _ => rfl) (by decide) (by decide) (by decide) (Nat.le_of_ble_eq_true rfl) (Nat.le_of_ble_eq_true rfl) dX0_init_7 (fun q7 c7 H hK hP hD hS => ?_)
  replace hK : va_K D vwCl [(c7, .int)] s := hK
  replace hP : va_P D vwCl [(h0, .inr (0, [.null, .null, .null, .null, .int 0])), (q7, .inl (c7, 80, .inl (fun _ => 0)))] H := hP
  replace hD : va_D A [(h0, .inr (0, [.null, .null, .null, .null, .int 0])), (q7, .inl (c7, 80, .inl (fun _ => 0)))] := hD
  refine va_putF (D := D) (ci := 0) (v := .ref q7) (ty := .array .int) (C := RX0) (T := TX0) (N := 5) (pc := 9) hx hb hw inX0 tyX0 tyX0_ok nmX0 hown hK hP hD hS 0 rfl rfl 0 (by decide) (hw _ mw21) (fun _ h9 => h9) rfl hin rfl (by decide +kernel) rfl rfl (Nat.le_of_ble_eq_true rfl) dX0_init_9 (fun H locs hP hD hS => ?_)
  replace hP : va_P D vwCl [(h0, .inr (0, [.ref q7, .null, .null, .null, .int 0])), (q7, .inl (c7, 80, .inl (fun _ => 0)))] H := hP
  replace hD : va_D A [(h0, .inr (0, [.ref q7, .null, .null, .null, .int 0])), (q7, .inl (c7, 80, .inl (fun _ => 0)))] := hD
  refine lv_aload_n (pc := 12) hx hb dX0_init_12 rfl (lv_at hl 0 rfl) ?_
  refine lv_bipush (v := 80) (pc := 13) hx hb dX0_init_13 rfl ?_
  refine va_newa (D := D) (atype := .int) (ty := .int) (N' := 80) (a0 := (80, .inl (fun _ => 0))) (pc := 15) hx hb (hw _ mw38) rfl hK hP hD hS hA (fun _ => rfl) (by decide) (by decide) (by decide) (Nat.le_of_ble_eq_true rfl) (Nat.le_of_ble_eq_true rfl) dX0_init_15 (fun q15 c15 H hK hP hD hS => ?_)
  replace hK : va_K D vwCl [(c7, .int), (c15, .int)] s := hK
  replace hP : va_P D vwCl [(h0, .inr (0, [.ref q7, .null, .null, .null, .int 0])), (q7, .inl (c7, 80, .inl (fun _ => 0))), (q15, .inl (c15, 80, .inl (fun _ => 0)))] H := hP
  replace hD : va_D A [(h0, .inr (0, [.ref q7, .null, .null, .null, .int 0])), (q7, .inl (c7, 80, .inl (fun _ => 0))), (q15, .inl (c15, 80, .inl (fun _ => 0)))] := hD
  refine va_putF (D := D) (ci := 0) (v := .ref q15) (ty := .array .int) (C := RX0) (T := TX0) (N := 5) (pc := 17) hx hb hw inX0 tyX0 tyX0_ok nmX0 hown hK hP hD hS 0 rfl rfl 1 (by decide) (hw _ mw22) (fun _ h9 => h9) rfl hin rfl (by decide +kernel) rfl rfl (Nat.le_of_ble_eq_true rfl) dX0_init_17 (fun H locs hP hD hS => ?_)
  replace hP : va_P D vwCl [(h0, .inr (0, [.ref q7, .ref q15, .null, .null, .int 0])), (q7, .inl (c7, 80, .inl (fun _ => 0))), (q15, .inl (c15, 80, .inl (fun _ => 0)))] H := hP
  replace hD : va_D A [(h0, .inr (0, [.ref q7, .ref q15, .null, .null, .int 0])), (q7, .inl (c7, 80, .inl (fun _ => 0))), (q15, .inl (c15, 80, .inl (fun _ => 0)))] := hD
  refine lv_aload_n (pc := 20) hx hb dX0_init_20 rfl (lv_at hl 0 rfl) ?_
  refine lv_bipush (v := 80) (pc := 21) hx hb dX0_init_21 rfl ?_
  refine va_newa (D := D) (atype := .int) (ty := .int) (N' := 80) (a0 := (80, .inl (fun _ => 0))) (pc := 23) hx hb (hw _ mw38) rfl hK hP hD hS hA (fun _ => rfl) (by decide) (by decide) (by decide) (Nat.le_of_ble_eq_true rfl) (Nat.le_of_ble_eq_true rfl) dX0_init_23 (fun q23 c23 H hK hP hD hS => ?_)
  replace hK : va_K D vwCl [(c7, .int), (c15, .int), (c23, .int)] s := hK
  replace hP : va_P D vwCl [(h0, .inr (0, [.ref q7, .ref q15, .null, .null, .int 0])), (q7, .inl (c7, 80, .inl (fun _ => 0))), (q15, .inl (c15, 80, .inl (fun _ => 0))), (q23, .inl (c23, 80, .inl (fun _ => 0)))] H := hP
  replace hD : va_D A [(h0, .inr (0, [.ref q7, .ref q15, .null, .null, .int 0])), (q7, .inl (c7, 80, .inl (fun _ => 0))), (q15, .inl (c15, 80, .inl (fun _ => 0))), (q23, .inl (c23, 80, .inl (fun _ => 0)))] := hD
  refine va_putF (D := D) (ci := 0) (v := .ref q23) (ty := .array .int) (C := RX0) (T := TX0) (N := 5) (pc := 25) hx hb hw inX0 tyX0 tyX0_ok nmX0 hown hK hP hD hS 0 rfl rfl 2 (by decide) (hw _ mw23) (fun _ h9 => h9) rfl hin rfl (by decide +kernel) rfl rfl (Nat.le_of_ble_eq_true rfl) dX0_init_25 (fun H locs hP hD hS => ?_)
  replace hP : va_P D vwCl [(h0, .inr (0, [.ref q7, .ref q15, .ref q23, .null, .int 0])), (q7, .inl (c7, 80, .inl (fun _ => 0))), (q15, .inl (c15, 80, .inl (fun _ => 0))), (q23, .inl (c23, 80, .inl (fun _ => 0)))] H := hP
  replace hD : va_D A [(h0, .inr (0, [.ref q7, .ref q15, .ref q23, .null, .int 0])), (q7, .inl (c7, 80, .inl (fun _ => 0))), (q15, .inl (c15, 80, .inl (fun _ => 0))), (q23, .inl (c23, 80, .inl (fun _ => 0)))] := hD
  refine lv_aload_n (pc := 28) hx hb dX0_init_28 rfl (lv_at hl 0 rfl) ?_
  refine lv_bipush (v := 80) (pc := 29) hx hb dX0_init_29 rfl ?_
  refine va_newa (D := D) (atype := .int) (ty := .int) (N' := 80) (a0 := (80, .inl (fun _ => 0))) (pc := 31) hx hb (hw _ mw38) rfl hK hP hD hS hA (fun _ => rfl) (by decide) (by decide) (by decide) (Nat.le_of_ble_eq_true rfl) (Nat.le_of_ble_eq_true rfl) dX0_init_31 (fun q31 c31 H hK hP hD hS => ?_)
  replace hK : va_K D vwCl [(c7, .int), (c15, .int), (c23, .int), (c31, .int)] s := hK
  replace hP : va_P D vwCl [(h0, .inr (0, [.ref q7, .ref q15, .ref q23, .null, .int 0])), (q7, .inl (c7, 80, .inl (fun _ => 0))), (q15, .inl (c15, 80, .inl (fun _ => 0))), (q23, .inl (c23, 80, .inl (fun _ => 0))), (q31, .inl (c31, 80, .inl (fun _ => 0)))] H := hP
  replace hD : va_D A [(h0, .inr (0, [.ref q7, .ref q15, .ref q23, .null, .int 0])), (q7, .inl (c7, 80, .inl (fun _ => 0))), (q15, .inl (c15, 80, .inl (fun _ => 0))), (q23, .inl (c23, 80, .inl (fun _ => 0))), (q31, .inl (c31, 80, .inl (fun _ => 0)))] := hD
  refine va_putF (D := D) (ci := 0) (v := .ref q31) (ty := .array .int) (C := RX0) (T := TX0) (N := 5) (pc := 33) hx hb hw inX0 tyX0 tyX0_ok nmX0 hown hK hP hD hS 0 rfl rfl 3 (by decide) (hw _ mw24) (fun _ h9 => h9) rfl hin rfl (by decide +kernel) rfl rfl (Nat.le_of_ble_eq_true rfl) dX0_init_33 (fun H locs hP hD hS => ?_)
  replace hP : va_P D vwCl [(h0, .inr (0, [.ref q7, .ref q15, .ref q23, .ref q31, .int 0])), (q7, .inl (c7, 80, .inl (fun _ => 0))), (q15, .inl (c15, 80, .inl (fun _ => 0))), (q23, .inl (c23, 80, .inl (fun _ => 0))), (q31, .inl (c31, 80, .inl (fun _ => 0)))] H := hP
  replace hD : va_D A [(h0, .inr (0, [.ref q7, .ref q15, .ref q23, .ref q31, .int 0])), (q7, .inl (c7, 80, .inl (fun _ => 0))), (q15, .inl (c15, 80, .inl (fun _ => 0))), (q23, .inl (c23, 80, .inl (fun _ => 0))), (q31, .inl (c31, 80, .inl (fun _ => 0)))] := hD
  exact W.vret hx hb hr (fun t ht hW => ⟨⟨((ez_a [0, 0, 0, 0, 0, q7, q15, q23, q31]), (ez_k [0, 0, 0, 0, 0, c7, c15, c23, c31])), rfl, trivial, by rw [ht]; exact hP, va_K.moved hW.alike hK, hD⟩, hS.F ht⟩) hS.2.2 dX0_init_36
theorem dX2_init_0 : decode cX2_init 0 = .ok (.aload_n 0, 1) := by decide +kernel
theorem dX2_init_1 : decode cX2_init 1 = .ok (.invokespecial 1, 3) := by decide +kernel
theorem dX2_init_4 : decode cX2_init 4 = .ok (.aload_n 0, 1) := by decide +kernel
theorem dX2_init_5 : decode cX2_init 5 = .ok (.bipush 80, 2) := by decide +kernel
theorem dX2_init_7 : decode cX2_init 7 = .ok (.newarray .boolean, 2) := by decide +kernel
theorem dX2_init_9 : decode cX2_init 9 = .ok (.putfield 9, 3) := by decide +kernel
theorem dX2_init_12 : decode cX2_init 12 = .ok (.aload_n 0, 1) := by decide +kernel
theorem dX2_init_13 : decode cX2_init 13 = .ok (.bipush 80, 2) := by decide +kernel
theorem dX2_init_15 : decode cX2_init 15 = .ok (.newarray .int, 2) := by decide +kernel
theorem dX2_init_17 : decode cX2_init 17 = .ok (.putfield 15, 3) := by decide +kernel
theorem dX2_init_20 : decode cX2_init 20 = .ok (.aload_n 0, 1) := by decide +kernel
theorem dX2_init_21 : decode cX2_init 21 = .ok (.bipush 80, 2) := by decide +kernel
theorem dX2_init_23 : decode cX2_init 23 = .ok (.newarray .long, 2) := by decide +kernel
theorem dX2_init_25 : decode cX2_init 25 = .ok (.putfield 19, 3) := by decide +kernel
theorem dX2_init_28 : decode cX2_init 28 = .ok (.aload_n 0, 1) := by decide +kernel
theorem dX2_init_29 : decode cX2_init 29 = .ok (.bipush 80, 2) := by decide +kernel
theorem dX2_init_31 : decode cX2_init 31 = .ok (.newarray .long, 2) := by decide +kernel
theorem dX2_init_33 : decode cX2_init 33 = .ok (.putfield 23, 3) := by decide +kernel
theorem dX2_init_36 : decode cX2_init 36 = .ok (.return_, 1) := by decide +kernel
set_option maxHeartbeats 4000000 in
set_option maxRecDepth 100000 in
theorem kX2_init (l : Launch) (D : va_G) (h0 : Nat) (sz : Nat) : Met l yX2_init wsX2_init ({ frames := 1, cells := 4, slots := 320, locals := 12 } : Room) (ez_Pc D [] [.ref h0] [(h0, .inr (2, [.null, .null, .null, .null, .int 0]))] sz) (va_Qv (S := (Nat → Nat) × (Nat → ClassId)) (fun _ => True) (fun u t => va_P D vwCl (wS0 h0 u) t.heap ∧ va_K D vwCl (tS0 u.2) t ∧ va_D (va_A [(h0, .inr (2, [.null, .null, .null, .null, .int 0]))] sz) (wS0 h0 u)) (va_A [(h0, .inr (2, [.null, .null, .null, .null, .int 0]))] sz)) 4 320 (va_A [(h0, .inr (2, [.null, .null, .null, .null, .int 0]))] sz) := by
  refine ez_mk (Qf := fun A => (va_Qv (S := (Nat → Nat) × (Nat → ClassId)) (fun _ => True) (fun u t => va_P D vwCl (wS0 h0 u) t.heap ∧ va_K D vwCl (tS0 u.2) t ∧ va_D A (wS0 h0 u)) A)) (by decide) rfl (Nat.le_of_ble_eq_true rfl) (fun p e s m below meth c A ls C0 hin hl hP hD hK => ?_) sz
  replace hin : meth.name = "<init>" := hin
  replace hl : lv_has ls 1 [(0, .ref h0)] := hl
  have hS : va_S A s.heap s.heap [] := va_S.rf
  obtain ⟨hx, hb, hr, hml, hown, hw, hlk, hA, hN⟩ := C0
  replace hP : va_P D vwCl [(h0, .inr (2, [.null, .null, .null, .null, .int 0]))] s.heap := hP
  replace hD : va_D A [(h0, .inr (2, [.null, .null, .null, .null, .int 0]))] := hD
  refine lv_aload_n (pc := 0) hx hb dX2_init_0 rfl (lv_at hl 0 rfl) ?_
  refine W.objInit hx hb hown (hw _ mw44) (hw _ mw13) (hw _ mw14) rfl (by rw [hml]; exact hl.1) rfl dX2_init_1 (Nat.le_of_ble_eq_true rfl) (Nat.le_of_ble_eq_true rfl) ?_
  refine W.eq (g2 := F0 m 4 ls []) rfl ?_
  refine lv_aload_n (pc := 4) hx hb dX2_init_4 rfl (lv_at hl 0 rfl) ?_
  refine lv_bipush (v := 80) (pc := 5) hx hb dX2_init_5 rfl ?_
  refine va_newa (D := D) (atype := .boolean) (ty := .boolean) (N' := 80) (a0 := (80, .inl (fun _ => 0))) (pc := 7) hx hb (hw _ mw61) rfl hK hP hD hS hA (fun _ => rfl) (by decide) (by decide) (by decide) (Nat.le_of_ble_eq_true rfl) (Nat.le_of_ble_eq_true rfl) dX2_init_7 (fun q7 c7 H hK hP hD hS => ?_)
  replace hK : va_K D vwCl [(c7, .boolean)] s := hK
  replace hP : va_P D vwCl [(h0, .inr (2, [.null, .null, .null, .null, .int 0])), (q7, .inl (c7, 80, .inl (fun _ => 0)))] H := hP
  replace hD : va_D A [(h0, .inr (2, [.null, .null, .null, .null, .int 0])), (q7, .inl (c7, 80, .inl (fun _ => 0)))] := hD
  refine va_putF (D := D) (ci := 2) (v := .ref q7) (ty := .array .boolean) (C := RX2) (T := TX2) (N := 5) (pc := 9) hx hb hw inX2 tyX2 tyX2_ok nmX2 hown hK hP hD hS 0 rfl rfl 0 (by decide) (hw _ mw45) (fun _ h9 => h9) rfl hin rfl (by decide +kernel) rfl rfl (Nat.le_of_ble_eq_true rfl) dX2_init_9 (fun H locs hP hD hS => ?_)
  replace hP : va_P D vwCl [(h0, .inr (2, [.ref q7, .null, .null, .null, .int 0])), (q7, .inl (c7, 80, .inl (fun _ => 0)))] H := hP
  replace hD : va_D A [(h0, .inr (2, [.ref q7, .null, .null, .null, .int 0])), (q7, .inl (c7, 80, .inl (fun _ => 0)))] := hD
  refine lv_aload_n (pc := 12) hx hb dX2_init_12 rfl (lv_at hl 0 rfl) ?_
  refine lv_bipush (v := 80) (pc := 13) hx hb dX2_init_13 rfl ?_
  refine va_newa (D := D) (atype := .int) (ty := .int) (N' := 80) (a0 := (80, .inl (fun _ => 0))) (pc := 15) hx hb (hw _ mw38) rfl hK hP hD hS hA (fun _ => rfl) (by decide) (by decide) (by decide) (Nat.le_of_ble_eq_true rfl) (Nat.le_of_ble_eq_true rfl) dX2_init_15 (fun q15 c15 H hK hP hD hS => ?_)
  replace hK : va_K D vwCl [(c7, .boolean), (c15, .int)] s := hK
  replace hP : va_P D vwCl [(h0, .inr (2, [.ref q7, .null, .null, .null, .int 0])), (q7, .inl (c7, 80, .inl (fun _ => 0))), (q15, .inl (c15, 80, .inl (fun _ => 0)))] H := hP
  replace hD : va_D A [(h0, .inr (2, [.ref q7, .null, .null, .null, .int 0])), (q7, .inl (c7, 80, .inl (fun _ => 0))), (q15, .inl (c15, 80, .inl (fun _ => 0)))] := hD
  refine va_putF (D := D) (ci := 2) (v := .ref q15) (ty := .array .int) (C := RX2) (T := TX2) (N := 5) (pc := 17) hx hb hw inX2 tyX2 tyX2_ok nmX2 hown hK hP hD hS 0 rfl rfl 1 (by decide) (hw _ mw46) (fun _ h9 => h9) rfl hin rfl (by decide +kernel) rfl rfl (Nat.le_of_ble_eq_true rfl) dX2_init_17 (fun H locs hP hD hS => ?_)
  replace hP : va_P D vwCl [(h0, .inr (2, [.ref q7, .ref q15, .null, .null, .int 0])), (q7, .inl (c7, 80, .inl (fun _ => 0))), (q15, .inl (c15, 80, .inl (fun _ => 0)))] H := hP
  replace hD : va_D A [(h0, .inr (2, [.ref q7, .ref q15, .null, .null, .int 0])), (q7, .inl (c7, 80, .inl (fun _ => 0))), (q15, .inl (c15, 80, .inl (fun _ => 0)))] := hD
  refine lv_aload_n (pc := 20) hx hb dX2_init_20 rfl (lv_at hl 0 rfl) ?_
  refine lv_bipush (v := 80) (pc := 21) hx hb dX2_init_21 rfl ?_
  refine va_newa (D := D) (atype := .long) (ty := .long) (N' := 80) (a0 := (80, .inr (.inl (fun _ => 0)))) (pc := 23) hx hb (hw _ mw62) rfl hK hP hD hS hA (fun _ => rfl) (by decide) (by decide) (by decide) (Nat.le_of_ble_eq_true rfl) (Nat.le_of_ble_eq_true rfl) dX2_init_23 (fun q23 c23 H hK hP hD hS => ?_)
  replace hK : va_K D vwCl [(c7, .boolean), (c15, .int), (c23, .long)] s := hK
  replace hP : va_P D vwCl [(h0, .inr (2, [.ref q7, .ref q15, .null, .null, .int 0])), (q7, .inl (c7, 80, .inl (fun _ => 0))), (q15, .inl (c15, 80, .inl (fun _ => 0))), (q23, .inl (c23, 80, .inr (.inl (fun _ => 0))))] H := hP
  replace hD : va_D A [(h0, .inr (2, [.ref q7, .ref q15, .null, .null, .int 0])), (q7, .inl (c7, 80, .inl (fun _ => 0))), (q15, .inl (c15, 80, .inl (fun _ => 0))), (q23, .inl (c23, 80, .inr (.inl (fun _ => 0))))] := hD
  refine va_putF (D := D) (ci := 2) (v := .ref q23) (ty := .array .long) (C := RX2) (T := TX2) (N := 5) (pc := 25) hx hb hw inX2 tyX2 tyX2_ok nmX2 hown hK hP hD hS 0 rfl rfl 2 (by decide) (hw _ mw47) (fun _ h9 => h9) rfl hin rfl (by decide +kernel) rfl rfl (Nat.le_of_ble_eq_true rfl) dX2_init_25 (fun H locs hP hD hS => ?_)
  replace hP : va_P D vwCl [(h0, .inr (2, [.ref q7, .ref q15, .ref q23, .null, .int 0])), (q7, .inl (c7, 80, .inl (fun _ => 0))), (q15, .inl (c15, 80, .inl (fun _ => 0))), (q23, .inl (c23, 80, .inr (.inl (fun _ => 0))))] H := hP
  replace hD : va_D A [(h0, .inr (2, [.ref q7, .ref q15, .ref q23, .null, .int 0])), (q7, .inl (c7, 80, .inl (fun _ => 0))), (q15, .inl (c15, 80, .inl (fun _ => 0))), (q23, .inl (c23, 80, .inr (.inl (fun _ => 0))))] := hD
  refine lv_aload_n (pc := 28) hx hb dX2_init_28 rfl (lv_at hl 0 rfl) ?_
  refine lv_bipush (v := 80) (pc := 29) hx hb dX2_init_29 rfl ?_
  refine va_newa (D := D) (atype := .long) (ty := .long) (N' := 80) (a0 := (80, .inr (.inl (fun _ => 0)))) (pc := 31) hx hb (hw _ mw62) rfl hK hP hD hS hA (fun _ => rfl) (by decide) (by decide) (by decide) (Nat.le_of_ble_eq_true rfl) (Nat.le_of_ble_eq_true rfl) dX2_init_31 (fun q31 c31 H hK hP hD hS => ?_)
  replace hK : va_K D vwCl [(c7, .boolean), (c15, .int), (c23, .long), (c31, .long)] s := hK
  replace hP : va_P D vwCl [(h0, .inr (2, [.ref q7, .ref q15, .ref q23, .null, .int 0])), (q7, .inl (c7, 80, .inl (fun _ => 0))), (q15, .inl (c15, 80, .inl (fun _ => 0))), (q23, .inl (c23, 80, .inr (.inl (fun _ => 0)))), (q31, .inl (c31, 80, .inr (.inl (fun _ => 0))))] H := hP
  replace hD : va_D A [(h0, .inr (2, [.ref q7, .ref q15, .ref q23, .null, .int 0])), (q7, .inl (c7, 80, .inl (fun _ => 0))), (q15, .inl (c15, 80, .inl (fun _ => 0))), (q23, .inl (c23, 80, .inr (.inl (fun _ => 0)))), (q31, .inl (c31, 80, .inr (.inl (fun _ => 0))))] := hD
  refine va_putF (D := D) (ci := 2) (v := .ref q31) (ty := .array .long) (C := RX2) (T := TX2) (N := 5) (pc := 33) hx hb hw inX2 tyX2 tyX2_ok nmX2 hown hK hP hD hS 0 rfl rfl 3 (by decide) (hw _ mw48) (fun _ h9 => h9) rfl hin rfl (by decide +kernel) rfl rfl (Nat.le_of_ble_eq_true rfl) dX2_init_33 (fun H locs hP hD hS => ?_)
  replace hP : va_P D vwCl [(h0, .inr (2, [.ref q7, .ref q15, .ref q23, .ref q31, .int 0])), (q7, .inl (c7, 80, .inl (fun _ => 0))), (q15, .inl (c15, 80, .inl (fun _ => 0))), (q23, .inl (c23, 80, .inr (.inl (fun _ => 0)))), (q31, .inl (c31, 80, .inr (.inl (fun _ => 0))))] H := hP
  replace hD : va_D A [(h0, .inr (2, [.ref q7, .ref q15, .ref q23, .ref q31, .int 0])), (q7, .inl (c7, 80, .inl (fun _ => 0))), (q15, .inl (c15, 80, .inl (fun _ => 0))), (q23, .inl (c23, 80, .inr (.inl (fun _ => 0)))), (q31, .inl (c31, 80, .inr (.inl (fun _ => 0))))] := hD
  exact W.vret hx hb hr (fun t ht hW => ⟨⟨((ez_a [0, 0, 0, 0, 0, 0, 0, 0, 0, q7, q15, q23, q31]), (ez_k [0, 0, 0, 0, 0, 0, 0, 0, 0, c7, c15, c23, c31])), rfl, trivial, by rw [ht]; exact hP, va_K.moved hW.alike hK, hD⟩, hS.F ht⟩) hS.2.2 dX2_init_36
theorem dX3_init_0 : decode cX3_init 0 = .ok (.aload_n 0, 1) := by decide +kernel
theorem dX3_init_1 : decode cX3_init 1 = .ok (.invokespecial 1, 3) := by decide +kernel
theorem dX3_init_4 : decode cX3_init 4 = .ok (.aload_n 0, 1) := by decide +kernel
theorem dX3_init_5 : decode cX3_init 5 = .ok (.bipush 20, 2) := by decide +kernel
theorem dX3_init_7 : decode cX3_init 7 = .ok (.newarray .char, 2) := by decide +kernel
theorem dX3_init_9 : decode cX3_init 9 = .ok (.putfield 9, 3) := by decide +kernel
theorem dX3_init_12 : decode cX3_init 12 = .ok (.aload_n 0, 1) := by decide +kernel
theorem dX3_init_13 : decode cX3_init 13 = .ok (.new 13, 3) := by decide +kernel
theorem dX3_init_16 : decode cX3_init 16 = .ok (.dup, 1) := by decide +kernel
theorem dX3_init_17 : decode cX3_init 17 = .ok (.invokespecial 15, 3) := by decide +kernel
theorem dX3_init_20 : decode cX3_init 20 = .ok (.putfield 16, 3) := by decide +kernel
theorem dX3_init_23 : decode cX3_init 23 = .ok (.aload_n 0, 1) := by decide +kernel
theorem dX3_init_24 : decode cX3_init 24 = .ok (.bipush 8, 2) := by decide +kernel
theorem dX3_init_26 : decode cX3_init 26 = .ok (.newarray .int, 2) := by decide +kernel
theorem dX3_init_28 : decode cX3_init 28 = .ok (.putfield 20, 3) := by decide +kernel
theorem dX3_init_31 : decode cX3_init 31 = .ok (.aload_n 0, 1) := by decide +kernel
theorem dX3_init_32 : decode cX3_init 32 = .ok (.new 24, 3) := by decide +kernel
theorem dX3_init_35 : decode cX3_init 35 = .ok (.dup, 1) := by decide +kernel
theorem dX3_init_36 : decode cX3_init 36 = .ok (.invokespecial 26, 3) := by decide +kernel
theorem dX3_init_39 : decode cX3_init 39 = .ok (.putfield 27, 3) := by decide +kernel
theorem dX3_init_42 : decode cX3_init 42 = .ok (.aload_n 0, 1) := by decide +kernel
theorem dX3_init_43 : decode cX3_init 43 = .ok (.invokevirtual 31, 3) := by decide +kernel
theorem dX3_init_46 : decode cX3_init 46 = .ok (.return_, 1) := by decide +kernel
set_option maxHeartbeats 4000000 in
set_option maxRecDepth 100000 in
theorem kX3_init (l : Launch) (D : va_G) (h0 : Nat) (n : Nat) (z : Wd) (h : fX3_forgetAll n ez_w0 = some z) (sz : Nat) : Met l yX3_init wsX3_init ({ frames := 2, cells := 12, slots := 678, locals := 200 } : Room) (ez_Pc D [] [.ref h0] [(h0, .inr (3, [.null, .int 0, .null, .null, .null, .int 0, .int 0, .long 0, .long 0]))] sz) (va_Qv (S := (Nat → Nat) × (Nat → ClassId)) (fun u => u.1 0 = h0) (fun u t => va_P D vwCl (wC u.1 u.2 z) t.heap ∧ va_K D vwCl (tC u.2) t ∧ va_D (va_A [(h0, .inr (3, [.null, .int 0, .null, .null, .null, .int 0, .int 0, .long 0, .long 0]))] sz) (wC u.1 u.2 z)) (va_A [(h0, .inr (3, [.null, .int 0, .null, .null, .null, .int 0, .int 0, .long 0, .long 0]))] sz)) 12 678 (va_A [(h0, .inr (3, [.null, .int 0, .null, .null, .null, .int 0, .int 0, .long 0, .long 0]))] sz) := by
  refine ez_mk (Qf := fun A => (va_Qv (S := (Nat → Nat) × (Nat → ClassId)) (fun u => u.1 0 = h0) (fun u t => va_P D vwCl (wC u.1 u.2 z) t.heap ∧ va_K D vwCl (tC u.2) t ∧ va_D A (wC u.1 u.2 z)) A)) (by decide) rfl (Nat.le_of_ble_eq_true rfl) (fun p e s m below meth c A ls C0 hin hl hP hD hK => ?_) sz
  replace hin : meth.name = "<init>" := hin
  replace hl : lv_has ls 1 [(0, .ref h0)] := hl
  have hS : va_S A s.heap s.heap [] := va_S.rf
  obtain ⟨hx, hb, hr, hml, hown, hw, hlk, hA, hN⟩ := C0
  replace hP : va_P D vwCl [(h0, .inr (3, [.null, .int 0, .null, .null, .null, .int 0, .int 0, .long 0, .long 0]))] s.heap := hP
  replace hD : va_D A [(h0, .inr (3, [.null, .int 0, .null, .null, .null, .int 0, .int 0, .long 0, .long 0]))] := hD
  refine lv_aload_n (pc := 0) hx hb dX3_init_0 rfl (lv_at hl 0 rfl) ?_
  refine W.objInit hx hb hown (hw _ mw12) (hw _ mw13) (hw _ mw14) rfl (by rw [hml]; exact hl.1) rfl dX3_init_1 (Nat.le_of_ble_eq_true rfl) (Nat.le_of_ble_eq_true rfl) ?_
  refine W.eq (g2 := F0 m 4 ls []) rfl ?_
  refine lv_aload_n (pc := 4) hx hb dX3_init_4 rfl (lv_at hl 0 rfl) ?_
  refine lv_bipush (v := 20) (pc := 5) hx hb dX3_init_5 rfl ?_
  refine va_newa (D := D) (atype := .char) (ty := .char) (N' := 20) (a0 := (20, .inl (fun _ => 0))) (pc := 7) hx hb (hw _ mw37) rfl hK hP hD hS hA (fun _ => rfl) (by decide) (by decide) (by decide) (Nat.le_of_ble_eq_true rfl) (Nat.le_of_ble_eq_true rfl) dX3_init_7 (fun q7 c7 H hK hP hD hS => ?_)
  replace hK : va_K D vwCl [(c7, .char)] s := hK
  replace hP : va_P D vwCl [(h0, .inr (3, [.null, .int 0, .null, .null, .null, .int 0, .int 0, .long 0, .long 0])), (q7, .inl (c7, 20, .inl (fun _ => 0)))] H := hP
  replace hD : va_D A [(h0, .inr (3, [.null, .int 0, .null, .null, .null, .int 0, .int 0, .long 0, .long 0])), (q7, .inl (c7, 20, .inl (fun _ => 0)))] := hD
  refine va_putF (D := D) (ci := 3) (v := .ref q7) (ty := .array .char) (C := RX3) (T := TX3) (N := 9) (pc := 9) hx hb hw inX3 tyX3 tyX3_ok nmX3 hown hK hP hD hS 0 rfl rfl 0 (by decide) (hw _ mw75) (fun _ h9 => h9) rfl hin rfl (by decide +kernel) rfl rfl (Nat.le_of_ble_eq_true rfl) dX3_init_9 (fun H locs hP hD hS => ?_)
  replace hP : va_P D vwCl [(h0, .inr (3, [.ref q7, .int 0, .null, .null, .null, .int 0, .int 0, .long 0, .long 0])), (q7, .inl (c7, 20, .inl (fun _ => 0)))] H := hP
  replace hD : va_D A [(h0, .inr (3, [.ref q7, .int 0, .null, .null, .null, .int 0, .int 0, .long 0, .long 0])), (q7, .inl (c7, 20, .inl (fun _ => 0)))] := hD
  refine lv_aload_n (pc := 12) hx hb dX3_init_12 rfl (lv_at hl 0 rfl) ?_
  refine va_new (ci := 0) (fs := [.null, .null, .null, .null, .int 0]) (C := RX0) (T := TX0) (N := 5) (pc := 13) hx hb hw inX0 tyX0 tyX0_ok hown (hw _ mw15) (hw _ mw16) (hw _ mw2) hK hP hD hS hA rfl (fun j hj => by rcases (show j = 0 ∨ j = 1 ∨ j = 2 ∨ j = 3 ∨ j = 4 by omega) with rfl | rfl | rfl | rfl | rfl <;> rfl) (Nat.le_of_ble_eq_true rfl) (Nat.le_of_ble_eq_true rfl) dX3_init_13 (fun q13 H hP hD hS => ?_)
  replace hP : va_P D vwCl [(h0, .inr (3, [.ref q7, .int 0, .null, .null, .null, .int 0, .int 0, .long 0, .long 0])), (q7, .inl (c7, 20, .inl (fun _ => 0))), (q13, .inr (0, [.null, .null, .null, .null, .int 0]))] H := hP
  replace hD : va_D A [(h0, .inr (3, [.ref q7, .int 0, .null, .null, .null, .int 0, .int 0, .long 0, .long 0])), (q7, .inl (c7, 20, .inl (fun _ => 0))), (q13, .inr (0, [.null, .null, .null, .null, .int 0]))] := hD
  refine lv_dup (pc := 16) hx hb dX3_init_16 rfl ?_
  have hF := ez_free (wr := [(h0, .inr (3, [.ref q7, .int 0, .null, .null, .null, .int 0, .int 0, .long 0, .long 0])), (q7, .inl (c7, 20, .inl (fun _ => 0)))]) (wl := [(q13, .inr (0, [.null, .null, .null, .null, .int 0]))]) hD hS hA
  refine va_callv (va_runIN (g := F0 m 17 ls [.ref q13, .ref q13, .ref h0]) (As := []) (rest := [.ref q13, .ref h0]) ⟨hx, hb, hml, hown, hw⟩ (kX0_init l D q13 H.size) ⟨va_cnB 0 hw (ez_gN mw19) rfl rfl rfl (ez_N.n1 hN) (hw _ mw2) (by decide +kernel) ⟨Nat.le_of_ble_eq_true rfl, Nat.le_of_ble_eq_true rfl⟩, rfl, (hw _ mw18)⟩ (ez_preS (wr := [(h0, .inr (3, [.ref q7, .int 0, .null, .null, .null, .int 0, .int 0, .long 0, .long 0])), (q7, .inl (c7, 20, .inl (fun _ => 0)))]) (wl := [(q13, .inr (0, [.null, .null, .null, .null, .int 0]))]) hP hD (hK.sub (tys' := []) [] rfl) hN) rfl rfl hl.1 rfl (lv_room (Nat.le_of_ble_eq_true rfl)) dX3_init_17 ⟨Nat.le_of_ble_eq_true rfl, Nat.le_of_ble_eq_true rfl⟩) hS (fun q _ h => hF q h) hF (fun u17 t H1 locs ht hvm hp hB hz hk hS => ?_)
  obtain ⟨hP1, hK1, hD1⟩ := hB
  rw [ht] at hP1
  replace hK1 := va_K.moved hvm.symm hK1
  obtain ⟨hP2, hD2⟩ := ez_join (wr := [(h0, .inr (3, [.ref q7, .int 0, .null, .null, .null, .int 0, .int 0, .long 0, .long 0])), (q7, .inl (c7, 20, .inl (fun _ => 0)))]) (wl := [(q13, .inr (0, [.null, .null, .null, .null, .int 0]))]) hP hD hk hF hP1 hD1
  clear hP hD hP1 hD1
  replace hK := hK.app hK1
  have hP : va_P D vwCl [(h0, .inr (3, [.ref q7, .int 0, .null, .null, .null, .int 0, .int 0, .long 0, .long 0])), (q7, .inl (c7, 20, .inl (fun _ => 0))), (q13, .inr (0, [.ref (u17.1 5), .ref (u17.1 6), .ref (u17.1 7), .ref (u17.1 8), .int 0])), (u17.1 5, .inl (u17.2 5, 80, .inl (fun _ => 0))), (u17.1 6, .inl (u17.2 6, 80, .inl (fun _ => 0))), (u17.1 7, .inl (u17.2 7, 80, .inl (fun _ => 0))), (u17.1 8, .inl (u17.2 8, 80, .inl (fun _ => 0)))] H1 := hP2
  have hD : va_D A [(h0, .inr (3, [.ref q7, .int 0, .null, .null, .null, .int 0, .int 0, .long 0, .long 0])), (q7, .inl (c7, 20, .inl (fun _ => 0))), (q13, .inr (0, [.ref (u17.1 5), .ref (u17.1 6), .ref (u17.1 7), .ref (u17.1 8), .int 0])), (u17.1 5, .inl (u17.2 5, 80, .inl (fun _ => 0))), (u17.1 6, .inl (u17.2 6, 80, .inl (fun _ => 0))), (u17.1 7, .inl (u17.2 7, 80, .inl (fun _ => 0))), (u17.1 8, .inl (u17.2 8, 80, .inl (fun _ => 0)))] := hD2
  replace hK : va_K D vwCl [(c7, .char), (u17.2 5, .int), (u17.2 6, .int), (u17.2 7, .int), (u17.2 8, .int)] s := hK
  clear hP2 hD2 hK1 hk hz ht hvm hF
  generalize H1 = H at hP hS ⊢
  refine va_putF (D := D) (ci := 3) (v := .ref q13) (ty := .object "EnclosureCalculator$Parts") (C := RX3) (T := TX3) (N := 9) (pc := 20) hx hb hw inX3 tyX3 tyX3_ok nmX3 hown hK hP hD hS 0 rfl rfl 2 (by decide) (hw _ mw77) (fun _ h9 => h9) rfl hin rfl (by decide +kernel) rfl rfl (Nat.le_of_ble_eq_true rfl) dX3_init_20 (fun H locs hP hD hS => ?_)
  replace hP : va_P D vwCl [(h0, .inr (3, [.ref q7, .int 0, .ref q13, .null, .null, .int 0, .int 0, .long 0, .long 0])), (q7, .inl (c7, 20, .inl (fun _ => 0))), (q13, .inr (0, [.ref (u17.1 5), .ref (u17.1 6), .ref (u17.1 7), .ref (u17.1 8), .int 0])), (u17.1 5, .inl (u17.2 5, 80, .inl (fun _ => 0))), (u17.1 6, .inl (u17.2 6, 80, .inl (fun _ => 0))), (u17.1 7, .inl (u17.2 7, 80, .inl (fun _ => 0))), (u17.1 8, .inl (u17.2 8, 80, .inl (fun _ => 0)))] H := hP
  replace hD : va_D A [(h0, .inr (3, [.ref q7, .int 0, .ref q13, .null, .null, .int 0, .int 0, .long 0, .long 0])), (q7, .inl (c7, 20, .inl (fun _ => 0))), (q13, .inr (0, [.ref (u17.1 5), .ref (u17.1 6), .ref (u17.1 7), .ref (u17.1 8), .int 0])), (u17.1 5, .inl (u17.2 5, 80, .inl (fun _ => 0))), (u17.1 6, .inl (u17.2 6, 80, .inl (fun _ => 0))), (u17.1 7, .inl (u17.2 7, 80, .inl (fun _ => 0))), (u17.1 8, .inl (u17.2 8, 80, .inl (fun _ => 0)))] := hD
  refine lv_aload_n (pc := 23) hx hb dX3_init_23 rfl (lv_at hl 0 rfl) ?_
  refine lv_bipush (v := 8) (pc := 24) hx hb dX3_init_24 rfl ?_
  refine va_newa (D := D) (atype := .int) (ty := .int) (N' := 8) (a0 := (8, .inl (fun _ => 0))) (pc := 26) hx hb (hw _ mw38) rfl hK hP hD hS hA (fun _ => rfl) (by decide) (by decide) (by decide) (Nat.le_of_ble_eq_true rfl) (Nat.le_of_ble_eq_true rfl) dX3_init_26 (fun q26 c26 H hK hP hD hS => ?_)
  replace hK : va_K D vwCl [(c7, .char), (u17.2 5, .int), (u17.2 6, .int), (u17.2 7, .int), (u17.2 8, .int), (c26, .int)] s := hK
  replace hP : va_P D vwCl [(h0, .inr (3, [.ref q7, .int 0, .ref q13, .null, .null, .int 0, .int 0, .long 0, .long 0])), (q7, .inl (c7, 20, .inl (fun _ => 0))), (q13, .inr (0, [.ref (u17.1 5), .ref (u17.1 6), .ref (u17.1 7), .ref (u17.1 8), .int 0])), (u17.1 5, .inl (u17.2 5, 80, .inl (fun _ => 0))), (u17.1 6, .inl (u17.2 6, 80, .inl (fun _ => 0))), (u17.1 7, .inl (u17.2 7, 80, .inl (fun _ => 0))), (u17.1 8, .inl (u17.2 8, 80, .inl (fun _ => 0))), (q26, .inl (c26, 8, .inl (fun _ => 0)))] H := hP
  replace hD : va_D A [(h0, .inr (3, [.ref q7, .int 0, .ref q13, .null, .null, .int 0, .int 0, .long 0, .long 0])), (q7, .inl (c7, 20, .inl (fun _ => 0))), (q13, .inr (0, [.ref (u17.1 5), .ref (u17.1 6), .ref (u17.1 7), .ref (u17.1 8), .int 0])), (u17.1 5, .inl (u17.2 5, 80, .inl (fun _ => 0))), (u17.1 6, .inl (u17.2 6, 80, .inl (fun _ => 0))), (u17.1 7, .inl (u17.2 7, 80, .inl (fun _ => 0))), (u17.1 8, .inl (u17.2 8, 80, .inl (fun _ => 0))), (q26, .inl (c26, 8, .inl (fun _ => 0)))] := hD
  refine va_putF (D := D) (ci := 3) (v := .ref q26) (ty := .array .int) (C := RX3) (T := TX3) (N := 9) (pc := 28) hx hb hw inX3 tyX3 tyX3_ok nmX3 hown hK hP hD hS 0 rfl rfl 3 (by decide) (hw _ mw78) (fun _ h9 => h9) rfl hin rfl (by decide +kernel) rfl rfl (Nat.le_of_ble_eq_true rfl) dX3_init_28 (fun H locs hP hD hS => ?_)
  replace hP : va_P D vwCl [(h0, .inr (3, [.ref q7, .int 0, .ref q13, .ref q26, .null, .int 0, .int 0, .long 0, .long 0])), (q7, .inl (c7, 20, .inl (fun _ => 0))), (q13, .inr (0, [.ref (u17.1 5), .ref (u17.1 6), .ref (u17.1 7), .ref (u17.1 8), .int 0])), (u17.1 5, .inl (u17.2 5, 80, .inl (fun _ => 0))), (u17.1 6, .inl (u17.2 6, 80, .inl (fun _ => 0))), (u17.1 7, .inl (u17.2 7, 80, .inl (fun _ => 0))), (u17.1 8, .inl (u17.2 8, 80, .inl (fun _ => 0))), (q26, .inl (c26, 8, .inl (fun _ => 0)))] H := hP
  replace hD : va_D A [(h0, .inr (3, [.ref q7, .int 0, .ref q13, .ref q26, .null, .int 0, .int 0, .long 0, .long 0])), (q7, .inl (c7, 20, .inl (fun _ => 0))), (q13, .inr (0, [.ref (u17.1 5), .ref (u17.1 6), .ref (u17.1 7), .ref (u17.1 8), .int 0])), (u17.1 5, .inl (u17.2 5, 80, .inl (fun _ => 0))), (u17.1 6, .inl (u17.2 6, 80, .inl (fun _ => 0))), (u17.1 7, .inl (u17.2 7, 80, .inl (fun _ => 0))), (u17.1 8, .inl (u17.2 8, 80, .inl (fun _ => 0))), (q26, .inl (c26, 8, .inl (fun _ => 0)))] := hD
  refine lv_aload_n (pc := 31) hx hb dX3_init_31 rfl (lv_at hl 0 rfl) ?_
  refine va_new (ci := 2) (fs := [.null, .null, .null, .null, .int 0]) (C := RX2) (T := TX2) (N := 5) (pc := 32) hx hb hw inX2 tyX2 tyX2_ok hown (hw _ mw39) (hw _ mw40) (hw _ mw3) hK hP hD hS hA rfl (fun j hj => by rcases (show j = 0 ∨ j = 1 ∨ j = 2 ∨ j = 3 ∨ j = 4 by omega) with rfl | rfl | rfl | rfl | rfl <;> rfl) (Nat.le_of_ble_eq_true rfl) (Nat.le_of_ble_eq_true rfl) dX3_init_32 (fun q32 H hP hD hS => ?_)
  replace hP : va_P D vwCl [(h0, .inr (3, [.ref q7, .int 0, .ref q13, .ref q26, .null, .int 0, .int 0, .long 0, .long 0])), (q7, .inl (c7, 20, .inl (fun _ => 0))), (q13, .inr (0, [.ref (u17.1 5), .ref (u17.1 6), .ref (u17.1 7), .ref (u17.1 8), .int 0])), (u17.1 5, .inl (u17.2 5, 80, .inl (fun _ => 0))), (u17.1 6, .inl (u17.2 6, 80, .inl (fun _ => 0))), (u17.1 7, .inl (u17.2 7, 80, .inl (fun _ => 0))), (u17.1 8, .inl (u17.2 8, 80, .inl (fun _ => 0))), (q26, .inl (c26, 8, .inl (fun _ => 0))), (q32, .inr (2, [.null, .null, .null, .null, .int 0]))] H := hP
  replace hD : va_D A [(h0, .inr (3, [.ref q7, .int 0, .ref q13, .ref q26, .null, .int 0, .int 0, .long 0, .long 0])), (q7, .inl (c7, 20, .inl (fun _ => 0))), (q13, .inr (0, [.ref (u17.1 5), .ref (u17.1 6), .ref (u17.1 7), .ref (u17.1 8), .int 0])), (u17.1 5, .inl (u17.2 5, 80, .inl (fun _ => 0))), (u17.1 6, .inl (u17.2 6, 80, .inl (fun _ => 0))), (u17.1 7, .inl (u17.2 7, 80, .inl (fun _ => 0))), (u17.1 8, .inl (u17.2 8, 80, .inl (fun _ => 0))), (q26, .inl (c26, 8, .inl (fun _ => 0))), (q32, .inr (2, [.null, .null, .null, .null, .int 0]))] := hD
  refine lv_dup (pc := 35) hx hb dX3_init_35 rfl ?_
  have hF := ez_free (wr := [(h0, .inr (3, [.ref q7, .int 0, .ref q13, .ref q26, .null, .int 0, .int 0, .long 0, .long 0])), (q7, .inl (c7, 20, .inl (fun _ => 0))), (q13, .inr (0, [.ref (u17.1 5), .ref (u17.1 6), .ref (u17.1 7), .ref (u17.1 8), .int 0])), (u17.1 5, .inl (u17.2 5, 80, .inl (fun _ => 0))), (u17.1 6, .inl (u17.2 6, 80, .inl (fun _ => 0))), (u17.1 7, .inl (u17.2 7, 80, .inl (fun _ => 0))), (u17.1 8, .inl (u17.2 8, 80, .inl (fun _ => 0))), (q26, .inl (c26, 8, .inl (fun _ => 0)))]) (wl := [(q32, .inr (2, [.null, .null, .null, .null, .int 0]))]) hD hS hA
  refine va_callv (va_runIN (g := F0 m 36 ls [.ref q32, .ref q32, .ref h0]) (As := []) (rest := [.ref q32, .ref h0]) ⟨hx, hb, hml, hown, hw⟩ (kX2_init l D q32 H.size) ⟨va_cnB 0 hw (ez_gN mw43) rfl rfl rfl (ez_N.n2 hN) (hw _ mw3) (by decide +kernel) ⟨Nat.le_of_ble_eq_true rfl, Nat.le_of_ble_eq_true rfl⟩, rfl, (hw _ mw42)⟩ (ez_preS (wr := [(h0, .inr (3, [.ref q7, .int 0, .ref q13, .ref q26, .null, .int 0, .int 0, .long 0, .long 0])), (q7, .inl (c7, 20, .inl (fun _ => 0))), (q13, .inr (0, [.ref (u17.1 5), .ref (u17.1 6), .ref (u17.1 7), .ref (u17.1 8), .int 0])), (u17.1 5, .inl (u17.2 5, 80, .inl (fun _ => 0))), (u17.1 6, .inl (u17.2 6, 80, .inl (fun _ => 0))), (u17.1 7, .inl (u17.2 7, 80, .inl (fun _ => 0))), (u17.1 8, .inl (u17.2 8, 80, .inl (fun _ => 0))), (q26, .inl (c26, 8, .inl (fun _ => 0)))]) (wl := [(q32, .inr (2, [.null, .null, .null, .null, .int 0]))]) hP hD (hK.sub (tys' := []) [] rfl) hN) rfl rfl hl.1 rfl (lv_room (Nat.le_of_ble_eq_true rfl)) dX3_init_36 ⟨Nat.le_of_ble_eq_true rfl, Nat.le_of_ble_eq_true rfl⟩) hS (fun q _ h => hF q h) hF (fun u36 t H1 locs ht hvm hp hB hz hk hS => ?_)
  obtain ⟨hP1, hK1, hD1⟩ := hB
  rw [ht] at hP1
  replace hK1 := va_K.moved hvm.symm hK1
  obtain ⟨hP2, hD2⟩ := ez_join (wr := [(h0, .inr (3, [.ref q7, .int 0, .ref q13, .ref q26, .null, .int 0, .int 0, .long 0, .long 0])), (q7, .inl (c7, 20, .inl (fun _ => 0))), (q13, .inr (0, [.ref (u17.1 5), .ref (u17.1 6), .ref (u17.1 7), .ref (u17.1 8), .int 0])), (u17.1 5, .inl (u17.2 5, 80, .inl (fun _ => 0))), (u17.1 6, .inl (u17.2 6, 80, .inl (fun _ => 0))), (u17.1 7, .inl (u17.2 7, 80, .inl (fun _ => 0))), (u17.1 8, .inl (u17.2 8, 80, .inl (fun _ => 0))), (q26, .inl (c26, 8, .inl (fun _ => 0)))]) (wl := [(q32, .inr (2, [.null, .null, .null, .null, .int 0]))]) hP hD hk hF hP1 hD1
  clear hP hD hP1 hD1
  replace hK := hK.app hK1
  have hP : va_P D vwCl [(h0, .inr (3, [.ref q7, .int 0, .ref q13, .ref q26, .null, .int 0, .int 0, .long 0, .long 0])), (q7, .inl (c7, 20, .inl (fun _ => 0))), (q13, .inr (0, [.ref (u17.1 5), .ref (u17.1 6), .ref (u17.1 7), .ref (u17.1 8), .int 0])), (u17.1 5, .inl (u17.2 5, 80, .inl (fun _ => 0))), (u17.1 6, .inl (u17.2 6, 80, .inl (fun _ => 0))), (u17.1 7, .inl (u17.2 7, 80, .inl (fun _ => 0))), (u17.1 8, .inl (u17.2 8, 80, .inl (fun _ => 0))), (q26, .inl (c26, 8, .inl (fun _ => 0))), (q32, .inr (2, [.ref (u36.1 9), .ref (u36.1 10), .ref (u36.1 11), .ref (u36.1 12), .int 0])), (u36.1 9, .inl (u36.2 9, 80, .inl (fun _ => 0))), (u36.1 10, .inl (u36.2 10, 80, .inl (fun _ => 0))), (u36.1 11, .inl (u36.2 11, 80, .inr (.inl (fun _ => 0)))), (u36.1 12, .inl (u36.2 12, 80, .inr (.inl (fun _ => 0))))] H1 := hP2
  have hD : va_D A [(h0, .inr (3, [.ref q7, .int 0, .ref q13, .ref q26, .null, .int 0, .int 0, .long 0, .long 0])), (q7, .inl (c7, 20, .inl (fun _ => 0))), (q13, .inr (0, [.ref (u17.1 5), .ref (u17.1 6), .ref (u17.1 7), .ref (u17.1 8), .int 0])), (u17.1 5, .inl (u17.2 5, 80, .inl (fun _ => 0))), (u17.1 6, .inl (u17.2 6, 80, .inl (fun _ => 0))), (u17.1 7, .inl (u17.2 7, 80, .inl (fun _ => 0))), (u17.1 8, .inl (u17.2 8, 80, .inl (fun _ => 0))), (q26, .inl (c26, 8, .inl (fun _ => 0))), (q32, .inr (2, [.ref (u36.1 9), .ref (u36.1 10), .ref (u36.1 11), .ref (u36.1 12), .int 0])), (u36.1 9, .inl (u36.2 9, 80, .inl (fun _ => 0))), (u36.1 10, .inl (u36.2 10, 80, .inl (fun _ => 0))), (u36.1 11, .inl (u36.2 11, 80, .inr (.inl (fun _ => 0)))), (u36.1 12, .inl (u36.2 12, 80, .inr (.inl (fun _ => 0))))] := hD2
  replace hK : va_K D vwCl [(c7, .char), (u17.2 5, .int), (u17.2 6, .int), (u17.2 7, .int), (u17.2 8, .int), (c26, .int), (u36.2 9, .boolean), (u36.2 10, .int), (u36.2 11, .long), (u36.2 12, .long)] s := hK
  clear hP2 hD2 hK1 hk hz ht hvm hF
  generalize H1 = H at hP hS ⊢
  refine va_putF (D := D) (ci := 3) (v := .ref q32) (ty := .object "EnclosureCalculator$Spans") (C := RX3) (T := TX3) (N := 9) (pc := 39) hx hb hw inX3 tyX3 tyX3_ok nmX3 hown hK hP hD hS 0 rfl rfl 4 (by decide) (hw _ mw79) (fun _ h9 => h9) rfl hin rfl (by decide +kernel) rfl rfl (Nat.le_of_ble_eq_true rfl) dX3_init_39 (fun H locs hP hD hS => ?_)
  replace hP : va_P D vwCl [(h0, .inr (3, [.ref q7, .int 0, .ref q13, .ref q26, .ref q32, .int 0, .int 0, .long 0, .long 0])), (q7, .inl (c7, 20, .inl (fun _ => 0))), (q13, .inr (0, [.ref (u17.1 5), .ref (u17.1 6), .ref (u17.1 7), .ref (u17.1 8), .int 0])), (u17.1 5, .inl (u17.2 5, 80, .inl (fun _ => 0))), (u17.1 6, .inl (u17.2 6, 80, .inl (fun _ => 0))), (u17.1 7, .inl (u17.2 7, 80, .inl (fun _ => 0))), (u17.1 8, .inl (u17.2 8, 80, .inl (fun _ => 0))), (q26, .inl (c26, 8, .inl (fun _ => 0))), (q32, .inr (2, [.ref (u36.1 9), .ref (u36.1 10), .ref (u36.1 11), .ref (u36.1 12), .int 0])), (u36.1 9, .inl (u36.2 9, 80, .inl (fun _ => 0))), (u36.1 10, .inl (u36.2 10, 80, .inl (fun _ => 0))), (u36.1 11, .inl (u36.2 11, 80, .inr (.inl (fun _ => 0)))), (u36.1 12, .inl (u36.2 12, 80, .inr (.inl (fun _ => 0))))] H := hP
  replace hD : va_D A [(h0, .inr (3, [.ref q7, .int 0, .ref q13, .ref q26, .ref q32, .int 0, .int 0, .long 0, .long 0])), (q7, .inl (c7, 20, .inl (fun _ => 0))), (q13, .inr (0, [.ref (u17.1 5), .ref (u17.1 6), .ref (u17.1 7), .ref (u17.1 8), .int 0])), (u17.1 5, .inl (u17.2 5, 80, .inl (fun _ => 0))), (u17.1 6, .inl (u17.2 6, 80, .inl (fun _ => 0))), (u17.1 7, .inl (u17.2 7, 80, .inl (fun _ => 0))), (u17.1 8, .inl (u17.2 8, 80, .inl (fun _ => 0))), (q26, .inl (c26, 8, .inl (fun _ => 0))), (q32, .inr (2, [.ref (u36.1 9), .ref (u36.1 10), .ref (u36.1 11), .ref (u36.1 12), .int 0])), (u36.1 9, .inl (u36.2 9, 80, .inl (fun _ => 0))), (u36.1 10, .inl (u36.2 10, 80, .inl (fun _ => 0))), (u36.1 11, .inl (u36.2 11, 80, .inr (.inl (fun _ => 0)))), (u36.1 12, .inl (u36.2 12, 80, .inr (.inl (fun _ => 0))))] := hD
  refine lv_aload_n (pc := 42) hx hb dX3_init_42 rfl (lv_at hl 0 rfl) ?_
  replace hP : va_P D vwCl (wC (ez_a [h0, q7, q13, q26, q32, u17.1 5, u17.1 6, u17.1 7, u17.1 8, u36.1 9, u36.1 10, u36.1 11, u36.1 12]) (ez_k [0, c7, 0, c26, 0, u17.2 5, u17.2 6, u17.2 7, u17.2 8, u36.2 9, u36.2 10, u36.2 11, u36.2 12]) ez_w0) H := hP.sub [0, 1, 2, 7, 8, 3, 4, 5, 6, 9, 10, 11, 12] rfl
  replace hD : va_D A (wC (ez_a [h0, q7, q13, q26, q32, u17.1 5, u17.1 6, u17.1 7, u17.1 8, u36.1 9, u36.1 10, u36.1 11, u36.1 12]) (ez_k [0, c7, 0, c26, 0, u17.2 5, u17.2 6, u17.2 7, u17.2 8, u36.2 9, u36.2 10, u36.2 11, u36.2 12]) ez_w0) := hD.sub [0, 1, 2, 7, 8, 3, 4, 5, 6, 9, 10, 11, 12] (by decide) rfl
  replace hK : va_K D vwCl (tC (ez_k [0, c7, 0, c26, 0, u17.2 5, u17.2 6, u17.2 7, u17.2 8, u36.2 9, u36.2 10, u36.2 11, u36.2 12])) s := hK.sub [0, 5, 1, 2, 3, 4, 6, 7, 8, 9] rfl
  refine ez_callV (pc := 43) (wr := []) (wl := wC (ez_a [h0, q7, q13, q26, q32, u17.1 5, u17.1 6, u17.1 7, u17.1 8, u36.1 9, u36.1 10, u36.1 11, u36.1 12]) (ez_k [0, c7, 0, c26, 0, u17.2 5, u17.2 6, u17.2 7, u17.2 8, u36.2 9, u36.2 10, u36.2 11, u36.2 12]) ez_w0) (wl' := wC (ez_a [h0, q7, q13, q26, q32, u17.1 5, u17.1 6, u17.1 7, u17.1 8, u36.1 9, u36.1 10, u36.1 11, u36.1 12]) (ez_k [0, c7, 0, c26, 0, u17.2 5, u17.2 6, u17.2 7, u17.2 8, u36.2 9, u36.2 10, u36.2 11, u36.2 12]) z) (va_runV (g := F0 m 43 ls [.ref h0]) (As := []) (rest := []) ⟨hx, hb, hml, hown, hw⟩ (kX3_forgetAll l D (ez_a [h0, q7, q13, q26, q32, u17.1 5, u17.1 6, u17.1 7, u17.1 8, u36.1 9, u36.1 10, u36.1 11, u36.1 12]) (ez_k [0, c7, 0, c26, 0, u17.2 5, u17.2 6, u17.2 7, u17.2 8, u36.2 9, u36.2 10, u36.2 11, u36.2 12]) n ez_w0 z h H.size) (cwV 0 hw (ez_gV mw63 mw65 mp0 mw1 mw66) rfl rfl rfl (by decide +kernel) ⟨Nat.le_of_ble_eq_true rfl, Nat.le_of_ble_eq_true rfl⟩) (ez_preV (wr := []) (wl := wC (ez_a [h0, q7, q13, q26, q32, u17.1 5, u17.1 6, u17.1 7, u17.1 8, u36.1 9, u36.1 10, u36.1 11, u36.1 12]) (ez_k [0, c7, 0, c26, 0, u17.2 5, u17.2 6, u17.2 7, u17.2 8, u36.2 9, u36.2 10, u36.2 11, u36.2 12]) ez_w0) hP hD hK hN 0 rfl rfl) rfl rfl hl.1 rfl (lv_room (Nat.le_of_ble_eq_true rfl)) dX3_init_43 ⟨Nat.le_of_ble_eq_true rfl, Nat.le_of_ble_eq_true rfl⟩) hP hD hS hA (fun H locs hP hD hS => ?_)
  exact W.vret hx hb hr (fun t ht hW => ⟨⟨((ez_a [h0, q7, q13, q26, q32, u17.1 5, u17.1 6, u17.1 7, u17.1 8, u36.1 9, u36.1 10, u36.1 11, u36.1 12]), (ez_k [0, c7, 0, c26, 0, u17.2 5, u17.2 6, u17.2 7, u17.2 8, u36.2 9, u36.2 10, u36.2 11, u36.2 12])), rfl, rfl, by rw [ht]; exact hP, va_K.moved hW.alike hK, hD⟩, hS.F ht⟩) hS.2.2 dX3_init_46
theorem dX4_init_0 : decode cX4_init 0 = .ok (.aload_n 0, 1) := by decide +kernel
theorem dX4_init_1 : decode cX4_init 1 = .ok (.invokespecial 1, 3) := by decide +kernel
theorem dX4_init_4 : decode cX4_init 4 = .ok (.aload_n 0, 1) := by decide +kernel
theorem dX4_init_5 : decode cX4_init 5 = .ok (.bipush 20, 2) := by decide +kernel
theorem dX4_init_7 : decode cX4_init 7 = .ok (.newarray .int, 2) := by decide +kernel
theorem dX4_init_9 : decode cX4_init 9 = .ok (.putfield 7, 3) := by decide +kernel
theorem dX4_init_12 : decode cX4_init 12 = .ok (.aload_n 0, 1) := by decide +kernel
theorem dX4_init_13 : decode cX4_init 13 = .ok (.bipush 8, 2) := by decide +kernel
theorem dX4_init_15 : decode cX4_init 15 = .ok (.newarray .int, 2) := by decide +kernel
theorem dX4_init_17 : decode cX4_init 17 = .ok (.putfield 13, 3) := by decide +kernel
theorem dX4_init_20 : decode cX4_init 20 = .ok (.aload_n 0, 1) := by decide +kernel
theorem dX4_init_21 : decode cX4_init 21 = .ok (.bipush 120, 2) := by decide +kernel
theorem dX4_init_23 : decode cX4_init 23 = .ok (.newarray .int, 2) := by decide +kernel
theorem dX4_init_25 : decode cX4_init 25 = .ok (.putfield 16, 3) := by decide +kernel
theorem dX4_init_28 : decode cX4_init 28 = .ok (.aload_n 0, 1) := by decide +kernel
theorem dX4_init_29 : decode cX4_init 29 = .ok (.bipush 120, 2) := by decide +kernel
theorem dX4_init_31 : decode cX4_init 31 = .ok (.newarray .int, 2) := by decide +kernel
theorem dX4_init_33 : decode cX4_init 33 = .ok (.putfield 19, 3) := by decide +kernel
theorem dX4_init_36 : decode cX4_init 36 = .ok (.aload_n 0, 1) := by decide +kernel
theorem dX4_init_37 : decode cX4_init 37 = .ok (.bipush 120, 2) := by decide +kernel
theorem dX4_init_39 : decode cX4_init 39 = .ok (.newarray .int, 2) := by decide +kernel
theorem dX4_init_41 : decode cX4_init 41 = .ok (.putfield 22, 3) := by decide +kernel
theorem dX4_init_44 : decode cX4_init 44 = .ok (.aload_n 0, 1) := by decide +kernel
theorem dX4_init_45 : decode cX4_init 45 = .ok (.bipush 21, 2) := by decide +kernel
theorem dX4_init_47 : decode cX4_init 47 = .ok (.newarray .int, 2) := by decide +kernel
theorem dX4_init_49 : decode cX4_init 49 = .ok (.putfield 25, 3) := by decide +kernel
theorem dX4_init_52 : decode cX4_init 52 = .ok (.aload_n 0, 1) := by decide +kernel
theorem dX4_init_53 : decode cX4_init 53 = .ok (.bipush 21, 2) := by decide +kernel
theorem dX4_init_55 : decode cX4_init 55 = .ok (.newarray .int, 2) := by decide +kernel
theorem dX4_init_57 : decode cX4_init 57 = .ok (.putfield 28, 3) := by decide +kernel
theorem dX4_init_60 : decode cX4_init 60 = .ok (.aload_n 0, 1) := by decide +kernel
theorem dX4_init_61 : decode cX4_init 61 = .ok (.bipush 120, 2) := by decide +kernel
theorem dX4_init_63 : decode cX4_init 63 = .ok (.newarray .int, 2) := by decide +kernel
theorem dX4_init_65 : decode cX4_init 65 = .ok (.putfield 31, 3) := by decide +kernel
theorem dX4_init_68 : decode cX4_init 68 = .ok (.aload_n 0, 1) := by decide +kernel
theorem dX4_init_69 : decode cX4_init 69 = .ok (.bipush 120, 2) := by decide +kernel
theorem dX4_init_71 : decode cX4_init 71 = .ok (.newarray .long, 2) := by decide +kernel
theorem dX4_init_73 : decode cX4_init 73 = .ok (.putfield 34, 3) := by decide +kernel
theorem dX4_init_76 : decode cX4_init 76 = .ok (.aload_n 0, 1) := by decide +kernel
theorem dX4_init_77 : decode cX4_init 77 = .ok (.bipush 120, 2) := by decide +kernel
theorem dX4_init_79 : decode cX4_init 79 = .ok (.newarray .long, 2) := by decide +kernel
theorem dX4_init_81 : decode cX4_init 81 = .ok (.putfield 38, 3) := by decide +kernel
theorem dX4_init_84 : decode cX4_init 84 = .ok (.aload_n 0, 1) := by decide +kernel
theorem dX4_init_85 : decode cX4_init 85 = .ok (.bipush 120, 2) := by decide +kernel
theorem dX4_init_87 : decode cX4_init 87 = .ok (.newarray .boolean, 2) := by decide +kernel
theorem dX4_init_89 : decode cX4_init 89 = .ok (.putfield 41, 3) := by decide +kernel
theorem dX4_init_92 : decode cX4_init 92 = .ok (.return_, 1) := by decide +kernel
set_option maxHeartbeats 4000000 in
set_option maxRecDepth 100000 in
theorem kX4_init (l : Launch) (D : va_G) (h0 : Nat) (sz : Nat) : Met l yX4_init wsX4_init ({ frames := 1, cells := 11, slots := 910, locals := 12 } : Room) (ez_Pc D [] [.ref h0] [(h0, .inr (4, [.int 0, .null, .null, .int 0, .null, .null, .null, .int 0, .null, .int 0, .null, .null, .null, .null, .null, .int 0, .int 0, .int 0, .long 0, .long 0]))] sz) (va_Qv (S := (Nat → Nat) × (Nat → ClassId)) (fun u => u.1 0 = h0) (fun u t => va_P D vwCl (wM u.1 u.2 ez_w0) t.heap ∧ va_K D vwCl (tM u.2) t ∧ va_D (va_A [(h0, .inr (4, [.int 0, .null, .null, .int 0, .null, .null, .null, .int 0, .null, .int 0, .null, .null, .null, .null, .null, .int 0, .int 0, .int 0, .long 0, .long 0]))] sz) (wM u.1 u.2 ez_w0)) (va_A [(h0, .inr (4, [.int 0, .null, .null, .int 0, .null, .null, .null, .int 0, .null, .int 0, .null, .null, .null, .null, .null, .int 0, .int 0, .int 0, .long 0, .long 0]))] sz)) 11 910 (va_A [(h0, .inr (4, [.int 0, .null, .null, .int 0, .null, .null, .null, .int 0, .null, .int 0, .null, .null, .null, .null, .null, .int 0, .int 0, .int 0, .long 0, .long 0]))] sz) := by
  refine ez_mk (Qf := fun A => (va_Qv (S := (Nat → Nat) × (Nat → ClassId)) (fun u => u.1 0 = h0) (fun u t => va_P D vwCl (wM u.1 u.2 ez_w0) t.heap ∧ va_K D vwCl (tM u.2) t ∧ va_D A (wM u.1 u.2 ez_w0)) A)) (by decide) rfl (Nat.le_of_ble_eq_true rfl) (fun p e s m below meth c A ls C0 hin hl hP hD hK => ?_) sz
  replace hin : meth.name = "<init>" := hin
  replace hl : lv_has ls 1 [(0, .ref h0)] := hl
  have hS : va_S A s.heap s.heap [] := va_S.rf
  obtain ⟨hx, hb, hr, hml, hown, hw, hlk, hA, hN⟩ := C0
  replace hP : va_P D vwCl [(h0, .inr (4, [.int 0, .null, .null, .int 0, .null, .null, .null, .int 0, .null, .int 0, .null, .null, .null, .null, .null, .int 0, .int 0, .int 0, .long 0, .long 0]))] s.heap := hP
  replace hD : va_D A [(h0, .inr (4, [.int 0, .null, .null, .int 0, .null, .null, .null, .int 0, .null, .int 0, .null, .null, .null, .null, .null, .int 0, .int 0, .int 0, .long 0, .long 0]))] := hD
  refine lv_aload_n (pc := 0) hx hb dX4_init_0 rfl (lv_at hl 0 rfl) ?_
  refine W.objInit hx hb hown (hw _ mw426) (hw _ mw13) (hw _ mw14) rfl (by rw [hml]; exact hl.1) rfl dX4_init_1 (Nat.le_of_ble_eq_true rfl) (Nat.le_of_ble_eq_true rfl) ?_
  refine W.eq (g2 := F0 m 4 ls []) rfl ?_
  refine lv_aload_n (pc := 4) hx hb dX4_init_4 rfl (lv_at hl 0 rfl) ?_
  refine lv_bipush (v := 20) (pc := 5) hx hb dX4_init_5 rfl ?_
  refine va_newa (D := D) (atype := .int) (ty := .int) (N' := 20) (a0 := (20, .inl (fun _ => 0))) (pc := 7) hx hb (hw _ mw38) rfl hK hP hD hS hA (fun _ => rfl) (by decide) (by decide) (by decide) (Nat.le_of_ble_eq_true rfl) (Nat.le_of_ble_eq_true rfl) dX4_init_7 (fun q7 c7 H hK hP hD hS => ?_)
  replace hK : va_K D vwCl [(c7, .int)] s := hK
  replace hP : va_P D vwCl [(h0, .inr (4, [.int 0, .null, .null, .int 0, .null, .null, .null, .int 0, .null, .int 0, .null, .null, .null, .null, .null, .int 0, .int 0, .int 0, .long 0, .long 0])), (q7, .inl (c7, 20, .inl (fun _ => 0)))] H := hP
  replace hD : va_D A [(h0, .inr (4, [.int 0, .null, .null, .int 0, .null, .null, .null, .int 0, .null, .int 0, .null, .null, .null, .null, .null, .int 0, .int 0, .int 0, .long 0, .long 0])), (q7, .inl (c7, 20, .inl (fun _ => 0)))] := hD
  refine va_put (D := D) (ci := 4) (v := .ref q7) (ty := .array .int) (C := RX4) (T := TX4) (N := 20) (pc := 9) hx hb hw inX4 tyX4 tyX4_ok nmX4 hown hK hP hD hS 0 rfl rfl 1 (by decide) (hw _ mw428) (fun _ h9 => h9) rfl (by decide +kernel) rfl rfl (Nat.le_of_ble_eq_true rfl) dX4_init_9 (fun H locs hP hD hS => ?_)
  replace hP : va_P D vwCl [(h0, .inr (4, [.int 0, .ref q7, .null, .int 0, .null, .null, .null, .int 0, .null, .int 0, .null, .null, .null, .null, .null, .int 0, .int 0, .int 0, .long 0, .long 0])), (q7, .inl (c7, 20, .inl (fun _ => 0)))] H := hP
  replace hD : va_D A [(h0, .inr (4, [.int 0, .ref q7, .null, .int 0, .null, .null, .null, .int 0, .null, .int 0, .null, .null, .null, .null, .null, .int 0, .int 0, .int 0, .long 0, .long 0])), (q7, .inl (c7, 20, .inl (fun _ => 0)))] := hD
  refine lv_aload_n (pc := 12) hx hb dX4_init_12 rfl (lv_at hl 0 rfl) ?_
  refine lv_bipush (v := 8) (pc := 13) hx hb dX4_init_13 rfl ?_
  refine va_newa (D := D) (atype := .int) (ty := .int) (N' := 8) (a0 := (8, .inl (fun _ => 0))) (pc := 15) hx hb (hw _ mw38) rfl hK hP hD hS hA (fun _ => rfl) (by decide) (by decide) (by decide) (Nat.le_of_ble_eq_true rfl) (Nat.le_of_ble_eq_true rfl) dX4_init_15 (fun q15 c15 H hK hP hD hS => ?_)
  replace hK : va_K D vwCl [(c7, .int), (c15, .int)] s := hK
  replace hP : va_P D vwCl [(h0, .inr (4, [.int 0, .ref q7, .null, .int 0, .null, .null, .null, .int 0, .null, .int 0, .null, .null, .null, .null, .null, .int 0, .int 0, .int 0, .long 0, .long 0])), (q7, .inl (c7, 20, .inl (fun _ => 0))), (q15, .inl (c15, 8, .inl (fun _ => 0)))] H := hP
  replace hD : va_D A [(h0, .inr (4, [.int 0, .ref q7, .null, .int 0, .null, .null, .null, .int 0, .null, .int 0, .null, .null, .null, .null, .null, .int 0, .int 0, .int 0, .long 0, .long 0])), (q7, .inl (c7, 20, .inl (fun _ => 0))), (q15, .inl (c15, 8, .inl (fun _ => 0)))] := hD
  refine va_put (D := D) (ci := 4) (v := .ref q15) (ty := .array .int) (C := RX4) (T := TX4) (N := 20) (pc := 17) hx hb hw inX4 tyX4 tyX4_ok nmX4 hown hK hP hD hS 0 rfl rfl 2 (by decide) (hw _ mw429) (fun _ h9 => h9) rfl (by decide +kernel) rfl rfl (Nat.le_of_ble_eq_true rfl) dX4_init_17 (fun H locs hP hD hS => ?_)
  replace hP : va_P D vwCl [(h0, .inr (4, [.int 0, .ref q7, .ref q15, .int 0, .null, .null, .null, .int 0, .null, .int 0, .null, .null, .null, .null, .null, .int 0, .int 0, .int 0, .long 0, .long 0])), (q7, .inl (c7, 20, .inl (fun _ => 0))), (q15, .inl (c15, 8, .inl (fun _ => 0)))] H := hP
  replace hD : va_D A [(h0, .inr (4, [.int 0, .ref q7, .ref q15, .int 0, .null, .null, .null, .int 0, .null, .int 0, .null, .null, .null, .null, .null, .int 0, .int 0, .int 0, .long 0, .long 0])), (q7, .inl (c7, 20, .inl (fun _ => 0))), (q15, .inl (c15, 8, .inl (fun _ => 0)))] := hD
  refine lv_aload_n (pc := 20) hx hb dX4_init_20 rfl (lv_at hl 0 rfl) ?_
  refine lv_bipush (v := 120) (pc := 21) hx hb dX4_init_21 rfl ?_
  refine va_newa (D := D) (atype := .int) (ty := .int) (N' := 120) (a0 := (120, .inl (fun _ => 0))) (pc := 23) hx hb (hw _ mw38) rfl hK hP hD hS hA (fun _ => rfl) (by decide) (by decide) (by decide) (Nat.le_of_ble_eq_true rfl) (Nat.le_of_ble_eq_true rfl) dX4_init_23 (fun q23 c23 H hK hP hD hS => ?_)
  replace hK : va_K D vwCl [(c7, .int), (c15, .int), (c23, .int)] s := hK
  replace hP : va_P D vwCl [(h0, .inr (4, [.int 0, .ref q7, .ref q15, .int 0, .null, .null, .null, .int 0, .null, .int 0, .null, .null, .null, .null, .null, .int 0, .int 0, .int 0, .long 0, .long 0])), (q7, .inl (c7, 20, .inl (fun _ => 0))), (q15, .inl (c15, 8, .inl (fun _ => 0))), (q23, .inl (c23, 120, .inl (fun _ => 0)))] H := hP
  replace hD : va_D A [(h0, .inr (4, [.int 0, .ref q7, .ref q15, .int 0, .null, .null, .null, .int 0, .null, .int 0, .null, .null, .null, .null, .null, .int 0, .int 0, .int 0, .long 0, .long 0])), (q7, .inl (c7, 20, .inl (fun _ => 0))), (q15, .inl (c15, 8, .inl (fun _ => 0))), (q23, .inl (c23, 120, .inl (fun _ => 0)))] := hD
  refine va_put (D := D) (ci := 4) (v := .ref q23) (ty := .array .int) (C := RX4) (T := TX4) (N := 20) (pc := 25) hx hb hw inX4 tyX4 tyX4_ok nmX4 hown hK hP hD hS 0 rfl rfl 4 (by decide) (hw _ mw431) (fun _ h9 => h9) rfl (by decide +kernel) rfl rfl (Nat.le_of_ble_eq_true rfl) dX4_init_25 (fun H locs hP hD hS => ?_)
  replace hP : va_P D vwCl [(h0, .inr (4, [.int 0, .ref q7, .ref q15, .int 0, .ref q23, .null, .null, .int 0, .null, .int 0, .null, .null, .null, .null, .null, .int 0, .int 0, .int 0, .long 0, .long 0])), (q7, .inl (c7, 20, .inl (fun _ => 0))), (q15, .inl (c15, 8, .inl (fun _ => 0))), (q23, .inl (c23, 120, .inl (fun _ => 0)))] H := hP
  replace hD : va_D A [(h0, .inr (4, [.int 0, .ref q7, .ref q15, .int 0, .ref q23, .null, .null, .int 0, .null, .int 0, .null, .null, .null, .null, .null, .int 0, .int 0, .int 0, .long 0, .long 0])), (q7, .inl (c7, 20, .inl (fun _ => 0))), (q15, .inl (c15, 8, .inl (fun _ => 0))), (q23, .inl (c23, 120, .inl (fun _ => 0)))] := hD
  refine lv_aload_n (pc := 28) hx hb dX4_init_28 rfl (lv_at hl 0 rfl) ?_
  refine lv_bipush (v := 120) (pc := 29) hx hb dX4_init_29 rfl ?_
  refine va_newa (D := D) (atype := .int) (ty := .int) (N' := 120) (a0 := (120, .inl (fun _ => 0))) (pc := 31) hx hb (hw _ mw38) rfl hK hP hD hS hA (fun _ => rfl) (by decide) (by decide) (by decide) (Nat.le_of_ble_eq_true rfl) (Nat.le_of_ble_eq_true rfl) dX4_init_31 (fun q31 c31 H hK hP hD hS => ?_)
  replace hK : va_K D vwCl [(c7, .int), (c15, .int), (c23, .int), (c31, .int)] s := hK
  replace hP : va_P D vwCl [(h0, .inr (4, [.int 0, .ref q7, .ref q15, .int 0, .ref q23, .null, .null, .int 0, .null, .int 0, .null, .null, .null, .null, .null, .int 0, .int 0, .int 0, .long 0, .long 0])), (q7, .inl (c7, 20, .inl (fun _ => 0))), (q15, .inl (c15, 8, .inl (fun _ => 0))), (q23, .inl (c23, 120, .inl (fun _ => 0))), (q31, .inl (c31, 120, .inl (fun _ => 0)))] H := hP
  replace hD : va_D A [(h0, .inr (4, [.int 0, .ref q7, .ref q15, .int 0, .ref q23, .null, .null, .int 0, .null, .int 0, .null, .null, .null, .null, .null, .int 0, .int 0, .int 0, .long 0, .long 0])), (q7, .inl (c7, 20, .inl (fun _ => 0))), (q15, .inl (c15, 8, .inl (fun _ => 0))), (q23, .inl (c23, 120, .inl (fun _ => 0))), (q31, .inl (c31, 120, .inl (fun _ => 0)))] := hD
  refine va_put (D := D) (ci := 4) (v := .ref q31) (ty := .array .int) (C := RX4) (T := TX4) (N := 20) (pc := 33) hx hb hw inX4 tyX4 tyX4_ok nmX4 hown hK hP hD hS 0 rfl rfl 5 (by decide) (hw _ mw432) (fun _ h9 => h9) rfl (by decide +kernel) rfl rfl (Nat.le_of_ble_eq_true rfl) dX4_init_33 (fun H locs hP hD hS => ?_)
  replace hP : va_P D vwCl [(h0, .inr (4, [.int 0, .ref q7, .ref q15, .int 0, .ref q23, .ref q31, .null, .int 0, .null, .int 0, .null, .null, .null, .null, .null, .int 0, .int 0, .int 0, .long 0, .long 0])), (q7, .inl (c7, 20, .inl (fun _ => 0))), (q15, .inl (c15, 8, .inl (fun _ => 0))), (q23, .inl (c23, 120, .inl (fun _ => 0))), (q31, .inl (c31, 120, .inl (fun _ => 0)))] H := hP
  replace hD : va_D A [(h0, .inr (4, [.int 0, .ref q7, .ref q15, .int 0, .ref q23, .ref q31, .null, .int 0, .null, .int 0, .null, .null, .null, .null, .null, .int 0, .int 0, .int 0, .long 0, .long 0])), (q7, .inl (c7, 20, .inl (fun _ => 0))), (q15, .inl (c15, 8, .inl (fun _ => 0))), (q23, .inl (c23, 120, .inl (fun _ => 0))), (q31, .inl (c31, 120, .inl (fun _ => 0)))] := hD
  refine lv_aload_n (pc := 36) hx hb dX4_init_36 rfl (lv_at hl 0 rfl) ?_
  refine lv_bipush (v := 120) (pc := 37) hx hb dX4_init_37 rfl ?_
  refine va_newa (D := D) (atype := .int) (ty := .int) (N' := 120) (a0 := (120, .inl (fun _ => 0))) (pc := 39) hx hb (hw _ mw38) rfl hK hP hD hS hA (fun _ => rfl) (by decide) (by decide) (by decide) (Nat.le_of_ble_eq_true rfl) (Nat.le_of_ble_eq_true rfl) dX4_init_39 (fun q39 c39 H hK hP hD hS => ?_)
  replace hK : va_K D vwCl [(c7, .int), (c15, .int), (c23, .int), (c31, .int), (c39, .int)] s := hK
  replace hP : va_P D vwCl [(h0, .inr (4, [.int 0, .ref q7, .ref q15, .int 0, .ref q23, .ref q31, .null, .int 0, .null, .int 0, .null, .null, .null, .null, .null, .int 0, .int 0, .int 0, .long 0, .long 0])), (q7, .inl (c7, 20, .inl (fun _ => 0))), (q15, .inl (c15, 8, .inl (fun _ => 0))), (q23, .inl (c23, 120, .inl (fun _ => 0))), (q31, .inl (c31, 120, .inl (fun _ => 0))), (q39, .inl (c39, 120, .inl (fun _ => 0)))] H := hP
  replace hD : va_D A [(h0, .inr (4, [.int 0, .ref q7, .ref q15, .int 0, .ref q23, .ref q31, .null, .int 0, .null, .int 0, .null, .null, .null, .null, .null, .int 0, .int 0, .int 0, .long 0, .long 0])), (q7, .inl (c7, 20, .inl (fun _ => 0))), (q15, .inl (c15, 8, .inl (fun _ => 0))), (q23, .inl (c23, 120, .inl (fun _ => 0))), (q31, .inl (c31, 120, .inl (fun _ => 0))), (q39, .inl (c39, 120, .inl (fun _ => 0)))] := hD
  refine va_put (D := D) (ci := 4) (v := .ref q39) (ty := .array .int) (C := RX4) (T := TX4) (N := 20) (pc := 41) hx hb hw inX4 tyX4 tyX4_ok nmX4 hown hK hP hD hS 0 rfl rfl 6 (by decide) (hw _ mw433) (fun _ h9 => h9) rfl (by decide +kernel) rfl rfl (Nat.le_of_ble_eq_true rfl) dX4_init_41 (fun H locs hP hD hS => ?_)
  replace hP : va_P D vwCl [(h0, .inr (4, [.int 0, .ref q7, .ref q15, .int 0, .ref q23, .ref q31, .ref q39, .int 0, .null, .int 0, .null, .null, .null, .null, .null, .int 0, .int 0, .int 0, .long 0, .long 0])), (q7, .inl (c7, 20, .inl (fun _ => 0))), (q15, .inl (c15, 8, .inl (fun _ => 0))), (q23, .inl (c23, 120, .inl (fun _ => 0))), (q31, .inl (c31, 120, .inl (fun _ => 0))), (q39, .inl (c39, 120, .inl (fun _ => 0)))] H := hP
  replace hD : va_D A [(h0, .inr (4, [.int 0, .ref q7, .ref q15, .int 0, .ref q23, .ref q31, .ref q39, .int 0, .null, .int 0, .null, .null, .null, .null, .null, .int 0, .int 0, .int 0, .long 0, .long 0])), (q7, .inl (c7, 20, .inl (fun _ => 0))), (q15, .inl (c15, 8, .inl (fun _ => 0))), (q23, .inl (c23, 120, .inl (fun _ => 0))), (q31, .inl (c31, 120, .inl (fun _ => 0))), (q39, .inl (c39, 120, .inl (fun _ => 0)))] := hD
  refine lv_aload_n (pc := 44) hx hb dX4_init_44 rfl (lv_at hl 0 rfl) ?_
  refine lv_bipush (v := 21) (pc := 45) hx hb dX4_init_45 rfl ?_
  refine va_newa (D := D) (atype := .int) (ty := .int) (N' := 21) (a0 := (21, .inl (fun _ => 0))) (pc := 47) hx hb (hw _ mw38) rfl hK hP hD hS hA (fun _ => rfl) (by decide) (by decide) (by decide) (Nat.le_of_ble_eq_true rfl) (Nat.le_of_ble_eq_true rfl) dX4_init_47 (fun q47 c47 H hK hP hD hS => ?_)
  replace hK : va_K D vwCl [(c7, .int), (c15, .int), (c23, .int), (c31, .int), (c39, .int), (c47, .int)] s := hK
  replace hP : va_P D vwCl [(h0, .inr (4, [.int 0, .ref q7, .ref q15, .int 0, .ref q23, .ref q31, .ref q39, .int 0, .null, .int 0, .null, .null, .null, .null, .null, .int 0, .int 0, .int 0, .long 0, .long 0])), (q7, .inl (c7, 20, .inl (fun _ => 0))), (q15, .inl (c15, 8, .inl (fun _ => 0))), (q23, .inl (c23, 120, .inl (fun _ => 0))), (q31, .inl (c31, 120, .inl (fun _ => 0))), (q39, .inl (c39, 120, .inl (fun _ => 0))), (q47, .inl (c47, 21, .inl (fun _ => 0)))] H := hP
  replace hD : va_D A [(h0, .inr (4, [.int 0, .ref q7, .ref q15, .int 0, .ref q23, .ref q31, .ref q39, .int 0, .null, .int 0, .null, .null, .null, .null, .null, .int 0, .int 0, .int 0, .long 0, .long 0])), (q7, .inl (c7, 20, .inl (fun _ => 0))), (q15, .inl (c15, 8, .inl (fun _ => 0))), (q23, .inl (c23, 120, .inl (fun _ => 0))), (q31, .inl (c31, 120, .inl (fun _ => 0))), (q39, .inl (c39, 120, .inl (fun _ => 0))), (q47, .inl (c47, 21, .inl (fun _ => 0)))] := hD
  refine va_put (D := D) (ci := 4) (v := .ref q47) (ty := .array .int) (C := RX4) (T := TX4) (N := 20) (pc := 49) hx hb hw inX4 tyX4 tyX4_ok nmX4 hown hK hP hD hS 0 rfl rfl 8 (by decide) (hw _ mw435) (fun _ h9 => h9) rfl (by decide +kernel) rfl rfl (Nat.le_of_ble_eq_true rfl) dX4_init_49 (fun H locs hP hD hS => ?_)
  replace hP : va_P D vwCl [(h0, .inr (4, [.int 0, .ref q7, .ref q15, .int 0, .ref q23, .ref q31, .ref q39, .int 0, .ref q47, .int 0, .null, .null, .null, .null, .null, .int 0, .int 0, .int 0, .long 0, .long 0])), (q7, .inl (c7, 20, .inl (fun _ => 0))), (q15, .inl (c15, 8, .inl (fun _ => 0))), (q23, .inl (c23, 120, .inl (fun _ => 0))), (q31, .inl (c31, 120, .inl (fun _ => 0))), (q39, .inl (c39, 120, .inl (fun _ => 0))), (q47, .inl (c47, 21, .inl (fun _ => 0)))] H := hP
  replace hD : va_D A [(h0, .inr (4, [.int 0, .ref q7, .ref q15, .int 0, .ref q23, .ref q31, .ref q39, .int 0, .ref q47, .int 0, .null, .null, .null, .null, .null, .int 0, .int 0, .int 0, .long 0, .long 0])), (q7, .inl (c7, 20, .inl (fun _ => 0))), (q15, .inl (c15, 8, .inl (fun _ => 0))), (q23, .inl (c23, 120, .inl (fun _ => 0))), (q31, .inl (c31, 120, .inl (fun _ => 0))), (q39, .inl (c39, 120, .inl (fun _ => 0))), (q47, .inl (c47, 21, .inl (fun _ => 0)))] := hD
  refine lv_aload_n (pc := 52) hx hb dX4_init_52 rfl (lv_at hl 0 rfl) ?_
  refine lv_bipush (v := 21) (pc := 53) hx hb dX4_init_53 rfl ?_
  refine va_newa (D := D) (atype := .int) (ty := .int) (N' := 21) (a0 := (21, .inl (fun _ => 0))) (pc := 55) hx hb (hw _ mw38) rfl hK hP hD hS hA (fun _ => rfl) (by decide) (by decide) (by decide) (Nat.le_of_ble_eq_true rfl) (Nat.le_of_ble_eq_true rfl) dX4_init_55 (fun q55 c55 H hK hP hD hS => ?_)
  replace hK : va_K D vwCl [(c7, .int), (c15, .int), (c23, .int), (c31, .int), (c39, .int), (c47, .int), (c55, .int)] s := hK
  replace hP : va_P D vwCl [(h0, .inr (4, [.int 0, .ref q7, .ref q15, .int 0, .ref q23, .ref q31, .ref q39, .int 0, .ref q47, .int 0, .null, .null, .null, .null, .null, .int 0, .int 0, .int 0, .long 0, .long 0])), (q7, .inl (c7, 20, .inl (fun _ => 0))), (q15, .inl (c15, 8, .inl (fun _ => 0))), (q23, .inl (c23, 120, .inl (fun _ => 0))), (q31, .inl (c31, 120, .inl (fun _ => 0))), (q39, .inl (c39, 120, .inl (fun _ => 0))), (q47, .inl (c47, 21, .inl (fun _ => 0))), (q55, .inl (c55, 21, .inl (fun _ => 0)))] H := hP
  replace hD : va_D A [(h0, .inr (4, [.int 0, .ref q7, .ref q15, .int 0, .ref q23, .ref q31, .ref q39, .int 0, .ref q47, .int 0, .null, .null, .null, .null, .null, .int 0, .int 0, .int 0, .long 0, .long 0])), (q7, .inl (c7, 20, .inl (fun _ => 0))), (q15, .inl (c15, 8, .inl (fun _ => 0))), (q23, .inl (c23, 120, .inl (fun _ => 0))), (q31, .inl (c31, 120, .inl (fun _ => 0))), (q39, .inl (c39, 120, .inl (fun _ => 0))), (q47, .inl (c47, 21, .inl (fun _ => 0))), (q55, .inl (c55, 21, .inl (fun _ => 0)))] := hD
  refine va_put (D := D) (ci := 4) (v := .ref q55) (ty := .array .int) (C := RX4) (T := TX4) (N := 20) (pc := 57) hx hb hw inX4 tyX4 tyX4_ok nmX4 hown hK hP hD hS 0 rfl rfl 10 (by decide) (hw _ mw437) (fun _ h9 => h9) rfl (by decide +kernel) rfl rfl (Nat.le_of_ble_eq_true rfl) dX4_init_57 (fun H locs hP hD hS => ?_)
  replace hP : va_P D vwCl [(h0, .inr (4, [.int 0, .ref q7, .ref q15, .int 0, .ref q23, .ref q31, .ref q39, .int 0, .ref q47, .int 0, .ref q55, .null, .null, .null, .null, .int 0, .int 0, .int 0, .long 0, .long 0])), (q7, .inl (c7, 20, .inl (fun _ => 0))), (q15, .inl (c15, 8, .inl (fun _ => 0))), (q23, .inl (c23, 120, .inl (fun _ => 0))), (q31, .inl (c31, 120, .inl (fun _ => 0))), (q39, .inl (c39, 120, .inl (fun _ => 0))), (q47, .inl (c47, 21, .inl (fun _ => 0))), (q55, .inl (c55, 21, .inl (fun _ => 0)))] H := hP
  replace hD : va_D A [(h0, .inr (4, [.int 0, .ref q7, .ref q15, .int 0, .ref q23, .ref q31, .ref q39, .int 0, .ref q47, .int 0, .ref q55, .null, .null, .null, .null, .int 0, .int 0, .int 0, .long 0, .long 0])), (q7, .inl (c7, 20, .inl (fun _ => 0))), (q15, .inl (c15, 8, .inl (fun _ => 0))), (q23, .inl (c23, 120, .inl (fun _ => 0))), (q31, .inl (c31, 120, .inl (fun _ => 0))), (q39, .inl (c39, 120, .inl (fun _ => 0))), (q47, .inl (c47, 21, .inl (fun _ => 0))), (q55, .inl (c55, 21, .inl (fun _ => 0)))] := hD
  refine lv_aload_n (pc := 60) hx hb dX4_init_60 rfl (lv_at hl 0 rfl) ?_
  refine lv_bipush (v := 120) (pc := 61) hx hb dX4_init_61 rfl ?_
  refine va_newa (D := D) (atype := .int) (ty := .int) (N' := 120) (a0 := (120, .inl (fun _ => 0))) (pc := 63) hx hb (hw _ mw38) rfl hK hP hD hS hA (fun _ => rfl) (by decide) (by decide) (by decide) (Nat.le_of_ble_eq_true rfl) (Nat.le_of_ble_eq_true rfl) dX4_init_63 (fun q63 c63 H hK hP hD hS => ?_)
  replace hK : va_K D vwCl [(c7, .int), (c15, .int), (c23, .int), (c31, .int), (c39, .int), (c47, .int), (c55, .int), (c63, .int)] s := hK
  replace hP : va_P D vwCl [(h0, .inr (4, [.int 0, .ref q7, .ref q15, .int 0, .ref q23, .ref q31, .ref q39, .int 0, .ref q47, .int 0, .ref q55, .null, .null, .null, .null, .int 0, .int 0, .int 0, .long 0, .long 0])), (q7, .inl (c7, 20, .inl (fun _ => 0))), (q15, .inl (c15, 8, .inl (fun _ => 0))), (q23, .inl (c23, 120, .inl (fun _ => 0))), (q31, .inl (c31, 120, .inl (fun _ => 0))), (q39, .inl (c39, 120, .inl (fun _ => 0))), (q47, .inl (c47, 21, .inl (fun _ => 0))), (q55, .inl (c55, 21, .inl (fun _ => 0))), (q63, .inl (c63, 120, .inl (fun _ => 0)))] H := hP
  replace hD : va_D A [(h0, .inr (4, [.int 0, .ref q7, .ref q15, .int 0, .ref q23, .ref q31, .ref q39, .int 0, .ref q47, .int 0, .ref q55, .null, .null, .null, .null, .int 0, .int 0, .int 0, .long 0, .long 0])), (q7, .inl (c7, 20, .inl (fun _ => 0))), (q15, .inl (c15, 8, .inl (fun _ => 0))), (q23, .inl (c23, 120, .inl (fun _ => 0))), (q31, .inl (c31, 120, .inl (fun _ => 0))), (q39, .inl (c39, 120, .inl (fun _ => 0))), (q47, .inl (c47, 21, .inl (fun _ => 0))), (q55, .inl (c55, 21, .inl (fun _ => 0))), (q63, .inl (c63, 120, .inl (fun _ => 0)))] := hD
  refine va_put (D := D) (ci := 4) (v := .ref q63) (ty := .array .int) (C := RX4) (T := TX4) (N := 20) (pc := 65) hx hb hw inX4 tyX4 tyX4_ok nmX4 hown hK hP hD hS 0 rfl rfl 11 (by decide) (hw _ mw438) (fun _ h9 => h9) rfl (by decide +kernel) rfl rfl (Nat.le_of_ble_eq_true rfl) dX4_init_65 (fun H locs hP hD hS => ?_)
  replace hP : va_P D vwCl [(h0, .inr (4, [.int 0, .ref q7, .ref q15, .int 0, .ref q23, .ref q31, .ref q39, .int 0, .ref q47, .int 0, .ref q55, .ref q63, .null, .null, .null, .int 0, .int 0, .int 0, .long 0, .long 0])), (q7, .inl (c7, 20, .inl (fun _ => 0))), (q15, .inl (c15, 8, .inl (fun _ => 0))), (q23, .inl (c23, 120, .inl (fun _ => 0))), (q31, .inl (c31, 120, .inl (fun _ => 0))), (q39, .inl (c39, 120, .inl (fun _ => 0))), (q47, .inl (c47, 21, .inl (fun _ => 0))), (q55, .inl (c55, 21, .inl (fun _ => 0))), (q63, .inl (c63, 120, .inl (fun _ => 0)))] H := hP
  replace hD : va_D A [(h0, .inr (4, [.int 0, .ref q7, .ref q15, .int 0, .ref q23, .ref q31, .ref q39, .int 0, .ref q47, .int 0, .ref q55, .ref q63, .null, .null, .null, .int 0, .int 0, .int 0, .long 0, .long 0])), (q7, .inl (c7, 20, .inl (fun _ => 0))), (q15, .inl (c15, 8, .inl (fun _ => 0))), (q23, .inl (c23, 120, .inl (fun _ => 0))), (q31, .inl (c31, 120, .inl (fun _ => 0))), (q39, .inl (c39, 120, .inl (fun _ => 0))), (q47, .inl (c47, 21, .inl (fun _ => 0))), (q55, .inl (c55, 21, .inl (fun _ => 0))), (q63, .inl (c63, 120, .inl (fun _ => 0)))] := hD
  refine lv_aload_n (pc := 68) hx hb dX4_init_68 rfl (lv_at hl 0 rfl) ?_
  refine lv_bipush (v := 120) (pc := 69) hx hb dX4_init_69 rfl ?_
  refine va_newa (D := D) (atype := .long) (ty := .long) (N' := 120) (a0 := (120, .inr (.inl (fun _ => 0)))) (pc := 71) hx hb (hw _ mw62) rfl hK hP hD hS hA (fun _ => rfl) (by decide) (by decide) (by decide) (Nat.le_of_ble_eq_true rfl) (Nat.le_of_ble_eq_true rfl) dX4_init_71 (fun q71 c71 H hK hP hD hS => ?_)
  replace hK : va_K D vwCl [(c7, .int), (c15, .int), (c23, .int), (c31, .int), (c39, .int), (c47, .int), (c55, .int), (c63, .int), (c71, .long)] s := hK
  replace hP : va_P D vwCl [(h0, .inr (4, [.int 0, .ref q7, .ref q15, .int 0, .ref q23, .ref q31, .ref q39, .int 0, .ref q47, .int 0, .ref q55, .ref q63, .null, .null, .null, .int 0, .int 0, .int 0, .long 0, .long 0])), (q7, .inl (c7, 20, .inl (fun _ => 0))), (q15, .inl (c15, 8, .inl (fun _ => 0))), (q23, .inl (c23, 120, .inl (fun _ => 0))), (q31, .inl (c31, 120, .inl (fun _ => 0))), (q39, .inl (c39, 120, .inl (fun _ => 0))), (q47, .inl (c47, 21, .inl (fun _ => 0))), (q55, .inl (c55, 21, .inl (fun _ => 0))), (q63, .inl (c63, 120, .inl (fun _ => 0))), (q71, .inl (c71, 120, .inr (.inl (fun _ => 0))))] H := hP
  replace hD : va_D A [(h0, .inr (4, [.int 0, .ref q7, .ref q15, .int 0, .ref q23, .ref q31, .ref q39, .int 0, .ref q47, .int 0, .ref q55, .ref q63, .null, .null, .null, .int 0, .int 0, .int 0, .long 0, .long 0])), (q7, .inl (c7, 20, .inl (fun _ => 0))), (q15, .inl (c15, 8, .inl (fun _ => 0))), (q23, .inl (c23, 120, .inl (fun _ => 0))), (q31, .inl (c31, 120, .inl (fun _ => 0))), (q39, .inl (c39, 120, .inl (fun _ => 0))), (q47, .inl (c47, 21, .inl (fun _ => 0))), (q55, .inl (c55, 21, .inl (fun _ => 0))), (q63, .inl (c63, 120, .inl (fun _ => 0))), (q71, .inl (c71, 120, .inr (.inl (fun _ => 0))))] := hD
  refine va_put (D := D) (ci := 4) (v := .ref q71) (ty := .array .long) (C := RX4) (T := TX4) (N := 20) (pc := 73) hx hb hw inX4 tyX4 tyX4_ok nmX4 hown hK hP hD hS 0 rfl rfl 12 (by decide) (hw _ mw439) (fun _ h9 => h9) rfl (by decide +kernel) rfl rfl (Nat.le_of_ble_eq_true rfl) dX4_init_73 (fun H locs hP hD hS => ?_)
  replace hP : va_P D vwCl [(h0, .inr (4, [.int 0, .ref q7, .ref q15, .int 0, .ref q23, .ref q31, .ref q39, .int 0, .ref q47, .int 0, .ref q55, .ref q63, .ref q71, .null, .null, .int 0, .int 0, .int 0, .long 0, .long 0])), (q7, .inl (c7, 20, .inl (fun _ => 0))), (q15, .inl (c15, 8, .inl (fun _ => 0))), (q23, .inl (c23, 120, .inl (fun _ => 0))), (q31, .inl (c31, 120, .inl (fun _ => 0))), (q39, .inl (c39, 120, .inl (fun _ => 0))), (q47, .inl (c47, 21, .inl (fun _ => 0))), (q55, .inl (c55, 21, .inl (fun _ => 0))), (q63, .inl (c63, 120, .inl (fun _ => 0))), (q71, .inl (c71, 120, .inr (.inl (fun _ => 0))))] H := hP
  replace hD : va_D A [(h0, .inr (4, [.int 0, .ref q7, .ref q15, .int 0, .ref q23, .ref q31, .ref q39, .int 0, .ref q47, .int 0, .ref q55, .ref q63, .ref q71, .null, .null, .int 0, .int 0, .int 0, .long 0, .long 0])), (q7, .inl (c7, 20, .inl (fun _ => 0))), (q15, .inl (c15, 8, .inl (fun _ => 0))), (q23, .inl (c23, 120, .inl (fun _ => 0))), (q31, .inl (c31, 120, .inl (fun _ => 0))), (q39, .inl (c39, 120, .inl (fun _ => 0))), (q47, .inl (c47, 21, .inl (fun _ => 0))), (q55, .inl (c55, 21, .inl (fun _ => 0))), (q63, .inl (c63, 120, .inl (fun _ => 0))), (q71, .inl (c71, 120, .inr (.inl (fun _ => 0))))] := hD
  refine lv_aload_n (pc := 76) hx hb dX4_init_76 rfl (lv_at hl 0 rfl) ?_
  refine lv_bipush (v := 120) (pc := 77) hx hb dX4_init_77 rfl ?_
  refine va_newa (D := D) (atype := .long) (ty := .long) (N' := 120) (a0 := (120, .inr (.inl (fun _ => 0)))) (pc := 79) hx hb (hw _ mw62) rfl hK hP hD hS hA (fun _ => rfl) (by decide) (by decide) (by decide) (Nat.le_of_ble_eq_true rfl) (Nat.le_of_ble_eq_true rfl) dX4_init_79 (fun q79 c79 H hK hP hD hS => ?_)
  replace hK : va_K D vwCl [(c7, .int), (c15, .int), (c23, .int), (c31, .int), (c39, .int), (c47, .int), (c55, .int), (c63, .int), (c71, .long), (c79, .long)] s := hK
  replace hP : va_P D vwCl [(h0, .inr (4, [.int 0, .ref q7, .ref q15, .int 0, .ref q23, .ref q31, .ref q39, .int 0, .ref q47, .int 0, .ref q55, .ref q63, .ref q71, .null, .null, .int 0, .int 0, .int 0, .long 0, .long 0])), (q7, .inl (c7, 20, .inl (fun _ => 0))), (q15, .inl (c15, 8, .inl (fun _ => 0))), (q23, .inl (c23, 120, .inl (fun _ => 0))), (q31, .inl (c31, 120, .inl (fun _ => 0))), (q39, .inl (c39, 120, .inl (fun _ => 0))), (q47, .inl (c47, 21, .inl (fun _ => 0))), (q55, .inl (c55, 21, .inl (fun _ => 0))), (q63, .inl (c63, 120, .inl (fun _ => 0))), (q71, .inl (c71, 120, .inr (.inl (fun _ => 0)))), (q79, .inl (c79, 120, .inr (.inl (fun _ => 0))))] H := hP
  replace hD : va_D A [(h0, .inr (4, [.int 0, .ref q7, .ref q15, .int 0, .ref q23, .ref q31, .ref q39, .int 0, .ref q47, .int 0, .ref q55, .ref q63, .ref q71, .null, .null, .int 0, .int 0, .int 0, .long 0, .long 0])), (q7, .inl (c7, 20, .inl (fun _ => 0))), (q15, .inl (c15, 8, .inl (fun _ => 0))), (q23, .inl (c23, 120, .inl (fun _ => 0))), (q31, .inl (c31, 120, .inl (fun _ => 0))), (q39, .inl (c39, 120, .inl (fun _ => 0))), (q47, .inl (c47, 21, .inl (fun _ => 0))), (q55, .inl (c55, 21, .inl (fun _ => 0))), (q63, .inl (c63, 120, .inl (fun _ => 0))), (q71, .inl (c71, 120, .inr (.inl (fun _ => 0)))), (q79, .inl (c79, 120, .inr (.inl (fun _ => 0))))] := hD
  refine va_put (D := D) (ci := 4) (v := .ref q79) (ty := .array .long) (C := RX4) (T := TX4) (N := 20) (pc := 81) hx hb hw inX4 tyX4 tyX4_ok nmX4 hown hK hP hD hS 0 rfl rfl 13 (by decide) (hw _ mw440) (fun _ h9 => h9) rfl (by decide +kernel) rfl rfl (Nat.le_of_ble_eq_true rfl) dX4_init_81 (fun H locs hP hD hS => ?_)
  replace hP : va_P D vwCl [(h0, .inr (4, [.int 0, .ref q7, .ref q15, .int 0, .ref q23, .ref q31, .ref q39, .int 0, .ref q47, .int 0, .ref q55, .ref q63, .ref q71, .ref q79, .null, .int 0, .int 0, .int 0, .long 0, .long 0])), (q7, .inl (c7, 20, .inl (fun _ => 0))), (q15, .inl (c15, 8, .inl (fun _ => 0))), (q23, .inl (c23, 120, .inl (fun _ => 0))), (q31, .inl (c31, 120, .inl (fun _ => 0))), (q39, .inl (c39, 120, .inl (fun _ => 0))), (q47, .inl (c47, 21, .inl (fun _ => 0))), (q55, .inl (c55, 21, .inl (fun _ => 0))), (q63, .inl (c63, 120, .inl (fun _ => 0))), (q71, .inl (c71, 120, .inr (.inl (fun _ => 0)))), (q79, .inl (c79, 120, .inr (.inl (fun _ => 0))))] H := hP
  replace hD : va_D A [(h0, .inr (4, [.int 0, .ref q7, .ref q15, .int 0, .ref q23, .ref q31, .ref q39, .int 0, .ref q47, .int 0, .ref q55, .ref q63, .ref q71, .ref q79, .null, .int 0, .int 0, .int 0, .long 0, .long 0])), (q7, .inl (c7, 20, .inl (fun _ => 0))), (q15, .inl (c15, 8, .inl (fun _ => 0))), (q23, .inl (c23, 120, .inl (fun _ => 0))), (q31, .inl (c31, 120, .inl (fun _ => 0))), (q39, .inl (c39, 120, .inl (fun _ => 0))), (q47, .inl (c47, 21, .inl (fun _ => 0))), (q55, .inl (c55, 21, .inl (fun _ => 0))), (q63, .inl (c63, 120, .inl (fun _ => 0))), (q71, .inl (c71, 120, .inr (.inl (fun _ => 0)))), (q79, .inl (c79, 120, .inr (.inl (fun _ => 0))))] := hD
  refine lv_aload_n (pc := 84) hx hb dX4_init_84 rfl (lv_at hl 0 rfl) ?_
  refine lv_bipush (v := 120) (pc := 85) hx hb dX4_init_85 rfl ?_
  refine va_newa (D := D) (atype := .boolean) (ty := .boolean) (N' := 120) (a0 := (120, .inl (fun _ => 0))) (pc := 87) hx hb (hw _ mw61) rfl hK hP hD hS hA (fun _ => rfl) (by decide) (by decide) (by decide) (Nat.le_of_ble_eq_true rfl) (Nat.le_of_ble_eq_true rfl) dX4_init_87 (fun q87 c87 H hK hP hD hS => ?_)
  replace hK : va_K D vwCl [(c7, .int), (c15, .int), (c23, .int), (c31, .int), (c39, .int), (c47, .int), (c55, .int), (c63, .int), (c71, .long), (c79, .long), (c87, .boolean)] s := hK
  replace hP : va_P D vwCl [(h0, .inr (4, [.int 0, .ref q7, .ref q15, .int 0, .ref q23, .ref q31, .ref q39, .int 0, .ref q47, .int 0, .ref q55, .ref q63, .ref q71, .ref q79, .null, .int 0, .int 0, .int 0, .long 0, .long 0])), (q7, .inl (c7, 20, .inl (fun _ => 0))), (q15, .inl (c15, 8, .inl (fun _ => 0))), (q23, .inl (c23, 120, .inl (fun _ => 0))), (q31, .inl (c31, 120, .inl (fun _ => 0))), (q39, .inl (c39, 120, .inl (fun _ => 0))), (q47, .inl (c47, 21, .inl (fun _ => 0))), (q55, .inl (c55, 21, .inl (fun _ => 0))), (q63, .inl (c63, 120, .inl (fun _ => 0))), (q71, .inl (c71, 120, .inr (.inl (fun _ => 0)))), (q79, .inl (c79, 120, .inr (.inl (fun _ => 0)))), (q87, .inl (c87, 120, .inl (fun _ => 0)))] H := hP
  replace hD : va_D A [(h0, .inr (4, [.int 0, .ref q7, .ref q15, .int 0, .ref q23, .ref q31, .ref q39, .int 0, .ref q47, .int 0, .ref q55, .ref q63, .ref q71, .ref q79, .null, .int 0, .int 0, .int 0, .long 0, .long 0])), (q7, .inl (c7, 20, .inl (fun _ => 0))), (q15, .inl (c15, 8, .inl (fun _ => 0))), (q23, .inl (c23, 120, .inl (fun _ => 0))), (q31, .inl (c31, 120, .inl (fun _ => 0))), (q39, .inl (c39, 120, .inl (fun _ => 0))), (q47, .inl (c47, 21, .inl (fun _ => 0))), (q55, .inl (c55, 21, .inl (fun _ => 0))), (q63, .inl (c63, 120, .inl (fun _ => 0))), (q71, .inl (c71, 120, .inr (.inl (fun _ => 0)))), (q79, .inl (c79, 120, .inr (.inl (fun _ => 0)))), (q87, .inl (c87, 120, .inl (fun _ => 0)))] := hD
  refine va_put (D := D) (ci := 4) (v := .ref q87) (ty := .array .boolean) (C := RX4) (T := TX4) (N := 20) (pc := 89) hx hb hw inX4 tyX4 tyX4_ok nmX4 hown hK hP hD hS 0 rfl rfl 14 (by decide) (hw _ mw441) (fun _ h9 => h9) rfl (by decide +kernel) rfl rfl (Nat.le_of_ble_eq_true rfl) dX4_init_89 (fun H locs hP hD hS => ?_)
  replace hP : va_P D vwCl [(h0, .inr (4, [.int 0, .ref q7, .ref q15, .int 0, .ref q23, .ref q31, .ref q39, .int 0, .ref q47, .int 0, .ref q55, .ref q63, .ref q71, .ref q79, .ref q87, .int 0, .int 0, .int 0, .long 0, .long 0])), (q7, .inl (c7, 20, .inl (fun _ => 0))), (q15, .inl (c15, 8, .inl (fun _ => 0))), (q23, .inl (c23, 120, .inl (fun _ => 0))), (q31, .inl (c31, 120, .inl (fun _ => 0))), (q39, .inl (c39, 120, .inl (fun _ => 0))), (q47, .inl (c47, 21, .inl (fun _ => 0))), (q55, .inl (c55, 21, .inl (fun _ => 0))), (q63, .inl (c63, 120, .inl (fun _ => 0))), (q71, .inl (c71, 120, .inr (.inl (fun _ => 0)))), (q79, .inl (c79, 120, .inr (.inl (fun _ => 0)))), (q87, .inl (c87, 120, .inl (fun _ => 0)))] H := hP
  replace hD : va_D A [(h0, .inr (4, [.int 0, .ref q7, .ref q15, .int 0, .ref q23, .ref q31, .ref q39, .int 0, .ref q47, .int 0, .ref q55, .ref q63, .ref q71, .ref q79, .ref q87, .int 0, .int 0, .int 0, .long 0, .long 0])), (q7, .inl (c7, 20, .inl (fun _ => 0))), (q15, .inl (c15, 8, .inl (fun _ => 0))), (q23, .inl (c23, 120, .inl (fun _ => 0))), (q31, .inl (c31, 120, .inl (fun _ => 0))), (q39, .inl (c39, 120, .inl (fun _ => 0))), (q47, .inl (c47, 21, .inl (fun _ => 0))), (q55, .inl (c55, 21, .inl (fun _ => 0))), (q63, .inl (c63, 120, .inl (fun _ => 0))), (q71, .inl (c71, 120, .inr (.inl (fun _ => 0)))), (q79, .inl (c79, 120, .inr (.inl (fun _ => 0)))), (q87, .inl (c87, 120, .inl (fun _ => 0)))] := hD
  exact W.vret hx hb hr (fun t ht hW => ⟨⟨((ez_a [h0, q7, q15, q23, q31, q39, q47, q55, q63, q71, q79, q87]), (ez_k [0, c7, c15, c23, c31, c39, c47, c55, c63, c71, c79, c87])), rfl, rfl, by rw [ht]; exact hP, va_K.moved hW.alike hK, hD⟩, hS.F ht⟩) hS.2.2 dX4_init_92
theorem dX1_init_0 : decode cX1_init 0 = .ok (.aload_n 0, 1) := by decide +kernel
theorem dX1_init_1 : decode cX1_init 1 = .ok (.invokespecial 3, 3) := by decide +kernel
theorem dX1_init_4 : decode cX1_init 4 = .ok (.aload_n 0, 1) := by decide +kernel
theorem dX1_init_5 : decode cX1_init 5 = .ok (.aload_n 1, 1) := by decide +kernel
theorem dX1_init_6 : decode cX1_init 6 = .ok (.putfield 9, 3) := by decide +kernel
theorem dX1_init_9 : decode cX1_init 9 = .ok (.aload_n 0, 1) := by decide +kernel
theorem dX1_init_10 : decode cX1_init 10 = .ok (.iload_n 2, 1) := by decide +kernel
theorem dX1_init_11 : decode cX1_init 11 = .ok (.putfield 15, 3) := by decide +kernel
theorem dX1_init_14 : decode cX1_init 14 = .ok (.aload_n 0, 1) := by decide +kernel
theorem dX1_init_15 : decode cX1_init 15 = .ok (.aload_n 3, 1) := by decide +kernel
theorem dX1_init_16 : decode cX1_init 16 = .ok (.putfield 19, 3) := by decide +kernel
theorem dX1_init_19 : decode cX1_init 19 = .ok (.aload_n 0, 1) := by decide +kernel
theorem dX1_init_20 : decode cX1_init 20 = .ok (.aload 4, 2) := by decide +kernel
theorem dX1_init_22 : decode cX1_init 22 = .ok (.putfield 23, 3) := by decide +kernel
theorem dX1_init_25 : decode cX1_init 25 = .ok (.return_, 1) := by decide +kernel
set_option maxHeartbeats 4000000 in
set_option maxRecDepth 100000 in
theorem kX1_init (l : Launch) (D : va_G) (tys : List (ClassId × FieldType)) (a : Nat → Nat) (b : Nat) (x : Int32) (sz : Nat) : Met l yX1_init wsX1_init ({ frames := 1, cells := 0, slots := 0, locals := 12 } : Room) (ez_Pc D tys [.ref b, .ref (a 1), .int x, .ref (a 3), .ref (a 2)] [(b, .inr (1, [.null, .int 0, .null, .null, .int 0, .int 0]))] sz) (ez_Qv D tys (va_A [(b, .inr (1, [.null, .int 0, .null, .null, .int 0, .int 0]))] sz) (rdc b a (ez_v0 x))) 0 0 (va_A [(b, .inr (1, [.null, .int 0, .null, .null, .int 0, .int 0]))] sz) := by
  refine ez_mk (Qf := fun A => ez_Qv D tys A (rdc b a (ez_v0 x))) (by decide) rfl (Nat.le_of_ble_eq_true rfl) (fun p e s m below meth c A ls C0 hin hl hP hD hK => ?_) sz
  replace hin : meth.name = "<init>" := hin
  replace hl : lv_has ls 5 [(0, .ref b), (1, .ref (a 1)), (2, .int x), (3, .ref (a 3)), (4, .ref (a 2))] := hl
  have hS : va_S A s.heap s.heap [] := va_S.rf
  have C1 := C0
  obtain ⟨hx, hb, hr, hml, hown, hw, hlk, hA, hN⟩ := C1
  refine lv_aload_n (pc := 0) hx hb dX1_init_0 rfl (lv_at hl 0 rfl) ?_
  refine W.objInit hx hb hown (hw _ mw140) (hw _ mw13) (hw _ mw14) rfl (by rw [hml]; exact hl.1) rfl dX1_init_1 (Nat.le_of_ble_eq_true rfl) (Nat.le_of_ble_eq_true rfl) ?_
  refine W.eq (g2 := F0 m 4 ls []) rfl ?_
  refine lv_aload_n (pc := 4) hx hb dX1_init_4 rfl (lv_at hl 0 rfl) ?_
  refine lv_aload_n (pc := 5) hx hb dX1_init_5 rfl (lv_at hl 1 rfl) ?_
  refine va_putF (D := D) (ci := 1) (v := .ref (a 1)) (ty := .array .char) (C := RX1) (T := TX1) (N := 6) (pc := 6) hx hb hw inX1 tyX1 tyX1_ok nmX1 hown hK hP hD hS 0 rfl rfl 0 (by decide) (hw _ mw141) (fun _ h9 => h9) rfl hin rfl (by decide +kernel) rfl rfl (Nat.le_of_ble_eq_true rfl) dX1_init_6 (fun H locs hP hD hS => ?_)
  replace hP : va_P D vwCl [(b, .inr (1, [.ref (a 1), .int 0, .null, .null, .int 0, .int 0]))] H := hP
  replace hD : va_D A [(b, .inr (1, [.ref (a 1), .int 0, .null, .null, .int 0, .int 0]))] := hD
  refine lv_aload_n (pc := 9) hx hb dX1_init_9 rfl (lv_at hl 0 rfl) ?_
  refine lv_iload_n (pc := 10) hx hb dX1_init_10 rfl (lv_at hl 2 rfl) ?_
  refine va_putF (D := D) (ci := 1) (v := .int x) (ty := .int) (C := RX1) (T := TX1) (N := 6) (pc := 11) hx hb hw inX1 tyX1 tyX1_ok nmX1 hown hK hP hD hS 0 rfl rfl 1 (by decide) (hw _ mw142) (fun _ h9 => h9) rfl hin rfl (by decide +kernel) rfl rfl (Nat.le_of_ble_eq_true rfl) dX1_init_11 (fun H locs hP hD hS => ?_)
  replace hP : va_P D vwCl [(b, .inr (1, [.ref (a 1), .int x, .null, .null, .int 0, .int 0]))] H := hP
  replace hD : va_D A [(b, .inr (1, [.ref (a 1), .int x, .null, .null, .int 0, .int 0]))] := hD
  refine lv_aload_n (pc := 14) hx hb dX1_init_14 rfl (lv_at hl 0 rfl) ?_
  refine lv_aload_n (pc := 15) hx hb dX1_init_15 rfl (lv_at hl 3 rfl) ?_
  refine va_putF (D := D) (ci := 1) (v := .ref (a 3)) (ty := .array .int) (C := RX1) (T := TX1) (N := 6) (pc := 16) hx hb hw inX1 tyX1 tyX1_ok nmX1 hown hK hP hD hS 0 rfl rfl 2 (by decide) (hw _ mw143) (fun _ h9 => h9) rfl hin rfl (by decide +kernel) rfl rfl (Nat.le_of_ble_eq_true rfl) dX1_init_16 (fun H locs hP hD hS => ?_)
  replace hP : va_P D vwCl [(b, .inr (1, [.ref (a 1), .int x, .ref (a 3), .null, .int 0, .int 0]))] H := hP
  replace hD : va_D A [(b, .inr (1, [.ref (a 1), .int x, .ref (a 3), .null, .int 0, .int 0]))] := hD
  refine lv_aload_n (pc := 19) hx hb dX1_init_19 rfl (lv_at hl 0 rfl) ?_
  refine lv_aload (pc := 20) hx hb dX1_init_20 (lv_at hl 4 rfl) ?_
  refine va_putF (D := D) (ci := 1) (v := .ref (a 2)) (ty := .object "EnclosureCalculator$Parts") (C := RX1) (T := TX1) (N := 6) (pc := 22) hx hb hw inX1 tyX1 tyX1_ok nmX1 hown hK hP hD hS 0 rfl rfl 3 (by decide) (hw _ mw144) (fun _ h9 => h9) rfl hin rfl (by decide +kernel) rfl rfl (Nat.le_of_ble_eq_true rfl) dX1_init_22 (fun H locs hP hD hS => ?_)
  replace hP : va_P D vwCl [(b, .inr (1, [.ref (a 1), .int x, .ref (a 3), .ref (a 2), .int 0, .int 0]))] H := hP
  replace hD : va_D A [(b, .inr (1, [.ref (a 1), .int x, .ref (a 3), .ref (a 2), .int 0, .int 0]))] := hD
  exact ez_retV (wl := rdc b a (ez_v0 x)) C0 hP hD hK hS dX1_init_25
