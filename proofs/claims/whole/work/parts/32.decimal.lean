def ez_p (j : Nat) : Int64 := ([1, 10, 100, 1000, 10000, 100000, 1000000] : List Int64).getD j 0
def ez_pt (j : Nat) : Value := .long (ez_p j)
def ez_p10 (i : Int32) : Option Int64 := if i < 0 ∨ 7 ≤ i.toNatClampNeg then none else some (ez_p i.toNatClampNeg)
theorem ez_p10s {i : Int32} {v : Int64} (h : ez_p10 i = some v) : vp_in i 7 ∧ v = ez_p i.toNatClampNeg := by
  unfold ez_p10 at h
  by_cases hc : i < 0 ∨ 7 ≤ i.toNatClampNeg
  · rw [if_pos hc] at h; cases h
  · rw [if_neg hc] at h; exact ⟨hc, (Option.some.inj h).symm⟩
def ez_Tc (D : va_G) (tys : List (ClassId × FieldType)) (vs : List Value) (wl : va_W) (t : Nat) : Array Value → State → Prop := va_Pc vs (fun U => va_P D vwCl wl U.heap ∧ va_K D vwCl tys U ∧ ez_N U ∧ va_Z RX3 "POWERS_OF_TEN" "[J" (.ref t) (fun _ => False) U U.heap ∧ va_T .long t 7 ez_pt (fun _ => False) U U.heap)
theorem ez_blindT {D : va_G} {tys : List (ClassId × FieldType)} {wl : va_W} {vs : List Value} {t : Nat} : FrameBlind (ez_Tc D tys vs wl t) := fun a U g mk q => by
  obtain ⟨q0, qP, qK, qN, qZ, qT⟩ := q
  exact ⟨q0, qP, va_K.moved (u := U) (U := U.calling g mk a) (Vm.Alike.refl U.vm) qK, ez_N.same rfl qN, va_Z.moved (u := U) (U := U.calling g mk a) (Vm.Alike.refl U.vm) qZ, va_T.moved (u := U) (U := U.calling g mk a) (Vm.Alike.refl U.vm) qT⟩
theorem dX3_decimal_0 : decode cX3_decimal 0 = .ok (.aload_n 0, 1) := by decide +kernel
theorem dX3_decimal_1 : decode cX3_decimal 1 = .ok (.getfield 90, 3) := by decide +kernel
theorem dX3_decimal_4 : decode cX3_decimal 4 = .ok (.iconst (-1), 1) := by decide +kernel
theorem dX3_decimal_5 : decode cX3_decimal 5 = .ok (.if_icmp .eq 15, 3) := by decide +kernel
theorem dX3_decimal_8 : decode cX3_decimal 8 = .ok (.iload_n 1, 1) := by decide +kernel
theorem dX3_decimal_9 : decode cX3_decimal 9 = .ok (.ifCond .lt 11, 3) := by decide +kernel
theorem dX3_decimal_12 : decode cX3_decimal 12 = .ok (.iload_n 1, 1) := by decide +kernel
theorem dX3_decimal_13 : decode cX3_decimal 13 = .ok (.getstatic 100, 3) := by decide +kernel
theorem dX3_decimal_16 : decode cX3_decimal 16 = .ok (.arraylength, 1) := by decide +kernel
theorem dX3_decimal_17 : decode cX3_decimal 17 = .ok (.if_icmp .lt 5, 3) := by decide +kernel
theorem dX3_decimal_20 : decode cX3_decimal 20 = .ok (.lconst 0, 1) := by decide +kernel
theorem dX3_decimal_21 : decode cX3_decimal 21 = .ok (.lreturn, 1) := by decide +kernel
theorem dX3_decimal_22 : decode cX3_decimal 22 = .ok (.aload_n 0, 1) := by decide +kernel
theorem dX3_decimal_23 : decode cX3_decimal 23 = .ok (.getfield 93, 3) := by decide +kernel
theorem dX3_decimal_26 : decode cX3_decimal 26 = .ok (.aload_n 0, 1) := by decide +kernel
theorem dX3_decimal_27 : decode cX3_decimal 27 = .ok (.getfield 97, 3) := by decide +kernel
theorem dX3_decimal_30 : decode cX3_decimal 30 = .ok (.ladd, 1) := by decide +kernel
theorem dX3_decimal_31 : decode cX3_decimal 31 = .ok (.getstatic 100, 3) := by decide +kernel
theorem dX3_decimal_34 : decode cX3_decimal 34 = .ok (.iload_n 1, 1) := by decide +kernel
theorem dX3_decimal_35 : decode cX3_decimal 35 = .ok (.laload, 1) := by decide +kernel
theorem dX3_decimal_36 : decode cX3_decimal 36 = .ok (.lmul, 1) := by decide +kernel
theorem dX3_decimal_37 : decode cX3_decimal 37 = .ok (.lstore_n 2, 1) := by decide +kernel
theorem dX3_decimal_38 : decode cX3_decimal 38 = .ok (.lload_n 2, 1) := by decide +kernel
theorem dX3_decimal_39 : decode cX3_decimal 39 = .ok (.lconst 1, 1) := by decide +kernel
theorem dX3_decimal_40 : decode cX3_decimal 40 = .ok (.aload_n 0, 1) := by decide +kernel
theorem dX3_decimal_41 : decode cX3_decimal 41 = .ok (.getfield 90, 3) := by decide +kernel
theorem dX3_decimal_44 : decode cX3_decimal 44 = .ok (.lshl, 1) := by decide +kernel
theorem dX3_decimal_45 : decode cX3_decimal 45 = .ok (.ladd, 1) := by decide +kernel
theorem dX3_decimal_46 : decode cX3_decimal 46 = .ok (.aload_n 0, 1) := by decide +kernel
theorem dX3_decimal_47 : decode cX3_decimal 47 = .ok (.getfield 90, 3) := by decide +kernel
theorem dX3_decimal_50 : decode cX3_decimal 50 = .ok (.iconst 1, 1) := by decide +kernel
theorem dX3_decimal_51 : decode cX3_decimal 51 = .ok (.iadd, 1) := by decide +kernel
theorem dX3_decimal_52 : decode cX3_decimal 52 = .ok (.lshr, 1) := by decide +kernel
theorem dX3_decimal_53 : decode cX3_decimal 53 = .ok (.lreturn, 1) := by decide +kernel
def fX3_decimal (n : Nat) (x1 : Int32) (w : Wd) : Option (Int64) :=
    if (w.1 0 2) = (-1) then
      some 0
    else
      if x1 < 0 then
        some 0
      else
        if x1 < 7 then
          (ez_p10 x1).bind fun y5 =>
          some (((((w.2 0 0) + (w.2 0 1)) * y5) + ((1 : Int64) <<< (Int32.toInt64 (w.1 0 2) &&& 63))) >>> (Int32.toInt64 ((w.1 0 2) + 1) &&& 63))
        else
          some 0
set_option maxHeartbeats 4000000 in
set_option maxRecDepth 100000 in
theorem tX3_decimal_0 {p : Program} {l : Launch} {e : Env} {s : State} {m : MethodId} {args : Array Value} {below : List Frame} {meth : Method} {c : Code} {D : va_G} {a : Nat → Nat} {k : Nat → ClassId} {z : Int64} {w : Wd} (C0 : ez_C p s m args meth c cX3_decimal (some .long) 4 RX3 (fun _ => True)) (hK : va_K D vwCl (tC k) s) (hP : va_P D vwCl (wC a k w) s.heap) {t : Nat} (hZ : va_Z RX3 "POWERS_OF_TEN" "[J" (.ref t) (fun _ => False) s s.heap) (hT : va_T .long t 7 ez_pt (fun _ => False) s s.heap) : ∀ (n : Nat) (ls : Array Slot) (x1 : Int32), lv_has ls 4 [(0, .ref (a 0)), (1, .int x1)] → fX3_decimal n x1 w = some z → W p l e ({ frames := 0, cells := 0, slots := 0, locals := 0 } : Room) s m args below meth c s.heap [] 0 0 (MQ below (ez_Rl z) args s 0 0 (fun _ => False)) (F0 m 0 ls []) := by
  intro n
  intro ls x1 hl h
  rw [fX3_decimal] at h
  have C1 := C0
  obtain ⟨hx, hb, hr, hml, hown, hw, hlk, hA, hN⟩ := C1
  refine lv_aload_n (pc := 0) hx hb dX3_decimal_0 rfl (lv_at hl 0 rfl) ?_
  refine va_get (D := D) (pc := 1) hx hb hw inX3 hown hK hP 0 rfl rfl 6 (by decide) (hw _ mw81) (fun _ h9 => h9) rfl dX3_decimal_1 ?_
  refine lv_iconst (v := (-1)) (pc := 4) hx hb dX3_decimal_4 rfl ?_
  refine lv_icmp_eq (pc := 5) (tgt := 20) hx hb dX3_decimal_5 (by decide) (fun c1 => ?_) (fun c1 => ?_)
  · replace h := ez_it c1 h
    refine lv_lconst (v := 0) (pc := 20) hx hb dX3_decimal_20 rfl ?_
    obtain rfl := ez_r1 h
    exact ez_rroL C0 dX3_decimal_21
  · replace h := ez_if c1 h
    refine lv_iload_n (pc := 8) hx hb dX3_decimal_8 rfl (lv_at hl 1 rfl) ?_
    refine lv_if_lt (pc := 9) (tgt := 20) hx hb dX3_decimal_9 (by decide) (fun c2 => ?_) (fun c2 => ?_)
    · replace h := ez_it c2 h
      refine lv_lconst (v := 0) (pc := 20) hx hb dX3_decimal_20 rfl ?_
      obtain rfl := ez_r1 h
      exact ez_rroL C0 dX3_decimal_21
    · replace h := ez_if c2 h
      refine lv_iload_n (pc := 12) hx hb dX3_decimal_12 rfl (lv_at hl 1 rfl) ?_
      refine va_gets (A := fun _ => False) (C := RX3) (n := "POWERS_OF_TEN") (d := "[J") (v := .ref t) (ref := RX3) (pc := 13) hx hb hZ va_S.rf hown (hw _ mw419) (fun _ h9 => h9) dX3_decimal_13 ?_
      refine va_tlen (A := fun _ => False) (t := t) (v := 7) (pc := 16) hx hb hT va_S.rf rfl dX3_decimal_16 ?_
      refine lv_icmp_lt (pc := 17) (tgt := 22) hx hb dX3_decimal_17 (by decide) (fun c3 => ?_) (fun c3 => ?_)
      · replace h := ez_it c3 h
        refine lv_aload_n (pc := 22) hx hb dX3_decimal_22 rfl (lv_at hl 0 rfl) ?_
        refine va_get (D := D) (pc := 23) hx hb hw inX3 hown hK hP 0 rfl rfl 7 (by decide) (hw _ mw82) (fun _ h9 => h9) rfl dX3_decimal_23 ?_
        refine lv_aload_n (pc := 26) hx hb dX3_decimal_26 rfl (lv_at hl 0 rfl) ?_
        refine va_get (D := D) (pc := 27) hx hb hw inX3 hown hK hP 0 rfl rfl 8 (by decide) (hw _ mw83) (fun _ h9 => h9) rfl dX3_decimal_27 ?_
        refine lv_ladd (pc := 30) hx hb dX3_decimal_30 ?_
        refine va_gets (A := fun _ => False) (C := RX3) (n := "POWERS_OF_TEN") (d := "[J") (v := .ref t) (ref := RX3) (pc := 31) hx hb hZ va_S.rf hown (hw _ mw419) (fun _ h9 => h9) dX3_decimal_31 ?_
        refine lv_iload_n (pc := 34) hx hb dX3_decimal_34 rfl (lv_at hl 1 rfl) ?_
        replace h := ez_bd h
        obtain ⟨y5, e4, h⟩ := h
        obtain ⟨e4i, e4⟩ := ez_p10s e4
        refine va_tl (A := fun _ => False) (t := t) (v := .long y5) (pc := 35) hx hb hT va_S.rf e4i (by rw [e4]; rfl) dX3_decimal_35 ?_
        refine lv_lmul (pc := 36) hx hb dX3_decimal_36 ?_
        refine lv_lstore_n (pc := 37) hx hb dX3_decimal_37 rfl hl (by decide) rfl (fun ls hl => ?_)
        replace hl : lv_has ls 4 [(2, .long (((w.2 0 0) + (w.2 0 1)) * y5)), (0, .ref (a 0)), (1, .int x1)] := hl
        refine lv_lload_n (pc := 38) hx hb dX3_decimal_38 rfl (lv_at hl 0 rfl) ?_
        refine lv_lconst (v := 1) (pc := 39) hx hb dX3_decimal_39 rfl ?_
        refine lv_aload_n (pc := 40) hx hb dX3_decimal_40 rfl (lv_at hl 1 rfl) ?_
        refine va_get (D := D) (pc := 41) hx hb hw inX3 hown hK hP 0 rfl rfl 6 (by decide) (hw _ mw81) (fun _ h9 => h9) rfl dX3_decimal_41 ?_
        refine lv_lshl (pc := 44) hx hb dX3_decimal_44 rfl ?_
        refine lv_ladd (pc := 45) hx hb dX3_decimal_45 ?_
        refine lv_aload_n (pc := 46) hx hb dX3_decimal_46 rfl (lv_at hl 1 rfl) ?_
        refine va_get (D := D) (pc := 47) hx hb hw inX3 hown hK hP 0 rfl rfl 6 (by decide) (hw _ mw81) (fun _ h9 => h9) rfl dX3_decimal_47 ?_
        refine lv_iconst (v := 1) (pc := 50) hx hb dX3_decimal_50 rfl ?_
        refine lv_iadd (pc := 51) hx hb dX3_decimal_51 ?_
        refine lv_lshr (pc := 52) hx hb dX3_decimal_52 rfl ?_
        obtain rfl := ez_r1 h
        exact ez_rroL C0 dX3_decimal_53
      · replace h := ez_if c3 h
        refine lv_lconst (v := 0) (pc := 20) hx hb dX3_decimal_20 rfl ?_
        obtain rfl := ez_r1 h
        exact ez_rroL C0 dX3_decimal_21
set_option maxRecDepth 100000 in
theorem kX3_decimal (l : Launch) (D : va_G) (a : Nat → Nat) (k : Nat → ClassId) (t : Nat) (n : Nat) (x1 : Int32) (w : Wd) (z : Int64) (h : fX3_decimal n x1 w = some z) : Met l yX3_decimal wsX3_decimal ({ frames := 0, cells := 0, slots := 0, locals := 0 } : Room) (ez_Tc D (tC k) [.ref (a 0), .int x1] (wC a k w) t) (ez_Rl z) 0 0 (fun _ => False) := by
  refine Met.ofW (cc := cX3_decimal) (maxL := 4) (ret := some .long) (by decide) rfl ?_
  intro p e s m args below meth c s₁ B hml hv
  obtain ⟨rfl, hP, hK, hN, hZ, hT⟩ := hv
  have hl := lv_entry [.ref (a 0), .int x1] (n := 4) (Nat.le_of_ble_eq_true rfl)
  rw [lg_entry_eq]
  generalize (lg_sl [.ref (a 0), .int x1] ++ List.replicate (4 - (lg_sl [.ref (a 0), .int x1]).length) Slot.unset).toArray = ls at hl ⊢
  exact tX3_decimal_0 ⟨B.exec, B.bytes, B.returns, hml, findClass_of_methodNamed B.named, fun w h => atoms_spec (ws := wsX3_decimal) B.pre w (List.mem_cons_of_mem _ h), B.notSynchronized, fun q h => trivial, hN⟩ hK hP hZ hT n ls x1 hl h
