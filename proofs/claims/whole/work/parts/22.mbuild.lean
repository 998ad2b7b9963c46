/-! EnclosureCalculatorModel build -/
theorem dX4_build_0 : decode cX4_build 0 = .ok (.aload_n 0, 1) := by decide +kernel
theorem dX4_build_1 : decode cX4_build 1 = .ok (.iconst 0, 1) := by decide +kernel
theorem dX4_build_2 : decode cX4_build 2 = .ok (.putfield 66, 3) := by decide +kernel
theorem dX4_build_5 : decode cX4_build 5 = .ok (.aload_n 0, 1) := by decide +kernel
theorem dX4_build_6 : decode cX4_build 6 = .ok (.iconst 0, 1) := by decide +kernel
theorem dX4_build_7 : decode cX4_build 7 = .ok (.putfield 77, 3) := by decide +kernel
theorem dX4_build_10 : decode cX4_build 10 = .ok (.iconst 1, 1) := by decide +kernel
theorem dX4_build_11 : decode cX4_build 11 = .ok (.istore_n 1, 1) := by decide +kernel
theorem dX4_build_12 : decode cX4_build 12 = .ok (.iconst 0, 1) := by decide +kernel
theorem dX4_build_13 : decode cX4_build 13 = .ok (.istore_n 2, 1) := by decide +kernel
theorem dX4_build_14 : decode cX4_build 14 = .ok (.iload_n 2, 1) := by decide +kernel
theorem dX4_build_15 : decode cX4_build 15 = .ok (.aload_n 0, 1) := by decide +kernel
theorem dX4_build_16 : decode cX4_build 16 = .ok (.getfield 45, 3) := by decide +kernel
theorem dX4_build_19 : decode cX4_build 19 = .ok (.if_icmp .ge 211, 3) := by decide +kernel
theorem dX4_build_22 : decode cX4_build 22 = .ok (.aload_n 0, 1) := by decide +kernel
theorem dX4_build_23 : decode cX4_build 23 = .ok (.getfield 7, 3) := by decide +kernel
theorem dX4_build_26 : decode cX4_build 26 = .ok (.iload_n 2, 1) := by decide +kernel
theorem dX4_build_27 : decode cX4_build 27 = .ok (.iaload, 1) := by decide +kernel
theorem dX4_build_28 : decode cX4_build 28 = .ok (.istore_n 3, 1) := by decide +kernel
theorem dX4_build_29 : decode cX4_build 29 = .ok (.iload_n 3, 1) := by decide +kernel
theorem dX4_build_30 : decode cX4_build 30 = .ok (.invokestatic 49, 3) := by decide +kernel
theorem dX4_build_33 : decode cX4_build 33 = .ok (.ifCond .eq 14, 3) := by decide +kernel
theorem dX4_build_36 : decode cX4_build 36 = .ok (.aload_n 0, 1) := by decide +kernel
theorem dX4_build_37 : decode cX4_build 37 = .ok (.iload_n 2, 1) := by decide +kernel
theorem dX4_build_38 : decode cX4_build 38 = .ok (.invokevirtual 94, 3) := by decide +kernel
theorem dX4_build_41 : decode cX4_build 41 = .ok (.istore_n 2, 1) := by decide +kernel
theorem dX4_build_42 : decode cX4_build 42 = .ok (.iconst 0, 1) := by decide +kernel
theorem dX4_build_43 : decode cX4_build 43 = .ok (.istore_n 1, 1) := by decide +kernel
theorem dX4_build_44 : decode cX4_build 44 = .ok (.goto 183, 3) := by decide +kernel
theorem dX4_build_47 : decode cX4_build 47 = .ok (.iload_n 3, 1) := by decide +kernel
theorem dX4_build_48 : decode cX4_build 48 = .ok (.invokestatic 53, 3) := by decide +kernel
theorem dX4_build_51 : decode cX4_build 51 = .ok (.ifCond .eq 46, 3) := by decide +kernel
theorem dX4_build_54 : decode cX4_build 54 = .ok (.aload_n 0, 1) := by decide +kernel
theorem dX4_build_55 : decode cX4_build 55 = .ok (.getfield 25, 3) := by decide +kernel
theorem dX4_build_58 : decode cX4_build 58 = .ok (.aload_n 0, 1) := by decide +kernel
theorem dX4_build_59 : decode cX4_build 59 = .ok (.getfield 66, 3) := by decide +kernel
theorem dX4_build_62 : decode cX4_build 62 = .ok (.aload_n 0, 1) := by decide +kernel
theorem dX4_build_63 : decode cX4_build 63 = .ok (.getfield 13, 3) := by decide +kernel
theorem dX4_build_66 : decode cX4_build 66 = .ok (.iload_n 3, 1) := by decide +kernel
theorem dX4_build_67 : decode cX4_build 67 = .ok (.bipush 97, 2) := by decide +kernel
theorem dX4_build_69 : decode cX4_build 69 = .ok (.isub, 1) := by decide +kernel
theorem dX4_build_70 : decode cX4_build 70 = .ok (.iaload, 1) := by decide +kernel
theorem dX4_build_71 : decode cX4_build 71 = .ok (.iconst 1, 1) := by decide +kernel
theorem dX4_build_72 : decode cX4_build 72 = .ok (.isub, 1) := by decide +kernel
theorem dX4_build_73 : decode cX4_build 73 = .ok (.iastore, 1) := by decide +kernel
theorem dX4_build_74 : decode cX4_build 74 = .ok (.aload_n 0, 1) := by decide +kernel
theorem dX4_build_75 : decode cX4_build 75 = .ok (.dup, 1) := by decide +kernel
theorem dX4_build_76 : decode cX4_build 76 = .ok (.getfield 66, 3) := by decide +kernel
theorem dX4_build_79 : decode cX4_build 79 = .ok (.iconst 1, 1) := by decide +kernel
theorem dX4_build_80 : decode cX4_build 80 = .ok (.iadd, 1) := by decide +kernel
theorem dX4_build_81 : decode cX4_build 81 = .ok (.putfield 66, 3) := by decide +kernel
theorem dX4_build_84 : decode cX4_build 84 = .ok (.aload_n 0, 1) := by decide +kernel
theorem dX4_build_85 : decode cX4_build 85 = .ok (.iload_n 2, 1) := by decide +kernel
theorem dX4_build_86 : decode cX4_build 86 = .ok (.iconst 1, 1) := by decide +kernel
theorem dX4_build_87 : decode cX4_build 87 = .ok (.iadd, 1) := by decide +kernel
theorem dX4_build_88 : decode cX4_build 88 = .ok (.invokevirtual 91, 3) := by decide +kernel
theorem dX4_build_91 : decode cX4_build 91 = .ok (.istore_n 2, 1) := by decide +kernel
theorem dX4_build_92 : decode cX4_build 92 = .ok (.iconst 0, 1) := by decide +kernel
theorem dX4_build_93 : decode cX4_build 93 = .ok (.istore_n 1, 1) := by decide +kernel
theorem dX4_build_94 : decode cX4_build 94 = .ok (.goto 133, 3) := by decide +kernel
theorem dX4_build_97 : decode cX4_build 97 = .ok (.iload_n 3, 1) := by decide +kernel
theorem dX4_build_98 : decode cX4_build 98 = .ok (.bipush 41, 2) := by decide +kernel
theorem dX4_build_100 : decode cX4_build 100 = .ok (.if_icmp .ne 59, 3) := by decide +kernel
theorem dX4_build_103 : decode cX4_build 103 = .ok (.aload_n 0, 1) := by decide +kernel
theorem dX4_build_104 : decode cX4_build 104 = .ok (.iconst 1, 1) := by decide +kernel
theorem dX4_build_105 : decode cX4_build 105 = .ok (.invokevirtual 88, 3) := by decide +kernel
theorem dX4_build_108 : decode cX4_build 108 = .ok (.aload_n 0, 1) := by decide +kernel
theorem dX4_build_109 : decode cX4_build 109 = .ok (.dup, 1) := by decide +kernel
theorem dX4_build_110 : decode cX4_build 110 = .ok (.getfield 77, 3) := by decide +kernel
theorem dX4_build_113 : decode cX4_build 113 = .ok (.iconst 1, 1) := by decide +kernel
theorem dX4_build_114 : decode cX4_build 114 = .ok (.isub, 1) := by decide +kernel
theorem dX4_build_115 : decode cX4_build 115 = .ok (.putfield 77, 3) := by decide +kernel
theorem dX4_build_118 : decode cX4_build 118 = .ok (.aload_n 0, 1) := by decide +kernel
theorem dX4_build_119 : decode cX4_build 119 = .ok (.getfield 28, 3) := by decide +kernel
theorem dX4_build_122 : decode cX4_build 122 = .ok (.aload_n 0, 1) := by decide +kernel
theorem dX4_build_123 : decode cX4_build 123 = .ok (.getfield 77, 3) := by decide +kernel
theorem dX4_build_126 : decode cX4_build 126 = .ok (.iaload, 1) := by decide +kernel
theorem dX4_build_127 : decode cX4_build 127 = .ok (.bipush 114, 2) := by decide +kernel
theorem dX4_build_129 : decode cX4_build 129 = .ok (.if_icmp .ne 19, 3) := by decide +kernel
theorem dX4_build_132 : decode cX4_build 132 = .ok (.aload_n 0, 1) := by decide +kernel
theorem dX4_build_133 : decode cX4_build 133 = .ok (.invokevirtual 69, 3) := by decide +kernel
theorem dX4_build_136 : decode cX4_build 136 = .ok (.istore 4, 2) := by decide +kernel
theorem dX4_build_138 : decode cX4_build 138 = .ok (.aload_n 0, 1) := by decide +kernel
theorem dX4_build_139 : decode cX4_build 139 = .ok (.bipush 6, 2) := by decide +kernel
theorem dX4_build_141 : decode cX4_build 141 = .ok (.iload 4, 2) := by decide +kernel
theorem dX4_build_143 : decode cX4_build 143 = .ok (.iload 4, 2) := by decide +kernel
theorem dX4_build_145 : decode cX4_build 145 = .ok (.invokevirtual 73, 3) := by decide +kernel
theorem dX4_build_148 : decode cX4_build 148 = .ok (.aload_n 0, 1) := by decide +kernel
theorem dX4_build_149 : decode cX4_build 149 = .ok (.iload_n 2, 1) := by decide +kernel
theorem dX4_build_150 : decode cX4_build 150 = .ok (.iconst 1, 1) := by decide +kernel
theorem dX4_build_151 : decode cX4_build 151 = .ok (.iadd, 1) := by decide +kernel
theorem dX4_build_152 : decode cX4_build 152 = .ok (.invokevirtual 91, 3) := by decide +kernel
theorem dX4_build_155 : decode cX4_build 155 = .ok (.istore_n 2, 1) := by decide +kernel
theorem dX4_build_156 : decode cX4_build 156 = .ok (.goto 71, 3) := by decide +kernel
theorem dX4_build_159 : decode cX4_build 159 = .ok (.iload_n 3, 1) := by decide +kernel
theorem dX4_build_160 : decode cX4_build 160 = .ok (.bipush 114, 2) := by decide +kernel
theorem dX4_build_162 : decode cX4_build 162 = .ok (.if_icmp .eq 9, 3) := by decide +kernel
theorem dX4_build_165 : decode cX4_build 165 = .ok (.iload_n 3, 1) := by decide +kernel
theorem dX4_build_166 : decode cX4_build 166 = .ok (.bipush 40, 2) := by decide +kernel
theorem dX4_build_168 : decode cX4_build 168 = .ok (.if_icmp .ne 29, 3) := by decide +kernel
theorem dX4_build_171 : decode cX4_build 171 = .ok (.aload_n 0, 1) := by decide +kernel
theorem dX4_build_172 : decode cX4_build 172 = .ok (.iload_n 3, 1) := by decide +kernel
theorem dX4_build_173 : decode cX4_build 173 = .ok (.invokevirtual 97, 3) := by decide +kernel
theorem dX4_build_176 : decode cX4_build 176 = .ok (.iload_n 3, 1) := by decide +kernel
theorem dX4_build_177 : decode cX4_build 177 = .ok (.bipush 114, 2) := by decide +kernel
theorem dX4_build_179 : decode cX4_build 179 = .ok (.if_icmp .ne 9, 3) := by decide +kernel
theorem dX4_build_182 : decode cX4_build 182 = .ok (.iload_n 2, 1) := by decide +kernel
theorem dX4_build_183 : decode cX4_build 183 = .ok (.iconst 2, 1) := by decide +kernel
theorem dX4_build_184 : decode cX4_build 184 = .ok (.iadd, 1) := by decide +kernel
theorem dX4_build_185 : decode cX4_build 185 = .ok (.goto 6, 3) := by decide +kernel
theorem dX4_build_188 : decode cX4_build 188 = .ok (.iload_n 2, 1) := by decide +kernel
theorem dX4_build_189 : decode cX4_build 189 = .ok (.iconst 1, 1) := by decide +kernel
theorem dX4_build_190 : decode cX4_build 190 = .ok (.iadd, 1) := by decide +kernel
theorem dX4_build_191 : decode cX4_build 191 = .ok (.istore_n 2, 1) := by decide +kernel
theorem dX4_build_192 : decode cX4_build 192 = .ok (.iconst 1, 1) := by decide +kernel
theorem dX4_build_193 : decode cX4_build 193 = .ok (.istore_n 1, 1) := by decide +kernel
theorem dX4_build_194 : decode cX4_build 194 = .ok (.goto 33, 3) := by decide +kernel
theorem dX4_build_197 : decode cX4_build 197 = .ok (.iload_n 1, 1) := by decide +kernel
theorem dX4_build_198 : decode cX4_build 198 = .ok (.ifCond .ne 11, 3) := by decide +kernel
theorem dX4_build_201 : decode cX4_build 201 = .ok (.aload_n 0, 1) := by decide +kernel
theorem dX4_build_202 : decode cX4_build 202 = .ok (.iload_n 3, 1) := by decide +kernel
theorem dX4_build_203 : decode cX4_build 203 = .ok (.invokestatic 80, 3) := by decide +kernel
theorem dX4_build_206 : decode cX4_build 206 = .ok (.invokevirtual 88, 3) := by decide +kernel
theorem dX4_build_209 : decode cX4_build 209 = .ok (.aload_n 0, 1) := by decide +kernel
theorem dX4_build_210 : decode cX4_build 210 = .ok (.iload_n 1, 1) := by decide +kernel
theorem dX4_build_211 : decode cX4_build 211 = .ok (.ifCond .eq 7, 3) := by decide +kernel
theorem dX4_build_214 : decode cX4_build 214 = .ok (.iconst 1, 1) := by decide +kernel
theorem dX4_build_215 : decode cX4_build 215 = .ok (.goto 4, 3) := by decide +kernel
theorem dX4_build_218 : decode cX4_build 218 = .ok (.iload_n 3, 1) := by decide +kernel
theorem dX4_build_219 : decode cX4_build 219 = .ok (.invokevirtual 97, 3) := by decide +kernel
theorem dX4_build_222 : decode cX4_build 222 = .ok (.iconst 1, 1) := by decide +kernel
theorem dX4_build_223 : decode cX4_build 223 = .ok (.istore_n 1, 1) := by decide +kernel
theorem dX4_build_224 : decode cX4_build 224 = .ok (.iinc 2 1, 3) := by decide +kernel
theorem dX4_build_227 : decode cX4_build 227 = .ok (.goto (-213), 3) := by decide +kernel
theorem dX4_build_230 : decode cX4_build 230 = .ok (.aload_n 0, 1) := by decide +kernel
theorem dX4_build_231 : decode cX4_build 231 = .ok (.iconst 1, 1) := by decide +kernel
theorem dX4_build_232 : decode cX4_build 232 = .ok (.invokevirtual 88, 3) := by decide +kernel
theorem dX4_build_235 : decode cX4_build 235 = .ok (.return_, 1) := by decide +kernel
def fX4_build_209 (rec14 : Int32 → Int32 → Wd → Option (Wd)) (n : Nat) (x1 : Int32) (x2 : Int32) (x3 : Int32) (w : Wd) : Option (Wd) :=
    if x1 = 0 then
      (fX4_hang n x3 w).bind fun z2 =>
      rec14 1 (x2 + 1) z2
    else
      (fX4_hang n 1 w).bind fun z4 =>
      rec14 1 (x2 + 1) z4
def fX4_build_171 (rec14 : Int32 → Int32 → Wd → Option (Wd)) (n : Nat) (x2 : Int32) (x3 : Int32) (w : Wd) : Option (Wd) :=
    (fX4_hang n x3 w).bind fun z1 =>
    if x3 = 114 then
      rec14 1 (x2 + 2) z1
    else
      rec14 1 (x2 + 1) z1
def fX4_build_14 : Nat → Int32 → Int32 → Wd → Option (Wd)
  | 0, _, _, _ => none
  | n + 1, x1, x2, w =>
    if (w.1 0 0) ≤ x2 then
      (fX4_settle n 1 w).bind fun z2 =>
      some z2
    else
      (ez_ldI w 1 20 x2).bind fun y5 =>
      (fX4_isDigit n y5).bind fun z6 =>
      if z6 = 0 then
        (fX4_isName n y5).bind fun z9 =>
        if z9 = 0 then
          if y5 = 41 then
            (fX4_settle n 1 w).bind fun z20 =>
            (ez_fI z20 3 ((z20.1 0 3) - 1)).bind fun w23 =>
            (ez_ldI w23 7 21 (w23.1 0 3)).bind fun y25 =>
            if y25 = 114 then
              (fX4_take n w23).bind fun z29 =>
              (fX4_make n 6 z29.1 z29.1 z29.2).bind fun z31 =>
              (fX4_finish n (x2 + 1) z31).bind fun z33 =>
              fX4_build_14 n x1 z33.1 z33.2
            else
              (fX4_finish n (x2 + 1) w23).bind fun z27 =>
              fX4_build_14 n x1 z27.1 z27.2
          else
            if y5 = 114 then
              fX4_build_171 (fX4_build_14 n) n x2 y5 w
            else
              if y5 = 40 then
                fX4_build_171 (fX4_build_14 n) n x2 y5 w
              else
                if x1 = 0 then
                  (fX4_hold n y5).bind fun z16 =>
                  (fX4_settle n z16 w).bind fun z18 =>
                  fX4_build_209 (fX4_build_14 n) n x1 x2 y5 z18
                else
                  fX4_build_209 (fX4_build_14 n) n x1 x2 y5 w
        else
          (ez_ldI w 2 8 (y5 - 97)).bind fun y36 =>
          (ez_stI w 6 21 (w.1 0 2) (y36 - 1)).bind fun w38 =>
          (ez_fI w38 2 ((w38.1 0 2) + 1)).bind fun w40 =>
          (fX4_finish n (x2 + 1) w40).bind fun z41 =>
          fX4_build_14 n 0 z41.1 z41.2
      else
        (fX4_number n x2 w).bind fun z43 =>
        fX4_build_14 n 0 z43.1 z43.2
def fX4_build (n : Nat) (w : Wd) : Option (Wd) :=
    (ez_fI w 2 0).bind fun w2 =>
    (ez_fI w2 3 0).bind fun w4 =>
    fX4_build_14 n 1 0 w4
set_option maxHeartbeats 4000000 in
set_option maxRecDepth 100000 in
theorem tX4_build_209 {p : Program} {l : Launch} {e : Env} {s : State} {m : MethodId} {args : Array Value} {below : List Frame} {meth : Method} {c : Code} {A : Nat → Prop} {D : va_G} {a : Nat → Nat} {k : Nat → ClassId} {z : Wd} (C0 : ez_C p s m args meth c cX4_build none 5 RX4 A) (hK : va_K D vwCl (tM k) s) (rec14 : Int32 → Int32 → Wd → Option (Wd)) (hrec14 : ∀ (H : Heap) (locs : List Loc) (ls : Array Slot) (x1 : Int32) (x2 : Int32) (w : Wd), lv_has ls 5 [(0, .ref (a 0)), (1, .int x1), (2, .int x2)] → va_P D vwCl (wM a k w) H → va_D A (wM a k w) → va_S A s.heap H locs → rec14 x1 x2 w = some z → W p l e ({ frames := 4, cells := 0, slots := 0, locals := 92 } : Room) s m args below meth c H locs 0 0 (MQ below (ez_Qv D (tM k) A (wM a k z)) args s 0 0 A) (F0 m 14 ls [])) : ∀ (n : Nat) (H : Heap) (locs : List Loc) (ls : Array Slot) (x1 : Int32) (x2 : Int32) (x3 : Int32) (w : Wd), lv_has ls 5 [(0, .ref (a 0)), (1, .int x1), (2, .int x2), (3, .int x3)] → va_P D vwCl (wM a k w) H → va_D A (wM a k w) → va_S A s.heap H locs → fX4_build_209 rec14 n x1 x2 x3 w = some z → W p l e ({ frames := 4, cells := 0, slots := 0, locals := 92 } : Room) s m args below meth c H locs 0 0 (MQ below (ez_Qv D (tM k) A (wM a k z)) args s 0 0 A) (F0 m 209 ls []) := by
  intro n
  intro H locs ls x1 x2 x3 w hl hP hD hS h
  rw [fX4_build_209] at h
  have C1 := C0
  obtain ⟨hx, hb, hr, hml, hown, hw, hlk, hA, hN⟩ := C1
  refine lv_aload_n (pc := 209) hx hb dX4_build_209 rfl (lv_at hl 0 rfl) ?_
  refine lv_iload_n (pc := 210) hx hb dX4_build_210 rfl (lv_at hl 1 rfl) ?_
  refine lv_if_eq (pc := 211) (tgt := 218) hx hb dX4_build_211 (by decide) (fun c1 => ?_) (fun c1 => ?_)
  · replace h := ez_it c1 h
    refine lv_iload_n (pc := 218) hx hb dX4_build_218 rfl (lv_at hl 3 rfl) ?_
    replace h := ez_bd h
    obtain ⟨z2, e3, h⟩ := h
    refine ez_callV (pc := 219) (wr := []) (wl := (wM a k w)) (wl' := (wM a k z2)) (va_runV (g := F0 m 219 ls [.int x3, .ref (a 0)]) (As := [.int x3]) (rest := []) ⟨hx, hb, hml, hown, hw⟩ (kX4_hang l D a k n x3 w z2 e3 H.size) (cwV 1 hw (ez_gV mw555 mw557 mp41 mw4 mw558) rfl rfl rfl (by decide +kernel) ⟨Nat.le_of_ble_eq_true rfl, Nat.le_of_ble_eq_true rfl⟩) (ez_preV (wr := []) (wl := (wM a k w)) hP hD hK hN 0 rfl rfl) rfl rfl hl.1 rfl (lv_room (Nat.le_of_ble_eq_true rfl)) dX4_build_219 ⟨Nat.le_refl _, Nat.le_refl _⟩) hP hD hS hA (fun H locs hP hD hS => ?_)
    replace hP : va_P D vwCl (wM a k z2) H := hP
    replace hD : va_D A (wM a k z2) := hD
    refine lv_iconst (v := 1) (pc := 222) hx hb dX4_build_222 rfl ?_
    refine lv_istore_n (pc := 223) hx hb dX4_build_223 rfl hl (by decide) rfl (fun ls hl => ?_)
    replace hl : lv_has ls 5 [(1, .int 1), (0, .ref (a 0)), (2, .int x2), (3, .int x3)] := hl
    refine lv_iinc (v := (x2 + 1)) (k := 2) (pc := 224) hx hb dX4_build_224 hl rfl rfl (by decide) rfl (fun ls hl => ?_)
    replace hl : lv_has ls 5 [(2, .int (x2 + 1)), (1, .int 1), (0, .ref (a 0)), (3, .int x3)] := hl
    refine lv_goto (pc := 227) (tgt := 14) hx hb dX4_build_227 (by decide) ?_
    exact hrec14 _ _ _ 1 (x2 + 1) z2 (lv_sub hl [2, 1, 0] rfl) hP hD hS h
  · replace h := ez_if c1 h
    refine lv_iconst (v := 1) (pc := 214) hx hb dX4_build_214 rfl ?_
    refine lv_goto (pc := 215) (tgt := 219) hx hb dX4_build_215 (by decide) ?_
    replace h := ez_bd h
    obtain ⟨z4, e5, h⟩ := h
    refine ez_callV (pc := 219) (wr := []) (wl := (wM a k w)) (wl' := (wM a k z4)) (va_runV (g := F0 m 219 ls [.int 1, .ref (a 0)]) (As := [.int 1]) (rest := []) ⟨hx, hb, hml, hown, hw⟩ (kX4_hang l D a k n 1 w z4 e5 H.size) (cwV 1 hw (ez_gV mw555 mw557 mp41 mw4 mw558) rfl rfl rfl (by decide +kernel) ⟨Nat.le_of_ble_eq_true rfl, Nat.le_of_ble_eq_true rfl⟩) (ez_preV (wr := []) (wl := (wM a k w)) hP hD hK hN 0 rfl rfl) rfl rfl hl.1 rfl (lv_room (Nat.le_of_ble_eq_true rfl)) dX4_build_219 ⟨Nat.le_refl _, Nat.le_refl _⟩) hP hD hS hA (fun H locs hP hD hS => ?_)
    replace hP : va_P D vwCl (wM a k z4) H := hP
    replace hD : va_D A (wM a k z4) := hD
    refine lv_iconst (v := 1) (pc := 222) hx hb dX4_build_222 rfl ?_
    refine lv_istore_n (pc := 223) hx hb dX4_build_223 rfl hl (by decide) rfl (fun ls hl => ?_)
    replace hl : lv_has ls 5 [(1, .int 1), (0, .ref (a 0)), (2, .int x2), (3, .int x3)] := hl
    refine lv_iinc (v := (x2 + 1)) (k := 2) (pc := 224) hx hb dX4_build_224 hl rfl rfl (by decide) rfl (fun ls hl => ?_)
    replace hl : lv_has ls 5 [(2, .int (x2 + 1)), (1, .int 1), (0, .ref (a 0)), (3, .int x3)] := hl
    refine lv_goto (pc := 227) (tgt := 14) hx hb dX4_build_227 (by decide) ?_
    exact hrec14 _ _ _ 1 (x2 + 1) z4 (lv_sub hl [2, 1, 0] rfl) hP hD hS h
set_option maxHeartbeats 4000000 in
set_option maxRecDepth 100000 in
theorem tX4_build_171 {p : Program} {l : Launch} {e : Env} {s : State} {m : MethodId} {args : Array Value} {below : List Frame} {meth : Method} {c : Code} {A : Nat → Prop} {D : va_G} {a : Nat → Nat} {k : Nat → ClassId} {z : Wd} (C0 : ez_C p s m args meth c cX4_build none 5 RX4 A) (hK : va_K D vwCl (tM k) s) (rec14 : Int32 → Int32 → Wd → Option (Wd)) (hrec14 : ∀ (H : Heap) (locs : List Loc) (ls : Array Slot) (x1 : Int32) (x2 : Int32) (w : Wd), lv_has ls 5 [(0, .ref (a 0)), (1, .int x1), (2, .int x2)] → va_P D vwCl (wM a k w) H → va_D A (wM a k w) → va_S A s.heap H locs → rec14 x1 x2 w = some z → W p l e ({ frames := 4, cells := 0, slots := 0, locals := 92 } : Room) s m args below meth c H locs 0 0 (MQ below (ez_Qv D (tM k) A (wM a k z)) args s 0 0 A) (F0 m 14 ls [])) : ∀ (n : Nat) (H : Heap) (locs : List Loc) (ls : Array Slot) (x2 : Int32) (x3 : Int32) (w : Wd), lv_has ls 5 [(0, .ref (a 0)), (2, .int x2), (3, .int x3)] → va_P D vwCl (wM a k w) H → va_D A (wM a k w) → va_S A s.heap H locs → fX4_build_171 rec14 n x2 x3 w = some z → W p l e ({ frames := 4, cells := 0, slots := 0, locals := 92 } : Room) s m args below meth c H locs 0 0 (MQ below (ez_Qv D (tM k) A (wM a k z)) args s 0 0 A) (F0 m 171 ls []) := by
  intro n
  intro H locs ls x2 x3 w hl hP hD hS h
  rw [fX4_build_171] at h
  have C1 := C0
  obtain ⟨hx, hb, hr, hml, hown, hw, hlk, hA, hN⟩ := C1
  refine lv_aload_n (pc := 171) hx hb dX4_build_171 rfl (lv_at hl 0 rfl) ?_
  refine lv_iload_n (pc := 172) hx hb dX4_build_172 rfl (lv_at hl 2 rfl) ?_
  replace h := ez_bd h
  obtain ⟨z1, e2, h⟩ := h
  refine ez_callV (pc := 173) (wr := []) (wl := (wM a k w)) (wl' := (wM a k z1)) (va_runV (g := F0 m 173 ls [.int x3, .ref (a 0)]) (As := [.int x3]) (rest := []) ⟨hx, hb, hml, hown, hw⟩ (kX4_hang l D a k n x3 w z1 e2 H.size) (cwV 1 hw (ez_gV mw555 mw557 mp41 mw4 mw558) rfl rfl rfl (by decide +kernel) ⟨Nat.le_of_ble_eq_true rfl, Nat.le_of_ble_eq_true rfl⟩) (ez_preV (wr := []) (wl := (wM a k w)) hP hD hK hN 0 rfl rfl) rfl rfl hl.1 rfl (lv_room (Nat.le_of_ble_eq_true rfl)) dX4_build_173 ⟨Nat.le_refl _, Nat.le_refl _⟩) hP hD hS hA (fun H locs hP hD hS => ?_)
  replace hP : va_P D vwCl (wM a k z1) H := hP
  replace hD : va_D A (wM a k z1) := hD
  refine lv_iload_n (pc := 176) hx hb dX4_build_176 rfl (lv_at hl 2 rfl) ?_
  refine lv_bipush (v := 114) (pc := 177) hx hb dX4_build_177 rfl ?_
  refine lv_icmp_ne (pc := 179) (tgt := 188) hx hb dX4_build_179 (by decide) (fun c3 => ?_) (fun c3 => ?_)
  · replace h := ez_if c3 h
    refine lv_iload_n (pc := 188) hx hb dX4_build_188 rfl (lv_at hl 1 rfl) ?_
    refine lv_iconst (v := 1) (pc := 189) hx hb dX4_build_189 rfl ?_
    refine lv_iadd (pc := 190) hx hb dX4_build_190 ?_
    refine lv_istore_n (pc := 191) hx hb dX4_build_191 rfl hl (by decide) rfl (fun ls hl => ?_)
    replace hl : lv_has ls 5 [(2, .int (x2 + 1)), (0, .ref (a 0)), (3, .int x3)] := hl
    refine lv_iconst (v := 1) (pc := 192) hx hb dX4_build_192 rfl ?_
    refine lv_istore_n (pc := 193) hx hb dX4_build_193 rfl hl (by decide) rfl (fun ls hl => ?_)
    replace hl : lv_has ls 5 [(1, .int 1), (2, .int (x2 + 1)), (0, .ref (a 0)), (3, .int x3)] := hl
    refine lv_goto (pc := 194) (tgt := 227) hx hb dX4_build_194 (by decide) ?_
    refine lv_goto (pc := 227) (tgt := 14) hx hb dX4_build_227 (by decide) ?_
    exact hrec14 _ _ _ 1 (x2 + 1) z1 (lv_sub hl [2, 0, 1] rfl) hP hD hS h
  · replace h := ez_it c3 h
    refine lv_iload_n (pc := 182) hx hb dX4_build_182 rfl (lv_at hl 1 rfl) ?_
    refine lv_iconst (v := 2) (pc := 183) hx hb dX4_build_183 rfl ?_
    refine lv_iadd (pc := 184) hx hb dX4_build_184 ?_
    refine lv_goto (pc := 185) (tgt := 191) hx hb dX4_build_185 (by decide) ?_
    refine lv_istore_n (pc := 191) hx hb dX4_build_191 rfl hl (by decide) rfl (fun ls hl => ?_)
    replace hl : lv_has ls 5 [(2, .int (x2 + 2)), (0, .ref (a 0)), (3, .int x3)] := hl
    refine lv_iconst (v := 1) (pc := 192) hx hb dX4_build_192 rfl ?_
    refine lv_istore_n (pc := 193) hx hb dX4_build_193 rfl hl (by decide) rfl (fun ls hl => ?_)
    replace hl : lv_has ls 5 [(1, .int 1), (2, .int (x2 + 2)), (0, .ref (a 0)), (3, .int x3)] := hl
    refine lv_goto (pc := 194) (tgt := 227) hx hb dX4_build_194 (by decide) ?_
    refine lv_goto (pc := 227) (tgt := 14) hx hb dX4_build_227 (by decide) ?_
    exact hrec14 _ _ _ 1 (x2 + 2) z1 (lv_sub hl [2, 0, 1] rfl) hP hD hS h
set_option maxHeartbeats 4000000 in
set_option maxRecDepth 100000 in
theorem tX4_build_14 {p : Program} {l : Launch} {e : Env} {s : State} {m : MethodId} {args : Array Value} {below : List Frame} {meth : Method} {c : Code} {A : Nat → Prop} {D : va_G} {a : Nat → Nat} {k : Nat → ClassId} {z : Wd} (C0 : ez_C p s m args meth c cX4_build none 5 RX4 A) (hK : va_K D vwCl (tM k) s) : ∀ (n : Nat) (H : Heap) (locs : List Loc) (ls : Array Slot) (x1 : Int32) (x2 : Int32) (w : Wd), lv_has ls 5 [(0, .ref (a 0)), (1, .int x1), (2, .int x2)] → va_P D vwCl (wM a k w) H → va_D A (wM a k w) → va_S A s.heap H locs → fX4_build_14 n x1 x2 w = some z → W p l e ({ frames := 4, cells := 0, slots := 0, locals := 92 } : Room) s m args below meth c H locs 0 0 (MQ below (ez_Qv D (tM k) A (wM a k z)) args s 0 0 A) (F0 m 14 ls []) := by
  intro n
  induction n with
  | zero =>
    intro H locs ls x1 x2 w hl hP hD hS h
    rw [fX4_build_14] at h
    cases h
  | succ n ih =>
    intro H locs ls x1 x2 w hl hP hD hS h
    rw [fX4_build_14] at h
    have C1 := C0
    obtain ⟨hx, hb, hr, hml, hown, hw, hlk, hA, hN⟩ := C1
    refine lv_iload_n (pc := 14) hx hb dX4_build_14 rfl (lv_at hl 2 rfl) ?_
    refine lv_aload_n (pc := 15) hx hb dX4_build_15 rfl (lv_at hl 0 rfl) ?_
    refine va_get (D := D) (pc := 16) hx hb hw inX4 hown hK hP 0 rfl rfl 0 (by decide) (hw _ mw427) (fun _ h9 => h9) rfl dX4_build_16 ?_
    refine lv_icmp_ge (pc := 19) (tgt := 230) hx hb dX4_build_19 (by decide) (fun c1 => ?_) (fun c1 => ?_)
    · replace h := ez_it c1 h
      refine lv_aload_n (pc := 230) hx hb dX4_build_230 rfl (lv_at hl 0 rfl) ?_
      refine lv_iconst (v := 1) (pc := 231) hx hb dX4_build_231 rfl ?_
      replace h := ez_bd h
      obtain ⟨z2, e3, h⟩ := h
      refine ez_callV (pc := 232) (wr := []) (wl := (wM a k w)) (wl' := (wM a k z2)) (va_runV (g := F0 m 232 ls [.int 1, .ref (a 0)]) (As := [.int 1]) (rest := []) ⟨hx, hb, hml, hown, hw⟩ (kX4_settle l D a k n 1 w z2 e3 H.size) (cwV 1 hw (ez_gV mw548 mw550 mp40 mw4 mw551) rfl rfl rfl (by decide +kernel) ⟨Nat.le_of_ble_eq_true rfl, Nat.le_of_ble_eq_true rfl⟩) (ez_preV (wr := []) (wl := (wM a k w)) hP hD hK hN 0 rfl rfl) rfl rfl hl.1 rfl (lv_room (Nat.le_of_ble_eq_true rfl)) dX4_build_232 ⟨Nat.le_refl _, Nat.le_refl _⟩) hP hD hS hA (fun H locs hP hD hS => ?_)
      replace hP : va_P D vwCl (wM a k z2) H := hP
      replace hD : va_D A (wM a k z2) := hD
      obtain rfl := ez_r1 h
      exact ez_retV C0 hP hD hK hS dX4_build_235
    · replace h := ez_if c1 h
      refine lv_aload_n (pc := 22) hx hb dX4_build_22 rfl (lv_at hl 0 rfl) ?_
      refine va_get (D := D) (pc := 23) hx hb hw inX4 hown hK hP 0 rfl rfl 1 (by decide) (hw _ mw428) (fun _ h9 => h9) rfl dX4_build_23 ?_
      refine lv_iload_n (pc := 26) hx hb dX4_build_26 rfl (lv_at hl 2 rfl) ?_
      replace h := ez_bd h
      obtain ⟨y5, e4, h⟩ := h
      obtain ⟨e4i, e4⟩ := ez_ldIs e4
      refine va_iald (D := D) (pc := 27) hx hb hK hP 1 0 rfl rfl e4i dX4_build_27 ?_
      refine lv_topi (fun y9 hy9 => ?_)
      obtain rfl : y5 = y9 := e4.trans hy9.symm
      refine lv_istore_n (pc := 28) hx hb dX4_build_28 rfl hl (by decide) rfl (fun ls hl => ?_)
      replace hl : lv_has ls 5 [(3, .int y5), (0, .ref (a 0)), (1, .int x1), (2, .int x2)] := hl
      refine lv_iload_n (pc := 29) hx hb dX4_build_29 rfl (lv_at hl 0 rfl) ?_
      replace h := ez_bd h
      obtain ⟨z6, e7, h⟩ := h
      refine ez_croI (r := z6) (pc := 30) (va_runS (g := F0 m 30 ls [.int y5]) (As := [.int y5]) (rest := []) ⟨hx, hb, hml, hown, hw⟩ (kX4_isDigit l n y5 z6 e7) (va_cwS 1 hw (ez_gS mw492 mw493 mw4 mw494) rfl rfl rfl (by decide +kernel) ⟨Nat.le_of_ble_eq_true rfl, Nat.le_of_ble_eq_true rfl⟩) (ez_preRS hN) rfl rfl hl.1 rfl (lv_room (Nat.le_of_ble_eq_true rfl)) dX4_build_30 ⟨Nat.le_refl _, Nat.le_refl _⟩) ?_
      refine lv_if_eq (pc := 33) (tgt := 47) hx hb dX4_build_33 (by decide) (fun c8 => ?_) (fun c8 => ?_)
      · replace h := ez_it c8 h
        refine lv_iload_n (pc := 47) hx hb dX4_build_47 rfl (lv_at hl 0 rfl) ?_
        replace h := ez_bd h
        obtain ⟨z9, e10, h⟩ := h
        refine ez_croI (r := z9) (pc := 48) (va_runS (g := F0 m 48 ls [.int y5]) (As := [.int y5]) (rest := []) ⟨hx, hb, hml, hown, hw⟩ (kX4_isName l n y5 z9 e10) (va_cwS 1 hw (ez_gS mw495 mw496 mw4 mw497) rfl rfl rfl (by decide +kernel) ⟨Nat.le_of_ble_eq_true rfl, Nat.le_of_ble_eq_true rfl⟩) (ez_preRS hN) rfl rfl hl.1 rfl (lv_room (Nat.le_of_ble_eq_true rfl)) dX4_build_48 ⟨Nat.le_refl _, Nat.le_refl _⟩) ?_
        refine lv_if_eq (pc := 51) (tgt := 97) hx hb dX4_build_51 (by decide) (fun c11 => ?_) (fun c11 => ?_)
        · replace h := ez_it c11 h
          refine lv_iload_n (pc := 97) hx hb dX4_build_97 rfl (lv_at hl 0 rfl) ?_
          refine lv_bipush (v := 41) (pc := 98) hx hb dX4_build_98 rfl ?_
          refine lv_icmp_ne (pc := 100) (tgt := 159) hx hb dX4_build_100 (by decide) (fun c12 => ?_) (fun c12 => ?_)
          · replace h := ez_if c12 h
            refine lv_iload_n (pc := 159) hx hb dX4_build_159 rfl (lv_at hl 0 rfl) ?_
            refine lv_bipush (v := 114) (pc := 160) hx hb dX4_build_160 rfl ?_
            refine lv_icmp_eq (pc := 162) (tgt := 171) hx hb dX4_build_162 (by decide) (fun c13 => ?_) (fun c13 => ?_)
            · replace h := ez_it c13 h
              exact tX4_build_171 C0 hK (fX4_build_14 n) ih n _ _ _ x2 y5 w (lv_sub hl [1, 3, 0] rfl) hP hD hS h
            · replace h := ez_if c13 h
              refine lv_iload_n (pc := 165) hx hb dX4_build_165 rfl (lv_at hl 0 rfl) ?_
              refine lv_bipush (v := 40) (pc := 166) hx hb dX4_build_166 rfl ?_
              refine lv_icmp_ne (pc := 168) (tgt := 197) hx hb dX4_build_168 (by decide) (fun c14 => ?_) (fun c14 => ?_)
              · replace h := ez_if c14 h
                refine lv_iload_n (pc := 197) hx hb dX4_build_197 rfl (lv_at hl 2 rfl) ?_
                refine lv_if_ne (pc := 198) (tgt := 209) hx hb dX4_build_198 (by decide) (fun c15 => ?_) (fun c15 => ?_)
                · replace h := ez_if c15 h
                  exact tX4_build_209 C0 hK (fX4_build_14 n) ih n _ _ _ x1 x2 y5 w (lv_sub hl [1, 2, 3, 0] rfl) hP hD hS h
                · replace h := ez_it c15 h
                  refine lv_aload_n (pc := 201) hx hb dX4_build_201 rfl (lv_at hl 1 rfl) ?_
                  refine lv_iload_n (pc := 202) hx hb dX4_build_202 rfl (lv_at hl 0 rfl) ?_
                  replace h := ez_bd h
                  obtain ⟨z16, e17, h⟩ := h
                  refine ez_croI (r := z16) (pc := 203) (va_runS (g := F0 m 203 ls [.int y5, .ref (a 0)]) (As := [.int y5]) (rest := [.ref (a 0)]) ⟨hx, hb, hml, hown, hw⟩ (kX4_hold l n y5 z16 e17) (va_cwS 1 hw (ez_gS mw552 mw553 mw4 mw554) rfl rfl rfl (by decide +kernel) ⟨Nat.le_of_ble_eq_true rfl, Nat.le_of_ble_eq_true rfl⟩) (ez_preRS hN) rfl rfl hl.1 rfl (lv_room (Nat.le_of_ble_eq_true rfl)) dX4_build_203 ⟨Nat.le_refl _, Nat.le_refl _⟩) ?_
                  replace h := ez_bd h
                  obtain ⟨z18, e19, h⟩ := h
                  refine ez_callV (pc := 206) (wr := []) (wl := (wM a k w)) (wl' := (wM a k z18)) (va_runV (g := F0 m 206 ls [.int z16, .ref (a 0)]) (As := [.int z16]) (rest := []) ⟨hx, hb, hml, hown, hw⟩ (kX4_settle l D a k n z16 w z18 e19 H.size) (cwV 1 hw (ez_gV mw548 mw550 mp40 mw4 mw551) rfl rfl rfl (by decide +kernel) ⟨Nat.le_of_ble_eq_true rfl, Nat.le_of_ble_eq_true rfl⟩) (ez_preV (wr := []) (wl := (wM a k w)) hP hD hK hN 0 rfl rfl) rfl rfl hl.1 rfl (lv_room (Nat.le_of_ble_eq_true rfl)) dX4_build_206 ⟨Nat.le_refl _, Nat.le_refl _⟩) hP hD hS hA (fun H locs hP hD hS => ?_)
                  replace hP : va_P D vwCl (wM a k z18) H := hP
                  replace hD : va_D A (wM a k z18) := hD
                  exact tX4_build_209 C0 hK (fX4_build_14 n) ih n _ _ _ x1 x2 y5 z18 (lv_sub hl [1, 2, 3, 0] rfl) hP hD hS h
              · replace h := ez_it c14 h
                exact tX4_build_171 C0 hK (fX4_build_14 n) ih n _ _ _ x2 y5 w (lv_sub hl [1, 3, 0] rfl) hP hD hS h
          · replace h := ez_it c12 h
            refine lv_aload_n (pc := 103) hx hb dX4_build_103 rfl (lv_at hl 1 rfl) ?_
            refine lv_iconst (v := 1) (pc := 104) hx hb dX4_build_104 rfl ?_
            replace h := ez_bd h
            obtain ⟨z20, e21, h⟩ := h
            refine ez_callV (pc := 105) (wr := []) (wl := (wM a k w)) (wl' := (wM a k z20)) (va_runV (g := F0 m 105 ls [.int 1, .ref (a 0)]) (As := [.int 1]) (rest := []) ⟨hx, hb, hml, hown, hw⟩ (kX4_settle l D a k n 1 w z20 e21 H.size) (cwV 1 hw (ez_gV mw548 mw550 mp40 mw4 mw551) rfl rfl rfl (by decide +kernel) ⟨Nat.le_of_ble_eq_true rfl, Nat.le_of_ble_eq_true rfl⟩) (ez_preV (wr := []) (wl := (wM a k w)) hP hD hK hN 0 rfl rfl) rfl rfl hl.1 rfl (lv_room (Nat.le_of_ble_eq_true rfl)) dX4_build_105 ⟨Nat.le_refl _, Nat.le_refl _⟩) hP hD hS hA (fun H locs hP hD hS => ?_)
            replace hP : va_P D vwCl (wM a k z20) H := hP
            replace hD : va_D A (wM a k z20) := hD
            refine lv_aload_n (pc := 108) hx hb dX4_build_108 rfl (lv_at hl 1 rfl) ?_
            refine lv_dup (pc := 109) hx hb dX4_build_109 rfl ?_
            refine va_get (D := D) (pc := 110) hx hb hw inX4 hown hK hP 0 rfl rfl 9 (by decide) (hw _ mw436) (fun _ h9 => h9) rfl dX4_build_110 ?_
            refine lv_iconst (v := 1) (pc := 113) hx hb dX4_build_113 rfl ?_
            refine lv_isub (pc := 114) hx hb dX4_build_114 ?_
            replace h := ez_bd h
            obtain ⟨w23, e22, h⟩ := h
            refine va_put (D := D) (v := .int ((z20.1 0 3) - 1)) (ty := .int) (pc := 115) hx hb hw inX4 tyX4 tyX4_ok nmX4 hown hK hP hD hS 0 rfl rfl 9 (by decide) (hw _ mw436) (fun _ h9 => h9) rfl (by decide +kernel) rfl rfl (Nat.le_of_ble_eq_true rfl) dX4_build_115 (fun H locs hP hD hS => ?_)
            replace hP : va_P D vwCl (wM a k w23) H := by rw [(ez_fIs e22)]; exact hP
            replace hD : va_D A (wM a k w23) := by rw [(ez_fIs e22)]; exact hD
            refine lv_aload_n (pc := 118) hx hb dX4_build_118 rfl (lv_at hl 1 rfl) ?_
            refine va_get (D := D) (pc := 119) hx hb hw inX4 hown hK hP 0 rfl rfl 10 (by decide) (hw _ mw437) (fun _ h9 => h9) rfl dX4_build_119 ?_
            refine lv_aload_n (pc := 122) hx hb dX4_build_122 rfl (lv_at hl 1 rfl) ?_
            refine va_get (D := D) (pc := 123) hx hb hw inX4 hown hK hP 0 rfl rfl 9 (by decide) (hw _ mw436) (fun _ h9 => h9) rfl dX4_build_123 ?_
            replace h := ez_bd h
            obtain ⟨y25, e24, h⟩ := h
            obtain ⟨e24i, e24⟩ := ez_ldIs e24
            refine va_iald (D := D) (pc := 126) hx hb hK hP 7 6 rfl rfl e24i dX4_build_126 ?_
            refine lv_topi (fun y9 hy9 => ?_)
            obtain rfl : y25 = y9 := e24.trans hy9.symm
            refine lv_bipush (v := 114) (pc := 127) hx hb dX4_build_127 rfl ?_
            refine lv_icmp_ne (pc := 129) (tgt := 148) hx hb dX4_build_129 (by decide) (fun c26 => ?_) (fun c26 => ?_)
            · replace h := ez_if c26 h
              refine lv_aload_n (pc := 148) hx hb dX4_build_148 rfl (lv_at hl 1 rfl) ?_
              refine lv_iload_n (pc := 149) hx hb dX4_build_149 rfl (lv_at hl 3 rfl) ?_
              refine lv_iconst (v := 1) (pc := 150) hx hb dX4_build_150 rfl ?_
              refine lv_iadd (pc := 151) hx hb dX4_build_151 ?_
              replace h := ez_bd h
              obtain ⟨z27, e28, h⟩ := h
              refine ez_callI (r := z27.1) (pc := 152) (wr := []) (wl := (wM a k w23)) (wl' := (wM a k z27.2)) (va_runV (g := F0 m 152 ls [.int (x2 + 1), .ref (a 0)]) (As := [.int (x2 + 1)]) (rest := []) ⟨hx, hb, hml, hown, hw⟩ (kX4_finish l D a k n (x2 + 1) w23 z27 e28 H.size) (cwV 1 hw (ez_gV mw536 mw538 mp37 mw4 mw539) rfl rfl rfl (by decide +kernel) ⟨Nat.le_of_ble_eq_true rfl, Nat.le_of_ble_eq_true rfl⟩) (ez_preV (wr := []) (wl := (wM a k w23)) hP hD hK hN 0 rfl rfl) rfl rfl hl.1 rfl (lv_room (Nat.le_of_ble_eq_true rfl)) dX4_build_152 ⟨Nat.le_refl _, Nat.le_refl _⟩) hP hD hS hA (fun H locs hP hD hS => ?_)
              replace hP : va_P D vwCl (wM a k z27.2) H := hP
              replace hD : va_D A (wM a k z27.2) := hD
              refine lv_istore_n (pc := 155) hx hb dX4_build_155 rfl hl (by decide) rfl (fun ls hl => ?_)
              replace hl : lv_has ls 5 [(2, .int z27.1), (3, .int y5), (0, .ref (a 0)), (1, .int x1)] := hl
              refine lv_goto (pc := 156) (tgt := 227) hx hb dX4_build_156 (by decide) ?_
              refine lv_goto (pc := 227) (tgt := 14) hx hb dX4_build_227 (by decide) ?_
              exact ih _ _ _ x1 z27.1 z27.2 (lv_sub hl [2, 3, 0] rfl) hP hD hS h
            · replace h := ez_it c26 h
              refine lv_aload_n (pc := 132) hx hb dX4_build_132 rfl (lv_at hl 1 rfl) ?_
              replace h := ez_bd h
              obtain ⟨z29, e30, h⟩ := h
              refine ez_callI (r := z29.1) (pc := 133) (wr := []) (wl := (wM a k w23)) (wl' := (wM a k z29.2)) (va_runV (g := F0 m 133 ls [.ref (a 0)]) (As := []) (rest := []) ⟨hx, hb, hml, hown, hw⟩ (kX4_take l D a k n w23 z29 e30 H.size) (cwV 0 hw (ez_gV mw544 mw546 mp39 mw4 mw547) rfl rfl rfl (by decide +kernel) ⟨Nat.le_of_ble_eq_true rfl, Nat.le_of_ble_eq_true rfl⟩) (ez_preV (wr := []) (wl := (wM a k w23)) hP hD hK hN 0 rfl rfl) rfl rfl hl.1 rfl (lv_room (Nat.le_of_ble_eq_true rfl)) dX4_build_133 ⟨Nat.le_refl _, Nat.le_refl _⟩) hP hD hS hA (fun H locs hP hD hS => ?_)
              replace hP : va_P D vwCl (wM a k z29.2) H := hP
              replace hD : va_D A (wM a k z29.2) := hD
              refine lv_istore (pc := 136) hx hb dX4_build_136 hl (by decide) rfl (fun ls hl => ?_)
              replace hl : lv_has ls 5 [(4, .int z29.1), (3, .int y5), (0, .ref (a 0)), (1, .int x1), (2, .int x2)] := hl
              refine lv_aload_n (pc := 138) hx hb dX4_build_138 rfl (lv_at hl 2 rfl) ?_
              refine lv_bipush (v := 6) (pc := 139) hx hb dX4_build_139 rfl ?_
              refine lv_iload (pc := 141) hx hb dX4_build_141 (lv_at hl 0 rfl) ?_
              refine lv_iload (pc := 143) hx hb dX4_build_143 (lv_at hl 0 rfl) ?_
              replace h := ez_bd h
              obtain ⟨z31, e32, h⟩ := h
              refine ez_callV (pc := 145) (wr := []) (wl := (wM a k z29.2)) (wl' := (wM a k z31)) (va_runV (g := F0 m 145 ls [.int z29.1, .int z29.1, .int 6, .ref (a 0)]) (As := [.int 6, .int z29.1, .int z29.1]) (rest := []) ⟨hx, hb, hml, hown, hw⟩ (kX4_make l D a k n 6 z29.1 z29.1 z29.2 z31 e32 H.size) (cwV 3 hw (ez_gV mw532 mw534 mp36 mw4 mw535) rfl rfl rfl (by decide +kernel) ⟨Nat.le_of_ble_eq_true rfl, Nat.le_of_ble_eq_true rfl⟩) (ez_preV (wr := []) (wl := (wM a k z29.2)) hP hD hK hN 0 rfl rfl) rfl rfl hl.1 rfl (lv_room (Nat.le_of_ble_eq_true rfl)) dX4_build_145 ⟨Nat.le_refl _, Nat.le_refl _⟩) hP hD hS hA (fun H locs hP hD hS => ?_)
              replace hP : va_P D vwCl (wM a k z31) H := hP
              replace hD : va_D A (wM a k z31) := hD
              refine lv_aload_n (pc := 148) hx hb dX4_build_148 rfl (lv_at hl 2 rfl) ?_
              refine lv_iload_n (pc := 149) hx hb dX4_build_149 rfl (lv_at hl 4 rfl) ?_
              refine lv_iconst (v := 1) (pc := 150) hx hb dX4_build_150 rfl ?_
              refine lv_iadd (pc := 151) hx hb dX4_build_151 ?_
              replace h := ez_bd h
              obtain ⟨z33, e34, h⟩ := h
              refine ez_callI (r := z33.1) (pc := 152) (wr := []) (wl := (wM a k z31)) (wl' := (wM a k z33.2)) (va_runV (g := F0 m 152 ls [.int (x2 + 1), .ref (a 0)]) (As := [.int (x2 + 1)]) (rest := []) ⟨hx, hb, hml, hown, hw⟩ (kX4_finish l D a k n (x2 + 1) z31 z33 e34 H.size) (cwV 1 hw (ez_gV mw536 mw538 mp37 mw4 mw539) rfl rfl rfl (by decide +kernel) ⟨Nat.le_of_ble_eq_true rfl, Nat.le_of_ble_eq_true rfl⟩) (ez_preV (wr := []) (wl := (wM a k z31)) hP hD hK hN 0 rfl rfl) rfl rfl hl.1 rfl (lv_room (Nat.le_of_ble_eq_true rfl)) dX4_build_152 ⟨Nat.le_refl _, Nat.le_refl _⟩) hP hD hS hA (fun H locs hP hD hS => ?_)
              replace hP : va_P D vwCl (wM a k z33.2) H := hP
              replace hD : va_D A (wM a k z33.2) := hD
              refine lv_istore_n (pc := 155) hx hb dX4_build_155 rfl hl (by decide) rfl (fun ls hl => ?_)
              replace hl : lv_has ls 5 [(2, .int z33.1), (4, .int z29.1), (3, .int y5), (0, .ref (a 0)), (1, .int x1)] := hl
              refine lv_goto (pc := 156) (tgt := 227) hx hb dX4_build_156 (by decide) ?_
              refine lv_goto (pc := 227) (tgt := 14) hx hb dX4_build_227 (by decide) ?_
              exact ih _ _ _ x1 z33.1 z33.2 (lv_sub hl [3, 4, 0] rfl) hP hD hS h
        · replace h := ez_if c11 h
          refine lv_aload_n (pc := 54) hx hb dX4_build_54 rfl (lv_at hl 1 rfl) ?_
          refine va_get (D := D) (pc := 55) hx hb hw inX4 hown hK hP 0 rfl rfl 8 (by decide) (hw _ mw435) (fun _ h9 => h9) rfl dX4_build_55 ?_
          refine lv_aload_n (pc := 58) hx hb dX4_build_58 rfl (lv_at hl 1 rfl) ?_
          refine va_get (D := D) (pc := 59) hx hb hw inX4 hown hK hP 0 rfl rfl 7 (by decide) (hw _ mw434) (fun _ h9 => h9) rfl dX4_build_59 ?_
          refine lv_aload_n (pc := 62) hx hb dX4_build_62 rfl (lv_at hl 1 rfl) ?_
          refine va_get (D := D) (pc := 63) hx hb hw inX4 hown hK hP 0 rfl rfl 2 (by decide) (hw _ mw429) (fun _ h9 => h9) rfl dX4_build_63 ?_
          refine lv_iload_n (pc := 66) hx hb dX4_build_66 rfl (lv_at hl 0 rfl) ?_
          refine lv_bipush (v := 97) (pc := 67) hx hb dX4_build_67 rfl ?_
          refine lv_isub (pc := 69) hx hb dX4_build_69 ?_
          replace h := ez_bd h
          obtain ⟨y36, e35, h⟩ := h
          obtain ⟨e35i, e35⟩ := ez_ldIs e35
          refine va_iald (D := D) (pc := 70) hx hb hK hP 2 1 rfl rfl e35i dX4_build_70 ?_
          refine lv_topi (fun y9 hy9 => ?_)
          obtain rfl : y36 = y9 := e35.trans hy9.symm
          refine lv_iconst (v := 1) (pc := 71) hx hb dX4_build_71 rfl ?_
          refine lv_isub (pc := 72) hx hb dX4_build_72 ?_
          replace h := ez_bd h
          obtain ⟨w38, e37, h⟩ := h
          obtain ⟨e37i, e37⟩ := ez_stIs e37
          refine va_iast (D := D) (pc := 73) hx hb hK hP hD hS 6 5 rfl rfl e37i dX4_build_73 (fun H locs hP hD hS => ?_)
          replace hP : va_P D vwCl (wM a k w38) H := by rw [e37]; exact hP
          replace hD : va_D A (wM a k w38) := by rw [e37]; exact hD
          refine lv_aload_n (pc := 74) hx hb dX4_build_74 rfl (lv_at hl 1 rfl) ?_
          refine lv_dup (pc := 75) hx hb dX4_build_75 rfl ?_
          refine va_get (D := D) (pc := 76) hx hb hw inX4 hown hK hP 0 rfl rfl 7 (by decide) (hw _ mw434) (fun _ h9 => h9) rfl dX4_build_76 ?_
          refine lv_iconst (v := 1) (pc := 79) hx hb dX4_build_79 rfl ?_
          refine lv_iadd (pc := 80) hx hb dX4_build_80 ?_
          replace h := ez_bd h
          obtain ⟨w40, e39, h⟩ := h
          refine va_put (D := D) (v := .int ((w38.1 0 2) + 1)) (ty := .int) (pc := 81) hx hb hw inX4 tyX4 tyX4_ok nmX4 hown hK hP hD hS 0 rfl rfl 7 (by decide) (hw _ mw434) (fun _ h9 => h9) rfl (by decide +kernel) rfl rfl (Nat.le_of_ble_eq_true rfl) dX4_build_81 (fun H locs hP hD hS => ?_)
          replace hP : va_P D vwCl (wM a k w40) H := by rw [(ez_fIs e39)]; exact hP
          replace hD : va_D A (wM a k w40) := by rw [(ez_fIs e39)]; exact hD
          refine lv_aload_n (pc := 84) hx hb dX4_build_84 rfl (lv_at hl 1 rfl) ?_
          refine lv_iload_n (pc := 85) hx hb dX4_build_85 rfl (lv_at hl 3 rfl) ?_
          refine lv_iconst (v := 1) (pc := 86) hx hb dX4_build_86 rfl ?_
          refine lv_iadd (pc := 87) hx hb dX4_build_87 ?_
          replace h := ez_bd h
          obtain ⟨z41, e42, h⟩ := h
          refine ez_callI (r := z41.1) (pc := 88) (wr := []) (wl := (wM a k w40)) (wl' := (wM a k z41.2)) (va_runV (g := F0 m 88 ls [.int (x2 + 1), .ref (a 0)]) (As := [.int (x2 + 1)]) (rest := []) ⟨hx, hb, hml, hown, hw⟩ (kX4_finish l D a k n (x2 + 1) w40 z41 e42 H.size) (cwV 1 hw (ez_gV mw536 mw538 mp37 mw4 mw539) rfl rfl rfl (by decide +kernel) ⟨Nat.le_of_ble_eq_true rfl, Nat.le_of_ble_eq_true rfl⟩) (ez_preV (wr := []) (wl := (wM a k w40)) hP hD hK hN 0 rfl rfl) rfl rfl hl.1 rfl (lv_room (Nat.le_of_ble_eq_true rfl)) dX4_build_88 ⟨Nat.le_refl _, Nat.le_refl _⟩) hP hD hS hA (fun H locs hP hD hS => ?_)
          replace hP : va_P D vwCl (wM a k z41.2) H := hP
          replace hD : va_D A (wM a k z41.2) := hD
          refine lv_istore_n (pc := 91) hx hb dX4_build_91 rfl hl (by decide) rfl (fun ls hl => ?_)
          replace hl : lv_has ls 5 [(2, .int z41.1), (3, .int y5), (0, .ref (a 0)), (1, .int x1)] := hl
          refine lv_iconst (v := 0) (pc := 92) hx hb dX4_build_92 rfl ?_
          refine lv_istore_n (pc := 93) hx hb dX4_build_93 rfl hl (by decide) rfl (fun ls hl => ?_)
          replace hl : lv_has ls 5 [(1, .int 0), (2, .int z41.1), (3, .int y5), (0, .ref (a 0))] := hl
          refine lv_goto (pc := 94) (tgt := 227) hx hb dX4_build_94 (by decide) ?_
          refine lv_goto (pc := 227) (tgt := 14) hx hb dX4_build_227 (by decide) ?_
          exact ih _ _ _ 0 z41.1 z41.2 (lv_sub hl [3, 0, 1] rfl) hP hD hS h
      · replace h := ez_if c8 h
        refine lv_aload_n (pc := 36) hx hb dX4_build_36 rfl (lv_at hl 1 rfl) ?_
        refine lv_iload_n (pc := 37) hx hb dX4_build_37 rfl (lv_at hl 3 rfl) ?_
        replace h := ez_bd h
        obtain ⟨z43, e44, h⟩ := h
        refine ez_callI (r := z43.1) (pc := 38) (wr := []) (wl := (wM a k w)) (wl' := (wM a k z43.2)) (va_runV (g := F0 m 38 ls [.int x2, .ref (a 0)]) (As := [.int x2]) (rest := []) ⟨hx, hb, hml, hown, hw⟩ (kX4_number l D a k n x2 w z43 e44 H.size) (cwV 1 hw (ez_gV mw528 mw530 mp35 mw4 mw531) rfl rfl rfl (by decide +kernel) ⟨Nat.le_of_ble_eq_true rfl, Nat.le_of_ble_eq_true rfl⟩) (ez_preV (wr := []) (wl := (wM a k w)) hP hD hK hN 0 rfl rfl) rfl rfl hl.1 rfl (lv_room (Nat.le_of_ble_eq_true rfl)) dX4_build_38 ⟨Nat.le_refl _, Nat.le_refl _⟩) hP hD hS hA (fun H locs hP hD hS => ?_)
        replace hP : va_P D vwCl (wM a k z43.2) H := hP
        replace hD : va_D A (wM a k z43.2) := hD
        refine lv_istore_n (pc := 41) hx hb dX4_build_41 rfl hl (by decide) rfl (fun ls hl => ?_)
        replace hl : lv_has ls 5 [(2, .int z43.1), (3, .int y5), (0, .ref (a 0)), (1, .int x1)] := hl
        refine lv_iconst (v := 0) (pc := 42) hx hb dX4_build_42 rfl ?_
        refine lv_istore_n (pc := 43) hx hb dX4_build_43 rfl hl (by decide) rfl (fun ls hl => ?_)
        replace hl : lv_has ls 5 [(1, .int 0), (2, .int z43.1), (3, .int y5), (0, .ref (a 0))] := hl
        refine lv_goto (pc := 44) (tgt := 227) hx hb dX4_build_44 (by decide) ?_
        refine lv_goto (pc := 227) (tgt := 14) hx hb dX4_build_227 (by decide) ?_
        exact ih _ _ _ 0 z43.1 z43.2 (lv_sub hl [3, 0, 1] rfl) hP hD hS h
set_option maxHeartbeats 4000000 in
set_option maxRecDepth 100000 in
theorem tX4_build_0 {p : Program} {l : Launch} {e : Env} {s : State} {m : MethodId} {args : Array Value} {below : List Frame} {meth : Method} {c : Code} {A : Nat → Prop} {D : va_G} {a : Nat → Nat} {k : Nat → ClassId} {z : Wd} (C0 : ez_C p s m args meth c cX4_build none 5 RX4 A) (hK : va_K D vwCl (tM k) s) : ∀ (n : Nat) (H : Heap) (locs : List Loc) (ls : Array Slot) (w : Wd), lv_has ls 5 [(0, .ref (a 0))] → va_P D vwCl (wM a k w) H → va_D A (wM a k w) → va_S A s.heap H locs → fX4_build n w = some z → W p l e ({ frames := 4, cells := 0, slots := 0, locals := 92 } : Room) s m args below meth c H locs 0 0 (MQ below (ez_Qv D (tM k) A (wM a k z)) args s 0 0 A) (F0 m 0 ls []) := by
  intro n
  intro H locs ls w hl hP hD hS h
  rw [fX4_build] at h
  have C1 := C0
  obtain ⟨hx, hb, hr, hml, hown, hw, hlk, hA, hN⟩ := C1
  refine lv_aload_n (pc := 0) hx hb dX4_build_0 rfl (lv_at hl 0 rfl) ?_
  refine lv_iconst (v := 0) (pc := 1) hx hb dX4_build_1 rfl ?_
  replace h := ez_bd h
  obtain ⟨w2, e1, h⟩ := h
  refine va_put (D := D) (v := .int 0) (ty := .int) (pc := 2) hx hb hw inX4 tyX4 tyX4_ok nmX4 hown hK hP hD hS 0 rfl rfl 7 (by decide) (hw _ mw434) (fun _ h9 => h9) rfl (by decide +kernel) rfl rfl (Nat.le_of_ble_eq_true rfl) dX4_build_2 (fun H locs hP hD hS => ?_)
  replace hP : va_P D vwCl (wM a k w2) H := by rw [(ez_fIs e1)]; exact hP
  replace hD : va_D A (wM a k w2) := by rw [(ez_fIs e1)]; exact hD
  refine lv_aload_n (pc := 5) hx hb dX4_build_5 rfl (lv_at hl 0 rfl) ?_
  refine lv_iconst (v := 0) (pc := 6) hx hb dX4_build_6 rfl ?_
  replace h := ez_bd h
  obtain ⟨w4, e3, h⟩ := h
  refine va_put (D := D) (v := .int 0) (ty := .int) (pc := 7) hx hb hw inX4 tyX4 tyX4_ok nmX4 hown hK hP hD hS 0 rfl rfl 9 (by decide) (hw _ mw436) (fun _ h9 => h9) rfl (by decide +kernel) rfl rfl (Nat.le_of_ble_eq_true rfl) dX4_build_7 (fun H locs hP hD hS => ?_)
  replace hP : va_P D vwCl (wM a k w4) H := by rw [(ez_fIs e3)]; exact hP
  replace hD : va_D A (wM a k w4) := by rw [(ez_fIs e3)]; exact hD
  refine lv_iconst (v := 1) (pc := 10) hx hb dX4_build_10 rfl ?_
  refine lv_istore_n (pc := 11) hx hb dX4_build_11 rfl hl (by decide) rfl (fun ls hl => ?_)
  replace hl : lv_has ls 5 [(1, .int 1), (0, .ref (a 0))] := hl
  refine lv_iconst (v := 0) (pc := 12) hx hb dX4_build_12 rfl ?_
  refine lv_istore_n (pc := 13) hx hb dX4_build_13 rfl hl (by decide) rfl (fun ls hl => ?_)
  replace hl : lv_has ls 5 [(2, .int 0), (1, .int 1), (0, .ref (a 0))] := hl
  exact tX4_build_14 C0 hK  n _ _ _ 1 0 w4 (lv_sub hl [2, 1, 0] rfl) hP hD hS h
set_option maxRecDepth 100000 in
theorem kX4_build (l : Launch) (D : va_G) (a : Nat → Nat) (k : Nat → ClassId) (n : Nat) (w : Wd) (z : Wd) (h : fX4_build n w = some z) (sz : Nat) : Met l yX4_build wsX4_build ({ frames := 4, cells := 0, slots := 0, locals := 92 } : Room) (ez_Pc D (tM k) [.ref (a 0)] (wM a k w) sz) (ez_Qv D (tM k) (va_A (wM a k w) sz) (wM a k z)) 0 0 (va_A (wM a k w) sz) :=
  ez_mk (Qf := fun A => (ez_Qv D (tM k) A (wM a k z))) (by decide) rfl (Nat.le_of_ble_eq_true rfl) (fun p e s m below meth c A ls C0 _ hl hP hD hK => tX4_build_0 C0 hK n s.heap [] ls w (lv_sub (l := [(0, .ref (a 0))]) hl [0] rfl) hP hD va_S.rf h) sz
/-! EnclosureCalculatorModel define -/
theorem dX4_define_0 : decode cX4_define 0 = .ok (.iload_n 1, 1) := by decide +kernel
theorem dX4_define_1 : decode cX4_define 1 = .ok (.ifCond .lt 9, 3) := by decide +kernel
theorem dX4_define_4 : decode cX4_define 4 = .ok (.iload_n 1, 1) := by decide +kernel
theorem dX4_define_5 : decode cX4_define 5 = .ok (.bipush 7, 2) := by decide +kernel
theorem dX4_define_7 : decode cX4_define 7 = .ok (.if_icmp .le 5, 3) := by decide +kernel
theorem dX4_define_10 : decode cX4_define 10 = .ok (.iconst (-1), 1) := by decide +kernel
theorem dX4_define_11 : decode cX4_define 11 = .ok (.ireturn, 1) := by decide +kernel
theorem dX4_define_12 : decode cX4_define 12 = .ok (.aload_n 0, 1) := by decide +kernel
theorem dX4_define_13 : decode cX4_define 13 = .ok (.invokevirtual 100, 3) := by decide +kernel
theorem dX4_define_16 : decode cX4_define 16 = .ok (.ifCond .ne 6, 3) := by decide +kernel
theorem dX4_define_19 : decode cX4_define 19 = .ok (.bipush (-2), 2) := by decide +kernel
theorem dX4_define_21 : decode cX4_define 21 = .ok (.ireturn, 1) := by decide +kernel
theorem dX4_define_22 : decode cX4_define 22 = .ok (.aload_n 0, 1) := by decide +kernel
theorem dX4_define_23 : decode cX4_define 23 = .ok (.invokevirtual 104, 3) := by decide +kernel
theorem dX4_define_26 : decode cX4_define 26 = .ok (.ifCond .ne 6, 3) := by decide +kernel
theorem dX4_define_29 : decode cX4_define 29 = .ok (.bipush (-3), 2) := by decide +kernel
theorem dX4_define_31 : decode cX4_define 31 = .ok (.ireturn, 1) := by decide +kernel
theorem dX4_define_32 : decode cX4_define 32 = .ok (.aload_n 0, 1) := by decide +kernel
theorem dX4_define_33 : decode cX4_define 33 = .ok (.getfield 63, 3) := by decide +kernel
theorem dX4_define_36 : decode cX4_define 36 = .ok (.istore_n 2, 1) := by decide +kernel
theorem dX4_define_37 : decode cX4_define 37 = .ok (.aload_n 0, 1) := by decide +kernel
theorem dX4_define_38 : decode cX4_define 38 = .ok (.invokevirtual 107, 3) := by decide +kernel
theorem dX4_define_41 : decode cX4_define 41 = .ok (.aload_n 0, 1) := by decide +kernel
theorem dX4_define_42 : decode cX4_define 42 = .ok (.getfield 63, 3) := by decide +kernel
theorem dX4_define_45 : decode cX4_define 45 = .ok (.bipush 80, 2) := by decide +kernel
theorem dX4_define_47 : decode cX4_define 47 = .ok (.if_icmp .le 11, 3) := by decide +kernel
theorem dX4_define_50 : decode cX4_define 50 = .ok (.aload_n 0, 1) := by decide +kernel
theorem dX4_define_51 : decode cX4_define 51 = .ok (.iload_n 2, 1) := by decide +kernel
theorem dX4_define_52 : decode cX4_define 52 = .ok (.putfield 63, 3) := by decide +kernel
theorem dX4_define_55 : decode cX4_define 55 = .ok (.bipush (-4), 2) := by decide +kernel
theorem dX4_define_57 : decode cX4_define 57 = .ok (.ireturn, 1) := by decide +kernel
theorem dX4_define_58 : decode cX4_define 58 = .ok (.aload_n 0, 1) := by decide +kernel
theorem dX4_define_59 : decode cX4_define 59 = .ok (.getfield 13, 3) := by decide +kernel
theorem dX4_define_62 : decode cX4_define 62 = .ok (.iload_n 1, 1) := by decide +kernel
theorem dX4_define_63 : decode cX4_define 63 = .ok (.aload_n 0, 1) := by decide +kernel
theorem dX4_define_64 : decode cX4_define 64 = .ok (.getfield 25, 3) := by decide +kernel
theorem dX4_define_67 : decode cX4_define 67 = .ok (.iconst 0, 1) := by decide +kernel
theorem dX4_define_68 : decode cX4_define 68 = .ok (.iaload, 1) := by decide +kernel
theorem dX4_define_69 : decode cX4_define 69 = .ok (.iconst 1, 1) := by decide +kernel
theorem dX4_define_70 : decode cX4_define 70 = .ok (.iadd, 1) := by decide +kernel
theorem dX4_define_71 : decode cX4_define 71 = .ok (.iastore, 1) := by decide +kernel
theorem dX4_define_72 : decode cX4_define 72 = .ok (.aload_n 0, 1) := by decide +kernel
theorem dX4_define_73 : decode cX4_define 73 = .ok (.iconst 0, 1) := by decide +kernel
theorem dX4_define_74 : decode cX4_define 74 = .ok (.putfield 45, 3) := by decide +kernel
theorem dX4_define_77 : decode cX4_define 77 = .ok (.aload_n 0, 1) := by decide +kernel
theorem dX4_define_78 : decode cX4_define 78 = .ok (.getfield 63, 3) := by decide +kernel
theorem dX4_define_81 : decode cX4_define 81 = .ok (.iload_n 2, 1) := by decide +kernel
theorem dX4_define_82 : decode cX4_define 82 = .ok (.isub, 1) := by decide +kernel
theorem dX4_define_83 : decode cX4_define 83 = .ok (.ireturn, 1) := by decide +kernel
def fX4_define (n : Nat) (x1 : Int32) (w : Wd) : Option (Int32 × Wd) :=
    if x1 < 0 then
      some ((-1), w)
    else
      if x1 ≤ 7 then
        (fX4_inGrammar n w).bind fun z3 =>
        if z3 = 0 then
          some ((-2), w)
        else
          (fX4_allKnown n w).bind fun z6 =>
          if z6 = 0 then
            some ((-3), w)
          else
            (fX4_build n w).bind fun z9 =>
            if (z9.1 0 1) ≤ 80 then
              (ez_ldI z9 6 21 0).bind fun y13 =>
              (ez_stI z9 2 8 x1 (y13 + 1)).bind fun w15 =>
              (ez_fI w15 0 0).bind fun w17 =>
              some (((w17.1 0 1) - (w.1 0 1)), w17)
            else
              (ez_fI z9 1 (w.1 0 1)).bind fun w19 =>
              some ((-4), w19)
      else
        some ((-1), w)
set_option maxHeartbeats 4000000 in
set_option maxRecDepth 100000 in
theorem tX4_define_0 {p : Program} {l : Launch} {e : Env} {s : State} {m : MethodId} {args : Array Value} {below : List Frame} {meth : Method} {c : Code} {A : Nat → Prop} {D : va_G} {a : Nat → Nat} {k : Nat → ClassId} {z : Int32 × Wd} (C0 : ez_C p s m args meth c cX4_define (some .int) 3 RX4 A) (hK : va_K D vwCl (tM k) s) : ∀ (n : Nat) (H : Heap) (locs : List Loc) (ls : Array Slot) (x1 : Int32) (w : Wd), lv_has ls 3 [(0, .ref (a 0)), (1, .int x1)] → va_P D vwCl (wM a k w) H → va_D A (wM a k w) → va_S A s.heap H locs → fX4_define n x1 w = some z → W p l e ({ frames := 5, cells := 0, slots := 0, locals := 116 } : Room) s m args below meth c H locs 0 0 (MQ below (ez_Qi D (tM k) A z.1 (wM a k z.2)) args s 0 0 A) (F0 m 0 ls []) := by
  intro n
  intro H locs ls x1 w hl hP hD hS h
  rw [fX4_define] at h
  have C1 := C0
  obtain ⟨hx, hb, hr, hml, hown, hw, hlk, hA, hN⟩ := C1
  refine lv_iload_n (pc := 0) hx hb dX4_define_0 rfl (lv_at hl 1 rfl) ?_
  refine lv_if_lt (pc := 1) (tgt := 10) hx hb dX4_define_1 (by decide) (fun c1 => ?_) (fun c1 => ?_)
  · replace h := ez_it c1 h
    refine lv_iconst (v := (-1)) (pc := 10) hx hb dX4_define_10 rfl ?_
    obtain rfl := ez_r1 h
    exact ez_retI C0 hP hD hK hS dX4_define_11
  · replace h := ez_if c1 h
    refine lv_iload_n (pc := 4) hx hb dX4_define_4 rfl (lv_at hl 1 rfl) ?_
    refine lv_bipush (v := 7) (pc := 5) hx hb dX4_define_5 rfl ?_
    refine lv_icmp_le (pc := 7) (tgt := 12) hx hb dX4_define_7 (by decide) (fun c2 => ?_) (fun c2 => ?_)
    · replace h := ez_it c2 h
      refine lv_aload_n (pc := 12) hx hb dX4_define_12 rfl (lv_at hl 0 rfl) ?_
      replace h := ez_bd h
      obtain ⟨z3, e4, h⟩ := h
      refine ez_croI (r := z3) (pc := 13) (va_runV (g := F0 m 13 ls [.ref (a 0)]) (As := []) (rest := []) ⟨hx, hb, hml, hown, hw⟩ (kX4_inGrammar l D a k n w z3 e4) (cwV 0 hw (ez_gV mw513 mw515 mp32 mw4 mw516) rfl rfl rfl (by decide +kernel) ⟨Nat.le_of_ble_eq_true rfl, Nat.le_of_ble_eq_true rfl⟩) (ez_preRV (wr := []) (wl := (wM a k w)) hP hK hN 0 rfl rfl) rfl rfl hl.1 rfl (lv_room (Nat.le_of_ble_eq_true rfl)) dX4_define_13 ⟨Nat.le_refl _, Nat.le_refl _⟩) ?_
      refine lv_if_ne (pc := 16) (tgt := 22) hx hb dX4_define_16 (by decide) (fun c5 => ?_) (fun c5 => ?_)
      · replace h := ez_if c5 h
        refine lv_aload_n (pc := 22) hx hb dX4_define_22 rfl (lv_at hl 0 rfl) ?_
        replace h := ez_bd h
        obtain ⟨z6, e7, h⟩ := h
        refine ez_croI (r := z6) (pc := 23) (va_runV (g := F0 m 23 ls [.ref (a 0)]) (As := []) (rest := []) ⟨hx, hb, hml, hown, hw⟩ (kX4_allKnown l D a k n w z6 e7) (cwV 0 hw (ez_gV mw520 mw522 mp33 mw4 mw523) rfl rfl rfl (by decide +kernel) ⟨Nat.le_of_ble_eq_true rfl, Nat.le_of_ble_eq_true rfl⟩) (ez_preRV (wr := []) (wl := (wM a k w)) hP hK hN 0 rfl rfl) rfl rfl hl.1 rfl (lv_room (Nat.le_of_ble_eq_true rfl)) dX4_define_23 ⟨Nat.le_refl _, Nat.le_refl _⟩) ?_
        refine lv_if_ne (pc := 26) (tgt := 32) hx hb dX4_define_26 (by decide) (fun c8 => ?_) (fun c8 => ?_)
        · replace h := ez_if c8 h
          refine lv_aload_n (pc := 32) hx hb dX4_define_32 rfl (lv_at hl 0 rfl) ?_
          refine va_get (D := D) (pc := 33) hx hb hw inX4 hown hK hP 0 rfl rfl 3 (by decide) (hw _ mw430) (fun _ h9 => h9) rfl dX4_define_33 ?_
          refine lv_istore_n (pc := 36) hx hb dX4_define_36 rfl hl (by decide) rfl (fun ls hl => ?_)
          replace hl : lv_has ls 3 [(2, .int (w.1 0 1)), (0, .ref (a 0)), (1, .int x1)] := hl
          refine lv_aload_n (pc := 37) hx hb dX4_define_37 rfl (lv_at hl 1 rfl) ?_
          replace h := ez_bd h
          obtain ⟨z9, e10, h⟩ := h
          refine ez_callV (pc := 38) (wr := []) (wl := (wM a k w)) (wl' := (wM a k z9)) (va_runV (g := F0 m 38 ls [.ref (a 0)]) (As := []) (rest := []) ⟨hx, hb, hml, hown, hw⟩ (kX4_build l D a k n w z9 e10 H.size) (cwV 0 hw (ez_gV mw524 mw526 mp34 mw4 mw527) rfl rfl rfl (by decide +kernel) ⟨Nat.le_of_ble_eq_true rfl, Nat.le_of_ble_eq_true rfl⟩) (ez_preV (wr := []) (wl := (wM a k w)) hP hD hK hN 0 rfl rfl) rfl rfl hl.1 rfl (lv_room (Nat.le_of_ble_eq_true rfl)) dX4_define_38 ⟨Nat.le_refl _, Nat.le_refl _⟩) hP hD hS hA (fun H locs hP hD hS => ?_)
          replace hP : va_P D vwCl (wM a k z9) H := hP
          replace hD : va_D A (wM a k z9) := hD
          refine lv_aload_n (pc := 41) hx hb dX4_define_41 rfl (lv_at hl 1 rfl) ?_
          refine va_get (D := D) (pc := 42) hx hb hw inX4 hown hK hP 0 rfl rfl 3 (by decide) (hw _ mw430) (fun _ h9 => h9) rfl dX4_define_42 ?_
          refine lv_bipush (v := 80) (pc := 45) hx hb dX4_define_45 rfl ?_
          refine lv_icmp_le (pc := 47) (tgt := 58) hx hb dX4_define_47 (by decide) (fun c11 => ?_) (fun c11 => ?_)
          · replace h := ez_it c11 h
            refine lv_aload_n (pc := 58) hx hb dX4_define_58 rfl (lv_at hl 1 rfl) ?_
            refine va_get (D := D) (pc := 59) hx hb hw inX4 hown hK hP 0 rfl rfl 2 (by decide) (hw _ mw429) (fun _ h9 => h9) rfl dX4_define_59 ?_
            refine lv_iload_n (pc := 62) hx hb dX4_define_62 rfl (lv_at hl 2 rfl) ?_
            refine lv_aload_n (pc := 63) hx hb dX4_define_63 rfl (lv_at hl 1 rfl) ?_
            refine va_get (D := D) (pc := 64) hx hb hw inX4 hown hK hP 0 rfl rfl 8 (by decide) (hw _ mw435) (fun _ h9 => h9) rfl dX4_define_64 ?_
            refine lv_iconst (v := 0) (pc := 67) hx hb dX4_define_67 rfl ?_
            replace h := ez_bd h
            obtain ⟨y13, e12, h⟩ := h
            obtain ⟨e12i, e12⟩ := ez_ldIs e12
            refine va_iald (D := D) (pc := 68) hx hb hK hP 6 5 rfl rfl e12i dX4_define_68 ?_
            refine lv_topi (fun y9 hy9 => ?_)
            obtain rfl : y13 = y9 := e12.trans hy9.symm
            refine lv_iconst (v := 1) (pc := 69) hx hb dX4_define_69 rfl ?_
            refine lv_iadd (pc := 70) hx hb dX4_define_70 ?_
            replace h := ez_bd h
            obtain ⟨w15, e14, h⟩ := h
            obtain ⟨e14i, e14⟩ := ez_stIs e14
            refine va_iast (D := D) (pc := 71) hx hb hK hP hD hS 2 1 rfl rfl e14i dX4_define_71 (fun H locs hP hD hS => ?_)
            replace hP : va_P D vwCl (wM a k w15) H := by rw [e14]; exact hP
            replace hD : va_D A (wM a k w15) := by rw [e14]; exact hD
            refine lv_aload_n (pc := 72) hx hb dX4_define_72 rfl (lv_at hl 1 rfl) ?_
            refine lv_iconst (v := 0) (pc := 73) hx hb dX4_define_73 rfl ?_
            replace h := ez_bd h
            obtain ⟨w17, e16, h⟩ := h
            refine va_put (D := D) (v := .int 0) (ty := .int) (pc := 74) hx hb hw inX4 tyX4 tyX4_ok nmX4 hown hK hP hD hS 0 rfl rfl 0 (by decide) (hw _ mw427) (fun _ h9 => h9) rfl (by decide +kernel) rfl rfl (Nat.le_of_ble_eq_true rfl) dX4_define_74 (fun H locs hP hD hS => ?_)
            replace hP : va_P D vwCl (wM a k w17) H := by rw [(ez_fIs e16)]; exact hP
            replace hD : va_D A (wM a k w17) := by rw [(ez_fIs e16)]; exact hD
            refine lv_aload_n (pc := 77) hx hb dX4_define_77 rfl (lv_at hl 1 rfl) ?_
            refine va_get (D := D) (pc := 78) hx hb hw inX4 hown hK hP 0 rfl rfl 3 (by decide) (hw _ mw430) (fun _ h9 => h9) rfl dX4_define_78 ?_
            refine lv_iload_n (pc := 81) hx hb dX4_define_81 rfl (lv_at hl 0 rfl) ?_
            refine lv_isub (pc := 82) hx hb dX4_define_82 ?_
            obtain rfl := ez_r1 h
            exact ez_retI C0 hP hD hK hS dX4_define_83
          · replace h := ez_if c11 h
            refine lv_aload_n (pc := 50) hx hb dX4_define_50 rfl (lv_at hl 1 rfl) ?_
            refine lv_iload_n (pc := 51) hx hb dX4_define_51 rfl (lv_at hl 0 rfl) ?_
            replace h := ez_bd h
            obtain ⟨w19, e18, h⟩ := h
            refine va_put (D := D) (v := .int (w.1 0 1)) (ty := .int) (pc := 52) hx hb hw inX4 tyX4 tyX4_ok nmX4 hown hK hP hD hS 0 rfl rfl 3 (by decide) (hw _ mw430) (fun _ h9 => h9) rfl (by decide +kernel) rfl rfl (Nat.le_of_ble_eq_true rfl) dX4_define_52 (fun H locs hP hD hS => ?_)
            replace hP : va_P D vwCl (wM a k w19) H := by rw [(ez_fIs e18)]; exact hP
            replace hD : va_D A (wM a k w19) := by rw [(ez_fIs e18)]; exact hD
            refine lv_bipush (v := (-4)) (pc := 55) hx hb dX4_define_55 rfl ?_
            obtain rfl := ez_r1 h
            exact ez_retI C0 hP hD hK hS dX4_define_57
        · replace h := ez_it c8 h
          refine lv_bipush (v := (-3)) (pc := 29) hx hb dX4_define_29 rfl ?_
          obtain rfl := ez_r1 h
          exact ez_retI C0 hP hD hK hS dX4_define_31
      · replace h := ez_it c5 h
        refine lv_bipush (v := (-2)) (pc := 19) hx hb dX4_define_19 rfl ?_
        obtain rfl := ez_r1 h
        exact ez_retI C0 hP hD hK hS dX4_define_21
    · replace h := ez_if c2 h
      refine lv_iconst (v := (-1)) (pc := 10) hx hb dX4_define_10 rfl ?_
      obtain rfl := ez_r1 h
      exact ez_retI C0 hP hD hK hS dX4_define_11
set_option maxRecDepth 100000 in
theorem kX4_define (l : Launch) (D : va_G) (a : Nat → Nat) (k : Nat → ClassId) (n : Nat) (x1 : Int32) (w : Wd) (z : Int32 × Wd) (h : fX4_define n x1 w = some z) (sz : Nat) : Met l yX4_define wsX4_define ({ frames := 5, cells := 0, slots := 0, locals := 116 } : Room) (ez_Pc D (tM k) [.ref (a 0), .int x1] (wM a k w) sz) (ez_Qi D (tM k) (va_A (wM a k w) sz) z.1 (wM a k z.2)) 0 0 (va_A (wM a k w) sz) :=
  ez_mk (Qf := fun A => (ez_Qi D (tM k) A z.1 (wM a k z.2))) (by decide) rfl (Nat.le_of_ble_eq_true rfl) (fun p e s m below meth c A ls C0 _ hl hP hD hK => tX4_define_0 C0 hK n s.heap [] ls x1 w (lv_sub (l := [(0, .ref (a 0)), (1, .int x1)]) hl [0, 1] rfl) hP hD va_S.rf h) sz
/-! EnclosureCalculatorModel clear -/
theorem dX4_clear_0 : decode cX4_clear 0 = .ok (.iconst 0, 1) := by decide +kernel
theorem dX4_clear_1 : decode cX4_clear 1 = .ok (.istore_n 1, 1) := by decide +kernel
theorem dX4_clear_2 : decode cX4_clear 2 = .ok (.iload_n 1, 1) := by decide +kernel
theorem dX4_clear_3 : decode cX4_clear 3 = .ok (.bipush 8, 2) := by decide +kernel
theorem dX4_clear_5 : decode cX4_clear 5 = .ok (.if_icmp .ge 16, 3) := by decide +kernel
theorem dX4_clear_8 : decode cX4_clear 8 = .ok (.aload_n 0, 1) := by decide +kernel
theorem dX4_clear_9 : decode cX4_clear 9 = .ok (.getfield 13, 3) := by decide +kernel
theorem dX4_clear_12 : decode cX4_clear 12 = .ok (.iload_n 1, 1) := by decide +kernel
theorem dX4_clear_13 : decode cX4_clear 13 = .ok (.iconst 0, 1) := by decide +kernel
theorem dX4_clear_14 : decode cX4_clear 14 = .ok (.iastore, 1) := by decide +kernel
theorem dX4_clear_15 : decode cX4_clear 15 = .ok (.iinc 1 1, 3) := by decide +kernel
theorem dX4_clear_18 : decode cX4_clear 18 = .ok (.goto (-16), 3) := by decide +kernel
theorem dX4_clear_21 : decode cX4_clear 21 = .ok (.aload_n 0, 1) := by decide +kernel
theorem dX4_clear_22 : decode cX4_clear 22 = .ok (.iconst 0, 1) := by decide +kernel
theorem dX4_clear_23 : decode cX4_clear 23 = .ok (.putfield 45, 3) := by decide +kernel
theorem dX4_clear_26 : decode cX4_clear 26 = .ok (.aload_n 0, 1) := by decide +kernel
theorem dX4_clear_27 : decode cX4_clear 27 = .ok (.iconst 0, 1) := by decide +kernel
theorem dX4_clear_28 : decode cX4_clear 28 = .ok (.putfield 63, 3) := by decide +kernel
theorem dX4_clear_31 : decode cX4_clear 31 = .ok (.aload_n 0, 1) := by decide +kernel
theorem dX4_clear_32 : decode cX4_clear 32 = .ok (.iconst 0, 1) := by decide +kernel
theorem dX4_clear_33 : decode cX4_clear 33 = .ok (.putfield 110, 3) := by decide +kernel
theorem dX4_clear_36 : decode cX4_clear 36 = .ok (.aload_n 0, 1) := by decide +kernel
theorem dX4_clear_37 : decode cX4_clear 37 = .ok (.iconst 0, 1) := by decide +kernel
theorem dX4_clear_38 : decode cX4_clear 38 = .ok (.putfield 113, 3) := by decide +kernel
theorem dX4_clear_41 : decode cX4_clear 41 = .ok (.return_, 1) := by decide +kernel
def fX4_clear_2 : Nat → Int32 → Wd → Option (Wd)
  | 0, _, _ => none
  | n + 1, x1, w =>
    if 8 ≤ x1 then
      (ez_fI w 0 0).bind fun w3 =>
      (ez_fI w3 1 0).bind fun w5 =>
      (ez_fI w5 4 0).bind fun w7 =>
      (ez_fI w7 6 0).bind fun w9 =>
      some w9
    else
      (ez_stI w 2 8 x1 0).bind fun w11 =>
      fX4_clear_2 n (x1 + 1) w11
def fX4_clear (n : Nat) (w : Wd) : Option (Wd) :=
    fX4_clear_2 n 0 w
set_option maxHeartbeats 4000000 in
set_option maxRecDepth 100000 in
theorem tX4_clear_2 {p : Program} {l : Launch} {e : Env} {s : State} {m : MethodId} {args : Array Value} {below : List Frame} {meth : Method} {c : Code} {A : Nat → Prop} {D : va_G} {a : Nat → Nat} {k : Nat → ClassId} {z : Wd} (C0 : ez_C p s m args meth c cX4_clear none 2 RX4 A) (hK : va_K D vwCl (tM k) s) : ∀ (n : Nat) (H : Heap) (locs : List Loc) (ls : Array Slot) (x1 : Int32) (w : Wd), lv_has ls 2 [(0, .ref (a 0)), (1, .int x1)] → va_P D vwCl (wM a k w) H → va_D A (wM a k w) → va_S A s.heap H locs → fX4_clear_2 n x1 w = some z → W p l e ({ frames := 0, cells := 0, slots := 0, locals := 0 } : Room) s m args below meth c H locs 0 0 (MQ below (ez_Qv D (tM k) A (wM a k z)) args s 0 0 A) (F0 m 2 ls []) := by
  intro n
  induction n with
  | zero =>
    intro H locs ls x1 w hl hP hD hS h
    rw [fX4_clear_2] at h
    cases h
  | succ n ih =>
    intro H locs ls x1 w hl hP hD hS h
    rw [fX4_clear_2] at h
    have C1 := C0
    obtain ⟨hx, hb, hr, hml, hown, hw, hlk, hA, hN⟩ := C1
    refine lv_iload_n (pc := 2) hx hb dX4_clear_2 rfl (lv_at hl 1 rfl) ?_
    refine lv_bipush (v := 8) (pc := 3) hx hb dX4_clear_3 rfl ?_
    refine lv_icmp_ge (pc := 5) (tgt := 21) hx hb dX4_clear_5 (by decide) (fun c1 => ?_) (fun c1 => ?_)
    · replace h := ez_it c1 h
      refine lv_aload_n (pc := 21) hx hb dX4_clear_21 rfl (lv_at hl 0 rfl) ?_
      refine lv_iconst (v := 0) (pc := 22) hx hb dX4_clear_22 rfl ?_
      replace h := ez_bd h
      obtain ⟨w3, e2, h⟩ := h
      refine va_put (D := D) (v := .int 0) (ty := .int) (pc := 23) hx hb hw inX4 tyX4 tyX4_ok nmX4 hown hK hP hD hS 0 rfl rfl 0 (by decide) (hw _ mw427) (fun _ h9 => h9) rfl (by decide +kernel) rfl rfl (Nat.le_of_ble_eq_true rfl) dX4_clear_23 (fun H locs hP hD hS => ?_)
      replace hP : va_P D vwCl (wM a k w3) H := by rw [(ez_fIs e2)]; exact hP
      replace hD : va_D A (wM a k w3) := by rw [(ez_fIs e2)]; exact hD
      refine lv_aload_n (pc := 26) hx hb dX4_clear_26 rfl (lv_at hl 0 rfl) ?_
      refine lv_iconst (v := 0) (pc := 27) hx hb dX4_clear_27 rfl ?_
      replace h := ez_bd h
      obtain ⟨w5, e4, h⟩ := h
      refine va_put (D := D) (v := .int 0) (ty := .int) (pc := 28) hx hb hw inX4 tyX4 tyX4_ok nmX4 hown hK hP hD hS 0 rfl rfl 3 (by decide) (hw _ mw430) (fun _ h9 => h9) rfl (by decide +kernel) rfl rfl (Nat.le_of_ble_eq_true rfl) dX4_clear_28 (fun H locs hP hD hS => ?_)
      replace hP : va_P D vwCl (wM a k w5) H := by rw [(ez_fIs e4)]; exact hP
      replace hD : va_D A (wM a k w5) := by rw [(ez_fIs e4)]; exact hD
      refine lv_aload_n (pc := 31) hx hb dX4_clear_31 rfl (lv_at hl 0 rfl) ?_
      refine lv_iconst (v := 0) (pc := 32) hx hb dX4_clear_32 rfl ?_
      replace h := ez_bd h
      obtain ⟨w7, e6, h⟩ := h
      refine va_put (D := D) (v := .int 0) (ty := .int) (pc := 33) hx hb hw inX4 tyX4 tyX4_ok nmX4 hown hK hP hD hS 0 rfl rfl 15 (by decide) (hw _ mw442) (fun _ h9 => h9) rfl (by decide +kernel) rfl rfl (Nat.le_of_ble_eq_true rfl) dX4_clear_33 (fun H locs hP hD hS => ?_)
      replace hP : va_P D vwCl (wM a k w7) H := by rw [(ez_fIs e6)]; exact hP
      replace hD : va_D A (wM a k w7) := by rw [(ez_fIs e6)]; exact hD
      refine lv_aload_n (pc := 36) hx hb dX4_clear_36 rfl (lv_at hl 0 rfl) ?_
      refine lv_iconst (v := 0) (pc := 37) hx hb dX4_clear_37 rfl ?_
      replace h := ez_bd h
      obtain ⟨w9, e8, h⟩ := h
      refine va_put (D := D) (v := .int 0) (ty := .boolean) (pc := 38) hx hb hw inX4 tyX4 tyX4_ok nmX4 hown hK hP hD hS 0 rfl rfl 17 (by decide) (hw _ mw444) (fun _ h9 => h9) rfl (by decide +kernel) rfl rfl (Nat.le_of_ble_eq_true rfl) dX4_clear_38 (fun H locs hP hD hS => ?_)
      replace hP : va_P D vwCl (wM a k w9) H := by rw [(ez_fIs e8)]; exact hP
      replace hD : va_D A (wM a k w9) := by rw [(ez_fIs e8)]; exact hD
      obtain rfl := ez_r1 h
      exact ez_retV C0 hP hD hK hS dX4_clear_41
    · replace h := ez_if c1 h
      refine lv_aload_n (pc := 8) hx hb dX4_clear_8 rfl (lv_at hl 0 rfl) ?_
      refine va_get (D := D) (pc := 9) hx hb hw inX4 hown hK hP 0 rfl rfl 2 (by decide) (hw _ mw429) (fun _ h9 => h9) rfl dX4_clear_9 ?_
      refine lv_iload_n (pc := 12) hx hb dX4_clear_12 rfl (lv_at hl 1 rfl) ?_
      refine lv_iconst (v := 0) (pc := 13) hx hb dX4_clear_13 rfl ?_
      replace h := ez_bd h
      obtain ⟨w11, e10, h⟩ := h
      obtain ⟨e10i, e10⟩ := ez_stIs e10
      refine va_iast (D := D) (pc := 14) hx hb hK hP hD hS 2 1 rfl rfl e10i dX4_clear_14 (fun H locs hP hD hS => ?_)
      replace hP : va_P D vwCl (wM a k w11) H := by rw [e10]; exact hP
      replace hD : va_D A (wM a k w11) := by rw [e10]; exact hD
      refine lv_iinc (v := (x1 + 1)) (k := 1) (pc := 15) hx hb dX4_clear_15 hl rfl rfl (by decide) rfl (fun ls hl => ?_)
      replace hl : lv_has ls 2 [(1, .int (x1 + 1)), (0, .ref (a 0))] := hl
      refine lv_goto (pc := 18) (tgt := 2) hx hb dX4_clear_18 (by decide) ?_
      exact ih _ _ _ (x1 + 1) w11 (lv_sub hl [1, 0] rfl) hP hD hS h
set_option maxHeartbeats 4000000 in
set_option maxRecDepth 100000 in
theorem tX4_clear_0 {p : Program} {l : Launch} {e : Env} {s : State} {m : MethodId} {args : Array Value} {below : List Frame} {meth : Method} {c : Code} {A : Nat → Prop} {D : va_G} {a : Nat → Nat} {k : Nat → ClassId} {z : Wd} (C0 : ez_C p s m args meth c cX4_clear none 2 RX4 A) (hK : va_K D vwCl (tM k) s) : ∀ (n : Nat) (H : Heap) (locs : List Loc) (ls : Array Slot) (w : Wd), lv_has ls 2 [(0, .ref (a 0))] → va_P D vwCl (wM a k w) H → va_D A (wM a k w) → va_S A s.heap H locs → fX4_clear n w = some z → W p l e ({ frames := 0, cells := 0, slots := 0, locals := 0 } : Room) s m args below meth c H locs 0 0 (MQ below (ez_Qv D (tM k) A (wM a k z)) args s 0 0 A) (F0 m 0 ls []) := by
  intro n
  intro H locs ls w hl hP hD hS h
  rw [fX4_clear] at h
  have C1 := C0
  obtain ⟨hx, hb, hr, hml, hown, hw, hlk, hA, hN⟩ := C1
  refine lv_iconst (v := 0) (pc := 0) hx hb dX4_clear_0 rfl ?_
  refine lv_istore_n (pc := 1) hx hb dX4_clear_1 rfl hl (by decide) rfl (fun ls hl => ?_)
  replace hl : lv_has ls 2 [(1, .int 0), (0, .ref (a 0))] := hl
  exact tX4_clear_2 C0 hK  n _ _ _ 0 w (lv_sub hl [1, 0] rfl) hP hD hS h
set_option maxRecDepth 100000 in
theorem kX4_clear (l : Launch) (D : va_G) (a : Nat → Nat) (k : Nat → ClassId) (n : Nat) (w : Wd) (z : Wd) (h : fX4_clear n w = some z) (sz : Nat) : Met l yX4_clear wsX4_clear ({ frames := 0, cells := 0, slots := 0, locals := 0 } : Room) (ez_Pc D (tM k) [.ref (a 0)] (wM a k w) sz) (ez_Qv D (tM k) (va_A (wM a k w) sz) (wM a k z)) 0 0 (va_A (wM a k w) sz) :=
  ez_mk (Qf := fun A => (ez_Qv D (tM k) A (wM a k z))) (by decide) rfl (Nat.le_of_ble_eq_true rfl) (fun p e s m below meth c A ls C0 _ hl hP hD hK => tX4_clear_0 C0 hK n s.heap [] ls w (lv_sub (l := [(0, .ref (a 0))]) hl [0] rfl) hP hD va_S.rf h) sz
