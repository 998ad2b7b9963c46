/-! pure words: a side's state is a pair of families: ints and longs, by the number of the array (0: the fields) and the place -/
abbrev Wd : Type := (Nat → Nat → Int32) × (Nat → Nat → Int64)
def ez_up {α : Type} (f : Nat → Nat → α) (b : Nat) (g : Nat → α) : Nat → Nat → α := fun c => cond (Nat.beq c b) g (f c)
def ez_sI (w : Wd) (b i : Nat) (v : Int32) : Wd := (ez_up w.1 b (upd (w.1 b) i v), w.2)
def ez_sL (w : Wd) (b i : Nat) (v : Int64) : Wd := (w.1, ez_up w.2 b (vp_updL (w.2 b) i v))
def ez_ldI (w : Wd) (b N : Nat) (i : Int32) : Option Int32 := if i < 0 ∨ N ≤ i.toNatClampNeg then none else some (w.1 b i.toNatClampNeg)
def ez_ldL (w : Wd) (b N : Nat) (i : Int32) : Option Int64 := if i < 0 ∨ N ≤ i.toNatClampNeg then none else some (w.2 b i.toNatClampNeg)
def ez_stI (w : Wd) (b N : Nat) (i v : Int32) : Option Wd := if i < 0 ∨ N ≤ i.toNatClampNeg then none else some (ez_sI w b i.toNatClampNeg v)
def ez_stL (w : Wd) (b N : Nat) (i : Int32) (v : Int64) : Option Wd := if i < 0 ∨ N ≤ i.toNatClampNeg then none else some (ez_sL w b i.toNatClampNeg v)
def ez_fI (w : Wd) (k : Nat) (v : Int32) : Option Wd := some (ez_sI w 0 k v)
def ez_fL (w : Wd) (k : Nat) (v : Int64) : Option Wd := some (ez_sL w 0 k v)
def ez_fV (v : Nat → Int32) (k : Nat) (x : Int32) : Option (Nat → Int32) := some (upd v k x)
def ez_nz (y : Int64) : Option Unit := if y = 0 then none else some ()
def ez_z (ty : FieldType) (v : Int32) : Option Unit := if vp_nar ty v = v then some () else none
theorem ez_ldIs {w : Wd} {b N : Nat} {i v : Int32} (h : ez_ldI w b N i = some v) : vp_in i N ∧ v = w.1 b i.toNatClampNeg := by
  unfold ez_ldI at h
  by_cases hc : i < 0 ∨ N ≤ i.toNatClampNeg
  · rw [if_pos hc] at h; cases h
  · rw [if_neg hc] at h; exact ⟨hc, (Option.some.inj h).symm⟩
theorem ez_ldLs {w : Wd} {b N : Nat} {i : Int32} {v : Int64} (h : ez_ldL w b N i = some v) : vp_in i N ∧ v = w.2 b i.toNatClampNeg := by
  unfold ez_ldL at h
  by_cases hc : i < 0 ∨ N ≤ i.toNatClampNeg
  · rw [if_pos hc] at h; cases h
  · rw [if_neg hc] at h; exact ⟨hc, (Option.some.inj h).symm⟩
theorem ez_stIs {w w1 : Wd} {b N : Nat} {i v : Int32} (h : ez_stI w b N i v = some w1) : vp_in i N ∧ w1 = ez_sI w b i.toNatClampNeg v := by
  unfold ez_stI at h
  by_cases hc : i < 0 ∨ N ≤ i.toNatClampNeg
  · rw [if_pos hc] at h; cases h
  · rw [if_neg hc] at h; exact ⟨hc, (Option.some.inj h).symm⟩
theorem ez_stLs {w w1 : Wd} {b N : Nat} {i : Int32} {v : Int64} (h : ez_stL w b N i v = some w1) : vp_in i N ∧ w1 = ez_sL w b i.toNatClampNeg v := by
  unfold ez_stL at h
  by_cases hc : i < 0 ∨ N ≤ i.toNatClampNeg
  · rw [if_pos hc] at h; cases h
  · rw [if_neg hc] at h; exact ⟨hc, (Option.some.inj h).symm⟩
theorem ez_fIs {w w1 : Wd} {k : Nat} {v : Int32} (h : ez_fI w k v = some w1) : w1 = ez_sI w 0 k v := (Option.some.inj h).symm
theorem ez_fLs {w w1 : Wd} {k : Nat} {v : Int64} (h : ez_fL w k v = some w1) : w1 = ez_sL w 0 k v := (Option.some.inj h).symm
theorem ez_fVs {v w1 : Nat → Int32} {k : Nat} {x : Int32} (h : ez_fV v k x = some w1) : w1 = upd v k x := (Option.some.inj h).symm
theorem ez_nzs {y : Int64} {u : Unit} (h : ez_nz y = some u) : ¬ y = 0 := by
  unfold ez_nz at h
  by_cases hc : y = 0
  · rw [if_pos hc] at h; cases h
  · exact hc
theorem ez_zs {ty : FieldType} {v : Int32} {u : Unit} (h : ez_z ty v = some u) : vp_nar ty v = v := by
  unfold ez_z at h
  by_cases hc : vp_nar ty v = v
  · exact hc
  · rw [if_neg hc] at h; cases h
theorem ez_bd {α β : Type} {x : Option α} {f : α → Option β} {r : β} (h : x.bind f = some r) : ∃ v, x = some v ∧ f v = some r := by
  cases x with
  | none => cases h
  | some v => exact ⟨v, rfl, h⟩
theorem ez_it {c : Prop} {dc : Decidable c} {α : Type} {a b r : α} (hc : c) (h : (@ite α c dc a b) = r) : a = r := by rw [if_pos hc] at h; exact h
theorem ez_if {c : Prop} {dc : Decidable c} {α : Type} {a b r : α} (hc : ¬ c) (h : (@ite α c dc a b) = r) : b = r := by rw [if_neg hc] at h; exact h
theorem ez_r1 {α : Type} {a b : α} (h : some a = some b) : a = b := Option.some.inj h
theorem ez_r2 {α β : Type} {a c : α} {b d : β} (h : some (a, b) = some (c, d)) : a = c ∧ b = d := by cases h; exact ⟨rfl, rfl⟩
theorem ez_r3 {α β γ : Type} {a c : α} {b d : β} {x y : γ} (h : some (a, b, x) = some (c, d, y)) : a = c ∧ b = d ∧ x = y := by cases h; exact ⟨rfl, rfl, rfl⟩
theorem ez_narc {v : Int32} (h : vp_nar .char v = v) : narrow .char (.int v) = .int v := by
  show Value.int (vp_nar .char v) = .int v
  rw [h]
theorem ez_narz {v : Int32} (h : vp_nar .boolean v = v) : narrow .boolean (.int v) = .int v := by
  show Value.int (vp_nar .boolean v) = .int v
  rw [h]
/-! worlds: a method's start and end, by lists of cells -/
def ez_N (U : State) : Prop := va_Nw (.methodLinkNest RX3 15 yX0_init RX3) U ∧ va_Nw (.methodLinkNest RX3 26 yX2_init RX3) U ∧ va_Nw (.methodLinkNest RX1 64 yX3_isDigit RX3) U ∧ va_Nw (.methodLinkNest RX1 72 yX3_isLetter RX3) U
theorem ez_N.same {u U : State} (h : u.vm = U.vm) (hN : ez_N u) : ez_N U := by
  obtain ⟨h1, h2, h3, h4⟩ := hN
  exact ⟨va_Nw.same rfl h h1, va_Nw.same rfl h h2, va_Nw.same rfl h h3, va_Nw.same rfl h h4⟩
theorem ez_N.warm {s U : State} (hN : ez_N s) (hW : s.WarmedH U.vm) : ez_N U := by
  obtain ⟨h1, h2, h3, h4⟩ := hN
  exact ⟨va_Nw.warmM hW h1, va_Nw.warmM hW h2, va_Nw.warmM hW h3, va_Nw.warmM hW h4⟩
theorem ez_N.n1 {U : State} (h : ez_N U) : va_Nw (.methodLinkNest RX3 15 yX0_init RX3) U := h.1
theorem ez_N.n2 {U : State} (h : ez_N U) : va_Nw (.methodLinkNest RX3 26 yX2_init RX3) U := h.2.1
theorem ez_N.n3 {U : State} (h : ez_N U) : va_Nw (.methodLinkNest RX1 64 yX3_isDigit RX3) U := h.2.2.1
theorem ez_N.n4 {U : State} (h : ez_N U) : va_Nw (.methodLinkNest RX1 72 yX3_isLetter RX3) U := h.2.2.2
theorem ez_gW {ys : List Cond} (h : ∀ w ∈ ys, w ∈ WALL) : GoodIn WALL ys := fun w hw => ⟨h w hw, good_of_word (List.mem_filter.mp (h w hw)).2⟩
theorem ez_cW {c : Cond} (hc : c ∈ WALL) : ∀ w ∈ c :: WALL, w ∈ WALL := fun w h => by
  rcases List.mem_cons.mp h with h | h
  · rw [h]; exact hc
  · exact h
theorem ez_gV {own C : String} {idx maxL : Nat} {y : MethodName} {cc : ByteArray} {ret : Option FieldType} (h1 : Cond.methodLink own idx y ∈ WALL) (h2 : Cond.instanceMethod y ∈ WALL) (h3 : Cond.selects C y y ∈ WALL) (h4 : Cond.initialized C ∈ WALL) (h5 : Cond.code y cc maxL ret ∈ WALL) : GoodIn WALL (wsV own idx C y (.code y cc maxL ret :: WALL)) :=
  ez_gW (List.forall_mem_append.mpr ⟨List.forall_mem_cons.mpr ⟨h1, List.forall_mem_cons.mpr ⟨h2, List.forall_mem_cons.mpr ⟨h3, List.forall_mem_cons.mpr ⟨h4, fun _ h => absurd h List.not_mem_nil⟩⟩⟩⟩, ez_cW h5⟩)
theorem ez_gS {own : String} {idx maxL : Nat} {y : MethodName} {cc : ByteArray} {ret : Option FieldType} (h1 : Cond.methodLink own idx y ∈ WALL) (h2 : Cond.static y ∈ WALL) (h4 : Cond.initialized y.cls ∈ WALL) (h5 : Cond.code y cc maxL ret ∈ WALL) : GoodIn WALL (va_wsS own idx y (.code y cc maxL ret :: WALL)) :=
  ez_gW (List.forall_mem_append.mpr ⟨List.forall_mem_cons.mpr ⟨h1, List.forall_mem_cons.mpr ⟨h2, List.forall_mem_cons.mpr ⟨h4, fun _ h => absurd h List.not_mem_nil⟩⟩⟩, ez_cW h5⟩)
theorem ez_gN {maxL : Nat} {y : MethodName} {cc : ByteArray} {ret : Option FieldType} (h5 : Cond.code y cc maxL ret ∈ WALL) : GoodIn WALL (.code y cc maxL ret :: WALL) := ez_gW (ez_cW h5)
def ez_B (D : va_G) (tys : List (ClassId × FieldType)) (A : Nat → Prop) (u : va_W) (t : State) : Prop := va_P D vwCl u t.heap ∧ va_K D vwCl tys t ∧ va_D A u
def ez_Qi (D : va_G) (tys : List (ClassId × FieldType)) (A : Nat → Prop) (r : Int32) (wl : va_W) : Array Value → State → Outcome → State → Prop := va_Qi (fun r' u => r' = r ∧ u = wl) (ez_B D tys A) A
def ez_Ql (D : va_G) (tys : List (ClassId × FieldType)) (A : Nat → Prop) (r : Int64) (wl : va_W) : Array Value → State → Outcome → State → Prop := va_Ql (fun r' u => r' = r ∧ u = wl) (ez_B D tys A) A
def ez_Qv (D : va_G) (tys : List (ClassId × FieldType)) (A : Nat → Prop) (wl : va_W) : Array Value → State → Outcome → State → Prop := va_Qv (fun u => u = wl) (ez_B D tys A) A
def ez_Ri (r : Int32) : Array Value → State → Outcome → State → Prop := vp_Si (fun r' => r' = r)
def ez_Rl (r : Int64) : Array Value → State → Outcome → State → Prop := vp_Sl (fun r' => r' = r)
def ez_Pc (D : va_G) (tys : List (ClassId × FieldType)) (vs : List Value) (wl : va_W) (sz : Nat) : Array Value → State → Prop := va_Pc vs (fun U => U.heap.size = sz ∧ va_P D vwCl wl U.heap ∧ va_K D vwCl tys U ∧ va_D (fun _ => True) wl ∧ ez_N U)
def ez_Rc (D : va_G) (tys : List (ClassId × FieldType)) (vs : List Value) (wl : va_W) : Array Value → State → Prop := va_Pc vs (fun U => va_P D vwCl wl U.heap ∧ va_K D vwCl tys U ∧ ez_N U)
def ez_Sc (vs : List Value) : Array Value → State → Prop := va_Pc vs (fun U => ez_N U)
/-- what stands throughout a method's body -/
def ez_C (p : Program) (s : State) (m : MethodId) (args : Array Value) (meth : Method) (c : Code) (cc : ByteArray) (rt : Option FieldType) (nL : Nat) (own : String) (A : Nat → Prop) : Prop :=
  p.tables.exec = Jvm.exec ∧ c.code = cc ∧ meth.sig.returnType = rt ∧ c.maxLocals = nL ∧ s.vm.findClass own = some m.cls ∧ (∀ w ∈ WALL, w.before args s = true) ∧ meth.locks = false ∧ (∀ q : Nat, s.heap.size ≤ q → A q) ∧ ez_N s
theorem ez_Pl {D : va_G} {cl : List vw_C} {wr wl : va_W} {H : Heap} (h : va_P D cl (wr ++ wl) H) : va_P D cl wr H := fun k q hk => h k q (by
  have hl : k < wr.length := by
    rcases Nat.lt_or_ge k wr.length with h1 | h1
    · exact h1
    · rw [List.getElem?_eq_none h1] at hk; cases hk
  rw [List.getElem?_append_left hl]; exact hk)
theorem ez_Pr {D : va_G} {cl : List vw_C} {wr wl : va_W} {H : Heap} (h : va_P D cl (wr ++ wl) H) : va_P D cl wl H := fun k q hk => h (wr.length + k) q (by
  rw [List.getElem?_append_right (Nat.le_add_right _ _), Nat.add_sub_cancel_left]; exact hk)
theorem ez_Dr {A : Nat → Prop} {wr wl : va_W} (h : va_D A (wr ++ wl)) : va_D A wl := by
  have e : ∀ (k : Nat) (q : Nat × va_E), wl[k]? = some q → (wr ++ wl)[wr.length + k]? = some q := fun k q hk => by
    rw [List.getElem?_append_right (Nat.le_add_right _ _), Nat.add_sub_cancel_left]; exact hk
  refine ⟨fun i j x y hi hj hxy => ?_, fun k q hk => h.2 _ q (e k q hk)⟩
  have := h.1 _ _ x y (e i x hi) (e j y hj) hxy
  omega
theorem ez_join {A : Nat → Prop} {D : va_G} {cl : List vw_C} {wr wl wl' : va_W} {H H1 : Heap} (hP : va_P D cl (wr ++ wl) H) (hD : va_D A (wr ++ wl)) (hk : ∀ q : Nat, q < H.size → ¬ va_A wl H.size q → H1[q]? = H[q]?) (hF : ∀ q, va_A wl H.size q → A q) (hP1 : va_P D cl wl' H1) (hD1 : va_D (va_A wl H.size) wl') : va_P D cl (wr ++ wl') H1 ∧ va_D A (wr ++ wl') := by
  have el : ∀ (k : Nat) (q : Nat × va_E), wr[k]? = some q → k < wr.length ∧ (wr ++ wl)[k]? = some q := fun k q hk => by
    have hl : k < wr.length := by
      rcases Nat.lt_or_ge k wr.length with h1 | h1
      · exact h1
      · rw [List.getElem?_eq_none h1] at hk; cases hk
    exact ⟨hl, by rw [List.getElem?_append_left hl]; exact hk⟩
  have er : ∀ (k : Nat) (q : Nat × va_E), wl[k]? = some q → (wr ++ wl)[wr.length + k]? = some q := fun k q hk => by
    rw [List.getElem?_append_right (Nat.le_add_right _ _), Nat.add_sub_cancel_left]; exact hk
  have ap : ∀ (k : Nat) (q : Nat × va_E), wr[k]? = some q → q.1 < H.size ∧ ¬ va_A wl H.size q.1 := by
    intro k q hq
    obtain ⟨h1, h2⟩ := el k q hq
    have hlt := (hP k q h2).lt
    refine ⟨hlt, fun h3 => ?_⟩
    rcases h3 with ⟨j, x, h3⟩ | h3
    · have := hD.1 _ _ q _ h2 (er j _ h3) rfl
      omega
    · omega
  refine ⟨va_P.app (va_P.kept (ez_Pl hP) (fun k q hq => hk _ (ap k q hq).1 (ap k q hq).2)) hP1, va_D.app ⟨fun i j x y hi hj hxy => hD.1 i j x y (el i x hi).2 (el j y hj).2 hxy, fun k q hq => hD.2 k q (el k q hq).2⟩ (hD1.weaken (fun k q _ h => hF q.1 h)) (fun i j x y hx hy hxy => ?_)⟩
  exact (ap i x hx).2 (by rw [hxy]; exact hD1.2 j y hy)
theorem ez_free {A : Nat → Prop} {wr wl : va_W} {H0 H : Heap} {locs : List Loc} (hD : va_D A (wr ++ wl)) (hS : va_S A H0 H locs) (hA : ∀ q : Nat, H0.size ≤ q → A q) : ∀ q, va_A wl H.size q → A q := by
  intro q h
  rcases h with ⟨k, x, h⟩ | h
  · exact (ez_Dr hD).2 k _ h
  · exact hA q (Nat.le_trans hS.1 h)
section EZ
variable {p : Program} {l : Launch} {e : Env} {R : Room} {s : State} {m : MethodId} {args : Array Value} {below : List Frame} {meth : Method} {c : Code} {H : Heap} {locs : List Loc} {cells slots : Nat} {Q : State → Prop}
variable {cc : ByteArray} {pc nL : Nat} {ls : Array Slot} {rest st0 : List Value} {own : String} {A : Nat → Prop} {D : va_G} {tys : List (ClassId × FieldType)} {wr wl wl' : va_W} {H0 : Heap} {rt : Option FieldType}
theorem ez_retI {v : Int32} (C0 : ez_C p s m args meth c cc (some .int) nL own A) (hP : va_P D vwCl wl H) (hD : va_D A wl) (hK : va_K D vwCl tys s) (hS : va_S A s.heap H locs) (hdg : decode cc pc = .ok (.ireturn, 1)) : W p l e R s m args below meth c H locs cells slots (MQ below (ez_Qi D tys A v wl) args s cells slots A) (F0 m pc ls [.int v]) := by
  obtain ⟨hx, hb, hr, -, -, -, hlk, -, -⟩ := C0
  exact W.iret hx hb hr (fun t ht hW => ⟨⟨v, wl, rfl, ⟨rfl, rfl⟩, by rw [ht]; exact hP, va_K.moved hW.alike hK, hD⟩, hS.F ht⟩) hS.2.2 hdg
theorem ez_retZ {v : Int32} {ty : FieldType} (C0 : ez_C p s m args meth c cc (some ty) nL own A) (hn : narrow ty (.int v) = .int v) (hP : va_P D vwCl wl H) (hD : va_D A wl) (hK : va_K D vwCl tys s) (hS : va_S A s.heap H locs) (hdg : decode cc pc = .ok (.ireturn, 1)) : W p l e R s m args below meth c H locs cells slots (MQ below (ez_Qi D tys A v wl) args s cells slots A) (F0 m pc ls [.int v]) := by
  obtain ⟨hx, hb, hr, -, -, -, hlk, -, -⟩ := C0
  exact W.zret hx hb hr hn (fun t ht hW => ⟨⟨v, wl, rfl, ⟨rfl, rfl⟩, by rw [ht]; exact hP, va_K.moved hW.alike hK, hD⟩, hS.F ht⟩) hS.2.2 hdg
theorem ez_retL {v : Int64} (C0 : ez_C p s m args meth c cc (some .long) nL own A) (hP : va_P D vwCl wl H) (hD : va_D A wl) (hK : va_K D vwCl tys s) (hS : va_S A s.heap H locs) (hdg : decode cc pc = .ok (.lreturn, 1)) : W p l e R s m args below meth c H locs cells slots (MQ below (ez_Ql D tys A v wl) args s cells slots A) (F0 m pc ls [.long v]) := by
  obtain ⟨hx, hb, hr, -, -, -, hlk, -, -⟩ := C0
  exact W.lret hx hb hr (fun t ht hW => ⟨⟨v, wl, rfl, ⟨rfl, rfl⟩, by rw [ht]; exact hP, va_K.moved hW.alike hK, hD⟩, hS.F ht⟩) hS.2.2 hdg
theorem ez_retV (C0 : ez_C p s m args meth c cc none nL own A) (hP : va_P D vwCl wl H) (hD : va_D A wl) (hK : va_K D vwCl tys s) (hS : va_S A s.heap H locs) (hdg : decode cc pc = .ok (.return_, 1)) : W p l e R s m args below meth c H locs cells slots (MQ below (ez_Qv D tys A wl) args s cells slots A) (F0 m pc ls []) := by
  obtain ⟨hx, hb, hr, -, -, -, hlk, -, -⟩ := C0
  exact W.vret hx hb hr (fun t ht hW => ⟨⟨wl, rfl, rfl, by rw [ht]; exact hP, va_K.moved hW.alike hK, hD⟩, hS.F ht⟩) hS.2.2 hdg
theorem ez_rroI {v : Int32} (C0 : ez_C p s m args meth c cc (some .int) nL own A) (hdg : decode cc pc = .ok (.ireturn, 1)) : W p l e R s m args below meth c s.heap [] cells slots (MQ below (ez_Ri v) args s cells slots (fun _ => False)) (F0 m pc ls [.int v]) := by
  obtain ⟨hx, hb, hr, -, -, -, hlk, -, -⟩ := C0
  exact W.iret hx hb hr (fun t ht hW => ⟨v, rfl, rfl, ht⟩) (fun _ h => by cases h) hdg
theorem ez_rroZ {v : Int32} {ty : FieldType} (C0 : ez_C p s m args meth c cc (some ty) nL own A) (hn : narrow ty (.int v) = .int v) (hdg : decode cc pc = .ok (.ireturn, 1)) : W p l e R s m args below meth c s.heap [] cells slots (MQ below (ez_Ri v) args s cells slots (fun _ => False)) (F0 m pc ls [.int v]) := by
  obtain ⟨hx, hb, hr, -, -, -, hlk, -, -⟩ := C0
  exact W.zret hx hb hr hn (fun t ht hW => ⟨v, rfl, rfl, ht⟩) (fun _ h => by cases h) hdg
theorem ez_rroL {v : Int64} (C0 : ez_C p s m args meth c cc (some .long) nL own A) (hdg : decode cc pc = .ok (.lreturn, 1)) : W p l e R s m args below meth c s.heap [] cells slots (MQ below (ez_Rl v) args s cells slots (fun _ => False)) (F0 m pc ls [.long v]) := by
  obtain ⟨hx, hb, hr, -, -, -, hlk, -, -⟩ := C0
  exact W.lret hx hb hr (fun t ht hW => ⟨v, rfl, rfl, ht⟩) (fun _ h => by cases h) hdg
theorem ez_callI {r : Int32} {a : Array Value} (hr : va_Run p l e R s m args below meth c H locs cells slots 0 0 (F0 m pc ls st0) rest (ez_Qi D tys (va_A wl H.size) r wl' a) (va_A wl H.size)) (hP : va_P D vwCl (wr ++ wl) H) (hD : va_D A (wr ++ wl)) (hS : va_S A H0 H locs) (hA : ∀ q : Nat, H0.size ≤ q → A q)
    (kk : ∀ (H1 : Heap) (locs1 : List Loc), va_P D vwCl (wr ++ wl') H1 → va_D A (wr ++ wl') → va_S A H0 H1 locs1 → W p l e R s m args below meth c H1 locs1 cells slots Q (F0 m (pc + 3) ls (.int r :: rest))) : W p l e R s m args below meth c H locs cells slots Q (F0 m pc ls st0) := by
  have hF := ez_free hD hS hA
  refine va_calli hr hS (fun q _ h => hF q h) hF (fun r' u t H1 locs1 ht hvm hp hB hz hk hS1 => ?_)
  obtain ⟨rfl, rfl⟩ := hp
  obtain ⟨hP1, hK1, hD1⟩ := hB
  rw [ht] at hP1
  obtain ⟨hP2, hD2⟩ := ez_join hP hD hk hF hP1 hD1
  exact kk H1 locs1 hP2 hD2 hS1
theorem ez_callL {r : Int64} {a : Array Value} (hr : va_Run p l e R s m args below meth c H locs cells slots 0 0 (F0 m pc ls st0) rest (ez_Ql D tys (va_A wl H.size) r wl' a) (va_A wl H.size)) (hP : va_P D vwCl (wr ++ wl) H) (hD : va_D A (wr ++ wl)) (hS : va_S A H0 H locs) (hA : ∀ q : Nat, H0.size ≤ q → A q)
    (kk : ∀ (H1 : Heap) (locs1 : List Loc), va_P D vwCl (wr ++ wl') H1 → va_D A (wr ++ wl') → va_S A H0 H1 locs1 → W p l e R s m args below meth c H1 locs1 cells slots Q (F0 m (pc + 3) ls (.long r :: rest))) : W p l e R s m args below meth c H locs cells slots Q (F0 m pc ls st0) := by
  have hF := ez_free hD hS hA
  refine va_calll hr hS (fun q _ h => hF q h) hF (fun r' u t H1 locs1 ht hvm hp hB hz hk hS1 => ?_)
  obtain ⟨rfl, rfl⟩ := hp
  obtain ⟨hP1, hK1, hD1⟩ := hB
  rw [ht] at hP1
  obtain ⟨hP2, hD2⟩ := ez_join hP hD hk hF hP1 hD1
  exact kk H1 locs1 hP2 hD2 hS1
theorem ez_callV {a : Array Value} (hr : va_Run p l e R s m args below meth c H locs cells slots 0 0 (F0 m pc ls st0) rest (ez_Qv D tys (va_A wl H.size) wl' a) (va_A wl H.size)) (hP : va_P D vwCl (wr ++ wl) H) (hD : va_D A (wr ++ wl)) (hS : va_S A H0 H locs) (hA : ∀ q : Nat, H0.size ≤ q → A q)
    (kk : ∀ (H1 : Heap) (locs1 : List Loc), va_P D vwCl (wr ++ wl') H1 → va_D A (wr ++ wl') → va_S A H0 H1 locs1 → W p l e R s m args below meth c H1 locs1 cells slots Q (F0 m (pc + 3) ls rest)) : W p l e R s m args below meth c H locs cells slots Q (F0 m pc ls st0) := by
  have hF := ez_free hD hS hA
  refine va_callv hr hS (fun q _ h => hF q h) hF (fun u t H1 locs1 ht hvm hp hB hz hk hS1 => ?_)
  obtain rfl := hp
  obtain ⟨hP1, hK1, hD1⟩ := hB
  rw [ht] at hP1
  obtain ⟨hP2, hD2⟩ := ez_join hP hD hk hF hP1 hD1
  exact kk H1 locs1 hP2 hD2 hS1
theorem ez_croI {r : Int32} {a : Array Value} (hr : va_Run p l e R s m args below meth c H locs cells slots 0 0 (F0 m pc ls st0) rest (ez_Ri r a) (fun _ => False))
    (kk : W p l e R s m args below meth c H locs cells slots Q (F0 m (pc + 3) ls (.int r :: rest))) : W p l e R s m args below meth c H locs cells slots Q (F0 m pc ls st0) := by
  intro T hT X
  obtain ⟨v, st₀, t, T', L, h0, X', hL, e1, -, ⟨r', hv, hp, hh⟩, st⟩ := hr T hT X
  cases hv
  subst hp
  obtain ⟨t2, a1, b1⟩ := kk T' (by rw [e1, hh, h0]) (Stand.forget X' (fun q h => (hL q h).elim))
  exact ⟨t2, st t2 a1, b1⟩
theorem ez_croL {r : Int64} {a : Array Value} (hr : va_Run p l e R s m args below meth c H locs cells slots 0 0 (F0 m pc ls st0) rest (ez_Rl r a) (fun _ => False))
    (kk : W p l e R s m args below meth c H locs cells slots Q (F0 m (pc + 3) ls (.long r :: rest))) : W p l e R s m args below meth c H locs cells slots Q (F0 m pc ls st0) := by
  intro T hT X
  obtain ⟨v, st₀, t, T', L, h0, X', hL, e1, -, ⟨r', hv, hp, hh⟩, st⟩ := hr T hT X
  cases hv
  subst hp
  obtain ⟨t2, a1, b1⟩ := kk T' (by rw [e1, hh, h0]) (Stand.forget X' (fun q h => (hL q h).elim))
  exact ⟨t2, st t2 a1, b1⟩
theorem ez_blind {vs : List Value} {sz : Nat} : FrameBlind (ez_Pc D tys vs wl sz) := fun a U g mk q => by
  obtain ⟨q0, q1, qP, qK, qD, qN⟩ := q
  exact ⟨q0, q1, qP, va_K.moved (u := U) (U := U.calling g mk a) (Vm.Alike.refl U.vm) qK, qD, ez_N.same rfl qN⟩
theorem ez_blindR {vs : List Value} : FrameBlind (ez_Rc D tys vs wl) := fun a U g mk q => by
  obtain ⟨q0, qP, qK, qN⟩ := q
  exact ⟨q0, qP, va_K.moved (u := U) (U := U.calling g mk a) (Vm.Alike.refl U.vm) qK, ez_N.same rfl qN⟩
theorem ez_blindS {vs : List Value} : FrameBlind (ez_Sc vs) := fun a U g mk q => ⟨q.1, ez_N.same rfl q.2⟩
theorem ez_preV {b ci : Nat} {r : vw_C} {fs As : List Value} (hP : va_P D vwCl (wr ++ wl) H) (hD : va_D A (wr ++ wl)) (hK : va_K D vwCl tys s) (hN : ez_N s) (q0 : Nat) (hc : vwCl[ci]? = some r) (he : wl[q0]? = some (b, .inr (ci, fs))) : PreV s H r.1 b (ez_Pc D tys (.ref b :: As) wl H.size) As :=
  ⟨ez_blind, va_recv hK (ez_Pr hP) hc he, fun U hU hW => ⟨rfl, by rw [hU], by rw [hU]; exact ez_Pr hP, va_K.moved hW.alike hK, (ez_Dr hD).weaken (fun _ _ _ _ => trivial), hN.warm hW⟩⟩
theorem ez_preS {vs : List Value} (hP : va_P D vwCl (wr ++ wl) H) (hD : va_D A (wr ++ wl)) (hK : va_K D vwCl tys s) (hN : ez_N s) : PreS s H (ez_Pc D tys vs wl H.size) vs :=
  ⟨ez_blind, fun U hU hW => ⟨rfl, by rw [hU], by rw [hU]; exact ez_Pr hP, va_K.moved hW.alike hK, (ez_Dr hD).weaken (fun _ _ _ _ => trivial), hN.warm hW⟩⟩
theorem ez_preRV {b ci : Nat} {r : vw_C} {fs As : List Value} (hP : va_P D vwCl (wr ++ wl) H) (hK : va_K D vwCl tys s) (hN : ez_N s) (q0 : Nat) (hc : vwCl[ci]? = some r) (he : wl[q0]? = some (b, .inr (ci, fs))) : PreV s H r.1 b (ez_Rc D tys (.ref b :: As) wl) As :=
  ⟨ez_blindR, va_recv hK (ez_Pr hP) hc he, fun U hU hW => ⟨rfl, by rw [hU]; exact ez_Pr hP, va_K.moved hW.alike hK, hN.warm hW⟩⟩
theorem ez_preRS {vs : List Value} (hN : ez_N s) : PreS s H (ez_Sc vs) vs := ⟨ez_blindS, fun U hU hW => ⟨rfl, hN.warm hW⟩⟩
end EZ
theorem ez_mk {l : Launch} {y : MethodName} {ws : List Cond} {rm : Room} {cc : ByteArray} {maxL : Nat} {ret : Option FieldType} {D : va_G} {tys : List (ClassId × FieldType)} {vs : List Value} {wl : va_W} {Qf : (Nat → Prop) → Array Value → State → Outcome → State → Prop} {mc ms : Nat} (hy : plainName y.cls = true) (hw : ws = Cond.code y cc maxL ret :: WALL) (hn : (lg_sl vs).length ≤ maxL)
    (body : ∀ (p : Program) (e : Env) (s : State) (m : MethodId) (below : List Frame) (meth : Method) (c : Code) (A : Nat → Prop) (ls : Array Slot), ez_C p s m vs.toArray meth c cc ret maxL y.cls A → meth.name = y.name → lv_has ls maxL (lv_args 0 vs) → va_P D vwCl wl s.heap → va_D A wl → va_K D vwCl tys s → W p l e rm s m vs.toArray below meth c s.heap [] 0 0 (MQ below (Qf A) vs.toArray s mc ms A) (F0 m 0 ls [])) (sz : Nat) :
    Met l y ws rm (ez_Pc D tys vs wl sz) (Qf (va_A wl sz)) mc ms (va_A wl sz) := by
  refine Met.ofW (cc := cc) (maxL := maxL) (ret := ret) hy hw ?_
  intro p e s m args below meth c s₁ B hml hv
  obtain ⟨rfl, hsz, hP, hK, hD0, hN⟩ := hv
  subst hsz
  have hl := lv_entry vs (n := maxL) hn
  rw [lg_entry_eq]
  generalize (lg_sl vs ++ List.replicate (maxL - (lg_sl vs).length) Slot.unset).toArray = ls at hl ⊢
  exact body p e s m below meth c (va_A wl s.heap.size) ls ⟨B.exec, B.bytes, B.returns, hml, findClass_of_methodNamed B.named, fun w h => atoms_spec (ws := ws) B.pre w (by rw [hw]; exact List.mem_cons_of_mem _ h), B.notSynchronized, fun q h => Or.inr h, hN⟩ (name_of_methodNamed B.named B.method).1 hl hP hD0.self hK
theorem ez_mkR {l : Launch} {y : MethodName} {ws : List Cond} {rm : Room} {cc : ByteArray} {maxL : Nat} {ret : Option FieldType} {D : va_G} {tys : List (ClassId × FieldType)} {vs : List Value} {wl : va_W} {Qc : Array Value → State → Outcome → State → Prop} (hy : plainName y.cls = true) (hw : ws = Cond.code y cc maxL ret :: WALL) (hn : (lg_sl vs).length ≤ maxL)
    (body : ∀ (p : Program) (e : Env) (s : State) (m : MethodId) (below : List Frame) (meth : Method) (c : Code) (ls : Array Slot), ez_C p s m vs.toArray meth c cc ret maxL y.cls (fun _ => True) → lv_has ls maxL (lv_args 0 vs) → va_P D vwCl wl s.heap → va_K D vwCl tys s → W p l e rm s m vs.toArray below meth c s.heap [] 0 0 (MQ below Qc vs.toArray s 0 0 (fun _ => False)) (F0 m 0 ls [])) :
    Met l y ws rm (ez_Rc D tys vs wl) Qc 0 0 (fun _ => False) := by
  refine Met.ofW (cc := cc) (maxL := maxL) (ret := ret) hy hw ?_
  intro p e s m args below meth c s₁ B hml hv
  obtain ⟨rfl, hP, hK, hN⟩ := hv
  have hl := lv_entry vs (n := maxL) hn
  rw [lg_entry_eq]
  generalize (lg_sl vs ++ List.replicate (maxL - (lg_sl vs).length) Slot.unset).toArray = ls at hl ⊢
  exact body p e s m below meth c ls ⟨B.exec, B.bytes, B.returns, hml, findClass_of_methodNamed B.named, fun w h => atoms_spec (ws := ws) B.pre w (by rw [hw]; exact List.mem_cons_of_mem _ h), B.notSynchronized, fun q h => trivial, hN⟩ hl hP hK
theorem ez_mkS {l : Launch} {y : MethodName} {ws : List Cond} {rm : Room} {cc : ByteArray} {maxL : Nat} {ret : Option FieldType} {vs : List Value} {Qc : Array Value → State → Outcome → State → Prop} (hy : plainName y.cls = true) (hw : ws = Cond.code y cc maxL ret :: WALL) (hn : (lg_sl vs).length ≤ maxL)
    (body : ∀ (p : Program) (e : Env) (s : State) (m : MethodId) (below : List Frame) (meth : Method) (c : Code) (ls : Array Slot), ez_C p s m vs.toArray meth c cc ret maxL y.cls (fun _ => True) → lv_has ls maxL (lv_args 0 vs) → W p l e rm s m vs.toArray below meth c s.heap [] 0 0 (MQ below Qc vs.toArray s 0 0 (fun _ => False)) (F0 m 0 ls [])) :
    Met l y ws rm (ez_Sc vs) Qc 0 0 (fun _ => False) := by
  refine Met.ofW (cc := cc) (maxL := maxL) (ret := ret) hy hw ?_
  intro p e s m args below meth c s₁ B hml hv
  obtain ⟨rfl, hN⟩ := hv
  have hl := lv_entry vs (n := maxL) hn
  rw [lg_entry_eq]
  generalize (lg_sl vs ++ List.replicate (maxL - (lg_sl vs).length) Slot.unset).toArray = ls at hl ⊢
  exact body p e s m below meth c ls ⟨B.exec, B.bytes, B.returns, hml, findClass_of_methodNamed B.named, fun w h => atoms_spec (ws := ws) B.pre w (by rw [hw]; exact List.mem_cons_of_mem _ h), B.notSynchronized, fun q h => trivial, hN⟩ hl
theorem ez_mkF {l : Launch} {y : MethodName} {ws : List Cond} {rm : Room} {cc : ByteArray} {maxL : Nat} {ret : Option FieldType} {vs : List Value} {Qc : Array Value → State → Outcome → State → Prop} (hy : plainFor y = true) (hw : ws = Cond.code y cc maxL ret :: WALL) (hn : (lg_sl vs).length ≤ maxL)
    (body : ∀ (p : Program) (e : Env) (s : State) (m : MethodId) (below : List Frame) (meth : Method) (c : Code) (ls : Array Slot), ez_C p s m vs.toArray meth c cc ret maxL y.cls (fun _ => True) → lv_has ls maxL (lv_args 0 vs) → W p l e rm s m vs.toArray below meth c s.heap [] 0 0 (MQ below Qc vs.toArray s 0 0 (fun _ => False)) (F0 m 0 ls [])) :
    Met l y ws rm (ez_Sc vs) Qc 0 0 (fun _ => False) := by
  refine va_MetF (cc := cc) (maxL := maxL) (ret := ret) hy hw ?_
  intro p e s m args below meth c s₁ B hml hv
  obtain ⟨rfl, hN⟩ := hv
  have hl := lv_entry vs (n := maxL) hn
  rw [lg_entry_eq]
  generalize (lg_sl vs ++ List.replicate (maxL - (lg_sl vs).length) Slot.unset).toArray = ls at hl ⊢
  exact body p e s m below meth c ls ⟨B.exec, B.bytes, B.returns, hml, findClass_of_methodNamed B.named, fun w h => atoms_spec (ws := ws) B.pre w (by rw [hw]; exact List.mem_cons_of_mem _ h), B.notSynchronized, fun q h => trivial, hN⟩ hl
def wC (a : Nat → Nat) (k : Nat → ClassId) (w : Wd) : va_W := [(a 0, .inr (3, [.ref (a 1), .int (w.1 0 0), .ref (a 2), .ref (a 3), .ref (a 4), .int (w.1 0 1), .int (w.1 0 2), .long (w.2 0 0), .long (w.2 0 1)])), (a 1, .inl (k 1, 20, .inl (w.1 1))), (a 2, .inr (0, [.ref (a 5), .ref (a 6), .ref (a 7), .ref (a 8), .int (w.1 0 3)])), (a 3, .inl (k 3, 8, .inl (w.1 3))), (a 4, .inr (2, [.ref (a 9), .ref (a 10), .ref (a 11), .ref (a 12), .int (w.1 0 4)])), (a 5, .inl (k 5, 80, .inl (w.1 5))), (a 6, .inl (k 6, 80, .inl (w.1 6))), (a 7, .inl (k 7, 80, .inl (w.1 7))), (a 8, .inl (k 8, 80, .inl (w.1 8))), (a 9, .inl (k 9, 80, .inl (w.1 9))), (a 10, .inl (k 10, 80, .inl (w.1 10))), (a 11, .inl (k 11, 80, .inr (.inl (w.2 11)))), (a 12, .inl (k 12, 80, .inr (.inl (w.2 12))))]
def tC (k : Nat → ClassId) : List (ClassId × FieldType) := [(k 1, .char), (k 3, .int), (k 5, .int), (k 6, .int), (k 7, .int), (k 8, .int), (k 9, .boolean), (k 10, .int), (k 11, .long), (k 12, .long)]
def wM (a : Nat → Nat) (k : Nat → ClassId) (w : Wd) : va_W := [(a 0, .inr (4, [.int (w.1 0 0), .ref (a 1), .ref (a 2), .int (w.1 0 1), .ref (a 3), .ref (a 4), .ref (a 5), .int (w.1 0 2), .ref (a 6), .int (w.1 0 3), .ref (a 7), .ref (a 8), .ref (a 9), .ref (a 10), .ref (a 11), .int (w.1 0 4), .int (w.1 0 5), .int (w.1 0 6), .long (w.2 0 0), .long (w.2 0 1)])), (a 1, .inl (k 1, 20, .inl (w.1 1))), (a 2, .inl (k 2, 8, .inl (w.1 2))), (a 3, .inl (k 3, 120, .inl (w.1 3))), (a 4, .inl (k 4, 120, .inl (w.1 4))), (a 5, .inl (k 5, 120, .inl (w.1 5))), (a 6, .inl (k 6, 21, .inl (w.1 6))), (a 7, .inl (k 7, 21, .inl (w.1 7))), (a 8, .inl (k 8, 120, .inl (w.1 8))), (a 9, .inl (k 9, 120, .inr (.inl (w.2 9)))), (a 10, .inl (k 10, 120, .inr (.inl (w.2 10)))), (a 11, .inl (k 11, 120, .inl (w.1 11)))]
def tM (k : Nat → ClassId) : List (ClassId × FieldType) := [(k 1, .int), (k 2, .int), (k 3, .int), (k 4, .int), (k 5, .int), (k 6, .int), (k 7, .int), (k 8, .int), (k 9, .long), (k 10, .long), (k 11, .boolean)]
def rdc (b : Nat) (a : Nat → Nat) (v : Nat → Int32) : va_W := [(b, .inr (1, [.ref (a 1), .int (v 0), .ref (a 3), .ref (a 2), .int (v 1), .int (v 2)]))]
def wR (b : Nat) (a : Nat → Nat) (k : Nat → ClassId) (w : Wd) (v : Nat → Int32) : va_W := rdc b a v ++ wC a k w
