/-! small rows for the specials -/
def ez_v0 (x : Int32) : Nat → Int32 := fun i => cond (Nat.beq i 0) x 0
def ez_a (l : List Nat) : Nat → Nat := fun i => l.getD i 0
def ez_k (l : List ClassId) : Nat → ClassId := fun i => l.getD i 0
def ez_w0 : Wd := (fun _ _ => 0, fun _ _ => 0)
theorem ez_Psw {D : va_G} {cl : List vw_C} {u v : va_W} {H : Heap} (h : va_P D cl (u ++ v) H) : va_P D cl (v ++ u) H := va_P.app (ez_Pr h) (ez_Pl h)
theorem ez_Dl {A : Nat → Prop} {wr wl : va_W} (h : va_D A (wr ++ wl)) : va_D A wr := by
  have el : ∀ (k : Nat) (q : Nat × va_E), wr[k]? = some q → (wr ++ wl)[k]? = some q := fun k q hk => by
    have hl : k < wr.length := by
      rcases Nat.lt_or_ge k wr.length with h1 | h1
      · exact h1
      · rw [List.getElem?_eq_none h1] at hk; cases hk
    rw [List.getElem?_append_left hl]; exact hk
  exact ⟨fun i j x y hi hj hxy => h.1 _ _ x y (el i x hi) (el j y hj) hxy, fun k q hk => h.2 _ q (el k q hk)⟩
theorem ez_Dsw {A : Nat → Prop} {u v : va_W} (h : va_D A (u ++ v)) : va_D A (v ++ u) := by
  refine va_D.app (ez_Dr h) (ez_Dl h) (fun i j x y hx hy hxy => ?_)
  have hj : j < u.length := by
    rcases Nat.lt_or_ge j u.length with h1 | h1
    · exact h1
    · rw [List.getElem?_eq_none h1] at hy; cases hy
  have h1 : (u ++ v)[u.length + i]? = some x := by rw [List.getElem?_append_right (Nat.le_add_right _ _), Nat.add_sub_cancel_left]; exact hx
  have h2 : (u ++ v)[j]? = some y := by rw [List.getElem?_append_left hj]; exact hy
  have := h.1 _ _ x y h1 h2 hxy
  omega
