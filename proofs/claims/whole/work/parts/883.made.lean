/-! THE START: cells as a list -/
abbrev CE : Type := Nat × Nat × (Nat → Int32) × (Nat → Int64) × (Nat → Option Nat)
def cel (u : SG) (b : Nat) : CE := (u.2.1 b, u.2.2.1 b, u.2.2.2.1 b, u.2.2.2.2.1 b, u.2.2.2.2.2 b)
def nc (k n : Nat) : CE := (k, n, fun _ => 0, fun _ => 0, fun _ => none)
def ceI (c : CE) (j : Nat) (v : Int32) : CE := (c.1, c.2.1, va_up c.2.2.1 j v, c.2.2.2.1, c.2.2.2.2)
def ceR (c : CE) (j : Nat) (v : Option Nat) : CE := (c.1, c.2.1, c.2.2.1, c.2.2.2.1, va_up c.2.2.2.2 j v)
/-- above z the cells cs, below it those of u0 -/
def Hp (u0 u : SG) (z : Nat) (cs : List CE) : Prop := u.1 = z + cs.length ∧ (∀ b, b < z → cel u b = cel u0 b) ∧ ∀ (i : Nat) (c : CE), cs[i]? = some c → cel u (z + i) = c
theorem up_s {α : Type} (f : Nat → α) (a : Nat) (v : α) : va_up f a v a = v := by unfold va_up; rw [if_pos rfl]
theorem up_n {α : Type} (f : Nat → α) {a b : Nat} (v : α) (h : ¬ b = a) : va_up f a v b = f b := by unfold va_up; rw [if_neg h]
section HPS
variable {u0 u : SG} {z a i : Nat} {cs : List CE} {c : CE} {β : Type} {G : Option β → Prop}
theorem Hp.lt (hi : cs[i]? = some c) : i < cs.length := (List.getElem?_eq_some_iff.mp hi).1
theorem Hp.new (h : Hp u0 u z cs) (k n : Nat) : Hp u0 (sNew u k n) z (cs ++ [nc k n]) := by
  obtain ⟨h1, h2, h3⟩ := h
  refine ⟨by rw [List.length_append]; show u.1 + 1 = _; rw [h1]; rfl, fun b hb => ?_, fun i c hi => ?_⟩
  · rw [← h2 b hb]
    have hn : ¬ b = u.1 := by omega
    show (va_up _ _ _ b, va_up _ _ _ b, va_up _ _ _ b, va_up _ _ _ b, va_up _ _ _ b) = _
    rw [up_n _ _ hn, up_n _ _ hn, up_n _ _ hn, up_n _ _ hn, up_n _ _ hn]
    rfl
  · have hl := Hp.lt hi
    rw [List.length_append] at hl
    have hl : i < cs.length + 1 := hl
    show (va_up _ _ _ (z + i), va_up _ _ _ (z + i), va_up _ _ _ (z + i), va_up _ _ _ (z + i), va_up _ _ _ (z + i)) = _
    by_cases e : i = cs.length
    · subst e
      rw [← h1, up_s, up_s, up_s, up_s, up_s]
      rw [List.getElem?_append_right (Nat.le_refl _), Nat.sub_self] at hi
      exact Option.some.inj hi
    · have hn : ¬ z + i = u.1 := by omega
      rw [up_n _ _ hn, up_n _ _ hn, up_n _ _ hn, up_n _ _ hn, up_n _ _ hn]
      rw [List.getElem?_append_left (by omega)] at hi
      exact h3 i c hi
theorem Hp.at (h : Hp u0 u z cs) (hi : cs[i]? = some c) (ea : a = z + i) : cel u a = c := by rw [ea]; exact h.2.2 i c hi
theorem Hp.K (h : Hp u0 u z cs) (hi : cs[i]? = some c) (ea : a = z + i) : zK u a = c.1 := congrArg (·.1) (h.at hi ea)
theorem Hp.N (h : Hp u0 u z cs) (hi : cs[i]? = some c) (ea : a = z + i) : zN u a = c.2.1 := congrArg (·.2.1) (h.at hi ea)
theorem Hp.R (h : Hp u0 u z cs) (hi : cs[i]? = some c) (ea : a = z + i) (j : Nat) : zR u a j = c.2.2.2.2 j := congrArg (fun q : CE => q.2.2.2.2 j) (h.at hi ea)
theorem Hp.up (h : Hp u0 u z cs) (hi : cs[i]? = some c) (ea : a = z + i) {w : SG} {c' : CE} (e1 : w.1 = u.1) (e2 : ∀ b, cel w b = if b = a then c' else cel u b) : Hp u0 w z (cs.set i c') := by
  have hl := Hp.lt hi
  refine ⟨by rw [e1, h.1, List.length_set], fun b hb => by rw [e2, if_neg (by omega)]; exact h.2.1 b hb, fun j c2 hj => ?_⟩
  rw [e2]
  by_cases q : j = i
  · subst q
    rw [if_pos (by omega)]
    rw [List.getElem?_set_self hl] at hj
    exact Option.some.inj hj
  · rw [if_neg (by omega)]
    rw [List.getElem?_set_ne (fun z => q z.symm)] at hj
    exact h.2.2 j c2 hj
end HPS
