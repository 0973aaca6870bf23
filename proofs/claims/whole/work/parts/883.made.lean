/-! THE START: cells as a list -/
abbrev CE : Type := Nat × Nat × (Nat → Int32) × (Nat → Int64) × (Nat → Option Nat)
def cel (u : SG) (b : Nat) : CE := (u.2.1 b, u.2.2.1 b, u.2.2.2.1 b, u.2.2.2.2.1 b, u.2.2.2.2.2 b)
def nc (k n : Nat) : CE := (k, n, fun _ => 0, fun _ => 0, fun _ => none)
def ceI (c : CE) (j : Nat) (v : Int32) : CE := (c.1, c.2.1, va_up c.2.2.1 j v, c.2.2.2.1, c.2.2.2.2)
def ceR (c : CE) (j : Nat) (v : Option Nat) : CE := (c.1, c.2.1, c.2.2.1, c.2.2.2.1, va_up c.2.2.2.2 j v)
/-- above z the cells cs, below it those of u0 -/
def Hp (u0 u : SG) (z : Nat) (cs : List CE) : Prop := u.1 = z + cs.length ∧ (∀ b, b < z → cel u b = cel u0 b) ∧ (∀ (i : Nat) (c : CE), cs[i]? = some c → cel u (z + i) = c) ∧ ∀ b, u.1 ≤ b → zK u b = zK u0 b
theorem up_s {α : Type} (f : Nat → α) (a : Nat) (v : α) : va_up f a v a = v := by unfold va_up; rw [if_pos rfl]
theorem up_n {α : Type} (f : Nat → α) {a b : Nat} (v : α) (h : ¬ b = a) : va_up f a v b = f b := by unfold va_up; rw [if_neg h]
section HPS
variable {u0 u : SG} {z a i : Nat} {cs : List CE} {c : CE} {β : Type} {G : Option β → Prop}
theorem Hp.lt (hi : cs[i]? = some c) : i < cs.length := (List.getElem?_eq_some_iff.mp hi).1
theorem Hp.new (h : Hp u0 u z cs) (k n : Nat) : Hp u0 (sNew u k n) z (cs ++ [nc k n]) := by
  obtain ⟨h1, h2, h3, h4⟩ := h
  refine ⟨by rw [List.length_append]; show u.1 + 1 = _; rw [h1]; rfl, fun b hb => ?_, fun i c hi => ?_, fun b hb => ?_⟩
  · rw [← h2 b hb]
    have hn : ¬ b = u.1 := by omega
    show (va_up _ _ _ b, va_up _ _ _ b, va_up _ _ _ b, va_up _ _ _ b, va_up _ _ _ b) = _
    rw [up_n _ _ hn, up_n _ _ hn, up_n _ _ hn, up_n _ _ hn, up_n _ _ hn]
    rfl
  · have hl := Hp.lt hi
    rw [List.length_append] at hl
    have hl : i < cs.length + 1 := hl
    show (va_up _ _ _ (z + i), va_up _ _ _ (z + i), va_up _ _ _ (z + i), va_up _ _ _ (z + i), va_up _ _ _ (z + i)) = _
    by_cases e : i = cs.length
    · subst e
      rw [← h1, up_s, up_s, up_s, up_s, up_s]
      rw [List.getElem?_append_right (Nat.le_refl _), Nat.sub_self] at hi
      exact Option.some.inj hi
    · have hn : ¬ z + i = u.1 := by omega
      rw [up_n _ _ hn, up_n _ _ hn, up_n _ _ hn, up_n _ _ hn, up_n _ _ hn]
      rw [List.getElem?_append_left (by omega)] at hi
      exact h3 i c hi
  · have hb : u.1 + 1 ≤ b := hb
    show va_up _ _ _ b = _
    rw [up_n _ _ (by omega)]
    exact h4 b (by omega)
theorem Hp.at (h : Hp u0 u z cs) (hi : cs[i]? = some c) (ea : a = z + i) : cel u a = c := by rw [ea]; exact h.2.2.1 i c hi
theorem Hp.K (h : Hp u0 u z cs) (hi : cs[i]? = some c) (ea : a = z + i) : zK u a = c.1 := congrArg (·.1) (h.at hi ea)
theorem Hp.N (h : Hp u0 u z cs) (hi : cs[i]? = some c) (ea : a = z + i) : zN u a = c.2.1 := congrArg (·.2.1) (h.at hi ea)
theorem Hp.R (h : Hp u0 u z cs) (hi : cs[i]? = some c) (ea : a = z + i) (j : Nat) : zR u a j = c.2.2.2.2 j := congrArg (fun q : CE => q.2.2.2.2 j) (h.at hi ea)
theorem Hp.up (h : Hp u0 u z cs) (hi : cs[i]? = some c) (ea : a = z + i) {w : SG} {c' : CE} (e1 : w.1 = u.1) (e2 : ∀ b, cel w b = if b = a then c' else cel u b) : Hp u0 w z (cs.set i c') := by
  have hl := Hp.lt hi
  refine ⟨by rw [e1, h.1, List.length_set], fun b hb => by rw [e2, if_neg (by omega)]; exact h.2.1 b hb, fun j c2 hj => ?_, fun b hb => ?_⟩
  · rw [e2]
    by_cases q : j = i
    · subst q
      rw [if_pos (by omega)]
      rw [List.getElem?_set_self hl] at hj
      exact Option.some.inj hj
    · rw [if_neg (by omega)]
      rw [List.getElem?_set_ne (fun z => q z.symm)] at hj
      exact h.2.2.1 j c2 hj
  · have e3 := e2 b
    rw [if_neg (by have := h.1; omega)] at e3
    have : zK w b = zK u b := congrArg (·.1) e3
    rw [this]
    exact h.2.2.2 b (by omega)
theorem Hp.wI (h : Hp u0 u z cs) (hi : cs[i]? = some c) (ea : a = z + i) (j : Nat) (v : Int32) : Hp u0 (sI u a j v) z (cs.set i (ceI c j v)) := h.up hi ea rfl (fun b => by
  have e := h.at hi ea
  by_cases q : b = a
  · subst q
    rw [if_pos rfl, ← e]
    show (_, _, va_up u.2.2.2.1 b (upd (zI u b) j v) b, _, _) = _
    rw [up_s]
    rfl
  · rw [if_neg q]
    show (_, _, va_up u.2.2.2.1 a (upd (zI u a) j v) b, _, _) = _
    rw [up_n _ _ q]
    rfl)
theorem Hp.wR (h : Hp u0 u z cs) (hi : cs[i]? = some c) (ea : a = z + i) (j : Nat) (v : Option Nat) : Hp u0 (sR u a j v) z (cs.set i (ceR c j v)) := h.up hi ea rfl (fun b => by
  have e := h.at hi ea
  by_cases q : b = a
  · subst q
    rw [if_pos rfl, ← e]
    show (_, _, _, _, va_up u.2.2.2.2.2 b (va_up (zR u b) j v) b) = _
    rw [up_s]
    rfl
  · rw [if_neg q]
    show (_, _, _, _, va_up u.2.2.2.2.2 a (va_up (zR u a) j v) b) = _
    rw [up_n _ _ q]
    rfl)
theorem Hp.cg {w : SG} (h : Hp u0 u z cs) (e1 : w.1 = u.1) (e2 : ∀ b, cel w b = cel u b) : Hp u0 w z cs := ⟨by rw [e1]; exact h.1, fun b hb => by rw [e2]; exact h.2.1 b hb, fun i c hi => by rw [e2]; exact h.2.2.1 i c hi, fun b hb => (show zK w b = zK u b from congrArg (·.1) (e2 b)).trans (h.2.2.2 b (by omega))⟩
theorem Hp.wI0 (h : Hp u0 u z cs) (hi : cs[i]? = some c) (ea : a = z + i) (j : Nat) (v : Int32) (hv : c.2.2.1 j = v) : Hp u0 (sI u a j v) z cs := h.cg rfl (fun b => by
  have e := h.at hi ea
  by_cases q : b = a
  · subst q
    show (_, _, va_up u.2.2.2.1 b (upd (zI u b) j v) b, _, _) = _
    rw [up_s, show upd (zI u b) j v = u.2.2.2.1 b from funext fun k => by
      show (if k = j then v else u.2.2.2.1 b k) = _
      split
      · rename_i hk; subst hk; rw [← hv, ← e]; rfl
      · rfl]
    rfl
  · show (_, _, va_up u.2.2.2.1 a (upd (zI u a) j v) b, _, _) = _
    rw [up_n _ _ q]
    rfl)
theorem Hp.wL0 (h : Hp u0 u z cs) (hi : cs[i]? = some c) (ea : a = z + i) (j : Nat) (v : Int64) (hv : c.2.2.2.1 j = v) : Hp u0 (sL u a j v) z cs := h.cg rfl (fun b => by
  have e := h.at hi ea
  by_cases q : b = a
  · subst q
    show (_, _, _, va_up u.2.2.2.2.1 b (vp_updL (zL u b) j v) b, _) = _
    rw [up_s, show vp_updL (zL u b) j v = u.2.2.2.2.1 b from funext fun k => by
      show (if k = j then v else u.2.2.2.2.1 b k) = _
      split
      · rename_i hk; subst hk; rw [← hv, ← e]; rfl
      · rfl]
    rfl
  · show (_, _, _, va_up u.2.2.2.2.1 a (vp_updL (zL u a) j v) b, _) = _
    rw [up_n _ _ q]
    rfl)
theorem st_I (h : Hp u0 u z cs) (hi : cs[i]? = some c) (ea : a = z + i) {j : Nat} {v : Int32} {kf : SG → Option β} (k : ∀ w, Hp u0 w z (cs.set i (ceI c j v)) → G (kf w)) : G (bs (sI u a j v) kf) := k _ (h.wI hi ea j v)
theorem st_I0 (h : Hp u0 u z cs) (hi : cs[i]? = some c) (ea : a = z + i) {j : Nat} {v : Int32} {kf : SG → Option β} (hv : c.2.2.1 j = v) (k : ∀ w, Hp u0 w z cs → G (kf w)) : G (bs (sI u a j v) kf) := k _ (h.wI0 hi ea j v hv)
theorem st_L0 (h : Hp u0 u z cs) (hi : cs[i]? = some c) (ea : a = z + i) {j : Nat} {v : Int64} {kf : SG → Option β} (hv : c.2.2.2.1 j = v) (k : ∀ w, Hp u0 w z cs → G (kf w)) : G (bs (sL u a j v) kf) := k _ (h.wL0 hi ea j v hv)
theorem st_R (h : Hp u0 u z cs) (hi : cs[i]? = some c) (ea : a = z + i) {j : Nat} {v : Option Nat} {kf : SG → Option β} (k : ∀ w, Hp u0 w z (cs.set i (ceR c j v)) → G (kf w)) : G (bs (sR u a j v) kf) := k _ (h.wR hi ea j v)
theorem st_K (h : Hp u0 u z cs) (hi : cs[i]? = some c) (ea : a = z + i) {kd : Nat} {x : Option β} (ek : c.1 = kd) (k : G x) : G (if zK u a = kd then x else none) := by rw [if_pos ((h.K hi ea).trans ek)]; exact k
theorem st_new (h : Hp u0 u z cs) {kd n : Nat} {kf : Nat → SG → Option β} (k : ∀ w, Hp u0 w z (cs ++ [nc kd n]) → G (kf (z + cs.length) w)) : G (nw u (sNew u kd n) kf) := by
  show G (kf u.1 (sNew u kd n))
  rw [h.1]
  exact k _ (h.new kd n)
theorem st_g {p : Prop} [Decidable p] {x : Option β} (hp : ¬ p) (k : G x) : G (if p then none else x) := by rw [if_neg hp]; exact k
theorem st_b (h : Hp u0 u z cs) (hi : cs[i]? = some c) (ea : a = z + i) {j q : Nat} {kf : Nat → Option β} (er : c.2.2.2.2 j = some q) (k : G (kf q)) : G (Option.bind (zR u a j) kf) := by rw [h.R hi ea j, er]; exact k
theorem st_call (h : Hp u0 u z cs) {kd n : Nat} {ds : List CE} (hcs : cs = ds ++ [nc kd 0]) {f : Nat → SG → Option (Unit × SG)} {tab : Nat → List CE} (sub : ∀ (v : SG) (b : Nat), Hp v v b [nc kd 0] → ∃ w, f b v = some ((), w) ∧ Hp v w b (tab b)) (ht : ∀ b, (tab b).length = n + 1) (ea : a = z + ds.length) {kf : Unit → SG → Option β} (k : ∀ w, Hp u0 w z (ds ++ tab (z + ds.length)) → G (kf () w)) : G (cla (u.1 + n) (f a u) kf) := by
  subst hcs
  subst ea
  have hl : u.1 = z + ds.length + 1 := by have := h.1; rw [List.length_append] at this; exact this
  obtain ⟨w, e1, e2, e3, e4, e5⟩ := sub u (z + ds.length) ⟨hl, fun _ _ => rfl, fun i c hi => by
    have hl := Hp.lt hi
    have : i = 0 := by have : i < 1 := hl; omega
    subst this
    exact h.2.2.1 ds.length c (by rw [List.getElem?_append_right (Nat.le_refl _), Nat.sub_self]; exact hi), fun _ _ => rfl⟩
  unfold cla
  rw [e1]
  show G (if u.1 + n ≤ w.1 then _ else none)
  rw [if_pos (by rw [e2, ht, hl]; omega)]
  refine k w ⟨by rw [e2, List.length_append, Nat.add_assoc], fun b hb => by rw [e3 b (by omega)]; exact h.2.1 b hb, fun i c hi => ?_, fun b hb => (e5 b hb).trans (h.2.2.2 b (by rw [e2, ht] at hb; omega))⟩
  by_cases q : i < ds.length
  · rw [List.getElem?_append_left q] at hi
    rw [e3 _ (by omega)]
    exact h.2.2.1 i c (by rw [List.getElem?_append_left q]; exact hi)
  · rw [List.getElem?_append_right (by omega)] at hi
    have := e4 _ c hi
    rw [show z + ds.length + (i - ds.length) = z + i from by omega] at this
    exact this
end HPS
