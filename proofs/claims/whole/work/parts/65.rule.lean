/-! RULES: their codes, what they reckon -/
def opS (s : Nat) (x y : Int64) : Int64 := if s = 2 then x + y else if s = 3 then x - y else if s = 4 then x * y else if s = 5 then (if y = 0 then 0 else x / y) else if s = 14 then (if y = 0 then 0 else x - x / y * y) else if s = 6 then (if 0 ≤ lg_cmp x y then 0 else 1) else if s = 7 then (if 0 < lg_cmp x y then 0 else 1) else if s = 8 then (if lg_cmp x y = 0 then 1 else 0) else if s = 9 then (if lg_cmp x y < 0 then 0 else 1) else if s = 10 then (if lg_cmp x y ≤ 0 then 0 else 1) else if s = 12 then x &&& y else x ||| y
def clS (c : Nat) : Int32 := if c % 16 = 0 then nI (c / 16) else if c % 16 = 1 then (-1 : Int32) - nI (c / 16) else if c = 2 then -20 else if c = 3 then -21 else if c = 4 then -22 else if c = 5 then -23 else if c = 14 then -24 else if c = 6 then -25 else if c = 7 then -26 else if c = 8 then -27 else if c = 9 then -28 else if c = 10 then -29 else if c = 12 then -30 else if c = 13 then -31 else -32
def stp (w : Nat → Int64) (c : Nat) (st : List Int64) : List Int64 := if c % 16 = 0 then lN (c / 16) :: st else if c % 16 = 1 then w (c / 16) :: st else if c % 16 = 11 then (match st with
  | x :: t => (1 - x) :: t
  | [] => []) else (match st with
  | y :: x :: t => opS (c % 16) x y :: t
  | _ => [])
def run (w : Nat → Int64) : List Nat → List Int64 → List Int64
  | [], st => st
  | c :: cs, st => run w cs (stp w c st)
def tyS (c : Nat) (ts : List Bool) : Option (List Bool) := if c % 16 = 0 then (if c / 16 ≤ 99999 then some (false :: ts) else none) else if c % 16 = 1 then (if c / 16 ≤ 12 then some (false :: ts) else none) else if c = 11 then (match ts with
  | true :: t => some (true :: t)
  | _ => none) else if c = 12 ∨ c = 13 then (match ts with
  | true :: true :: t => some (true :: t)
  | _ => none) else if c = 2 ∨ c = 3 ∨ c = 4 ∨ c = 5 ∨ c = 14 then (match ts with
  | false :: false :: t => some (false :: t)
  | _ => none) else if 6 ≤ c ∧ c ≤ 10 then (match ts with
  | false :: false :: t => some (true :: t)
  | _ => none) else none
def tyR : List Nat → List Bool → Option (List Bool)
  | [], ts => some ts
  | c :: cs, ts => (tyS c ts).bind (tyR cs)
def tst : List Bool → List Int64 → Prop
  | [], [] => True
  | b :: bs, x :: xs => (b = true → x = 0 ∨ x = 1) ∧ tst bs xs
  | _, _ => False
def vls : List Nat → Nat
  | [] => 0
  | c :: cs => (if c % 16 ≤ 1 then 1 else 0) + vls cs
theorem tst_len : ∀ {ts : List Bool} {st : List Int64}, tst ts st → st.length = ts.length := by
  intro ts
  induction ts with
  | nil => intro st h; cases st with
    | nil => rfl
    | cons x xs => exact absurd h (by simp [tst])
  | cons b bs ih => intro st h; cases st with
    | nil => exact absurd h (by simp [tst])
    | cons x xs => simp [ih h.2]
/-- the four shapes of a code -/
theorem tyS_cases {c : Nat} {ts ts' : List Bool} (h : tyS c ts = some ts') : (c % 16 = 0 ∧ c / 16 ≤ 99999 ∧ ts' = false :: ts) ∨ (c % 16 = 1 ∧ c / 16 ≤ 12 ∧ ts' = false :: ts) ∨ (c = 11 ∧ ∃ t, ts = true :: t ∧ ts' = true :: t) ∨ ((c = 12 ∨ c = 13) ∧ ∃ t, ts = true :: true :: t ∧ ts' = true :: t) ∨ ((c = 2 ∨ c = 3 ∨ c = 4 ∨ c = 5 ∨ c = 14) ∧ ∃ t, ts = false :: false :: t ∧ ts' = false :: t) ∨ ((6 ≤ c ∧ c ≤ 10) ∧ ∃ t, ts = false :: false :: t ∧ ts' = true :: t) := by
  unfold tyS at h
  by_cases h0 : c % 16 = 0
  · rw [if_pos h0] at h
    by_cases h1 : c / 16 ≤ 99999
    · rw [if_pos h1] at h; cases h; exact Or.inl ⟨h0, h1, rfl⟩
    · rw [if_neg h1] at h; cases h
  rw [if_neg h0] at h
  by_cases h2 : c % 16 = 1
  · rw [if_pos h2] at h
    by_cases h1 : c / 16 ≤ 12
    · rw [if_pos h1] at h; cases h; exact Or.inr (Or.inl ⟨h2, h1, rfl⟩)
    · rw [if_neg h1] at h; cases h
  rw [if_neg h2] at h
  by_cases h3 : c = 11
  · rw [if_pos h3] at h
    match ts, h with
    | true :: t, h => cases h; exact Or.inr (Or.inr (Or.inl ⟨h3, t, rfl, rfl⟩))
    | [], h => cases h
    | false :: t, h => cases h
  rw [if_neg h3] at h
  by_cases h4 : c = 12 ∨ c = 13
  · rw [if_pos h4] at h
    match ts, h with
    | true :: true :: t, h => cases h; exact Or.inr (Or.inr (Or.inr (Or.inl ⟨h4, t, rfl, rfl⟩)))
    | [], h => cases h
    | [b], h => cases b <;> cases h
    | false :: b :: t, h => cases h
    | true :: false :: t, h => cases h
  rw [if_neg h4] at h
  by_cases h5 : c = 2 ∨ c = 3 ∨ c = 4 ∨ c = 5 ∨ c = 14
  · rw [if_pos h5] at h
    match ts, h with
    | false :: false :: t, h => cases h; exact Or.inr (Or.inr (Or.inr (Or.inr (Or.inl ⟨h5, t, rfl, rfl⟩))))
    | [], h => cases h
    | [b], h => cases b <;> cases h
    | true :: b :: t, h => cases h
    | false :: true :: t, h => cases h
  rw [if_neg h5] at h
  by_cases h6 : 6 ≤ c ∧ c ≤ 10
  · rw [if_pos h6] at h
    match ts, h with
    | false :: false :: t, h => cases h; exact Or.inr (Or.inr (Or.inr (Or.inr (Or.inr ⟨h6, t, rfl, rfl⟩))))
    | [], h => cases h
    | [b], h => cases b <;> cases h
    | true :: b :: t, h => cases h
    | false :: true :: t, h => cases h
  rw [if_neg h6] at h
  cases h
theorem ite01 {c : Prop} [Decidable c] : (if c then (0 : Int64) else 1) = 0 ∨ (if c then (0 : Int64) else 1) = 1 := by split <;> simp
theorem ite10 {c : Prop} [Decidable c] : (if c then (1 : Int64) else 0) = 0 ∨ (if c then (1 : Int64) else 0) = 1 := by split <;> simp
theorem op_cmp {s : Nat} (h : 6 ≤ s ∧ s ≤ 10) (x y : Int64) : opS s x y = 0 ∨ opS s x y = 1 := by
  rcases (by omega : s = 6 ∨ s = 7 ∨ s = 8 ∨ s = 9 ∨ s = 10) with rfl | rfl | rfl | rfl | rfl
  · exact ite01
  · exact ite01
  · exact ite10
  · exact ite01
  · exact ite01
theorem op_log {s : Nat} (h : s = 12 ∨ s = 13) {x y : Int64} (hx : x = 0 ∨ x = 1) (hy : y = 0 ∨ y = 1) : opS s x y = 0 ∨ opS s x y = 1 := by
  rcases h with rfl | rfl <;> rcases hx with rfl | rfl <;> rcases hy with rfl | rfl <;> decide
/-- one step on a typed stack -/
theorem stp_ty {w : Nat → Int64} {c : Nat} {ts ts' : List Bool} {st : List Int64} (h : tyS c ts = some ts') (hs : tst ts st) : tst ts' (stp w c st) ∧ (∀ base, stp w c (st ++ base) = stp w c st ++ base) ∧ (stp w c st).length ≤ st.length + (if c % 16 ≤ 1 then 1 else 0) := by
  rcases tyS_cases h with ⟨h0, h1, rfl⟩ | ⟨h0, h1, rfl⟩ | ⟨rfl, t, rfl, rfl⟩ | ⟨h0, t, rfl, rfl⟩ | ⟨h0, t, rfl, rfl⟩ | ⟨h0, t, rfl, rfl⟩
  · unfold stp
    simp only [if_pos h0]
    refine ⟨⟨by simp, hs⟩, fun _ => rfl, ?_⟩
    rw [if_pos (by omega)]
    simp
  · unfold stp
    simp only [if_neg (show ¬ c % 16 = 0 by omega), if_pos h0]
    refine ⟨⟨by simp, hs⟩, fun _ => rfl, ?_⟩
    rw [if_pos (by omega)]
    simp
  · match st, hs with
    | x :: st, hs =>
      refine ⟨⟨fun _ => ?_, hs.2⟩, fun _ => rfl, by simp [stp]⟩
      rcases hs.1 rfl with rfl | rfl
      · exact Or.inr rfl
      · exact Or.inl rfl
    | [], hs => exact absurd hs (by simp [tst])
  · match st, hs with
    | y :: x :: st, hs =>
      have e : ∀ b, stp w c (y :: x :: b) = opS c x y :: b := fun b => by rcases h0 with rfl | rfl <;> rfl
      refine ⟨?_, fun b => by rw [e]; show stp w c (y :: x :: (st ++ b)) = _; rw [e]; rfl, by rw [e]; simp; omega⟩
      rw [e]
      exact ⟨fun _ => op_log h0 (hs.2.1 rfl) (hs.1 rfl), hs.2.2⟩
    | [], hs => exact absurd hs (by simp [tst])
    | [x], hs => exact absurd hs (by simp [tst])
  · match st, hs with
    | y :: x :: st, hs =>
      have e : ∀ b, stp w c (y :: x :: b) = opS c x y :: b := fun b => by rcases h0 with rfl | rfl | rfl | rfl | rfl <;> rfl
      refine ⟨?_, fun b => by rw [e]; show stp w c (y :: x :: (st ++ b)) = _; rw [e]; rfl, by rw [e]; simp; omega⟩
      rw [e]
      exact ⟨fun h => (by cases h), hs.2.2⟩
    | [], hs => exact absurd hs (by simp [tst])
    | [x], hs => exact absurd hs (by simp [tst])
  · match st, hs with
    | y :: x :: st, hs =>
      have e : ∀ b, stp w c (y :: x :: b) = opS c x y :: b := fun b => by
        rcases (by omega : c = 6 ∨ c = 7 ∨ c = 8 ∨ c = 9 ∨ c = 10) with rfl | rfl | rfl | rfl | rfl <;> rfl
      refine ⟨?_, fun b => by rw [e]; show stp w c (y :: x :: (st ++ b)) = _; rw [e]; rfl, by rw [e]; simp; omega⟩
      rw [e]
      exact ⟨fun _ => op_cmp h0 x y, hs.2.2⟩
    | [], hs => exact absurd hs (by simp [tst])
    | [x], hs => exact absurd hs (by simp [tst])
theorem tyR_cons {c : Nat} {cs : List Nat} {ts ts' : List Bool} (h : tyR (c :: cs) ts = some ts') : ∃ t1, tyS c ts = some t1 ∧ tyR cs t1 = some ts' := by
  rw [tyR] at h
  cases e : tyS c ts with
  | none => rw [e] at h; cases h
  | some t1 => rw [e] at h; exact ⟨t1, rfl, h⟩
theorem run_ty {w : Nat → Int64} : ∀ {cs : List Nat} {ts ts' : List Bool} {st : List Int64}, tyR cs ts = some ts' → tst ts st → tst ts' (run w cs st) ∧ ∀ base, run w cs (st ++ base) = run w cs st ++ base := by
  intro cs
  induction cs with
  | nil => intro ts ts' st h hs; cases h; exact ⟨hs, fun _ => rfl⟩
  | cons c cs ih =>
    intro ts ts' st h hs
    obtain ⟨t1, h1, h2⟩ := tyR_cons h
    obtain ⟨q1, q2, -⟩ := stp_ty (w := w) h1 hs
    obtain ⟨r1, r2⟩ := ih h2 q1
    refine ⟨r1, fun base => ?_⟩
    rw [run, q2, r2]
    rfl
theorem tyR_app {as bs : List Nat} {ts t1 t2 : List Bool} (h1 : tyR as ts = some t1) (h2 : tyR bs t1 = some t2) : tyR (as ++ bs) ts = some t2 := by
  induction as generalizing ts with
  | nil => cases h1; exact h2
  | cons c cs ih =>
    obtain ⟨t, e1, e2⟩ := tyR_cons h1
    show (tyS c ts).bind (tyR (cs ++ bs)) = some t2
    rw [e1]
    exact ih e2
theorem vls_app (as bs : List Nat) : vls (as ++ bs) = vls as + vls bs := by
  induction as with
  | nil => simp [vls]
  | cons c cs ih => show (if c % 16 ≤ 1 then 1 else 0) + vls (cs ++ bs) = _; rw [ih, vls]; omega
def top1 (l : List Int64) : Int64 := l.headD 0
/-- a rule: clauses, each a sum and perhaps a test -/
abbrev RT : Type := List (List Nat × Option (List Nat))
def clOK (c : List Nat × Option (List Nat)) : Prop := tyR c.1 [] = some [false] ∧ vls c.1 ≤ 60 ∧ ∀ t, c.2 = some t → tyR t [] = some [true] ∧ vls c.1 + vls t ≤ 60
def rOK (R : RT) : Prop := R.length ≤ 12 ∧ ∀ c ∈ R, clOK c
def ansR (w : Nat → Int64) : RT → Int64
  | [] => 0
  | (s, none) :: _ => top1 (run w s [])
  | (s, some t) :: r => if top1 (run w t []) = 1 then top1 (run w s []) else ansR w r
def flCl (c : List Nat × Option (List Nat)) : List Int32 := c.1.map clS ++ (match c.2 with
  | none => [-33]
  | some t => t.map clS ++ [-34])
def flRl : RT → List Int32
  | [] => []
  | c :: r => flCl c ++ flRl r
/-- a stack in an array -/
def Stk (f : Nat → Int64) : List Int64 → Prop
  | [] => True
  | x :: st => f st.length = x ∧ Stk f st
theorem Stk_ext {f g : Nat → Int64} : ∀ {st : List Int64}, Stk f st → (∀ k, k < st.length → g k = f k) → Stk g st := by
  intro st
  induction st with
  | nil => intros; trivial
  | cons x st ih =>
    intro h hg
    exact ⟨(hg _ (by simp)).trans h.1, ih h.2 (fun k hk => hg k (by simp; omega))⟩
def StkG (u : SG) (a b k : Nat) (st : List Int64) : Prop := zI u a k = nI st.length ∧ Stk (zL u b) st
def SS (a b k : Nat) : Nat → Nat → Prop := fun q j => (q = a ∧ j = k) ∨ q = b
section STK
variable {N m : Nat} {u : SG} {st : List Int64} {x y : Int64}
theorem stk_push {a b k : Nat} (h : StkG u a b k st) : StkG (sI (sL u b st.length x) a k (nI (st.length + 1))) a b k (x :: st) ∧ Fz (SS a b k) u (sI (sL u b st.length x) a k (nI (st.length + 1))) := by
  refine ⟨⟨by rw [sI_s]; rfl, by rw [sI_L, sL_s], ?_⟩, (Fz.sL (Or.inr rfl)).tr (Fz.sI (Or.inl ⟨rfl, rfl⟩))⟩
  exact Stk_ext h.2 (fun j hj => by rw [sI_L, sL_n (by omega)])
theorem stk_pop {a b k : Nat} (h : StkG u a b k (x :: st)) : StkG (sI u a k (nI st.length)) a b k st ∧ Fz (SS a b k) u (sI u a k (nI st.length)) ∧ zL (sI u a k (nI st.length)) b st.length = x :=
  ⟨⟨by rw [sI_s], h.2.2⟩, Fz.sI (Or.inl ⟨rfl, rfl⟩), h.2.1⟩
theorem r_push (h : StkG u m (m + 8) 18 st) (hl : st.length < 64) : ∃ u', hX11_push N m x u = some ((), u') ∧ StkG u' m (m + 8) 18 (x :: st) ∧ Fz (SS m (m + 8) 18) u u' := by
  obtain ⟨q1, q2⟩ := stk_push (x := x) h
  refine ⟨_, ?_, q1, q2⟩
  unfold hX11_push
  rw [h.1, ixI hl (by decide), nI_clamp (by omega), bs_eq, bs_eq, sL_I, h.1, lit_1, nI_add]
theorem r_pop (h : StkG u m (m + 8) 18 (x :: st)) (hl : st.length < 64) : ∃ u', hX11_pop N m u = some (x, u') ∧ StkG u' m (m + 8) 18 st ∧ Fz (SS m (m + 8) 18) u u' := by
  obtain ⟨q1, q2, q3⟩ := stk_pop h
  refine ⟨_, ?_, q1, q2⟩
  unfold hX11_pop
  rw [h.1, List.length_cons, lit_1, pk_sub (by omega), Nat.add_sub_cancel, bs_eq, sI_s, ixI hl (by decide), nI_clamp (by omega), q3]
theorem c_push (h : StkG u m (m + 1) 1 st) (hl : st.length < 64) : ∃ u', hX3_push N m x u = some ((), u') ∧ StkG u' m (m + 1) 1 (x :: st) ∧ Fz (SS m (m + 1) 1) u u' := by
  obtain ⟨q1, q2⟩ := stk_push (x := x) h
  refine ⟨_, ?_, q1, q2⟩
  unfold hX3_push
  rw [h.1, if_neg (nI_pos (by omega)), lit_64, if_neg (nI_ge hl (by decide)), ixI hl (by decide), nI_clamp (by omega), bs_eq, bs_eq, sL_I, h.1, lit_1, nI_add]
theorem c_pop (h : StkG u m (m + 1) 1 (x :: st)) (hl : st.length < 64) : ∃ u', hX3_pop N m u = some (x, u') ∧ StkG u' m (m + 1) 1 st ∧ Fz (SS m (m + 1) 1) u u' := by
  obtain ⟨q1, q2, q3⟩ := stk_pop h
  refine ⟨_, ?_, q1, q2⟩
  unfold hX3_pop
  rw [h.1, List.length_cons, lit_0, if_neg (nI_ge (by omega) (by omega)), lit_64, if_pos (nI_le (by omega) (by omega)), lit_1, pk_sub (by omega), Nat.add_sub_cancel, bs_eq, sI_s, ← lit_0, ixI hl (by decide), nI_clamp (by omega), q3]
end STK
theorem r_one {N s : Nat} {u : SG} (hs : s = 2 ∨ s = 3 ∨ s = 4 ∨ s = 5 ∨ s = 14 ∨ (6 ≤ s ∧ s ≤ 10) ∨ s = 12 ∨ s = 13) (x y : Int64) : fX11_one N (nI s) x y u = some (opS s x y, u) := by
  rcases (by omega : s = 2 ∨ s = 3 ∨ s = 4 ∨ s = 5 ∨ s = 14 ∨ s = 6 ∨ s = 7 ∨ s = 8 ∨ s = 9 ∨ s = 10 ∨ s = 12 ∨ s = 13) with rfl | rfl | rfl | rfl | rfl | rfl | rfl | rfl | rfl | rfl | rfl | rfl
  · rfl
  · rfl
  · rfl
  · show (if lg_cmp y 0 = 0 then some ((0 : Int64), u) else if y = 0 then none else some (x / y, u)) = some ((if y = 0 then 0 else x / y), u)
    simp only [lg_cmp_eq]
    by_cases h : y = 0
    · rw [if_pos h, if_pos h]
    · rw [if_neg h, if_neg h, if_neg h]
  · show (if lg_cmp y 0 = 0 then some ((0 : Int64), u) else if y = 0 then none else some (x - x / y * y, u)) = some ((if y = 0 then 0 else x - x / y * y), u)
    simp only [lg_cmp_eq]
    by_cases h : y = 0
    · rw [if_pos h, if_pos h]
    · rw [if_neg h, if_neg h, if_neg h]
  · show (if 0 ≤ lg_cmp x y then some ((0 : Int64), u) else some (1, u)) = some ((if 0 ≤ lg_cmp x y then 0 else 1), u)
    split <;> rfl
  · show (if 0 < lg_cmp x y then some ((0 : Int64), u) else some (1, u)) = some ((if 0 < lg_cmp x y then 0 else 1), u)
    split <;> rfl
  · show (if lg_cmp x y = 0 then some ((1 : Int64), u) else some (0, u)) = some ((if lg_cmp x y = 0 then 1 else 0), u)
    split <;> rfl
  · show (if lg_cmp x y < 0 then some ((0 : Int64), u) else some (1, u)) = some ((if lg_cmp x y < 0 then 0 else 1), u)
    split <;> rfl
  · show (if lg_cmp x y ≤ 0 then some ((0 : Int64), u) else some (1, u)) = some ((if lg_cmp x y ≤ 0 then 0 else 1), u)
    split <;> rfl
  · rfl
  · rfl
theorem c_combine {N s : Nat} {u : SG} (hs : s = 2 ∨ s = 3 ∨ s = 4 ∨ s = 5 ∨ s = 14 ∨ (6 ≤ s ∧ s ≤ 10) ∨ s = 12 ∨ s = 13) (x y : Int64) : fX4_combine N (clS s) x y u = some (opS s x y, u) := by
  rcases (by omega : s = 2 ∨ s = 3 ∨ s = 4 ∨ s = 5 ∨ s = 14 ∨ s = 6 ∨ s = 7 ∨ s = 8 ∨ s = 9 ∨ s = 10 ∨ s = 12 ∨ s = 13) with rfl | rfl | rfl | rfl | rfl | rfl | rfl | rfl | rfl | rfl | rfl | rfl
  · rfl
  · rfl
  · rfl
  · show (if lg_cmp y 0 = 0 then some ((0 : Int64), u) else if y = 0 then none else some (x / y, u)) = some ((if y = 0 then 0 else x / y), u)
    simp only [lg_cmp_eq]
    by_cases h : y = 0
    · rw [if_pos h, if_pos h]
    · rw [if_neg h, if_neg h, if_neg h]
  · show (if lg_cmp y 0 = 0 then some ((0 : Int64), u) else if y = 0 then none else some (x - x / y * y, u)) = some ((if y = 0 then 0 else x - x / y * y), u)
    simp only [lg_cmp_eq]
    by_cases h : y = 0
    · rw [if_pos h, if_pos h]
    · rw [if_neg h, if_neg h, if_neg h]
  · show (if 0 ≤ lg_cmp x y then some ((0 : Int64), u) else some (1, u)) = some ((if 0 ≤ lg_cmp x y then 0 else 1), u)
    split <;> rfl
  · show (if 0 < lg_cmp x y then some ((0 : Int64), u) else some (1, u)) = some ((if 0 < lg_cmp x y then 0 else 1), u)
    split <;> rfl
  · show (if lg_cmp x y = 0 then some ((1 : Int64), u) else some (0, u)) = some ((if lg_cmp x y = 0 then 1 else 0), u)
    split <;> rfl
  · show (if lg_cmp x y < 0 then some ((0 : Int64), u) else some (1, u)) = some ((if lg_cmp x y < 0 then 0 else 1), u)
    split <;> rfl
  · show (if lg_cmp x y ≤ 0 then some ((0 : Int64), u) else some (1, u)) = some ((if lg_cmp x y ≤ 0 then 0 else 1), u)
    split <;> rfl
  · rfl
  · rfl
