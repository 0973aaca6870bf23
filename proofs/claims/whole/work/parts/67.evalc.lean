section CEVAL
variable {N : Nat} {w : Nat → Int64}
theorem clS_w : ∀ k, k < 13 → ((-1 : Int32) - nI k < 0 ∧ ¬ ((-1 : Int32) - nI k ≤ -20) ∧ (-1 : Int32) - ((-1 : Int32) - nI k) = nI k) := by decide +kernel
theorem clS_b : ∀ c, c < 16 → (c = 2 ∨ c = 3 ∨ c = 4 ∨ c = 5 ∨ c = 14 ∨ (6 ≤ c ∧ c ≤ 10) ∨ c = 12 ∨ c = 13) → (clS c < 0 ∧ clS c ≤ -20 ∧ ¬ clS c = -32 ∧ ¬ clS c = -33 ∧ ¬ clS c = -34) := by decide +kernel
/-- the codes of a sum or a test run in the class -/
theorem c_run {a x1 x2 q p : Nat} : ∀ (cs : List Nat) (i : Nat) (st : List Int64) (ts ts' : List Bool) (u : SG) (n : Nat), (∀ (j c : Nat), cs[j]? = some c → zI u (q + 1) (i + j) = clS c) → (∀ u1, Fz (SS a (a + 1) 1) u u1 → ∀ k, k < 13 → hX3_valueOf N (nI k) x1 x2 (nI p) u1 = some (w k, u1)) → a ≠ q + 1 → a + 1 ≠ q + 1 → tyR cs ts = some ts' → tst ts st → st.length + vls cs ≤ 64 → i + cs.length ≤ zN u (q + 1) → zN u (q + 1) ≤ 412 → StkG u a (a + 1) 1 st → ∃ u', hgX3_answer_8 N (n + cs.length) a x1 x2 q (nI p) (nI i) u = hgX3_answer_8 N n a x1 x2 q (nI p) (nI (i + cs.length)) u' ∧ StkG u' a (a + 1) 1 (run w cs st) ∧ Fz (SS a (a + 1) 1) u u' := by
  intro cs
  induction cs with
  | nil =>
    intro i st ts ts' u n hs hv hq1 hq2 hty hst hl hi h4 hS
    exact ⟨u, rfl, hS, Fz.rf⟩
  | cons c cs ih =>
    intro i st ts ts' u n hs hv hq1 hq2 hty hst hl hi h4 hS
    obtain ⟨t1, h1, h2⟩ := tyR_cons hty
    have hc0 : zI u (q + 1) i = clS c := hs 0 c rfl
    obtain ⟨k1, -, k3⟩ := stp_ty (w := w) h1 hst
    have hsl := tst_len hst
    rw [List.length_cons] at hi ⊢
    rw [vls] at hl
    have go : ∀ u1, StkG u1 a (a + 1) 1 (stp w c st) → Fz (SS a (a + 1) 1) u u1 → ∃ u', hgX3_answer_8 N (n + cs.length) a x1 x2 q (nI p) (nI (i + 1)) u1 = hgX3_answer_8 N n a x1 x2 q (nI p) (nI (i + (cs.length + 1))) u' ∧ StkG u' a (a + 1) 1 (run w (c :: cs) st) ∧ Fz (SS a (a + 1) 1) u u' := by
      intro u1 q1 q2
      obtain ⟨u', e1, e2, e3⟩ := ih (i + 1) (stp w c st) t1 ts' u1 n (fun j d hj => by rw [q2.I (by unfold SS; omega)]; rw [show i + 1 + j = i + (j + 1) by omega]; exact hs (j + 1) d hj) (fun v hv1 k hk => hv v (q2.tr hv1) k hk) hq1 hq2 h2 k1 (by omega) (by rw [q2.N]; omega) (by rw [q2.N]; exact h4) q1
      refine ⟨u', ?_, e2, q2.tr e3⟩
      rw [e1, show i + (cs.length + 1) = i + 1 + cs.length by omega]
    rw [show n + (cs.length + 1) = (n + cs.length) + 1 by omega, hgX3_answer_8, if_neg (nI_ge (by omega) (by omega)), if_neg (nI_in (by omega) (by omega)), nI_clamp (by omega), hc0, bs_eq]
    rcases tyS_c2 h1 with ⟨y0, y1⟩ | ⟨y0, y1⟩ | ⟨rfl, b1, t2, rfl⟩ | ⟨y0, b1, b2, t2, rfl⟩
    · rw [show clS c = nI (c / 16) from by unfold clS; rw [if_pos y0], if_neg (nI_pos (by omega)), nI_l (by omega)]
      obtain ⟨u1, e1, q1, q2⟩ := c_push (N := N) (x := lN (c / 16)) hS (by rw [if_pos (by omega)] at hl; omega)
      rw [e1, cl_some, lit_1, nI_add]
      exact go u1 (by rw [show stp w c st = lN (c / 16) :: st from by unfold stp; rw [if_pos y0]]; exact q1) q2
    · obtain ⟨z1, z2, z3⟩ := clS_w (c / 16) (by omega)
      rw [show clS c = (-1 : Int32) - nI (c / 16) from by unfold clS; rw [if_neg (by omega), if_pos y0], if_pos z1, if_neg z2, z3, hv u Fz.rf _ (by omega), cl_some]
      obtain ⟨u1, e1, q1, q2⟩ := c_push (N := N) (x := w (c / 16)) hS (by rw [if_pos (by omega)] at hl; omega)
      rw [e1, cl_some, lit_1, nI_add]
      exact go u1 (by rw [show stp w c st = w (c / 16) :: st from by unfold stp; rw [if_neg (by omega), if_pos y0]]; exact q1) q2
    · match st, hst, hS, hl, hsl with
      | x :: st, hst, hS, hl, hsl =>
        rw [show clS 11 = -32 from rfl, if_pos (by decide), if_pos (by decide), if_pos rfl]
        simp only [List.length_cons] at hl
        obtain ⟨u1, e1, q1, q2⟩ := c_pop (N := N) hS (by omega)
        obtain ⟨u2, e2, q3, q4⟩ := c_push (N := N) (x := 1 - x) q1 (by omega)
        rw [e1, cl_some, e2, cl_some, lit_1, nI_add]
        exact go u2 q3 (q2.tr q4)
      | [], hst, _, _, hsl => exact absurd hst (by simp [tst])
    · have hc16 : c < 16 := by unfold isBin at y0; omega
      obtain ⟨z1, z2, z3, z4, z5⟩ := clS_b c hc16 y0
      match st, hst, hS, hl, hsl with
      | y :: x :: st, hst, hS, hl, hsl =>
        rw [if_pos z1, if_pos z2, if_neg z3, if_neg z4, if_neg z5]
        simp only [List.length_cons] at hl
        obtain ⟨u1, e1, q1, q2⟩ := c_pop (N := N) hS (by simp; omega)
        obtain ⟨u2, e2, q3, q4⟩ := c_pop (N := N) q1 (by omega)
        obtain ⟨u3, e3, q5, q6⟩ := c_push (N := N) (x := opS c x y) q3 (by omega)
        rw [e1, cl_some, e2, cl_some, c_combine y0, cl_some, e3, cl_some, lit_1, nI_add]
        exact go u3 (by rw [stp_bin y0]; exact q5) ((q2.tr q4).tr q6)
      | [], hst, _, _, hsl => exact absurd hst (by simp [tst])
      | [x], hst, _, _, hsl => exact absurd hst.2 (by simp [tst])
theorem run_one {cs : List Nat} {b : Bool} (h : tyR cs [] = some [b]) : ∃ x, run w cs [] = [x] ∧ (b = true → x = 0 ∨ x = 1) := by
  obtain ⟨h1, -⟩ := run_ty (w := w) h (st := []) trivial
  match e : run w cs [], h1 with
  | [x], h1 => exact ⟨x, rfl, h1.1⟩
  | [], h1 => exact absurd h1 (by simp [tst])
  | x :: y :: t, h1 => exact absurd h1.2 (by simp [tst])
theorem tyR_base {cs : List Nat} : ∀ {ts ts' : List Bool} (base : List Bool), tyR cs ts = some ts' → tyR cs (ts ++ base) = some (ts' ++ base) := by
  induction cs with
  | nil => intro ts ts' base h; cases h; rfl
  | cons c cs ih =>
    intro ts ts' base h
    obtain ⟨t1, h1, h2⟩ := tyR_cons h
    show (tyS c (ts ++ base)).bind (tyR cs) = _
    have e : tyS c (ts ++ base) = some (t1 ++ base) := by
      rcases tyS_cases h1 with ⟨h0, h9, rfl⟩ | ⟨h0, h9, rfl⟩ | ⟨rfl, t, rfl, rfl⟩ | ⟨h0, t, rfl, rfl⟩ | ⟨h0, t, rfl, rfl⟩ | ⟨h0, t, rfl, rfl⟩
      · unfold tyS; rw [if_pos h0, if_pos h9]; rfl
      · unfold tyS; rw [if_neg (by omega), if_pos h0, if_pos h9]; rfl
      · rfl
      · rcases h0 with rfl | rfl <;> rfl
      · rcases h0 with rfl | rfl | rfl | rfl | rfl <;> rfl
      · rcases (by omega : c = 6 ∨ c = 7 ∨ c = 8 ∨ c = 9 ∨ c = 10) with rfl | rfl | rfl | rfl | rfl <;> rfl
    rw [e]
    exact ih base h2
/-- a rule in the class: an array of steps -/
def CRul (u : SG) (q : Nat) (R : RT) : Prop := zN u (q + 1) = (flRl R).length ∧ (flRl R).length ≤ 412 ∧ ∀ (j : Nat) (d : Int32), (flRl R)[j]? = some d → zI u (q + 1) j = d
theorem c_answer_l {a x1 x2 q p : Nat} {L : Nat} (hL : L ≤ 412) (hq1 : a ≠ q + 1) (hq2 : a + 1 ≠ q + 1) : ∀ (R : RT) (i : Nat) (u : SG) (n : Nat), (∀ c ∈ R, clOK c) → zN u (q + 1) = L → i + (flRl R).length = L → (∀ (j : Nat) (d : Int32), (flRl R)[j]? = some d → zI u (q + 1) (i + j) = d) → (∀ u1, Fz (SS a (a + 1) 1) u u1 → ∀ k, k < 13 → hX3_valueOf N (nI k) x1 x2 (nI p) u1 = some (w k, u1)) → (flRl R).length < n → StkG u a (a + 1) 1 [] → ∃ u', hgX3_answer_8 N n a x1 x2 q (nI p) (nI i) u = some (ansR w R, u') ∧ Fz (SS a (a + 1) 1) u u' := by
  intro R
  induction R with
  | nil =>
    intro i u n hc hz hi hd hv hn hS
    obtain ⟨n, rfl⟩ : ∃ j, n = j + 1 := ⟨n - 1, by omega⟩
    refine ⟨u, ?_, Fz.rf⟩
    rw [hgX3_answer_8, hz, if_pos (nI_le (by simp [flRl] at hi; omega) (by omega))]
    rfl
  | cons c R ih =>
    intro i u n hc hz hi hd hv hn hS
    obtain ⟨k1, k2, k3⟩ := hc c List.mem_cons_self
    match c, hc, hi, hd, hn, k1, k2, k3 with
    | (s, none), hc, hi, hd, hn, k1, k2, k3 =>
      have k2 : vls s ≤ 60 := k2
      have elen : (flRl ((s, none) :: R)).length = s.length + (1 + (flRl R).length) := by simp [flRl, flCl]; omega
      rw [elen] at hi hn
      have hd2 : ∀ (j : Nat) (d : Int32), (s.map clS ++ ([-33] ++ flRl R))[j]? = some d → zI u (q + 1) (i + j) = d := by
        intro j d hj
        apply hd j d
        simpa [flRl, flCl] using hj
      obtain ⟨x, hx, -⟩ := run_one (w := w) k1
      obtain ⟨u1, e1, e2, e3⟩ := c_run (N := N) (w := w) s i [] [] [false] u (n - s.length) (fun j d hj => hd2 j _ (by
        rw [List.getElem?_append_left (by have := (List.getElem?_eq_some_iff.mp hj).1; simpa using this), List.getElem?_map, hj]; rfl)) hv hq1 hq2 k1 trivial (by simp; omega) (by omega) (by omega) hS
      rw [show n - s.length + s.length = n by omega] at e1
      rw [hx] at e2
      obtain ⟨n2, hn2⟩ : ∃ j, n - s.length = j + 1 := ⟨n - s.length - 1, by omega⟩
      rw [hn2] at e1
      have hcell : zI u1 (q + 1) (i + s.length) = -33 := by
        rw [e3.I (by unfold SS; omega)]
        apply hd2 s.length
        rw [List.getElem?_append_right (by simp)]
        simp
      obtain ⟨u2, f1, f2, f3⟩ := c_pop (N := N) e2 (by simp)
      refine ⟨u2, ?_, e3.tr f3⟩
      rw [e1, hgX3_answer_8, e3.N, hz, if_neg (nI_ge (by omega) (by omega)), if_neg (nI_in (by omega) (by omega)), nI_clamp (by omega), hcell, bs_eq, if_pos (by decide), if_pos (by decide), if_neg (by decide), if_pos rfl, f1, cl_some, ansR, hx]
      rfl
    | (s, some t), hc, hi, hd, hn, k1, k2, k3 =>
      obtain ⟨k4, k5⟩ := k3 t rfl
      have k2 : vls s ≤ 60 := k2
      have k5 : vls s + vls t ≤ 60 := k5
      have elen : (flRl ((s, some t) :: R)).length = s.length + (t.length + (1 + (flRl R).length)) := by simp [flRl, flCl]; omega
      rw [elen] at hi hn
      have hd2 : ∀ (j : Nat) (d : Int32), (s.map clS ++ (t.map clS ++ ([-34] ++ flRl R)))[j]? = some d → zI u (q + 1) (i + j) = d := by
        intro j d hj
        apply hd j d
        simpa [flRl, flCl] using hj
      obtain ⟨x, hx, -⟩ := run_one (w := w) k1
      obtain ⟨y, hy, hy2⟩ := run_one (w := w) k4
      obtain ⟨u1, e1, e2, e3⟩ := c_run (N := N) (w := w) s i [] [] [false] u (n - s.length) (fun j d hj => hd2 j _ (by
        rw [List.getElem?_append_left (by have := (List.getElem?_eq_some_iff.mp hj).1; simpa using this), List.getElem?_map, hj]; rfl)) hv hq1 hq2 k1 trivial (by simp; omega) (by omega) (by omega) hS
      rw [show n - s.length + s.length = n by omega] at e1
      rw [hx] at e2
      obtain ⟨u2, g1, g2, g3⟩ := c_run (N := N) (w := w) t (i + s.length) [x] [false] [true, false] u1 (n - s.length - t.length) (fun j d hj => by
        rw [e3.I (by unfold SS; omega), Nat.add_assoc]
        apply hd2 (s.length + j)
        rw [List.getElem?_append_right (by simp), List.length_map, Nat.add_sub_cancel_left, List.getElem?_append_left (by have := (List.getElem?_eq_some_iff.mp hj).1; simpa using this), List.getElem?_map, hj]
        rfl) (fun v hv1 => hv v (e3.tr hv1)) hq1 hq2 (tyR_base [false] k4) ⟨by simp, trivial⟩ (by simp; omega) (by rw [e3.N]; omega) (by rw [e3.N]; omega) e2
      rw [show n - s.length - t.length + t.length = n - s.length by omega] at g1
      have hr : run w t [x] = y :: [x] := by
        have := (run_ty (w := w) k4 (st := []) trivial).2 [x]
        rw [hy] at this
        exact this
      rw [hr] at g2
      obtain ⟨n2, hn2⟩ : ∃ j, n - s.length - t.length = j + 1 := ⟨n - s.length - t.length - 1, by omega⟩
      rw [hn2] at g1
      have hcell : zI u2 (q + 1) (i + s.length + t.length) = -34 := by
        rw [g3.I (by unfold SS; omega), e3.I (by unfold SS; omega), Nat.add_assoc]
        apply hd2 (s.length + t.length)
        rw [List.getElem?_append_right (by simp), List.length_map, Nat.add_sub_cancel_left, List.getElem?_append_right (by simp)]
        simp
      obtain ⟨u3, f1, f2, f3⟩ := c_pop (N := N) g2 (by simp)
      obtain ⟨u4, l1, l2, l3⟩ := c_pop (N := N) f2 (by simp)
      have fz : Fz (SS a (a + 1) 1) u u4 := ((e3.tr g3).tr f3).tr l3
      rw [e1, g1, hgX3_answer_8, g3.N, e3.N, hz, if_neg (nI_ge (by omega) (by omega)), if_neg (nI_in (by omega) (by omega)), nI_clamp (by omega), hcell, bs_eq, if_pos (by decide), if_pos (by decide), if_neg (by decide), if_neg (by decide), if_pos rfl, f1, cl_some]
      by_cases hy0 : y = 0
      · rw [if_pos ((lg_cmp_eq _ _).mpr hy0)]
        unfold hgX3_answer_120
        rw [l1, cl_some, if_pos rfl, lit_1, nI_add]
        obtain ⟨u5, o1, o2⟩ := ih (i + s.length + t.length + 1) u4 n2 (fun c hc1 => hc c (List.mem_cons_of_mem _ hc1)) (by rw [fz.N]; exact hz) (by omega) (fun j d hj => by
          rw [fz.I (by unfold SS; omega), show i + s.length + t.length + 1 + j = i + (s.length + (t.length + (1 + j))) by omega]
          apply hd2
          rw [List.getElem?_append_right (by simp), List.length_map, Nat.add_sub_cancel_left, List.getElem?_append_right (by simp), List.length_map, Nat.add_sub_cancel_left, List.getElem?_append_right (by simp)]
          simpa using hj) (fun v hv1 => hv v (fz.tr hv1)) (by omega) l2
        refine ⟨u5, ?_, fz.tr o2⟩
        rw [o1, ansR, hy, show top1 [y] = y from rfl, if_neg (by rw [hy0]; decide)]
      · have hy1 : y = 1 := (hy2 rfl).resolve_left hy0
        rw [if_neg (fun h => hy0 ((lg_cmp_eq _ _).mp h))]
        unfold hgX3_answer_120
        rw [l1, cl_some, if_neg (by decide)]
        refine ⟨u4, ?_, fz⟩
        rw [ansR, hy, show top1 [y] = y from rfl, if_pos hy1, hx]
        rfl
theorem c_answer {a x1 x2 q p : Nat} {R : RT} {u : SG} (hR : rOK R) (hu : CRul u q R) (hq1 : a ≠ q + 1) (hq2 : a + 1 ≠ q + 1) (hv : ∀ u1, Fz (SS a (a + 1) 1) u u1 → ∀ k, k < 13 → hX3_valueOf N (nI k) x1 x2 (nI p) u1 = some (w k, u1)) (hN : 2000 ≤ N) : ∃ u', hX3_answer N a x1 x2 q (nI p) u = some (ansR w R, u') ∧ Fz (SS a (a + 1) 1) u u' := by
  have f0 : Fz (SS a (a + 1) 1) u (sI u a 1 0) := Fz.sI (Or.inl ⟨rfl, rfl⟩)
  obtain ⟨u', e1, e2⟩ := c_answer_l (N := N) (w := w) hu.2.1 hq1 hq2 R 0 (sI u a 1 0) N hR.2 hu.1 (by simp) (fun j d hj => by rw [f0.I (by unfold SS; omega), Nat.zero_add]; exact hu.2.2 j d hj) (fun v hv1 => hv v (f0.tr hv1)) (by have := hu.2.1; omega) ⟨sI_s _ _ _ _, trivial⟩
  exact ⟨u', e1, f0.tr e2⟩
end CEVAL
