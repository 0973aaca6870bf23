/-! RULES RECKONED: reference and class -/
def wdV (G : Nat → Nat) (M : MT) (p : Nat) (k : Nat) : Int64 := lN (if k = 0 then p else if k = 1 then mH M else if k = 2 then mN M else if k = 3 then G (10 + 6 * p) else if k = 4 then G (10 + 6 * p + 1) else if k = 5 then mS M p else if k = 6 then G 0 - mH M else if k = 7 then coI G M (mH M) else if k = 8 then pc (dif (slS G M) (2 ^ p)) else if k = 9 then b2n (mA M p) else if k = 10 then mO M p / 60 else if k = 11 then mD M p else owC G M p)
def isBin (c : Nat) : Prop := c = 2 ∨ c = 3 ∨ c = 4 ∨ c = 5 ∨ c = 14 ∨ (6 ≤ c ∧ c ≤ 10) ∨ c = 12 ∨ c = 13
theorem tyS_c2 {c : Nat} {ts ts' : List Bool} (h : tyS c ts = some ts') : (c % 16 = 0 ∧ c / 16 ≤ 99999) ∨ (c % 16 = 1 ∧ c / 16 ≤ 12) ∨ (c = 11 ∧ ∃ b t, ts = b :: t) ∨ (isBin c ∧ ∃ b d t, ts = b :: d :: t) := by
  unfold isBin
  rcases tyS_cases h with ⟨h0, h1, -⟩ | ⟨h0, h1, -⟩ | ⟨h0, t, rfl, -⟩ | ⟨h0, t, rfl, -⟩ | ⟨h0, t, rfl, -⟩ | ⟨h0, t, rfl, -⟩
  · exact Or.inl ⟨h0, h1⟩
  · exact Or.inr (Or.inl ⟨h0, h1⟩)
  · exact Or.inr (Or.inr (Or.inl ⟨h0, _, _, rfl⟩))
  · exact Or.inr (Or.inr (Or.inr ⟨by omega, _, _, _, rfl⟩))
  · exact Or.inr (Or.inr (Or.inr ⟨by omega, _, _, _, rfl⟩))
  · exact Or.inr (Or.inr (Or.inr ⟨by omega, _, _, _, rfl⟩))
theorem stp_bin {w : Nat → Int64} {c : Nat} (h : isBin c) (x y : Int64) (t : List Int64) : stp w c (y :: x :: t) = opS c x y :: t := by
  unfold isBin at h
  have h2 : c % 16 = c := by omega
  unfold stp
  rw [h2, if_neg (by omega), if_neg (by omega), if_neg (by omega)]
section REVAL
variable {N m : Nat} {w : Nat → Int64} {b : Bool}
theorem r_reckons_l {t : Nat} (ht : t < 6) : ∀ (cs : List Nat) (i : Nat) (st : List Int64) (ts : List Bool) (u : SG) (n : Nat), (∀ (j c : Nat), cs[j]? = some c → zI u (m + 2) (400 * t + (i + j)) = nI c) → (∀ k, k < 13 → zL u (m + 9) k = w k) → tyR cs ts = some [b] → tst ts st → st.length + vls cs ≤ 64 → i + cs.length ≤ 400 → cs.length < n → StkG u m (m + 8) 18 st → ∃ u', hgX11_reckons_8 N n m (nI t) (nI (i + cs.length)) (nI i) u = some (top1 (run w cs st), u') ∧ Fz (SS m (m + 8) 18) u u' := by
  intro cs
  induction cs with
  | nil =>
    intro i st ts u n hs hw hty hst hl hi hn hS
    obtain ⟨n, rfl⟩ : ∃ j, n = j + 1 := ⟨n - 1, by simp at hn; omega⟩
    cases hty
    match st, hst, hS with
    | [x], hst, hS =>
      obtain ⟨u', e1, -, e3⟩ := r_pop (N := N) hS (by simp)
      refine ⟨u', ?_, e3⟩
      rw [hgX11_reckons_8, if_pos (nI_le (by simp) (by simp at hi ⊢; omega)), e1, cl_some]
      rfl
    | [], hst, _ => exact absurd hst (by simp [tst])
    | x :: y :: t, hst, _ => exact absurd hst.2 (by simp [tst])
  | cons c cs ih =>
    intro i st ts u n hs hw hty hst hl hi hn hS
    obtain ⟨n, rfl⟩ : ∃ j, n = j + 1 := ⟨n - 1, by simp at hn; omega⟩
    obtain ⟨t1, h1, h2⟩ := tyR_cons hty
    have hc0 : zI u (m + 2) (400 * t + i) = nI c := hs 0 c rfl
    obtain ⟨k1, -, k3⟩ := stp_ty (w := w) h1 hst
    have hcb : c < 2 ^ 31 := by
      have := tyS_c2 h1
      unfold isBin at this
      omega
    have hsl := tst_len hst
    rw [List.length_cons] at hi hn ⊢
    rw [vls] at hl
    have go : ∀ u1, StkG u1 m (m + 8) 18 (stp w c st) → Fz (SS m (m + 8) 18) u u1 → ∃ u', hgX11_reckons_8 N n m (nI t) (nI (i + (cs.length + 1))) (nI (i + 1)) u1 = some (top1 (run w (c :: cs) st), u') ∧ Fz (SS m (m + 8) 18) u u' := by
      intro u1 q1 q2
      obtain ⟨u', e1, e2⟩ := ih (i + 1) (stp w c st) t1 u1 n (fun j d hj => by rw [q2.I (by unfold SS; omega)]; rw [show i + 1 + j = i + (j + 1) by omega]; exact hs (j + 1) d hj) (fun k hk => by rw [q2.L (by unfold SS; omega)]; exact hw k hk) h2 k1 (by omega) (by omega) (by omega) q1
      refine ⟨u', ?_, q2.tr e2⟩
      rw [show i + (cs.length + 1) = i + 1 + cs.length by omega, e1]
      rfl
    rw [hgX11_reckons_8, if_neg (nI_ge (by omega) (by omega))]
    simp only [lit_400, pk_mul, nI_add]
    rw [ixI (by omega) (by decide), bs_eq, ixI (by omega) (by decide), bs_eq, nI_clamp (by omega), hc0, pk_andN (m := 15) (by omega) 4 (by decide), pk_shrN hcb _ 4 (by decide)]
    simp only [Nat.reducePow]
    rw [lit_0]
    rw [ifeq (by omega) (by omega)]
    by_cases z0 : c % 16 = 0
    · rw [if_pos z0, nI_l (by omega)]
      obtain ⟨u1, e1, q1, q2⟩ := r_push (N := N) (x := lN (c / 16)) hS (by rw [if_pos (by omega)] at hl; omega)
      rw [e1, cl_some, lit_1, nI_add]
      exact go u1 (by rw [show stp w c st = lN (c / 16) :: st from by unfold stp; rw [if_pos z0]]; exact q1) q2
    rw [if_neg z0, lit_1, ifeq (by omega) (by omega)]
    by_cases z1 : c % 16 = 1
    · have h13 : c / 16 < 13 := by
        have := tyS_c2 h1
        unfold isBin at this
        omega
      rw [if_pos z1, ← lit_0, ixI h13 (by decide), nI_clamp (by omega), hw _ h13]
      obtain ⟨u1, e1, q1, q2⟩ := r_push (N := N) (x := w (c / 16)) hS (by rw [if_pos (by omega)] at hl; omega)
      rw [e1, cl_some, nI_add]
      exact go u1 (by rw [show stp w c st = w (c / 16) :: st from by unfold stp; rw [if_neg z0, if_pos z1]]; exact q1) q2
    rw [if_neg z1, lit_11, ifeq (by omega) (by omega)]
    rcases tyS_c2 h1 with ⟨y0, -⟩ | ⟨y0, -⟩ | ⟨rfl, b1, t2, rfl⟩ | ⟨y0, b1, b2, t2, rfl⟩
    · exact absurd y0 z0
    · exact absurd y0 z1
    · match st, hst, hS, hl, hsl with
      | x :: st, hst, hS, hl, hsl =>
        rw [if_pos rfl]
        simp only [List.length_cons] at hl
        obtain ⟨u1, e1, q1, q2⟩ := r_pop (N := N) hS (by omega)
        obtain ⟨u2, e2, q3, q4⟩ := r_push (N := N) (x := 1 - x) q1 (by omega)
        rw [e1, cl_some, e2, cl_some, nI_add]
        exact go u2 q3 (q2.tr q4)
      | [], hst, _, _, hsl => exact absurd hst (by simp [tst])
    · have hne : ¬ c % 16 = 11 := by unfold isBin at y0; omega
      have hc16 : c % 16 = c := by unfold isBin at y0; omega
      match st, hst, hS, hl, hsl with
      | y :: x :: st, hst, hS, hl, hsl =>
        rw [if_neg hne, hc16]
        simp only [List.length_cons] at hl
        obtain ⟨u1, e1, q1, q2⟩ := r_pop (N := N) hS (by simp; omega)
        obtain ⟨u2, e2, q3, q4⟩ := r_pop (N := N) q1 (by omega)
        obtain ⟨u3, e3, q5, q6⟩ := r_push (N := N) (x := opS c x y) q3 (by omega)
        rw [e1, cl_some, e2, cl_some, r_one y0, cl_some, e3, cl_some, nI_add]
        exact go u3 (by rw [stp_bin y0]; exact q5) ((q2.tr q4).tr q6)
      | [], hst, _, _, hsl => exact absurd hst (by simp [tst])
      | [x], hst, _, _, hsl => exact absurd hst.2 (by simp [tst])
theorem r_reckons {t : Nat} (ht : t < 6) {cs : List Nat} {i : Nat} {u : SG} (hs : ∀ (j c : Nat), cs[j]? = some c → zI u (m + 2) (400 * t + (i + j)) = nI c) (hw : ∀ k, k < 13 → zL u (m + 9) k = w k) (hty : tyR cs [] = some [b]) (hl : vls cs ≤ 60) (hi : i + cs.length ≤ 400) (hN : 2000 ≤ N) : ∃ u', hX11_reckons N m (nI t) (nI i) (nI (i + cs.length)) u = some (top1 (run w cs []), u') ∧ Fz (SS m (m + 8) 18) u u' := by
  have f0 : Fz (SS m (m + 8) 18) u (sI u m 18 0) := Fz.sI (Or.inl ⟨rfl, rfl⟩)
  obtain ⟨u', e1, e2⟩ := r_reckons_l (N := N) (w := w) ht cs i [] [] (sI u m 18 0) N (fun j c hj => by rw [f0.I (by unfold SS; omega)]; exact hs j c hj) (fun k hk => by rw [f0.L (by unfold SS; omega)]; exact hw k hk) hty trivial (by simp; omega) hi (by omega) ⟨sI_s _ _ _ _, trivial⟩
  exact ⟨u', e1, f0.tr e2⟩
/-- a rule in the reference -/
def RRul (u : SG) (m t : Nat) (R : RT) : Prop := zI u (m + 5) t = nI R.length ∧ ∀ (i : Nat) (c : List Nat × Option (List Nat)), R[i]? = some c → ∃ p : Nat, p + c.1.length ≤ 400 ∧ zI u (m + 4) (48 * t + 4 * i) = nI p ∧ zI u (m + 4) (48 * t + 4 * i + 1) = nI (p + c.1.length) ∧ (∀ (j d : Nat), c.1[j]? = some d → zI u (m + 2) (400 * t + (p + j)) = nI d) ∧ (c.2 = none → zI u (m + 4) (48 * t + 4 * i + 2) < 0) ∧ ∀ cs, c.2 = some cs → ∃ q : Nat, q + cs.length ≤ 400 ∧ zI u (m + 4) (48 * t + 4 * i + 2) = nI q ∧ zI u (m + 4) (48 * t + 4 * i + 3) = nI (q + cs.length) ∧ ∀ (j d : Nat), cs[j]? = some d → zI u (m + 2) (400 * t + (q + j)) = nI d
theorem RRul.z {u v : SG} {t : Nat} {R : RT} (h : RRul u m t R) (f : Fz (fun a k => a ≠ m + 2 ∧ a ≠ m + 4 ∧ a ≠ m + 5) u v) : RRul v m t R := by
  refine ⟨by rw [f.I (by omega)]; exact h.1, fun i c hc => ?_⟩
  obtain ⟨p, h1, h2, h3, h4, h5, h6⟩ := h.2 i c hc
  refine ⟨p, h1, by rw [f.I (by omega)]; exact h2, by rw [f.I (by omega)]; exact h3, fun j d hd => by rw [f.I (by omega)]; exact h4 j d hd, fun hn => by rw [f.I (by omega)]; exact h5 hn, fun cs hcs => ?_⟩
  obtain ⟨q, g1, g2, g3, g4⟩ := h6 cs hcs
  exact ⟨q, g1, by rw [f.I (by omega)]; exact g2, by rw [f.I (by omega)]; exact g3, fun j d hd => by rw [f.I (by omega)]; exact g4 j d hd⟩
theorem r_summed_l {t : Nat} (ht : t < 6) {R : RT} (hR : rOK R) (hN : 2000 ≤ N) : ∀ (r : RT) (i : Nat) (u : SG) (n : Nat), R = R.take i ++ r → i + r.length = R.length → RRul u m t R → (∀ k, k < 13 → zL u (m + 9) k = w k) → r.length < n → ∃ u', hgX11_summedBy_2 N n m (nI t) (nI i) u = some (ansR w r, u') ∧ Fz (SS m (m + 8) 18) u u' := by
  intro r
  induction r with
  | nil =>
    intro i u n hr hl hu hw hn
    obtain ⟨n, rfl⟩ : ∃ j, n = j + 1 := ⟨n - 1, by simp at hn; omega⟩
    have := hR.1
    simp at hl
    refine ⟨u, ?_, Fz.rf⟩
    rw [hgX11_summedBy_2, ixI ht (by decide), nI_clamp (by omega), hu.1, if_pos (nI_le (by omega) (by omega))]
    rfl
  | cons c r ih =>
    intro i u n hr hl hu hw hn
    obtain ⟨n, rfl⟩ : ∃ j, n = j + 1 := ⟨n - 1, by simp at hn; omega⟩
    have h12 := hR.1
    rw [List.length_cons] at hl hn
    have hget : R[i]? = some c := by
      rw [hr, List.getElem?_append_right (by rw [List.length_take]; omega), List.length_take]
      rw [show i - min i R.length = 0 by omega]
      rfl
    have hcok := hR.2 c (List.mem_of_getElem? hget)
    obtain ⟨p, g1, g2, g3, g4, g5, g6⟩ := hu.2 i c hget
    have hrs : ∃ u', hgX11_summedBy_58 N m (nI t) (nI (48 * t + 4 * i)) u = some (top1 (run w c.1 []), u') ∧ Fz (SS m (m + 8) 18) u u' := by
      obtain ⟨u', e1, e2⟩ := r_reckons (N := N) (w := w) ht g4 hw hcok.1 hcok.2.1 g1 hN
      refine ⟨u', ?_, e2⟩
      unfold hgX11_summedBy_58
      simp only [lit_1, nI_add]
      rw [ixI (by omega) (by decide), ixI (by omega) (by decide), nI_clamp (by omega), nI_clamp (by omega), g2, g3, e1, cl_some]
    have hstep : hgX11_summedBy_2 N (n + 1) m (nI t) (nI i) u = (if zI u (m + 4) (48 * t + 4 * i + 2) < 0 then hgX11_summedBy_58 N m (nI t) (nI (48 * t + 4 * i)) u else cl (hX11_reckons N m (nI t) (zI u (m + 4) (48 * t + 4 * i + 2)) (zI u (m + 4) (48 * t + 4 * i + 3)) u) fun r6 u7 => (if lg_cmp r6 1 = 0 then hgX11_summedBy_58 N m (nI t) (nI (48 * t + 4 * i)) u7 else hgX11_summedBy_2 N n m (nI t) (nI (i + 1)) u7)) := by
      rw [hgX11_summedBy_2, ixI ht (by decide), nI_clamp (by omega), hu.1, if_neg (nI_ge (by omega) (by omega)), bs_eq]
      simp only [lit_48, lit_4, lit_2, lit_3, lit_1, pk_mul, nI_add]
      rw [ixI (by omega) (by decide), ixI (by omega) (by decide), ixI (by omega) (by decide), nI_clamp (by omega), nI_clamp (by omega)]
    rw [hstep]
    match c, hget, hcok, g1, g2, g3, g4, g5, g6, hrs with
    | (s, none), hget, hcok, g1, g2, g3, g4, g5, g6, hrs =>
      rw [if_pos (g5 rfl)]
      exact hrs
    | (s, some cs), hget, hcok, g1, g2, g3, g4, g5, g6, hrs =>
      obtain ⟨q, f1, f2, f3, f4⟩ := g6 cs rfl
      obtain ⟨tt, tv⟩ := hcok.2.2 cs rfl
      rw [f2, f3, if_neg (nI_pos (by omega))]
      obtain ⟨u1, e1, e2⟩ := r_reckons (N := N) (w := w) ht f4 hw tt (by omega) f1 hN
      rw [e1, cl_some]
      have hu1 : RRul u1 m t R := hu.z (e2.w (fun a k h => by unfold SS at h; omega))
      have hw1 : ∀ k, k < 13 → zL u1 (m + 9) k = w k := fun k hk => by rw [e2.L (by unfold SS; omega)]; exact hw k hk
      by_cases h1 : top1 (run w cs []) = 1
      · rw [if_pos ((lg_cmp_eq _ _).mpr h1)]
        obtain ⟨p', g1', g2', g3', g4', -, -⟩ := hu1.2 i _ hget
        obtain ⟨u2, e3, e4⟩ := r_reckons (N := N) (w := w) ht g4' hw1 hcok.1 hcok.2.1 g1' hN
        refine ⟨u2, ?_, e2.tr e4⟩
        unfold hgX11_summedBy_58
        simp only [lit_1, nI_add]
        rw [ixI (by omega) (by decide), ixI (by omega) (by decide), nI_clamp (by omega), nI_clamp (by omega), g2', g3', e3, cl_some, ansR, if_pos h1]
      · rw [if_neg (fun h => h1 ((lg_cmp_eq _ _).mp h))]
        obtain ⟨u2, e3, e4⟩ := ih (i + 1) u1 n (by
          rw [List.take_add_one, hget]
          simp only [Option.toList_some, List.append_assoc, List.singleton_append]
          exact hr) (by omega) hu1 hw1 (by omega)
        refine ⟨u2, ?_, e2.tr e4⟩
        rw [e3, ansR, if_neg h1]
theorem r_summedBy {t : Nat} (ht : t < 6) {R : RT} (hR : rOK R) {u : SG} (hu : RRul u m t R) (hw : ∀ k, k < 13 → zL u (m + 9) k = w k) (hN : 2000 ≤ N) : ∃ u', hX11_summedBy N m (nI t) u = some (ansR w R, u') ∧ Fz (SS m (m + 8) 18) u u' :=
  r_summed_l ht hR hN R 0 u N (by simp) (by simp) hu hw (by have := hR.1; omega)
end REVAL
