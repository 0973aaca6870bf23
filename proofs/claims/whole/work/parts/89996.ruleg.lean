/-! RULE: the reference's clauses -/
def rcL (c : List Nat × Option (List Nat)) : List Nat := c.1 ++ c.2.getD []
def RC (u : SG) (m τ : Nat) (R : RT) (L : List Nat) : Prop := zI u (m + 5) τ = nI R.length ∧ ∀ (i : Nat) (c : List Nat × Option (List Nat)), R[i]? = some c → ∃ q : Nat, q + c.1.length ≤ L.length ∧ zI u (m + 4) (48 * τ + 4 * i) = nI q ∧ zI u (m + 4) (48 * τ + 4 * i + 1) = nI (q + c.1.length) ∧ (∀ (j d : Nat), c.1[j]? = some d → L[q + j]? = some d) ∧ (c.2 = none → zI u (m + 4) (48 * τ + 4 * i + 2) < 0) ∧ ∀ cs, c.2 = some cs → ∃ q2 : Nat, q2 + cs.length ≤ L.length ∧ zI u (m + 4) (48 * τ + 4 * i + 2) = nI q2 ∧ zI u (m + 4) (48 * τ + 4 * i + 3) = nI (q2 + cs.length) ∧ ∀ (j d : Nat), cs[j]? = some d → L[q2 + j]? = some d
theorem RC.z {u v : SG} {m τ : Nat} {R : RT} {L M : List Nat} {P : Nat → Nat → Prop} (h : RC u m τ R L) (f : Fz P u v) (h1 : ¬ P (m + 5) τ) (h2 : ∀ i k, i < R.length → 48 * τ + 4 * i ≤ k → k < 48 * τ + 4 * i + 4 → ¬ P (m + 4) k) : zI v (m + 5) τ = nI R.length ∧ RC v m τ R (L ++ M) := by
  have e5 : zI v (m + 5) τ = nI R.length := by rw [f.I h1]; exact h.1
  refine ⟨e5, e5, fun i c hc => ?_⟩
  have il : i < R.length := (List.getElem?_eq_some_iff.mp hc).1
  have up : ∀ (j d : Nat), L[j]? = some d → (L ++ M)[j]? = some d := fun j d hd => by
    rw [List.getElem?_append_left (List.getElem?_eq_some_iff.mp hd).1]; exact hd
  obtain ⟨q, a1, a2, a3, a4, a5, a6⟩ := h.2 i c hc
  have z : ∀ k, 48 * τ + 4 * i ≤ k → k < 48 * τ + 4 * i + 4 → zI v (m + 4) k = zI u (m + 4) k := fun k k1 k2 => f.I (h2 i k il k1 k2)
  refine ⟨q, by rw [List.length_append]; omega, by rw [z _ (by omega) (by omega)]; exact a2, by rw [z _ (by omega) (by omega)]; exact a3, fun j d hd => up _ _ (a4 j d hd), fun hn => by rw [z _ (by omega) (by omega)]; exact a5 hn, fun cs hcs => ?_⟩
  obtain ⟨q2, b1, b2, b3, b4⟩ := a6 cs hcs
  exact ⟨q2, by rw [List.length_append]; omega, by rw [z _ (by omega) (by omega)]; exact b2, by rw [z _ (by omega) (by omega)]; exact b3, fun j d hd => up _ _ (b4 j d hd)⟩
/-- what reading a rule may change -/
def FC (m τ : Nat) : Nat → Nat → Prop := fun a k => FRs m τ a k ∨ (a = m ∧ (k = 1 ∨ k = 14)) ∨ (a = m + 4 ∧ 48 * τ ≤ k ∧ k < 48 * τ + 48) ∨ (a = m + 5 ∧ k = τ)
theorem at_app {L M N' : List Nat} {q : Nat} (hq : q = L.length) : ∀ (j d : Nat), M[j]? = some d → (L ++ M ++ N')[q + j]? = some d := by
  intro j d hd
  have hj := (List.getElem?_eq_some_iff.mp hd).1
  rw [List.append_assoc, List.getElem?_append_right (by omega), show q + j - L.length = j by omega, List.getElem?_append_left hj]
  exact hd
section RULG
variable {N m T τ : Nat} {u : SG} {t : Nat → Nat}
theorem frs_c {v w : SG} (f : Fz (FRs m τ) v w) : Fz (FC m τ) v w := f.w (fun a k z => Or.inl z)
theorem r_tested (hT : TP t T) (hτ : τ < 6) (hN : 2000 ≤ N) {L : List Nat} {k p : Nat} (h : RSt u m t T τ L k p) (hp : p ≤ T) (hp0 : 1 ≤ p) (hl : L.length ≤ p) (hk : k ≤ 60) : (∀ e, tesS t (facS t 12 0) k p = .error e → ∃ u', hX11_tested N m u = some (0, u') ∧ zI u' m 9 = nI e ∧ Fz (FRs m τ) u u') ∧ ∀ cs p' k', tesS t (facS t 12 0) k p = .ok (cs, p', k') → ∃ u', hX11_tested N m u = some (1, u') ∧ RSt u' m t T τ (L ++ cs) k' p' ∧ Fz (FRs m τ) u u' := by
  have h4 := hT.1
  have pf := facS_ok hT 12 0 (by omega) (by omega)
  have l3 := (r_fact (m := m) (τ := τ) hT hτ hN 12 0 (by omega) (by omega)).lj
  have l2 : LJ N m t T τ 2 0 (lev t (opN t) (facS t 12 0)) := LJ.up hT hτ hN (Or.inl ⟨rfl, rfl, rfl⟩) l3 pf
  have l1 : LJ N m t T τ 1 0 (tesS t (facS t 12 0)) := LJ.up hT hτ hN (Or.inr ⟨rfl, rfl, rfl⟩) l2 (lev_ok hT pf (opN_ok hT))
  have pt := tesS_ok hT pf
  obtain ⟨N', rfl⟩ : ∃ i, N = i + 1 := ⟨N - 1, by omega⟩
  generalize e0 : sI (sI u m 16 0) m 13 0 = u0
  have f0 : Fz (fun a j => (a = m ∧ (j = 13 ∨ j = 16)) ∨ a = m + 7) u u0 := by rw [← e0]; exact (Fz.sI (Or.inl ⟨rfl, Or.inr rfl⟩)).tr (Fz.sI (Or.inl ⟨rfl, Or.inl rfl⟩))
  have r0 : RK u0 m t T τ L k p [] := ⟨h.s f0, by rw [← e0, sI_n (by omega), sI_s]; rfl, trivial, by rw [← e0, sI_s]; rfl⟩
  have f0' : Fz (FRs m τ) u u0 := f0.w (fun a j z => Or.inr z)
  have eT : hX11_tested (N' + 1) m u = Ad (N' + 1) m (N' + 1) N' u0 := by
    unfold hX11_tested
    rw [bs_eq, bs_eq, e0]
    exact tested_A N' u0
  obtain ⟨i1, i2⟩ := l1 u0 L k p [] (N' + 1) N' r0 rfl (fun a ha => by simp at ha) (fun a r z => by cases z) hp (by simpa using hl) hk (by omega) (by omega)
  rw [eT]
  refine ⟨fun e he => ?_, fun cs q k1 he => ?_⟩
  · obtain ⟨w, w1, w2, w3⟩ := i1 e he
    exact ⟨w, w1, w2, f0'.tr w3⟩
  · obtain ⟨u5, f5, n', L', pe, y1, y2, y3, y4, y5, y6, y7, y8⟩ := i2 cs q k1 he
    obtain ⟨z1, z2, z3, z4, z5, z6⟩ := pt.1 k p cs q k1 hp he
    rw [List.append_nil] at y2
    have svp : SV pe := fun a ha => by have := (y3 a ha).1; omega
    have n91 : ¬ 91 ∈ pe := fun z => by have := (y3 91 z).1; omega
    have len : L'.length + pe.length = L.length + cs.length := by
      have := congrArg List.length y4
      simp at this
      omega
    obtain ⟨u6, g1, g2, g3, g4⟩ := r_seeR (N := N' + 1) y2.1 hT hN
    have k6 := y2.2.f8 g4
    obtain ⟨f5, rfl⟩ : ∃ i, f5 = i + 1 := ⟨f5 - 1, by omega⟩
    obtain ⟨n', rfl⟩ : ∃ i, n' = i + 1 := ⟨n' - 1, by omega⟩
    have ec : hgX11_closes_5 (N' + 1) (f5 + 1) m u5 = some ((), u6) := by
      rw [hgX11_closes_5, g1, cl_some, r_inside k6 svp (by omega) hN, cl_some, decide_eq_false n91, if_pos (show nI (b2n false) = 0 from rfl)]
      split <;> rfl
    obtain ⟨u7, x1, x2, x3⟩ := r_noop (N := N' + 1) (n := n' + 1) hT hN ⟨g3, k6⟩ y5
    obtain ⟨u8, v1, v2, v3⟩ := r_settle (N := N' + 1) (b := 1) hT hτ (by omega) pe (N' + 1) u7 L' (by omega) x2 svp (by omega)
    have fp := fl_pe (b := 1) (st := []) (fun a r z => by cases z) pe L' (fun a ha => (y3 a ha).2)
    rw [List.append_nil] at fp
    rw [fp, y4] at v2
    refine ⟨u8, ?_, v2.1, ((f0'.tr y8).tr (f8_ss (g4.tr x3))).tr (fq_s v3)⟩
    rw [y1]
    unfold Cd
    rw [ec, cl_some, x1, hgX11_tested_12, if_pos rfl, r_inside x2.2 svp (by omega) hN, cl_some, decide_eq_false n91, if_pos (show nI (b2n false) = 0 from rfl)]
    unfold hX11_settles
    rw [show (1 : Int32) = nI 1 from rfl, v1, cl_some]
theorem RSt.c4 {v : SG} {L : List Nat} {k p : Nat} (h : RSt u m t T τ L k p) (f : Fz (fun a j => a = m + 4 ∨ (a = m + 5 ∧ j = τ) ∨ (a = m ∧ j = 14)) u v) : RSt v m t T τ L k p := ⟨h.1.z f (by omega) (fun k => by omega) (by omega), by rw [f.I (by omega)]; exact h.2.1, by rw [f.I (by omega)]; exact h.2.2.1, by rw [f.I (by omega)]; exact h.2.2.2.1, by rw [f.I (by omega)]; exact h.2.2.2.2.1, fun j d hd => by rw [f.I (by omega)]; exact h.2.2.2.2.2 j d hd⟩
/-- a clause's end -/
theorem r_110 (hτ : τ < 6) {L : List Nat} {k p i : Nat} (h : RSt u m t T τ L k p) (h5 : zI u (m + 5) τ = nI i) (hi : i < 12) (hl : L.length ≤ 400) : hgX11_isSleepHere_110 N m (nI (48 * τ + 4 * i)) u = some (1, sI (sI u (m + 4) (48 * τ + 4 * i + 3) (nI L.length)) (m + 5) τ (nI (i + 1))) := by
  obtain ⟨h1, h2, h3, h4, h5', h6⟩ := h
  unfold hgX11_isSleepHere_110
  rw [h3, ixI (by omega) (by decide), lit_3, nI_add, ixI (by omega) (by decide), bs_eq, nI_clamp (by omega), nI_clamp (by omega), h5', sI_n (by omega), h3, ixI (by omega) (by decide), if_neg (nI_in (by omega) (by decide)), bs_eq, nI_clamp (by omega), sI_n (by omega), h5, lit_1, nI_add]
theorem r_sleep (hT : TP t T) (hτ : τ < 6) (hN : 2000 ≤ N) {L : List Nat} {R : RT} {k p c : Nat} (h : RSt u m t T τ L k p) (hx : RX u m t T p) (hc : RC u m τ R L) (ew : wrO t p = some 17) (hr : R.length < 12) (hc12 : c < 12) (hp : p ≤ T) (hl : L.length ≤ p) (hk : k ≤ 60) : (∀ e, cluS t c k p = .error e → ∃ u', hX11_isSleepHere N m u = some (0, u') ∧ zI u' m 9 = nI e ∧ Fz (FC m τ) u u') ∧ ∀ cl p' k', cluS t c k p = .ok (cl, p', k') → ∃ u', hX11_isSleepHere N m u = some (1, u') ∧ RSt u' m t T τ (L ++ rcL cl) k' p' ∧ RC u' m τ (R ++ [cl]) (L ++ rcL cl) ∧ Fz (FC m τ) u u' ∧ zI u' m 14 = zI u m 14 := by
  have h4 := hT.1
  have hs : isS (t p) = true := ((wrO_iff (wrO_lt ew)).mp ew).1
  have lt := wr_T hT ew
  obtain ⟨n1, n2⟩ := nx_ok hT lt
  obtain ⟨u1, a1, a2, a3⟩ := r_passW (N := N) hx hT hs hN
  have h1 := h.to8 a3 a2
  have c5 : zI u1 (m + 5) τ = nI R.length := by rw [a3.I (by unfold F8; omega)]; exact hc.1
  generalize eat : 48 * τ + 4 * R.length = at0
  have atl : at0 + 3 < 288 := by omega
  generalize e2 : sI u1 (m + 4) at0 (nI L.length) = u2
  have f2 : Fz (fun a j => a = m + 4 ∧ j = at0) u1 u2 := by rw [← e2]; exact Fz.sI ⟨rfl, rfl⟩
  have h2 := h1.c4 (f2.w (fun a j z => Or.inl z.1))
  have fu2 : Fz (fun a j => F8 m a j ∨ (a = m + 4 ∧ j = at0)) u u2 := (a3.w (fun a j z => Or.inl z)).tr (f2.w (fun a j z => Or.inr z))
  have hsum := r_sum (m := m) (τ := τ) hT hτ hN u2 L k (nx t p) h2 n2 (by omega) hk
  have head : hX11_isSleepHere N m u = cl (hX11_sum N m u2) fun r8 u9 => (if r8 = 0 then (some ((0 : Int32), u9)) else (if (zI u9 m 11) < 0 ∨ 7 ≤ (zI u9 m 11).toNatClampNeg then none else (if (nI at0 + (1 : Int32)) < 0 ∨ 288 ≤ (nI at0 + (1 : Int32)).toNatClampNeg then none else (bs (sI u9 (m + 4) (nI at0 + (1 : Int32)).toNatClampNeg (zI u9 (m + 3) (zI u9 m 11).toNatClampNeg)) fun u12 => (if (nI at0 + (2 : Int32)) < 0 ∨ 288 ≤ (nI at0 + (2 : Int32)).toNatClampNeg then none else (bs (sI u12 (m + 4) (nI at0 + (2 : Int32)).toNatClampNeg (-1 : Int32)) fun u14 => (cl (hX11_takesWord N m (26982 : Int64) u14) fun r15 u16 => (if r15 = 0 then (hgX11_isSleepHere_110 N m (nI at0) u16) else (if (zI u16 m 11) < 0 ∨ 7 ≤ (zI u16 m 11).toNatClampNeg then none else (if (nI at0 + (2 : Int32)) < 0 ∨ 288 ≤ (nI at0 + (2 : Int32)).toNatClampNeg then none else (bs (sI u16 (m + 4) (nI at0 + (2 : Int32)).toNatClampNeg (zI u16 (m + 3) (zI u16 m 11).toNatClampNeg)) fun u19 => (cl (hX11_tested N m u19) fun r20 u21 => (if r20 = 0 then (some ((0 : Int32), u21)) else (hgX11_isSleepHere_110 N m (nI at0) u21)))))))))))))) := by
    unfold hX11_isSleepHere
    rw [a1, cl_some, h1.2.2.1, ixI (by omega) (by decide), nI_clamp (by omega), c5, bs_eq, show (48 : Int32) = nI 48 from rfl, show (4 : Int32) = nI 4 from rfl, pk_mul, pk_mul, nI_add, eat, if_neg (fun z => z.elim (nI_pos (by omega)) (by omega)), ixI (by omega) (by decide), bs_eq, nI_clamp (by omega), h1.2.2.2.2.1, e2]
  unfold cluS
  rw [if_pos ew, if_neg (show ¬ 12 ≤ c by omega), head]
  cases es : sumS t k (nx t p) with
  | error e =>
    rw [es] at hsum
    obtain ⟨w, w1, w2, w3⟩ := hsum
    refine ⟨fun e' h => ?_, fun cl p' k' h => (by cases h)⟩
    cases h
    exact ⟨w, by rw [w1, cl_some, if_pos rfl], w2, (fu2.w (fun a j z => by unfold F8 at z; unfold FC FRs FR; omega)).tr (frs_c (fr_s w3))⟩
  | ok r =>
    obtain ⟨cs, q, k1⟩ := r
    rw [es] at hsum
    obtain ⟨u3, b1, b2, b3⟩ := hsum
    obtain ⟨y1, y2, y3, y4, y5, y6⟩ := (sumS_ok hT).1 k (nx t p) cs q k1 n2 es
    have npq := (b2.1.le hT).2.1
    generalize e4 : sI (sI u3 (m + 4) (at0 + 1) (nI (L ++ cs).length)) (m + 4) (at0 + 2) (-1) = u4
    have f4 : Fz (fun a j => a = m + 4 ∧ (j = at0 + 1 ∨ j = at0 + 2)) u3 u4 := by rw [← e4]; exact (Fz.sI ⟨rfl, Or.inl rfl⟩).tr (Fz.sI ⟨rfl, Or.inr rfl⟩)
    have h4' := b2.c4 (f4.w (fun a j z => Or.inl z.1))
    obtain ⟨u5, c1, c2, c3⟩ := r_isWord (N := N) (j := 18) h4'.1 hT (by decide) hN
    have h5 := h4'.to8 c3 (c2.rp hT npq)
    rw [b1, cl_some, if_neg (by decide), b2.2.2.1, ixI (by omega) (by decide), show nI at0 + (1 : Int32) = nI (at0 + 1) by rw [lit_1, nI_add], show nI at0 + (2 : Int32) = nI (at0 + 2) by rw [lit_2, nI_add], ixI (by omega) (by decide), bs_eq, nI_clamp (n := at0 + 1) (by omega), nI_clamp (n := τ) (by omega), b2.2.2.2.2.1, ixI (by omega) (by decide), bs_eq, nI_clamp (n := at0 + 2) (by omega), e4]
    dsimp only
    -- the cells so far, of u
    have fu4 : Fz (fun a j => FR m τ a j ∨ (a = m + 4 ∧ at0 ≤ j ∧ j < at0 + 3)) u u4 := ((fu2.w (fun a j z => by unfold F8 at z; unfold FR; omega)).tr (b3.w (fun a j z => Or.inl z))).tr (f4.w (fun a j z => by omega))
    have cell0 : zI u4 (m + 4) at0 = nI L.length := by rw [f4.I (by omega), b3.I (by unfold FR; omega), ← e2, sI_s]
    have cell1 : zI u4 (m + 4) (at0 + 1) = nI (L.length + cs.length) := by rw [← e4, sI_n (by omega), sI_s]; simp
    have cell2 : zI u4 (m + 4) (at0 + 2) = -1 := by rw [← e4, sI_s]
    have llen : (L ++ cs).length ≤ q := by simp; omega
    -- the end, where a clause without a test or with one has been read
    have fin : ∀ (v : SG) (M : List Nat) (cl : List Nat × Option (List Nat)) (k' p' : Nat) (P : Nat → Nat → Prop), RSt v m t T τ (L ++ cs ++ M) k' p' → (L ++ cs ++ M).length ≤ 400 → Fz P u4 v → (∀ a j, P a j → FRs m τ a j ∨ (a = m + 4 ∧ j = at0 + 2)) → cl.1 = cs → rcL cl = cs ++ M → (cl.2 = none → zI v (m + 4) (at0 + 2) = -1) → (∀ ds, cl.2 = some ds → ds = M ∧ zI v (m + 4) (at0 + 2) = nI (L ++ cs).length) → ∃ u', hgX11_isSleepHere_110 N m (nI at0) v = some (1, u') ∧ RSt u' m t T τ (L ++ rcL cl) k' p' ∧ RC u' m τ (R ++ [cl]) (L ++ rcL cl) ∧ Fz (FC m τ) u u' ∧ zI u' m 14 = zI u m 14 := by
      intro v M cl k' p' P rv lv fv hP hcl1 hrc hn hd
      have v5 : zI v (m + 5) τ = nI R.length := by
        rw [fv.I (fun z => by have := hP _ _ z; unfold FRs FR at this; omega), fu4.I (by unfold FR; omega)]; exact hc.1
      refine ⟨_, by rw [← eat]; exact r_110 hτ rv v5 hr lv, ?_, ?_, ?_, ?_⟩
      · rw [hrc, ← List.append_assoc]
        exact rv.c4 ((Fz.sI (Or.inl rfl)).tr (Fz.sI (Or.inr (Or.inl ⟨rfl, rfl⟩))))
      · rw [eat]
        have fw : Fz (fun a j => (a = m + 4 ∧ j = at0 + 3) ∨ (a = m + 5 ∧ j = τ)) v (sI (sI v (m + 4) (at0 + 3) (nI (L ++ cs ++ M).length)) (m + 5) τ (nI (R.length + 1))) := (Fz.sI (Or.inl ⟨rfl, rfl⟩)).tr (Fz.sI (Or.inr ⟨rfl, rfl⟩))
        have fall : Fz (fun a j => FRs m τ a j ∨ (a = m + 4 ∧ at0 ≤ j ∧ j < at0 + 4) ∨ (a = m + 5 ∧ j = τ)) u (sI (sI v (m + 4) (at0 + 3) (nI (L ++ cs ++ M).length)) (m + 5) τ (nI (R.length + 1))) := ((fu4.w (fun a j z => by rcases z with z | z; exact Or.inl (Or.inl z); exact Or.inr (Or.inl (by omega)))).tr (fv.w (fun a j z => by rcases hP a j z with y | y; exact Or.inl y; exact Or.inr (Or.inl (by omega))))).tr (fw.w (fun a j z => by omega))
        refine ⟨by rw [sI_s]; simp, fun i c0 hc0 => ?_⟩
        by_cases q0 : i < R.length
        · rw [List.getElem?_append_left q0] at hc0
          have up : ∀ (j d : Nat), L[j]? = some d → (L ++ rcL cl)[j]? = some d := fun j d hd => by
            rw [List.getElem?_append_left (List.getElem?_eq_some_iff.mp hd).1]; exact hd
          obtain ⟨q1, a1, a2, a3, a4, a5, a6⟩ := hc.2 i c0 hc0
          have z : ∀ k, k < at0 → zI (sI (sI v (m + 4) (at0 + 3) (nI (L ++ cs ++ M).length)) (m + 5) τ (nI (R.length + 1))) (m + 4) k = zI u (m + 4) k := fun k k1 => fall.I (by unfold FRs FR; omega)
          refine ⟨q1, by rw [List.length_append]; omega, by rw [z _ (by omega)]; exact a2, by rw [z _ (by omega)]; exact a3, fun j d hd => up _ _ (a4 j d hd), fun hn => by rw [z _ (by omega)]; exact a5 hn, fun cs' hcs => ?_⟩
          obtain ⟨q2, b1, b2, b3, b4⟩ := a6 cs' hcs
          exact ⟨q2, by rw [List.length_append]; omega, by rw [z _ (by omega)]; exact b2, by rw [z _ (by omega)]; exact b3, fun j d hd => up _ _ (b4 j d hd)⟩
        · have il := (List.getElem?_eq_some_iff.mp hc0).1
          rw [List.length_append] at il
          simp at il
          have ei : i = R.length := by omega
          subst ei
          rw [List.getElem?_append_right (Nat.le_refl _), Nat.sub_self] at hc0
          have ecl : cl = c0 := Option.some.inj hc0
          subst ecl
          rw [eat]
          have zz : ∀ k, ¬ k = at0 + 3 → zI (sI (sI v (m + 4) (at0 + 3) (nI (L ++ cs ++ M).length)) (m + 5) τ (nI (R.length + 1))) (m + 4) k = zI v (m + 4) k := fun k hk => fw.I (by omega)
          have zv : ∀ k, k = at0 ∨ k = at0 + 1 → zI v (m + 4) k = zI u4 (m + 4) k := fun k hk => fv.I (fun z => by have := hP _ _ z; unfold FRs FR at this; omega)
          have el : (L ++ rcL cl) = L ++ cs ++ M := by rw [hrc, List.append_assoc]
          refine ⟨L.length, by rw [hcl1, el]; simp, by rw [zz _ (by omega), zv _ (by omega)]; exact cell0, by rw [zz _ (by omega), zv _ (by omega), hcl1]; exact cell1, fun j d hd => ?_, fun hn' => by rw [zz _ (by omega), hn hn']; decide, fun ds hds => ?_⟩
          · rw [hcl1] at hd
            rw [el]
            exact at_app rfl j d hd
          · obtain ⟨d1, d2⟩ := hd ds hds
            subst d1
            refine ⟨(L ++ cs).length, by rw [el]; simp; omega, by rw [zz _ (by omega)]; exact d2, ?_, fun j d hd => ?_⟩
            · rw [sI_n (by omega), sI_s]
              congr 1
              simp
              omega
            · rw [el]
              have := at_app (L := L ++ cs) (M := ds) (N' := []) rfl j d hd
              rw [List.append_nil] at this
              exact this
      · exact ((fu4.w (fun a j z => by unfold FC FRs; rcases z with z | z; exact Or.inl (Or.inl z); omega)).tr (fv.w (fun a j z => by unfold FC; rcases hP a j z with y | y; exact Or.inl y; omega))).tr ((Fz.sI (by unfold FC; omega)).tr (Fz.sI (by unfold FC; omega)))
      · rw [sI_n (by omega), sI_n (by omega), fv.I (fun z => by have := hP _ _ z; unfold FRs FR at this; omega), fu4.I (by unfold FR; omega)]
    unfold hX11_takesWord
    rw [wl_18, c1, cl_some]
    by_cases q18 : wrO t q = some 18
    · rw [q18, some_beq, if_neg (show ¬ nI (b2n (decide (18 = 18))) = 0 by decide), if_pos rfl]
      have hs18 : isS (t q) = true := ((wrO_iff (wrO_lt q18)).mp q18).1
      obtain ⟨m1, m2⟩ := nx_ok hT (wr_T hT q18)
      obtain ⟨u6, d1, d2, d3⟩ := r_passW (N := N) c2 hT hs18 hN
      have h6 := h5.to8 d3 d2
      generalize e7 : sI u6 (m + 4) (at0 + 2) (nI (L ++ cs).length) = u7
      have f7 : Fz (fun a j => a = m + 4 ∧ j = at0 + 2) u6 u7 := by rw [← e7]; exact Fz.sI ⟨rfl, rfl⟩
      have h7 := h6.c4 (f7.w (fun a j z => Or.inl z.1))
      obtain ⟨i1, i2⟩ := r_tested (N := N) hT hτ hN h7 m2 (by omega) (by omega) (y6 hk)
      rw [d1, cl_some, cl_some, if_neg (by decide), h6.2.2.1, ixI (by omega) (by decide), if_neg (fun z => z.elim (nI_pos (by omega)) (by omega)), bs_eq, nI_clamp (n := τ) (by omega), h6.2.2.2.2.1, e7]
      have f47 : Fz (fun a j => FRs m τ a j ∨ (a = m + 4 ∧ j = at0 + 2)) u4 u7 := ((f8_ss (τ := τ) (c3.tr d3)).w (fun a j z => Or.inl z)).tr (f7.w (fun a j z => Or.inr z))
      cases et : tesS t (facS t 12 0) k1 (nx t q) with
      | error e =>
        obtain ⟨w, w1, w2, w3⟩ := i1 e et
        refine ⟨fun e' h => ?_, fun cl p' k' h => (by cases h)⟩
        cases h
        refine ⟨w, by rw [w1, cl_some, if_pos rfl], w2, ?_⟩
        exact ((fu4.w (fun a j z => by unfold FC FRs; rcases z with z | z; exact Or.inl (Or.inl z); omega)).tr (f47.w (fun a j z => by unfold FC; rcases z with y | y; exact Or.inl y; omega))).tr (frs_c w3)
      | ok r2 =>
        obtain ⟨ds, q2, k2⟩ := r2
        obtain ⟨u8, w1, w2, w3⟩ := i2 ds q2 k2 et
        obtain ⟨v1, v2, v3, v4, v5, v6⟩ := (tesS_ok hT (facS_ok hT 12 0 (by omega) (by omega))).1 k1 (nx t q) ds q2 k2 m2 et
        refine ⟨fun e h => (by cases h), fun cl p' k' h => ?_⟩
        cases h
        obtain ⟨w, x1, x2⟩ := fin u8 ds (cs, some ds) k2 q2 (fun a j => FRs m τ a j ∨ (a = m + 4 ∧ j = at0 + 2)) w2 (by simp at llen ⊢; omega) (f47.tr (w3.w (fun a j z => Or.inl z))) (fun a j z => z) rfl rfl (fun z => (by cases z)) (fun ds' z => by cases z; exact ⟨rfl, by rw [w3.I (by unfold FRs FR; omega), ← e7, sI_s]⟩)
        exact ⟨w, by rw [w1, cl_some, if_neg (by decide)]; exact x1, x2⟩
    · rw [show (wrO t q == some 18) = false by simpa using q18, if_pos (show nI (b2n false) = 0 from rfl), if_neg q18, cl_some, if_pos rfl]
      refine ⟨fun e h => (by cases h), fun cl p' k' h => ?_⟩
      cases h
      obtain ⟨w, x1, x2⟩ := fin u5 [] (cs, none) k1 q (fun a j => FRs m τ a j ∨ (a = m + 4 ∧ j = at0 + 2)) (by rw [List.append_nil]; exact h5) (by rw [List.append_nil]; omega) ((f8_ss (τ := τ) c3).w (fun a j z => Or.inl z)) (fun a j z => z) rfl rfl (fun _ => by rw [c3.I (by unfold F8; omega)]; exact cell2) (fun ds' z => (by cases z))
      exact ⟨w, x1, x2⟩
end RULG
