/-! OPERATIONS, 4: acts -/
def keepV (V : List MT) (M : MT) : List MT := (if V.length = 20 then V.drop 1 else V) ++ [M]
def wM (A : AT) (M : MT) (V : List MT) : AT := (aT A, aB A, aR A, (sG (aS A), M, sF (aS A), sn (aS A), sf (aS A), sx (aS A)), V, aI A)
section ACT
variable {N x m c : Nat} {u v : SG} {A : AT} {M : MT} {V : List MT} {P : Nat → Nat → Prop}
theorem keepV_len (V : List MT) (M : MT) (h : V.length ≤ 20) : (keepV V M).length = min 20 (V.length + 1) := by
  unfold keepV
  split
  · next e => simp [e]
  · simp; omega
theorem keepV_mem {V : List MT} {M M' : MT} (h : M' ∈ keepV V M) : M' ∈ V ∨ M' = M := by
  unfold keepV at h
  rw [List.mem_append, List.mem_singleton] at h
  rcases h with h | h
  · left
    split at h
    · exact List.mem_of_mem_drop h
    · exact h
  · exact Or.inr h
theorem csM (iC : InvC u x A) (f : Fz P u v) (hP : ∀ a k, P a k → (x + 25 ≤ a ∧ a ≤ x + 28) ∨ a = x + 35 ∨ (x + 37 ≤ a ∧ a ≤ x + 116) ∨ Cw x a k) (hM : Mom v (x + 25) (sG (aS A)) M) (hV : CAc v x (sG (aS A)) V) : InvC v x (wM A M V) := by
  have z : ∀ a k, ¬ ((x + 25 ≤ a ∧ a ≤ x + 28) ∨ a = x + 35 ∨ (x + 37 ≤ a ∧ a ≤ x + 116) ∨ Cw x a k) → ¬ P a k := fun a k q p => q (hP a k p)
  obtain ⟨s1, s2, s3, s4, s5, s6⟩ := iC.sn
  refine invC (iC.tp.z f (z _ _ (by unfold Cw; omega)) (fun k => z _ _ (by unfold Cw; omega))) (iC.rl.z f (z _ _ (by unfold Cw; omega)) (fun a k q => z _ _ (by unfold Cw; omega))) ⟨s1.z f (fun b k q1 q2 => z _ _ (by unfold Cw; omega)), hM, by rw [f.I (z _ _ (by unfold Cw; omega))]; exact s3, fun j hj => ?_, by rw [f.I (z _ _ (by unfold Cw; omega))]; exact s5, by rw [f.I (z _ _ (by unfold Cw; omega))]; exact s6⟩ hV (iC.im.z f (fun a k q1 q2 => z _ _ (by unfold Cw; omega)))
  rw [f.I (z _ _ (by unfold Cw; omega)), f.I (z _ _ (by unfold Cw; omega)), f.I (z _ _ (by unfold Cw; omega)), f.I (z _ _ (by unfold Cw; omega))]
  exact s4 j hj
theorem rsM (iR : InvR u m A) (f : Fz P u v) (hP : ∀ a k, P a k → (a = m + 10 ∧ k < 45) ∨ a = m + 12 ∨ (a = m ∧ k = 25) ∨ Rw m a k) (g : Gb (sG (aS A))) (hM : RA (zI v (m + 10)) (sG (aS A)) M) (hV : RAc v m (sG (aS A)) V) : InvR v m (wM A M V) := by
  have z : ∀ a k, ¬ ((a = m + 10 ∧ k < 45) ∨ a = m + 12 ∨ (a = m ∧ k = 25) ∨ Rw m a k) → ¬ P a k := fun a k q p => q (hP a k p)
  obtain ⟨⟨r1, r2, r3, r4⟩, r5, r6⟩ := iR.sn
  refine invR (iR.tp.z f (z _ _ (by unfold Rw; omega)) (fun k => z _ _ (by unfold Rw; omega))) (iR.rl.z f (z _ _ (by unfold Rw; omega)) (fun a k q => z _ _ (by unfold Rw; omega))) ⟨⟨hM, r2.z (fun j hj => f.I (z _ _ (by unfold Rw; omega))), by rw [f.I (z _ _ (by unfold Rw; omega))]; exact r3, fun k hk => by rw [f.I (z _ _ (by unfold Rw; omega))]; exact r4 k hk⟩, by rw [f.I (z _ _ (by unfold Rw; omega))]; exact r5, by rw [f.I (z _ _ (by unfold Rw; omega))]; exact r6⟩ hV (iR.im.z f (fun a k q1 q2 => z _ _ (by unfold Rw; omega)))
theorem aokM (hA : Aok c A) (hM : Mb (c + 1) (sG (aS A)) M) (hl : V.length ≤ 20) (hV : ∀ M' ∈ V, Mb (c + 1) (sG (aS A)) M') : Aok (c + 1) (wM A M V) := by
  obtain ⟨h1, h2, h3, h4, ⟨s1, s2, s3, s4, s5, s6⟩, h6, h7, h8⟩ := hA.mono (d := c + 1) (by omega)
  exact ⟨h1, h2, h3, h4, ⟨s1, hM, s3, s4, s5, s6⟩, hl, hV, h8⟩
theorem aokK (hA : Aok c A) (hM : Mb (c + 1) (sG (aS A)) M) : Aok (c + 1) (wM A M (keepV (aV A) (sM (aS A)))) := by
  have hA' := hA.mono (d := c + 1) (by omega)
  refine aokM hA hM (by rw [keepV_len _ _ hA.2.2.2.2.2.1]; omega) (fun M' h => ?_)
  rcases keepV_mem h with h | rfl
  · exact hA'.2.2.2.2.2.2.1 M' h
  · exact hA'.2.2.2.2.1.2.1
/-- the class keeps an act -/
theorem c_keep (iC : InvC u x A) (hA : Aok c A) (hN : 2000 ≤ N) : ∃ u', hX0_keep N (x + 35) (x + 25) u = some ((), u') ∧ CAc u' x (sG (aS A)) (keepV (aV A) (sM (aS A))) ∧ Fz (fun a _ => a = x + 35 ∨ (x + 37 ≤ a ∧ a ≤ x + 116)) u u' := by
  have g := hA.2.2.2.2.1.1
  have hL := hA.2.2.2.2.2.1
  obtain ⟨h8, nx, h9, h10, h11⟩ := iC.ac
  obtain ⟨u1, e1, e2, e3⟩ := c_momCopy (N := N) (a0 := x + 35 + 2 + 4 * nx) (p1 := x + 25) g iC.sn.2.1 (by omega)
  have k1 : zI u1 (x + 35) 1 = nI nx := by rw [e3.I (by unfold SM; omega)]; exact h10
  have k2 : zI u1 (x + 35) 2 = nI (aV A).length := by rw [e3.I (by unfold SM; omega)]; exact h8
  have F : Fz (fun a k => a = x + 35) u1 (sI (sI u1 (x + 35) 1 (nI ((nx + 1) % 20))) (x + 35) 2 (nI (min 20 ((aV A).length + 1)))) := (Fz.sI (S := fun a k => a = x + 35) rfl).tr (Fz.sI rfl)
  refine ⟨sI (sI u1 (x + 35) 1 (nI ((nx + 1) % 20))) (x + 35) 2 (nI (min 20 ((aV A).length + 1))), ?_, ⟨?_, (nx + 1) % 20, Nat.mod_lt _ (by decide), ?_, fun j M' hj => ?_⟩, (e3.w (fun a k q => by unfold SM at q; omega)).tr (F.w (fun a k q => Or.inl q))⟩
  · unfold hX0_keep hgX0_keep_21
    rw [h10, if_neg (nI_pos (by omega)), if_pos (show nI nx < (20 : Int32) from nI_lt (a := nx) (b := 20) h9 (by decide)), ixI h9 (by decide), nI_clamp (by omega), e1, cl_some, if_neg (by decide), bs_eq, k1, lit_1, nI_add, lit_20, pk_rem (by omega) (by decide) (by decide)]
    unfold fJ9_min_7cf53
    rw [sI_n (by omega), k2, nI_add, iflt (by omega) (by decide)]
    by_cases q : (aV A).length + 1 < 20
    · rw [if_pos q, cl_some, bs_eq, Nat.min_eq_right (by omega)]
    · rw [if_neg q, cl_some, bs_eq, Nat.min_eq_left (by omega)]
  · rw [sI_s, keepV_len _ _ hL]
  · rw [sI_n (by omega), sI_s]
  · rw [keepV_len _ _ hL]
    have old : ∀ (i : Nat) (M2 : MT), (aV A)[i]? = some M2 → (nx + 20 - (aV A).length + i) % 20 ≠ nx → Mom (sI (sI u1 (x + 35) 1 (nI ((nx + 1) % 20))) (x + 35) 2 (nI (min 20 ((aV A).length + 1)))) (x + 35 + 2 + 4 * ((nx + 20 - (aV A).length + i) % 20)) (sG (aS A)) M2 := by
      intro i M2 hi hne
      exact ((h11 i M2 hi).z e3 (fun b k q1 q2 => by unfold SM; omega)).z F (fun b k q1 q2 => by omega)
    have new : Mom (sI (sI u1 (x + 35) 1 (nI ((nx + 1) % 20))) (x + 35) 2 (nI (min 20 ((aV A).length + 1)))) (x + 35 + 2 + 4 * nx) (sG (aS A)) (sM (aS A)) := e2.z F (fun b k q1 q2 => by omega)
    unfold keepV at hj
    by_cases q : (aV A).length = 20
    · rw [if_pos q] at hj
      by_cases jl : j < 19
      · rw [List.getElem?_append_left (by simp; omega), List.getElem?_drop] at hj
        have := old (1 + j) M' hj (by omega)
        rw [show ((nx + 1) % 20 + 20 - min 20 ((aV A).length + 1) + j) % 20 = (nx + 20 - (aV A).length + (1 + j)) % 20 by omega]
        exact this
      · rw [List.getElem?_append_right (by simp; omega)] at hj
        have jj : j = 19 := by
          have := (List.getElem?_eq_some_iff.mp hj).1
          simp at this
          omega
        subst jj
        simp [q] at hj
        subst hj
        rw [show ((nx + 1) % 20 + 20 - min 20 ((aV A).length + 1) + 19) % 20 = nx by omega]
        exact new
    · rw [if_neg q] at hj
      by_cases jl : j < (aV A).length
      · rw [List.getElem?_append_left jl] at hj
        have := old j M' hj (by omega)
        rw [show ((nx + 1) % 20 + 20 - min 20 ((aV A).length + 1) + j) % 20 = (nx + 20 - (aV A).length + j) % 20 by omega]
        exact this
      · rw [List.getElem?_append_right (by omega)] at hj
        have jj : j = (aV A).length := by
          have := (List.getElem?_eq_some_iff.mp hj).1
          simp at this
          omega
        subst jj
        simp at hj
        subst hj
        rw [show ((nx + 1) % 20 + 20 - min 20 ((aV A).length + 1) + (aV A).length) % 20 = nx by omega]
        exact new
theorem r_keep52 {V : List MT} (g : Gb (sG (aS A))) (hM : RA (zI u (m + 10)) (sG (aS A)) M) (hL : V.length < 20) (h1 : zI u m 25 = nI V.length) (h2 : ∀ (j : Nat) (M' : MT), V[j]? = some M' → RA (fun k => zI u (m + 12) (45 * j + k)) (sG (aS A)) M') (hN : 2000 ≤ N) : ∃ u', hgX11_keepsAct_52 N N m 0 u = some ((), u') ∧ RAc u' m (sG (aS A)) (V ++ [M]) ∧ Fz (fun a k => a = m + 12 ∨ (a = m ∧ k = 25)) u u' := by
  refine lps (fun f k v => hgX11_keepsAct_52 N f m (nI k) v) 45 (fun k v => (∀ i, i < k → zI v (m + 12) (45 * V.length + i) = zI u (m + 10) i) ∧ Fz (fun a i => a = m + 12 ∧ 45 * V.length ≤ i) u v) (fun r => ∃ u', r = some ((), u') ∧ RAc u' m (sG (aS A)) (V ++ [M]) ∧ Fz (fun a k => a = m + 12 ∨ (a = m ∧ k = 25)) u u') ?_ ?_ N 0 u (by omega) (by omega) ⟨fun i hi => by omega, Fz.rf⟩
  · intro f v ⟨i1, i2⟩
    have k25 : zI v m 25 = nI V.length := by rw [i2.I (by omega)]; exact h1
    refine ⟨sI v m 25 (nI (V.length + 1)), by rw [hgX11_keepsAct_52, lit_45, if_pos (nI_le (by omega) (by omega)), bs_eq, k25, lit_1, nI_add], ⟨by rw [sI_s]; simp, fun j M' hj => ?_⟩, (i2.w (fun a k q => by omega)).tr (Fz.sI (by omega))⟩
    by_cases jl : j < V.length
    · rw [List.getElem?_append_left jl] at hj
      exact (h2 j M' hj).cg (fun k hk => by rw [sI_n (by omega), i2.I (by omega)]) g
    · rw [List.getElem?_append_right (by omega)] at hj
      have jj : j = V.length := by
        have := (List.getElem?_eq_some_iff.mp hj).1
        simp at this
        omega
      subst jj
      simp at hj
      subst hj
      exact hM.cg (fun k hk => by rw [sI_n (by omega), i1 k hk]) g
  · intro f k v hk ⟨i1, i2⟩
    have k25 : zI v m 25 = nI V.length := by rw [i2.I (by omega)]; exact h1
    rw [hgX11_keepsAct_52, lit_45, if_neg (nI_ge hk (by omega)), k25, pk_mul, nI_add, ixI (by omega) (by decide), ixI (by omega) (by decide), nI_clamp (by omega), nI_clamp (by omega), bs_eq, lit_1, nI_add]
    refine ⟨_, ⟨fun i hi => ?_, i2.tr (Fz.sI (by omega))⟩, rfl⟩
    by_cases e : i = k
    · subst e; rw [sI_s, i2.I (by omega)]
    · rw [sI_n (by omega)]; exact i1 i (by omega)
theorem r_keepsAct (iR : InvR u m A) (hA : Aok c A) (hN : 2000 ≤ N) : ∃ u', hX11_keepsAct N m u = some ((), u') ∧ RAc u' m (sG (aS A)) (keepV (aV A) (sM (aS A))) ∧ Fz (fun a k => a = m + 12 ∨ (a = m ∧ k = 25)) u u' := by
  have g := hA.2.2.2.2.1.1
  have hL := hA.2.2.2.2.2.1
  obtain ⟨h1, h2⟩ := iR.ac
  unfold hX11_keepsAct keepV
  rw [h1, lit_20, ifeq (by omega) (by decide)]
  by_cases q : (aV A).length = 20
  · rw [if_pos q, if_pos q]
    refine lps (fun f k v => hgX11_keepsAct_12 N f m (nI (45 + k)) v) 855 (fun k v => (∀ i, i < k → zI v (m + 12) i = zI u (m + 12) (i + 45)) ∧ Fz (fun a i => a = m + 12 ∧ i < k) u v) (fun r => ∃ u', r = some ((), u') ∧ RAc u' m (sG (aS A)) ((aV A).drop 1 ++ [sM (aS A)]) ∧ Fz (fun a k => a = m + 12 ∨ (a = m ∧ k = 25)) u u') ?_ ?_ N 0 u (by omega) (by omega) ⟨fun i hi => by omega, Fz.rf⟩
    · intro f v ⟨i1, i2⟩
      have k25 : zI v m 25 = nI 20 := by rw [i2.I (by omega), h1, q]
      rw [hgX11_keepsAct_12, lit_900, if_pos (nI_le (by omega) (by omega)), bs_eq, k25, lit_1, pk_sub (by decide)]
      have z : Fz (fun a k => a = m ∧ k = 25) v (sI v m 25 (nI (20 - 1))) := Fz.sI ⟨rfl, rfl⟩
      have e10 : zI (sI v m 25 (nI (20 - 1))) (m + 10) = zI u (m + 10) := funext fun k => by rw [z.I (by omega), i2.I (by omega)]
      obtain ⟨u', a1, a2, a3⟩ := r_keep52 (N := N) (u := sI v m 25 (nI (20 - 1))) (V := (aV A).drop 1) (M := sM (aS A)) g (by rw [e10]; exact iR.sn.1.1) (by simp; omega) (by rw [sI_s]; simp [q]) (fun j M' hj => by
        rw [List.getElem?_drop] at hj
        have jl := (List.getElem?_eq_some_iff.mp hj).1
        refine (h2 (1 + j) M' hj).cg (fun k hk => ?_) g
        rw [sI_n (by omega), i1 _ (by omega), show 45 * j + k + 45 = 45 * (1 + j) + k by omega]) hN
      exact ⟨u', a1, a2, ((i2.w (fun a k q => by omega)).tr (z.w (fun a k q => by omega))).tr a3⟩
    · intro f k v hk ⟨i1, i2⟩
      rw [hgX11_keepsAct_12, lit_900, if_neg (nI_ge (by omega) (by omega)), ixI (by omega) (by decide), lit_45, pk_sub (by omega), show 45 + k - 45 = k by omega, ixI (by omega) (by decide), nI_clamp (by omega), nI_clamp (by omega), bs_eq, lit_1, nI_add]
      refine ⟨_, ⟨fun i hi => ?_, (i2.w (fun a j q => by omega)).tr (Fz.sI (by omega))⟩, rfl⟩
      by_cases e : i = k
      · subst e; rw [sI_s, i2.I (by omega), show 45 + i = i + 45 by omega]
      · rw [sI_n (by omega)]; exact i1 i (by omega)
  · rw [if_neg q, if_neg q]
    exact r_keep52 (N := N) g iR.sn.1.1 (by omega) h1 h2 hN
end ACT
section OPS4
variable {N : Nat}
theorem op_hour (hN : 2000 ≤ N) : OpOK (fun x u => fX10_hour N x u) (fun m u => fX11_hour N m u) := by
  refine op_of (fun x u h => eX10_hour N x u h) (fun m u h => eX11_hour N m u h) (fun c x A hc hA => ?_)
  obtain ⟨g, hb, -⟩ := hA.2.2.2.2.1
  have hn := hb.2.1
  rcases Nat.eq_zero_or_pos (sG (aS A) 0) with h0 | h0
  · refine ⟨-1, A, hA.mono (by omega), fun u hl k1 iC => ⟨u, ?_, iC, Fz.rf⟩, fun m u iR => ⟨u, ?_, iR, Fz.rf⟩⟩
    · unfold hX10_hour; rw [c_isTold iC.sn.1 g, cl_some, if_pos (told0 h0)]
    · unfold hX11_hour; rw [r_isStreet iR.sn.1.1 g, cl_some, if_pos (told0 h0)]
  · refine ⟨nI (manyM (sG (aS A)) (ruM (sG (aS A)) (oR A) (wakeM (sG (aS A)) (sM (aS A))))), _, aokK hA (hb.hr g h0 (oR A)), fun u hl k1 iC => ?_, fun m u iR => ?_⟩
    · obtain ⟨u1, a1, a2, a3⟩ := c_keep (N := N) iC hA hN
      have iC1 : InvC u1 x (wM A (sM (aS A)) (keepV (aV A) (sM (aS A)))) := csM iC a3 (fun a k q => by omega) (iC.sn.2.1.z a3 (fun b k q1 q2 => by omega)) a2
      have hA1 : Aok (c + 1) (wM A (sM (aS A)) (keepV (aV A) (sM (aS A)))) := aokK hA (hb.mono (by omega))
      obtain ⟨o', b1, b2⟩ := c_ruleNow (N := N) iC1 hA1
      obtain ⟨u2, d1, d2, -, -, d3⟩ := c_play (N := N) (a := x + 117) (s := x + 18) (mo := x + 25) (b := x + 212) iC1.sn.1 iC1.sn.2.1 g hb (by omega) h0 (by omega) (by omega) (Or.inl (by omega)) b2 (by omega) (by omega) hN
      refine ⟨u2, ?_, csM (P := fun a k => (a = x + 35 ∨ (x + 37 ≤ a ∧ a ≤ x + 116)) ∨ SC (x + 117) (x + 25) a k) iC ((a3.w (fun a k q => Or.inl q)).tr (d3.w (fun a k q => Or.inr q))) (fun a k q => by unfold SC at q; unfold Cw; omega) d2 (a2.z d3 (fun k => by unfold SC; omega) (fun a k q1 q2 => by unfold SC; omega)), (a3.w (fun a k q => by unfold Sc; omega)).tr (d3.w (fun a k q => by unfold SC at q; unfold Sc; omega))⟩
      unfold hX10_hour hX2_isLast
      rw [c_isTold iC.sn.1 g, cl_some, if_neg (told1 h0), show zI u (x + 25) 1 = nI (mN (sM (aS A))) from iC.sn.2.1.2.1, if_pos (show nI (mN (sM (aS A))) < (999 : Int32) from nI_lt (b := 999) (by omega) (by decide)), cl_some, if_pos rfl, a1, cl_some, b1, cl_some, d1, cl_some]
      rfl
    · obtain ⟨u1, a1, a2, a3⟩ := r_keepsAct (N := N) iR hA hN
      have e10 : zI u1 (m + 10) = zI u (m + 10) := funext fun k => a3.I (by omega)
      obtain ⟨u2, d1, d2, d3, -⟩ := r_passes (N := N) (u := u1) (m := m) (W := fun p => (zI u1 (m + 11) p).toBitVec.toNat) (by rw [e10]; exact iR.sn.1.1) (by rw [e10]; exact iR.sn.1.2.1) g hb (by omega) ((r_fo iR hA).zz a3 (fun a k q => by omega) (by omega)) (fun p hp => by
        show _ = nI _
        apply Int32.toBitVec_inj.mp
        rw [nI_bv]
        simp) hN
      refine ⟨u2, ?_, rsM (P := fun a k => (a = m + 12 ∨ (a = m ∧ k = 25)) ∨ SP m a k) iR ((a3.w (fun a k q => Or.inl q)).tr (d3.w (fun a k q => Or.inr q))) (fun a k q => by unfold SP at q; unfold Rw; omega) g d2 (a2.z d3 (by unfold SP; omega) (fun k => by unfold SP; omega)), (a3.w (fun a k q => by unfold Sr; omega)).tr (d3.w SP_sr)⟩
      unfold hX11_hour hgX11_hour_39
      rw [r_isStreet iR.sn.1.1 g, cl_some, if_neg (told1 h0), iR.sn.1.1.2.2.1, lit_999, if_neg (by rw [nI_eq (by omega) (by decide)]; omega), a1, cl_some, d1, cl_some]
end OPS4
