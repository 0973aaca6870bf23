/-! OPERATIONS, 5: sleep, light, undo, image, back -/
theorem snocM : ∀ V : List MT, V = [] ∨ ∃ V0 M, V = V0 ++ [M] := by
  intro V
  induction V with
  | nil => exact Or.inl rfl
  | cons a V ih =>
    rcases ih with rfl | ⟨V0, M, rfl⟩
    · exact Or.inr ⟨[], a, rfl⟩
    · exact Or.inr ⟨a :: V0, M, rfl⟩
theorem slS_xor {G : Nat → Nat} {M : MT} {p : Nat} (hp : p < G 1) {b : Bool} (h : mA M p = !b) : slS G M ^^^ 2 ^ p = slS G (setA M p b) := by
  apply eq_bset
  intro i
  have e : mA (setA M p b) i = if i = p then b else mA M i := rfl
  rw [e, Nat.testBit_xor, Nat.testBit_two_pow]
  unfold slS
  rw [bset_tb]
  by_cases q : i = p
  · subst q
    rw [h]
    cases b <;> simp [hp]
  · rw [if_neg q]
    have : decide (p = i) = false := by simp; omega
    rw [this, Bool.xor_false]
theorem fm_all : ∀ nx, nx < 20 → (fJ9_floorMod_7cf53 0 (nI nx - 1) 20 ((0, fun _ => 0, fun _ => 0, fun _ _ => 0, fun _ _ => 0, fun _ _ => none) : SG)).map (fun o => o.1) = some (nI ((nx + 19) % 20)) := by decide +kernel
theorem x_floorMod {N nx : Nat} {u : SG} (h : nx < 20) : fJ9_floorMod_7cf53 N (nI nx - 1) 20 u = some (nI ((nx + 19) % 20), u) := by
  have e := fm_all nx h
  unfold fJ9_floorMod_7cf53 bs at e ⊢
  rw [if_neg (by decide)] at e ⊢
  dsimp only at e ⊢
  split at e
  · next q => rw [if_pos q]; simp at e; rw [e]
  · next q =>
    rw [if_neg q]
    split at e
    · next q2 => rw [if_pos q2]; simp at e; rw [e]
    · next q2 => rw [if_neg q2]; simp at e; rw [e]
section OPS5
variable {N : Nat}
theorem op_sleep (p1 : Int32) (b : Bool) (hN : 2000 ≤ N) : OpOK (fun x u => fX10_sleep N x p1 (nI (b2n b)) u) (fun m u => fX11_sleep N m p1 (nI (b2n b)) u) := by
  refine op_of (fun x u h => eX10_sleep N x p1 (nI (b2n b)) u h) (fun m u h => eX11_sleep N m p1 (nI (b2n b)) u h) (fun c x A hc hA => ?_)
  obtain ⟨g, hb, -⟩ := hA.2.2.2.2.1
  have g1 := g.2.1
  have h9 := hb.h9 g
  have s5 := p5 g1 (slS_lt (sG (aS A)) (sM (aS A)))
  have wl := p5 g1 (bset_lt (fun p => wk (sG (aS A)) p (mH (sM (aS A)))) (sG (aS A) 1))
  have nop : ∀ (H : p1 < 0 ∨ nI (sG (aS A) 1) ≤ p1), ∃ r A', Aok (c + 1) A' ∧ (∀ u, LY u → zK u x = 11 → InvC u x A → ∃ u1, hX10_sleep N x p1 (nI (b2n b)) u = some (r, u1) ∧ InvC u1 x A' ∧ Fz (Sc x) u u1) ∧ ∀ (m : Nat) (u : SG), InvR u m A → ∃ u1, hX11_sleep N m p1 (nI (b2n b)) u = some (r, u1) ∧ InvR u1 m A' ∧ Fz (Sr m) u u1 := by
    intro H
    refine ⟨0, A, hA.mono (by omega), fun u _ _ iC => ⟨u, ?_, iC, Fz.rf⟩, fun m u iR => ⟨u, ?_, iR, Fz.rf⟩⟩
    · unfold hX10_sleep; rw [c_isP0 iC.sn.1 g H, cl_some, if_pos rfl]
    · unfold hX11_sleep; rw [r_isP0 iR.sn.1.1 g H, cl_some, if_pos rfl]
  rcases pk_ix p1 (n := sG (aS A) 1) (by omega) with h | h | ⟨p, hp, rfl⟩
  · exact nop (Or.inl h)
  · exact nop (Or.inr h)
  have cpre : ∀ u, InvC u x A → hX10_sleep N x (nI p) (nI (b2n b)) u = hgX10_sleep_57 N x (nI p) (nI (b2n b)) (nI (b2n (mA (sM (aS A)) p))) (nI (b2n (wk (sG (aS A)) p (mH (sM (aS A)))))) u := by
    intro u iC
    have e3 : ∀ z : Int32, hgX10_sleep_39 N x (nI p) (nI (b2n b)) z u = hgX10_sleep_57 N x (nI p) (nI (b2n b)) z (nI (b2n (wk (sG (aS A)) p (mH (sM (aS A)))))) u := by
      intro z
      unfold hgX10_sleep_39
      rw [c_workersNow iC.sn g hb, cl_some, x_bitOf (by omega) (by omega), cl_some, bset_tb, show (decide (p < sG (aS A) 1) && wk (sG (aS A)) p (mH (sM (aS A)))) = wk (sG (aS A)) p (mH (sM (aS A))) from by simp [hp]]
      cases wk (sG (aS A)) p (mH (sM (aS A)))
      · rw [if_neg (by decide)]; rfl
      · rw [if_pos (by decide)]; rfl
    unfold hX10_sleep
    rw [c_isP1 iC.sn.1 g hp, cl_some, if_neg (by decide), show zI u (x + 25) 2 = nI (slS (sG (aS A)) (sM (aS A))) from iC.sn.2.1.2.2.1, x_bitOf (by omega) (by omega), cl_some, sl_tb hp, e3, e3]
    cases mA (sM (aS A)) p
    · rw [if_neg (by decide)]; rfl
    · rw [if_pos (by decide)]; rfl
  have rpre : ∀ m u, InvR u m A → hX11_sleep N m (nI p) (nI (b2n b)) u = hgX11_sleep_23 N m (nI p) (nI (b2n b)) (nI (b2n (mA (sM (aS A)) p))) u := by
    intro m u iR
    unfold hX11_sleep
    rw [r_isP1 iR.sn.1.1 g hp, cl_some, if_neg (by decide), r_pOf2 (by omega), cl_some, (iR.sn.1.1.2.2.2.2.1 p hp).2.2.1]
    cases mA (sM (aS A)) p
    · rw [if_neg (by decide)]; rfl
    · rw [if_pos (by decide)]; rfl
  by_cases e1 : mA (sM (aS A)) p = b
  · refine ⟨0, A, hA.mono (by omega), fun u _ _ iC => ⟨u, ?_, iC, Fz.rf⟩, fun m u iR => ⟨u, ?_, iR, Fz.rf⟩⟩
    · rw [cpre u iC]; unfold hgX10_sleep_57; rw [e1, if_pos rfl]
    · rw [rpre m u iR]; unfold hgX11_sleep_23; rw [e1, if_pos rfl]
  · have e2 : mA (sM (aS A)) p = !b := by revert e1; cases mA (sM (aS A)) p <;> cases b <;> simp
    have ne : ¬ nI (b2n (mA (sM (aS A)) p)) = nI (b2n b) := by rw [e2]; cases b <;> decide
    by_cases e3 : b = true ∧ wk (sG (aS A)) p (mH (sM (aS A))) = true
    · refine ⟨0, A, hA.mono (by omega), fun u _ _ iC => ⟨u, ?_, iC, Fz.rf⟩, fun m u iR => ⟨u, ?_, iR, Fz.rf⟩⟩
      · rw [cpre u iC]; unfold hgX10_sleep_57; rw [if_neg ne, e3.1, if_neg (by decide), e3.2, if_neg (by decide)]
      · rw [rpre m u iR]; unfold hgX11_sleep_23; rw [if_neg ne, e3.1, if_neg (by decide), iR.sn.1.1.2.1, r_worksIn iR.sn.1.1 iR.sn.1.2.1 g (by omega) (by omega) hN, cl_some, e3.2, if_neg (by decide)]
    · refine ⟨1, _, aokK hA (M := setA (sM (aS A)) p b) (hb.mono (by omega)), fun u hl k1 iC => ?_, fun m u iR => ?_⟩
      · obtain ⟨u1, a1, a2, a3⟩ := c_keep (N := N) iC hA hN
        have hM1 := iC.sn.2.1.z a3 (fun b k q1 q2 => by omega)
        have k2 : zI u1 (x + 25) 2 = nI (slS (sG (aS A)) (sM (aS A))) := hM1.2.2.1
        have z : Fz (fun a k => a = x + 25 ∧ k = 2) u1 (sI u1 (x + 25) 2 (nI (slS (sG (aS A)) (setA (sM (aS A)) p b)))) := Fz.sI ⟨rfl, rfl⟩
        refine ⟨sI u1 (x + 25) 2 (nI (slS (sG (aS A)) (setA (sM (aS A)) p b))), ?_, csM (P := fun a k => (a = x + 35 ∨ (x + 37 ≤ a ∧ a ≤ x + 116)) ∨ (a = x + 25 ∧ k = 2)) iC ((a3.w (fun a k q => Or.inl q)).tr (z.w (fun a k q => Or.inr q))) (fun a k q => by omega) (hM1.setA hp rfl) (a2.z z (fun k => by omega) (fun a k q1 q2 => by omega)), (a3.w (fun a k q => by unfold Sc; omega)).tr (z.w (fun a k q => by unfold Sc; omega))⟩
        have e75 : hgX10_sleep_75 N x (nI p) u = some (1, sI u1 (x + 25) 2 (nI (slS (sG (aS A)) (setA (sM (aS A)) p b)))) := by
          unfold hgX10_sleep_75
          rw [a1, cl_some, bs_eq, k2, nI_shl p (by omega), nI_xor, slS_xor hp e2]
        rw [cpre u iC]
        unfold hgX10_sleep_57
        rw [if_neg ne]
        cases b with
        | false => rw [if_pos (by decide)]; exact e75
        | true =>
          have : wk (sG (aS A)) p (mH (sM (aS A))) = false := by
            cases q : wk (sG (aS A)) p (mH (sM (aS A)))
            · rfl
            · exact absurd ⟨rfl, q⟩ e3
          rw [if_neg (by decide), this, if_pos (by decide)]
          exact e75
      · obtain ⟨u1, a1, a2, a3⟩ := r_keepsAct (N := N) iR hA hN
        have e10 : zI u1 (m + 10) = zI u (m + 10) := funext fun k => a3.I (by omega)
        obtain ⟨u2, d1, d2, d3⟩ := r_setsAsleep (N := N) (u := u1) (m := m) (by rw [e10]; exact iR.sn.1.1) g hp b
        refine ⟨u2, ?_, rsM (P := fun a k => (a = m + 12 ∨ (a = m ∧ k = 25)) ∨ S10 m a k) iR ((a3.w (fun a k q => Or.inl q)).tr (d3.w (fun a k q => Or.inr q))) (fun a k q => by unfold S10 at q; omega) g d2 (a2.z d3 (by unfold S10; omega) (fun k => by unfold S10; omega)), (a3.w (fun a k q => by unfold Sr; omega)).tr (d3.w (fun a k q => by unfold S10 at q; unfold Sr; omega))⟩
        have e47 : hgX11_sleep_47 N m (nI p) (nI (b2n b)) u = some (1, u2) := by
          unfold hgX11_sleep_47
          rw [a1, cl_some, d1, cl_some]
        rw [rpre m u iR]
        unfold hgX11_sleep_23
        rw [if_neg ne]
        cases b with
        | false => rw [if_pos (by decide)]; exact e47
        | true =>
          have : wk (sG (aS A)) p (mH (sM (aS A))) = false := by
            cases q : wk (sG (aS A)) p (mH (sM (aS A)))
            · rfl
            · exact absurd ⟨rfl, q⟩ e3
          rw [if_neg (by decide), iR.sn.1.1.2.1, r_worksIn iR.sn.1.1 iR.sn.1.2.1 g (by omega) (by omega) hN, cl_some, this, if_pos (by decide)]
          exact e47
theorem op_light (p1 : Int32) (b : Bool) (hN : 2000 ≤ N) : OpOK (fun x u => fX10_light N x p1 (nI (b2n b)) u) (fun m u => fX11_light N m p1 (nI (b2n b)) u) := by
  refine op_of (fun x u h => eX10_light N x p1 (nI (b2n b)) u h) (fun m u h => eX11_light N m p1 (nI (b2n b)) u h) (fun c x A hc hA => ?_)
  obtain ⟨g, hb, -⟩ := hA.2.2.2.2.1
  have g3 := g.2.2.2.1
  have h9 := hb.h9 g
  have b5 := p5 g3 (buS_lt (sG (aS A)) (sM (aS A)) (mH (sM (aS A))))
  have nop : ∀ (H : p1 < 0 ∨ nI (sG (aS A) 3) ≤ p1), ∃ r A', Aok (c + 1) A' ∧ (∀ u, LY u → zK u x = 11 → InvC u x A → ∃ u1, hX10_light N x p1 (nI (b2n b)) u = some (r, u1) ∧ InvC u1 x A' ∧ Fz (Sc x) u u1) ∧ ∀ (m : Nat) (u : SG), InvR u m A → ∃ u1, hX11_light N m p1 (nI (b2n b)) u = some (r, u1) ∧ InvR u1 m A' ∧ Fz (Sr m) u u1 := by
    intro H
    refine ⟨0, A, hA.mono (by omega), fun u _ _ iC => ⟨u, ?_, iC, Fz.rf⟩, fun m u iR => ⟨u, ?_, iR, Fz.rf⟩⟩
    · unfold hX10_light; rw [c_isL0 iC.sn.1 g H, cl_some, if_pos rfl]
    · unfold hX11_light; rw [r_isL0 iR.sn.1.1 g H, cl_some, if_pos rfl]
  rcases pk_ix p1 (n := sG (aS A) 3) (by omega) with h | h | ⟨l, hl, rfl⟩
  · exact nop (Or.inl h)
  · exact nop (Or.inr h)
  have cpre : ∀ u, InvC u x A → hX10_light N x (nI l) (nI (b2n b)) u = hgX10_light_33 N x (nI l) (nI (b2n b)) (nI (b2n (bu (sG (aS A)) (sM (aS A)) l (mH (sM (aS A)))))) u := by
    intro u iC
    have tb : (buS (sG (aS A)) (sM (aS A)) (mH (sM (aS A)))).testBit l = bu (sG (aS A)) (sM (aS A)) l (mH (sM (aS A))) := by unfold buS; rw [bset_tb]; simp [hl]
    unfold hX10_light
    rw [c_isL1 iC.sn.1 g hl, cl_some, if_neg (by decide), c_burningNow iC.sn g hb, cl_some, x_bitOf (by omega) (by omega), cl_some, tb]
    cases bu (sG (aS A)) (sM (aS A)) l (mH (sM (aS A)))
    · rw [if_neg (by decide)]; rfl
    · rw [if_pos (by decide)]; rfl
  have rb : ∀ m u, InvR u m A → hX11_burnsIn N m (nI l) (zI u (m + 10) 5) u = some (nI (b2n (bu (sG (aS A)) (sM (aS A)) l (mH (sM (aS A))))), u) := fun m u iR => by
    rw [iR.sn.1.1.2.1]
    exact r_burnsIn iR.sn.1.1 iR.sn.1.2.1 g hb.2.2.2.2 (by omega) (by omega) hN
  by_cases e1 : bu (sG (aS A)) (sM (aS A)) l (mH (sM (aS A))) = b
  · refine ⟨0, A, hA.mono (by omega), fun u _ _ iC => ⟨u, ?_, iC, Fz.rf⟩, fun m u iR => ⟨u, ?_, iR, Fz.rf⟩⟩
    · rw [cpre u iC]; unfold hgX10_light_33; rw [e1, if_pos rfl]
    · unfold hX11_light; rw [r_isL1 iR.sn.1.1 g hl, cl_some, if_neg (by decide), rb m u iR, cl_some, e1, if_pos rfl]
  · have ne : ¬ nI (b2n (bu (sG (aS A)) (sM (aS A)) l (mH (sM (aS A))))) = nI (b2n b) := by
      revert e1
      cases bu (sG (aS A)) (sM (aS A)) l (mH (sM (aS A))) <;> cases b <;> decide
    refine ⟨1, _, aokK hA (M := setL (sM (aS A)) l (if b then 1 else 2)) ((hb.setL l (by cases b <;> decide)).mono (by omega)), fun u hl' k1 iC => ?_, fun m u iR => ?_⟩
    · obtain ⟨u1, a1, a2, a3⟩ := c_keep (N := N) iC hA hN
      have hM1 : Mom u1 (x + 25) (sG (aS A)) (sM (aS A)) := iC.sn.2.1.z a3 (fun b k q1 q2 => by omega)
      obtain ⟨u2, d1, d2, d3⟩ := c_setLamp (N := N) hM1 g hl b
      refine ⟨u2, ?_, csM (P := fun a k => (a = x + 35 ∨ (x + 37 ≤ a ∧ a ≤ x + 116)) ∨ SM (x + 25) a k) iC ((a3.w (fun a k q => Or.inl q)).tr (d3.w (fun a k q => Or.inr q))) (fun a k q => by unfold SM at q; omega) d2 (a2.z d3 (fun k => by unfold SM; omega) (fun a k q1 q2 => by unfold SM; omega)), (a3.w (fun a k q => by unfold Sc; omega)).tr (d3.w (fun a k q => by unfold SM at q; unfold Sc; omega))⟩
      rw [cpre u iC]
      unfold hgX10_light_33
      rw [if_neg ne, a1, cl_some, d1, cl_some]
    · obtain ⟨u1, a1, a2, a3⟩ := r_keepsAct (N := N) iR hA hN
      have e10 : zI u1 (m + 10) = zI u (m + 10) := funext fun k => a3.I (by omega)
      have z : Fz (fun a k => a = m + 10 ∧ k = 40 + l) u1 (sI u1 (m + 10) (40 + l) (nI (if b then 1 else 2))) := Fz.sI ⟨rfl, rfl⟩
      refine ⟨sI u1 (m + 10) (40 + l) (nI (if b then 1 else 2)), ?_, rsM (P := fun a k => (a = m + 12 ∨ (a = m ∧ k = 25)) ∨ (a = m + 10 ∧ k = 40 + l)) iR ((a3.w (fun a k q => Or.inl q)).tr (z.w (fun a k q => Or.inr q))) (fun a k q => by omega) g (RA.setL (f := zI u (m + 10)) g iR.sn.1.1 (by omega) (sI_s _ _ _ _) (fun j hj => by rw [z.I (by omega), e10])) (a2.z z (by omega) (fun k => by omega)), (a3.w (fun a k q => by unfold Sr; omega)).tr (z.w (fun a k q => by unfold Sr; omega))⟩
      unfold hX11_light
      rw [r_isL1 iR.sn.1.1 g hl, cl_some, if_neg (by decide), rb m u iR, cl_some, if_neg ne, a1, cl_some]
      simp only [lit_40, nI_add]
      rw [ixI (by omega) (by decide), ixI (by omega) (by decide), nI_clamp (by omega), bs_eq, bs_eq]
      cases b with
      | false => rw [if_pos (by decide)]; rfl
      | true => rw [if_neg (by decide)]; rfl
theorem op_undo (hN : 2000 ≤ N) : OpOK (fun x u => fX10_undo N x u) (fun m u => fX11_undo N m u) := by
  refine op_of (fun x u h => eX10_undo N x u h) (fun m u h => eX11_undo N m u h) (fun c x A hc hA => ?_)
  have g := hA.2.2.2.2.1.1
  have hL := hA.2.2.2.2.2.1
  rcases snocM (aV A) with eV | ⟨V0, Ml, eV⟩
  · refine ⟨-1, A, hA.mono (by omega), fun u _ _ iC => ⟨u, ?_, iC, Fz.rf⟩, fun m u iR => ⟨u, ?_, iR, Fz.rf⟩⟩
    · unfold hX10_undo hX0_takeBack
      rw [iC.ac.1, eV, if_neg (by decide), cl_some, if_pos rfl]
    · unfold hX11_undo
      rw [iR.ac.1, eV, if_pos (by decide)]
  · have len : (aV A).length = V0.length + 1 := by rw [eV]; simp
    have hA' := hA.mono (d := c + 1) (by omega)
    have hMl : Mb (c + 1) (sG (aS A)) Ml := hA'.2.2.2.2.2.2.1 Ml (by rw [eV]; simp)
    have glast : (aV A)[V0.length]? = some Ml := by rw [eV]; simp
    have gold : ∀ (j : Nat) (M' : MT), V0[j]? = some M' → (aV A)[j]? = some M' := fun j M' hj => by rw [eV, List.getElem?_append_left (List.getElem?_eq_some_iff.mp hj).1]; exact hj
    refine ⟨nI V0.length, _, aokM hA hMl (V := V0) (by omega) (fun M' h => hA'.2.2.2.2.2.2.1 M' (by rw [eV]; simp [h])), fun u hl k1 iC => ?_, fun m u iR => ?_⟩
    · obtain ⟨h8, nx, h9, h10, h11⟩ := iC.ac
      have z1 : Fz (fun a k => a = x + 35) u (sI u (x + 35) 1 (nI ((nx + 19) % 20))) := Fz.sI rfl
      have hpos := h11 V0.length Ml glast
      rw [show (nx + 20 - (aV A).length + V0.length) % 20 = (nx + 19) % 20 by omega] at hpos
      obtain ⟨u2, e1, e2, e3⟩ := c_momCopy (N := N) (a0 := x + 25) (p1 := x + 35 + 2 + 4 * ((nx + 19) % 20)) g (hpos.z z1 (fun b k q1 q2 => by omega)) (by omega)
      have k2 : zI u2 (x + 35) 2 = nI (V0.length + 1) := by rw [e3.I (by unfold SM; omega), z1.2.2.2.2 |> fun _ => sI_n (by omega), h8, len]
      have z3 : Fz (fun a k => a = x + 35) u2 (sI u2 (x + 35) 2 (nI V0.length)) := Fz.sI rfl
      have F : Fz (fun a k => a = x + 35 ∨ SM (x + 25) a k) u (sI u2 (x + 35) 2 (nI V0.length)) := ((z1.w (fun a k q => Or.inl q)).tr (e3.w (fun a k q => Or.inr q))).tr (z3.w (fun a k q => Or.inl q))
      have hac : CAc (sI u2 (x + 35) 2 (nI V0.length)) x (sG (aS A)) V0 := by
        refine ⟨sI_s _ _ _ _, (nx + 19) % 20, Nat.mod_lt _ (by decide), by rw [sI_n (by omega), e3.I (by unfold SM; omega), sI_s], fun j M' hj => ?_⟩
        have jl := (List.getElem?_eq_some_iff.mp hj).1
        have := (h11 j M' (gold j M' hj)).z F (fun b k q1 q2 => by unfold SM; omega)
        rw [show ((nx + 19) % 20 + 20 - V0.length + j) % 20 = (nx + 20 - (aV A).length + j) % 20 by omega]
        exact this
      refine ⟨sI u2 (x + 35) 2 (nI V0.length), ?_, csM iC F (fun a k q => by unfold SM at q; omega) (e2.z z3 (fun b k q1 q2 => by omega)) hac, F.w (fun a k q => by unfold SM at q; unfold Sc; omega)⟩
      unfold hX10_undo hX0_takeBack
      rw [h8, if_pos (show 0 < nI (aV A).length from nI_lt (a := 0) (by omega) (by omega)), h10, x_floorMod h9, cl_some, bs_eq, sI_s, ixI (Nat.mod_lt _ (by decide)) (by decide), nI_clamp (by omega), e1, cl_some, bs_eq, k2, lit_1, pk_sub (by omega), Nat.add_sub_cancel, cl_some, if_neg (by decide), sI_s]
    · obtain ⟨h1, h2⟩ := iR.ac
      have z1 : Fz (fun a k => a = m ∧ k = 25) u (sI u m 25 (nI V0.length)) := Fz.sI ⟨rfl, rfl⟩
      unfold hX11_undo
      rw [h1, if_neg (nI_ne0 (by omega) (by omega)), bs_eq, len, lit_1, pk_sub (by omega), Nat.add_sub_cancel]
      refine lps (fun f k v => hgX11_undo_21 N f m (nI k) v) 45 (fun k v => (∀ i, i < k → zI v (m + 10) i = zI u (m + 12) (45 * V0.length + i)) ∧ zI v m 25 = nI V0.length ∧ Fz (fun a i => (a = m ∧ i = 25) ∨ (a = m + 10 ∧ i < 45)) u v) (fun r => ∃ u', r = some (nI V0.length, u') ∧ InvR u' m (wM A Ml V0) ∧ Fz (Sr m) u u') ?_ ?_ N 0 _ (by omega) (by omega) ⟨fun i hi => by omega, sI_s _ _ _ _, z1.w (fun a k q => Or.inl q)⟩
      · intro f v ⟨i1, i2, i3⟩
        refine ⟨v, by rw [hgX11_undo_21, lit_45, if_pos (nI_le (by omega) (by omega)), i2], rsM iR i3 (fun a k q => by omega) g ((h2 V0.length Ml glast).cg (fun k hk => i1 k hk) g) ⟨i2, fun j M' hj => ?_⟩, i3.w (fun a k q => by unfold Sr; omega)⟩
        exact (h2 j M' (gold j M' hj)).cg (fun k hk => by rw [i3.I (by omega)]) g
      · intro f k v hk ⟨i1, i2, i3⟩
        rw [hgX11_undo_21, lit_45, if_neg (nI_ge hk (by omega)), i2, pk_mul, nI_add, ixI (by omega) (by decide), ixI (by omega) (by decide), nI_clamp (by omega), nI_clamp (by omega), bs_eq, lit_1, nI_add]
        refine ⟨_, ⟨fun i hi => ?_, by rw [sI_n (by omega)]; exact i2, i3.tr (Fz.sI (by omega))⟩, rfl⟩
        by_cases e : i = k
        · subst e; rw [sI_s, i3.I (by omega)]
        · rw [sI_n (by omega)]; exact i1 i (by omega)
end OPS5
