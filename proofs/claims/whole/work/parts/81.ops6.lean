/-! OPERATIONS, 6: image, back, feed -/
def wI (A : AT) (k : Nat) : AT := (aT A, aB A, aR A, aS A, aV A, fun i => if i = k then some (aS A) else aI A i)
section OPS6
variable {N : Nat}
theorem CIm.set {u v : SG} {x k : Nat} {I : Nat → Option SCT} {S : SCT} (h : CIm u x I) (hk : k < 4) (f : Fz (fun q _ => x + 125 + 17 * k ≤ q ∧ q ≤ x + 125 + 17 * k + 16) u v) (h1 : zI v (x + 125 + 17 * k) 5 = 1) (h2 : CSc v (x + 125 + 17 * k) S) : CIm v x (fun i => if i = k then some S else I i) := by
  intro j hj
  show _ = b2i (if j = k then some S else I j).isSome ∧ ∀ S', (if j = k then some S else I j) = some S' → _
  by_cases e : j = k
  · subst e
    rw [if_pos rfl]
    refine ⟨?_, fun S' hS => ?_⟩
    · rw [h1]; rfl
    · cases hS; exact h2
  · rw [if_neg e]
    exact ⟨by rw [f.I (by omega)]; exact (h j hj).1, fun S' hS => ((h j hj).2 S' hS).z f (fun b i q1 q2 => by omega)⟩
theorem op_image (p1 : Int32) (hN : 2000 ≤ N) : OpOK (fun x u => fX10_image N x p1 u) (fun m u => fX11_image N m p1 u) := by
  refine op_of (fun x u h => eX10_image N x p1 u h) (fun m u h => eX11_image N m p1 u h) (fun c x A hc hA => ?_)
  obtain ⟨g, hb, hn, -⟩ := hA.2.2.2.2.1
  rcases pk_ix p1 (n := 4) (by decide) with h | h | ⟨k, hk, rfl⟩
  · refine ⟨-1, A, hA.mono (by omega), fun u _ _ iC => ⟨u, ?_, iC, Fz.rf⟩, fun m u iR => ⟨u, ?_, iR, Fz.rf⟩⟩
    · unfold hX10_image; rw [if_pos h]
    · unfold hX11_image; rw [x_in0 (b := 3) (q := 3) (Or.inl h) (by decide) rfl, cl_some, if_pos rfl]
  · refine ⟨-1, A, hA.mono (by omega), fun u _ _ iC => ⟨u, ?_, iC, Fz.rf⟩, fun m u iR => ⟨u, ?_, iR, Fz.rf⟩⟩
    · unfold hX10_image; rw [if_neg (not_lt0 (by decide) h), if_neg (show ¬ p1 < (4 : Int32) from fun z => absurd h (by rw [Int32.not_le]; exact z))]
    · unfold hX11_image; rw [x_in0 (b := 3) (q := 3) (Or.inr h) (by decide) rfl, cl_some, if_pos rfl]
  · refine ⟨nI (mN (sM (aS A))), wI A k, ?_, fun u hl k1 iC => ?_, fun m u iR => ?_⟩
    · obtain ⟨h1, h2, h3, h4, h5, h6, h7, h8⟩ := hA.mono (d := c + 1) (by omega)
      refine ⟨h1, h2, h3, h4, h5, h6, h7, fun j S hj hS => ?_⟩
      have hS : (if j = k then some (aS A) else aI A j) = some S := hS
      by_cases e : j = k
      · rw [if_pos e] at hS; cases hS; exact h5
      · rw [if_neg e] at hS; exact h8 j S hj hS
    · obtain ⟨u1, e1, e2, -, e3⟩ := c_scCopy (N := N) (a0 := x + 125 + 17 * k) (p1 := x + 17) g hn iC.sn (by omega)
      have z : Fz (fun q i => q = x + 125 + 17 * k ∧ i = 5) u1 (sI u1 (x + 125 + 17 * k) 5 1) := Fz.sI ⟨rfl, rfl⟩
      have F : Fz (fun q _ => x + 125 + 17 * k ≤ q ∧ q ≤ x + 125 + 17 * k + 16) u (sI u1 (x + 125 + 17 * k) 5 1) := e3.tr (z.w (fun a i q => by omega))
      have cs : CSc (sI u1 (x + 125 + 17 * k) 5 1) (x + 125 + 17 * k) (aS A) := by
        obtain ⟨s1, s2, s3, s4, s5, s6⟩ := e2
        refine ⟨s1.z z (fun b i q1 q2 => by omega), s2.z z (fun b i q1 q2 => by omega), by rw [z.I (by omega)]; exact s3, fun j hj => ?_, by rw [z.I (by omega)]; exact s5, by rw [z.I (by omega)]; exact s6⟩
        rw [z.I (by omega), z.I (by omega), z.I (by omega), z.I (by omega)]
        exact s4 j hj
      refine ⟨_, ?_, invC (iC.tp.z F (by omega) (fun i => by omega)) (iC.rl.z F (by omega) (fun a i q => by omega)) (iC.sn.z F (fun b i q1 q2 => by omega)) (iC.ac.z F (fun i => by omega) (fun a i q1 q2 => by omega)) (iC.im.set hk F (sI_s _ _ _ _) cs), F.w (fun a i q => by unfold Sc; omega)⟩
      unfold hX10_image
      rw [if_neg (nI_pos (by omega)), if_pos (show nI k < (4 : Int32) from nI_lt (b := 4) hk (by decide)), ixI hk (by decide), nI_clamp (by omega), e1, cl_some, ixJ hk (by decide), if_pos (Or.inr rfl), bs_eq, show zI (sI u1 (x + 125 + 17 * k) 5 1) (x + 25) 1 = nI (mN (sM (aS A))) from (iC.sn.z F (fun b i q1 q2 => by omega)).2.1.2.1]
    · have z0 : Fz (fun a i => (a = m + 17 ∨ a = m + 18 ∨ a = m + 19) ∧ i = k) u (sI (sI (sI u (m + 19) k 1) (m + 17) k (zI u m 21)) (m + 18) k (zI u m 22)) := ((Fz.sI (by omega)).tr (Fz.sI (by omega))).tr (Fz.sI (by omega))
      have vb : vp_nar .boolean (1 : Int32) = 1 := by decide
      unfold hX11_image
      rw [x_in1 (b := 3) (q := 3) (by omega) (by decide) rfl, cl_some, if_neg (by decide), ixI hk (by decide), nI_clamp (by omega), bs_eq, vb, ixJ hk (by decide), bs_eq, sI_n (by omega), ixJ hk (by decide), bs_eq, sI_n (by omega), sI_n (by omega)]
      refine lps (fun f i v => hgX11_image_43 N f m (nI k) (nI i) v) 144 (fun i v => (∀ j, j < i → zI v (m + 16) (144 * k + j) = zI u (m + 10) j) ∧ zI v (m + 19) k = 1 ∧ zI v (m + 17) k = zI u m 21 ∧ zI v (m + 18) k = zI u m 22 ∧ Fz (fun a i => ((a = m + 17 ∨ a = m + 18 ∨ a = m + 19) ∧ i = k) ∨ (a = m + 16 ∧ 144 * k ≤ i ∧ i < 144 * k + 144)) u v) (fun r => ∃ u', r = some (nI (mN (sM (aS A))), u') ∧ InvR u' m (wI A k) ∧ Fz (Sr m) u u') ?_ ?_ N 0 _ (by omega) (by omega) ⟨fun j hj => by omega, by rw [sI_n (by omega), sI_n (by omega), sI_s], by rw [sI_n (by omega), sI_s], by rw [sI_s], z0.w (fun a i q => Or.inl q)⟩
      · intro f v ⟨i1, i2, i3, i4, i5⟩
        refine ⟨v, by rw [hgX11_image_43, lit_144, if_pos (nI_le (by omega) (by omega)), i5.I (by omega), iR.sn.1.1.2.2.1], invR (iR.tp.z i5 (by omega) (fun i => by omega)) (iR.rl.z i5 (by omega) (fun a i q => by omega)) (iR.sn.z i5 (fun i => by omega) (by omega) (by omega)) (iR.ac.z i5 (by omega) (fun i => by omega)) (fun j hj => ?_), i5.w (fun a i q => by unfold Sr; omega)⟩
        show _ = b2i (if j = k then some (aS A) else aI A j).isSome ∧ ∀ S, (if j = k then some (aS A) else aI A j) = some S → _
        by_cases e : j = k
        · subst e
          rw [if_pos rfl]
          refine ⟨i2, fun S hS => ?_⟩
          cases hS
          exact ⟨iR.sn.1.congr (fun i hi => i1 i hi) hn g, by rw [i3]; exact iR.sn.2.1, by rw [i4]; exact iR.sn.2.2⟩
        · rw [if_neg e]
          refine ⟨by rw [i5.I (by omega)]; exact (iR.im j hj).1, fun S hS => ?_⟩
          obtain ⟨q1, q2, q3⟩ := (iR.im j hj).2 S hS
          have hSk := hA.2.2.2.2.2.2.2 j S hj hS
          exact ⟨q1.congr (fun i hi => i5.I (by omega)) hSk.2.2.1 hSk.1, by rw [i5.I (by omega)]; exact q2, by rw [i5.I (by omega)]; exact q3⟩
      · intro f i v hi ⟨i1, i2, i3, i4, i5⟩
        rw [hgX11_image_43, lit_144, if_neg (nI_ge hi (by omega)), pk_mul, nI_add, ixI (by omega) (by decide), ixI (by omega) (by decide), nI_clamp (by omega), nI_clamp (by omega), bs_eq, lit_1, nI_add]
        refine ⟨_, ⟨fun j hj => ?_, by rw [sI_n (by omega)]; exact i2, by rw [sI_n (by omega)]; exact i3, by rw [sI_n (by omega)]; exact i4, i5.tr (Fz.sI (by omega))⟩, rfl⟩
        by_cases e : j = i
        · subst e; rw [sI_s, i5.I (by omega)]
        · rw [sI_n (by omega)]; exact i1 j (by omega)
theorem op_back (p1 : Int32) (hN : 2000 ≤ N) : OpOK (fun x u => fX10_back N x p1 u) (fun m u => fX11_back N m p1 u) := by
  refine op_of (fun x u h => eX10_back N x p1 u h) (fun m u h => eX11_back N m p1 u h) (fun c x A hc hA => ?_)
  rcases pk_ix p1 (n := 4) (by decide) with h | h | ⟨k, hk, rfl⟩
  · refine ⟨-1, A, hA.mono (by omega), fun u _ _ iC => ⟨u, ?_, iC, Fz.rf⟩, fun m u iR => ⟨u, ?_, iR, Fz.rf⟩⟩
    · unfold hX10_back; rw [if_pos h]
    · unfold hX11_back; rw [x_in0 (b := 3) (q := 3) (Or.inl h) (by decide) rfl, cl_some, if_pos rfl]
  · refine ⟨-1, A, hA.mono (by omega), fun u _ _ iC => ⟨u, ?_, iC, Fz.rf⟩, fun m u iR => ⟨u, ?_, iR, Fz.rf⟩⟩
    · unfold hX10_back; rw [if_neg (not_lt0 (by decide) h), if_pos (show (4 : Int32) ≤ p1 from h)]
    · unfold hX11_back; rw [x_in0 (b := 3) (q := 3) (Or.inr h) (by decide) rfl, cl_some, if_pos rfl]
  · cases eI : aI A k with
    | none =>
      refine ⟨-1, A, hA.mono (by omega), fun u _ _ iC => ⟨u, ?_, iC, Fz.rf⟩, fun m u iR => ⟨u, ?_, iR, Fz.rf⟩⟩
      · unfold hX10_back
        rw [if_neg (nI_pos (by omega)), if_neg (show ¬ (4 : Int32) ≤ nI k from nI_ge (b := 4) hk (by decide)), ixI hk (by decide), nI_clamp (by omega), (iC.im k hk).1, eI, if_pos (by decide)]
      · unfold hX11_back
        rw [x_in1 (b := 3) (q := 3) (by omega) (by decide) rfl, cl_some, if_neg (by decide), ixI hk (by decide), nI_clamp (by omega), (iR.im k hk).1, eI, if_pos (by decide)]
    | some S =>
      have hS := hA.2.2.2.2.2.2.2 k S hk eI
      have hn := hS.2.2.1
      refine ⟨nI (mN (sM S)), (aT A, aB A, aR A, S, [], aI A), ?_, fun u hl k1 iC => ?_, fun m u iR => ?_⟩
      · obtain ⟨h1, h2, h3, h4, h5, h6, h7, h8⟩ := hA.mono (d := c + 1) (by omega)
        exact ⟨h1, h2, h3, h4, h8 k S hk eI, by show ([] : List MT).length ≤ 20; simp, fun M hM => (by cases hM), h8⟩
      · obtain ⟨u1, e1, e2, -, e3⟩ := c_scCopy (N := N) (a0 := x + 17) (p1 := x + 125 + 17 * k) hS.1 hn ((iC.im k hk).2 S eI) (by omega)
        have z : Fz (fun q i => q = x + 35 ∧ i = 2) u1 (sI u1 (x + 35) 2 0) := Fz.sI ⟨rfl, rfl⟩
        have F : Fz (fun q i => (x + 17 ≤ q ∧ q ≤ x + 33) ∨ (q = x + 35 ∧ i = 2)) u (sI u1 (x + 35) 2 0) := (e3.w (fun a i q => by omega)).tr (z.w (fun a i q => by omega))
        obtain ⟨h8, nx, h9, h10, h11⟩ := iC.ac
        refine ⟨_, ?_, invC (iC.tp.z F (by omega) (fun i => by omega)) (iC.rl.z F (by omega) (fun a i q => by omega)) (e2.z z (fun b i q1 q2 => by omega)) ⟨by rw [sI_s]; rfl, nx, h9, by rw [F.I (by omega)]; exact h10, fun j M hj => by simp at hj⟩ (iC.im.z F (fun a i q1 q2 => by omega)), F.w (fun a i q => by unfold Sc; omega)⟩
        unfold hX10_back
        rw [if_neg (nI_pos (by omega)), if_neg (show ¬ (4 : Int32) ≤ nI k from nI_ge (b := 4) hk (by decide)), ixI hk (by decide), nI_clamp (by omega), (iC.im k hk).1, eI, if_neg (show ¬ b2i (some S).isSome = 0 from (by decide : ¬ b2i true = 0)), ixJ hk (by decide), e1, cl_some]
        unfold hX0_clear
        rw [bs_eq, cl_some, show zI (sI u1 (x + 35) 2 0) (x + 25) 1 = nI (mN (sM S)) from (e2.z z (fun b i q1 q2 => by omega)).2.1.2.1]
      · obtain ⟨q1, q2, q3⟩ := (iR.im k hk).2 S eI
        have z0 : Fz (fun a i => a = m ∧ (i = 21 ∨ i = 22 ∨ i = 25)) u (sI (sI (sI u m 21 (foI (sf S))) m 22 (sx S)) m 25 0) := ((Fz.sI (by omega)).tr (Fz.sI (by omega))).tr (Fz.sI (by omega))
        unfold hX11_back
        rw [x_in1 (b := 3) (q := 3) (by omega) (by decide) rfl, cl_some, if_neg (by decide), ixI hk (by decide), nI_clamp (by omega), (iR.im k hk).1, eI, if_neg (show ¬ b2i (some S).isSome = 0 from (by decide : ¬ b2i true = 0)), ixJ hk (by decide), bs_eq, q2, ixJ hk (by decide), bs_eq, sI_n (by omega), q3, bs_eq]
        refine lps (fun f i v => hgX11_back_50 N f m (nI k) (nI i) v) 144 (fun i v => (∀ j, j < i → zI v (m + 10) j = zI u (m + 16) (144 * k + j)) ∧ zI v m 21 = foI (sf S) ∧ zI v m 22 = sx S ∧ zI v m 25 = 0 ∧ Fz (fun a i => (a = m ∧ (i = 21 ∨ i = 22 ∨ i = 25)) ∨ a = m + 10) u v) (fun r => ∃ u', r = some (nI (mN (sM S)), u') ∧ InvR u' m (aT A, aB A, aR A, S, [], aI A) ∧ Fz (Sr m) u u') ?_ ?_ N 0 _ (by omega) (by omega) ⟨fun j hj => by omega, by rw [sI_n (by omega), sI_n (by omega), sI_s], by rw [sI_n (by omega), sI_s], by rw [sI_s], z0.w (fun a i q => Or.inl q)⟩
        · intro f v ⟨i1, i2, i3, i4, i5⟩
          have hrs : RSc (zI v (m + 10)) S := q1.congr (fun i hi => i1 i hi) hn hS.1
          exact ⟨v, by rw [hgX11_back_50, lit_144, if_pos (nI_le (by omega) (by omega)), hrs.1.2.2.1], invR (iR.tp.z i5 (by omega) (fun i => by omega)) (iR.rl.z i5 (by omega) (fun a i q => by omega)) ⟨hrs, i2, i3⟩ ⟨by rw [i4]; rfl, fun j M hj => by simp at hj⟩ (iR.im.z i5 (fun a i q1 q2 => by omega)), i5.w (fun a i q => by unfold Sr; omega)⟩
        · intro f i v hi ⟨i1, i2, i3, i4, i5⟩
          rw [hgX11_back_50, lit_144, if_neg (nI_ge hi (by omega)), pk_mul, nI_add, ixI (by omega) (by decide), ixI (by omega) (by decide), nI_clamp (by omega), nI_clamp (by omega), bs_eq, lit_1, nI_add]
          refine ⟨_, ⟨fun j hj => ?_, by rw [sI_n (by omega)]; exact i2, by rw [sI_n (by omega)]; exact i3, by rw [sI_n (by omega)]; exact i4, i5.tr (Fz.sI (by omega))⟩, rfl⟩
          by_cases e : j = i
          · subst e; rw [sI_s, i5.I (by omega)]
          · rw [sI_n (by omega)]; exact i1 j (by omega)
end OPS6
