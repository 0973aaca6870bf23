/-! RULE: both sides -/
theorem nw_eq {β : Type} (u w : SG) (k : Nat → SG → Option β) : nw u w k = k u.1 w := rfl
def aRu (A : AT) (R : RT) : AT := (0, aB A, aR A ++ [R], aS A, aV A, aI A)
/-- a rule's two cells -/
def mdU (u : SG) (x len : Nat) : SG := sIr (sR (sNew (sNew u 5 0) 22 len) u.1 0 (some (u.1 + 1))) (u.1 + 1) (va_cpy (zI (sR (sNew (sNew u 5 0) 22 len) u.1 0 (some (u.1 + 1))) (x + 8)) (zI (sR (sNew (sNew u 5 0) 22 len) u.1 0 (some (u.1 + 1))) (u.1 + 1)) 0 0 len)
section RULO
variable {N x : Nat} {u : SG}
theorem md_K (len b : Nat) : zK (mdU u x len) b = if b = u.1 + 1 then 22 else if b = u.1 then 5 else zK u b := by
  show zK (sNew (sNew u 5 0) 22 len) b = _
  rw [sNew_K, sNew_K]
  rfl
theorem md_N (len b : Nat) : zN (mdU u x len) b = if b = u.1 + 1 then len else if b = u.1 then 0 else zN u b := by
  show zN (sNew (sNew u 5 0) 22 len) b = _
  rw [sNew_N, sNew_N]
  rfl
theorem md_I {len b k : Nat} (hb : b < u.1) : zI (mdU u x len) b k = zI u b k := by
  unfold mdU
  rw [sIr_n (by omega)]
  show zI (sNew (sNew u 5 0) 22 len) b k = _
  rw [sNew_I, sNew_I, if_neg (show ¬ b = (sNew u 5 0).1 from fun z => by have : (sNew u 5 0).1 = u.1 + 1 := rfl; omega), if_neg (by omega)]
theorem md_L {len b k : Nat} (hb : b < u.1) : zL (mdU u x len) b k = zL u b k := by
  show zL (sNew (sNew u 5 0) 22 len) b k = _
  rw [sNew_L, sNew_L, if_neg (show ¬ b = (sNew u 5 0).1 from fun z => by have : (sNew u 5 0).1 = u.1 + 1 := rfl; omega), if_neg (by omega)]
theorem md_R {len b j : Nat} (hb : b < u.1) : zR (mdU u x len) b j = zR u b j := by
  show zR (sR (sNew (sNew u 5 0) 22 len) u.1 0 (some (u.1 + 1))) b j = _
  rw [sR_R, if_neg (by omega), sNew_R, sNew_R, if_neg (show ¬ b = (sNew u 5 0).1 from fun z => by have : (sNew u 5 0).1 = u.1 + 1 := rfl; omega), if_neg (by omega)]
theorem md_R0 (len : Nat) : zR (mdU u x len) u.1 0 = some (u.1 + 1) := by
  show zR (sR (sNew (sNew u 5 0) 22 len) u.1 0 (some (u.1 + 1))) u.1 0 = _
  rw [sR_R, if_pos rfl, if_pos rfl]
theorem md_c {len k : Nat} (hx : x + 8 < u.1) (hk : k < len) : zI (mdU u x len) (u.1 + 1) k = zI u (x + 8) k := by
  unfold mdU
  rw [sIr_s, cpy0 hk]
  show zI (sNew (sNew u 5 0) 22 len) (x + 8) k = _
  rw [sNew_I, sNew_I, if_neg (show ¬ x + 8 = (sNew u 5 0).1 from fun z => by have : (sNew u 5 0).1 = u.1 + 1 := rfl; omega), if_neg (by omega)]
theorem c_made {len : Nat} (hx : x + 8 < u.1) (k6 : zK u (x + 7) = 6) (r1 : zR u (x + 7) 1 = some (x + 8)) (k22 : zK u (x + 8) = 22) (n412 : zN u (x + 8) = 412) (h2 : zI u (x + 7) 2 = nI len) (hl : len ≤ 412) : fX5_made N (x + 7) u = some (some u.1, mdU u x len) := by
  have e1 : (sNew u 5 0).1 = u.1 + 1 := rfl
  have e2 : (sNew (sNew u 5 0) 22 len).1 = u.1 + 2 := rfl
  have nk : ∀ b, b < u.1 → zK (sNew u 5 0) b = zK u b := fun b hb => by rw [sNew_K, if_neg (by omega)]
  have nk2 : ∀ b, b < u.1 → zK (sNew (sNew u 5 0) 22 len) b = zK u b := fun b hb => by rw [sNew_K, if_neg (by rw [e1]; omega)]; exact nk b hb
  have nn : zN (sNew u 5 0) (x + 8) = 412 := by rw [sNew_N, if_neg (by omega)]; exact n412
  have i2 : zI (sNew u 5 0) (x + 7) 2 = nI len := by rw [sNew_I, if_neg (by omega)]; exact h2
  have rr : zR (sNew u 5 0) (x + 7) 1 = some (x + 8) := by rw [sNew_R, if_neg (by omega)]; exact r1
  have mx : ∀ v, fJ9_max_7cf53 N (0 : Int32) (nI len) v = some (nI len, v) := fun v => by
    have := x_max0 (N := N) (u := v) (a := len) (b := 0) (by omega) (by decide)
    rw [pk_sub (by omega)] at this
    exact this
  have kq : zK (sNew (sNew u 5 0) 22 len) u.1 = 5 := by rw [sNew_K, if_neg (by rw [e1]; omega), sNew_K, if_pos rfl]
  have init : fX4_init N u.1 (x + 8) (nI len) (sNew u 5 0) = some ((), mdU u x len) := by
    unfold fX4_init
    rw [nk (x + 8) hx, if_pos k22, nn, x_min (by omega) (by decide), cl_some, Nat.min_eq_left hl, mx, cl_some, nI_clamp (by omega), if_neg (fun z => z.elim (nI_pos (by omega)) (by omega)), nw_eq, e1, if_pos kq, bs_eq]
    generalize e7 : sR (sNew (sNew u 5 0) 22 len) u.1 0 (some (u.1 + 1)) = u7
    have K7 : ∀ b, zK u7 b = zK (sNew (sNew u 5 0) 22 len) b := fun b => by rw [← e7]; rfl
    have N7 : ∀ b, zN u7 b = zN (sNew (sNew u 5 0) 22 len) b := fun b => by rw [← e7]; rfl
    have r7 : zR u7 u.1 0 = some (u.1 + 1) := by rw [← e7, sR_R, if_pos rfl, if_pos rfl]
    have n8 : zN u7 (x + 8) = 412 := by rw [N7, sNew_N, if_neg (by rw [e1]; omega)]; exact nn
    have n9 : zN u7 (u.1 + 1) = len := by rw [N7, sNew_N, if_pos e1.symm]
    have k9 : zK u7 (u.1 + 1) = 22 := by rw [K7, sNew_K, if_pos e1.symm]
    rw [K7 u.1, if_pos kq, r7]
    show (if zK u7 (x + 8) = 22 then if zK u7 (u.1 + 1) = 22 then _ else none else none) = _
    rw [if_pos (by rw [K7, nk2 (x + 8) hx]; exact k22), if_pos k9, n8, n9, if_neg (show ¬ ((0 : Int32) < 0 ∨ (0 : Int32) < 0 ∨ nI len < 0 ∨ 412 < (0 : Int32).toNatClampNeg + len ∨ len < (0 : Int32).toNatClampNeg + len) from fun z => by
      have z0 : (0 : Int32).toNatClampNeg = 0 := rfl
      rw [z0] at z
      rcases z with z | z | z | z | z
      · exact absurd z (by decide)
      · exact absurd z (by decide)
      · exact nI_pos (by omega) z
      · omega
      · omega), bs_eq]
    unfold mdU
    rw [e7]
    rfl
  unfold fX5_made
  rw [nw_eq, nk (x + 7) (by omega), if_pos k6, rr]
  show (if zK u (x + 7) = 6 then cla ((sNew u 5 0).1 + 1) (fX4_init N u.1 (x + 8) (zI (sNew u 5 0) (x + 7) 2) (sNew u 5 0)) _ else none) = _
  rw [if_pos k6, i2, init]
  unfold cla
  show (if (sNew u 5 0).1 + 1 ≤ (mdU u x len).1 then _ else none) = _
  exact if_pos (show u.1 + 1 + 1 ≤ u.1 + 2 by omega)
/-- the class's text read -/
theorem c_ruleT {A : AT} {c : Nat} (hl : LY u) (k1 : zK u x = 11) (iC : InvC u x A) (hA : Aok c A) (hN : 2000 ≤ N) : (∀ e, rulS (tpA A) 13 0 0 (sk (tpA A) 0) = .error e → ∃ u', fX5_readText N (x + 7) u = some (nI e, u') ∧ Fz (Cw x) u u') ∧ ∀ R, rulS (tpA A) 13 0 0 (sk (tpA A) 0) = .ok R → ∃ u', fX5_readText N (x + 7) u = some (0, u') ∧ zI u' (x + 7) 2 = nI (flRl R).length ∧ (∀ (j : Nat) (d : Int32), (flRl R)[j]? = some d → zI u' (x + 8) j = d) ∧ Fz (Cw x) u u' := by
  have hT := tpA_ok hA
  have k7 : zK u (x + 7) = 6 := (hl.o11 k1).2.2.2.2.2.1
  rw [eX5_readText N (x + 7) u (hkc k7 (hk0 hl))]
  unfold hX5_readText
  rw [bs_eq, bs_eq, show x + 7 - 6 = x + 1 from rfl]
  generalize e1 : sI (sI u (x + 7) 2 0) (x + 7) 3 0 = u1
  have f1 : Fz (fun a j => a = x + 7) u u1 := by rw [← e1]; exact (Fz.sI (S := fun a _ => a = x + 7) rfl).tr (Fz.sI (S := fun a _ => a = x + 7) rfl)
  have f1' : Fz (Cw x) u u1 := f1.w (fun a j z => by unfold Cw; omega)
  have i1 := iC.z f1' (fun a k q => Or.inr q)
  have cb : CB u1 (x + 1) (tpA A) (aT A) := ⟨i1.tp.1, fun k hk => by rw [show x + 1 + 1 = x + 2 from rfl, i1.tp.2 k hk]; unfold tpA; rw [if_pos hk]⟩
  obtain ⟨u2, o1, o2, o3, o4⟩ := c_open (N := N) cb hT hN
  have f2 : Fz (Cw x) u1 u2 := o4.w (fun a k q => by unfold Fop at q; unfold Cw; omega)
  have s2 : CSt u2 x (tpA A) (aT A) [] 0 (sk (tpA A) 0) := ⟨o2, by rw [o4.I (by unfold Fop; omega), ← e1, sI_n (by omega), sI_s]; rfl, fun j d hd => by simp at hd, by rw [o4.I (by unfold Fop; omega), ← e1, sI_s]; rfl⟩
  obtain ⟨i1', i2⟩ := c_text (N := N) hT hN 13 0 0 (sk (tpA A) 0) N u2 [] rfl (by omega) (by omega) s2 ((sk_ok hT 0).2.1 (Nat.zero_le _)) (Nat.zero_le _) (by omega)
  rw [o1, cl_some]
  have fz := f1'.tr f2
  refine ⟨fun e he => ?_, fun R he => ?_⟩
  · obtain ⟨w, w1, w2⟩ := i1' e he
    exact ⟨w, w1, fz.tr w2⟩
  · obtain ⟨w, k', p', w1, w2, w3⟩ := i2 R he
    rw [List.nil_append] at w2
    exact ⟨w, w1, w2.2.1, w2.2.2.1, fz.tr w3⟩
theorem rul_keep {v : SG} {m n t : Nat} {R : RT} {P : Nat → Nat → Prop} (h : RRul u m t R) (hR : R.length ≤ 12) (ht : t < n) (f : Fz P u v) (hP : ∀ a k, P a k → FC m n a k ∨ a = m) : RRul v m t R := by
  have z : ∀ a k, ¬ (FC m n a k ∨ a = m) → zI v a k = zI u a k := fun a k hk => f.I (fun y => hk (hP a k y))
  refine ⟨by rw [z _ _ (by unfold FC FRs FR; omega)]; exact h.1, fun i c hi => ?_⟩
  have il := (List.getElem?_eq_some_iff.mp hi).1
  obtain ⟨q, a1, a2, a3, a4, a5, a6⟩ := h.2 i c hi
  refine ⟨q, a1, by rw [z _ _ (by unfold FC FRs FR; omega)]; exact a2, by rw [z _ _ (by unfold FC FRs FR; omega)]; exact a3, fun j d hd => ?_, fun hn => by rw [z _ _ (by unfold FC FRs FR; omega)]; exact a5 hn, fun cs hcs => ?_⟩
  · have jl := (List.getElem?_eq_some_iff.mp hd).1
    rw [z _ _ (by unfold FC FRs FR; omega)]
    exact a4 j d hd
  · obtain ⟨q2, b1, b2, b3, b4⟩ := a6 cs hcs
    refine ⟨q2, b1, by rw [z _ _ (by unfold FC FRs FR; omega)]; exact b2, by rw [z _ _ (by unfold FC FRs FR; omega)]; exact b3, fun j d hd => ?_⟩
    have jl := (List.getElem?_eq_some_iff.mp hd).1
    rw [z _ _ (by unfold FC FRs FR; omega)]
    exact b4 j d hd
theorem op_rule (hN : 2000 ≤ N) : OpOK (fun x u => fX10_rule N x u) (fun m u => fX11_rule N m u) := by
  intro c x A u hc6 hA ⟨hl, k1, k2, iC, iR, hz⟩
  have hT := tpA_ok hA
  have n6 := hA.2.2.1
  have l11 := hl.o11 k1
  have k7 : zK u (x + 7) = 6 := l11.2.2.2.2.2.1
  have l6 := hl.o6 k7
  have k1x : zK u (x + 1) = 10 := l11.2.1
  by_cases q6 : (aR A).length = 6
  · refine ⟨-1, A, u, u, ?_, ?_, k2, ⟨hl, k1, k2, iC, iR, hz⟩, hA.mono (by omega)⟩
    · show fX10_rule N x u = _
      unfold fX10_rule
      rw [if_pos k1, iC.rl.1, q6, if_neg (by decide)]
    · show fX11_rule N (x + 193) u = _
      rw [eX11_rule N (x + 193) u (hkc k2 (hk0 hl))]
      unfold hX11_rule
      rw [iR.rl.1, q6, if_pos (by decide)]
  generalize en : (aR A).length = n at n6 q6
  have hn : n < 6 := by omega
  obtain ⟨t1, t2⟩ := c_ruleT (N := N) hl k1 iC hA hN
  have rl1 : zI u x 5 = nI n := by rw [iC.rl.1, en]
  have headC : ∀ r u3, fX5_readText N (x + 7) u = some (r, u3) → Fz (Cw x) u u3 → fX10_rule N x u = (if r = 0 then (Option.bind (zR (sI u3 (x + 1) 1 0) x 4) fun q6 => (Option.bind (zR (sI u3 (x + 1) 1 0) x 2) fun q7 => (if zK (sI u3 (x + 1) 1 0) q7 = 6 then cla ((sI u3 (x + 1) 1 0).1 + 2) (fX5_made N q7 (sI u3 (x + 1) 1 0)) fun r8 u9 => (Option.bind r8 fun q10 => (if zK u9 q6 = 26 then if (zI (sI u3 (x + 1) 1 0) x 5) < 0 ∨ zN u9 q6 ≤ (zI (sI u3 (x + 1) 1 0) x 5).toNatClampNeg then none else if zK u9 q10 = 5 then bs (sR u9 q6 (zI (sI u3 (x + 1) 1 0) x 5).toNatClampNeg (some q10)) fun u11 => (if zK u11 x = 11 then (if zK u11 x = 11 then bs (sI u11 x 5 ((zI u11 x 5) + (1 : Int32))) fun u12 => (if zK u12 x = 11 then (some ((zI u12 x 5) - (1 : Int32), u12)) else none) else none) else none) else none else none)) else none))) else (some ((-2 : Int32) - r, sI u3 (x + 1) 1 0))) := by
    intro r u3 e f
    have kx3 : zK u3 x = 11 := by rw [f.K]; exact k1
    have kx5 : zK (sI u3 (x + 1) 1 0) x = 11 := kx3
    unfold fX10_rule
    rw [if_pos k1, rl1, show (6 : Int32) = nI 6 from rfl, if_pos (nI_lt hn (by decide)), if_pos k1, show zR u x 2 = some (x + 7) from l11.2.2.2.2.1]
    show (if zK u (x + 7) = 6 then cl (fX5_readText N (x + 7) u) _ else none) = _
    rw [if_pos k7, e, cl_some, if_pos kx3, f.R, show zR u x 0 = some (x + 1) from l11.1]
    show (if zK u3 (x + 1) = 10 then bs (sI u3 (x + 1) 1 0) _ else none) = _
    rw [if_pos (by rw [f.K]; exact k1x), bs_eq]
    simp only [if_pos kx5]
  have fin : ∀ {r : Int32} {A' : AT} {u1 u2 : SG} {P : Nat → Nat → Prop}, fX10_rule N x u = some (r, u1) → LY u1 → zK u1 x = 11 → zK u1 (x + 193) = 12 → InvC u1 x A' → Hz u1 x → hX11_rule N (x + 193) u1 = some (r, u2) → Fz P u1 u2 → (∀ a k, P a k → Sr (x + 193) a k) → InvR u2 (x + 193) A' → Aok (c + 1) A' → ∃ r A' u1 u2, (fun x u => fX10_rule N x u) x u = some (r, u1) ∧ (fun m u => fX11_rule N m u) (x + 193) u1 = some (r, u2) ∧ zK u1 (x + 193) = 12 ∧ Inv u2 x A' ∧ Aok (c + 1) A' := by
    intro r A' u1 u2 P a1 a2 a3 a4 a5 a6 a7 a8 a9 a10 a11
    refine ⟨r, A', u1, u2, a1, ?_, a4, ⟨a2.fr a8.fr, by rw [a8.K]; exact a3, by rw [a8.K]; exact a4, a5.z a8 (fun a k q => by have := a9 a k q; unfold Sr at this; omega), a10, a6.z a8⟩, a11⟩
    show fX11_rule N (x + 193) u1 = _
    rw [eX11_rule N (x + 193) u1 (hkc a4 (hk0 a2))]
    exact a7
  have fsr : ∀ a k, (FC (x + 193) n a k ∨ (a = x + 193 ∧ (k = 2 ∨ k = 11))) → Sr (x + 193) a k := fun a k z => by unfold FC FRs FR at z; unfold Sr; omega
  cases er : rulS (tpA A) 13 0 0 (sk (tpA A) 0) with
  | error e =>
    obtain ⟨b1, b2⟩ := (rulS_ok hT 13 0 0 (sk (tpA A) 0) rfl (by omega) ((sk_ok hT 0).2.1 (Nat.zero_le _)) (by omega)).2 e er
    obtain ⟨u3, w1, w2⟩ := t1 e er
    have i3 := c_tape0 (iC.z w2 (fun a k q => Or.inr q))
    have f5 : Fz (Sc x) u (sI u3 (x + 1) 1 0) := (w2.w (fun a k q => by unfold Cw at q; unfold Sc; omega)).tr (Fz.sI (by unfold Sc; omega))
    have iR5 := iR.z f5 (fun a k q1 q2 q => by unfold Sc at q; omega)
    obtain ⟨r1, r2⟩ := r_ruleT (N := N) (m := x + 193) (τ := n) hT hn iR5.tp.1 (fun k hk => by rw [iR5.tp.2 k hk]; unfold tpA; rw [if_pos hk]) (by rw [iR5.rl.1, en]) hN
    obtain ⟨u2, y1, y2, y3⟩ := r1 e er
    refine fin (A' := aT0 A) (by rw [headC _ u3 w1 w2, if_neg (nI_ne0 (by omega) (by omega))]) (hl.fr f5.fr) (by rw [f5.K]; exact k1) (by rw [f5.K]; exact k2) i3 (hz.z f5) y1 y3 (fun a k z => fsr a k (by rcases z with z | z; exact Or.inl z; exact Or.inr (by omega))) ?_ (tail0 hA)
    have ol := iR5.rl
    refine invR ⟨y2, fun k hk => by omega⟩ ⟨by rw [y3.I (by unfold FC FRs FR; omega)]; exact ol.1, fun t R hR => ?_⟩ (iR5.sn.z y3 (fun k => by unfold FC FRs FR; omega) (by unfold FC FRs FR; omega) (by unfold FC FRs FR; omega)) (iR5.ac.z y3 (by unfold FC FRs FR; omega) (fun k => by unfold FC FRs FR; omega)) (iR5.im.z y3 (fun a k q1 q2 => by unfold FC FRs FR; omega))
    have tl := (List.getElem?_eq_some_iff.mp hR).1
    exact rul_keep (n := n) (ol.2 t R hR) (hA.2.2.2.1 R (List.mem_of_getElem? hR)).1 (by omega) y3 (fun a k z => by rcases z with z | z; exact Or.inl z; exact Or.inr z.1)
  | ok R =>
    obtain ⟨g1, g2, g3⟩ := (rulS_ok hT 13 0 0 (sk (tpA A) 0) rfl (by omega) ((sk_ok hT 0).2.1 (Nat.zero_le _)) (by omega)).1 R er
    have hT4 := hT.1
    obtain ⟨u3, w1, w2, w3, w4⟩ := t2 R er
    have i3 := c_tape0 (iC.z w4 (fun a k q => Or.inr q))
    have f5 : Fz (Sc x) u (sI u3 (x + 1) 1 0) := (w4.w (fun a k q => by unfold Cw at q; unfold Sc; omega)).tr (Fz.sI (by unfold Sc; omega))
    have hd := headC _ u3 w1 w4
    have s2 : zI (sI u3 (x + 1) 1 0) (x + 7) 2 = nI (flRl R).length := by rw [sI_n (by omega)]; exact w2
    have s3 : ∀ (j : Nat) (d : Int32), (flRl R)[j]? = some d → zI (sI u3 (x + 1) 1 0) (x + 8) j = d := fun j d h => by rw [sI_n (by omega)]; exact w3 j d h
    generalize e5 : sI u3 (x + 1) 1 0 = u5 at i3 f5 hd s2 s3
    have l5 := hl.fr f5.fr
    have hz5 := hz.z f5
    have kx : zK u5 x = 11 := by rw [f5.K]; exact k1
    have km : zK u5 (x + 193) = 12 := by rw [f5.K]; exact k2
    have k212 : zK u5 (x + 212) = 24 := lyK_12_35 l5 km
    have big : x + 212 < u5.1 := Nat.lt_of_not_le (fun z => by have := hz5.1 _ z; rw [k212] at this; cases this)
    have l11' := l5.o11 kx
    have k7' : zK u5 (x + 7) = 6 := by rw [f5.K]; exact k7
    have len412 : (flRl R).length ≤ 412 := by simp at g1; omega
    have mk := c_made (N := N) (x := x) (u := u5) (len := (flRl R).length) (by omega) k7' (lyR_6_1 l5 k7') (lyK_6_1 l5 k7') (lyN_6_1 l5 k7') s2 len412
    have r5 : zI u5 x 5 = nI n := by rw [i3.rl.1]; show nI (aR A).length = _; rw [en]
    generalize e9 : mdU u5 x (flRl R).length = u9 at mk
    have K9 : ∀ b, zK u9 b = if b = u5.1 + 1 then 22 else if b = u5.1 then 5 else zK u5 b := fun b => by rw [← e9]; exact md_K _ b
    have N9 : ∀ b, zN u9 b = if b = u5.1 + 1 then (flRl R).length else if b = u5.1 then 0 else zN u5 b := fun b => by rw [← e9]; exact md_N _ b
    have z9 : u9.1 = u5.1 + 2 := by rw [← e9]; rfl
    have k9x : zK u9 x = 11 := by rw [K9, if_neg (by omega), if_neg (by omega)]; exact kx
    have k916 : zK u9 (x + 16) = 26 := by rw [K9, if_neg (by omega), if_neg (by omega)]; exact lyK_11_4 l5 kx
    have n916 : zN u9 (x + 16) = 6 := by rw [N9, if_neg (by omega), if_neg (by omega)]; exact lyN_11_4 l5 kx
    have k9q : zK u9 u5.1 = 5 := by rw [K9, if_neg (by omega), if_pos rfl]
    have i9 : zI u9 x 5 = nI n := by rw [← e9, md_I (by omega)]; exact r5
    generalize ew : sI (sR u9 (x + 16) n (some u5.1)) x 5 (nI (n + 1)) = w
    have run : fX10_rule N x u = some (nI n, w) := by
      rw [hd, if_pos rfl, lyR_11_4 l5 kx]
      show (Option.bind (zR u5 x 2) fun q7 => _) = _
      rw [lyR_11_2 l5 kx]
      show (if zK u5 (x + 7) = 6 then cla (u5.1 + 2) (fX5_made N (x + 7) u5) _ else none) = _
      rw [if_pos k7', mk]
      unfold cla
      show (if u5.1 + 2 ≤ u9.1 then (if zK u9 (x + 16) = 26 then _ else none) else none) = _
      rw [if_pos (by omega), if_pos k916, r5, n916, if_neg (nI_in hn (by decide)), if_pos k9q, bs_eq, nI_clamp (by omega)]
      have ka : zK (sR u9 (x + 16) n (some u5.1)) x = 11 := k9x
      have ia : zI (sR u9 (x + 16) n (some u5.1)) x 5 = nI n := i9
      rw [if_pos ka, if_pos ka, ia, bs_eq, lit_1, nI_add, ew]
      have kw : zK w x = 11 := by rw [← ew]; exact k9x
      rw [if_pos kw, ← ew, sI_s, pk_sub (by omega)]
      rfl
    have KW : ∀ b, zK w b = if b = u5.1 + 1 then 22 else if b = u5.1 then 5 else zK u5 b := fun b => by rw [← ew]; exact K9 b
    have NW : ∀ b, zN w b = if b = u5.1 + 1 then (flRl R).length else if b = u5.1 then 0 else zN u5 b := fun b => by rw [← ew]; exact N9 b
    have IW : ∀ b k, b < u5.1 → ¬ (b = x ∧ k = 5) → zI w b k = zI u5 b k := fun b k h1 h2 => by
      rw [← ew, sI_n h2]
      show zI u9 b k = _
      rw [← e9]
      exact md_I h1
    have LW : ∀ b k, b < u5.1 → zL w b k = zL u5 b k := fun b k h1 => by
      rw [← ew]
      show zL u9 b k = _
      rw [← e9]
      exact md_L h1
    have RW : ∀ b j, zR w b j = if b = x + 16 then (if j = n then some u5.1 else zR u9 (x + 16) j) else zR u9 b j := fun b j => by
      rw [← ew]
      show zR (sR u9 (x + 16) n (some u5.1)) b j = _
      rw [sR_R]
    have R9 : ∀ b j, b < u5.1 → zR u9 b j = zR u5 b j := fun b j h => by rw [← e9]; exact md_R h
    have kl : ∀ b, ¬ zK u5 b = 0 → b < u5.1 := fun b h => Nat.lt_of_not_le (fun z => h (hz5.1 b z))
    have hx : HX u5 w := by
      refine ⟨fun b c' hb h0 => ?_, fun b hb => ?_, fun b c' j hb h0 h26 => ?_, fun b i p hb hp => ?_⟩
      · have := kl b (by rw [hb]; exact h0)
        rw [KW, if_neg (by omega), if_neg (by omega)]; exact hb
      · have := kl b hb
        rw [NW, if_neg (by omega), if_neg (by omega)]
      · have := kl b (by rw [hb]; exact h0)
        rw [RW, if_neg (fun z => by
          rw [z, lyK_11_4 l5 kx] at hb
          exact h26 hb.symm), R9 b j this]
      · have := kl b (by rw [hb]; decide)
        rw [RW] at hp
        split at hp
        · next e16 =>
          split at hp
          · have : u5.1 = p := Option.some.inj hp
            subst this
            right
            rw [KW, if_neg (by omega), if_pos rfl]
          · left
            rw [R9 _ _ (by omega)] at hp
            rw [e16]
            exact hp
        · left
          rw [R9 b i this] at hp
          exact hp
    have lw : LY w := hx.ly (q := u5.1) l5 (fun a h1 h2 => by rw [KW, if_neg h2, if_neg h1]) (by rw [KW, if_neg (by omega), if_pos rfl]) (by rw [KW, if_pos rfl]) (by rw [RW, if_neg (by omega), ← e9]; exact md_R0 _)
    -- ints and longs of w over the kinds of u5
    have fv : Fz (fun a k => (a = x ∧ k = 5) ∨ u5.1 ≤ a) u5 ((u5.1, u5.2.1, u5.2.2.1, w.2.2.2.1, w.2.2.2.2.1, u5.2.2.2.2.2) : SG) := ⟨rfl, rfl, rfl, rfl, fun a k ha => ⟨IW a k (Nat.lt_of_not_le (fun z => ha (Or.inr z))) (fun z => ha (Or.inl z)), LW a k (Nat.lt_of_not_le (fun z => ha (Or.inr z)))⟩⟩
    have hzw : Hz w x := by
      have zw : w.1 = u5.1 + 2 := by rw [← ew]; exact z9
      refine ⟨fun a ha => ?_, fun t q hq => ?_⟩
      · rw [KW, if_neg (by omega), if_neg (by omega)]; exact hz5.1 a (by omega)
      · rw [RW, if_pos rfl] at hq
        split at hq
        · have : u5.1 = q := Option.some.inj hq
          omega
        · rw [R9 _ _ (by omega)] at hq
          have := hz5.2 t q hq
          omega
    have i5' : InvC w x (aRu A R) := by
      have tp0 := i3.tp.z fv (by omega) (fun k => by omega)
      have sn0 := i3.sn.z fv (fun b k q1 q2 => by omega)
      have ac0 := i3.ac.z fv (fun k => by omega) (fun a k q1 q2 => by omega)
      have im0 := i3.im.z fv (fun a k q1 q2 => by omega)
      have tp : CTp w x 0 (aB A) := tp0
      have sn' : CSc w (x + 17) (aS A) := sn0
      have ac' : CAc w x (sG (aS A)) (aV A) := ac0
      have im' : CIm w x (aI A) := im0
      refine invC tp ⟨by rw [← ew, sI_s]; simp [en], fun t R' hR' => ?_⟩ sn' ac' im'
      by_cases et : t < (aR A).length
      · rw [List.getElem?_append_left et] at hR'
        obtain ⟨q, q1, q2, q3⟩ := i3.rl.2 t R' hR'
        have qb := hz5.2 t q q1
        refine ⟨q, by rw [RW, if_pos rfl, if_neg (by omega), R9 _ _ (by omega)]; exact q1, ⟨by rw [NW, if_neg (by omega), if_neg (by omega)]; exact q2.1, q2.2.1, fun j d hd => by rw [IW _ _ (by omega) (by omega)]; exact q2.2.2 j d hd⟩, q3⟩
      · have tl := (List.getElem?_eq_some_iff.mp hR').1
        rw [List.length_append] at tl
        simp at tl
        have et' : t = (aR A).length := by omega
        subst et'
        rw [List.getElem?_append_right (Nat.le_refl _), Nat.sub_self] at hR'
        have eR : R = R' := Option.some.inj hR'
        subst eR
        refine ⟨u5.1, by rw [RW, if_pos rfl, en, if_pos rfl], ⟨by rw [NW, if_pos rfl], len412, fun j d hd => ?_⟩, by omega⟩
        have jl := (List.getElem?_eq_some_iff.mp hd).1
        have : zI w (u5.1 + 1) j = zI u5 (x + 8) j := by
          rw [← ew, sI_n (by omega)]
          show zI u9 (u5.1 + 1) j = _
          rw [← e9]
          exact md_c (by omega) jl
        rw [this]
        exact s3 j d hd
    have iRw : InvR w (x + 193) A := by
      have i5 := iR.z f5 (fun a k q1 q2 q => by unfold Sc at q; omega)
      have iv := i5.z fv (fun a k q1 q2 q => by omega)
      exact iv
    obtain ⟨r1, r2⟩ := r_ruleT (N := N) (m := x + 193) (τ := n) hT hn iRw.tp.1 (fun k hk => by rw [iRw.tp.2 k hk]; unfold tpA; rw [if_pos hk]) (by rw [iRw.rl.1, en]) hN
    obtain ⟨u2, y1, y2, y3, y4, y5⟩ := r2 R er
    refine fin (A' := aRu A R) run lw (by rw [KW, if_neg (by omega), if_neg (by omega)]; exact kx) (by rw [KW, if_neg (by omega), if_neg (by omega)]; exact km) i5' hzw y1 y5 fsr ?_ ?_
    · have ol := iRw.rl
      refine invR ⟨y3, fun k hk => by omega⟩ ⟨by rw [y4]; simp [en], fun t R' hR' => ?_⟩ (iRw.sn.z y5 (fun k => by unfold FC FRs FR; omega) (by unfold FC FRs FR; omega) (by unfold FC FRs FR; omega)) (iRw.ac.z y5 (by unfold FC FRs FR; omega) (fun k => by unfold FC FRs FR; omega)) (iRw.im.z y5 (fun a k q1 q2 => by unfold FC FRs FR; omega))
      by_cases et : t < (aR A).length
      · rw [List.getElem?_append_left et] at hR'
        exact rul_keep (n := n) (ol.2 t R' hR') (hA.2.2.2.1 R' (List.mem_of_getElem? hR')).1 (by omega) y5 (fun a k z => by rcases z with z | z; exact Or.inl z; exact Or.inr z.1)
      · have tl := (List.getElem?_eq_some_iff.mp hR').1
        rw [List.length_append] at tl
        simp at tl
        have et' : t = (aR A).length := by omega
        subst et'
        rw [List.getElem?_append_right (Nat.le_refl _), Nat.sub_self] at hR'
        have eR : R = R' := Option.some.inj hR'
        subst eR
        rw [en]
        exact y2
    · obtain ⟨h1, h2, h3, h4, h5, h6, h7, h8⟩ := hA.mono (d := c + 1) (by omega)
      have le : (aR A).length ≤ (aR A ++ [R]).length := by simp
      refine ⟨Nat.zero_le _, h2, by show (aR A ++ [R]).length ≤ 6; simp [en]; omega, fun R' hR' => ?_, h5.mono (Nat.le_refl _) le, h6, h7, fun k S hk hS => (h8 k S hk hS).mono (Nat.le_refl _) le⟩
      rcases List.mem_append.mp (show R' ∈ aR A ++ [R] from hR') with z | z
      · exact h4 R' z
      · simp at z
        subst z
        exact ⟨by omega, g3⟩
end RULO
