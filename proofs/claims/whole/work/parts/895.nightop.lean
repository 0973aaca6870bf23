/-! OPERATIONS, 12: nights, both sides -/
section OPS12
variable {N : Nat}
theorem x64_m1 (x : Int32) : x.toInt64 < (-1 : Int64) ↔ x < (-1 : Int32) := by
  rw [Int64.lt_iff_toInt_lt, Int32.lt_iff_toInt_lt, Int32.toInt_toInt64]
  rfl
theorem x_inm {u : SG} {x : Int32} {b : Nat} (hb : b + 1 < 2 ^ 31) {q : Int64} (hq : q = lN b) : ((x < (-1 : Int32) ∨ nI (b + 1) ≤ x) ∧ fX11_in N x.toInt64 (-1 : Int64) q u = some (0, u)) ∨ (x = -1 ∧ fX11_in N x.toInt64 (-1 : Int64) q u = some (1, u)) ∨ ∃ j, j ≤ b ∧ x = nI j ∧ fX11_in N x.toInt64 (-1 : Int64) q u = some (1, u) := by
  unfold fX11_in
  rcases pk_ix x (n := b + 1) hb with h | h | ⟨j, hj, rfl⟩
  · by_cases h1 : x < (-1 : Int32)
    · exact Or.inl ⟨Or.inl h1, by rw [if_pos (by rw [lg_cmp_lt, x64_m1]; exact h1)]⟩
    · have e : x = -1 := by
        apply Int32.toInt_inj.mp
        rw [Int32.lt_iff_toInt_lt] at h h1
        have e1 : (-1 : Int32).toInt = -1 := by decide
        have e0 : (0 : Int32).toInt = 0 := by decide
        omega
      subst e
      refine Or.inr (Or.inl ⟨rfl, ?_⟩)
      rw [if_neg (by rw [lg_cmp_lt, x64_m1]; decide), if_neg]
      rw [lg_cmp_gt, hq, x64_gt _ _ (by omega)]
      intro z
      exact absurd (Int32.lt_trans z (show (-1 : Int32) < 0 by decide)) (nI_pos (by omega))
  · refine Or.inl ⟨Or.inr h, ?_⟩
    split
    · rfl
    · rw [if_pos (by rw [lg_cmp_gt, hq]; exact (x64_gt x b (by omega)).mpr (nI_lt_of hb h))]
  · refine Or.inr (Or.inr ⟨j, by omega, rfl, ?_⟩)
    rw [if_neg (by rw [lg_cmp_lt, x64_m1]; exact fun z => nI_pos (show j < 2 ^ 31 by omega) (Int32.lt_trans z (by decide))), if_neg (by rw [lg_cmp_gt, hq, x64_gt _ _ (by omega)]; exact nI_nlt (by omega) (by omega))]
theorem op_nights (p1 p2 p3 p4 : Int32) (hN : 2000 ≤ N) : OpOK (fun x u => fX10_nights N x p1 p2 p3 p4 u) (fun m u => fX11_nights N m p1 p2 p3 p4 u) := by
  refine op_ask (fun x u h => eX10_nights N x p1 p2 p3 p4 u h) (fun m u h => eX11_nights N m p1 p2 p3 p4 u h) (fun c x A hc hA => ?_)
  obtain ⟨g, hb, -⟩ := hA.2.2.2.2.1
  have g1 := g.2.1
  cases e1 : pB p1 (sG (aS A) 1) with
  | false =>
    refine ⟨-3, fun u _ _ iC => ⟨u, ?_, Fz.rf⟩, fun m u iR => ⟨u, ?_, iR, Fz.rf⟩⟩
    · unfold hX10_nights; rw [c_isPb iC.sn.1 g, cl_some, e1, if_pos (by decide)]
    · unfold hX11_nights; rw [r_isPb iR.sn.1.1 g, cl_some, e1, if_pos (by decide)]
  | true =>
  obtain ⟨p, hp, rfl⟩ := pB_t (by omega) e1
  have n1 : ¬ nI (b2n true) = 0 := by decide
  have i2 := fun u => x_in1b (N := N) (u := u) (x := p2) (b := 8) (by decide) (q := 8) rfl
  by_cases h2 : p2 < nI 1 ∨ nI 9 ≤ p2
  · refine ⟨-3, fun u _ _ iC => ⟨u, ?_, Fz.rf⟩, fun m u iR => ⟨u, ?_, iR, Fz.rf⟩⟩
    · unfold hX10_nights
      rw [c_isPb iC.sn.1 g, cl_some, e1, if_neg n1, lit_1]
      by_cases q : p2 < nI 1
      · rw [if_pos q]
      · rw [if_neg q, lit_8, if_neg (fun z => by
          have := (h2.resolve_left q)
          rw [Int32.le_iff_toInt_le, nI_toInt (by decide)] at z this
          omega)]
    · unfold hX11_nights
      rw [r_isPb iR.sn.1.1 g, cl_some, e1, if_neg n1]
      rcases i2 u with ⟨-, e⟩ | ⟨j, j1, j2, e, -⟩
      · rw [e, cl_some, if_pos rfl]
      · subst e
        rcases h2 with h2 | h2
        · exact absurd h2 (nI_nlt (by omega) (by omega))
        · exact absurd h2 (nI_ge (by omega) (by decide))
  have hn : ∃ n, 1 ≤ n ∧ n ≤ 8 ∧ p2 = nI n ∧ ∀ u, fX11_in N p2.toInt64 (1 : Int64) (8 : Int64) u = some (1, u) := by
    rcases i2 ((0, fun _ => 0, fun _ => 0, fun _ _ => 0, fun _ _ => 0, fun _ _ => none) : SG) with ⟨h, -⟩ | ⟨j, j1, j2, e, -⟩
    · exact absurd h h2
    · refine ⟨j, j1, j2, e, fun u => ?_⟩
      rcases i2 u with ⟨h, -⟩ | ⟨_, _, _, _, h⟩
      · exact absurd h h2
      · exact h
  obtain ⟨n, n1', n8, rfl, in2⟩ := hn
  have c2 : ¬ nI n < (1 : Int32) := by rw [lit_1]; exact nI_nlt (by omega) (by omega)
  have c2' : nI n ≤ (8 : Int32) := by rw [lit_8]; exact nI_le (by omega) (by decide)
  cases e3 : pB p3 100 with
  | false =>
    refine ⟨-3, fun u _ _ iC => ⟨u, ?_, Fz.rf⟩, fun m u iR => ⟨u, ?_, iR, Fz.rf⟩⟩
    · unfold hX10_nights; rw [c_isPb iC.sn.1 g, cl_some, e1, if_neg n1, if_neg c2, if_pos c2', lit_99, pB_if (by decide), e3]; rfl
    · unfold hX11_nights; rw [r_isPb iR.sn.1.1 g, cl_some, e1, if_neg n1, in2, cl_some, if_neg (by decide), x_inb (b := 99) (q := 99) (by decide) rfl, cl_some, e3, if_pos (by decide)]
  | true =>
  have hcN : ∀ u, InvC u x A → hX10_nights N x (nI p) (nI n) p3 p4 u = (if p4 < (-1 : Int32) then some ((-3 : Int32), u) else if p4 ≤ (7 : Int32) then (cl (hX10_priceNight N x (nI p) u) fun r5 u6 => (cl (fJ9_max_7cf53 N (0 : Int32) (((zI u6 (x + 27) p) + (nI n * (zI u6 (x + 19) p))) - p3) u6) fun r13 u14 => (if (nI n * r5) < r13 then (some ((-2 : Int32), u14)) else (if p4 < nI n then (if p4 = (-1 : Int32) then (cl (hX10_evenCost N x (nI n) r13 u14) fun r17 u18 => (some (r17, u18))) else (cl (hX10_sleepInNight N x (nI n) r13 r5 p4 u14) fun r15 u16 => (some (r15, u16)))) else (some ((-2 : Int32), u14)))))) else some ((-3 : Int32), u)) := by
    intro u iC
    unfold hX10_nights
    rw [c_isPb iC.sn.1 g, cl_some, e1, if_neg n1, if_neg c2, if_pos c2', lit_99, pB_if (by decide), e3, if_pos rfl, nI_clamp (by omega)]
    simp only [show ¬ (nI p < 0 ∨ 5 ≤ p) from fun z => z.elim (nI_pos (by omega)) (by omega), if_false]
  have hrN : ∀ m u, InvR u m A → hX11_nights N m (nI p) (nI n) p3 p4 u = cl (fX11_in N p4.toInt64 (-1 : Int64) (7 : Int64) u) fun r7 u8 => (if r7 = 0 then (some ((-3 : Int32), u8)) else (cl (hX11_personOf N m (nI p) (4 : Int32) u8) fun r9 u10 => (cl (hX11_personOf N m (nI p) (0 : Int32) u10) fun r11 u12 => (bs ((r9 + (nI n * r11)) - p3) fun v13 => (cl (hX11_fillsNight N m (nI p) u12) fun r14 u15 => (cl (hX11_fillsLeast N m (nI p) (nI n) u15) fun r16 u17 => (if (80 : Int32) < v13 then (some ((-2 : Int32), u17)) else (cl (hX11_leastOf N m (nI n) v13 u17) fun r18 u19 => (if 0 ≤ r18 then (if p4 = (-1 : Int32) then (cl (hX11_leastOf N m (nI n) v13 u19) fun r20 u21 => (some (r20, u21))) else (if p4 < nI n then (hgX11_nights_129 N N m (nI p) (nI n) p4 v13 (0 : Int32) (0 : Int32) u19) else (some ((-2 : Int32), u19)))) else (some ((-2 : Int32), u19))))))))))) := by
    intro m u iR
    unfold hX11_nights
    rw [r_isPb iR.sn.1.1 g, cl_some, e1, if_neg n1, in2, cl_some, if_neg (by decide), x_inb (b := 99) (q := 99) (by decide) rfl, cl_some, e3, if_neg (by decide)]
  obtain ⟨b, hb9, rfl⟩ := pB_t (by decide) e3
  have i4 := fun u => x_inm (N := N) (u := u) (x := p4) (b := 7) (by decide) (q := 7) rfl
  by_cases h4 : p4 < (-1 : Int32) ∨ nI 8 ≤ p4
  · refine ⟨-3, fun u _ _ iC => ⟨u, ?_, Fz.rf⟩, fun m u iR => ⟨u, ?_, iR, Fz.rf⟩⟩
    · rw [hcN u iC]
      by_cases q : p4 < (-1 : Int32)
      · rw [if_pos q]
      · rw [if_neg q, lit_7, if_neg (fun z => by
          have := (h4.resolve_left q)
          rw [Int32.le_iff_toInt_le, nI_toInt (by decide)] at z this
          omega)]
    · rw [hrN m u iR]
      rcases i4 u with ⟨-, e⟩ | ⟨rfl, -⟩ | ⟨j, j1, rfl, -⟩
      · rw [e, cl_some, if_pos rfl]
      · exact absurd h4 (by decide)
      · rcases h4 with h4 | h4
        · exact absurd (Int32.lt_trans h4 (by decide)) (nI_pos (show j < 2 ^ 31 by omega))
        · exact absurd h4 (nI_ge (by omega) (by decide))
  have h4' : p4 = -1 ∨ ∃ w, w ≤ 7 ∧ p4 = nI w := by
    rcases i4 ((0, fun _ => 0, fun _ => 0, fun _ _ => 0, fun _ _ => 0, fun _ _ => none) : SG) with ⟨h, -⟩ | ⟨e, -⟩ | ⟨j, j1, e, -⟩
    · exact absurd h h4
    · exact Or.inl e
    · exact Or.inr ⟨j, j1, e⟩
  have in4 : ∀ u, fX11_in N p4.toInt64 (-1 : Int64) (7 : Int64) u = some (1, u) := by
    intro u
    rcases i4 u with ⟨h, -⟩ | ⟨-, e⟩ | ⟨_, _, _, e⟩
    · exact absurd h h4
    · exact e
    · exact e
  have c4 : ¬ p4 < (-1 : Int32) := fun z => h4 (Or.inl z)
  have c4' : p4 ≤ (7 : Int32) := by
    rcases h4' with rfl | ⟨w, hw, rfl⟩
    · decide
    · rw [lit_7]; exact nI_le hw (by decide)
  have gp := g.2.2.2.2.2.2.1 p hp
  have bp := hb.2.2.2.1 p hp
  have m10 := nMo_10 (G := sG (aS A)) (p := p)
  have nm : n * nMo (sG (aS A)) p ≤ 80 := by have := Nat.mul_le_mul n8 m10; omega
  have na : n * sG (aS A) (10 + 6 * p) ≤ 80 := by have := Nat.mul_le_mul n8 gp.1; omega
  generalize ea : mD (sM (aS A)) p + n * sG (aS A) (10 + 6 * p) = a
  have al : a ≤ 1079 := by omega
  refine ⟨if n * nMo (sG (aS A)) p < a - b then -2 else if p4 = -1 then nI (nE (sG (aS A)) p n (a - b)) else if p4 < nI n then nI (kx (sG (aS A)) p (n - p4.toNatClampNeg - 1) (lf (sG (aS A)) p n (a - b) p4.toNatClampNeg)) else -2, fun u _ _ iC => ?_, fun m u iR => ?_⟩
  · obtain ⟨v, k1, k2, k3⟩ := c_price (N := N) iC hA hp hN
    have iv := iC.z k2 (fun a k q => Or.inr q)
    have d1 : zI v (x + 27) p = nI (mD (sM (aS A)) p) := (iv.sn.2.1.2.2.2.2.2.1 p hp).2.1
    have d2 : zI v (x + 19) p = nI (sG (aS A) (10 + 6 * p)) := (iv.sn.1.2.2.2.2.2.1 p hp).1
    refine ⟨v, ?_, k2⟩
    rw [hcN u iC, if_neg c4, if_pos c4', k1, cl_some, d1, d2, pk_mul, nI_add, ea, x_max0 (by omega) (by omega), cl_some, pk_mul, iflt (by omega) (by omega)]
    by_cases q : n * nMo (sG (aS A)) p < a - b
    · rw [if_pos q, if_pos q]
    · rw [if_neg q, if_neg q]
      rcases h4' with rfl | ⟨w, hw, rfl⟩
      · rw [if_pos (Int32.lt_of_lt_of_le (b := 0) (by decide) (nI_pos' (by omega))), if_pos rfl, if_pos rfl, c_even g k3 n8 (by omega), cl_some]
      · rw [if_neg (show ¬ nI w = (-1 : Int32) from foI_ne (show w < 2 ^ 31 by omega)), if_neg (show ¬ nI w = (-1 : Int32) from foI_ne (show w < 2 ^ 31 by omega)), nI_clamp (by omega), iflt (by omega) (by omega), iflt (by omega) (by omega)]
        by_cases qw : w < n
        · rw [if_pos qw, if_pos qw, c_inNight g k3 n8 qw (by omega) hN, cl_some]
        · rw [if_neg qw, if_neg qw]
  · obtain ⟨v, k1, k2, k3⟩ := r_fillN (N := N) iR hA hp hN
    have iv := F14.ir iR k2
    obtain ⟨w2, l1, l2, l3, l4⟩ := r_fillL (N := N) iv hA hp n8 k3 hN
    have iw := F14.ir iv l2
    refine ⟨w2, ?_, iw, (k2.tr l2).w (fun a k q => by unfold F14 at q; unfold Sr; omega)⟩
    have q1 := iR.sn.1.1.2.2.2.2.1 p hp
    have hv0 : hV (nI a - nI b) ((a : Int) - b) := hV_sub (hV_nI (by omega)) (by omega) (by omega)
    rw [hrN m u iR, in4, cl_some, if_neg (by decide), r_pOf4 (by omega), cl_some, r_pOf0 (by omega), cl_some, bs_eq, q1.2.2.2.2.1, show zI u (m + 10) (10 + 6 * p + 0) = nI (sG (aS A) (10 + 6 * p)) from q1.1, pk_mul, nI_add, ea, k1, cl_some, l1, cl_some]
    have et : ((a : Int) - b).toNat = a - b := by omega
    by_cases q80 : (80 : Int) < (a : Int) - b
    · rw [if_pos (by rw [Int32.lt_iff_toInt_lt, hv0.1]; exact q80), if_pos (by omega)]
    · rw [if_neg (by rw [Int32.lt_iff_toInt_lt, hv0.1]; exact q80), r_least (l4 n (Nat.le_refl _)) n8 hv0 (by omega), cl_some, r_least (l4 n (Nat.le_refl _)) n8 hv0 (by omega), cl_some, et]
      unfold nV
      by_cases q : n * nMo (sG (aS A)) p < a - b
      · rw [if_neg (show ¬ a - b ≤ n * nMo (sG (aS A)) p by omega), if_neg (by decide), if_pos q]
      · have ee := nE_le (p := p) g n8 (show a - b ≤ n * nMo (sG (aS A)) p by omega)
        rw [if_pos (show a - b ≤ n * nMo (sG (aS A)) p by omega), if_pos (nI_pos' (by omega)), if_neg q]
        rcases h4' with rfl | ⟨w, hw, rfl⟩
        · rw [if_pos rfl, if_pos rfl]
        · rw [if_neg (show ¬ nI w = (-1 : Int32) from foI_ne (show w < 2 ^ 31 by omega)), if_neg (show ¬ nI w = (-1 : Int32) from foI_ne (show w < 2 ^ 31 by omega)), nI_clamp (by omega), iflt (by omega) (by omega), iflt (by omega) (by omega)]
          by_cases qw : w < n
          · rw [if_pos qw, if_pos qw, r_inNight iw hA hp l3 n8 l4 qw hv0 (by omega) (by omega) (by rw [et]; omega) hN, et]
          · rw [if_neg qw, if_neg qw]
end OPS12
