/-! OPERATIONS, 13: lives -/
theorem ten_cases (x : Int32) : (x < nI 1 ∨ nI 11 ≤ x) ∨ ∃ j, 1 ≤ j ∧ j ≤ 10 ∧ x = nI j := by
  rcases pk_ix x (n := 11) (by decide) with h | h | ⟨j, hj, rfl⟩
  · exact Or.inl (Or.inl (Int32.lt_trans h (by decide)))
  · exact Or.inl (Or.inr h)
  · by_cases e : j = 0
    · subst e; exact Or.inl (Or.inl (by decide))
    · exact Or.inr ⟨j, by omega, by omega, rfl⟩
section LIVOP
variable {N x m c d : Nat} {u : SG} {A : AT} {G : Nat → Nat} {M : MT}
theorem c_life {y pp n hs : Nat} (hS : Str u (x + 18) G) (hM : Mom u (x + 119) G M) (g : Gb G) (hb : Mb c G M) (h0 : 0 < G 0) (hc : c < 600) (hn : n ≤ 60) (hy : y < 2147483648) (hp : pp ≤ 100) (rc : Nat → Int32 → Int32 → Int32 → Int32 → Int32 → Int32 → Int64 → Int32 → SG → Option (Int32 × SG)) (X1 X4 X9 : Int32) (X7 : Int64) (hN : 2000 ≤ N) : ∃ u', hgX10_lives_97 N rc N x X1 (nI n) (nI pp) X4 (nI y) (nI hs) X7 X9 0 u = rc x X1 (nI n) (nI pp) X4 (nI (lvN G pp M y n).2.1) (nI (hs + (lvN G pp M y n).2.2)) (X7 + (lN (mT (lvN G pp M y n).1) - zL u (x + 28) 5)) (X9 + 1) u' ∧ Fz (Cw x) u u' := by
  refine lps (fun f k v => hgX10_lives_97 N rc f x X1 (nI n) (nI pp) X4 (nI (lvN G pp M y k).2.1) (nI (hs + (lvN G pp M y k).2.2)) X7 X9 (nI k) v) n (fun k v => Mom v (x + 119) G (lvN G pp M y k).1 ∧ Fz (Cw x) u v) (fun r => ∃ u', r = rc x X1 (nI n) (nI pp) X4 (nI (lvN G pp M y n).2.1) (nI (hs + (lvN G pp M y n).2.2)) (X7 + (lN (mT (lvN G pp M y n).1) - zL u (x + 28) 5)) (X9 + 1) u' ∧ Fz (Cw x) u u') ?_ ?_ N 0 u (by omega) (by omega) ⟨hM, Fz.rf⟩
  · intro f v ⟨i1, i2⟩
    have e1 : zL v (x + 122) 5 = lN (mT (lvN G pp M y n).1) := i1.2.2.2.2.2.2
    refine ⟨v, ?_, i2⟩
    rw [hgX10_lives_97, if_pos (nI_le (by omega) (by omega)), bs_eq, e1, i2.L (by unfold Cw; omega)]
  · intro f k v hk ⟨i1, i2⟩
    obtain ⟨k1, k2, k3, -⟩ := lvN_ok (c := c) (pp := pp) g hb h0 hy k
    have hS1 := hS.z i2 (fun b k q1 q2 => by unfold Cw; omega)
    obtain ⟨v1, a1, a2, a3⟩ := c_draw (N := N) hS1 i1 g k1 (by omega) k2 hp (x + 117) hN
    obtain ⟨⟨fm, em⟩, hy2⟩ := drK_r G pp (lvN G pp M y k).1 (lvN G pp M y k).2.1 k2 (G 1)
    have hb2 : Mb (c + k) G (drK G pp (lvN G pp M y k).1 (lvN G pp M y k).2.1 (G 1)).1 := by rw [em]; exact k1
    have hS2 := hS1.z a3 (fun b k q1 q2 => by omega)
    obtain ⟨v2, b1, b2, -, -, b5⟩ := c_play (N := N) (a := x + 117) (b := x + 212) hS2 a2 g hb2 (by omega) h0 (by omega) (by omega) (by omega) (o' := none) (o := none) (Or.inl ⟨rfl, rfl⟩) (by omega) (by omega) hN
    refine ⟨v2, ⟨b2, i2.tr ((a3.w (fun a k q => by unfold Cw; omega)).tr (b5.w (fun a k q => by unfold SC at q; unfold Cw; omega)))⟩, ?_⟩
    rw [hgX10_lives_97, if_neg (nI_ge hk (by omega)), a1, cl_some, b1, cl_some, bs_eq, nI_add, lit_1, nI_add, Nat.add_assoc]
    rfl
theorem r_life {y pp n hs : Nat} (h : RA (zI u (m + 10)) G M) (hr : RB (zI u (m + 10)) G) (hz : zL u m 31 = lN y) (hW : ∃ W : Nat → Nat, ∀ p, p < G 1 → zI u (m + 11) p = nI (W p)) (g : Gb G) (hb : Mb c G M) (h0 : 0 < G 0) (hc : c < 600) (hn : n ≤ 60) (hy : y < 2147483648) (hp : pp ≤ 100) (rc78 : Nat → Int32 → Int32 → Int32 → Int32 → Int32 → Int32 → Int32 → SG → Option (Int32 × SG)) (X1 X4 X6 X7 X8 : Int32) (hN : 2000 ≤ N) : ∃ u', hgX11_lives_96 N rc78 N m X1 (nI n) (nI pp) X4 (nI hs) X6 X7 X8 0 u = (cl (hX11_laysBack N m u') fun _ u4 => rc78 m X1 (nI n) (nI pp) X4 (nI (hs + (lvN G pp M y n).2.2)) (X6 + (nI (mT (lvN G pp M y n).1) - X8) / nI 60) (X7 + 1) u4) ∧ zL u' m 31 = lN (lvN G pp M y n).2.1 ∧ (∃ W : Nat → Nat, ∀ p, p < G 1 → zI u' (m + 11) p = nI (W p)) ∧ Fz (SPd m) u u' := by
  refine lps (fun f k v => hgX11_lives_96 N rc78 f m X1 (nI n) (nI pp) X4 (nI (hs + (lvN G pp M y k).2.2)) X6 X7 X8 (nI k) v) n (fun k v => RA (zI v (m + 10)) G (lvN G pp M y k).1 ∧ zL v m 31 = lN (lvN G pp M y k).2.1 ∧ (∃ W : Nat → Nat, ∀ p, p < G 1 → zI v (m + 11) p = nI (W p)) ∧ Fz (SPd m) u v) (fun r => ∃ u', r = (cl (hX11_laysBack N m u') fun _ u4 => rc78 m X1 (nI n) (nI pp) X4 (nI (hs + (lvN G pp M y n).2.2)) (X6 + (nI (mT (lvN G pp M y n).1) - X8) / nI 60) (X7 + 1) u4) ∧ zL u' m 31 = lN (lvN G pp M y n).2.1 ∧ (∃ W : Nat → Nat, ∀ p, p < G 1 → zI u' (m + 11) p = nI (W p)) ∧ Fz (SPd m) u u') ?_ ?_ N 0 u (by omega) (by omega) ⟨h, hz, hW, Fz.rf⟩
  · intro f v ⟨i1, i2, i3, i4⟩
    refine ⟨v, ?_, i2, i3, i4⟩
    rw [hgX11_lives_96, if_pos (nI_le (by omega) (by omega)), if_neg (by decide), bs_eq, i1.2.2.2.1]
    rfl
  · intro f k v hk ⟨i1, i2, ⟨W, i3⟩, i4⟩
    obtain ⟨k1, k2, k3, -⟩ := lvN_ok (c := c) (pp := pp) g hb h0 hy k
    have h9 := k1.h9 g
    have hr1 := rb_z hr i4 (fun k hk => by unfold SPd SP; omega)
    obtain ⟨v1, a1, a2, a3⟩ := r_wakes (N := N) i1 hr1 g (by omega) hN
    have hr2 := rb_z hr1 a3 (fun k hk => by unfold S10; omega)
    have z1 : zL v1 m 31 = lN (lvN G pp M y k).2.1 := by rw [a3.L (by unfold S10; omega)]; exact i2
    obtain ⟨v2, b1, b2, b3, b4, b5⟩ := r_draws (N := N) (m := m) (u := v1) a2 hr2 g (by show mH (lvN G pp M y k).1 < _; omega) k2 hp z1 rc78 (hgX11_lives_96 N rc78 f) X1 (nI n) X4 (nI (hs + (lvN G pp M y k).2.2)) X6 X7 X8 (nI k) hN
    obtain ⟨dw1, dw2⟩ := dr_wake G pp (lvN G pp M y k).1 (lvN G pp M y k).2.1 (G 1)
    obtain ⟨⟨f1, e1⟩, -⟩ := drK_r G pp (wakeM G (lvN G pp M y k).1) (lvN G pp M y k).2.1 k2 (G 1)
    obtain ⟨⟨f2, e2⟩, hy2⟩ := drK_r G pp (lvN G pp M y k).1 (lvN G pp M y k).2.1 k2 (G 1)
    have hq : Meq G (drK G pp (wakeM G (lvN G pp M y k).1) (lvN G pp M y k).2.1 (G 1)).1 (wakeM G (drK G pp (lvN G pp M y k).1 (lvN G pp M y k).2.1 (G 1)).1) := by
      refine ⟨by rw [e1, e2]; rfl, by rw [e1, e2]; rfl, by rw [e1, e2]; rfl, fun p hp => ⟨?_, by rw [e1, e2]; rfl, by rw [e1, e2]; rfl, by rw [e1, e2]; rfl⟩, fun l hl => by rw [e1, e2]; rfl⟩
      rw [dw2 p]
      show (mA _ p && !wk G p (mH (drK G pp (lvN G pp M y k).1 (lvN G pp M y k).2.1 (G 1)).1)) = _
      have : mH (drK G pp (lvN G pp M y k).1 (lvN G pp M y k).2.1 (G 1)).1 = mH (lvN G pp M y k).1 := by rw [e2]; rfl
      rw [this]
    have hb2 : Mb (c + k) G (wakeM G (drK G pp (lvN G pp M y k).1 (lvN G pp M y k).2.1 (G 1)).1) := by
      have : Mb (c + k) G (drK G pp (lvN G pp M y k).1 (lvN G pp M y k).2.1 (G 1)).1 := by rw [e2]; exact k1
      exact this
    have hr3 := rb_z hr2 b5 (fun k hk => by unfold SPd SP; omega)
    have w2 : ∀ p, p < G 1 → zI v2 (m + 11) p = nI (W p) := fun p hp => by rw [b4 p, a3.I (by unfold S10; omega)]; exact i3 p hp
    obtain ⟨v3, c1, c2, c3, c4⟩ := r_shares (N := N) (b2.congr hq) hr3 g hb2 (by omega) w2 hN
    refine ⟨v3, ⟨c2, by rw [c3.L (by unfold SP; omega), b3, dw1]; rfl, ⟨_, c4⟩, ((i4.tr (a3.w (fun a k q => Or.inl (by unfold S10 at q; unfold SP; omega)))).tr b5).tr (c3.w (fun a k q => Or.inl q))⟩, ?_⟩
    rw [hgX11_lives_96, if_neg (nI_ge hk (by omega)), a1, cl_some, b1, c1, cl_some, bs_eq, nI_add, lit_1, nI_add, Nat.add_assoc]
    rfl
theorem op_lives (p1 p2 p3 p4 : Int32) (hN : 2000 ≤ N) : OpOK (fun x u => fX10_lives N x p1 p2 p3 p4 u) (fun m u => fX11_lives N m p1 p2 p3 p4 u) := by
  refine op_ask (fun x u h => eX10_lives N x p1 p2 p3 p4 u h) (fun m u h => eX11_lives N m p1 p2 p3 p4 u h) (fun c x A hc hA => ?_)
  obtain ⟨g, hb, -, -, -, y, hy, ey⟩ := hA.2.2.2.2.1
  have g1 := g.2.1
  rcases Nat.eq_zero_or_pos (sG (aS A) 0) with h0 | h0
  · refine ⟨-1, fun u _ _ iC => ⟨u, ?_, Fz.rf⟩, fun m u iR => ⟨u, ?_, iR, Fz.rf⟩⟩
    · unfold hX10_lives; rw [c_isTold iC.sn.1 g, cl_some, if_pos (told0 h0)]
    · unfold hX11_lives; rw [r_isStreet iR.sn.1.1 g, cl_some, if_pos (told0 h0)]
  rcases ten_cases p1 with h | ⟨lv, l1, l2, rfl⟩
  · refine ⟨-1, fun u _ _ iC => ⟨u, ?_, Fz.rf⟩, fun m u iR => ⟨u, ?_, iR, Fz.rf⟩⟩
    · unfold hX10_lives
      rw [c_isTold iC.sn.1 g, cl_some, if_neg (told1 h0)]
      split
      · rfl
      · rename_i hq
        rcases h with h | h
        · exact absurd h hq
        · rw [if_pos (show (10 : Int32) < p1 from nI_lt_of (by decide) h)]
    · unfold hX11_lives; rw [r_isStreet iR.sn.1.1 g, cl_some, if_neg (told1 h0), x_inB0 (b := 10) (q := 10) (by decide) rfl h, cl_some, if_pos rfl]
  have a1 : ¬ nI lv < (1 : Int32) := nI_nlt l1 (by omega)
  have a2 : ¬ (10 : Int32) < nI lv := nI_nlt l2 (by decide)
  rcases span_cases p2 with h | ⟨n, n1, n2, rfl⟩
  · refine ⟨-1, fun u _ _ iC => ⟨u, ?_, Fz.rf⟩, fun m u iR => ⟨u, ?_, iR, Fz.rf⟩⟩
    · unfold hX10_lives; rw [c_isTold iC.sn.1 g, cl_some, if_neg (told1 h0), if_neg a1, if_neg a2, c_isSpan0 h, cl_some, if_pos rfl]
    · unfold hX11_lives; rw [r_isStreet iR.sn.1.1 g, cl_some, if_neg (told1 h0), x_inB1 (b := 10) (q := 10) (by decide) rfl l1 l2, cl_some, if_neg (by decide), x_inB0 (b := 60) (q := 60) (by decide) rfl h, cl_some, if_pos rfl]
  cases e3 : pB p3 101 with
  | false =>
    refine ⟨-1, fun u _ _ iC => ⟨u, ?_, Fz.rf⟩, fun m u iR => ⟨u, ?_, iR, Fz.rf⟩⟩
    · unfold hX10_lives; rw [c_isTold iC.sn.1 g, cl_some, if_neg (told1 h0), if_neg a1, if_neg a2, c_isSpan1 n1 n2, cl_some, if_neg (by decide), show (100 : Int32) = nI 100 from rfl, pB_if (by decide), e3]; rfl
    · unfold hX11_lives; rw [r_isStreet iR.sn.1.1 g, cl_some, if_neg (told1 h0), x_inB1 (b := 10) (q := 10) (by decide) rfl l1 l2, cl_some, if_neg (by decide), x_inB1 (b := 60) (q := 60) (by decide) rfl n1 n2, cl_some, if_neg (by decide), x_inb (b := 100) (q := 100) (by decide) rfl, cl_some, e3, if_pos (by decide)]
  | true =>
  obtain ⟨pp, hp, rfl⟩ := pB_t (by decide) e3
  cases e4 : pB p4 2 with
  | false =>
    refine ⟨-1, fun u _ _ iC => ⟨u, ?_, Fz.rf⟩, fun m u iR => ⟨u, ?_, iR, Fz.rf⟩⟩
    · unfold hX10_lives; rw [c_isTold iC.sn.1 g, cl_some, if_neg (told1 h0), if_neg a1, if_neg a2, c_isSpan1 n1 n2, cl_some, if_neg (by decide), show (100 : Int32) = nI 100 from rfl, pB_if (by decide), e3, if_pos rfl, lit_1, pB_if2 (by decide), e4]; rfl
    · unfold hX11_lives; rw [r_isStreet iR.sn.1.1 g, cl_some, if_neg (told1 h0), x_inB1 (b := 10) (q := 10) (by decide) rfl l1 l2, cl_some, if_neg (by decide), x_inB1 (b := 60) (q := 60) (by decide) rfl n1 n2, cl_some, if_neg (by decide), x_inb (b := 100) (q := 100) (by decide) rfl, cl_some, e3, if_neg (by decide), x_inb (b := 1) (q := 1) (by decide) rfl, cl_some, e4, if_pos (by decide)]
  | true =>
  obtain ⟨j, hj, rfl⟩ := pB_t (by decide) e4
  have hy' : y < 2147483648 := hy
  have hp' : pp ≤ 100 := by omega
  refine ⟨nI (if j = 0 then (lvO (sG (aS A)) pp n (sM (aS A)) y lv).2.1 else (lvO (sG (aS A)) pp n (sM (aS A)) y lv).2.2), fun u _ _ iC => ?_, fun m u iR => ?_⟩
  · unfold hX10_lives
    have ex : zI u (x + 17) 4 = nI y := by rw [← ey]; exact iC.sn.2.2.2.2.2
    rw [c_isTold iC.sn.1 g, cl_some, if_neg (told1 h0), if_neg a1, if_neg a2, c_isSpan1 n1 n2, cl_some, if_neg (by decide), show (100 : Int32) = nI 100 from rfl, pB_if (by decide), e3, if_pos rfl, lit_1, pB_if2 (by decide), e4, if_pos rfl, bs_eq, ex]
    refine lps (fun f k v => hgX10_lives_74 N f x (nI lv) (nI n) (nI pp) (nI j) (nI (lvO (sG (aS A)) pp n (sM (aS A)) y k).1) (nI (lvO (sG (aS A)) pp n (sM (aS A)) y k).2.1) (lN (60 * (lvO (sG (aS A)) pp n (sM (aS A)) y k).2.2)) (nI k) v) lv (fun k v => Fz (Cw x) u v) (fun r => ∃ u1, r = some (_, u1) ∧ Fz (Cw x) u u1) ?_ ?_ N 0 u (by omega) (by omega) Fz.rf
    · intro f v i1
      refine ⟨v, ?_, i1⟩
      have ho := (lvO_ok (c := c) (pp := pp) (n := n) g hb h0 hy' lv).2.2
      have hm1 : 300 * n * lv ≤ 300 * 60 * 10 := Nat.mul_le_mul (Nat.mul_le_mul_left 300 n2) l2
      rw [hgX10_lives_74, if_pos (nI_le (by omega) (by omega))]
      rcases (by omega : j = 0 ∨ j = 1) with rfl | rfl
      · rw [if_pos (by decide)]; rfl
      · rw [if_neg (by decide), if_neg (by decide), show (60 : Int64) = lN 60 from rfl, pk_lDiv (by omega) (by decide) (by decide), lN_i, Nat.mul_div_cancel_left _ (by decide)]; rfl
    · intro f k v hk i1
      have iC1 : InvC v x A := iC.z i1 (fun a k q => Or.inr q)
      obtain ⟨q1, q2, q3⟩ := lvO_ok (c := c) (pp := pp) (n := n) g hb h0 hy' k
      obtain ⟨v1, b1, b2, b3⟩ := c_momCopy (N := N) (a0 := x + 119) (p1 := x + 25) g iC1.sn.2.1 (by omega)
      have f1 : Fz (Cw x) v v1 := b3.w (fun a k q => by unfold SM at q; unfold Cw; omega)
      have iC2 : InvC v1 x A := iC1.z f1 (fun a k q => Or.inr q)
      obtain ⟨v2, d1, d2⟩ := c_life (N := N) (x := x) (hs := (lvO (sG (aS A)) pp n (sM (aS A)) y k).2.1) iC2.sn.1 b2 g hb h0 hc n2 q1 hp' (hgX10_lives_74 N f) (nI lv) (nI j) (nI k) (lN (60 * (lvO (sG (aS A)) pp n (sM (aS A)) y k).2.2)) hN
      refine ⟨v2, (i1.tr f1).tr d2, ?_⟩
      obtain ⟨-, -, -, q, -, k5⟩ := lvN_ok (c := c) (pp := pp) g hb h0 q1 n
      have et : zL v1 (x + 28) 5 = lN (mT (sM (aS A))) := iC2.sn.2.1.2.2.2.2.2.2
      have eo : 60 * (lvO (sG (aS A)) pp n (sM (aS A)) y (k + 1)).2.2 = 60 * (lvO (sG (aS A)) pp n (sM (aS A)) y k).2.2 + 60 * q := by
        rw [lvO]
        show 60 * (_ + (mT _ - mT (sM (aS A))) / 60) = _
        rw [k5]
        omega
      rw [hgX10_lives_74, if_neg (nI_ge hk (by omega)), b1, cl_some, d1, et, k5, lN_sub (by omega), show mT (sM (aS A)) + 60 * q - mT (sM (aS A)) = 60 * q from by omega, lN_add, ← eo, lit_1, nI_add]
      rfl
  · unfold hX11_lives
    have ex : zI u m 22 = nI y := by rw [← ey]; exact iR.sn.2.2
    obtain ⟨u1, r1, r2, r3, r4⟩ := r_keeps (N := N) (sL u m 31 (lN y)) m hN
    rw [r_isStreet iR.sn.1.1 g, cl_some, if_neg (told1 h0), x_inB1 (b := 10) (q := 10) (by decide) rfl l1 l2, cl_some, if_neg (by decide), x_inB1 (b := 60) (q := 60) (by decide) rfl n1 n2, cl_some, if_neg (by decide), x_inb (b := 100) (q := 100) (by decide) rfl, cl_some, e3, if_neg (by decide), x_inb (b := 1) (q := 1) (by decide) rfl, cl_some, e4, if_neg (by decide), bs_eq, ex, nI_l hy, r1, cl_some]
    have f0 : Fz (fun a k => SPd m a k ∨ a = m + 13 ∨ a = m + 11) u u1 := (Fz.sL (Or.inl (Or.inr ⟨rfl, rfl⟩))).tr (r4.w (fun a k q => Or.inr q))
    refine lps (fun f k v => hgX11_lives_78 N f m (nI lv) (nI n) (nI pp) (nI j) (nI (lvO (sG (aS A)) pp n (sM (aS A)) y k).2.1) (nI (lvO (sG (aS A)) pp n (sM (aS A)) y k).2.2) (nI k) v) lv (fun k v => (∀ i, i < 45 → zI v (m + 10) i = zI u (m + 10) i) ∧ (∀ i, i < 45 → zI v (m + 13) i = zI u (m + 10) i) ∧ zL v m 31 = lN (lvO (sG (aS A)) pp n (sM (aS A)) y k).1 ∧ (∃ W : Nat → Nat, ∀ p, p < sG (aS A) 1 → zI v (m + 11) p = nI (W p)) ∧ Fz (fun a k => SPd m a k ∨ a = m + 13 ∨ a = m + 11) u v) (fun r => ∃ u1, r = some (_, u1) ∧ InvR u1 m A ∧ Fz (Sr m) u u1) ?_ ?_ N 0 u1 (by omega) (by omega) ⟨fun i hi => by rw [r4.I (by omega), sL_I], fun i hi => by rw [r2 i hi, sL_I], by rw [r4.L (by omega), sL_s]; rfl, ⟨fun _ => 0, fun p hp => r3 p (by omega)⟩, f0⟩
    · intro f v ⟨i1, i2, i3, i4, i5⟩
      refine ⟨v, ?_, r_back iR i1 i5 (fun a k q1 q2 q => by unfold SPd SP at q; unfold Rw; omega), i5.w (fun a k q => by unfold SPd SP at q; unfold Sr; omega)⟩
      rw [hgX11_lives_78, if_pos (nI_le (by omega) (by omega))]
      rcases (by omega : j = 0 ∨ j = 1) with rfl | rfl
      · rw [if_pos (by decide)]; rfl
      · rw [if_neg (by decide)]; rfl
    · intro f k v hk ⟨i1, i2, i3, i4, i5⟩
      obtain ⟨q1, q2, q3⟩ := lvO_ok (c := c) (pp := pp) (n := n) g hb h0 hy' k
      have hRA := iR.sn.1.1.cg (f' := zI v (m + 10)) i1 g
      have hRB := rb_z iR.sn.1.2.1 i5 (fun k hk => by unfold SPd SP; omega)
      obtain ⟨v2, d1, d2, d3, d4⟩ := r_life (N := N) (hs := (lvO (sG (aS A)) pp n (sM (aS A)) y k).2.1) hRA hRB i3 i4 g hb h0 hc n2 q1 hp' (hgX11_lives_78 N f) (nI lv) (nI j) (nI (lvO (sG (aS A)) pp n (sM (aS A)) y k).2.2) (nI k) (nI (mT (sM (aS A)))) hN
      obtain ⟨v3, t1, t2, t3⟩ := r_laysBack (N := N) v2 m hN
      obtain ⟨-, -, -, q, hq, k5⟩ := lvN_ok (c := c) (pp := pp) g hb h0 q1 n
      refine ⟨v3, ⟨fun i hi => by rw [t2 i hi, d4.I (by unfold SPd SP; omega)]; exact i2 i hi, fun i hi => by rw [t3.I (by unfold S10; omega), d4.I (by unfold SPd SP; omega)]; exact i2 i hi, by rw [t3.L (by unfold S10; omega), d2]; rfl, ?_, (i5.tr (d4.w (fun a k q => Or.inl q))).tr (t3.w (fun a k q => Or.inl (Or.inl (by unfold S10 at q; unfold SP; omega))))⟩, ?_⟩
      · obtain ⟨W, hW⟩ := d3
        exact ⟨W, fun p hp => by rw [t3.I (by unfold S10; omega)]; exact hW p hp⟩
      · have eo : (lvO (sG (aS A)) pp n (sM (aS A)) y (k + 1)).2.2 = (lvO (sG (aS A)) pp n (sM (aS A)) y k).2.2 + q := by
          rw [lvO]
          show _ + (mT _ - mT (sM (aS A))) / 60 = _
          rw [k5]
          omega
        rw [hgX11_lives_78, if_neg (nI_ge hk (by omega)), bs_eq, hRA.2.2.2.1, d1, t1, cl_some, k5, pk_sub (by omega), show mT (sM (aS A)) + 60 * q - mT (sM (aS A)) = 60 * q from by omega, pk_div (by omega) (by decide) (by decide), Nat.mul_div_cancel_left _ (by decide), nI_add, ← eo, lit_1, nI_add]
        rfl
end LIVOP
