/-! OPERATIONS, 13: lives -/
theorem ten_cases (x : Int32) : (x < nI 1 ∨ nI 11 ≤ x) ∨ ∃ j, 1 ≤ j ∧ j ≤ 10 ∧ x = nI j := by
  rcases pk_ix x (n := 11) (by decide) with h | h | ⟨j, hj, rfl⟩
  · exact Or.inl (Or.inl (Int32.lt_trans h (by decide)))
  · exact Or.inl (Or.inr h)
  · by_cases e : j = 0
    · subst e; exact Or.inl (Or.inl (by decide))
    · exact Or.inr ⟨j, by omega, by omega, rfl⟩
section LIVOP
variable {N x m c d : Nat} {u : SG} {A : AT} {G : Nat → Nat} {M : MT}
theorem c_life {y pp n hs : Nat} (hS : Str u (x + 18) G) (hM : Mom u (x + 119) G M) (g : Gb G) (hb : Mb c G M) (h0 : 0 < G 0) (hc : c < 600) (hn : n ≤ 60) (hy : y < 2147483648) (hp : pp ≤ 100) (rc : Nat → Int32 → Int32 → Int32 → Int32 → Int32 → Int32 → Int64 → Int32 → SG → Option (Int32 × SG)) (X1 X4 X9 : Int32) (X7 : Int64) (hN : 2000 ≤ N) : ∃ u', hgX10_lives_97 N rc N x X1 (nI n) (nI pp) X4 (nI y) (nI hs) X7 X9 0 u = rc x X1 (nI n) (nI pp) X4 (nI (lvN G pp M y n).2.1) (nI (hs + (lvN G pp M y n).2.2)) (X7 + (lN (mT (lvN G pp M y n).1) - zL u (x + 28) 5)) (X9 + 1) u' ∧ Fz (Cw x) u u' := by
  refine lps (fun f k v => hgX10_lives_97 N rc f x X1 (nI n) (nI pp) X4 (nI (lvN G pp M y k).2.1) (nI (hs + (lvN G pp M y k).2.2)) X7 X9 (nI k) v) n (fun k v => Mom v (x + 119) G (lvN G pp M y k).1 ∧ Fz (Cw x) u v) (fun r => ∃ u', r = rc x X1 (nI n) (nI pp) X4 (nI (lvN G pp M y n).2.1) (nI (hs + (lvN G pp M y n).2.2)) (X7 + (lN (mT (lvN G pp M y n).1) - zL u (x + 28) 5)) (X9 + 1) u' ∧ Fz (Cw x) u u') ?_ ?_ N 0 u (by omega) (by omega) ⟨hM, Fz.rf⟩
  · intro f v ⟨i1, i2⟩
    have e1 : zL v (x + 122) 5 = lN (mT (lvN G pp M y n).1) := i1.2.2.2.2.2.2
    refine ⟨v, ?_, i2⟩
    rw [hgX10_lives_97, if_pos (nI_le (by omega) (by omega)), bs_eq, e1, i2.L (by unfold Cw; omega)]
  · intro f k v hk ⟨i1, i2⟩
    obtain ⟨k1, k2, k3, -⟩ := lvN_ok (c := c) (pp := pp) g hb h0 hy k
    have hS1 := hS.z i2 (fun b k q1 q2 => by unfold Cw; omega)
    obtain ⟨v1, a1, a2, a3⟩ := c_draw (N := N) hS1 i1 g k1 (by omega) k2 hp (x + 117) hN
    obtain ⟨⟨fm, em⟩, hy2⟩ := drK_r G pp (lvN G pp M y k).1 (lvN G pp M y k).2.1 k2 (G 1)
    have hb2 : Mb (c + k) G (drK G pp (lvN G pp M y k).1 (lvN G pp M y k).2.1 (G 1)).1 := by rw [em]; exact k1
    have hS2 := hS1.z a3 (fun b k q1 q2 => by omega)
    obtain ⟨v2, b1, b2, -, -, b5⟩ := c_play (N := N) (a := x + 117) (b := x + 212) hS2 a2 g hb2 (by omega) h0 (by omega) (by omega) (by omega) (o' := none) (o := none) (Or.inl ⟨rfl, rfl⟩) (by omega) (by omega) hN
    refine ⟨v2, ⟨b2, i2.tr ((a3.w (fun a k q => by unfold Cw; omega)).tr (b5.w (fun a k q => by unfold SC at q; unfold Cw; omega)))⟩, ?_⟩
    rw [hgX10_lives_97, if_neg (nI_ge hk (by omega)), a1, cl_some, b1, cl_some, bs_eq, nI_add, lit_1, nI_add, Nat.add_assoc]
    rfl
theorem r_life {y pp n hs : Nat} (h : RA (zI u (m + 10)) G M) (hr : RB (zI u (m + 10)) G) (hz : zL u m 31 = lN y) (hW : ∃ W : Nat → Nat, ∀ p, p < G 1 → zI u (m + 11) p = nI (W p)) (g : Gb G) (hb : Mb c G M) (h0 : 0 < G 0) (hc : c < 600) (hn : n ≤ 60) (hy : y < 2147483648) (hp : pp ≤ 100) (rc78 : Nat → Int32 → Int32 → Int32 → Int32 → Int32 → Int32 → Int32 → SG → Option (Int32 × SG)) (X1 X4 X6 X7 X8 : Int32) (hN : 2000 ≤ N) : ∃ u', hgX11_lives_96 N rc78 N m X1 (nI n) (nI pp) X4 (nI hs) X6 X7 X8 0 u = (cl (hX11_laysBack N m u') fun _ u4 => rc78 m X1 (nI n) (nI pp) X4 (nI (hs + (lvN G pp M y n).2.2)) (X6 + (nI (mT (lvN G pp M y n).1) - X8) / nI 60) (X7 + 1) u4) ∧ zL u' m 31 = lN (lvN G pp M y n).2.1 ∧ (∃ W : Nat → Nat, ∀ p, p < G 1 → zI u' (m + 11) p = nI (W p)) ∧ Fz (SPd m) u u' := by
  refine lps (fun f k v => hgX11_lives_96 N rc78 f m X1 (nI n) (nI pp) X4 (nI (hs + (lvN G pp M y k).2.2)) X6 X7 X8 (nI k) v) n (fun k v => RA (zI v (m + 10)) G (lvN G pp M y k).1 ∧ zL v m 31 = lN (lvN G pp M y k).2.1 ∧ (∃ W : Nat → Nat, ∀ p, p < G 1 → zI v (m + 11) p = nI (W p)) ∧ Fz (SPd m) u v) (fun r => ∃ u', r = (cl (hX11_laysBack N m u') fun _ u4 => rc78 m X1 (nI n) (nI pp) X4 (nI (hs + (lvN G pp M y n).2.2)) (X6 + (nI (mT (lvN G pp M y n).1) - X8) / nI 60) (X7 + 1) u4) ∧ zL u' m 31 = lN (lvN G pp M y n).2.1 ∧ (∃ W : Nat → Nat, ∀ p, p < G 1 → zI u' (m + 11) p = nI (W p)) ∧ Fz (SPd m) u u') ?_ ?_ N 0 u (by omega) (by omega) ⟨h, hz, hW, Fz.rf⟩
  · intro f v ⟨i1, i2, i3, i4⟩
    refine ⟨v, ?_, i2, i3, i4⟩
    rw [hgX11_lives_96, if_pos (nI_le (by omega) (by omega)), if_neg (by decide), bs_eq, i1.2.2.2.1]
    rfl
  · intro f k v hk ⟨i1, i2, ⟨W, i3⟩, i4⟩
    obtain ⟨k1, k2, k3, -⟩ := lvN_ok (c := c) (pp := pp) g hb h0 hy k
    have h9 := k1.h9 g
    have hr1 := rb_z hr i4 (fun k hk => by unfold SPd SP; omega)
    obtain ⟨v1, a1, a2, a3⟩ := r_wakes (N := N) i1 hr1 g (by omega) hN
    have hr2 := rb_z hr1 a3 (fun k hk => by unfold S10; omega)
    have z1 : zL v1 m 31 = lN (lvN G pp M y k).2.1 := by rw [a3.L (by unfold S10; omega)]; exact i2
    obtain ⟨v2, b1, b2, b3, b4, b5⟩ := r_draws (N := N) (m := m) (u := v1) a2 hr2 g (by show mH (lvN G pp M y k).1 < _; omega) k2 hp z1 rc78 (hgX11_lives_96 N rc78 f) X1 (nI n) X4 (nI (hs + (lvN G pp M y k).2.2)) X6 X7 X8 (nI k) hN
    obtain ⟨dw1, dw2⟩ := dr_wake G pp (lvN G pp M y k).1 (lvN G pp M y k).2.1 (G 1)
    obtain ⟨⟨f1, e1⟩, -⟩ := drK_r G pp (wakeM G (lvN G pp M y k).1) (lvN G pp M y k).2.1 k2 (G 1)
    obtain ⟨⟨f2, e2⟩, hy2⟩ := drK_r G pp (lvN G pp M y k).1 (lvN G pp M y k).2.1 k2 (G 1)
    have hq : Meq G (drK G pp (wakeM G (lvN G pp M y k).1) (lvN G pp M y k).2.1 (G 1)).1 (wakeM G (drK G pp (lvN G pp M y k).1 (lvN G pp M y k).2.1 (G 1)).1) := by
      refine ⟨by rw [e1, e2]; rfl, by rw [e1, e2]; rfl, by rw [e1, e2]; rfl, fun p hp => ⟨?_, by rw [e1, e2]; rfl, by rw [e1, e2]; rfl, by rw [e1, e2]; rfl⟩, fun l hl => by rw [e1, e2]; rfl⟩
      rw [dw2 p]
      show (mA _ p && !wk G p (mH (drK G pp (lvN G pp M y k).1 (lvN G pp M y k).2.1 (G 1)).1)) = _
      have : mH (drK G pp (lvN G pp M y k).1 (lvN G pp M y k).2.1 (G 1)).1 = mH (lvN G pp M y k).1 := by rw [e2]; rfl
      rw [this]
    have hb2 : Mb (c + k) G (wakeM G (drK G pp (lvN G pp M y k).1 (lvN G pp M y k).2.1 (G 1)).1) := by
      have : Mb (c + k) G (drK G pp (lvN G pp M y k).1 (lvN G pp M y k).2.1 (G 1)).1 := by rw [e2]; exact k1
      exact this
    have hr3 := rb_z hr2 b5 (fun k hk => by unfold SPd SP; omega)
    have w2 : ∀ p, p < G 1 → zI v2 (m + 11) p = nI (W p) := fun p hp => by rw [b4 p, a3.I (by unfold S10; omega)]; exact i3 p hp
    obtain ⟨v3, c1, c2, c3, c4⟩ := r_shares (N := N) (b2.congr hq) hr3 g hb2 (by omega) w2 hN
    refine ⟨v3, ⟨c2, by rw [c3.L (by unfold SP; omega), b3, dw1]; rfl, ⟨_, c4⟩, ((i4.tr (a3.w (fun a k q => Or.inl (by unfold S10 at q; unfold SP; omega)))).tr b5).tr (c3.w (fun a k q => Or.inl q))⟩, ?_⟩
    rw [hgX11_lives_96, if_neg (nI_ge hk (by omega)), a1, cl_some, b1, c1, cl_some, bs_eq, nI_add, lit_1, nI_add, Nat.add_assoc]
    rfl
end LIVOP
