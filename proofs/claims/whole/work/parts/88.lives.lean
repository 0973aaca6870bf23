/-! OPERATIONS, 12: lives -/
theorem lN_and (a b : Nat) : lN a &&& lN b = lN (a &&& b) := by
  apply Int64.toBitVec_inj.mp
  rw [Int64.toBitVec_and]
  show BitVec.ofNat 64 a &&& BitVec.ofNat 64 b = BitVec.ofNat 64 (a &&& b)
  apply BitVec.eq_of_getLsbD_eq
  intro i hi
  simp [hi]
def nxY (y : Nat) : Nat := (y * 1103515245 + 12345) % 2147483648
def dwY (y : Nat) : Nat := y / 65536 % 100
theorem nxY_lt (y : Nat) : nxY y < 2147483648 := Nat.mod_lt _ (by decide)
def drK (G : Nat → Nat) (pp : Nat) (M : MT) (y : Nat) : Nat → MT × Nat
  | 0 => (M, y)
  | k + 1 => if wk G k (mH M) then drK G pp M y k else (setA (drK G pp M y k).1 k (decide (dwY (nxY (drK G pp M y k).2) < pp)), nxY (drK G pp M y k).2)
theorem drK_r (G : Nat → Nat) (pp : Nat) (M : MT) (y : Nat) (hy : y < 2147483648) : ∀ k, (∃ f, (drK G pp M y k).1 = mWA M f) ∧ (drK G pp M y k).2 < 2147483648 := by
  intro k
  induction k with
  | zero => exact ⟨⟨mA M, rfl⟩, hy⟩
  | succ k ih =>
    obtain ⟨⟨f, e⟩, h2⟩ := ih
    rw [drK]
    split
    · exact ⟨⟨f, e⟩, h2⟩
    · rw [e]
      exact ⟨⟨_, rfl⟩, nxY_lt _⟩
theorem dr_wake (G : Nat → Nat) (pp : Nat) (M : MT) (y : Nat) : ∀ k, (drK G pp (wakeM G M) y k).2 = (drK G pp M y k).2 ∧ ∀ p, mA (drK G pp (wakeM G M) y k).1 p = (mA (drK G pp M y k).1 p && !wk G p (mH M)) := by
  intro k
  induction k with
  | zero => exact ⟨rfl, fun p => rfl⟩
  | succ k ih =>
    rw [drK, drK, show mH (wakeM G M) = mH M from rfl]
    cases e : wk G k (mH M) with
    | true => exact ih
    | false =>
      rw [if_neg (by decide), if_neg (by decide), ih.1]
      refine ⟨rfl, fun p => ?_⟩
      show (if p = k then _ else mA (drK G pp (wakeM G M) y k).1 p) = ((if p = k then _ else mA (drK G pp M y k).1 p) && !wk G p (mH M))
      by_cases q : p = k
      · subst q; rw [if_pos rfl, if_pos rfl, e]; simp
      · rw [if_neg q, if_neg q]; exact ih.2 p
section LIV
variable {N x m c d : Nat} {u : SG} {A : AT} {G : Nat → Nat} {M : MT}
theorem c_draw {s mo y pp : Nat} (h : Str u s G) (hM : Mom u mo G M) (g : Gb G) (hb : Mb d G M) (d1 : s + 6 < mo) (hy : y < 2147483648) (hp : pp ≤ 100) (a : Nat) (hN : 2000 ≤ N) : ∃ u', hX3_draw N a s mo (nI y) (nI pp) u = some (nI (drK G pp M y (G 1)).2, u') ∧ Mom u' mo G (drK G pp M y (G 1)).1 ∧ Fz (fun q j => q = mo ∧ j = 2) u u' := by
  have g1 := g.2.1
  have h9 := hb.h9 g
  have wl := p5 g1 (bset_lt (fun p => wk G p (mH M)) (G 1))
  unfold hX3_draw
  rw [hM.1, c_workersAt h (by omega), cl_some, bs_eq, nI_l (by omega)]
  refine lps (fun f k (z : Nat × SG) => hgX3_draw_17 N f s mo (nI pp) (nI (bset (fun p => wk G p (mH M)) (G 1))) (lN z.1) (nI k) z.2) (G 1) (fun k z => z.1 = (drK G pp M y k).2 ∧ Mom z.2 mo G (drK G pp M y k).1 ∧ Fz (fun q j => q = mo ∧ j = 2) u z.2) (fun r => ∃ u', r = some (nI (drK G pp M y (G 1)).2, u') ∧ Mom u' mo G (drK G pp M y (G 1)).1 ∧ Fz (fun q j => q = mo ∧ j = 2) u u') ?_ ?_ N 0 (y, u) (by omega) (by omega) ⟨rfl, hM, Fz.rf⟩
  · intro f z ⟨i1, i2, i3⟩
    have hs1 := h.z i3 (fun b k q1 q2 => by omega)
    exact ⟨z.2, by rw [hgX3_draw_17, hs1.2.1, if_pos (nI_le (by omega) (by omega)), lN_i, i1], i2, i3⟩
  · intro f k z hk ⟨i1, i2, i3⟩
    have hs1 := h.z i3 (fun b k q1 q2 => by omega)
    have hzy : z.1 < 2147483648 := by rw [i1]; exact (drK_r G pp M y hy k).2
    have hmul : z.1 * 1103515245 < 2147483648 * 1103515245 := Nat.mul_lt_mul_of_pos_right hzy (by decide)
    rw [hgX3_draw_17, hs1.2.1, if_neg (nI_ge hk (by omega)), x_bitOf (by omega) (by omega), cl_some, bset_tb, show (decide (k < G 1) && wk G k (mH M)) = wk G k (mH M) from by simp [hk]]
    cases e : wk G k (mH M) with
    | true =>
      have ed : drK G pp M y (k + 1) = drK G pp M y k := by rw [drK, if_pos e]
      rw [ed, if_neg (by decide), lit_1, nI_add]
      exact ⟨z, ⟨i1, i2, i3⟩, rfl⟩
    | false =>
      have ny : nxY z.1 < 2147483648 := nxY_lt _
      have dy : dwY (nxY z.1) < 100 := Nat.mod_lt _ (by decide)
      have ev : (lN z.1 * (1103515245 : Int64) + (12345 : Int64)) &&& (2147483647 : Int64) = lN (nxY z.1) := by
        rw [show (1103515245 : Int64) = lN 1103515245 from rfl, show (12345 : Int64) = lN 12345 from rfl, show (2147483647 : Int64) = lN 2147483647 from rfl, lN_mul, lN_add, lN_and, show (2147483647 : Nat) = 2 ^ 31 - 1 from rfl, Nat.and_two_pow_sub_one_eq_mod]
        rfl
      have ew : lN (nxY z.1) / (65536 : Int64) - lN (nxY z.1) / (65536 : Int64) / (100 : Int64) * (100 : Int64) = lN (dwY (nxY z.1)) := by
        rw [show (65536 : Int64) = lN 65536 from rfl, show (100 : Int64) = lN 100 from rfl, pk_lDiv (by omega) (by decide) (by decide), pk_lRem (by have := Nat.div_le_self (nxY z.1) 65536; omega) (by decide) (by decide)]
        rfl
      have ed : drK G pp M y (k + 1) = (setA (drK G pp M y k).1 k (decide (dwY (nxY z.1) < pp)), nxY z.1) := by rw [drK, if_neg (by rw [e]; decide), ← i1]
      rw [ed, if_pos (by decide), bs_eq, ev, if_neg (by decide), if_neg (by decide), ew, nI_l (by omega)]
      by_cases q : pp ≤ dwY (nxY z.1)
      · rw [if_pos ((lg_cmp_ge _ _).mpr ((lN_le (by omega) (by omega)).mpr q)), decide_eq_false (by omega)]
        obtain ⟨v3, c1, c2, c3⟩ := c_setAsleep (N := N) i2 g hk false
        refine ⟨(nxY z.1, v3), ⟨rfl, c2, i3.tr c3⟩, ?_⟩
        unfold hgX3_draw_77
        rw [show (0 : Int32) = nI (b2n false) from rfl, c1, cl_some, lit_1, nI_add]
      · rw [if_neg (fun z' => q ((lN_le (by omega) (by omega)).mp ((lg_cmp_ge _ _).mp z'))), decide_eq_true (by omega)]
        obtain ⟨v3, c1, c2, c3⟩ := c_setAsleep (N := N) i2 g hk true
        refine ⟨(nxY z.1, v3), ⟨rfl, c2, i3.tr c3⟩, ?_⟩
        unfold hgX3_draw_77
        have c1' : hX3_setAsleep N mo (nI k) 1 z.2 = some ((), v3) := c1
        rw [c1', cl_some, lit_1, nI_add]
def SPd (m : Nat) : Nat → Nat → Prop := fun a k => SP m a k ∨ (a = m ∧ k = 31)
theorem r_draw {y : Nat} (h : zL u m 31 = lN y) (hy : y < 2147483648) : hX11_draw N m 100 u = some (nI (dwY (nxY y)), sL u m 31 (lN (nxY y))) := by
  have ny : nxY y < 2147483648 := nxY_lt _
  have dy : dwY (nxY y) < 100 := Nat.mod_lt _ (by decide)
  have hmul : y * 1103515245 < 2147483648 * 1103515245 := Nat.mul_lt_mul_of_pos_right hy (by decide)
  have hm2 : y * 1103515245 + 12345 < 2 ^ 63 := Nat.lt_of_le_of_lt (Nat.add_le_add_right (Nat.mul_le_mul_right 1103515245 (Nat.le_of_lt hy)) 12345) (by decide)
  have hq := pk_lRem (a := y * 1103515245 + 12345) (b := 2147483648) hm2 (by decide) (by decide)
  unfold hX11_draw
  rw [if_neg (by decide), h, show (1103515245 : Int64) = lN 1103515245 from rfl, show (12345 : Int64) = lN 12345 from rfl, show (2147483648 : Int64) = lN 2147483648 from by decide, lN_mul, lN_add, hq, bs_eq, if_neg (by decide), if_neg (by decide), sL_s, show (100 : Int32).toInt64 = lN 100 from rfl, show (65536 : Int64) = lN 65536 from rfl]
  show some ((lN (nxY y) / lN 65536 - lN (nxY y) / lN 65536 / lN 100 * lN 100).toInt32, sL u m 31 (lN (nxY y))) = _
  rw [pk_lDiv (by omega) (by decide) (by decide), pk_lRem (by have := Nat.div_le_self (nxY y) 65536; omega) (by decide) (by decide), lN_i]
  rfl
theorem r_draws {y pp : Nat} (h : RA (zI u (m + 10)) G M) (hr : RB (zI u (m + 10)) G) (g : Gb G) (ht : mH M < 2 ^ 30) (hy : y < 2147483648) (hp : pp ≤ 100) (hz : zL u m 31 = lN y) (rc78 : Nat → Int32 → Int32 → Int32 → Int32 → Int32 → Int32 → Int32 → SG → Option (Int32 × SG)) (rc96 : Nat → Int32 → Int32 → Int32 → Int32 → Int32 → Int32 → Int32 → Int32 → Int32 → SG → Option (Int32 × SG)) (X1 X2 X4 X5 X6 X7 X8 X9 : Int32) (hN : 2000 ≤ N) : ∃ u', hgX11_lives_109 N rc78 rc96 N m X1 X2 (nI pp) X4 X5 X6 X7 X8 X9 0 u = (cl (hX11_shares N m u') fun r2 u3 => bs (X5 + r2) fun v4 => rc96 m X1 X2 (nI pp) X4 v4 X6 X7 X8 (X9 + 1) u3) ∧ RA (zI u' (m + 10)) G (drK G pp M y (G 1)).1 ∧ zL u' m 31 = lN (drK G pp M y (G 1)).2 ∧ (∀ k, zI u' (m + 11) k = zI u (m + 11) k) ∧ Fz (SPd m) u u' := by
  have g1 := g.2.1
  refine lps (fun f k v => hgX11_lives_109 N rc78 rc96 f m X1 X2 (nI pp) X4 X5 X6 X7 X8 X9 (nI k) v) (G 1) (fun k v => RA (zI v (m + 10)) G (drK G pp M y k).1 ∧ zL v m 31 = lN (drK G pp M y k).2 ∧ (∀ k, zI v (m + 11) k = zI u (m + 11) k) ∧ Fz (SPd m) u v) (fun r => ∃ u', r = (cl (hX11_shares N m u') fun r2 u3 => bs (X5 + r2) fun v4 => rc96 m X1 X2 (nI pp) X4 v4 X6 X7 X8 (X9 + 1) u3) ∧ RA (zI u' (m + 10)) G (drK G pp M y (G 1)).1 ∧ zL u' m 31 = lN (drK G pp M y (G 1)).2 ∧ (∀ k, zI u' (m + 11) k = zI u (m + 11) k) ∧ Fz (SPd m) u u') ?_ ?_ N 0 u (by omega) (by omega) ⟨h, hz, fun _ => rfl, Fz.rf⟩
  · intro f v ⟨i1, i2, i3, i4⟩
    exact ⟨v, by rw [hgX11_lives_109, i1.1 1 (by decide), if_pos (nI_le (by omega) (by omega))], i1, i2, i3, i4⟩
  · intro f k v hk ⟨i1, i2, i3, i4⟩
    obtain ⟨⟨fm, em⟩, hy2⟩ := drK_r G pp M y hy k
    have hmH : mH (drK G pp M y k).1 = mH M := by rw [em]; rfl
    have hr1 := rb_z hr i4 (fun k hk => by unfold SPd SP; omega)
    have dy : dwY (nxY (drK G pp M y k).2) < 100 := Nat.mod_lt _ (by decide)
    rw [hgX11_lives_109, i1.1 1 (by decide), if_neg (nI_ge hk (by omega)), i1.2.1, r_worksIn i1 hr1 g (by omega) (by omega) hN, cl_some, hmH]
    cases e : wk G k (mH M) with
    | true =>
      have ed : drK G pp M y (k + 1) = drK G pp M y k := by rw [drK, if_pos e]
      rw [ed, if_neg (by decide), lit_1, nI_add]
      exact ⟨v, ⟨i1, i2, i3, i4⟩, rfl⟩
    | false =>
      have ed : drK G pp M y (k + 1) = (setA (drK G pp M y k).1 k (decide (dwY (nxY (drK G pp M y k).2) < pp)), nxY (drK G pp M y k).2) := by rw [drK, if_neg (by rw [e]; decide)]
      rw [ed, if_pos (by decide), r_draw i2 hy2, cl_some, ifle (by omega) (by omega)]
      have z1 : Fz (SPd m) v (sL v m 31 (lN (nxY (drK G pp M y k).2))) := Fz.sL (Or.inr ⟨rfl, rfl⟩)
      have w10 : ∀ a k, S10 m a k → SPd m a k := fun a k hq => Or.inl (by unfold S10 at hq; unfold SP; omega)
      by_cases q : pp ≤ dwY (nxY (drK G pp M y k).2)
      · rw [if_pos q, decide_eq_false (by omega)]
        obtain ⟨v3, c1, c2, c3⟩ := r_setsAsleep (N := N) (u := sL v m 31 (lN (nxY (drK G pp M y k).2))) (m := m) i1 g hk false
        refine ⟨v3, ⟨c2, by rw [c3.L (by unfold S10; omega), sL_s], fun j => by rw [c3.I (by unfold S10; omega), sL_I]; exact i3 j, (i4.tr z1).tr (c3.w w10)⟩, ?_⟩
        unfold hgX11_lives_153
        rw [show (0 : Int32) = nI (b2n false) from rfl, c1, cl_some, lit_1, nI_add]
      · rw [if_neg q, decide_eq_true (by omega)]
        obtain ⟨v3, c1, c2, c3⟩ := r_setsAsleep (N := N) (u := sL v m 31 (lN (nxY (drK G pp M y k).2))) (m := m) i1 g hk true
        refine ⟨v3, ⟨c2, by rw [c3.L (by unfold S10; omega), sL_s], fun j => by rw [c3.I (by unfold S10; omega), sL_I]; exact i3 j, (i4.tr z1).tr (c3.w w10)⟩, ?_⟩
        unfold hgX11_lives_153
        have c1' : hX11_setsAsleep N m (nI k) 1 (sL v m 31 (lN (nxY (drK G pp M y k).2))) = some ((), v3) := c1
        rw [c1', cl_some, lit_1, nI_add]
end LIV
/-- n hours by draws: moment, x, hours slept -/
def lvN (G : Nat → Nat) (pp : Nat) (M : MT) (y : Nat) : Nat → MT × Nat × Nat
  | 0 => (M, y, 0)
  | i + 1 => (hrM G none (drK G pp (lvN G pp M y i).1 (lvN G pp M y i).2.1 (G 1)).1, (drK G pp (lvN G pp M y i).1 (lvN G pp M y i).2.1 (G 1)).2, (lvN G pp M y i).2.2 + manyM G (wakeM G (drK G pp (lvN G pp M y i).1 (lvN G pp M y i).2.1 (G 1)).1))
def lvO (G : Nat → Nat) (pp n : Nat) (M : MT) (y : Nat) : Nat → Nat × Nat × Nat
  | 0 => (y, 0, 0)
  | i + 1 => ((lvN G pp M (lvO G pp n M y i).1 n).2.1, (lvO G pp n M y i).2.1 + (lvN G pp M (lvO G pp n M y i).1 n).2.2, (lvO G pp n M y i).2.2 + (mT (lvN G pp M (lvO G pp n M y i).1 n).1 - mT M) / 60)
theorem lvN_ok {G : Nat → Nat} {M : MT} {c pp y : Nat} (g : Gb G) (hb : Mb c G M) (h0 : 0 < G 0) (hy : y < 2147483648) : ∀ n, Mb (c + n) G (lvN G pp M y n).1 ∧ (lvN G pp M y n).2.1 < 2147483648 ∧ (lvN G pp M y n).2.2 ≤ 5 * n ∧ ∃ q, q ≤ 300 * n ∧ mT (lvN G pp M y n).1 = mT M + 60 * q := by
  intro n
  induction n with
  | zero => exact ⟨hb, hy, Nat.le_refl _, 0, Nat.le_refl _, rfl⟩
  | succ n ih =>
    obtain ⟨h1, h2, h3, q, h4, h5⟩ := ih
    obtain ⟨⟨f, e⟩, hy2⟩ := drK_r G pp (lvN G pp M y n).1 (lvN G pp M y n).2.1 h2 (G 1)
    rw [lvN]
    have hb2 : Mb (c + n) G (drK G pp (lvN G pp M y n).1 (lvN G pp M y n).2.1 (G 1)).1 := by rw [e]; exact h1
    have hm := manyM_le G (wakeM G (drK G pp (lvN G pp M y n).1 (lvN G pp M y n).2.1 (G 1)).1)
    have g1 := g.2.1
    refine ⟨hb2.hr g h0 none, hy2, by show _ + _ ≤ _; omega, ?_⟩
    have co := coI_le (M := (wakeM G (drK G pp (lvN G pp M y n).1 (lvN G pp M y n).2.1 (G 1)).1)) g (mH (wakeM G (drK G pp (lvN G pp M y n).1 (lvN G pp M y n).2.1 (G 1)).1))
    have emt : mT (hrM G none (drK G pp (lvN G pp M y n).1 (lvN G pp M y n).2.1 (G 1)).1) = mT (lvN G pp M y n).1 + (if manyM G (wakeM G (drK G pp (lvN G pp M y n).1 (lvN G pp M y n).2.1 (G 1)).1) = 0 then costM G (wakeM G (drK G pp (lvN G pp M y n).1 (lvN G pp M y n).2.1 (G 1)).1) else 0) := by
      have : mT (lvN G pp M y n).1 = mT (wakeM G (drK G pp (lvN G pp M y n).1 (lvN G pp M y n).2.1 (G 1)).1) := by rw [e]; rfl
      rw [this]
      unfold hrM nxM goM
      split <;> rfl
    show ∃ q, q ≤ 300 * (n + 1) ∧ mT (hrM G none (drK G pp (lvN G pp M y n).1 (lvN G pp M y n).2.1 (G 1)).1) = mT M + 60 * q
    rw [emt, h5]
    unfold costM
    split
    · exact ⟨q + coI G (wakeM G (drK G pp (lvN G pp M y n).1 (lvN G pp M y n).2.1 (G 1)).1) (mH (wakeM G (drK G pp (lvN G pp M y n).1 (lvN G pp M y n).2.1 (G 1)).1)), by omega, by omega⟩
    · exact ⟨q, by omega, by omega⟩
theorem lvO_ok {G : Nat → Nat} {M : MT} {c pp y n : Nat} (g : Gb G) (hb : Mb c G M) (h0 : 0 < G 0) (hy : y < 2147483648) : ∀ i, (lvO G pp n M y i).1 < 2147483648 ∧ (lvO G pp n M y i).2.1 ≤ 5 * n * i ∧ (lvO G pp n M y i).2.2 ≤ 300 * n * i := by
  intro i
  induction i with
  | zero => exact ⟨hy, Nat.le_refl _, Nat.le_refl _⟩
  | succ i ih =>
    obtain ⟨h1, h2, h3⟩ := ih
    obtain ⟨k1, k2, k3, q, k4, k5⟩ := lvN_ok (c := c) (pp := pp) g hb h0 h1 n
    rw [lvO]
    refine ⟨k2, ?_, ?_⟩
    · show _ + _ ≤ _
      rw [Nat.mul_succ]
      omega
    · show _ + _ ≤ _
      rw [k5, Nat.mul_succ]
      omega
