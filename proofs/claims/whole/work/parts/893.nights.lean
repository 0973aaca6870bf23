/-! OPERATIONS, 12: nights -/
def tw (G : Nat → Nat) (h : Nat) : Nat := sumB (fun l => if li G l h then G (70 + 2 * l) else 0) (G 3)
def nOp (G : Nat → Nat) (p : Nat) : Nat := bset (fun h => decide (h < G 0) && !wk G p h) 10
def nMo (G : Nat → Nat) (p : Nat) : Nat := min (G (10 + 6 * p)) (pc (nOp G p))
def nD (G : Nat → Nat) (p i : Nat) : Nat := if i < nMo G p then tw G (grw (tw G) (nOp G p) i) else 1000
def nP (G : Nat → Nat) (p k : Nat) : Nat := sumB (nD G p) k
def nE (G : Nat → Nat) (p d h : Nat) : Nat := if d = 0 then 0 else evE (sumB (nD G p)) d h
section NPURE
variable {G : Nat → Nat} {p : Nat}
theorem tcw_le (g : Gb G) (h : Nat) : tw G h ≤ 300 := by
  have q := sumB_le (f := fun l => if li G l h then G (70 + 2 * l) else 0) (c := 60) (n := G 3) (fun i hi => by
    have := (g.2.2.2.2.2.2.2.2.1 i hi).2
    split <;> omega)
  have := g.2.2.2.1
  unfold tw
  omega
theorem nOp_lt : nOp G p < 1024 := bset_lt _ 10
theorem nMo_pc : nMo G p ≤ pc (nOp G p) := Nat.min_le_right _ _
theorem nMo_10 : nMo G p ≤ 10 := Nat.le_trans nMo_pc (pc_le _)
theorem nD_1 (g : Gb G) (i : Nat) : nD G p i ≤ nD G p (i + 1) := by
  have pm := nMo_pc (G := G) (p := p)
  unfold nD
  by_cases q : i + 1 < nMo G p
  · rw [if_pos q, if_pos (by omega)]
    exact grw_mono (by omega)
  · rw [if_neg q]
    have := tcw_le g (grw (tw G) (nOp G p) i)
    split <;> omega
theorem nD_mono (g : Gb G) : ∀ i j, i ≤ j → nD G p i ≤ nD G p j := by
  intro i j h
  obtain ⟨k, rfl⟩ : ∃ k, j = i + k := ⟨j - i, by omega⟩
  clear h
  induction k with
  | zero => exact Nat.le_refl _
  | succ k ih => exact Nat.le_trans ih (nD_1 g (i + k))
theorem nD_le (g : Gb G) (i : Nat) : nD G p i ≤ 1000 := by
  have := tcw_le g (grw (tw G) (nOp G p) i)
  unfold nD
  split <;> omega
theorem nP_eq : ∀ k, k ≤ nMo G p → nP G p k = cst (tw G) (gr (tw G) (nOp G p) k).testBit 10 := by
  intro k
  have pm := nMo_pc (G := G) (p := p)
  induction k with
  | zero =>
    intro _
    show 0 = cst _ (Nat.testBit 0) 10
    simp [cst, sumB]
  | succ k ih =>
    intro hk
    obtain ⟨b, -, -, -, -, e5, e6⟩ := (grd_ok (tw G) (nOp G p) k (by omega)).2.2 (by omega)
    rw [e6, ← ih (by omega)]
    unfold nP
    rw [sumB]
    congr 1
    unfold nD
    rw [if_pos (by omega), e5]
theorem nP_mono {i j : Nat} (h : i ≤ j) : nP G p i ≤ nP G p j := by
  obtain ⟨k, rfl⟩ : ∃ k, j = i + k := ⟨j - i, by omega⟩
  clear h
  induction k with
  | zero => exact Nat.le_refl _
  | succ k ih => unfold nP at ih ⊢; rw [← Nat.add_assoc, sumB]; omega
theorem nP_le (g : Gb G) (k : Nat) : nP G p k ≤ 1000 * k := sumB_le (fun i _ => nD_le g i)
theorem nE_le (g : Gb G) {d h : Nat} (hd : d ≤ 8) (hh : h ≤ d * nMo G p) : nE G p d h ≤ 88000 := by
  unfold nE
  split
  · omega
  · next d0 =>
    have m10 := nMo_10 (G := G) (p := p)
    have hr : h % d < d := Nat.mod_lt _ (by omega)
    have hq : h / d ≤ 10 := by
      rw [Nat.div_le_iff_le_mul_add_pred (by omega)]
      have := Nat.mul_le_mul_left d m10
      omega
    have h1 := nP_le (p := p) g 11
    have h2 := nP_mono (G := G) (p := p) (show h / d + 1 ≤ 11 by omega)
    have h3 := nP_mono (G := G) (p := p) (show h / d ≤ 11 by omega)
    unfold evE
    have a1 : h % d * sumB (nD G p) (h / d + 1) ≤ h % d * 11000 := Nat.mul_le_mul_left _ (by unfold nP at h1 h2; omega)
    have a2 : (d - h % d) * sumB (nD G p) (h / d) ≤ (d - h % d) * 11000 := Nat.mul_le_mul_left _ (by unfold nP at h1 h3; omega)
    omega
def fea (G : Nat → Nat) (p d h j : Nat) : Prop := j ≤ nMo G p ∧ h - j ≤ d * nMo G p
theorem nE_min (g : Gb G) {d h j : Nat} (hf : fea G p d h j) : nE G p (d + 1) h ≤ nP G p j + nE G p d (h - j) := by
  have := evE_min (nD_mono (p := p) g) d h j (fun d0 => by
    have := hf.2
    rw [d0] at this
    omega)
  unfold nE
  rw [if_neg (by omega)]
  exact this
theorem nE_at {d h : Nat} (hh : h ≤ (d + 1) * nMo G p) : fea G p d h (h / (d + 1)) ∧ nE G p (d + 1) h = nP G p (h / (d + 1)) + nE G p d (h - h / (d + 1)) := by
  refine ⟨ev_fit hh, ?_⟩
  have := evE_at (D := nD G p) d h
  unfold nE
  rw [if_neg (by omega)]
  exact this
theorem fea_le {d h j : Nat} (hf : fea G p d h j) : h ≤ (d + 1) * nMo G p := by
  obtain ⟨h1, h2⟩ := hf
  rw [Nat.succ_mul]
  omega
/-- the first number of hours of a night that costs least -/
def kf (G : Nat → Nat) (p d h : Nat) : Nat → Bool := fun j => decide (j ≤ nMo G p) && (decide (h - j ≤ d * nMo G p) && decide (nP G p j + nE G p d (h - j) = nE G p (d + 1) h))
def kx (G : Nat → Nat) (p d h : Nat) : Nat := (lsO (kf G p d h) 11).getD 0
theorem lsO_some (f : Nat → Bool) : ∀ n a, lsO f n = some a → f a = true ∧ ∀ j, j < a → f j = false := by
  intro n
  induction n with
  | zero => intro a h; cases h
  | succ n ih =>
    intro a h
    rw [lsO] at h
    cases e : lsO f n with
    | none =>
      rw [e] at h
      simp only at h
      split at h
      · next q =>
        cases h
        exact ⟨q, fun j hj => cntB_zero ((lsO_none f n).mp e) j hj⟩
      · cases h
    | some b =>
      rw [e] at h
      cases h
      exact ih a e
theorem kx_ok {d h : Nat} (hh : h ≤ (d + 1) * nMo G p) : fea G p d h (kx G p d h) ∧ nP G p (kx G p d h) + nE G p d (h - kx G p d h) = nE G p (d + 1) h ∧ ∀ j, j < kx G p d h → kf G p d h j = false := by
  have m10 := nMo_10 (G := G) (p := p)
  obtain ⟨⟨f1, f2⟩, f3⟩ := nE_at hh
  have ft : kf G p d h (h / (d + 1)) = true := by
    unfold kf
    rw [decide_eq_true f1, decide_eq_true f2, decide_eq_true f3.symm]
    rfl
  cases e : lsO (kf G p d h) 11 with
  | none =>
    have := cntB_zero ((lsO_none _ 11).mp e) (h / (d + 1)) (by omega)
    rw [ft] at this
    cases this
  | some a =>
    have ea : kx G p d h = a := by unfold kx; rw [e]; rfl
    rw [ea]
    obtain ⟨k1, k2⟩ := lsO_some _ 11 a e
    unfold kf at k1
    simp at k1
    exact ⟨⟨k1.1, by omega⟩, k1.2.2, k2⟩
/-- hours left ahead of a night, hours of the night before -/
def lf (G : Nat → Nat) (p n h0 : Nat) : Nat → Nat
  | 0 => h0
  | i + 1 => lf G p n h0 i - kx G p (n - i - 1) (lf G p n h0 i)
def hr (G : Nat → Nat) (p n h0 : Nat) : Nat → Nat
  | 0 => 0
  | i + 1 => kx G p (n - i - 1) (lf G p n h0 i)
theorem lf_le {n h0 : Nat} (h : h0 ≤ n * nMo G p) : ∀ i, i ≤ n → lf G p n h0 i ≤ (n - i) * nMo G p := by
  intro i
  induction i with
  | zero => intro _; exact h
  | succ i ih =>
    intro hi
    have := ih (by omega)
    rw [show n - i = (n - i - 1) + 1 by omega] at this
    have := (kx_ok this).1.2
    rw [show n - (i + 1) = n - i - 1 by omega]
    exact this
end NPURE
section MM
variable {N : Nat} {u : SG}
theorem x_min {a b : Nat} (ha : a < 2 ^ 31) (hb : b < 2 ^ 31) : fJ9_min_7cf53 N (nI a) (nI b) u = some (nI (min a b), u) := by
  unfold fJ9_min_7cf53
  rw [iflt hb ha]
  by_cases h : b < a
  · rw [if_pos h, Nat.min_eq_right (by omega)]
  · rw [if_neg h, Nat.min_eq_left (by omega)]
theorem x_max0 {a b : Nat} (ha : a < 2 ^ 30) (hb : b < 2 ^ 30) : fJ9_max_7cf53 N (0 : Int32) (nI a - nI b) u = some (nI (a - b), u) := by
  unfold fJ9_max_7cf53
  by_cases h : b ≤ a
  · rw [pk_sub h, lit_0, iflt (by decide) (by omega)]
    by_cases z : 0 < a - b
    · rw [if_pos z]
    · rw [if_neg z, show a - b = 0 by omega]
  · rw [if_neg (fun z => absurd (Int32.lt_trans z (pk_sneg hb (by omega))) (by decide)), show a - b = 0 by omega]
    rfl
end MM
section NIGHTC
variable {N x c : Nat} {u : SG} {A : AT}
def Nrow (u : SG) (x : Nat) (G : Nat → Nat) (p : Nat) : Prop := ∀ j, j ≤ 10 → zI u (x + 124) j = nI (nP G p (min j (nMo G p)))
theorem c_even {G : Nat → Nat} {p : Nat} (g : Gb G) (hw : Nrow u x G p) {d h : Nat} (hd : d ≤ 8) (hh : h ≤ d * nMo G p) : hX10_evenCost N x (nI d) (nI h) u = some (nI (nE G p d h), u) := by
  have m10 := nMo_10 (G := G) (p := p)
  have hb : h ≤ 80 := by have := Nat.mul_le_mul hd m10; omega
  unfold hX10_evenCost nE
  by_cases d0 : d = 0
  · subst d0
    rw [if_neg (by decide), if_pos rfl]
    rfl
  · have hr : h % d < d := Nat.mod_lt _ (by omega)
    have hdm : d * (h / d) + h % d = h := Nat.div_add_mod h d
    have hq : h / d ≤ nMo G p := by
      rw [Nat.div_le_iff_le_mul_add_pred (by omega)]
      omega
    have hq2 : 0 < h % d → h / d < nMo G p := by
      intro z
      rcases Nat.lt_or_ge (h / d) (nMo G p) with y | y
      · exact y
      · have : h / d = nMo G p := by omega
        rw [this] at hdm
        omega
    rw [if_pos (show (0 : Int32) < nI d by rw [lit_0]; exact nI_lt (by omega) (by omega)), if_neg (nI_ne0 (by omega) (by omega)), if_neg d0, pk_div (by omega) (by omega) (by omega), lit_10, x_min (by omega) (by decide), cl_some, if_neg (nI_ne0 (by omega) (by omega)), bs_eq, Nat.min_eq_left (show h / d ≤ 10 by omega)]
    have e2 : nI h - nI (h / d) * nI d = nI (h % d) := by rw [pk_mul, pk_sub (by rw [Nat.mul_comm]; omega)]; congr 1; rw [Nat.mul_comm]; omega
    rw [e2, lit_1, nI_add, x_min (by omega) (by decide), cl_some, ixI (by omega) (by decide), ixI (by omega) (by decide), nI_clamp (by omega), nI_clamp (by omega), hw _ (by omega), hw _ (by omega), pk_sub (by omega), pk_mul, pk_mul, nI_add, Nat.min_eq_left (show h / d ≤ nMo G p from hq)]
    unfold evE nP
    rcases Nat.eq_zero_or_pos (h % d) with z | z
    · rw [z, Nat.zero_mul, Nat.zero_mul]
    · have := hq2 z
      rw [Nat.min_eq_left (show h / d + 1 ≤ 10 by omega), Nat.min_eq_left (show h / d + 1 ≤ nMo G p by omega)]
theorem c_price (iC : InvC u x A) (hA : Aok c A) {p : Nat} (hp : p < sG (aS A) 1) (hN : 2000 ≤ N) : ∃ v, hX10_priceNight N x (nI p) u = some (nI (nMo (sG (aS A)) p), v) ∧ Fz (Cw x) u v ∧ Nrow v x (sG (aS A)) p := by
  obtain ⟨g, hb, -⟩ := hA.2.2.2.2.1
  have g0 := g.1
  have g1 := g.2.1
  have g3 := g.2.2.2.1
  have gp := g.2.2.2.2.2.2.1 p hp
  have m10 := nMo_10 (G := sG (aS A)) (p := p)
  refine lps (fun f h (s : Nat × SG) => hgX10_priceNight_13 N f x (nI p) (x + 18) (nI s.1) (nI h) s.2) 10 (fun h s => s.1 = bset (fun h => decide (h < sG (aS A) 0) && !wk (sG (aS A)) p h) h ∧ Fz (Cw x) u s.2 ∧ ∀ t, t < h → zI s.2 (x + 123) t = nI (tw (sG (aS A)) t)) (fun r => ∃ v, r = some (nI (nMo (sG (aS A)) p), v) ∧ Fz (Cw x) u v ∧ Nrow v x (sG (aS A)) p) ?_ ?_ N 0 (0, u) (by omega) (by omega) ⟨rfl, Fz.rf, fun t ht => by omega⟩
  · rintro f ⟨s, v⟩ ⟨h1, h2, h3⟩
    dsimp only at h1 h2 h3 ⊢
    have iv := iC.z h2 (fun a k q => Or.inr q)
    have h1 : s = nOp (sG (aS A)) p := h1
    subst h1
    have ol := nOp_lt (G := sG (aS A)) (p := p)
    have pl := pc_le (nOp (sG (aS A)) p)
    have e1 : zI v (x + 18 + 1) p = nI (sG (aS A) (10 + 6 * p)) := (iv.sn.1.2.2.2.2.2.1 p hp).1
    rw [hgX10_priceNight_13, lit_10, if_pos (nI_le (by omega) (by decide)), ixI (by omega) (by decide), x_bitCount ol, cl_some, nI_clamp (by omega), e1, x_min (by omega) (by omega), cl_some]
    show ∃ v', hgX10_priceNight_90 N N x (nI (nOp (sG (aS A)) p)) (nI (nMo (sG (aS A)) p)) (0 : Int32) v = _ ∧ _
    refine lps (fun f j w => hgX10_priceNight_90 N f x (nI (nOp (sG (aS A)) p)) (nI (nMo (sG (aS A)) p)) (nI j) w) 11 (fun j w => Fz (Cw x) u w ∧ (∀ t, t < 10 → zI w (x + 123) t = nI (tw (sG (aS A)) t)) ∧ ∀ i, i < j → zI w (x + 124) i = nI (nP (sG (aS A)) p (min i (nMo (sG (aS A)) p)))) (fun r => ∃ v, r = some (nI (nMo (sG (aS A)) p), v) ∧ Fz (Cw x) u v ∧ Nrow v x (sG (aS A)) p) ?_ ?_ N 0 v (by omega) (by omega) ⟨h2, h3, fun i hi => by omega⟩
    · rintro f w ⟨k1, k2, k3⟩
      refine ⟨w, ?_, k1, fun j hj => k3 j (by omega)⟩
      rw [hgX10_priceNight_90, lit_10, if_pos (nI_lt (by omega) (by decide))]
    · rintro f j w hj ⟨k1, k2, k3⟩
      have hw : Hrow w x (tw (sG (aS A))) := fun t ht => ⟨k2 t ht, by have := tcw_le g t; omega⟩
      have fz : Fz (Cw x) w (sI w (x + 124) j (nI (nP (sG (aS A)) p (min j (nMo (sG (aS A)) p))))) := Fz.sI (by unfold Cw; omega)
      refine ⟨sI w (x + 124) j (nI (nP (sG (aS A)) p (min j (nMo (sG (aS A)) p)))), ⟨k1.tr fz, fun t ht => by rw [sI_n (by omega)]; exact k2 t ht, fun i hi => ?_⟩, ?_⟩
      · by_cases q : i = j
        · subst q; rw [sI_s]
        · rw [sI_n (by omega)]; exact k3 i (by omega)
      · rw [hgX10_priceNight_90, lit_10, if_neg (nI_nlt (by omega) (by decide)), x_min (by omega) (by omega), cl_some, c_cheapH hw ol (by omega) hN, cl_some, c_costH hw (gr_lt _ _ _) hN, cl_some, ixI hj (by decide), bs_eq, nI_clamp (by omega), lit_1, nI_add, nP_eq _ (Nat.min_le_right _ _)]
  · rintro f h ⟨s, v⟩ hh ⟨h1, h2, h3⟩
    dsimp only at h1 h2 h3 ⊢
    have iv := iC.z h2 (fun a k q => Or.inr q)
    have fz : Fz (Cw x) v (sI v (x + 123) h (nI (tw (sG (aS A)) h))) := Fz.sI (by unfold Cw; omega)
    have iw := iv.z fz (fun a k q => Or.inr q)
    refine ⟨(bset (fun h => decide (h < sG (aS A) 0) && !wk (sG (aS A)) p h) (h + 1), sI v (x + 123) h (nI (tw (sG (aS A)) h))), ⟨rfl, h2.tr fz, fun t ht => ?_⟩, ?_⟩
    · dsimp only
      by_cases q : t = h
      · subst q; rw [sI_s]
      · rw [sI_n (by omega)]; exact h3 t (by omega)
    · have e6 : zI (sI v (x + 123) h (nI (tw (sG (aS A)) h))) (x + 18) 6 = nI (sG (aS A) 0) := iw.sn.1.1
      have et : sumB (fun l => if (bset (fun l => li (sG (aS A)) l h) (sG (aS A) 3)).testBit l then sG (aS A) (70 + 2 * l) else 0) (sG (aS A) 3) = tw (sG (aS A)) h := by
        apply sumB_ext
        intro i hi
        rw [bset_tb, decide_eq_true hi, Bool.true_and]
      have wl := p5 g1 (bset_lt (fun p => wk (sG (aS A)) p h) (sG (aS A) 1))
      dsimp only
      rw [hgX10_priceNight_13, lit_10, if_neg (nI_ge hh (by decide)), c_litAt iv.sn.1 hh, cl_some, c_costOf iv.sn.1 g (bset_lt _ _) hN, cl_some, et, ixI hh (by decide), nI_clamp (by omega), bs_eq, e6, ifle (by omega) (by omega), c_workersAt iw.sn.1 hh, cl_some, x_bitOf (by omega) (by omega), cl_some, bs_eq, nI_shl h (by omega), h1, nI_or, lit_1, nI_add, bset_or, bset_tb, decide_eq_true hp, Bool.true_and]
      by_cases q2 : sG (aS A) 0 ≤ h
      · rw [if_pos q2, decide_eq_false (show ¬ h < sG (aS A) 0 by omega)]; simp
      · rw [if_neg q2, decide_eq_true (show h < sG (aS A) 0 by omega)]
        cases wk (sG (aS A)) p h with
        | false => rw [if_pos (by decide)]; rfl
        | true => rw [if_neg (by decide)]; simp
theorem c_inNight {G : Nat → Nat} {p : Nat} (g : Gb G) (hw : Nrow u x G p) {n h0 w : Nat} (hn : n ≤ 8) (hwn : w < n) (hh : h0 ≤ n * nMo G p) (hN : 2000 ≤ N) : hX10_sleepInNight N x (nI n) (nI h0) (nI (nMo G p)) (nI w) u = some (nI (kx G p (n - w - 1) (lf G p n h0 w)), u) := by
  have m10 := nMo_10 (G := G) (p := p)
  have h80 : n * nMo G p ≤ 80 := by have := Nat.mul_le_mul hn m10; omega
  unfold hX10_sleepInNight
  refine lps (fun f i (s : Nat × Nat) => hgX10_sleepInNight_9 N f x (nI n) (nI (nMo G p)) (nI w) (nI s.1) (nI s.2) (nI i) u) (w + 1) (fun i s => s.1 = lf G p n h0 i ∧ s.2 = hr G p n h0 i) (fun r => r = some (nI (kx G p (n - w - 1) (lf G p n h0 w)), u)) ?_ ?_ N 0 (h0, 0) (by omega) (by omega) ⟨rfl, rfl⟩
  · rintro f ⟨a, b⟩ ⟨h1, h2⟩
    dsimp only at h1 h2 ⊢
    rw [hgX10_sleepInNight_9, if_pos (nI_lt (by omega) (by omega)), h2]
    rfl
  · rintro f i ⟨a, b⟩ hi ⟨h1, h2⟩
    dsimp only at h1 h2 ⊢
    refine ⟨(lf G p n h0 (i + 1), hr G p n h0 (i + 1)), ⟨rfl, rfl⟩, ?_⟩
    have al := lf_le hh i (by omega)
    rw [← h1] at al
    have al2 : a ≤ 80 := by have := Nat.mul_le_mul (show n - i ≤ 8 by omega) m10; omega
    have ed : nI n - nI i - nI 1 = nI (n - i - 1) := by rw [pk_sub (by omega), pk_sub (by omega)]
    generalize edd : n - i - 1 = d at ed
    have al3 : a ≤ (d + 1) * nMo G p := by rw [← edd, show n - i - 1 + 1 = n - i by omega]; exact al
    obtain ⟨kf1, kf2, kf3⟩ := kx_ok al3
    have dm : d * nMo G p ≤ 80 := by have := Nat.mul_le_mul (show d ≤ 8 by omega) m10; omega
    have ee := nE_le (p := p) g (show d + 1 ≤ 8 by omega) al3
    dsimp only
    rw [hgX10_sleepInNight_9, if_neg (nI_nlt (by omega) (by omega)), bs_eq, lit_1, ed, nI_add, c_even g hw (by omega) al3, cl_some, pk_mul, x_max0 (by omega) (by omega), cl_some]
    show hgX10_sleepInNight_52 N (hgX10_sleepInNight_9 N f) N x (nI n) (nI (nMo G p)) (nI w) (nI a) (nI (a - d * nMo G p)) (nI i) (nI d) (nI (nE G p (d + 1) a)) (nI 0) u = hgX10_sleepInNight_9 N f x (nI n) (nI (nMo G p)) (nI w) (nI (lf G p n h0 i - kx G p (n - i - 1) (lf G p n h0 i))) (nI (kx G p (n - i - 1) (lf G p n h0 i))) (nI (i + 1)) u
    rw [edd, ← h1]
    have fin : hgX10_sleepInNight_104 N (hgX10_sleepInNight_9 N f) x (nI n) (nI (nMo G p)) (nI w) (nI a) (nI (kx G p d a)) (nI i) u = hgX10_sleepInNight_9 N f x (nI n) (nI (nMo G p)) (nI w) (nI (a - kx G p d a)) (nI (kx G p d a)) (nI (i + 1)) u := by
      unfold hgX10_sleepInNight_104
      have := kf1.1
      rw [x_max0 (by omega) (by omega), cl_some, lit_1, nI_add]
    have kl := kf1.1
    have klo : a - d * nMo G p ≤ kx G p d a := by have := kf1.2; omega
    refine lpq (fun f' t (s : Nat) => hgX10_sleepInNight_52 N (hgX10_sleepInNight_9 N f) f' x (nI n) (nI (nMo G p)) (nI w) (nI a) (nI s) (nI i) (nI d) (nI (nE G p (d + 1) a)) (nI t) u) (nMo G p) (fun t s => s = a - d * nMo G p + t ∧ s ≤ kx G p d a) (fun r => r = _) ?_ ?_ N 0 (a - d * nMo G p) (by omega) (by omega) ⟨by omega, klo⟩
    · rintro f' s ⟨q1, q2⟩
      rw [hgX10_sleepInNight_52, if_pos (nI_le (by omega) (by omega)), show s = kx G p d a by omega]
      exact fin
    · rintro f' t s ht ⟨q1, q2⟩
      by_cases sm : nMo G p ≤ s
      · left
        rw [hgX10_sleepInNight_52, if_neg (nI_ge ht (by omega)), if_pos (nI_le (by omega) (by omega)), show s = kx G p d a by omega]
        exact fin
      · have fs : fea G p d a s := ⟨by omega, by omega⟩
        have e2 := nE_le (p := p) g (show d ≤ 8 by omega) fs.2
        have e3 := nP_le (p := p) g s
        have e4 := nE_min g fs
        have st : hgX10_sleepInNight_52 N (hgX10_sleepInNight_9 N f) (f' + 1) x (nI n) (nI (nMo G p)) (nI w) (nI a) (nI s) (nI i) (nI d) (nI (nE G p (d + 1) a)) (nI t) u = if nE G p (d + 1) a < nP G p s + nE G p d (a - s) then hgX10_sleepInNight_52 N (hgX10_sleepInNight_9 N f) f' x (nI n) (nI (nMo G p)) (nI w) (nI a) (nI (s + 1)) (nI i) (nI d) (nI (nE G p (d + 1) a)) (nI (t + 1)) u else hgX10_sleepInNight_104 N (hgX10_sleepInNight_9 N f) x (nI n) (nI (nMo G p)) (nI w) (nI a) (nI s) (nI i) u := by
          rw [hgX10_sleepInNight_52, if_neg (nI_ge ht (by omega)), if_neg (nI_ge (by omega) (by omega)), ixI (by omega) (by decide), x_max0 (by omega) (by omega), cl_some, c_even g hw (by omega) fs.2, cl_some, nI_clamp (by omega), hw s (by omega), Nat.min_eq_left (by omega), nI_add, iflt (by omega) (by omega), lit_1, nI_add, nI_add]
        by_cases q3 : nE G p (d + 1) a < nP G p s + nE G p d (a - s)
        · right
          refine ⟨s + 1, ⟨by omega, ?_⟩, by rw [st, if_pos q3]⟩
          rcases Nat.lt_or_ge s (kx G p d a) with y | y
          · omega
          · have : s = kx G p d a := by omega
            rw [← this] at kf2
            omega
        · left
          have : s = kx G p d a := by
            rcases Nat.lt_or_ge s (kx G p d a) with y | y
            · have := kf3 s y
              unfold kf at this
              rw [decide_eq_true fs.1, decide_eq_true fs.2, decide_eq_true (show nP G p s + nE G p d (a - s) = nE G p (d + 1) a by omega)] at this
              cases this
            · omega
          rw [st, if_neg q3, this]
          exact fin
end NIGHTC
