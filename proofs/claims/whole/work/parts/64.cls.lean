/-! THE CLASS'S LEAVES -/
def Str (u : SG) (a : Nat) (G : Nat → Nat) : Prop := zI u a 6 = nI (G 0) ∧ zI u a 7 = nI (G 1) ∧ zI u a 8 = nI (G 2) ∧ zI u a 9 = nI (G 3) ∧ zI u a 10 = nI (G 4) ∧ (∀ p, p < G 1 → zI u (a + 1) p = nI (G (10 + 6 * p)) ∧ zI u (a + 2) p = nI (G (10 + 6 * p + 1))) ∧ (∀ l, l < G 3 → zI u (a + 3) l = nI (G (69 + 2 * l)) ∧ zI u (a + 4) l = nI (G (70 + 2 * l))) ∧ ∀ h, h < 10 → zI u (a + 5) h = nI (bset (fun p => wk G p h) (G 1)) ∧ zI u (a + 6) h = nI (bset (fun l => li G l h) (G 3))
def Mom (u : SG) (a : Nat) (G : Nat → Nat) (M : MT) : Prop := zI u a 0 = nI (mH M) ∧ zI u a 1 = nI (mN M) ∧ zI u a 2 = nI (slS G M) ∧ zI u a 3 = nI (bset (fun l => mL M l == 1) (G 3)) ∧ zI u a 4 = nI (bset (fun l => mL M l == 2) (G 3)) ∧ (∀ p, p < G 1 → zI u (a + 1) p = nI (mS M p) ∧ zI u (a + 2) p = nI (mD M p) ∧ zL u (a + 3) p = lN (mO M p)) ∧ zL u (a + 3) 5 = lN (mT M)
theorem sumB_0 {f : Nat → Nat} {n k : Nat} (h : ∀ i, n ≤ i → f i = 0) : sumB f (n + k) = sumB f n := by
  induction k with
  | zero => rfl
  | succ k ih => rw [← Nat.add_assoc, sumB, ih, h _ (by omega), Nat.add_zero]
theorem buS_lt (G : Nat → Nat) (M : MT) (h : Nat) : buS G M h < 2 ^ G 3 := bset_lt _ _
theorem slS_lt (G : Nat → Nat) (M : MT) : slS G M < 2 ^ G 1 := bset_lt _ _
theorem p5 {n s : Nat} (h : n ≤ 5) (hs : s < 2 ^ n) : s < 32 := Nat.lt_of_lt_of_le hs (Nat.pow_le_pow_right (by decide) h)
section CLEAF
variable {N a b : Nat} {u : SG} {G : Nat → Nat} {M : MT}
theorem c_isTold (h : Str u a G) (g : Gb G) : hX7_isTold N a u = some (nI (b2n (decide (0 < G 0))), u) := by
  have g0 := g.1
  unfold hX7_isTold
  rw [h.1, lit_0, ifle (by omega) (by omega)]
  by_cases h0 : G 0 ≤ 0
  · rw [if_pos h0, decide_eq_false (by omega)]; rfl
  · rw [if_neg h0, decide_eq_true (by omega)]; rfl
theorem c_isPerson (h : Str u a G) (g : Gb G) (x : Int32) : (x < 0 ∨ nI (G 1) ≤ x) ∧ hX7_isPerson N a x u = some (0, u) ∨ ∃ p, p < G 1 ∧ x = nI p ∧ hX7_isPerson N a x u = some (1, u) := by
  have g1 := g.2.1
  unfold hX7_isPerson
  rw [h.2.1]
  rcases pk_ix x (n := G 1) (by omega) with hx | hx | ⟨p, hp, rfl⟩
  · exact Or.inl ⟨Or.inl hx, by rw [if_pos hx]⟩
  · refine Or.inl ⟨Or.inr hx, ?_⟩
    rw [if_pos hx]
    split
    · rfl
    · rfl
  · exact Or.inr ⟨p, hp, rfl, by rw [if_neg (nI_pos (by omega)), if_neg (nI_ge hp (by omega)), lit_5, if_neg (nI_ge (by omega) (by decide))]⟩
theorem c_isLamp (h : Str u a G) (g : Gb G) (x : Int32) : (x < 0 ∨ nI (G 3) ≤ x) ∧ hX7_isLamp N a x u = some (0, u) ∨ ∃ p, p < G 3 ∧ x = nI p ∧ hX7_isLamp N a x u = some (1, u) := by
  have g1 := g.2.2.2.1
  unfold hX7_isLamp
  rw [h.2.2.2.1]
  rcases pk_ix x (n := G 3) (by omega) with hx | hx | ⟨p, hp, rfl⟩
  · exact Or.inl ⟨Or.inl hx, by rw [if_pos hx]⟩
  · refine Or.inl ⟨Or.inr hx, ?_⟩
    rw [if_pos hx]
    split
    · rfl
    · rfl
  · exact Or.inr ⟨p, hp, rfl, by rw [if_neg (nI_pos (by omega)), if_neg (nI_ge hp (by omega)), lit_5, if_neg (nI_ge (by omega) (by decide))]⟩
theorem c_everyone (h : Str u a G) (g : Gb G) : hX7_everyone N a u = some (nI (2 ^ G 1 - 1), u) := by
  have g1 := g.2.1
  unfold hX7_everyone
  rw [h.2.1, nI_shl _ (by omega), lit_1, pk_sub (Nat.one_le_two_pow)]
theorem c_workersAt (h : Str u a G) {t : Nat} (ht : t < 10) : hX7_workersAt N a (nI t) u = some (nI (bset (fun p => wk G p t) (G 1)), u) := by
  unfold hX7_workersAt
  rw [if_neg (nI_pos (by omega)), lit_10, if_neg (nI_ge ht (by decide)), ixI ht (by decide), nI_clamp (by omega), (h.2.2.2.2.2.2.2 t ht).1]
theorem c_litAt (h : Str u a G) {t : Nat} (ht : t < 10) : hX7_litAt N a (nI t) u = some (nI (bset (fun l => li G l t) (G 3)), u) := by
  unfold hX7_litAt
  rw [if_neg (nI_pos (by omega)), lit_10, if_neg (nI_ge ht (by decide)), ixI ht (by decide), nI_clamp (by omega), (h.2.2.2.2.2.2.2 t ht).2]
theorem bu_bits (g : Gb G) (hm : ∀ l, l < 5 → mL M l ≤ 2) (t : Nat) : dif (bset (fun l => li G l t) (G 3) ||| bset (fun l => mL M l == 1) (G 3)) (bset (fun l => mL M l == 2) (G 3)) = buS G M t := by
  have g3 := g.2.2.2.1
  apply eq_bset
  intro i
  rw [dif_tb, Nat.testBit_or, bset_tb, bset_tb, bset_tb]
  by_cases hi : i < G 3
  · have := hm i (by omega)
    unfold bu
    rcases (by omega : mL M i = 0 ∨ mL M i = 1 ∨ mL M i = 2) with e | e | e <;> rw [e] <;> simp [hi]
  · simp [hi]
theorem c_burningAt (h : Str u b G) (hM : Mom u a G M) (g : Gb G) (hm : ∀ l, l < 5 → mL M l ≤ 2) {t : Nat} (ht : t < 10) : hX2_burningAt N a b (nI t) u = some (nI (buS G M t), u) := by
  unfold hX2_burningAt
  rw [c_litAt h ht, cl_some, hM.2.2.2.1, hM.2.2.2.2.1, nI_or, nI_dif, bu_bits g hm]
theorem c_costOf (h : Str u a G) (g : Gb G) {s : Nat} (hs : s < 2 ^ G 3) (hN : 2000 ≤ N) : hX7_costOf N a (nI s) u = some (nI (sumB (fun l => if s.testBit l then G (70 + 2 * l) else 0) (G 3)), u) := by
  have g3 := g.2.2.2.1
  have hs5 := p5 g3 hs
  have hz : ∀ i, G 3 ≤ i → s.testBit i = false := fun i hi => Nat.testBit_lt_two_pow (Nat.lt_of_lt_of_le hs (Nat.pow_le_pow_right (by decide) hi))
  have e5 : sumB (fun l => if s.testBit l then G (70 + 2 * l) else 0) 5 = sumB (fun l => if s.testBit l then G (70 + 2 * l) else 0) (G 3) := by
    have := sumB_0 (f := fun l => if s.testBit l then G (70 + 2 * l) else 0) (n := G 3) (k := 5 - G 3) (fun i hi => by rw [hz i hi]; rfl)
    rw [show G 3 + (5 - G 3) = 5 by omega] at this
    exact this
  rw [← e5]
  refine lps (fun n k c => hgX7_costOf_4 N n a (nI s) (nI c) (nI k) u) 5 (fun k c => c = sumB (fun l => if s.testBit l then G (70 + 2 * l) else 0) k) (fun r => r = some (nI (sumB (fun l => if s.testBit l then G (70 + 2 * l) else 0) 5), u)) ?_ ?_ N 0 0 (by omega) (by omega) rfl
  · intro n c hI
    rw [hgX7_costOf_4, lit_5, if_pos (nI_le (by omega) (by omega)), hI]
  · intro n k c hk hI
    refine ⟨_, rfl, ?_⟩
    rw [hgX7_costOf_4, lit_5, if_neg (nI_ge hk (by omega)), x_bitOf (by omega) (by omega), cl_some, sumB, hI]
    cases e : s.testBit k with
    | false =>
      rw [if_neg (by decide), lit_1, nI_add]
      rfl
    | true =>
      have hk3 : k < G 3 := by
        rcases Nat.lt_or_ge k (G 3) with q | q
        · exact q
        · rw [hz k q] at e; cases e
      rw [if_pos (by decide), ixI hk (by decide), bs_eq, nI_clamp (by omega), (h.2.2.2.2.2.2.1 k hk3).2, nI_add, lit_1, nI_add]
      rfl
theorem co_bu (t : Nat) : sumB (fun l => if (buS G M t).testBit l then G (70 + 2 * l) else 0) (G 3) = coI G M t := by
  apply sumB_ext
  intro i hi
  unfold buS
  rw [bset_tb]
  simp [hi]
theorem c_costBu (h : Str u a G) (g : Gb G) (t : Nat) (hN : 2000 ≤ N) : hX7_costOf N a (nI (buS G M t)) u = some (nI (coI G M t), u) := by
  rw [c_costOf h g (buS_lt G M t) hN, co_bu]
theorem c_lampsOf (h : Str u a G) (g : Gb G) {p : Nat} (hp : p < 2 ^ 30) (hN : 2000 ≤ N) : hX7_lampsOf N a (nI p) u = some (nI (bset (fun l => G (69 + 2 * l) == p) (G 3)), u) := by
  have g3 := g.2.2.2.1
  refine r_set (G 3) (by omega) (fun l => G (69 + 2 * l) == p) (fun n k s => hgX7_lampsOf_4 N n a (nI p) (nI s) (nI k) u) ?_ ?_ N (by omega)
  · intro n s
    rw [hgX7_lampsOf_4, h.2.2.2.1, if_pos (nI_le (by omega) (by omega))]
  · intro n k s hk
    have gk := g.2.2.2.2.2.2.2.2.1 k hk
    rw [hgX7_lampsOf_4, h.2.2.2.1, if_neg (nI_ge hk (by omega)), ixI (by omega) (by decide), nI_clamp (by omega), (h.2.2.2.2.2.2.1 k hk).1, ifeq (by omega) (by omega)]
    by_cases e : G (69 + 2 * k) = p
    · rw [if_pos e, bs_eq, nI_shl k (by omega), nI_or, lit_1, nI_add, show (G (69 + 2 * k) == p) = true by simpa using e]
      rfl
    · rw [if_neg e, lit_1, nI_add, show (G (69 + 2 * k) == p) = false by simpa using e]
      simp
/-- what the lamps of one cost -/
def owC (G : Nat → Nat) (M : MT) (p : Nat) : Nat := sumB (fun l => if (G (69 + 2 * l) == p && bu G M l (mH M)) then G (70 + 2 * l) else 0) (G 3)
theorem c_own (h : Str u a G) (g : Gb G) {p : Nat} (hN : 2000 ≤ N) : hX7_costOf N a (nI (buS G M (mH M) &&& bset (fun l => G (69 + 2 * l) == p) (G 3))) u = some (nI (owC G M p), u) := by
  rw [c_costOf h g (Nat.lt_of_le_of_lt Nat.and_le_left (buS_lt G M (mH M))) hN]
  congr 3
  apply sumB_ext
  intro i hi
  unfold buS
  rw [Nat.testBit_and, bset_tb, bset_tb]
  cases G (69 + 2 * i) == p <;> cases bu G M i (mH M) <;> simp [hi]
end CLEAF
section ROWN
variable {N m : Nat} {u : SG} {G : Nat → Nat} {M : MT}
theorem r_ownCost (h : RA (zI u (m + 10)) G M) (hr : RB (zI u (m + 10)) G) (g : Gb G) (hm : ∀ l, l < 5 → mL M l ≤ 2) (ht : mH M < 2 ^ 30) {p : Nat} (hp : p < 2 ^ 30) (hN : 2000 ≤ N) : hX11_ownCost N m (nI p) u = some (nI (owC G M p), u) := by
  have g3 := g.2.2.2.1
  refine lps (fun n k s => hgX11_ownCost_4 N n m (nI p) (nI s) (nI k) u) (G 3) (fun k s => s = sumB (fun l => if (G (69 + 2 * l) == p && bu G M l (mH M)) then G (70 + 2 * l) else 0) k) (fun r => r = some (nI (owC G M p), u)) ?_ ?_ N 0 0 (by omega) (by omega) rfl
  · intro n s hI
    rw [hgX11_ownCost_4, h.1 3 (by omega), if_pos (nI_le (by omega) (by omega)), hI]
    rfl
  · intro n k s hk hI
    have gk := g.2.2.2.2.2.2.2.2.1 k hk
    refine ⟨_, rfl, ?_⟩
    rw [hgX11_ownCost_4, h.1 3 (by omega), if_neg (nI_ge hk (by omega))]
    simp only [lit_69, lit_2, pk_mul, nI_add]
    rw [ixI (by omega) (by decide), nI_clamp (by omega), hr _ (by omega) (by omega), ifeq (by omega) (by omega), sumB, hI]
    by_cases e : G (69 + 2 * k) = p
    · rw [if_pos e, h.2.1, r_burnsIn h hr g hm (by omega) ht hN, cl_some, show (G (69 + 2 * k) == p) = true by simpa using e]
      cases bu G M k (mH M) with
      | false =>
        rw [if_pos (by decide), bs_eq, lit_0, nI_add, lit_1, nI_add]
        rfl
      | true =>
        rw [if_neg (by decide), r_costOf hr (by omega), cl_some, bs_eq, nI_add, lit_1, nI_add]
        rfl
    · rw [if_neg e, bs_eq, lit_0, nI_add, lit_1, nI_add, show (G (69 + 2 * k) == p) = false by simpa using e]
      rfl
end ROWN
