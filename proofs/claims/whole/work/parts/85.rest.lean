/-! OPERATIONS, 9: rest, dark -/
def gtO (f : Nat → Bool) : Nat → Option Nat
  | 0 => none
  | n + 1 => if f n then some n else gtO f n
theorem cntB_cut {f : Nat → Bool} {n k : Nat} (h : ∀ i, n ≤ i → f i = false) : cntB f (n + k) = cntB f n := by
  induction k with
  | zero => rfl
  | succ k ih => rw [← Nat.add_assoc, cntB, ih, h _ (by omega)]; rfl
theorem lsO_cut {f : Nat → Bool} {n k : Nat} (h : ∀ i, n ≤ i → f i = false) : lsO f (n + k) = lsO f n := by
  induction k with
  | zero => rfl
  | succ k ih =>
    rw [← Nat.add_assoc, lsO, ih, h _ (by omega)]
    cases lsO f n <;> rfl
theorem gtO_cut {f : Nat → Bool} {n k : Nat} (h : ∀ i, n ≤ i → f i = false) : gtO f (n + k) = gtO f n := by
  induction k with
  | zero => rfl
  | succ k ih => rw [← Nat.add_assoc, gtO, ih, h _ (by omega)]; rfl
theorem dif0_le {s d : Nat} (h : dif s d = 0) : s ≤ d := by
  apply Nat.le_of_testBit
  intro i hi
  have e := congrArg (fun z => Nat.testBit z i) h
  simp only [dif_tb, Nat.zero_testBit, hi] at e
  simpa using e
/-- at rest: one person -/
def rsP (G : Nat → Nat) (M : MT) (s p : Nat) : Bool := if s.testBit p then decide (coI G M (mH M) ≤ G (10 + 6 * p + 1) * pc s) else if wk G p (mH M) then true else decide (G (10 + 6 * p + 1) * (pc s + 1) ≤ coI G M (mH M))
def rsB (G : Nat → Nat) (M : MT) (s : Nat) : Bool := decide (dif s (idS G M) = 0) && !anyB (fun p => !rsP G M s p) (G 1)
theorem idS_lt (G : Nat → Nat) (M : MT) : idS G M < 2 ^ G 1 := bset_lt _ _
theorem id_tb {G : Nat → Nat} {M : MT} {p : Nat} (hp : p < G 1) : (idS G M).testBit p = !wk G p (mH M) := by unfold idS; rw [bset_tb]; simp [hp]
theorem free_id (G : Nat → Nat) (M : MT) : dif (2 ^ G 1 - 1) (bset (fun p => wk G p (mH M)) (G 1)) = idS G M := by
  apply eq_bset
  intro i
  rw [dif_tb, Nat.testBit_two_pow_sub_one, bset_tb]
  cases decide (i < G 1) <;> simp
section REST
variable {N x m c : Nat} {u : SG} {A : AT}
theorem c_isAtRest (iC : InvC u x A) (hA : Aok c A) {s : Nat} (hs : dif s (idS (sG (aS A)) (sM (aS A))) = 0) (hN : 2000 ≤ N) : hX10_isAtRest N x (nI s) (nI (idS (sG (aS A)) (sM (aS A)))) (nI (coI (sG (aS A)) (sM (aS A)) (mH (sM (aS A))))) u = some (nI (b2n (!anyB (fun p => !rsP (sG (aS A)) (sM (aS A)) s p) (sG (aS A) 1))), u) := by
  obtain ⟨g, hb, -⟩ := hA.2.2.2.2.1
  have g1 := g.2.1
  have i5 := p5 g1 (idS_lt (sG (aS A)) (sM (aS A)))
  have sl := dif0_le hs
  have pcl := pc_le s
  have co := coI_le (M := sM (aS A)) g (mH (sM (aS A)))
  unfold hX10_isAtRest
  rw [x_bitCount (by omega), cl_some]
  refine lpq (fun f k (_ : Unit) => hgX10_isAtRest_9 N f x (nI s) (nI (idS (sG (aS A)) (sM (aS A)))) (nI (coI (sG (aS A)) (sM (aS A)) (mH (sM (aS A))))) (nI (pc s)) (nI k) u) (sG (aS A) 1) (fun k _ => ∀ j, j < k → (!rsP (sG (aS A)) (sM (aS A)) s j) = false) (fun r => r = some (nI (b2n (!anyB (fun p => !rsP (sG (aS A)) (sM (aS A)) s p) (sG (aS A) 1))), u)) ?_ ?_ N 0 () (by omega) (by omega) (fun j hj => by omega)
  · intro f _ hI
    rw [hgX10_isAtRest_9, iC.sn.1.2.1, if_pos (nI_le (by omega) (by omega)), anyB_false.mpr hI]
    rfl
  · intro f k _ hk hI
    have gk := (g.2.2.2.2.2.2.1 k hk).2
    have m1 : sG (aS A) (10 + 6 * k + 1) * pc s ≤ 60 * 10 := Nat.mul_le_mul gk pcl
    have m2 : sG (aS A) (10 + 6 * k + 1) * (pc s + 1) ≤ 60 * 11 := Nat.mul_le_mul gk (by omega)
    have ew : zI u (x + 20) k = nI (sG (aS A) (10 + 6 * k + 1)) := (iC.sn.1.2.2.2.2.2.1 k hk).2
    have fin : ∀ b : Bool, rsP (sG (aS A)) (sM (aS A)) s k = b → (hgX10_isAtRest_9 N (f + 1) x (nI s) (nI (idS (sG (aS A)) (sM (aS A)))) (nI (coI (sG (aS A)) (sM (aS A)) (mH (sM (aS A))))) (nI (pc s)) (nI k) u = if b then hgX10_isAtRest_9 N f x (nI s) (nI (idS (sG (aS A)) (sM (aS A)))) (nI (coI (sG (aS A)) (sM (aS A)) (mH (sM (aS A))))) (nI (pc s)) (nI (k + 1)) u else some (0, u)) → (hgX10_isAtRest_9 N (f + 1) x (nI s) (nI (idS (sG (aS A)) (sM (aS A)))) (nI (coI (sG (aS A)) (sM (aS A)) (mH (sM (aS A))))) (nI (pc s)) (nI k) u = some (nI (b2n (!anyB (fun p => !rsP (sG (aS A)) (sM (aS A)) s p) (sG (aS A) 1))), u)) ∨ ∃ _ : Unit, (∀ j, j < k + 1 → (!rsP (sG (aS A)) (sM (aS A)) s j) = false) ∧ hgX10_isAtRest_9 N (f + 1) x (nI s) (nI (idS (sG (aS A)) (sM (aS A)))) (nI (coI (sG (aS A)) (sM (aS A)) (mH (sM (aS A))))) (nI (pc s)) (nI k) u = hgX10_isAtRest_9 N f x (nI s) (nI (idS (sG (aS A)) (sM (aS A)))) (nI (coI (sG (aS A)) (sM (aS A)) (mH (sM (aS A))))) (nI (pc s)) (nI (k + 1)) u := by
      intro b e h
      cases b with
      | false => left; rw [h, anyB_iff.mpr ⟨k, hk, by simp [e]⟩]; rfl
      | true =>
        right
        refine ⟨(), fun j hj => ?_, h⟩
        by_cases q : j = k
        · subst q; simp [e]
        · exact hI j (by omega)
    refine fin _ rfl ?_
    rw [hgX10_isAtRest_9, iC.sn.1.2.1, if_neg (nI_ge hk (by omega)), ixI (by omega) (by decide), nI_clamp (by omega), bs_eq, ew, x_bitOf (by omega) (by omega), cl_some, x_bitOf (by omega) (by omega), cl_some, lit_1, nI_add, nI_add, pk_mul, pk_mul, ifle (by omega) (by omega), ifle (by omega) (by omega), id_tb hk]
    unfold rsP
    cases s.testBit k with
    | true =>
      rw [if_pos (by decide), if_pos rfl]
      by_cases q : coI (sG (aS A)) (sM (aS A)) (mH (sM (aS A))) ≤ sG (aS A) (10 + 6 * k + 1) * pc s
      · rw [if_pos q, decide_eq_true q]; rfl
      · rw [if_neg q, decide_eq_false q]; rfl
    | false =>
      rw [if_neg (by decide), if_neg (show ¬ false = true by decide)]
      cases wk (sG (aS A)) k (mH (sM (aS A))) with
      | true => rw [if_neg (by decide)]; rfl
      | false =>
        rw [if_pos (by decide), if_neg (show ¬ false = true by decide)]
        by_cases q : sG (aS A) (10 + 6 * k + 1) * (pc s + 1) ≤ coI (sG (aS A)) (sM (aS A)) (mH (sM (aS A)))
        · rw [if_pos q, decide_eq_true q]; rfl
        · rw [if_neg q, decide_eq_false q]; rfl
theorem r_isRest (iR : InvR u m A) (hA : Aok c A) {s : Nat} (hs : s < 32) (hN : 2000 ≤ N) : hX11_isRest N m (nI s) u = some (nI (b2n (rsB (sG (aS A)) (sM (aS A)) s)), u) := by
  obtain ⟨g, hb, -⟩ := hA.2.2.2.2.1
  have g1 := g.2.1
  have h9 := hb.h9 g
  have i5 := p5 g1 (idS_lt (sG (aS A)) (sM (aS A)))
  have pcl := pc_le s
  have co := coI_le (M := sM (aS A)) g (mH (sM (aS A)))
  have dl := dif_le s (idS (sG (aS A)) (sM (aS A)))
  unfold hX11_isRest
  rw [r_idle iR.sn.1.1 iR.sn.1.2.1 g (by omega) hN, cl_some, iR.sn.1.1.2.1, r_costIn iR.sn.1.1 iR.sn.1.2.1 g hb.2.2.2.2 (by omega) hN, cl_some, x_bits (by omega) (by omega), cl_some, nI_dif, lit_0, ifeq (by omega) (by decide)]
  unfold rsB
  by_cases q : ¬ dif s (idS (sG (aS A)) (sM (aS A))) = 0
  · rw [if_neg q, decide_eq_false q]; rfl
  have q := Decidable.not_not.mp q
  rw [if_pos q, decide_eq_true q, Bool.true_and]
  refine lpq (fun f k (_ : Unit) => hgX11_isRest_35 N f m (nI s) (nI (idS (sG (aS A)) (sM (aS A)))) (nI (coI (sG (aS A)) (sM (aS A)) (mH (sM (aS A))))) (nI (pc s)) (nI k) u) (sG (aS A) 1) (fun k _ => ∀ j, j < k → (!rsP (sG (aS A)) (sM (aS A)) s j) = false) (fun r => r = some (nI (b2n (!anyB (fun p => !rsP (sG (aS A)) (sM (aS A)) s p) (sG (aS A) 1))), u)) ?_ ?_ N 0 () (by omega) (by omega) (fun j hj => by omega)
  · intro f _ hI
    rw [hgX11_isRest_35, iR.sn.1.1.1 1 (by decide), if_pos (nI_le (by omega) (by omega)), anyB_false.mpr hI]
    rfl
  · intro f k _ hk hI
    have gk := (g.2.2.2.2.2.2.1 k hk).2
    have m1 : sG (aS A) (10 + 6 * k + 1) * pc s ≤ 60 * 10 := Nat.mul_le_mul gk pcl
    have m2 : sG (aS A) (10 + 6 * k + 1) * (pc s + 1) ≤ 60 * 11 := Nat.mul_le_mul gk (by omega)
    have fin : ∀ b : Bool, rsP (sG (aS A)) (sM (aS A)) s k = b → (hgX11_isRest_35 N (f + 1) m (nI s) (nI (idS (sG (aS A)) (sM (aS A)))) (nI (coI (sG (aS A)) (sM (aS A)) (mH (sM (aS A))))) (nI (pc s)) (nI k) u = if b then hgX11_isRest_35 N f m (nI s) (nI (idS (sG (aS A)) (sM (aS A)))) (nI (coI (sG (aS A)) (sM (aS A)) (mH (sM (aS A))))) (nI (pc s)) (nI (k + 1)) u else some (0, u)) → (hgX11_isRest_35 N (f + 1) m (nI s) (nI (idS (sG (aS A)) (sM (aS A)))) (nI (coI (sG (aS A)) (sM (aS A)) (mH (sM (aS A))))) (nI (pc s)) (nI k) u = some (nI (b2n (!anyB (fun p => !rsP (sG (aS A)) (sM (aS A)) s p) (sG (aS A) 1))), u)) ∨ ∃ _ : Unit, (∀ j, j < k + 1 → (!rsP (sG (aS A)) (sM (aS A)) s j) = false) ∧ hgX11_isRest_35 N (f + 1) m (nI s) (nI (idS (sG (aS A)) (sM (aS A)))) (nI (coI (sG (aS A)) (sM (aS A)) (mH (sM (aS A))))) (nI (pc s)) (nI k) u = hgX11_isRest_35 N f m (nI s) (nI (idS (sG (aS A)) (sM (aS A)))) (nI (coI (sG (aS A)) (sM (aS A)) (mH (sM (aS A))))) (nI (pc s)) (nI (k + 1)) u := by
      intro b e h
      cases b with
      | false => left; rw [h, anyB_iff.mpr ⟨k, hk, by simp [e]⟩]; rfl
      | true =>
        right
        refine ⟨(), fun j hj => ?_, h⟩
        by_cases q : j = k
        · subst q; simp [e]
        · exact hI j (by omega)
    refine fin _ rfl ?_
    have sub : s.testBit k = true → wk (sG (aS A)) k (mH (sM (aS A))) = false := by
      intro e
      have e2 := congrArg (fun z => Nat.testBit z k) q
      simp only [dif_tb, Nat.zero_testBit, e, id_tb hk] at e2
      simpa using e2
    rw [hgX11_isRest_35, iR.sn.1.1.1 1 (by decide), if_neg (nI_ge hk (by omega)), x_isOf (by omega) (by omega), cl_some, id_tb hk, r_pOf1 (by omega), cl_some, x_isOf (by omega) (by omega), cl_some, (iR.sn.1.1.2.2.2.2.1 k hk).2.1, lit_1, nI_add, nI_add, pk_mul, pk_mul, ifle (by omega) (by omega), ifle (by omega) (by omega)]
    unfold rsP
    cases e : s.testBit k with
    | true =>
      rw [sub e, if_neg (by decide), if_neg (by decide), if_pos rfl]
      by_cases q : coI (sG (aS A)) (sM (aS A)) (mH (sM (aS A))) ≤ sG (aS A) (10 + 6 * k + 1) * pc s
      · rw [if_pos q, decide_eq_true q]; rfl
      · rw [if_neg q, decide_eq_false q]; rfl
    | false =>
      rw [if_neg (show ¬ false = true by decide)]
      cases wk (sG (aS A)) k (mH (sM (aS A))) with
      | true => rw [if_pos (by decide)]; rfl
      | false =>
        rw [if_neg (by decide), if_pos (by decide), if_neg (show ¬ false = true by decide)]
        by_cases q : sG (aS A) (10 + 6 * k + 1) * (pc s + 1) ≤ coI (sG (aS A)) (sM (aS A)) (mH (sM (aS A)))
        · rw [if_pos q, decide_eq_true q]; rfl
        · rw [if_neg q, decide_eq_false q]; rfl
end REST
section OPS9
variable {N : Nat}
theorem op_rest (p1 : Int32) (hN : 2000 ≤ N) : OpOK (fun x u => fX10_rest N x p1 u) (fun m u => fX11_rest N m p1 u) := by
  refine op_pure (fun x u h => eX10_rest N x p1 u h) (fun m u h => eX11_rest N m p1 u h) (fun c x A hc hA => ?_)
  obtain ⟨g, hb, -⟩ := hA.2.2.2.2.1
  have g1 := g.2.1
  obtain ⟨w1, w2⟩ := pw5 g1
  have i5 := idS_lt (sG (aS A)) (sM (aS A))
  rcases Nat.eq_zero_or_pos (sG (aS A) 0) with h0 | h0
  · refine ⟨-1, fun u iC => ?_, fun m u iR => ?_⟩
    · unfold hX10_rest; rw [c_isTold iC.sn.1 g, cl_some, if_pos (told0 h0)]
    · unfold hX11_rest; rw [r_isStreet iR.sn.1.1 g, cl_some, if_pos (told0 h0)]
  cases eo : pB p1 3 with
  | false =>
    refine ⟨-1, fun u iC => ?_, fun m u iR => ?_⟩
    · unfold hX10_rest; rw [c_isTold iC.sn.1 g, cl_some, if_neg (told1 h0), lit_2, pB_if2 (by decide), eo]; rfl
    · unfold hX11_rest; rw [r_isStreet iR.sn.1.1 g, cl_some, if_neg (told1 h0), x_inb (b := 2) (q := 2) (by decide) rfl, cl_some, eo, if_pos (by decide)]
  | true =>
    obtain ⟨j, hj, rfl⟩ := pB_t (by decide) eo
    have ltA : ∀ k, k ≤ 2 ^ sG (aS A) 1 → ∀ a, lsO (rsB (sG (aS A)) (sM (aS A))) k = some a → a < 2 ^ 31 := fun k hk a h => by have := lsO_lt _ k a h; omega
    have cut : ∀ i, idS (sG (aS A)) (sM (aS A)) + 1 ≤ i → rsB (sG (aS A)) (sM (aS A)) i = false := by
      intro i hi
      unfold rsB
      rw [decide_eq_false (fun z => by have := dif0_le z; omega), Bool.false_and]
    have eb : 2 ^ sG (aS A) 1 = (idS (sG (aS A)) (sM (aS A)) + 1) + (2 ^ sG (aS A) 1 - (idS (sG (aS A)) (sM (aS A)) + 1)) := by omega
    have e1 := cntB_cut (k := 2 ^ sG (aS A) 1 - (idS (sG (aS A)) (sM (aS A)) + 1)) cut
    have e2 := lsO_cut (k := 2 ^ sG (aS A) 1 - (idS (sG (aS A)) (sM (aS A)) + 1)) cut
    have e3 := gtO_cut (k := 2 ^ sG (aS A) 1 - (idS (sG (aS A)) (sM (aS A)) + 1)) cut
    rw [← eb] at e1 e2 e3
    refine ⟨if j = 0 then nI (cntB (rsB (sG (aS A)) (sM (aS A))) (2 ^ sG (aS A) 1)) else if j = 1 then opI (lsO (rsB (sG (aS A)) (sM (aS A))) (2 ^ sG (aS A) 1)) else opI (gtO (rsB (sG (aS A)) (sM (aS A))) (2 ^ sG (aS A) 1)), fun u iC => ?_, fun m u iR => ?_⟩
    · rw [e1, e2, e3]
      unfold hX10_rest
      rw [c_isTold iC.sn.1 g, cl_some, if_neg (told1 h0), lit_2, pB_if2 (by decide), eo, if_pos rfl, c_everyone iC.sn.1 g, cl_some, c_workersNow iC.sn g hb, cl_some, bs_eq, nI_dif, free_id, c_burningNow iC.sn g hb, cl_some, c_costBu iC.sn.1 g _ hN, cl_some]
      refine lps (fun f k (s : Nat × Option Nat × Option Nat) => hgX10_rest_71 N f x (nI j) (nI (idS (sG (aS A)) (sM (aS A)))) (nI (coI (sG (aS A)) (sM (aS A)) (mH (sM (aS A))))) (nI s.1) (opI s.2.1) (opI s.2.2) (nI k) u) (idS (sG (aS A)) (sM (aS A)) + 1) (fun k s => s = (cntB (rsB (sG (aS A)) (sM (aS A))) k, lsO (rsB (sG (aS A)) (sM (aS A))) k, gtO (rsB (sG (aS A)) (sM (aS A))) k)) (fun r => r = some (_, u)) ?_ ?_ N 0 (0, none, none) (by omega) (by omega) rfl
      · intro f s hI
        rw [hI, hgX10_rest_71, if_pos (nI_lt (by omega) (by omega))]
        rcases (by omega : j = 0 ∨ j = 1 ∨ j = 2) with rfl | rfl | rfl
        · rw [if_pos (by decide)]; rfl
        · rw [if_neg (by decide), if_pos (by decide)]; rfl
        · rw [if_neg (by decide), if_neg (by decide)]; rfl
      · intro f k s hk hI
        refine ⟨_, rfl, ?_⟩
        have dl := dif_le k (idS (sG (aS A)) (sM (aS A)))
        rw [hI, hgX10_rest_71, if_neg (nI_nlt (by omega) (by omega)), nI_dif, lit_0, ifeq (by omega) (by decide), cntB, lsO, gtO]
        by_cases q : dif k (idS (sG (aS A)) (sM (aS A))) = 0
        · rw [if_pos q, c_isAtRest iC hA q hN, cl_some, lit_1, nI_add, nI_add]
          have er : rsB (sG (aS A)) (sM (aS A)) k = !anyB (fun p => !rsP (sG (aS A)) (sM (aS A)) k p) (sG (aS A) 1) := by unfold rsB; rw [decide_eq_true q, Bool.true_and]
          rw [← er]
          simp only [opI_2 (ltA k (by omega))]
          cases rsB (sG (aS A)) (sM (aS A)) k with
          | false => rw [if_pos (by decide)]; cases lsO (rsB (sG (aS A)) (sM (aS A))) k <;> rfl
          | true =>
            rw [if_neg (by decide)]
            cases e : lsO (rsB (sG (aS A)) (sM (aS A))) k with
            | none => rw [if_pos rfl]; rfl
            | some a => rw [if_neg (by simp)]; rfl
        · rw [if_neg q, lit_1, nI_add]
          have er : rsB (sG (aS A)) (sM (aS A)) k = false := by unfold rsB; rw [decide_eq_false q, Bool.false_and]
          rw [er]
          cases lsO (rsB (sG (aS A)) (sM (aS A))) k <;> rfl
    · unfold hX11_rest
      rw [r_isStreet iR.sn.1.1 g, cl_some, if_neg (told1 h0), x_inb (b := 2) (q := 2) (by decide) rfl, cl_some, eo, if_neg (by decide)]
      refine lps (fun f k (s : Nat × Option Nat × Option Nat) => hgX11_rest_33 N f m (nI j) (nI s.1) (opI s.2.1) (opI s.2.2) (nI k) u) (2 ^ sG (aS A) 1) (fun k s => s = (cntB (rsB (sG (aS A)) (sM (aS A))) k, lsO (rsB (sG (aS A)) (sM (aS A))) k, gtO (rsB (sG (aS A)) (sM (aS A))) k)) (fun r => r = some (_, u)) ?_ ?_ N 0 (0, none, none) (by omega) (by omega) rfl
      · intro f s hI
        rw [hI, hgX11_rest_33, iR.sn.1.1.1 1 (by decide), nI_shl _ (by omega), if_pos (nI_le (by omega) (by omega))]
        rcases (by omega : j = 0 ∨ j = 1 ∨ j = 2) with rfl | rfl | rfl
        · rw [if_pos (by decide)]; rfl
        · rw [if_neg (by decide), if_pos (by decide)]; rfl
        · rw [if_neg (by decide), if_neg (by decide)]; rfl
      · intro f k s hk hI
        have cl9 := cntB_le (rsB (sG (aS A)) (sM (aS A))) k
        refine ⟨_, rfl, ?_⟩
        rw [hI]
        dsimp only
        rw [hgX11_rest_33, iR.sn.1.1.1 1 (by decide), nI_shl _ (by omega), if_neg (nI_ge hk (by omega)), r_isRest iR hA (by omega) hN, cl_some, lit_1, nI_add, nI_add, cntB, lsO, gtO]
        cases rsB (sG (aS A)) (sM (aS A)) k with
        | false => rw [if_pos (by decide)]; cases lsO (rsB (sG (aS A)) (sM (aS A))) k <;> rfl
        | true =>
          rw [if_neg (by decide), lit_0, ifeq (by omega) (by decide)]
          have hz := lsO_none (rsB (sG (aS A)) (sM (aS A))) k
          cases e : lsO (rsB (sG (aS A)) (sM (aS A))) k with
          | none => rw [if_pos (hz.mp e)]; rfl
          | some a => rw [if_neg (fun z => by rw [hz.mpr z] at e; cases e)]; rfl
end OPS9
