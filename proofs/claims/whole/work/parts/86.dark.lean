/-! OPERATIONS, 10: dark -/
def dkC (G : Nat → Nat) (M : MT) (s : Nat) : Nat := sumB (fun l => if bu G M l (mH M) && !s.testBit l then G (70 + 2 * l) else 0) (G 3)
def dkP (G : Nat → Nat) (M : MT) (s p : Nat) : Bool := wk G p (mH M) || decide (dkC G M s ≤ G (10 + 6 * p + 1) * pc (idS G M))
def dkE (G : Nat → Nat) (M : MT) (s : Nat) : Bool := !anyB (fun p => !dkP G M s p) (G 1)
def bD (G : Nat → Nat) (M : MT) : Nat := buS G M (mH M)
def dkT (s : Nat) (o : Option Nat) : Bool := match o with
  | none => true
  | some t => decide (pc s < pc t)
def dkB (G : Nat → Nat) (M : MT) : Nat → Option Nat
  | 0 => none
  | s + 1 => if decide (dif s (bD G M) = 0) && (dkT s (dkB G M s) && dkE G M s) then some s else dkB G M s
theorem dkC_le {G : Nat → Nat} {M : MT} (g : Gb G) (s : Nat) : dkC G M s ≤ 300 := by
  have h := sumB_le (f := fun l => if bu G M l (mH M) && !s.testBit l then G (70 + 2 * l) else 0) (c := 60) (n := G 3) (fun i hi => by
    have := (g.2.2.2.2.2.2.2.2.1 i hi).2
    split <;> omega)
  have := g.2.2.2.1
  unfold dkC
  omega
theorem dkB_sub {G : Nat → Nat} {M : MT} : ∀ n t, dkB G M n = some t → t < n ∧ dif t (bD G M) = 0 := by
  intro n
  induction n with
  | zero => intro t h; cases h
  | succ n ih =>
    intro t h
    rw [dkB] at h
    split at h
    · next q =>
      cases h
      simp at q
      exact ⟨by omega, q.1⟩
    · have := ih t h
      exact ⟨by omega, this.2⟩
theorem sub_pc : ∀ b, b < 32 → ∀ s, s < b → dif s b = 0 → pc s < pc b := by decide +kernel
theorem sub_pc2 : ∀ b, b < 32 → ∀ s, s ≤ b → dif s b = 0 → pc s ≤ pc b := by
  intro b hb s hs hd
  rcases Nat.lt_or_eq_of_le hs with h | h
  · exact Nat.le_of_lt (sub_pc b hb s h hd)
  · rw [h]; exact Nat.le_refl _
theorem dkE_all {G : Nat → Nat} {M : MT} : dkE G M (bD G M) = true := by
  have e : dkC G M (bD G M) = 0 := by
    have : ∀ n, n ≤ G 3 → sumB (fun l => if bu G M l (mH M) && !(bD G M).testBit l then G (70 + 2 * l) else 0) n = 0 := by
      intro n
      induction n with
      | zero => intro _; rfl
      | succ n ih =>
        intro hn
        rw [sumB, ih (by omega)]
        unfold bD buS
        rw [bset_tb]
        cases bu G M n (mH M) <;> simp [show n < G 3 by omega]
    exact this _ (Nat.le_refl _)
  unfold dkE
  rw [anyB_false.mpr (fun j hj => by unfold dkP; rw [e]; simp)]
  rfl
theorem dif_self (s : Nat) : dif s s = 0 := by unfold dif; simp
section DARK
variable {N x m c : Nat} {u : SG} {A : AT}
theorem dk_bits {G : Nat → Nat} {M : MT} (s : Nat) : sumB (fun l => if (dif (bD G M) s).testBit l then G (70 + 2 * l) else 0) (G 3) = dkC G M s := by
  apply sumB_ext
  intro i hi
  unfold bD buS
  rw [dif_tb, bset_tb]
  simp [hi]
theorem c_allCould (iC : InvC u x A) (hA : Aok c A) (s : Nat) (hN : 2000 ≤ N) : hX10_allCouldSleep N x (nI (dif (bD (sG (aS A)) (sM (aS A))) s)) u = some (nI (b2n (dkE (sG (aS A)) (sM (aS A)) s)), u) := by
  obtain ⟨g, hb, -⟩ := hA.2.2.2.2.1
  have g1 := g.2.1
  have i5 := p5 g1 (idS_lt (sG (aS A)) (sM (aS A)))
  have dl := dif_le (bD (sG (aS A)) (sM (aS A))) s
  have bl := buS_lt (sG (aS A)) (sM (aS A)) (mH (sM (aS A)))
  have ck := dkC_le (M := sM (aS A)) g s
  have pcl := pc_le (idS (sG (aS A)) (sM (aS A)))
  unfold hX10_allCouldSleep
  rw [c_everyone iC.sn.1 g, cl_some, c_workersNow iC.sn g hb, cl_some, bs_eq, nI_dif, free_id, c_costOf iC.sn.1 g (Nat.lt_of_le_of_lt dl bl) hN, cl_some, dk_bits]
  unfold dkE
  refine lpq (fun f k (_ : Unit) => hgX10_allCouldSleep_33 N f x (nI (idS (sG (aS A)) (sM (aS A)))) (nI (dkC (sG (aS A)) (sM (aS A)) s)) (nI k) u) (sG (aS A) 1) (fun k _ => ∀ j, j < k → (!dkP (sG (aS A)) (sM (aS A)) s j) = false) (fun r => r = some (nI (b2n (!anyB (fun p => !dkP (sG (aS A)) (sM (aS A)) s p) (sG (aS A) 1))), u)) ?_ ?_ N 0 () (by omega) (by omega) (fun j hj => by omega)
  · intro f _ hI
    rw [hgX10_allCouldSleep_33, iC.sn.1.2.1, if_pos (nI_le (by omega) (by omega)), anyB_false.mpr hI]
    rfl
  · intro f k _ hk hI
    have gk := (g.2.2.2.2.2.2.1 k hk).2
    have m1 : sG (aS A) (10 + 6 * k + 1) * pc (idS (sG (aS A)) (sM (aS A))) ≤ 60 * 10 := Nat.mul_le_mul gk pcl
    have ew : zI u (x + 20) k = nI (sG (aS A) (10 + 6 * k + 1)) := (iC.sn.1.2.2.2.2.2.1 k hk).2
    have st : hgX10_allCouldSleep_33 N (f + 1) x (nI (idS (sG (aS A)) (sM (aS A)))) (nI (dkC (sG (aS A)) (sM (aS A)) s)) (nI k) u = if dkP (sG (aS A)) (sM (aS A)) s k then hgX10_allCouldSleep_33 N f x (nI (idS (sG (aS A)) (sM (aS A)))) (nI (dkC (sG (aS A)) (sM (aS A)) s)) (nI (k + 1)) u else some (0, u) := by
      rw [hgX10_allCouldSleep_33, iC.sn.1.2.1, if_neg (nI_ge hk (by omega)), x_bitOf (by omega) (by omega), cl_some, id_tb hk]
      unfold hgX10_allCouldSleep_63 dkP
      rw [lit_1, nI_add, ixI (by omega) (by decide), nI_clamp (by omega), ew, x_bitCount (by omega), cl_some, pk_mul, ifle (by omega) (by omega)]
      cases wk (sG (aS A)) k (mH (sM (aS A))) with
      | true => rw [if_neg (by decide), if_pos (by decide)]; rfl
      | false =>
        rw [if_pos (by decide), if_neg (by decide)]
        by_cases q : dkC (sG (aS A)) (sM (aS A)) s ≤ sG (aS A) (10 + 6 * k + 1) * pc (idS (sG (aS A)) (sM (aS A)))
        · rw [if_pos q, decide_eq_true q]; rfl
        · rw [if_neg q, decide_eq_false q]; rfl
    cases e : dkP (sG (aS A)) (sM (aS A)) s k with
    | false => left; rw [st, e, anyB_iff.mpr ⟨k, hk, by simp [e]⟩]; rfl
    | true =>
      right
      refine ⟨(), fun j hj => ?_, by rw [st, e]; rfl⟩
      by_cases q : j = k
      · subst q; simp [e]
      · exact hI j (by omega)
theorem r_isDark (iR : InvR u m A) (hA : Aok c A) {s : Nat} (hs : s < 32) (hN : 2000 ≤ N) : hX11_isDarkEnough N m (nI s) u = some (nI (b2n (dkE (sG (aS A)) (sM (aS A)) s)), u) := by
  obtain ⟨g, hb, -⟩ := hA.2.2.2.2.1
  have g1 := g.2.1
  have g3 := g.2.2.2.1
  have h9 := hb.h9 g
  have i5 := p5 g1 (idS_lt (sG (aS A)) (sM (aS A)))
  have ck := dkC_le (M := sM (aS A)) g s
  have pcl := pc_le (idS (sG (aS A)) (sM (aS A)))
  unfold hX11_isDarkEnough
  rw [r_idle iR.sn.1.1 iR.sn.1.2.1 g (by omega) hN, cl_some]
  refine lps (fun f k z => hgX11_isDarkEnough_10 N f m (nI s) (nI (idS (sG (aS A)) (sM (aS A)))) (nI z) (nI k) u) (sG (aS A) 3) (fun k z => z = sumB (fun l => if bu (sG (aS A)) (sM (aS A)) l (mH (sM (aS A))) && !s.testBit l then sG (aS A) (70 + 2 * l) else 0) k) (fun r => r = some (nI (b2n (dkE (sG (aS A)) (sM (aS A)) s)), u)) ?_ ?_ N 0 0 (by omega) (by omega) rfl
  · intro f z hz
    rw [hgX11_isDarkEnough_10, iR.sn.1.1.1 3 (by decide), if_pos (nI_le (by omega) (by omega)), show z = dkC (sG (aS A)) (sM (aS A)) s from hz]
    unfold dkE
    refine lpq (fun f k (_ : Unit) => hgX11_isDarkEnough_67 N f m (nI (idS (sG (aS A)) (sM (aS A)))) (nI (dkC (sG (aS A)) (sM (aS A)) s)) (nI k) u) (sG (aS A) 1) (fun k _ => ∀ j, j < k → (!dkP (sG (aS A)) (sM (aS A)) s j) = false) (fun r => r = some (nI (b2n (!anyB (fun p => !dkP (sG (aS A)) (sM (aS A)) s p) (sG (aS A) 1))), u)) ?_ ?_ N 0 () (by omega) (by omega) (fun j hj => by omega)
    · intro f _ hI
      rw [hgX11_isDarkEnough_67, iR.sn.1.1.1 1 (by decide), if_pos (nI_le (by omega) (by omega)), anyB_false.mpr hI]
      rfl
    · intro f k _ hk hI
      have gk := (g.2.2.2.2.2.2.1 k hk).2
      have m1 : sG (aS A) (10 + 6 * k + 1) * pc (idS (sG (aS A)) (sM (aS A))) ≤ 60 * 10 := Nat.mul_le_mul gk pcl
      have st : hgX11_isDarkEnough_67 N (f + 1) m (nI (idS (sG (aS A)) (sM (aS A)))) (nI (dkC (sG (aS A)) (sM (aS A)) s)) (nI k) u = if dkP (sG (aS A)) (sM (aS A)) s k then hgX11_isDarkEnough_67 N f m (nI (idS (sG (aS A)) (sM (aS A)))) (nI (dkC (sG (aS A)) (sM (aS A)) s)) (nI (k + 1)) u else some (0, u) := by
        rw [hgX11_isDarkEnough_67, iR.sn.1.1.1 1 (by decide), if_neg (nI_ge hk (by omega)), x_isOf (by omega) (by omega), cl_some, id_tb hk, r_pOf1 (by omega), cl_some, x_bits (by omega) (by omega), cl_some, (iR.sn.1.1.2.2.2.2.1 k hk).2.1, pk_mul, ifle (by omega) (by omega), lit_1, nI_add]
        unfold dkP
        cases wk (sG (aS A)) k (mH (sM (aS A))) with
        | true => rw [if_pos (by decide)]; rfl
        | false =>
          rw [if_neg (by decide)]
          by_cases q : dkC (sG (aS A)) (sM (aS A)) s ≤ sG (aS A) (10 + 6 * k + 1) * pc (idS (sG (aS A)) (sM (aS A)))
          · rw [if_pos q, decide_eq_true q]; rfl
          · rw [if_neg q, decide_eq_false q]; rfl
      cases e : dkP (sG (aS A)) (sM (aS A)) s k with
      | false => left; rw [st, e, anyB_iff.mpr ⟨k, hk, by simp [e]⟩]; rfl
      | true =>
        right
        refine ⟨(), fun j hj => ?_, by rw [st, e]; rfl⟩
        by_cases q : j = k
        · subst q; simp [e]
        · exact hI j (by omega)
  · intro f k z hk hz
    refine ⟨_, rfl, ?_⟩
    rw [hgX11_isDarkEnough_10, iR.sn.1.1.1 3 (by decide), if_neg (nI_ge hk (by omega)), iR.sn.1.1.2.1, r_burnsIn iR.sn.1.1 iR.sn.1.2.1 g hb.2.2.2.2 (by omega) (by omega) hN, cl_some, x_isOf (by omega) (by omega), cl_some, r_costOf iR.sn.1.2.1 (by omega), cl_some, bs_eq, bs_eq, lit_0, lit_1, nI_add, nI_add, nI_add, sumB, ← hz]
    cases bu (sG (aS A)) (sM (aS A)) k (mH (sM (aS A))) with
    | false => rw [if_pos (by decide)]; rfl
    | true =>
      rw [if_neg (by decide)]
      cases s.testBit k with
      | false => rw [if_pos (by decide)]; rfl
      | true => rw [if_neg (by decide)]; rfl
end DARK
section OPS10
variable {N : Nat}
theorem op_dark (p1 : Int32) (hN : 2000 ≤ N) : OpOK (fun x u => fX10_dark N x p1 u) (fun m u => fX11_dark N m p1 u) := by
  refine op_pure (fun x u h => eX10_dark N x p1 u h) (fun m u h => eX11_dark N m p1 u h) (fun c x A hc hA => ?_)
  obtain ⟨g, hb, -⟩ := hA.2.2.2.2.1
  have g3 := g.2.2.2.1
  have h9 := hb.h9 g
  have b5 : bD (sG (aS A)) (sM (aS A)) < 32 := p5 g3 (buS_lt (sG (aS A)) (sM (aS A)) (mH (sM (aS A))))
  rcases Nat.eq_zero_or_pos (sG (aS A) 0) with h0 | h0
  · refine ⟨-1, fun u iC => ?_, fun m u iR => ?_⟩
    · unfold hX10_dark; rw [c_isTold iC.sn.1 g, cl_some, if_pos (told0 h0)]
    · unfold hX11_dark; rw [r_isStreet iR.sn.1.1 g, cl_some, if_pos (told0 h0)]
  cases eo : pB p1 2 with
  | false =>
    refine ⟨-1, fun u iC => ?_, fun m u iR => ?_⟩
    · unfold hX10_dark; rw [c_isTold iC.sn.1 g, cl_some, if_neg (told1 h0), show (1 : Int32) = nI 1 from rfl, pB_if2 (by decide), eo]; rfl
    · unfold hX11_dark; rw [r_isStreet iR.sn.1.1 g, cl_some, if_neg (told1 h0), x_inb (b := 1) (q := 1) (by decide) rfl, cl_some, eo, if_pos (by decide)]
  | true =>
    obtain ⟨j, hj, rfl⟩ := pB_t (by decide) eo
    -- the set
    have hfin : ∃ t, t ≤ bD (sG (aS A)) (sM (aS A)) ∧ dkB (sG (aS A)) (sM (aS A)) (bD (sG (aS A)) (sM (aS A)) + 1) = some t ∧ t = (dkB (sG (aS A)) (sM (aS A)) (bD (sG (aS A)) (sM (aS A)))).getD (bD (sG (aS A)) (sM (aS A))) := by
      rw [dkB, decide_eq_true (dif_self _), dkE_all]
      cases e : dkB (sG (aS A)) (sM (aS A)) (bD (sG (aS A)) (sM (aS A))) with
      | none => exact ⟨_, Nat.le_refl _, rfl, rfl⟩
      | some t =>
        obtain ⟨k1, k2⟩ := dkB_sub _ t e
        have := sub_pc2 _ b5 t (by omega) k2
        refine ⟨t, by omega, ?_, rfl⟩
        rw [show dkT (bD (sG (aS A)) (sM (aS A))) (some t) = false from decide_eq_false (Nat.not_lt.mpr this)]
        rfl
    obtain ⟨t, ht, et, et2⟩ := hfin
    have pct := pc_le t
    refine ⟨if j = 0 then nI (pc t) else nI t, fun u iC => ?_, fun m u iR => ?_⟩
    · unfold hX10_dark
      rw [c_isTold iC.sn.1 g, cl_some, if_neg (told1 h0), show (1 : Int32) = nI 1 from rfl, pB_if2 (by decide), eo, if_pos rfl, c_burningNow iC.sn g hb, cl_some]
      refine lps (fun f k s => hgX10_dark_34 N f x (nI j) (nI (bD (sG (aS A)) (sM (aS A)))) (nI s) (nI k) u) (bD (sG (aS A)) (sM (aS A))) (fun k s => s = (dkB (sG (aS A)) (sM (aS A)) k).getD (bD (sG (aS A)) (sM (aS A)))) (fun r => r = some (_, u)) ?_ ?_ N 0 (bD (sG (aS A)) (sM (aS A))) (by omega) (by omega) rfl
      · intro f s hI
        rw [hI, ← et2, hgX10_dark_34, if_pos (nI_le (by omega) (by omega)), x_bitCount (by omega), cl_some]
        rcases (by omega : j = 0 ∨ j = 1) with rfl | rfl
        · rw [if_pos (by decide)]; rfl
        · rw [if_neg (by decide)]; rfl
      · intro f k s hk hI
        have sle : s ≤ bD (sG (aS A)) (sM (aS A)) := by
          rw [hI]
          cases e : dkB (sG (aS A)) (sM (aS A)) k with
          | none => exact Nat.le_refl _
          | some t => have := (dkB_sub k t e).1; simp; omega
        have p1' := pc_le k
        have p2' := pc_le s
        have dl := dif_le k (bD (sG (aS A)) (sM (aS A)))
        refine ⟨_, rfl, ?_⟩
        have e57 : ∀ (rc : Nat → Int32 → Int32 → Int32 → Int32 → SG → Option (Int32 × SG)) (z0 : Bool), hgX10_dark_57 N rc x (nI j) (nI (bD (sG (aS A)) (sM (aS A)))) (nI s) (nI k) (nI (b2n z0)) u = if decide (dif k (bD (sG (aS A)) (sM (aS A))) = 0) && (z0 && dkE (sG (aS A)) (sM (aS A)) k) then rc x (nI j) (nI (bD (sG (aS A)) (sM (aS A)))) (nI k) (nI (k + 1)) u else rc x (nI j) (nI (bD (sG (aS A)) (sM (aS A)))) (nI s) (nI (k + 1)) u := by
          intro rc z0
          unfold hgX10_dark_57
          rw [nI_dif, nI_dif, c_allCould iC hA k hN, cl_some, lit_0, lit_1, nI_add, ifeq (a := dif k (bD (sG (aS A)) (sM (aS A)))) (by omega) (by decide)]
          by_cases q0 : dif k (bD (sG (aS A)) (sM (aS A))) = 0
          · rw [if_pos q0, decide_eq_true q0]
            cases z0 <;> cases dkE (sG (aS A)) (sM (aS A)) k <;> rfl
          · rw [if_neg q0, decide_eq_false q0]
            rfl
        have key : hgX10_dark_34 N (f + 1) x (nI j) (nI (bD (sG (aS A)) (sM (aS A)))) (nI s) (nI k) u = if decide (dif k (bD (sG (aS A)) (sM (aS A))) = 0) && (decide (pc k < pc s) && dkE (sG (aS A)) (sM (aS A)) k) then hgX10_dark_34 N f x (nI j) (nI (bD (sG (aS A)) (sM (aS A)))) (nI k) (nI (k + 1)) u else hgX10_dark_34 N f x (nI j) (nI (bD (sG (aS A)) (sM (aS A)))) (nI s) (nI (k + 1)) u := by
          rw [hgX10_dark_34, if_neg (nI_ge hk (by omega)), x_bitCount (by omega), cl_some, x_bitCount (by omega), cl_some, ifle (by omega) (by omega)]
          by_cases q1 : pc s ≤ pc k
          · rw [if_pos q1, decide_eq_false (show ¬ pc k < pc s by omega)]
            exact e57 _ false
          · rw [if_neg q1, decide_eq_true (show pc k < pc s by omega)]
            exact e57 _ true
        rw [key, dkB]
        cases e : dkB (sG (aS A)) (sM (aS A)) k with
        | none =>
          have hs : s = bD (sG (aS A)) (sM (aS A)) := by rw [hI, e]; rfl
          by_cases q0 : dif k (bD (sG (aS A)) (sM (aS A))) = 0
          · have := sub_pc _ b5 k hk q0
            rw [decide_eq_true q0, decide_eq_true (show pc k < pc s by rw [hs]; exact this), show dkT k none = true from rfl]
            simp only [Bool.true_and]
            cases dkE (sG (aS A)) (sM (aS A)) k
            · rw [if_neg (by decide), if_neg (by decide), hs]; rfl
            · rw [if_pos rfl, if_pos rfl]; rfl
          · rw [decide_eq_false q0, Bool.false_and, Bool.false_and, if_neg (by decide), if_neg (by decide), hs]; rfl
        | some t' =>
          have hs : s = t' := by rw [hI, e]; rfl
          have hlt := (dkB_sub k t' e).1
          rw [show decide (pc k < pc s) = decide (pc k < pc t') by rw [hs]]
          rw [show dkT k (some t') = decide (pc k < pc t') from rfl]
          split
          · rfl
          · rw [hs]; rfl
    · unfold hX11_dark
      rw [r_isStreet iR.sn.1.1 g, cl_some, if_neg (told1 h0), x_inb (b := 1) (q := 1) (by decide) rfl, cl_some, eo, if_neg (by decide), r_burning iR.sn.1.1 iR.sn.1.2.1 g hb.2.2.2.2 (by omega) hN, cl_some]
      have oN : ∀ o : Option Nat, (match o with
        | none => (-1 : Int32)
        | some a => nI a) = foI o := fun o => by cases o <;> rfl
      refine lps (fun f k (s : Option Nat) => hgX11_dark_29 N f m (nI j) (nI (bD (sG (aS A)) (sM (aS A)))) (foI s) (nI k) u) (bD (sG (aS A)) (sM (aS A)) + 1) (fun k s => s = dkB (sG (aS A)) (sM (aS A)) k) (fun r => r = some (_, u)) ?_ ?_ N 0 none (by omega) (by omega) rfl
      · intro f s hI
        rw [hI, et, hgX11_dark_29, if_pos (nI_lt (by omega) (by omega))]
        show (if nI j = 0 then cl (fX11_bits N (nI t) u) _ else some (nI t, u)) = _
        rw [x_bits (by omega) (by omega), cl_some]
        rcases (by omega : j = 0 ∨ j = 1) with rfl | rfl
        · rw [if_pos (by decide)]; rfl
        · rw [if_neg (by decide)]; rfl
      · intro f k s hk hI
        have dl := dif_le k (bD (sG (aS A)) (sM (aS A)))
        have pk' := pc_le k
        refine ⟨_, rfl, ?_⟩
        have e63 : ∀ rc : Nat → Int32 → Int32 → Int32 → Int32 → SG → Option (Int32 × SG), hgX11_dark_63 N rc m (nI j) (nI (bD (sG (aS A)) (sM (aS A)))) (foI s) (nI k) u = if dkE (sG (aS A)) (sM (aS A)) k then rc m (nI j) (nI (bD (sG (aS A)) (sM (aS A)))) (nI k) (nI (k + 1)) u else rc m (nI j) (nI (bD (sG (aS A)) (sM (aS A)))) (foI s) (nI (k + 1)) u := by
          intro rc
          unfold hgX11_dark_63
          rw [r_isDark iR hA (by omega) hN, cl_some, lit_1, nI_add]
          cases dkE (sG (aS A)) (sM (aS A)) k
          · rw [if_pos (by decide)]; rfl
          · rw [if_neg (by decide)]; rfl
        rw [hgX11_dark_29, if_neg (nI_nlt (by omega) (by omega)), nI_dif, e63, x_bits (by omega) (by omega), cl_some, lit_0, ifeq (by omega) (by decide), lit_1, nI_add, dkB, ← hI]
        by_cases q0 : dif k (bD (sG (aS A)) (sM (aS A))) = 0
        · rw [if_pos q0, decide_eq_true q0, Bool.true_and]
          cases s with
          | none =>
            rw [if_pos (show foI none < nI 0 by decide), show dkT k none = true from rfl]
            simp only [Bool.true_and]
            split <;> rfl
          | some t' =>
            have hlt := dkB_sub k t' hI.symm
            have pt' := pc_le t'
            show (if nI t' < nI 0 then _ else cl (fX11_bits N (nI t') u) _) = _
            rw [if_neg (nI_nlt (by omega) (by omega)), x_bits (by omega) (by omega), cl_some, iflt (by omega) (by omega)]
            rw [show dkT k (some t') = decide (pc k < pc t') from rfl]
            by_cases q1 : pc k < pc t'
            · rw [if_pos q1, decide_eq_true q1, Bool.true_and, e63]
              split <;> rfl
            · rw [if_neg q1, decide_eq_false q1, Bool.false_and]; rfl
        · rw [if_neg q0, decide_eq_false q0, Bool.false_and, if_neg (by decide)]
end OPS10
