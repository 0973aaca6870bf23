/-! OPERATIONS, 11: cheap, guild -/
theorem foI_ne {b : Nat} (h : b < 2 ^ 31) : ¬ foI (some b) = (-1 : Int32) := fun z => nI_pos h (by rw [show nI b = -1 from z]; decide)
def Hrow (u : SG) (x : Nat) (w : Nat → Nat) : Prop := ∀ h, h < 10 → zI u (x + 123) h = nI (w h) ∧ w h < 2 ^ 20
section CHEAP1
variable {N x : Nat} {u : SG} {w : Nat → Nat}
theorem c_bst (hw : Hrow u x w) {op s : Nat} (hop : op < 1024) (hs : s < 1024) (K I : Int32) (rc5 : Nat → Int32 → Int32 → Int32 → Int32 → SG → Option (Int32 × SG)) (hN : 2000 ≤ N) : hgX10_cheapestHours_17 N rc5 N x (nI op) K (nI s) I (-1 : Int32) (0 : Int32) u = match bst w (dif op s).testBit 10 with
    | none => rc5 x (nI op) K (nI s) (I + (1 : Int32)) u
    | some b => rc5 x (nI op) K (nI (s ||| 2 ^ b)) (I + (1 : Int32)) u := by
  have dl := dif_le op s
  refine lps (fun f h (o : Option Nat) => hgX10_cheapestHours_17 N rc5 f x (nI op) K (nI s) I (foI o) (nI h) u) 10 (fun h o => o = bst w (dif op s).testBit h) (fun r => r = match bst w (dif op s).testBit 10 with
    | none => rc5 x (nI op) K (nI s) (I + (1 : Int32)) u
    | some b => rc5 x (nI op) K (nI (s ||| 2 ^ b)) (I + (1 : Int32)) u) ?_ ?_ N 0 none (by omega) (by omega) rfl
  · intro f o hI
    rw [hgX10_cheapestHours_17, lit_10, if_pos (nI_le (by omega) (by decide)), ← hI]
    cases o with
    | none => rw [if_pos (show foI none = -1 from rfl)]
    | some b =>
      have := (bst_some hI.symm).1
      rw [if_neg (foI_ne (by omega)), bs_eq]
      show rc5 x (nI op) K (nI s ||| ((1 : Int32) <<< (nI b &&& 31))) _ u = _
      rw [nI_shl b (by omega), nI_or]
  · intro f h o hk hI
    refine ⟨_, rfl, ?_⟩
    rw [hgX10_cheapestHours_17, lit_10, if_neg (nI_ge hk (by decide)), nI_dif, x_bitOf (by omega) (by omega), cl_some, bst, ← hI]
    unfold hgX10_cheapestHours_43
    cases e : (dif op s).testBit h with
    | false =>
      rw [if_neg (by decide), if_pos rfl, lit_1, nI_add]
      cases o <;> rfl
    | true =>
      rw [if_pos (by decide), if_neg (by decide)]
      cases o with
      | none => rw [if_pos (show foI none = -1 from rfl), lit_1, nI_add]; rfl
      | some b =>
        have hb := (bst_some hI.symm).1
        obtain ⟨w1, w2⟩ := hw b (by omega)
        obtain ⟨w3, w4⟩ := hw h hk
        rw [if_neg (foI_ne (by omega)), show foI (some b) = nI b from rfl, ixI hk (by decide), ixI (by omega) (by decide), nI_clamp (by omega), nI_clamp (by omega), w1, w3, ifle (by omega) (by omega), lit_1, nI_add]
        by_cases q : w b ≤ w h
        · rw [if_pos q]; dsimp only; rw [decide_eq_false (by omega)]; rfl
        · rw [if_neg q]; dsimp only; rw [decide_eq_true (by omega)]; rfl
theorem c_cheapH (hw : Hrow u x w) {op k : Nat} (hop : op < 1024) (hk : k ≤ 10) (hN : 2000 ≤ N) : hX10_cheapestHours N x (nI op) (nI k) u = some (nI (gr w op k), u) := by
  refine lps (fun f i s => hgX10_cheapestHours_5 N f x (nI op) (nI k) (nI s) (nI i) u) k (fun i s => s = gr w op i) (fun r => r = some (nI (gr w op k), u)) ?_ ?_ N 0 0 (by omega) (by omega) rfl
  · intro f s hI
    rw [hgX10_cheapestHours_5, if_pos (nI_le (by omega) (by omega)), hI]
  · intro f i s hi hI
    refine ⟨_, rfl, ?_⟩
    have hs : s < 1024 := by rw [hI]; exact gr_lt w op i
    rw [hgX10_cheapestHours_5, if_neg (nI_ge hi (by omega)), c_bst hw hop hs _ _ _ hN, gr, ← hI, lit_1, nI_add]
    cases bst w (dif op s).testBit 10 <;> rfl
theorem c_costH (hw : Hrow u x w) {s : Nat} (hs : s < 1024) (hN : 2000 ≤ N) : hX10_costOfHours N x (nI s) u = some (nI (cst w s.testBit 10), u) := by
  refine lps (fun f h c => hgX10_costOfHours_4 N f x (nI s) (nI c) (nI h) u) 10 (fun h c => c = cst w s.testBit h) (fun r => r = some (nI (cst w s.testBit 10), u)) ?_ ?_ N 0 0 (by omega) (by omega) rfl
  · intro f c hI
    rw [hgX10_costOfHours_4, lit_10, if_pos (nI_le (by omega) (by decide)), hI]
  · intro f h c hk hI
    refine ⟨_, rfl, ?_⟩
    rw [hgX10_costOfHours_4, lit_10, if_neg (nI_ge hk (by decide)), x_bitOf (by omega) (by omega), cl_some, hI]
    unfold cst
    rw [sumB]
    cases e : s.testBit h with
    | false => rw [if_neg (by decide), lit_1, nI_add]; rfl
    | true => rw [if_pos (by decide), ixI hk (by decide), bs_eq, nI_clamp (by omega), (hw h hk).1, nI_add, lit_1, nI_add]; rfl
end CHEAP1
def wOne (G : Nat → Nat) (P h : Nat) : Bool := anyB (fun p => P.testBit p && wk G p h) (G 1)
def canH (G : Nat → Nat) (M : MT) (P h : Nat) : Bool := decide (mH M ≤ h) && (decide (h < G 0) && !wOne G P h)
def opH (G : Nat → Nat) (M : MT) (P : Nat) : Nat := bset (canH G M P) 10
theorem wOne_bits {G : Nat → Nat} {P h : Nat} : (bset (fun p => wk G p h) (G 1) &&& P = 0) ↔ wOne G P h = false := by
  unfold wOne
  rw [anyB_false]
  constructor
  · intro e j hj
    have : (bset (fun p => wk G p h) (G 1) &&& P).testBit j = false := by rw [e]; simp
    rw [Nat.testBit_and, bset_tb, decide_eq_true hj, Bool.true_and, Bool.and_comm] at this
    exact this
  · intro e
    apply Nat.eq_of_testBit_eq
    intro j
    rw [Nat.testBit_and, bset_tb, Nat.zero_testBit]
    by_cases hj : j < G 1
    · rw [decide_eq_true hj, Bool.true_and, Bool.and_comm]; exact e j hj
    · rw [decide_eq_false hj]; rfl
theorem cst_le300 {w : Nat → Nat} {S : Nat → Bool} (h : ∀ k, w k ≤ 300) : cst w S 10 ≤ 3000 := by
  have := sumB_le (f := fun k => if S k then w k else 0) (c := 300) (n := 10) (fun i _ => by have := h i; split <;> omega)
  unfold cst
  omega
theorem opH_lt (G : Nat → Nat) (M : MT) (P : Nat) : opH G M P < 1024 := bset_lt _ 10
theorem pc_or : ∀ a, a < 32 → ∀ b, b < 32 → pc (a ||| b) = pc b + pc (dif a b) := by decide +kernel
theorem pc_pos : ∀ a, a < 32 → 0 < a → 0 < pc a := by decide +kernel
def chR (G : Nat → Nat) (M : MT) (P k j : Nat) : Int32 := if k ≤ pc (opH G M P) then (if j = 0 then nI (gr (coI G M) (opH G M P) k) else frV false (cst (coI G M) (gr (coI G M) (opH G M P) k).testBit 10 * pc P) (pc P + pc (dif (slS G M) P)) (j - 1)) else -2
section CHEAP2
variable {N x c : Nat} {u : SG} {A : AT}
theorem c_together (iC : InvC u x A) (hA : Aok c A) {P k j : Nat} (hP : P < 32) (hP0 : 0 < P) (hk : k ≤ 10) (hj : j ≤ 2) (hN : 2000 ≤ N) : ∃ u1, hgX10_sleepTogether_36 N N x (nI P) (nI k) (nI j) (x + 18) (0 : Int32) (0 : Int32) u = some (chR (sG (aS A)) (sM (aS A)) P k j, u1) ∧ Fz (Cw x) u u1 := by
  obtain ⟨g, hb, -⟩ := hA.2.2.2.2.1
  have g0 := g.1
  have g1 := g.2.1
  have h9 := hb.h9 g
  have s5 := p5 g1 (slS_lt (sG (aS A)) (sM (aS A)))
  refine lps (fun f h (s : Nat × SG) => hgX10_sleepTogether_36 N f x (nI P) (nI k) (nI j) (x + 18) (nI s.1) (nI h) s.2) 10 (fun h s => s.1 = bset (canH (sG (aS A)) (sM (aS A)) P) h ∧ Fz (Cw x) u s.2 ∧ ∀ t, t < h → zI s.2 (x + 123) t = nI (coI (sG (aS A)) (sM (aS A)) t)) (fun r => ∃ u1, r = some (chR (sG (aS A)) (sM (aS A)) P k j, u1) ∧ Fz (Cw x) u u1) ?_ ?_ N 0 (0, u) (by omega) (by omega) ⟨rfl, Fz.rf, fun t ht => by omega⟩
  · rintro f ⟨s, v⟩ ⟨h1, h2, h3⟩
    dsimp only at h1 h2 h3 ⊢
    have iv := iC.z h2 (fun a k q => Or.inr q)
    have h1 : s = opH (sG (aS A)) (sM (aS A)) P := h1
    subst h1
    have ol := opH_lt (sG (aS A)) (sM (aS A)) P
    have hw : Hrow v x (coI (sG (aS A)) (sM (aS A))) := fun t ht => ⟨h3 t ht, by have := coI_le (M := sM (aS A)) g t; omega⟩
    have pl := pc_le (opH (sG (aS A)) (sM (aS A)) P)
    refine ⟨v, ?_, h2⟩
    rw [hgX10_sleepTogether_36, lit_10, if_pos (nI_le (by omega) (by decide)), x_bitCount ol, cl_some, ifle (by omega) (by omega)]
    unfold chR
    by_cases q : k ≤ pc (opH (sG (aS A)) (sM (aS A)) P)
    · rw [if_pos q, if_pos q, c_cheapH hw ol hk hN, cl_some, lit_0, ifeq (by omega) (by decide)]
      by_cases j0 : j = 0
      · rw [if_pos j0, if_pos j0]
      · have e1 : zI v (x + 25) 2 = nI (slS (sG (aS A)) (sM (aS A))) := iv.sn.2.1.2.2.1
        have o5 : slS (sG (aS A)) (sM (aS A)) ||| P < 32 := Nat.or_lt_two_pow (n := 5) s5 hP
        have c3 := cst_le300 (w := coI (sG (aS A)) (sM (aS A))) (S := (gr (coI (sG (aS A)) (sM (aS A))) (opH (sG (aS A)) (sM (aS A)) P) k).testBit) (fun t => coI_le g t)
        have pp := pc_le P
        have pd := pc_le (dif (slS (sG (aS A)) (sM (aS A))) P)
        have p0 := pc_pos P hP hP0
        have m1 : cst (coI (sG (aS A)) (sM (aS A))) (gr (coI (sG (aS A)) (sM (aS A))) (opH (sG (aS A)) (sM (aS A)) P) k).testBit 10 * pc P ≤ 3000 * 10 := Nat.mul_le_mul c3 pp
        rw [if_neg j0, if_neg j0, e1, nI_or, x_bitCount (by omega), cl_some, c_costH hw (gr_lt _ _ _) hN, cl_some, x_bitCount (by omega), cl_some, nI_l (by omega), nI_l (by omega), nI_l (by have := pc_le (slS (sG (aS A)) (sM (aS A)) ||| P); omega), lN_mul, lit_1, pk_sub (by omega), pc_or _ s5 _ hP]
        have := c_frac (N := N) (u := v) (s := false) (a := cst (coI (sG (aS A)) (sM (aS A))) (gr (coI (sG (aS A)) (sM (aS A))) (opH (sG (aS A)) (sM (aS A)) P) k).testBit 10 * pc P) (b := pc P + pc (dif (slS (sG (aS A)) (sM (aS A))) P)) (part := j - 1) (by omega) (by omega) (by omega) (by omega) hN
        rw [show sgL false (cst (coI (sG (aS A)) (sM (aS A))) (gr (coI (sG (aS A)) (sM (aS A))) (opH (sG (aS A)) (sM (aS A)) P) k).testBit 10 * pc P) = lN (cst (coI (sG (aS A)) (sM (aS A))) (gr (coI (sG (aS A)) (sM (aS A))) (opH (sG (aS A)) (sM (aS A)) P) k).testBit 10 * pc P) from rfl] at this
        rw [this, cl_some]
    · rw [if_neg q, if_neg q]
  · rintro f h ⟨s, v⟩ hh ⟨h1, h2, h3⟩
    dsimp only at h1 h2 h3 ⊢
    have iv := iC.z h2 (fun a k q => Or.inr q)
    have fz : Fz (Cw x) v (sI v (x + 123) h (nI (coI (sG (aS A)) (sM (aS A)) h))) := Fz.sI (by unfold Cw; omega)
    have iw := iv.z fz (fun a k q => Or.inr q)
    refine ⟨(bset (canH (sG (aS A)) (sM (aS A)) P) (h + 1), sI v (x + 123) h (nI (coI (sG (aS A)) (sM (aS A)) h))), ⟨rfl, h2.tr fz, fun t ht => ?_⟩, ?_⟩
    · dsimp only
      by_cases q : t = h
      · subst q; rw [sI_s]
      · rw [sI_n (by omega)]; exact h3 t (by omega)
    · have e0 : zI (sI v (x + 123) h (nI (coI (sG (aS A)) (sM (aS A)) h))) (x + 25) 0 = nI (mH (sM (aS A))) := iw.sn.2.1.1
      have e6 : zI (sI v (x + 123) h (nI (coI (sG (aS A)) (sM (aS A)) h))) (x + 18) 6 = nI (sG (aS A) 0) := iw.sn.1.1
      have sl : s < 2 ^ h := by rw [h1]; exact bset_lt _ _
      have sl2 : s < 1024 := Nat.lt_of_lt_of_le sl (Nat.pow_le_pow_right (n := 2) (by decide) (show h ≤ 10 by omega))
      dsimp only
      rw [hgX10_sleepTogether_36, lit_10, if_neg (nI_ge hh (by decide)), c_burningAt iv.sn.1 iv.sn.2.1 g hb.2.2.2.2 hh, cl_some, c_costBu iv.sn.1 g h hN, cl_some, ixI hh (by decide), nI_clamp (by omega), bs_eq, e0, e6, iflt (by omega) (by omega), ifle (by omega) (by omega)]
      unfold hgX10_sleepTogether_98 hgX10_sleepTogether_99
      rw [if_pos rfl, if_neg (show ¬ (1 : Int32) = 0 by decide), c_workersAt iw.sn.1 hh, cl_some, nI_and, lit_0, ifeq (by have := Nat.and_le_right (n := bset (fun p => wk (sG (aS A)) p h) (sG (aS A) 1)) (m := P); omega) (by decide), bs_eq, nI_shl h (by omega), nI_or, lit_1, nI_add, bset_or, ← h1]
      unfold canH
      by_cases q1 : h < mH (sM (aS A))
      · rw [if_pos q1, decide_eq_false (by omega)]; simp
      · rw [if_neg q1, decide_eq_true (show mH (sM (aS A)) ≤ h by omega)]
        by_cases q2 : sG (aS A) 0 ≤ h
        · rw [if_pos q2, decide_eq_false (by omega)]; simp
        · rw [if_neg q2, decide_eq_true (show h < sG (aS A) 0 by omega)]
          cases e : wOne (sG (aS A)) P h with
          | false => rw [if_pos (wOne_bits.mpr e)]; rfl
          | true => rw [if_neg (fun z => by rw [wOne_bits.mp z] at e; cases e)]; simp
end CHEAP2
section CHEAP3
variable {N m c : Nat} {u : SG} {A : AT}
theorem r_wOne {G : Nat → Nat} {M : MT} (h : RA (zI u (m + 10)) G M) (hr : RB (zI u (m + 10)) G) (g : Gb G) {P t : Nat} (hP : P < 32) (ht : t < 2 ^ 30) (hN : 2000 ≤ N) : hX11_worksOne N m (nI P) (nI t) u = some (nI (b2n (wOne G P t)), u) := by
  have g1 := g.2.1
  unfold wOne
  refine lpq (fun f p (_ : Unit) => hgX11_worksOne_2 N f m (nI P) (nI t) (nI p) u) (G 1) (fun p _ => ∀ j, j < p → (P.testBit j && wk G j t) = false) (fun r => r = some (nI (b2n (anyB (fun p => P.testBit p && wk G p t) (G 1))), u)) ?_ ?_ N 0 () (by omega) (by omega) (fun j hj => by omega)
  · intro f _ hI
    rw [hgX11_worksOne_2, h.1 1 (by decide), if_pos (nI_le (by omega) (by omega)), anyB_false.mpr hI]
    rfl
  · intro f p _ hp hI
    have st : hgX11_worksOne_2 N (f + 1) m (nI P) (nI t) (nI p) u = if (P.testBit p && wk G p t) then some (1, u) else hgX11_worksOne_2 N f m (nI P) (nI t) (nI (p + 1)) u := by
      rw [hgX11_worksOne_2, h.1 1 (by decide), if_neg (nI_ge hp (by omega)), x_isOf (by omega) (by omega), cl_some, r_worksIn h hr g (by omega) ht hN, cl_some, lit_1, nI_add]
      cases P.testBit p <;> cases wk G p t <;> rfl
    cases e : (P.testBit p && wk G p t) with
    | true => left; rw [st, e, anyB_iff.mpr ⟨p, hp, e⟩]; rfl
    | false =>
      right
      refine ⟨(), fun j hj => ?_, by rw [st, e]; rfl⟩
      by_cases q : j = p
      · subst q; exact e
      · exact hI j (by omega)
def F78 (m : Nat) : Nat → Nat → Prop := fun a k => a = m ∧ (k = 27 ∨ k = 28)
theorem F78.ir {v : SG} (iR : InvR u m A) (f : Fz (F78 m) u v) : InvR v m A := iR.z f (fun a k q1 q2 q => by unfold F78 at q; unfold Rw; omega)
theorem cst_G {w : Nat → Nat} {s n : Nat} (hs : s < 2 ^ n) (hn : n ≤ 10) : cst w s.testBit n = cst w s.testBit 10 := by
  have hz : ∀ i, n ≤ i → s.testBit i = false := fun i hi => Nat.testBit_lt_two_pow (Nat.lt_of_lt_of_le hs (Nat.pow_le_pow_right (by decide) hi))
  have := sumB_0 (f := fun h => if s.testBit h then w h else 0) (n := n) (k := 10 - n) (fun i hi => by rw [hz i hi]; rfl)
  rw [show n + (10 - n) = 10 by omega] at this
  exact this.symm
/-- what a set of hours costs, and which is kept -/
theorem r_fc101 (iR : InvR u m A) (hA : Aok c A) (K C : Int32) {s : Nat} (hs : s < 2 ^ sG (aS A) 0) (rc : Nat → Int32 → Int32 → Int32 → SG → Option (Unit × SG)) (hN : 2000 ≤ N) : hgX11_findsCheap_101 N rc N m K C (nI s) (0 : Int32) (0 : Int32) u = (if zI u m 27 < 0 then rc m K C (nI (s + 1)) (sI (sI u m 27 (nI s)) m 28 (nI (cst (coI (sG (aS A)) (sM (aS A))) s.testBit 10))) else if nI (cst (coI (sG (aS A)) (sM (aS A))) s.testBit 10) < zI u m 28 then rc m K C (nI (s + 1)) (sI (sI u m 27 (nI s)) m 28 (nI (cst (coI (sG (aS A)) (sM (aS A))) s.testBit 10))) else rc m K C (nI (s + 1)) u) := by
  obtain ⟨g, hb, -⟩ := hA.2.2.2.2.1
  have g0 := g.1
  have sl : s < 1024 := Nat.lt_of_lt_of_le hs (Nat.pow_le_pow_right (n := 2) (by decide) g0)
  refine lps (fun f h z => hgX11_findsCheap_101 N rc f m K C (nI s) (nI z) (nI h) u) (sG (aS A) 0) (fun h z => z = cst (coI (sG (aS A)) (sM (aS A))) s.testBit h) (fun r => r = _) ?_ ?_ N 0 0 (by omega) (by omega) rfl
  · intro f z hz
    rw [hgX11_findsCheap_101, iR.sn.1.1.1 0 (by decide), if_pos (nI_le (by omega) (by omega)), hz, cst_G hs g0, lit_1, nI_add]
    rfl
  · intro f h z hh hz
    refine ⟨_, rfl, ?_⟩
    rw [hgX11_findsCheap_101, iR.sn.1.1.1 0 (by decide), if_neg (nI_ge hh (by omega)), x_isOf (by omega) (by omega), cl_some, r_costIn iR.sn.1.1 iR.sn.1.2.1 g hb.2.2.2.2 (by omega) hN, cl_some, bs_eq, bs_eq, lit_0, nI_add, nI_add, lit_1, nI_add, hz]
    unfold cst
    rw [sumB]
    cases s.testBit h <;> rfl
def fcQ (m : Nat) (u : SG) (w : Nat → Nat) (op k : Nat) (v : SG) : Prop := Fz (F78 m) u v ∧ (k ≤ pc op → zI v m 27 = nI (gr w op k) ∧ zI v m 28 = nI (cst w (gr w op k).testBit 10)) ∧ (pc op < k → zI v m 27 = -1)
theorem r_finds (iR : InvR u m A) (hA : Aok c A) {P k : Nat} (hP : P < 32) (hk : k ≤ 10) (hN : 2000 ≤ N) : ∃ v, hX11_findsCheap N m (nI P) (nI k) u = some ((), v) ∧ fcQ m u (coI (sG (aS A)) (sM (aS A))) (opH (sG (aS A)) (sM (aS A)) P) k v := by
  obtain ⟨g, hb, -⟩ := hA.2.2.2.2.1
  have g0 := g.1
  have h9 := hb.h9 g
  have hmg : mH (sM (aS A)) ≤ sG (aS A) 0 := by rcases hb.1 with h | h <;> omega
  have eop : bset (canH (sG (aS A)) (sM (aS A)) P) (sG (aS A) 0) = opH (sG (aS A)) (sM (aS A)) P := by
    apply eq_bset
    intro i
    rw [bset_tb]
    by_cases q : i < sG (aS A) 0
    · rw [decide_eq_true q, decide_eq_true (show i < 10 by omega)]
    · rw [decide_eq_false q]
      unfold canH
      rw [decide_eq_false q]
      simp
  have ol := opH_lt (sG (aS A)) (sM (aS A)) P
  have pw : 2 ^ sG (aS A) 0 ≤ 1024 := Nat.pow_le_pow_right (n := 2) (by decide) g0
  unfold hX11_findsCheap
  rw [bs_eq, iR.sn.1.1.2.1]
  refine lps (fun f h s => hgX11_findsCheap_10 N f m (nI P) (nI k) (nI s) (nI h) u) (sG (aS A) 0) (fun h s => mH (sM (aS A)) ≤ h ∧ s = bset (canH (sG (aS A)) (sM (aS A)) P) h) (fun r => ∃ v, r = some ((), v) ∧ fcQ m u (coI (sG (aS A)) (sM (aS A))) (opH (sG (aS A)) (sM (aS A)) P) k v) ?_ ?_ N (mH (sM (aS A))) 0 hmg (by omega) ?_
  · rintro f s ⟨-, hs⟩
    rw [eop] at hs
    subst hs
    rw [hgX11_findsCheap_10, iR.sn.1.1.1 0 (by decide), if_pos (nI_le (by omega) (by omega)), bs_eq, bs_eq]
    generalize eo : opH (sG (aS A)) (sM (aS A)) P = op at ol eop ⊢
    generalize ew : coI (sG (aS A)) (sM (aS A)) = w
    refine lps (fun f s (o : Option Nat × SG) => hgX11_findsCheap_61 N f m (nI k) (nI op) (nI s) o.2) (2 ^ sG (aS A) 0) (fun s o => Fz (F78 m) u o.2 ∧ zI o.2 m 27 = foI o.1 ∧ (∀ t, o.1 = some t → t < s ∧ dif t op = 0 ∧ pc t = k ∧ zI o.2 m 28 = nI (cst w t.testBit 10)) ∧ (k ≤ pc op → gr w op k < s → o.1 = some (gr w op k))) (fun r => ∃ v, r = some ((), v) ∧ fcQ m u w op k v) ?_ ?_ N 0 (none, sI (sI u m 27 (-1 : Int32)) m 28 (0 : Int32)) (Nat.zero_le _) (by omega) ?_
    · rintro f ⟨o, v⟩ ⟨h1, h2, h3, h4⟩
      dsimp only at h1 h2 h3 h4 ⊢
      have iv := F78.ir iR h1
      refine ⟨v, ?_, h1, fun hk => ?_, fun hk => ?_⟩
      · rw [hgX11_findsCheap_61, iv.sn.1.1.1 0 (by decide), nI_shl _ (by omega), if_pos (nI_le (by omega) (by omega))]
      · have hlt : gr w op k < 2 ^ sG (aS A) 0 := by
          have hs := gr_sub (w := w) (i := k) hk
          have ho : op < 2 ^ sG (aS A) 0 := by rw [← eop]; exact bset_lt _ _
          refine Nat.lt_of_le_of_lt (Nat.le_of_testBit (fun i hi => ?_)) ho
          have z : (dif (gr w op k) op).testBit i = false := by rw [hs]; simp
          rw [dif_tb, hi] at z
          simpa using z
        have e := h4 hk hlt
        exact ⟨by rw [h2, e]; rfl, (h3 _ e).2.2.2⟩
      · rw [h2]
        cases o with
        | none => rfl
        | some t =>
          obtain ⟨k1, k2, k3, -⟩ := h3 t rfl
          have := sub_pcle k2
          omega
    · rintro f s ⟨o, v⟩ hs ⟨h1, h2, h3, h4⟩
      dsimp only at h1 h2 h3 h4 ⊢
      have iv := F78.ir iR h1
      have dl := dif_le s op
      have pl := pc_le s
      have head : hgX11_findsCheap_61 N (f + 1) m (nI k) (nI op) (nI s) v = if dif s op = 0 ∧ pc s = k then hgX11_findsCheap_101 N (hgX11_findsCheap_61 N f) N m (nI k) (nI op) (nI s) (0 : Int32) (0 : Int32) v else hgX11_findsCheap_61 N f m (nI k) (nI op) (nI (s + 1)) v := by
        rw [hgX11_findsCheap_61, iv.sn.1.1.1 0 (by decide), nI_shl _ (by omega), if_neg (nI_ge hs (by omega)), nI_dif, x_bits (by omega) (by omega), cl_some, ifeq (by omega) (by omega), lit_1, nI_add]
        have e0 : (nI (dif s op) = 0) = (dif s op = 0) := by rw [lit_0]; exact propext (nI_eq (by omega) (by decide))
        simp only [e0]
        by_cases q1 : dif s op = 0
        · by_cases q2 : pc s = k
          · rw [if_pos q1, if_pos q2, if_pos ⟨q1, q2⟩]
          · rw [if_pos q1, if_neg q2, if_neg (fun z => q2 z.2)]
        · rw [if_neg q1, if_neg (fun z => q1 z.1)]
      rw [head]
      by_cases q : dif s op = 0 ∧ pc s = k
      · rw [if_pos q, r_fc101 iv hA _ _ hs _ hN, ew, h2]
        have cl3 : ∀ t, cst w t 10 ≤ 3000 := fun t => cst_le300 (fun i => by rw [← ew]; exact coI_le g i)
        have set : ∀ (z : k ≤ pc op → gr w op k < s + 1 → s = gr w op k), ∃ s' : Option Nat × SG, (Fz (F78 m) u s'.2 ∧ zI s'.2 m 27 = foI s'.1 ∧ (∀ t, s'.1 = some t → t < s + 1 ∧ dif t op = 0 ∧ pc t = k ∧ zI s'.2 m 28 = nI (cst w t.testBit 10)) ∧ (k ≤ pc op → gr w op k < s + 1 → s'.1 = some (gr w op k))) ∧ hgX11_findsCheap_61 N f m (nI k) (nI op) (nI (s + 1)) (sI (sI v m 27 (nI s)) m 28 (nI (cst w s.testBit 10))) = hgX11_findsCheap_61 N f m (nI k) (nI op) (nI (s + 1)) s'.2 := by
          intro z
          refine ⟨(some s, sI (sI v m 27 (nI s)) m 28 (nI (cst w s.testBit 10))), ⟨h1.tr ((Fz.sI (Or.inl rfl |> fun h => ⟨rfl, h⟩)).tr (Fz.sI ⟨rfl, Or.inr rfl⟩)), ?_, ?_, ?_⟩, rfl⟩
          · dsimp only; rw [sI_n (by omega), sI_s]; rfl
          · intro t ht
            cases ht
            exact ⟨by omega, q.1, q.2, by dsimp only; rw [sI_s]⟩
          · intro k1 k2; dsimp only; rw [← z k1 k2]
        cases o with
        | none =>
          rw [if_pos (show foI none < 0 by decide)]
          exact set (fun k1 k2 => by
            by_cases e : s = gr w op k
            · exact e
            · have := h4 k1 (by omega); cases this)
        | some t =>
          obtain ⟨t1, t2, t3, t4⟩ := h3 t rfl
          have c1 := cl3 t.testBit
          have c2 := cl3 s.testBit
          rw [show foI (some t) = nI t from rfl, if_neg (nI_pos (by omega)), t4, iflt (by omega) (by omega)]
          by_cases q3 : cst w s.testBit 10 < cst w t.testBit 10
          · rw [if_pos q3]
            exact set (fun k1 k2 => by
              by_cases e : s = gr w op k
              · exact e
              · have e2 := h4 k1 (by omega)
                cases e2
                have := (gr_opt (w := w) k1 (t := s) (by omega) q.1 q.2).1
                omega)
          · rw [if_neg q3]
            refine ⟨(some t, v), ⟨h1, h2, fun t' ht' => ?_, fun k1 k2 => ?_⟩, rfl⟩
            · cases ht'; exact ⟨by omega, t2, t3, t4⟩
            · by_cases e : s = gr w op k
              · exfalso
                have o1 := gr_opt (w := w) k1 (t := t) (by omega) t2 t3
                rw [← e] at o1
                have := o1.2 (by omega)
                omega
              · exact h4 k1 (by omega)
      · rw [if_neg q]
        refine ⟨(o, v), ⟨h1, h2, fun t ht => ?_, fun k1 k2 => ?_⟩, rfl⟩
        · obtain ⟨t1, t2⟩ := h3 t ht
          exact ⟨by omega, t2⟩
        · by_cases e : s = gr w op k
          · exact absurd ⟨by rw [e]; exact gr_sub k1, by rw [e]; exact (grd_ok w op k k1).1⟩ q
          · exact h4 k1 (by omega)
    · exact ⟨(Fz.sI ⟨rfl, Or.inl rfl⟩).tr (Fz.sI ⟨rfl, Or.inr rfl⟩), by rw [sI_n (by omega), sI_s]; rfl, (fun t ht => by cases ht), (fun k1 k2 => by omega)⟩
  · rintro f h s hh ⟨hm, hs⟩
    refine ⟨_, ⟨by omega, rfl⟩, ?_⟩
    rw [hgX11_findsCheap_10, iR.sn.1.1.1 0 (by decide), if_neg (nI_ge hh (by omega)), r_wOne iR.sn.1.1 iR.sn.1.2.1 g hP (by omega) hN, cl_some, bs_eq, bs_eq, nI_shl h (by omega), nI_or, lit_0, nI_or, lit_1, nI_add, bset_or, ← hs]
    unfold canH
    rw [decide_eq_true hm, decide_eq_true hh]
    cases wOne (sG (aS A)) P h <;> rfl
  · refine ⟨Nat.le_refl _, ?_⟩
    apply Nat.eq_of_testBit_eq
    intro i
    rw [bset_tb, Nat.zero_testBit]
    unfold canH
    by_cases q : i < mH (sM (aS A))
    · rw [decide_eq_false (show ¬ mH (sM (aS A)) ≤ i by omega)]; simp
    · rw [decide_eq_false q]; rfl
theorem r_cheapest (iR : InvR u m A) (hA : Aok c A) {P k j : Nat} (hP : P < 32) (hP0 : 0 < P) (hk : k ≤ 10) (hj : j ≤ 2) (hN : 2000 ≤ N) : ∃ v, hX11_cheapest N m (nI P) (nI k) (nI j) u = some (chR (sG (aS A)) (sM (aS A)) P k j, v) ∧ InvR v m A ∧ Fz (Sr m) u v := by
  obtain ⟨g, hb, -⟩ := hA.2.2.2.2.1
  have g1 := g.2.1
  have s5 := p5 g1 (slS_lt (sG (aS A)) (sM (aS A)))
  obtain ⟨v, e1, f1, e2, e3⟩ := r_finds iR hA hP hk hN
  have iv := F78.ir iR f1
  refine ⟨v, ?_, iv, f1.w (fun a k q => by unfold F78 at q; unfold Sr; omega)⟩
  unfold hX11_cheapest chR
  rw [x_bits (by omega) (by omega), cl_some, e1, cl_some]
  by_cases q : k ≤ pc (opH (sG (aS A)) (sM (aS A)) P)
  · obtain ⟨k1, k2⟩ := e2 q
    have gl := gr_lt (coI (sG (aS A)) (sM (aS A))) (opH (sG (aS A)) (sM (aS A)) P) k
    have c3 := cst_le300 (w := coI (sG (aS A)) (sM (aS A))) (S := (gr (coI (sG (aS A)) (sM (aS A))) (opH (sG (aS A)) (sM (aS A)) P) k).testBit) (fun t => coI_le g t)
    have pp := pc_le P
    have dl := dif_le (slS (sG (aS A)) (sM (aS A))) P
    have pd := pc_le (dif (slS (sG (aS A)) (sM (aS A))) P)
    have p0 := pc_pos P hP hP0
    have m1 : cst (coI (sG (aS A)) (sM (aS A))) (gr (coI (sG (aS A)) (sM (aS A))) (opH (sG (aS A)) (sM (aS A)) P) k).testBit 10 * pc P ≤ 3000 * 10 := Nat.mul_le_mul c3 pp
    rw [if_pos q, k1, k2, if_pos (nI_pos' (by omega)), r_sleepers iv.sn.1.1 g hN, cl_some, nI_dif, x_bits (by omega) (by omega), cl_some, pk_mul, nI_add, lit_0, ifeq (by omega) (by decide)]
    by_cases j0 : j = 0
    · rw [if_pos j0, if_pos j0]
    · rw [if_neg j0, if_neg j0, lit_1, pk_sub (by omega)]
      have := r_frac (N := N) (u := v) (s := false) (a := cst (coI (sG (aS A)) (sM (aS A))) (gr (coI (sG (aS A)) (sM (aS A))) (opH (sG (aS A)) (sM (aS A)) P) k).testBit 10 * pc P) (b := pc P + pc (dif (slS (sG (aS A)) (sM (aS A))) P)) (part := j - 1) (by omega) (by omega) (by omega) (by omega) hN
      rw [show sgI false (cst (coI (sG (aS A)) (sM (aS A))) (gr (coI (sG (aS A)) (sM (aS A))) (opH (sG (aS A)) (sM (aS A)) P) k).testBit 10 * pc P) = nI (cst (coI (sG (aS A)) (sM (aS A))) (gr (coI (sG (aS A)) (sM (aS A))) (opH (sG (aS A)) (sM (aS A)) P) k).testBit 10 * pc P) from rfl] at this
      rw [this, cl_some]
  · rw [if_neg q, e3 (by omega), if_neg (by decide)]
end CHEAP3
section OPS11
variable {N : Nat}
theorem c_tog (p1 p2 p3 : Int32) {x : Nat} {u : SG} : hX10_sleepTogether N x p1 p2 p3 u = if pB p2 11 then (if pB p3 3 then hgX10_sleepTogether_36 N N x p1 p2 p3 (x + 18) (0 : Int32) (0 : Int32) u else some ((-1 : Int32), u)) else some ((-1 : Int32), u) := by
  unfold hX10_sleepTogether
  rw [lit_10, lit_2, pB_if (by decide), pB_if2 (by decide)]
theorem op_cheap (p1 p2 p3 : Int32) (hN : 2000 ≤ N) : OpOK (fun x u => fX10_cheap N x p1 p2 p3 u) (fun m u => fX11_cheap N m p1 p2 p3 u) := by
  refine op_ask (fun x u h => eX10_cheap N x p1 p2 p3 u h) (fun m u h => eX11_cheap N m p1 p2 p3 u h) (fun c x A hc hA => ?_)
  have g := hA.2.2.2.2.1.1
  have g1 := g.2.1
  cases e1 : pB p1 (sG (aS A) 1) with
  | false =>
    refine ⟨-1, fun u _ _ iC => ⟨u, ?_, Fz.rf⟩, fun m u iR => ⟨u, ?_, iR, Fz.rf⟩⟩
    · unfold hX10_cheap; rw [c_isPb iC.sn.1 g, cl_some, e1, if_pos (by decide)]
    · unfold hX11_cheap; rw [r_isPb iR.sn.1.1 g, cl_some, e1, if_pos (by decide)]
  | true =>
    cases e2 : pB p2 11 with
    | false =>
      refine ⟨-1, fun u _ _ iC => ⟨u, ?_, Fz.rf⟩, fun m u iR => ⟨u, ?_, iR, Fz.rf⟩⟩
      · unfold hX10_cheap; rw [c_isPb iC.sn.1 g, cl_some, e1, if_neg (by decide), c_tog, e2]; rfl
      · unfold hX11_cheap; rw [r_isPb iR.sn.1.1 g, cl_some, e1, if_neg (by decide), x_inb (b := 10) (q := 10) (by decide) rfl, cl_some, e2, if_pos (by decide)]
    | true =>
      cases e3 : pB p3 3 with
      | false =>
        refine ⟨-1, fun u _ _ iC => ⟨u, ?_, Fz.rf⟩, fun m u iR => ⟨u, ?_, iR, Fz.rf⟩⟩
        · unfold hX10_cheap; rw [c_isPb iC.sn.1 g, cl_some, e1, if_neg (by decide), c_tog, e2, e3]; rfl
        · unfold hX11_cheap; rw [r_isPb iR.sn.1.1 g, cl_some, e1, if_neg (by decide), x_inb (b := 10) (q := 10) (by decide) rfl, cl_some, e2, if_neg (by decide), x_inb (b := 2) (q := 2) (by decide) rfl, cl_some, e3, if_pos (by decide)]
      | true =>
        obtain ⟨p, hp, rfl⟩ := pB_t (by omega) e1
        obtain ⟨k, hk, rfl⟩ := pB_t (by decide) e2
        obtain ⟨j, hj, rfl⟩ := pB_t (by decide) e3
        have q1 : 2 ^ p < 32 := Nat.pow_lt_pow_right (n := 5) (by decide) (by omega)
        have q2 : 0 < 2 ^ p := Nat.two_pow_pos p
        refine ⟨chR (sG (aS A)) (sM (aS A)) (2 ^ p) k j, fun u _ _ iC => ?_, fun m u iR => ?_⟩
        · obtain ⟨v, k1, k2⟩ := c_together (N := N) iC hA q1 q2 (show k ≤ 10 by omega) (show j ≤ 2 by omega) hN
          refine ⟨v, ?_, k2⟩
          unfold hX10_cheap
          rw [c_isPb iC.sn.1 g, cl_some, e1, if_neg (by decide), nI_shl p (by omega), c_tog, e2, if_pos rfl, e3, if_pos rfl, k1, cl_some]
        · obtain ⟨v, k1, k2, k3⟩ := r_cheapest (N := N) iR hA q1 q2 (show k ≤ 10 by omega) (show j ≤ 2 by omega) hN
          refine ⟨v, ?_, k2, k3⟩
          unfold hX11_cheap
          rw [r_isPb iR.sn.1.1 g, cl_some, e1, if_neg (by decide), x_inb (b := 10) (q := 10) (by decide) rfl, cl_some, e2, if_neg (by decide), x_inb (b := 2) (q := 2) (by decide) rfl, cl_some, e3, if_neg (by decide), nI_shl p (by omega), k1, cl_some]
theorem op_guild (p1 p2 p3 : Int32) (hN : 2000 ≤ N) : OpOK (fun x u => fX10_guild N x p1 p2 p3 u) (fun m u => fX11_guild N m p1 p2 p3 u) := by
  refine op_ask (fun x u h => eX10_guild N x p1 p2 p3 u h) (fun m u h => eX11_guild N m p1 p2 p3 u h) (fun c x A hc hA => ?_)
  have g := hA.2.2.2.2.1.1
  have g1 := g.2.1
  obtain ⟨w1, w2⟩ := pw5 g1
  rcases Nat.eq_zero_or_pos (sG (aS A) 0) with h0 | h0
  · refine ⟨-1, fun u _ _ iC => ⟨u, ?_, Fz.rf⟩, fun m u iR => ⟨u, ?_, iR, Fz.rf⟩⟩
    · unfold hX10_guild; rw [c_isTold iC.sn.1 g, cl_some, if_pos (told0 h0)]
    · unfold hX11_guild; rw [r_isStreet iR.sn.1.1 g, cl_some, if_pos (told0 h0)]
  by_cases hp0 : p1 ≤ 0
  · refine ⟨-1, fun u _ _ iC => ⟨u, ?_, Fz.rf⟩, fun m u iR => ⟨u, ?_, iR, Fz.rf⟩⟩
    · unfold hX10_guild; rw [c_isTold iC.sn.1 g, cl_some, if_neg (told1 h0), if_pos hp0]
    · unfold hX11_guild; rw [r_isStreet iR.sn.1.1 g, cl_some, if_neg (told1 h0), if_pos hp0]
  rcases pk_ix p1 (n := 2 ^ sG (aS A) 1) (by omega) with h | h | ⟨P, hP, rfl⟩
  · exact absurd (Int32.le_of_lt h) hp0
  · refine ⟨-1, fun u _ _ iC => ⟨u, ?_, Fz.rf⟩, fun m u iR => ⟨u, ?_, iR, Fz.rf⟩⟩
    · unfold hX10_guild
      rw [c_isTold iC.sn.1 g, cl_some, if_neg (told1 h0), if_neg hp0, c_everyone iC.sn.1 g, cl_some, if_neg (fun z => by
        rw [Int32.le_iff_toInt_le, nI_toInt (by omega)] at z h
        omega)]
    · unfold hX11_guild
      rw [r_isStreet iR.sn.1.1 g, cl_some, if_neg (told1 h0), if_neg hp0, iR.sn.1.1.1 1 (by decide), nI_shl _ (by omega), if_pos h]
  have P0 : 0 < P := by
    rcases Nat.eq_zero_or_pos P with e | e
    · subst e; exact absurd (by decide) hp0
    · exact e
  cases e2 : pB p2 11 with
  | false =>
    refine ⟨-1, fun u _ _ iC => ⟨u, ?_, Fz.rf⟩, fun m u iR => ⟨u, ?_, iR, Fz.rf⟩⟩
    · unfold hX10_guild; rw [c_isTold iC.sn.1 g, cl_some, if_neg (told1 h0), if_neg hp0, c_everyone iC.sn.1 g, cl_some, if_pos (nI_le (by omega) (by omega)), c_tog, e2]; rfl
    · unfold hX11_guild; rw [r_isStreet iR.sn.1.1 g, cl_some, if_neg (told1 h0), if_neg hp0, iR.sn.1.1.1 1 (by decide), nI_shl _ (by omega), if_neg (nI_ge hP (by omega)), x_inb (b := 10) (q := 10) (by decide) rfl, cl_some, e2, if_pos (by decide)]
  | true =>
    cases e3 : pB p3 3 with
    | false =>
      refine ⟨-1, fun u _ _ iC => ⟨u, ?_, Fz.rf⟩, fun m u iR => ⟨u, ?_, iR, Fz.rf⟩⟩
      · unfold hX10_guild; rw [c_isTold iC.sn.1 g, cl_some, if_neg (told1 h0), if_neg hp0, c_everyone iC.sn.1 g, cl_some, if_pos (nI_le (by omega) (by omega)), c_tog, e2, e3]; rfl
      · unfold hX11_guild; rw [r_isStreet iR.sn.1.1 g, cl_some, if_neg (told1 h0), if_neg hp0, iR.sn.1.1.1 1 (by decide), nI_shl _ (by omega), if_neg (nI_ge hP (by omega)), x_inb (b := 10) (q := 10) (by decide) rfl, cl_some, e2, if_neg (by decide), x_inb (b := 2) (q := 2) (by decide) rfl, cl_some, e3, if_pos (by decide)]
    | true =>
      obtain ⟨k, hk, rfl⟩ := pB_t (by decide) e2
      obtain ⟨j, hj, rfl⟩ := pB_t (by decide) e3
      refine ⟨chR (sG (aS A)) (sM (aS A)) P k j, fun u _ _ iC => ?_, fun m u iR => ?_⟩
      · obtain ⟨v, k1, k2⟩ := c_together (N := N) iC hA (show P < 32 by omega) P0 (show k ≤ 10 by omega) (show j ≤ 2 by omega) hN
        refine ⟨v, ?_, k2⟩
        unfold hX10_guild
        rw [c_isTold iC.sn.1 g, cl_some, if_neg (told1 h0), if_neg hp0, c_everyone iC.sn.1 g, cl_some, if_pos (nI_le (by omega) (by omega)), c_tog, e2, if_pos rfl, e3, if_pos rfl, k1, cl_some]
      · obtain ⟨v, k1, k2, k3⟩ := r_cheapest (N := N) iR hA (show P < 32 by omega) P0 (show k ≤ 10 by omega) (show j ≤ 2 by omega) hN
        refine ⟨v, ?_, k2, k3⟩
        unfold hX11_guild
        rw [r_isStreet iR.sn.1.1 g, cl_some, if_neg (told1 h0), if_neg hp0, iR.sn.1.1.1 1 (by decide), nI_shl _ (by omega), if_neg (nI_ge hP (by omega)), x_inb (b := 10) (q := 10) (by decide) rfl, cl_some, e2, if_neg (by decide), x_inb (b := 2) (q := 2) (by decide) rfl, cl_some, e3, if_neg (by decide), k1, cl_some]
end OPS11
