def lsO (f : Nat → Bool) : Nat → Option Nat
  | 0 => none
  | n + 1 => match lsO f n with
    | some a => some a
    | none => if f n then some n else none
def opI (o : Option Nat) : Int32 := match o with
  | none => -2
  | some a => nI a
def inA (f : Nat → Bool) (all : Nat) : Nat → Nat
  | 0 => all
  | n + 1 => if f n then inA f all n &&& n else inA f all n
def inS (f : Nat → Bool) : Nat → Nat
  | 0 => 0
  | n + 1 => if f n then inS f n ||| n else inS f n
theorem lsO_none (f : Nat → Bool) : ∀ n, lsO f n = none ↔ cntB f n = 0 := by
  intro n
  induction n with
  | zero => simp [lsO, cntB]
  | succ n ih =>
    rw [lsO, cntB]
    cases e : lsO f n with
    | none =>
      have := ih.mp e
      rw [this]
      cases f n <;> simp [b2n]
    | some a =>
      have : ¬ cntB f n = 0 := fun z => by rw [ih.mpr z] at e; cases e
      simp
      omega
theorem lsO_lt (f : Nat → Bool) : ∀ n a, lsO f n = some a → a < n := by
  intro n
  induction n with
  | zero => intro a h; cases h
  | succ n ih =>
    intro a h
    rw [lsO] at h
    cases e : lsO f n with
    | none =>
      rw [e] at h
      simp at h
      omega
    | some b =>
      rw [e] at h
      cases h
      have := ih a e
      omega
theorem opI_2 {o : Option Nat} (h : ∀ a, o = some a → a < 2 ^ 31) : opI o = -2 ↔ o = none := by
  cases o with
  | none => simp [opI]
  | some a =>
    constructor
    · intro e
      exact absurd (show nI a < 0 by rw [show nI a = -2 from e]; decide) (nI_pos (h a rfl))
    · intro e; cases e
theorem dif_dif (a s t : Nat) : dif (dif a s) t = dif a (s ||| t) := by
  apply Nat.eq_of_testBit_eq
  intro i
  rw [dif_tb, dif_tb, dif_tb, Nat.testBit_or]
  cases a.testBit i <;> cases s.testBit i <;> cases t.testBit i <;> rfl
theorem dif_0 (a : Nat) : dif a 0 = a := by
  apply Nat.eq_of_testBit_eq
  intro i
  rw [dif_tb]
  simp
theorem dif_two (p s : Nat) : dif (2 ^ p) s = 0 ↔ s.testBit p = true := by
  constructor
  · intro h
    have e := congrArg (fun z => Nat.testBit z p) h
    simp only [dif_tb, Nat.testBit_two_pow, Nat.zero_testBit] at e
    cases q : s.testBit p
    · rw [q] at e; simp at e
    · rfl
  · intro h
    apply Nat.eq_of_testBit_eq
    intro i
    rw [dif_tb, Nat.testBit_two_pow, Nat.zero_testBit]
    by_cases q : p = i
    · subst q; rw [h]; simp
    · simp [q]
theorem pw5 {n : Nat} (h : n ≤ 5) : 2 ^ n ≤ 32 ∧ 1 ≤ 2 ^ n := ⟨Nat.pow_le_pow_right (by decide) h, Nat.one_le_two_pow⟩
section ASK
variable {N x m c : Nat} {u : SG} {A : AT}
theorem c_setsWith (iC : InvC u x A) (hA : Aok c A) {P : Nat} (hP : P < 32) (hN : 2000 ≤ N) : hX10_setsWith N x (nI P) u = some (nI (cntB (fun s => decide (dif P s = 0) && fit (aS A) s) (2 ^ sG (aS A) 1)), u) := by
  have g := hA.2.2.2.2.1.1
  obtain ⟨w1, w2⟩ := pw5 g.2.1
  refine lps (fun f k s => hgX10_setsWith_4 N f x (nI P) (nI s) (nI k) u) (2 ^ sG (aS A) 1) (fun k s => s = cntB (fun s => decide (dif P s = 0) && fit (aS A) s) k) (fun r => r = some (nI (cntB (fun s => decide (dif P s = 0) && fit (aS A) s) (2 ^ sG (aS A) 1)), u)) ?_ ?_ N 0 0 (by omega) (by omega) rfl
  · intro f s hI
    rw [hgX10_setsWith_4, c_everyone iC.sn.1 g, cl_some, if_pos (nI_lt (by omega) (by omega)), hI]
  · intro f k s hk hI
    refine ⟨_, rfl, ?_⟩
    rw [hgX10_setsWith_4, c_everyone iC.sn.1 g, cl_some, if_neg (nI_nlt (by omega) (by omega)), nI_dif, c_allow iC hA (by omega) hN, cl_some, lit_1, nI_add, nI_add, cntB, hI]
    have hd := dif_le P k
    by_cases q : dif P k = 0
    · rw [q, if_pos nI_0, decide_eq_true rfl, Bool.true_and]
      cases fit (aS A) k
      · rw [if_pos (by decide)]; rfl
      · rw [if_neg (by decide)]; rfl
    · rw [if_neg (nI_ne0 (by omega) (by omega)), decide_eq_false q, Bool.false_and]
      rfl
/-- the greater part, by the sleep of p -/
def grP (S : SCT) (B p : Nat) : Nat := max (cntB (fun s => s.testBit p && fit S s) B) (cntB (fit S) B - cntB (fun s => s.testBit p && fit S s) B)
def askS (S : SCT) (B : Nat) : Nat → Option (Nat × Nat)
  | 0 => none
  | p + 1 => match askS S B p with
    | none => some (p, grP S B p)
    | some (b, f) => if grP S B p < f then some (p, grP S B p) else some (b, f)
theorem cnt_split (f g : Nat → Bool) : ∀ n, cntB (fun s => f s && g s) n + cntB (fun s => !f s && g s) n = cntB g n := by
  intro n
  induction n with
  | zero => rfl
  | succ n ih =>
    rw [cntB, cntB, cntB]
    cases f n <;> cases g n <;> simp [b2n] <;> omega
theorem grP_le (S : SCT) (B p : Nat) : grP S B p ≤ B := by
  have h1 := cntB_le (fit S) B
  have h2 := cntB_le (fun s => s.testBit p && fit S s) B
  unfold grP
  omega
theorem grP_pos {S : SCT} {B : Nat} (p : Nat) (h : 0 < cntB (fit S) B) : 0 < grP S B p := by
  have := cnt_split (fun s => s.testBit p) (fit S) B
  unfold grP
  omega
theorem ask_lt (S : SCT) (B : Nat) : ∀ n b f, askS S B n = some (b, f) → b < n ∧ f ≤ B := by
  intro n
  induction n with
  | zero => intro b f h; cases h
  | succ n ih =>
    intro b f h
    have hg := grP_le S B n
    rw [askS] at h
    cases e : askS S B n with
    | none =>
      rw [e] at h
      simp at h
      omega
    | some q =>
      obtain ⟨b', f'⟩ := q
      have := ih b' f' e
      rw [e] at h
      simp only at h
      split at h
      · simp at h; omega
      · simp at h; omega
end ASK
def fsI (o : Option (Nat × Nat)) : Int32 := match o with
  | none => -2
  | some q => nI q.1
def snI (o : Option (Nat × Nat)) : Int32 := match o with
  | none => -2
  | some q => nI q.2
section OPS8
variable {N : Nat}
theorem op_slept (p1 : Int32) (hN : 2000 ≤ N) : OpOK (fun x u => fX10_slept N x p1 u) (fun m u => fX11_slept N m p1 u) := by
  refine op_pure (fun x u h => eX10_slept N x p1 u h) (fun m u h => eX11_slept N m p1 u h) (fun c x A hc hA => ?_)
  have g := hA.2.2.2.2.1.1
  have g1 := g.2.1
  obtain ⟨w1, w2⟩ := pw5 g1
  rcases Nat.eq_zero_or_pos (sG (aS A) 0) with h0 | h0
  · refine ⟨-1, fun u iC => ?_, fun m u iR => ?_⟩
    · unfold hX10_slept; rw [c_isTold iC.sn.1 g, cl_some, if_pos (told0 h0)]
    · unfold hX11_slept; rw [r_isStreet iR.sn.1.1 g, cl_some, if_pos (told0 h0)]
  cases eo : pB p1 4 with
  | false =>
    refine ⟨-1, fun u iC => ?_, fun m u iR => ?_⟩
    · unfold hX10_slept; rw [c_isTold iC.sn.1 g, cl_some, if_neg (told1 h0), lit_3, pB_if2 (by decide), eo]; rfl
    · unfold hX11_slept; rw [r_isStreet iR.sn.1.1 g, cl_some, if_neg (told1 h0), x_inb (b := 3) (q := 3) (by decide) rfl, cl_some, eo, if_pos (by decide)]
  | true =>
    obtain ⟨j, hj, rfl⟩ := pB_t (by decide) eo
    have ltA : ∀ k, k ≤ 2 ^ sG (aS A) 1 → ∀ a, lsO (fit (aS A)) k = some a → a < 2 ^ 31 := fun k hk a h => by have := lsO_lt _ k a h; omega
    refine ⟨if j = 0 then nI (cntB (fit (aS A)) (2 ^ sG (aS A) 1)) else if j = 1 then opI (lsO (fit (aS A)) (2 ^ sG (aS A) 1)) else if cntB (fit (aS A)) (2 ^ sG (aS A) 1) = 0 then 0 else if j = 2 then nI (inA (fit (aS A)) (2 ^ sG (aS A) 1 - 1) (2 ^ sG (aS A) 1)) else nI (dif (2 ^ sG (aS A) 1 - 1) (inS (fit (aS A)) (2 ^ sG (aS A) 1))), fun u iC => ?_, fun m u iR => ?_⟩
    · unfold hX10_slept
      rw [c_isTold iC.sn.1 g, cl_some, if_neg (told1 h0), lit_3, pB_if2 (by decide), eo, if_pos rfl, c_everyone iC.sn.1 g, cl_some]
      refine lps (fun f k (s : Option Nat × Nat × Nat) => hgX10_slept_47 N f x (nI j) (nI (2 ^ sG (aS A) 1 - 1)) (opI s.1) (nI s.2.1) (nI s.2.2) (nI k) u) (2 ^ sG (aS A) 1) (fun k s => s = (lsO (fit (aS A)) k, inA (fit (aS A)) (2 ^ sG (aS A) 1 - 1) k, inS (fit (aS A)) k)) (fun r => r = some (_, u)) ?_ ?_ N 0 (none, 2 ^ sG (aS A) 1 - 1, 0) (by omega) (by omega) rfl
      · intro f s hI
        have w0 : cntB (fun s => decide (dif 0 s = 0) && fit (aS A) s) (2 ^ sG (aS A) 1) = cntB (fit (aS A)) (2 ^ sG (aS A) 1) := cntB_ext (fun i hi => by
          have : dif 0 i = 0 := by have := dif_le 0 i; omega
          rw [decide_eq_true this, Bool.true_and])
        rw [hI, hgX10_slept_47, if_pos (nI_lt (by omega) (by omega))]
        have h2 : opI (lsO (fit (aS A)) (2 ^ sG (aS A) 1)) = -2 ↔ cntB (fit (aS A)) (2 ^ sG (aS A) 1) = 0 := (opI_2 (ltA _ (Nat.le_refl _))).trans (lsO_none _ _)
        rcases (by omega : j = 0 ∨ j = 1 ∨ j = 2 ∨ j = 3) with rfl | rfl | rfl | rfl
        · rw [if_pos (by decide), lit_0, c_setsWith iC hA (by decide) hN, cl_some, w0]; rfl
        · rw [if_neg (by decide), if_pos (by decide)]; rfl
        · rw [if_neg (by decide), if_neg (by decide), if_pos (by decide)]
          simp only [h2]
          by_cases q : cntB (fit (aS A)) (2 ^ sG (aS A) 1) = 0
          · rw [if_pos q, if_pos q]; rfl
          · rw [if_neg q, if_neg q]; rfl
        · rw [if_neg (by decide), if_neg (by decide), if_neg (by decide), nI_dif]
          simp only [h2]
          by_cases q : cntB (fit (aS A)) (2 ^ sG (aS A) 1) = 0
          · rw [if_pos q, if_pos q]; rfl
          · rw [if_neg q, if_neg q]; rfl
      · intro f k s hk hI
        refine ⟨_, rfl, ?_⟩
        rw [hI, hgX10_slept_47, if_neg (nI_nlt (by omega) (by omega)), c_allow iC hA (by omega) hN, cl_some, lsO, inA, inS]
        cases fit (aS A) k with
        | false =>
          rw [if_pos (by decide), lit_1, nI_add]
          cases lsO (fit (aS A)) k <;> rfl
        | true =>
          rw [if_neg (by decide)]
          simp only [opI_2 (ltA k (by omega))]
          unfold hgX10_slept_80
          rw [bs_eq, bs_eq, bs_eq, bs_eq, nI_and, nI_or, lit_1, nI_add]
          cases e : lsO (fit (aS A)) k with
          | none => rw [if_pos rfl]; rfl
          | some a => rw [if_neg (by simp)]; rfl
    · unfold hX11_slept
      rw [r_isStreet iR.sn.1.1 g, cl_some, if_neg (told1 h0), x_inb (b := 3) (q := 3) (by decide) rfl, cl_some, eo, if_neg (by decide), bs_eq, iR.sn.1.1.1 1 (by decide), nI_shl _ (by omega), lit_1, pk_sub w2]
      refine lps (fun f k (s : Option Nat × Nat × Nat × Nat) => hgX11_slept_47 N f m (nI j) (nI (2 ^ sG (aS A) 1 - 1)) (nI s.2.2.2) (opI s.1) (nI s.2.1) (nI s.2.2.1) (nI k) u) (2 ^ sG (aS A) 1) (fun k s => s = (lsO (fit (aS A)) k, inA (fit (aS A)) (2 ^ sG (aS A) 1 - 1) k, dif (2 ^ sG (aS A) 1 - 1) (inS (fit (aS A)) k), cntB (fit (aS A)) k)) (fun r => r = some (_, u)) ?_ ?_ N 0 (none, 2 ^ sG (aS A) 1 - 1, 2 ^ sG (aS A) 1 - 1, 0) (by omega) (by omega) (by rw [inS, dif_0]; rfl)
      · intro f s hI
        have cl9 := cntB_le (fit (aS A)) (2 ^ sG (aS A) 1)
        rw [hI]
        dsimp only
        rw [hgX11_slept_47, if_pos (nI_lt (by omega) (by omega)), lit_0, ifeq (by omega) (by decide)]
        rcases (by omega : j = 0 ∨ j = 1 ∨ j = 2 ∨ j = 3) with rfl | rfl | rfl | rfl
        · rw [if_neg (by decide), if_pos (by decide)]; rfl
        · rw [if_neg (by decide), if_neg (by decide)]; rfl
        · rw [if_pos (show (2 : Int32) ≤ nI 2 by decide), if_pos (show nI 2 = (2 : Int32) by decide)]
          by_cases q : cntB (fit (aS A)) (2 ^ sG (aS A) 1) = 0
          · (simp [q]) <;> rfl
          · (simp [q]) <;> rfl
        · rw [if_pos (show (2 : Int32) ≤ nI 3 by decide), if_neg (show ¬ nI 3 = (2 : Int32) by decide)]
          by_cases q : cntB (fit (aS A)) (2 ^ sG (aS A) 1) = 0
          · (simp [q]) <;> rfl
          · (simp [q]) <;> rfl
      · intro f k s hk hI
        have cl9 := cntB_le (fit (aS A)) k
        refine ⟨_, rfl, ?_⟩
        rw [hI]
        dsimp only
        rw [hgX11_slept_47, if_neg (nI_nlt (by omega) (by omega)), r_fits iR hA (by omega) hN, cl_some, lsO, inA, inS, cntB]
        cases fit (aS A) k with
        | false =>
          rw [if_pos (by decide), lit_1, nI_add]
          cases lsO (fit (aS A)) k <;> rfl
        | true =>
          rw [if_neg (by decide)]
          unfold hgX11_slept_76
          rw [bs_eq, bs_eq, bs_eq, bs_eq, nI_and, nI_dif, lit_1, nI_add, nI_add, lit_0, ifeq (by omega) (by decide), dif_dif]
          have hz := lsO_none (fit (aS A)) k
          cases e : lsO (fit (aS A)) k with
          | none => rw [if_pos (hz.mp e)]; rfl
          | some a => rw [if_neg (fun z => by rw [hz.mpr z] at e; cases e)]; rfl
theorem op_ask' (p1 : Int32) (hN : 2000 ≤ N) : OpOK (fun x u => fX10_ask N x p1 u) (fun m u => fX11_ask N m p1 u) := by
  refine op_pure (fun x u h => eX10_ask N x p1 u h) (fun m u h => eX11_ask N m p1 u h) (fun c x A hc hA => ?_)
  have g := hA.2.2.2.2.1.1
  have g1 := g.2.1
  obtain ⟨w1, w2⟩ := pw5 g1
  rcases Nat.eq_zero_or_pos (sG (aS A) 0) with h0 | h0
  · refine ⟨-1, fun u iC => ?_, fun m u iR => ?_⟩
    · unfold hX10_ask; rw [c_isTold iC.sn.1 g, cl_some, if_pos (told0 h0)]
    · unfold hX11_ask; rw [r_isStreet iR.sn.1.1 g, cl_some, if_pos (told0 h0)]
  cases eo : pB p1 2 with
  | false =>
    refine ⟨-1, fun u iC => ?_, fun m u iR => ?_⟩
    · unfold hX10_ask; rw [c_isTold iC.sn.1 g, cl_some, if_neg (told1 h0), show (1 : Int32) = nI 1 from rfl, pB_if2 (by decide), eo]; rfl
    · unfold hX11_ask; rw [r_isStreet iR.sn.1.1 g, cl_some, if_neg (told1 h0), x_inb (b := 1) (q := 1) (by decide) rfl, cl_some, eo, if_pos (by decide)]
  | true =>
    obtain ⟨j, hj, rfl⟩ := pB_t (by decide) eo
    have w0 : cntB (fun s => decide (dif 0 s = 0) && fit (aS A) s) (2 ^ sG (aS A) 1) = cntB (fit (aS A)) (2 ^ sG (aS A) 1) := cntB_ext (fun i hi => by
      have : dif 0 i = 0 := by have := dif_le 0 i; omega
      rw [decide_eq_true this, Bool.true_and])
    have wp : ∀ p, cntB (fun s => decide (dif (2 ^ p) s = 0) && fit (aS A) s) (2 ^ sG (aS A) 1) = cntB (fun s => s.testBit p && fit (aS A) s) (2 ^ sG (aS A) 1) := fun p => cntB_ext (fun i hi => by
      have := dif_two p i
      cases e : i.testBit p
      · rw [decide_eq_false (fun z => by rw [this.mp z] at e; cases e)]
      · rw [decide_eq_true (this.mpr e)])
    have cl9 := cntB_le (fit (aS A)) (2 ^ sG (aS A) 1)
    have fn : ∀ k, k ≤ sG (aS A) 1 → (fsI (askS (aS A) (2 ^ sG (aS A) 1) k) = -2 ↔ askS (aS A) (2 ^ sG (aS A) 1) k = none) := by
      intro k hk
      cases e : askS (aS A) (2 ^ sG (aS A) 1) k with
      | none => simp [fsI]
      | some q =>
        have := ask_lt _ _ k q.1 q.2 e
        constructor
        · intro z; exact absurd (show nI q.1 < 0 by rw [show nI q.1 = -2 from z]; decide) (nI_pos (by omega))
        · intro z; cases z
    rcases Nat.eq_zero_or_pos (cntB (fit (aS A)) (2 ^ sG (aS A) 1)) with ez | ez
    · refine ⟨-2, fun u iC => ?_, fun m u iR => ?_⟩
      · obtain ⟨n, hn⟩ : ∃ i, N = i + 1 := ⟨N - 1, by omega⟩
        unfold hX10_ask
        rw [c_isTold iC.sn.1 g, cl_some, if_neg (told1 h0), show (1 : Int32) = nI 1 from rfl, pB_if2 (by decide), eo, if_pos rfl, lit_0, c_setsWith iC hA (by decide) hN, cl_some, w0, ez]
        conv => lhs; arg 2; rw [hn]
        rw [hgX10_ask_40]
        unfold hgX10_ask_106
        split
        · split <;> rfl
        · rw [if_pos (by decide)]; split <;> rfl
      · unfold hX11_ask
        rw [r_isStreet iR.sn.1.1 g, cl_some, if_neg (told1 h0), x_inb (b := 1) (q := 1) (by decide) rfl, cl_some, eo, if_neg (by decide)]
        have fz : ∀ s, s < 2 ^ sG (aS A) 1 → fit (aS A) s = false := fun s hs => cntB_zero ez s hs
        refine lps (fun f k (_ : Unit) => hgX11_ask_28 N f m (nI j) (-2) (-2) (nI k) u) (sG (aS A) 1) (fun _ _ => True) (fun r => r = some (-2, u)) ?_ ?_ N 0 () (by omega) (by omega) trivial
        · intro f _ _
          rw [hgX11_ask_28, iR.sn.1.1.1 1 (by decide), if_pos (nI_le (by omega) (by omega))]
          split <;> rfl
        · intro f k _ hk _
          refine ⟨(), trivial, ?_⟩
          rw [hgX11_ask_28, iR.sn.1.1.1 1 (by decide), if_neg (nI_ge hk (by omega))]
          refine lps (fun f2 s (_ : Unit) => hgX11_ask_48 N (hgX11_ask_28 N f) f2 m (nI j) (-2) (-2) (nI k) 0 0 (nI s) u) (2 ^ sG (aS A) 1) (fun _ _ => True) (fun r => r = hgX11_ask_28 N f m (nI j) (-2) (-2) (nI (k + 1)) u) ?_ ?_ N 0 () (by omega) (by omega) trivial
          · intro f2 _ _
            rw [hgX11_ask_48, iR.sn.1.1.1 1 (by decide), nI_shl _ (by omega), if_pos (nI_le (by omega) (by omega))]
            unfold hgX11_ask_112
            rw [if_pos (by decide), if_pos rfl, lit_1, nI_add]
          · intro f2 s _ hs _
            refine ⟨(), trivial, ?_⟩
            rw [hgX11_ask_48, iR.sn.1.1.1 1 (by decide), nI_shl _ (by omega), if_neg (nI_ge hs (by omega)), r_fits iR hA (by omega) hN, cl_some, fz s hs, if_pos (by decide), lit_1, nI_add]
    · refine ⟨if j = 0 then fsI (askS (aS A) (2 ^ sG (aS A) 1) (sG (aS A) 1)) else snI (askS (aS A) (2 ^ sG (aS A) 1) (sG (aS A) 1)), fun u iC => ?_, fun m u iR => ?_⟩
      · unfold hX10_ask
        rw [c_isTold iC.sn.1 g, cl_some, if_neg (told1 h0), show (1 : Int32) = nI 1 from rfl, pB_if2 (by decide), eo, if_pos rfl, lit_0, c_setsWith iC hA (by decide) hN, cl_some, w0]
        refine lps (fun f k (s : Option (Nat × Nat)) => hgX10_ask_40 N f x (nI j) (nI (cntB (fit (aS A)) (2 ^ sG (aS A) 1))) (fsI s) (snI s) (nI k) u) (sG (aS A) 1) (fun k s => s = askS (aS A) (2 ^ sG (aS A) 1) k) (fun r => r = some (_, u)) ?_ ?_ N 0 none (by omega) (by omega) rfl
        · intro f s hI
          rw [hgX10_ask_40, iC.sn.1.2.1, if_pos (nI_le (by omega) (by omega)), hI]
          unfold hgX10_ask_106
          rw [lit_0, ifeq (by omega) (by decide)]
          split <;> rfl
        · intro f k s hk hI
          have cw := cntB_le (fun s => s.testBit k && fit (aS A) s) (2 ^ sG (aS A) 1)
          have cs := cnt_split (fun s => s.testBit k) (fit (aS A)) (2 ^ sG (aS A) 1)
          have gl := grP_le (aS A) (2 ^ sG (aS A) 1) k
          have pk5 : 2 ^ k < 2 ^ 5 := Nat.pow_lt_pow_right (by decide) (by omega)
          have emax : ∀ v, fJ9_max_7cf53 N (nI (cntB (fun s => s.testBit k && fit (aS A) s) (2 ^ sG (aS A) 1))) (nI (cntB (fit (aS A)) (2 ^ sG (aS A) 1) - cntB (fun s => s.testBit k && fit (aS A) s) (2 ^ sG (aS A) 1))) v = some (nI (grP (aS A) (2 ^ sG (aS A) 1) k), v) := by
            intro v
            unfold fJ9_max_7cf53 grP
            rw [iflt (by omega) (by omega)]
            split
            · rw [Nat.max_eq_right (by omega)]
            · rw [Nat.max_eq_left (by omega)]
          refine ⟨_, rfl, ?_⟩
          rw [hI, hgX10_ask_40, iC.sn.1.2.1, if_neg (nI_ge hk (by omega)), lit_0, if_neg (nI_ge ez (by omega)), nI_shl k (by omega), c_setsWith iC hA pk5 hN, cl_some, wp, pk_sub (by omega), emax, cl_some, lit_1, nI_add, askS]
          simp only [fn k (by omega)]
          cases e : askS (aS A) (2 ^ sG (aS A) 1) k with
          | none => rw [if_pos rfl]; rfl
          | some q =>
            have hq := ask_lt _ _ k q.1 q.2 e
            rw [if_neg (by simp)]
            show (if nI q.2 ≤ nI (grP (aS A) (2 ^ sG (aS A) 1) k) then _ else _) = _
            rw [ifle (by omega) (by omega)]
            by_cases z : q.2 ≤ grP (aS A) (2 ^ sG (aS A) 1) k
            · rw [if_pos z]; simp only; rw [if_neg (by omega)]
            · rw [if_neg z]; simp only; rw [if_pos (by omega)]; rfl
      · unfold hX11_ask
        rw [r_isStreet iR.sn.1.1 g, cl_some, if_neg (told1 h0), x_inb (b := 1) (q := 1) (by decide) rfl, cl_some, eo, if_neg (by decide)]
        refine lps (fun f k (s : Option (Nat × Nat)) => hgX11_ask_28 N f m (nI j) (fsI s) (snI s) (nI k) u) (sG (aS A) 1) (fun k s => s = askS (aS A) (2 ^ sG (aS A) 1) k) (fun r => r = some (_, u)) ?_ ?_ N 0 none (by omega) (by omega) rfl
        · intro f s hI
          rw [hgX11_ask_28, iR.sn.1.1.1 1 (by decide), if_pos (nI_le (by omega) (by omega)), hI, lit_0, ifeq (by omega) (by decide)]
          split <;> rfl
        · intro f k s hk hI
          have gl := grP_le (aS A) (2 ^ sG (aS A) 1) k
          have gp := grP_pos (S := aS A) (B := 2 ^ sG (aS A) 1) k ez
          have cs := cnt_split (fun s => s.testBit k) (fit (aS A)) (2 ^ sG (aS A) 1)
          have e112 : hgX11_ask_112 N (hgX11_ask_28 N f) m (nI j) (fsI (askS (aS A) (2 ^ sG (aS A) 1) k)) (snI (askS (aS A) (2 ^ sG (aS A) 1) k)) (nI k) (nI (grP (aS A) (2 ^ sG (aS A) 1) k)) u = hgX11_ask_28 N f m (nI j) (fsI (askS (aS A) (2 ^ sG (aS A) 1) (k + 1))) (snI (askS (aS A) (2 ^ sG (aS A) 1) (k + 1))) (nI (k + 1)) u := by
            unfold hgX11_ask_112
            rw [if_neg (nI_ne0 gp (by omega)), lit_1, nI_add, askS]
            cases e : askS (aS A) (2 ^ sG (aS A) 1) k with
            | none => rw [if_pos (show fsI none < 0 by decide)]; rfl
            | some q =>
              have hq := ask_lt _ _ k q.1 q.2 e
              show (if nI q.1 < 0 then _ else if nI (grP (aS A) (2 ^ sG (aS A) 1) k) < nI q.2 then _ else _) = _
              rw [if_neg (nI_pos (by omega)), iflt (by omega) (by omega)]
              by_cases z : grP (aS A) (2 ^ sG (aS A) 1) k < q.2
              · rw [if_pos z]; simp only; rw [if_pos z]; rfl
              · rw [if_neg z]; simp only; rw [if_neg z]
          refine ⟨_, rfl, ?_⟩
          rw [hI, hgX11_ask_28, iR.sn.1.1.1 1 (by decide), if_neg (nI_ge hk (by omega))]
          refine lps (fun f2 s (z : Nat × Nat) => hgX11_ask_48 N (hgX11_ask_28 N f) f2 m (nI j) (fsI (askS (aS A) (2 ^ sG (aS A) 1) k)) (snI (askS (aS A) (2 ^ sG (aS A) 1) k)) (nI k) (nI z.1) (nI z.2) (nI s) u) (2 ^ sG (aS A) 1) (fun s z => z = (cntB (fun s => s.testBit k && fit (aS A) s) s, cntB (fun s => !s.testBit k && fit (aS A) s) s)) (fun r => r = _) ?_ ?_ N 0 (0, 0) (by omega) (by omega) rfl
          · intro f2 z hz
            have b1 := cntB_le (fun s => s.testBit k && fit (aS A) s) (2 ^ sG (aS A) 1)
            have b2 := cntB_le (fun s => !s.testBit k && fit (aS A) s) (2 ^ sG (aS A) 1)
            rw [hz, hgX11_ask_48, iR.sn.1.1.1 1 (by decide), nI_shl _ (by omega), if_pos (nI_le (by omega) (by omega)), ifle (by omega) (by omega)]
            have eg : grP (aS A) (2 ^ sG (aS A) 1) k = if cntB (fun s => s.testBit k && fit (aS A) s) (2 ^ sG (aS A) 1) ≤ cntB (fun s => !s.testBit k && fit (aS A) s) (2 ^ sG (aS A) 1) then cntB (fun s => !s.testBit k && fit (aS A) s) (2 ^ sG (aS A) 1) else cntB (fun s => s.testBit k && fit (aS A) s) (2 ^ sG (aS A) 1) := by
              unfold grP
              split <;> omega
            rw [← e112, eg]
            split <;> rfl
          · intro f2 s z hs hz
            have b1 := cntB_le (fun s => s.testBit k && fit (aS A) s) s
            have b2 := cntB_le (fun s => !s.testBit k && fit (aS A) s) s
            refine ⟨_, rfl, ?_⟩
            rw [hz, hgX11_ask_48, iR.sn.1.1.1 1 (by decide), nI_shl _ (by omega), if_neg (nI_ge hs (by omega)), r_fits iR hA (by omega) hN, cl_some, x_isOf (by omega) (by omega), cl_some, lit_1, nI_add, nI_add, nI_add, cntB, cntB]
            cases fit (aS A) s with
            | false => rw [if_pos (by decide)]; simp [b2n]
            | true =>
              rw [if_neg (by decide)]
              cases s.testBit k with
              | false => rw [if_pos (by decide)]; rfl
              | true => rw [if_neg (by decide)]; rfl
end OPS8
