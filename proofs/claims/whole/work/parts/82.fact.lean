/-! OPERATIONS, 7: facts -/
def pB (x : Int32) (n : Nat) : Bool := decide (¬ x < 0 ∧ ¬ nI n ≤ x)
theorem pB_t {x : Int32} {n : Nat} (hn : n < 2 ^ 31) (h : pB x n = true) : ∃ j, j < n ∧ x = nI j := by
  have h : ¬ x < 0 ∧ ¬ nI n ≤ x := by simpa [pB] using h
  rcases pk_ix x hn with q | q | q
  · exact absurd q h.1
  · exact absurd q h.2
  · exact q
theorem pB_f {x : Int32} {n : Nat} (h : pB x n = false) : x < 0 ∨ nI n ≤ x := by
  by_cases q : x < 0
  · exact Or.inl q
  · by_cases z : nI n ≤ x
    · exact Or.inr z
    · exact absurd h (by simp [pB, q, z])
section PB
variable {N a m : Nat} {u : SG} {G : Nat → Nat} {M : MT}
theorem c_isPb (h : Str u a G) (g : Gb G) (x : Int32) : hX7_isPerson N a x u = some (nI (b2n (pB x (G 1))), u) := by
  cases e : pB x (G 1) with
  | true => obtain ⟨j, hj, rfl⟩ := pB_t (by have := g.2.1; omega) e; exact c_isP1 h g hj
  | false => exact c_isP0 h g (pB_f e)
theorem r_isPb (h : RA (zI u (m + 10)) G M) (g : Gb G) (x : Int32) : hX11_isPerson N m x u = some (nI (b2n (pB x (G 1))), u) := by
  cases e : pB x (G 1) with
  | true => obtain ⟨j, hj, rfl⟩ := pB_t (by have := g.2.1; omega) e; exact r_isP1 h g hj
  | false => exact r_isP0 h g (pB_f e)
theorem x_inb {x : Int32} {b : Nat} (hb : b + 1 < 2 ^ 31) {q : Int64} (hq : q = lN b) : fX11_in N x.toInt64 (0 : Int64) q u = some (nI (b2n (pB x (b + 1))), u) := by
  cases e : pB x (b + 1) with
  | true => obtain ⟨j, hj, rfl⟩ := pB_t hb e; exact x_in1 (by omega) (by omega) hq
  | false => exact x_in0 (pB_f e) hb hq
theorem pB_if {x : Int32} {b : Nat} (hb : b + 1 < 2 ^ 31) {β : Type} {y z : β} : (if x < 0 then y else if nI b < x then y else z) = if pB x (b + 1) then z else y := by
  cases e : pB x (b + 1) with
  | true =>
    obtain ⟨j, hj, rfl⟩ := pB_t hb e
    rw [if_neg (nI_pos (by omega)), if_neg (nI_nlt (by omega) (by omega)), if_pos rfl]
  | false =>
    rcases pB_f e with h | h
    · rw [if_pos h]; rfl
    · rw [if_neg (not_lt0 hb h), if_pos (nI_lt_of hb h)]; rfl
theorem pB_if2 {x : Int32} {b : Nat} (hb : b + 1 < 2 ^ 31) {β : Type} {y z : β} : (if x < 0 then y else if x ≤ nI b then z else y) = if pB x (b + 1) then z else y := by
  cases e : pB x (b + 1) with
  | true =>
    obtain ⟨j, hj, rfl⟩ := pB_t hb e
    rw [if_neg (nI_pos (by omega)), if_pos (nI_le (by omega) (by omega)), if_pos rfl]
  | false =>
    rcases pB_f e with h | h
    · rw [if_pos h]; rfl
    · rw [if_neg (not_lt0 hb h), if_neg (fun z => by have := nI_lt_of hb h; rw [Int32.lt_iff_toInt_lt] at this; rw [Int32.le_iff_toInt_le] at z; omega)]; rfl
end PB
def wF (A : AT) (F : Nat → Int32) (n : Nat) : AT := (aT A, aB A, aR A, (sG (aS A), sM (aS A), F, n, sf (aS A), sx (aS A)), aV A, aI A)
def addF (F : Nat → Int32) (n : Nat) (a b c d : Int32) : Nat → Int32 := fun k => if k = 4 * n then a else if k = 4 * n + 1 then b else if k = 4 * n + 2 then c else if k = 4 * n + 3 then d else F k
section WF
variable {u v : SG} {x m c : Nat} {A : AT} {P : Nat → Nat → Prop} {F : Nat → Int32} {n : Nat}
theorem csN (iC : InvC u x A) (f : Fz P u v) (hP : ∀ a k, P a k → x + 29 ≤ a ∧ a ≤ x + 33) (h1 : zI v (x + 29) 4 = nI n) (h2 : ∀ j, j < n → zI v (x + 30) j = F (4 * j) ∧ zI v (x + 31) j = F (4 * j + 1) ∧ zI v (x + 32) j = F (4 * j + 2) ∧ zI v (x + 33) j = F (4 * j + 3)) : InvC v x (wF A F n) := by
  have z : ∀ a k, ¬ (x + 29 ≤ a ∧ a ≤ x + 33) → ¬ P a k := fun a k q p => q (hP a k p)
  obtain ⟨s1, s2, s3, s4, s5, s6⟩ := iC.sn
  exact invC (iC.tp.z f (z _ _ (by omega)) (fun k => z _ _ (by omega))) (iC.rl.z f (z _ _ (by omega)) (fun a k q => z _ _ (by omega))) ⟨s1.z f (fun b k q1 q2 => z _ _ (by omega)), s2.z f (fun b k q1 q2 => z _ _ (by omega)), h1, h2, by rw [f.I (z _ _ (by omega))]; exact s5, by rw [f.I (z _ _ (by omega))]; exact s6⟩ (iC.ac.z f (fun k => z _ _ (by omega)) (fun a k q1 q2 => z _ _ (by omega))) (iC.im.z f (fun a k q1 q2 => z _ _ (by omega)))
theorem rsN (iR : InvR u m A) (g : Gb (sG (aS A))) (f : Fz P u v) (hP : ∀ a k, P a k → a = m + 10 ∧ 103 ≤ k) (h1 : zI v (m + 10) 143 = nI n) (h2 : ∀ k, k < 4 * n → zI v (m + 10) (103 + k) = F k) : InvR v m (wF A F n) := by
  have z : ∀ a k, ¬ (a = m + 10 ∧ 103 ≤ k) → ¬ P a k := fun a k q p => q (hP a k p)
  obtain ⟨⟨r1, r2, r3, r4⟩, r5, r6⟩ := iR.sn
  exact invR (iR.tp.z f (z _ _ (by omega)) (fun k => z _ _ (by omega))) (iR.rl.z f (z _ _ (by omega)) (fun a k q => z _ _ (by omega))) ⟨⟨r1.cg (fun k hk => f.I (z _ _ (by omega))) g, fun k q1 q2 => by rw [f.I (z _ _ (by omega))]; exact r2 k q1 q2, h1, h2⟩, by rw [f.I (z _ _ (by omega))]; exact r5, by rw [f.I (z _ _ (by omega))]; exact r6⟩ (iR.ac.z f (z _ _ (by omega)) (fun k => z _ _ (by omega))) (iR.im.z f (fun a k q1 q2 => z _ _ (by omega)))
theorem aokN (hA : Aok c A) (hn : n ≤ 10) (hF : ∀ j, j < n → fOK F j) : Aok (c + 1) (wF A F n) := by
  obtain ⟨h1, h2, h3, h4, ⟨s1, s2, s3, s4, s5, s6⟩, h6, h7, h8⟩ := hA.mono (d := c + 1) (by omega)
  exact ⟨h1, h2, h3, h4, ⟨s1, s2, hn, hF, s5, s6⟩, h6, h7, h8⟩
end WF
section OPS7
variable {N : Nat}
theorem op_fact (p1 p2 p3 p4 : Int32) (hN : 2000 ≤ N) : OpOK (fun x u => fX10_fact N x p1 p2 p3 p4 u) (fun m u => fX11_fact_ N m p1 p2 p3 p4 u) := by
  refine op_of (fun x u h => eX10_fact N x p1 p2 p3 p4 u h) (fun m u h => eX11_fact_ N m p1 p2 p3 p4 u h) (fun c x A hc hA => ?_)
  obtain ⟨g, hb, hn, hF, -⟩ := hA.2.2.2.2.1
  have g1 := g.2.1
  by_cases e1 : p1 = -1
  · subst e1
    refine ⟨0, wF A (sF (aS A)) 0, aokN hA (by omega) (fun j hj => by omega), fun u _ _ iC => ⟨sI u (x + 29) 4 0, ?_, ?_, Fz.sI (by unfold Sc; omega)⟩, fun m u iR => ⟨sI u (m + 10) 143 0, ?_, ?_, Fz.sI (by unfold Sr; omega)⟩⟩
    · unfold hX10_fact hX1_clear
      rw [if_pos rfl, bs_eq, cl_some]
    · exact csN (P := fun a k => a = x + 29 ∧ k = 4) iC (Fz.sI ⟨rfl, rfl⟩) (fun a k q => by omega) (by rw [sI_s]; rfl) (fun j hj => by omega)
    · unfold hX11_fact_
      rw [if_pos rfl, bs_eq]
    · exact rsN (P := fun a k => a = m + 10 ∧ k = 143) iR g (Fz.sI ⟨rfl, rfl⟩) (fun a k q => by omega) (by rw [sI_s]; rfl) (fun j hj => by omega)
  have no : ∀ (H1 : ∀ u, InvC u x A → hX10_fact N x p1 p2 p3 p4 u = some (-2, u)) (H2 : ∀ m u, InvR u m A → hX11_fact_ N m p1 p2 p3 p4 u = some (-2, u)), ∃ r A', Aok (c + 1) A' ∧ (∀ u, LY u → zK u x = 11 → InvC u x A → ∃ u1, hX10_fact N x p1 p2 p3 p4 u = some (r, u1) ∧ InvC u1 x A' ∧ Fz (Sc x) u u1) ∧ ∀ (m : Nat) (u : SG), InvR u m A → ∃ u1, hX11_fact_ N m p1 p2 p3 p4 u = some (r, u1) ∧ InvR u1 m A' ∧ Fz (Sr m) u u1 :=
    fun H1 H2 => ⟨-2, A, hA.mono (by omega), fun u _ _ iC => ⟨u, H1 u iC, iC, Fz.rf⟩, fun m u iR => ⟨u, H2 m u iR, iR, Fz.rf⟩⟩
  rcases Nat.eq_zero_or_pos (sG (aS A) 0) with h0 | h0
  · refine no (fun u iC => ?_) (fun m u iR => ?_)
    · unfold hX10_fact; rw [if_neg e1, c_isTold iC.sn.1 g, cl_some, if_pos (told0 h0)]
    · unfold hX11_fact_; rw [if_neg e1, r_isStreet iR.sn.1.1 g, cl_some, if_pos (told0 h0)]
  cases eo : pB p1 6 with
  | false =>
    have ho := pB_f eo
    refine no (fun u iC => ?_) (fun m u iR => ?_)
    · unfold hX10_fact hX10_isFact
      rw [if_neg e1, c_isTold iC.sn.1 g, cl_some, if_neg (told1 h0), if_neg (show ¬ p1 = (0 : Int32) from out_ne ho (k := 0) (by decide) (by decide)), if_neg (show ¬ p1 = (1 : Int32) from out_ne ho (k := 1) (by decide) (by decide)), if_neg (show ¬ p1 = (2 : Int32) from out_ne ho (k := 2) (by decide) (by decide)), if_neg (show ¬ p1 = (3 : Int32) from out_ne ho (k := 3) (by decide) (by decide)), if_neg (show ¬ p1 = (4 : Int32) from out_ne ho (k := 4) (by decide) (by decide)), if_neg (show ¬ p1 = (5 : Int32) from out_ne ho (k := 5) (by decide) (by decide)), cl_some, if_pos rfl]
    · unfold hX11_fact_; rw [if_neg e1, r_isStreet iR.sn.1.1 g, cl_some, if_neg (told1 h0), x_inb (b := 5) (q := 5) (by decide) rfl, cl_some, eo, if_pos (by decide)]
  | true =>
    obtain ⟨w, hw, rfl⟩ := pB_t (by decide) eo
    -- is it a fact
    have cF : ∀ u, InvC u x A → hX10_isFact N x (nI w) p2 p3 p4 u = some (nI (b2n ((if w = 2 ∨ w = 3 then pB p2 6 else pB p2 (sG (aS A) 1)) && (decide (w < 4) || (pB p3 301 && pB p4 301)))), u) := by
      intro u iC
      have f40 : hgX10_isFact_40 N x p2 u = some (nI (b2n (pB p2 (sG (aS A) 1))), u) := by
        unfold hgX10_isFact_40
        rw [c_isPb iC.sn.1 g, cl_some, if_pos (b2n_01 _)]
      have f52 : hgX10_isFact_52 N p2 u = some (nI (b2n (pB p2 6)), u) := by
        unfold hgX10_isFact_52
        rw [lit_5, pB_if (by decide)]
        cases pB p2 6 <;> rfl
      have f67 : hgX10_isFact_67 N x p2 p3 p4 u = some (nI (b2n (pB p2 (sG (aS A) 1) && (pB p3 301 && pB p4 301))), u) := by
        unfold hgX10_isFact_67
        rw [c_isPb iC.sn.1 g, cl_some, lit_300, pB_if (by decide), pB_if (by decide)]
        cases pB p2 (sG (aS A) 1) <;> cases pB p3 301 <;> cases pB p4 301 <;> rfl
      unfold hX10_isFact
      rw [f40, f52, f67]
      rcases (by omega : w = 0 ∨ w = 1 ∨ w = 2 ∨ w = 3 ∨ w = 4 ∨ w = 5) with rfl | rfl | rfl | rfl | rfl | rfl
      · rw [if_pos (by decide)]; simp
      · rw [if_neg (by decide), if_pos (by decide)]; simp
      · rw [if_neg (by decide), if_neg (by decide), if_pos (by decide)]; simp
      · rw [if_neg (by decide), if_neg (by decide), if_neg (by decide), if_pos (by decide)]; simp
      · rw [if_neg (by decide), if_neg (by decide), if_neg (by decide), if_neg (by decide), if_pos (by decide)]; simp
      · rw [if_neg (by decide), if_neg (by decide), if_neg (by decide), if_neg (by decide), if_neg (by decide), if_pos (by decide)]; simp
    have rF : ∀ m u, InvR u m A → hX11_fact_ N m (nI w) p2 p3 p4 u = if sn (aS A) = 10 then some (-2, u) else if ((if w = 2 ∨ w = 3 then pB p2 6 else pB p2 (sG (aS A) 1)) && (decide (w < 4) || (pB p3 301 && pB p4 301))) then hgX11_fact__132 N m (nI w) p2 p3 p4 u else some (-2, u) := by
      intro m u iR
      have f99 : hgX11_fact__99 N m (nI w) p2 p3 p4 u = if (decide (w < 4) || (pB p3 301 && pB p4 301)) then hgX11_fact__132 N m (nI w) p2 p3 p4 u else some (-2, u) := by
        unfold hgX11_fact__99
        rw [lit_3, ifle (by omega) (by decide), x_inb (b := 300) (q := 300) (by decide) rfl, cl_some, x_inb (b := 300) (q := 300) (by decide) rfl, cl_some]
        by_cases q : w ≤ 3
        · rw [if_pos q, show decide (w < 4) = true by simp; omega]; rfl
        · rw [if_neg q, show decide (w < 4) = false by simp; omega]
          cases pB p3 301 <;> cases pB p4 301 <;> rfl
      have f660 : hgX11_fact__66 N m (nI w) p2 p3 p4 0 u = if (pB p2 (sG (aS A) 1) && (decide (w < 4) || (pB p3 301 && pB p4 301))) then hgX11_fact__132 N m (nI w) p2 p3 p4 u else some (-2, u) := by
        unfold hgX11_fact__66
        rw [if_pos rfl, r_isPb iR.sn.1.1 g, cl_some, f99]
        cases pB p2 (sG (aS A) 1)
        · rfl
        · rw [if_neg (by decide)]; rfl
      have f61 : hgX11_fact__61 N m (nI w) p2 p3 p4 u = if (pB p2 6 && (decide (w < 4) || (pB p3 301 && pB p4 301))) then hgX11_fact__132 N m (nI w) p2 p3 p4 u else some (-2, u) := by
        unfold hgX11_fact__61 hgX11_fact__66
        rw [if_neg (by decide), x_inb (b := 5) (q := 5) (by decide) rfl, cl_some, f99]
        cases pB p2 6
        · rfl
        · rw [if_neg (by decide)]; rfl
      unfold hX11_fact_
      rw [if_neg e1, r_isStreet iR.sn.1.1 g, cl_some, if_neg (told1 h0), x_inb (b := 5) (q := 5) (by decide) rfl, cl_some, eo, if_neg (by decide), iR.sn.1.2.2.1, lit_10, ifeq (by omega) (by decide), f61, f660]
      by_cases q : sn (aS A) = 10
      · rw [if_pos q, if_pos q]
      · rw [if_neg q, if_neg q, show (2 : Int32) = nI 2 from rfl, ifeq (by omega) (by decide), show (3 : Int32) = nI 3 from rfl, ifeq (by omega) (by decide)]
        by_cases q2 : w = 2
        · rw [if_pos q2, if_pos (Or.inl q2)]
        · rw [if_neg q2]
          by_cases q3 : w = 3
          · rw [if_pos q3, if_pos (Or.inr q3)]
          · rw [if_neg q3, if_neg (show ¬ (w = 2 ∨ w = 3) by omega)]
    cases eV : ((if w = 2 ∨ w = 3 then pB p2 6 else pB p2 (sG (aS A) 1)) && (decide (w < 4) || (pB p3 301 && pB p4 301))) with
    | false =>
      refine no (fun u iC => ?_) (fun m u iR => ?_)
      · unfold hX10_fact; rw [if_neg e1, c_isTold iC.sn.1 g, cl_some, if_neg (told1 h0), cF u iC, cl_some, eV, if_pos (by decide)]
      · rw [rF m u iR, eV]
        split <;> rfl
    | true =>
      by_cases q : sn (aS A) = 10
      · refine no (fun u iC => ?_) (fun m u iR => ?_)
        · unfold hX10_fact hX1_add
          rw [if_neg e1, c_isTold iC.sn.1 g, cl_some, if_neg (told1 h0), cF u iC, cl_some, eV, if_neg (by decide), show zI u (x + 29) 4 = nI (sn (aS A)) from iC.sn.2.2.1, q, if_neg (by decide), if_neg (by decide), cl_some, if_pos rfl]
        · rw [rF m u iR, if_pos q]
      · have hlt : sn (aS A) < 10 := by omega
        rw [Bool.and_eq_true] at eV
        have hone : ∃ o, o ≤ 5 ∧ p2 = nI o := by
          obtain ⟨e, -⟩ := eV
          split at e
          · obtain ⟨o, ho, h⟩ := pB_t (by decide) e; exact ⟨o, by omega, h⟩
          · obtain ⟨o, ho, h⟩ := pB_t (by omega) e; exact ⟨o, by omega, h⟩
        have hmc : 4 ≤ w → ∃ a b : Nat, a ≤ 300 ∧ b ≤ 300 ∧ p3 = nI a ∧ p4 = nI b := by
          intro h4
          obtain ⟨-, e⟩ := eV
          rw [show decide (w < 4) = false by simp; omega, Bool.false_or, Bool.and_eq_true] at e
          obtain ⟨a, ha, e3⟩ := pB_t (by decide) e.1
          obtain ⟨b, hb', e4⟩ := pB_t (by decide) e.2
          exact ⟨a, b, by omega, by omega, e3, e4⟩
        refine ⟨nI (sn (aS A) + 1), wF A (addF (sF (aS A)) (sn (aS A)) (nI w) p2 p3 p4) (sn (aS A) + 1), aokN hA (by omega) (fun j hj => ?_), fun u _ _ iC => ?_, fun m u iR => ?_⟩
        · by_cases e : j = sn (aS A)
          · subst e
            obtain ⟨o, ho, e2⟩ := hone
            refine ⟨w, o, by omega, ho, by unfold addF; rw [if_pos rfl], by unfold addF; rw [if_neg (by omega), if_pos rfl, e2], fun h4 => ?_⟩
            obtain ⟨a, b, ha, hb', e3, e4⟩ := hmc h4
            exact ⟨a, b, ha, hb', by unfold addF; rw [if_neg (by omega), if_neg (by omega), if_pos rfl, e3], by unfold addF; rw [if_neg (by omega), if_neg (by omega), if_neg (by omega), if_pos rfl, e4]⟩
          · obtain ⟨w', o', k1, k2, k3, k4, k5⟩ := hF j (by omega)
            have ne : ∀ i, i < 4 → addF (sF (aS A)) (sn (aS A)) (nI w) p2 p3 p4 (4 * j + i) = sF (aS A) (4 * j + i) := fun i hi => by unfold addF; rw [if_neg (by omega), if_neg (by omega), if_neg (by omega), if_neg (by omega)]
            refine ⟨w', o', k1, k2, by have := ne 0 (by decide); rw [Nat.add_zero] at this; rw [this]; exact k3, by rw [ne 1 (by decide)]; exact k4, fun h4 => ?_⟩
            obtain ⟨a, b, l1, l2, l3, l4⟩ := k5 h4
            exact ⟨a, b, l1, l2, by rw [ne 2 (by decide)]; exact l3, by rw [ne 3 (by decide)]; exact l4⟩
        · have k0 : zI u (x + 29) 4 = nI (sn (aS A)) := iC.sn.2.2.1
          have s4 := iC.sn.2.2.2.1
          refine ⟨sI (sI (sI (sI (sI u (x + 30) (sn (aS A)) (nI w)) (x + 31) (sn (aS A)) p2) (x + 32) (sn (aS A)) p3) (x + 33) (sn (aS A)) p4) (x + 29) 4 (nI (sn (aS A) + 1)), ?_, csN (P := fun a k => x + 29 ≤ a ∧ a ≤ x + 33) iC (((((Fz.sI (by omega)).tr (Fz.sI (by omega))).tr (Fz.sI (by omega))).tr (Fz.sI (by omega))).tr (Fz.sI (by omega))) (fun a k q => q) (sI_s _ _ _ _) (fun j hj => ?_), ((((Fz.sI (by unfold Sc; omega)).tr (Fz.sI (by unfold Sc; omega))).tr (Fz.sI (by unfold Sc; omega))).tr (Fz.sI (by unfold Sc; omega))).tr (Fz.sI (by unfold Sc; omega))⟩
          · unfold hX10_fact hX1_add
            rw [if_neg e1, c_isTold iC.sn.1 g, cl_some, if_neg (told1 h0), cF u iC, cl_some, (by rw [eV.1, eV.2]; rfl : ((if w = 2 ∨ w = 3 then pB p2 6 else pB p2 (sG (aS A) 1)) && (decide (w < 4) || (pB p3 301 && pB p4 301))) = true), if_neg (by decide), k0, if_neg (nI_pos (by omega)), lit_10, if_pos (nI_lt hlt (by decide)), ixI hlt (by decide), nI_clamp (by omega), bs_eq, sI_n (by omega), k0, ixI hlt (by decide), nI_clamp (by omega), bs_eq, sI_n (by omega), sI_n (by omega), k0, ixI hlt (by decide), nI_clamp (by omega), bs_eq, sI_n (by omega), sI_n (by omega), sI_n (by omega), k0, ixI hlt (by decide), nI_clamp (by omega), bs_eq, bs_eq, sI_n (by omega), sI_n (by omega), sI_n (by omega), sI_n (by omega), k0, lit_1, nI_add, cl_some, if_neg (by decide)]
            exact congrArg (fun z => some (z, _)) (sI_s _ _ _ _)
          · unfold addF
            by_cases e : j = sn (aS A)
            · subst e
              refine ⟨?_, ?_, ?_, ?_⟩
              · rw [sI_n (by omega), sI_n (by omega), sI_n (by omega), sI_n (by omega), sI_s, if_pos rfl]
              · rw [sI_n (by omega), sI_n (by omega), sI_n (by omega), sI_s, if_neg (by omega), if_pos rfl]
              · rw [sI_n (by omega), sI_n (by omega), sI_s, if_neg (by omega), if_neg (by omega), if_pos rfl]
              · rw [sI_n (by omega), sI_s, if_neg (by omega), if_neg (by omega), if_neg (by omega), if_pos rfl]
            · obtain ⟨l1, l2, l3, l4⟩ := s4 j (by omega)
              refine ⟨?_, ?_, ?_, ?_⟩
              · rw [sI_n (by omega), sI_n (by omega), sI_n (by omega), sI_n (by omega), sI_n (by omega), if_neg (by omega), if_neg (by omega), if_neg (by omega), if_neg (by omega)]; exact l1
              · rw [sI_n (by omega), sI_n (by omega), sI_n (by omega), sI_n (by omega), sI_n (by omega), if_neg (by omega), if_neg (by omega), if_neg (by omega), if_neg (by omega)]; exact l2
              · rw [sI_n (by omega), sI_n (by omega), sI_n (by omega), sI_n (by omega), sI_n (by omega), if_neg (by omega), if_neg (by omega), if_neg (by omega), if_neg (by omega)]; exact l3
              · rw [sI_n (by omega), sI_n (by omega), sI_n (by omega), sI_n (by omega), sI_n (by omega), if_neg (by omega), if_neg (by omega), if_neg (by omega), if_neg (by omega)]; exact l4
        · have k0 := iR.sn.1.2.2.1
          have s4 := iR.sn.1.2.2.2
          refine ⟨sI (sI (sI (sI (sI u (m + 10) (103 + 4 * sn (aS A)) (nI w)) (m + 10) (103 + 4 * sn (aS A) + 1) p2) (m + 10) (103 + 4 * sn (aS A) + 2) p3) (m + 10) (103 + 4 * sn (aS A) + 3) p4) (m + 10) 143 (nI (sn (aS A) + 1)), ?_, rsN (P := fun a k => a = m + 10 ∧ 103 ≤ k) iR g (((((Fz.sI (by omega)).tr (Fz.sI (by omega))).tr (Fz.sI (by omega))).tr (Fz.sI (by omega))).tr (Fz.sI (by omega))) (fun a k q => q) (sI_s _ _ _ _) (fun k hk => ?_), ((((Fz.sI (by unfold Sr; omega)).tr (Fz.sI (by unfold Sr; omega))).tr (Fz.sI (by unfold Sr; omega))).tr (Fz.sI (by unfold Sr; omega))).tr (Fz.sI (by unfold Sr; omega))⟩
          · rw [rF m u iR, if_neg q, (by rw [eV.1, eV.2]; rfl : ((if w = 2 ∨ w = 3 then pB p2 6 else pB p2 (sG (aS A) 1)) && (decide (w < 4) || (pB p3 301 && pB p4 301))) = true), if_pos rfl]
            unfold hgX11_fact__132
            rw [bs_eq, k0]
            simp only [lit_103, lit_4, lit_1, lit_2, lit_3, pk_mul, nI_add]
            rw [ixI (by omega) (by decide), nI_clamp (by omega), bs_eq, ixI (by omega) (by decide), nI_clamp (by omega), bs_eq, ixI (by omega) (by decide), nI_clamp (by omega), bs_eq, ixI (by omega) (by decide), nI_clamp (by omega), bs_eq, bs_eq, sI_s, sI_n (by omega), sI_n (by omega), sI_n (by omega), sI_n (by omega), k0, nI_add]
          · unfold addF
            by_cases q0 : k = 4 * sn (aS A)
            · subst q0; rw [sI_n (by omega), sI_n (by omega), sI_n (by omega), sI_n (by omega), sI_s, if_pos rfl]
            by_cases q1 : k = 4 * sn (aS A) + 1
            · subst q1; rw [sI_n (by omega), sI_n (by omega), sI_n (by omega), show 103 + (4 * sn (aS A) + 1) = 103 + 4 * sn (aS A) + 1 by omega, sI_s, if_neg (by omega), if_pos rfl]
            by_cases q2 : k = 4 * sn (aS A) + 2
            · subst q2; rw [sI_n (by omega), sI_n (by omega), show 103 + (4 * sn (aS A) + 2) = 103 + 4 * sn (aS A) + 2 by omega, sI_s, if_neg (by omega), if_neg (by omega), if_pos rfl]
            by_cases q3 : k = 4 * sn (aS A) + 3
            · subst q3; rw [sI_n (by omega), show 103 + (4 * sn (aS A) + 3) = 103 + 4 * sn (aS A) + 3 by omega, sI_s, if_neg (by omega), if_neg (by omega), if_neg (by omega), if_pos rfl]
            rw [sI_n (by omega), sI_n (by omega), sI_n (by omega), sI_n (by omega), sI_n (by omega), if_neg q0, if_neg q1, if_neg q2, if_neg q3]
            exact s4 k (by omega)
end OPS7
