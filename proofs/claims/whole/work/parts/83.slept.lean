/-! OPERATIONS, 8: slept, ask -/
def cN (x : Int32) : Nat := x.toNatClampNeg
def fct (F : Nat → Int32) (j s : Nat) : Bool := if cN (F (4 * j)) = 0 then s.testBit (cN (F (4 * j + 1))) else if cN (F (4 * j)) = 1 then !s.testBit (cN (F (4 * j + 1))) else if cN (F (4 * j)) = 2 then decide (cN (F (4 * j + 1)) ≤ pc s) else if cN (F (4 * j)) = 3 then decide (pc s ≤ cN (F (4 * j + 1))) else if cN (F (4 * j)) = 4 then s.testBit (cN (F (4 * j + 1))) && decide (cN (F (4 * j + 3)) ≤ cN (F (4 * j + 2)) * pc s) else s.testBit (cN (F (4 * j + 1))) && decide (cN (F (4 * j + 2)) * pc s < cN (F (4 * j + 3)))
def fit (S : SCT) (s : Nat) : Bool := !anyB (fun j => !fct (sF S) j s) (sn S)
section FIT
variable {N x m c : Nat} {u : SG} {A : AT}
theorem c_allows (iC : InvC u x A) (hA : Aok c A) {j s : Nat} (hj : j < sn (aS A)) (hs : s < 32) : hX1_allows N (x + 29) (nI j) (nI s) u = some (nI (b2n (fct (sF (aS A)) j s)), u) := by
  obtain ⟨g, hb, hn, hF, -⟩ := hA.2.2.2.2.1
  obtain ⟨w, o, k1, k2, k3, k4, k5⟩ := hF j hj
  obtain ⟨l1, l2, l3, l4⟩ := iC.sn.2.2.2.1 j hj
  have l1 : zI u (x + 29 + 1) j = nI w := l1.trans k3
  have l2 : zI u (x + 29 + 2) j = nI o := l2.trans k4
  have pcl := pc_le s
  have e24 : ∀ z : Bool, hgX1_allows_24 N (x + 29) (nI j) (nI (pc s)) (nI (b2n z)) u = some (nI (b2n (if w = 0 then z else if w = 1 then !z else if w = 2 then decide (o ≤ pc s) else if w = 3 then decide (pc s ≤ o) else if w = 4 then z && decide (cN (sF (aS A) (4 * j + 3)) ≤ cN (sF (aS A) (4 * j + 2)) * pc s) else z && decide (cN (sF (aS A) (4 * j + 2)) * pc s < cN (sF (aS A) (4 * j + 3))))), u) := by
    intro z
    unfold hgX1_allows_24
    rw [ixI (by omega) (by decide), nI_clamp (by omega), bs_eq, l1, ixJ (by omega) (by decide), ixJ (by omega) (by decide), ixJ (by omega) (by decide), ixJ (by omega) (by decide), ixJ (by omega) (by decide), ixJ (by omega) (by decide), l2]
    rcases (by omega : w = 0 ∨ w = 1 ∨ w = 2 ∨ w = 3 ∨ w = 4 ∨ w = 5) with rfl | rfl | rfl | rfl | rfl | rfl
    · rw [if_pos (by decide), if_pos (b2n_01 z)]; rfl
    · rw [if_neg (by decide), if_pos (by decide)]; cases z <;> rfl
    · rw [if_neg (by decide), if_neg (by decide), if_pos (by decide), iflt (by omega) (by omega)]
      by_cases q : pc s < o
      · rw [if_pos q, if_neg (by decide), if_neg (by decide), if_pos rfl, decide_eq_false (by omega)]; rfl
      · rw [if_neg q, if_neg (by decide), if_neg (by decide), if_pos rfl, decide_eq_true (by omega)]; rfl
    · rw [if_neg (by decide), if_neg (by decide), if_neg (by decide), if_pos (by decide), iflt (by omega) (by omega)]
      by_cases q : o < pc s
      · rw [if_pos q, if_neg (by decide), if_neg (by decide), if_neg (by decide), if_pos rfl, decide_eq_false (by omega)]; rfl
      · rw [if_neg q, if_neg (by decide), if_neg (by decide), if_neg (by decide), if_pos rfl, decide_eq_true (by omega)]; rfl
    · obtain ⟨a, b, a1, a2, a3, a4⟩ := k5 (by decide)
      have m1 := Nat.mul_le_mul a1 pcl
      have l3 : zI u (x + 29 + 3) j = nI a := l3.trans a3
      have l4 : zI u (x + 29 + 4) j = nI b := l4.trans a4
      rw [a3, a4]
      unfold cN
      rw [if_neg (by decide), if_neg (by decide), if_neg (by decide), if_neg (by decide), if_pos (by decide), l3, l4, pk_mul, iflt (by omega) (by omega), nI_clamp (by omega), nI_clamp (by omega)]
      cases z
      · rfl
      · by_cases q : a * pc s < b
        · rw [if_neg (by decide), if_pos q, if_neg (by decide), if_neg (by decide), if_neg (by decide), if_neg (by decide), if_pos rfl, decide_eq_false (by omega)]; rfl
        · rw [if_neg (by decide), if_neg q, if_neg (by decide), if_neg (by decide), if_neg (by decide), if_neg (by decide), if_pos rfl, decide_eq_true (by omega)]; rfl
    · obtain ⟨a, b, a1, a2, a3, a4⟩ := k5 (by decide)
      have m1 := Nat.mul_le_mul a1 pcl
      have l3 : zI u (x + 29 + 3) j = nI a := l3.trans a3
      have l4 : zI u (x + 29 + 4) j = nI b := l4.trans a4
      rw [a3, a4]
      unfold cN
      rw [if_neg (by decide), if_neg (by decide), if_neg (by decide), if_neg (by decide), if_neg (by decide), l3, l4, pk_mul, ifle (by omega) (by omega), nI_clamp (by omega), nI_clamp (by omega)]
      cases z
      · rfl
      · by_cases q : b ≤ a * pc s
        · rw [if_neg (by decide), if_pos q, if_neg (by decide), if_neg (by decide), if_neg (by decide), if_neg (by decide), if_neg (by decide), decide_eq_false (by omega)]; rfl
        · rw [if_neg (by decide), if_neg q, if_neg (by decide), if_neg (by decide), if_neg (by decide), if_neg (by decide), if_neg (by decide), decide_eq_true (by omega)]; rfl
  unfold hX1_allows
  rw [x_bitCount (by omega), cl_some, ixI (by omega) (by decide), nI_clamp (by omega), l2, x_bitOf (by omega) (by omega), cl_some]
  have ef : fct (sF (aS A)) j s = (if w = 0 then s.testBit o else if w = 1 then !s.testBit o else if w = 2 then decide (o ≤ pc s) else if w = 3 then decide (pc s ≤ o) else if w = 4 then s.testBit o && decide (cN (sF (aS A) (4 * j + 3)) ≤ cN (sF (aS A) (4 * j + 2)) * pc s) else s.testBit o && decide (cN (sF (aS A) (4 * j + 2)) * pc s < cN (sF (aS A) (4 * j + 3)))) := by
    unfold fct
    rw [k3, k4, show cN (nI w) = w from nI_clamp (by omega), show cN (nI o) = o from nI_clamp (by omega)]
  rw [ef]
  cases e : s.testBit o
  · rw [if_neg (by decide)]; exact e24 false
  · rw [if_pos (by decide)]; exact e24 true
theorem r_isFactSo (iR : InvR u m A) (hA : Aok c A) {j s : Nat} (hj : j < sn (aS A)) (hs : s < 32) (hN : 2000 ≤ N) : hX11_isFactSo N m (nI (103 + 4 * j)) (nI s) u = some (nI (b2n (fct (sF (aS A)) j s)), u) := by
  obtain ⟨g, hb, hn, hF, -⟩ := hA.2.2.2.2.1
  obtain ⟨w, o, k1, k2, k3, k4, k5⟩ := hF j hj
  have s4 := iR.sn.1.2.2.2
  have l1 : zI u (m + 10) (103 + 4 * j) = nI w := (s4 (4 * j) (by omega)).trans k3
  have l2 : zI u (m + 10) (103 + 4 * j + 1) = nI o := (s4 (4 * j + 1) (by omega)).trans k4
  have pcl := pc_le s
  have ef : fct (sF (aS A)) j s = (if w = 0 then s.testBit o else if w = 1 then !s.testBit o else if w = 2 then decide (o ≤ pc s) else if w = 3 then decide (pc s ≤ o) else if w = 4 then s.testBit o && decide (cN (sF (aS A) (4 * j + 3)) ≤ cN (sF (aS A) (4 * j + 2)) * pc s) else s.testBit o && decide (cN (sF (aS A) (4 * j + 2)) * pc s < cN (sF (aS A) (4 * j + 3)))) := by
    unfold fct
    rw [k3, k4, show cN (nI w) = w from nI_clamp (by omega), show cN (nI o) = o from nI_clamp (by omega)]
  rw [ef]
  unfold hX11_isFactSo
  rw [x_bits (by omega) (by omega), cl_some]
  simp only [lit_1, lit_2, lit_3, nI_add]
  rw [ixI (by omega) (by decide), nI_clamp (by omega), bs_eq, l2, ixI (by omega) (by decide), nI_clamp (by omega), bs_eq, l1, x_isOf (by omega) (by omega), cl_some, cl_some, cl_some, cl_some]
  rcases (by omega : w = 0 ∨ w = 1 ∨ w = 2 ∨ w = 3 ∨ w = 4 ∨ w = 5) with rfl | rfl | rfl | rfl | rfl | rfl
  · rw [if_pos (by decide)]; cases s.testBit o <;> rfl
  · rw [if_neg (by decide), if_pos (by decide)]; cases s.testBit o <;> rfl
  · rw [if_neg (by decide), if_neg (by decide), if_pos (by decide), iflt (by omega) (by omega)]
    by_cases q : pc s < o
    · rw [if_pos q, if_neg (by decide), if_neg (by decide), if_pos rfl, decide_eq_false (by omega)]; rfl
    · rw [if_neg q, if_neg (by decide), if_neg (by decide), if_pos rfl, decide_eq_true (by omega)]; rfl
  · rw [if_neg (by decide), if_neg (by decide), if_neg (by decide), if_pos (by decide), iflt (by omega) (by omega)]
    by_cases q : o < pc s
    · rw [if_pos q, if_neg (by decide), if_neg (by decide), if_neg (by decide), if_pos rfl, decide_eq_false (by omega)]; rfl
    · rw [if_neg q, if_neg (by decide), if_neg (by decide), if_neg (by decide), if_pos rfl, decide_eq_true (by omega)]; rfl
  · obtain ⟨a, b, a1, a2, a3, a4⟩ := k5 (by decide)
    have m1 := Nat.mul_le_mul a1 pcl
    have l3 : zI u (m + 10) (103 + 4 * j + 2) = nI a := (s4 (4 * j + 2) (by omega)).trans a3
    have l4 : zI u (m + 10) (103 + 4 * j + 3) = nI b := (s4 (4 * j + 3) (by omega)).trans a4
    rw [a3, a4]
    unfold cN
    rw [if_neg (by decide), if_neg (by decide), if_neg (by decide), if_neg (by decide), if_pos (by decide), ixI (by omega) (by decide), ixI (by omega) (by decide), nI_clamp (n := 103 + 4 * j + 2) (by omega), nI_clamp (n := 103 + 4 * j + 3) (by omega), l3, l4, pk_mul, iflt (by omega) (by omega), nI_clamp (n := a) (by omega), nI_clamp (n := b) (by omega)]
    cases s.testBit o
    · rfl
    · by_cases q : a * pc s < b
      · rw [if_neg (by decide), if_pos q, if_neg (by decide), if_neg (by decide), if_neg (by decide), if_neg (by decide), if_pos rfl, decide_eq_false (by omega)]; rfl
      · rw [if_neg (by decide), if_neg q, if_neg (by decide), if_neg (by decide), if_neg (by decide), if_neg (by decide), if_pos rfl, decide_eq_true (by omega)]; rfl
  · obtain ⟨a, b, a1, a2, a3, a4⟩ := k5 (by decide)
    have m1 := Nat.mul_le_mul a1 pcl
    have l3 : zI u (m + 10) (103 + 4 * j + 2) = nI a := (s4 (4 * j + 2) (by omega)).trans a3
    have l4 : zI u (m + 10) (103 + 4 * j + 3) = nI b := (s4 (4 * j + 3) (by omega)).trans a4
    rw [a3, a4]
    unfold cN
    rw [if_neg (by decide), if_neg (by decide), if_neg (by decide), if_neg (by decide), if_neg (by decide), ixI (by omega) (by decide), ixI (by omega) (by decide), nI_clamp (n := 103 + 4 * j + 2) (by omega), nI_clamp (n := 103 + 4 * j + 3) (by omega), l3, l4, pk_mul, ifle (by omega) (by omega), nI_clamp (n := a) (by omega), nI_clamp (n := b) (by omega)]
    cases s.testBit o
    · rfl
    · by_cases q : b ≤ a * pc s
      · rw [if_neg (by decide), if_pos q, if_neg (by decide), if_neg (by decide), if_neg (by decide), if_neg (by decide), if_neg (by decide), decide_eq_false (by omega)]; rfl
      · rw [if_neg (by decide), if_neg q, if_neg (by decide), if_neg (by decide), if_neg (by decide), if_neg (by decide), if_neg (by decide), decide_eq_true (by omega)]; rfl
theorem c_allow (iC : InvC u x A) (hA : Aok c A) {s : Nat} (hs : s < 32) (hN : 2000 ≤ N) : hX1_allow N (x + 29) (nI s) u = some (nI (b2n (fit (aS A) s)), u) := by
  have hn := hA.2.2.2.2.1.2.2.1
  have k0 : zI u (x + 29) 4 = nI (sn (aS A)) := iC.sn.2.2.1
  unfold fit
  refine lpq (fun f k (_ : Unit) => hgX1_allow_2 N f (x + 29) (nI s) (nI k) u) (sn (aS A)) (fun k _ => ∀ j, j < k → (!fct (sF (aS A)) j s) = false) (fun r => r = some (nI (b2n (!anyB (fun j => !fct (sF (aS A)) j s) (sn (aS A)))), u)) ?_ ?_ N 0 () (by omega) (by omega) (fun j hj => by omega)
  · intro f _ hI
    rw [hgX1_allow_2, k0, if_pos (nI_le (by omega) (by omega)), anyB_false.mpr hI]
    rfl
  · intro f k _ hk hI
    rw [hgX1_allow_2, k0, if_neg (nI_ge hk (by omega)), lit_10, if_neg (nI_ge (by omega) (by omega)), c_allows iC hA hk hs, cl_some, lit_1, nI_add]
    cases e : fct (sF (aS A)) k s with
    | false =>
      left
      rw [if_pos (by decide), anyB_iff.mpr ⟨k, hk, by simp [e]⟩]
      rfl
    | true =>
      right
      rw [if_neg (by decide)]
      refine ⟨(), fun j hj => ?_, rfl⟩
      by_cases q : j = k
      · subst q; simp [e]
      · exact hI j (by omega)
theorem r_fits (iR : InvR u m A) (hA : Aok c A) {s : Nat} (hs : s < 32) (hN : 2000 ≤ N) : hX11_fitsFacts N m (nI s) u = some (nI (b2n (fit (aS A) s)), u) := by
  have hn := hA.2.2.2.2.1.2.2.1
  have k0 := iR.sn.1.2.2.1
  unfold fit
  refine lpq (fun f k (_ : Unit) => hgX11_fitsFacts_2 N f m (nI s) (nI k) u) (sn (aS A)) (fun k _ => ∀ j, j < k → (!fct (sF (aS A)) j s) = false) (fun r => r = some (nI (b2n (!anyB (fun j => !fct (sF (aS A)) j s) (sn (aS A)))), u)) ?_ ?_ N 0 () (by omega) (by omega) (fun j hj => by omega)
  · intro f _ hI
    rw [hgX11_fitsFacts_2, k0, if_pos (nI_le (by omega) (by omega)), anyB_false.mpr hI]
    rfl
  · intro f k _ hk hI
    rw [hgX11_fitsFacts_2, k0, if_neg (nI_ge hk (by omega)), lit_103, lit_4, pk_mul, nI_add, r_isFactSo iR hA hk hs hN, cl_some, lit_1, nI_add]
    cases e : fct (sF (aS A)) k s with
    | false =>
      left
      rw [if_pos (by decide), anyB_iff.mpr ⟨k, hk, by simp [e]⟩]
      rfl
    | true =>
      right
      rw [if_neg (by decide)]
      refine ⟨(), fun j hj => ?_, rfl⟩
      by_cases q : j = k
      · subst q; simp [e]
      · exact hI j (by omega)
end FIT
