/-- any of f from k on, n of them -/
def anyR (f : Nat → Bool) : Nat → Nat → Bool
  | _, 0 => false
  | k, n + 1 => f k || anyR f (k + 1) n
theorem anyR_iff (f : Nat → Bool) : ∀ (n k : Nat), anyR f k n = true ↔ ∃ j, k ≤ j ∧ j < k + n ∧ f j = true := by
  intro n
  induction n with
  | zero => intro k; simp [anyR]; intro j h1 h2; omega
  | succ n ih =>
    intro k
    rw [anyR, Bool.or_eq_true, ih]
    constructor
    · rintro (h | ⟨j, h1, h2, h3⟩)
      · exact ⟨k, by omega, by omega, h⟩
      · exact ⟨j, by omega, by omega, h3⟩
    · rintro ⟨j, h1, h2, h3⟩
      by_cases hj : j = k
      · subst hj; exact Or.inl h3
      · exact Or.inr ⟨j, by omega, by omega, h3⟩
/-- a sum of f from k on, n of them -/
def sumR (f : Nat → Nat) : Nat → Nat → Nat
  | _, 0 => 0
  | k, n + 1 => f k + sumR f (k + 1) n
/-- the reference's scene, as numbers -/
def RfS (u : SG) (m : Nat) (G : Nat → Nat) : Prop := (∀ k, k < 103 → zI u (m + 10) k = nI (G k)) ∧ G 0 ≤ 10 ∧ G 1 ≤ 5 ∧ G 2 ≤ 8 ∧ G 3 ≤ 5 ∧ G 4 ≤ 8 ∧ ∀ k, k < 103 → G k < 2 ^ 30
def wkb (G : Nat → Nat) (p h j : Nat) : Bool := G (45 + 3 * j) == p && (decide (G (46 + 3 * j) ≤ h) && decide (h ≤ G (47 + 3 * j)))
def ltb (G : Nat → Nat) (p h j : Nat) : Bool := G (79 + 3 * j) == p && (decide (G (80 + 3 * j) ≤ h) && decide (h ≤ G (81 + 3 * j)))
section LEAF
variable {N m : Nat} {u : SG} {G : Nat → Nat}
theorem s_worksIn_l (h : RfL u m) (hG : RfS u m G) {p t : Nat} (hp : p < 2 ^ 30) (ht : t < 2 ^ 30) : ∀ n k, k ≤ G 2 → G 2 - k < n → gX11_worksIn_2 N n m (nI p) (nI t) (nI k) u = some (b2 (anyR (wkb G p t) k (G 2 - k)), u) := by
  obtain ⟨hS, b0, b1, b2', b3, b4, bb⟩ := hG
  intro n
  induction n with
  | zero => intro k h1 h2; omega
  | succ n ih =>
    intro k h1 h2
    have c2 : G 2 < 2 ^ 31 := by omega
    have c3 : k < 2 ^ 31 := by omega
    have c4 : 0 < 2 ^ 31 := by decide
    have c5 : (2 : Nat) < 103 := by decide
    rw [gX11_worksIn_2]
    by_cases hk : G 2 ≤ k
    · simp (disch := assumption) only [lit_2, lit_1, lit_0, h.K, h.R20, h.K10, h.N10, nI_leI, hS, if_true, Option.bind_some, bs_eq, hk, Nat.reduceLeDiff, if_false]
      rw [show G 2 - k = 0 by omega]
      rfl
    · have d1 : G (45 + 3 * k) < 2 ^ 31 := by have := bb (45 + 3 * k) (by omega); omega
      have d2 : G (45 + 3 * k + 1) < 2 ^ 31 := by have := bb (45 + 3 * k + 1) (by omega); omega
      have d3 : G (45 + 3 * k + 2) < 2 ^ 31 := by have := bb (45 + 3 * k + 2) (by omega); omega
      have f1 : 45 + 3 * k < 103 := by omega
      have f2 : 45 + 3 * k + 1 < 103 := by omega
      have f3 : 45 + 3 * k + 2 < 103 := by omega
      have f4 : 45 + 3 * k < 2 ^ 31 := by omega
      have f5 : 45 + 3 * k + 1 < 2 ^ 31 := by omega
      have f6 : 45 + 3 * k + 2 < 2 ^ 31 := by omega
      have f7 : p < 2 ^ 31 := by omega
      have f8 : t < 2 ^ 31 := by omega
      have e1 : ¬ 144 ≤ 45 + 3 * k := by omega
      have e2 : ¬ 144 ≤ 45 + 3 * k + 1 := by omega
      have e3 : ¬ 144 ≤ 45 + 3 * k + 2 := by omega
      have i1 := ih (k + 1) (by omega) (by omega)
      rw [show G 2 - k = (G 2 - (k + 1)) + 1 by omega, anyR]
      simp (disch := assumption) only [lit_45, lit_3, lit_2, lit_1, lit_0, h.K, h.R20, h.K10, h.N10, pk_mul, nI_add, nI_clamp, nI_ltI, nI_leI, nI_eq, hS, if_true, Option.bind_some, bs_eq, hk, if_false, e1, e2, e3, Nat.not_lt_zero, or_false, false_or, i1, Nat.reduceLeDiff]
      rw [show 45 + 3 * k + 1 = 46 + 3 * k by omega, show 45 + 3 * k + 2 = 47 + 3 * k by omega]
      cases hw : wkb G p t k with
      | true =>
        have hw : G (45 + 3 * k) = p ∧ G (46 + 3 * k) ≤ t ∧ t ≤ G (47 + 3 * k) := by simpa [wkb] using hw
        rw [if_pos hw.1, if_neg (by omega), if_neg (by omega)]
        rfl
      | false =>
        rw [Bool.false_or]
        have hw : ¬ (G (45 + 3 * k) = p ∧ G (46 + 3 * k) ≤ t ∧ t ≤ G (47 + 3 * k)) := by simpa [wkb] using hw
        by_cases q1 : G (45 + 3 * k) = p
        · rw [if_pos q1]
          by_cases q2 : t < G (46 + 3 * k)
          · rw [if_pos q2]
          · rw [if_neg q2, if_pos (by omega)]
        · rw [if_neg q1]
theorem s_worksIn (h : RfL u m) (hG : RfS u m G) {p t : Nat} (hp : p < 2 ^ 30) (ht : t < 2 ^ 30) (hN : 9 ≤ N) : fX11_worksIn N m (nI p) (nI t) u = some (b2 (anyR (wkb G p t) 0 (G 2)), u) := by
  have b := hG.2.2.2.1
  exact s_worksIn_l h hG hp ht N 0 (by omega) (by omega)
end LEAF
