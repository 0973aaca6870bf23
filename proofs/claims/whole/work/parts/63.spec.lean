/-! WHAT IS MEANT: a street G (as numbers, by the reference's places), a moment M -/
abbrev MT : Type := Nat × Nat × Nat × (Nat → Bool) × (Nat → Nat) × (Nat → Nat) × (Nat → Nat) × (Nat → Nat)
def mH (M : MT) : Nat := M.1
def mN (M : MT) : Nat := M.2.1
def mT (M : MT) : Nat := M.2.2.1
def mA (M : MT) : Nat → Bool := M.2.2.2.1
def mS (M : MT) : Nat → Nat := M.2.2.2.2.1
def mD (M : MT) : Nat → Nat := M.2.2.2.2.2.1
def mO (M : MT) : Nat → Nat := M.2.2.2.2.2.2.1
def mL (M : MT) : Nat → Nat := M.2.2.2.2.2.2.2
def spn (G : Nat → Nat) (b p h j : Nat) : Bool := G (b + 3 * j) == p && (decide (G (b + 3 * j + 1) ≤ h) && decide (h ≤ G (b + 3 * j + 2)))
def wk (G : Nat → Nat) (p h : Nat) : Bool := anyB (spn G 45 p h) (G 2)
def li (G : Nat → Nat) (l h : Nat) : Bool := anyB (spn G 79 l h) (G 4)
def bu (G : Nat → Nat) (M : MT) (l h : Nat) : Bool := mL M l == 1 || (mL M l == 0 && li G l h)
def coI (G : Nat → Nat) (M : MT) (h : Nat) : Nat := sumB (fun l => if bu G M l h then G (70 + 2 * l) else 0) (G 3)
def slS (G : Nat → Nat) (M : MT) : Nat := bset (mA M) (G 1)
def buS (G : Nat → Nat) (M : MT) (h : Nat) : Nat := bset (fun l => bu G M l h) (G 3)
def idS (G : Nat → Nat) (M : MT) : Nat := bset (fun p => !wk G p (mH M)) (G 1)
/-- the reference's cells 0 to 44 -/
def RA (f : Nat → Int32) (G : Nat → Nat) (M : MT) : Prop := (∀ k, k < 5 → f k = nI (G k)) ∧ f 5 = nI (mH M) ∧ f 6 = nI (mN M) ∧ f 7 = nI (mT M) ∧ (∀ p, p < G 1 → f (10 + 6 * p) = nI (G (10 + 6 * p)) ∧ f (10 + 6 * p + 1) = nI (G (10 + 6 * p + 1)) ∧ f (10 + 6 * p + 2) = nI (b2n (mA M p)) ∧ f (10 + 6 * p + 3) = nI (mS M p) ∧ f (10 + 6 * p + 4) = nI (mD M p) ∧ f (10 + 6 * p + 5) = nI (mO M p)) ∧ ∀ l, l < 5 → f (40 + l) = nI (mL M l)
/-- the reference's cells 45 to 102 -/
def RB (f : Nat → Int32) (G : Nat → Nat) : Prop := ∀ k, 45 ≤ k → k < 103 → f k = nI (G k)
def Gb (G : Nat → Nat) : Prop := G 0 ≤ 10 ∧ G 1 ≤ 5 ∧ G 2 ≤ 8 ∧ G 3 ≤ 5 ∧ G 4 ≤ 8 ∧ (G 0 = 0 → G 1 = 0 ∧ G 3 = 0) ∧ (∀ p, p < G 1 → G (10 + 6 * p) ≤ 10 ∧ G (10 + 6 * p + 1) ≤ 60) ∧ (∀ k, k < G 2 → G (45 + 3 * k) < G 1 ∧ G (45 + 3 * k + 1) ≤ G (45 + 3 * k + 2) ∧ G (45 + 3 * k + 2) < 10) ∧ (∀ l, l < G 3 → G (69 + 2 * l) ≤ 9 ∧ G (70 + 2 * l) ≤ 60) ∧ (∀ k, k < G 4 → G (79 + 3 * k) < G 3 ∧ G (79 + 3 * k + 1) ≤ G (79 + 3 * k + 2) ∧ G (79 + 3 * k + 2) < 10)
def Mb (c : Nat) (G : Nat → Nat) (M : MT) : Prop := (mH M < G 0 ∨ (G 0 = 0 ∧ mH M = 0)) ∧ mN M ≤ c ∧ mT M ≤ 18000 * c ∧ (∀ p, p < G 1 → mS M p ≤ mH M ∧ mD M p ≤ 999 ∧ mO M p ≤ 18000 * c) ∧ ∀ l, l < 5 → mL M l ≤ 2
theorem Mb.h9 {c : Nat} {G : Nat → Nat} {M : MT} (g : Gb G) (h : Mb c G M) : mH M ≤ 9 := by
  have := g.1
  rcases h.1 with h | h <;> omega
theorem ifle {β : Type} {a b : Nat} {x y : β} (ha : a < 2 ^ 31) (hb : b < 2 ^ 31) : (if nI a ≤ nI b then x else y) = (if a ≤ b then x else y) := by simp only [nI_leI ha hb]
theorem iflt {β : Type} {a b : Nat} {x y : β} (ha : a < 2 ^ 31) (hb : b < 2 ^ 31) : (if nI a < nI b then x else y) = (if a < b then x else y) := by simp only [nI_ltI ha hb]
theorem ifeq {β : Type} {a b : Nat} {x y : β} (ha : a < 2 ^ 31) (hb : b < 2 ^ 31) : (if nI a = nI b then x else y) = (if a = b then x else y) := by simp only [nI_eq ha hb]
section RLEAF
variable {N m : Nat} {u : SG} {G : Nat → Nat} {M : MT}
theorem r_isStreet (h : RA (zI u (m + 10)) G M) (g : Gb G) : hX11_isStreet N m u = some (nI (b2n (decide (0 < G 0))), u) := by
  have g0 := g.1
  unfold hX11_isStreet
  rw [h.1 0 (by omega), lit_0, ifle (by omega) (by omega)]
  by_cases h0 : G 0 ≤ 0
  · rw [if_pos h0, decide_eq_false (by omega)]; rfl
  · rw [if_neg h0, decide_eq_true (by omega)]; rfl
theorem r_isPerson (h : RA (zI u (m + 10)) G M) (g : Gb G) (x : Int32) : (x < 0 ∨ nI (G 1) ≤ x) ∧ hX11_isPerson N m x u = some (0, u) ∨ ∃ p, p < G 1 ∧ x = nI p ∧ hX11_isPerson N m x u = some (1, u) := by
  have g1 := g.2.1
  unfold hX11_isPerson
  rw [h.1 1 (by omega)]
  rcases pk_ix x (n := G 1) (by omega) with hx | hx | ⟨p, hp, rfl⟩
  · exact Or.inl ⟨Or.inl hx, by rw [if_pos hx]⟩
  · refine Or.inl ⟨Or.inr hx, ?_⟩
    split
    · rfl
    · rfl
  · exact Or.inr ⟨p, hp, rfl, by rw [if_neg (nI_pos (by omega)), if_neg (nI_ge hp (by omega))]⟩
theorem r_isLamp (h : RA (zI u (m + 10)) G M) (g : Gb G) (x : Int32) : (x < 0 ∨ nI (G 3) ≤ x) ∧ hX11_isLamp N m x u = some (0, u) ∨ ∃ p, p < G 3 ∧ x = nI p ∧ hX11_isLamp N m x u = some (1, u) := by
  have g1 := g.2.2.2.1
  unfold hX11_isLamp
  rw [h.1 3 (by omega)]
  rcases pk_ix x (n := G 3) (by omega) with hx | hx | ⟨p, hp, rfl⟩
  · exact Or.inl ⟨Or.inl hx, by rw [if_pos hx]⟩
  · refine Or.inl ⟨Or.inr hx, ?_⟩
    split
    · rfl
    · rfl
  · exact Or.inr ⟨p, hp, rfl, by rw [if_neg (nI_pos (by omega)), if_neg (nI_ge hp (by omega))]⟩
theorem r_personOf {p w : Nat} (hp : p < 5) (hw : w < 6) : hX11_personOf N m (nI p) (nI w) u = some (zI u (m + 10) (10 + 6 * p + w), u) := by
  unfold hX11_personOf
  simp only [lit_10, lit_6, pk_mul, nI_add]
  rw [ixI (by omega) (by decide), nI_clamp (by omega)]
theorem r_span {b : Nat} (B : Nat) (hb : b = 45 ∨ b = 79) (hr : RB (zI u (m + 10)) G) (hB : B ≤ 8) {p t : Nat} (hp : p < 2 ^ 30) (ht : t < 2 ^ 30) (hG : ∀ k, k < B → G (b + 3 * k) < 2 ^ 30 ∧ G (b + 3 * k + 1) < 2 ^ 30 ∧ G (b + 3 * k + 2) < 2 ^ 30) (g : Nat → Nat → Option (Int32 × SG)) (hx : ∀ n, g (n + 1) B = some (0, u)) (hs : ∀ n k, k < B → g (n + 1) k = (if nI (G (b + 3 * k)) = nI p then (if nI t < nI (G (b + 3 * k + 1)) then g n (k + 1) else if nI (G (b + 3 * k + 2)) < nI t then g n (k + 1) else some (1, u)) else g n (k + 1))) (n : Nat) (hn : B < n) : g n 0 = some (nI (b2n (anyB (spn G b p t) B)), u) := by
  refine lpq (fun n k (_ : Unit) => g n k) B (fun k _ => ∀ j, j < k → spn G b p t j = false) (fun r => r = some (nI (b2n (anyB (spn G b p t) B)), u)) ?_ ?_ n 0 () (by omega) (by omega) (fun j hj => by omega)
  · intro n _ hI
    rw [hx, anyB_false.mpr hI]
    rfl
  · intro n k _ hk hI
    obtain ⟨q1, q2, q3⟩ := hG k hk
    rw [hs n k hk, ifeq (by omega) (by omega), iflt (by omega) (by omega), iflt (by omega) (by omega)]
    cases e : spn G b p t k with
    | true =>
      have e2 : G (b + 3 * k) = p ∧ G (b + 3 * k + 1) ≤ t ∧ t ≤ G (b + 3 * k + 2) := by simpa [spn] using e
      left
      rw [if_pos e2.1, if_neg (by omega), if_neg (by omega), anyB_iff.mpr ⟨k, hk, e⟩]
      rfl
    | false =>
      have e2 : ¬ (G (b + 3 * k) = p ∧ G (b + 3 * k + 1) ≤ t ∧ t ≤ G (b + 3 * k + 2)) := by simpa [spn] using e
      right
      refine ⟨(), fun j hj => ?_, ?_⟩
      · by_cases hjk : j = k
        · subst hjk; exact e
        · exact hI j (by omega)
      · by_cases q1 : G (b + 3 * k) = p
        · rw [if_pos q1]
          by_cases q2 : t < G (b + 3 * k + 1)
          · rw [if_pos q2]
          · rw [if_neg q2, if_pos (by omega)]
        · rw [if_neg q1]
theorem r_worksIn (h : RA (zI u (m + 10)) G M) (hr : RB (zI u (m + 10)) G) (g : Gb G) {p t : Nat} (hp : p < 2 ^ 30) (ht : t < 2 ^ 30) (hN : 2000 ≤ N) : hX11_worksIn N m (nI p) (nI t) u = some (nI (b2n (wk G p t)), u) := by
  have g2 := g.2.2.1
  have g1 := g.2.1
  refine r_span (G 2) (Or.inl rfl) hr g2 hp ht ?_ (fun n k => hgX11_worksIn_2 N n m (nI p) (nI t) (nI k) u) ?_ ?_ N (by omega)
  · intro k hk
    have := g.2.2.2.2.2.2.2.1 k hk
    omega
  · intro n
    rw [hgX11_worksIn_2, h.1 2 (by omega), if_pos (nI_le (by omega) (by omega))]
  · intro n k hk
    rw [hgX11_worksIn_2, h.1 2 (by omega), if_neg (nI_ge hk (by omega)), bs_eq]
    simp only [lit_45, lit_3, lit_1, lit_2, pk_mul, nI_add]
    rw [ixI (by omega) (by decide), ixI (by omega) (by decide), ixI (by omega) (by decide), nI_clamp (by omega), nI_clamp (by omega), nI_clamp (by omega), hr _ (by omega) (by omega), hr _ (by omega) (by omega), hr _ (by omega) (by omega)]
theorem r_isLitIn (h : RA (zI u (m + 10)) G M) (hr : RB (zI u (m + 10)) G) (g : Gb G) {p t : Nat} (hp : p < 2 ^ 30) (ht : t < 2 ^ 30) (hN : 2000 ≤ N) : hX11_isLitIn N m (nI p) (nI t) u = some (nI (b2n (li G p t)), u) := by
  have g2 := g.2.2.2.2.1
  have g1 := g.2.2.2.1
  refine r_span (G 4) (Or.inr rfl) hr g2 hp ht ?_ (fun n k => hgX11_isLitIn_2 N n m (nI p) (nI t) (nI k) u) ?_ ?_ N (by omega)
  · intro k hk
    have := g.2.2.2.2.2.2.2.2.2 k hk
    omega
  · intro n
    rw [hgX11_isLitIn_2, h.1 4 (by omega), if_pos (nI_le (by omega) (by omega))]
  · intro n k hk
    rw [hgX11_isLitIn_2, h.1 4 (by omega), if_neg (nI_ge hk (by omega)), bs_eq]
    simp only [lit_79, lit_3, lit_1, lit_2, pk_mul, nI_add]
    rw [ixI (by omega) (by decide), ixI (by omega) (by decide), ixI (by omega) (by decide), nI_clamp (by omega), nI_clamp (by omega), nI_clamp (by omega), hr _ (by omega) (by omega), hr _ (by omega) (by omega), hr _ (by omega) (by omega)]
theorem r_burnsIn (h : RA (zI u (m + 10)) G M) (hr : RB (zI u (m + 10)) G) (g : Gb G) (hm : ∀ l, l < 5 → mL M l ≤ 2) {l t : Nat} (hl : l < 5) (ht : t < 2 ^ 30) (hN : 2000 ≤ N) : hX11_burnsIn N m (nI l) (nI t) u = some (nI (b2n (bu G M l t)), u) := by
  have hh := hm l hl
  unfold hX11_burnsIn
  simp only [lit_40, nI_add]
  rw [ixI (by omega) (by decide), nI_clamp (by omega), h.2.2.2.2.2 l hl, bs_eq, lit_1, ifeq (by omega) (by omega)]
  unfold bu
  by_cases e1 : mL M l = 1
  · rw [if_pos e1, e1]
    rfl
  · rw [if_neg e1, lit_0, ifeq (by omega) (by omega)]
    by_cases e0 : mL M l = 0
    · rw [if_pos e0, r_isLitIn h hr g (by omega) ht hN, cl_some, e0]
      cases li G l t <;> rfl
    · rw [if_neg e0, show (mL M l == 1) = false from by simpa using e1, show (mL M l == 0) = false from by simpa using e0]
      rfl
theorem r_costOf (hr : RB (zI u (m + 10)) G) {l : Nat} (hl : l < 5) : hX11_costOf N m (nI l) u = some (nI (G (70 + 2 * l)), u) := by
  unfold hX11_costOf
  simp only [lit_69, lit_2, lit_1, pk_mul, nI_add]
  rw [ixI (by omega) (by decide), nI_clamp (by omega), hr _ (by omega) (by omega)]
  rw [show 69 + 2 * l + 1 = 70 + 2 * l by omega]
theorem r_costIn (h : RA (zI u (m + 10)) G M) (hr : RB (zI u (m + 10)) G) (g : Gb G) (hm : ∀ l, l < 5 → mL M l ≤ 2) {t : Nat} (ht : t < 2 ^ 30) (hN : 2000 ≤ N) : hX11_costIn N m (nI t) u = some (nI (coI G M t), u) := by
  have g3 := g.2.2.2.1
  refine lps (fun n k s => hgX11_costIn_4 N n m (nI t) (nI s) (nI k) u) (G 3) (fun k s => s = sumB (fun l => if bu G M l t then G (70 + 2 * l) else 0) k) (fun r => r = some (nI (coI G M t), u)) ?_ ?_ N 0 0 (by omega) (by omega) rfl
  · intro n s hI
    rw [hgX11_costIn_4, h.1 3 (by omega), if_pos (nI_le (by omega) (by omega)), hI]
    rfl
  · intro n k s hk hI
    rw [hgX11_costIn_4, h.1 3 (by omega), if_neg (nI_ge hk (by omega)), r_burnsIn h hr g hm (by omega) ht hN, cl_some]
    refine ⟨_, rfl, ?_⟩
    rw [sumB, hI]
    cases bu G M k t with
    | false =>
      rw [if_pos (by decide), bs_eq, lit_0, nI_add, lit_1, nI_add]
      rfl
    | true =>
      rw [if_neg (by decide), r_costOf hr (by omega), cl_some, bs_eq, nI_add, lit_1, nI_add]
      rfl
theorem r_set (B : Nat) (hB : B ≤ 10) (f : Nat → Bool) (g : Nat → Nat → Nat → Option (Int32 × SG)) (hx : ∀ n s, g (n + 1) B s = some (nI s, u)) (hs : ∀ n k s, k < B → g (n + 1) k s = g n (k + 1) (s ||| if f k then 2 ^ k else 0)) (n : Nat) (hn : B < n) : g n 0 0 = some (nI (bset f B), u) := by
  refine lps (fun n k s => g n k s) B (fun k s => s = bset f k) (fun r => r = some (nI (bset f B), u)) ?_ ?_ n 0 0 (by omega) (by omega) rfl
  · intro n s hI
    rw [hx, hI]
  · intro n k s hk hI
    exact ⟨_, by rw [hI]; exact (bset_or f k).symm, hs n k s hk⟩
theorem r_sleepers (h : RA (zI u (m + 10)) G M) (g : Gb G) (hN : 2000 ≤ N) : hX11_sleepers N m u = some (nI (slS G M), u) := by
  have g1 := g.2.1
  refine r_set (G 1) (by omega) (mA M) (fun n k s => hgX11_sleepers_4 N n m (nI s) (nI k) u) ?_ ?_ N (by omega)
  · intro n s
    rw [hgX11_sleepers_4, h.1 1 (by omega), if_pos (nI_le (by omega) (by omega))]
  · intro n k s hk
    rw [hgX11_sleepers_4, h.1 1 (by omega), if_neg (nI_ge hk (by omega)), lit_2, r_personOf (by omega) (by omega), cl_some, (h.2.2.2.2.1 k hk).2.2.1]
    cases mA M k with
    | false =>
      rw [if_neg (by decide), bs_eq, lit_0, nI_or, lit_1, nI_add]
      rfl
    | true =>
      rw [if_pos (by decide), bs_eq, nI_shl k (by omega), nI_or, lit_1, nI_add]
      rfl
theorem r_burning (h : RA (zI u (m + 10)) G M) (hr : RB (zI u (m + 10)) G) (g : Gb G) (hm : ∀ l, l < 5 → mL M l ≤ 2) (ht : mH M < 2 ^ 30) (hN : 2000 ≤ N) : hX11_burning N m u = some (nI (buS G M (mH M)), u) := by
  have g1 := g.2.2.2.1
  refine r_set (G 3) (by omega) (fun l => bu G M l (mH M)) (fun n k s => hgX11_burning_4 N n m (nI s) (nI k) u) ?_ ?_ N (by omega)
  · intro n s
    rw [hgX11_burning_4, h.1 3 (by omega), if_pos (nI_le (by omega) (by omega))]
  · intro n k s hk
    rw [hgX11_burning_4, h.1 3 (by omega), if_neg (nI_ge hk (by omega)), h.2.1, r_burnsIn h hr g hm (by omega) ht hN, cl_some]
    cases bu G M k (mH M) with
    | false =>
      rw [if_pos (by decide), bs_eq, lit_0, nI_or, lit_1, nI_add]
      rfl
    | true =>
      rw [if_neg (by decide), bs_eq, nI_shl k (by omega), nI_or, lit_1, nI_add]
      rfl
theorem r_idle (h : RA (zI u (m + 10)) G M) (hr : RB (zI u (m + 10)) G) (g : Gb G) (ht : mH M < 2 ^ 30) (hN : 2000 ≤ N) : hX11_idle N m u = some (nI (idS G M), u) := by
  have g1 := g.2.1
  refine r_set (G 1) (by omega) (fun p => !wk G p (mH M)) (fun n k s => hgX11_idle_4 N n m (nI s) (nI k) u) ?_ ?_ N (by omega)
  · intro n s
    rw [hgX11_idle_4, h.1 1 (by omega), if_pos (nI_le (by omega) (by omega))]
  · intro n k s hk
    rw [hgX11_idle_4, h.1 1 (by omega), if_neg (nI_ge hk (by omega)), h.2.1, r_worksIn h hr g (by omega) ht hN, cl_some]
    cases wk G k (mH M) with
    | true =>
      rw [if_neg (by decide), bs_eq, lit_0, nI_or, lit_1, nI_add]
      rfl
    | false =>
      rw [if_pos (by decide), bs_eq, nI_shl k (by omega), nI_or, lit_1, nI_add]
      rfl
end RLEAF
