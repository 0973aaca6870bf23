/-! RULE: a rule made; the layout of the heap goes on -/
def HX (u w : SG) : Prop := (∀ b c, zK u b = c → ¬ c = 0 → zK w b = c) ∧ (∀ b, ¬ zK u b = 0 → zN w b = zN u b) ∧ (∀ b c j, zK u b = c → ¬ c = 0 → ¬ c = 26 → zR w b j = zR u b j) ∧ ∀ b i p, zK u b = 26 → zR w b i = some p → zR u b i = some p ∨ zK w p = 5
theorem lkx1 {u w : SG} {a : Nat} (x : HX u w) (ha : zK u a = 1) (h : LK1 u a) : LK1 w a := by
  obtain ⟨h0, h1, h2, h3⟩ := h
  exact ⟨(x.2.2.1 a 1 _ ha (by decide) (by decide)).trans h0, x.1 _ _ h1 (by decide), (x.2.1 _ (by rw [h1]; decide)).trans h2, fun i hi => ⟨(x.2.2.1 _ _ i h1 (by decide) (by decide)).trans (h3 i hi).1, x.1 _ _ (h3 i hi).2 (by decide)⟩⟩
theorem lkx2 {u w : SG} {a : Nat} (x : HX u w) (ha : zK u a = 2) (h : LK2 u a) : LK2 w a := by
  obtain ⟨h0, h1, h2, h3, h4, h5, h6, h7, h8, h9, h10, h11⟩ := h
  exact ⟨(x.2.2.1 a 2 _ ha (by decide) (by decide)).trans h0, x.1 _ _ h1 (by decide), (x.2.1 _ (by rw [h1]; decide)).trans h2, (x.2.2.1 a 2 _ ha (by decide) (by decide)).trans h3, x.1 _ _ h4 (by decide), (x.2.1 _ (by rw [h4]; decide)).trans h5, (x.2.2.1 a 2 _ ha (by decide) (by decide)).trans h6, x.1 _ _ h7 (by decide), (x.2.1 _ (by rw [h7]; decide)).trans h8, (x.2.2.1 a 2 _ ha (by decide) (by decide)).trans h9, x.1 _ _ h10 (by decide), (x.2.1 _ (by rw [h10]; decide)).trans h11⟩
theorem lkx3 {u w : SG} {a : Nat} (x : HX u w) (ha : zK u a = 3) (h : LK3 u a) : LK3 w a := by
  obtain ⟨h0, h1, h2, h3, h4, h5, h6, h7, h8⟩ := h
  exact ⟨(x.2.2.1 a 3 _ ha (by decide) (by decide)).trans h0, x.1 _ _ h1 (by decide), (x.2.1 _ (by rw [h1]; decide)).trans h2, (x.2.2.1 a 3 _ ha (by decide) (by decide)).trans h3, x.1 _ _ h4 (by decide), (x.2.1 _ (by rw [h4]; decide)).trans h5, (x.2.2.1 a 3 _ ha (by decide) (by decide)).trans h6, x.1 _ _ h7 (by decide), (x.2.1 _ (by rw [h7]; decide)).trans h8⟩
theorem lkx4 {u w : SG} {a : Nat} (x : HX u w) (ha : zK u a = 4) (h : LK4 u a) : LK4 w a := by
  obtain ⟨h0, h1, h2⟩ := h
  exact ⟨(x.2.2.1 a 4 _ ha (by decide) (by decide)).trans h0, x.1 _ _ h1 (by decide), (x.2.1 _ (by rw [h1]; decide)).trans h2⟩
theorem lkx5 {u w : SG} {a : Nat} (x : HX u w) (ha : zK u a = 5) (h : LK5 u a) : LK5 w a := by
  obtain ⟨h0, h1⟩ := h
  exact ⟨(x.2.2.1 a 5 _ ha (by decide) (by decide)).trans h0, x.1 _ _ h1 (by decide)⟩
theorem lkx6 {u w : SG} {a : Nat} (x : HX u w) (ha : zK u a = 6) (h : LK6 u a) : LK6 w a := by
  obtain ⟨h0, h1, h2, h3, h4⟩ := h
  exact ⟨(x.2.2.1 a 6 _ ha (by decide) (by decide)).trans h0, x.1 _ _ h1 (by decide), (x.2.2.1 a 6 _ ha (by decide) (by decide)).trans h2, x.1 _ _ h3 (by decide), (x.2.1 _ (by rw [h3]; decide)).trans h4⟩
theorem lkx7 {u w : SG} {a : Nat} (x : HX u w) (ha : zK u a = 7) (h : LK7 u a) : LK7 w a := by
  obtain ⟨h0, h1, h2, h3, h4, h5⟩ := h
  exact ⟨(x.2.2.1 a 7 _ ha (by decide) (by decide)).trans h0, x.1 _ _ h1 (by decide), (x.2.2.1 a 7 _ ha (by decide) (by decide)).trans h2, x.1 _ _ h3 (by decide), (x.2.2.1 a 7 _ ha (by decide) (by decide)).trans h4, x.1 _ _ h5 (by decide)⟩
theorem lkx8 {u w : SG} {a : Nat} (x : HX u w) (ha : zK u a = 8) (h : LK8 u a) : LK8 w a := by
  obtain ⟨h0, h1, h2, h3, h4, h5, h6, h7, h8, h9, h10, h11, h12, h13, h14, h15, h16, h17⟩ := h
  exact ⟨(x.2.2.1 a 8 _ ha (by decide) (by decide)).trans h0, x.1 _ _ h1 (by decide), (x.2.1 _ (by rw [h1]; decide)).trans h2, (x.2.2.1 a 8 _ ha (by decide) (by decide)).trans h3, x.1 _ _ h4 (by decide), (x.2.1 _ (by rw [h4]; decide)).trans h5, (x.2.2.1 a 8 _ ha (by decide) (by decide)).trans h6, x.1 _ _ h7 (by decide), (x.2.1 _ (by rw [h7]; decide)).trans h8, (x.2.2.1 a 8 _ ha (by decide) (by decide)).trans h9, x.1 _ _ h10 (by decide), (x.2.1 _ (by rw [h10]; decide)).trans h11, (x.2.2.1 a 8 _ ha (by decide) (by decide)).trans h12, x.1 _ _ h13 (by decide), (x.2.1 _ (by rw [h13]; decide)).trans h14, (x.2.2.1 a 8 _ ha (by decide) (by decide)).trans h15, x.1 _ _ h16 (by decide), (x.2.1 _ (by rw [h16]; decide)).trans h17⟩
theorem lkx9 {u w : SG} {a : Nat} (x : HX u w) (ha : zK u a = 9) (h : LK9 u a) : LK9 w a := by
  obtain ⟨h0, h1⟩ := h
  exact ⟨(x.2.2.1 a 9 _ ha (by decide) (by decide)).trans h0, x.1 _ _ h1 (by decide)⟩
theorem lkx10 {u w : SG} {a : Nat} (x : HX u w) (ha : zK u a = 10) (h : LK10 u a) : LK10 w a := by
  obtain ⟨h0, h1, h2, h3, h4, h5, h6, h7, h8, h9, h10, h11⟩ := h
  exact ⟨(x.2.2.1 a 10 _ ha (by decide) (by decide)).trans h0, x.1 _ _ h1 (by decide), (x.2.1 _ (by rw [h1]; decide)).trans h2, (x.2.2.1 a 10 _ ha (by decide) (by decide)).trans h3, x.1 _ _ h4 (by decide), (x.2.1 _ (by rw [h4]; decide)).trans h5, (x.2.2.1 a 10 _ ha (by decide) (by decide)).trans h6, x.1 _ _ h7 (by decide), (x.2.1 _ (by rw [h7]; decide)).trans h8, (x.2.2.1 a 10 _ ha (by decide) (by decide)).trans h9, x.1 _ _ h10 (by decide), (x.2.1 _ (by rw [h10]; decide)).trans h11⟩
theorem lkx11 {u w : SG} {a : Nat} (x : HX u w) (ha : zK u a = 11) (h : LK11 u a) : LK11 w a := by
  obtain ⟨h0, h1, h2, h3, h4, h5, h6, h7, h8, h9, h10, h11, h12, h13, h14, h15, h16, h17, h18, h19, h20, h21, h22, h23, h24, h25, h26, h27, h28, h29⟩ := h
  exact ⟨(x.2.2.1 a 11 _ ha (by decide) (by decide)).trans h0, x.1 _ _ h1 (by decide), (x.2.2.1 a 11 _ ha (by decide) (by decide)).trans h2, x.1 _ _ h3 (by decide), (x.2.2.1 a 11 _ ha (by decide) (by decide)).trans h4, x.1 _ _ h5 (by decide), (x.2.2.1 a 11 _ ha (by decide) (by decide)).trans h6, x.1 _ _ h7 (by decide), (x.2.2.1 a 11 _ ha (by decide) (by decide)).trans h8, x.1 _ _ h9 (by decide), (x.2.1 _ (by rw [h9]; decide)).trans h10, (x.2.2.1 a 11 _ ha (by decide) (by decide)).trans h11, x.1 _ _ h12 (by decide), (x.2.2.1 a 11 _ ha (by decide) (by decide)).trans h13, x.1 _ _ h14 (by decide), (x.2.1 _ (by rw [h14]; decide)).trans h15, (x.2.2.1 a 11 _ ha (by decide) (by decide)).trans h16, x.1 _ _ h17 (by decide), (x.2.2.1 a 11 _ ha (by decide) (by decide)).trans h18, x.1 _ _ h19 (by decide), (x.2.2.1 a 11 _ ha (by decide) (by decide)).trans h20, x.1 _ _ h21 (by decide), (x.2.2.1 a 11 _ ha (by decide) (by decide)).trans h22, x.1 _ _ h23 (by decide), (x.2.1 _ (by rw [h23]; decide)).trans h24, (x.2.2.1 a 11 _ ha (by decide) (by decide)).trans h25, x.1 _ _ h26 (by decide), (x.2.1 _ (by rw [h26]; decide)).trans h27, fun i hi => ⟨(x.2.2.1 _ _ i h14 (by decide) (by decide)).trans (h28 i hi).1, x.1 _ _ (h28 i hi).2 (by decide)⟩, fun i q hq => (x.2.2.2 _ i q h9 hq).elim (fun z => x.1 _ _ (h29 i q z) (by decide)) (fun z => z)⟩
theorem lkx12 {u w : SG} {a : Nat} (x : HX u w) (ha : zK u a = 12) (h : LK12 u a) : LK12 w a := by
  obtain ⟨h0, h1, h2, h3, h4, h5, h6, h7, h8, h9, h10, h11, h12, h13, h14, h15, h16, h17, h18, h19, h20, h21, h22, h23, h24, h25, h26, h27, h28, h29, h30, h31, h32, h33, h34, h35, h36, h37, h38, h39, h40, h41, h42, h43, h44, h45, h46, h47, h48, h49, h50, h51, h52, h53, h54, h55, h56⟩ := h
  exact ⟨(x.2.2.1 a 12 _ ha (by decide) (by decide)).trans h0, x.1 _ _ h1 (by decide), (x.2.1 _ (by rw [h1]; decide)).trans h2, (x.2.2.1 a 12 _ ha (by decide) (by decide)).trans h3, x.1 _ _ h4 (by decide), (x.2.1 _ (by rw [h4]; decide)).trans h5, (x.2.2.1 a 12 _ ha (by decide) (by decide)).trans h6, x.1 _ _ h7 (by decide), (x.2.1 _ (by rw [h7]; decide)).trans h8, (x.2.2.1 a 12 _ ha (by decide) (by decide)).trans h9, x.1 _ _ h10 (by decide), (x.2.1 _ (by rw [h10]; decide)).trans h11, (x.2.2.1 a 12 _ ha (by decide) (by decide)).trans h12, x.1 _ _ h13 (by decide), (x.2.1 _ (by rw [h13]; decide)).trans h14, (x.2.2.1 a 12 _ ha (by decide) (by decide)).trans h15, x.1 _ _ h16 (by decide), (x.2.1 _ (by rw [h16]; decide)).trans h17, (x.2.2.1 a 12 _ ha (by decide) (by decide)).trans h18, x.1 _ _ h19 (by decide), (x.2.1 _ (by rw [h19]; decide)).trans h20, (x.2.2.1 a 12 _ ha (by decide) (by decide)).trans h21, x.1 _ _ h22 (by decide), (x.2.1 _ (by rw [h22]; decide)).trans h23, (x.2.2.1 a 12 _ ha (by decide) (by decide)).trans h24, x.1 _ _ h25 (by decide), (x.2.1 _ (by rw [h25]; decide)).trans h26, (x.2.2.1 a 12 _ ha (by decide) (by decide)).trans h27, x.1 _ _ h28 (by decide), (x.2.1 _ (by rw [h28]; decide)).trans h29, (x.2.2.1 a 12 _ ha (by decide) (by decide)).trans h30, x.1 _ _ h31 (by decide), (x.2.1 _ (by rw [h31]; decide)).trans h32, (x.2.2.1 a 12 _ ha (by decide) (by decide)).trans h33, x.1 _ _ h34 (by decide), (x.2.1 _ (by rw [h34]; decide)).trans h35, (x.2.2.1 a 12 _ ha (by decide) (by decide)).trans h36, x.1 _ _ h37 (by decide), (x.2.1 _ (by rw [h37]; decide)).trans h38, (x.2.2.1 a 12 _ ha (by decide) (by decide)).trans h39, x.1 _ _ h40 (by decide), (x.2.1 _ (by rw [h40]; decide)).trans h41, (x.2.2.1 a 12 _ ha (by decide) (by decide)).trans h42, x.1 _ _ h43 (by decide), (x.2.1 _ (by rw [h43]; decide)).trans h44, (x.2.2.1 a 12 _ ha (by decide) (by decide)).trans h45, x.1 _ _ h46 (by decide), (x.2.1 _ (by rw [h46]; decide)).trans h47, (x.2.2.1 a 12 _ ha (by decide) (by decide)).trans h48, x.1 _ _ h49 (by decide), (x.2.1 _ (by rw [h49]; decide)).trans h50, (x.2.2.1 a 12 _ ha (by decide) (by decide)).trans h51, x.1 _ _ h52 (by decide), (x.2.1 _ (by rw [h52]; decide)).trans h53, (x.2.2.1 a 12 _ ha (by decide) (by decide)).trans h54, x.1 _ _ h55 (by decide), (x.2.1 _ (by rw [h55]; decide)).trans h56⟩
theorem HX.ly {u w : SG} {q : Nat} (x : HX u w) (hl : LY u) (hk : ∀ a, ¬ a = q → ¬ a = q + 1 → zK w a = zK u a) (k1 : zK w q = 5) (k2 : zK w (q + 1) = 22) (hr : zR w q 0 = some (q + 1)) : LY w := by
  have key : ∀ a k, zK w a = k → zK u a = k ∨ (a = q ∧ k = 5) ∨ (a = q + 1 ∧ k = 22) := by
    intro a k h
    by_cases e1 : a = q
    · subst e1; rw [k1] at h; exact Or.inr (Or.inl ⟨rfl, h.symm⟩)
    · by_cases e2 : a = q + 1
      · subst e2; rw [k2] at h; exact Or.inr (Or.inr ⟨rfl, h.symm⟩)
      · rw [hk a e1 e2] at h; exact Or.inl h
  intro a
  refine ⟨fun h => ?_, fun h => ?_, fun h => ?_, fun h => ?_, fun h => ?_, fun h => ?_, fun h => ?_, fun h => ?_, fun h => ?_, fun h => ?_, fun h => ?_, fun h => ?_⟩
  · rcases key a 1 h with z | z | z
    · exact lkx1 x z (hl.o1 z)
    · exact absurd z.2 (by decide)
    · exact absurd z.2 (by decide)
  · rcases key a 2 h with z | z | z
    · exact lkx2 x z (hl.o2 z)
    · exact absurd z.2 (by decide)
    · exact absurd z.2 (by decide)
  · rcases key a 3 h with z | z | z
    · exact lkx3 x z (hl.o3 z)
    · exact absurd z.2 (by decide)
    · exact absurd z.2 (by decide)
  · rcases key a 4 h with z | z | z
    · exact lkx4 x z (hl.o4 z)
    · exact absurd z.2 (by decide)
    · exact absurd z.2 (by decide)
  · rcases key a 5 h with z | z | z
    · exact lkx5 x z (hl.o5 z)
    · rw [z.1]; exact ⟨hr, k2⟩
    · exact absurd z.2 (by decide)
  · rcases key a 6 h with z | z | z
    · exact lkx6 x z (hl.o6 z)
    · exact absurd z.2 (by decide)
    · exact absurd z.2 (by decide)
  · rcases key a 7 h with z | z | z
    · exact lkx7 x z (hl.o7 z)
    · exact absurd z.2 (by decide)
    · exact absurd z.2 (by decide)
  · rcases key a 8 h with z | z | z
    · exact lkx8 x z (hl.o8 z)
    · exact absurd z.2 (by decide)
    · exact absurd z.2 (by decide)
  · rcases key a 9 h with z | z | z
    · exact lkx9 x z (hl.o9 z)
    · exact absurd z.2 (by decide)
    · exact absurd z.2 (by decide)
  · rcases key a 10 h with z | z | z
    · exact lkx10 x z (hl.o10 z)
    · exact absurd z.2 (by decide)
    · exact absurd z.2 (by decide)
  · rcases key a 11 h with z | z | z
    · exact lkx11 x z (hl.o11 z)
    · exact absurd z.2 (by decide)
    · exact absurd z.2 (by decide)
  · rcases key a 12 h with z | z | z
    · exact lkx12 x z (hl.o12 z)
    · exact absurd z.2 (by decide)
    · exact absurd z.2 (by decide)
