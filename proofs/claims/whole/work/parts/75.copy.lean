/-! COPIES -/
theorem sIr_n {u : SG} {a : Nat} {f : Nat → Int32} {b k : Nat} (h : b ≠ a) : zI (sIr u a f) b k = zI u b k := by rw [sIr_I, if_neg h]
theorem sIr_s {u : SG} {a : Nat} {f : Nat → Int32} {k : Nat} : zI (sIr u a f) a k = f k := by rw [sIr_I, if_pos rfl]
theorem sLr_n {u : SG} {a : Nat} {f : Nat → Int64} {b k : Nat} (h : b ≠ a) : zL (sLr u a f) b k = zL u b k := by rw [sLr_L, if_neg h]
theorem sLr_s {u : SG} {a : Nat} {f : Nat → Int64} {k : Nat} : zL (sLr u a f) a k = f k := by rw [sLr_L, if_pos rfl]
theorem cpy0 {α : Type} {f g : Nat → α} {n j : Nat} (h : j < n) : va_cpy f g 0 0 n j = f j := by
  rw [pk_cpy_in (Nat.zero_le _) (by omega)]
  congr 1
  omega
theorem cl0 : (0 : Int32).toNatClampNeg = 0 := rfl
theorem cl5 : (5 : Int32).toNatClampNeg = 5 := rfl
theorem cl6 : (6 : Int32).toNatClampNeg = 6 := rfl
theorem cl10 : (10 : Int32).toNatClampNeg = 10 := rfl
theorem cp_X2 {N a0 p1 : Nat} {u : SG} (hd : a0 + 3 < p1 ∨ p1 + 3 < a0) : ∃ u', hX2_copyOf N a0 p1 u = some ((), u') ∧ zI u' a0 0 = zI u p1 0 ∧ zI u' a0 1 = zI u p1 1 ∧ zI u' a0 2 = zI u p1 2 ∧ zI u' a0 3 = zI u p1 3 ∧ zI u' a0 4 = zI u p1 4 ∧ (∀ k, k < 5 → zI u' (a0 + 1) k = zI u (p1 + 1) k) ∧ (∀ k, k < 5 → zI u' (a0 + 2) k = zI u (p1 + 2) k) ∧ (∀ k, k < 6 → zL u' (a0 + 3) k = zL u (p1 + 3) k) ∧ Fz (fun q _ => a0 ≤ q ∧ q ≤ a0 + 3) u u' := by
  unfold hX2_copyOf
  simp only [bs_eq, cl0, cl5, cl6, cl10]
  refine ⟨_, rfl, ?_, ?_, ?_, ?_, ?_, ?_, ?_, ?_, ?_⟩
  · rw [sLr_I, sIr_n (by omega), sIr_n (by omega), sI_n (by omega), sI_n (by omega), sI_n (by omega), sI_n (by omega), sI_s]
  · rw [sLr_I, sIr_n (by omega), sIr_n (by omega), sI_n (by omega), sI_n (by omega), sI_n (by omega), sI_s, sI_n (by omega)]
  · rw [sLr_I, sIr_n (by omega), sIr_n (by omega), sI_n (by omega), sI_n (by omega), sI_s, sI_n (by omega), sI_n (by omega)]
  · rw [sLr_I, sIr_n (by omega), sIr_n (by omega), sI_n (by omega), sI_s, sI_n (by omega), sI_n (by omega), sI_n (by omega)]
  · rw [sLr_I, sIr_n (by omega), sIr_n (by omega), sI_s, sI_n (by omega), sI_n (by omega), sI_n (by omega), sI_n (by omega)]
  · intro k hk
    rw [sLr_I, sIr_n (by omega), sIr_s, cpy0 hk, sI_n (by omega), sI_n (by omega), sI_n (by omega), sI_n (by omega), sI_n (by omega)]
  · intro k hk
    rw [sLr_I, sIr_s, cpy0 hk, sIr_n (by omega), sI_n (by omega), sI_n (by omega), sI_n (by omega), sI_n (by omega), sI_n (by omega)]
  · intro k hk
    rw [sLr_s, cpy0 hk]
    rfl
  · exact ((((((((Fz.sI (by omega)).tr (Fz.sI (by omega))).tr (Fz.sI (by omega))).tr (Fz.sI (by omega))).tr (Fz.sI (by omega))).tr (Fz.sIr (fun k hk => absurd (by omega) hk))).tr (Fz.sIr (fun k hk => absurd (by omega) hk))).tr (Fz.sLr (fun k hk => absurd (by omega) hk)))
theorem cp_X7 {N a0 p1 : Nat} {u : SG} (hd : a0 + 6 < p1 ∨ p1 + 6 < a0) : ∃ u', hX7_copyOf N a0 p1 u = some ((), u') ∧ zI u' a0 6 = zI u p1 6 ∧ zI u' a0 7 = zI u p1 7 ∧ zI u' a0 8 = zI u p1 8 ∧ zI u' a0 9 = zI u p1 9 ∧ zI u' a0 10 = zI u p1 10 ∧ (∀ k, k < 5 → zI u' (a0 + 1) k = zI u (p1 + 1) k) ∧ (∀ k, k < 5 → zI u' (a0 + 2) k = zI u (p1 + 2) k) ∧ (∀ k, k < 5 → zI u' (a0 + 3) k = zI u (p1 + 3) k) ∧ (∀ k, k < 5 → zI u' (a0 + 4) k = zI u (p1 + 4) k) ∧ (∀ k, k < 10 → zI u' (a0 + 5) k = zI u (p1 + 5) k) ∧ (∀ k, k < 10 → zI u' (a0 + 6) k = zI u (p1 + 6) k) ∧ Fz (fun q _ => a0 ≤ q ∧ q ≤ a0 + 6) u u' := by
  unfold hX7_copyOf
  simp only [bs_eq, cl0, cl5, cl6, cl10]
  refine ⟨_, rfl, ?_, ?_, ?_, ?_, ?_, ?_, ?_, ?_, ?_, ?_, ?_, ?_⟩
  · rw [sIr_n (by omega), sIr_n (by omega), sIr_n (by omega), sIr_n (by omega), sIr_n (by omega), sIr_n (by omega), sI_n (by omega), sI_n (by omega), sI_n (by omega), sI_n (by omega), sI_s]
  · rw [sIr_n (by omega), sIr_n (by omega), sIr_n (by omega), sIr_n (by omega), sIr_n (by omega), sIr_n (by omega), sI_n (by omega), sI_n (by omega), sI_n (by omega), sI_s, sI_n (by omega)]
  · rw [sIr_n (by omega), sIr_n (by omega), sIr_n (by omega), sIr_n (by omega), sIr_n (by omega), sIr_n (by omega), sI_n (by omega), sI_n (by omega), sI_s, sI_n (by omega), sI_n (by omega)]
  · rw [sIr_n (by omega), sIr_n (by omega), sIr_n (by omega), sIr_n (by omega), sIr_n (by omega), sIr_n (by omega), sI_n (by omega), sI_s, sI_n (by omega), sI_n (by omega), sI_n (by omega)]
  · rw [sIr_n (by omega), sIr_n (by omega), sIr_n (by omega), sIr_n (by omega), sIr_n (by omega), sIr_n (by omega), sI_s, sI_n (by omega), sI_n (by omega), sI_n (by omega), sI_n (by omega)]
  · intro k hk
    rw [sIr_n (by omega), sIr_n (by omega), sIr_n (by omega), sIr_n (by omega), sIr_n (by omega), sIr_s, cpy0 hk, sI_n (by omega), sI_n (by omega), sI_n (by omega), sI_n (by omega), sI_n (by omega)]
  · intro k hk
    rw [sIr_n (by omega), sIr_n (by omega), sIr_n (by omega), sIr_n (by omega), sIr_s, cpy0 hk, sIr_n (by omega), sI_n (by omega), sI_n (by omega), sI_n (by omega), sI_n (by omega), sI_n (by omega)]
  · intro k hk
    rw [sIr_n (by omega), sIr_n (by omega), sIr_n (by omega), sIr_s, cpy0 hk, sIr_n (by omega), sIr_n (by omega), sI_n (by omega), sI_n (by omega), sI_n (by omega), sI_n (by omega), sI_n (by omega)]
  · intro k hk
    rw [sIr_n (by omega), sIr_n (by omega), sIr_s, cpy0 hk, sIr_n (by omega), sIr_n (by omega), sIr_n (by omega), sI_n (by omega), sI_n (by omega), sI_n (by omega), sI_n (by omega), sI_n (by omega)]
  · intro k hk
    rw [sIr_n (by omega), sIr_s, cpy0 hk, sIr_n (by omega), sIr_n (by omega), sIr_n (by omega), sIr_n (by omega), sI_n (by omega), sI_n (by omega), sI_n (by omega), sI_n (by omega), sI_n (by omega)]
  · intro k hk
    rw [sIr_s, cpy0 hk, sIr_n (by omega), sIr_n (by omega), sIr_n (by omega), sIr_n (by omega), sIr_n (by omega), sI_n (by omega), sI_n (by omega), sI_n (by omega), sI_n (by omega), sI_n (by omega)]
  · exact (((((((((((Fz.sI (by omega)).tr (Fz.sI (by omega))).tr (Fz.sI (by omega))).tr (Fz.sI (by omega))).tr (Fz.sI (by omega))).tr (Fz.sIr (fun k hk => absurd (by omega) hk))).tr (Fz.sIr (fun k hk => absurd (by omega) hk))).tr (Fz.sIr (fun k hk => absurd (by omega) hk))).tr (Fz.sIr (fun k hk => absurd (by omega) hk))).tr (Fz.sIr (fun k hk => absurd (by omega) hk))).tr (Fz.sIr (fun k hk => absurd (by omega) hk)))
theorem cp_X1 {N a0 p1 : Nat} {u : SG} (hd : a0 + 4 < p1 ∨ p1 + 4 < a0) : ∃ u', hX1_copyOf N a0 p1 u = some ((), u') ∧ zI u' a0 4 = zI u p1 4 ∧ (∀ k, k < 10 → zI u' (a0 + 1) k = zI u (p1 + 1) k) ∧ (∀ k, k < 10 → zI u' (a0 + 2) k = zI u (p1 + 2) k) ∧ (∀ k, k < 10 → zI u' (a0 + 3) k = zI u (p1 + 3) k) ∧ (∀ k, k < 10 → zI u' (a0 + 4) k = zI u (p1 + 4) k) ∧ Fz (fun q _ => a0 ≤ q ∧ q ≤ a0 + 4) u u' := by
  unfold hX1_copyOf
  simp only [bs_eq, cl0, cl5, cl6, cl10]
  refine ⟨_, rfl, ?_, ?_, ?_, ?_, ?_, ?_⟩
  · rw [sIr_n (by omega), sIr_n (by omega), sIr_n (by omega), sIr_n (by omega), sI_s]
  · intro k hk
    rw [sIr_n (by omega), sIr_n (by omega), sIr_n (by omega), sIr_s, cpy0 hk, sI_n (by omega)]
  · intro k hk
    rw [sIr_n (by omega), sIr_n (by omega), sIr_s, cpy0 hk, sIr_n (by omega), sI_n (by omega)]
  · intro k hk
    rw [sIr_n (by omega), sIr_s, cpy0 hk, sIr_n (by omega), sIr_n (by omega), sI_n (by omega)]
  · intro k hk
    rw [sIr_s, cpy0 hk, sIr_n (by omega), sIr_n (by omega), sIr_n (by omega), sI_n (by omega)]
  · exact (((((Fz.sI (by omega)).tr (Fz.sIr (fun k hk => absurd (by omega) hk))).tr (Fz.sIr (fun k hk => absurd (by omega) hk))).tr (Fz.sIr (fun k hk => absurd (by omega) hk))).tr (Fz.sIr (fun k hk => absurd (by omega) hk)))
theorem c_momCopy {N a0 p1 : Nat} {u : SG} {G : Nat → Nat} {M : MT} (g : Gb G) (h : Mom u p1 G M) (hd : a0 + 3 < p1 ∨ p1 + 3 < a0) : ∃ u', hX2_copyOf N a0 p1 u = some ((), u') ∧ Mom u' a0 G M ∧ Fz (SM a0) u u' := by
  obtain ⟨u', e, c0, c1, c2, c3, c4, d1, d2, d3, f⟩ := cp_X2 (N := N) (u := u) hd
  obtain ⟨h1, h2, h3, h4, h5, h6, h7⟩ := h
  have g1 := g.2.1
  refine ⟨u', e, ⟨c0.trans h1, c1.trans h2, c2.trans h3, c3.trans h4, c4.trans h5, fun p hp => ?_, (d3 5 (by decide)).trans h7⟩, f⟩
  obtain ⟨q1, q2, q3⟩ := h6 p hp
  exact ⟨(d1 p (by omega)).trans q1, (d2 p (by omega)).trans q2, (d3 p (by omega)).trans q3⟩
theorem c_strCopy {N a0 p1 : Nat} {u : SG} {G : Nat → Nat} (g : Gb G) (h : Str u p1 G) (hd : a0 + 6 < p1 ∨ p1 + 6 < a0) : ∃ u', hX7_copyOf N a0 p1 u = some ((), u') ∧ Str u' a0 G ∧ Fz (fun q _ => a0 ≤ q ∧ q ≤ a0 + 6) u u' := by
  obtain ⟨u', e, c0, c1, c2, c3, c4, d1, d2, d3, d4, d5, d6, f⟩ := cp_X7 (N := N) (u := u) hd
  obtain ⟨h1, h2, h3, h4, h5, h6, h7, h8⟩ := h
  have g1 := g.2.1
  have g3 := g.2.2.2.1
  refine ⟨u', e, ⟨c0.trans h1, c1.trans h2, c2.trans h3, c3.trans h4, c4.trans h5, fun p hp => ?_, fun p hp => ?_, fun p hp => ?_⟩, f⟩
  · exact ⟨(d1 p (by omega)).trans (h6 p hp).1, (d2 p (by omega)).trans (h6 p hp).2⟩
  · exact ⟨(d3 p (by omega)).trans (h7 p hp).1, (d4 p (by omega)).trans (h7 p hp).2⟩
  · exact ⟨(d5 p (by omega)).trans (h8 p hp).1, (d6 p (by omega)).trans (h8 p hp).2⟩
/-- a scene is copied -/
theorem c_scCopy {N a0 p1 : Nat} {u : SG} {S : SCT} (g : Gb (sG S)) (hn : sn S ≤ 10) (h : CSc u p1 S) (hd : a0 + 16 < p1 ∨ p1 + 16 < a0) : ∃ u', hX6_copyOf N a0 p1 u = some ((), u') ∧ CSc u' a0 S ∧ zI u' a0 5 = zI u a0 5 ∧ Fz (fun q _ => a0 ≤ q ∧ q ≤ a0 + 16) u u' := by
  obtain ⟨h1, h2, h3, h4, h5, h6⟩ := h
  obtain ⟨u1, e1, s1, f1⟩ := c_strCopy (N := N) (a0 := a0 + 1) g h1 (by omega)
  obtain ⟨u2, e2, s2, f2⟩ := c_momCopy (N := N) (a0 := a0 + 8) g (h2.z f1 (fun b k q1 q2 => by omega)) (by omega)
  obtain ⟨u3, e3, k4, d1, d2, d3, d4, f3⟩ := cp_X1 (N := N) (a0 := a0 + 12) (p1 := p1 + 12) (u := u2) (by omega)
  have z3 : ∀ q k, (q < a0 + 1 ∨ a0 + 16 < q) → zI u3 q k = zI u q k := fun q k hq => by rw [f3.I (by omega), f2.I (by unfold SM; omega), f1.I (by omega)]
  have zp : ∀ q k, p1 ≤ q → q ≤ p1 + 16 → zI u2 q k = zI u q k := fun q k q1 q2 => by rw [f2.I (by unfold SM; omega), f1.I (by omega)]
  have F3 : Fz (fun q _ => a0 ≤ q ∧ q ≤ a0 + 16) u u3 := ((f1.w (fun a k q => by omega)).tr (f2.w (fun a k q => by unfold SM at q; omega))).tr (f3.w (fun a k q => by omega))
  have F5 : Fz (fun q k => q = a0 ∧ (k = 3 ∨ k = 4)) u3 (sI (sI u3 a0 3 (zI u3 p1 3)) a0 4 (zI (sI u3 a0 3 (zI u3 p1 3)) p1 4)) := (Fz.sI (by omega)).tr (Fz.sI (by omega))
  refine ⟨_, by unfold hX6_copyOf; rw [e1, cl_some, e2, cl_some, e3, cl_some, bs_eq, bs_eq], ⟨?_, ?_, ?_, fun j hj => ?_, ?_, ?_⟩, ?_, F3.tr (F5.w (fun a k q => by omega))⟩
  · exact ((s1.z f2 (fun b k q1 q2 => by unfold SM; omega)).z f3 (fun b k q1 q2 => by omega)).z F5 (fun b k q1 q2 => by omega)
  · exact (s2.z f3 (fun b k q1 q2 => by omega)).z F5 (fun b k q1 q2 => by omega)
  · rw [F5.I (by omega), k4, zp _ _ (by omega) (by omega)]; exact h3
  · obtain ⟨q1, q2, q3, q4⟩ := h4 j hj
    rw [F5.I (by omega), F5.I (by omega), F5.I (by omega), F5.I (by omega)]
    exact ⟨(d1 j (by omega)).trans ((zp _ _ (by omega) (by omega)).trans q1), (d2 j (by omega)).trans ((zp _ _ (by omega) (by omega)).trans q2), (d3 j (by omega)).trans ((zp _ _ (by omega) (by omega)).trans q3), (d4 j (by omega)).trans ((zp _ _ (by omega) (by omega)).trans q4)⟩
  · rw [sI_n (by omega), sI_s, z3 _ _ (by omega)]; exact h5
  · rw [sI_s, sI_n (by omega), z3 _ _ (by omega)]; exact h6
  · rw [F5.I (by omega), z3 _ _ (by omega)]
