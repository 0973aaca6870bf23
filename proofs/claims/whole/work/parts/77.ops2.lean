/-! OPERATIONS, 2: owed, ahead, turned, spite -/
section FR60
variable {N : Nat} {u : SG}
theorem c_frS {s : Bool} {a part : Nat} (ha : a < 2 ^ 31) (hp : part ≤ 1) (hN : 2000 ≤ N) : fX10_fraction N (sgL s a) (60 : Int64) (nI part) u = some (frV s a 60 part, u) := c_frac ha (by decide) (by decide) hp hN
theorem r_frS {s : Bool} {a part : Nat} (ha : a < 2 ^ 31) (hp : part ≤ 1) (hN : 2000 ≤ N) : fX11_fraction N (sgI s a) (60 : Int32) (nI part) u = some (frV s a 60 part, u) := r_frac ha (by decide) (by decide) hp hN
theorem c_frN {a part : Nat} (ha : a < 2 ^ 31) (hp : part ≤ 1) (hN : 2000 ≤ N) : fX10_fraction N (lN a) (60 : Int64) (nI part) u = some (frV false a 60 part, u) := c_frS (s := false) ha hp hN
theorem r_frN {a part : Nat} (ha : a < 2 ^ 31) (hp : part ≤ 1) (hN : 2000 ≤ N) : fX11_fraction N (nI a) (60 : Int32) (nI part) u = some (frV false a 60 part, u) := r_frS (s := false) ha hp hN
theorem part_cases (x : Int32) : (x < 0 ∨ nI 2 ≤ x) ∨ ∃ j, j ≤ 1 ∧ x = nI j := by
  rcases pk_ix x (n := 2) (by decide) with h | h | ⟨j, hj, e⟩
  · exact Or.inl (Or.inl h)
  · exact Or.inl (Or.inr h)
  · exact Or.inr ⟨j, by omega, e⟩
theorem c_isPart0 {x : Int32} (h : x < 0 ∨ nI 2 ≤ x) : fX10_isPart N x u = some (0, u) := by
  unfold fX10_isPart
  rw [if_neg (show ¬ x = (0 : Int32) from out_ne h (k := 0) (by decide) (by decide)), if_neg (show ¬ x = (1 : Int32) from out_ne h (k := 1) (by decide) (by decide))]
theorem c_isPart1 {j : Nat} (h : j ≤ 1) : fX10_isPart N (nI j) u = some (1, u) := by
  rcases (by omega : j = 0 ∨ j = 1) with rfl | rfl <;> rfl
theorem span_cases (x : Int32) : (x < nI 1 ∨ nI 61 ≤ x) ∨ ∃ j, 1 ≤ j ∧ j ≤ 60 ∧ x = nI j := by
  rcases pk_ix x (n := 61) (by decide) with h | h | ⟨j, hj, rfl⟩
  · exact Or.inl (Or.inl (Int32.lt_trans h (by decide)))
  · exact Or.inl (Or.inr h)
  · by_cases e : j = 0
    · subst e; exact Or.inl (Or.inl (by decide))
    · exact Or.inr ⟨j, by omega, by omega, rfl⟩
theorem c_isSpan0 {x : Int32} (h : x < nI 1 ∨ nI 61 ≤ x) : fX10_isSpan N x u = some (0, u) := by
  unfold fX10_isSpan
  rcases h with h | h
  · rw [if_pos (show x < (1 : Int32) from h)]
  · split
    · rfl
    · rw [if_pos (show (60 : Int32) < x from nI_lt_of (by decide) h)]
theorem c_isSpan1 {j : Nat} (h1 : 1 ≤ j) (h2 : j ≤ 60) : fX10_isSpan N (nI j) u = some (1, u) := by
  unfold fX10_isSpan
  rw [if_neg (show ¬ nI j < (1 : Int32) from nI_nlt h1 (by omega)), if_neg (show ¬ (60 : Int32) < nI j from nI_nlt h2 (by decide))]
theorem x_inB0 {x : Int32} {b : Nat} (hb : b + 1 < 2 ^ 31) {q : Int64} (hq : q = lN b) (h : x < nI 1 ∨ nI (b + 1) ≤ x) : fX11_in N x.toInt64 (1 : Int64) q u = some (0, u) := by
  rcases x_in1b (N := N) (u := u) (x := x) hb hq with ⟨-, e⟩ | ⟨j, h1, h2, rfl, -⟩
  · exact e
  · rcases h with h | h
    · exact absurd h (nI_nlt h1 (by omega))
    · exact absurd h (nI_ge (by omega) hb)
theorem x_inB1 {j b : Nat} (hb : b + 1 < 2 ^ 31) {q : Int64} (hq : q = lN b) (h1 : 1 ≤ j) (h2 : j ≤ b) : fX11_in N (nI j).toInt64 (1 : Int64) q u = some (1, u) := by
  rcases x_in1b (N := N) (u := u) (x := nI j) hb hq with ⟨h, -⟩ | ⟨j, -, -, -, e⟩
  · rcases h with h | h
    · exact absurd h (nI_nlt h1 (by omega))
    · exact absurd h (nI_ge (by omega) hb)
  · exact e
end FR60
section DEB
variable {N x m c : Nat} {u : SG} {A : AT}
theorem told0 {G : Nat → Nat} (h : G 0 = 0) : nI (b2n (decide (0 < G 0))) = 0 := by rw [h]; rfl
theorem told1 {G : Nat → Nat} (h : 0 < G 0) : ¬ nI (b2n (decide (0 < G 0))) = 0 := by rw [decide_eq_true h]; decide
theorem c_deb0 (iC : InvC u x A) (g : Gb (sG (aS A))) {p : Int32} (h1 : ¬ p = -1) (h2 : p < 0 ∨ nI (sG (aS A) 1) ≤ p) : hX10_isDebtor N x p u = some (0, u) := by
  unfold hX10_isDebtor
  rw [c_isTold iC.sn.1 g, cl_some]
  rcases Nat.eq_zero_or_pos (sG (aS A) 0) with h0 | h0
  · rw [if_pos (told0 h0)]
  · rw [if_neg (told1 h0), if_neg h1, c_isP0 iC.sn.1 g h2, cl_some, if_pos rfl]
theorem c_debS (iC : InvC u x A) (g : Gb (sG (aS A))) (h : sG (aS A) 0 = 0) (p : Int32) : hX10_isDebtor N x p u = some (0, u) := by
  unfold hX10_isDebtor
  rw [c_isTold iC.sn.1 g, cl_some, if_pos (told0 h)]
theorem c_debT (iC : InvC u x A) (g : Gb (sG (aS A))) (h : 0 < sG (aS A) 0) : hX10_isDebtor N x (-1) u = some (1, u) := by
  unfold hX10_isDebtor
  rw [c_isTold iC.sn.1 g, cl_some, if_neg (told1 h), if_pos rfl]
theorem c_debP (iC : InvC u x A) (g : Gb (sG (aS A))) (h : 0 < sG (aS A) 0) {p : Nat} (hp : p < sG (aS A) 1) : hX10_isDebtor N x (nI p) u = some (1, u) := by
  have g1 := g.2.1
  unfold hX10_isDebtor
  rw [c_isTold iC.sn.1 g, cl_some, if_neg (told1 h)]
  split
  · rfl
  · rw [c_isP1 iC.sn.1 g hp, cl_some, if_neg (by decide)]
theorem nI_ne1 {p : Nat} (h : p < 2 ^ 31) : ¬ nI p = -1 := fun e => nI_pos h (by rw [e]; decide)
end DEB
theorem RFo.zz {u v : SG} {m : Nat} {o : Option RT} {P : Nat → Nat → Prop} (h : RFo u m o) (f : Fz P u v) (h1 : ∀ a k, P a k → a ≠ m + 2 ∧ a ≠ m + 4 ∧ a ≠ m + 5) (h2 : ¬ P m 21) : RFo v m o := by
  rcases h with ⟨k1, k2⟩ | ⟨t, R, k1, k2, k3, k4, k5⟩
  · exact Or.inl ⟨k1, by rw [f.I h2]; exact k2⟩
  · exact Or.inr ⟨t, R, k1, k2, by rw [f.I h2]; exact k3, k4.z (f.w h1), k5⟩
section OPS2
variable {N : Nat}
theorem op_owed (p1 p2 : Int32) (hN : 2000 ≤ N) : OpOK (fun x u => fX10_owed N x p1 p2 u) (fun m u => fX11_owed N m p1 p2 u) := by
  refine op_pure (fun x u h => eX10_owed N x p1 p2 u h) (fun m u h => eX11_owed N m p1 p2 u h) (fun c x A hc hA => ?_)
  obtain ⟨g, hb, -⟩ := hA.2.2.2.2.1
  have g1 := g.2.1
  rcases Nat.eq_zero_or_pos (sG (aS A) 0) with h0 | h0
  · refine ⟨-1, fun u iC => ?_, fun m u iR => ?_⟩
    · unfold hX10_owed; rw [c_debS iC g h0, cl_some, if_pos rfl]
    · unfold hX11_owed; rw [r_isStreet iR.sn.1.1 g, cl_some, if_pos (told0 h0)]
  · by_cases e1 : p1 = -1
    · subst e1
      rcases part_cases p2 with ho | ⟨j, hj, rfl⟩
      · refine ⟨-1, fun u iC => ?_, fun m u iR => ?_⟩
        · unfold hX10_owed; rw [c_debT iC g h0, cl_some, if_neg (by decide), c_isPart0 ho, cl_some, if_pos rfl]
        · unfold hX11_owed hgX11_owed_20; rw [r_isStreet iR.sn.1.1 g, cl_some, if_neg (told1 h0), if_pos rfl, x_in0 (b := 1) (q := 1) ho (by decide) rfl, cl_some, if_pos rfl]
      · have hT := hb.2.2.1
        refine ⟨frV false (mT (sM (aS A))) 60 j, fun u iC => ?_, fun m u iR => ?_⟩
        · unfold hX10_owed
          rw [c_debT iC g h0, cl_some, if_neg (by decide), c_isPart1 hj, cl_some, if_neg (by decide)]
          unfold fX10_debtorRow
          rw [if_pos rfl, cl_some, lit_5, ixI (by decide) (by decide), nI_clamp (by decide), show zL u (x + 28) 5 = lN (mT (sM (aS A))) from iC.sn.2.1.2.2.2.2.2.2, c_frN (by omega) hj hN, cl_some]
        · unfold hX11_owed hgX11_owed_20 hgX11_owed_53
          rw [r_isStreet iR.sn.1.1 g, cl_some, if_neg (told1 h0), if_pos rfl, x_in1 (b := 1) (q := 1) hj (by decide) rfl, cl_some, if_neg (by decide), if_pos rfl, iR.sn.1.1.2.2.2.1, r_frN (by omega) hj hN, cl_some]
    · rcases pk_ix p1 (n := sG (aS A) 1) (by omega) with h | h | ⟨p, hp, rfl⟩
      · refine ⟨-1, fun u iC => ?_, fun m u iR => ?_⟩
        · unfold hX10_owed; rw [c_deb0 iC g e1 (Or.inl h), cl_some, if_pos rfl]
        · unfold hX11_owed; rw [r_isStreet iR.sn.1.1 g, cl_some, if_neg (told1 h0), if_neg e1, r_isP0 iR.sn.1.1 g (Or.inl h), cl_some, if_pos rfl]
      · refine ⟨-1, fun u iC => ?_, fun m u iR => ?_⟩
        · unfold hX10_owed; rw [c_deb0 iC g e1 (Or.inr h), cl_some, if_pos rfl]
        · unfold hX11_owed; rw [r_isStreet iR.sn.1.1 g, cl_some, if_neg (told1 h0), if_neg e1, r_isP0 iR.sn.1.1 g (Or.inr h), cl_some, if_pos rfl]
      · have hO := (hb.2.2.2.1 p hp).2.2
        rcases part_cases p2 with ho | ⟨j, hj, rfl⟩
        · refine ⟨-1, fun u iC => ?_, fun m u iR => ?_⟩
          · unfold hX10_owed; rw [c_debP iC g h0 hp, cl_some, if_neg (by decide), c_isPart0 ho, cl_some, if_pos rfl]
          · unfold hX11_owed hgX11_owed_20; rw [r_isStreet iR.sn.1.1 g, cl_some, if_neg (told1 h0), if_neg e1, r_isP1 iR.sn.1.1 g hp, cl_some, if_neg (by decide), x_in0 (b := 1) (q := 1) ho (by decide) rfl, cl_some, if_pos rfl]
        · refine ⟨frV false (mO (sM (aS A)) p) 60 j, fun u iC => ?_, fun m u iR => ?_⟩
          · unfold hX10_owed
            rw [c_debP iC g h0 hp, cl_some, if_neg (by decide), c_isPart1 hj, cl_some, if_neg (by decide)]
            unfold fX10_debtorRow
            rw [if_neg e1, cl_some, ixI (by omega) (by decide), nI_clamp (by omega), show zL u (x + 28) p = lN (mO (sM (aS A)) p) from (iC.sn.2.1.2.2.2.2.2.1 p hp).2.2, c_frN (by omega) hj hN, cl_some]
          · unfold hX11_owed hgX11_owed_20 hgX11_owed_53
            rw [r_isStreet iR.sn.1.1 g, cl_some, if_neg (told1 h0), if_neg e1, r_isP1 iR.sn.1.1 g hp, cl_some, if_neg (by decide), x_in1 (b := 1) (q := 1) hj (by decide) rfl, cl_some, if_neg (by decide), if_neg e1, r_pOf5 (by omega), cl_some, (iR.sn.1.1.2.2.2.2.1 p hp).2.2.2.2.2, r_frN (by omega) hj hN, cl_some]
theorem SP_rw {m : Nat} : ∀ a k, m ≤ a → a ≤ m + 19 → SP m a k → Rw m a k ∨ (a = m + 10 ∧ k < 45) := fun a k _ _ h => by unfold SP at h; unfold Rw; omega
theorem SP_sr {m : Nat} : ∀ a k, SP m a k → Sr m a k := fun a k h => by unfold SP at h; unfold Sr; omega
theorem op_ahead (p1 p2 p3 : Int32) (hN : 2000 ≤ N) : OpOK (fun x u => fX10_ahead N x p1 p2 p3 u) (fun m u => fX11_ahead N m p1 p2 p3 u) := by
  refine op_ask (fun x u h => eX10_ahead N x p1 p2 p3 u h) (fun m u h => eX11_ahead N m p1 p2 p3 u h) (fun c x A hc hA => ?_)
  obtain ⟨g, hb, -⟩ := hA.2.2.2.2.1
  have g1 := g.2.1
  have nop : ∀ (H : p1 < 0 ∨ nI (sG (aS A) 1) ≤ p1), ∃ r, (∀ u, LY u → zK u x = 11 → InvC u x A → ∃ u1, hX10_ahead N x p1 p2 p3 u = some (r, u1) ∧ Fz (Cw x) u u1) ∧ ∀ (m : Nat) (u : SG), InvR u m A → ∃ u1, hX11_ahead N m p1 p2 p3 u = some (r, u1) ∧ InvR u1 m A ∧ Fz (Sr m) u u1 := by
    intro H
    refine ⟨-1, fun u _ _ iC => ⟨u, ?_, Fz.rf⟩, fun m u iR => ⟨u, ?_, iR, Fz.rf⟩⟩
    · unfold hX10_ahead; rw [c_isP0 iC.sn.1 g H, cl_some, if_pos rfl]
    · unfold hX11_ahead; rw [r_isP0 iR.sn.1.1 g H, cl_some, if_pos rfl]
  rcases pk_ix p1 (n := sG (aS A) 1) (by omega) with h | h | ⟨p, hp, rfl⟩
  · exact nop (Or.inl h)
  · exact nop (Or.inr h)
  have h0 : 0 < sG (aS A) 0 := by
    rcases Nat.eq_zero_or_pos (sG (aS A) 0) with e | e
    · have := (g.2.2.2.2.2.1 e).1; omega
    · exact e
  rcases pk_ix p2 (n := 101) (by decide) with h | h | ⟨n, hn, rfl⟩
  · refine ⟨-1, fun u _ _ iC => ⟨u, ?_, Fz.rf⟩, fun m u iR => ⟨u, ?_, iR, Fz.rf⟩⟩
    · unfold hX10_ahead; rw [c_isP1 iC.sn.1 g hp, cl_some, if_neg (by decide), if_pos h]
    · unfold hX11_ahead; rw [r_isP1 iR.sn.1.1 g hp, cl_some, if_neg (by decide), x_in0 (b := 100) (q := 100) (Or.inl h) (by decide) rfl, cl_some, if_pos rfl]
  · have hnl : ¬ p2 ≤ (100 : Int32) := fun z => by
      have hl := nI_lt_of (n := 100) (by decide) h
      rw [Int32.lt_iff_toInt_lt] at hl
      rw [Int32.le_iff_toInt_le] at z
      have : (nI 100).toInt = (100 : Int32).toInt := rfl
      omega
    refine ⟨-1, fun u _ _ iC => ⟨u, ?_, Fz.rf⟩, fun m u iR => ⟨u, ?_, iR, Fz.rf⟩⟩
    · unfold hX10_ahead; rw [c_isP1 iC.sn.1 g hp, cl_some, if_neg (by decide), if_neg (not_lt0 (by decide) h), if_neg hnl]
    · unfold hX11_ahead; rw [r_isP1 iR.sn.1.1 g hp, cl_some, if_neg (by decide), x_in0 (b := 100) (q := 100) (Or.inr h) (by decide) rfl, cl_some, if_pos rfl]
  have hn' : n ≤ 100 := by omega
  rcases pk_ix p3 (n := 3) (by decide) with h | h | ⟨j, hj, rfl⟩
  · refine ⟨-1, fun u _ _ iC => ⟨u, ?_, Fz.rf⟩, fun m u iR => ⟨u, ?_, iR, Fz.rf⟩⟩
    · unfold hX10_ahead; rw [c_isP1 iC.sn.1 g hp, cl_some, if_neg (by decide), if_neg (nI_pos (by omega)), if_pos (show nI n ≤ (100 : Int32) from nI_le hn' (by decide)), if_pos h]
    · unfold hX11_ahead; rw [r_isP1 iR.sn.1.1 g hp, cl_some, if_neg (by decide), x_in1 (b := 100) (q := 100) hn' (by decide) rfl, cl_some, if_neg (by decide), x_in0 (b := 2) (q := 2) (Or.inl h) (by decide) rfl, cl_some, if_pos rfl]
  · have hnl : ¬ p3 ≤ (2 : Int32) := fun z => by
      have hl := nI_lt_of (n := 2) (by decide) h
      rw [Int32.lt_iff_toInt_lt] at hl
      rw [Int32.le_iff_toInt_le] at z
      have : (nI 2).toInt = (2 : Int32).toInt := rfl
      omega
    refine ⟨-1, fun u _ _ iC => ⟨u, ?_, Fz.rf⟩, fun m u iR => ⟨u, ?_, iR, Fz.rf⟩⟩
    · unfold hX10_ahead; rw [c_isP1 iC.sn.1 g hp, cl_some, if_neg (by decide), if_neg (nI_pos (by omega)), if_pos (show nI n ≤ (100 : Int32) from nI_le hn' (by decide)), if_neg (not_lt0 (by decide) h), if_neg hnl]
    · unfold hX11_ahead; rw [r_isP1 iR.sn.1.1 g hp, cl_some, if_neg (by decide), x_in1 (b := 100) (q := 100) hn' (by decide) rfl, cl_some, if_neg (by decide), x_in0 (b := 2) (q := 2) (Or.inr h) (by decide) rfl, cl_some, if_pos rfl]
  refine ⟨nI (if j = 0 then b2n (mA (hrN (sG (aS A)) (oR A) (sM (aS A)) n) p) else if j = 1 then mS (hrN (sG (aS A)) (oR A) (sM (aS A)) n) p else mD (hrN (sG (aS A)) (oR A) (sM (aS A)) n) p), fun u _ _ iC => ?_, fun m u iR => ?_⟩
  · obtain ⟨u1, e1, e2, e3⟩ := c_momCopy (N := N) (a0 := x + 119) (p1 := x + 25) g iC.sn.2.1 (by omega)
    have f1 : Fz (Cw x) u u1 := e3.w (fun a k q => by unfold SM at q; unfold Cw; omega)
    obtain ⟨u2, a1, a2, a3⟩ := c_playTrial (N := N) (iC.z f1 (fun a k q => Or.inr q)) hA e2 hb h0 hn' (by omega) hN
    refine ⟨u2, ?_, f1.tr a3⟩
    have s5 := p5 g1 (slS_lt (sG (aS A)) (hrN (sG (aS A)) (oR A) (sM (aS A)) n))
    unfold hX10_ahead
    rw [c_isP1 iC.sn.1 g hp, cl_some, if_neg (by decide), if_neg (nI_pos (by omega)), if_pos (show nI n ≤ (100 : Int32) from nI_le hn' (by decide)), if_neg (nI_pos (by omega)), if_pos (show nI j ≤ (2 : Int32) from nI_le (a := j) (b := 2) (by omega) (by decide)), e1, cl_some, a1, cl_some]
    rcases (by omega : j = 0 ∨ j = 1 ∨ j = 2) with rfl | rfl | rfl
    · rw [if_pos (by decide), a2.2.2.1, x_bitOf (by omega) (by omega), cl_some, sl_tb hp]
      rfl
    · rw [if_neg (by decide), if_pos (by decide), ixI (by omega) (by decide), nI_clamp (by omega)]
      exact congrArg (fun z => some (z, u2)) (a2.2.2.2.2.2.1 p hp).1
    · rw [if_neg (by decide), if_neg (by decide), ixI (by omega) (by decide), nI_clamp (by omega)]
      exact congrArg (fun z => some (z, u2)) (a2.2.2.2.2.2.1 p hp).2.1
  · obtain ⟨u1, e1, e2, e3, e4⟩ := r_keeps (N := N) u m hN
    have h10 : zI u1 (m + 10) = zI u (m + 10) := funext fun k => e4.I (by omega)
    unfold hX11_ahead
    rw [r_isP1 iR.sn.1.1 g hp, cl_some, if_neg (by decide), x_in1 (b := 100) (q := 100) hn' (by decide) rfl, cl_some, if_neg (by decide), x_in1 (b := 2) (q := 2) (by omega) (by decide) rfl, cl_some, if_neg (by decide), e1, cl_some]
    refine r_loop (o := oR A) (G := sG (aS A)) (M := sM (aS A)) (d := c) (u := u1) (m := m) (fun f k v => hgX11_ahead_41 N f m (nI p) (nI n) (nI j) (nI k) v) n hn' (fun r => ∃ u9, r = some (_, u9) ∧ InvR u9 m A ∧ Fz (Sr m) u u9) (by rw [h10]; exact iR.sn.1.1) (by rw [h10]; exact iR.sn.1.2.1) g hb (by omega) h0 ((r_fo iR hA).zz e4 (fun a k q => by omega) (by omega)) (fun p hp => e3 p (by omega)) ?_ ?_ hN
    · intro f k v hk
      rw [hgX11_ahead_41, if_neg (nI_ge hk (by omega)), lit_1, nI_add]
    · intro f v i1 i2 i3
      obtain ⟨u3, l1, l2, l3⟩ := r_laysBack (N := N) v m hN
      have f3 : Fz (SP m) u1 u3 := i3.tr (l3.w (fun a k q => by unfold S10 at q; unfold SP; omega))
      have hkk : ∀ k, k < 45 → zI u3 (m + 10) k = zI u (m + 10) k := fun k hk => by rw [l2 k hk, i3.I (by unfold SP; omega), e2 k hk]
      refine ⟨u3, ?_, r_back (P := fun a k => SP m a k ∨ a = m + 13 ∨ a = m + 11) iR hkk ((e4.w (fun a k q => by omega)).tr (f3.w (fun a k q => Or.inl q))) (fun a k q1 q2 q => by rcases q with q | q; exact SP_rw a k q1 q2 q; unfold Rw; omega), (e4.w (fun a k q => by unfold Sr; omega)).tr (f3.w SP_sr)⟩
      obtain ⟨q0, q1, q2, q3, q4, q5⟩ := i1.2.2.2.2.1 p hp
      rw [hgX11_ahead_41, if_pos (nI_le (by omega) (by omega)), lit_2, nI_add, r_personOf (by omega) (by omega), cl_some, l1, cl_some]
      rcases (by omega : j = 0 ∨ j = 1 ∨ j = 2) with rfl | rfl | rfl
      · exact congrArg (fun z => some (z, u3)) q2
      · exact congrArg (fun z => some (z, u3)) q3
      · exact congrArg (fun z => some (z, u3)) q4
end OPS2
