/-! THE LAW LOOP, given the calls not proved yet -/
theorem i_low5 (a : Int32) : ∃ j : Nat, j < 32 ∧ a &&& (31 : Int32) = nI j := by
  have e : a = nI a.toBitVec.toNat := Int32.toBitVec_inj.mp (by show a.toBitVec = BitVec.ofNat 32 a.toBitVec.toNat; simp)
  refine ⟨a.toBitVec.toNat % 32, Nat.mod_lt _ (by decide), ?_⟩
  rw [e, show (31 : Int32) = nI 31 from rfl, nI_and, show (31 : Nat) = 2 ^ 5 - 1 from rfl, Nat.and_two_pow_sub_one_eq_mod, ← e]
theorem law_loop {N L : Nat} {xs : Nat → Int32} (hN : 2000 ≤ N) (hL : L ≤ 3072) (o_street : OpOK (fun x u => fX10_street N x u) (fun m u => fX11_street N m u)) (o_rule : OpOK (fun x u => fX10_rule N x u) (fun m u => fX11_rule N m u)) (o_cheap : ∀ p1 p2 p3 : Int32, OpOK (fun x u => fX10_cheap N x p1 p2 p3 u) (fun m u => fX11_cheap N m p1 p2 p3 u)) (o_guild : ∀ p1 p2 p3 : Int32, OpOK (fun x u => fX10_guild N x p1 p2 p3 u) (fun m u => fX11_guild N m p1 p2 p3 u)) (o_nights : ∀ p1 p2 p3 p4 : Int32, OpOK (fun x u => fX10_nights N x p1 p2 p3 p4 u) (fun m u => fX11_nights N m p1 p2 p3 p4 u)) : ∀ (n k x : Nat) (A : AT) (u : SG), 6 * k ≤ L + 5 → L + 6 ≤ 6 * k + 6 * n → Aok k A → Inv u x A → ∃ u', gL_law_18 N L xs n x (x + 193) (nI (6 * k)) u = some (1, u') := by
  intro n
  induction n with
  | zero => intro k x A u h1 h2; omega
  | succ n ih =>
    intro k x A u h1 h2 hA hi
    have ih' := fun (A' : AT) (u2 : SG) (q1 : 6 * (k + 1) ≤ L + 5) => ih (k + 1) x A' u2 q1 (by omega)
    have hx : (nI (6 * k) + (6 : Int32)) = nI (6 * (k + 1)) := by rw [lit_6, nI_add]; rfl
    rw [gL_law_18]
    by_cases hk : L < 6 * k + 6
    · refine ⟨u, ?_⟩
      rw [if_pos]
      rw [lit_6, Int32.lt_iff_toInt_lt, pk_sub_toInt (by omega) (by decide), nI_toInt (by omega)]
      omega
    · have q1 : 6 * (k + 1) ≤ L + 5 := by omega
      have k6 : k < 600 := by omega
      rw [if_neg (fun z => by
        rw [lit_6, Int32.lt_iff_toInt_lt, pk_sub_toInt (by omega) (by decide), nI_toInt (by omega)] at z
        omega)]
      have b0 : ¬ (nI (6 * k) < 0 ∨ L ≤ (nI (6 * k)).toNatClampNeg) := nI_in (by omega) (by omega)
      have b1 : ¬ (nI (6 * k) + (1 : Int32) < 0 ∨ L ≤ (nI (6 * k) + (1 : Int32)).toNatClampNeg) := by rw [lit_1, nI_add]; exact nI_in (by omega) (by omega)
      have b2 : ¬ (nI (6 * k) + (2 : Int32) < 0 ∨ L ≤ (nI (6 * k) + (2 : Int32)).toNatClampNeg) := by rw [lit_2, nI_add]; exact nI_in (by omega) (by omega)
      have b3 : ¬ (nI (6 * k) + (3 : Int32) < 0 ∨ L ≤ (nI (6 * k) + (3 : Int32)).toNatClampNeg) := by rw [lit_3, nI_add]; exact nI_in (by omega) (by omega)
      have b4 : ¬ (nI (6 * k) + (4 : Int32) < 0 ∨ L ≤ (nI (6 * k) + (4 : Int32)).toNatClampNeg) := by rw [lit_4, nI_add]; exact nI_in (by omega) (by omega)
      have b5 : ¬ (nI (6 * k) + (5 : Int32) < 0 ∨ L ≤ (nI (6 * k) + (5 : Int32)).toNatClampNeg) := by rw [lit_5, nI_add]; exact nI_in (by omega) (by omega)
      obtain ⟨j, hj, ej⟩ := i_low5 (xs (nI (6 * k)).toNatClampNeg)
      rw [if_neg b0, bs_eq, ej, hx]
      clear b0 ej hx
      generalize (xs (nI (6 * k) + (1 : Int32)).toNatClampNeg) = y1
      generalize (xs (nI (6 * k) + (2 : Int32)).toNatClampNeg) = y2
      generalize (xs (nI (6 * k) + (3 : Int32)).toNatClampNeg) = y3
      generalize (xs (nI (6 * k) + (4 : Int32)).toNatClampNeg) = y4
      generalize (xs (nI (6 * k) + (5 : Int32)).toNatClampNeg) = y5
      have hst : ∀ {fc fr : Nat → SG → Option (Int32 × SG)}, OpOK fc fr → ∃ u', (if zK u x = 11 then cl (fc x u) fun r2 u3 => (if zK u3 (x + 193) = 12 then cl (fr (x + 193) u3) fun r4 u5 => (if r2 = r4 then gL_law_18 N L xs n x (x + 193) (nI (6 * (k + 1))) u5 else some ((0 : Int32), u5)) else none) else none) = some (1, u') := by
        intro fc fr ho
        obtain ⟨r, A', u1, u2, e1, e2, e3, e4, e5⟩ := ho k x A u k6 hA hi
        rw [if_pos hi.2.1, e1, cl_some, if_pos e3, e2, cl_some, if_pos rfl]
        exact ih' A' u2 q1 e5 e4
      by_cases c0 : nI j = (0 : Int32)
      · rw [if_pos c0]
        simp only [if_neg b1, if_neg b2, if_neg b3, if_neg b4, if_neg b5]
        exact hst (op_feed y1 y2 y3 y4 y5 hN)
      rw [if_neg c0]
      by_cases c1 : nI j = (1 : Int32)
      · rw [if_pos c1]
        simp only [if_neg b1]
        exact hst (op_end (N := N) y1)
      rw [if_neg c1]
      by_cases c2 : nI j = (2 : Int32)
      · rw [if_pos c2]
        exact hst (o_street)
      rw [if_neg c2]
      by_cases c3 : nI j = (3 : Int32)
      · rw [if_pos c3]
        exact hst (o_rule)
      rw [if_neg c3]
      by_cases c4 : nI j = (4 : Int32)
      · rw [if_pos c4]
        simp only [if_neg b1]
        exact hst (op_force (N := N) y1)
      rw [if_neg c4]
      by_cases c5 : nI j = (5 : Int32)
      · rw [if_pos c5]
        simp only [if_neg b1, if_neg b2]
        exact hst (op_person y1 y2 hN)
      rw [if_neg c5]
      by_cases c6 : nI j = (6 : Int32)
      · rw [if_pos c6]
        simp only [if_neg b1, if_neg b2]
        exact hst (op_lamp y1 y2 hN)
      rw [if_neg c6]
      by_cases c7 : nI j = (7 : Int32)
      · rw [if_pos c7]
        exact hst (op_hour hN)
      rw [if_neg c7]
      by_cases c8 : nI j = (8 : Int32)
      · rw [if_pos c8]
        by_cases q : y2 = 0
        · simp only [if_neg b1, if_neg b2, if_pos q]
          have ho : OpOK (fun x u => fX10_sleep N x y1 (0 : Int32) u) (fun m u => fX11_sleep N m y1 (0 : Int32) u) := op_sleep y1 false hN
          exact hst ho
        · simp only [if_neg b1, if_neg b2, if_neg q]
          have ho : OpOK (fun x u => fX10_sleep N x y1 (1 : Int32) u) (fun m u => fX11_sleep N m y1 (1 : Int32) u) := op_sleep y1 true hN
          exact hst ho
      rw [if_neg c8]
      by_cases c9 : nI j = (9 : Int32)
      · rw [if_pos c9]
        by_cases q : y2 = 0
        · simp only [if_neg b1, if_neg b2, if_pos q]
          have ho : OpOK (fun x u => fX10_light N x y1 (0 : Int32) u) (fun m u => fX11_light N m y1 (0 : Int32) u) := op_light y1 false hN
          exact hst ho
        · simp only [if_neg b1, if_neg b2, if_neg q]
          have ho : OpOK (fun x u => fX10_light N x y1 (1 : Int32) u) (fun m u => fX11_light N m y1 (1 : Int32) u) := op_light y1 true hN
          exact hst ho
      rw [if_neg c9]
      by_cases c10 : nI j = (10 : Int32)
      · rw [if_pos c10]
        exact hst (op_undo hN)
      rw [if_neg c10]
      by_cases c11 : nI j = (11 : Int32)
      · rw [if_pos c11]
        simp only [if_neg b1, if_neg b2]
        exact hst (op_owed y1 y2 hN)
      rw [if_neg c11]
      by_cases c12 : nI j = (12 : Int32)
      · rw [if_pos c12]
        simp only [if_neg b1, if_neg b2, if_neg b3]
        exact hst (op_ahead y1 y2 y3 hN)
      rw [if_neg c12]
      by_cases c13 : nI j = (13 : Int32)
      · rw [if_pos c13]
        simp only [if_neg b1, if_neg b2, if_neg b3]
        exact hst (o_cheap y1 y2 y3)
      rw [if_neg c13]
      by_cases c14 : nI j = (14 : Int32)
      · rw [if_pos c14]
        simp only [if_neg b1]
        exact hst (op_rest y1 hN)
      rw [if_neg c14]
      by_cases c15 : nI j = (15 : Int32)
      · rw [if_pos c15]
        simp only [if_neg b1]
        exact hst (op_dark y1 hN)
      rw [if_neg c15]
      by_cases c16 : nI j = (16 : Int32)
      · rw [if_pos c16]
        simp only [if_neg b1, if_neg b2, if_neg b3]
        exact hst (o_guild y1 y2 y3)
      rw [if_neg c16]
      by_cases c17 : nI j = (17 : Int32)
      · rw [if_pos c17]
        simp only [if_neg b1, if_neg b2, if_neg b3, if_neg b4]
        exact hst (op_fact y1 y2 y3 y4 hN)
      rw [if_neg c17]
      by_cases c18 : nI j = (18 : Int32)
      · rw [if_pos c18]
        simp only [if_neg b1]
        exact hst (op_slept y1 hN)
      rw [if_neg c18]
      by_cases c19 : nI j = (19 : Int32)
      · rw [if_pos c19]
        simp only [if_neg b1]
        exact hst (op_ask' y1 hN)
      rw [if_neg c19]
      by_cases c20 : nI j = (20 : Int32)
      · rw [if_pos c20]
        simp only [if_neg b1, if_neg b2, if_neg b3, if_neg b4]
        exact hst (o_nights y1 y2 y3 y4)
      rw [if_neg c20]
      by_cases c21 : nI j = (21 : Int32)
      · rw [if_pos c21]
        simp only [if_neg b1, if_neg b2, if_neg b3]
        exact hst (op_turned y1 y2 y3 hN)
      rw [if_neg c21]
      by_cases c22 : nI j = (22 : Int32)
      · rw [if_pos c22]
        simp only [if_neg b1, if_neg b2, if_neg b3, if_neg b4]
        exact hst (op_spite y1 y2 y3 y4 hN)
      rw [if_neg c22]
      by_cases c23 : nI j = (23 : Int32)
      · rw [if_pos c23]
        simp only [if_neg b1]
        exact hst (op_seed (N := N) y1)
      rw [if_neg c23]
      by_cases c24 : nI j = (24 : Int32)
      · rw [if_pos c24]
        simp only [if_neg b1, if_neg b2, if_neg b3, if_neg b4]
        exact hst (op_lives y1 y2 y3 y4 hN)
      rw [if_neg c24]
      by_cases c25 : nI j = (25 : Int32)
      · rw [if_pos c25]
        simp only [if_neg b1]
        exact hst (op_count y1 hN)
      rw [if_neg c25]
      by_cases c26 : nI j = (26 : Int32)
      · rw [if_pos c26]
        simp only [if_neg b1]
        exact hst (op_image y1 hN)
      rw [if_neg c26]
      by_cases c27 : nI j = (27 : Int32)
      · rw [if_pos c27]
        simp only [if_neg b1]
        exact hst (op_back y1 hN)
      rw [if_neg c27]
      exact ih' A u q1 (hA.mono (Nat.le_succ k)) hi
