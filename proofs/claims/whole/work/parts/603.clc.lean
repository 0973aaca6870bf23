set_option maxRecDepth 20000 in
def hX0_clear (N : Nat)  (a0 : Nat) (u : SG) : Option (Unit × SG) := bs (sI u a0 2 (0 : Int32)) fun u1 => (some ((), u1))
set_option maxRecDepth 20000 in
theorem eX0_clear (N : Nat)  (a0 : Nat) (u : SG) (h_u : HK [(some a0, 1)] u) : fX0_clear N  a0 u = hX0_clear N  a0 u := by
  unfold fX0_clear hX0_clear
  refine eq_g (show zK u a0 = 1 from (h_u.g 0 rfl)) ?_
  refine eq_sH (h_u.fr (P := PT) (Fr.sIr trivial)) (fun u1 h_u1 => ?_)
  rfl
set_option maxRecDepth 20000 in
def hX2_copyOf (N : Nat)  (a0 : Nat) (p1 : Nat) (u : SG) : Option (Unit × SG) := bs (sI u a0 0 (zI u p1 0)) fun u1 => (bs (sI u1 a0 1 (zI u1 p1 1)) fun u2 => (bs (sI u2 a0 2 (zI u2 p1 2)) fun u3 => (bs (sI u3 a0 3 (zI u3 p1 3)) fun u4 => (bs (sI u4 a0 4 (zI u4 p1 4)) fun u5 => (bs (sIr u5 (a0 + 1) (va_cpy (zI u5 (p1 + 1)) (zI u5 (a0 + 1)) (0 : Int32).toNatClampNeg (0 : Int32).toNatClampNeg (5 : Int32).toNatClampNeg)) fun u8 => (bs (sIr u8 (a0 + 2) (va_cpy (zI u8 (p1 + 2)) (zI u8 (a0 + 2)) (0 : Int32).toNatClampNeg (0 : Int32).toNatClampNeg (5 : Int32).toNatClampNeg)) fun u11 => (bs (sLr u11 (a0 + 3) (va_cpy (zL u11 (p1 + 3)) (zL u11 (a0 + 3)) (0 : Int32).toNatClampNeg (0 : Int32).toNatClampNeg (6 : Int32).toNatClampNeg)) fun u14 => (some ((), u14)))))))))
set_option maxRecDepth 20000 in
theorem eX2_copyOf (N : Nat)  (a0 : Nat) (p1 : Nat) (u : SG) (h_u : HK [(some a0, 3), (some p1, 3)] u) : fX2_copyOf N  a0 p1 u = hX2_copyOf N  a0 p1 u := by
  unfold fX2_copyOf hX2_copyOf
  refine eq_g (show zK u p1 = 3 from (h_u.g 1 rfl)) ?_
  refine eq_g (show zK u a0 = 3 from (h_u.g 0 rfl)) ?_
  refine eq_sH (h_u.fr (P := PT) (Fr.sIr trivial)) (fun u1 h_u1 => ?_)
  refine eq_g (show zK u1 p1 = 3 from (h_u1.g 1 rfl)) ?_
  refine eq_g (show zK u1 a0 = 3 from (h_u1.g 0 rfl)) ?_
  refine eq_sH (h_u1.fr (P := PT) (Fr.sIr trivial)) (fun u2 h_u2 => ?_)
  refine eq_g (show zK u2 p1 = 3 from (h_u2.g 1 rfl)) ?_
  refine eq_g (show zK u2 a0 = 3 from (h_u2.g 0 rfl)) ?_
  refine eq_sH (h_u2.fr (P := PT) (Fr.sIr trivial)) (fun u3 h_u3 => ?_)
  refine eq_g (show zK u3 p1 = 3 from (h_u3.g 1 rfl)) ?_
  refine eq_g (show zK u3 a0 = 3 from (h_u3.g 0 rfl)) ?_
  refine eq_sH (h_u3.fr (P := PT) (Fr.sIr trivial)) (fun u4 h_u4 => ?_)
  refine eq_g (show zK u4 p1 = 3 from (h_u4.g 1 rfl)) ?_
  refine eq_g (show zK u4 a0 = 3 from (h_u4.g 0 rfl)) ?_
  refine eq_sH (h_u4.fr (P := PT) (Fr.sIr trivial)) (fun u5 h_u5 => ?_)
  refine eq_g (show zK u5 p1 = 3 from (h_u5.g 1 rfl)) ?_
  refine eq_bR (show zR u5 p1 5 = some (p1 + 1) from lyR_3_5 h_u5.1 (h_u5.g 1 rfl)) ?_
  refine eq_g (show zK u5 a0 = 3 from (h_u5.g 0 rfl)) ?_
  refine eq_bR (show zR u5 a0 5 = some (a0 + 1) from lyR_3_5 h_u5.1 (h_u5.g 0 rfl)) ?_
  refine eq_g (show zK u5 (p1 + 1) = 22 from (lyK_3_5 h_u5.1 (h_u5.g 1 rfl))) ?_
  refine eq_g (show zK u5 (a0 + 1) = 22 from (lyK_3_5 h_u5.1 (h_u5.g 0 rfl))) ?_
  refine eq_n (by rw [show zN u5 (p1 + 1) = 5 from lyN_3_5 h_u5.1 (h_u5.g 1 rfl), show zN u5 (a0 + 1) = 5 from lyN_3_5 h_u5.1 (h_u5.g 0 rfl)]; decide) ?_
  refine eq_sH (h_u5.fr (P := PT) (Fr.sIr trivial)) (fun u8 h_u8 => ?_)
  refine eq_g (show zK u8 p1 = 3 from (h_u8.g 1 rfl)) ?_
  refine eq_bR (show zR u8 p1 6 = some (p1 + 2) from lyR_3_6 h_u8.1 (h_u8.g 1 rfl)) ?_
  refine eq_g (show zK u8 a0 = 3 from (h_u8.g 0 rfl)) ?_
  refine eq_bR (show zR u8 a0 6 = some (a0 + 2) from lyR_3_6 h_u8.1 (h_u8.g 0 rfl)) ?_
  refine eq_g (show zK u8 (p1 + 2) = 22 from (lyK_3_6 h_u8.1 (h_u8.g 1 rfl))) ?_
  refine eq_g (show zK u8 (a0 + 2) = 22 from (lyK_3_6 h_u8.1 (h_u8.g 0 rfl))) ?_
  refine eq_n (by rw [show zN u8 (p1 + 2) = 5 from lyN_3_6 h_u8.1 (h_u8.g 1 rfl), show zN u8 (a0 + 2) = 5 from lyN_3_6 h_u8.1 (h_u8.g 0 rfl)]; decide) ?_
  refine eq_sH (h_u8.fr (P := PT) (Fr.sIr trivial)) (fun u11 h_u11 => ?_)
  refine eq_g (show zK u11 p1 = 3 from (h_u11.g 1 rfl)) ?_
  refine eq_bR (show zR u11 p1 7 = some (p1 + 3) from lyR_3_7 h_u11.1 (h_u11.g 1 rfl)) ?_
  refine eq_g (show zK u11 a0 = 3 from (h_u11.g 0 rfl)) ?_
  refine eq_bR (show zR u11 a0 7 = some (a0 + 3) from lyR_3_7 h_u11.1 (h_u11.g 0 rfl)) ?_
  refine eq_g (show zK u11 (p1 + 3) = 23 from (lyK_3_7 h_u11.1 (h_u11.g 1 rfl))) ?_
  refine eq_g (show zK u11 (a0 + 3) = 23 from (lyK_3_7 h_u11.1 (h_u11.g 0 rfl))) ?_
  refine eq_n (by rw [show zN u11 (p1 + 3) = 6 from lyN_3_7 h_u11.1 (h_u11.g 1 rfl), show zN u11 (a0 + 3) = 6 from lyN_3_7 h_u11.1 (h_u11.g 0 rfl)]; decide) ?_
  refine eq_sH (h_u11.fr (P := PT) (Fr.sLr trivial)) (fun u14 h_u14 => ?_)
  rfl
set_option maxRecDepth 20000 in
def hgX0_keep_21 (N : Nat)   (x0 : Nat) (x1 : Nat) (u : SG) : Option (Unit × SG) := if (zI u x0 1) < 0 ∨ 20 ≤ (zI u x0 1).toNatClampNeg then none else (cl (hX2_copyOf N (x0 + 2 + 4 * (zI u x0 1).toNatClampNeg) x1 u) fun r3 u4 => (if (20 : Int32) = 0 then (none)
  else (bs (sI u4 x0 1 (((zI u4 x0 1) + (1 : Int32)) - ((zI u4 x0 1) + (1 : Int32)) / (20 : Int32) * (20 : Int32))) fun u5 => (cl (fJ9_min_7cf53 N (20 : Int32) ((zI u5 x0 2) + (1 : Int32)) u5) fun r6 u7 => (bs (sI u7 x0 2 r6) fun u8 => (some ((), u8)))))))
set_option maxRecDepth 20000 in
theorem egX0_keep_21 (N : Nat)   (x0 : Nat) (x1 : Nat) (u : SG) (h_u : HK [(some x0, 1), (some x1, 3)] u) : gX0_keep_21 N   x0 x1 u = hgX0_keep_21 N   x0 x1 u := by
  unfold gX0_keep_21 hgX0_keep_21
  refine eq_g (show zK u x0 = 1 from (h_u.g 0 rfl)) ?_
  refine eq_bR (show zR u x0 0 = some (x0 + 1) from lyR_1_0 h_u.1 (h_u.g 0 rfl)) ?_
  refine eq_g (show zK u x0 = 1 from (h_u.g 0 rfl)) ?_
  refine eq_g (show zK u (x0 + 1) = 25 from (lyK_1_0 h_u.1 (h_u.g 0 rfl))) ?_
  refine eq_ixh (show zN u (x0 + 1) = 20 from lyN_1_0 h_u.1 (h_u.g 0 rfl)) (fun hix1 => ?_)
  refine eq_bR (show zR u (x0 + 1) (zI u x0 1).toNatClampNeg = some (x0 + 2 + 4 * (zI u x0 1).toNatClampNeg) from (lyE_1 h_u.1 (h_u.g 0 rfl) (Nat.lt_of_not_le (fun h9 => hix1 (Or.inr h9)))).1) ?_
  refine eq_g (show zK u (x0 + 2 + 4 * (zI u x0 1).toNatClampNeg) = 3 from (lyE_1 h_u.1 (h_u.g 0 rfl) (Nat.lt_of_not_le (fun h9 => hix1 (Or.inr h9)))).2) ?_
  refine eq_cH (eX2_copyOf N (x0 + 2 + 4 * (zI u x0 1).toNatClampNeg) x1 u (hkc (show zK u (x0 + 2 + 4 * (zI u x0 1).toNatClampNeg) = 3 from (lyE_1 h_u.1 (h_u.g 0 rfl) (Nat.lt_of_not_le (fun h9 => hix1 (Or.inr h9)))).2) (hkc (show zK u x1 = 3 from (h_u.g 1 rfl)) (hk0 h_u.1)))) (fun r3 u4 e9 => h_u.fr (fr_X2_copyOf (P := PT) N (x0 + 2 + 4 * (zI u x0 1).toNatClampNeg) x1 u clPT trivial trivial _ _ e9).1) (fun r3 u4 h_u4 => ?_)
  refine eq_g (show zK u4 x0 = 1 from (h_u4.g 0 rfl)) ?_
  refine eq_if ?_ ?_
  · rfl
  · refine eq_g (show zK u4 x0 = 1 from (h_u4.g 0 rfl)) ?_
    refine eq_sH (h_u4.fr (P := PT) (Fr.sIr trivial)) (fun u5 h_u5 => ?_)
    refine eq_g (show zK u5 x0 = 1 from (h_u5.g 0 rfl)) ?_
    refine eq_cH rfl (fun r6 u7 e9 => h_u5.fr (fr_J9_min_7cf53 (P := PT) N (20 : Int32) ((zI u5 x0 2) + (1 : Int32)) u5 clPT _ _ e9).1) (fun r6 u7 h_u7 => ?_)
    refine eq_g (show zK u7 x0 = 1 from (h_u7.g 0 rfl)) ?_
    refine eq_sH (h_u7.fr (P := PT) (Fr.sIr trivial)) (fun u8 h_u8 => ?_)
    rfl
set_option maxRecDepth 20000 in
def hgX0_keep_16 (N : Nat)   (x0 : Nat) (x1 : Nat) (u : SG) : Option (Unit × SG) := bs (sI u x0 1 (0 : Int32)) fun u1 => (hgX0_keep_21 N    x0 x1 u1)
set_option maxRecDepth 20000 in
theorem egX0_keep_16 (N : Nat)   (x0 : Nat) (x1 : Nat) (u : SG) (h_u : HK [(some x0, 1), (some x1, 3)] u) : gX0_keep_16 N   x0 x1 u = hgX0_keep_16 N   x0 x1 u := by
  unfold gX0_keep_16 hgX0_keep_16
  refine eq_g (show zK u x0 = 1 from (h_u.g 0 rfl)) ?_
  refine eq_sH (h_u.fr (P := PT) (Fr.sIr trivial)) (fun u1 h_u1 => ?_)
  exact egX0_keep_21 N    x0 x1 u1 (hkc (show zK u1 x0 = 1 from (h_u1.g 0 rfl)) (hkc (show zK u1 x1 = 3 from (h_u1.g 1 rfl)) (hk0 h_u1.1)))
set_option maxRecDepth 20000 in
def hX0_keep (N : Nat)  (a0 : Nat) (p1 : Nat) (u : SG) : Option (Unit × SG) := if (zI u a0 1) < 0 then (hgX0_keep_16 N    a0 p1 u)
  else (if (zI u a0 1) < (20 : Int32) then (hgX0_keep_21 N    a0 p1 u)
  else (hgX0_keep_16 N    a0 p1 u))
set_option maxRecDepth 20000 in
theorem eX0_keep (N : Nat)  (a0 : Nat) (p1 : Nat) (u : SG) (h_u : HK [(some a0, 1), (some p1, 3)] u) : fX0_keep N  a0 p1 u = hX0_keep N  a0 p1 u := by
  unfold fX0_keep hX0_keep
  refine eq_g (show zK u a0 = 1 from (h_u.g 0 rfl)) ?_
  refine eq_if ?_ ?_
  · exact egX0_keep_16 N    a0 p1 u (hkc (show zK u a0 = 1 from (h_u.g 0 rfl)) (hkc (show zK u p1 = 3 from (h_u.g 1 rfl)) (hk0 h_u.1)))
  · refine eq_g (show zK u a0 = 1 from (h_u.g 0 rfl)) ?_
    refine eq_if ?_ ?_
    · exact egX0_keep_21 N    a0 p1 u (hkc (show zK u a0 = 1 from (h_u.g 0 rfl)) (hkc (show zK u p1 = 3 from (h_u.g 1 rfl)) (hk0 h_u.1)))
    · exact egX0_keep_16 N    a0 p1 u (hkc (show zK u a0 = 1 from (h_u.g 0 rfl)) (hkc (show zK u p1 = 3 from (h_u.g 1 rfl)) (hk0 h_u.1)))
set_option maxRecDepth 20000 in
def hX0_takeBack (N : Nat)  (a0 : Nat) (p1 : Nat) (u : SG) : Option (Int32 × SG) := if 0 < (zI u a0 2) then (cl (fJ9_floorMod_7cf53 N ((zI u a0 1) - (1 : Int32)) (20 : Int32) u) fun r1 u2 => (bs (sI u2 a0 1 r1) fun u3 => (if (zI u3 a0 1) < 0 ∨ 20 ≤ (zI u3 a0 1).toNatClampNeg then none else (cl (hX2_copyOf N p1 (a0 + 2 + 4 * (zI u3 a0 1).toNatClampNeg) u3) fun r6 u7 => (bs (sI u7 a0 2 ((zI u7 a0 2) - (1 : Int32))) fun u8 => (some ((1 : Int32), u8)))))))
  else (some ((0 : Int32), u))
set_option maxRecDepth 20000 in
theorem eX0_takeBack (N : Nat)  (a0 : Nat) (p1 : Nat) (u : SG) (h_u : HK [(some a0, 1), (some p1, 3)] u) : fX0_takeBack N  a0 p1 u = hX0_takeBack N  a0 p1 u := by
  unfold fX0_takeBack hX0_takeBack
  refine eq_g (show zK u a0 = 1 from (h_u.g 0 rfl)) ?_
  refine eq_if ?_ ?_
  · refine eq_g (show zK u a0 = 1 from (h_u.g 0 rfl)) ?_
    refine eq_cH rfl (fun r1 u2 e9 => h_u.fr (fr_J9_floorMod_7cf53 (P := PT) N ((zI u a0 1) - (1 : Int32)) (20 : Int32) u clPT _ _ e9).1) (fun r1 u2 h_u2 => ?_)
    refine eq_g (show zK u2 a0 = 1 from (h_u2.g 0 rfl)) ?_
    refine eq_sH (h_u2.fr (P := PT) (Fr.sIr trivial)) (fun u3 h_u3 => ?_)
    refine eq_g (show zK u3 a0 = 1 from (h_u3.g 0 rfl)) ?_
    refine eq_bR (show zR u3 a0 0 = some (a0 + 1) from lyR_1_0 h_u3.1 (h_u3.g 0 rfl)) ?_
    refine eq_g (show zK u3 a0 = 1 from (h_u3.g 0 rfl)) ?_
    refine eq_g (show zK u3 (a0 + 1) = 25 from (lyK_1_0 h_u3.1 (h_u3.g 0 rfl))) ?_
    refine eq_ixh (show zN u3 (a0 + 1) = 20 from lyN_1_0 h_u3.1 (h_u3.g 0 rfl)) (fun hix1 => ?_)
    refine eq_bR (show zR u3 (a0 + 1) (zI u3 a0 1).toNatClampNeg = some (a0 + 2 + 4 * (zI u3 a0 1).toNatClampNeg) from (lyE_1 h_u3.1 (h_u3.g 0 rfl) (Nat.lt_of_not_le (fun h9 => hix1 (Or.inr h9)))).1) ?_
    refine eq_g (show zK u3 p1 = 3 from (h_u3.g 1 rfl)) ?_
    refine eq_cH (eX2_copyOf N p1 (a0 + 2 + 4 * (zI u3 a0 1).toNatClampNeg) u3 (hkc (show zK u3 p1 = 3 from (h_u3.g 1 rfl)) (hkc (show zK u3 (a0 + 2 + 4 * (zI u3 a0 1).toNatClampNeg) = 3 from (lyE_1 h_u3.1 (h_u3.g 0 rfl) (Nat.lt_of_not_le (fun h9 => hix1 (Or.inr h9)))).2) (hk0 h_u3.1)))) (fun r6 u7 e9 => h_u3.fr (fr_X2_copyOf (P := PT) N p1 (a0 + 2 + 4 * (zI u3 a0 1).toNatClampNeg) u3 clPT trivial trivial _ _ e9).1) (fun r6 u7 h_u7 => ?_)
    refine eq_g (show zK u7 a0 = 1 from (h_u7.g 0 rfl)) ?_
    refine eq_g (show zK u7 a0 = 1 from (h_u7.g 0 rfl)) ?_
    refine eq_sH (h_u7.fr (P := PT) (Fr.sIr trivial)) (fun u8 h_u8 => ?_)
    rfl
  · rfl
set_option maxRecDepth 20000 in
def hX1_clear (N : Nat)  (a0 : Nat) (u : SG) : Option (Unit × SG) := bs (sI u a0 4 (0 : Int32)) fun u1 => (some ((), u1))
set_option maxRecDepth 20000 in
theorem eX1_clear (N : Nat)  (a0 : Nat) (u : SG) (h_u : HK [(some a0, 2)] u) : fX1_clear N  a0 u = hX1_clear N  a0 u := by
  unfold fX1_clear hX1_clear
  refine eq_g (show zK u a0 = 2 from (h_u.g 0 rfl)) ?_
  refine eq_sH (h_u.fr (P := PT) (Fr.sIr trivial)) (fun u1 h_u1 => ?_)
  rfl
set_option maxRecDepth 20000 in
def hX1_copyOf (N : Nat)  (a0 : Nat) (p1 : Nat) (u : SG) : Option (Unit × SG) := bs (sI u a0 4 (zI u p1 4)) fun u1 => (bs (sIr u1 (a0 + 1) (va_cpy (zI u1 (p1 + 1)) (zI u1 (a0 + 1)) (0 : Int32).toNatClampNeg (0 : Int32).toNatClampNeg (10 : Int32).toNatClampNeg)) fun u4 => (bs (sIr u4 (a0 + 2) (va_cpy (zI u4 (p1 + 2)) (zI u4 (a0 + 2)) (0 : Int32).toNatClampNeg (0 : Int32).toNatClampNeg (10 : Int32).toNatClampNeg)) fun u7 => (bs (sIr u7 (a0 + 3) (va_cpy (zI u7 (p1 + 3)) (zI u7 (a0 + 3)) (0 : Int32).toNatClampNeg (0 : Int32).toNatClampNeg (10 : Int32).toNatClampNeg)) fun u10 => (bs (sIr u10 (a0 + 4) (va_cpy (zI u10 (p1 + 4)) (zI u10 (a0 + 4)) (0 : Int32).toNatClampNeg (0 : Int32).toNatClampNeg (10 : Int32).toNatClampNeg)) fun u13 => (some ((), u13))))))
set_option maxRecDepth 20000 in
theorem eX1_copyOf (N : Nat)  (a0 : Nat) (p1 : Nat) (u : SG) (h_u : HK [(some a0, 2), (some p1, 2)] u) : fX1_copyOf N  a0 p1 u = hX1_copyOf N  a0 p1 u := by
  unfold fX1_copyOf hX1_copyOf
  refine eq_g (show zK u p1 = 2 from (h_u.g 1 rfl)) ?_
  refine eq_g (show zK u a0 = 2 from (h_u.g 0 rfl)) ?_
  refine eq_sH (h_u.fr (P := PT) (Fr.sIr trivial)) (fun u1 h_u1 => ?_)
  refine eq_g (show zK u1 p1 = 2 from (h_u1.g 1 rfl)) ?_
  refine eq_bR (show zR u1 p1 0 = some (p1 + 1) from lyR_2_0 h_u1.1 (h_u1.g 1 rfl)) ?_
  refine eq_g (show zK u1 a0 = 2 from (h_u1.g 0 rfl)) ?_
  refine eq_bR (show zR u1 a0 0 = some (a0 + 1) from lyR_2_0 h_u1.1 (h_u1.g 0 rfl)) ?_
  refine eq_g (show zK u1 (p1 + 1) = 22 from (lyK_2_0 h_u1.1 (h_u1.g 1 rfl))) ?_
  refine eq_g (show zK u1 (a0 + 1) = 22 from (lyK_2_0 h_u1.1 (h_u1.g 0 rfl))) ?_
  refine eq_n (by rw [show zN u1 (p1 + 1) = 10 from lyN_2_0 h_u1.1 (h_u1.g 1 rfl), show zN u1 (a0 + 1) = 10 from lyN_2_0 h_u1.1 (h_u1.g 0 rfl)]; decide) ?_
  refine eq_sH (h_u1.fr (P := PT) (Fr.sIr trivial)) (fun u4 h_u4 => ?_)
  refine eq_g (show zK u4 p1 = 2 from (h_u4.g 1 rfl)) ?_
  refine eq_bR (show zR u4 p1 1 = some (p1 + 2) from lyR_2_1 h_u4.1 (h_u4.g 1 rfl)) ?_
  refine eq_g (show zK u4 a0 = 2 from (h_u4.g 0 rfl)) ?_
  refine eq_bR (show zR u4 a0 1 = some (a0 + 2) from lyR_2_1 h_u4.1 (h_u4.g 0 rfl)) ?_
  refine eq_g (show zK u4 (p1 + 2) = 22 from (lyK_2_1 h_u4.1 (h_u4.g 1 rfl))) ?_
  refine eq_g (show zK u4 (a0 + 2) = 22 from (lyK_2_1 h_u4.1 (h_u4.g 0 rfl))) ?_
  refine eq_n (by rw [show zN u4 (p1 + 2) = 10 from lyN_2_1 h_u4.1 (h_u4.g 1 rfl), show zN u4 (a0 + 2) = 10 from lyN_2_1 h_u4.1 (h_u4.g 0 rfl)]; decide) ?_
  refine eq_sH (h_u4.fr (P := PT) (Fr.sIr trivial)) (fun u7 h_u7 => ?_)
  refine eq_g (show zK u7 p1 = 2 from (h_u7.g 1 rfl)) ?_
  refine eq_bR (show zR u7 p1 2 = some (p1 + 3) from lyR_2_2 h_u7.1 (h_u7.g 1 rfl)) ?_
  refine eq_g (show zK u7 a0 = 2 from (h_u7.g 0 rfl)) ?_
  refine eq_bR (show zR u7 a0 2 = some (a0 + 3) from lyR_2_2 h_u7.1 (h_u7.g 0 rfl)) ?_
  refine eq_g (show zK u7 (p1 + 3) = 22 from (lyK_2_2 h_u7.1 (h_u7.g 1 rfl))) ?_
  refine eq_g (show zK u7 (a0 + 3) = 22 from (lyK_2_2 h_u7.1 (h_u7.g 0 rfl))) ?_
  refine eq_n (by rw [show zN u7 (p1 + 3) = 10 from lyN_2_2 h_u7.1 (h_u7.g 1 rfl), show zN u7 (a0 + 3) = 10 from lyN_2_2 h_u7.1 (h_u7.g 0 rfl)]; decide) ?_
  refine eq_sH (h_u7.fr (P := PT) (Fr.sIr trivial)) (fun u10 h_u10 => ?_)
  refine eq_g (show zK u10 p1 = 2 from (h_u10.g 1 rfl)) ?_
  refine eq_bR (show zR u10 p1 3 = some (p1 + 4) from lyR_2_3 h_u10.1 (h_u10.g 1 rfl)) ?_
  refine eq_g (show zK u10 a0 = 2 from (h_u10.g 0 rfl)) ?_
  refine eq_bR (show zR u10 a0 3 = some (a0 + 4) from lyR_2_3 h_u10.1 (h_u10.g 0 rfl)) ?_
  refine eq_g (show zK u10 (p1 + 4) = 22 from (lyK_2_3 h_u10.1 (h_u10.g 1 rfl))) ?_
  refine eq_g (show zK u10 (a0 + 4) = 22 from (lyK_2_3 h_u10.1 (h_u10.g 0 rfl))) ?_
  refine eq_n (by rw [show zN u10 (p1 + 4) = 10 from lyN_2_3 h_u10.1 (h_u10.g 1 rfl), show zN u10 (a0 + 4) = 10 from lyN_2_3 h_u10.1 (h_u10.g 0 rfl)]; decide) ?_
  refine eq_sH (h_u10.fr (P := PT) (Fr.sIr trivial)) (fun u13 h_u13 => ?_)
  rfl
set_option maxRecDepth 20000 in
def hX1_add (N : Nat)  (a0 : Nat) (p1 : Int32) (p2 : Int32) (p3 : Int32) (p4 : Int32) (u : SG) : Option (Int32 × SG) := if (zI u a0 4) < 0 then (some ((0 : Int32), u))
  else (if (zI u a0 4) < (10 : Int32) then (if (zI u a0 4) < 0 ∨ 10 ≤ (zI u a0 4).toNatClampNeg then none else (bs (sI u (a0 + 1) (zI u a0 4).toNatClampNeg p1) fun u2 => (if (zI u2 a0 4) < 0 ∨ 10 ≤ (zI u2 a0 4).toNatClampNeg then none else (bs (sI u2 (a0 + 2) (zI u2 a0 4).toNatClampNeg p2) fun u4 => (if (zI u4 a0 4) < 0 ∨ 10 ≤ (zI u4 a0 4).toNatClampNeg then none else (bs (sI u4 (a0 + 3) (zI u4 a0 4).toNatClampNeg p3) fun u6 => (if (zI u6 a0 4) < 0 ∨ 10 ≤ (zI u6 a0 4).toNatClampNeg then none else (bs (sI u6 (a0 + 4) (zI u6 a0 4).toNatClampNeg p4) fun u8 => (bs (sI u8 a0 4 ((zI u8 a0 4) + (1 : Int32))) fun u9 => (some ((1 : Int32), u9)))))))))))
  else (some ((0 : Int32), u)))
set_option maxRecDepth 20000 in
theorem eX1_add (N : Nat)  (a0 : Nat) (p1 : Int32) (p2 : Int32) (p3 : Int32) (p4 : Int32) (u : SG) (h_u : HK [(some a0, 2)] u) : fX1_add N  a0 p1 p2 p3 p4 u = hX1_add N  a0 p1 p2 p3 p4 u := by
  unfold fX1_add hX1_add
  refine eq_g (show zK u a0 = 2 from (h_u.g 0 rfl)) ?_
  refine eq_if ?_ ?_
  · rfl
  · refine eq_g (show zK u a0 = 2 from (h_u.g 0 rfl)) ?_
    refine eq_if ?_ ?_
    · refine eq_g (show zK u a0 = 2 from (h_u.g 0 rfl)) ?_
      refine eq_bR (show zR u a0 0 = some (a0 + 1) from lyR_2_0 h_u.1 (h_u.g 0 rfl)) ?_
      refine eq_g (show zK u a0 = 2 from (h_u.g 0 rfl)) ?_
      refine eq_g (show zK u (a0 + 1) = 22 from (lyK_2_0 h_u.1 (h_u.g 0 rfl))) ?_
      refine eq_ixh (show zN u (a0 + 1) = 10 from lyN_2_0 h_u.1 (h_u.g 0 rfl)) (fun hix1 => ?_)
      refine eq_sH (h_u.fr (P := PT) (Fr.sIr trivial)) (fun u2 h_u2 => ?_)
      refine eq_g (show zK u2 a0 = 2 from (h_u2.g 0 rfl)) ?_
      refine eq_bR (show zR u2 a0 1 = some (a0 + 2) from lyR_2_1 h_u2.1 (h_u2.g 0 rfl)) ?_
      refine eq_g (show zK u2 a0 = 2 from (h_u2.g 0 rfl)) ?_
      refine eq_g (show zK u2 (a0 + 2) = 22 from (lyK_2_1 h_u2.1 (h_u2.g 0 rfl))) ?_
      refine eq_ixh (show zN u2 (a0 + 2) = 10 from lyN_2_1 h_u2.1 (h_u2.g 0 rfl)) (fun hix2 => ?_)
      refine eq_sH (h_u2.fr (P := PT) (Fr.sIr trivial)) (fun u4 h_u4 => ?_)
      refine eq_g (show zK u4 a0 = 2 from (h_u4.g 0 rfl)) ?_
      refine eq_bR (show zR u4 a0 2 = some (a0 + 3) from lyR_2_2 h_u4.1 (h_u4.g 0 rfl)) ?_
      refine eq_g (show zK u4 a0 = 2 from (h_u4.g 0 rfl)) ?_
      refine eq_g (show zK u4 (a0 + 3) = 22 from (lyK_2_2 h_u4.1 (h_u4.g 0 rfl))) ?_
      refine eq_ixh (show zN u4 (a0 + 3) = 10 from lyN_2_2 h_u4.1 (h_u4.g 0 rfl)) (fun hix3 => ?_)
      refine eq_sH (h_u4.fr (P := PT) (Fr.sIr trivial)) (fun u6 h_u6 => ?_)
      refine eq_g (show zK u6 a0 = 2 from (h_u6.g 0 rfl)) ?_
      refine eq_bR (show zR u6 a0 3 = some (a0 + 4) from lyR_2_3 h_u6.1 (h_u6.g 0 rfl)) ?_
      refine eq_g (show zK u6 a0 = 2 from (h_u6.g 0 rfl)) ?_
      refine eq_g (show zK u6 (a0 + 4) = 22 from (lyK_2_3 h_u6.1 (h_u6.g 0 rfl))) ?_
      refine eq_ixh (show zN u6 (a0 + 4) = 10 from lyN_2_3 h_u6.1 (h_u6.g 0 rfl)) (fun hix4 => ?_)
      refine eq_sH (h_u6.fr (P := PT) (Fr.sIr trivial)) (fun u8 h_u8 => ?_)
      refine eq_g (show zK u8 a0 = 2 from (h_u8.g 0 rfl)) ?_
      refine eq_g (show zK u8 a0 = 2 from (h_u8.g 0 rfl)) ?_
      refine eq_sH (h_u8.fr (P := PT) (Fr.sIr trivial)) (fun u9 h_u9 => ?_)
      rfl
    · rfl
set_option maxRecDepth 20000 in
def hgX1_allows_24 (N : Nat)   (x0 : Nat) (x1 : Int32) (x3 : Int32) (s0 : Int32) (u : SG) : Option (Int32 × SG) := if x1 < 0 ∨ 10 ≤ x1.toNatClampNeg then none else (bs (zI u (x0 + 1) x1.toNatClampNeg) fun v2 => (if v2 = (0 : Int32) then (if s0 = 0 ∨ s0 = 1 then (some (s0, u))
  else (none))
  else (if v2 = (1 : Int32) then (if s0 = 0 then (some ((1 : Int32), u))
  else (some ((0 : Int32), u)))
  else (if v2 = (2 : Int32) then (if x1 < 0 ∨ 10 ≤ x1.toNatClampNeg then none else (if x3 < (zI u (x0 + 2) x1.toNatClampNeg) then (some ((0 : Int32), u))
  else (some ((1 : Int32), u))))
  else (if v2 = (3 : Int32) then (if x1 < 0 ∨ 10 ≤ x1.toNatClampNeg then none else (if (zI u (x0 + 2) x1.toNatClampNeg) < x3 then (some ((0 : Int32), u))
  else (some ((1 : Int32), u))))
  else (if v2 = (4 : Int32) then (if s0 = 0 then (some ((0 : Int32), u))
  else (if x1 < 0 ∨ 10 ≤ x1.toNatClampNeg then none else (if x1 < 0 ∨ 10 ≤ x1.toNatClampNeg then none else (if ((zI u (x0 + 3) x1.toNatClampNeg) * x3) < (zI u (x0 + 4) x1.toNatClampNeg) then (some ((0 : Int32), u))
  else (some ((1 : Int32), u))))))
  else (if s0 = 0 then (some ((0 : Int32), u))
  else (if x1 < 0 ∨ 10 ≤ x1.toNatClampNeg then none else (if x1 < 0 ∨ 10 ≤ x1.toNatClampNeg then none else (if (zI u (x0 + 4) x1.toNatClampNeg) ≤ ((zI u (x0 + 3) x1.toNatClampNeg) * x3) then (some ((0 : Int32), u))
  else (some ((1 : Int32), u))))))))))))
set_option maxRecDepth 20000 in
theorem egX1_allows_24 (N : Nat)   (x0 : Nat) (x1 : Int32) (x3 : Int32) (s0 : Int32) (u : SG) (h_u : HK [(some x0, 2)] u) : gX1_allows_24 N   x0 x1 x3 s0 u = hgX1_allows_24 N   x0 x1 x3 s0 u := by
  unfold gX1_allows_24 hgX1_allows_24
  refine eq_g (show zK u x0 = 2 from (h_u.g 0 rfl)) ?_
  refine eq_bR (show zR u x0 0 = some (x0 + 1) from lyR_2_0 h_u.1 (h_u.g 0 rfl)) ?_
  refine eq_g (show zK u (x0 + 1) = 22 from (lyK_2_0 h_u.1 (h_u.g 0 rfl))) ?_
  refine eq_ixh (show zN u (x0 + 1) = 10 from lyN_2_0 h_u.1 (h_u.g 0 rfl)) (fun hix1 => ?_)
  refine eq_bs (fun v2 => ?_)
  refine eq_if ?_ ?_
  · refine eq_if ?_ ?_
    · rfl
    · rfl
  · refine eq_if ?_ ?_
    · refine eq_if ?_ ?_
      · rfl
      · rfl
    · refine eq_if ?_ ?_
      · refine eq_g (show zK u x0 = 2 from (h_u.g 0 rfl)) ?_
        refine eq_bR (show zR u x0 1 = some (x0 + 2) from lyR_2_1 h_u.1 (h_u.g 0 rfl)) ?_
        refine eq_g (show zK u (x0 + 2) = 22 from (lyK_2_1 h_u.1 (h_u.g 0 rfl))) ?_
        refine eq_ixh (show zN u (x0 + 2) = 10 from lyN_2_1 h_u.1 (h_u.g 0 rfl)) (fun hix2 => ?_)
        refine eq_if ?_ ?_
        · rfl
        · rfl
      · refine eq_if ?_ ?_
        · refine eq_g (show zK u x0 = 2 from (h_u.g 0 rfl)) ?_
          refine eq_bR (show zR u x0 1 = some (x0 + 2) from lyR_2_1 h_u.1 (h_u.g 0 rfl)) ?_
          refine eq_g (show zK u (x0 + 2) = 22 from (lyK_2_1 h_u.1 (h_u.g 0 rfl))) ?_
          refine eq_ixh (show zN u (x0 + 2) = 10 from lyN_2_1 h_u.1 (h_u.g 0 rfl)) (fun hix3 => ?_)
          refine eq_if ?_ ?_
          · rfl
          · rfl
        · refine eq_if ?_ ?_
          · refine eq_if ?_ ?_
            · rfl
            · refine eq_g (show zK u x0 = 2 from (h_u.g 0 rfl)) ?_
              refine eq_bR (show zR u x0 3 = some (x0 + 4) from lyR_2_3 h_u.1 (h_u.g 0 rfl)) ?_
              refine eq_g (show zK u (x0 + 4) = 22 from (lyK_2_3 h_u.1 (h_u.g 0 rfl))) ?_
              refine eq_ixh (show zN u (x0 + 4) = 10 from lyN_2_3 h_u.1 (h_u.g 0 rfl)) (fun hix4 => ?_)
              refine eq_g (show zK u x0 = 2 from (h_u.g 0 rfl)) ?_
              refine eq_bR (show zR u x0 2 = some (x0 + 3) from lyR_2_2 h_u.1 (h_u.g 0 rfl)) ?_
              refine eq_g (show zK u (x0 + 3) = 22 from (lyK_2_2 h_u.1 (h_u.g 0 rfl))) ?_
              refine eq_ixh (show zN u (x0 + 3) = 10 from lyN_2_2 h_u.1 (h_u.g 0 rfl)) (fun hix5 => ?_)
              refine eq_if ?_ ?_
              · rfl
              · rfl
          · refine eq_if ?_ ?_
            · rfl
            · refine eq_g (show zK u x0 = 2 from (h_u.g 0 rfl)) ?_
              refine eq_bR (show zR u x0 3 = some (x0 + 4) from lyR_2_3 h_u.1 (h_u.g 0 rfl)) ?_
              refine eq_g (show zK u (x0 + 4) = 22 from (lyK_2_3 h_u.1 (h_u.g 0 rfl))) ?_
              refine eq_ixh (show zN u (x0 + 4) = 10 from lyN_2_3 h_u.1 (h_u.g 0 rfl)) (fun hix6 => ?_)
              refine eq_g (show zK u x0 = 2 from (h_u.g 0 rfl)) ?_
              refine eq_bR (show zR u x0 2 = some (x0 + 3) from lyR_2_2 h_u.1 (h_u.g 0 rfl)) ?_
              refine eq_g (show zK u (x0 + 3) = 22 from (lyK_2_2 h_u.1 (h_u.g 0 rfl))) ?_
              refine eq_ixh (show zN u (x0 + 3) = 10 from lyN_2_2 h_u.1 (h_u.g 0 rfl)) (fun hix7 => ?_)
              refine eq_if ?_ ?_
              · rfl
              · rfl
set_option maxRecDepth 20000 in
def hX1_allows (N : Nat)  (a0 : Nat) (p1 : Int32) (p2 : Int32) (u : SG) : Option (Int32 × SG) := cl (fJ6_bitCount_0f7a4 N p2 u) fun r1 u2 => (if p1 < 0 ∨ 10 ≤ p1.toNatClampNeg then none else (cl (fX10_bitOf N p2 (zI u2 (a0 + 2) p1.toNatClampNeg) u2) fun r4 u5 => (if r4 = (1 : Int32) then (hgX1_allows_24 N    a0 p1 r1 (1 : Int32) u5)
  else (hgX1_allows_24 N    a0 p1 r1 (0 : Int32) u5))))
set_option maxRecDepth 20000 in
theorem eX1_allows (N : Nat)  (a0 : Nat) (p1 : Int32) (p2 : Int32) (u : SG) (h_u : HK [(some a0, 2)] u) : fX1_allows N  a0 p1 p2 u = hX1_allows N  a0 p1 p2 u := by
  unfold fX1_allows hX1_allows
  refine eq_cH rfl (fun r1 u2 e9 => h_u.fr (fr_J6_bitCount_0f7a4 (P := PT) N p2 u clPT _ _ e9).1) (fun r1 u2 h_u2 => ?_)
  refine eq_g (show zK u2 a0 = 2 from (h_u2.g 0 rfl)) ?_
  refine eq_bR (show zR u2 a0 1 = some (a0 + 2) from lyR_2_1 h_u2.1 (h_u2.g 0 rfl)) ?_
  refine eq_g (show zK u2 (a0 + 2) = 22 from (lyK_2_1 h_u2.1 (h_u2.g 0 rfl))) ?_
  refine eq_ixh (show zN u2 (a0 + 2) = 10 from lyN_2_1 h_u2.1 (h_u2.g 0 rfl)) (fun hix1 => ?_)
  refine eq_cH rfl (fun r4 u5 e9 => h_u2.fr (fr_X10_bitOf (P := PT) N p2 (zI u2 (a0 + 2) p1.toNatClampNeg) u2 clPT _ _ e9).1) (fun r4 u5 h_u5 => ?_)
  refine eq_if ?_ ?_
  · exact egX1_allows_24 N    a0 p1 r1 (1 : Int32) u5 (hkc (show zK u5 a0 = 2 from (h_u5.g 0 rfl)) (hk0 h_u5.1))
  · exact egX1_allows_24 N    a0 p1 r1 (0 : Int32) u5 (hkc (show zK u5 a0 = 2 from (h_u5.g 0 rfl)) (hk0 h_u5.1))
set_option maxRecDepth 20000 in
def hgX1_allow_2 (N : Nat)   : Nat → Nat → Int32 → Int32 → SG → Option (Int32 × SG)
  | 0, _, _, _, _ => none
  | n + 1, x0, x1, x2, u => if (zI u x0 4) ≤ x2 then (some ((1 : Int32), u))
  else (if (10 : Int32) ≤ x2 then (some ((1 : Int32), u))
  else (cl (hX1_allows N x0 x2 x1 u) fun r1 u2 => (if r1 = 0 then (some ((0 : Int32), u2))
  else ((hgX1_allow_2 N   n) x0 x1 (x2 + (1 : Int32)) u2))))
set_option maxRecDepth 20000 in
theorem egX1_allow_2 (N : Nat)   : ∀ (n : Nat) (x0 : Nat) (x1 : Int32) (x2 : Int32) (u : SG), HK [(some x0, 2)] u → gX1_allow_2 N   n x0 x1 x2 u = hgX1_allow_2 N   n x0 x1 x2 u := by
  intro n
  induction n with
  | zero => intros; rfl
  | succ n ih =>
    intro x0 x1 x2 u h_u
    have hrc2 := ih
    rw [gX1_allow_2, hgX1_allow_2]
    refine eq_g (show zK u x0 = 2 from (h_u.g 0 rfl)) ?_
    refine eq_if ?_ ?_
    · rfl
    · refine eq_if ?_ ?_
      · rfl
      · refine eq_g (show zK u x0 = 2 from (h_u.g 0 rfl)) ?_
        refine eq_cH (eX1_allows N x0 x2 x1 u (hkc (show zK u x0 = 2 from (h_u.g 0 rfl)) (hk0 h_u.1))) (fun r1 u2 e9 => h_u.fr (fr_X1_allows (P := PT) N x0 x2 x1 u clPT trivial _ _ e9).1) (fun r1 u2 h_u2 => ?_)
        refine eq_if ?_ ?_
        · rfl
        · exact hrc2 x0 x1 (x2 + (1 : Int32)) u2 (hkc (show zK u2 x0 = 2 from (h_u2.g 0 rfl)) (hk0 h_u2.1))
set_option maxRecDepth 20000 in
def hX1_allow (N : Nat)  (a0 : Nat) (p1 : Int32) (u : SG) : Option (Int32 × SG) := hgX1_allow_2 N   N a0 p1 (0 : Int32) u
set_option maxRecDepth 20000 in
theorem eX1_allow (N : Nat)  (a0 : Nat) (p1 : Int32) (u : SG) (h_u : HK [(some a0, 2)] u) : fX1_allow N  a0 p1 u = hX1_allow N  a0 p1 u := by
  unfold fX1_allow hX1_allow
  exact egX1_allow_2 N   N a0 p1 (0 : Int32) u (hkc (show zK u a0 = 2 from (h_u.g 0 rfl)) (hk0 h_u.1))
set_option maxRecDepth 20000 in
def hgX2_clear_34 (N : Nat)   : Nat → Nat → Int32 → SG → Option (Unit × SG)
  | 0, _, _, _ => none
  | n + 1, x0, x1, u => if (5 : Int32) ≤ x1 then (some ((), u))
  else (if x1 < 0 ∨ 5 ≤ x1.toNatClampNeg then none else (bs (sI u (x0 + 1) x1.toNatClampNeg (0 : Int32)) fun u2 => (if x1 < 0 ∨ 5 ≤ x1.toNatClampNeg then none else (bs (sI u2 (x0 + 2) x1.toNatClampNeg (0 : Int32)) fun u4 => (if x1 < 0 ∨ 6 ≤ x1.toNatClampNeg then none else (bs (sL u4 (x0 + 3) x1.toNatClampNeg (0 : Int64)) fun u6 => ((hgX2_clear_34 N   n) x0 (x1 + (1 : Int32)) u6)))))))
set_option maxRecDepth 20000 in
theorem egX2_clear_34 (N : Nat)   : ∀ (n : Nat) (x0 : Nat) (x1 : Int32) (u : SG), HK [(some x0, 3)] u → gX2_clear_34 N   n x0 x1 u = hgX2_clear_34 N   n x0 x1 u := by
  intro n
  induction n with
  | zero => intros; rfl
  | succ n ih =>
    intro x0 x1 u h_u
    have hrc34 := ih
    rw [gX2_clear_34, hgX2_clear_34]
    refine eq_if ?_ ?_
    · rfl
    · refine eq_g (show zK u x0 = 3 from (h_u.g 0 rfl)) ?_
      refine eq_bR (show zR u x0 5 = some (x0 + 1) from lyR_3_5 h_u.1 (h_u.g 0 rfl)) ?_
      refine eq_g (show zK u (x0 + 1) = 22 from (lyK_3_5 h_u.1 (h_u.g 0 rfl))) ?_
      refine eq_ixh (show zN u (x0 + 1) = 5 from lyN_3_5 h_u.1 (h_u.g 0 rfl)) (fun hix1 => ?_)
      refine eq_sH (h_u.fr (P := PT) (Fr.sIr trivial)) (fun u2 h_u2 => ?_)
      refine eq_g (show zK u2 x0 = 3 from (h_u2.g 0 rfl)) ?_
      refine eq_bR (show zR u2 x0 6 = some (x0 + 2) from lyR_3_6 h_u2.1 (h_u2.g 0 rfl)) ?_
      refine eq_g (show zK u2 (x0 + 2) = 22 from (lyK_3_6 h_u2.1 (h_u2.g 0 rfl))) ?_
      refine eq_ixh (show zN u2 (x0 + 2) = 5 from lyN_3_6 h_u2.1 (h_u2.g 0 rfl)) (fun hix2 => ?_)
      refine eq_sH (h_u2.fr (P := PT) (Fr.sIr trivial)) (fun u4 h_u4 => ?_)
      refine eq_g (show zK u4 x0 = 3 from (h_u4.g 0 rfl)) ?_
      refine eq_bR (show zR u4 x0 7 = some (x0 + 3) from lyR_3_7 h_u4.1 (h_u4.g 0 rfl)) ?_
      refine eq_g (show zK u4 (x0 + 3) = 23 from (lyK_3_7 h_u4.1 (h_u4.g 0 rfl))) ?_
      refine eq_ixh (show zN u4 (x0 + 3) = 6 from lyN_3_7 h_u4.1 (h_u4.g 0 rfl)) (fun hix3 => ?_)
      refine eq_sH (h_u4.fr (P := PT) (Fr.sLr trivial)) (fun u6 h_u6 => ?_)
      exact hrc34 x0 (x1 + (1 : Int32)) u6 (hkc (show zK u6 x0 = 3 from (h_u6.g 0 rfl)) (hk0 h_u6.1))
set_option maxRecDepth 20000 in
def hX2_clear (N : Nat)  (a0 : Nat) (u : SG) : Option (Unit × SG) := bs (sI u a0 0 (0 : Int32)) fun u1 => (bs (sI u1 a0 1 (0 : Int32)) fun u2 => (bs (sI u2 a0 2 (0 : Int32)) fun u3 => (bs (sI u3 a0 3 (0 : Int32)) fun u4 => (bs (sI u4 a0 4 (0 : Int32)) fun u5 => (bs (sL u5 (a0 + 3) 5 (0 : Int64)) fun u7 => (hgX2_clear_34 N   N a0 (0 : Int32) u7))))))
set_option maxRecDepth 20000 in
theorem eX2_clear (N : Nat)  (a0 : Nat) (u : SG) (h_u : HK [(some a0, 3)] u) : fX2_clear N  a0 u = hX2_clear N  a0 u := by
  unfold fX2_clear hX2_clear
  refine eq_g (show zK u a0 = 3 from (h_u.g 0 rfl)) ?_
  refine eq_sH (h_u.fr (P := PT) (Fr.sIr trivial)) (fun u1 h_u1 => ?_)
  refine eq_g (show zK u1 a0 = 3 from (h_u1.g 0 rfl)) ?_
  refine eq_sH (h_u1.fr (P := PT) (Fr.sIr trivial)) (fun u2 h_u2 => ?_)
  refine eq_g (show zK u2 a0 = 3 from (h_u2.g 0 rfl)) ?_
  refine eq_sH (h_u2.fr (P := PT) (Fr.sIr trivial)) (fun u3 h_u3 => ?_)
  refine eq_g (show zK u3 a0 = 3 from (h_u3.g 0 rfl)) ?_
  refine eq_sH (h_u3.fr (P := PT) (Fr.sIr trivial)) (fun u4 h_u4 => ?_)
  refine eq_g (show zK u4 a0 = 3 from (h_u4.g 0 rfl)) ?_
  refine eq_sH (h_u4.fr (P := PT) (Fr.sIr trivial)) (fun u5 h_u5 => ?_)
  refine eq_g (show zK u5 a0 = 3 from (h_u5.g 0 rfl)) ?_
  refine eq_bR (show zR u5 a0 7 = some (a0 + 3) from lyR_3_7 h_u5.1 (h_u5.g 0 rfl)) ?_
  refine eq_g (show zK u5 (a0 + 3) = 23 from (lyK_3_7 h_u5.1 (h_u5.g 0 rfl))) ?_
  refine eq_n (by rw [show zN u5 (a0 + 3) = 6 from lyN_3_7 h_u5.1 (h_u5.g 0 rfl)]; decide) ?_
  refine eq_sH (h_u5.fr (P := PT) (Fr.sLr trivial)) (fun u7 h_u7 => ?_)
  exact egX2_clear_34 N   N a0 (0 : Int32) u7 (hkc (show zK u7 a0 = 3 from (h_u7.g 0 rfl)) (hk0 h_u7.1))
set_option maxRecDepth 20000 in
def hX2_isLast (N : Nat)  (a0 : Nat) (p1 : Nat) (u : SG) : Option (Int32 × SG) := if (zI u a0 1) < (999 : Int32) then (some ((0 : Int32), u))
  else (if (zI u a0 0) < ((zI u p1 6) - (1 : Int32)) then (some ((0 : Int32), u))
  else (some ((1 : Int32), u)))
set_option maxRecDepth 20000 in
theorem eX2_isLast (N : Nat)  (a0 : Nat) (p1 : Nat) (u : SG) (h_u : HK [(some a0, 3), (some p1, 8)] u) : fX2_isLast N  a0 p1 u = hX2_isLast N  a0 p1 u := by
  unfold fX2_isLast hX2_isLast
  refine eq_g (show zK u a0 = 3 from (h_u.g 0 rfl)) ?_
  refine eq_if ?_ ?_
  · rfl
  · refine eq_g (show zK u a0 = 3 from (h_u.g 0 rfl)) ?_
    refine eq_g (show zK u p1 = 8 from (h_u.g 1 rfl)) ?_
    refine eq_if ?_ ?_
    · rfl
    · rfl
set_option maxRecDepth 20000 in
def hX7_litAt (N : Nat)  (a0 : Nat) (p1 : Int32) (u : SG) : Option (Int32 × SG) := if p1 < 0 then (some ((0 : Int32), u))
  else (if (10 : Int32) ≤ p1 then (some ((0 : Int32), u))
  else (if p1 < 0 ∨ 10 ≤ p1.toNatClampNeg then none else (some (zI u (a0 + 6) p1.toNatClampNeg, u))))
set_option maxRecDepth 20000 in
theorem eX7_litAt (N : Nat)  (a0 : Nat) (p1 : Int32) (u : SG) (h_u : HK [(some a0, 8)] u) : fX7_litAt N  a0 p1 u = hX7_litAt N  a0 p1 u := by
  unfold fX7_litAt hX7_litAt
  refine eq_if ?_ ?_
  · rfl
  · refine eq_if ?_ ?_
    · rfl
    · refine eq_g (show zK u a0 = 8 from (h_u.g 0 rfl)) ?_
      refine eq_bR (show zR u a0 5 = some (a0 + 6) from lyR_8_5 h_u.1 (h_u.g 0 rfl)) ?_
      refine eq_g (show zK u (a0 + 6) = 22 from (lyK_8_5 h_u.1 (h_u.g 0 rfl))) ?_
      refine eq_ixh (show zN u (a0 + 6) = 10 from lyN_8_5 h_u.1 (h_u.g 0 rfl)) (fun hix1 => ?_)
      rfl
set_option maxRecDepth 20000 in
def hX2_burningAt (N : Nat)  (a0 : Nat) (p1 : Nat) (p2 : Int32) (u : SG) : Option (Int32 × SG) := cl (hX7_litAt N p1 p2 u) fun r1 u2 => (some ((r1 ||| (zI u2 a0 3)) &&& ((zI u2 a0 4) ^^^ (-1 : Int32)), u2))
set_option maxRecDepth 20000 in
theorem eX2_burningAt (N : Nat)  (a0 : Nat) (p1 : Nat) (p2 : Int32) (u : SG) (h_u : HK [(some a0, 3), (some p1, 8)] u) : fX2_burningAt N  a0 p1 p2 u = hX2_burningAt N  a0 p1 p2 u := by
  unfold fX2_burningAt hX2_burningAt
  refine eq_g (show zK u p1 = 8 from (h_u.g 1 rfl)) ?_
  refine eq_cH (eX7_litAt N p1 p2 u (hkc (show zK u p1 = 8 from (h_u.g 1 rfl)) (hk0 h_u.1))) (fun r1 u2 e9 => h_u.fr (fr_X7_litAt (P := PT) N p1 p2 u clPT trivial _ _ e9).1) (fun r1 u2 h_u2 => ?_)
  refine eq_g (show zK u2 a0 = 3 from (h_u2.g 0 rfl)) ?_
  refine eq_g (show zK u2 a0 = 3 from (h_u2.g 0 rfl)) ?_
  rfl
set_option maxRecDepth 20000 in
def hgX2_setLamp_26 (N : Nat)   (x0 : Nat) (x2 : Int32) (x3 : Int32) (s0 : Nat) (s1 : Int32) (u : SG) : Option (Unit × SG) := bs (sI u s0 3 s1) fun u1 => (if x2 = 0 then (bs (sI u1 x0 4 ((zI u1 x0 4) ||| x3)) fun u2 => (some ((), u2)))
  else (bs (sI u1 x0 4 ((zI u1 x0 4) &&& (x3 ^^^ (-1 : Int32)))) fun u3 => (some ((), u3))))
set_option maxRecDepth 20000 in
theorem egX2_setLamp_26 (N : Nat)   (x0 : Nat) (x2 : Int32) (x3 : Int32) (s0 : Nat) (s1 : Int32) (u : SG) (h_u : HK [(some x0, 3), (some s0, 3)] u) : gX2_setLamp_26 N   x0 x2 x3 s0 s1 u = hgX2_setLamp_26 N   x0 x2 x3 s0 s1 u := by
  unfold gX2_setLamp_26 hgX2_setLamp_26
  refine eq_g (show zK u s0 = 3 from (h_u.g 1 rfl)) ?_
  refine eq_sH (h_u.fr (P := PT) (Fr.sIr trivial)) (fun u1 h_u1 => ?_)
  refine eq_if ?_ ?_
  · refine eq_g (show zK u1 x0 = 3 from (h_u1.g 0 rfl)) ?_
    refine eq_g (show zK u1 x0 = 3 from (h_u1.g 0 rfl)) ?_
    refine eq_sH (h_u1.fr (P := PT) (Fr.sIr trivial)) (fun u2 h_u2 => ?_)
    rfl
  · refine eq_g (show zK u1 x0 = 3 from (h_u1.g 0 rfl)) ?_
    refine eq_g (show zK u1 x0 = 3 from (h_u1.g 0 rfl)) ?_
    refine eq_sH (h_u1.fr (P := PT) (Fr.sIr trivial)) (fun u3 h_u3 => ?_)
    rfl
set_option maxRecDepth 20000 in
def hX2_setLamp (N : Nat)  (a0 : Nat) (p1 : Int32) (p2 : Int32) (u : SG) : Option (Unit × SG) := bs ((1 : Int32) <<< (p1 &&& 31)) fun v1 => (if p2 = 0 then (hgX2_setLamp_26 N    a0 p2 v1 a0 ((zI u a0 3) &&& (v1 ^^^ (-1 : Int32))) u)
  else (hgX2_setLamp_26 N    a0 p2 v1 a0 ((zI u a0 3) ||| v1) u))
set_option maxRecDepth 20000 in
theorem eX2_setLamp (N : Nat)  (a0 : Nat) (p1 : Int32) (p2 : Int32) (u : SG) (h_u : HK [(some a0, 3)] u) : fX2_setLamp N  a0 p1 p2 u = hX2_setLamp N  a0 p1 p2 u := by
  unfold fX2_setLamp hX2_setLamp
  refine eq_bs (fun v1 => ?_)
  refine eq_if ?_ ?_
  · refine eq_g (show zK u a0 = 3 from (h_u.g 0 rfl)) ?_
    exact egX2_setLamp_26 N    a0 p2 v1 a0 ((zI u a0 3) &&& (v1 ^^^ (-1 : Int32))) u (hkc (show zK u a0 = 3 from (h_u.g 0 rfl)) (hkc (show zK u a0 = 3 from (h_u.g 0 rfl)) (hk0 h_u.1)))
  · refine eq_g (show zK u a0 = 3 from (h_u.g 0 rfl)) ?_
    exact egX2_setLamp_26 N    a0 p2 v1 a0 ((zI u a0 3) ||| v1) u (hkc (show zK u a0 = 3 from (h_u.g 0 rfl)) (hkc (show zK u a0 = 3 from (h_u.g 0 rfl)) (hk0 h_u.1)))
set_option maxRecDepth 20000 in
def hgX2_goOn_60 (N : Nat)   : Nat → Nat → Nat → Int32 → SG → Option (Unit × SG)
  | 0, _, _, _, _ => none
  | n + 1, x0, x1, x2, u => if (zI u x1 7) ≤ x2 then (some ((), u))
  else (if x2 < 0 ∨ 5 ≤ x2.toNatClampNeg then none else (if x2 < 0 ∨ 5 ≤ x2.toNatClampNeg then none else (if x2 < 0 ∨ 5 ≤ x2.toNatClampNeg then none else (bs (((zI u (x0 + 2) x2.toNatClampNeg) + (zI u (x1 + 1) x2.toNatClampNeg)) - (zI u (x0 + 1) x2.toNatClampNeg)) fun v4 => (cl (fJ9_min_7cf53 N (999 : Int32) v4 u) fun r6 u7 => (cl (fJ9_max_7cf53 N (0 : Int32) r6 u7) fun r8 u9 => (if x2 < 0 ∨ 5 ≤ x2.toNatClampNeg then none else (bs (sI u9 (x0 + 2) x2.toNatClampNeg r8) fun u10 => (if x2 < 0 ∨ 5 ≤ x2.toNatClampNeg then none else (bs (sI u10 (x0 + 1) x2.toNatClampNeg (0 : Int32)) fun u12 => ((hgX2_goOn_60 N   n) x0 x1 (x2 + (1 : Int32)) u12)))))))))))
set_option maxRecDepth 20000 in
theorem egX2_goOn_60 (N : Nat)   : ∀ (n : Nat) (x0 : Nat) (x1 : Nat) (x2 : Int32) (u : SG), HK [(some x0, 3), (some x1, 8)] u → gX2_goOn_60 N   n x0 x1 x2 u = hgX2_goOn_60 N   n x0 x1 x2 u := by
  intro n
  induction n with
  | zero => intros; rfl
  | succ n ih =>
    intro x0 x1 x2 u h_u
    have hrc60 := ih
    rw [gX2_goOn_60, hgX2_goOn_60]
    refine eq_g (show zK u x1 = 8 from (h_u.g 1 rfl)) ?_
    refine eq_if ?_ ?_
    · rfl
    · refine eq_g (show zK u x0 = 3 from (h_u.g 0 rfl)) ?_
      refine eq_bR (show zR u x0 6 = some (x0 + 2) from lyR_3_6 h_u.1 (h_u.g 0 rfl)) ?_
      refine eq_g (show zK u (x0 + 2) = 22 from (lyK_3_6 h_u.1 (h_u.g 0 rfl))) ?_
      refine eq_ixh (show zN u (x0 + 2) = 5 from lyN_3_6 h_u.1 (h_u.g 0 rfl)) (fun hix1 => ?_)
      refine eq_g (show zK u x1 = 8 from (h_u.g 1 rfl)) ?_
      refine eq_bR (show zR u x1 0 = some (x1 + 1) from lyR_8_0 h_u.1 (h_u.g 1 rfl)) ?_
      refine eq_g (show zK u (x1 + 1) = 22 from (lyK_8_0 h_u.1 (h_u.g 1 rfl))) ?_
      refine eq_ixh (show zN u (x1 + 1) = 5 from lyN_8_0 h_u.1 (h_u.g 1 rfl)) (fun hix2 => ?_)
      refine eq_g (show zK u x0 = 3 from (h_u.g 0 rfl)) ?_
      refine eq_bR (show zR u x0 5 = some (x0 + 1) from lyR_3_5 h_u.1 (h_u.g 0 rfl)) ?_
      refine eq_g (show zK u (x0 + 1) = 22 from (lyK_3_5 h_u.1 (h_u.g 0 rfl))) ?_
      refine eq_ixh (show zN u (x0 + 1) = 5 from lyN_3_5 h_u.1 (h_u.g 0 rfl)) (fun hix3 => ?_)
      refine eq_bs (fun v4 => ?_)
      refine eq_g (show zK u x0 = 3 from (h_u.g 0 rfl)) ?_
      refine eq_bR (show zR u x0 6 = some (x0 + 2) from lyR_3_6 h_u.1 (h_u.g 0 rfl)) ?_
      refine eq_cH rfl (fun r6 u7 e9 => h_u.fr (fr_J9_min_7cf53 (P := PT) N (999 : Int32) v4 u clPT _ _ e9).1) (fun r6 u7 h_u7 => ?_)
      refine eq_cH rfl (fun r8 u9 e9 => h_u7.fr (fr_J9_max_7cf53 (P := PT) N (0 : Int32) r6 u7 clPT _ _ e9).1) (fun r8 u9 h_u9 => ?_)
      refine eq_g (show zK u9 (x0 + 2) = 22 from (lyK_3_6 h_u9.1 (h_u9.g 0 rfl))) ?_
      refine eq_ixh (show zN u9 (x0 + 2) = 5 from lyN_3_6 h_u9.1 (h_u9.g 0 rfl)) (fun hix4 => ?_)
      refine eq_sH (h_u9.fr (P := PT) (Fr.sIr trivial)) (fun u10 h_u10 => ?_)
      refine eq_g (show zK u10 x0 = 3 from (h_u10.g 0 rfl)) ?_
      refine eq_bR (show zR u10 x0 5 = some (x0 + 1) from lyR_3_5 h_u10.1 (h_u10.g 0 rfl)) ?_
      refine eq_g (show zK u10 (x0 + 1) = 22 from (lyK_3_5 h_u10.1 (h_u10.g 0 rfl))) ?_
      refine eq_ixh (show zN u10 (x0 + 1) = 5 from lyN_3_5 h_u10.1 (h_u10.g 0 rfl)) (fun hix5 => ?_)
      refine eq_sH (h_u10.fr (P := PT) (Fr.sIr trivial)) (fun u12 h_u12 => ?_)
      exact hrc60 x0 x1 (x2 + (1 : Int32)) u12 (hkc (show zK u12 x0 = 3 from (h_u12.g 0 rfl)) (hkc (show zK u12 x1 = 8 from (h_u12.g 1 rfl)) (hk0 h_u12.1)))
set_option maxRecDepth 20000 in
def hX2_goOn (N : Nat)  (a0 : Nat) (p1 : Nat) (u : SG) : Option (Unit × SG) := bs (sI u a0 0 ((zI u a0 0) + (1 : Int32))) fun u1 => (if (zI u1 p1 6) ≤ (zI u1 a0 0) then (bs (sI u1 a0 0 (0 : Int32)) fun u2 => (cl (fJ9_min_7cf53 N (999 : Int32) ((zI u2 a0 1) + (1 : Int32)) u2) fun r3 u4 => (bs (sI u4 a0 1 r3) fun u5 => (bs (sI u5 a0 2 (0 : Int32)) fun u6 => (bs (sI u6 a0 3 (0 : Int32)) fun u7 => (bs (sI u7 a0 4 (0 : Int32)) fun u8 => (hgX2_goOn_60 N   N a0 p1 (0 : Int32) u8)))))))
  else (some ((), u1)))
set_option maxRecDepth 20000 in
theorem eX2_goOn (N : Nat)  (a0 : Nat) (p1 : Nat) (u : SG) (h_u : HK [(some a0, 3), (some p1, 8)] u) : fX2_goOn N  a0 p1 u = hX2_goOn N  a0 p1 u := by
  unfold fX2_goOn hX2_goOn
  refine eq_g (show zK u a0 = 3 from (h_u.g 0 rfl)) ?_
  refine eq_g (show zK u a0 = 3 from (h_u.g 0 rfl)) ?_
  refine eq_sH (h_u.fr (P := PT) (Fr.sIr trivial)) (fun u1 h_u1 => ?_)
  refine eq_g (show zK u1 a0 = 3 from (h_u1.g 0 rfl)) ?_
  refine eq_g (show zK u1 p1 = 8 from (h_u1.g 1 rfl)) ?_
  refine eq_if ?_ ?_
  · refine eq_g (show zK u1 a0 = 3 from (h_u1.g 0 rfl)) ?_
    refine eq_sH (h_u1.fr (P := PT) (Fr.sIr trivial)) (fun u2 h_u2 => ?_)
    refine eq_g (show zK u2 a0 = 3 from (h_u2.g 0 rfl)) ?_
    refine eq_cH rfl (fun r3 u4 e9 => h_u2.fr (fr_J9_min_7cf53 (P := PT) N (999 : Int32) ((zI u2 a0 1) + (1 : Int32)) u2 clPT _ _ e9).1) (fun r3 u4 h_u4 => ?_)
    refine eq_g (show zK u4 a0 = 3 from (h_u4.g 0 rfl)) ?_
    refine eq_sH (h_u4.fr (P := PT) (Fr.sIr trivial)) (fun u5 h_u5 => ?_)
    refine eq_g (show zK u5 a0 = 3 from (h_u5.g 0 rfl)) ?_
    refine eq_sH (h_u5.fr (P := PT) (Fr.sIr trivial)) (fun u6 h_u6 => ?_)
    refine eq_g (show zK u6 a0 = 3 from (h_u6.g 0 rfl)) ?_
    refine eq_sH (h_u6.fr (P := PT) (Fr.sIr trivial)) (fun u7 h_u7 => ?_)
    refine eq_g (show zK u7 a0 = 3 from (h_u7.g 0 rfl)) ?_
    refine eq_sH (h_u7.fr (P := PT) (Fr.sIr trivial)) (fun u8 h_u8 => ?_)
    exact egX2_goOn_60 N   N a0 p1 (0 : Int32) u8 (hkc (show zK u8 a0 = 3 from (h_u8.g 0 rfl)) (hkc (show zK u8 p1 = 8 from (h_u8.g 1 rfl)) (hk0 h_u8.1)))
  · rfl
set_option maxRecDepth 20000 in
def hX7_workersAt (N : Nat)  (a0 : Nat) (p1 : Int32) (u : SG) : Option (Int32 × SG) := if p1 < 0 then (some ((0 : Int32), u))
  else (if (10 : Int32) ≤ p1 then (some ((0 : Int32), u))
  else (if p1 < 0 ∨ 10 ≤ p1.toNatClampNeg then none else (some (zI u (a0 + 5) p1.toNatClampNeg, u))))
set_option maxRecDepth 20000 in
theorem eX7_workersAt (N : Nat)  (a0 : Nat) (p1 : Int32) (u : SG) (h_u : HK [(some a0, 8)] u) : fX7_workersAt N  a0 p1 u = hX7_workersAt N  a0 p1 u := by
  unfold fX7_workersAt hX7_workersAt
  refine eq_if ?_ ?_
  · rfl
  · refine eq_if ?_ ?_
    · rfl
    · refine eq_g (show zK u a0 = 8 from (h_u.g 0 rfl)) ?_
      refine eq_bR (show zR u a0 4 = some (a0 + 5) from lyR_8_4 h_u.1 (h_u.g 0 rfl)) ?_
      refine eq_g (show zK u (a0 + 5) = 22 from (lyK_8_4 h_u.1 (h_u.g 0 rfl))) ?_
      refine eq_ixh (show zN u (a0 + 5) = 10 from lyN_8_4 h_u.1 (h_u.g 0 rfl)) (fun hix1 => ?_)
      rfl
set_option maxRecDepth 20000 in
def hX3_push (N : Nat)  (a0 : Nat) (p1 : Int64) (u : SG) : Option (Unit × SG) := if (zI u a0 1) < 0 then (some ((), u))
  else (if (64 : Int32) ≤ (zI u a0 1) then (some ((), u))
  else (if (zI u a0 1) < 0 ∨ 64 ≤ (zI u a0 1).toNatClampNeg then none else (bs (sL u (a0 + 1) (zI u a0 1).toNatClampNeg p1) fun u2 => (bs (sI u2 a0 1 ((zI u2 a0 1) + (1 : Int32))) fun u3 => (some ((), u3))))))
set_option maxRecDepth 20000 in
theorem eX3_push (N : Nat)  (a0 : Nat) (p1 : Int64) (u : SG) (h_u : HK [(some a0, 4)] u) : fX3_push N  a0 p1 u = hX3_push N  a0 p1 u := by
  unfold fX3_push hX3_push
  refine eq_g (show zK u a0 = 4 from (h_u.g 0 rfl)) ?_
  refine eq_if ?_ ?_
  · rfl
  · refine eq_g (show zK u a0 = 4 from (h_u.g 0 rfl)) ?_
    refine eq_if ?_ ?_
    · rfl
    · refine eq_g (show zK u a0 = 4 from (h_u.g 0 rfl)) ?_
      refine eq_bR (show zR u a0 0 = some (a0 + 1) from lyR_4_0 h_u.1 (h_u.g 0 rfl)) ?_
      refine eq_g (show zK u a0 = 4 from (h_u.g 0 rfl)) ?_
      refine eq_g (show zK u (a0 + 1) = 23 from (lyK_4_0 h_u.1 (h_u.g 0 rfl))) ?_
      refine eq_ixh (show zN u (a0 + 1) = 64 from lyN_4_0 h_u.1 (h_u.g 0 rfl)) (fun hix1 => ?_)
      refine eq_sH (h_u.fr (P := PT) (Fr.sLr trivial)) (fun u2 h_u2 => ?_)
      refine eq_g (show zK u2 a0 = 4 from (h_u2.g 0 rfl)) ?_
      refine eq_g (show zK u2 a0 = 4 from (h_u2.g 0 rfl)) ?_
      refine eq_sH (h_u2.fr (P := PT) (Fr.sIr trivial)) (fun u3 h_u3 => ?_)
      rfl
set_option maxRecDepth 20000 in
def hgX7_costOf_4 (N : Nat)   : Nat → Nat → Int32 → Int32 → Int32 → SG → Option (Int32 × SG)
  | 0, _, _, _, _, _ => none
  | n + 1, x0, x1, x2, x3, u => if (5 : Int32) ≤ x3 then (some (x2, u))
  else (cl (fX10_bitOf N x1 x3 u) fun r1 u2 => (if r1 = (1 : Int32) then (if x3 < 0 ∨ 5 ≤ x3.toNatClampNeg then none else (bs (x2 + (zI u2 (x0 + 4) x3.toNatClampNeg)) fun v4 => ((hgX7_costOf_4 N   n) x0 x1 v4 (x3 + (1 : Int32)) u2)))
  else ((hgX7_costOf_4 N   n) x0 x1 x2 (x3 + (1 : Int32)) u2)))
set_option maxRecDepth 20000 in
theorem egX7_costOf_4 (N : Nat)   : ∀ (n : Nat) (x0 : Nat) (x1 : Int32) (x2 : Int32) (x3 : Int32) (u : SG), HK [(some x0, 8)] u → gX7_costOf_4 N   n x0 x1 x2 x3 u = hgX7_costOf_4 N   n x0 x1 x2 x3 u := by
  intro n
  induction n with
  | zero => intros; rfl
  | succ n ih =>
    intro x0 x1 x2 x3 u h_u
    have hrc4 := ih
    rw [gX7_costOf_4, hgX7_costOf_4]
    refine eq_if ?_ ?_
    · rfl
    · refine eq_cH rfl (fun r1 u2 e9 => h_u.fr (fr_X10_bitOf (P := PT) N x1 x3 u clPT _ _ e9).1) (fun r1 u2 h_u2 => ?_)
      refine eq_if ?_ ?_
      · refine eq_g (show zK u2 x0 = 8 from (h_u2.g 0 rfl)) ?_
        refine eq_bR (show zR u2 x0 3 = some (x0 + 4) from lyR_8_3 h_u2.1 (h_u2.g 0 rfl)) ?_
        refine eq_g (show zK u2 (x0 + 4) = 22 from (lyK_8_3 h_u2.1 (h_u2.g 0 rfl))) ?_
        refine eq_ixh (show zN u2 (x0 + 4) = 5 from lyN_8_3 h_u2.1 (h_u2.g 0 rfl)) (fun hix1 => ?_)
        refine eq_bs (fun v4 => ?_)
        exact hrc4 x0 x1 v4 (x3 + (1 : Int32)) u2 (hkc (show zK u2 x0 = 8 from (h_u2.g 0 rfl)) (hk0 h_u2.1))
      · exact hrc4 x0 x1 x2 (x3 + (1 : Int32)) u2 (hkc (show zK u2 x0 = 8 from (h_u2.g 0 rfl)) (hk0 h_u2.1))
set_option maxRecDepth 20000 in
def hX7_costOf (N : Nat)  (a0 : Nat) (p1 : Int32) (u : SG) : Option (Int32 × SG) := hgX7_costOf_4 N   N a0 p1 (0 : Int32) (0 : Int32) u
set_option maxRecDepth 20000 in
theorem eX7_costOf (N : Nat)  (a0 : Nat) (p1 : Int32) (u : SG) (h_u : HK [(some a0, 8)] u) : fX7_costOf N  a0 p1 u = hX7_costOf N  a0 p1 u := by
  unfold fX7_costOf hX7_costOf
  exact egX7_costOf_4 N   N a0 p1 (0 : Int32) (0 : Int32) u (hkc (show zK u a0 = 8 from (h_u.g 0 rfl)) (hk0 h_u.1))
set_option maxRecDepth 20000 in
def hgX7_lampsOf_4 (N : Nat)   : Nat → Nat → Int32 → Int32 → Int32 → SG → Option (Int32 × SG)
  | 0, _, _, _, _, _ => none
  | n + 1, x0, x1, x2, x3, u => if (zI u x0 9) ≤ x3 then (some (x2, u))
  else (if x3 < 0 ∨ 5 ≤ x3.toNatClampNeg then none else (if (zI u (x0 + 3) x3.toNatClampNeg) = x1 then (bs (x2 ||| ((1 : Int32) <<< (x3 &&& 31))) fun v2 => ((hgX7_lampsOf_4 N   n) x0 x1 v2 (x3 + (1 : Int32)) u))
  else ((hgX7_lampsOf_4 N   n) x0 x1 x2 (x3 + (1 : Int32)) u)))
set_option maxRecDepth 20000 in
theorem egX7_lampsOf_4 (N : Nat)   : ∀ (n : Nat) (x0 : Nat) (x1 : Int32) (x2 : Int32) (x3 : Int32) (u : SG), HK [(some x0, 8)] u → gX7_lampsOf_4 N   n x0 x1 x2 x3 u = hgX7_lampsOf_4 N   n x0 x1 x2 x3 u := by
  intro n
  induction n with
  | zero => intros; rfl
  | succ n ih =>
    intro x0 x1 x2 x3 u h_u
    have hrc4 := ih
    rw [gX7_lampsOf_4, hgX7_lampsOf_4]
    refine eq_g (show zK u x0 = 8 from (h_u.g 0 rfl)) ?_
    refine eq_if ?_ ?_
    · rfl
    · refine eq_g (show zK u x0 = 8 from (h_u.g 0 rfl)) ?_
      refine eq_bR (show zR u x0 2 = some (x0 + 3) from lyR_8_2 h_u.1 (h_u.g 0 rfl)) ?_
      refine eq_g (show zK u (x0 + 3) = 22 from (lyK_8_2 h_u.1 (h_u.g 0 rfl))) ?_
      refine eq_ixh (show zN u (x0 + 3) = 5 from lyN_8_2 h_u.1 (h_u.g 0 rfl)) (fun hix1 => ?_)
      refine eq_if ?_ ?_
      · refine eq_bs (fun v2 => ?_)
        exact hrc4 x0 x1 v2 (x3 + (1 : Int32)) u (hkc (show zK u x0 = 8 from (h_u.g 0 rfl)) (hk0 h_u.1))
      · exact hrc4 x0 x1 x2 (x3 + (1 : Int32)) u (hkc (show zK u x0 = 8 from (h_u.g 0 rfl)) (hk0 h_u.1))
set_option maxRecDepth 20000 in
def hX7_lampsOf (N : Nat)  (a0 : Nat) (p1 : Int32) (u : SG) : Option (Int32 × SG) := hgX7_lampsOf_4 N   N a0 p1 (0 : Int32) (0 : Int32) u
set_option maxRecDepth 20000 in
theorem eX7_lampsOf (N : Nat)  (a0 : Nat) (p1 : Int32) (u : SG) (h_u : HK [(some a0, 8)] u) : fX7_lampsOf N  a0 p1 u = hX7_lampsOf N  a0 p1 u := by
  unfold fX7_lampsOf hX7_lampsOf
  exact egX7_lampsOf_4 N   N a0 p1 (0 : Int32) (0 : Int32) u (hkc (show zK u a0 = 8 from (h_u.g 0 rfl)) (hk0 h_u.1))
set_option maxRecDepth 20000 in
def hX3_valueOf (N : Nat)  (p1 : Int32) (p2 : Nat) (p3 : Nat) (p4 : Int32) (u : SG) : Option (Int64 × SG) := cl (hX2_burningAt N p3 p2 (zI u p3 0) u) fun r1 u2 => (if p1 = (0 : Int32) then (some (p4.toInt64, u2))
  else (if p1 = (1 : Int32) then (some ((zI u2 p3 0).toInt64, u2))
  else (if p1 = (2 : Int32) then (some ((zI u2 p3 1).toInt64, u2))
  else (if p1 = (3 : Int32) then (if p4 < 0 ∨ 5 ≤ p4.toNatClampNeg then none else (some ((zI u2 (p2 + 1) p4.toNatClampNeg).toInt64, u2)))
  else (if p1 = (4 : Int32) then (if p4 < 0 ∨ 5 ≤ p4.toNatClampNeg then none else (some ((zI u2 (p2 + 2) p4.toNatClampNeg).toInt64, u2)))
  else (if p1 = (5 : Int32) then (if p4 < 0 ∨ 5 ≤ p4.toNatClampNeg then none else (some ((zI u2 (p3 + 1) p4.toNatClampNeg).toInt64, u2)))
  else (if p1 = (6 : Int32) then (some (((zI u2 p2 6) - (zI u2 p3 0)).toInt64, u2))
  else (if p1 = (7 : Int32) then (cl (hX7_costOf N p2 r1 u2) fun r6 u7 => (some (r6.toInt64, u7)))
  else (if p1 = (8 : Int32) then (cl (fJ6_bitCount_0f7a4 N ((zI u2 p3 2) &&& (((1 : Int32) <<< (p4 &&& 31)) ^^^ (-1 : Int32))) u2) fun r8 u9 => (some (r8.toInt64, u9)))
  else (if p1 = (9 : Int32) then (cl (fX10_bitOf N (zI u2 p3 2) p4 u2) fun r10 u11 => (some (r10.toInt64, u11)))
  else (if p1 = (10 : Int32) then (if p4 < 0 ∨ 6 ≤ p4.toNatClampNeg then none else (if (60 : Int64) = 0 then (none)
  else (some ((zL u2 (p3 + 3) p4.toNatClampNeg) / (60 : Int64), u2))))
  else (if p1 = (11 : Int32) then (if p4 < 0 ∨ 5 ≤ p4.toNatClampNeg then none else (some ((zI u2 (p3 + 2) p4.toNatClampNeg).toInt64, u2)))
  else (if p1 = (12 : Int32) then (cl (hX7_lampsOf N p2 p4 u2) fun r14 u15 => (cl (hX7_costOf N p2 (r1 &&& r14) u15) fun r16 u17 => (some (r16.toInt64, u17))))
  else (some ((0 : Int64), u2)))))))))))))))
set_option maxRecDepth 20000 in
theorem eX3_valueOf (N : Nat)  (p1 : Int32) (p2 : Nat) (p3 : Nat) (p4 : Int32) (u : SG) (h_u : HK [(some p2, 8), (some p3, 3)] u) : fX3_valueOf N  p1 p2 p3 p4 u = hX3_valueOf N  p1 p2 p3 p4 u := by
  unfold fX3_valueOf hX3_valueOf
  refine eq_g (show zK u p3 = 3 from (h_u.g 1 rfl)) ?_
  refine eq_g (show zK u p3 = 3 from (h_u.g 1 rfl)) ?_
  refine eq_cH (eX2_burningAt N p3 p2 (zI u p3 0) u (hkc (show zK u p3 = 3 from (h_u.g 1 rfl)) (hkc (show zK u p2 = 8 from (h_u.g 0 rfl)) (hk0 h_u.1)))) (fun r1 u2 e9 => h_u.fr (fr_X2_burningAt (P := PT) N p3 p2 (zI u p3 0) u clPT trivial trivial _ _ e9).1) (fun r1 u2 h_u2 => ?_)
  refine eq_if ?_ ?_
  · rfl
  · refine eq_if ?_ ?_
    · refine eq_g (show zK u2 p3 = 3 from (h_u2.g 1 rfl)) ?_
      rfl
    · refine eq_if ?_ ?_
      · refine eq_g (show zK u2 p3 = 3 from (h_u2.g 1 rfl)) ?_
        rfl
      · refine eq_if ?_ ?_
        · refine eq_g (show zK u2 p2 = 8 from (h_u2.g 0 rfl)) ?_
          refine eq_bR (show zR u2 p2 0 = some (p2 + 1) from lyR_8_0 h_u2.1 (h_u2.g 0 rfl)) ?_
          refine eq_g (show zK u2 (p2 + 1) = 22 from (lyK_8_0 h_u2.1 (h_u2.g 0 rfl))) ?_
          refine eq_ixh (show zN u2 (p2 + 1) = 5 from lyN_8_0 h_u2.1 (h_u2.g 0 rfl)) (fun hix1 => ?_)
          rfl
        · refine eq_if ?_ ?_
          · refine eq_g (show zK u2 p2 = 8 from (h_u2.g 0 rfl)) ?_
            refine eq_bR (show zR u2 p2 1 = some (p2 + 2) from lyR_8_1 h_u2.1 (h_u2.g 0 rfl)) ?_
            refine eq_g (show zK u2 (p2 + 2) = 22 from (lyK_8_1 h_u2.1 (h_u2.g 0 rfl))) ?_
            refine eq_ixh (show zN u2 (p2 + 2) = 5 from lyN_8_1 h_u2.1 (h_u2.g 0 rfl)) (fun hix2 => ?_)
            rfl
          · refine eq_if ?_ ?_
            · refine eq_g (show zK u2 p3 = 3 from (h_u2.g 1 rfl)) ?_
              refine eq_bR (show zR u2 p3 5 = some (p3 + 1) from lyR_3_5 h_u2.1 (h_u2.g 1 rfl)) ?_
              refine eq_g (show zK u2 (p3 + 1) = 22 from (lyK_3_5 h_u2.1 (h_u2.g 1 rfl))) ?_
              refine eq_ixh (show zN u2 (p3 + 1) = 5 from lyN_3_5 h_u2.1 (h_u2.g 1 rfl)) (fun hix3 => ?_)
              rfl
            · refine eq_if ?_ ?_
              · refine eq_g (show zK u2 p2 = 8 from (h_u2.g 0 rfl)) ?_
                refine eq_g (show zK u2 p3 = 3 from (h_u2.g 1 rfl)) ?_
                rfl
              · refine eq_if ?_ ?_
                · refine eq_g (show zK u2 p2 = 8 from (h_u2.g 0 rfl)) ?_
                  refine eq_cH (eX7_costOf N p2 r1 u2 (hkc (show zK u2 p2 = 8 from (h_u2.g 0 rfl)) (hk0 h_u2.1))) (fun r6 u7 e9 => h_u2.fr (fr_X7_costOf (P := PT) N p2 r1 u2 clPT trivial _ _ e9).1) (fun r6 u7 h_u7 => ?_)
                  rfl
                · refine eq_if ?_ ?_
                  · refine eq_g (show zK u2 p3 = 3 from (h_u2.g 1 rfl)) ?_
                    refine eq_cH rfl (fun r8 u9 e9 => h_u2.fr (fr_J6_bitCount_0f7a4 (P := PT) N ((zI u2 p3 2) &&& (((1 : Int32) <<< (p4 &&& 31)) ^^^ (-1 : Int32))) u2 clPT _ _ e9).1) (fun r8 u9 h_u9 => ?_)
                    rfl
                  · refine eq_if ?_ ?_
                    · refine eq_g (show zK u2 p3 = 3 from (h_u2.g 1 rfl)) ?_
                      refine eq_cH rfl (fun r10 u11 e9 => h_u2.fr (fr_X10_bitOf (P := PT) N (zI u2 p3 2) p4 u2 clPT _ _ e9).1) (fun r10 u11 h_u11 => ?_)
                      rfl
                    · refine eq_if ?_ ?_
                      · refine eq_g (show zK u2 p3 = 3 from (h_u2.g 1 rfl)) ?_
                        refine eq_bR (show zR u2 p3 7 = some (p3 + 3) from lyR_3_7 h_u2.1 (h_u2.g 1 rfl)) ?_
                        refine eq_g (show zK u2 (p3 + 3) = 23 from (lyK_3_7 h_u2.1 (h_u2.g 1 rfl))) ?_
                        refine eq_ixh (show zN u2 (p3 + 3) = 6 from lyN_3_7 h_u2.1 (h_u2.g 1 rfl)) (fun hix4 => ?_)
                        refine eq_if ?_ ?_
                        · rfl
                        · rfl
                      · refine eq_if ?_ ?_
                        · refine eq_g (show zK u2 p3 = 3 from (h_u2.g 1 rfl)) ?_
                          refine eq_bR (show zR u2 p3 6 = some (p3 + 2) from lyR_3_6 h_u2.1 (h_u2.g 1 rfl)) ?_
                          refine eq_g (show zK u2 (p3 + 2) = 22 from (lyK_3_6 h_u2.1 (h_u2.g 1 rfl))) ?_
                          refine eq_ixh (show zN u2 (p3 + 2) = 5 from lyN_3_6 h_u2.1 (h_u2.g 1 rfl)) (fun hix5 => ?_)
                          rfl
                        · refine eq_if ?_ ?_
                          · refine eq_g (show zK u2 p2 = 8 from (h_u2.g 0 rfl)) ?_
                            refine eq_cH (eX7_lampsOf N p2 p4 u2 (hkc (show zK u2 p2 = 8 from (h_u2.g 0 rfl)) (hk0 h_u2.1))) (fun r14 u15 e9 => h_u2.fr (fr_X7_lampsOf (P := PT) N p2 p4 u2 clPT trivial _ _ e9).1) (fun r14 u15 h_u15 => ?_)
                            refine eq_g (show zK u15 p2 = 8 from (h_u15.g 0 rfl)) ?_
                            refine eq_cH (eX7_costOf N p2 (r1 &&& r14) u15 (hkc (show zK u15 p2 = 8 from (h_u15.g 0 rfl)) (hk0 h_u15.1))) (fun r16 u17 e9 => h_u15.fr (fr_X7_costOf (P := PT) N p2 (r1 &&& r14) u15 clPT trivial _ _ e9).1) (fun r16 u17 h_u17 => ?_)
                            rfl
                          · rfl
set_option maxRecDepth 20000 in
def hX3_pop (N : Nat)  (a0 : Nat) (u : SG) : Option (Int64 × SG) := if (zI u a0 1) ≤ 0 then (some ((0 : Int64), u))
  else (if (zI u a0 1) ≤ (64 : Int32) then (bs (sI u a0 1 ((zI u a0 1) - (1 : Int32))) fun u1 => (if (zI u1 a0 1) < 0 ∨ 64 ≤ (zI u1 a0 1).toNatClampNeg then none else (some (zL u1 (a0 + 1) (zI u1 a0 1).toNatClampNeg, u1))))
  else (some ((0 : Int64), u)))
set_option maxRecDepth 20000 in
theorem eX3_pop (N : Nat)  (a0 : Nat) (u : SG) (h_u : HK [(some a0, 4)] u) : fX3_pop N  a0 u = hX3_pop N  a0 u := by
  unfold fX3_pop hX3_pop
  refine eq_g (show zK u a0 = 4 from (h_u.g 0 rfl)) ?_
  refine eq_if ?_ ?_
  · rfl
  · refine eq_g (show zK u a0 = 4 from (h_u.g 0 rfl)) ?_
    refine eq_if ?_ ?_
    · refine eq_g (show zK u a0 = 4 from (h_u.g 0 rfl)) ?_
      refine eq_g (show zK u a0 = 4 from (h_u.g 0 rfl)) ?_
      refine eq_sH (h_u.fr (P := PT) (Fr.sIr trivial)) (fun u1 h_u1 => ?_)
      refine eq_g (show zK u1 a0 = 4 from (h_u1.g 0 rfl)) ?_
      refine eq_bR (show zR u1 a0 0 = some (a0 + 1) from lyR_4_0 h_u1.1 (h_u1.g 0 rfl)) ?_
      refine eq_g (show zK u1 a0 = 4 from (h_u1.g 0 rfl)) ?_
      refine eq_g (show zK u1 (a0 + 1) = 23 from (lyK_4_0 h_u1.1 (h_u1.g 0 rfl))) ?_
      refine eq_ixh (show zN u1 (a0 + 1) = 64 from lyN_4_0 h_u1.1 (h_u1.g 0 rfl)) (fun hix1 => ?_)
      rfl
    · rfl
set_option maxRecDepth 20000 in
def hgX3_answer_120 (N : Nat)  (rc8 : Nat → Nat → Nat → Nat → Int32 → Int32 → SG → Option (Int64 × SG)) (x0 : Nat) (x1 : Nat) (x2 : Nat) (x3 : Nat) (x4 : Int32) (x5 : Int32) (s0 : Int32) (u : SG) : Option (Int64 × SG) := cl (hX3_pop N x0 u) fun r1 u2 => (if s0 = 0 then (rc8 x0 x1 x2 x3 x4 (x5 + (1 : Int32)) u2)
  else (some (r1, u2)))
set_option maxRecDepth 20000 in
theorem egX3_answer_120 (N : Nat)  (rec8 : Nat → Nat → Nat → Nat → Int32 → Int32 → SG → Option (Int64 × SG)) (rc8 : Nat → Nat → Nat → Nat → Int32 → Int32 → SG → Option (Int64 × SG)) (hrc8 : ∀ (x0 : Nat) (x1 : Nat) (x2 : Nat) (x3 : Nat) (x4 : Int32) (x5 : Int32) (u : SG), HK [(some x0, 4), (some x1, 8), (some x2, 3), (some x3, 5)] u → rec8 x0 x1 x2 x3 x4 x5 u = rc8 x0 x1 x2 x3 x4 x5 u) (x0 : Nat) (x1 : Nat) (x2 : Nat) (x3 : Nat) (x4 : Int32) (x5 : Int32) (s0 : Int32) (u : SG) (h_u : HK [(some x0, 4), (some x1, 8), (some x2, 3), (some x3, 5)] u) : gX3_answer_120 N  rec8 x0 x1 x2 x3 x4 x5 s0 u = hgX3_answer_120 N  rc8 x0 x1 x2 x3 x4 x5 s0 u := by
  unfold gX3_answer_120 hgX3_answer_120
  refine eq_g (show zK u x0 = 4 from (h_u.g 0 rfl)) ?_
  refine eq_cH (eX3_pop N x0 u (hkc (show zK u x0 = 4 from (h_u.g 0 rfl)) (hk0 h_u.1))) (fun r1 u2 e9 => h_u.fr (fr_X3_pop (P := PT) N x0 u clPT trivial _ _ e9).1) (fun r1 u2 h_u2 => ?_)
  refine eq_if ?_ ?_
  · exact hrc8 x0 x1 x2 x3 x4 (x5 + (1 : Int32)) u2 (hkc (show zK u2 x0 = 4 from (h_u2.g 0 rfl)) (hkc (show zK u2 x1 = 8 from (h_u2.g 1 rfl)) (hkc (show zK u2 x2 = 3 from (h_u2.g 2 rfl)) (hkc (show zK u2 x3 = 5 from (h_u2.g 3 rfl)) (hk0 h_u2.1)))))
  · rfl
set_option maxRecDepth 20000 in
def hgX3_answer_8 (N : Nat)   : Nat → Nat → Nat → Nat → Nat → Int32 → Int32 → SG → Option (Int64 × SG)
  | 0, _, _, _, _, _, _, _ => none
  | n + 1, x0, x1, x2, x3, x4, x5, u => if (nI (zN u (x3 + 1))) ≤ x5 then (some ((0 : Int64), u))
  else (if x5 < 0 ∨ zN u (x3 + 1) ≤ x5.toNatClampNeg then (none)
  else (bs (zI u (x3 + 1) x5.toNatClampNeg) fun v3 => (if v3 < 0 then (if v3 ≤ (-20 : Int32) then (if v3 = (-32 : Int32) then (cl (hX3_pop N x0 u) fun r16 u17 => (cl (hX3_push N x0 ((1 : Int64) - r16) u17) fun r18 u19 => ((hgX3_answer_8 N   n) x0 x1 x2 x3 x4 (x5 + (1 : Int32)) u19)))
  else (if v3 = (-33 : Int32) then (cl (hX3_pop N x0 u) fun r14 u15 => (some (r14, u15)))
  else (if v3 = (-34 : Int32) then (cl (hX3_pop N x0 u) fun r12 u13 => (if (lg_cmp r12 (0 : Int64)) = 0 then (hgX3_answer_120 N  (hgX3_answer_8 N   n)  x0 x1 x2 x3 x4 x5 (0 : Int32) u13)
  else (hgX3_answer_120 N  (hgX3_answer_8 N   n)  x0 x1 x2 x3 x4 x5 (1 : Int32) u13)))
  else (cl (hX3_pop N x0 u) fun r4 u5 => (cl (hX3_pop N x0 u5) fun r6 u7 => (cl (fX4_combine N v3 r6 r4 u7) fun r8 u9 => (cl (hX3_push N x0 r8 u9) fun r10 u11 => ((hgX3_answer_8 N   n) x0 x1 x2 x3 x4 (x5 + (1 : Int32)) u11))))))))
  else (cl (hX3_valueOf N ((-1 : Int32) - v3) x1 x2 x4 u) fun r20 u21 => (cl (hX3_push N x0 r20 u21) fun r22 u23 => ((hgX3_answer_8 N   n) x0 x1 x2 x3 x4 (x5 + (1 : Int32)) u23))))
  else (cl (hX3_push N x0 v3.toInt64 u) fun r24 u25 => ((hgX3_answer_8 N   n) x0 x1 x2 x3 x4 (x5 + (1 : Int32)) u25)))))
set_option maxRecDepth 20000 in
theorem egX3_answer_8 (N : Nat)   : ∀ (n : Nat) (x0 : Nat) (x1 : Nat) (x2 : Nat) (x3 : Nat) (x4 : Int32) (x5 : Int32) (u : SG), HK [(some x0, 4), (some x1, 8), (some x2, 3), (some x3, 5)] u → gX3_answer_8 N   n x0 x1 x2 x3 x4 x5 u = hgX3_answer_8 N   n x0 x1 x2 x3 x4 x5 u := by
  intro n
  induction n with
  | zero => intros; rfl
  | succ n ih =>
    intro x0 x1 x2 x3 x4 x5 u h_u
    have hrc8 := ih
    rw [gX3_answer_8, hgX3_answer_8]
    refine eq_g (show zK u x3 = 5 from (h_u.g 3 rfl)) ?_
    refine eq_bR (show zR u x3 0 = some (x3 + 1) from lyR_5_0 h_u.1 (h_u.g 3 rfl)) ?_
    refine eq_g (show zK u (x3 + 1) = 22 from (lyK_5_0 h_u.1 (h_u.g 3 rfl))) ?_
    refine eq_if ?_ ?_
    · rfl
    · refine eq_g (show zK u x3 = 5 from (h_u.g 3 rfl)) ?_
      refine eq_bR (show zR u x3 0 = some (x3 + 1) from lyR_5_0 h_u.1 (h_u.g 3 rfl)) ?_
      refine eq_g (show zK u (x3 + 1) = 22 from (lyK_5_0 h_u.1 (h_u.g 3 rfl))) ?_
      refine eq_if ?_ ?_
      · rfl
      · refine eq_bs (fun v3 => ?_)
        refine eq_if ?_ ?_
        · refine eq_if ?_ ?_
          · refine eq_if ?_ ?_
            · refine eq_g (show zK u x0 = 4 from (h_u.g 0 rfl)) ?_
              refine eq_cH (eX3_pop N x0 u (hkc (show zK u x0 = 4 from (h_u.g 0 rfl)) (hk0 h_u.1))) (fun r16 u17 e9 => h_u.fr (fr_X3_pop (P := PT) N x0 u clPT trivial _ _ e9).1) (fun r16 u17 h_u17 => ?_)
              refine eq_g (show zK u17 x0 = 4 from (h_u17.g 0 rfl)) ?_
              refine eq_cH (eX3_push N x0 ((1 : Int64) - r16) u17 (hkc (show zK u17 x0 = 4 from (h_u17.g 0 rfl)) (hk0 h_u17.1))) (fun r18 u19 e9 => h_u17.fr (fr_X3_push (P := PT) N x0 ((1 : Int64) - r16) u17 clPT trivial _ _ e9).1) (fun r18 u19 h_u19 => ?_)
              exact hrc8 x0 x1 x2 x3 x4 (x5 + (1 : Int32)) u19 (hkc (show zK u19 x0 = 4 from (h_u19.g 0 rfl)) (hkc (show zK u19 x1 = 8 from (h_u19.g 1 rfl)) (hkc (show zK u19 x2 = 3 from (h_u19.g 2 rfl)) (hkc (show zK u19 x3 = 5 from (h_u19.g 3 rfl)) (hk0 h_u19.1)))))
            · refine eq_if ?_ ?_
              · refine eq_g (show zK u x0 = 4 from (h_u.g 0 rfl)) ?_
                refine eq_cH (eX3_pop N x0 u (hkc (show zK u x0 = 4 from (h_u.g 0 rfl)) (hk0 h_u.1))) (fun r14 u15 e9 => h_u.fr (fr_X3_pop (P := PT) N x0 u clPT trivial _ _ e9).1) (fun r14 u15 h_u15 => ?_)
                rfl
              · refine eq_if ?_ ?_
                · refine eq_g (show zK u x0 = 4 from (h_u.g 0 rfl)) ?_
                  refine eq_cH (eX3_pop N x0 u (hkc (show zK u x0 = 4 from (h_u.g 0 rfl)) (hk0 h_u.1))) (fun r12 u13 e9 => h_u.fr (fr_X3_pop (P := PT) N x0 u clPT trivial _ _ e9).1) (fun r12 u13 h_u13 => ?_)
                  refine eq_if ?_ ?_
                  · exact egX3_answer_120 N  _ _ hrc8  x0 x1 x2 x3 x4 x5 (0 : Int32) u13 (hkc (show zK u13 x0 = 4 from (h_u13.g 0 rfl)) (hkc (show zK u13 x1 = 8 from (h_u13.g 1 rfl)) (hkc (show zK u13 x2 = 3 from (h_u13.g 2 rfl)) (hkc (show zK u13 x3 = 5 from (h_u13.g 3 rfl)) (hk0 h_u13.1)))))
                  · exact egX3_answer_120 N  _ _ hrc8  x0 x1 x2 x3 x4 x5 (1 : Int32) u13 (hkc (show zK u13 x0 = 4 from (h_u13.g 0 rfl)) (hkc (show zK u13 x1 = 8 from (h_u13.g 1 rfl)) (hkc (show zK u13 x2 = 3 from (h_u13.g 2 rfl)) (hkc (show zK u13 x3 = 5 from (h_u13.g 3 rfl)) (hk0 h_u13.1)))))
                · refine eq_g (show zK u x0 = 4 from (h_u.g 0 rfl)) ?_
                  refine eq_cH (eX3_pop N x0 u (hkc (show zK u x0 = 4 from (h_u.g 0 rfl)) (hk0 h_u.1))) (fun r4 u5 e9 => h_u.fr (fr_X3_pop (P := PT) N x0 u clPT trivial _ _ e9).1) (fun r4 u5 h_u5 => ?_)
                  refine eq_g (show zK u5 x0 = 4 from (h_u5.g 0 rfl)) ?_
                  refine eq_cH (eX3_pop N x0 u5 (hkc (show zK u5 x0 = 4 from (h_u5.g 0 rfl)) (hk0 h_u5.1))) (fun r6 u7 e9 => h_u5.fr (fr_X3_pop (P := PT) N x0 u5 clPT trivial _ _ e9).1) (fun r6 u7 h_u7 => ?_)
                  refine eq_cH rfl (fun r8 u9 e9 => h_u7.fr (fr_X4_combine (P := PT) N v3 r6 r4 u7 clPT _ _ e9).1) (fun r8 u9 h_u9 => ?_)
                  refine eq_g (show zK u9 x0 = 4 from (h_u9.g 0 rfl)) ?_
                  refine eq_cH (eX3_push N x0 r8 u9 (hkc (show zK u9 x0 = 4 from (h_u9.g 0 rfl)) (hk0 h_u9.1))) (fun r10 u11 e9 => h_u9.fr (fr_X3_push (P := PT) N x0 r8 u9 clPT trivial _ _ e9).1) (fun r10 u11 h_u11 => ?_)
                  exact hrc8 x0 x1 x2 x3 x4 (x5 + (1 : Int32)) u11 (hkc (show zK u11 x0 = 4 from (h_u11.g 0 rfl)) (hkc (show zK u11 x1 = 8 from (h_u11.g 1 rfl)) (hkc (show zK u11 x2 = 3 from (h_u11.g 2 rfl)) (hkc (show zK u11 x3 = 5 from (h_u11.g 3 rfl)) (hk0 h_u11.1)))))
          · refine eq_cH (eX3_valueOf N ((-1 : Int32) - v3) x1 x2 x4 u (hkc (show zK u x1 = 8 from (h_u.g 1 rfl)) (hkc (show zK u x2 = 3 from (h_u.g 2 rfl)) (hk0 h_u.1)))) (fun r20 u21 e9 => h_u.fr (fr_X3_valueOf (P := PT) N ((-1 : Int32) - v3) x1 x2 x4 u clPT trivial trivial _ _ e9).1) (fun r20 u21 h_u21 => ?_)
            refine eq_g (show zK u21 x0 = 4 from (h_u21.g 0 rfl)) ?_
            refine eq_cH (eX3_push N x0 r20 u21 (hkc (show zK u21 x0 = 4 from (h_u21.g 0 rfl)) (hk0 h_u21.1))) (fun r22 u23 e9 => h_u21.fr (fr_X3_push (P := PT) N x0 r20 u21 clPT trivial _ _ e9).1) (fun r22 u23 h_u23 => ?_)
            exact hrc8 x0 x1 x2 x3 x4 (x5 + (1 : Int32)) u23 (hkc (show zK u23 x0 = 4 from (h_u23.g 0 rfl)) (hkc (show zK u23 x1 = 8 from (h_u23.g 1 rfl)) (hkc (show zK u23 x2 = 3 from (h_u23.g 2 rfl)) (hkc (show zK u23 x3 = 5 from (h_u23.g 3 rfl)) (hk0 h_u23.1)))))
        · refine eq_g (show zK u x0 = 4 from (h_u.g 0 rfl)) ?_
          refine eq_cH (eX3_push N x0 v3.toInt64 u (hkc (show zK u x0 = 4 from (h_u.g 0 rfl)) (hk0 h_u.1))) (fun r24 u25 e9 => h_u.fr (fr_X3_push (P := PT) N x0 v3.toInt64 u clPT trivial _ _ e9).1) (fun r24 u25 h_u25 => ?_)
          exact hrc8 x0 x1 x2 x3 x4 (x5 + (1 : Int32)) u25 (hkc (show zK u25 x0 = 4 from (h_u25.g 0 rfl)) (hkc (show zK u25 x1 = 8 from (h_u25.g 1 rfl)) (hkc (show zK u25 x2 = 3 from (h_u25.g 2 rfl)) (hkc (show zK u25 x3 = 5 from (h_u25.g 3 rfl)) (hk0 h_u25.1)))))
set_option maxRecDepth 20000 in
def hX3_answer (N : Nat)  (a0 : Nat) (p1 : Nat) (p2 : Nat) (p3 : Nat) (p4 : Int32) (u : SG) : Option (Int64 × SG) := bs (sI u a0 1 (0 : Int32)) fun u1 => (hgX3_answer_8 N   N a0 p1 p2 p3 p4 (0 : Int32) u1)
set_option maxRecDepth 20000 in
theorem eX3_answer (N : Nat)  (a0 : Nat) (p1 : Nat) (p2 : Nat) (p3 : Nat) (p4 : Int32) (u : SG) (h_u : HK [(some a0, 4), (some p1, 8), (some p2, 3), (some p3, 5)] u) : fX3_answer N  a0 p1 p2 p3 p4 u = hX3_answer N  a0 p1 p2 p3 p4 u := by
  unfold fX3_answer hX3_answer
  refine eq_g (show zK u a0 = 4 from (h_u.g 0 rfl)) ?_
  refine eq_sH (h_u.fr (P := PT) (Fr.sIr trivial)) (fun u1 h_u1 => ?_)
  exact egX3_answer_8 N   N a0 p1 p2 p3 p4 (0 : Int32) u1 (hkc (show zK u1 a0 = 4 from (h_u1.g 0 rfl)) (hkc (show zK u1 p1 = 8 from (h_u1.g 1 rfl)) (hkc (show zK u1 p2 = 3 from (h_u1.g 2 rfl)) (hkc (show zK u1 p3 = 5 from (h_u1.g 3 rfl)) (hk0 h_u1.1)))))
set_option maxRecDepth 20000 in
def hX3_setAsleep (N : Nat)  (p1 : Nat) (p2 : Int32) (p3 : Int32) (u : SG) : Option (Unit × SG) := bs ((1 : Int32) <<< (p2 &&& 31)) fun v1 => (if p3 = 0 then (bs (sI u p1 2 ((zI u p1 2) &&& (v1 ^^^ (-1 : Int32)))) fun u2 => (some ((), u2)))
  else (bs (sI u p1 2 ((zI u p1 2) ||| v1)) fun u3 => (some ((), u3))))
set_option maxRecDepth 20000 in
theorem eX3_setAsleep (N : Nat)  (p1 : Nat) (p2 : Int32) (p3 : Int32) (u : SG) (h_u : HK [(some p1, 3)] u) : fX3_setAsleep N  p1 p2 p3 u = hX3_setAsleep N  p1 p2 p3 u := by
  unfold fX3_setAsleep hX3_setAsleep
  refine eq_bs (fun v1 => ?_)
  refine eq_if ?_ ?_
  · refine eq_g (show zK u p1 = 3 from (h_u.g 0 rfl)) ?_
    refine eq_g (show zK u p1 = 3 from (h_u.g 0 rfl)) ?_
    refine eq_sH (h_u.fr (P := PT) (Fr.sIr trivial)) (fun u2 h_u2 => ?_)
    rfl
  · refine eq_g (show zK u p1 = 3 from (h_u.g 0 rfl)) ?_
    refine eq_g (show zK u p1 = 3 from (h_u.g 0 rfl)) ?_
    refine eq_sH (h_u.fr (P := PT) (Fr.sIr trivial)) (fun u3 h_u3 => ?_)
    rfl
set_option maxRecDepth 20000 in
def hX3_shareAmong (N : Nat)  (a0 : Nat) (p1 : Int32) (p2 : Int32) (u : SG) : Option (Int64 × SG) := cl (fJ6_bitCount_0f7a4 N p1 u) fun r1 u2 => (if r1 ≤ 0 then (some ((0 : Int64), u2))
  else (cl (fX10_bitOf N p1 p2 u2) fun r3 u4 => (if r3 = (1 : Int32) then (if r1.toInt64 = 0 then (none)
  else (some ((zL u4 a0 3) / r1.toInt64, u4)))
  else (some ((0 : Int64), u4)))))
set_option maxRecDepth 20000 in
theorem eX3_shareAmong (N : Nat)  (a0 : Nat) (p1 : Int32) (p2 : Int32) (u : SG) (h_u : HK [(some a0, 4)] u) : fX3_shareAmong N  a0 p1 p2 u = hX3_shareAmong N  a0 p1 p2 u := by
  unfold fX3_shareAmong hX3_shareAmong
  refine eq_cH rfl (fun r1 u2 e9 => h_u.fr (fr_J6_bitCount_0f7a4 (P := PT) N p1 u clPT _ _ e9).1) (fun r1 u2 h_u2 => ?_)
  refine eq_if ?_ ?_
  · rfl
  · refine eq_cH rfl (fun r3 u4 e9 => h_u2.fr (fr_X10_bitOf (P := PT) N p1 p2 u2 clPT _ _ e9).1) (fun r3 u4 h_u4 => ?_)
    refine eq_if ?_ ?_
    · refine eq_g (show zK u4 a0 = 4 from (h_u4.g 0 rfl)) ?_
      refine eq_if ?_ ?_
      · rfl
      · rfl
    · rfl
set_option maxRecDepth 20000 in
def hgX3_share_23 (N : Nat)   : Nat → Nat → Nat → Nat → Int32 → SG → Option (Unit × SG)
  | 0, _, _, _, _, _ => none
  | n + 1, x0, x1, x2, x3, u => if (zI u x1 7) ≤ x3 then (some ((), u))
  else (if x3 < 0 ∨ 6 ≤ x3.toNatClampNeg then none else (cl (hX3_shareAmong N x0 (zI u x0 2) x3 u) fun r2 u3 => (if x3 < 0 ∨ 6 ≤ x3.toNatClampNeg then none else (bs (sL u3 (x2 + 3) x3.toNatClampNeg ((zL u (x2 + 3) x3.toNatClampNeg) + r2)) fun u4 => ((hgX3_share_23 N   n) x0 x1 x2 (x3 + (1 : Int32)) u4)))))
set_option maxRecDepth 20000 in
theorem egX3_share_23 (N : Nat)   : ∀ (n : Nat) (x0 : Nat) (x1 : Nat) (x2 : Nat) (x3 : Int32) (u : SG), HK [(some x0, 4), (some x1, 8), (some x2, 3)] u → gX3_share_23 N   n x0 x1 x2 x3 u = hgX3_share_23 N   n x0 x1 x2 x3 u := by
  intro n
  induction n with
  | zero => intros; rfl
  | succ n ih =>
    intro x0 x1 x2 x3 u h_u
    have hrc23 := ih
    rw [gX3_share_23, hgX3_share_23]
    refine eq_g (show zK u x1 = 8 from (h_u.g 1 rfl)) ?_
    refine eq_if ?_ ?_
    · rfl
    · refine eq_g (show zK u x2 = 3 from (h_u.g 2 rfl)) ?_
      refine eq_bR (show zR u x2 7 = some (x2 + 3) from lyR_3_7 h_u.1 (h_u.g 2 rfl)) ?_
      refine eq_g (show zK u (x2 + 3) = 23 from (lyK_3_7 h_u.1 (h_u.g 2 rfl))) ?_
      refine eq_ixh (show zN u (x2 + 3) = 6 from lyN_3_7 h_u.1 (h_u.g 2 rfl)) (fun hix1 => ?_)
      refine eq_g (show zK u x0 = 4 from (h_u.g 0 rfl)) ?_
      refine eq_g (show zK u x0 = 4 from (h_u.g 0 rfl)) ?_
      refine eq_cH (eX3_shareAmong N x0 (zI u x0 2) x3 u (hkc (show zK u x0 = 4 from (h_u.g 0 rfl)) (hk0 h_u.1))) (fun r2 u3 e9 => h_u.fr (fr_X3_shareAmong (P := PT) N x0 (zI u x0 2) x3 u clPT trivial _ _ e9).1) (fun r2 u3 h_u3 => ?_)
      refine eq_g (show zK u3 (x2 + 3) = 23 from (lyK_3_7 h_u3.1 (h_u3.g 2 rfl))) ?_
      refine eq_ixh (show zN u3 (x2 + 3) = 6 from lyN_3_7 h_u3.1 (h_u3.g 2 rfl)) (fun hix2 => ?_)
      refine eq_sH (h_u3.fr (P := PT) (Fr.sLr trivial)) (fun u4 h_u4 => ?_)
      exact hrc23 x0 x1 x2 (x3 + (1 : Int32)) u4 (hkc (show zK u4 x0 = 4 from (h_u4.g 0 rfl)) (hkc (show zK u4 x1 = 8 from (h_u4.g 1 rfl)) (hkc (show zK u4 x2 = 3 from (h_u4.g 2 rfl)) (hk0 h_u4.1))))
set_option maxRecDepth 20000 in
def hX3_share (N : Nat)  (a0 : Nat) (p1 : Nat) (p2 : Nat) (u : SG) : Option (Unit × SG) := if (zI u a0 2) = 0 then (bs (sL u (p2 + 3) 5 ((zL u (p2 + 3) 5) + (zL u a0 3))) fun u2 => (some ((), u2)))
  else (hgX3_share_23 N   N a0 p1 p2 (0 : Int32) u)
set_option maxRecDepth 20000 in
theorem eX3_share (N : Nat)  (a0 : Nat) (p1 : Nat) (p2 : Nat) (u : SG) (h_u : HK [(some a0, 4), (some p1, 8), (some p2, 3)] u) : fX3_share N  a0 p1 p2 u = hX3_share N  a0 p1 p2 u := by
  unfold fX3_share hX3_share
  refine eq_g (show zK u a0 = 4 from (h_u.g 0 rfl)) ?_
  refine eq_if ?_ ?_
  · refine eq_g (show zK u p2 = 3 from (h_u.g 2 rfl)) ?_
    refine eq_bR (show zR u p2 7 = some (p2 + 3) from lyR_3_7 h_u.1 (h_u.g 2 rfl)) ?_
    refine eq_g (show zK u (p2 + 3) = 23 from (lyK_3_7 h_u.1 (h_u.g 2 rfl))) ?_
    refine eq_n (by rw [show zN u (p2 + 3) = 6 from lyN_3_7 h_u.1 (h_u.g 2 rfl)]; decide) ?_
    refine eq_g (show zK u a0 = 4 from (h_u.g 0 rfl)) ?_
    refine eq_g (show zK u (p2 + 3) = 23 from (lyK_3_7 h_u.1 (h_u.g 2 rfl))) ?_
    refine eq_n (by rw [show zN u (p2 + 3) = 6 from lyN_3_7 h_u.1 (h_u.g 2 rfl)]; decide) ?_
    refine eq_sH (h_u.fr (P := PT) (Fr.sLr trivial)) (fun u2 h_u2 => ?_)
    rfl
  · exact egX3_share_23 N   N a0 p1 p2 (0 : Int32) u (hkc (show zK u a0 = 4 from (h_u.g 0 rfl)) (hkc (show zK u p1 = 8 from (h_u.g 1 rfl)) (hkc (show zK u p2 = 3 from (h_u.g 2 rfl)) (hk0 h_u.1))))
set_option maxRecDepth 20000 in
def hgX3_play_119 (N : Nat)   : Nat → Nat → Nat → Nat → Int32 → SG → Option (Int32 × SG)
  | 0, _, _, _, _, _ => none
  | n + 1, x0, x1, x2, x5, u => if (zI u x1 7) ≤ x5 then (cl (hX2_goOn N x2 x1 u) fun r1 u2 => (cl (fJ6_bitCount_0f7a4 N (zI u2 x0 2) u2) fun r3 u4 => (some (r3, u4))))
  else (if x5 < 0 ∨ 5 ≤ x5.toNatClampNeg then none else (cl (fX10_bitOf N (zI u x0 2) x5 u) fun r6 u7 => (if x5 < 0 ∨ 5 ≤ x5.toNatClampNeg then none else (bs (sI u7 (x2 + 1) x5.toNatClampNeg ((zI u (x2 + 1) x5.toNatClampNeg) + r6)) fun u8 => ((hgX3_play_119 N   n) x0 x1 x2 (x5 + (1 : Int32)) u8)))))
set_option maxRecDepth 20000 in
theorem egX3_play_119 (N : Nat)   : ∀ (n : Nat) (x0 : Nat) (x1 : Nat) (x2 : Nat) (x5 : Int32) (u : SG), HK [(some x0, 4), (some x1, 8), (some x2, 3)] u → gX3_play_119 N   n x0 x1 x2 x5 u = hgX3_play_119 N   n x0 x1 x2 x5 u := by
  intro n
  induction n with
  | zero => intros; rfl
  | succ n ih =>
    intro x0 x1 x2 x5 u h_u
    have hrc119 := ih
    rw [gX3_play_119, hgX3_play_119]
    refine eq_g (show zK u x1 = 8 from (h_u.g 1 rfl)) ?_
    refine eq_if ?_ ?_
    · refine eq_g (show zK u x2 = 3 from (h_u.g 2 rfl)) ?_
      refine eq_cH (eX2_goOn N x2 x1 u (hkc (show zK u x2 = 3 from (h_u.g 2 rfl)) (hkc (show zK u x1 = 8 from (h_u.g 1 rfl)) (hk0 h_u.1)))) (fun r1 u2 e9 => h_u.fr (fr_X2_goOn (P := PT) N x2 x1 u clPT trivial trivial _ _ e9).1) (fun r1 u2 h_u2 => ?_)
      refine eq_g (show zK u2 x0 = 4 from (h_u2.g 0 rfl)) ?_
      refine eq_cH rfl (fun r3 u4 e9 => h_u2.fr (fr_J6_bitCount_0f7a4 (P := PT) N (zI u2 x0 2) u2 clPT _ _ e9).1) (fun r3 u4 h_u4 => ?_)
      rfl
    · refine eq_g (show zK u x2 = 3 from (h_u.g 2 rfl)) ?_
      refine eq_bR (show zR u x2 5 = some (x2 + 1) from lyR_3_5 h_u.1 (h_u.g 2 rfl)) ?_
      refine eq_g (show zK u (x2 + 1) = 22 from (lyK_3_5 h_u.1 (h_u.g 2 rfl))) ?_
      refine eq_ixh (show zN u (x2 + 1) = 5 from lyN_3_5 h_u.1 (h_u.g 2 rfl)) (fun hix1 => ?_)
      refine eq_g (show zK u x0 = 4 from (h_u.g 0 rfl)) ?_
      refine eq_cH rfl (fun r6 u7 e9 => h_u.fr (fr_X10_bitOf (P := PT) N (zI u x0 2) x5 u clPT _ _ e9).1) (fun r6 u7 h_u7 => ?_)
      refine eq_g (show zK u7 (x2 + 1) = 22 from (lyK_3_5 h_u7.1 (h_u7.g 2 rfl))) ?_
      refine eq_ixh (show zN u7 (x2 + 1) = 5 from lyN_3_5 h_u7.1 (h_u7.g 2 rfl)) (fun hix2 => ?_)
      refine eq_sH (h_u7.fr (P := PT) (Fr.sIr trivial)) (fun u8 h_u8 => ?_)
      exact hrc119 x0 x1 x2 (x5 + (1 : Int32)) u8 (hkc (show zK u8 x0 = 4 from (h_u8.g 0 rfl)) (hkc (show zK u8 x1 = 8 from (h_u8.g 1 rfl)) (hkc (show zK u8 x2 = 3 from (h_u8.g 2 rfl)) (hk0 h_u8.1))))
set_option maxRecDepth 20000 in
def hgX3_play_80 (N : Nat)   (x0 : Nat) (x1 : Nat) (x2 : Nat) (u : SG) : Option (Int32 × SG) := bs (sI u x0 2 (zI u x2 2)) fun u1 => (cl (hX2_burningAt N x2 x1 (zI u1 x2 0) u1) fun r2 u3 => (cl (hX7_costOf N x1 r2 u3) fun r4 u5 => (bs (sL u5 x0 3 ((60 : Int64) * r4.toInt64)) fun u6 => (cl (hX3_share N x0 x1 x2 u6) fun r7 u8 => (hgX3_play_119 N   N x0 x1 x2 (0 : Int32) u8)))))
set_option maxRecDepth 20000 in
theorem egX3_play_80 (N : Nat)   (x0 : Nat) (x1 : Nat) (x2 : Nat) (u : SG) (h_u : HK [(some x0, 4), (some x1, 8), (some x2, 3)] u) : gX3_play_80 N   x0 x1 x2 u = hgX3_play_80 N   x0 x1 x2 u := by
  unfold gX3_play_80 hgX3_play_80
  refine eq_g (show zK u x2 = 3 from (h_u.g 2 rfl)) ?_
  refine eq_g (show zK u x0 = 4 from (h_u.g 0 rfl)) ?_
  refine eq_sH (h_u.fr (P := PT) (Fr.sIr trivial)) (fun u1 h_u1 => ?_)
  refine eq_g (show zK u1 x2 = 3 from (h_u1.g 2 rfl)) ?_
  refine eq_g (show zK u1 x2 = 3 from (h_u1.g 2 rfl)) ?_
  refine eq_cH (eX2_burningAt N x2 x1 (zI u1 x2 0) u1 (hkc (show zK u1 x2 = 3 from (h_u1.g 2 rfl)) (hkc (show zK u1 x1 = 8 from (h_u1.g 1 rfl)) (hk0 h_u1.1)))) (fun r2 u3 e9 => h_u1.fr (fr_X2_burningAt (P := PT) N x2 x1 (zI u1 x2 0) u1 clPT trivial trivial _ _ e9).1) (fun r2 u3 h_u3 => ?_)
  refine eq_g (show zK u3 x1 = 8 from (h_u3.g 1 rfl)) ?_
  refine eq_cH (eX7_costOf N x1 r2 u3 (hkc (show zK u3 x1 = 8 from (h_u3.g 1 rfl)) (hk0 h_u3.1))) (fun r4 u5 e9 => h_u3.fr (fr_X7_costOf (P := PT) N x1 r2 u3 clPT trivial _ _ e9).1) (fun r4 u5 h_u5 => ?_)
  refine eq_g (show zK u5 x0 = 4 from (h_u5.g 0 rfl)) ?_
  refine eq_sH (h_u5.fr (P := PT) (Fr.sLr trivial)) (fun u6 h_u6 => ?_)
  refine eq_g (show zK u6 x0 = 4 from (h_u6.g 0 rfl)) ?_
  refine eq_cH (eX3_share N x0 x1 x2 u6 (hkc (show zK u6 x0 = 4 from (h_u6.g 0 rfl)) (hkc (show zK u6 x1 = 8 from (h_u6.g 1 rfl)) (hkc (show zK u6 x2 = 3 from (h_u6.g 2 rfl)) (hk0 h_u6.1))))) (fun r7 u8 e9 => h_u6.fr (fr_X3_share (P := PT) N x0 x1 x2 u6 clPT trivial trivial trivial _ _ e9).1) (fun r7 u8 h_u8 => ?_)
  exact egX3_play_119 N   N x0 x1 x2 (0 : Int32) u8 (hkc (show zK u8 x0 = 4 from (h_u8.g 0 rfl)) (hkc (show zK u8 x1 = 8 from (h_u8.g 1 rfl)) (hkc (show zK u8 x2 = 3 from (h_u8.g 2 rfl)) (hk0 h_u8.1))))
set_option maxRecDepth 20000 in
def hgX3_play_71 (N : Nat)  (rc26 : Nat → Nat → Nat → Option Nat → Int32 → Int32 → SG → Option (Int32 × SG)) (x0 : Nat) (x1 : Nat) (x2 : Nat) (x3 : Option Nat) (x4 : Int32) (x5 : Int32) (s0 : Nat) (s1 : Int32) (s2 : Int32) (u : SG) : Option (Int32 × SG) := cl (hX3_setAsleep N s0 s1 s2 u) fun r1 u2 => (rc26 x0 x1 x2 x3 x4 (x5 + (1 : Int32)) u2)
set_option maxRecDepth 20000 in
theorem egX3_play_71 (N : Nat)  (rec26 : Nat → Nat → Nat → Option Nat → Int32 → Int32 → SG → Option (Int32 × SG)) (rc26 : Nat → Nat → Nat → Option Nat → Int32 → Int32 → SG → Option (Int32 × SG)) (hrc26 : ∀ (x0 : Nat) (x1 : Nat) (x2 : Nat) (x3 : Option Nat) (x4 : Int32) (x5 : Int32) (u : SG), HK [(some x0, 4), (some x1, 8), (some x2, 3), (x3, 5)] u → rec26 x0 x1 x2 x3 x4 x5 u = rc26 x0 x1 x2 x3 x4 x5 u) (x0 : Nat) (x1 : Nat) (x2 : Nat) (x3 : Option Nat) (x4 : Int32) (x5 : Int32) (s0 : Nat) (s1 : Int32) (s2 : Int32) (u : SG) (h_u : HK [(some x0, 4), (some x1, 8), (some x2, 3), (x3, 5), (some s0, 3)] u) : gX3_play_71 N  rec26 x0 x1 x2 x3 x4 x5 s0 s1 s2 u = hgX3_play_71 N  rc26 x0 x1 x2 x3 x4 x5 s0 s1 s2 u := by
  unfold gX3_play_71 hgX3_play_71
  refine eq_cH (eX3_setAsleep N s0 s1 s2 u (hkc (show zK u s0 = 3 from (h_u.g 4 rfl)) (hk0 h_u.1))) (fun r1 u2 e9 => h_u.fr (fr_X3_setAsleep (P := PT) N s0 s1 s2 u clPT trivial _ _ e9).1) (fun r1 u2 h_u2 => ?_)
  exact hrc26 x0 x1 x2 x3 x4 (x5 + (1 : Int32)) u2 (hkc (show zK u2 x0 = 4 from (h_u2.g 0 rfl)) (hkc (show zK u2 x1 = 8 from (h_u2.g 1 rfl)) (hkc (show zK u2 x2 = 3 from (h_u2.g 2 rfl)) (hkq (fun _ h9 => h_u2.q 3 rfl h9) (hk0 h_u2.1)))))
set_option maxRecDepth 20000 in
def hgX3_play_26 (N : Nat)   : Nat → Nat → Nat → Nat → Option Nat → Int32 → Int32 → SG → Option (Int32 × SG)
  | 0, _, _, _, _, _, _, _ => none
  | n + 1, x0, x1, x2, x3, x4, x5, u => if (zI u x1 7) ≤ x5 then (hgX3_play_80 N    x0 x1 x2 u)
  else (if x3 = none then (hgX3_play_80 N    x0 x1 x2 u)
  else (cl (fX10_bitOf N x4 x5 u) fun r1 u2 => (if r1 = 0 then (Option.bind x3 fun q3 => (cl (hX3_answer N x0 x1 x2 q3 x5 u2) fun r4 u5 => (if (lg_cmp r4 (0 : Int64)) ≤ 0 then (hgX3_play_71 N  (hgX3_play_26 N   n)  x0 x1 x2 x3 x4 x5 x2 x5 (0 : Int32) u5)
  else (hgX3_play_71 N  (hgX3_play_26 N   n)  x0 x1 x2 x3 x4 x5 x2 x5 (1 : Int32) u5))))
  else ((hgX3_play_26 N   n) x0 x1 x2 x3 x4 (x5 + (1 : Int32)) u2))))
set_option maxRecDepth 20000 in
theorem egX3_play_26 (N : Nat)   : ∀ (n : Nat) (x0 : Nat) (x1 : Nat) (x2 : Nat) (x3 : Option Nat) (x4 : Int32) (x5 : Int32) (u : SG), HK [(some x0, 4), (some x1, 8), (some x2, 3), (x3, 5)] u → gX3_play_26 N   n x0 x1 x2 x3 x4 x5 u = hgX3_play_26 N   n x0 x1 x2 x3 x4 x5 u := by
  intro n
  induction n with
  | zero => intros; rfl
  | succ n ih =>
    intro x0 x1 x2 x3 x4 x5 u h_u
    have hrc26 := ih
    rw [gX3_play_26, hgX3_play_26]
    refine eq_g (show zK u x1 = 8 from (h_u.g 1 rfl)) ?_
    refine eq_if ?_ ?_
    · exact egX3_play_80 N    x0 x1 x2 u (hkc (show zK u x0 = 4 from (h_u.g 0 rfl)) (hkc (show zK u x1 = 8 from (h_u.g 1 rfl)) (hkc (show zK u x2 = 3 from (h_u.g 2 rfl)) (hk0 h_u.1))))
    · refine eq_if ?_ ?_
      · exact egX3_play_80 N    x0 x1 x2 u (hkc (show zK u x0 = 4 from (h_u.g 0 rfl)) (hkc (show zK u x1 = 8 from (h_u.g 1 rfl)) (hkc (show zK u x2 = 3 from (h_u.g 2 rfl)) (hk0 h_u.1))))
      · refine eq_cH rfl (fun r1 u2 e9 => h_u.fr (fr_X10_bitOf (P := PT) N x4 x5 u clPT _ _ e9).1) (fun r1 u2 h_u2 => ?_)
        refine eq_if ?_ ?_
        · refine eq_bQ (fun q3 hq1 => ?_)
          refine eq_g (show zK u2 x0 = 4 from (h_u2.g 0 rfl)) ?_
          refine eq_cH (eX3_answer N x0 x1 x2 q3 x5 u2 (hkc (show zK u2 x0 = 4 from (h_u2.g 0 rfl)) (hkc (show zK u2 x1 = 8 from (h_u2.g 1 rfl)) (hkc (show zK u2 x2 = 3 from (h_u2.g 2 rfl)) (hkc (show zK u2 q3 = 5 from (h_u2.q 3 rfl hq1)) (hk0 h_u2.1)))))) (fun r4 u5 e9 => h_u2.fr (fr_X3_answer (P := PT) N x0 x1 x2 q3 x5 u2 clPT trivial trivial trivial trivial _ _ e9).1) (fun r4 u5 h_u5 => ?_)
          refine eq_if ?_ ?_
          · exact egX3_play_71 N  _ _ hrc26  x0 x1 x2 x3 x4 x5 x2 x5 (0 : Int32) u5 (hkc (show zK u5 x0 = 4 from (h_u5.g 0 rfl)) (hkc (show zK u5 x1 = 8 from (h_u5.g 1 rfl)) (hkc (show zK u5 x2 = 3 from (h_u5.g 2 rfl)) (hkq (fun _ h9 => h_u5.q 3 rfl h9) (hkc (show zK u5 x2 = 3 from (h_u5.g 2 rfl)) (hk0 h_u5.1))))))
          · exact egX3_play_71 N  _ _ hrc26  x0 x1 x2 x3 x4 x5 x2 x5 (1 : Int32) u5 (hkc (show zK u5 x0 = 4 from (h_u5.g 0 rfl)) (hkc (show zK u5 x1 = 8 from (h_u5.g 1 rfl)) (hkc (show zK u5 x2 = 3 from (h_u5.g 2 rfl)) (hkq (fun _ h9 => h_u5.q 3 rfl h9) (hkc (show zK u5 x2 = 3 from (h_u5.g 2 rfl)) (hk0 h_u5.1))))))
        · exact hrc26 x0 x1 x2 x3 x4 (x5 + (1 : Int32)) u2 (hkc (show zK u2 x0 = 4 from (h_u2.g 0 rfl)) (hkc (show zK u2 x1 = 8 from (h_u2.g 1 rfl)) (hkc (show zK u2 x2 = 3 from (h_u2.g 2 rfl)) (hkq (fun _ h9 => h_u2.q 3 rfl h9) (hk0 h_u2.1)))))
set_option maxRecDepth 20000 in
def hX3_play (N : Nat)  (a0 : Nat) (p1 : Nat) (p2 : Nat) (p3 : Option Nat) (u : SG) : Option (Int32 × SG) := cl (hX7_workersAt N p1 (zI u p2 0) u) fun r1 u2 => (bs (sI u2 p2 2 ((zI u2 p2 2) &&& (r1 ^^^ (-1 : Int32)))) fun u3 => (hgX3_play_26 N   N a0 p1 p2 p3 r1 (0 : Int32) u3))
set_option maxRecDepth 20000 in
theorem eX3_play (N : Nat)  (a0 : Nat) (p1 : Nat) (p2 : Nat) (p3 : Option Nat) (u : SG) (h_u : HK [(some a0, 4), (some p1, 8), (some p2, 3), (p3, 5)] u) : fX3_play N  a0 p1 p2 p3 u = hX3_play N  a0 p1 p2 p3 u := by
  unfold fX3_play hX3_play
  refine eq_g (show zK u p2 = 3 from (h_u.g 2 rfl)) ?_
  refine eq_g (show zK u p1 = 8 from (h_u.g 1 rfl)) ?_
  refine eq_cH (eX7_workersAt N p1 (zI u p2 0) u (hkc (show zK u p1 = 8 from (h_u.g 1 rfl)) (hk0 h_u.1))) (fun r1 u2 e9 => h_u.fr (fr_X7_workersAt (P := PT) N p1 (zI u p2 0) u clPT trivial _ _ e9).1) (fun r1 u2 h_u2 => ?_)
  refine eq_g (show zK u2 p2 = 3 from (h_u2.g 2 rfl)) ?_
  refine eq_g (show zK u2 p2 = 3 from (h_u2.g 2 rfl)) ?_
  refine eq_sH (h_u2.fr (P := PT) (Fr.sIr trivial)) (fun u3 h_u3 => ?_)
  exact egX3_play_26 N   N a0 p1 p2 p3 r1 (0 : Int32) u3 (hkc (show zK u3 a0 = 4 from (h_u3.g 0 rfl)) (hkc (show zK u3 p1 = 8 from (h_u3.g 1 rfl)) (hkc (show zK u3 p2 = 3 from (h_u3.g 2 rfl)) (hkq (fun _ h9 => h_u3.q 3 rfl h9) (hk0 h_u3.1)))))
set_option maxRecDepth 20000 in
def hgX3_draw_77 (N : Nat)  (rc17 : Nat → Nat → Int32 → Int32 → Int64 → Int32 → SG → Option (Int32 × SG)) (x1 : Nat) (x2 : Nat) (x4 : Int32) (x5 : Int32) (x6 : Int64) (x8 : Int32) (s0 : Nat) (s1 : Int32) (s2 : Int32) (u : SG) : Option (Int32 × SG) := cl (hX3_setAsleep N s0 s1 s2 u) fun r1 u2 => (rc17 x1 x2 x4 x5 x6 (x8 + (1 : Int32)) u2)
set_option maxRecDepth 20000 in
theorem egX3_draw_77 (N : Nat)  (rec17 : Nat → Nat → Int32 → Int32 → Int64 → Int32 → SG → Option (Int32 × SG)) (rc17 : Nat → Nat → Int32 → Int32 → Int64 → Int32 → SG → Option (Int32 × SG)) (hrc17 : ∀ (x1 : Nat) (x2 : Nat) (x4 : Int32) (x5 : Int32) (x6 : Int64) (x8 : Int32) (u : SG), HK [(some x1, 8), (some x2, 3)] u → rec17 x1 x2 x4 x5 x6 x8 u = rc17 x1 x2 x4 x5 x6 x8 u) (x1 : Nat) (x2 : Nat) (x4 : Int32) (x5 : Int32) (x6 : Int64) (x8 : Int32) (s0 : Nat) (s1 : Int32) (s2 : Int32) (u : SG) (h_u : HK [(some x1, 8), (some x2, 3), (some s0, 3)] u) : gX3_draw_77 N  rec17 x1 x2 x4 x5 x6 x8 s0 s1 s2 u = hgX3_draw_77 N  rc17 x1 x2 x4 x5 x6 x8 s0 s1 s2 u := by
  unfold gX3_draw_77 hgX3_draw_77
  refine eq_cH (eX3_setAsleep N s0 s1 s2 u (hkc (show zK u s0 = 3 from (h_u.g 2 rfl)) (hk0 h_u.1))) (fun r1 u2 e9 => h_u.fr (fr_X3_setAsleep (P := PT) N s0 s1 s2 u clPT trivial _ _ e9).1) (fun r1 u2 h_u2 => ?_)
  exact hrc17 x1 x2 x4 x5 x6 (x8 + (1 : Int32)) u2 (hkc (show zK u2 x1 = 8 from (h_u2.g 0 rfl)) (hkc (show zK u2 x2 = 3 from (h_u2.g 1 rfl)) (hk0 h_u2.1)))
set_option maxRecDepth 20000 in
def hgX3_draw_17 (N : Nat)   : Nat → Nat → Nat → Int32 → Int32 → Int64 → Int32 → SG → Option (Int32 × SG)
  | 0, _, _, _, _, _, _, _ => none
  | n + 1, x1, x2, x4, x5, x6, x8, u => if (zI u x1 7) ≤ x8 then (some (x6.toInt32, u))
  else (cl (fX10_bitOf N x5 x8 u) fun r1 u2 => (if r1 = 0 then (bs (((x6 * (1103515245 : Int64)) + (12345 : Int64)) &&& (2147483647 : Int64)) fun v3 => (if (65536 : Int64) = 0 then (none)
  else (if (100 : Int64) = 0 then (none)
  else (if 0 ≤ (lg_cmp ((v3 / (65536 : Int64)) - (v3 / (65536 : Int64)) / (100 : Int64) * (100 : Int64)) x4.toInt64) then (hgX3_draw_77 N  (hgX3_draw_17 N   n)  x1 x2 x4 x5 v3 x8 x2 x8 (0 : Int32) u2)
  else (hgX3_draw_77 N  (hgX3_draw_17 N   n)  x1 x2 x4 x5 v3 x8 x2 x8 (1 : Int32) u2)))))
  else ((hgX3_draw_17 N   n) x1 x2 x4 x5 x6 (x8 + (1 : Int32)) u2)))
set_option maxRecDepth 20000 in
theorem egX3_draw_17 (N : Nat)   : ∀ (n : Nat) (x1 : Nat) (x2 : Nat) (x4 : Int32) (x5 : Int32) (x6 : Int64) (x8 : Int32) (u : SG), HK [(some x1, 8), (some x2, 3)] u → gX3_draw_17 N   n x1 x2 x4 x5 x6 x8 u = hgX3_draw_17 N   n x1 x2 x4 x5 x6 x8 u := by
  intro n
  induction n with
  | zero => intros; rfl
  | succ n ih =>
    intro x1 x2 x4 x5 x6 x8 u h_u
    have hrc17 := ih
    rw [gX3_draw_17, hgX3_draw_17]
    refine eq_g (show zK u x1 = 8 from (h_u.g 0 rfl)) ?_
    refine eq_if ?_ ?_
    · rfl
    · refine eq_cH rfl (fun r1 u2 e9 => h_u.fr (fr_X10_bitOf (P := PT) N x5 x8 u clPT _ _ e9).1) (fun r1 u2 h_u2 => ?_)
      refine eq_if ?_ ?_
      · refine eq_bs (fun v3 => ?_)
        refine eq_if ?_ ?_
        · rfl
        · refine eq_if ?_ ?_
          · rfl
          · refine eq_if ?_ ?_
            · exact egX3_draw_77 N  _ _ hrc17  x1 x2 x4 x5 v3 x8 x2 x8 (0 : Int32) u2 (hkc (show zK u2 x1 = 8 from (h_u2.g 0 rfl)) (hkc (show zK u2 x2 = 3 from (h_u2.g 1 rfl)) (hkc (show zK u2 x2 = 3 from (h_u2.g 1 rfl)) (hk0 h_u2.1))))
            · exact egX3_draw_77 N  _ _ hrc17  x1 x2 x4 x5 v3 x8 x2 x8 (1 : Int32) u2 (hkc (show zK u2 x1 = 8 from (h_u2.g 0 rfl)) (hkc (show zK u2 x2 = 3 from (h_u2.g 1 rfl)) (hkc (show zK u2 x2 = 3 from (h_u2.g 1 rfl)) (hk0 h_u2.1))))
      · exact hrc17 x1 x2 x4 x5 x6 (x8 + (1 : Int32)) u2 (hkc (show zK u2 x1 = 8 from (h_u2.g 0 rfl)) (hkc (show zK u2 x2 = 3 from (h_u2.g 1 rfl)) (hk0 h_u2.1)))
set_option maxRecDepth 20000 in
def hX3_draw (N : Nat)  (a0 : Nat) (p1 : Nat) (p2 : Nat) (p3 : Int32) (p4 : Int32) (u : SG) : Option (Int32 × SG) := cl (hX7_workersAt N p1 (zI u p2 0) u) fun r1 u2 => (bs (p3.toInt64) fun v3 => (hgX3_draw_17 N   N p1 p2 p4 r1 v3 (0 : Int32) u2))
set_option maxRecDepth 20000 in
theorem eX3_draw (N : Nat)  (a0 : Nat) (p1 : Nat) (p2 : Nat) (p3 : Int32) (p4 : Int32) (u : SG) (h_u : HK [(some a0, 4), (some p1, 8), (some p2, 3)] u) : fX3_draw N  a0 p1 p2 p3 p4 u = hX3_draw N  a0 p1 p2 p3 p4 u := by
  unfold fX3_draw hX3_draw
  refine eq_g (show zK u p2 = 3 from (h_u.g 2 rfl)) ?_
  refine eq_g (show zK u p1 = 8 from (h_u.g 1 rfl)) ?_
  refine eq_cH (eX7_workersAt N p1 (zI u p2 0) u (hkc (show zK u p1 = 8 from (h_u.g 1 rfl)) (hk0 h_u.1))) (fun r1 u2 e9 => h_u.fr (fr_X7_workersAt (P := PT) N p1 (zI u p2 0) u clPT trivial _ _ e9).1) (fun r1 u2 h_u2 => ?_)
  refine eq_bs (fun v3 => ?_)
  exact egX3_draw_17 N   N p1 p2 p4 r1 v3 (0 : Int32) u2 (hkc (show zK u2 p1 = 8 from (h_u2.g 1 rfl)) (hkc (show zK u2 p2 = 3 from (h_u2.g 2 rfl)) (hk0 h_u2.1)))
set_option maxRecDepth 20000 in
def hX7_everyone (N : Nat)  (a0 : Nat) (u : SG) : Option (Int32 × SG) := some (((1 : Int32) <<< ((zI u a0 7) &&& 31)) - (1 : Int32), u)
set_option maxRecDepth 20000 in
theorem eX7_everyone (N : Nat)  (a0 : Nat) (u : SG) (h_u : HK [(some a0, 8)] u) : fX7_everyone N  a0 u = hX7_everyone N  a0 u := by
  unfold fX7_everyone hX7_everyone
  refine eq_g (show zK u a0 = 8 from (h_u.g 0 rfl)) ?_
  rfl
set_option maxRecDepth 20000 in
def hX3_shareIfWakingPaid (N : Nat)  (a0 : Nat) (p1 : Nat) (p2 : Int32) (u : SG) : Option (Int64 × SG) := cl (hX7_everyone N p1 u) fun r1 u2 => (cl (hX3_shareAmong N a0 (r1 &&& ((zI u2 a0 2) ^^^ (-1 : Int32))) p2 u2) fun r3 u4 => (some (r3, u4)))
set_option maxRecDepth 20000 in
theorem eX3_shareIfWakingPaid (N : Nat)  (a0 : Nat) (p1 : Nat) (p2 : Int32) (u : SG) (h_u : HK [(some a0, 4), (some p1, 8)] u) : fX3_shareIfWakingPaid N  a0 p1 p2 u = hX3_shareIfWakingPaid N  a0 p1 p2 u := by
  unfold fX3_shareIfWakingPaid hX3_shareIfWakingPaid
  refine eq_g (show zK u p1 = 8 from (h_u.g 1 rfl)) ?_
  refine eq_cH (eX7_everyone N p1 u (hkc (show zK u p1 = 8 from (h_u.g 1 rfl)) (hk0 h_u.1))) (fun r1 u2 e9 => h_u.fr (fr_X7_everyone (P := PT) N p1 u clPT trivial _ _ e9).1) (fun r1 u2 h_u2 => ?_)
  refine eq_g (show zK u2 a0 = 4 from (h_u2.g 0 rfl)) ?_
  refine eq_g (show zK u2 a0 = 4 from (h_u2.g 0 rfl)) ?_
  refine eq_cH (eX3_shareAmong N a0 (r1 &&& ((zI u2 a0 2) ^^^ (-1 : Int32))) p2 u2 (hkc (show zK u2 a0 = 4 from (h_u2.g 0 rfl)) (hk0 h_u2.1))) (fun r3 u4 e9 => h_u2.fr (fr_X3_shareAmong (P := PT) N a0 (r1 &&& ((zI u2 a0 2) ^^^ (-1 : Int32))) p2 u2 clPT trivial _ _ e9).1) (fun r3 u4 h_u4 => ?_)
  rfl
set_option maxRecDepth 20000 in
def hX9_byteAt (N : Nat)  (a0 : Nat) (p1 : Int32) (u : SG) : Option (Int32 × SG) := if p1 < 0 then (some ((-1 : Int32), u))
  else (if (zI u a0 1) ≤ p1 then (some ((-1 : Int32), u))
  else (if (400 : Int32) ≤ p1 then (some ((-1 : Int32), u))
  else (if p1 < 0 ∨ 400 ≤ p1.toNatClampNeg then none else (some ((zI u (a0 + 1) p1.toNatClampNeg) &&& (255 : Int32), u)))))
set_option maxRecDepth 20000 in
theorem eX9_byteAt (N : Nat)  (a0 : Nat) (p1 : Int32) (u : SG) (h_u : HK [(some a0, 10)] u) : fX9_byteAt N  a0 p1 u = hX9_byteAt N  a0 p1 u := by
  unfold fX9_byteAt hX9_byteAt
  refine eq_if ?_ ?_
  · rfl
  · refine eq_g (show zK u a0 = 10 from (h_u.g 0 rfl)) ?_
    refine eq_if ?_ ?_
    · rfl
    · refine eq_if ?_ ?_
      · rfl
      · refine eq_g (show zK u a0 = 10 from (h_u.g 0 rfl)) ?_
        refine eq_bR (show zR u a0 0 = some (a0 + 1) from lyR_10_0 h_u.1 (h_u.g 0 rfl)) ?_
        refine eq_g (show zK u (a0 + 1) = 21 from (lyK_10_0 h_u.1 (h_u.g 0 rfl))) ?_
        refine eq_ixh (show zN u (a0 + 1) = 400 from lyN_10_0 h_u.1 (h_u.g 0 rfl)) (fun hix1 => ?_)
        rfl
set_option maxRecDepth 20000 in
def hX9_add (N : Nat)  (a0 : Nat) (p1 : Int32) (p2 : Int32) (p3 : Int32) (u : SG) : Option (Unit × SG) := if (zI u a0 6) < 0 then (some ((), u))
  else (if (400 : Int32) < (zI u a0 6) then (some ((), u))
  else (if (zI u a0 6) < 0 ∨ 401 ≤ (zI u a0 6).toNatClampNeg then none else (bs (sI u (a0 + 2) (zI u a0 6).toNatClampNeg p1) fun u2 => (if (zI u2 a0 6) < 0 ∨ 401 ≤ (zI u2 a0 6).toNatClampNeg then none else (bs (sI u2 (a0 + 3) (zI u2 a0 6).toNatClampNeg p2) fun u4 => (if (zI u4 a0 6) < 0 ∨ 401 ≤ (zI u4 a0 6).toNatClampNeg then none else (bs (sI u4 (a0 + 4) (zI u4 a0 6).toNatClampNeg p3) fun u6 => (bs (sI u6 a0 6 ((zI u6 a0 6) + (1 : Int32))) fun u7 => (some ((), u7))))))))))
set_option maxRecDepth 20000 in
theorem eX9_add (N : Nat)  (a0 : Nat) (p1 : Int32) (p2 : Int32) (p3 : Int32) (u : SG) (h_u : HK [(some a0, 10)] u) : fX9_add N  a0 p1 p2 p3 u = hX9_add N  a0 p1 p2 p3 u := by
  unfold fX9_add hX9_add
  refine eq_g (show zK u a0 = 10 from (h_u.g 0 rfl)) ?_
  refine eq_if ?_ ?_
  · rfl
  · refine eq_g (show zK u a0 = 10 from (h_u.g 0 rfl)) ?_
    refine eq_if ?_ ?_
    · rfl
    · refine eq_g (show zK u a0 = 10 from (h_u.g 0 rfl)) ?_
      refine eq_bR (show zR u a0 3 = some (a0 + 2) from lyR_10_3 h_u.1 (h_u.g 0 rfl)) ?_
      refine eq_g (show zK u a0 = 10 from (h_u.g 0 rfl)) ?_
      refine eq_g (show zK u (a0 + 2) = 22 from (lyK_10_3 h_u.1 (h_u.g 0 rfl))) ?_
      refine eq_ixh (show zN u (a0 + 2) = 401 from lyN_10_3 h_u.1 (h_u.g 0 rfl)) (fun hix1 => ?_)
      refine eq_sH (h_u.fr (P := PT) (Fr.sIr trivial)) (fun u2 h_u2 => ?_)
      refine eq_g (show zK u2 a0 = 10 from (h_u2.g 0 rfl)) ?_
      refine eq_bR (show zR u2 a0 4 = some (a0 + 3) from lyR_10_4 h_u2.1 (h_u2.g 0 rfl)) ?_
      refine eq_g (show zK u2 a0 = 10 from (h_u2.g 0 rfl)) ?_
      refine eq_g (show zK u2 (a0 + 3) = 22 from (lyK_10_4 h_u2.1 (h_u2.g 0 rfl))) ?_
      refine eq_ixh (show zN u2 (a0 + 3) = 401 from lyN_10_4 h_u2.1 (h_u2.g 0 rfl)) (fun hix2 => ?_)
      refine eq_sH (h_u2.fr (P := PT) (Fr.sIr trivial)) (fun u4 h_u4 => ?_)
      refine eq_g (show zK u4 a0 = 10 from (h_u4.g 0 rfl)) ?_
      refine eq_bR (show zR u4 a0 5 = some (a0 + 4) from lyR_10_5 h_u4.1 (h_u4.g 0 rfl)) ?_
      refine eq_g (show zK u4 a0 = 10 from (h_u4.g 0 rfl)) ?_
      refine eq_g (show zK u4 (a0 + 4) = 22 from (lyK_10_5 h_u4.1 (h_u4.g 0 rfl))) ?_
      refine eq_ixh (show zN u4 (a0 + 4) = 401 from lyN_10_5 h_u4.1 (h_u4.g 0 rfl)) (fun hix3 => ?_)
      refine eq_sH (h_u4.fr (P := PT) (Fr.sIr trivial)) (fun u6 h_u6 => ?_)
      refine eq_g (show zK u6 a0 = 10 from (h_u6.g 0 rfl)) ?_
      refine eq_g (show zK u6 a0 = 10 from (h_u6.g 0 rfl)) ?_
      refine eq_sH (h_u6.fr (P := PT) (Fr.sIr trivial)) (fun u7 h_u7 => ?_)
      rfl
set_option maxRecDepth 20000 in
def hgX9_splitNumber_54 (N : Nat)   (x0 : Nat) (x1 : Int32) (x2 : Int32) (x3 : Int32) (u : SG) : Option (Int32 × SG) := cl (hX9_add N x0 (1 : Int32) x2 x1 u) fun r1 u2 => (some (x3, u2))
set_option maxRecDepth 20000 in
theorem egX9_splitNumber_54 (N : Nat)   (x0 : Nat) (x1 : Int32) (x2 : Int32) (x3 : Int32) (u : SG) (h_u : HK [(some x0, 10)] u) : gX9_splitNumber_54 N   x0 x1 x2 x3 u = hgX9_splitNumber_54 N   x0 x1 x2 x3 u := by
  unfold gX9_splitNumber_54 hgX9_splitNumber_54
  refine eq_g (show zK u x0 = 10 from (h_u.g 0 rfl)) ?_
  refine eq_cH (eX9_add N x0 (1 : Int32) x2 x1 u (hkc (show zK u x0 = 10 from (h_u.g 0 rfl)) (hk0 h_u.1))) (fun r1 u2 e9 => h_u.fr (fr_X9_add (P := PT) N x0 (1 : Int32) x2 x1 u clPT trivial _ _ e9).1) (fun r1 u2 h_u2 => ?_)
  rfl
set_option maxRecDepth 20000 in
def hgX9_splitNumber_4 (N : Nat)   : Nat → Nat → Int32 → Int32 → Int32 → SG → Option (Int32 × SG)
  | 0, _, _, _, _, _ => none
  | n + 1, x0, x1, x2, x3, u => if (zI u x0 1) ≤ x3 then (hgX9_splitNumber_54 N    x0 x1 x2 x3 u)
  else (cl (hX9_byteAt N x0 x3 u) fun r1 u2 => (cl (fX9_isDigit N r1 u2) fun r3 u4 => (if r3 = 0 then (hgX9_splitNumber_54 N    x0 x1 x2 x3 u4)
  else (if (5 : Int32) ≤ (x3 - x1) then ((hgX9_splitNumber_4 N   n) x0 x1 (-1 : Int32) (x3 + (1 : Int32)) u4)
  else (cl (hX9_byteAt N x0 x3 u4) fun r5 u6 => (bs (((x2 * (10 : Int32)) + r5) - (48 : Int32)) fun v7 => ((hgX9_splitNumber_4 N   n) x0 x1 v7 (x3 + (1 : Int32)) u6)))))))
set_option maxRecDepth 20000 in
theorem egX9_splitNumber_4 (N : Nat)   : ∀ (n : Nat) (x0 : Nat) (x1 : Int32) (x2 : Int32) (x3 : Int32) (u : SG), HK [(some x0, 10)] u → gX9_splitNumber_4 N   n x0 x1 x2 x3 u = hgX9_splitNumber_4 N   n x0 x1 x2 x3 u := by
  intro n
  induction n with
  | zero => intros; rfl
  | succ n ih =>
    intro x0 x1 x2 x3 u h_u
    have hrc4 := ih
    rw [gX9_splitNumber_4, hgX9_splitNumber_4]
    refine eq_g (show zK u x0 = 10 from (h_u.g 0 rfl)) ?_
    refine eq_if ?_ ?_
    · exact egX9_splitNumber_54 N    x0 x1 x2 x3 u (hkc (show zK u x0 = 10 from (h_u.g 0 rfl)) (hk0 h_u.1))
    · refine eq_g (show zK u x0 = 10 from (h_u.g 0 rfl)) ?_
      refine eq_cH (eX9_byteAt N x0 x3 u (hkc (show zK u x0 = 10 from (h_u.g 0 rfl)) (hk0 h_u.1))) (fun r1 u2 e9 => h_u.fr (fr_X9_byteAt (P := PT) N x0 x3 u clPT trivial _ _ e9).1) (fun r1 u2 h_u2 => ?_)
      refine eq_cH rfl (fun r3 u4 e9 => h_u2.fr (fr_X9_isDigit (P := PT) N r1 u2 clPT _ _ e9).1) (fun r3 u4 h_u4 => ?_)
      refine eq_if ?_ ?_
      · exact egX9_splitNumber_54 N    x0 x1 x2 x3 u4 (hkc (show zK u4 x0 = 10 from (h_u4.g 0 rfl)) (hk0 h_u4.1))
      · refine eq_if ?_ ?_
        · exact hrc4 x0 x1 (-1 : Int32) (x3 + (1 : Int32)) u4 (hkc (show zK u4 x0 = 10 from (h_u4.g 0 rfl)) (hk0 h_u4.1))
        · refine eq_g (show zK u4 x0 = 10 from (h_u4.g 0 rfl)) ?_
          refine eq_cH (eX9_byteAt N x0 x3 u4 (hkc (show zK u4 x0 = 10 from (h_u4.g 0 rfl)) (hk0 h_u4.1))) (fun r5 u6 e9 => h_u4.fr (fr_X9_byteAt (P := PT) N x0 x3 u4 clPT trivial _ _ e9).1) (fun r5 u6 h_u6 => ?_)
          refine eq_bs (fun v7 => ?_)
          exact hrc4 x0 x1 v7 (x3 + (1 : Int32)) u6 (hkc (show zK u6 x0 = 10 from (h_u6.g 0 rfl)) (hk0 h_u6.1))
set_option maxRecDepth 20000 in
def hX9_splitNumber (N : Nat)  (a0 : Nat) (p1 : Int32) (u : SG) : Option (Int32 × SG) := hgX9_splitNumber_4 N   N a0 p1 (0 : Int32) p1 u
set_option maxRecDepth 20000 in
theorem eX9_splitNumber (N : Nat)  (a0 : Nat) (p1 : Int32) (u : SG) (h_u : HK [(some a0, 10)] u) : fX9_splitNumber N  a0 p1 u = hX9_splitNumber N  a0 p1 u := by
  unfold fX9_splitNumber hX9_splitNumber
  exact egX9_splitNumber_4 N   N a0 p1 (0 : Int32) p1 u (hkc (show zK u a0 = 10 from (h_u.g 0 rfl)) (hk0 h_u.1))
set_option maxRecDepth 20000 in
def hgX9_isSame_3 (N : Nat)   : Nat → Nat → Int32 → Int32 → Int32 → Int32 → SG → Option (Int32 × SG)
  | 0, _, _, _, _, _, _ => none
  | n + 1, x0, x1, x2, x3, x4, u => if x3 ≤ x4 then (some ((1 : Int32), u))
  else (cl (fJ0_length_8abf5 N  u) fun r1 u2 => (if r1 ≤ x4 then (some ((1 : Int32), u2))
  else (cl (fJ0_charAt_5068e N x4 u2) fun r3 u4 => (cl (hX9_byteAt N x0 ((x1 + x4) - x2) u4) fun r5 u6 => (if r3 = r5 then ((hgX9_isSame_3 N   n) x0 x1 x2 x3 (x4 + (1 : Int32)) u6)
  else (some ((0 : Int32), u6)))))))
set_option maxRecDepth 20000 in
theorem egX9_isSame_3 (N : Nat)   : ∀ (n : Nat) (x0 : Nat) (x1 : Int32) (x2 : Int32) (x3 : Int32) (x4 : Int32) (u : SG), HK [(some x0, 10)] u → gX9_isSame_3 N   n x0 x1 x2 x3 x4 u = hgX9_isSame_3 N   n x0 x1 x2 x3 x4 u := by
  intro n
  induction n with
  | zero => intros; rfl
  | succ n ih =>
    intro x0 x1 x2 x3 x4 u h_u
    have hrc3 := ih
    rw [gX9_isSame_3, hgX9_isSame_3]
    refine eq_if ?_ ?_
    · rfl
    · refine eq_cH rfl (fun r1 u2 e9 => h_u.fr (fr_J0_length_8abf5 (P := PT) N  u _ _ e9).1) (fun r1 u2 h_u2 => ?_)
      refine eq_if ?_ ?_
      · rfl
      · refine eq_cH rfl (fun r3 u4 e9 => h_u2.fr (fr_J0_charAt_5068e (P := PT) N x4 u2 _ _ e9).1) (fun r3 u4 h_u4 => ?_)
        refine eq_g (show zK u4 x0 = 10 from (h_u4.g 0 rfl)) ?_
        refine eq_cH (eX9_byteAt N x0 ((x1 + x4) - x2) u4 (hkc (show zK u4 x0 = 10 from (h_u4.g 0 rfl)) (hk0 h_u4.1))) (fun r5 u6 e9 => h_u4.fr (fr_X9_byteAt (P := PT) N x0 ((x1 + x4) - x2) u4 clPT trivial _ _ e9).1) (fun r5 u6 h_u6 => ?_)
        refine eq_if ?_ ?_
        · exact hrc3 x0 x1 x2 x3 (x4 + (1 : Int32)) u6 (hkc (show zK u6 x0 = 10 from (h_u6.g 0 rfl)) (hk0 h_u6.1))
        · rfl
set_option maxRecDepth 20000 in
def hX9_isSame (N : Nat)  (a0 : Nat) (p1 : Int32) (p2 : Int32) (p3 : Int32) (u : SG) : Option (Int32 × SG) := hgX9_isSame_3 N   N a0 p1 p2 p3 p2 u
set_option maxRecDepth 20000 in
theorem eX9_isSame (N : Nat)  (a0 : Nat) (p1 : Int32) (p2 : Int32) (p3 : Int32) (u : SG) (h_u : HK [(some a0, 10)] u) : fX9_isSame N  a0 p1 p2 p3 u = hX9_isSame N  a0 p1 p2 p3 u := by
  unfold fX9_isSame hX9_isSame
  exact egX9_isSame_3 N   N a0 p1 p2 p3 p2 u (hkc (show zK u a0 = 10 from (h_u.g 0 rfl)) (hk0 h_u.1))
set_option maxRecDepth 20000 in
def hgX9_wordBetween_40 (N : Nat)  (rc8 : Nat → Int32 → Int32 → Int32 → Int32 → Int32 → SG → Option (Int32 × SG)) (x0 : Nat) (x1 : Int32) (x2 : Int32) (x3 : Int32) (x4 : Int32) (x5 : Int32) (u : SG) : Option (Int32 × SG) := if (x5 - x4) = (x2 - x1) then (cl (hX9_isSame N x0 x1 x4 x5 u) fun r2 u3 => (if r2 = 0 then (bs (x5 + (1 : Int32)) fun v4 => (rc8 x0 x1 x2 (x3 + (1 : Int32)) v4 (x5 + (1 : Int32)) u3))
  else (some (x3, u3))))
  else (bs (x5 + (1 : Int32)) fun v1 => (rc8 x0 x1 x2 (x3 + (1 : Int32)) v1 (x5 + (1 : Int32)) u))
set_option maxRecDepth 20000 in
theorem egX9_wordBetween_40 (N : Nat)  (rec8 : Nat → Int32 → Int32 → Int32 → Int32 → Int32 → SG → Option (Int32 × SG)) (rc8 : Nat → Int32 → Int32 → Int32 → Int32 → Int32 → SG → Option (Int32 × SG)) (hrc8 : ∀ (x0 : Nat) (x1 : Int32) (x2 : Int32) (x3 : Int32) (x4 : Int32) (x5 : Int32) (u : SG), HK [(some x0, 10)] u → rec8 x0 x1 x2 x3 x4 x5 u = rc8 x0 x1 x2 x3 x4 x5 u) (x0 : Nat) (x1 : Int32) (x2 : Int32) (x3 : Int32) (x4 : Int32) (x5 : Int32) (u : SG) (h_u : HK [(some x0, 10)] u) : gX9_wordBetween_40 N  rec8 x0 x1 x2 x3 x4 x5 u = hgX9_wordBetween_40 N  rc8 x0 x1 x2 x3 x4 x5 u := by
  unfold gX9_wordBetween_40 hgX9_wordBetween_40
  refine eq_if ?_ ?_
  · refine eq_g (show zK u x0 = 10 from (h_u.g 0 rfl)) ?_
    refine eq_cH (eX9_isSame N x0 x1 x4 x5 u (hkc (show zK u x0 = 10 from (h_u.g 0 rfl)) (hk0 h_u.1))) (fun r2 u3 e9 => h_u.fr (fr_X9_isSame (P := PT) N x0 x1 x4 x5 u clPT trivial _ _ e9).1) (fun r2 u3 h_u3 => ?_)
    refine eq_if ?_ ?_
    · refine eq_bs (fun v4 => ?_)
      exact hrc8 x0 x1 x2 (x3 + (1 : Int32)) v4 (x5 + (1 : Int32)) u3 (hkc (show zK u3 x0 = 10 from (h_u3.g 0 rfl)) (hk0 h_u3.1))
    · rfl
  · refine eq_bs (fun v1 => ?_)
    exact hrc8 x0 x1 x2 (x3 + (1 : Int32)) v1 (x5 + (1 : Int32)) u (hkc (show zK u x0 = 10 from (h_u.g 0 rfl)) (hk0 h_u.1))
set_option maxRecDepth 20000 in
def hgX9_wordBetween_8 (N : Nat)   : Nat → Nat → Int32 → Int32 → Int32 → Int32 → Int32 → SG → Option (Int32 × SG)
  | 0, _, _, _, _, _, _, _ => none
  | n + 1, x0, x1, x2, x3, x4, x5, u => cl (fJ0_length_8abf5 N  u) fun r1 u2 => (if r1 < x5 then (some ((-1 : Int32), u2))
  else (cl (fJ0_length_8abf5 N  u2) fun r3 u4 => (if x5 = r3 then (hgX9_wordBetween_40 N  (hgX9_wordBetween_8 N   n)  x0 x1 x2 x3 x4 x5 u4)
  else (cl (fJ0_charAt_5068e N x5 u4) fun r5 u6 => (if r5 = (32 : Int32) then (hgX9_wordBetween_40 N  (hgX9_wordBetween_8 N   n)  x0 x1 x2 x3 x4 x5 u6)
  else ((hgX9_wordBetween_8 N   n) x0 x1 x2 x3 x4 (x5 + (1 : Int32)) u6))))))
set_option maxRecDepth 20000 in
theorem egX9_wordBetween_8 (N : Nat)   : ∀ (n : Nat) (x0 : Nat) (x1 : Int32) (x2 : Int32) (x3 : Int32) (x4 : Int32) (x5 : Int32) (u : SG), HK [(some x0, 10)] u → gX9_wordBetween_8 N   n x0 x1 x2 x3 x4 x5 u = hgX9_wordBetween_8 N   n x0 x1 x2 x3 x4 x5 u := by
  intro n
  induction n with
  | zero => intros; rfl
  | succ n ih =>
    intro x0 x1 x2 x3 x4 x5 u h_u
    have hrc8 := ih
    rw [gX9_wordBetween_8, hgX9_wordBetween_8]
    refine eq_cH rfl (fun r1 u2 e9 => h_u.fr (fr_J0_length_8abf5 (P := PT) N  u _ _ e9).1) (fun r1 u2 h_u2 => ?_)
    refine eq_if ?_ ?_
    · rfl
    · refine eq_cH rfl (fun r3 u4 e9 => h_u2.fr (fr_J0_length_8abf5 (P := PT) N  u2 _ _ e9).1) (fun r3 u4 h_u4 => ?_)
      refine eq_if ?_ ?_
      · exact egX9_wordBetween_40 N  _ _ hrc8  x0 x1 x2 x3 x4 x5 u4 (hkc (show zK u4 x0 = 10 from (h_u4.g 0 rfl)) (hk0 h_u4.1))
      · refine eq_cH rfl (fun r5 u6 e9 => h_u4.fr (fr_J0_charAt_5068e (P := PT) N x5 u4 _ _ e9).1) (fun r5 u6 h_u6 => ?_)
        refine eq_if ?_ ?_
        · exact egX9_wordBetween_40 N  _ _ hrc8  x0 x1 x2 x3 x4 x5 u6 (hkc (show zK u6 x0 = 10 from (h_u6.g 0 rfl)) (hk0 h_u6.1))
        · exact hrc8 x0 x1 x2 x3 x4 (x5 + (1 : Int32)) u6 (hkc (show zK u6 x0 = 10 from (h_u6.g 0 rfl)) (hk0 h_u6.1))
set_option maxRecDepth 20000 in
def hX9_wordBetween (N : Nat)  (a0 : Nat) (p1 : Int32) (p2 : Int32) (u : SG) : Option (Int32 × SG) := hgX9_wordBetween_8 N   N a0 p1 p2 (0 : Int32) (0 : Int32) (0 : Int32) u
set_option maxRecDepth 20000 in
theorem eX9_wordBetween (N : Nat)  (a0 : Nat) (p1 : Int32) (p2 : Int32) (u : SG) (h_u : HK [(some a0, 10)] u) : fX9_wordBetween N  a0 p1 p2 u = hX9_wordBetween N  a0 p1 p2 u := by
  unfold fX9_wordBetween hX9_wordBetween
  exact egX9_wordBetween_8 N   N a0 p1 p2 (0 : Int32) (0 : Int32) (0 : Int32) u (hkc (show zK u a0 = 10 from (h_u.g 0 rfl)) (hk0 h_u.1))
set_option maxRecDepth 20000 in
def hgX9_splitWord_27 (N : Nat)   (x0 : Nat) (x1 : Int32) (x2 : Int32) (u : SG) : Option (Int32 × SG) := cl (hX9_wordBetween N x0 x1 x2 u) fun r1 u2 => (cl (hX9_add N x0 (2 : Int32) r1 x1 u2) fun r3 u4 => (some (x2, u4)))
set_option maxRecDepth 20000 in
theorem egX9_splitWord_27 (N : Nat)   (x0 : Nat) (x1 : Int32) (x2 : Int32) (u : SG) (h_u : HK [(some x0, 10)] u) : gX9_splitWord_27 N   x0 x1 x2 u = hgX9_splitWord_27 N   x0 x1 x2 u := by
  unfold gX9_splitWord_27 hgX9_splitWord_27
  refine eq_g (show zK u x0 = 10 from (h_u.g 0 rfl)) ?_
  refine eq_cH (eX9_wordBetween N x0 x1 x2 u (hkc (show zK u x0 = 10 from (h_u.g 0 rfl)) (hk0 h_u.1))) (fun r1 u2 e9 => h_u.fr (fr_X9_wordBetween (P := PT) N x0 x1 x2 u clPT trivial _ _ e9).1) (fun r1 u2 h_u2 => ?_)
  refine eq_g (show zK u2 x0 = 10 from (h_u2.g 0 rfl)) ?_
  refine eq_cH (eX9_add N x0 (2 : Int32) r1 x1 u2 (hkc (show zK u2 x0 = 10 from (h_u2.g 0 rfl)) (hk0 h_u2.1))) (fun r3 u4 e9 => h_u2.fr (fr_X9_add (P := PT) N x0 (2 : Int32) r1 x1 u2 clPT trivial _ _ e9).1) (fun r3 u4 h_u4 => ?_)
  rfl
set_option maxRecDepth 20000 in
def hgX9_splitWord_2 (N : Nat)   : Nat → Nat → Int32 → Int32 → SG → Option (Int32 × SG)
  | 0, _, _, _, _ => none
  | n + 1, x0, x1, x2, u => if (zI u x0 1) ≤ x2 then (hgX9_splitWord_27 N    x0 x1 x2 u)
  else (cl (hX9_byteAt N x0 x2 u) fun r1 u2 => (cl (fX9_isSmall N r1 u2) fun r3 u4 => (if r3 = 0 then (hgX9_splitWord_27 N    x0 x1 x2 u4)
  else ((hgX9_splitWord_2 N   n) x0 x1 (x2 + (1 : Int32)) u4))))
set_option maxRecDepth 20000 in
theorem egX9_splitWord_2 (N : Nat)   : ∀ (n : Nat) (x0 : Nat) (x1 : Int32) (x2 : Int32) (u : SG), HK [(some x0, 10)] u → gX9_splitWord_2 N   n x0 x1 x2 u = hgX9_splitWord_2 N   n x0 x1 x2 u := by
  intro n
  induction n with
  | zero => intros; rfl
  | succ n ih =>
    intro x0 x1 x2 u h_u
    have hrc2 := ih
    rw [gX9_splitWord_2, hgX9_splitWord_2]
    refine eq_g (show zK u x0 = 10 from (h_u.g 0 rfl)) ?_
    refine eq_if ?_ ?_
    · exact egX9_splitWord_27 N    x0 x1 x2 u (hkc (show zK u x0 = 10 from (h_u.g 0 rfl)) (hk0 h_u.1))
    · refine eq_g (show zK u x0 = 10 from (h_u.g 0 rfl)) ?_
      refine eq_cH (eX9_byteAt N x0 x2 u (hkc (show zK u x0 = 10 from (h_u.g 0 rfl)) (hk0 h_u.1))) (fun r1 u2 e9 => h_u.fr (fr_X9_byteAt (P := PT) N x0 x2 u clPT trivial _ _ e9).1) (fun r1 u2 h_u2 => ?_)
      refine eq_cH rfl (fun r3 u4 e9 => h_u2.fr (fr_X9_isSmall (P := PT) N r1 u2 clPT _ _ e9).1) (fun r3 u4 h_u4 => ?_)
      refine eq_if ?_ ?_
      · exact egX9_splitWord_27 N    x0 x1 x2 u4 (hkc (show zK u4 x0 = 10 from (h_u4.g 0 rfl)) (hk0 h_u4.1))
      · exact hrc2 x0 x1 (x2 + (1 : Int32)) u4 (hkc (show zK u4 x0 = 10 from (h_u4.g 0 rfl)) (hk0 h_u4.1))
set_option maxRecDepth 20000 in
def hX9_splitWord (N : Nat)  (a0 : Nat) (p1 : Int32) (u : SG) : Option (Int32 × SG) := hgX9_splitWord_2 N   N a0 p1 p1 u
set_option maxRecDepth 20000 in
theorem eX9_splitWord (N : Nat)  (a0 : Nat) (p1 : Int32) (u : SG) (h_u : HK [(some a0, 10)] u) : fX9_splitWord N  a0 p1 u = hX9_splitWord N  a0 p1 u := by
  unfold fX9_splitWord hX9_splitWord
  exact egX9_splitWord_2 N   N a0 p1 p1 u (hkc (show zK u a0 = 10 from (h_u.g 0 rfl)) (hk0 h_u.1))
set_option maxRecDepth 20000 in
def hgX9_splitAt_87 (N : Nat)   (x1 : Int32) (x3 : Int32) (s0 : Nat) (s1 : Int32) (s2 : Int32) (u : SG) : Option (Int32 × SG) := cl (hX9_add N s0 s1 s2 x1 u) fun r1 u2 => (if x3 = 0 then (some (x1 + (1 : Int32), u2))
  else (some (x1 + (2 : Int32), u2)))
set_option maxRecDepth 20000 in
theorem egX9_splitAt_87 (N : Nat)   (x1 : Int32) (x3 : Int32) (s0 : Nat) (s1 : Int32) (s2 : Int32) (u : SG) (h_u : HK [(some s0, 10)] u) : gX9_splitAt_87 N   x1 x3 s0 s1 s2 u = hgX9_splitAt_87 N   x1 x3 s0 s1 s2 u := by
  unfold gX9_splitAt_87 hgX9_splitAt_87
  refine eq_g (show zK u s0 = 10 from (h_u.g 0 rfl)) ?_
  refine eq_cH (eX9_add N s0 s1 s2 x1 u (hkc (show zK u s0 = 10 from (h_u.g 0 rfl)) (hk0 h_u.1))) (fun r1 u2 e9 => h_u.fr (fr_X9_add (P := PT) N s0 s1 s2 x1 u clPT trivial _ _ e9).1) (fun r1 u2 h_u2 => ?_)
  refine eq_if ?_ ?_
  · rfl
  · rfl
set_option maxRecDepth 20000 in
def hgX9_splitAt_71 (N : Nat)   (x0 : Nat) (x1 : Int32) (x2 : Int32) (s0 : Int32) (u : SG) : Option (Int32 × SG) := if s0 = 0 then (hgX9_splitAt_87 N    x1 s0 x0 (3 : Int32) x2 u)
  else (hgX9_splitAt_87 N    x1 s0 x0 (3 : Int32) (x2 + (256 : Int32)) u)
set_option maxRecDepth 20000 in
theorem egX9_splitAt_71 (N : Nat)   (x0 : Nat) (x1 : Int32) (x2 : Int32) (s0 : Int32) (u : SG) (h_u : HK [(some x0, 10)] u) : gX9_splitAt_71 N   x0 x1 x2 s0 u = hgX9_splitAt_71 N   x0 x1 x2 s0 u := by
  unfold gX9_splitAt_71 hgX9_splitAt_71
  refine eq_if ?_ ?_
  · exact egX9_splitAt_87 N    x1 s0 x0 (3 : Int32) x2 u (hkc (show zK u x0 = 10 from (h_u.g 0 rfl)) (hk0 h_u.1))
  · exact egX9_splitAt_87 N    x1 s0 x0 (3 : Int32) (x2 + (256 : Int32)) u (hkc (show zK u x0 = 10 from (h_u.g 0 rfl)) (hk0 h_u.1))
set_option maxRecDepth 20000 in
def hgX9_splitAt_70 (N : Nat)   (x0 : Nat) (x1 : Int32) (x2 : Int32) (u : SG) : Option (Int32 × SG) := hgX9_splitAt_71 N    x0 x1 x2 (0 : Int32) u
set_option maxRecDepth 20000 in
theorem egX9_splitAt_70 (N : Nat)   (x0 : Nat) (x1 : Int32) (x2 : Int32) (u : SG) (h_u : HK [(some x0, 10)] u) : gX9_splitAt_70 N   x0 x1 x2 u = hgX9_splitAt_70 N   x0 x1 x2 u := by
  unfold gX9_splitAt_70 hgX9_splitAt_70
  exact egX9_splitAt_71 N    x0 x1 x2 (0 : Int32) u (hkc (show zK u x0 = 10 from (h_u.g 0 rfl)) (hk0 h_u.1))
set_option maxRecDepth 20000 in
def hgX9_splitAt_54 (N : Nat)   (x0 : Nat) (x1 : Int32) (x2 : Int32) (u : SG) : Option (Int32 × SG) := cl (hX9_byteAt N x0 (x1 + (1 : Int32)) u) fun r1 u2 => (if r1 = (61 : Int32) then (hgX9_splitAt_71 N    x0 x1 x2 (1 : Int32) u2)
  else (hgX9_splitAt_70 N    x0 x1 x2 u2))
set_option maxRecDepth 20000 in
theorem egX9_splitAt_54 (N : Nat)   (x0 : Nat) (x1 : Int32) (x2 : Int32) (u : SG) (h_u : HK [(some x0, 10)] u) : gX9_splitAt_54 N   x0 x1 x2 u = hgX9_splitAt_54 N   x0 x1 x2 u := by
  unfold gX9_splitAt_54 hgX9_splitAt_54
  refine eq_g (show zK u x0 = 10 from (h_u.g 0 rfl)) ?_
  refine eq_cH (eX9_byteAt N x0 (x1 + (1 : Int32)) u (hkc (show zK u x0 = 10 from (h_u.g 0 rfl)) (hk0 h_u.1))) (fun r1 u2 e9 => h_u.fr (fr_X9_byteAt (P := PT) N x0 (x1 + (1 : Int32)) u clPT trivial _ _ e9).1) (fun r1 u2 h_u2 => ?_)
  refine eq_if ?_ ?_
  · exact egX9_splitAt_71 N    x0 x1 x2 (1 : Int32) u2 (hkc (show zK u2 x0 = 10 from (h_u2.g 0 rfl)) (hk0 h_u2.1))
  · exact egX9_splitAt_70 N    x0 x1 x2 u2 (hkc (show zK u2 x0 = 10 from (h_u2.g 0 rfl)) (hk0 h_u2.1))
set_option maxRecDepth 20000 in
def hX9_splitAt (N : Nat)  (a0 : Nat) (p1 : Int32) (u : SG) : Option (Int32 × SG) := cl (hX9_byteAt N a0 p1 u) fun r1 u2 => (if r1 = (32 : Int32) then (some (p1 + (1 : Int32), u2))
  else (cl (fX9_isDigit N r1 u2) fun r3 u4 => (if r3 = 0 then (cl (fX9_isSmall N r1 u4) fun r5 u6 => (if r5 = 0 then (if r1 = (60 : Int32) then (hgX9_splitAt_54 N    a0 p1 r1 u6)
  else (if r1 = (62 : Int32) then (hgX9_splitAt_54 N    a0 p1 r1 u6)
  else (hgX9_splitAt_70 N    a0 p1 r1 u6)))
  else (cl (hX9_splitWord N a0 p1 u6) fun r7 u8 => (some (r7, u8)))))
  else (cl (hX9_splitNumber N a0 p1 u4) fun r9 u10 => (some (r9, u10))))))
set_option maxRecDepth 20000 in
theorem eX9_splitAt (N : Nat)  (a0 : Nat) (p1 : Int32) (u : SG) (h_u : HK [(some a0, 10)] u) : fX9_splitAt N  a0 p1 u = hX9_splitAt N  a0 p1 u := by
  unfold fX9_splitAt hX9_splitAt
  refine eq_g (show zK u a0 = 10 from (h_u.g 0 rfl)) ?_
  refine eq_cH (eX9_byteAt N a0 p1 u (hkc (show zK u a0 = 10 from (h_u.g 0 rfl)) (hk0 h_u.1))) (fun r1 u2 e9 => h_u.fr (fr_X9_byteAt (P := PT) N a0 p1 u clPT trivial _ _ e9).1) (fun r1 u2 h_u2 => ?_)
  refine eq_if ?_ ?_
  · rfl
  · refine eq_cH rfl (fun r3 u4 e9 => h_u2.fr (fr_X9_isDigit (P := PT) N r1 u2 clPT _ _ e9).1) (fun r3 u4 h_u4 => ?_)
    refine eq_if ?_ ?_
    · refine eq_cH rfl (fun r5 u6 e9 => h_u4.fr (fr_X9_isSmall (P := PT) N r1 u4 clPT _ _ e9).1) (fun r5 u6 h_u6 => ?_)
      refine eq_if ?_ ?_
      · refine eq_if ?_ ?_
        · exact egX9_splitAt_54 N    a0 p1 r1 u6 (hkc (show zK u6 a0 = 10 from (h_u6.g 0 rfl)) (hk0 h_u6.1))
        · refine eq_if ?_ ?_
          · exact egX9_splitAt_54 N    a0 p1 r1 u6 (hkc (show zK u6 a0 = 10 from (h_u6.g 0 rfl)) (hk0 h_u6.1))
          · exact egX9_splitAt_70 N    a0 p1 r1 u6 (hkc (show zK u6 a0 = 10 from (h_u6.g 0 rfl)) (hk0 h_u6.1))
      · refine eq_g (show zK u6 a0 = 10 from (h_u6.g 0 rfl)) ?_
        refine eq_cH (eX9_splitWord N a0 p1 u6 (hkc (show zK u6 a0 = 10 from (h_u6.g 0 rfl)) (hk0 h_u6.1))) (fun r7 u8 e9 => h_u6.fr (fr_X9_splitWord (P := PT) N a0 p1 u6 clPT trivial _ _ e9).1) (fun r7 u8 h_u8 => ?_)
        rfl
    · refine eq_g (show zK u4 a0 = 10 from (h_u4.g 0 rfl)) ?_
      refine eq_cH (eX9_splitNumber N a0 p1 u4 (hkc (show zK u4 a0 = 10 from (h_u4.g 0 rfl)) (hk0 h_u4.1))) (fun r9 u10 e9 => h_u4.fr (fr_X9_splitNumber (P := PT) N a0 p1 u4 clPT trivial _ _ e9).1) (fun r9 u10 h_u10 => ?_)
      rfl
set_option maxRecDepth 20000 in
def hgX9_step_92 (N : Nat)   (x0 : Nat) (s0 : Nat) (s1 : Int32) (u : SG) : Option (Unit × SG) := bs (sI u s0 10 s1) fun u1 => (if (zI u1 x0 8) = (3 : Int32) then (if (zI u1 x0 7) < 0 ∨ 401 ≤ (zI u1 x0 7).toNatClampNeg then none else (bs (sI u1 x0 11 (zI u1 (x0 + 3) (zI u1 x0 7).toNatClampNeg)) fun u4 => (some ((), u4))))
  else (bs (sI u1 x0 11 (-1 : Int32)) fun u2 => (some ((), u2))))
set_option maxRecDepth 20000 in
theorem egX9_step_92 (N : Nat)   (x0 : Nat) (s0 : Nat) (s1 : Int32) (u : SG) (h_u : HK [(some x0, 10), (some s0, 10)] u) : gX9_step_92 N   x0 s0 s1 u = hgX9_step_92 N   x0 s0 s1 u := by
  unfold gX9_step_92 hgX9_step_92
  refine eq_g (show zK u s0 = 10 from (h_u.g 1 rfl)) ?_
  refine eq_sH (h_u.fr (P := PT) (Fr.sIr trivial)) (fun u1 h_u1 => ?_)
  refine eq_g (show zK u1 x0 = 10 from (h_u1.g 0 rfl)) ?_
  refine eq_if ?_ ?_
  · refine eq_g (show zK u1 x0 = 10 from (h_u1.g 0 rfl)) ?_
    refine eq_bR (show zR u1 x0 4 = some (x0 + 3) from lyR_10_4 h_u1.1 (h_u1.g 0 rfl)) ?_
    refine eq_g (show zK u1 x0 = 10 from (h_u1.g 0 rfl)) ?_
    refine eq_g (show zK u1 (x0 + 3) = 22 from (lyK_10_4 h_u1.1 (h_u1.g 0 rfl))) ?_
    refine eq_ixh (show zN u1 (x0 + 3) = 401 from lyN_10_4 h_u1.1 (h_u1.g 0 rfl)) (fun hix1 => ?_)
    refine eq_g (show zK u1 x0 = 10 from (h_u1.g 0 rfl)) ?_
    refine eq_sH (h_u1.fr (P := PT) (Fr.sIr trivial)) (fun u4 h_u4 => ?_)
    rfl
  · refine eq_g (show zK u1 x0 = 10 from (h_u1.g 0 rfl)) ?_
    refine eq_sH (h_u1.fr (P := PT) (Fr.sIr trivial)) (fun u2 h_u2 => ?_)
    rfl
set_option maxRecDepth 20000 in
def hgX9_step_67 (N : Nat)   (x0 : Nat) (s0 : Nat) (s1 : Int32) (u : SG) : Option (Unit × SG) := bs (sI u s0 9 s1) fun u1 => (if (zI u1 x0 8) = (2 : Int32) then (if (zI u1 x0 7) < 0 ∨ 401 ≤ (zI u1 x0 7).toNatClampNeg then none else (hgX9_step_92 N    x0 x0 (zI u1 (x0 + 3) (zI u1 x0 7).toNatClampNeg) u1))
  else (hgX9_step_92 N    x0 x0 (-1 : Int32) u1))
set_option maxRecDepth 20000 in
theorem egX9_step_67 (N : Nat)   (x0 : Nat) (s0 : Nat) (s1 : Int32) (u : SG) (h_u : HK [(some x0, 10), (some s0, 10)] u) : gX9_step_67 N   x0 s0 s1 u = hgX9_step_67 N   x0 s0 s1 u := by
  unfold gX9_step_67 hgX9_step_67
  refine eq_g (show zK u s0 = 10 from (h_u.g 1 rfl)) ?_
  refine eq_sH (h_u.fr (P := PT) (Fr.sIr trivial)) (fun u1 h_u1 => ?_)
  refine eq_g (show zK u1 x0 = 10 from (h_u1.g 0 rfl)) ?_
  refine eq_if ?_ ?_
  · refine eq_g (show zK u1 x0 = 10 from (h_u1.g 0 rfl)) ?_
    refine eq_bR (show zR u1 x0 4 = some (x0 + 3) from lyR_10_4 h_u1.1 (h_u1.g 0 rfl)) ?_
    refine eq_g (show zK u1 x0 = 10 from (h_u1.g 0 rfl)) ?_
    refine eq_g (show zK u1 (x0 + 3) = 22 from (lyK_10_4 h_u1.1 (h_u1.g 0 rfl))) ?_
    refine eq_ixh (show zN u1 (x0 + 3) = 401 from lyN_10_4 h_u1.1 (h_u1.g 0 rfl)) (fun hix1 => ?_)
    exact egX9_step_92 N    x0 x0 (zI u1 (x0 + 3) (zI u1 x0 7).toNatClampNeg) u1 (hkc (show zK u1 x0 = 10 from (h_u1.g 0 rfl)) (hkc (show zK u1 x0 = 10 from (h_u1.g 0 rfl)) (hk0 h_u1.1)))
  · exact egX9_step_92 N    x0 x0 (-1 : Int32) u1 (hkc (show zK u1 x0 = 10 from (h_u1.g 0 rfl)) (hkc (show zK u1 x0 = 10 from (h_u1.g 0 rfl)) (hk0 h_u1.1)))
set_option maxRecDepth 20000 in
def hX9_step (N : Nat)  (a0 : Nat) (u : SG) : Option (Unit × SG) := bs ((zI u a0 7) + (1 : Int32)) fun v1 => (if v1 < 0 then (some ((), u))
  else (if (zI u a0 6) ≤ v1 then (some ((), u))
  else (if v1 ≤ (400 : Int32) then (bs (sI u a0 7 v1) fun u2 => (if (zI u2 a0 7) < 0 ∨ 401 ≤ (zI u2 a0 7).toNatClampNeg then none else (bs (sI u2 a0 8 (zI u2 (a0 + 2) (zI u2 a0 7).toNatClampNeg)) fun u4 => (if (zI u4 a0 8) = (1 : Int32) then (if (zI u4 a0 7) < 0 ∨ 401 ≤ (zI u4 a0 7).toNatClampNeg then none else (hgX9_step_67 N    a0 a0 (zI u4 (a0 + 3) (zI u4 a0 7).toNatClampNeg) u4))
  else (hgX9_step_67 N    a0 a0 (-1 : Int32) u4)))))
  else (some ((), u)))))
set_option maxRecDepth 20000 in
theorem eX9_step (N : Nat)  (a0 : Nat) (u : SG) (h_u : HK [(some a0, 10)] u) : fX9_step N  a0 u = hX9_step N  a0 u := by
  unfold fX9_step hX9_step
  refine eq_g (show zK u a0 = 10 from (h_u.g 0 rfl)) ?_
  refine eq_bs (fun v1 => ?_)
  refine eq_if ?_ ?_
  · rfl
  · refine eq_g (show zK u a0 = 10 from (h_u.g 0 rfl)) ?_
    refine eq_if ?_ ?_
    · rfl
    · refine eq_if ?_ ?_
      · refine eq_g (show zK u a0 = 10 from (h_u.g 0 rfl)) ?_
        refine eq_sH (h_u.fr (P := PT) (Fr.sIr trivial)) (fun u2 h_u2 => ?_)
        refine eq_g (show zK u2 a0 = 10 from (h_u2.g 0 rfl)) ?_
        refine eq_bR (show zR u2 a0 3 = some (a0 + 2) from lyR_10_3 h_u2.1 (h_u2.g 0 rfl)) ?_
        refine eq_g (show zK u2 a0 = 10 from (h_u2.g 0 rfl)) ?_
        refine eq_g (show zK u2 (a0 + 2) = 22 from (lyK_10_3 h_u2.1 (h_u2.g 0 rfl))) ?_
        refine eq_ixh (show zN u2 (a0 + 2) = 401 from lyN_10_3 h_u2.1 (h_u2.g 0 rfl)) (fun hix1 => ?_)
        refine eq_g (show zK u2 a0 = 10 from (h_u2.g 0 rfl)) ?_
        refine eq_sH (h_u2.fr (P := PT) (Fr.sIr trivial)) (fun u4 h_u4 => ?_)
        refine eq_g (show zK u4 a0 = 10 from (h_u4.g 0 rfl)) ?_
        refine eq_if ?_ ?_
        · refine eq_g (show zK u4 a0 = 10 from (h_u4.g 0 rfl)) ?_
          refine eq_bR (show zR u4 a0 4 = some (a0 + 3) from lyR_10_4 h_u4.1 (h_u4.g 0 rfl)) ?_
          refine eq_g (show zK u4 a0 = 10 from (h_u4.g 0 rfl)) ?_
          refine eq_g (show zK u4 (a0 + 3) = 22 from (lyK_10_4 h_u4.1 (h_u4.g 0 rfl))) ?_
          refine eq_ixh (show zN u4 (a0 + 3) = 401 from lyN_10_4 h_u4.1 (h_u4.g 0 rfl)) (fun hix2 => ?_)
          exact egX9_step_67 N    a0 a0 (zI u4 (a0 + 3) (zI u4 a0 7).toNatClampNeg) u4 (hkc (show zK u4 a0 = 10 from (h_u4.g 0 rfl)) (hkc (show zK u4 a0 = 10 from (h_u4.g 0 rfl)) (hk0 h_u4.1)))
        · exact egX9_step_67 N    a0 a0 (-1 : Int32) u4 (hkc (show zK u4 a0 = 10 from (h_u4.g 0 rfl)) (hkc (show zK u4 a0 = 10 from (h_u4.g 0 rfl)) (hk0 h_u4.1)))
      · rfl
set_option maxRecDepth 20000 in
def hgX9_open_46 (N : Nat)   (x0 : Nat) (u : SG) : Option (Unit × SG) := cl (hX9_add N x0 (0 : Int32) (0 : Int32) (zI u x0 1) u) fun r1 u2 => (cl (hX9_step N x0 u2) fun r3 u4 => (some ((), u4)))
set_option maxRecDepth 20000 in
theorem egX9_open_46 (N : Nat)   (x0 : Nat) (u : SG) (h_u : HK [(some x0, 10)] u) : gX9_open_46 N   x0 u = hgX9_open_46 N   x0 u := by
  unfold gX9_open_46 hgX9_open_46
  refine eq_g (show zK u x0 = 10 from (h_u.g 0 rfl)) ?_
  refine eq_g (show zK u x0 = 10 from (h_u.g 0 rfl)) ?_
  refine eq_cH (eX9_add N x0 (0 : Int32) (0 : Int32) (zI u x0 1) u (hkc (show zK u x0 = 10 from (h_u.g 0 rfl)) (hk0 h_u.1))) (fun r1 u2 e9 => h_u.fr (fr_X9_add (P := PT) N x0 (0 : Int32) (0 : Int32) (zI u x0 1) u clPT trivial _ _ e9).1) (fun r1 u2 h_u2 => ?_)
  refine eq_g (show zK u2 x0 = 10 from (h_u2.g 0 rfl)) ?_
  refine eq_cH (eX9_step N x0 u2 (hkc (show zK u2 x0 = 10 from (h_u2.g 0 rfl)) (hk0 h_u2.1))) (fun r3 u4 e9 => h_u2.fr (fr_X9_step (P := PT) N x0 u2 clPT trivial _ _ e9).1) (fun r3 u4 h_u4 => ?_)
  rfl
set_option maxRecDepth 20000 in
def hgX9_open_19 (N : Nat)   : Nat → Nat → Int32 → Int32 → SG → Option (Unit × SG)
  | 0, _, _, _, _ => none
  | n + 1, x0, x1, x2, u => if (400 : Int32) ≤ x2 then (hgX9_open_46 N    x0 u)
  else (if (zI u x0 1) ≤ x1 then (hgX9_open_46 N    x0 u)
  else (cl (hX9_splitAt N x0 x1 u) fun r1 u2 => ((hgX9_open_19 N   n) x0 r1 (x2 + (1 : Int32)) u2)))
set_option maxRecDepth 20000 in
theorem egX9_open_19 (N : Nat)   : ∀ (n : Nat) (x0 : Nat) (x1 : Int32) (x2 : Int32) (u : SG), HK [(some x0, 10)] u → gX9_open_19 N   n x0 x1 x2 u = hgX9_open_19 N   n x0 x1 x2 u := by
  intro n
  induction n with
  | zero => intros; rfl
  | succ n ih =>
    intro x0 x1 x2 u h_u
    have hrc19 := ih
    rw [gX9_open_19, hgX9_open_19]
    refine eq_if ?_ ?_
    · exact egX9_open_46 N    x0 u (hkc (show zK u x0 = 10 from (h_u.g 0 rfl)) (hk0 h_u.1))
    · refine eq_g (show zK u x0 = 10 from (h_u.g 0 rfl)) ?_
      refine eq_if ?_ ?_
      · exact egX9_open_46 N    x0 u (hkc (show zK u x0 = 10 from (h_u.g 0 rfl)) (hk0 h_u.1))
      · refine eq_g (show zK u x0 = 10 from (h_u.g 0 rfl)) ?_
        refine eq_cH (eX9_splitAt N x0 x1 u (hkc (show zK u x0 = 10 from (h_u.g 0 rfl)) (hk0 h_u.1))) (fun r1 u2 e9 => h_u.fr (fr_X9_splitAt (P := PT) N x0 x1 u clPT trivial _ _ e9).1) (fun r1 u2 h_u2 => ?_)
        exact hrc19 x0 r1 (x2 + (1 : Int32)) u2 (hkc (show zK u2 x0 = 10 from (h_u2.g 0 rfl)) (hk0 h_u2.1))
set_option maxRecDepth 20000 in
def hX9_open (N : Nat)  (a0 : Nat) (u : SG) : Option (Unit × SG) := bs (sI u a0 6 (0 : Int32)) fun u1 => (bs (sI u1 a0 7 (-1 : Int32)) fun u2 => (bs (sI u2 a0 2 (0 : Int32)) fun u3 => (hgX9_open_19 N   N a0 (0 : Int32) (0 : Int32) u3)))
set_option maxRecDepth 20000 in
theorem eX9_open (N : Nat)  (a0 : Nat) (u : SG) (h_u : HK [(some a0, 10)] u) : fX9_open N  a0 u = hX9_open N  a0 u := by
  unfold fX9_open hX9_open
  refine eq_g (show zK u a0 = 10 from (h_u.g 0 rfl)) ?_
  refine eq_sH (h_u.fr (P := PT) (Fr.sIr trivial)) (fun u1 h_u1 => ?_)
  refine eq_g (show zK u1 a0 = 10 from (h_u1.g 0 rfl)) ?_
  refine eq_sH (h_u1.fr (P := PT) (Fr.sIr trivial)) (fun u2 h_u2 => ?_)
  refine eq_g (show zK u2 a0 = 10 from (h_u2.g 0 rfl)) ?_
  refine eq_sH (h_u2.fr (P := PT) (Fr.sIr trivial)) (fun u3 h_u3 => ?_)
  exact egX9_open_19 N   N a0 (0 : Int32) (0 : Int32) u3 (hkc (show zK u3 a0 = 10 from (h_u3.g 0 rfl)) (hk0 h_u3.1))
set_option maxRecDepth 20000 in
def hgX9_refuse_30 (N : Nat)   (x0 : Nat) (x1 : Int32) (s0 : Int32) (u : SG) : Option (Int32 × SG) := bs (sI u x0 2 (((1 : Int32) + ((8 : Int32) * s0)) + x1)) fun u1 => (some ((0 : Int32), u1))
set_option maxRecDepth 20000 in
theorem egX9_refuse_30 (N : Nat)   (x0 : Nat) (x1 : Int32) (s0 : Int32) (u : SG) (h_u : HK [(some x0, 10)] u) : gX9_refuse_30 N   x0 x1 s0 u = hgX9_refuse_30 N   x0 x1 s0 u := by
  unfold gX9_refuse_30 hgX9_refuse_30
  refine eq_g (show zK u x0 = 10 from (h_u.g 0 rfl)) ?_
  refine eq_sH (h_u.fr (P := PT) (Fr.sIr trivial)) (fun u1 h_u1 => ?_)
  rfl
set_option maxRecDepth 20000 in
def hgX9_refuse_29 (N : Nat)   (x0 : Nat) (x1 : Int32) (u : SG) : Option (Int32 × SG) := hgX9_refuse_30 N    x0 x1 (0 : Int32) u
set_option maxRecDepth 20000 in
theorem egX9_refuse_29 (N : Nat)   (x0 : Nat) (x1 : Int32) (u : SG) (h_u : HK [(some x0, 10)] u) : gX9_refuse_29 N   x0 x1 u = hgX9_refuse_29 N   x0 x1 u := by
  unfold gX9_refuse_29 hgX9_refuse_29
  exact egX9_refuse_30 N    x0 x1 (0 : Int32) u (hkc (show zK u x0 = 10 from (h_u.g 0 rfl)) (hk0 h_u.1))
set_option maxRecDepth 20000 in
def hX9_refuse (N : Nat)  (a0 : Nat) (p1 : Int32) (u : SG) : Option (Int32 × SG) := if (zI u a0 7) < 0 then (hgX9_refuse_29 N    a0 p1 u)
  else (if (400 : Int32) < (zI u a0 7) then (hgX9_refuse_29 N    a0 p1 u)
  else (if (zI u a0 7) < 0 ∨ 401 ≤ (zI u a0 7).toNatClampNeg then none else (hgX9_refuse_30 N    a0 p1 (zI u (a0 + 4) (zI u a0 7).toNatClampNeg) u)))
set_option maxRecDepth 20000 in
theorem eX9_refuse (N : Nat)  (a0 : Nat) (p1 : Int32) (u : SG) (h_u : HK [(some a0, 10)] u) : fX9_refuse N  a0 p1 u = hX9_refuse N  a0 p1 u := by
  unfold fX9_refuse hX9_refuse
  refine eq_g (show zK u a0 = 10 from (h_u.g 0 rfl)) ?_
  refine eq_if ?_ ?_
  · exact egX9_refuse_29 N    a0 p1 u (hkc (show zK u a0 = 10 from (h_u.g 0 rfl)) (hk0 h_u.1))
  · refine eq_g (show zK u a0 = 10 from (h_u.g 0 rfl)) ?_
    refine eq_if ?_ ?_
    · exact egX9_refuse_29 N    a0 p1 u (hkc (show zK u a0 = 10 from (h_u.g 0 rfl)) (hk0 h_u.1))
    · refine eq_g (show zK u a0 = 10 from (h_u.g 0 rfl)) ?_
      refine eq_bR (show zR u a0 5 = some (a0 + 4) from lyR_10_5 h_u.1 (h_u.g 0 rfl)) ?_
      refine eq_g (show zK u a0 = 10 from (h_u.g 0 rfl)) ?_
      refine eq_g (show zK u (a0 + 4) = 22 from (lyK_10_5 h_u.1 (h_u.g 0 rfl))) ?_
      refine eq_ixh (show zN u (a0 + 4) = 401 from lyN_10_5 h_u.1 (h_u.g 0 rfl)) (fun hix1 => ?_)
      exact egX9_refuse_30 N    a0 p1 (zI u (a0 + 4) (zI u a0 7).toNatClampNeg) u (hkc (show zK u a0 = 10 from (h_u.g 0 rfl)) (hk0 h_u.1))
set_option maxRecDepth 20000 in
def hX5_emit (N : Nat)  (a0 : Nat) (p1 : Int32) (u : SG) : Option (Int32 × SG) := if p1 = (-99 : Int32) then (some ((1 : Int32), u))
  else (if (zI u a0 2) < 0 then (some ((1 : Int32), u))
  else (if (412 : Int32) ≤ (zI u a0 2) then (some ((1 : Int32), u))
  else (if (zI u a0 2) < 0 ∨ 412 ≤ (zI u a0 2).toNatClampNeg then none else (bs (sI u (a0 + 1) (zI u a0 2).toNatClampNeg p1) fun u2 => (bs (sI u2 a0 2 ((zI u2 a0 2) + (1 : Int32))) fun u3 => (some ((1 : Int32), u3)))))))
set_option maxRecDepth 20000 in
theorem eX5_emit (N : Nat)  (a0 : Nat) (p1 : Int32) (u : SG) (h_u : HK [(some a0, 6)] u) : fX5_emit N  a0 p1 u = hX5_emit N  a0 p1 u := by
  unfold fX5_emit hX5_emit
  refine eq_if ?_ ?_
  · rfl
  · refine eq_g (show zK u a0 = 6 from (h_u.g 0 rfl)) ?_
    refine eq_if ?_ ?_
    · rfl
    · refine eq_g (show zK u a0 = 6 from (h_u.g 0 rfl)) ?_
      refine eq_if ?_ ?_
      · rfl
      · refine eq_g (show zK u a0 = 6 from (h_u.g 0 rfl)) ?_
        refine eq_bR (show zR u a0 1 = some (a0 + 1) from lyR_6_1 h_u.1 (h_u.g 0 rfl)) ?_
        refine eq_g (show zK u a0 = 6 from (h_u.g 0 rfl)) ?_
        refine eq_g (show zK u (a0 + 1) = 22 from (lyK_6_1 h_u.1 (h_u.g 0 rfl))) ?_
        refine eq_ixh (show zN u (a0 + 1) = 412 from lyN_6_1 h_u.1 (h_u.g 0 rfl)) (fun hix1 => ?_)
        refine eq_sH (h_u.fr (P := PT) (Fr.sIr trivial)) (fun u2 h_u2 => ?_)
        refine eq_g (show zK u2 a0 = 6 from (h_u2.g 0 rfl)) ?_
        refine eq_g (show zK u2 a0 = 6 from (h_u2.g 0 rfl)) ?_
        refine eq_sH (h_u2.fr (P := PT) (Fr.sIr trivial)) (fun u3 h_u3 => ?_)
        rfl
set_option maxRecDepth 20000 in
def hgX5_readValue_138 (N : Nat)   (x0 : Nat) (s0 : Nat) (s1 : Int32) (u : SG) : Option (Int32 × SG) := cl (hX5_emit N s0 s1 u) fun r1 u2 => (cl (hX9_step N (x0 - 6) u2) fun r4 u5 => (some ((1 : Int32), u5)))
set_option maxRecDepth 20000 in
theorem egX5_readValue_138 (N : Nat)   (x0 : Nat) (s0 : Nat) (s1 : Int32) (u : SG) (h_u : HK [(some x0, 6), (some s0, 6)] u) : gX5_readValue_138 N   x0 s0 s1 u = hgX5_readValue_138 N   x0 s0 s1 u := by
  unfold gX5_readValue_138 hgX5_readValue_138
  refine eq_g (show zK u s0 = 6 from (h_u.g 1 rfl)) ?_
  refine eq_cH (eX5_emit N s0 s1 u (hkc (show zK u s0 = 6 from (h_u.g 1 rfl)) (hk0 h_u.1))) (fun r1 u2 e9 => h_u.fr (fr_X5_emit (P := PT) N s0 s1 u clPT trivial _ _ e9).1) (fun r1 u2 h_u2 => ?_)
  refine eq_g (show zK u2 x0 = 6 from (h_u2.g 0 rfl)) ?_
  refine eq_bR (show zR u2 x0 0 = some (x0 - 6) from lyR_6_0 h_u2.1 (h_u2.g 0 rfl)) ?_
  refine eq_g (show zK u2 (x0 - 6) = 10 from (lyK_6_0 h_u2.1 (h_u2.g 0 rfl))) ?_
  refine eq_cH (eX9_step N (x0 - 6) u2 (hkc (show zK u2 (x0 - 6) = 10 from (lyK_6_0 h_u2.1 (h_u2.g 0 rfl))) (hk0 h_u2.1))) (fun r4 u5 e9 => h_u2.fr (fr_X9_step (P := PT) N (x0 - 6) u2 clPT trivial _ _ e9).1) (fun r4 u5 h_u5 => ?_)
  rfl
set_option maxRecDepth 20000 in
def hgX5_readValue_86 (N : Nat)   (x0 : Nat) (x1 : Int32) (u : SG) : Option (Int32 × SG) := if (zI u x0 3) < (60 : Int32) then (bs (sI u x0 3 ((zI u x0 3) + (1 : Int32))) fun u1 => (if x1 = 0 then (hgX5_readValue_138 N    x0 x0 ((-1 : Int32) - (zI u1 (x0 - 6) 10)) u1)
  else (hgX5_readValue_138 N    x0 x0 (zI u1 (x0 - 6) 9) u1)))
  else (cl (hX9_refuse N (x0 - 6) (3 : Int32) u) fun r5 u6 => (if r5 = 0 ∨ r5 = 1 then (some (r5, u6))
  else (none)))
set_option maxRecDepth 20000 in
theorem egX5_readValue_86 (N : Nat)   (x0 : Nat) (x1 : Int32) (u : SG) (h_u : HK [(some x0, 6)] u) : gX5_readValue_86 N   x0 x1 u = hgX5_readValue_86 N   x0 x1 u := by
  unfold gX5_readValue_86 hgX5_readValue_86
  refine eq_g (show zK u x0 = 6 from (h_u.g 0 rfl)) ?_
  refine eq_if ?_ ?_
  · refine eq_g (show zK u x0 = 6 from (h_u.g 0 rfl)) ?_
    refine eq_g (show zK u x0 = 6 from (h_u.g 0 rfl)) ?_
    refine eq_sH (h_u.fr (P := PT) (Fr.sIr trivial)) (fun u1 h_u1 => ?_)
    refine eq_if ?_ ?_
    · refine eq_g (show zK u1 x0 = 6 from (h_u1.g 0 rfl)) ?_
      refine eq_bR (show zR u1 x0 0 = some (x0 - 6) from lyR_6_0 h_u1.1 (h_u1.g 0 rfl)) ?_
      refine eq_g (show zK u1 (x0 - 6) = 10 from (lyK_6_0 h_u1.1 (h_u1.g 0 rfl))) ?_
      exact egX5_readValue_138 N    x0 x0 ((-1 : Int32) - (zI u1 (x0 - 6) 10)) u1 (hkc (show zK u1 x0 = 6 from (h_u1.g 0 rfl)) (hkc (show zK u1 x0 = 6 from (h_u1.g 0 rfl)) (hk0 h_u1.1)))
    · refine eq_g (show zK u1 x0 = 6 from (h_u1.g 0 rfl)) ?_
      refine eq_bR (show zR u1 x0 0 = some (x0 - 6) from lyR_6_0 h_u1.1 (h_u1.g 0 rfl)) ?_
      refine eq_g (show zK u1 (x0 - 6) = 10 from (lyK_6_0 h_u1.1 (h_u1.g 0 rfl))) ?_
      exact egX5_readValue_138 N    x0 x0 (zI u1 (x0 - 6) 9) u1 (hkc (show zK u1 x0 = 6 from (h_u1.g 0 rfl)) (hkc (show zK u1 x0 = 6 from (h_u1.g 0 rfl)) (hk0 h_u1.1)))
  · refine eq_g (show zK u x0 = 6 from (h_u.g 0 rfl)) ?_
    refine eq_bR (show zR u x0 0 = some (x0 - 6) from lyR_6_0 h_u.1 (h_u.g 0 rfl)) ?_
    refine eq_g (show zK u (x0 - 6) = 10 from (lyK_6_0 h_u.1 (h_u.g 0 rfl))) ?_
    refine eq_cH (eX9_refuse N (x0 - 6) (3 : Int32) u (hkc (show zK u (x0 - 6) = 10 from (lyK_6_0 h_u.1 (h_u.g 0 rfl))) (hk0 h_u.1))) (fun r5 u6 e9 => h_u.fr (fr_X9_refuse (P := PT) N (x0 - 6) (3 : Int32) u clPT trivial _ _ e9).1) (fun r5 u6 h_u6 => ?_)
    refine eq_if ?_ ?_
    · rfl
    · rfl
set_option maxRecDepth 20000 in
def hgX5_readValue_62 (N : Nat)   (x0 : Nat) (x1 : Int32) (u : SG) : Option (Int32 × SG) := if x1 = 0 then (hgX5_readValue_86 N    x0 x1 u)
  else (if (zI u (x0 - 6) 9) = (-1 : Int32) then (cl (hX9_refuse N (x0 - 6) (1 : Int32) u) fun r3 u4 => (if r3 = 0 ∨ r3 = 1 then (some (r3, u4))
  else (none)))
  else (hgX5_readValue_86 N    x0 x1 u))
set_option maxRecDepth 20000 in
theorem egX5_readValue_62 (N : Nat)   (x0 : Nat) (x1 : Int32) (u : SG) (h_u : HK [(some x0, 6)] u) : gX5_readValue_62 N   x0 x1 u = hgX5_readValue_62 N   x0 x1 u := by
  unfold gX5_readValue_62 hgX5_readValue_62
  refine eq_if ?_ ?_
  · exact egX5_readValue_86 N    x0 x1 u (hkc (show zK u x0 = 6 from (h_u.g 0 rfl)) (hk0 h_u.1))
  · refine eq_g (show zK u x0 = 6 from (h_u.g 0 rfl)) ?_
    refine eq_bR (show zR u x0 0 = some (x0 - 6) from lyR_6_0 h_u.1 (h_u.g 0 rfl)) ?_
    refine eq_g (show zK u (x0 - 6) = 10 from (lyK_6_0 h_u.1 (h_u.g 0 rfl))) ?_
    refine eq_if ?_ ?_
    · refine eq_g (show zK u x0 = 6 from (h_u.g 0 rfl)) ?_
      refine eq_bR (show zR u x0 0 = some (x0 - 6) from lyR_6_0 h_u.1 (h_u.g 0 rfl)) ?_
      refine eq_g (show zK u (x0 - 6) = 10 from (lyK_6_0 h_u.1 (h_u.g 0 rfl))) ?_
      refine eq_cH (eX9_refuse N (x0 - 6) (1 : Int32) u (hkc (show zK u (x0 - 6) = 10 from (lyK_6_0 h_u.1 (h_u.g 0 rfl))) (hk0 h_u.1))) (fun r3 u4 e9 => h_u.fr (fr_X9_refuse (P := PT) N (x0 - 6) (1 : Int32) u clPT trivial _ _ e9).1) (fun r3 u4 h_u4 => ?_)
      refine eq_if ?_ ?_
      · rfl
      · rfl
    · exact egX5_readValue_86 N    x0 x1 u (hkc (show zK u x0 = 6 from (h_u.g 0 rfl)) (hk0 h_u.1))
set_option maxRecDepth 20000 in
def hgX5_readValue_44 (N : Nat)   (x0 : Nat) (x1 : Int32) (s0 : Int32) (u : SG) : Option (Int32 × SG) := if x1 = 0 then (if s0 = 0 then (cl (hX9_refuse N (x0 - 6) (0 : Int32) u) fun r2 u3 => (if r2 = 0 ∨ r2 = 1 then (some (r2, u3))
  else (none)))
  else (hgX5_readValue_62 N    x0 x1 u))
  else (hgX5_readValue_62 N    x0 x1 u)
set_option maxRecDepth 20000 in
theorem egX5_readValue_44 (N : Nat)   (x0 : Nat) (x1 : Int32) (s0 : Int32) (u : SG) (h_u : HK [(some x0, 6)] u) : gX5_readValue_44 N   x0 x1 s0 u = hgX5_readValue_44 N   x0 x1 s0 u := by
  unfold gX5_readValue_44 hgX5_readValue_44
  refine eq_if ?_ ?_
  · refine eq_if ?_ ?_
    · refine eq_g (show zK u x0 = 6 from (h_u.g 0 rfl)) ?_
      refine eq_bR (show zR u x0 0 = some (x0 - 6) from lyR_6_0 h_u.1 (h_u.g 0 rfl)) ?_
      refine eq_g (show zK u (x0 - 6) = 10 from (lyK_6_0 h_u.1 (h_u.g 0 rfl))) ?_
      refine eq_cH (eX9_refuse N (x0 - 6) (0 : Int32) u (hkc (show zK u (x0 - 6) = 10 from (lyK_6_0 h_u.1 (h_u.g 0 rfl))) (hk0 h_u.1))) (fun r2 u3 e9 => h_u.fr (fr_X9_refuse (P := PT) N (x0 - 6) (0 : Int32) u clPT trivial _ _ e9).1) (fun r2 u3 h_u3 => ?_)
      refine eq_if ?_ ?_
      · rfl
      · rfl
    · exact egX5_readValue_62 N    x0 x1 u (hkc (show zK u x0 = 6 from (h_u.g 0 rfl)) (hk0 h_u.1))
  · exact egX5_readValue_62 N    x0 x1 u (hkc (show zK u x0 = 6 from (h_u.g 0 rfl)) (hk0 h_u.1))
set_option maxRecDepth 20000 in
def hgX5_readValue_43 (N : Nat)   (x0 : Nat) (x1 : Int32) (u : SG) : Option (Int32 × SG) := hgX5_readValue_44 N    x0 x1 (0 : Int32) u
set_option maxRecDepth 20000 in
theorem egX5_readValue_43 (N : Nat)   (x0 : Nat) (x1 : Int32) (u : SG) (h_u : HK [(some x0, 6)] u) : gX5_readValue_43 N   x0 x1 u = hgX5_readValue_43 N   x0 x1 u := by
  unfold gX5_readValue_43 hgX5_readValue_43
  exact egX5_readValue_44 N    x0 x1 (0 : Int32) u (hkc (show zK u x0 = 6 from (h_u.g 0 rfl)) (hk0 h_u.1))
set_option maxRecDepth 20000 in
def hgX5_readValue_16 (N : Nat)   (x0 : Nat) (s0 : Int32) (u : SG) : Option (Int32 × SG) := if (zI u (x0 - 6) 10) < 0 then (hgX5_readValue_43 N    x0 s0 u)
  else (if (12 : Int32) < (zI u (x0 - 6) 10) then (hgX5_readValue_43 N    x0 s0 u)
  else (hgX5_readValue_44 N    x0 s0 (1 : Int32) u))
set_option maxRecDepth 20000 in
theorem egX5_readValue_16 (N : Nat)   (x0 : Nat) (s0 : Int32) (u : SG) (h_u : HK [(some x0, 6)] u) : gX5_readValue_16 N   x0 s0 u = hgX5_readValue_16 N   x0 s0 u := by
  unfold gX5_readValue_16 hgX5_readValue_16
  refine eq_g (show zK u x0 = 6 from (h_u.g 0 rfl)) ?_
  refine eq_bR (show zR u x0 0 = some (x0 - 6) from lyR_6_0 h_u.1 (h_u.g 0 rfl)) ?_
  refine eq_g (show zK u (x0 - 6) = 10 from (lyK_6_0 h_u.1 (h_u.g 0 rfl))) ?_
  refine eq_if ?_ ?_
  · exact egX5_readValue_43 N    x0 s0 u (hkc (show zK u x0 = 6 from (h_u.g 0 rfl)) (hk0 h_u.1))
  · refine eq_g (show zK u x0 = 6 from (h_u.g 0 rfl)) ?_
    refine eq_bR (show zR u x0 0 = some (x0 - 6) from lyR_6_0 h_u.1 (h_u.g 0 rfl)) ?_
    refine eq_g (show zK u (x0 - 6) = 10 from (lyK_6_0 h_u.1 (h_u.g 0 rfl))) ?_
    refine eq_if ?_ ?_
    · exact egX5_readValue_43 N    x0 s0 u (hkc (show zK u x0 = 6 from (h_u.g 0 rfl)) (hk0 h_u.1))
    · exact egX5_readValue_44 N    x0 s0 (1 : Int32) u (hkc (show zK u x0 = 6 from (h_u.g 0 rfl)) (hk0 h_u.1))
set_option maxRecDepth 20000 in
def hX5_readValue (N : Nat)  (a0 : Nat) (u : SG) : Option (Int32 × SG) := if (zI u (a0 - 6) 8) = (1 : Int32) then (hgX5_readValue_16 N    a0 (1 : Int32) u)
  else (hgX5_readValue_16 N    a0 (0 : Int32) u)
set_option maxRecDepth 20000 in
theorem eX5_readValue (N : Nat)  (a0 : Nat) (u : SG) (h_u : HK [(some a0, 6)] u) : fX5_readValue N  a0 u = hX5_readValue N  a0 u := by
  unfold fX5_readValue hX5_readValue
  refine eq_g (show zK u a0 = 6 from (h_u.g 0 rfl)) ?_
  refine eq_bR (show zR u a0 0 = some (a0 - 6) from lyR_6_0 h_u.1 (h_u.g 0 rfl)) ?_
  refine eq_g (show zK u (a0 - 6) = 10 from (lyK_6_0 h_u.1 (h_u.g 0 rfl))) ?_
  refine eq_if ?_ ?_
  · exact egX5_readValue_16 N    a0 (1 : Int32) u (hkc (show zK u a0 = 6 from (h_u.g 0 rfl)) (hk0 h_u.1))
  · exact egX5_readValue_16 N    a0 (0 : Int32) u (hkc (show zK u a0 = 6 from (h_u.g 0 rfl)) (hk0 h_u.1))
set_option maxRecDepth 20000 in
def hgX5_readSum_72 (N : Nat)  (rc8 : Nat → Int32 → Int32 → Int32 → SG → Option (Int32 × SG)) (x0 : Nat) (x1 : Int32) (x2 : Int32) (x3 : Int32) (u : SG) : Option (Int32 × SG) := cl (hX9_step N (x0 - 6) u) fun r2 u3 => (rc8 x0 x1 x2 (x3 + (1 : Int32)) u3)
set_option maxRecDepth 20000 in
theorem egX5_readSum_72 (N : Nat)  (rec8 : Nat → Int32 → Int32 → Int32 → SG → Option (Int32 × SG)) (rc8 : Nat → Int32 → Int32 → Int32 → SG → Option (Int32 × SG)) (hrc8 : ∀ (x0 : Nat) (x1 : Int32) (x2 : Int32) (x3 : Int32) (u : SG), HK [(some x0, 6)] u → rec8 x0 x1 x2 x3 u = rc8 x0 x1 x2 x3 u) (x0 : Nat) (x1 : Int32) (x2 : Int32) (x3 : Int32) (u : SG) (h_u : HK [(some x0, 6)] u) : gX5_readSum_72 N  rec8 x0 x1 x2 x3 u = hgX5_readSum_72 N  rc8 x0 x1 x2 x3 u := by
  unfold gX5_readSum_72 hgX5_readSum_72
  refine eq_g (show zK u x0 = 6 from (h_u.g 0 rfl)) ?_
  refine eq_bR (show zR u x0 0 = some (x0 - 6) from lyR_6_0 h_u.1 (h_u.g 0 rfl)) ?_
  refine eq_g (show zK u (x0 - 6) = 10 from (lyK_6_0 h_u.1 (h_u.g 0 rfl))) ?_
  refine eq_cH (eX9_step N (x0 - 6) u (hkc (show zK u (x0 - 6) = 10 from (lyK_6_0 h_u.1 (h_u.g 0 rfl))) (hk0 h_u.1))) (fun r2 u3 e9 => h_u.fr (fr_X9_step (P := PT) N (x0 - 6) u clPT trivial _ _ e9).1) (fun r2 u3 h_u3 => ?_)
  exact hrc8 x0 x1 x2 (x3 + (1 : Int32)) u3 (hkc (show zK u3 x0 = 6 from (h_u3.g 0 rfl)) (hk0 h_u3.1))
set_option maxRecDepth 20000 in
def hgX5_readSum_8 (N : Nat)   : Nat → Nat → Int32 → Int32 → Int32 → SG → Option (Int32 × SG)
  | 0, _, _, _, _, _ => none
  | n + 1, x0, x1, x2, x3, u => if (400 : Int32) ≤ x3 then (cl (hX9_refuse N (x0 - 6) (3 : Int32) u) fun r2 u3 => (if r2 = 0 ∨ r2 = 1 then (some (r2, u3))
  else (none)))
  else (cl (hX5_readValue N x0 u) fun r4 u5 => (if r4 = 0 then (some ((0 : Int32), u5))
  else (cl (hX5_emit N x0 x2 u5) fun r6 u7 => (cl (fX5_factorOf N (zI u7 (x0 - 6) 11) u7) fun r9 u10 => (if r9 = (-99 : Int32) then (cl (hX5_emit N x0 x1 u10) fun r11 u12 => (cl (fX5_summandOf N (zI u12 (x0 - 6) 11) u12) fun r14 u15 => (if r14 = (-99 : Int32) then (some ((1 : Int32), u15))
  else (hgX5_readSum_72 N  (hgX5_readSum_8 N   n)  x0 r14 r9 x3 u15))))
  else (hgX5_readSum_72 N  (hgX5_readSum_8 N   n)  x0 x1 r9 x3 u10))))))
set_option maxRecDepth 20000 in
theorem egX5_readSum_8 (N : Nat)   : ∀ (n : Nat) (x0 : Nat) (x1 : Int32) (x2 : Int32) (x3 : Int32) (u : SG), HK [(some x0, 6)] u → gX5_readSum_8 N   n x0 x1 x2 x3 u = hgX5_readSum_8 N   n x0 x1 x2 x3 u := by
  intro n
  induction n with
  | zero => intros; rfl
  | succ n ih =>
    intro x0 x1 x2 x3 u h_u
    have hrc8 := ih
    rw [gX5_readSum_8, hgX5_readSum_8]
    refine eq_if ?_ ?_
    · refine eq_g (show zK u x0 = 6 from (h_u.g 0 rfl)) ?_
      refine eq_bR (show zR u x0 0 = some (x0 - 6) from lyR_6_0 h_u.1 (h_u.g 0 rfl)) ?_
      refine eq_g (show zK u (x0 - 6) = 10 from (lyK_6_0 h_u.1 (h_u.g 0 rfl))) ?_
      refine eq_cH (eX9_refuse N (x0 - 6) (3 : Int32) u (hkc (show zK u (x0 - 6) = 10 from (lyK_6_0 h_u.1 (h_u.g 0 rfl))) (hk0 h_u.1))) (fun r2 u3 e9 => h_u.fr (fr_X9_refuse (P := PT) N (x0 - 6) (3 : Int32) u clPT trivial _ _ e9).1) (fun r2 u3 h_u3 => ?_)
      refine eq_if ?_ ?_
      · rfl
      · rfl
    · refine eq_g (show zK u x0 = 6 from (h_u.g 0 rfl)) ?_
      refine eq_cH (eX5_readValue N x0 u (hkc (show zK u x0 = 6 from (h_u.g 0 rfl)) (hk0 h_u.1))) (fun r4 u5 e9 => h_u.fr (fr_X5_readValue (P := PT) N x0 u clPT trivial _ _ e9).1) (fun r4 u5 h_u5 => ?_)
      refine eq_if ?_ ?_
      · rfl
      · refine eq_g (show zK u5 x0 = 6 from (h_u5.g 0 rfl)) ?_
        refine eq_cH (eX5_emit N x0 x2 u5 (hkc (show zK u5 x0 = 6 from (h_u5.g 0 rfl)) (hk0 h_u5.1))) (fun r6 u7 e9 => h_u5.fr (fr_X5_emit (P := PT) N x0 x2 u5 clPT trivial _ _ e9).1) (fun r6 u7 h_u7 => ?_)
        refine eq_g (show zK u7 x0 = 6 from (h_u7.g 0 rfl)) ?_
        refine eq_bR (show zR u7 x0 0 = some (x0 - 6) from lyR_6_0 h_u7.1 (h_u7.g 0 rfl)) ?_
        refine eq_g (show zK u7 (x0 - 6) = 10 from (lyK_6_0 h_u7.1 (h_u7.g 0 rfl))) ?_
        refine eq_cH rfl (fun r9 u10 e9 => h_u7.fr (fr_X5_factorOf (P := PT) N (zI u7 (x0 - 6) 11) u7 clPT _ _ e9).1) (fun r9 u10 h_u10 => ?_)
        refine eq_if ?_ ?_
        · refine eq_g (show zK u10 x0 = 6 from (h_u10.g 0 rfl)) ?_
          refine eq_cH (eX5_emit N x0 x1 u10 (hkc (show zK u10 x0 = 6 from (h_u10.g 0 rfl)) (hk0 h_u10.1))) (fun r11 u12 e9 => h_u10.fr (fr_X5_emit (P := PT) N x0 x1 u10 clPT trivial _ _ e9).1) (fun r11 u12 h_u12 => ?_)
          refine eq_g (show zK u12 x0 = 6 from (h_u12.g 0 rfl)) ?_
          refine eq_bR (show zR u12 x0 0 = some (x0 - 6) from lyR_6_0 h_u12.1 (h_u12.g 0 rfl)) ?_
          refine eq_g (show zK u12 (x0 - 6) = 10 from (lyK_6_0 h_u12.1 (h_u12.g 0 rfl))) ?_
          refine eq_cH rfl (fun r14 u15 e9 => h_u12.fr (fr_X5_summandOf (P := PT) N (zI u12 (x0 - 6) 11) u12 clPT _ _ e9).1) (fun r14 u15 h_u15 => ?_)
          refine eq_if ?_ ?_
          · rfl
          · exact egX5_readSum_72 N  _ _ hrc8  x0 r14 r9 x3 u15 (hkc (show zK u15 x0 = 6 from (h_u15.g 0 rfl)) (hk0 h_u15.1))
        · exact egX5_readSum_72 N  _ _ hrc8  x0 x1 r9 x3 u10 (hkc (show zK u10 x0 = 6 from (h_u10.g 0 rfl)) (hk0 h_u10.1))
set_option maxRecDepth 20000 in
def hX5_readSum (N : Nat)  (a0 : Nat) (u : SG) : Option (Int32 × SG) := hgX5_readSum_8 N   N a0 (-99 : Int32) (-99 : Int32) (0 : Int32) u
set_option maxRecDepth 20000 in
theorem eX5_readSum (N : Nat)  (a0 : Nat) (u : SG) (h_u : HK [(some a0, 6)] u) : fX5_readSum N  a0 u = hX5_readSum N  a0 u := by
  unfold fX5_readSum hX5_readSum
  exact egX5_readSum_8 N   N a0 (-99 : Int32) (-99 : Int32) (0 : Int32) u (hkc (show zK u a0 = 6 from (h_u.g 0 rfl)) (hk0 h_u.1))
set_option maxRecDepth 20000 in
def hX9_takeSign (N : Nat)  (a0 : Nat) (p1 : Int32) (u : SG) : Option (Int32 × SG) := if (zI u a0 11) = p1 then (cl (hX9_step N a0 u) fun r1 u2 => (some ((1 : Int32), u2)))
  else (cl (hX9_refuse N a0 (0 : Int32) u) fun r3 u4 => (if r3 = 0 ∨ r3 = 1 then (some (r3, u4))
  else (none)))
set_option maxRecDepth 20000 in
theorem eX9_takeSign (N : Nat)  (a0 : Nat) (p1 : Int32) (u : SG) (h_u : HK [(some a0, 10)] u) : fX9_takeSign N  a0 p1 u = hX9_takeSign N  a0 p1 u := by
  unfold fX9_takeSign hX9_takeSign
  refine eq_g (show zK u a0 = 10 from (h_u.g 0 rfl)) ?_
  refine eq_if ?_ ?_
  · refine eq_g (show zK u a0 = 10 from (h_u.g 0 rfl)) ?_
    refine eq_cH (eX9_step N a0 u (hkc (show zK u a0 = 10 from (h_u.g 0 rfl)) (hk0 h_u.1))) (fun r1 u2 e9 => h_u.fr (fr_X9_step (P := PT) N a0 u clPT trivial _ _ e9).1) (fun r1 u2 h_u2 => ?_)
    rfl
  · refine eq_g (show zK u a0 = 10 from (h_u.g 0 rfl)) ?_
    refine eq_cH (eX9_refuse N a0 (0 : Int32) u (hkc (show zK u a0 = 10 from (h_u.g 0 rfl)) (hk0 h_u.1))) (fun r3 u4 e9 => h_u.fr (fr_X9_refuse (P := PT) N a0 (0 : Int32) u clPT trivial _ _ e9).1) (fun r3 u4 h_u4 => ?_)
    refine eq_if ?_ ?_
    · rfl
    · rfl
set_option maxRecDepth 20000 in
def hgX5_readFact_49 (N : Nat) (ccalreadFact : Nat → Int32 → SG → Option (Int32 × SG)) (ccalreadTest : Nat → Int32 → SG → Option (Int32 × SG))  (x0 : Nat) (x1 : Int32) (u : SG) : Option (Int32 × SG) := if (zI u (x0 - 6) 10) = (21 : Int32) then (cl (hX9_step N (x0 - 6) u) fun r31 u32 => (cl (ccalreadFact x0 (x1 + (1 : Int32)) u32) fun r33 u34 => (if r33 = 0 then (some ((0 : Int32), u34))
  else (cl (hX5_emit N x0 (-32 : Int32) u34) fun r35 u36 => (if r35 = 0 then (some ((0 : Int32), u36))
  else (some ((1 : Int32), u36)))))))
  else (if (zI u (x0 - 6) 11) = (91 : Int32) then (cl (hX9_step N (x0 - 6) u) fun r23 u24 => (cl (ccalreadTest x0 (x1 + (1 : Int32)) u24) fun r25 u26 => (if r25 = 0 then (some ((0 : Int32), u26))
  else (cl (hX9_takeSign N (x0 - 6) (93 : Int32) u26) fun r28 u29 => (if r28 = 0 then (some ((0 : Int32), u29))
  else (some ((1 : Int32), u29)))))))
  else (cl (hX5_readSum N x0 u) fun r3 u4 => (if r3 = 0 then (some ((0 : Int32), u4))
  else (cl (fX5_comparisonOf N (zI u4 (x0 - 6) 11) u4) fun r6 u7 => (if r6 = (-99 : Int32) then (cl (hX9_refuse N (x0 - 6) (0 : Int32) u7) fun r20 u21 => (if r20 = 0 ∨ r20 = 1 then (some (r20, u21))
  else (none)))
  else (if (zI u7 x0 3) < (60 : Int32) then (bs (sI u7 x0 3 ((zI u7 x0 3) + (1 : Int32))) fun u8 => (cl (hX9_step N (x0 - 6) u8) fun r10 u11 => (cl (hX5_readSum N x0 u11) fun r12 u13 => (if r12 = 0 then (some ((0 : Int32), u13))
  else (cl (hX5_emit N x0 r6 u13) fun r14 u15 => (if r14 = 0 then (some ((0 : Int32), u15))
  else (some ((1 : Int32), u15))))))))
  else (cl (hX9_refuse N (x0 - 6) (3 : Int32) u7) fun r17 u18 => (if r17 = 0 ∨ r17 = 1 then (some (r17, u18))
  else (none)))))))))
set_option maxRecDepth 20000 in
theorem egX5_readFact_49 (N : Nat) (calreadFact : Nat → Int32 → SG → Option (Int32 × SG)) (ccalreadFact : Nat → Int32 → SG → Option (Int32 × SG)) (hcalreadFact : ∀ a p u, HK [(some a, 6)] u → calreadFact a p u = ccalreadFact a p u) (hfcalreadFact : ∀ a p u r w, calreadFact a p u = some (r, w) → Fr PT u w) (calreadTest : Nat → Int32 → SG → Option (Int32 × SG)) (ccalreadTest : Nat → Int32 → SG → Option (Int32 × SG)) (hcalreadTest : ∀ a p u, HK [(some a, 6)] u → calreadTest a p u = ccalreadTest a p u) (hfcalreadTest : ∀ a p u r w, calreadTest a p u = some (r, w) → Fr PT u w)  (x0 : Nat) (x1 : Int32) (u : SG) (h_u : HK [(some x0, 6)] u) : gX5_readFact_49 N calreadFact calreadTest  x0 x1 u = hgX5_readFact_49 N ccalreadFact ccalreadTest  x0 x1 u := by
  unfold gX5_readFact_49 hgX5_readFact_49
  refine eq_g (show zK u x0 = 6 from (h_u.g 0 rfl)) ?_
  refine eq_bR (show zR u x0 0 = some (x0 - 6) from lyR_6_0 h_u.1 (h_u.g 0 rfl)) ?_
  refine eq_g (show zK u (x0 - 6) = 10 from (lyK_6_0 h_u.1 (h_u.g 0 rfl))) ?_
  refine eq_if ?_ ?_
  · refine eq_g (show zK u x0 = 6 from (h_u.g 0 rfl)) ?_
    refine eq_bR (show zR u x0 0 = some (x0 - 6) from lyR_6_0 h_u.1 (h_u.g 0 rfl)) ?_
    refine eq_g (show zK u (x0 - 6) = 10 from (lyK_6_0 h_u.1 (h_u.g 0 rfl))) ?_
    refine eq_cH (eX9_step N (x0 - 6) u (hkc (show zK u (x0 - 6) = 10 from (lyK_6_0 h_u.1 (h_u.g 0 rfl))) (hk0 h_u.1))) (fun r31 u32 e9 => h_u.fr (fr_X9_step (P := PT) N (x0 - 6) u clPT trivial _ _ e9).1) (fun r31 u32 h_u32 => ?_)
    refine eq_g (show zK u32 x0 = 6 from (h_u32.g 0 rfl)) ?_
    refine eq_cH (hcalreadFact x0 (x1 + (1 : Int32)) u32 (hkc (show zK u32 x0 = 6 from (h_u32.g 0 rfl)) (hk0 h_u32.1))) (fun r33 u34 e9 => h_u32.fr (hfcalreadFact x0 (x1 + (1 : Int32)) u32 _ _ e9)) (fun r33 u34 h_u34 => ?_)
    refine eq_if ?_ ?_
    · rfl
    · refine eq_g (show zK u34 x0 = 6 from (h_u34.g 0 rfl)) ?_
      refine eq_cH (eX5_emit N x0 (-32 : Int32) u34 (hkc (show zK u34 x0 = 6 from (h_u34.g 0 rfl)) (hk0 h_u34.1))) (fun r35 u36 e9 => h_u34.fr (fr_X5_emit (P := PT) N x0 (-32 : Int32) u34 clPT trivial _ _ e9).1) (fun r35 u36 h_u36 => ?_)
      refine eq_if ?_ ?_
      · rfl
      · rfl
  · refine eq_g (show zK u x0 = 6 from (h_u.g 0 rfl)) ?_
    refine eq_bR (show zR u x0 0 = some (x0 - 6) from lyR_6_0 h_u.1 (h_u.g 0 rfl)) ?_
    refine eq_g (show zK u (x0 - 6) = 10 from (lyK_6_0 h_u.1 (h_u.g 0 rfl))) ?_
    refine eq_if ?_ ?_
    · refine eq_g (show zK u x0 = 6 from (h_u.g 0 rfl)) ?_
      refine eq_bR (show zR u x0 0 = some (x0 - 6) from lyR_6_0 h_u.1 (h_u.g 0 rfl)) ?_
      refine eq_g (show zK u (x0 - 6) = 10 from (lyK_6_0 h_u.1 (h_u.g 0 rfl))) ?_
      refine eq_cH (eX9_step N (x0 - 6) u (hkc (show zK u (x0 - 6) = 10 from (lyK_6_0 h_u.1 (h_u.g 0 rfl))) (hk0 h_u.1))) (fun r23 u24 e9 => h_u.fr (fr_X9_step (P := PT) N (x0 - 6) u clPT trivial _ _ e9).1) (fun r23 u24 h_u24 => ?_)
      refine eq_g (show zK u24 x0 = 6 from (h_u24.g 0 rfl)) ?_
      refine eq_cH (hcalreadTest x0 (x1 + (1 : Int32)) u24 (hkc (show zK u24 x0 = 6 from (h_u24.g 0 rfl)) (hk0 h_u24.1))) (fun r25 u26 e9 => h_u24.fr (hfcalreadTest x0 (x1 + (1 : Int32)) u24 _ _ e9)) (fun r25 u26 h_u26 => ?_)
      refine eq_if ?_ ?_
      · rfl
      · refine eq_g (show zK u26 x0 = 6 from (h_u26.g 0 rfl)) ?_
        refine eq_bR (show zR u26 x0 0 = some (x0 - 6) from lyR_6_0 h_u26.1 (h_u26.g 0 rfl)) ?_
        refine eq_g (show zK u26 (x0 - 6) = 10 from (lyK_6_0 h_u26.1 (h_u26.g 0 rfl))) ?_
        refine eq_cH (eX9_takeSign N (x0 - 6) (93 : Int32) u26 (hkc (show zK u26 (x0 - 6) = 10 from (lyK_6_0 h_u26.1 (h_u26.g 0 rfl))) (hk0 h_u26.1))) (fun r28 u29 e9 => h_u26.fr (fr_X9_takeSign (P := PT) N (x0 - 6) (93 : Int32) u26 clPT trivial _ _ e9).1) (fun r28 u29 h_u29 => ?_)
        refine eq_if ?_ ?_
        · rfl
        · rfl
    · refine eq_g (show zK u x0 = 6 from (h_u.g 0 rfl)) ?_
      refine eq_cH (eX5_readSum N x0 u (hkc (show zK u x0 = 6 from (h_u.g 0 rfl)) (hk0 h_u.1))) (fun r3 u4 e9 => h_u.fr (fr_X5_readSum (P := PT) N x0 u clPT trivial _ _ e9).1) (fun r3 u4 h_u4 => ?_)
      refine eq_if ?_ ?_
      · rfl
      · refine eq_g (show zK u4 x0 = 6 from (h_u4.g 0 rfl)) ?_
        refine eq_bR (show zR u4 x0 0 = some (x0 - 6) from lyR_6_0 h_u4.1 (h_u4.g 0 rfl)) ?_
        refine eq_g (show zK u4 (x0 - 6) = 10 from (lyK_6_0 h_u4.1 (h_u4.g 0 rfl))) ?_
        refine eq_cH rfl (fun r6 u7 e9 => h_u4.fr (fr_X5_comparisonOf (P := PT) N (zI u4 (x0 - 6) 11) u4 clPT _ _ e9).1) (fun r6 u7 h_u7 => ?_)
        refine eq_if ?_ ?_
        · refine eq_g (show zK u7 x0 = 6 from (h_u7.g 0 rfl)) ?_
          refine eq_bR (show zR u7 x0 0 = some (x0 - 6) from lyR_6_0 h_u7.1 (h_u7.g 0 rfl)) ?_
          refine eq_g (show zK u7 (x0 - 6) = 10 from (lyK_6_0 h_u7.1 (h_u7.g 0 rfl))) ?_
          refine eq_cH (eX9_refuse N (x0 - 6) (0 : Int32) u7 (hkc (show zK u7 (x0 - 6) = 10 from (lyK_6_0 h_u7.1 (h_u7.g 0 rfl))) (hk0 h_u7.1))) (fun r20 u21 e9 => h_u7.fr (fr_X9_refuse (P := PT) N (x0 - 6) (0 : Int32) u7 clPT trivial _ _ e9).1) (fun r20 u21 h_u21 => ?_)
          refine eq_if ?_ ?_
          · rfl
          · rfl
        · refine eq_g (show zK u7 x0 = 6 from (h_u7.g 0 rfl)) ?_
          refine eq_if ?_ ?_
          · refine eq_g (show zK u7 x0 = 6 from (h_u7.g 0 rfl)) ?_
            refine eq_g (show zK u7 x0 = 6 from (h_u7.g 0 rfl)) ?_
            refine eq_sH (h_u7.fr (P := PT) (Fr.sIr trivial)) (fun u8 h_u8 => ?_)
            refine eq_g (show zK u8 x0 = 6 from (h_u8.g 0 rfl)) ?_
            refine eq_bR (show zR u8 x0 0 = some (x0 - 6) from lyR_6_0 h_u8.1 (h_u8.g 0 rfl)) ?_
            refine eq_g (show zK u8 (x0 - 6) = 10 from (lyK_6_0 h_u8.1 (h_u8.g 0 rfl))) ?_
            refine eq_cH (eX9_step N (x0 - 6) u8 (hkc (show zK u8 (x0 - 6) = 10 from (lyK_6_0 h_u8.1 (h_u8.g 0 rfl))) (hk0 h_u8.1))) (fun r10 u11 e9 => h_u8.fr (fr_X9_step (P := PT) N (x0 - 6) u8 clPT trivial _ _ e9).1) (fun r10 u11 h_u11 => ?_)
            refine eq_g (show zK u11 x0 = 6 from (h_u11.g 0 rfl)) ?_
            refine eq_cH (eX5_readSum N x0 u11 (hkc (show zK u11 x0 = 6 from (h_u11.g 0 rfl)) (hk0 h_u11.1))) (fun r12 u13 e9 => h_u11.fr (fr_X5_readSum (P := PT) N x0 u11 clPT trivial _ _ e9).1) (fun r12 u13 h_u13 => ?_)
            refine eq_if ?_ ?_
            · rfl
            · refine eq_g (show zK u13 x0 = 6 from (h_u13.g 0 rfl)) ?_
              refine eq_cH (eX5_emit N x0 r6 u13 (hkc (show zK u13 x0 = 6 from (h_u13.g 0 rfl)) (hk0 h_u13.1))) (fun r14 u15 e9 => h_u13.fr (fr_X5_emit (P := PT) N x0 r6 u13 clPT trivial _ _ e9).1) (fun r14 u15 h_u15 => ?_)
              refine eq_if ?_ ?_
              · rfl
              · rfl
          · refine eq_g (show zK u7 x0 = 6 from (h_u7.g 0 rfl)) ?_
            refine eq_bR (show zR u7 x0 0 = some (x0 - 6) from lyR_6_0 h_u7.1 (h_u7.g 0 rfl)) ?_
            refine eq_g (show zK u7 (x0 - 6) = 10 from (lyK_6_0 h_u7.1 (h_u7.g 0 rfl))) ?_
            refine eq_cH (eX9_refuse N (x0 - 6) (3 : Int32) u7 (hkc (show zK u7 (x0 - 6) = 10 from (lyK_6_0 h_u7.1 (h_u7.g 0 rfl))) (hk0 h_u7.1))) (fun r17 u18 e9 => h_u7.fr (fr_X9_refuse (P := PT) N (x0 - 6) (3 : Int32) u7 clPT trivial _ _ e9).1) (fun r17 u18 h_u18 => ?_)
            refine eq_if ?_ ?_
            · rfl
            · rfl
set_option maxRecDepth 20000 in
def hgX5_readFact_29 (N : Nat) (ccalreadFact : Nat → Int32 → SG → Option (Int32 × SG)) (ccalreadTest : Nat → Int32 → SG → Option (Int32 × SG))  (x0 : Nat) (x1 : Int32) (s0 : Int32) (u : SG) : Option (Int32 × SG) := if s0 = 0 then (hgX5_readFact_49 N ccalreadFact ccalreadTest   x0 x1 u)
  else (if x1 < (10 : Int32) then (hgX5_readFact_49 N ccalreadFact ccalreadTest   x0 x1 u)
  else (cl (hX9_refuse N (x0 - 6) (2 : Int32) u) fun r2 u3 => (if r2 = 0 ∨ r2 = 1 then (some (r2, u3))
  else (none))))
set_option maxRecDepth 20000 in
theorem egX5_readFact_29 (N : Nat) (calreadFact : Nat → Int32 → SG → Option (Int32 × SG)) (ccalreadFact : Nat → Int32 → SG → Option (Int32 × SG)) (hcalreadFact : ∀ a p u, HK [(some a, 6)] u → calreadFact a p u = ccalreadFact a p u) (hfcalreadFact : ∀ a p u r w, calreadFact a p u = some (r, w) → Fr PT u w) (calreadTest : Nat → Int32 → SG → Option (Int32 × SG)) (ccalreadTest : Nat → Int32 → SG → Option (Int32 × SG)) (hcalreadTest : ∀ a p u, HK [(some a, 6)] u → calreadTest a p u = ccalreadTest a p u) (hfcalreadTest : ∀ a p u r w, calreadTest a p u = some (r, w) → Fr PT u w)  (x0 : Nat) (x1 : Int32) (s0 : Int32) (u : SG) (h_u : HK [(some x0, 6)] u) : gX5_readFact_29 N calreadFact calreadTest  x0 x1 s0 u = hgX5_readFact_29 N ccalreadFact ccalreadTest  x0 x1 s0 u := by
  unfold gX5_readFact_29 hgX5_readFact_29
  refine eq_if ?_ ?_
  · exact egX5_readFact_49 N _ _ hcalreadFact hfcalreadFact _ _ hcalreadTest hfcalreadTest   x0 x1 u (hkc (show zK u x0 = 6 from (h_u.g 0 rfl)) (hk0 h_u.1))
  · refine eq_if ?_ ?_
    · exact egX5_readFact_49 N _ _ hcalreadFact hfcalreadFact _ _ hcalreadTest hfcalreadTest   x0 x1 u (hkc (show zK u x0 = 6 from (h_u.g 0 rfl)) (hk0 h_u.1))
    · refine eq_g (show zK u x0 = 6 from (h_u.g 0 rfl)) ?_
      refine eq_bR (show zR u x0 0 = some (x0 - 6) from lyR_6_0 h_u.1 (h_u.g 0 rfl)) ?_
      refine eq_g (show zK u (x0 - 6) = 10 from (lyK_6_0 h_u.1 (h_u.g 0 rfl))) ?_
      refine eq_cH (eX9_refuse N (x0 - 6) (2 : Int32) u (hkc (show zK u (x0 - 6) = 10 from (lyK_6_0 h_u.1 (h_u.g 0 rfl))) (hk0 h_u.1))) (fun r2 u3 e9 => h_u.fr (fr_X9_refuse (P := PT) N (x0 - 6) (2 : Int32) u clPT trivial _ _ e9).1) (fun r2 u3 h_u3 => ?_)
      refine eq_if ?_ ?_
      · rfl
      · rfl
set_option maxRecDepth 20000 in
def hgX5_readFact_24 (N : Nat) (ccalreadFact : Nat → Int32 → SG → Option (Int32 × SG)) (ccalreadTest : Nat → Int32 → SG → Option (Int32 × SG))  (x0 : Nat) (x1 : Int32) (u : SG) : Option (Int32 × SG) := hgX5_readFact_29 N ccalreadFact ccalreadTest   x0 x1 (1 : Int32) u
set_option maxRecDepth 20000 in
theorem egX5_readFact_24 (N : Nat) (calreadFact : Nat → Int32 → SG → Option (Int32 × SG)) (ccalreadFact : Nat → Int32 → SG → Option (Int32 × SG)) (hcalreadFact : ∀ a p u, HK [(some a, 6)] u → calreadFact a p u = ccalreadFact a p u) (hfcalreadFact : ∀ a p u r w, calreadFact a p u = some (r, w) → Fr PT u w) (calreadTest : Nat → Int32 → SG → Option (Int32 × SG)) (ccalreadTest : Nat → Int32 → SG → Option (Int32 × SG)) (hcalreadTest : ∀ a p u, HK [(some a, 6)] u → calreadTest a p u = ccalreadTest a p u) (hfcalreadTest : ∀ a p u r w, calreadTest a p u = some (r, w) → Fr PT u w)  (x0 : Nat) (x1 : Int32) (u : SG) (h_u : HK [(some x0, 6)] u) : gX5_readFact_24 N calreadFact calreadTest  x0 x1 u = hgX5_readFact_24 N ccalreadFact ccalreadTest  x0 x1 u := by
  unfold gX5_readFact_24 hgX5_readFact_24
  exact egX5_readFact_29 N _ _ hcalreadFact hfcalreadFact _ _ hcalreadTest hfcalreadTest   x0 x1 (1 : Int32) u (hkc (show zK u x0 = 6 from (h_u.g 0 rfl)) (hk0 h_u.1))
set_option maxRecDepth 20000 in
def hbX5_readFact (N : Nat) (ccalreadFact : Nat → Int32 → SG → Option (Int32 × SG)) (ccalreadTest : Nat → Int32 → SG → Option (Int32 × SG)) (a0 : Nat) (p1 : Int32) (u : SG) : Option (Int32 × SG) := if (zI u (a0 - 6) 10) = (21 : Int32) then (hgX5_readFact_24 N ccalreadFact ccalreadTest   a0 p1 u)
  else (if (zI u (a0 - 6) 11) = (91 : Int32) then (hgX5_readFact_24 N ccalreadFact ccalreadTest   a0 p1 u)
  else (hgX5_readFact_29 N ccalreadFact ccalreadTest   a0 p1 (0 : Int32) u))
set_option maxRecDepth 20000 in
theorem ebX5_readFact (N : Nat) (calreadFact : Nat → Int32 → SG → Option (Int32 × SG)) (ccalreadFact : Nat → Int32 → SG → Option (Int32 × SG)) (hcalreadFact : ∀ a p u, HK [(some a, 6)] u → calreadFact a p u = ccalreadFact a p u) (hfcalreadFact : ∀ a p u r w, calreadFact a p u = some (r, w) → Fr PT u w) (calreadTest : Nat → Int32 → SG → Option (Int32 × SG)) (ccalreadTest : Nat → Int32 → SG → Option (Int32 × SG)) (hcalreadTest : ∀ a p u, HK [(some a, 6)] u → calreadTest a p u = ccalreadTest a p u) (hfcalreadTest : ∀ a p u r w, calreadTest a p u = some (r, w) → Fr PT u w) (a0 : Nat) (p1 : Int32) (u : SG) (h_u : HK [(some a0, 6)] u) : bX5_readFact N calreadFact calreadTest a0 p1 u = hbX5_readFact N ccalreadFact ccalreadTest a0 p1 u := by
  unfold bX5_readFact hbX5_readFact
  refine eq_g (show zK u a0 = 6 from (h_u.g 0 rfl)) ?_
  refine eq_bR (show zR u a0 0 = some (a0 - 6) from lyR_6_0 h_u.1 (h_u.g 0 rfl)) ?_
  refine eq_g (show zK u (a0 - 6) = 10 from (lyK_6_0 h_u.1 (h_u.g 0 rfl))) ?_
  refine eq_if ?_ ?_
  · exact egX5_readFact_24 N _ _ hcalreadFact hfcalreadFact _ _ hcalreadTest hfcalreadTest   a0 p1 u (hkc (show zK u a0 = 6 from (h_u.g 0 rfl)) (hk0 h_u.1))
  · refine eq_g (show zK u a0 = 6 from (h_u.g 0 rfl)) ?_
    refine eq_bR (show zR u a0 0 = some (a0 - 6) from lyR_6_0 h_u.1 (h_u.g 0 rfl)) ?_
    refine eq_g (show zK u (a0 - 6) = 10 from (lyK_6_0 h_u.1 (h_u.g 0 rfl))) ?_
    refine eq_if ?_ ?_
    · exact egX5_readFact_24 N _ _ hcalreadFact hfcalreadFact _ _ hcalreadTest hfcalreadTest   a0 p1 u (hkc (show zK u a0 = 6 from (h_u.g 0 rfl)) (hk0 h_u.1))
    · exact egX5_readFact_29 N _ _ hcalreadFact hfcalreadFact _ _ hcalreadTest hfcalreadTest   a0 p1 (0 : Int32) u (hkc (show zK u a0 = 6 from (h_u.g 0 rfl)) (hk0 h_u.1))
set_option maxRecDepth 20000 in
def hgX5_readTest_93 (N : Nat) (ccalreadFact : Nat → Int32 → SG → Option (Int32 × SG)) (rc9 : Nat → Int32 → Int32 → Int32 → Int32 → SG → Option (Int32 × SG)) (x0 : Nat) (x1 : Int32) (x2 : Int32) (x3 : Int32) (x4 : Int32) (u : SG) : Option (Int32 × SG) := cl (hX9_step N (x0 - 6) u) fun r2 u3 => (rc9 x0 x1 x2 x3 (x4 + (1 : Int32)) u3)
set_option maxRecDepth 20000 in
theorem egX5_readTest_93 (N : Nat) (calreadFact : Nat → Int32 → SG → Option (Int32 × SG)) (ccalreadFact : Nat → Int32 → SG → Option (Int32 × SG)) (hcalreadFact : ∀ a p u, HK [(some a, 6)] u → calreadFact a p u = ccalreadFact a p u) (hfcalreadFact : ∀ a p u r w, calreadFact a p u = some (r, w) → Fr PT u w) (rec9 : Nat → Int32 → Int32 → Int32 → Int32 → SG → Option (Int32 × SG)) (rc9 : Nat → Int32 → Int32 → Int32 → Int32 → SG → Option (Int32 × SG)) (hrc9 : ∀ (x0 : Nat) (x1 : Int32) (x2 : Int32) (x3 : Int32) (x4 : Int32) (u : SG), HK [(some x0, 6)] u → rec9 x0 x1 x2 x3 x4 u = rc9 x0 x1 x2 x3 x4 u) (x0 : Nat) (x1 : Int32) (x2 : Int32) (x3 : Int32) (x4 : Int32) (u : SG) (h_u : HK [(some x0, 6)] u) : gX5_readTest_93 N calreadFact rec9 x0 x1 x2 x3 x4 u = hgX5_readTest_93 N ccalreadFact rc9 x0 x1 x2 x3 x4 u := by
  unfold gX5_readTest_93 hgX5_readTest_93
  refine eq_g (show zK u x0 = 6 from (h_u.g 0 rfl)) ?_
  refine eq_bR (show zR u x0 0 = some (x0 - 6) from lyR_6_0 h_u.1 (h_u.g 0 rfl)) ?_
  refine eq_g (show zK u (x0 - 6) = 10 from (lyK_6_0 h_u.1 (h_u.g 0 rfl))) ?_
  refine eq_cH (eX9_step N (x0 - 6) u (hkc (show zK u (x0 - 6) = 10 from (lyK_6_0 h_u.1 (h_u.g 0 rfl))) (hk0 h_u.1))) (fun r2 u3 e9 => h_u.fr (fr_X9_step (P := PT) N (x0 - 6) u clPT trivial _ _ e9).1) (fun r2 u3 h_u3 => ?_)
  exact hrc9 x0 x1 x2 x3 (x4 + (1 : Int32)) u3 (hkc (show zK u3 x0 = 6 from (h_u3.g 0 rfl)) (hk0 h_u3.1))
set_option maxRecDepth 20000 in
def hgX5_readTest_84 (N : Nat) (ccalreadFact : Nat → Int32 → SG → Option (Int32 × SG)) (rc9 : Nat → Int32 → Int32 → Int32 → Int32 → SG → Option (Int32 × SG)) (x0 : Nat) (x1 : Int32) (x3 : Int32) (x4 : Int32) (s0 : Int32) (u : SG) : Option (Int32 × SG) := if s0 = (-99 : Int32) then (some ((1 : Int32), u))
  else (hgX5_readTest_93 N ccalreadFact rc9  x0 x1 s0 x3 x4 u)
set_option maxRecDepth 20000 in
theorem egX5_readTest_84 (N : Nat) (calreadFact : Nat → Int32 → SG → Option (Int32 × SG)) (ccalreadFact : Nat → Int32 → SG → Option (Int32 × SG)) (hcalreadFact : ∀ a p u, HK [(some a, 6)] u → calreadFact a p u = ccalreadFact a p u) (hfcalreadFact : ∀ a p u r w, calreadFact a p u = some (r, w) → Fr PT u w) (rec9 : Nat → Int32 → Int32 → Int32 → Int32 → SG → Option (Int32 × SG)) (rc9 : Nat → Int32 → Int32 → Int32 → Int32 → SG → Option (Int32 × SG)) (hrc9 : ∀ (x0 : Nat) (x1 : Int32) (x2 : Int32) (x3 : Int32) (x4 : Int32) (u : SG), HK [(some x0, 6)] u → rec9 x0 x1 x2 x3 x4 u = rc9 x0 x1 x2 x3 x4 u) (x0 : Nat) (x1 : Int32) (x3 : Int32) (x4 : Int32) (s0 : Int32) (u : SG) (h_u : HK [(some x0, 6)] u) : gX5_readTest_84 N calreadFact rec9 x0 x1 x3 x4 s0 u = hgX5_readTest_84 N ccalreadFact rc9 x0 x1 x3 x4 s0 u := by
  unfold gX5_readTest_84 hgX5_readTest_84
  refine eq_if ?_ ?_
  · rfl
  · exact egX5_readTest_93 N _ _ hcalreadFact hfcalreadFact _ _ hrc9  x0 x1 s0 x3 x4 u (hkc (show zK u x0 = 6 from (h_u.g 0 rfl)) (hk0 h_u.1))
set_option maxRecDepth 20000 in
def hgX5_readTest_52 (N : Nat) (ccalreadFact : Nat → Int32 → SG → Option (Int32 × SG)) (rc9 : Nat → Int32 → Int32 → Int32 → Int32 → SG → Option (Int32 × SG)) (x0 : Nat) (x1 : Int32) (x2 : Int32) (x4 : Int32) (s0 : Int32) (u : SG) : Option (Int32 × SG) := if s0 = (-99 : Int32) then (cl (hX5_emit N x0 x2 u) fun r1 u2 => (if (zI u2 (x0 - 6) 10) = (19 : Int32) then (hgX5_readTest_84 N ccalreadFact rc9  x0 x1 s0 x4 (-31 : Int32) u2)
  else (hgX5_readTest_84 N ccalreadFact rc9  x0 x1 s0 x4 (-99 : Int32) u2)))
  else (hgX5_readTest_93 N ccalreadFact rc9  x0 x1 x2 s0 x4 u)
set_option maxRecDepth 20000 in
theorem egX5_readTest_52 (N : Nat) (calreadFact : Nat → Int32 → SG → Option (Int32 × SG)) (ccalreadFact : Nat → Int32 → SG → Option (Int32 × SG)) (hcalreadFact : ∀ a p u, HK [(some a, 6)] u → calreadFact a p u = ccalreadFact a p u) (hfcalreadFact : ∀ a p u r w, calreadFact a p u = some (r, w) → Fr PT u w) (rec9 : Nat → Int32 → Int32 → Int32 → Int32 → SG → Option (Int32 × SG)) (rc9 : Nat → Int32 → Int32 → Int32 → Int32 → SG → Option (Int32 × SG)) (hrc9 : ∀ (x0 : Nat) (x1 : Int32) (x2 : Int32) (x3 : Int32) (x4 : Int32) (u : SG), HK [(some x0, 6)] u → rec9 x0 x1 x2 x3 x4 u = rc9 x0 x1 x2 x3 x4 u) (x0 : Nat) (x1 : Int32) (x2 : Int32) (x4 : Int32) (s0 : Int32) (u : SG) (h_u : HK [(some x0, 6)] u) : gX5_readTest_52 N calreadFact rec9 x0 x1 x2 x4 s0 u = hgX5_readTest_52 N ccalreadFact rc9 x0 x1 x2 x4 s0 u := by
  unfold gX5_readTest_52 hgX5_readTest_52
  refine eq_if ?_ ?_
  · refine eq_g (show zK u x0 = 6 from (h_u.g 0 rfl)) ?_
    refine eq_cH (eX5_emit N x0 x2 u (hkc (show zK u x0 = 6 from (h_u.g 0 rfl)) (hk0 h_u.1))) (fun r1 u2 e9 => h_u.fr (fr_X5_emit (P := PT) N x0 x2 u clPT trivial _ _ e9).1) (fun r1 u2 h_u2 => ?_)
    refine eq_g (show zK u2 x0 = 6 from (h_u2.g 0 rfl)) ?_
    refine eq_bR (show zR u2 x0 0 = some (x0 - 6) from lyR_6_0 h_u2.1 (h_u2.g 0 rfl)) ?_
    refine eq_g (show zK u2 (x0 - 6) = 10 from (lyK_6_0 h_u2.1 (h_u2.g 0 rfl))) ?_
    refine eq_if ?_ ?_
    · exact egX5_readTest_84 N _ _ hcalreadFact hfcalreadFact _ _ hrc9  x0 x1 s0 x4 (-31 : Int32) u2 (hkc (show zK u2 x0 = 6 from (h_u2.g 0 rfl)) (hk0 h_u2.1))
    · exact egX5_readTest_84 N _ _ hcalreadFact hfcalreadFact _ _ hrc9  x0 x1 s0 x4 (-99 : Int32) u2 (hkc (show zK u2 x0 = 6 from (h_u2.g 0 rfl)) (hk0 h_u2.1))
  · exact egX5_readTest_93 N _ _ hcalreadFact hfcalreadFact _ _ hrc9  x0 x1 x2 s0 x4 u (hkc (show zK u x0 = 6 from (h_u.g 0 rfl)) (hk0 h_u.1))
set_option maxRecDepth 20000 in
def hgX5_readTest_9 (N : Nat) (ccalreadFact : Nat → Int32 → SG → Option (Int32 × SG))  : Nat → Nat → Int32 → Int32 → Int32 → Int32 → SG → Option (Int32 × SG)
  | 0, _, _, _, _, _, _ => none
  | n + 1, x0, x1, x2, x3, x4, u => if (400 : Int32) ≤ x4 then (cl (hX9_refuse N (x0 - 6) (3 : Int32) u) fun r2 u3 => (if r2 = 0 ∨ r2 = 1 then (some (r2, u3))
  else (none)))
  else (cl (ccalreadFact x0 x1 u) fun r4 u5 => (if r4 = 0 then (some ((0 : Int32), u5))
  else (cl (hX5_emit N x0 x3 u5) fun r6 u7 => (if (zI u7 (x0 - 6) 10) = (20 : Int32) then (hgX5_readTest_52 N ccalreadFact (hgX5_readTest_9 N ccalreadFact  n)  x0 x1 x2 x4 (-30 : Int32) u7)
  else (hgX5_readTest_52 N ccalreadFact (hgX5_readTest_9 N ccalreadFact  n)  x0 x1 x2 x4 (-99 : Int32) u7)))))
set_option maxRecDepth 20000 in
theorem egX5_readTest_9 (N : Nat) (calreadFact : Nat → Int32 → SG → Option (Int32 × SG)) (ccalreadFact : Nat → Int32 → SG → Option (Int32 × SG)) (hcalreadFact : ∀ a p u, HK [(some a, 6)] u → calreadFact a p u = ccalreadFact a p u) (hfcalreadFact : ∀ a p u r w, calreadFact a p u = some (r, w) → Fr PT u w)  : ∀ (n : Nat) (x0 : Nat) (x1 : Int32) (x2 : Int32) (x3 : Int32) (x4 : Int32) (u : SG), HK [(some x0, 6)] u → gX5_readTest_9 N calreadFact  n x0 x1 x2 x3 x4 u = hgX5_readTest_9 N ccalreadFact  n x0 x1 x2 x3 x4 u := by
  intro n
  induction n with
  | zero => intros; rfl
  | succ n ih =>
    intro x0 x1 x2 x3 x4 u h_u
    have hrc9 := ih
    rw [gX5_readTest_9, hgX5_readTest_9]
    refine eq_if ?_ ?_
    · refine eq_g (show zK u x0 = 6 from (h_u.g 0 rfl)) ?_
      refine eq_bR (show zR u x0 0 = some (x0 - 6) from lyR_6_0 h_u.1 (h_u.g 0 rfl)) ?_
      refine eq_g (show zK u (x0 - 6) = 10 from (lyK_6_0 h_u.1 (h_u.g 0 rfl))) ?_
      refine eq_cH (eX9_refuse N (x0 - 6) (3 : Int32) u (hkc (show zK u (x0 - 6) = 10 from (lyK_6_0 h_u.1 (h_u.g 0 rfl))) (hk0 h_u.1))) (fun r2 u3 e9 => h_u.fr (fr_X9_refuse (P := PT) N (x0 - 6) (3 : Int32) u clPT trivial _ _ e9).1) (fun r2 u3 h_u3 => ?_)
      refine eq_if ?_ ?_
      · rfl
      · rfl
    · refine eq_g (show zK u x0 = 6 from (h_u.g 0 rfl)) ?_
      refine eq_cH (hcalreadFact x0 x1 u (hkc (show zK u x0 = 6 from (h_u.g 0 rfl)) (hk0 h_u.1))) (fun r4 u5 e9 => h_u.fr (hfcalreadFact x0 x1 u _ _ e9)) (fun r4 u5 h_u5 => ?_)
      refine eq_if ?_ ?_
      · rfl
      · refine eq_g (show zK u5 x0 = 6 from (h_u5.g 0 rfl)) ?_
        refine eq_cH (eX5_emit N x0 x3 u5 (hkc (show zK u5 x0 = 6 from (h_u5.g 0 rfl)) (hk0 h_u5.1))) (fun r6 u7 e9 => h_u5.fr (fr_X5_emit (P := PT) N x0 x3 u5 clPT trivial _ _ e9).1) (fun r6 u7 h_u7 => ?_)
        refine eq_g (show zK u7 x0 = 6 from (h_u7.g 0 rfl)) ?_
        refine eq_bR (show zR u7 x0 0 = some (x0 - 6) from lyR_6_0 h_u7.1 (h_u7.g 0 rfl)) ?_
        refine eq_g (show zK u7 (x0 - 6) = 10 from (lyK_6_0 h_u7.1 (h_u7.g 0 rfl))) ?_
        refine eq_if ?_ ?_
        · exact egX5_readTest_52 N _ _ hcalreadFact hfcalreadFact _ _ hrc9  x0 x1 x2 x4 (-30 : Int32) u7 (hkc (show zK u7 x0 = 6 from (h_u7.g 0 rfl)) (hk0 h_u7.1))
        · exact egX5_readTest_52 N _ _ hcalreadFact hfcalreadFact _ _ hrc9  x0 x1 x2 x4 (-99 : Int32) u7 (hkc (show zK u7 x0 = 6 from (h_u7.g 0 rfl)) (hk0 h_u7.1))
set_option maxRecDepth 20000 in
def hbX5_readTest (N : Nat) (ccalreadFact : Nat → Int32 → SG → Option (Int32 × SG)) (a0 : Nat) (p1 : Int32) (u : SG) : Option (Int32 × SG) := hgX5_readTest_9 N ccalreadFact  N a0 p1 (-99 : Int32) (-99 : Int32) (0 : Int32) u
set_option maxRecDepth 20000 in
theorem ebX5_readTest (N : Nat) (calreadFact : Nat → Int32 → SG → Option (Int32 × SG)) (ccalreadFact : Nat → Int32 → SG → Option (Int32 × SG)) (hcalreadFact : ∀ a p u, HK [(some a, 6)] u → calreadFact a p u = ccalreadFact a p u) (hfcalreadFact : ∀ a p u r w, calreadFact a p u = some (r, w) → Fr PT u w) (a0 : Nat) (p1 : Int32) (u : SG) (h_u : HK [(some a0, 6)] u) : bX5_readTest N calreadFact a0 p1 u = hbX5_readTest N ccalreadFact a0 p1 u := by
  unfold bX5_readTest hbX5_readTest
  exact egX5_readTest_9 N _ _ hcalreadFact hfcalreadFact  N a0 p1 (-99 : Int32) (-99 : Int32) (0 : Int32) u (hkc (show zK u a0 = 6 from (h_u.g 0 rfl)) (hk0 h_u.1))
def hF5 (N : Nat) : Nat → Nat → Int32 → SG → Option (Int32 × SG)
  | 0, _, _, _ => none
  | e + 1, a0, p1, u => hbX5_readFact N (hF5 N e) (fun a p w => hbX5_readTest N (hF5 N e) a p w) a0 p1 u
def hX5_readTest (N : Nat) (a0 : Nat) (p1 : Int32) (u : SG) : Option (Int32 × SG) := hbX5_readTest N (hF5 N 12) a0 p1 u
theorem eF5 (N : Nat) : ∀ (e a0 : Nat) (p1 : Int32) (u : SG), HK [(some a0, 6)] u → rF5 N e a0 p1 u = hF5 N e a0 p1 u := by
  intro e
  induction e with
  | zero => intros; rfl
  | succ e ih =>
    intro a0 p1 u hu
    rw [rF5, hF5]
    exact ebX5_readFact N _ _ ih (fun a p u r w h9 => (frF5 (P := PT) N e a p u clPT trivial _ _ h9).1) _ _ (fun a p u hu => ebX5_readTest N _ _ ih (fun a p u r w h9 => (frF5 (P := PT) N e a p u clPT trivial _ _ h9).1) a p u hu) (fun a p u r w h9 => (frb_X5_readTest (P := PT) N _ (frF5 N e) a p u clPT trivial _ _ h9).1) a0 p1 u hu
theorem eX5_readTest (N : Nat) (a0 : Nat) (p1 : Int32) (u : SG) (hu : HK [(some a0, 6)] u) : fX5_readTest N a0 p1 u = hX5_readTest N a0 p1 u :=
  ebX5_readTest N _ _ (eF5 N 12) (fun a p u r w h9 => (frF5 (P := PT) N 12 a p u clPT trivial _ _ h9).1) a0 p1 u hu
set_option maxRecDepth 20000 in
def hX5_readClause (N : Nat)  (a0 : Nat) (p1 : Int32) (u : SG) : Option (Int32 × SG) := if (zI u (a0 - 6) 10) = (17 : Int32) then (if p1 < (12 : Int32) then (cl (hX9_step N (a0 - 6) u) fun r3 u4 => (cl (hX5_readSum N a0 u4) fun r5 u6 => (if r5 = 0 then (some ((0 : Int32), u6))
  else (if (zI u6 (a0 - 6) 10) = (18 : Int32) then (cl (hX9_step N (a0 - 6) u6) fun r9 u10 => (cl (hX5_readTest N a0 (0 : Int32) u10) fun r11 u12 => (if r11 = 0 then (some ((0 : Int32), u12))
  else (cl (hX5_emit N a0 (-34 : Int32) u12) fun r13 u14 => (if r13 = 0 then (some ((0 : Int32), u14))
  else (some ((1 : Int32), u14)))))))
  else (cl (hX5_emit N a0 (-33 : Int32) u6) fun r15 u16 => (if r15 = 0 ∨ r15 = 1 then (some (r15, u16))
  else (none)))))))
  else (cl (hX9_refuse N (a0 - 6) (4 : Int32) u) fun r18 u19 => (if r18 = 0 ∨ r18 = 1 then (some (r18, u19))
  else (none))))
  else (cl (hX9_refuse N (a0 - 6) (0 : Int32) u) fun r21 u22 => (if r21 = 0 ∨ r21 = 1 then (some (r21, u22))
  else (none)))
set_option maxRecDepth 20000 in
theorem eX5_readClause (N : Nat)  (a0 : Nat) (p1 : Int32) (u : SG) (h_u : HK [(some a0, 6)] u) : fX5_readClause N  a0 p1 u = hX5_readClause N  a0 p1 u := by
  unfold fX5_readClause hX5_readClause
  refine eq_g (show zK u a0 = 6 from (h_u.g 0 rfl)) ?_
  refine eq_bR (show zR u a0 0 = some (a0 - 6) from lyR_6_0 h_u.1 (h_u.g 0 rfl)) ?_
  refine eq_g (show zK u (a0 - 6) = 10 from (lyK_6_0 h_u.1 (h_u.g 0 rfl))) ?_
  refine eq_if ?_ ?_
  · refine eq_if ?_ ?_
    · refine eq_g (show zK u a0 = 6 from (h_u.g 0 rfl)) ?_
      refine eq_bR (show zR u a0 0 = some (a0 - 6) from lyR_6_0 h_u.1 (h_u.g 0 rfl)) ?_
      refine eq_g (show zK u (a0 - 6) = 10 from (lyK_6_0 h_u.1 (h_u.g 0 rfl))) ?_
      refine eq_cH (eX9_step N (a0 - 6) u (hkc (show zK u (a0 - 6) = 10 from (lyK_6_0 h_u.1 (h_u.g 0 rfl))) (hk0 h_u.1))) (fun r3 u4 e9 => h_u.fr (fr_X9_step (P := PT) N (a0 - 6) u clPT trivial _ _ e9).1) (fun r3 u4 h_u4 => ?_)
      refine eq_g (show zK u4 a0 = 6 from (h_u4.g 0 rfl)) ?_
      refine eq_cH (eX5_readSum N a0 u4 (hkc (show zK u4 a0 = 6 from (h_u4.g 0 rfl)) (hk0 h_u4.1))) (fun r5 u6 e9 => h_u4.fr (fr_X5_readSum (P := PT) N a0 u4 clPT trivial _ _ e9).1) (fun r5 u6 h_u6 => ?_)
      refine eq_if ?_ ?_
      · rfl
      · refine eq_g (show zK u6 a0 = 6 from (h_u6.g 0 rfl)) ?_
        refine eq_bR (show zR u6 a0 0 = some (a0 - 6) from lyR_6_0 h_u6.1 (h_u6.g 0 rfl)) ?_
        refine eq_g (show zK u6 (a0 - 6) = 10 from (lyK_6_0 h_u6.1 (h_u6.g 0 rfl))) ?_
        refine eq_if ?_ ?_
        · refine eq_g (show zK u6 a0 = 6 from (h_u6.g 0 rfl)) ?_
          refine eq_bR (show zR u6 a0 0 = some (a0 - 6) from lyR_6_0 h_u6.1 (h_u6.g 0 rfl)) ?_
          refine eq_g (show zK u6 (a0 - 6) = 10 from (lyK_6_0 h_u6.1 (h_u6.g 0 rfl))) ?_
          refine eq_cH (eX9_step N (a0 - 6) u6 (hkc (show zK u6 (a0 - 6) = 10 from (lyK_6_0 h_u6.1 (h_u6.g 0 rfl))) (hk0 h_u6.1))) (fun r9 u10 e9 => h_u6.fr (fr_X9_step (P := PT) N (a0 - 6) u6 clPT trivial _ _ e9).1) (fun r9 u10 h_u10 => ?_)
          refine eq_g (show zK u10 a0 = 6 from (h_u10.g 0 rfl)) ?_
          refine eq_cH (eX5_readTest N a0 (0 : Int32) u10 (hkc (show zK u10 a0 = 6 from (h_u10.g 0 rfl)) (hk0 h_u10.1))) (fun r11 u12 e9 => h_u10.fr (fr_X5_readTest (P := PT) N a0 (0 : Int32) u10 clPT trivial _ _ e9).1) (fun r11 u12 h_u12 => ?_)
          refine eq_if ?_ ?_
          · rfl
          · refine eq_g (show zK u12 a0 = 6 from (h_u12.g 0 rfl)) ?_
            refine eq_cH (eX5_emit N a0 (-34 : Int32) u12 (hkc (show zK u12 a0 = 6 from (h_u12.g 0 rfl)) (hk0 h_u12.1))) (fun r13 u14 e9 => h_u12.fr (fr_X5_emit (P := PT) N a0 (-34 : Int32) u12 clPT trivial _ _ e9).1) (fun r13 u14 h_u14 => ?_)
            refine eq_if ?_ ?_
            · rfl
            · rfl
        · refine eq_g (show zK u6 a0 = 6 from (h_u6.g 0 rfl)) ?_
          refine eq_cH (eX5_emit N a0 (-33 : Int32) u6 (hkc (show zK u6 a0 = 6 from (h_u6.g 0 rfl)) (hk0 h_u6.1))) (fun r15 u16 e9 => h_u6.fr (fr_X5_emit (P := PT) N a0 (-33 : Int32) u6 clPT trivial _ _ e9).1) (fun r15 u16 h_u16 => ?_)
          refine eq_if ?_ ?_
          · rfl
          · rfl
    · refine eq_g (show zK u a0 = 6 from (h_u.g 0 rfl)) ?_
      refine eq_bR (show zR u a0 0 = some (a0 - 6) from lyR_6_0 h_u.1 (h_u.g 0 rfl)) ?_
      refine eq_g (show zK u (a0 - 6) = 10 from (lyK_6_0 h_u.1 (h_u.g 0 rfl))) ?_
      refine eq_cH (eX9_refuse N (a0 - 6) (4 : Int32) u (hkc (show zK u (a0 - 6) = 10 from (lyK_6_0 h_u.1 (h_u.g 0 rfl))) (hk0 h_u.1))) (fun r18 u19 e9 => h_u.fr (fr_X9_refuse (P := PT) N (a0 - 6) (4 : Int32) u clPT trivial _ _ e9).1) (fun r18 u19 h_u19 => ?_)
      refine eq_if ?_ ?_
      · rfl
      · rfl
  · refine eq_g (show zK u a0 = 6 from (h_u.g 0 rfl)) ?_
    refine eq_bR (show zR u a0 0 = some (a0 - 6) from lyR_6_0 h_u.1 (h_u.g 0 rfl)) ?_
    refine eq_g (show zK u (a0 - 6) = 10 from (lyK_6_0 h_u.1 (h_u.g 0 rfl))) ?_
    refine eq_cH (eX9_refuse N (a0 - 6) (0 : Int32) u (hkc (show zK u (a0 - 6) = 10 from (lyK_6_0 h_u.1 (h_u.g 0 rfl))) (hk0 h_u.1))) (fun r21 u22 e9 => h_u.fr (fr_X9_refuse (P := PT) N (a0 - 6) (0 : Int32) u clPT trivial _ _ e9).1) (fun r21 u22 h_u22 => ?_)
    refine eq_if ?_ ?_
    · rfl
    · rfl
set_option maxRecDepth 20000 in
def hgX5_readText_19 (N : Nat)   : Nat → Nat → Int32 → SG → Option (Int32 × SG)
  | 0, _, _, _ => none
  | n + 1, x0, x1, u => if (12 : Int32) < x1 then (some (zI u (x0 - 6) 2, u))
  else (cl (hX5_readClause N x0 x1 u) fun r2 u3 => (if r2 = 0 then (some (zI u3 (x0 - 6) 2, u3))
  else (if (zI u3 (x0 - 6) 8) = 0 then (some ((0 : Int32), u3))
  else (cl (hX9_takeSign N (x0 - 6) (59 : Int32) u3) fun r6 u7 => (if r6 = 0 then (some (zI u7 (x0 - 6) 2, u7))
  else ((hgX5_readText_19 N   n) x0 (x1 + (1 : Int32)) u7))))))
set_option maxRecDepth 20000 in
theorem egX5_readText_19 (N : Nat)   : ∀ (n : Nat) (x0 : Nat) (x1 : Int32) (u : SG), HK [(some x0, 6)] u → gX5_readText_19 N   n x0 x1 u = hgX5_readText_19 N   n x0 x1 u := by
  intro n
  induction n with
  | zero => intros; rfl
  | succ n ih =>
    intro x0 x1 u h_u
    have hrc19 := ih
    rw [gX5_readText_19, hgX5_readText_19]
    refine eq_if ?_ ?_
    · refine eq_g (show zK u x0 = 6 from (h_u.g 0 rfl)) ?_
      refine eq_bR (show zR u x0 0 = some (x0 - 6) from lyR_6_0 h_u.1 (h_u.g 0 rfl)) ?_
      refine eq_g (show zK u (x0 - 6) = 10 from (lyK_6_0 h_u.1 (h_u.g 0 rfl))) ?_
      rfl
    · refine eq_g (show zK u x0 = 6 from (h_u.g 0 rfl)) ?_
      refine eq_cH (eX5_readClause N x0 x1 u (hkc (show zK u x0 = 6 from (h_u.g 0 rfl)) (hk0 h_u.1))) (fun r2 u3 e9 => h_u.fr (fr_X5_readClause (P := PT) N x0 x1 u clPT trivial _ _ e9).1) (fun r2 u3 h_u3 => ?_)
      refine eq_if ?_ ?_
      · refine eq_g (show zK u3 x0 = 6 from (h_u3.g 0 rfl)) ?_
        refine eq_bR (show zR u3 x0 0 = some (x0 - 6) from lyR_6_0 h_u3.1 (h_u3.g 0 rfl)) ?_
        refine eq_g (show zK u3 (x0 - 6) = 10 from (lyK_6_0 h_u3.1 (h_u3.g 0 rfl))) ?_
        rfl
      · refine eq_g (show zK u3 x0 = 6 from (h_u3.g 0 rfl)) ?_
        refine eq_bR (show zR u3 x0 0 = some (x0 - 6) from lyR_6_0 h_u3.1 (h_u3.g 0 rfl)) ?_
        refine eq_g (show zK u3 (x0 - 6) = 10 from (lyK_6_0 h_u3.1 (h_u3.g 0 rfl))) ?_
        refine eq_if ?_ ?_
        · rfl
        · refine eq_g (show zK u3 x0 = 6 from (h_u3.g 0 rfl)) ?_
          refine eq_bR (show zR u3 x0 0 = some (x0 - 6) from lyR_6_0 h_u3.1 (h_u3.g 0 rfl)) ?_
          refine eq_g (show zK u3 (x0 - 6) = 10 from (lyK_6_0 h_u3.1 (h_u3.g 0 rfl))) ?_
          refine eq_cH (eX9_takeSign N (x0 - 6) (59 : Int32) u3 (hkc (show zK u3 (x0 - 6) = 10 from (lyK_6_0 h_u3.1 (h_u3.g 0 rfl))) (hk0 h_u3.1))) (fun r6 u7 e9 => h_u3.fr (fr_X9_takeSign (P := PT) N (x0 - 6) (59 : Int32) u3 clPT trivial _ _ e9).1) (fun r6 u7 h_u7 => ?_)
          refine eq_if ?_ ?_
          · refine eq_g (show zK u7 x0 = 6 from (h_u7.g 0 rfl)) ?_
            refine eq_bR (show zR u7 x0 0 = some (x0 - 6) from lyR_6_0 h_u7.1 (h_u7.g 0 rfl)) ?_
            refine eq_g (show zK u7 (x0 - 6) = 10 from (lyK_6_0 h_u7.1 (h_u7.g 0 rfl))) ?_
            rfl
          · exact hrc19 x0 (x1 + (1 : Int32)) u7 (hkc (show zK u7 x0 = 6 from (h_u7.g 0 rfl)) (hk0 h_u7.1))
set_option maxRecDepth 20000 in
def hX5_readText (N : Nat)  (a0 : Nat) (u : SG) : Option (Int32 × SG) := bs (sI u a0 2 (0 : Int32)) fun u1 => (bs (sI u1 a0 3 (0 : Int32)) fun u2 => (cl (hX9_open N (a0 - 6) u2) fun r4 u5 => (hgX5_readText_19 N   N a0 (0 : Int32) u5)))
set_option maxRecDepth 20000 in
theorem eX5_readText (N : Nat)  (a0 : Nat) (u : SG) (h_u : HK [(some a0, 6)] u) : fX5_readText N  a0 u = hX5_readText N  a0 u := by
  unfold fX5_readText hX5_readText
  refine eq_g (show zK u a0 = 6 from (h_u.g 0 rfl)) ?_
  refine eq_sH (h_u.fr (P := PT) (Fr.sIr trivial)) (fun u1 h_u1 => ?_)
  refine eq_g (show zK u1 a0 = 6 from (h_u1.g 0 rfl)) ?_
  refine eq_sH (h_u1.fr (P := PT) (Fr.sIr trivial)) (fun u2 h_u2 => ?_)
  refine eq_g (show zK u2 a0 = 6 from (h_u2.g 0 rfl)) ?_
  refine eq_bR (show zR u2 a0 0 = some (a0 - 6) from lyR_6_0 h_u2.1 (h_u2.g 0 rfl)) ?_
  refine eq_g (show zK u2 (a0 - 6) = 10 from (lyK_6_0 h_u2.1 (h_u2.g 0 rfl))) ?_
  refine eq_cH (eX9_open N (a0 - 6) u2 (hkc (show zK u2 (a0 - 6) = 10 from (lyK_6_0 h_u2.1 (h_u2.g 0 rfl))) (hk0 h_u2.1))) (fun r4 u5 e9 => h_u2.fr (fr_X9_open (P := PT) N (a0 - 6) u2 clPT trivial _ _ e9).1) (fun r4 u5 h_u5 => ?_)
  exact egX5_readText_19 N   N a0 (0 : Int32) u5 (hkc (show zK u5 a0 = 6 from (h_u5.g 0 rfl)) (hk0 h_u5.1))
set_option maxRecDepth 20000 in
def hX7_copyOf (N : Nat)  (a0 : Nat) (p1 : Nat) (u : SG) : Option (Unit × SG) := bs (sI u a0 6 (zI u p1 6)) fun u1 => (bs (sI u1 a0 7 (zI u1 p1 7)) fun u2 => (bs (sI u2 a0 8 (zI u2 p1 8)) fun u3 => (bs (sI u3 a0 9 (zI u3 p1 9)) fun u4 => (bs (sI u4 a0 10 (zI u4 p1 10)) fun u5 => (bs (sIr u5 (a0 + 1) (va_cpy (zI u5 (p1 + 1)) (zI u5 (a0 + 1)) (0 : Int32).toNatClampNeg (0 : Int32).toNatClampNeg (5 : Int32).toNatClampNeg)) fun u8 => (bs (sIr u8 (a0 + 2) (va_cpy (zI u8 (p1 + 2)) (zI u8 (a0 + 2)) (0 : Int32).toNatClampNeg (0 : Int32).toNatClampNeg (5 : Int32).toNatClampNeg)) fun u11 => (bs (sIr u11 (a0 + 3) (va_cpy (zI u11 (p1 + 3)) (zI u11 (a0 + 3)) (0 : Int32).toNatClampNeg (0 : Int32).toNatClampNeg (5 : Int32).toNatClampNeg)) fun u14 => (bs (sIr u14 (a0 + 4) (va_cpy (zI u14 (p1 + 4)) (zI u14 (a0 + 4)) (0 : Int32).toNatClampNeg (0 : Int32).toNatClampNeg (5 : Int32).toNatClampNeg)) fun u17 => (bs (sIr u17 (a0 + 5) (va_cpy (zI u17 (p1 + 5)) (zI u17 (a0 + 5)) (0 : Int32).toNatClampNeg (0 : Int32).toNatClampNeg (10 : Int32).toNatClampNeg)) fun u20 => (bs (sIr u20 (a0 + 6) (va_cpy (zI u20 (p1 + 6)) (zI u20 (a0 + 6)) (0 : Int32).toNatClampNeg (0 : Int32).toNatClampNeg (10 : Int32).toNatClampNeg)) fun u23 => (some ((), u23))))))))))))
set_option maxRecDepth 20000 in
theorem eX7_copyOf (N : Nat)  (a0 : Nat) (p1 : Nat) (u : SG) (h_u : HK [(some a0, 8), (some p1, 8)] u) : fX7_copyOf N  a0 p1 u = hX7_copyOf N  a0 p1 u := by
  unfold fX7_copyOf hX7_copyOf
  refine eq_g (show zK u p1 = 8 from (h_u.g 1 rfl)) ?_
  refine eq_g (show zK u a0 = 8 from (h_u.g 0 rfl)) ?_
  refine eq_sH (h_u.fr (P := PT) (Fr.sIr trivial)) (fun u1 h_u1 => ?_)
  refine eq_g (show zK u1 p1 = 8 from (h_u1.g 1 rfl)) ?_
  refine eq_g (show zK u1 a0 = 8 from (h_u1.g 0 rfl)) ?_
  refine eq_sH (h_u1.fr (P := PT) (Fr.sIr trivial)) (fun u2 h_u2 => ?_)
  refine eq_g (show zK u2 p1 = 8 from (h_u2.g 1 rfl)) ?_
  refine eq_g (show zK u2 a0 = 8 from (h_u2.g 0 rfl)) ?_
  refine eq_sH (h_u2.fr (P := PT) (Fr.sIr trivial)) (fun u3 h_u3 => ?_)
  refine eq_g (show zK u3 p1 = 8 from (h_u3.g 1 rfl)) ?_
  refine eq_g (show zK u3 a0 = 8 from (h_u3.g 0 rfl)) ?_
  refine eq_sH (h_u3.fr (P := PT) (Fr.sIr trivial)) (fun u4 h_u4 => ?_)
  refine eq_g (show zK u4 p1 = 8 from (h_u4.g 1 rfl)) ?_
  refine eq_g (show zK u4 a0 = 8 from (h_u4.g 0 rfl)) ?_
  refine eq_sH (h_u4.fr (P := PT) (Fr.sIr trivial)) (fun u5 h_u5 => ?_)
  refine eq_g (show zK u5 p1 = 8 from (h_u5.g 1 rfl)) ?_
  refine eq_bR (show zR u5 p1 0 = some (p1 + 1) from lyR_8_0 h_u5.1 (h_u5.g 1 rfl)) ?_
  refine eq_g (show zK u5 a0 = 8 from (h_u5.g 0 rfl)) ?_
  refine eq_bR (show zR u5 a0 0 = some (a0 + 1) from lyR_8_0 h_u5.1 (h_u5.g 0 rfl)) ?_
  refine eq_g (show zK u5 (p1 + 1) = 22 from (lyK_8_0 h_u5.1 (h_u5.g 1 rfl))) ?_
  refine eq_g (show zK u5 (a0 + 1) = 22 from (lyK_8_0 h_u5.1 (h_u5.g 0 rfl))) ?_
  refine eq_n (by rw [show zN u5 (p1 + 1) = 5 from lyN_8_0 h_u5.1 (h_u5.g 1 rfl), show zN u5 (a0 + 1) = 5 from lyN_8_0 h_u5.1 (h_u5.g 0 rfl)]; decide) ?_
  refine eq_sH (h_u5.fr (P := PT) (Fr.sIr trivial)) (fun u8 h_u8 => ?_)
  refine eq_g (show zK u8 p1 = 8 from (h_u8.g 1 rfl)) ?_
  refine eq_bR (show zR u8 p1 1 = some (p1 + 2) from lyR_8_1 h_u8.1 (h_u8.g 1 rfl)) ?_
  refine eq_g (show zK u8 a0 = 8 from (h_u8.g 0 rfl)) ?_
  refine eq_bR (show zR u8 a0 1 = some (a0 + 2) from lyR_8_1 h_u8.1 (h_u8.g 0 rfl)) ?_
  refine eq_g (show zK u8 (p1 + 2) = 22 from (lyK_8_1 h_u8.1 (h_u8.g 1 rfl))) ?_
  refine eq_g (show zK u8 (a0 + 2) = 22 from (lyK_8_1 h_u8.1 (h_u8.g 0 rfl))) ?_
  refine eq_n (by rw [show zN u8 (p1 + 2) = 5 from lyN_8_1 h_u8.1 (h_u8.g 1 rfl), show zN u8 (a0 + 2) = 5 from lyN_8_1 h_u8.1 (h_u8.g 0 rfl)]; decide) ?_
  refine eq_sH (h_u8.fr (P := PT) (Fr.sIr trivial)) (fun u11 h_u11 => ?_)
  refine eq_g (show zK u11 p1 = 8 from (h_u11.g 1 rfl)) ?_
  refine eq_bR (show zR u11 p1 2 = some (p1 + 3) from lyR_8_2 h_u11.1 (h_u11.g 1 rfl)) ?_
  refine eq_g (show zK u11 a0 = 8 from (h_u11.g 0 rfl)) ?_
  refine eq_bR (show zR u11 a0 2 = some (a0 + 3) from lyR_8_2 h_u11.1 (h_u11.g 0 rfl)) ?_
  refine eq_g (show zK u11 (p1 + 3) = 22 from (lyK_8_2 h_u11.1 (h_u11.g 1 rfl))) ?_
  refine eq_g (show zK u11 (a0 + 3) = 22 from (lyK_8_2 h_u11.1 (h_u11.g 0 rfl))) ?_
  refine eq_n (by rw [show zN u11 (p1 + 3) = 5 from lyN_8_2 h_u11.1 (h_u11.g 1 rfl), show zN u11 (a0 + 3) = 5 from lyN_8_2 h_u11.1 (h_u11.g 0 rfl)]; decide) ?_
  refine eq_sH (h_u11.fr (P := PT) (Fr.sIr trivial)) (fun u14 h_u14 => ?_)
  refine eq_g (show zK u14 p1 = 8 from (h_u14.g 1 rfl)) ?_
  refine eq_bR (show zR u14 p1 3 = some (p1 + 4) from lyR_8_3 h_u14.1 (h_u14.g 1 rfl)) ?_
  refine eq_g (show zK u14 a0 = 8 from (h_u14.g 0 rfl)) ?_
  refine eq_bR (show zR u14 a0 3 = some (a0 + 4) from lyR_8_3 h_u14.1 (h_u14.g 0 rfl)) ?_
  refine eq_g (show zK u14 (p1 + 4) = 22 from (lyK_8_3 h_u14.1 (h_u14.g 1 rfl))) ?_
  refine eq_g (show zK u14 (a0 + 4) = 22 from (lyK_8_3 h_u14.1 (h_u14.g 0 rfl))) ?_
  refine eq_n (by rw [show zN u14 (p1 + 4) = 5 from lyN_8_3 h_u14.1 (h_u14.g 1 rfl), show zN u14 (a0 + 4) = 5 from lyN_8_3 h_u14.1 (h_u14.g 0 rfl)]; decide) ?_
  refine eq_sH (h_u14.fr (P := PT) (Fr.sIr trivial)) (fun u17 h_u17 => ?_)
  refine eq_g (show zK u17 p1 = 8 from (h_u17.g 1 rfl)) ?_
  refine eq_bR (show zR u17 p1 4 = some (p1 + 5) from lyR_8_4 h_u17.1 (h_u17.g 1 rfl)) ?_
  refine eq_g (show zK u17 a0 = 8 from (h_u17.g 0 rfl)) ?_
  refine eq_bR (show zR u17 a0 4 = some (a0 + 5) from lyR_8_4 h_u17.1 (h_u17.g 0 rfl)) ?_
  refine eq_g (show zK u17 (p1 + 5) = 22 from (lyK_8_4 h_u17.1 (h_u17.g 1 rfl))) ?_
  refine eq_g (show zK u17 (a0 + 5) = 22 from (lyK_8_4 h_u17.1 (h_u17.g 0 rfl))) ?_
  refine eq_n (by rw [show zN u17 (p1 + 5) = 10 from lyN_8_4 h_u17.1 (h_u17.g 1 rfl), show zN u17 (a0 + 5) = 10 from lyN_8_4 h_u17.1 (h_u17.g 0 rfl)]; decide) ?_
  refine eq_sH (h_u17.fr (P := PT) (Fr.sIr trivial)) (fun u20 h_u20 => ?_)
  refine eq_g (show zK u20 p1 = 8 from (h_u20.g 1 rfl)) ?_
  refine eq_bR (show zR u20 p1 5 = some (p1 + 6) from lyR_8_5 h_u20.1 (h_u20.g 1 rfl)) ?_
  refine eq_g (show zK u20 a0 = 8 from (h_u20.g 0 rfl)) ?_
  refine eq_bR (show zR u20 a0 5 = some (a0 + 6) from lyR_8_5 h_u20.1 (h_u20.g 0 rfl)) ?_
  refine eq_g (show zK u20 (p1 + 6) = 22 from (lyK_8_5 h_u20.1 (h_u20.g 1 rfl))) ?_
  refine eq_g (show zK u20 (a0 + 6) = 22 from (lyK_8_5 h_u20.1 (h_u20.g 0 rfl))) ?_
  refine eq_n (by rw [show zN u20 (p1 + 6) = 10 from lyN_8_5 h_u20.1 (h_u20.g 1 rfl), show zN u20 (a0 + 6) = 10 from lyN_8_5 h_u20.1 (h_u20.g 0 rfl)]; decide) ?_
  refine eq_sH (h_u20.fr (P := PT) (Fr.sIr trivial)) (fun u23 h_u23 => ?_)
  rfl
set_option maxRecDepth 20000 in
def hX6_copyOf (N : Nat)  (a0 : Nat) (p1 : Nat) (u : SG) : Option (Unit × SG) := cl (hX7_copyOf N (a0 + 1) (p1 + 1) u) fun r3 u4 => (cl (hX2_copyOf N (a0 + 8) (p1 + 8) u4) fun r7 u8 => (cl (hX1_copyOf N (a0 + 12) (p1 + 12) u8) fun r11 u12 => (bs (sI u12 a0 3 (zI u12 p1 3)) fun u13 => (bs (sI u13 a0 4 (zI u13 p1 4)) fun u14 => (some ((), u14))))))
set_option maxRecDepth 20000 in
theorem eX6_copyOf (N : Nat)  (a0 : Nat) (p1 : Nat) (u : SG) (h_u : HK [(some a0, 7), (some p1, 7)] u) : fX6_copyOf N  a0 p1 u = hX6_copyOf N  a0 p1 u := by
  unfold fX6_copyOf hX6_copyOf
  refine eq_g (show zK u a0 = 7 from (h_u.g 0 rfl)) ?_
  refine eq_bR (show zR u a0 0 = some (a0 + 1) from lyR_7_0 h_u.1 (h_u.g 0 rfl)) ?_
  refine eq_g (show zK u p1 = 7 from (h_u.g 1 rfl)) ?_
  refine eq_bR (show zR u p1 0 = some (p1 + 1) from lyR_7_0 h_u.1 (h_u.g 1 rfl)) ?_
  refine eq_g (show zK u (a0 + 1) = 8 from (lyK_7_0 h_u.1 (h_u.g 0 rfl))) ?_
  refine eq_cH (eX7_copyOf N (a0 + 1) (p1 + 1) u (hkc (show zK u (a0 + 1) = 8 from (lyK_7_0 h_u.1 (h_u.g 0 rfl))) (hkc (show zK u (p1 + 1) = 8 from (lyK_7_0 h_u.1 (h_u.g 1 rfl))) (hk0 h_u.1)))) (fun r3 u4 e9 => h_u.fr (fr_X7_copyOf (P := PT) N (a0 + 1) (p1 + 1) u clPT trivial trivial _ _ e9).1) (fun r3 u4 h_u4 => ?_)
  refine eq_g (show zK u4 a0 = 7 from (h_u4.g 0 rfl)) ?_
  refine eq_bR (show zR u4 a0 1 = some (a0 + 8) from lyR_7_1 h_u4.1 (h_u4.g 0 rfl)) ?_
  refine eq_g (show zK u4 p1 = 7 from (h_u4.g 1 rfl)) ?_
  refine eq_bR (show zR u4 p1 1 = some (p1 + 8) from lyR_7_1 h_u4.1 (h_u4.g 1 rfl)) ?_
  refine eq_g (show zK u4 (a0 + 8) = 3 from (lyK_7_1 h_u4.1 (h_u4.g 0 rfl))) ?_
  refine eq_cH (eX2_copyOf N (a0 + 8) (p1 + 8) u4 (hkc (show zK u4 (a0 + 8) = 3 from (lyK_7_1 h_u4.1 (h_u4.g 0 rfl))) (hkc (show zK u4 (p1 + 8) = 3 from (lyK_7_1 h_u4.1 (h_u4.g 1 rfl))) (hk0 h_u4.1)))) (fun r7 u8 e9 => h_u4.fr (fr_X2_copyOf (P := PT) N (a0 + 8) (p1 + 8) u4 clPT trivial trivial _ _ e9).1) (fun r7 u8 h_u8 => ?_)
  refine eq_g (show zK u8 a0 = 7 from (h_u8.g 0 rfl)) ?_
  refine eq_bR (show zR u8 a0 2 = some (a0 + 12) from lyR_7_2 h_u8.1 (h_u8.g 0 rfl)) ?_
  refine eq_g (show zK u8 p1 = 7 from (h_u8.g 1 rfl)) ?_
  refine eq_bR (show zR u8 p1 2 = some (p1 + 12) from lyR_7_2 h_u8.1 (h_u8.g 1 rfl)) ?_
  refine eq_g (show zK u8 (a0 + 12) = 2 from (lyK_7_2 h_u8.1 (h_u8.g 0 rfl))) ?_
  refine eq_cH (eX1_copyOf N (a0 + 12) (p1 + 12) u8 (hkc (show zK u8 (a0 + 12) = 2 from (lyK_7_2 h_u8.1 (h_u8.g 0 rfl))) (hkc (show zK u8 (p1 + 12) = 2 from (lyK_7_2 h_u8.1 (h_u8.g 1 rfl))) (hk0 h_u8.1)))) (fun r11 u12 e9 => h_u8.fr (fr_X1_copyOf (P := PT) N (a0 + 12) (p1 + 12) u8 clPT trivial trivial _ _ e9).1) (fun r11 u12 h_u12 => ?_)
  refine eq_g (show zK u12 p1 = 7 from (h_u12.g 1 rfl)) ?_
  refine eq_g (show zK u12 a0 = 7 from (h_u12.g 0 rfl)) ?_
  refine eq_sH (h_u12.fr (P := PT) (Fr.sIr trivial)) (fun u13 h_u13 => ?_)
  refine eq_g (show zK u13 p1 = 7 from (h_u13.g 1 rfl)) ?_
  refine eq_g (show zK u13 a0 = 7 from (h_u13.g 0 rfl)) ?_
  refine eq_sH (h_u13.fr (P := PT) (Fr.sIr trivial)) (fun u14 h_u14 => ?_)
  rfl
set_option maxRecDepth 20000 in
def hgX7_clear_27 (N : Nat)   : Nat → Nat → Int32 → SG → Option (Unit × SG)
  | 0, _, _, _ => none
  | n + 1, x0, x1, u => if (10 : Int32) ≤ x1 then (some ((), u))
  else (if x1 < 0 ∨ 10 ≤ x1.toNatClampNeg then none else (bs (sI u (x0 + 5) x1.toNatClampNeg (0 : Int32)) fun u2 => (if x1 < 0 ∨ 10 ≤ x1.toNatClampNeg then none else (bs (sI u2 (x0 + 6) x1.toNatClampNeg (0 : Int32)) fun u4 => ((hgX7_clear_27 N   n) x0 (x1 + (1 : Int32)) u4)))))
set_option maxRecDepth 20000 in
theorem egX7_clear_27 (N : Nat)   : ∀ (n : Nat) (x0 : Nat) (x1 : Int32) (u : SG), HK [(some x0, 8)] u → gX7_clear_27 N   n x0 x1 u = hgX7_clear_27 N   n x0 x1 u := by
  intro n
  induction n with
  | zero => intros; rfl
  | succ n ih =>
    intro x0 x1 u h_u
    have hrc27 := ih
    rw [gX7_clear_27, hgX7_clear_27]
    refine eq_if ?_ ?_
    · rfl
    · refine eq_g (show zK u x0 = 8 from (h_u.g 0 rfl)) ?_
      refine eq_bR (show zR u x0 4 = some (x0 + 5) from lyR_8_4 h_u.1 (h_u.g 0 rfl)) ?_
      refine eq_g (show zK u (x0 + 5) = 22 from (lyK_8_4 h_u.1 (h_u.g 0 rfl))) ?_
      refine eq_ixh (show zN u (x0 + 5) = 10 from lyN_8_4 h_u.1 (h_u.g 0 rfl)) (fun hix1 => ?_)
      refine eq_sH (h_u.fr (P := PT) (Fr.sIr trivial)) (fun u2 h_u2 => ?_)
      refine eq_g (show zK u2 x0 = 8 from (h_u2.g 0 rfl)) ?_
      refine eq_bR (show zR u2 x0 5 = some (x0 + 6) from lyR_8_5 h_u2.1 (h_u2.g 0 rfl)) ?_
      refine eq_g (show zK u2 (x0 + 6) = 22 from (lyK_8_5 h_u2.1 (h_u2.g 0 rfl))) ?_
      refine eq_ixh (show zN u2 (x0 + 6) = 10 from lyN_8_5 h_u2.1 (h_u2.g 0 rfl)) (fun hix2 => ?_)
      refine eq_sH (h_u2.fr (P := PT) (Fr.sIr trivial)) (fun u4 h_u4 => ?_)
      exact hrc27 x0 (x1 + (1 : Int32)) u4 (hkc (show zK u4 x0 = 8 from (h_u4.g 0 rfl)) (hk0 h_u4.1))
set_option maxRecDepth 20000 in
def hX7_clear (N : Nat)  (a0 : Nat) (u : SG) : Option (Unit × SG) := bs (sI u a0 6 (0 : Int32)) fun u1 => (bs (sI u1 a0 7 (0 : Int32)) fun u2 => (bs (sI u2 a0 8 (0 : Int32)) fun u3 => (bs (sI u3 a0 9 (0 : Int32)) fun u4 => (bs (sI u4 a0 10 (0 : Int32)) fun u5 => (hgX7_clear_27 N   N a0 (0 : Int32) u5)))))
set_option maxRecDepth 20000 in
theorem eX7_clear (N : Nat)  (a0 : Nat) (u : SG) (h_u : HK [(some a0, 8)] u) : fX7_clear N  a0 u = hX7_clear N  a0 u := by
  unfold fX7_clear hX7_clear
  refine eq_g (show zK u a0 = 8 from (h_u.g 0 rfl)) ?_
  refine eq_sH (h_u.fr (P := PT) (Fr.sIr trivial)) (fun u1 h_u1 => ?_)
  refine eq_g (show zK u1 a0 = 8 from (h_u1.g 0 rfl)) ?_
  refine eq_sH (h_u1.fr (P := PT) (Fr.sIr trivial)) (fun u2 h_u2 => ?_)
  refine eq_g (show zK u2 a0 = 8 from (h_u2.g 0 rfl)) ?_
  refine eq_sH (h_u2.fr (P := PT) (Fr.sIr trivial)) (fun u3 h_u3 => ?_)
  refine eq_g (show zK u3 a0 = 8 from (h_u3.g 0 rfl)) ?_
  refine eq_sH (h_u3.fr (P := PT) (Fr.sIr trivial)) (fun u4 h_u4 => ?_)
  refine eq_g (show zK u4 a0 = 8 from (h_u4.g 0 rfl)) ?_
  refine eq_sH (h_u4.fr (P := PT) (Fr.sIr trivial)) (fun u5 h_u5 => ?_)
  exact egX7_clear_27 N   N a0 (0 : Int32) u5 (hkc (show zK u5 a0 = 8 from (h_u5.g 0 rfl)) (hk0 h_u5.1))
set_option maxRecDepth 20000 in
def hX7_isTold (N : Nat)  (a0 : Nat) (u : SG) : Option (Int32 × SG) := if (zI u a0 6) ≤ 0 then (some ((0 : Int32), u))
  else (some ((1 : Int32), u))
set_option maxRecDepth 20000 in
theorem eX7_isTold (N : Nat)  (a0 : Nat) (u : SG) (h_u : HK [(some a0, 8)] u) : fX7_isTold N  a0 u = hX7_isTold N  a0 u := by
  unfold fX7_isTold hX7_isTold
  refine eq_g (show zK u a0 = 8 from (h_u.g 0 rfl)) ?_
  refine eq_if ?_ ?_
  · rfl
  · rfl
set_option maxRecDepth 20000 in
def hX7_isPerson (N : Nat)  (a0 : Nat) (p1 : Int32) (u : SG) : Option (Int32 × SG) := if p1 < 0 then (some ((0 : Int32), u))
  else (if (zI u a0 7) ≤ p1 then (some ((0 : Int32), u))
  else (if (5 : Int32) ≤ p1 then (some ((0 : Int32), u))
  else (some ((1 : Int32), u))))
set_option maxRecDepth 20000 in
theorem eX7_isPerson (N : Nat)  (a0 : Nat) (p1 : Int32) (u : SG) (h_u : HK [(some a0, 8)] u) : fX7_isPerson N  a0 p1 u = hX7_isPerson N  a0 p1 u := by
  unfold fX7_isPerson hX7_isPerson
  refine eq_if ?_ ?_
  · rfl
  · refine eq_g (show zK u a0 = 8 from (h_u.g 0 rfl)) ?_
    refine eq_if ?_ ?_
    · rfl
    · refine eq_if ?_ ?_
      · rfl
      · rfl
set_option maxRecDepth 20000 in
def hX7_isLamp (N : Nat)  (a0 : Nat) (p1 : Int32) (u : SG) : Option (Int32 × SG) := if p1 < 0 then (some ((0 : Int32), u))
  else (if (zI u a0 9) ≤ p1 then (some ((0 : Int32), u))
  else (if (5 : Int32) ≤ p1 then (some ((0 : Int32), u))
  else (some ((1 : Int32), u))))
set_option maxRecDepth 20000 in
theorem eX7_isLamp (N : Nat)  (a0 : Nat) (p1 : Int32) (u : SG) (h_u : HK [(some a0, 8)] u) : fX7_isLamp N  a0 p1 u = hX7_isLamp N  a0 p1 u := by
  unfold fX7_isLamp hX7_isLamp
  refine eq_if ?_ ?_
  · rfl
  · refine eq_g (show zK u a0 = 8 from (h_u.g 0 rfl)) ?_
    refine eq_if ?_ ?_
    · rfl
    · refine eq_if ?_ ?_
      · rfl
      · rfl
set_option maxRecDepth 20000 in
def hX7_addPerson (N : Nat)  (a0 : Nat) (p1 : Int32) (p2 : Int32) (u : SG) : Option (Unit × SG) := if (zI u a0 7) < 0 then (some ((), u))
  else (if (5 : Int32) ≤ (zI u a0 7) then (some ((), u))
  else (if (zI u a0 7) < 0 ∨ 5 ≤ (zI u a0 7).toNatClampNeg then none else (bs (sI u (a0 + 1) (zI u a0 7).toNatClampNeg p1) fun u2 => (if (zI u2 a0 7) < 0 ∨ 5 ≤ (zI u2 a0 7).toNatClampNeg then none else (bs (sI u2 (a0 + 2) (zI u2 a0 7).toNatClampNeg p2) fun u4 => (bs (sI u4 a0 7 ((zI u4 a0 7) + (1 : Int32))) fun u5 => (some ((), u5))))))))
set_option maxRecDepth 20000 in
theorem eX7_addPerson (N : Nat)  (a0 : Nat) (p1 : Int32) (p2 : Int32) (u : SG) (h_u : HK [(some a0, 8)] u) : fX7_addPerson N  a0 p1 p2 u = hX7_addPerson N  a0 p1 p2 u := by
  unfold fX7_addPerson hX7_addPerson
  refine eq_g (show zK u a0 = 8 from (h_u.g 0 rfl)) ?_
  refine eq_if ?_ ?_
  · rfl
  · refine eq_g (show zK u a0 = 8 from (h_u.g 0 rfl)) ?_
    refine eq_if ?_ ?_
    · rfl
    · refine eq_g (show zK u a0 = 8 from (h_u.g 0 rfl)) ?_
      refine eq_bR (show zR u a0 0 = some (a0 + 1) from lyR_8_0 h_u.1 (h_u.g 0 rfl)) ?_
      refine eq_g (show zK u a0 = 8 from (h_u.g 0 rfl)) ?_
      refine eq_g (show zK u (a0 + 1) = 22 from (lyK_8_0 h_u.1 (h_u.g 0 rfl))) ?_
      refine eq_ixh (show zN u (a0 + 1) = 5 from lyN_8_0 h_u.1 (h_u.g 0 rfl)) (fun hix1 => ?_)
      refine eq_sH (h_u.fr (P := PT) (Fr.sIr trivial)) (fun u2 h_u2 => ?_)
      refine eq_g (show zK u2 a0 = 8 from (h_u2.g 0 rfl)) ?_
      refine eq_bR (show zR u2 a0 1 = some (a0 + 2) from lyR_8_1 h_u2.1 (h_u2.g 0 rfl)) ?_
      refine eq_g (show zK u2 a0 = 8 from (h_u2.g 0 rfl)) ?_
      refine eq_g (show zK u2 (a0 + 2) = 22 from (lyK_8_1 h_u2.1 (h_u2.g 0 rfl))) ?_
      refine eq_ixh (show zN u2 (a0 + 2) = 5 from lyN_8_1 h_u2.1 (h_u2.g 0 rfl)) (fun hix2 => ?_)
      refine eq_sH (h_u2.fr (P := PT) (Fr.sIr trivial)) (fun u4 h_u4 => ?_)
      refine eq_g (show zK u4 a0 = 8 from (h_u4.g 0 rfl)) ?_
      refine eq_g (show zK u4 a0 = 8 from (h_u4.g 0 rfl)) ?_
      refine eq_sH (h_u4.fr (P := PT) (Fr.sIr trivial)) (fun u5 h_u5 => ?_)
      rfl
set_option maxRecDepth 20000 in
def hX7_addLamp (N : Nat)  (a0 : Nat) (p1 : Int32) (p2 : Int32) (u : SG) : Option (Unit × SG) := if (zI u a0 9) < 0 then (some ((), u))
  else (if (5 : Int32) ≤ (zI u a0 9) then (some ((), u))
  else (if (zI u a0 9) < 0 ∨ 5 ≤ (zI u a0 9).toNatClampNeg then none else (bs (sI u (a0 + 3) (zI u a0 9).toNatClampNeg p1) fun u2 => (if (zI u2 a0 9) < 0 ∨ 5 ≤ (zI u2 a0 9).toNatClampNeg then none else (bs (sI u2 (a0 + 4) (zI u2 a0 9).toNatClampNeg p2) fun u4 => (bs (sI u4 a0 9 ((zI u4 a0 9) + (1 : Int32))) fun u5 => (some ((), u5))))))))
set_option maxRecDepth 20000 in
theorem eX7_addLamp (N : Nat)  (a0 : Nat) (p1 : Int32) (p2 : Int32) (u : SG) (h_u : HK [(some a0, 8)] u) : fX7_addLamp N  a0 p1 p2 u = hX7_addLamp N  a0 p1 p2 u := by
  unfold fX7_addLamp hX7_addLamp
  refine eq_g (show zK u a0 = 8 from (h_u.g 0 rfl)) ?_
  refine eq_if ?_ ?_
  · rfl
  · refine eq_g (show zK u a0 = 8 from (h_u.g 0 rfl)) ?_
    refine eq_if ?_ ?_
    · rfl
    · refine eq_g (show zK u a0 = 8 from (h_u.g 0 rfl)) ?_
      refine eq_bR (show zR u a0 2 = some (a0 + 3) from lyR_8_2 h_u.1 (h_u.g 0 rfl)) ?_
      refine eq_g (show zK u a0 = 8 from (h_u.g 0 rfl)) ?_
      refine eq_g (show zK u (a0 + 3) = 22 from (lyK_8_2 h_u.1 (h_u.g 0 rfl))) ?_
      refine eq_ixh (show zN u (a0 + 3) = 5 from lyN_8_2 h_u.1 (h_u.g 0 rfl)) (fun hix1 => ?_)
      refine eq_sH (h_u.fr (P := PT) (Fr.sIr trivial)) (fun u2 h_u2 => ?_)
      refine eq_g (show zK u2 a0 = 8 from (h_u2.g 0 rfl)) ?_
      refine eq_bR (show zR u2 a0 3 = some (a0 + 4) from lyR_8_3 h_u2.1 (h_u2.g 0 rfl)) ?_
      refine eq_g (show zK u2 a0 = 8 from (h_u2.g 0 rfl)) ?_
      refine eq_g (show zK u2 (a0 + 4) = 22 from (lyK_8_3 h_u2.1 (h_u2.g 0 rfl))) ?_
      refine eq_ixh (show zN u2 (a0 + 4) = 5 from lyN_8_3 h_u2.1 (h_u2.g 0 rfl)) (fun hix2 => ?_)
      refine eq_sH (h_u2.fr (P := PT) (Fr.sIr trivial)) (fun u4 h_u4 => ?_)
      refine eq_g (show zK u4 a0 = 8 from (h_u4.g 0 rfl)) ?_
      refine eq_g (show zK u4 a0 = 8 from (h_u4.g 0 rfl)) ?_
      refine eq_sH (h_u4.fr (P := PT) (Fr.sIr trivial)) (fun u5 h_u5 => ?_)
      rfl
