set_option maxRecDepth 20000 in
def hgX11_four_3 (N : Nat)   : Nat → Nat → Int32 → Int32 → SG → Option (Unit × SG)
  | 0, _, _, _, _ => none
  | n + 1, x0, x1, x2, u => if x2 < 0 then (some ((), u))
  else (if (zI u x0 1) < 0 ∨ 400 ≤ (zI u x0 1).toNatClampNeg then none else (bs (sI u (x0 + 1) (zI u x0 1).toNatClampNeg (vp_nar .byte ((x1 >>> (x2 &&& 31)).toInt8.toInt32))) fun u2 => (bs (sI u2 x0 1 ((zI u2 x0 1) + (1 : Int32))) fun u3 => ((hgX11_four_3 N   n) x0 x1 (x2 + (-8 : Int32)) u3))))
set_option maxRecDepth 20000 in
theorem egX11_four_3 (N : Nat)   : ∀ (n : Nat) (x0 : Nat) (x1 : Int32) (x2 : Int32) (u : SG), HK [(some x0, 12)] u → gX11_four_3 N   n x0 x1 x2 u = hgX11_four_3 N   n x0 x1 x2 u := by
  intro n
  induction n with
  | zero => intros; rfl
  | succ n ih =>
    intro x0 x1 x2 u h_u
    have hrc3 := ih
    rw [gX11_four_3, hgX11_four_3]
    refine eq_if ?_ ?_
    · rfl
    · refine eq_g (show zK u x0 = 12 from (h_u.g 0 rfl)) ?_
      refine eq_bR (show zR u x0 0 = some (x0 + 1) from lyR_12_0 h_u.1 (h_u.g 0 rfl)) ?_
      refine eq_g (show zK u x0 = 12 from (h_u.g 0 rfl)) ?_
      refine eq_g (show zK u (x0 + 1) = 21 from (lyK_12_0 h_u.1 (h_u.g 0 rfl))) ?_
      refine eq_ixh (show zN u (x0 + 1) = 400 from lyN_12_0 h_u.1 (h_u.g 0 rfl)) (fun hix1 => ?_)
      refine eq_sH (h_u.fr (P := PT) (Fr.sIr trivial)) (fun u2 h_u2 => ?_)
      refine eq_g (show zK u2 x0 = 12 from (h_u2.g 0 rfl)) ?_
      refine eq_g (show zK u2 x0 = 12 from (h_u2.g 0 rfl)) ?_
      refine eq_sH (h_u2.fr (P := PT) (Fr.sIr trivial)) (fun u3 h_u3 => ?_)
      exact hrc3 x0 x1 (x2 + (-8 : Int32)) u3 (hkc (show zK u3 x0 = 12 from (h_u3.g 0 rfl)) (hk0 h_u3.1))
set_option maxRecDepth 20000 in
def hX11_four (N : Nat)  (a0 : Nat) (p1 : Int32) (u : SG) : Option (Unit × SG) := hgX11_four_3 N   N a0 p1 (24 : Int32) u
set_option maxRecDepth 20000 in
theorem eX11_four (N : Nat)  (a0 : Nat) (p1 : Int32) (u : SG) (h_u : HK [(some a0, 12)] u) : fX11_four N  a0 p1 u = hX11_four N  a0 p1 u := by
  unfold fX11_four hX11_four
  exact egX11_four_3 N   N a0 p1 (24 : Int32) u (hkc (show zK u a0 = 12 from (h_u.g 0 rfl)) (hk0 h_u.1))
set_option maxRecDepth 20000 in
def hX11_feed (N : Nat)  (a0 : Nat) (p1 : Int32) (p2 : Int32) (p3 : Int32) (p4 : Int32) (p5 : Int32) (u : SG) : Option (Int32 × SG) := if ((zI u a0 1) + (20 : Int32)) ≤ (400 : Int32) then (cl (hX11_four N a0 p1 u) fun r1 u2 => (cl (hX11_four N a0 p2 u2) fun r3 u4 => (cl (hX11_four N a0 p3 u4) fun r5 u6 => (cl (hX11_four N a0 p4 u6) fun r7 u8 => (cl (hX11_four N a0 p5 u8) fun r9 u10 => (some (zI u10 a0 1, u10)))))))
  else (some ((-1 : Int32), u))
set_option maxRecDepth 20000 in
theorem eX11_feed (N : Nat)  (a0 : Nat) (p1 : Int32) (p2 : Int32) (p3 : Int32) (p4 : Int32) (p5 : Int32) (u : SG) (h_u : HK [(some a0, 12)] u) : fX11_feed N  a0 p1 p2 p3 p4 p5 u = hX11_feed N  a0 p1 p2 p3 p4 p5 u := by
  unfold fX11_feed hX11_feed
  refine eq_g (show zK u a0 = 12 from (h_u.g 0 rfl)) ?_
  refine eq_if ?_ ?_
  · refine eq_g (show zK u a0 = 12 from (h_u.g 0 rfl)) ?_
    refine eq_cH (eX11_four N a0 p1 u (hkc (show zK u a0 = 12 from (h_u.g 0 rfl)) (hk0 h_u.1))) (fun r1 u2 e9 => h_u.fr (fr_X11_four (P := PT) N a0 p1 u clPT trivial _ _ e9).1) (fun r1 u2 h_u2 => ?_)
    refine eq_g (show zK u2 a0 = 12 from (h_u2.g 0 rfl)) ?_
    refine eq_cH (eX11_four N a0 p2 u2 (hkc (show zK u2 a0 = 12 from (h_u2.g 0 rfl)) (hk0 h_u2.1))) (fun r3 u4 e9 => h_u2.fr (fr_X11_four (P := PT) N a0 p2 u2 clPT trivial _ _ e9).1) (fun r3 u4 h_u4 => ?_)
    refine eq_g (show zK u4 a0 = 12 from (h_u4.g 0 rfl)) ?_
    refine eq_cH (eX11_four N a0 p3 u4 (hkc (show zK u4 a0 = 12 from (h_u4.g 0 rfl)) (hk0 h_u4.1))) (fun r5 u6 e9 => h_u4.fr (fr_X11_four (P := PT) N a0 p3 u4 clPT trivial _ _ e9).1) (fun r5 u6 h_u6 => ?_)
    refine eq_g (show zK u6 a0 = 12 from (h_u6.g 0 rfl)) ?_
    refine eq_cH (eX11_four N a0 p4 u6 (hkc (show zK u6 a0 = 12 from (h_u6.g 0 rfl)) (hk0 h_u6.1))) (fun r7 u8 e9 => h_u6.fr (fr_X11_four (P := PT) N a0 p4 u6 clPT trivial _ _ e9).1) (fun r7 u8 h_u8 => ?_)
    refine eq_g (show zK u8 a0 = 12 from (h_u8.g 0 rfl)) ?_
    refine eq_cH (eX11_four N a0 p5 u8 (hkc (show zK u8 a0 = 12 from (h_u8.g 0 rfl)) (hk0 h_u8.1))) (fun r9 u10 e9 => h_u8.fr (fr_X11_four (P := PT) N a0 p5 u8 clPT trivial _ _ e9).1) (fun r9 u10 h_u10 => ?_)
    refine eq_g (show zK u10 a0 = 12 from (h_u10.g 0 rfl)) ?_
    rfl
  · rfl
set_option maxRecDepth 20000 in
def hX11_end (N : Nat)  (a0 : Nat) (p1 : Int32) (u : SG) : Option (Int32 × SG) := if p1 < 0 then (some ((-1 : Int32), u))
  else (if p1 ≤ (zI u a0 1) then (bs (sI u a0 1 p1) fun u1 => (some (p1, u1)))
  else (some ((-1 : Int32), u)))
set_option maxRecDepth 20000 in
theorem eX11_end (N : Nat)  (a0 : Nat) (p1 : Int32) (u : SG) (h_u : HK [(some a0, 12)] u) : fX11_end N  a0 p1 u = hX11_end N  a0 p1 u := by
  unfold fX11_end hX11_end
  refine eq_if ?_ ?_
  · rfl
  · refine eq_g (show zK u a0 = 12 from (h_u.g 0 rfl)) ?_
    refine eq_if ?_ ?_
    · refine eq_g (show zK u a0 = 12 from (h_u.g 0 rfl)) ?_
      refine eq_sH (h_u.fr (P := PT) (Fr.sIr trivial)) (fun u1 h_u1 => ?_)
      rfl
    · rfl
set_option maxRecDepth 20000 in
def hX11_fails (N : Nat)  (a0 : Nat) (p1 : Int32) (p2 : Int32) (u : SG) : Option (Int32 × SG) := if (zI u a0 9) = 0 then (bs (sI u a0 9 (((1 : Int32) + ((8 : Int32) * p2)) + p1)) fun u1 => (some ((0 : Int32), u1)))
  else (some ((0 : Int32), u))
set_option maxRecDepth 20000 in
theorem eX11_fails (N : Nat)  (a0 : Nat) (p1 : Int32) (p2 : Int32) (u : SG) (h_u : HK [(some a0, 12)] u) : fX11_fails N  a0 p1 p2 u = hX11_fails N  a0 p1 p2 u := by
  unfold fX11_fails hX11_fails
  refine eq_g (show zK u a0 = 12 from (h_u.g 0 rfl)) ?_
  refine eq_if ?_ ?_
  · refine eq_g (show zK u a0 = 12 from (h_u.g 0 rfl)) ?_
    refine eq_sH (h_u.fr (P := PT) (Fr.sIr trivial)) (fun u1 h_u1 => ?_)
    rfl
  · rfl
set_option maxRecDepth 20000 in
def hgX11_see_38 (N : Nat)   (x0 : Nat) (u : SG) : Option (Int32 × SG) := if (zI u x0 1) ≤ (zI u x0 8) then (some ((-1 : Int32), u))
  else (if (zI u x0 8) < 0 ∨ 400 ≤ (zI u x0 8).toNatClampNeg then none else (some ((zI u (x0 + 1) (zI u x0 8).toNatClampNeg) &&& (255 : Int32), u)))
set_option maxRecDepth 20000 in
theorem egX11_see_38 (N : Nat)   (x0 : Nat) (u : SG) (h_u : HK [(some x0, 12)] u) : gX11_see_38 N   x0 u = hgX11_see_38 N   x0 u := by
  unfold gX11_see_38 hgX11_see_38
  refine eq_g (show zK u x0 = 12 from (h_u.g 0 rfl)) ?_
  refine eq_g (show zK u x0 = 12 from (h_u.g 0 rfl)) ?_
  refine eq_if ?_ ?_
  · rfl
  · refine eq_g (show zK u x0 = 12 from (h_u.g 0 rfl)) ?_
    refine eq_bR (show zR u x0 0 = some (x0 + 1) from lyR_12_0 h_u.1 (h_u.g 0 rfl)) ?_
    refine eq_g (show zK u x0 = 12 from (h_u.g 0 rfl)) ?_
    refine eq_g (show zK u (x0 + 1) = 21 from (lyK_12_0 h_u.1 (h_u.g 0 rfl))) ?_
    refine eq_ixh (show zN u (x0 + 1) = 400 from lyN_12_0 h_u.1 (h_u.g 0 rfl)) (fun hix1 => ?_)
    rfl
set_option maxRecDepth 20000 in
def hgX11_see_0 (N : Nat)   : Nat → Nat → SG → Option (Int32 × SG)
  | 0, _, _ => none
  | n + 1, x0, u => if (zI u x0 1) ≤ (zI u x0 8) then (hgX11_see_38 N    x0 u)
  else (if (zI u x0 8) < 0 ∨ 400 ≤ (zI u x0 8).toNatClampNeg then none else (if (zI u (x0 + 1) (zI u x0 8).toNatClampNeg) = (32 : Int32) then (bs (sI u x0 8 ((zI u x0 8) + (1 : Int32))) fun u2 => ((hgX11_see_0 N   n) x0 u2))
  else (hgX11_see_38 N    x0 u)))
set_option maxRecDepth 20000 in
theorem egX11_see_0 (N : Nat)   : ∀ (n : Nat) (x0 : Nat) (u : SG), HK [(some x0, 12)] u → gX11_see_0 N   n x0 u = hgX11_see_0 N   n x0 u := by
  intro n
  induction n with
  | zero => intros; rfl
  | succ n ih =>
    intro x0 u h_u
    have hrc0 := ih
    rw [gX11_see_0, hgX11_see_0]
    refine eq_g (show zK u x0 = 12 from (h_u.g 0 rfl)) ?_
    refine eq_g (show zK u x0 = 12 from (h_u.g 0 rfl)) ?_
    refine eq_if ?_ ?_
    · exact egX11_see_38 N    x0 u (hkc (show zK u x0 = 12 from (h_u.g 0 rfl)) (hk0 h_u.1))
    · refine eq_g (show zK u x0 = 12 from (h_u.g 0 rfl)) ?_
      refine eq_bR (show zR u x0 0 = some (x0 + 1) from lyR_12_0 h_u.1 (h_u.g 0 rfl)) ?_
      refine eq_g (show zK u x0 = 12 from (h_u.g 0 rfl)) ?_
      refine eq_g (show zK u (x0 + 1) = 21 from (lyK_12_0 h_u.1 (h_u.g 0 rfl))) ?_
      refine eq_ixh (show zN u (x0 + 1) = 400 from lyN_12_0 h_u.1 (h_u.g 0 rfl)) (fun hix1 => ?_)
      refine eq_if ?_ ?_
      · refine eq_g (show zK u x0 = 12 from (h_u.g 0 rfl)) ?_
        refine eq_g (show zK u x0 = 12 from (h_u.g 0 rfl)) ?_
        refine eq_sH (h_u.fr (P := PT) (Fr.sIr trivial)) (fun u2 h_u2 => ?_)
        exact hrc0 x0 u2 (hkc (show zK u2 x0 = 12 from (h_u2.g 0 rfl)) (hk0 h_u2.1))
      · exact egX11_see_38 N    x0 u (hkc (show zK u x0 = 12 from (h_u.g 0 rfl)) (hk0 h_u.1))
set_option maxRecDepth 20000 in
def hX11_see (N : Nat)  (a0 : Nat) (u : SG) : Option (Int32 × SG) := hgX11_see_0 N   N a0 u
set_option maxRecDepth 20000 in
theorem eX11_see (N : Nat)  (a0 : Nat) (u : SG) (h_u : HK [(some a0, 12)] u) : fX11_see N  a0 u = hX11_see N  a0 u := by
  unfold fX11_see hX11_see
  exact egX11_see_0 N   N a0 u (hkc (show zK u a0 = 12 from (h_u.g 0 rfl)) (hk0 h_u.1))
set_option maxRecDepth 20000 in
def hX11_isDigit (N : Nat)  (a0 : Nat) (p1 : Int32) (u : SG) : Option (Int32 × SG) := if (zI u a0 1) ≤ p1 then (some ((0 : Int32), u))
  else (if p1 < 0 ∨ 400 ≤ p1.toNatClampNeg then none else (if (zI u (a0 + 1) p1.toNatClampNeg) < (48 : Int32) then (some ((0 : Int32), u))
  else (if p1 < 0 ∨ 400 ≤ p1.toNatClampNeg then none else (if (57 : Int32) < (zI u (a0 + 1) p1.toNatClampNeg) then (some ((0 : Int32), u))
  else (some ((1 : Int32), u))))))
set_option maxRecDepth 20000 in
theorem eX11_isDigit (N : Nat)  (a0 : Nat) (p1 : Int32) (u : SG) (h_u : HK [(some a0, 12)] u) : fX11_isDigit N  a0 p1 u = hX11_isDigit N  a0 p1 u := by
  unfold fX11_isDigit hX11_isDigit
  refine eq_g (show zK u a0 = 12 from (h_u.g 0 rfl)) ?_
  refine eq_if ?_ ?_
  · rfl
  · refine eq_g (show zK u a0 = 12 from (h_u.g 0 rfl)) ?_
    refine eq_bR (show zR u a0 0 = some (a0 + 1) from lyR_12_0 h_u.1 (h_u.g 0 rfl)) ?_
    refine eq_g (show zK u (a0 + 1) = 21 from (lyK_12_0 h_u.1 (h_u.g 0 rfl))) ?_
    refine eq_ixh (show zN u (a0 + 1) = 400 from lyN_12_0 h_u.1 (h_u.g 0 rfl)) (fun hix1 => ?_)
    refine eq_if ?_ ?_
    · rfl
    · refine eq_g (show zK u a0 = 12 from (h_u.g 0 rfl)) ?_
      refine eq_bR (show zR u a0 0 = some (a0 + 1) from lyR_12_0 h_u.1 (h_u.g 0 rfl)) ?_
      refine eq_g (show zK u (a0 + 1) = 21 from (lyK_12_0 h_u.1 (h_u.g 0 rfl))) ?_
      refine eq_ixh (show zN u (a0 + 1) = 400 from lyN_12_0 h_u.1 (h_u.g 0 rfl)) (fun hix2 => ?_)
      refine eq_if ?_ ?_
      · rfl
      · rfl
set_option maxRecDepth 20000 in
def hX11_isLetter (N : Nat)  (a0 : Nat) (p1 : Int32) (u : SG) : Option (Int32 × SG) := if (zI u a0 1) ≤ p1 then (some ((0 : Int32), u))
  else (if p1 < 0 ∨ 400 ≤ p1.toNatClampNeg then none else (if (zI u (a0 + 1) p1.toNatClampNeg) < (97 : Int32) then (some ((0 : Int32), u))
  else (if p1 < 0 ∨ 400 ≤ p1.toNatClampNeg then none else (if (122 : Int32) < (zI u (a0 + 1) p1.toNatClampNeg) then (some ((0 : Int32), u))
  else (some ((1 : Int32), u))))))
set_option maxRecDepth 20000 in
theorem eX11_isLetter (N : Nat)  (a0 : Nat) (p1 : Int32) (u : SG) (h_u : HK [(some a0, 12)] u) : fX11_isLetter N  a0 p1 u = hX11_isLetter N  a0 p1 u := by
  unfold fX11_isLetter hX11_isLetter
  refine eq_g (show zK u a0 = 12 from (h_u.g 0 rfl)) ?_
  refine eq_if ?_ ?_
  · rfl
  · refine eq_g (show zK u a0 = 12 from (h_u.g 0 rfl)) ?_
    refine eq_bR (show zR u a0 0 = some (a0 + 1) from lyR_12_0 h_u.1 (h_u.g 0 rfl)) ?_
    refine eq_g (show zK u (a0 + 1) = 21 from (lyK_12_0 h_u.1 (h_u.g 0 rfl))) ?_
    refine eq_ixh (show zN u (a0 + 1) = 400 from lyN_12_0 h_u.1 (h_u.g 0 rfl)) (fun hix1 => ?_)
    refine eq_if ?_ ?_
    · rfl
    · refine eq_g (show zK u a0 = 12 from (h_u.g 0 rfl)) ?_
      refine eq_bR (show zR u a0 0 = some (a0 + 1) from lyR_12_0 h_u.1 (h_u.g 0 rfl)) ?_
      refine eq_g (show zK u (a0 + 1) = 21 from (lyK_12_0 h_u.1 (h_u.g 0 rfl))) ?_
      refine eq_ixh (show zN u (a0 + 1) = 400 from lyN_12_0 h_u.1 (h_u.g 0 rfl)) (fun hix2 => ?_)
      refine eq_if ?_ ?_
      · rfl
      · rfl
set_option maxRecDepth 20000 in
def hgX11_isWord_10 (N : Nat)   : Nat → Nat → Int64 → Int64 → Int32 → SG → Option (Int32 × SG)
  | 0, _, _, _, _, _ => none
  | n + 1, x0, x1, x3, x5, u => cl (hX11_isLetter N x0 ((zI u x0 8) + x5) u) fun r1 u2 => (if r1 = 0 then (if x5 ≤ 0 then (some ((0 : Int32), u2))
  else (if (8 : Int32) ≤ x5 then (some ((0 : Int32), u2))
  else (if (lg_cmp x3 x1) = 0 then (some ((1 : Int32), u2))
  else (some ((0 : Int32), u2)))))
  else (if (8 : Int32) ≤ x5 then ((hgX11_isWord_10 N   n) x0 x1 x3 (x5 + (1 : Int32)) u2)
  else (if ((zI u2 x0 8) + x5) < 0 ∨ 400 ≤ ((zI u2 x0 8) + x5).toNatClampNeg then none else (bs ((x3 <<< ((8 : Int32).toInt64 &&& 63)) ||| ((zI u2 (x0 + 1) ((zI u2 x0 8) + x5).toNatClampNeg).toInt64)) fun v4 => ((hgX11_isWord_10 N   n) x0 x1 v4 (x5 + (1 : Int32)) u2)))))
set_option maxRecDepth 20000 in
theorem egX11_isWord_10 (N : Nat)   : ∀ (n : Nat) (x0 : Nat) (x1 : Int64) (x3 : Int64) (x5 : Int32) (u : SG), HK [(some x0, 12)] u → gX11_isWord_10 N   n x0 x1 x3 x5 u = hgX11_isWord_10 N   n x0 x1 x3 x5 u := by
  intro n
  induction n with
  | zero => intros; rfl
  | succ n ih =>
    intro x0 x1 x3 x5 u h_u
    have hrc10 := ih
    rw [gX11_isWord_10, hgX11_isWord_10]
    refine eq_g (show zK u x0 = 12 from (h_u.g 0 rfl)) ?_
    refine eq_g (show zK u x0 = 12 from (h_u.g 0 rfl)) ?_
    refine eq_cH (eX11_isLetter N x0 ((zI u x0 8) + x5) u (hkc (show zK u x0 = 12 from (h_u.g 0 rfl)) (hk0 h_u.1))) (fun r1 u2 e9 => h_u.fr (fr_X11_isLetter (P := PT) N x0 ((zI u x0 8) + x5) u clPT trivial _ _ e9).1) (fun r1 u2 h_u2 => ?_)
    refine eq_if ?_ ?_
    · refine eq_if ?_ ?_
      · rfl
      · refine eq_if ?_ ?_
        · rfl
        · refine eq_if ?_ ?_
          · rfl
          · rfl
    · refine eq_if ?_ ?_
      · exact hrc10 x0 x1 x3 (x5 + (1 : Int32)) u2 (hkc (show zK u2 x0 = 12 from (h_u2.g 0 rfl)) (hk0 h_u2.1))
      · refine eq_g (show zK u2 x0 = 12 from (h_u2.g 0 rfl)) ?_
        refine eq_bR (show zR u2 x0 0 = some (x0 + 1) from lyR_12_0 h_u2.1 (h_u2.g 0 rfl)) ?_
        refine eq_g (show zK u2 x0 = 12 from (h_u2.g 0 rfl)) ?_
        refine eq_g (show zK u2 (x0 + 1) = 21 from (lyK_12_0 h_u2.1 (h_u2.g 0 rfl))) ?_
        refine eq_ixh (show zN u2 (x0 + 1) = 400 from lyN_12_0 h_u2.1 (h_u2.g 0 rfl)) (fun hix1 => ?_)
        refine eq_bs (fun v4 => ?_)
        exact hrc10 x0 x1 v4 (x5 + (1 : Int32)) u2 (hkc (show zK u2 x0 = 12 from (h_u2.g 0 rfl)) (hk0 h_u2.1))
set_option maxRecDepth 20000 in
def hX11_isWord (N : Nat)  (a0 : Nat) (p1 : Int64) (u : SG) : Option (Int32 × SG) := cl (hX11_see N a0 u) fun r1 u2 => (hgX11_isWord_10 N   N a0 p1 (0 : Int64) (0 : Int32) u2)
set_option maxRecDepth 20000 in
theorem eX11_isWord (N : Nat)  (a0 : Nat) (p1 : Int64) (u : SG) (h_u : HK [(some a0, 12)] u) : fX11_isWord N  a0 p1 u = hX11_isWord N  a0 p1 u := by
  unfold fX11_isWord hX11_isWord
  refine eq_g (show zK u a0 = 12 from (h_u.g 0 rfl)) ?_
  refine eq_cH (eX11_see N a0 u (hkc (show zK u a0 = 12 from (h_u.g 0 rfl)) (hk0 h_u.1))) (fun r1 u2 e9 => h_u.fr (fr_X11_see (P := PT) N a0 u clPT trivial _ _ e9).1) (fun r1 u2 h_u2 => ?_)
  exact egX11_isWord_10 N   N a0 p1 (0 : Int64) (0 : Int32) u2 (hkc (show zK u2 a0 = 12 from (h_u2.g 0 rfl)) (hk0 h_u2.1))
set_option maxRecDepth 20000 in
def hgX11_passWord_0 (N : Nat)   : Nat → Nat → SG → Option (Unit × SG)
  | 0, _, _ => none
  | n + 1, x0, u => cl (hX11_isLetter N x0 (zI u x0 8) u) fun r1 u2 => (if r1 = 0 then (some ((), u2))
  else (bs (sI u2 x0 8 ((zI u2 x0 8) + (1 : Int32))) fun u3 => ((hgX11_passWord_0 N   n) x0 u3)))
set_option maxRecDepth 20000 in
theorem egX11_passWord_0 (N : Nat)   : ∀ (n : Nat) (x0 : Nat) (u : SG), HK [(some x0, 12)] u → gX11_passWord_0 N   n x0 u = hgX11_passWord_0 N   n x0 u := by
  intro n
  induction n with
  | zero => intros; rfl
  | succ n ih =>
    intro x0 u h_u
    have hrc0 := ih
    rw [gX11_passWord_0, hgX11_passWord_0]
    refine eq_g (show zK u x0 = 12 from (h_u.g 0 rfl)) ?_
    refine eq_g (show zK u x0 = 12 from (h_u.g 0 rfl)) ?_
    refine eq_cH (eX11_isLetter N x0 (zI u x0 8) u (hkc (show zK u x0 = 12 from (h_u.g 0 rfl)) (hk0 h_u.1))) (fun r1 u2 e9 => h_u.fr (fr_X11_isLetter (P := PT) N x0 (zI u x0 8) u clPT trivial _ _ e9).1) (fun r1 u2 h_u2 => ?_)
    refine eq_if ?_ ?_
    · rfl
    · refine eq_g (show zK u2 x0 = 12 from (h_u2.g 0 rfl)) ?_
      refine eq_g (show zK u2 x0 = 12 from (h_u2.g 0 rfl)) ?_
      refine eq_sH (h_u2.fr (P := PT) (Fr.sIr trivial)) (fun u3 h_u3 => ?_)
      exact hrc0 x0 u3 (hkc (show zK u3 x0 = 12 from (h_u3.g 0 rfl)) (hk0 h_u3.1))
set_option maxRecDepth 20000 in
def hX11_passWord (N : Nat)  (a0 : Nat) (u : SG) : Option (Unit × SG) := hgX11_passWord_0 N   N a0 u
set_option maxRecDepth 20000 in
theorem eX11_passWord (N : Nat)  (a0 : Nat) (u : SG) (h_u : HK [(some a0, 12)] u) : fX11_passWord N  a0 u = hX11_passWord N  a0 u := by
  unfold fX11_passWord hX11_passWord
  exact egX11_passWord_0 N   N a0 u (hkc (show zK u a0 = 12 from (h_u.g 0 rfl)) (hk0 h_u.1))
set_option maxRecDepth 20000 in
def hX11_takesWord (N : Nat)  (a0 : Nat) (p1 : Int64) (u : SG) : Option (Int32 × SG) := cl (hX11_isWord N a0 p1 u) fun r1 u2 => (if r1 = 0 then (some ((0 : Int32), u2))
  else (cl (hX11_passWord N a0 u2) fun r3 u4 => (some ((1 : Int32), u4))))
set_option maxRecDepth 20000 in
theorem eX11_takesWord (N : Nat)  (a0 : Nat) (p1 : Int64) (u : SG) (h_u : HK [(some a0, 12)] u) : fX11_takesWord N  a0 p1 u = hX11_takesWord N  a0 p1 u := by
  unfold fX11_takesWord hX11_takesWord
  refine eq_g (show zK u a0 = 12 from (h_u.g 0 rfl)) ?_
  refine eq_cH (eX11_isWord N a0 p1 u (hkc (show zK u a0 = 12 from (h_u.g 0 rfl)) (hk0 h_u.1))) (fun r1 u2 e9 => h_u.fr (fr_X11_isWord (P := PT) N a0 p1 u clPT trivial _ _ e9).1) (fun r1 u2 h_u2 => ?_)
  refine eq_if ?_ ?_
  · rfl
  · refine eq_g (show zK u2 a0 = 12 from (h_u2.g 0 rfl)) ?_
    refine eq_cH (eX11_passWord N a0 u2 (hkc (show zK u2 a0 = 12 from (h_u2.g 0 rfl)) (hk0 h_u2.1))) (fun r3 u4 e9 => h_u2.fr (fr_X11_passWord (P := PT) N a0 u2 clPT trivial _ _ e9).1) (fun r3 u4 h_u4 => ?_)
    rfl
set_option maxRecDepth 20000 in
def hgX11_numberHere_117 (N : Nat)   (x0 : Nat) (x3 : Int32) (u : SG) : Option (Int32 × SG) := cl (hX11_fails N x0 (1 : Int32) x3 u) fun r1 u2 => (if r1 = 0 then (some ((0 : Int32), u2))
  else (some ((1 : Int32), u2)))
set_option maxRecDepth 20000 in
theorem egX11_numberHere_117 (N : Nat)   (x0 : Nat) (x3 : Int32) (u : SG) (h_u : HK [(some x0, 12)] u) : gX11_numberHere_117 N   x0 x3 u = hgX11_numberHere_117 N   x0 x3 u := by
  unfold gX11_numberHere_117 hgX11_numberHere_117
  refine eq_g (show zK u x0 = 12 from (h_u.g 0 rfl)) ?_
  refine eq_cH (eX11_fails N x0 (1 : Int32) x3 u (hkc (show zK u x0 = 12 from (h_u.g 0 rfl)) (hk0 h_u.1))) (fun r1 u2 e9 => h_u.fr (fr_X11_fails (P := PT) N x0 (1 : Int32) x3 u clPT trivial _ _ e9).1) (fun r1 u2 h_u2 => ?_)
  refine eq_if ?_ ?_
  · rfl
  · rfl
set_option maxRecDepth 20000 in
def hgX11_numberHere_34 (N : Nat)   : Nat → Nat → Int32 → Int32 → Int32 → Int32 → SG → Option (Int32 × SG)
  | 0, _, _, _, _, _, _ => none
  | n + 1, x0, x1, x2, x3, x4, u => cl (hX11_isDigit N x0 (zI u x0 8) u) fun r1 u2 => (if r1 = 0 then (bs (sI u2 x0 10 x4) fun u3 => (if (5 : Int32) < ((zI u3 x0 8) - x3) then (hgX11_numberHere_117 N    x0 x3 u3)
  else (cl (fX11_in N x4.toInt64 x1.toInt64 x2.toInt64 u3) fun r4 u5 => (if r4 = 0 then (hgX11_numberHere_117 N    x0 x3 u5)
  else (some ((1 : Int32), u5))))))
  else (if (5 : Int32) ≤ ((zI u2 x0 8) - x3) then (bs (sI u2 x0 8 ((zI u2 x0 8) + (1 : Int32))) fun u6 => ((hgX11_numberHere_34 N   n) x0 x1 x2 x3 x4 u6))
  else (if (zI u2 x0 8) < 0 ∨ 400 ≤ (zI u2 x0 8).toNatClampNeg then none else (bs ((((10 : Int32) * x4) + (zI u2 (x0 + 1) (zI u2 x0 8).toNatClampNeg)) - (48 : Int32)) fun v8 => (bs (sI u2 x0 8 ((zI u2 x0 8) + (1 : Int32))) fun u9 => ((hgX11_numberHere_34 N   n) x0 x1 x2 x3 v8 u9))))))
set_option maxRecDepth 20000 in
theorem egX11_numberHere_34 (N : Nat)   : ∀ (n : Nat) (x0 : Nat) (x1 : Int32) (x2 : Int32) (x3 : Int32) (x4 : Int32) (u : SG), HK [(some x0, 12)] u → gX11_numberHere_34 N   n x0 x1 x2 x3 x4 u = hgX11_numberHere_34 N   n x0 x1 x2 x3 x4 u := by
  intro n
  induction n with
  | zero => intros; rfl
  | succ n ih =>
    intro x0 x1 x2 x3 x4 u h_u
    have hrc34 := ih
    rw [gX11_numberHere_34, hgX11_numberHere_34]
    refine eq_g (show zK u x0 = 12 from (h_u.g 0 rfl)) ?_
    refine eq_g (show zK u x0 = 12 from (h_u.g 0 rfl)) ?_
    refine eq_cH (eX11_isDigit N x0 (zI u x0 8) u (hkc (show zK u x0 = 12 from (h_u.g 0 rfl)) (hk0 h_u.1))) (fun r1 u2 e9 => h_u.fr (fr_X11_isDigit (P := PT) N x0 (zI u x0 8) u clPT trivial _ _ e9).1) (fun r1 u2 h_u2 => ?_)
    refine eq_if ?_ ?_
    · refine eq_g (show zK u2 x0 = 12 from (h_u2.g 0 rfl)) ?_
      refine eq_sH (h_u2.fr (P := PT) (Fr.sIr trivial)) (fun u3 h_u3 => ?_)
      refine eq_g (show zK u3 x0 = 12 from (h_u3.g 0 rfl)) ?_
      refine eq_if ?_ ?_
      · exact egX11_numberHere_117 N    x0 x3 u3 (hkc (show zK u3 x0 = 12 from (h_u3.g 0 rfl)) (hk0 h_u3.1))
      · refine eq_cH rfl (fun r4 u5 e9 => h_u3.fr (fr_X11_in (P := PT) N x4.toInt64 x1.toInt64 x2.toInt64 u3 clPT _ _ e9).1) (fun r4 u5 h_u5 => ?_)
        refine eq_if ?_ ?_
        · exact egX11_numberHere_117 N    x0 x3 u5 (hkc (show zK u5 x0 = 12 from (h_u5.g 0 rfl)) (hk0 h_u5.1))
        · rfl
    · refine eq_g (show zK u2 x0 = 12 from (h_u2.g 0 rfl)) ?_
      refine eq_if ?_ ?_
      · refine eq_g (show zK u2 x0 = 12 from (h_u2.g 0 rfl)) ?_
        refine eq_g (show zK u2 x0 = 12 from (h_u2.g 0 rfl)) ?_
        refine eq_sH (h_u2.fr (P := PT) (Fr.sIr trivial)) (fun u6 h_u6 => ?_)
        exact hrc34 x0 x1 x2 x3 x4 u6 (hkc (show zK u6 x0 = 12 from (h_u6.g 0 rfl)) (hk0 h_u6.1))
      · refine eq_g (show zK u2 x0 = 12 from (h_u2.g 0 rfl)) ?_
        refine eq_bR (show zR u2 x0 0 = some (x0 + 1) from lyR_12_0 h_u2.1 (h_u2.g 0 rfl)) ?_
        refine eq_g (show zK u2 x0 = 12 from (h_u2.g 0 rfl)) ?_
        refine eq_g (show zK u2 (x0 + 1) = 21 from (lyK_12_0 h_u2.1 (h_u2.g 0 rfl))) ?_
        refine eq_ixh (show zN u2 (x0 + 1) = 400 from lyN_12_0 h_u2.1 (h_u2.g 0 rfl)) (fun hix1 => ?_)
        refine eq_bs (fun v8 => ?_)
        refine eq_g (show zK u2 x0 = 12 from (h_u2.g 0 rfl)) ?_
        refine eq_g (show zK u2 x0 = 12 from (h_u2.g 0 rfl)) ?_
        refine eq_sH (h_u2.fr (P := PT) (Fr.sIr trivial)) (fun u9 h_u9 => ?_)
        exact hrc34 x0 x1 x2 x3 v8 u9 (hkc (show zK u9 x0 = 12 from (h_u9.g 0 rfl)) (hk0 h_u9.1))
set_option maxRecDepth 20000 in
def hX11_numberHere (N : Nat)  (a0 : Nat) (p1 : Int32) (p2 : Int32) (u : SG) : Option (Int32 × SG) := cl (hX11_see N a0 u) fun r1 u2 => (cl (hX11_isDigit N a0 (zI u2 a0 8) u2) fun r3 u4 => (if r3 = 0 then (cl (hX11_fails N a0 (0 : Int32) (zI u4 a0 8) u4) fun r6 u7 => (if r6 = 0 ∨ r6 = 1 then (some (r6, u7))
  else (none)))
  else (bs (zI u4 a0 8) fun v5 => (hgX11_numberHere_34 N   N a0 p1 p2 v5 (0 : Int32) u4))))
set_option maxRecDepth 20000 in
theorem eX11_numberHere (N : Nat)  (a0 : Nat) (p1 : Int32) (p2 : Int32) (u : SG) (h_u : HK [(some a0, 12)] u) : fX11_numberHere N  a0 p1 p2 u = hX11_numberHere N  a0 p1 p2 u := by
  unfold fX11_numberHere hX11_numberHere
  refine eq_g (show zK u a0 = 12 from (h_u.g 0 rfl)) ?_
  refine eq_cH (eX11_see N a0 u (hkc (show zK u a0 = 12 from (h_u.g 0 rfl)) (hk0 h_u.1))) (fun r1 u2 e9 => h_u.fr (fr_X11_see (P := PT) N a0 u clPT trivial _ _ e9).1) (fun r1 u2 h_u2 => ?_)
  refine eq_g (show zK u2 a0 = 12 from (h_u2.g 0 rfl)) ?_
  refine eq_g (show zK u2 a0 = 12 from (h_u2.g 0 rfl)) ?_
  refine eq_cH (eX11_isDigit N a0 (zI u2 a0 8) u2 (hkc (show zK u2 a0 = 12 from (h_u2.g 0 rfl)) (hk0 h_u2.1))) (fun r3 u4 e9 => h_u2.fr (fr_X11_isDigit (P := PT) N a0 (zI u2 a0 8) u2 clPT trivial _ _ e9).1) (fun r3 u4 h_u4 => ?_)
  refine eq_if ?_ ?_
  · refine eq_g (show zK u4 a0 = 12 from (h_u4.g 0 rfl)) ?_
    refine eq_g (show zK u4 a0 = 12 from (h_u4.g 0 rfl)) ?_
    refine eq_cH (eX11_fails N a0 (0 : Int32) (zI u4 a0 8) u4 (hkc (show zK u4 a0 = 12 from (h_u4.g 0 rfl)) (hk0 h_u4.1))) (fun r6 u7 e9 => h_u4.fr (fr_X11_fails (P := PT) N a0 (0 : Int32) (zI u4 a0 8) u4 clPT trivial _ _ e9).1) (fun r6 u7 h_u7 => ?_)
    refine eq_if ?_ ?_
    · rfl
    · rfl
  · refine eq_g (show zK u4 a0 = 12 from (h_u4.g 0 rfl)) ?_
    refine eq_bs (fun v5 => ?_)
    exact egX11_numberHere_34 N   N a0 p1 p2 v5 (0 : Int32) u4 (hkc (show zK u4 a0 = 12 from (h_u4.g 0 rfl)) (hk0 h_u4.1))
set_option maxRecDepth 20000 in
def hX11_wordHere (N : Nat)  (a0 : Nat) (u : SG) : Option (Int32 × SG) := cl (hX11_isWord N a0 (123581014175598 : Int64) u) fun r1 u2 => (if r1 = 0 then (cl (hX11_isWord N a0 (1752135026 : Int64) u2) fun r3 u4 => (if r3 = 0 then (cl (hX11_isWord N a0 (474214787188 : Int64) u4) fun r5 u6 => (if r5 = 0 then (cl (hX11_isWord N a0 (1852138852 : Int64) u6) fun r7 u8 => (if r7 = 0 then (cl (hX11_isWord N a0 (512970880104 : Int64) u8) fun r9 u10 => (if r9 = 0 then (cl (hX11_isWord N a0 (495739826292 : Int64) u10) fun r11 u12 => (if r11 = 0 then (cl (hX11_isWord N a0 (1818584692 : Int64) u12) fun r13 u14 => (if r13 = 0 then (cl (hX11_isWord N a0 (1668248436 : Int64) u14) fun r15 u16 => (if r15 = 0 then (cl (hX11_isWord N a0 (122545758368371 : Int64) u16) fun r17 u18 => (if r17 = 0 then (cl (hX11_isWord N a0 (107148367717744 : Int64) u18) fun r19 u20 => (if r19 = 0 then (cl (hX11_isWord N a0 (1870095716 : Int64) u20) fun r21 u22 => (if r21 = 0 then (cl (hX11_isWord N a0 (1684365940 : Int64) u22) fun r23 u24 => (if r23 = 0 then (cl (hX11_isWord N a0 (7305070 : Int64) u24) fun r25 u26 => (if r25 = 0 then (some ((-1 : Int32), u26))
  else (some ((12 : Int32), u26))))
  else (some ((11 : Int32), u24))))
  else (some ((10 : Int32), u22))))
  else (some ((9 : Int32), u20))))
  else (some ((8 : Int32), u18))))
  else (some ((7 : Int32), u16))))
  else (some ((6 : Int32), u14))))
  else (some ((5 : Int32), u12))))
  else (some ((4 : Int32), u10))))
  else (some ((3 : Int32), u8))))
  else (some ((2 : Int32), u6))))
  else (some ((1 : Int32), u4))))
  else (some ((0 : Int32), u2)))
set_option maxRecDepth 20000 in
theorem eX11_wordHere (N : Nat)  (a0 : Nat) (u : SG) (h_u : HK [(some a0, 12)] u) : fX11_wordHere N  a0 u = hX11_wordHere N  a0 u := by
  unfold fX11_wordHere hX11_wordHere
  refine eq_g (show zK u a0 = 12 from (h_u.g 0 rfl)) ?_
  refine eq_cH (eX11_isWord N a0 (123581014175598 : Int64) u (hkc (show zK u a0 = 12 from (h_u.g 0 rfl)) (hk0 h_u.1))) (fun r1 u2 e9 => h_u.fr (fr_X11_isWord (P := PT) N a0 (123581014175598 : Int64) u clPT trivial _ _ e9).1) (fun r1 u2 h_u2 => ?_)
  refine eq_if ?_ ?_
  · refine eq_g (show zK u2 a0 = 12 from (h_u2.g 0 rfl)) ?_
    refine eq_cH (eX11_isWord N a0 (1752135026 : Int64) u2 (hkc (show zK u2 a0 = 12 from (h_u2.g 0 rfl)) (hk0 h_u2.1))) (fun r3 u4 e9 => h_u2.fr (fr_X11_isWord (P := PT) N a0 (1752135026 : Int64) u2 clPT trivial _ _ e9).1) (fun r3 u4 h_u4 => ?_)
    refine eq_if ?_ ?_
    · refine eq_g (show zK u4 a0 = 12 from (h_u4.g 0 rfl)) ?_
      refine eq_cH (eX11_isWord N a0 (474214787188 : Int64) u4 (hkc (show zK u4 a0 = 12 from (h_u4.g 0 rfl)) (hk0 h_u4.1))) (fun r5 u6 e9 => h_u4.fr (fr_X11_isWord (P := PT) N a0 (474214787188 : Int64) u4 clPT trivial _ _ e9).1) (fun r5 u6 h_u6 => ?_)
      refine eq_if ?_ ?_
      · refine eq_g (show zK u6 a0 = 12 from (h_u6.g 0 rfl)) ?_
        refine eq_cH (eX11_isWord N a0 (1852138852 : Int64) u6 (hkc (show zK u6 a0 = 12 from (h_u6.g 0 rfl)) (hk0 h_u6.1))) (fun r7 u8 e9 => h_u6.fr (fr_X11_isWord (P := PT) N a0 (1852138852 : Int64) u6 clPT trivial _ _ e9).1) (fun r7 u8 h_u8 => ?_)
        refine eq_if ?_ ?_
        · refine eq_g (show zK u8 a0 = 12 from (h_u8.g 0 rfl)) ?_
          refine eq_cH (eX11_isWord N a0 (512970880104 : Int64) u8 (hkc (show zK u8 a0 = 12 from (h_u8.g 0 rfl)) (hk0 h_u8.1))) (fun r9 u10 e9 => h_u8.fr (fr_X11_isWord (P := PT) N a0 (512970880104 : Int64) u8 clPT trivial _ _ e9).1) (fun r9 u10 h_u10 => ?_)
          refine eq_if ?_ ?_
          · refine eq_g (show zK u10 a0 = 12 from (h_u10.g 0 rfl)) ?_
            refine eq_cH (eX11_isWord N a0 (495739826292 : Int64) u10 (hkc (show zK u10 a0 = 12 from (h_u10.g 0 rfl)) (hk0 h_u10.1))) (fun r11 u12 e9 => h_u10.fr (fr_X11_isWord (P := PT) N a0 (495739826292 : Int64) u10 clPT trivial _ _ e9).1) (fun r11 u12 h_u12 => ?_)
            refine eq_if ?_ ?_
            · refine eq_g (show zK u12 a0 = 12 from (h_u12.g 0 rfl)) ?_
              refine eq_cH (eX11_isWord N a0 (1818584692 : Int64) u12 (hkc (show zK u12 a0 = 12 from (h_u12.g 0 rfl)) (hk0 h_u12.1))) (fun r13 u14 e9 => h_u12.fr (fr_X11_isWord (P := PT) N a0 (1818584692 : Int64) u12 clPT trivial _ _ e9).1) (fun r13 u14 h_u14 => ?_)
              refine eq_if ?_ ?_
              · refine eq_g (show zK u14 a0 = 12 from (h_u14.g 0 rfl)) ?_
                refine eq_cH (eX11_isWord N a0 (1668248436 : Int64) u14 (hkc (show zK u14 a0 = 12 from (h_u14.g 0 rfl)) (hk0 h_u14.1))) (fun r15 u16 e9 => h_u14.fr (fr_X11_isWord (P := PT) N a0 (1668248436 : Int64) u14 clPT trivial _ _ e9).1) (fun r15 u16 h_u16 => ?_)
                refine eq_if ?_ ?_
                · refine eq_g (show zK u16 a0 = 12 from (h_u16.g 0 rfl)) ?_
                  refine eq_cH (eX11_isWord N a0 (122545758368371 : Int64) u16 (hkc (show zK u16 a0 = 12 from (h_u16.g 0 rfl)) (hk0 h_u16.1))) (fun r17 u18 e9 => h_u16.fr (fr_X11_isWord (P := PT) N a0 (122545758368371 : Int64) u16 clPT trivial _ _ e9).1) (fun r17 u18 h_u18 => ?_)
                  refine eq_if ?_ ?_
                  · refine eq_g (show zK u18 a0 = 12 from (h_u18.g 0 rfl)) ?_
                    refine eq_cH (eX11_isWord N a0 (107148367717744 : Int64) u18 (hkc (show zK u18 a0 = 12 from (h_u18.g 0 rfl)) (hk0 h_u18.1))) (fun r19 u20 e9 => h_u18.fr (fr_X11_isWord (P := PT) N a0 (107148367717744 : Int64) u18 clPT trivial _ _ e9).1) (fun r19 u20 h_u20 => ?_)
                    refine eq_if ?_ ?_
                    · refine eq_g (show zK u20 a0 = 12 from (h_u20.g 0 rfl)) ?_
                      refine eq_cH (eX11_isWord N a0 (1870095716 : Int64) u20 (hkc (show zK u20 a0 = 12 from (h_u20.g 0 rfl)) (hk0 h_u20.1))) (fun r21 u22 e9 => h_u20.fr (fr_X11_isWord (P := PT) N a0 (1870095716 : Int64) u20 clPT trivial _ _ e9).1) (fun r21 u22 h_u22 => ?_)
                      refine eq_if ?_ ?_
                      · refine eq_g (show zK u22 a0 = 12 from (h_u22.g 0 rfl)) ?_
                        refine eq_cH (eX11_isWord N a0 (1684365940 : Int64) u22 (hkc (show zK u22 a0 = 12 from (h_u22.g 0 rfl)) (hk0 h_u22.1))) (fun r23 u24 e9 => h_u22.fr (fr_X11_isWord (P := PT) N a0 (1684365940 : Int64) u22 clPT trivial _ _ e9).1) (fun r23 u24 h_u24 => ?_)
                        refine eq_if ?_ ?_
                        · refine eq_g (show zK u24 a0 = 12 from (h_u24.g 0 rfl)) ?_
                          refine eq_cH (eX11_isWord N a0 (7305070 : Int64) u24 (hkc (show zK u24 a0 = 12 from (h_u24.g 0 rfl)) (hk0 h_u24.1))) (fun r25 u26 e9 => h_u24.fr (fr_X11_isWord (P := PT) N a0 (7305070 : Int64) u24 clPT trivial _ _ e9).1) (fun r25 u26 h_u26 => ?_)
                          refine eq_if ?_ ?_
                          · rfl
                          · rfl
                        · rfl
                      · rfl
                    · rfl
                  · rfl
                · rfl
              · rfl
            · rfl
          · rfl
        · rfl
      · rfl
    · rfl
  · rfl
set_option maxRecDepth 20000 in
def hX11_puts (N : Nat)  (a0 : Nat) (p1 : Int32) (p2 : Int32) (u : SG) : Option (Unit × SG) := if (zI u a0 11) < 0 ∨ 7 ≤ (zI u a0 11).toNatClampNeg then none else (if (((400 : Int32) * (zI u a0 11)) + (zI u (a0 + 3) (zI u a0 11).toNatClampNeg)) < 0 ∨ 2400 ≤ (((400 : Int32) * (zI u a0 11)) + (zI u (a0 + 3) (zI u a0 11).toNatClampNeg)).toNatClampNeg then none else (bs (sI u (a0 + 2) (((400 : Int32) * (zI u a0 11)) + (zI u (a0 + 3) (zI u a0 11).toNatClampNeg)).toNatClampNeg (p1 + ((16 : Int32) * p2))) fun u3 => (if (zI u3 a0 11) < 0 ∨ 7 ≤ (zI u3 a0 11).toNatClampNeg then none else (if (zI u3 a0 11) < 0 ∨ 7 ≤ (zI u3 a0 11).toNatClampNeg then none else (bs (sI u3 (a0 + 3) (zI u3 a0 11).toNatClampNeg ((zI u3 (a0 + 3) (zI u3 a0 11).toNatClampNeg) + (1 : Int32))) fun u5 => (some ((), u5)))))))
set_option maxRecDepth 20000 in
theorem eX11_puts (N : Nat)  (a0 : Nat) (p1 : Int32) (p2 : Int32) (u : SG) (h_u : HK [(some a0, 12)] u) : fX11_puts N  a0 p1 p2 u = hX11_puts N  a0 p1 p2 u := by
  unfold fX11_puts hX11_puts
  refine eq_g (show zK u a0 = 12 from (h_u.g 0 rfl)) ?_
  refine eq_bR (show zR u a0 3 = some (a0 + 2) from lyR_12_3 h_u.1 (h_u.g 0 rfl)) ?_
  refine eq_g (show zK u a0 = 12 from (h_u.g 0 rfl)) ?_
  refine eq_g (show zK u a0 = 12 from (h_u.g 0 rfl)) ?_
  refine eq_bR (show zR u a0 4 = some (a0 + 3) from lyR_12_4 h_u.1 (h_u.g 0 rfl)) ?_
  refine eq_g (show zK u a0 = 12 from (h_u.g 0 rfl)) ?_
  refine eq_g (show zK u (a0 + 3) = 22 from (lyK_12_4 h_u.1 (h_u.g 0 rfl))) ?_
  refine eq_ixh (show zN u (a0 + 3) = 7 from lyN_12_4 h_u.1 (h_u.g 0 rfl)) (fun hix1 => ?_)
  refine eq_g (show zK u (a0 + 2) = 22 from (lyK_12_3 h_u.1 (h_u.g 0 rfl))) ?_
  refine eq_ixh (show zN u (a0 + 2) = 2400 from lyN_12_3 h_u.1 (h_u.g 0 rfl)) (fun hix2 => ?_)
  refine eq_sH (h_u.fr (P := PT) (Fr.sIr trivial)) (fun u3 h_u3 => ?_)
  refine eq_g (show zK u3 a0 = 12 from (h_u3.g 0 rfl)) ?_
  refine eq_bR (show zR u3 a0 4 = some (a0 + 3) from lyR_12_4 h_u3.1 (h_u3.g 0 rfl)) ?_
  refine eq_g (show zK u3 a0 = 12 from (h_u3.g 0 rfl)) ?_
  refine eq_g (show zK u3 (a0 + 3) = 22 from (lyK_12_4 h_u3.1 (h_u3.g 0 rfl))) ?_
  refine eq_ixh (show zN u3 (a0 + 3) = 7 from lyN_12_4 h_u3.1 (h_u3.g 0 rfl)) (fun hix3 => ?_)
  refine eq_g (show zK u3 (a0 + 3) = 22 from (lyK_12_4 h_u3.1 (h_u3.g 0 rfl))) ?_
  refine eq_ixh (show zN u3 (a0 + 3) = 7 from lyN_12_4 h_u3.1 (h_u3.g 0 rfl)) (fun hix4 => ?_)
  refine eq_sH (h_u3.fr (P := PT) (Fr.sIr trivial)) (fun u5 h_u5 => ?_)
  rfl
set_option maxRecDepth 20000 in
def hX11_makes (N : Nat)  (a0 : Nat) (p1 : Int32) (u : SG) : Option (Int32 × SG) := if (zI u a0 12) = (60 : Int32) then (cl (hX11_fails N a0 (3 : Int32) p1 u) fun r2 u3 => (if r2 = 0 ∨ r2 = 1 then (some (r2, u3))
  else (none)))
  else (bs (sI u a0 12 ((zI u a0 12) + (1 : Int32))) fun u1 => (some ((1 : Int32), u1)))
set_option maxRecDepth 20000 in
theorem eX11_makes (N : Nat)  (a0 : Nat) (p1 : Int32) (u : SG) (h_u : HK [(some a0, 12)] u) : fX11_makes N  a0 p1 u = hX11_makes N  a0 p1 u := by
  unfold fX11_makes hX11_makes
  refine eq_g (show zK u a0 = 12 from (h_u.g 0 rfl)) ?_
  refine eq_if ?_ ?_
  · refine eq_g (show zK u a0 = 12 from (h_u.g 0 rfl)) ?_
    refine eq_cH (eX11_fails N a0 (3 : Int32) p1 u (hkc (show zK u a0 = 12 from (h_u.g 0 rfl)) (hk0 h_u.1))) (fun r2 u3 e9 => h_u.fr (fr_X11_fails (P := PT) N a0 (3 : Int32) p1 u clPT trivial _ _ e9).1) (fun r2 u3 h_u3 => ?_)
    refine eq_if ?_ ?_
    · rfl
    · rfl
  · refine eq_g (show zK u a0 = 12 from (h_u.g 0 rfl)) ?_
    refine eq_g (show zK u a0 = 12 from (h_u.g 0 rfl)) ?_
    refine eq_sH (h_u.fr (P := PT) (Fr.sIr trivial)) (fun u1 h_u1 => ?_)
    rfl
set_option maxRecDepth 20000 in
def hX11_opens (N : Nat)  (a0 : Nat) (p1 : Int32) (u : SG) : Option (Int32 × SG) := if (zI u a0 13) = (10 : Int32) then (cl (hX11_fails N a0 (2 : Int32) (zI u a0 8) u) fun r5 u6 => (if r5 = 0 ∨ r5 = 1 then (some (r5, u6))
  else (none)))
  else (bs (sI u a0 13 ((zI u a0 13) + (1 : Int32))) fun u1 => (if (zI u1 a0 16) < 0 ∨ 400 ≤ (zI u1 a0 16).toNatClampNeg then none else (bs (sI u1 (a0 + 7) (zI u1 a0 16).toNatClampNeg p1) fun u3 => (bs (sI u3 a0 16 ((zI u3 a0 16) + (1 : Int32))) fun u4 => (some ((1 : Int32), u4))))))
set_option maxRecDepth 20000 in
theorem eX11_opens (N : Nat)  (a0 : Nat) (p1 : Int32) (u : SG) (h_u : HK [(some a0, 12)] u) : fX11_opens N  a0 p1 u = hX11_opens N  a0 p1 u := by
  unfold fX11_opens hX11_opens
  refine eq_g (show zK u a0 = 12 from (h_u.g 0 rfl)) ?_
  refine eq_if ?_ ?_
  · refine eq_g (show zK u a0 = 12 from (h_u.g 0 rfl)) ?_
    refine eq_g (show zK u a0 = 12 from (h_u.g 0 rfl)) ?_
    refine eq_cH (eX11_fails N a0 (2 : Int32) (zI u a0 8) u (hkc (show zK u a0 = 12 from (h_u.g 0 rfl)) (hk0 h_u.1))) (fun r5 u6 e9 => h_u.fr (fr_X11_fails (P := PT) N a0 (2 : Int32) (zI u a0 8) u clPT trivial _ _ e9).1) (fun r5 u6 h_u6 => ?_)
    refine eq_if ?_ ?_
    · rfl
    · rfl
  · refine eq_g (show zK u a0 = 12 from (h_u.g 0 rfl)) ?_
    refine eq_g (show zK u a0 = 12 from (h_u.g 0 rfl)) ?_
    refine eq_sH (h_u.fr (P := PT) (Fr.sIr trivial)) (fun u1 h_u1 => ?_)
    refine eq_g (show zK u1 a0 = 12 from (h_u1.g 0 rfl)) ?_
    refine eq_bR (show zR u1 a0 15 = some (a0 + 7) from lyR_12_15 h_u1.1 (h_u1.g 0 rfl)) ?_
    refine eq_g (show zK u1 a0 = 12 from (h_u1.g 0 rfl)) ?_
    refine eq_g (show zK u1 (a0 + 7) = 22 from (lyK_12_15 h_u1.1 (h_u1.g 0 rfl))) ?_
    refine eq_ixh (show zN u1 (a0 + 7) = 400 from lyN_12_15 h_u1.1 (h_u1.g 0 rfl)) (fun hix1 => ?_)
    refine eq_sH (h_u1.fr (P := PT) (Fr.sIr trivial)) (fun u3 h_u3 => ?_)
    refine eq_g (show zK u3 a0 = 12 from (h_u3.g 0 rfl)) ?_
    refine eq_g (show zK u3 a0 = 12 from (h_u3.g 0 rfl)) ?_
    refine eq_sH (h_u3.fr (P := PT) (Fr.sIr trivial)) (fun u4 h_u4 => ?_)
    rfl
set_option maxRecDepth 20000 in
def hgX11_settles_0 (N : Nat)   : Nat → Nat → Int32 → SG → Option (Unit × SG)
  | 0, _, _, _ => none
  | n + 1, x0, x1, u => if (zI u x0 16) ≤ 0 then (some ((), u))
  else (if ((zI u x0 16) - (1 : Int32)) < 0 ∨ 400 ≤ ((zI u x0 16) - (1 : Int32)).toNatClampNeg then none else (cl (fX11_strength N (zI u (x0 + 7) ((zI u x0 16) - (1 : Int32)).toNatClampNeg) u) fun r2 u3 => (if r2 < x1 then (some ((), u3))
  else (bs (sI u3 x0 16 ((zI u3 x0 16) - (1 : Int32))) fun u4 => (if (zI u4 x0 16) < 0 ∨ 400 ≤ (zI u4 x0 16).toNatClampNeg then none else (cl (hX11_puts N x0 (zI u4 (x0 + 7) (zI u4 x0 16).toNatClampNeg) (0 : Int32) u4) fun r6 u7 => (if (zI u7 x0 16) < 0 ∨ 400 ≤ (zI u7 x0 16).toNatClampNeg then none else (if (zI u7 (x0 + 7) (zI u7 x0 16).toNatClampNeg) = (11 : Int32) then (bs (sI u7 x0 13 ((zI u7 x0 13) - (1 : Int32))) fun u9 => ((hgX11_settles_0 N   n) x0 x1 u9))
  else ((hgX11_settles_0 N   n) x0 x1 u7)))))))))
set_option maxRecDepth 20000 in
theorem egX11_settles_0 (N : Nat)   : ∀ (n : Nat) (x0 : Nat) (x1 : Int32) (u : SG), HK [(some x0, 12)] u → gX11_settles_0 N   n x0 x1 u = hgX11_settles_0 N   n x0 x1 u := by
  intro n
  induction n with
  | zero => intros; rfl
  | succ n ih =>
    intro x0 x1 u h_u
    have hrc0 := ih
    rw [gX11_settles_0, hgX11_settles_0]
    refine eq_g (show zK u x0 = 12 from (h_u.g 0 rfl)) ?_
    refine eq_if ?_ ?_
    · rfl
    · refine eq_g (show zK u x0 = 12 from (h_u.g 0 rfl)) ?_
      refine eq_bR (show zR u x0 15 = some (x0 + 7) from lyR_12_15 h_u.1 (h_u.g 0 rfl)) ?_
      refine eq_g (show zK u x0 = 12 from (h_u.g 0 rfl)) ?_
      refine eq_g (show zK u (x0 + 7) = 22 from (lyK_12_15 h_u.1 (h_u.g 0 rfl))) ?_
      refine eq_ixh (show zN u (x0 + 7) = 400 from lyN_12_15 h_u.1 (h_u.g 0 rfl)) (fun hix1 => ?_)
      refine eq_cH rfl (fun r2 u3 e9 => h_u.fr (fr_X11_strength (P := PT) N (zI u (x0 + 7) ((zI u x0 16) - (1 : Int32)).toNatClampNeg) u clPT _ _ e9).1) (fun r2 u3 h_u3 => ?_)
      refine eq_if ?_ ?_
      · rfl
      · refine eq_g (show zK u3 x0 = 12 from (h_u3.g 0 rfl)) ?_
        refine eq_g (show zK u3 x0 = 12 from (h_u3.g 0 rfl)) ?_
        refine eq_sH (h_u3.fr (P := PT) (Fr.sIr trivial)) (fun u4 h_u4 => ?_)
        refine eq_g (show zK u4 x0 = 12 from (h_u4.g 0 rfl)) ?_
        refine eq_bR (show zR u4 x0 15 = some (x0 + 7) from lyR_12_15 h_u4.1 (h_u4.g 0 rfl)) ?_
        refine eq_g (show zK u4 x0 = 12 from (h_u4.g 0 rfl)) ?_
        refine eq_g (show zK u4 (x0 + 7) = 22 from (lyK_12_15 h_u4.1 (h_u4.g 0 rfl))) ?_
        refine eq_ixh (show zN u4 (x0 + 7) = 400 from lyN_12_15 h_u4.1 (h_u4.g 0 rfl)) (fun hix2 => ?_)
        refine eq_g (show zK u4 x0 = 12 from (h_u4.g 0 rfl)) ?_
        refine eq_cH (eX11_puts N x0 (zI u4 (x0 + 7) (zI u4 x0 16).toNatClampNeg) (0 : Int32) u4 (hkc (show zK u4 x0 = 12 from (h_u4.g 0 rfl)) (hk0 h_u4.1))) (fun r6 u7 e9 => h_u4.fr (fr_X11_puts (P := PT) N x0 (zI u4 (x0 + 7) (zI u4 x0 16).toNatClampNeg) (0 : Int32) u4 clPT trivial _ _ e9).1) (fun r6 u7 h_u7 => ?_)
        refine eq_g (show zK u7 x0 = 12 from (h_u7.g 0 rfl)) ?_
        refine eq_bR (show zR u7 x0 15 = some (x0 + 7) from lyR_12_15 h_u7.1 (h_u7.g 0 rfl)) ?_
        refine eq_g (show zK u7 x0 = 12 from (h_u7.g 0 rfl)) ?_
        refine eq_g (show zK u7 (x0 + 7) = 22 from (lyK_12_15 h_u7.1 (h_u7.g 0 rfl))) ?_
        refine eq_ixh (show zN u7 (x0 + 7) = 400 from lyN_12_15 h_u7.1 (h_u7.g 0 rfl)) (fun hix3 => ?_)
        refine eq_if ?_ ?_
        · refine eq_g (show zK u7 x0 = 12 from (h_u7.g 0 rfl)) ?_
          refine eq_g (show zK u7 x0 = 12 from (h_u7.g 0 rfl)) ?_
          refine eq_sH (h_u7.fr (P := PT) (Fr.sIr trivial)) (fun u9 h_u9 => ?_)
          exact hrc0 x0 x1 u9 (hkc (show zK u9 x0 = 12 from (h_u9.g 0 rfl)) (hk0 h_u9.1))
        · exact hrc0 x0 x1 u7 (hkc (show zK u7 x0 = 12 from (h_u7.g 0 rfl)) (hk0 h_u7.1))
set_option maxRecDepth 20000 in
def hX11_settles (N : Nat)  (a0 : Nat) (p1 : Int32) (u : SG) : Option (Unit × SG) := hgX11_settles_0 N   N a0 p1 u
set_option maxRecDepth 20000 in
theorem eX11_settles (N : Nat)  (a0 : Nat) (p1 : Int32) (u : SG) (h_u : HK [(some a0, 12)] u) : fX11_settles N  a0 p1 u = hX11_settles N  a0 p1 u := by
  unfold fX11_settles hX11_settles
  exact egX11_settles_0 N   N a0 p1 u (hkc (show zK u a0 = 12 from (h_u.g 0 rfl)) (hk0 h_u.1))
set_option maxRecDepth 20000 in
def hX11_value (N : Nat)  (a0 : Nat) (u : SG) : Option (Int32 × SG) := cl (hX11_see N a0 u) fun r1 u2 => (bs (zI u2 a0 8) fun v3 => (cl (hX11_isDigit N a0 (zI u2 a0 8) u2) fun r4 u5 => (if r4 = 0 then (cl (hX11_wordHere N a0 u5) fun r6 u7 => (if 0 ≤ r6 then (cl (hX11_makes N a0 v3 u7) fun r8 u9 => (if r8 = 0 then (some ((0 : Int32), u9))
  else (cl (hX11_passWord N a0 u9) fun r10 u11 => (cl (hX11_puts N a0 (1 : Int32) r6 u11) fun r12 u13 => (some ((1 : Int32), u13))))))
  else (cl (hX11_fails N a0 (0 : Int32) v3 u7) fun r14 u15 => (if r14 = 0 ∨ r14 = 1 then (some (r14, u15))
  else (none)))))
  else (cl (hX11_numberHere N a0 (0 : Int32) (99999 : Int32) u5) fun r16 u17 => (if r16 = 0 then (some ((0 : Int32), u17))
  else (cl (hX11_makes N a0 v3 u17) fun r18 u19 => (if r18 = 0 then (some ((0 : Int32), u19))
  else (cl (hX11_puts N a0 (0 : Int32) (zI u19 a0 10) u19) fun r20 u21 => (some ((1 : Int32), u21))))))))))
set_option maxRecDepth 20000 in
theorem eX11_value (N : Nat)  (a0 : Nat) (u : SG) (h_u : HK [(some a0, 12)] u) : fX11_value N  a0 u = hX11_value N  a0 u := by
  unfold fX11_value hX11_value
  refine eq_g (show zK u a0 = 12 from (h_u.g 0 rfl)) ?_
  refine eq_cH (eX11_see N a0 u (hkc (show zK u a0 = 12 from (h_u.g 0 rfl)) (hk0 h_u.1))) (fun r1 u2 e9 => h_u.fr (fr_X11_see (P := PT) N a0 u clPT trivial _ _ e9).1) (fun r1 u2 h_u2 => ?_)
  refine eq_g (show zK u2 a0 = 12 from (h_u2.g 0 rfl)) ?_
  refine eq_bs (fun v3 => ?_)
  refine eq_g (show zK u2 a0 = 12 from (h_u2.g 0 rfl)) ?_
  refine eq_g (show zK u2 a0 = 12 from (h_u2.g 0 rfl)) ?_
  refine eq_cH (eX11_isDigit N a0 (zI u2 a0 8) u2 (hkc (show zK u2 a0 = 12 from (h_u2.g 0 rfl)) (hk0 h_u2.1))) (fun r4 u5 e9 => h_u2.fr (fr_X11_isDigit (P := PT) N a0 (zI u2 a0 8) u2 clPT trivial _ _ e9).1) (fun r4 u5 h_u5 => ?_)
  refine eq_if ?_ ?_
  · refine eq_g (show zK u5 a0 = 12 from (h_u5.g 0 rfl)) ?_
    refine eq_cH (eX11_wordHere N a0 u5 (hkc (show zK u5 a0 = 12 from (h_u5.g 0 rfl)) (hk0 h_u5.1))) (fun r6 u7 e9 => h_u5.fr (fr_X11_wordHere (P := PT) N a0 u5 clPT trivial _ _ e9).1) (fun r6 u7 h_u7 => ?_)
    refine eq_if ?_ ?_
    · refine eq_g (show zK u7 a0 = 12 from (h_u7.g 0 rfl)) ?_
      refine eq_cH (eX11_makes N a0 v3 u7 (hkc (show zK u7 a0 = 12 from (h_u7.g 0 rfl)) (hk0 h_u7.1))) (fun r8 u9 e9 => h_u7.fr (fr_X11_makes (P := PT) N a0 v3 u7 clPT trivial _ _ e9).1) (fun r8 u9 h_u9 => ?_)
      refine eq_if ?_ ?_
      · rfl
      · refine eq_g (show zK u9 a0 = 12 from (h_u9.g 0 rfl)) ?_
        refine eq_cH (eX11_passWord N a0 u9 (hkc (show zK u9 a0 = 12 from (h_u9.g 0 rfl)) (hk0 h_u9.1))) (fun r10 u11 e9 => h_u9.fr (fr_X11_passWord (P := PT) N a0 u9 clPT trivial _ _ e9).1) (fun r10 u11 h_u11 => ?_)
        refine eq_g (show zK u11 a0 = 12 from (h_u11.g 0 rfl)) ?_
        refine eq_cH (eX11_puts N a0 (1 : Int32) r6 u11 (hkc (show zK u11 a0 = 12 from (h_u11.g 0 rfl)) (hk0 h_u11.1))) (fun r12 u13 e9 => h_u11.fr (fr_X11_puts (P := PT) N a0 (1 : Int32) r6 u11 clPT trivial _ _ e9).1) (fun r12 u13 h_u13 => ?_)
        rfl
    · refine eq_g (show zK u7 a0 = 12 from (h_u7.g 0 rfl)) ?_
      refine eq_cH (eX11_fails N a0 (0 : Int32) v3 u7 (hkc (show zK u7 a0 = 12 from (h_u7.g 0 rfl)) (hk0 h_u7.1))) (fun r14 u15 e9 => h_u7.fr (fr_X11_fails (P := PT) N a0 (0 : Int32) v3 u7 clPT trivial _ _ e9).1) (fun r14 u15 h_u15 => ?_)
      refine eq_if ?_ ?_
      · rfl
      · rfl
  · refine eq_g (show zK u5 a0 = 12 from (h_u5.g 0 rfl)) ?_
    refine eq_cH (eX11_numberHere N a0 (0 : Int32) (99999 : Int32) u5 (hkc (show zK u5 a0 = 12 from (h_u5.g 0 rfl)) (hk0 h_u5.1))) (fun r16 u17 e9 => h_u5.fr (fr_X11_numberHere (P := PT) N a0 (0 : Int32) (99999 : Int32) u5 clPT trivial _ _ e9).1) (fun r16 u17 h_u17 => ?_)
    refine eq_if ?_ ?_
    · rfl
    · refine eq_g (show zK u17 a0 = 12 from (h_u17.g 0 rfl)) ?_
      refine eq_cH (eX11_makes N a0 v3 u17 (hkc (show zK u17 a0 = 12 from (h_u17.g 0 rfl)) (hk0 h_u17.1))) (fun r18 u19 e9 => h_u17.fr (fr_X11_makes (P := PT) N a0 v3 u17 clPT trivial _ _ e9).1) (fun r18 u19 h_u19 => ?_)
      refine eq_if ?_ ?_
      · rfl
      · refine eq_g (show zK u19 a0 = 12 from (h_u19.g 0 rfl)) ?_
        refine eq_g (show zK u19 a0 = 12 from (h_u19.g 0 rfl)) ?_
        refine eq_cH (eX11_puts N a0 (0 : Int32) (zI u19 a0 10) u19 (hkc (show zK u19 a0 = 12 from (h_u19.g 0 rfl)) (hk0 h_u19.1))) (fun r20 u21 e9 => h_u19.fr (fr_X11_puts (P := PT) N a0 (0 : Int32) (zI u19 a0 10) u19 clPT trivial _ _ e9).1) (fun r20 u21 h_u21 => ?_)
        rfl
set_option maxRecDepth 20000 in
def hgX11_term_74 (N : Nat)  (rc9 : Nat → SG → Option (Int32 × SG)) (x0 : Nat) (s0 : Int32) (u : SG) : Option (Int32 × SG) := bs (sI u x0 8 ((zI u x0 8) + (1 : Int32))) fun u1 => (cl (hX11_value N x0 u1) fun r2 u3 => (if r2 = 0 then (some ((0 : Int32), u3))
  else (cl (hX11_puts N x0 s0 (0 : Int32) u3) fun r4 u5 => (rc9 x0 u5))))
set_option maxRecDepth 20000 in
theorem egX11_term_74 (N : Nat)  (rec9 : Nat → SG → Option (Int32 × SG)) (rc9 : Nat → SG → Option (Int32 × SG)) (hrc9 : ∀ (x0 : Nat) (u : SG), HK [(some x0, 12)] u → rec9 x0 u = rc9 x0 u) (x0 : Nat) (s0 : Int32) (u : SG) (h_u : HK [(some x0, 12)] u) : gX11_term_74 N  rec9 x0 s0 u = hgX11_term_74 N  rc9 x0 s0 u := by
  unfold gX11_term_74 hgX11_term_74
  refine eq_g (show zK u x0 = 12 from (h_u.g 0 rfl)) ?_
  refine eq_g (show zK u x0 = 12 from (h_u.g 0 rfl)) ?_
  refine eq_sH (h_u.fr (P := PT) (Fr.sIr trivial)) (fun u1 h_u1 => ?_)
  refine eq_g (show zK u1 x0 = 12 from (h_u1.g 0 rfl)) ?_
  refine eq_cH (eX11_value N x0 u1 (hkc (show zK u1 x0 = 12 from (h_u1.g 0 rfl)) (hk0 h_u1.1))) (fun r2 u3 e9 => h_u1.fr (fr_X11_value (P := PT) N x0 u1 clPT trivial _ _ e9).1) (fun r2 u3 h_u3 => ?_)
  refine eq_if ?_ ?_
  · rfl
  · refine eq_g (show zK u3 x0 = 12 from (h_u3.g 0 rfl)) ?_
    refine eq_cH (eX11_puts N x0 s0 (0 : Int32) u3 (hkc (show zK u3 x0 = 12 from (h_u3.g 0 rfl)) (hk0 h_u3.1))) (fun r4 u5 e9 => h_u3.fr (fr_X11_puts (P := PT) N x0 s0 (0 : Int32) u3 clPT trivial _ _ e9).1) (fun r4 u5 h_u5 => ?_)
    exact hrc9 x0 u5 (hkc (show zK u5 x0 = 12 from (h_u5.g 0 rfl)) (hk0 h_u5.1))
set_option maxRecDepth 20000 in
def hgX11_term_36 (N : Nat)  (rc9 : Nat → SG → Option (Int32 × SG)) (x0 : Nat) (u : SG) : Option (Int32 × SG) := if (zI u x0 8) < 0 ∨ 400 ≤ (zI u x0 8).toNatClampNeg then none else (if (zI u (x0 + 1) (zI u x0 8).toNatClampNeg) = (42 : Int32) then (hgX11_term_74 N  rc9  x0 (4 : Int32) u)
  else (if (zI u x0 8) < 0 ∨ 400 ≤ (zI u x0 8).toNatClampNeg then none else (if (zI u (x0 + 1) (zI u x0 8).toNatClampNeg) = (47 : Int32) then (hgX11_term_74 N  rc9  x0 (5 : Int32) u)
  else (hgX11_term_74 N  rc9  x0 (14 : Int32) u))))
set_option maxRecDepth 20000 in
theorem egX11_term_36 (N : Nat)  (rec9 : Nat → SG → Option (Int32 × SG)) (rc9 : Nat → SG → Option (Int32 × SG)) (hrc9 : ∀ (x0 : Nat) (u : SG), HK [(some x0, 12)] u → rec9 x0 u = rc9 x0 u) (x0 : Nat) (u : SG) (h_u : HK [(some x0, 12)] u) : gX11_term_36 N  rec9 x0 u = hgX11_term_36 N  rc9 x0 u := by
  unfold gX11_term_36 hgX11_term_36
  refine eq_g (show zK u x0 = 12 from (h_u.g 0 rfl)) ?_
  refine eq_bR (show zR u x0 0 = some (x0 + 1) from lyR_12_0 h_u.1 (h_u.g 0 rfl)) ?_
  refine eq_g (show zK u x0 = 12 from (h_u.g 0 rfl)) ?_
  refine eq_g (show zK u (x0 + 1) = 21 from (lyK_12_0 h_u.1 (h_u.g 0 rfl))) ?_
  refine eq_ixh (show zN u (x0 + 1) = 400 from lyN_12_0 h_u.1 (h_u.g 0 rfl)) (fun hix1 => ?_)
  refine eq_if ?_ ?_
  · exact egX11_term_74 N  _ _ hrc9  x0 (4 : Int32) u (hkc (show zK u x0 = 12 from (h_u.g 0 rfl)) (hk0 h_u.1))
  · refine eq_g (show zK u x0 = 12 from (h_u.g 0 rfl)) ?_
    refine eq_bR (show zR u x0 0 = some (x0 + 1) from lyR_12_0 h_u.1 (h_u.g 0 rfl)) ?_
    refine eq_g (show zK u x0 = 12 from (h_u.g 0 rfl)) ?_
    refine eq_g (show zK u (x0 + 1) = 21 from (lyK_12_0 h_u.1 (h_u.g 0 rfl))) ?_
    refine eq_ixh (show zN u (x0 + 1) = 400 from lyN_12_0 h_u.1 (h_u.g 0 rfl)) (fun hix2 => ?_)
    refine eq_if ?_ ?_
    · exact egX11_term_74 N  _ _ hrc9  x0 (5 : Int32) u (hkc (show zK u x0 = 12 from (h_u.g 0 rfl)) (hk0 h_u.1))
    · exact egX11_term_74 N  _ _ hrc9  x0 (14 : Int32) u (hkc (show zK u x0 = 12 from (h_u.g 0 rfl)) (hk0 h_u.1))
set_option maxRecDepth 20000 in
def hgX11_term_9 (N : Nat)   : Nat → Nat → SG → Option (Int32 × SG)
  | 0, _, _ => none
  | n + 1, x0, u => cl (hX11_see N x0 u) fun r1 u2 => (if r1 = (42 : Int32) then (hgX11_term_36 N  (hgX11_term_9 N   n)  x0 u2)
  else (cl (hX11_see N x0 u2) fun r3 u4 => (if r3 = (47 : Int32) then (hgX11_term_36 N  (hgX11_term_9 N   n)  x0 u4)
  else (cl (hX11_see N x0 u4) fun r5 u6 => (if r5 = (37 : Int32) then (hgX11_term_36 N  (hgX11_term_9 N   n)  x0 u6)
  else (some ((1 : Int32), u6)))))))
set_option maxRecDepth 20000 in
theorem egX11_term_9 (N : Nat)   : ∀ (n : Nat) (x0 : Nat) (u : SG), HK [(some x0, 12)] u → gX11_term_9 N   n x0 u = hgX11_term_9 N   n x0 u := by
  intro n
  induction n with
  | zero => intros; rfl
  | succ n ih =>
    intro x0 u h_u
    have hrc9 := ih
    rw [gX11_term_9, hgX11_term_9]
    refine eq_g (show zK u x0 = 12 from (h_u.g 0 rfl)) ?_
    refine eq_cH (eX11_see N x0 u (hkc (show zK u x0 = 12 from (h_u.g 0 rfl)) (hk0 h_u.1))) (fun r1 u2 e9 => h_u.fr (fr_X11_see (P := PT) N x0 u clPT trivial _ _ e9).1) (fun r1 u2 h_u2 => ?_)
    refine eq_if ?_ ?_
    · exact egX11_term_36 N  _ _ hrc9  x0 u2 (hkc (show zK u2 x0 = 12 from (h_u2.g 0 rfl)) (hk0 h_u2.1))
    · refine eq_g (show zK u2 x0 = 12 from (h_u2.g 0 rfl)) ?_
      refine eq_cH (eX11_see N x0 u2 (hkc (show zK u2 x0 = 12 from (h_u2.g 0 rfl)) (hk0 h_u2.1))) (fun r3 u4 e9 => h_u2.fr (fr_X11_see (P := PT) N x0 u2 clPT trivial _ _ e9).1) (fun r3 u4 h_u4 => ?_)
      refine eq_if ?_ ?_
      · exact egX11_term_36 N  _ _ hrc9  x0 u4 (hkc (show zK u4 x0 = 12 from (h_u4.g 0 rfl)) (hk0 h_u4.1))
      · refine eq_g (show zK u4 x0 = 12 from (h_u4.g 0 rfl)) ?_
        refine eq_cH (eX11_see N x0 u4 (hkc (show zK u4 x0 = 12 from (h_u4.g 0 rfl)) (hk0 h_u4.1))) (fun r5 u6 e9 => h_u4.fr (fr_X11_see (P := PT) N x0 u4 clPT trivial _ _ e9).1) (fun r5 u6 h_u6 => ?_)
        refine eq_if ?_ ?_
        · exact egX11_term_36 N  _ _ hrc9  x0 u6 (hkc (show zK u6 x0 = 12 from (h_u6.g 0 rfl)) (hk0 h_u6.1))
        · rfl
set_option maxRecDepth 20000 in
def hX11_term (N : Nat)  (a0 : Nat) (u : SG) : Option (Int32 × SG) := cl (hX11_value N a0 u) fun r1 u2 => (if r1 = 0 then (some ((0 : Int32), u2))
  else (hgX11_term_9 N   N a0 u2))
set_option maxRecDepth 20000 in
theorem eX11_term (N : Nat)  (a0 : Nat) (u : SG) (h_u : HK [(some a0, 12)] u) : fX11_term N  a0 u = hX11_term N  a0 u := by
  unfold fX11_term hX11_term
  refine eq_g (show zK u a0 = 12 from (h_u.g 0 rfl)) ?_
  refine eq_cH (eX11_value N a0 u (hkc (show zK u a0 = 12 from (h_u.g 0 rfl)) (hk0 h_u.1))) (fun r1 u2 e9 => h_u.fr (fr_X11_value (P := PT) N a0 u clPT trivial _ _ e9).1) (fun r1 u2 h_u2 => ?_)
  refine eq_if ?_ ?_
  · rfl
  · exact egX11_term_9 N   N a0 u2 (hkc (show zK u2 a0 = 12 from (h_u2.g 0 rfl)) (hk0 h_u2.1))
set_option maxRecDepth 20000 in
def hgX11_sum_46 (N : Nat)  (rc9 : Nat → SG → Option (Int32 × SG)) (x0 : Nat) (s0 : Int32) (u : SG) : Option (Int32 × SG) := bs (sI u x0 8 ((zI u x0 8) + (1 : Int32))) fun u1 => (cl (hX11_term N x0 u1) fun r2 u3 => (if r2 = 0 then (some ((0 : Int32), u3))
  else (cl (hX11_puts N x0 s0 (0 : Int32) u3) fun r4 u5 => (rc9 x0 u5))))
set_option maxRecDepth 20000 in
theorem egX11_sum_46 (N : Nat)  (rec9 : Nat → SG → Option (Int32 × SG)) (rc9 : Nat → SG → Option (Int32 × SG)) (hrc9 : ∀ (x0 : Nat) (u : SG), HK [(some x0, 12)] u → rec9 x0 u = rc9 x0 u) (x0 : Nat) (s0 : Int32) (u : SG) (h_u : HK [(some x0, 12)] u) : gX11_sum_46 N  rec9 x0 s0 u = hgX11_sum_46 N  rc9 x0 s0 u := by
  unfold gX11_sum_46 hgX11_sum_46
  refine eq_g (show zK u x0 = 12 from (h_u.g 0 rfl)) ?_
  refine eq_g (show zK u x0 = 12 from (h_u.g 0 rfl)) ?_
  refine eq_sH (h_u.fr (P := PT) (Fr.sIr trivial)) (fun u1 h_u1 => ?_)
  refine eq_g (show zK u1 x0 = 12 from (h_u1.g 0 rfl)) ?_
  refine eq_cH (eX11_term N x0 u1 (hkc (show zK u1 x0 = 12 from (h_u1.g 0 rfl)) (hk0 h_u1.1))) (fun r2 u3 e9 => h_u1.fr (fr_X11_term (P := PT) N x0 u1 clPT trivial _ _ e9).1) (fun r2 u3 h_u3 => ?_)
  refine eq_if ?_ ?_
  · rfl
  · refine eq_g (show zK u3 x0 = 12 from (h_u3.g 0 rfl)) ?_
    refine eq_cH (eX11_puts N x0 s0 (0 : Int32) u3 (hkc (show zK u3 x0 = 12 from (h_u3.g 0 rfl)) (hk0 h_u3.1))) (fun r4 u5 e9 => h_u3.fr (fr_X11_puts (P := PT) N x0 s0 (0 : Int32) u3 clPT trivial _ _ e9).1) (fun r4 u5 h_u5 => ?_)
    exact hrc9 x0 u5 (hkc (show zK u5 x0 = 12 from (h_u5.g 0 rfl)) (hk0 h_u5.1))
set_option maxRecDepth 20000 in
def hgX11_sum_27 (N : Nat)  (rc9 : Nat → SG → Option (Int32 × SG)) (x0 : Nat) (u : SG) : Option (Int32 × SG) := if (zI u x0 8) < 0 ∨ 400 ≤ (zI u x0 8).toNatClampNeg then none else (if (zI u (x0 + 1) (zI u x0 8).toNatClampNeg) = (43 : Int32) then (hgX11_sum_46 N  rc9  x0 (2 : Int32) u)
  else (hgX11_sum_46 N  rc9  x0 (3 : Int32) u))
set_option maxRecDepth 20000 in
theorem egX11_sum_27 (N : Nat)  (rec9 : Nat → SG → Option (Int32 × SG)) (rc9 : Nat → SG → Option (Int32 × SG)) (hrc9 : ∀ (x0 : Nat) (u : SG), HK [(some x0, 12)] u → rec9 x0 u = rc9 x0 u) (x0 : Nat) (u : SG) (h_u : HK [(some x0, 12)] u) : gX11_sum_27 N  rec9 x0 u = hgX11_sum_27 N  rc9 x0 u := by
  unfold gX11_sum_27 hgX11_sum_27
  refine eq_g (show zK u x0 = 12 from (h_u.g 0 rfl)) ?_
  refine eq_bR (show zR u x0 0 = some (x0 + 1) from lyR_12_0 h_u.1 (h_u.g 0 rfl)) ?_
  refine eq_g (show zK u x0 = 12 from (h_u.g 0 rfl)) ?_
  refine eq_g (show zK u (x0 + 1) = 21 from (lyK_12_0 h_u.1 (h_u.g 0 rfl))) ?_
  refine eq_ixh (show zN u (x0 + 1) = 400 from lyN_12_0 h_u.1 (h_u.g 0 rfl)) (fun hix1 => ?_)
  refine eq_if ?_ ?_
  · exact egX11_sum_46 N  _ _ hrc9  x0 (2 : Int32) u (hkc (show zK u x0 = 12 from (h_u.g 0 rfl)) (hk0 h_u.1))
  · exact egX11_sum_46 N  _ _ hrc9  x0 (3 : Int32) u (hkc (show zK u x0 = 12 from (h_u.g 0 rfl)) (hk0 h_u.1))
set_option maxRecDepth 20000 in
def hgX11_sum_9 (N : Nat)   : Nat → Nat → SG → Option (Int32 × SG)
  | 0, _, _ => none
  | n + 1, x0, u => cl (hX11_see N x0 u) fun r1 u2 => (if r1 = (43 : Int32) then (hgX11_sum_27 N  (hgX11_sum_9 N   n)  x0 u2)
  else (cl (hX11_see N x0 u2) fun r3 u4 => (if r3 = (45 : Int32) then (hgX11_sum_27 N  (hgX11_sum_9 N   n)  x0 u4)
  else (some ((1 : Int32), u4)))))
set_option maxRecDepth 20000 in
theorem egX11_sum_9 (N : Nat)   : ∀ (n : Nat) (x0 : Nat) (u : SG), HK [(some x0, 12)] u → gX11_sum_9 N   n x0 u = hgX11_sum_9 N   n x0 u := by
  intro n
  induction n with
  | zero => intros; rfl
  | succ n ih =>
    intro x0 u h_u
    have hrc9 := ih
    rw [gX11_sum_9, hgX11_sum_9]
    refine eq_g (show zK u x0 = 12 from (h_u.g 0 rfl)) ?_
    refine eq_cH (eX11_see N x0 u (hkc (show zK u x0 = 12 from (h_u.g 0 rfl)) (hk0 h_u.1))) (fun r1 u2 e9 => h_u.fr (fr_X11_see (P := PT) N x0 u clPT trivial _ _ e9).1) (fun r1 u2 h_u2 => ?_)
    refine eq_if ?_ ?_
    · exact egX11_sum_27 N  _ _ hrc9  x0 u2 (hkc (show zK u2 x0 = 12 from (h_u2.g 0 rfl)) (hk0 h_u2.1))
    · refine eq_g (show zK u2 x0 = 12 from (h_u2.g 0 rfl)) ?_
      refine eq_cH (eX11_see N x0 u2 (hkc (show zK u2 x0 = 12 from (h_u2.g 0 rfl)) (hk0 h_u2.1))) (fun r3 u4 e9 => h_u2.fr (fr_X11_see (P := PT) N x0 u2 clPT trivial _ _ e9).1) (fun r3 u4 h_u4 => ?_)
      refine eq_if ?_ ?_
      · exact egX11_sum_27 N  _ _ hrc9  x0 u4 (hkc (show zK u4 x0 = 12 from (h_u4.g 0 rfl)) (hk0 h_u4.1))
      · rfl
set_option maxRecDepth 20000 in
def hX11_sum (N : Nat)  (a0 : Nat) (u : SG) : Option (Int32 × SG) := cl (hX11_term N a0 u) fun r1 u2 => (if r1 = 0 then (some ((0 : Int32), u2))
  else (hgX11_sum_9 N   N a0 u2))
set_option maxRecDepth 20000 in
theorem eX11_sum (N : Nat)  (a0 : Nat) (u : SG) (h_u : HK [(some a0, 12)] u) : fX11_sum N  a0 u = hX11_sum N  a0 u := by
  unfold fX11_sum hX11_sum
  refine eq_g (show zK u a0 = 12 from (h_u.g 0 rfl)) ?_
  refine eq_cH (eX11_term N a0 u (hkc (show zK u a0 = 12 from (h_u.g 0 rfl)) (hk0 h_u.1))) (fun r1 u2 e9 => h_u.fr (fr_X11_term (P := PT) N a0 u clPT trivial _ _ e9).1) (fun r1 u2 h_u2 => ?_)
  refine eq_if ?_ ?_
  · rfl
  · exact egX11_sum_9 N   N a0 u2 (hkc (show zK u2 a0 = 12 from (h_u2.g 0 rfl)) (hk0 h_u2.1))
set_option maxRecDepth 20000 in
def hgX11_compare_152 (N : Nat)   (x0 : Nat) (s0 : Int32) (u : SG) : Option (Int32 × SG) := cl (hX11_sum N x0 u) fun r1 u2 => (if r1 = 0 then (some ((0 : Int32), u2))
  else (cl (hX11_puts N x0 ((6 : Int32) + s0) (0 : Int32) u2) fun r3 u4 => (some ((1 : Int32), u4))))
set_option maxRecDepth 20000 in
theorem egX11_compare_152 (N : Nat)   (x0 : Nat) (s0 : Int32) (u : SG) (h_u : HK [(some x0, 12)] u) : gX11_compare_152 N   x0 s0 u = hgX11_compare_152 N   x0 s0 u := by
  unfold gX11_compare_152 hgX11_compare_152
  refine eq_g (show zK u x0 = 12 from (h_u.g 0 rfl)) ?_
  refine eq_cH (eX11_sum N x0 u (hkc (show zK u x0 = 12 from (h_u.g 0 rfl)) (hk0 h_u.1))) (fun r1 u2 e9 => h_u.fr (fr_X11_sum (P := PT) N x0 u clPT trivial _ _ e9).1) (fun r1 u2 h_u2 => ?_)
  refine eq_if ?_ ?_
  · rfl
  · refine eq_g (show zK u2 x0 = 12 from (h_u2.g 0 rfl)) ?_
    refine eq_cH (eX11_puts N x0 ((6 : Int32) + s0) (0 : Int32) u2 (hkc (show zK u2 x0 = 12 from (h_u2.g 0 rfl)) (hk0 h_u2.1))) (fun r3 u4 e9 => h_u2.fr (fr_X11_puts (P := PT) N x0 ((6 : Int32) + s0) (0 : Int32) u2 clPT trivial _ _ e9).1) (fun r3 u4 h_u4 => ?_)
    rfl
set_option maxRecDepth 20000 in
def hgX11_compare_105 (N : Nat)   (x0 : Nat) (x1 : Int32) (x2 : Int32) (x3 : Int32) (u : SG) : Option (Int32 × SG) := cl (hX11_makes N x0 x2 u) fun r1 u2 => (if r1 = 0 then (some ((0 : Int32), u2))
  else (if x1 = (60 : Int32) then (if x3 = 0 then (hgX11_compare_152 N    x0 (0 : Int32) u2)
  else (hgX11_compare_152 N    x0 (1 : Int32) u2))
  else (if x1 = (61 : Int32) then (hgX11_compare_152 N    x0 (2 : Int32) u2)
  else (if x3 = 0 then (hgX11_compare_152 N    x0 (4 : Int32) u2)
  else (hgX11_compare_152 N    x0 (3 : Int32) u2)))))
set_option maxRecDepth 20000 in
theorem egX11_compare_105 (N : Nat)   (x0 : Nat) (x1 : Int32) (x2 : Int32) (x3 : Int32) (u : SG) (h_u : HK [(some x0, 12)] u) : gX11_compare_105 N   x0 x1 x2 x3 u = hgX11_compare_105 N   x0 x1 x2 x3 u := by
  unfold gX11_compare_105 hgX11_compare_105
  refine eq_g (show zK u x0 = 12 from (h_u.g 0 rfl)) ?_
  refine eq_cH (eX11_makes N x0 x2 u (hkc (show zK u x0 = 12 from (h_u.g 0 rfl)) (hk0 h_u.1))) (fun r1 u2 e9 => h_u.fr (fr_X11_makes (P := PT) N x0 x2 u clPT trivial _ _ e9).1) (fun r1 u2 h_u2 => ?_)
  refine eq_if ?_ ?_
  · rfl
  · refine eq_if ?_ ?_
    · refine eq_if ?_ ?_
      · exact egX11_compare_152 N    x0 (0 : Int32) u2 (hkc (show zK u2 x0 = 12 from (h_u2.g 0 rfl)) (hk0 h_u2.1))
      · exact egX11_compare_152 N    x0 (1 : Int32) u2 (hkc (show zK u2 x0 = 12 from (h_u2.g 0 rfl)) (hk0 h_u2.1))
    · refine eq_if ?_ ?_
      · exact egX11_compare_152 N    x0 (2 : Int32) u2 (hkc (show zK u2 x0 = 12 from (h_u2.g 0 rfl)) (hk0 h_u2.1))
      · refine eq_if ?_ ?_
        · exact egX11_compare_152 N    x0 (4 : Int32) u2 (hkc (show zK u2 x0 = 12 from (h_u2.g 0 rfl)) (hk0 h_u2.1))
        · exact egX11_compare_152 N    x0 (3 : Int32) u2 (hkc (show zK u2 x0 = 12 from (h_u2.g 0 rfl)) (hk0 h_u2.1))
set_option maxRecDepth 20000 in
def hgX11_compare_90 (N : Nat)   (x0 : Nat) (x1 : Int32) (x2 : Int32) (s0 : Int32) (u : SG) : Option (Int32 × SG) := if s0 = 0 then (hgX11_compare_105 N    x0 x1 x2 s0 u)
  else (bs (sI u x0 8 ((zI u x0 8) + (1 : Int32))) fun u1 => (hgX11_compare_105 N    x0 x1 x2 s0 u1))
set_option maxRecDepth 20000 in
theorem egX11_compare_90 (N : Nat)   (x0 : Nat) (x1 : Int32) (x2 : Int32) (s0 : Int32) (u : SG) (h_u : HK [(some x0, 12)] u) : gX11_compare_90 N   x0 x1 x2 s0 u = hgX11_compare_90 N   x0 x1 x2 s0 u := by
  unfold gX11_compare_90 hgX11_compare_90
  refine eq_if ?_ ?_
  · exact egX11_compare_105 N    x0 x1 x2 s0 u (hkc (show zK u x0 = 12 from (h_u.g 0 rfl)) (hk0 h_u.1))
  · refine eq_g (show zK u x0 = 12 from (h_u.g 0 rfl)) ?_
    refine eq_g (show zK u x0 = 12 from (h_u.g 0 rfl)) ?_
    refine eq_sH (h_u.fr (P := PT) (Fr.sIr trivial)) (fun u1 h_u1 => ?_)
    exact egX11_compare_105 N    x0 x1 x2 s0 u1 (hkc (show zK u1 x0 = 12 from (h_u1.g 0 rfl)) (hk0 h_u1.1))
set_option maxRecDepth 20000 in
def hgX11_compare_89 (N : Nat)   (x0 : Nat) (x1 : Int32) (x2 : Int32) (u : SG) : Option (Int32 × SG) := hgX11_compare_90 N    x0 x1 x2 (0 : Int32) u
set_option maxRecDepth 20000 in
theorem egX11_compare_89 (N : Nat)   (x0 : Nat) (x1 : Int32) (x2 : Int32) (u : SG) (h_u : HK [(some x0, 12)] u) : gX11_compare_89 N   x0 x1 x2 u = hgX11_compare_89 N   x0 x1 x2 u := by
  unfold gX11_compare_89 hgX11_compare_89
  exact egX11_compare_90 N    x0 x1 x2 (0 : Int32) u (hkc (show zK u x0 = 12 from (h_u.g 0 rfl)) (hk0 h_u.1))
set_option maxRecDepth 20000 in
def hgX11_compare_44 (N : Nat)   (x0 : Nat) (x1 : Int32) (x2 : Int32) (u : SG) : Option (Int32 × SG) := bs (sI u x0 8 ((zI u x0 8) + (1 : Int32))) fun u1 => (if x1 = (61 : Int32) then (hgX11_compare_89 N    x0 x1 x2 u1)
  else (if (zI u1 x0 1) ≤ (zI u1 x0 8) then (hgX11_compare_89 N    x0 x1 x2 u1)
  else (if (zI u1 x0 8) < 0 ∨ 400 ≤ (zI u1 x0 8).toNatClampNeg then none else (if (zI u1 (x0 + 1) (zI u1 x0 8).toNatClampNeg) = (61 : Int32) then (hgX11_compare_90 N    x0 x1 x2 (1 : Int32) u1)
  else (hgX11_compare_89 N    x0 x1 x2 u1)))))
set_option maxRecDepth 20000 in
theorem egX11_compare_44 (N : Nat)   (x0 : Nat) (x1 : Int32) (x2 : Int32) (u : SG) (h_u : HK [(some x0, 12)] u) : gX11_compare_44 N   x0 x1 x2 u = hgX11_compare_44 N   x0 x1 x2 u := by
  unfold gX11_compare_44 hgX11_compare_44
  refine eq_g (show zK u x0 = 12 from (h_u.g 0 rfl)) ?_
  refine eq_g (show zK u x0 = 12 from (h_u.g 0 rfl)) ?_
  refine eq_sH (h_u.fr (P := PT) (Fr.sIr trivial)) (fun u1 h_u1 => ?_)
  refine eq_if ?_ ?_
  · exact egX11_compare_89 N    x0 x1 x2 u1 (hkc (show zK u1 x0 = 12 from (h_u1.g 0 rfl)) (hk0 h_u1.1))
  · refine eq_g (show zK u1 x0 = 12 from (h_u1.g 0 rfl)) ?_
    refine eq_g (show zK u1 x0 = 12 from (h_u1.g 0 rfl)) ?_
    refine eq_if ?_ ?_
    · exact egX11_compare_89 N    x0 x1 x2 u1 (hkc (show zK u1 x0 = 12 from (h_u1.g 0 rfl)) (hk0 h_u1.1))
    · refine eq_g (show zK u1 x0 = 12 from (h_u1.g 0 rfl)) ?_
      refine eq_bR (show zR u1 x0 0 = some (x0 + 1) from lyR_12_0 h_u1.1 (h_u1.g 0 rfl)) ?_
      refine eq_g (show zK u1 x0 = 12 from (h_u1.g 0 rfl)) ?_
      refine eq_g (show zK u1 (x0 + 1) = 21 from (lyK_12_0 h_u1.1 (h_u1.g 0 rfl))) ?_
      refine eq_ixh (show zN u1 (x0 + 1) = 400 from lyN_12_0 h_u1.1 (h_u1.g 0 rfl)) (fun hix1 => ?_)
      refine eq_if ?_ ?_
      · exact egX11_compare_90 N    x0 x1 x2 (1 : Int32) u1 (hkc (show zK u1 x0 = 12 from (h_u1.g 0 rfl)) (hk0 h_u1.1))
      · exact egX11_compare_89 N    x0 x1 x2 u1 (hkc (show zK u1 x0 = 12 from (h_u1.g 0 rfl)) (hk0 h_u1.1))
set_option maxRecDepth 20000 in
def hX11_compare (N : Nat)  (a0 : Nat) (u : SG) : Option (Int32 × SG) := cl (hX11_sum N a0 u) fun r1 u2 => (if r1 = 0 then (some ((0 : Int32), u2))
  else (cl (hX11_see N a0 u2) fun r3 u4 => (bs (zI u4 a0 8) fun v5 => (if r3 = (60 : Int32) then (hgX11_compare_44 N    a0 r3 v5 u4)
  else (if r3 = (61 : Int32) then (hgX11_compare_44 N    a0 r3 v5 u4)
  else (if r3 = (62 : Int32) then (hgX11_compare_44 N    a0 r3 v5 u4)
  else (cl (hX11_fails N a0 (0 : Int32) v5 u4) fun r6 u7 => (if r6 = 0 ∨ r6 = 1 then (some (r6, u7))
  else (none)))))))))
set_option maxRecDepth 20000 in
theorem eX11_compare (N : Nat)  (a0 : Nat) (u : SG) (h_u : HK [(some a0, 12)] u) : fX11_compare N  a0 u = hX11_compare N  a0 u := by
  unfold fX11_compare hX11_compare
  refine eq_g (show zK u a0 = 12 from (h_u.g 0 rfl)) ?_
  refine eq_cH (eX11_sum N a0 u (hkc (show zK u a0 = 12 from (h_u.g 0 rfl)) (hk0 h_u.1))) (fun r1 u2 e9 => h_u.fr (fr_X11_sum (P := PT) N a0 u clPT trivial _ _ e9).1) (fun r1 u2 h_u2 => ?_)
  refine eq_if ?_ ?_
  · rfl
  · refine eq_g (show zK u2 a0 = 12 from (h_u2.g 0 rfl)) ?_
    refine eq_cH (eX11_see N a0 u2 (hkc (show zK u2 a0 = 12 from (h_u2.g 0 rfl)) (hk0 h_u2.1))) (fun r3 u4 e9 => h_u2.fr (fr_X11_see (P := PT) N a0 u2 clPT trivial _ _ e9).1) (fun r3 u4 h_u4 => ?_)
    refine eq_g (show zK u4 a0 = 12 from (h_u4.g 0 rfl)) ?_
    refine eq_bs (fun v5 => ?_)
    refine eq_if ?_ ?_
    · exact egX11_compare_44 N    a0 r3 v5 u4 (hkc (show zK u4 a0 = 12 from (h_u4.g 0 rfl)) (hk0 h_u4.1))
    · refine eq_if ?_ ?_
      · exact egX11_compare_44 N    a0 r3 v5 u4 (hkc (show zK u4 a0 = 12 from (h_u4.g 0 rfl)) (hk0 h_u4.1))
      · refine eq_if ?_ ?_
        · exact egX11_compare_44 N    a0 r3 v5 u4 (hkc (show zK u4 a0 = 12 from (h_u4.g 0 rfl)) (hk0 h_u4.1))
        · refine eq_g (show zK u4 a0 = 12 from (h_u4.g 0 rfl)) ?_
          refine eq_cH (eX11_fails N a0 (0 : Int32) v5 u4 (hkc (show zK u4 a0 = 12 from (h_u4.g 0 rfl)) (hk0 h_u4.1))) (fun r6 u7 e9 => h_u4.fr (fr_X11_fails (P := PT) N a0 (0 : Int32) v5 u4 clPT trivial _ _ e9).1) (fun r6 u7 h_u7 => ?_)
          refine eq_if ?_ ?_
          · rfl
          · rfl
set_option maxRecDepth 20000 in
def hgX11_fact_2 (N : Nat)   : Nat → Nat → Int32 → SG → Option (Int32 × SG)
  | 0, _, _, _ => none
  | n + 1, x0, x1, u => if x1 = 0 then (cl (hX11_compare N x0 u) fun r1 u2 => (if r1 = 0 ∨ r1 = 1 then (some (r1, u2))
  else (none)))
  else (cl (hX11_see N x0 u) fun r3 u4 => (cl (hX11_isWord N x0 (7237492 : Int64) u4) fun r5 u6 => (if r5 = 0 then (if r3 = (91 : Int32) then (cl (hX11_opens N x0 (91 : Int32) u6) fun r7 u8 => (if r7 = 0 then (some ((0 : Int32), u8))
  else (bs (sI u8 x0 8 ((zI u8 x0 8) + (1 : Int32))) fun u9 => ((hgX11_fact_2 N   n) x0 (1 : Int32) u9))))
  else ((hgX11_fact_2 N   n) x0 (0 : Int32) u6))
  else (cl (hX11_opens N x0 (11 : Int32) u6) fun r10 u11 => (if r10 = 0 then (some ((0 : Int32), u11))
  else (cl (hX11_passWord N x0 u11) fun r12 u13 => ((hgX11_fact_2 N   n) x0 (1 : Int32) u13)))))))
set_option maxRecDepth 20000 in
theorem egX11_fact_2 (N : Nat)   : ∀ (n : Nat) (x0 : Nat) (x1 : Int32) (u : SG), HK [(some x0, 12)] u → gX11_fact_2 N   n x0 x1 u = hgX11_fact_2 N   n x0 x1 u := by
  intro n
  induction n with
  | zero => intros; rfl
  | succ n ih =>
    intro x0 x1 u h_u
    have hrc2 := ih
    rw [gX11_fact_2, hgX11_fact_2]
    refine eq_if ?_ ?_
    · refine eq_g (show zK u x0 = 12 from (h_u.g 0 rfl)) ?_
      refine eq_cH (eX11_compare N x0 u (hkc (show zK u x0 = 12 from (h_u.g 0 rfl)) (hk0 h_u.1))) (fun r1 u2 e9 => h_u.fr (fr_X11_compare (P := PT) N x0 u clPT trivial _ _ e9).1) (fun r1 u2 h_u2 => ?_)
      refine eq_if ?_ ?_
      · rfl
      · rfl
    · refine eq_g (show zK u x0 = 12 from (h_u.g 0 rfl)) ?_
      refine eq_cH (eX11_see N x0 u (hkc (show zK u x0 = 12 from (h_u.g 0 rfl)) (hk0 h_u.1))) (fun r3 u4 e9 => h_u.fr (fr_X11_see (P := PT) N x0 u clPT trivial _ _ e9).1) (fun r3 u4 h_u4 => ?_)
      refine eq_g (show zK u4 x0 = 12 from (h_u4.g 0 rfl)) ?_
      refine eq_cH (eX11_isWord N x0 (7237492 : Int64) u4 (hkc (show zK u4 x0 = 12 from (h_u4.g 0 rfl)) (hk0 h_u4.1))) (fun r5 u6 e9 => h_u4.fr (fr_X11_isWord (P := PT) N x0 (7237492 : Int64) u4 clPT trivial _ _ e9).1) (fun r5 u6 h_u6 => ?_)
      refine eq_if ?_ ?_
      · refine eq_if ?_ ?_
        · refine eq_g (show zK u6 x0 = 12 from (h_u6.g 0 rfl)) ?_
          refine eq_cH (eX11_opens N x0 (91 : Int32) u6 (hkc (show zK u6 x0 = 12 from (h_u6.g 0 rfl)) (hk0 h_u6.1))) (fun r7 u8 e9 => h_u6.fr (fr_X11_opens (P := PT) N x0 (91 : Int32) u6 clPT trivial _ _ e9).1) (fun r7 u8 h_u8 => ?_)
          refine eq_if ?_ ?_
          · rfl
          · refine eq_g (show zK u8 x0 = 12 from (h_u8.g 0 rfl)) ?_
            refine eq_g (show zK u8 x0 = 12 from (h_u8.g 0 rfl)) ?_
            refine eq_sH (h_u8.fr (P := PT) (Fr.sIr trivial)) (fun u9 h_u9 => ?_)
            exact hrc2 x0 (1 : Int32) u9 (hkc (show zK u9 x0 = 12 from (h_u9.g 0 rfl)) (hk0 h_u9.1))
        · exact hrc2 x0 (0 : Int32) u6 (hkc (show zK u6 x0 = 12 from (h_u6.g 0 rfl)) (hk0 h_u6.1))
      · refine eq_g (show zK u6 x0 = 12 from (h_u6.g 0 rfl)) ?_
        refine eq_cH (eX11_opens N x0 (11 : Int32) u6 (hkc (show zK u6 x0 = 12 from (h_u6.g 0 rfl)) (hk0 h_u6.1))) (fun r10 u11 e9 => h_u6.fr (fr_X11_opens (P := PT) N x0 (11 : Int32) u6 clPT trivial _ _ e9).1) (fun r10 u11 h_u11 => ?_)
        refine eq_if ?_ ?_
        · rfl
        · refine eq_g (show zK u11 x0 = 12 from (h_u11.g 0 rfl)) ?_
          refine eq_cH (eX11_passWord N x0 u11 (hkc (show zK u11 x0 = 12 from (h_u11.g 0 rfl)) (hk0 h_u11.1))) (fun r12 u13 e9 => h_u11.fr (fr_X11_passWord (P := PT) N x0 u11 clPT trivial _ _ e9).1) (fun r12 u13 h_u13 => ?_)
          exact hrc2 x0 (1 : Int32) u13 (hkc (show zK u13 x0 = 12 from (h_u13.g 0 rfl)) (hk0 h_u13.1))
set_option maxRecDepth 20000 in
def hX11_fact (N : Nat)  (a0 : Nat) (u : SG) : Option (Int32 × SG) := hgX11_fact_2 N   N a0 (1 : Int32) u
set_option maxRecDepth 20000 in
theorem eX11_fact (N : Nat)  (a0 : Nat) (u : SG) (h_u : HK [(some a0, 12)] u) : fX11_fact N  a0 u = hX11_fact N  a0 u := by
  unfold fX11_fact hX11_fact
  exact egX11_fact_2 N   N a0 (1 : Int32) u (hkc (show zK u a0 = 12 from (h_u.g 0 rfl)) (hk0 h_u.1))
set_option maxRecDepth 20000 in
def hgX11_isInside_2 (N : Nat)   : Nat → Nat → Int32 → SG → Option (Int32 × SG)
  | 0, _, _, _ => none
  | n + 1, x0, x1, u => if (zI u x0 16) ≤ x1 then (some ((0 : Int32), u))
  else (if x1 < 0 ∨ 400 ≤ x1.toNatClampNeg then none else (if (zI u (x0 + 7) x1.toNatClampNeg) = (91 : Int32) then (some ((1 : Int32), u))
  else ((hgX11_isInside_2 N   n) x0 (x1 + (1 : Int32)) u)))
set_option maxRecDepth 20000 in
theorem egX11_isInside_2 (N : Nat)   : ∀ (n : Nat) (x0 : Nat) (x1 : Int32) (u : SG), HK [(some x0, 12)] u → gX11_isInside_2 N   n x0 x1 u = hgX11_isInside_2 N   n x0 x1 u := by
  intro n
  induction n with
  | zero => intros; rfl
  | succ n ih =>
    intro x0 x1 u h_u
    have hrc2 := ih
    rw [gX11_isInside_2, hgX11_isInside_2]
    refine eq_g (show zK u x0 = 12 from (h_u.g 0 rfl)) ?_
    refine eq_if ?_ ?_
    · rfl
    · refine eq_g (show zK u x0 = 12 from (h_u.g 0 rfl)) ?_
      refine eq_bR (show zR u x0 15 = some (x0 + 7) from lyR_12_15 h_u.1 (h_u.g 0 rfl)) ?_
      refine eq_g (show zK u (x0 + 7) = 22 from (lyK_12_15 h_u.1 (h_u.g 0 rfl))) ?_
      refine eq_ixh (show zN u (x0 + 7) = 400 from lyN_12_15 h_u.1 (h_u.g 0 rfl)) (fun hix1 => ?_)
      refine eq_if ?_ ?_
      · rfl
      · exact hrc2 x0 (x1 + (1 : Int32)) u (hkc (show zK u x0 = 12 from (h_u.g 0 rfl)) (hk0 h_u.1))
set_option maxRecDepth 20000 in
def hX11_isInside (N : Nat)  (a0 : Nat) (u : SG) : Option (Int32 × SG) := hgX11_isInside_2 N   N a0 (0 : Int32) u
set_option maxRecDepth 20000 in
theorem eX11_isInside (N : Nat)  (a0 : Nat) (u : SG) (h_u : HK [(some a0, 12)] u) : fX11_isInside N  a0 u = hX11_isInside N  a0 u := by
  unfold fX11_isInside hX11_isInside
  exact egX11_isInside_2 N   N a0 (0 : Int32) u (hkc (show zK u a0 = 12 from (h_u.g 0 rfl)) (hk0 h_u.1))
set_option maxRecDepth 20000 in
def hgX11_closes_5 (N : Nat)   : Nat → Nat → SG → Option (Unit × SG)
  | 0, _, _ => none
  | n + 1, x0, u => cl (hX11_see N x0 u) fun r1 u2 => (if r1 = (93 : Int32) then (cl (hX11_isInside N x0 u2) fun r3 u4 => (if r3 = 0 then (some ((), u4))
  else (cl (hX11_settles N x0 (1 : Int32) u4) fun r5 u6 => (bs (sI u6 x0 16 ((zI u6 x0 16) - (1 : Int32))) fun u7 => (bs (sI u7 x0 13 ((zI u7 x0 13) - (1 : Int32))) fun u8 => (bs (sI u8 x0 8 ((zI u8 x0 8) + (1 : Int32))) fun u9 => (cl (hX11_settles N x0 (3 : Int32) u9) fun r10 u11 => ((hgX11_closes_5 N   n) x0 u11))))))))
  else (some ((), u2)))
set_option maxRecDepth 20000 in
theorem egX11_closes_5 (N : Nat)   : ∀ (n : Nat) (x0 : Nat) (u : SG), HK [(some x0, 12)] u → gX11_closes_5 N   n x0 u = hgX11_closes_5 N   n x0 u := by
  intro n
  induction n with
  | zero => intros; rfl
  | succ n ih =>
    intro x0 u h_u
    have hrc5 := ih
    rw [gX11_closes_5, hgX11_closes_5]
    refine eq_g (show zK u x0 = 12 from (h_u.g 0 rfl)) ?_
    refine eq_cH (eX11_see N x0 u (hkc (show zK u x0 = 12 from (h_u.g 0 rfl)) (hk0 h_u.1))) (fun r1 u2 e9 => h_u.fr (fr_X11_see (P := PT) N x0 u clPT trivial _ _ e9).1) (fun r1 u2 h_u2 => ?_)
    refine eq_if ?_ ?_
    · refine eq_g (show zK u2 x0 = 12 from (h_u2.g 0 rfl)) ?_
      refine eq_cH (eX11_isInside N x0 u2 (hkc (show zK u2 x0 = 12 from (h_u2.g 0 rfl)) (hk0 h_u2.1))) (fun r3 u4 e9 => h_u2.fr (fr_X11_isInside (P := PT) N x0 u2 clPT trivial _ _ e9).1) (fun r3 u4 h_u4 => ?_)
      refine eq_if ?_ ?_
      · rfl
      · refine eq_g (show zK u4 x0 = 12 from (h_u4.g 0 rfl)) ?_
        refine eq_cH (eX11_settles N x0 (1 : Int32) u4 (hkc (show zK u4 x0 = 12 from (h_u4.g 0 rfl)) (hk0 h_u4.1))) (fun r5 u6 e9 => h_u4.fr (fr_X11_settles (P := PT) N x0 (1 : Int32) u4 clPT trivial _ _ e9).1) (fun r5 u6 h_u6 => ?_)
        refine eq_g (show zK u6 x0 = 12 from (h_u6.g 0 rfl)) ?_
        refine eq_g (show zK u6 x0 = 12 from (h_u6.g 0 rfl)) ?_
        refine eq_sH (h_u6.fr (P := PT) (Fr.sIr trivial)) (fun u7 h_u7 => ?_)
        refine eq_g (show zK u7 x0 = 12 from (h_u7.g 0 rfl)) ?_
        refine eq_g (show zK u7 x0 = 12 from (h_u7.g 0 rfl)) ?_
        refine eq_sH (h_u7.fr (P := PT) (Fr.sIr trivial)) (fun u8 h_u8 => ?_)
        refine eq_g (show zK u8 x0 = 12 from (h_u8.g 0 rfl)) ?_
        refine eq_g (show zK u8 x0 = 12 from (h_u8.g 0 rfl)) ?_
        refine eq_sH (h_u8.fr (P := PT) (Fr.sIr trivial)) (fun u9 h_u9 => ?_)
        refine eq_g (show zK u9 x0 = 12 from (h_u9.g 0 rfl)) ?_
        refine eq_cH (eX11_settles N x0 (3 : Int32) u9 (hkc (show zK u9 x0 = 12 from (h_u9.g 0 rfl)) (hk0 h_u9.1))) (fun r10 u11 e9 => h_u9.fr (fr_X11_settles (P := PT) N x0 (3 : Int32) u9 clPT trivial _ _ e9).1) (fun r10 u11 h_u11 => ?_)
        exact hrc5 x0 u11 (hkc (show zK u11 x0 = 12 from (h_u11.g 0 rfl)) (hk0 h_u11.1))
    · rfl
set_option maxRecDepth 20000 in
def hX11_closes (N : Nat)  (a0 : Nat) (u : SG) : Option (Unit × SG) := cl (hX11_settles N a0 (3 : Int32) u) fun r1 u2 => (hgX11_closes_5 N   N a0 u2)
set_option maxRecDepth 20000 in
theorem eX11_closes (N : Nat)  (a0 : Nat) (u : SG) (h_u : HK [(some a0, 12)] u) : fX11_closes N  a0 u = hX11_closes N  a0 u := by
  unfold fX11_closes hX11_closes
  refine eq_g (show zK u a0 = 12 from (h_u.g 0 rfl)) ?_
  refine eq_cH (eX11_settles N a0 (3 : Int32) u (hkc (show zK u a0 = 12 from (h_u.g 0 rfl)) (hk0 h_u.1))) (fun r1 u2 e9 => h_u.fr (fr_X11_settles (P := PT) N a0 (3 : Int32) u clPT trivial _ _ e9).1) (fun r1 u2 h_u2 => ?_)
  exact egX11_closes_5 N   N a0 u2 (hkc (show zK u2 a0 = 12 from (h_u2.g 0 rfl)) (hk0 h_u2.1))
set_option maxRecDepth 20000 in
def hgX11_tested_76 (N : Nat)  (rc12 : Nat → Int32 → SG → Option (Int32 × SG)) (x0 : Nat) (x1 : Int32) (s0 : Int32) (u : SG) : Option (Int32 × SG) := cl (hX11_passWord N x0 u) fun r1 u2 => (cl (fX11_strength N s0 u2) fun r3 u4 => (cl (hX11_settles N x0 r3 u4) fun r5 u6 => (if (zI u6 x0 16) < 0 ∨ 400 ≤ (zI u6 x0 16).toNatClampNeg then none else (bs (sI u6 (x0 + 7) (zI u6 x0 16).toNatClampNeg s0) fun u8 => (bs (sI u8 x0 16 ((zI u8 x0 16) + (1 : Int32))) fun u9 => (rc12 x0 x1 u9))))))
set_option maxRecDepth 20000 in
theorem egX11_tested_76 (N : Nat)  (rec12 : Nat → Int32 → SG → Option (Int32 × SG)) (rc12 : Nat → Int32 → SG → Option (Int32 × SG)) (hrc12 : ∀ (x0 : Nat) (x1 : Int32) (u : SG), HK [(some x0, 12)] u → rec12 x0 x1 u = rc12 x0 x1 u) (x0 : Nat) (x1 : Int32) (s0 : Int32) (u : SG) (h_u : HK [(some x0, 12)] u) : gX11_tested_76 N  rec12 x0 x1 s0 u = hgX11_tested_76 N  rc12 x0 x1 s0 u := by
  unfold gX11_tested_76 hgX11_tested_76
  refine eq_g (show zK u x0 = 12 from (h_u.g 0 rfl)) ?_
  refine eq_cH (eX11_passWord N x0 u (hkc (show zK u x0 = 12 from (h_u.g 0 rfl)) (hk0 h_u.1))) (fun r1 u2 e9 => h_u.fr (fr_X11_passWord (P := PT) N x0 u clPT trivial _ _ e9).1) (fun r1 u2 h_u2 => ?_)
  refine eq_cH rfl (fun r3 u4 e9 => h_u2.fr (fr_X11_strength (P := PT) N s0 u2 clPT _ _ e9).1) (fun r3 u4 h_u4 => ?_)
  refine eq_g (show zK u4 x0 = 12 from (h_u4.g 0 rfl)) ?_
  refine eq_cH (eX11_settles N x0 r3 u4 (hkc (show zK u4 x0 = 12 from (h_u4.g 0 rfl)) (hk0 h_u4.1))) (fun r5 u6 e9 => h_u4.fr (fr_X11_settles (P := PT) N x0 r3 u4 clPT trivial _ _ e9).1) (fun r5 u6 h_u6 => ?_)
  refine eq_g (show zK u6 x0 = 12 from (h_u6.g 0 rfl)) ?_
  refine eq_bR (show zR u6 x0 15 = some (x0 + 7) from lyR_12_15 h_u6.1 (h_u6.g 0 rfl)) ?_
  refine eq_g (show zK u6 x0 = 12 from (h_u6.g 0 rfl)) ?_
  refine eq_g (show zK u6 (x0 + 7) = 22 from (lyK_12_15 h_u6.1 (h_u6.g 0 rfl))) ?_
  refine eq_ixh (show zN u6 (x0 + 7) = 400 from lyN_12_15 h_u6.1 (h_u6.g 0 rfl)) (fun hix1 => ?_)
  refine eq_sH (h_u6.fr (P := PT) (Fr.sIr trivial)) (fun u8 h_u8 => ?_)
  refine eq_g (show zK u8 x0 = 12 from (h_u8.g 0 rfl)) ?_
  refine eq_g (show zK u8 x0 = 12 from (h_u8.g 0 rfl)) ?_
  refine eq_sH (h_u8.fr (P := PT) (Fr.sIr trivial)) (fun u9 h_u9 => ?_)
  exact hrc12 x0 x1 u9 (hkc (show zK u9 x0 = 12 from (h_u9.g 0 rfl)) (hk0 h_u9.1))
set_option maxRecDepth 20000 in
def hgX11_tested_54 (N : Nat)  (rc12 : Nat → Int32 → SG → Option (Int32 × SG)) (x0 : Nat) (s0 : Int32) (u : SG) : Option (Int32 × SG) := if s0 = 0 then (rc12 x0 s0 u)
  else (cl (hX11_isWord N x0 (6385252 : Int64) u) fun r1 u2 => (if r1 = 0 then (hgX11_tested_76 N  rc12  x0 s0 (13 : Int32) u2)
  else (hgX11_tested_76 N  rc12  x0 s0 (12 : Int32) u2)))
set_option maxRecDepth 20000 in
theorem egX11_tested_54 (N : Nat)  (rec12 : Nat → Int32 → SG → Option (Int32 × SG)) (rc12 : Nat → Int32 → SG → Option (Int32 × SG)) (hrc12 : ∀ (x0 : Nat) (x1 : Int32) (u : SG), HK [(some x0, 12)] u → rec12 x0 x1 u = rc12 x0 x1 u) (x0 : Nat) (s0 : Int32) (u : SG) (h_u : HK [(some x0, 12)] u) : gX11_tested_54 N  rec12 x0 s0 u = hgX11_tested_54 N  rc12 x0 s0 u := by
  unfold gX11_tested_54 hgX11_tested_54
  refine eq_if ?_ ?_
  · exact hrc12 x0 s0 u (hkc (show zK u x0 = 12 from (h_u.g 0 rfl)) (hk0 h_u.1))
  · refine eq_g (show zK u x0 = 12 from (h_u.g 0 rfl)) ?_
    refine eq_cH (eX11_isWord N x0 (6385252 : Int64) u (hkc (show zK u x0 = 12 from (h_u.g 0 rfl)) (hk0 h_u.1))) (fun r1 u2 e9 => h_u.fr (fr_X11_isWord (P := PT) N x0 (6385252 : Int64) u clPT trivial _ _ e9).1) (fun r1 u2 h_u2 => ?_)
    refine eq_if ?_ ?_
    · exact egX11_tested_76 N  _ _ hrc12  x0 s0 (13 : Int32) u2 (hkc (show zK u2 x0 = 12 from (h_u2.g 0 rfl)) (hk0 h_u2.1))
    · exact egX11_tested_76 N  _ _ hrc12  x0 s0 (12 : Int32) u2 (hkc (show zK u2 x0 = 12 from (h_u2.g 0 rfl)) (hk0 h_u2.1))
set_option maxRecDepth 20000 in
def hgX11_tested_49 (N : Nat)  (rc12 : Nat → Int32 → SG → Option (Int32 × SG)) (x0 : Nat) (u : SG) : Option (Int32 × SG) := hgX11_tested_54 N  rc12  x0 (1 : Int32) u
set_option maxRecDepth 20000 in
theorem egX11_tested_49 (N : Nat)  (rec12 : Nat → Int32 → SG → Option (Int32 × SG)) (rc12 : Nat → Int32 → SG → Option (Int32 × SG)) (hrc12 : ∀ (x0 : Nat) (x1 : Int32) (u : SG), HK [(some x0, 12)] u → rec12 x0 x1 u = rc12 x0 x1 u) (x0 : Nat) (u : SG) (h_u : HK [(some x0, 12)] u) : gX11_tested_49 N  rec12 x0 u = hgX11_tested_49 N  rc12 x0 u := by
  unfold gX11_tested_49 hgX11_tested_49
  exact egX11_tested_54 N  _ _ hrc12  x0 (1 : Int32) u (hkc (show zK u x0 = 12 from (h_u.g 0 rfl)) (hk0 h_u.1))
set_option maxRecDepth 20000 in
def hgX11_tested_12 (N : Nat)   : Nat → Nat → Int32 → SG → Option (Int32 × SG)
  | 0, _, _, _ => none
  | n + 1, x0, x1, u => if x1 = 0 then (cl (hX11_isInside N x0 u) fun r1 u2 => (if r1 = 0 then (cl (hX11_settles N x0 (1 : Int32) u2) fun r3 u4 => (some ((1 : Int32), u4)))
  else (cl (hX11_see N x0 u2) fun r5 u6 => (cl (hX11_fails N x0 (0 : Int32) (zI u6 x0 8) u6) fun r7 u8 => (if r7 = 0 ∨ r7 = 1 then (some (r7, u8))
  else (none))))))
  else (cl (hX11_fact N x0 u) fun r9 u10 => (if r9 = 0 then (some ((0 : Int32), u10))
  else (cl (hX11_closes N x0 u10) fun r11 u12 => (cl (hX11_isWord N x0 (6385252 : Int64) u12) fun r13 u14 => (if r13 = 0 then (cl (hX11_isWord N x0 (28530 : Int64) u14) fun r15 u16 => (if r15 = 0 then (hgX11_tested_54 N  (hgX11_tested_12 N   n)  x0 (0 : Int32) u16)
  else (hgX11_tested_49 N  (hgX11_tested_12 N   n)  x0 u16)))
  else (hgX11_tested_49 N  (hgX11_tested_12 N   n)  x0 u14))))))
set_option maxRecDepth 20000 in
theorem egX11_tested_12 (N : Nat)   : ∀ (n : Nat) (x0 : Nat) (x1 : Int32) (u : SG), HK [(some x0, 12)] u → gX11_tested_12 N   n x0 x1 u = hgX11_tested_12 N   n x0 x1 u := by
  intro n
  induction n with
  | zero => intros; rfl
  | succ n ih =>
    intro x0 x1 u h_u
    have hrc12 := ih
    rw [gX11_tested_12, hgX11_tested_12]
    refine eq_if ?_ ?_
    · refine eq_g (show zK u x0 = 12 from (h_u.g 0 rfl)) ?_
      refine eq_cH (eX11_isInside N x0 u (hkc (show zK u x0 = 12 from (h_u.g 0 rfl)) (hk0 h_u.1))) (fun r1 u2 e9 => h_u.fr (fr_X11_isInside (P := PT) N x0 u clPT trivial _ _ e9).1) (fun r1 u2 h_u2 => ?_)
      refine eq_if ?_ ?_
      · refine eq_g (show zK u2 x0 = 12 from (h_u2.g 0 rfl)) ?_
        refine eq_cH (eX11_settles N x0 (1 : Int32) u2 (hkc (show zK u2 x0 = 12 from (h_u2.g 0 rfl)) (hk0 h_u2.1))) (fun r3 u4 e9 => h_u2.fr (fr_X11_settles (P := PT) N x0 (1 : Int32) u2 clPT trivial _ _ e9).1) (fun r3 u4 h_u4 => ?_)
        rfl
      · refine eq_g (show zK u2 x0 = 12 from (h_u2.g 0 rfl)) ?_
        refine eq_cH (eX11_see N x0 u2 (hkc (show zK u2 x0 = 12 from (h_u2.g 0 rfl)) (hk0 h_u2.1))) (fun r5 u6 e9 => h_u2.fr (fr_X11_see (P := PT) N x0 u2 clPT trivial _ _ e9).1) (fun r5 u6 h_u6 => ?_)
        refine eq_g (show zK u6 x0 = 12 from (h_u6.g 0 rfl)) ?_
        refine eq_g (show zK u6 x0 = 12 from (h_u6.g 0 rfl)) ?_
        refine eq_cH (eX11_fails N x0 (0 : Int32) (zI u6 x0 8) u6 (hkc (show zK u6 x0 = 12 from (h_u6.g 0 rfl)) (hk0 h_u6.1))) (fun r7 u8 e9 => h_u6.fr (fr_X11_fails (P := PT) N x0 (0 : Int32) (zI u6 x0 8) u6 clPT trivial _ _ e9).1) (fun r7 u8 h_u8 => ?_)
        refine eq_if ?_ ?_
        · rfl
        · rfl
    · refine eq_g (show zK u x0 = 12 from (h_u.g 0 rfl)) ?_
      refine eq_cH (eX11_fact N x0 u (hkc (show zK u x0 = 12 from (h_u.g 0 rfl)) (hk0 h_u.1))) (fun r9 u10 e9 => h_u.fr (fr_X11_fact (P := PT) N x0 u clPT trivial _ _ e9).1) (fun r9 u10 h_u10 => ?_)
      refine eq_if ?_ ?_
      · rfl
      · refine eq_g (show zK u10 x0 = 12 from (h_u10.g 0 rfl)) ?_
        refine eq_cH (eX11_closes N x0 u10 (hkc (show zK u10 x0 = 12 from (h_u10.g 0 rfl)) (hk0 h_u10.1))) (fun r11 u12 e9 => h_u10.fr (fr_X11_closes (P := PT) N x0 u10 clPT trivial _ _ e9).1) (fun r11 u12 h_u12 => ?_)
        refine eq_g (show zK u12 x0 = 12 from (h_u12.g 0 rfl)) ?_
        refine eq_cH (eX11_isWord N x0 (6385252 : Int64) u12 (hkc (show zK u12 x0 = 12 from (h_u12.g 0 rfl)) (hk0 h_u12.1))) (fun r13 u14 e9 => h_u12.fr (fr_X11_isWord (P := PT) N x0 (6385252 : Int64) u12 clPT trivial _ _ e9).1) (fun r13 u14 h_u14 => ?_)
        refine eq_if ?_ ?_
        · refine eq_g (show zK u14 x0 = 12 from (h_u14.g 0 rfl)) ?_
          refine eq_cH (eX11_isWord N x0 (28530 : Int64) u14 (hkc (show zK u14 x0 = 12 from (h_u14.g 0 rfl)) (hk0 h_u14.1))) (fun r15 u16 e9 => h_u14.fr (fr_X11_isWord (P := PT) N x0 (28530 : Int64) u14 clPT trivial _ _ e9).1) (fun r15 u16 h_u16 => ?_)
          refine eq_if ?_ ?_
          · exact egX11_tested_54 N  _ _ hrc12  x0 (0 : Int32) u16 (hkc (show zK u16 x0 = 12 from (h_u16.g 0 rfl)) (hk0 h_u16.1))
          · exact egX11_tested_49 N  _ _ hrc12  x0 u16 (hkc (show zK u16 x0 = 12 from (h_u16.g 0 rfl)) (hk0 h_u16.1))
        · exact egX11_tested_49 N  _ _ hrc12  x0 u14 (hkc (show zK u14 x0 = 12 from (h_u14.g 0 rfl)) (hk0 h_u14.1))
set_option maxRecDepth 20000 in
def hX11_tested (N : Nat)  (a0 : Nat) (u : SG) : Option (Int32 × SG) := bs (sI u a0 16 (0 : Int32)) fun u1 => (bs (sI u1 a0 13 (0 : Int32)) fun u2 => (hgX11_tested_12 N   N a0 (1 : Int32) u2))
set_option maxRecDepth 20000 in
theorem eX11_tested (N : Nat)  (a0 : Nat) (u : SG) (h_u : HK [(some a0, 12)] u) : fX11_tested N  a0 u = hX11_tested N  a0 u := by
  unfold fX11_tested hX11_tested
  refine eq_g (show zK u a0 = 12 from (h_u.g 0 rfl)) ?_
  refine eq_sH (h_u.fr (P := PT) (Fr.sIr trivial)) (fun u1 h_u1 => ?_)
  refine eq_g (show zK u1 a0 = 12 from (h_u1.g 0 rfl)) ?_
  refine eq_sH (h_u1.fr (P := PT) (Fr.sIr trivial)) (fun u2 h_u2 => ?_)
  exact egX11_tested_12 N   N a0 (1 : Int32) u2 (hkc (show zK u2 a0 = 12 from (h_u2.g 0 rfl)) (hk0 h_u2.1))
set_option maxRecDepth 20000 in
def hgX11_isSleepHere_110 (N : Nat)   (x0 : Nat) (x1 : Int32) (u : SG) : Option (Int32 × SG) := if (zI u x0 11) < 0 ∨ 7 ≤ (zI u x0 11).toNatClampNeg then none else (if (x1 + (3 : Int32)) < 0 ∨ 288 ≤ (x1 + (3 : Int32)).toNatClampNeg then none else (bs (sI u (x0 + 4) (x1 + (3 : Int32)).toNatClampNeg (zI u (x0 + 3) (zI u x0 11).toNatClampNeg)) fun u3 => (if (zI u3 x0 11) < 0 ∨ 6 ≤ (zI u3 x0 11).toNatClampNeg then none else (if (zI u3 x0 11) < 0 ∨ 6 ≤ (zI u3 x0 11).toNatClampNeg then none else (bs (sI u3 (x0 + 5) (zI u3 x0 11).toNatClampNeg ((zI u3 (x0 + 5) (zI u3 x0 11).toNatClampNeg) + (1 : Int32))) fun u5 => (some ((1 : Int32), u5)))))))
set_option maxRecDepth 20000 in
theorem egX11_isSleepHere_110 (N : Nat)   (x0 : Nat) (x1 : Int32) (u : SG) (h_u : HK [(some x0, 12)] u) : gX11_isSleepHere_110 N   x0 x1 u = hgX11_isSleepHere_110 N   x0 x1 u := by
  unfold gX11_isSleepHere_110 hgX11_isSleepHere_110
  refine eq_g (show zK u x0 = 12 from (h_u.g 0 rfl)) ?_
  refine eq_bR (show zR u x0 5 = some (x0 + 4) from lyR_12_5 h_u.1 (h_u.g 0 rfl)) ?_
  refine eq_g (show zK u x0 = 12 from (h_u.g 0 rfl)) ?_
  refine eq_bR (show zR u x0 4 = some (x0 + 3) from lyR_12_4 h_u.1 (h_u.g 0 rfl)) ?_
  refine eq_g (show zK u x0 = 12 from (h_u.g 0 rfl)) ?_
  refine eq_g (show zK u (x0 + 3) = 22 from (lyK_12_4 h_u.1 (h_u.g 0 rfl))) ?_
  refine eq_ixh (show zN u (x0 + 3) = 7 from lyN_12_4 h_u.1 (h_u.g 0 rfl)) (fun hix1 => ?_)
  refine eq_g (show zK u (x0 + 4) = 22 from (lyK_12_5 h_u.1 (h_u.g 0 rfl))) ?_
  refine eq_ixh (show zN u (x0 + 4) = 288 from lyN_12_5 h_u.1 (h_u.g 0 rfl)) (fun hix2 => ?_)
  refine eq_sH (h_u.fr (P := PT) (Fr.sIr trivial)) (fun u3 h_u3 => ?_)
  refine eq_g (show zK u3 x0 = 12 from (h_u3.g 0 rfl)) ?_
  refine eq_bR (show zR u3 x0 6 = some (x0 + 5) from lyR_12_6 h_u3.1 (h_u3.g 0 rfl)) ?_
  refine eq_g (show zK u3 x0 = 12 from (h_u3.g 0 rfl)) ?_
  refine eq_g (show zK u3 (x0 + 5) = 22 from (lyK_12_6 h_u3.1 (h_u3.g 0 rfl))) ?_
  refine eq_ixh (show zN u3 (x0 + 5) = 6 from lyN_12_6 h_u3.1 (h_u3.g 0 rfl)) (fun hix3 => ?_)
  refine eq_g (show zK u3 (x0 + 5) = 22 from (lyK_12_6 h_u3.1 (h_u3.g 0 rfl))) ?_
  refine eq_ixh (show zN u3 (x0 + 5) = 6 from lyN_12_6 h_u3.1 (h_u3.g 0 rfl)) (fun hix4 => ?_)
  refine eq_sH (h_u3.fr (P := PT) (Fr.sIr trivial)) (fun u5 h_u5 => ?_)
  rfl
set_option maxRecDepth 20000 in
def hX11_isSleepHere (N : Nat)  (a0 : Nat) (u : SG) : Option (Int32 × SG) := cl (hX11_passWord N a0 u) fun r1 u2 => (if (zI u2 a0 11) < 0 ∨ 6 ≤ (zI u2 a0 11).toNatClampNeg then none else (bs (((48 : Int32) * (zI u2 a0 11)) + ((4 : Int32) * (zI u2 (a0 + 5) (zI u2 a0 11).toNatClampNeg))) fun v4 => (if (zI u2 a0 11) < 0 ∨ 7 ≤ (zI u2 a0 11).toNatClampNeg then none else (if v4 < 0 ∨ 288 ≤ v4.toNatClampNeg then none else (bs (sI u2 (a0 + 4) v4.toNatClampNeg (zI u2 (a0 + 3) (zI u2 a0 11).toNatClampNeg)) fun u7 => (cl (hX11_sum N a0 u7) fun r8 u9 => (if r8 = 0 then (some ((0 : Int32), u9))
  else (if (zI u9 a0 11) < 0 ∨ 7 ≤ (zI u9 a0 11).toNatClampNeg then none else (if (v4 + (1 : Int32)) < 0 ∨ 288 ≤ (v4 + (1 : Int32)).toNatClampNeg then none else (bs (sI u9 (a0 + 4) (v4 + (1 : Int32)).toNatClampNeg (zI u9 (a0 + 3) (zI u9 a0 11).toNatClampNeg)) fun u12 => (if (v4 + (2 : Int32)) < 0 ∨ 288 ≤ (v4 + (2 : Int32)).toNatClampNeg then none else (bs (sI u12 (a0 + 4) (v4 + (2 : Int32)).toNatClampNeg (-1 : Int32)) fun u14 => (cl (hX11_takesWord N a0 (26982 : Int64) u14) fun r15 u16 => (if r15 = 0 then (hgX11_isSleepHere_110 N    a0 v4 u16)
  else (if (zI u16 a0 11) < 0 ∨ 7 ≤ (zI u16 a0 11).toNatClampNeg then none else (if (v4 + (2 : Int32)) < 0 ∨ 288 ≤ (v4 + (2 : Int32)).toNatClampNeg then none else (bs (sI u16 (a0 + 4) (v4 + (2 : Int32)).toNatClampNeg (zI u16 (a0 + 3) (zI u16 a0 11).toNatClampNeg)) fun u19 => (cl (hX11_tested N a0 u19) fun r20 u21 => (if r20 = 0 then (some ((0 : Int32), u21))
  else (hgX11_isSleepHere_110 N    a0 v4 u21))))))))))))))))))))
set_option maxRecDepth 20000 in
theorem eX11_isSleepHere (N : Nat)  (a0 : Nat) (u : SG) (h_u : HK [(some a0, 12)] u) : fX11_isSleepHere N  a0 u = hX11_isSleepHere N  a0 u := by
  unfold fX11_isSleepHere hX11_isSleepHere
  refine eq_g (show zK u a0 = 12 from (h_u.g 0 rfl)) ?_
  refine eq_cH (eX11_passWord N a0 u (hkc (show zK u a0 = 12 from (h_u.g 0 rfl)) (hk0 h_u.1))) (fun r1 u2 e9 => h_u.fr (fr_X11_passWord (P := PT) N a0 u clPT trivial _ _ e9).1) (fun r1 u2 h_u2 => ?_)
  refine eq_g (show zK u2 a0 = 12 from (h_u2.g 0 rfl)) ?_
  refine eq_g (show zK u2 a0 = 12 from (h_u2.g 0 rfl)) ?_
  refine eq_bR (show zR u2 a0 6 = some (a0 + 5) from lyR_12_6 h_u2.1 (h_u2.g 0 rfl)) ?_
  refine eq_g (show zK u2 a0 = 12 from (h_u2.g 0 rfl)) ?_
  refine eq_g (show zK u2 (a0 + 5) = 22 from (lyK_12_6 h_u2.1 (h_u2.g 0 rfl))) ?_
  refine eq_ixh (show zN u2 (a0 + 5) = 6 from lyN_12_6 h_u2.1 (h_u2.g 0 rfl)) (fun hix1 => ?_)
  refine eq_bs (fun v4 => ?_)
  refine eq_g (show zK u2 a0 = 12 from (h_u2.g 0 rfl)) ?_
  refine eq_bR (show zR u2 a0 5 = some (a0 + 4) from lyR_12_5 h_u2.1 (h_u2.g 0 rfl)) ?_
  refine eq_g (show zK u2 a0 = 12 from (h_u2.g 0 rfl)) ?_
  refine eq_bR (show zR u2 a0 4 = some (a0 + 3) from lyR_12_4 h_u2.1 (h_u2.g 0 rfl)) ?_
  refine eq_g (show zK u2 a0 = 12 from (h_u2.g 0 rfl)) ?_
  refine eq_g (show zK u2 (a0 + 3) = 22 from (lyK_12_4 h_u2.1 (h_u2.g 0 rfl))) ?_
  refine eq_ixh (show zN u2 (a0 + 3) = 7 from lyN_12_4 h_u2.1 (h_u2.g 0 rfl)) (fun hix2 => ?_)
  refine eq_g (show zK u2 (a0 + 4) = 22 from (lyK_12_5 h_u2.1 (h_u2.g 0 rfl))) ?_
  refine eq_ixh (show zN u2 (a0 + 4) = 288 from lyN_12_5 h_u2.1 (h_u2.g 0 rfl)) (fun hix3 => ?_)
  refine eq_sH (h_u2.fr (P := PT) (Fr.sIr trivial)) (fun u7 h_u7 => ?_)
  refine eq_g (show zK u7 a0 = 12 from (h_u7.g 0 rfl)) ?_
  refine eq_cH (eX11_sum N a0 u7 (hkc (show zK u7 a0 = 12 from (h_u7.g 0 rfl)) (hk0 h_u7.1))) (fun r8 u9 e9 => h_u7.fr (fr_X11_sum (P := PT) N a0 u7 clPT trivial _ _ e9).1) (fun r8 u9 h_u9 => ?_)
  refine eq_if ?_ ?_
  · rfl
  · refine eq_g (show zK u9 a0 = 12 from (h_u9.g 0 rfl)) ?_
    refine eq_bR (show zR u9 a0 5 = some (a0 + 4) from lyR_12_5 h_u9.1 (h_u9.g 0 rfl)) ?_
    refine eq_g (show zK u9 a0 = 12 from (h_u9.g 0 rfl)) ?_
    refine eq_bR (show zR u9 a0 4 = some (a0 + 3) from lyR_12_4 h_u9.1 (h_u9.g 0 rfl)) ?_
    refine eq_g (show zK u9 a0 = 12 from (h_u9.g 0 rfl)) ?_
    refine eq_g (show zK u9 (a0 + 3) = 22 from (lyK_12_4 h_u9.1 (h_u9.g 0 rfl))) ?_
    refine eq_ixh (show zN u9 (a0 + 3) = 7 from lyN_12_4 h_u9.1 (h_u9.g 0 rfl)) (fun hix4 => ?_)
    refine eq_g (show zK u9 (a0 + 4) = 22 from (lyK_12_5 h_u9.1 (h_u9.g 0 rfl))) ?_
    refine eq_ixh (show zN u9 (a0 + 4) = 288 from lyN_12_5 h_u9.1 (h_u9.g 0 rfl)) (fun hix5 => ?_)
    refine eq_sH (h_u9.fr (P := PT) (Fr.sIr trivial)) (fun u12 h_u12 => ?_)
    refine eq_g (show zK u12 a0 = 12 from (h_u12.g 0 rfl)) ?_
    refine eq_bR (show zR u12 a0 5 = some (a0 + 4) from lyR_12_5 h_u12.1 (h_u12.g 0 rfl)) ?_
    refine eq_g (show zK u12 (a0 + 4) = 22 from (lyK_12_5 h_u12.1 (h_u12.g 0 rfl))) ?_
    refine eq_ixh (show zN u12 (a0 + 4) = 288 from lyN_12_5 h_u12.1 (h_u12.g 0 rfl)) (fun hix6 => ?_)
    refine eq_sH (h_u12.fr (P := PT) (Fr.sIr trivial)) (fun u14 h_u14 => ?_)
    refine eq_g (show zK u14 a0 = 12 from (h_u14.g 0 rfl)) ?_
    refine eq_cH (eX11_takesWord N a0 (26982 : Int64) u14 (hkc (show zK u14 a0 = 12 from (h_u14.g 0 rfl)) (hk0 h_u14.1))) (fun r15 u16 e9 => h_u14.fr (fr_X11_takesWord (P := PT) N a0 (26982 : Int64) u14 clPT trivial _ _ e9).1) (fun r15 u16 h_u16 => ?_)
    refine eq_if ?_ ?_
    · exact egX11_isSleepHere_110 N    a0 v4 u16 (hkc (show zK u16 a0 = 12 from (h_u16.g 0 rfl)) (hk0 h_u16.1))
    · refine eq_g (show zK u16 a0 = 12 from (h_u16.g 0 rfl)) ?_
      refine eq_bR (show zR u16 a0 5 = some (a0 + 4) from lyR_12_5 h_u16.1 (h_u16.g 0 rfl)) ?_
      refine eq_g (show zK u16 a0 = 12 from (h_u16.g 0 rfl)) ?_
      refine eq_bR (show zR u16 a0 4 = some (a0 + 3) from lyR_12_4 h_u16.1 (h_u16.g 0 rfl)) ?_
      refine eq_g (show zK u16 a0 = 12 from (h_u16.g 0 rfl)) ?_
      refine eq_g (show zK u16 (a0 + 3) = 22 from (lyK_12_4 h_u16.1 (h_u16.g 0 rfl))) ?_
      refine eq_ixh (show zN u16 (a0 + 3) = 7 from lyN_12_4 h_u16.1 (h_u16.g 0 rfl)) (fun hix7 => ?_)
      refine eq_g (show zK u16 (a0 + 4) = 22 from (lyK_12_5 h_u16.1 (h_u16.g 0 rfl))) ?_
      refine eq_ixh (show zN u16 (a0 + 4) = 288 from lyN_12_5 h_u16.1 (h_u16.g 0 rfl)) (fun hix8 => ?_)
      refine eq_sH (h_u16.fr (P := PT) (Fr.sIr trivial)) (fun u19 h_u19 => ?_)
      refine eq_g (show zK u19 a0 = 12 from (h_u19.g 0 rfl)) ?_
      refine eq_cH (eX11_tested N a0 u19 (hkc (show zK u19 a0 = 12 from (h_u19.g 0 rfl)) (hk0 h_u19.1))) (fun r20 u21 e9 => h_u19.fr (fr_X11_tested (P := PT) N a0 u19 clPT trivial _ _ e9).1) (fun r20 u21 h_u21 => ?_)
      refine eq_if ?_ ?_
      · rfl
      · exact egX11_isSleepHere_110 N    a0 v4 u21 (hkc (show zK u21 a0 = 12 from (h_u21.g 0 rfl)) (hk0 h_u21.1))
set_option maxRecDepth 20000 in
def hX11_cellHere (N : Nat)  (a0 : Nat) (p1 : Int32) (p2 : Int32) (p3 : Int32) (u : SG) : Option (Int32 × SG) := cl (hX11_numberHere N a0 p2 p3 u) fun r1 u2 => (if r1 = 0 then (some ((0 : Int32), u2))
  else (if p1 < 0 ∨ 103 ≤ p1.toNatClampNeg then none else (bs (sI u2 (a0 + 6) p1.toNatClampNeg (zI u2 a0 10)) fun u4 => (some ((1 : Int32), u4)))))
set_option maxRecDepth 20000 in
theorem eX11_cellHere (N : Nat)  (a0 : Nat) (p1 : Int32) (p2 : Int32) (p3 : Int32) (u : SG) (h_u : HK [(some a0, 12)] u) : fX11_cellHere N  a0 p1 p2 p3 u = hX11_cellHere N  a0 p1 p2 p3 u := by
  unfold fX11_cellHere hX11_cellHere
  refine eq_g (show zK u a0 = 12 from (h_u.g 0 rfl)) ?_
  refine eq_cH (eX11_numberHere N a0 p2 p3 u (hkc (show zK u a0 = 12 from (h_u.g 0 rfl)) (hk0 h_u.1))) (fun r1 u2 e9 => h_u.fr (fr_X11_numberHere (P := PT) N a0 p2 p3 u clPT trivial _ _ e9).1) (fun r1 u2 h_u2 => ?_)
  refine eq_if ?_ ?_
  · rfl
  · refine eq_g (show zK u2 a0 = 12 from (h_u2.g 0 rfl)) ?_
    refine eq_bR (show zR u2 a0 7 = some (a0 + 6) from lyR_12_7 h_u2.1 (h_u2.g 0 rfl)) ?_
    refine eq_g (show zK u2 a0 = 12 from (h_u2.g 0 rfl)) ?_
    refine eq_g (show zK u2 (a0 + 6) = 22 from (lyK_12_7 h_u2.1 (h_u2.g 0 rfl))) ?_
    refine eq_ixh (show zN u2 (a0 + 6) = 103 from lyN_12_7 h_u2.1 (h_u2.g 0 rfl)) (fun hix1 => ?_)
    refine eq_sH (h_u2.fr (P := PT) (Fr.sIr trivial)) (fun u4 h_u4 => ?_)
    rfl
set_option maxRecDepth 20000 in
def hX11_isStreetHere (N : Nat)  (a0 : Nat) (p1 : Int32) (u : SG) : Option (Int32 × SG) := if (zI u (a0 + 6) 0) ≤ 0 then (cl (hX11_passWord N a0 u) fun r2 u3 => (cl (hX11_cellHere N a0 (0 : Int32) (2 : Int32) (10 : Int32) u3) fun r4 u5 => (if r4 = 0 ∨ r4 = 1 then (some (r4, u5))
  else (none))))
  else (cl (hX11_fails N a0 (4 : Int32) p1 u) fun r6 u7 => (if r6 = 0 ∨ r6 = 1 then (some (r6, u7))
  else (none)))
set_option maxRecDepth 20000 in
theorem eX11_isStreetHere (N : Nat)  (a0 : Nat) (p1 : Int32) (u : SG) (h_u : HK [(some a0, 12)] u) : fX11_isStreetHere N  a0 p1 u = hX11_isStreetHere N  a0 p1 u := by
  unfold fX11_isStreetHere hX11_isStreetHere
  refine eq_g (show zK u a0 = 12 from (h_u.g 0 rfl)) ?_
  refine eq_bR (show zR u a0 7 = some (a0 + 6) from lyR_12_7 h_u.1 (h_u.g 0 rfl)) ?_
  refine eq_g (show zK u (a0 + 6) = 22 from (lyK_12_7 h_u.1 (h_u.g 0 rfl))) ?_
  refine eq_n (by rw [show zN u (a0 + 6) = 103 from lyN_12_7 h_u.1 (h_u.g 0 rfl)]; decide) ?_
  refine eq_if ?_ ?_
  · refine eq_g (show zK u a0 = 12 from (h_u.g 0 rfl)) ?_
    refine eq_cH (eX11_passWord N a0 u (hkc (show zK u a0 = 12 from (h_u.g 0 rfl)) (hk0 h_u.1))) (fun r2 u3 e9 => h_u.fr (fr_X11_passWord (P := PT) N a0 u clPT trivial _ _ e9).1) (fun r2 u3 h_u3 => ?_)
    refine eq_g (show zK u3 a0 = 12 from (h_u3.g 0 rfl)) ?_
    refine eq_cH (eX11_cellHere N a0 (0 : Int32) (2 : Int32) (10 : Int32) u3 (hkc (show zK u3 a0 = 12 from (h_u3.g 0 rfl)) (hk0 h_u3.1))) (fun r4 u5 e9 => h_u3.fr (fr_X11_cellHere (P := PT) N a0 (0 : Int32) (2 : Int32) (10 : Int32) u3 clPT trivial _ _ e9).1) (fun r4 u5 h_u5 => ?_)
    refine eq_if ?_ ?_
    · rfl
    · rfl
  · refine eq_g (show zK u a0 = 12 from (h_u.g 0 rfl)) ?_
    refine eq_cH (eX11_fails N a0 (4 : Int32) p1 u (hkc (show zK u a0 = 12 from (h_u.g 0 rfl)) (hk0 h_u.1))) (fun r6 u7 e9 => h_u.fr (fr_X11_fails (P := PT) N a0 (4 : Int32) p1 u clPT trivial _ _ e9).1) (fun r6 u7 h_u7 => ?_)
    refine eq_if ?_ ?_
    · rfl
    · rfl
set_option maxRecDepth 20000 in
def hgX11_isPersonHere_66 (N : Nat)   : Nat → Nat → Int32 → Int32 → SG → Option (Int32 × SG)
  | 0, _, _, _, _ => none
  | n + 1, x0, x2, x3, u => if (6 : Int32) ≤ x3 then (bs (sI u (x0 + 6) 1 ((zI u (x0 + 6) 1) + (1 : Int32))) fun u2 => (some ((1 : Int32), u2)))
  else (if (x2 + x3) < 0 ∨ 103 ≤ (x2 + x3).toNatClampNeg then none else (bs (sI u (x0 + 6) (x2 + x3).toNatClampNeg (0 : Int32)) fun u4 => ((hgX11_isPersonHere_66 N   n) x0 x2 (x3 + (1 : Int32)) u4)))
set_option maxRecDepth 20000 in
theorem egX11_isPersonHere_66 (N : Nat)   : ∀ (n : Nat) (x0 : Nat) (x2 : Int32) (x3 : Int32) (u : SG), HK [(some x0, 12)] u → gX11_isPersonHere_66 N   n x0 x2 x3 u = hgX11_isPersonHere_66 N   n x0 x2 x3 u := by
  intro n
  induction n with
  | zero => intros; rfl
  | succ n ih =>
    intro x0 x2 x3 u h_u
    have hrc66 := ih
    rw [gX11_isPersonHere_66, hgX11_isPersonHere_66]
    refine eq_if ?_ ?_
    · refine eq_g (show zK u x0 = 12 from (h_u.g 0 rfl)) ?_
      refine eq_bR (show zR u x0 7 = some (x0 + 6) from lyR_12_7 h_u.1 (h_u.g 0 rfl)) ?_
      refine eq_g (show zK u (x0 + 6) = 22 from (lyK_12_7 h_u.1 (h_u.g 0 rfl))) ?_
      refine eq_n (by rw [show zN u (x0 + 6) = 103 from lyN_12_7 h_u.1 (h_u.g 0 rfl)]; decide) ?_
      refine eq_g (show zK u (x0 + 6) = 22 from (lyK_12_7 h_u.1 (h_u.g 0 rfl))) ?_
      refine eq_n (by rw [show zN u (x0 + 6) = 103 from lyN_12_7 h_u.1 (h_u.g 0 rfl)]; decide) ?_
      refine eq_sH (h_u.fr (P := PT) (Fr.sIr trivial)) (fun u2 h_u2 => ?_)
      rfl
    · refine eq_g (show zK u x0 = 12 from (h_u.g 0 rfl)) ?_
      refine eq_bR (show zR u x0 7 = some (x0 + 6) from lyR_12_7 h_u.1 (h_u.g 0 rfl)) ?_
      refine eq_g (show zK u (x0 + 6) = 22 from (lyK_12_7 h_u.1 (h_u.g 0 rfl))) ?_
      refine eq_ixh (show zN u (x0 + 6) = 103 from lyN_12_7 h_u.1 (h_u.g 0 rfl)) (fun hix1 => ?_)
      refine eq_sH (h_u.fr (P := PT) (Fr.sIr trivial)) (fun u4 h_u4 => ?_)
      exact hrc66 x0 x2 (x3 + (1 : Int32)) u4 (hkc (show zK u4 x0 = 12 from (h_u4.g 0 rfl)) (hk0 h_u4.1))
set_option maxRecDepth 20000 in
def hX11_isPersonHere (N : Nat)  (a0 : Nat) (p1 : Int32) (u : SG) : Option (Int32 × SG) := if (zI u (a0 + 6) 1) = (5 : Int32) then (cl (hX11_fails N a0 (4 : Int32) p1 u) fun r11 u12 => (if r11 = 0 ∨ r11 = 1 then (some (r11, u12))
  else (none)))
  else (cl (hX11_passWord N a0 u) fun r2 u3 => (bs ((10 : Int32) + ((6 : Int32) * (zI u3 (a0 + 6) 1))) fun v5 => (cl (hX11_cellHere N a0 v5 (0 : Int32) (zI u3 (a0 + 6) 0) u3) fun r7 u8 => (if r7 = 0 then (some ((0 : Int32), u8))
  else (cl (hX11_cellHere N a0 (v5 + (1 : Int32)) (0 : Int32) (60 : Int32) u8) fun r9 u10 => (if r9 = 0 then (some ((0 : Int32), u10))
  else (hgX11_isPersonHere_66 N   N a0 v5 (2 : Int32) u10)))))))
set_option maxRecDepth 20000 in
theorem eX11_isPersonHere (N : Nat)  (a0 : Nat) (p1 : Int32) (u : SG) (h_u : HK [(some a0, 12)] u) : fX11_isPersonHere N  a0 p1 u = hX11_isPersonHere N  a0 p1 u := by
  unfold fX11_isPersonHere hX11_isPersonHere
  refine eq_g (show zK u a0 = 12 from (h_u.g 0 rfl)) ?_
  refine eq_bR (show zR u a0 7 = some (a0 + 6) from lyR_12_7 h_u.1 (h_u.g 0 rfl)) ?_
  refine eq_g (show zK u (a0 + 6) = 22 from (lyK_12_7 h_u.1 (h_u.g 0 rfl))) ?_
  refine eq_n (by rw [show zN u (a0 + 6) = 103 from lyN_12_7 h_u.1 (h_u.g 0 rfl)]; decide) ?_
  refine eq_if ?_ ?_
  · refine eq_g (show zK u a0 = 12 from (h_u.g 0 rfl)) ?_
    refine eq_cH (eX11_fails N a0 (4 : Int32) p1 u (hkc (show zK u a0 = 12 from (h_u.g 0 rfl)) (hk0 h_u.1))) (fun r11 u12 e9 => h_u.fr (fr_X11_fails (P := PT) N a0 (4 : Int32) p1 u clPT trivial _ _ e9).1) (fun r11 u12 h_u12 => ?_)
    refine eq_if ?_ ?_
    · rfl
    · rfl
  · refine eq_g (show zK u a0 = 12 from (h_u.g 0 rfl)) ?_
    refine eq_cH (eX11_passWord N a0 u (hkc (show zK u a0 = 12 from (h_u.g 0 rfl)) (hk0 h_u.1))) (fun r2 u3 e9 => h_u.fr (fr_X11_passWord (P := PT) N a0 u clPT trivial _ _ e9).1) (fun r2 u3 h_u3 => ?_)
    refine eq_g (show zK u3 a0 = 12 from (h_u3.g 0 rfl)) ?_
    refine eq_bR (show zR u3 a0 7 = some (a0 + 6) from lyR_12_7 h_u3.1 (h_u3.g 0 rfl)) ?_
    refine eq_g (show zK u3 (a0 + 6) = 22 from (lyK_12_7 h_u3.1 (h_u3.g 0 rfl))) ?_
    refine eq_n (by rw [show zN u3 (a0 + 6) = 103 from lyN_12_7 h_u3.1 (h_u3.g 0 rfl)]; decide) ?_
    refine eq_bs (fun v5 => ?_)
    refine eq_g (show zK u3 a0 = 12 from (h_u3.g 0 rfl)) ?_
    refine eq_bR (show zR u3 a0 7 = some (a0 + 6) from lyR_12_7 h_u3.1 (h_u3.g 0 rfl)) ?_
    refine eq_g (show zK u3 (a0 + 6) = 22 from (lyK_12_7 h_u3.1 (h_u3.g 0 rfl))) ?_
    refine eq_n (by rw [show zN u3 (a0 + 6) = 103 from lyN_12_7 h_u3.1 (h_u3.g 0 rfl)]; decide) ?_
    refine eq_g (show zK u3 a0 = 12 from (h_u3.g 0 rfl)) ?_
    refine eq_cH (eX11_cellHere N a0 v5 (0 : Int32) (zI u3 (a0 + 6) 0) u3 (hkc (show zK u3 a0 = 12 from (h_u3.g 0 rfl)) (hk0 h_u3.1))) (fun r7 u8 e9 => h_u3.fr (fr_X11_cellHere (P := PT) N a0 v5 (0 : Int32) (zI u3 (a0 + 6) 0) u3 clPT trivial _ _ e9).1) (fun r7 u8 h_u8 => ?_)
    refine eq_if ?_ ?_
    · rfl
    · refine eq_g (show zK u8 a0 = 12 from (h_u8.g 0 rfl)) ?_
      refine eq_cH (eX11_cellHere N a0 (v5 + (1 : Int32)) (0 : Int32) (60 : Int32) u8 (hkc (show zK u8 a0 = 12 from (h_u8.g 0 rfl)) (hk0 h_u8.1))) (fun r9 u10 e9 => h_u8.fr (fr_X11_cellHere (P := PT) N a0 (v5 + (1 : Int32)) (0 : Int32) (60 : Int32) u8 clPT trivial _ _ e9).1) (fun r9 u10 h_u10 => ?_)
      refine eq_if ?_ ?_
      · rfl
      · exact egX11_isPersonHere_66 N   N a0 v5 (2 : Int32) u10 (hkc (show zK u10 a0 = 12 from (h_u10.g 0 rfl)) (hk0 h_u10.1))
set_option maxRecDepth 20000 in
def hX11_isSpanHere (N : Nat)  (a0 : Nat) (p1 : Int32) (p2 : Int32) (u : SG) : Option (Int32 × SG) := cl (hX11_passWord N a0 u) fun r1 u2 => (cl (hX11_cellHere N a0 p1 (0 : Int32) (p2 - (1 : Int32)) u2) fun r3 u4 => (if r3 = 0 then (some ((0 : Int32), u4))
  else (cl (hX11_cellHere N a0 (p1 + (1 : Int32)) (0 : Int32) ((zI u4 (a0 + 6) 0) - (1 : Int32)) u4) fun r6 u7 => (if r6 = 0 then (some ((0 : Int32), u7))
  else (if (p1 + (1 : Int32)) < 0 ∨ 103 ≤ (p1 + (1 : Int32)).toNatClampNeg then none else (cl (hX11_cellHere N a0 (p1 + (2 : Int32)) (zI u7 (a0 + 6) (p1 + (1 : Int32)).toNatClampNeg) ((zI u7 (a0 + 6) 0) - (1 : Int32)) u7) fun r10 u11 => (if r10 = 0 then (some ((0 : Int32), u11))
  else (some ((1 : Int32), u11)))))))))
set_option maxRecDepth 20000 in
theorem eX11_isSpanHere (N : Nat)  (a0 : Nat) (p1 : Int32) (p2 : Int32) (u : SG) (h_u : HK [(some a0, 12)] u) : fX11_isSpanHere N  a0 p1 p2 u = hX11_isSpanHere N  a0 p1 p2 u := by
  unfold fX11_isSpanHere hX11_isSpanHere
  refine eq_g (show zK u a0 = 12 from (h_u.g 0 rfl)) ?_
  refine eq_cH (eX11_passWord N a0 u (hkc (show zK u a0 = 12 from (h_u.g 0 rfl)) (hk0 h_u.1))) (fun r1 u2 e9 => h_u.fr (fr_X11_passWord (P := PT) N a0 u clPT trivial _ _ e9).1) (fun r1 u2 h_u2 => ?_)
  refine eq_g (show zK u2 a0 = 12 from (h_u2.g 0 rfl)) ?_
  refine eq_cH (eX11_cellHere N a0 p1 (0 : Int32) (p2 - (1 : Int32)) u2 (hkc (show zK u2 a0 = 12 from (h_u2.g 0 rfl)) (hk0 h_u2.1))) (fun r3 u4 e9 => h_u2.fr (fr_X11_cellHere (P := PT) N a0 p1 (0 : Int32) (p2 - (1 : Int32)) u2 clPT trivial _ _ e9).1) (fun r3 u4 h_u4 => ?_)
  refine eq_if ?_ ?_
  · rfl
  · refine eq_g (show zK u4 a0 = 12 from (h_u4.g 0 rfl)) ?_
    refine eq_bR (show zR u4 a0 7 = some (a0 + 6) from lyR_12_7 h_u4.1 (h_u4.g 0 rfl)) ?_
    refine eq_g (show zK u4 (a0 + 6) = 22 from (lyK_12_7 h_u4.1 (h_u4.g 0 rfl))) ?_
    refine eq_n (by rw [show zN u4 (a0 + 6) = 103 from lyN_12_7 h_u4.1 (h_u4.g 0 rfl)]; decide) ?_
    refine eq_g (show zK u4 a0 = 12 from (h_u4.g 0 rfl)) ?_
    refine eq_cH (eX11_cellHere N a0 (p1 + (1 : Int32)) (0 : Int32) ((zI u4 (a0 + 6) 0) - (1 : Int32)) u4 (hkc (show zK u4 a0 = 12 from (h_u4.g 0 rfl)) (hk0 h_u4.1))) (fun r6 u7 e9 => h_u4.fr (fr_X11_cellHere (P := PT) N a0 (p1 + (1 : Int32)) (0 : Int32) ((zI u4 (a0 + 6) 0) - (1 : Int32)) u4 clPT trivial _ _ e9).1) (fun r6 u7 h_u7 => ?_)
    refine eq_if ?_ ?_
    · rfl
    · refine eq_g (show zK u7 a0 = 12 from (h_u7.g 0 rfl)) ?_
      refine eq_bR (show zR u7 a0 7 = some (a0 + 6) from lyR_12_7 h_u7.1 (h_u7.g 0 rfl)) ?_
      refine eq_g (show zK u7 (a0 + 6) = 22 from (lyK_12_7 h_u7.1 (h_u7.g 0 rfl))) ?_
      refine eq_ixh (show zN u7 (a0 + 6) = 103 from lyN_12_7 h_u7.1 (h_u7.g 0 rfl)) (fun hix1 => ?_)
      refine eq_g (show zK u7 a0 = 12 from (h_u7.g 0 rfl)) ?_
      refine eq_bR (show zR u7 a0 7 = some (a0 + 6) from lyR_12_7 h_u7.1 (h_u7.g 0 rfl)) ?_
      refine eq_g (show zK u7 (a0 + 6) = 22 from (lyK_12_7 h_u7.1 (h_u7.g 0 rfl))) ?_
      refine eq_n (by rw [show zN u7 (a0 + 6) = 103 from lyN_12_7 h_u7.1 (h_u7.g 0 rfl)]; decide) ?_
      refine eq_g (show zK u7 a0 = 12 from (h_u7.g 0 rfl)) ?_
      refine eq_cH (eX11_cellHere N a0 (p1 + (2 : Int32)) (zI u7 (a0 + 6) (p1 + (1 : Int32)).toNatClampNeg) ((zI u7 (a0 + 6) 0) - (1 : Int32)) u7 (hkc (show zK u7 a0 = 12 from (h_u7.g 0 rfl)) (hk0 h_u7.1))) (fun r10 u11 e9 => h_u7.fr (fr_X11_cellHere (P := PT) N a0 (p1 + (2 : Int32)) (zI u7 (a0 + 6) (p1 + (1 : Int32)).toNatClampNeg) ((zI u7 (a0 + 6) 0) - (1 : Int32)) u7 clPT trivial _ _ e9).1) (fun r10 u11 h_u11 => ?_)
      refine eq_if ?_ ?_
      · rfl
      · rfl
set_option maxRecDepth 20000 in
def hX11_isWorkHere (N : Nat)  (a0 : Nat) (p1 : Int32) (u : SG) : Option (Int32 × SG) := if (zI u (a0 + 6) 2) = (8 : Int32) then (cl (hX11_fails N a0 (4 : Int32) p1 u) fun r8 u9 => (if r8 = 0 ∨ r8 = 1 then (some (r8, u9))
  else (none)))
  else (cl (hX11_isSpanHere N a0 ((45 : Int32) + ((3 : Int32) * (zI u (a0 + 6) 2))) (zI u (a0 + 6) 1) u) fun r4 u5 => (if r4 = 0 then (some ((0 : Int32), u5))
  else (bs (sI u5 (a0 + 6) 2 ((zI u5 (a0 + 6) 2) + (1 : Int32))) fun u7 => (some ((1 : Int32), u7)))))
set_option maxRecDepth 20000 in
theorem eX11_isWorkHere (N : Nat)  (a0 : Nat) (p1 : Int32) (u : SG) (h_u : HK [(some a0, 12)] u) : fX11_isWorkHere N  a0 p1 u = hX11_isWorkHere N  a0 p1 u := by
  unfold fX11_isWorkHere hX11_isWorkHere
  refine eq_g (show zK u a0 = 12 from (h_u.g 0 rfl)) ?_
  refine eq_bR (show zR u a0 7 = some (a0 + 6) from lyR_12_7 h_u.1 (h_u.g 0 rfl)) ?_
  refine eq_g (show zK u (a0 + 6) = 22 from (lyK_12_7 h_u.1 (h_u.g 0 rfl))) ?_
  refine eq_n (by rw [show zN u (a0 + 6) = 103 from lyN_12_7 h_u.1 (h_u.g 0 rfl)]; decide) ?_
  refine eq_if ?_ ?_
  · refine eq_g (show zK u a0 = 12 from (h_u.g 0 rfl)) ?_
    refine eq_cH (eX11_fails N a0 (4 : Int32) p1 u (hkc (show zK u a0 = 12 from (h_u.g 0 rfl)) (hk0 h_u.1))) (fun r8 u9 e9 => h_u.fr (fr_X11_fails (P := PT) N a0 (4 : Int32) p1 u clPT trivial _ _ e9).1) (fun r8 u9 h_u9 => ?_)
    refine eq_if ?_ ?_
    · rfl
    · rfl
  · refine eq_g (show zK u a0 = 12 from (h_u.g 0 rfl)) ?_
    refine eq_bR (show zR u a0 7 = some (a0 + 6) from lyR_12_7 h_u.1 (h_u.g 0 rfl)) ?_
    refine eq_g (show zK u (a0 + 6) = 22 from (lyK_12_7 h_u.1 (h_u.g 0 rfl))) ?_
    refine eq_n (by rw [show zN u (a0 + 6) = 103 from lyN_12_7 h_u.1 (h_u.g 0 rfl)]; decide) ?_
    refine eq_g (show zK u a0 = 12 from (h_u.g 0 rfl)) ?_
    refine eq_bR (show zR u a0 7 = some (a0 + 6) from lyR_12_7 h_u.1 (h_u.g 0 rfl)) ?_
    refine eq_g (show zK u (a0 + 6) = 22 from (lyK_12_7 h_u.1 (h_u.g 0 rfl))) ?_
    refine eq_n (by rw [show zN u (a0 + 6) = 103 from lyN_12_7 h_u.1 (h_u.g 0 rfl)]; decide) ?_
    refine eq_g (show zK u a0 = 12 from (h_u.g 0 rfl)) ?_
    refine eq_cH (eX11_isSpanHere N a0 ((45 : Int32) + ((3 : Int32) * (zI u (a0 + 6) 2))) (zI u (a0 + 6) 1) u (hkc (show zK u a0 = 12 from (h_u.g 0 rfl)) (hk0 h_u.1))) (fun r4 u5 e9 => h_u.fr (fr_X11_isSpanHere (P := PT) N a0 ((45 : Int32) + ((3 : Int32) * (zI u (a0 + 6) 2))) (zI u (a0 + 6) 1) u clPT trivial _ _ e9).1) (fun r4 u5 h_u5 => ?_)
    refine eq_if ?_ ?_
    · rfl
    · refine eq_g (show zK u5 a0 = 12 from (h_u5.g 0 rfl)) ?_
      refine eq_bR (show zR u5 a0 7 = some (a0 + 6) from lyR_12_7 h_u5.1 (h_u5.g 0 rfl)) ?_
      refine eq_g (show zK u5 (a0 + 6) = 22 from (lyK_12_7 h_u5.1 (h_u5.g 0 rfl))) ?_
      refine eq_n (by rw [show zN u5 (a0 + 6) = 103 from lyN_12_7 h_u5.1 (h_u5.g 0 rfl)]; decide) ?_
      refine eq_g (show zK u5 (a0 + 6) = 22 from (lyK_12_7 h_u5.1 (h_u5.g 0 rfl))) ?_
      refine eq_n (by rw [show zN u5 (a0 + 6) = 103 from lyN_12_7 h_u5.1 (h_u5.g 0 rfl)]; decide) ?_
      refine eq_sH (h_u5.fr (P := PT) (Fr.sIr trivial)) (fun u7 h_u7 => ?_)
      rfl
set_option maxRecDepth 20000 in
def hgX11_isLampHere_89 (N : Nat)   (x0 : Nat) (x3 : Int32) (u : SG) : Option (Int32 × SG) := cl (hX11_cellHere N x0 (x3 + (1 : Int32)) (1 : Int32) (60 : Int32) u) fun r1 u2 => (if r1 = 0 then (some ((0 : Int32), u2))
  else (bs (sI u2 (x0 + 6) 3 ((zI u2 (x0 + 6) 3) + (1 : Int32))) fun u4 => (some ((1 : Int32), u4))))
set_option maxRecDepth 20000 in
theorem egX11_isLampHere_89 (N : Nat)   (x0 : Nat) (x3 : Int32) (u : SG) (h_u : HK [(some x0, 12)] u) : gX11_isLampHere_89 N   x0 x3 u = hgX11_isLampHere_89 N   x0 x3 u := by
  unfold gX11_isLampHere_89 hgX11_isLampHere_89
  refine eq_g (show zK u x0 = 12 from (h_u.g 0 rfl)) ?_
  refine eq_cH (eX11_cellHere N x0 (x3 + (1 : Int32)) (1 : Int32) (60 : Int32) u (hkc (show zK u x0 = 12 from (h_u.g 0 rfl)) (hk0 h_u.1))) (fun r1 u2 e9 => h_u.fr (fr_X11_cellHere (P := PT) N x0 (x3 + (1 : Int32)) (1 : Int32) (60 : Int32) u clPT trivial _ _ e9).1) (fun r1 u2 h_u2 => ?_)
  refine eq_if ?_ ?_
  · rfl
  · refine eq_g (show zK u2 x0 = 12 from (h_u2.g 0 rfl)) ?_
    refine eq_bR (show zR u2 x0 7 = some (x0 + 6) from lyR_12_7 h_u2.1 (h_u2.g 0 rfl)) ?_
    refine eq_g (show zK u2 (x0 + 6) = 22 from (lyK_12_7 h_u2.1 (h_u2.g 0 rfl))) ?_
    refine eq_n (by rw [show zN u2 (x0 + 6) = 103 from lyN_12_7 h_u2.1 (h_u2.g 0 rfl)]; decide) ?_
    refine eq_g (show zK u2 (x0 + 6) = 22 from (lyK_12_7 h_u2.1 (h_u2.g 0 rfl))) ?_
    refine eq_n (by rw [show zN u2 (x0 + 6) = 103 from lyN_12_7 h_u2.1 (h_u2.g 0 rfl)]; decide) ?_
    refine eq_sH (h_u2.fr (P := PT) (Fr.sIr trivial)) (fun u4 h_u4 => ?_)
    rfl
set_option maxRecDepth 20000 in
def hX11_isLampHere (N : Nat)  (a0 : Nat) (p1 : Int32) (u : SG) : Option (Int32 × SG) := if (zI u (a0 + 6) 3) = (5 : Int32) then (cl (hX11_fails N a0 (4 : Int32) p1 u) fun r16 u17 => (if r16 = 0 ∨ r16 = 1 then (some (r16, u17))
  else (none)))
  else (cl (hX11_passWord N a0 u) fun r2 u3 => (cl (hX11_see N a0 u3) fun r4 u5 => (bs (zI u5 a0 8) fun v6 => (bs ((69 : Int32) + ((2 : Int32) * (zI u5 (a0 + 6) 3))) fun v8 => (cl (hX11_cellHere N a0 v8 (0 : Int32) (9 : Int32) u5) fun r9 u10 => (if r9 = 0 then (some ((0 : Int32), u10))
  else (if v8 < 0 ∨ 103 ≤ v8.toNatClampNeg then none else (if (zI u10 (a0 + 6) v8.toNatClampNeg) = (9 : Int32) then (hgX11_isLampHere_89 N    a0 v8 u10)
  else (if v8 < 0 ∨ 103 ≤ v8.toNatClampNeg then none else (if (zI u10 (a0 + 6) v8.toNatClampNeg) < (zI u10 (a0 + 6) 1) then (hgX11_isLampHere_89 N    a0 v8 u10)
  else (cl (hX11_fails N a0 (1 : Int32) v6 u10) fun r14 u15 => (if r14 = 0 ∨ r14 = 1 then (some (r14, u15))
  else (none)))))))))))))
set_option maxRecDepth 20000 in
theorem eX11_isLampHere (N : Nat)  (a0 : Nat) (p1 : Int32) (u : SG) (h_u : HK [(some a0, 12)] u) : fX11_isLampHere N  a0 p1 u = hX11_isLampHere N  a0 p1 u := by
  unfold fX11_isLampHere hX11_isLampHere
  refine eq_g (show zK u a0 = 12 from (h_u.g 0 rfl)) ?_
  refine eq_bR (show zR u a0 7 = some (a0 + 6) from lyR_12_7 h_u.1 (h_u.g 0 rfl)) ?_
  refine eq_g (show zK u (a0 + 6) = 22 from (lyK_12_7 h_u.1 (h_u.g 0 rfl))) ?_
  refine eq_n (by rw [show zN u (a0 + 6) = 103 from lyN_12_7 h_u.1 (h_u.g 0 rfl)]; decide) ?_
  refine eq_if ?_ ?_
  · refine eq_g (show zK u a0 = 12 from (h_u.g 0 rfl)) ?_
    refine eq_cH (eX11_fails N a0 (4 : Int32) p1 u (hkc (show zK u a0 = 12 from (h_u.g 0 rfl)) (hk0 h_u.1))) (fun r16 u17 e9 => h_u.fr (fr_X11_fails (P := PT) N a0 (4 : Int32) p1 u clPT trivial _ _ e9).1) (fun r16 u17 h_u17 => ?_)
    refine eq_if ?_ ?_
    · rfl
    · rfl
  · refine eq_g (show zK u a0 = 12 from (h_u.g 0 rfl)) ?_
    refine eq_cH (eX11_passWord N a0 u (hkc (show zK u a0 = 12 from (h_u.g 0 rfl)) (hk0 h_u.1))) (fun r2 u3 e9 => h_u.fr (fr_X11_passWord (P := PT) N a0 u clPT trivial _ _ e9).1) (fun r2 u3 h_u3 => ?_)
    refine eq_g (show zK u3 a0 = 12 from (h_u3.g 0 rfl)) ?_
    refine eq_cH (eX11_see N a0 u3 (hkc (show zK u3 a0 = 12 from (h_u3.g 0 rfl)) (hk0 h_u3.1))) (fun r4 u5 e9 => h_u3.fr (fr_X11_see (P := PT) N a0 u3 clPT trivial _ _ e9).1) (fun r4 u5 h_u5 => ?_)
    refine eq_g (show zK u5 a0 = 12 from (h_u5.g 0 rfl)) ?_
    refine eq_bs (fun v6 => ?_)
    refine eq_g (show zK u5 a0 = 12 from (h_u5.g 0 rfl)) ?_
    refine eq_bR (show zR u5 a0 7 = some (a0 + 6) from lyR_12_7 h_u5.1 (h_u5.g 0 rfl)) ?_
    refine eq_g (show zK u5 (a0 + 6) = 22 from (lyK_12_7 h_u5.1 (h_u5.g 0 rfl))) ?_
    refine eq_n (by rw [show zN u5 (a0 + 6) = 103 from lyN_12_7 h_u5.1 (h_u5.g 0 rfl)]; decide) ?_
    refine eq_bs (fun v8 => ?_)
    refine eq_g (show zK u5 a0 = 12 from (h_u5.g 0 rfl)) ?_
    refine eq_cH (eX11_cellHere N a0 v8 (0 : Int32) (9 : Int32) u5 (hkc (show zK u5 a0 = 12 from (h_u5.g 0 rfl)) (hk0 h_u5.1))) (fun r9 u10 e9 => h_u5.fr (fr_X11_cellHere (P := PT) N a0 v8 (0 : Int32) (9 : Int32) u5 clPT trivial _ _ e9).1) (fun r9 u10 h_u10 => ?_)
    refine eq_if ?_ ?_
    · rfl
    · refine eq_g (show zK u10 a0 = 12 from (h_u10.g 0 rfl)) ?_
      refine eq_bR (show zR u10 a0 7 = some (a0 + 6) from lyR_12_7 h_u10.1 (h_u10.g 0 rfl)) ?_
      refine eq_g (show zK u10 (a0 + 6) = 22 from (lyK_12_7 h_u10.1 (h_u10.g 0 rfl))) ?_
      refine eq_ixh (show zN u10 (a0 + 6) = 103 from lyN_12_7 h_u10.1 (h_u10.g 0 rfl)) (fun hix1 => ?_)
      refine eq_if ?_ ?_
      · exact egX11_isLampHere_89 N    a0 v8 u10 (hkc (show zK u10 a0 = 12 from (h_u10.g 0 rfl)) (hk0 h_u10.1))
      · refine eq_g (show zK u10 a0 = 12 from (h_u10.g 0 rfl)) ?_
        refine eq_bR (show zR u10 a0 7 = some (a0 + 6) from lyR_12_7 h_u10.1 (h_u10.g 0 rfl)) ?_
        refine eq_g (show zK u10 (a0 + 6) = 22 from (lyK_12_7 h_u10.1 (h_u10.g 0 rfl))) ?_
        refine eq_ixh (show zN u10 (a0 + 6) = 103 from lyN_12_7 h_u10.1 (h_u10.g 0 rfl)) (fun hix2 => ?_)
        refine eq_g (show zK u10 a0 = 12 from (h_u10.g 0 rfl)) ?_
        refine eq_bR (show zR u10 a0 7 = some (a0 + 6) from lyR_12_7 h_u10.1 (h_u10.g 0 rfl)) ?_
        refine eq_g (show zK u10 (a0 + 6) = 22 from (lyK_12_7 h_u10.1 (h_u10.g 0 rfl))) ?_
        refine eq_n (by rw [show zN u10 (a0 + 6) = 103 from lyN_12_7 h_u10.1 (h_u10.g 0 rfl)]; decide) ?_
        refine eq_if ?_ ?_
        · exact egX11_isLampHere_89 N    a0 v8 u10 (hkc (show zK u10 a0 = 12 from (h_u10.g 0 rfl)) (hk0 h_u10.1))
        · refine eq_g (show zK u10 a0 = 12 from (h_u10.g 0 rfl)) ?_
          refine eq_cH (eX11_fails N a0 (1 : Int32) v6 u10 (hkc (show zK u10 a0 = 12 from (h_u10.g 0 rfl)) (hk0 h_u10.1))) (fun r14 u15 e9 => h_u10.fr (fr_X11_fails (P := PT) N a0 (1 : Int32) v6 u10 clPT trivial _ _ e9).1) (fun r14 u15 h_u15 => ?_)
          refine eq_if ?_ ?_
          · rfl
          · rfl
set_option maxRecDepth 20000 in
def hX11_isLitHere (N : Nat)  (a0 : Nat) (p1 : Int32) (u : SG) : Option (Int32 × SG) := if (zI u (a0 + 6) 4) = (8 : Int32) then (cl (hX11_fails N a0 (4 : Int32) p1 u) fun r8 u9 => (if r8 = 0 ∨ r8 = 1 then (some (r8, u9))
  else (none)))
  else (cl (hX11_isSpanHere N a0 ((79 : Int32) + ((3 : Int32) * (zI u (a0 + 6) 4))) (zI u (a0 + 6) 3) u) fun r4 u5 => (if r4 = 0 then (some ((0 : Int32), u5))
  else (bs (sI u5 (a0 + 6) 4 ((zI u5 (a0 + 6) 4) + (1 : Int32))) fun u7 => (some ((1 : Int32), u7)))))
set_option maxRecDepth 20000 in
theorem eX11_isLitHere (N : Nat)  (a0 : Nat) (p1 : Int32) (u : SG) (h_u : HK [(some a0, 12)] u) : fX11_isLitHere N  a0 p1 u = hX11_isLitHere N  a0 p1 u := by
  unfold fX11_isLitHere hX11_isLitHere
  refine eq_g (show zK u a0 = 12 from (h_u.g 0 rfl)) ?_
  refine eq_bR (show zR u a0 7 = some (a0 + 6) from lyR_12_7 h_u.1 (h_u.g 0 rfl)) ?_
  refine eq_g (show zK u (a0 + 6) = 22 from (lyK_12_7 h_u.1 (h_u.g 0 rfl))) ?_
  refine eq_n (by rw [show zN u (a0 + 6) = 103 from lyN_12_7 h_u.1 (h_u.g 0 rfl)]; decide) ?_
  refine eq_if ?_ ?_
  · refine eq_g (show zK u a0 = 12 from (h_u.g 0 rfl)) ?_
    refine eq_cH (eX11_fails N a0 (4 : Int32) p1 u (hkc (show zK u a0 = 12 from (h_u.g 0 rfl)) (hk0 h_u.1))) (fun r8 u9 e9 => h_u.fr (fr_X11_fails (P := PT) N a0 (4 : Int32) p1 u clPT trivial _ _ e9).1) (fun r8 u9 h_u9 => ?_)
    refine eq_if ?_ ?_
    · rfl
    · rfl
  · refine eq_g (show zK u a0 = 12 from (h_u.g 0 rfl)) ?_
    refine eq_bR (show zR u a0 7 = some (a0 + 6) from lyR_12_7 h_u.1 (h_u.g 0 rfl)) ?_
    refine eq_g (show zK u (a0 + 6) = 22 from (lyK_12_7 h_u.1 (h_u.g 0 rfl))) ?_
    refine eq_n (by rw [show zN u (a0 + 6) = 103 from lyN_12_7 h_u.1 (h_u.g 0 rfl)]; decide) ?_
    refine eq_g (show zK u a0 = 12 from (h_u.g 0 rfl)) ?_
    refine eq_bR (show zR u a0 7 = some (a0 + 6) from lyR_12_7 h_u.1 (h_u.g 0 rfl)) ?_
    refine eq_g (show zK u (a0 + 6) = 22 from (lyK_12_7 h_u.1 (h_u.g 0 rfl))) ?_
    refine eq_n (by rw [show zN u (a0 + 6) = 103 from lyN_12_7 h_u.1 (h_u.g 0 rfl)]; decide) ?_
    refine eq_g (show zK u a0 = 12 from (h_u.g 0 rfl)) ?_
    refine eq_cH (eX11_isSpanHere N a0 ((79 : Int32) + ((3 : Int32) * (zI u (a0 + 6) 4))) (zI u (a0 + 6) 3) u (hkc (show zK u a0 = 12 from (h_u.g 0 rfl)) (hk0 h_u.1))) (fun r4 u5 e9 => h_u.fr (fr_X11_isSpanHere (P := PT) N a0 ((79 : Int32) + ((3 : Int32) * (zI u (a0 + 6) 4))) (zI u (a0 + 6) 3) u clPT trivial _ _ e9).1) (fun r4 u5 h_u5 => ?_)
    refine eq_if ?_ ?_
    · rfl
    · refine eq_g (show zK u5 a0 = 12 from (h_u5.g 0 rfl)) ?_
      refine eq_bR (show zR u5 a0 7 = some (a0 + 6) from lyR_12_7 h_u5.1 (h_u5.g 0 rfl)) ?_
      refine eq_g (show zK u5 (a0 + 6) = 22 from (lyK_12_7 h_u5.1 (h_u5.g 0 rfl))) ?_
      refine eq_n (by rw [show zN u5 (a0 + 6) = 103 from lyN_12_7 h_u5.1 (h_u5.g 0 rfl)]; decide) ?_
      refine eq_g (show zK u5 (a0 + 6) = 22 from (lyK_12_7 h_u5.1 (h_u5.g 0 rfl))) ?_
      refine eq_n (by rw [show zN u5 (a0 + 6) = 103 from lyN_12_7 h_u5.1 (h_u5.g 0 rfl)]; decide) ?_
      refine eq_sH (h_u5.fr (P := PT) (Fr.sIr trivial)) (fun u7 h_u7 => ?_)
      rfl
set_option maxRecDepth 20000 in
def hX11_streetLineHere (N : Nat)  (a0 : Nat) (p1 : Int32) (u : SG) : Option (Int32 × SG) := cl (hX11_isWord N a0 (126943972648308 : Int64) u) fun r1 u2 => (if r1 = 0 then (if (zI u2 (a0 + 6) 0) = 0 then (cl (hX11_fails N a0 (4 : Int32) p1 u2) fun r18 u19 => (if r18 = 0 ∨ r18 = 1 then (some (r18, u19))
  else (none)))
  else (cl (hX11_isWord N a0 (123581014175598 : Int64) u2) fun r4 u5 => (if r4 = 0 then (cl (hX11_isWord N a0 (2003792491 : Int64) u5) fun r6 u7 => (if r6 = 0 then (cl (hX11_isWord N a0 (1818324336 : Int64) u7) fun r8 u9 => (if r8 = 0 then (cl (hX11_isLitHere N a0 p1 u9) fun r10 u11 => (if r10 = 0 ∨ r10 = 1 then (some (r10, u11))
  else (none)))
  else (cl (hX11_isLampHere N a0 p1 u9) fun r12 u13 => (if r12 = 0 ∨ r12 = 1 then (some (r12, u13))
  else (none)))))
  else (cl (hX11_isWorkHere N a0 p1 u7) fun r14 u15 => (if r14 = 0 ∨ r14 = 1 then (some (r14, u15))
  else (none)))))
  else (cl (hX11_isPersonHere N a0 p1 u5) fun r16 u17 => (if r16 = 0 ∨ r16 = 1 then (some (r16, u17))
  else (none))))))
  else (cl (hX11_isStreetHere N a0 p1 u2) fun r20 u21 => (if r20 = 0 ∨ r20 = 1 then (some (r20, u21))
  else (none))))
set_option maxRecDepth 20000 in
theorem eX11_streetLineHere (N : Nat)  (a0 : Nat) (p1 : Int32) (u : SG) (h_u : HK [(some a0, 12)] u) : fX11_streetLineHere N  a0 p1 u = hX11_streetLineHere N  a0 p1 u := by
  unfold fX11_streetLineHere hX11_streetLineHere
  refine eq_g (show zK u a0 = 12 from (h_u.g 0 rfl)) ?_
  refine eq_cH (eX11_isWord N a0 (126943972648308 : Int64) u (hkc (show zK u a0 = 12 from (h_u.g 0 rfl)) (hk0 h_u.1))) (fun r1 u2 e9 => h_u.fr (fr_X11_isWord (P := PT) N a0 (126943972648308 : Int64) u clPT trivial _ _ e9).1) (fun r1 u2 h_u2 => ?_)
  refine eq_if ?_ ?_
  · refine eq_g (show zK u2 a0 = 12 from (h_u2.g 0 rfl)) ?_
    refine eq_bR (show zR u2 a0 7 = some (a0 + 6) from lyR_12_7 h_u2.1 (h_u2.g 0 rfl)) ?_
    refine eq_g (show zK u2 (a0 + 6) = 22 from (lyK_12_7 h_u2.1 (h_u2.g 0 rfl))) ?_
    refine eq_n (by rw [show zN u2 (a0 + 6) = 103 from lyN_12_7 h_u2.1 (h_u2.g 0 rfl)]; decide) ?_
    refine eq_if ?_ ?_
    · refine eq_g (show zK u2 a0 = 12 from (h_u2.g 0 rfl)) ?_
      refine eq_cH (eX11_fails N a0 (4 : Int32) p1 u2 (hkc (show zK u2 a0 = 12 from (h_u2.g 0 rfl)) (hk0 h_u2.1))) (fun r18 u19 e9 => h_u2.fr (fr_X11_fails (P := PT) N a0 (4 : Int32) p1 u2 clPT trivial _ _ e9).1) (fun r18 u19 h_u19 => ?_)
      refine eq_if ?_ ?_
      · rfl
      · rfl
    · refine eq_g (show zK u2 a0 = 12 from (h_u2.g 0 rfl)) ?_
      refine eq_cH (eX11_isWord N a0 (123581014175598 : Int64) u2 (hkc (show zK u2 a0 = 12 from (h_u2.g 0 rfl)) (hk0 h_u2.1))) (fun r4 u5 e9 => h_u2.fr (fr_X11_isWord (P := PT) N a0 (123581014175598 : Int64) u2 clPT trivial _ _ e9).1) (fun r4 u5 h_u5 => ?_)
      refine eq_if ?_ ?_
      · refine eq_g (show zK u5 a0 = 12 from (h_u5.g 0 rfl)) ?_
        refine eq_cH (eX11_isWord N a0 (2003792491 : Int64) u5 (hkc (show zK u5 a0 = 12 from (h_u5.g 0 rfl)) (hk0 h_u5.1))) (fun r6 u7 e9 => h_u5.fr (fr_X11_isWord (P := PT) N a0 (2003792491 : Int64) u5 clPT trivial _ _ e9).1) (fun r6 u7 h_u7 => ?_)
        refine eq_if ?_ ?_
        · refine eq_g (show zK u7 a0 = 12 from (h_u7.g 0 rfl)) ?_
          refine eq_cH (eX11_isWord N a0 (1818324336 : Int64) u7 (hkc (show zK u7 a0 = 12 from (h_u7.g 0 rfl)) (hk0 h_u7.1))) (fun r8 u9 e9 => h_u7.fr (fr_X11_isWord (P := PT) N a0 (1818324336 : Int64) u7 clPT trivial _ _ e9).1) (fun r8 u9 h_u9 => ?_)
          refine eq_if ?_ ?_
          · refine eq_g (show zK u9 a0 = 12 from (h_u9.g 0 rfl)) ?_
            refine eq_cH (eX11_isLitHere N a0 p1 u9 (hkc (show zK u9 a0 = 12 from (h_u9.g 0 rfl)) (hk0 h_u9.1))) (fun r10 u11 e9 => h_u9.fr (fr_X11_isLitHere (P := PT) N a0 p1 u9 clPT trivial _ _ e9).1) (fun r10 u11 h_u11 => ?_)
            refine eq_if ?_ ?_
            · rfl
            · rfl
          · refine eq_g (show zK u9 a0 = 12 from (h_u9.g 0 rfl)) ?_
            refine eq_cH (eX11_isLampHere N a0 p1 u9 (hkc (show zK u9 a0 = 12 from (h_u9.g 0 rfl)) (hk0 h_u9.1))) (fun r12 u13 e9 => h_u9.fr (fr_X11_isLampHere (P := PT) N a0 p1 u9 clPT trivial _ _ e9).1) (fun r12 u13 h_u13 => ?_)
            refine eq_if ?_ ?_
            · rfl
            · rfl
        · refine eq_g (show zK u7 a0 = 12 from (h_u7.g 0 rfl)) ?_
          refine eq_cH (eX11_isWorkHere N a0 p1 u7 (hkc (show zK u7 a0 = 12 from (h_u7.g 0 rfl)) (hk0 h_u7.1))) (fun r14 u15 e9 => h_u7.fr (fr_X11_isWorkHere (P := PT) N a0 p1 u7 clPT trivial _ _ e9).1) (fun r14 u15 h_u15 => ?_)
          refine eq_if ?_ ?_
          · rfl
          · rfl
      · refine eq_g (show zK u5 a0 = 12 from (h_u5.g 0 rfl)) ?_
        refine eq_cH (eX11_isPersonHere N a0 p1 u5 (hkc (show zK u5 a0 = 12 from (h_u5.g 0 rfl)) (hk0 h_u5.1))) (fun r16 u17 e9 => h_u5.fr (fr_X11_isPersonHere (P := PT) N a0 p1 u5 clPT trivial _ _ e9).1) (fun r16 u17 h_u17 => ?_)
        refine eq_if ?_ ?_
        · rfl
        · rfl
  · refine eq_g (show zK u2 a0 = 12 from (h_u2.g 0 rfl)) ?_
    refine eq_cH (eX11_isStreetHere N a0 p1 u2 (hkc (show zK u2 a0 = 12 from (h_u2.g 0 rfl)) (hk0 h_u2.1))) (fun r20 u21 e9 => h_u2.fr (fr_X11_isStreetHere (P := PT) N a0 p1 u2 clPT trivial _ _ e9).1) (fun r20 u21 h_u21 => ?_)
    refine eq_if ?_ ?_
    · rfl
    · rfl
set_option maxRecDepth 20000 in
def hX11_isStreetWord (N : Nat)  (a0 : Nat) (u : SG) : Option (Int32 × SG) := cl (hX11_isWord N a0 (126943972648308 : Int64) u) fun r1 u2 => (if r1 = 0 then (cl (hX11_isWord N a0 (123581014175598 : Int64) u2) fun r3 u4 => (if r3 = 0 then (cl (hX11_isWord N a0 (2003792491 : Int64) u4) fun r5 u6 => (if r5 = 0 then (cl (hX11_isWord N a0 (1818324336 : Int64) u6) fun r7 u8 => (if r7 = 0 then (cl (hX11_isWord N a0 (7104884 : Int64) u8) fun r9 u10 => (if r9 = 0 then (some ((0 : Int32), u10))
  else (some ((1 : Int32), u10))))
  else (some ((1 : Int32), u8))))
  else (some ((1 : Int32), u6))))
  else (some ((1 : Int32), u4))))
  else (some ((1 : Int32), u2)))
set_option maxRecDepth 20000 in
theorem eX11_isStreetWord (N : Nat)  (a0 : Nat) (u : SG) (h_u : HK [(some a0, 12)] u) : fX11_isStreetWord N  a0 u = hX11_isStreetWord N  a0 u := by
  unfold fX11_isStreetWord hX11_isStreetWord
  refine eq_g (show zK u a0 = 12 from (h_u.g 0 rfl)) ?_
  refine eq_cH (eX11_isWord N a0 (126943972648308 : Int64) u (hkc (show zK u a0 = 12 from (h_u.g 0 rfl)) (hk0 h_u.1))) (fun r1 u2 e9 => h_u.fr (fr_X11_isWord (P := PT) N a0 (126943972648308 : Int64) u clPT trivial _ _ e9).1) (fun r1 u2 h_u2 => ?_)
  refine eq_if ?_ ?_
  · refine eq_g (show zK u2 a0 = 12 from (h_u2.g 0 rfl)) ?_
    refine eq_cH (eX11_isWord N a0 (123581014175598 : Int64) u2 (hkc (show zK u2 a0 = 12 from (h_u2.g 0 rfl)) (hk0 h_u2.1))) (fun r3 u4 e9 => h_u2.fr (fr_X11_isWord (P := PT) N a0 (123581014175598 : Int64) u2 clPT trivial _ _ e9).1) (fun r3 u4 h_u4 => ?_)
    refine eq_if ?_ ?_
    · refine eq_g (show zK u4 a0 = 12 from (h_u4.g 0 rfl)) ?_
      refine eq_cH (eX11_isWord N a0 (2003792491 : Int64) u4 (hkc (show zK u4 a0 = 12 from (h_u4.g 0 rfl)) (hk0 h_u4.1))) (fun r5 u6 e9 => h_u4.fr (fr_X11_isWord (P := PT) N a0 (2003792491 : Int64) u4 clPT trivial _ _ e9).1) (fun r5 u6 h_u6 => ?_)
      refine eq_if ?_ ?_
      · refine eq_g (show zK u6 a0 = 12 from (h_u6.g 0 rfl)) ?_
        refine eq_cH (eX11_isWord N a0 (1818324336 : Int64) u6 (hkc (show zK u6 a0 = 12 from (h_u6.g 0 rfl)) (hk0 h_u6.1))) (fun r7 u8 e9 => h_u6.fr (fr_X11_isWord (P := PT) N a0 (1818324336 : Int64) u6 clPT trivial _ _ e9).1) (fun r7 u8 h_u8 => ?_)
        refine eq_if ?_ ?_
        · refine eq_g (show zK u8 a0 = 12 from (h_u8.g 0 rfl)) ?_
          refine eq_cH (eX11_isWord N a0 (7104884 : Int64) u8 (hkc (show zK u8 a0 = 12 from (h_u8.g 0 rfl)) (hk0 h_u8.1))) (fun r9 u10 e9 => h_u8.fr (fr_X11_isWord (P := PT) N a0 (7104884 : Int64) u8 clPT trivial _ _ e9).1) (fun r9 u10 h_u10 => ?_)
          refine eq_if ?_ ?_
          · rfl
          · rfl
        · rfl
      · rfl
    · rfl
  · rfl
set_option maxRecDepth 20000 in
def hgX11_clauseHere_71 (N : Nat)   (x0 : Nat) (x1 : Int32) (x2 : Int32) (s0 : Int32) (s1 : Int32) (u : SG) : Option (Int32 × SG) := if s0 = s1 then (cl (hX11_fails N x0 (4 : Int32) x1 u) fun r6 u7 => (if r6 = 0 ∨ r6 = 1 then (some (r6, u7))
  else (none)))
  else (bs (sI u x0 14 ((zI u x0 14) + (1 : Int32))) fun u1 => (if x2 = 0 then (cl (hX11_isSleepHere N x0 u1) fun r2 u3 => (if r2 = 0 ∨ r2 = 1 then (some (r2, u3))
  else (none)))
  else (cl (hX11_streetLineHere N x0 x1 u1) fun r4 u5 => (if r4 = 0 ∨ r4 = 1 then (some (r4, u5))
  else (none)))))
set_option maxRecDepth 20000 in
theorem egX11_clauseHere_71 (N : Nat)   (x0 : Nat) (x1 : Int32) (x2 : Int32) (s0 : Int32) (s1 : Int32) (u : SG) (h_u : HK [(some x0, 12)] u) : gX11_clauseHere_71 N   x0 x1 x2 s0 s1 u = hgX11_clauseHere_71 N   x0 x1 x2 s0 s1 u := by
  unfold gX11_clauseHere_71 hgX11_clauseHere_71
  refine eq_if ?_ ?_
  · refine eq_g (show zK u x0 = 12 from (h_u.g 0 rfl)) ?_
    refine eq_cH (eX11_fails N x0 (4 : Int32) x1 u (hkc (show zK u x0 = 12 from (h_u.g 0 rfl)) (hk0 h_u.1))) (fun r6 u7 e9 => h_u.fr (fr_X11_fails (P := PT) N x0 (4 : Int32) x1 u clPT trivial _ _ e9).1) (fun r6 u7 h_u7 => ?_)
    refine eq_if ?_ ?_
    · rfl
    · rfl
  · refine eq_g (show zK u x0 = 12 from (h_u.g 0 rfl)) ?_
    refine eq_g (show zK u x0 = 12 from (h_u.g 0 rfl)) ?_
    refine eq_sH (h_u.fr (P := PT) (Fr.sIr trivial)) (fun u1 h_u1 => ?_)
    refine eq_if ?_ ?_
    · refine eq_g (show zK u1 x0 = 12 from (h_u1.g 0 rfl)) ?_
      refine eq_cH (eX11_isSleepHere N x0 u1 (hkc (show zK u1 x0 = 12 from (h_u1.g 0 rfl)) (hk0 h_u1.1))) (fun r2 u3 e9 => h_u1.fr (fr_X11_isSleepHere (P := PT) N x0 u1 clPT trivial _ _ e9).1) (fun r2 u3 h_u3 => ?_)
      refine eq_if ?_ ?_
      · rfl
      · rfl
    · refine eq_g (show zK u1 x0 = 12 from (h_u1.g 0 rfl)) ?_
      refine eq_cH (eX11_streetLineHere N x0 x1 u1 (hkc (show zK u1 x0 = 12 from (h_u1.g 0 rfl)) (hk0 h_u1.1))) (fun r4 u5 e9 => h_u1.fr (fr_X11_streetLineHere (P := PT) N x0 x1 u1 clPT trivial _ _ e9).1) (fun r4 u5 h_u5 => ?_)
      refine eq_if ?_ ?_
      · rfl
      · rfl
set_option maxRecDepth 20000 in
def hgX11_clauseHere_56 (N : Nat)   (x0 : Nat) (x1 : Int32) (x2 : Int32) (u : SG) : Option (Int32 × SG) := if x2 = 0 then (hgX11_clauseHere_71 N    x0 x1 x2 (zI u x0 14) (12 : Int32) u)
  else (hgX11_clauseHere_71 N    x0 x1 x2 (zI u x0 14) (40 : Int32) u)
set_option maxRecDepth 20000 in
theorem egX11_clauseHere_56 (N : Nat)   (x0 : Nat) (x1 : Int32) (x2 : Int32) (u : SG) (h_u : HK [(some x0, 12)] u) : gX11_clauseHere_56 N   x0 x1 x2 u = hgX11_clauseHere_56 N   x0 x1 x2 u := by
  unfold gX11_clauseHere_56 hgX11_clauseHere_56
  refine eq_g (show zK u x0 = 12 from (h_u.g 0 rfl)) ?_
  refine eq_if ?_ ?_
  · exact egX11_clauseHere_71 N    x0 x1 x2 (zI u x0 14) (12 : Int32) u (hkc (show zK u x0 = 12 from (h_u.g 0 rfl)) (hk0 h_u.1))
  · exact egX11_clauseHere_71 N    x0 x1 x2 (zI u x0 14) (40 : Int32) u (hkc (show zK u x0 = 12 from (h_u.g 0 rfl)) (hk0 h_u.1))
set_option maxRecDepth 20000 in
def hgX11_clauseHere_49 (N : Nat)   (x0 : Nat) (x1 : Int32) (u : SG) : Option (Int32 × SG) := cl (hX11_fails N x0 (0 : Int32) x1 u) fun r1 u2 => (if r1 = 0 ∨ r1 = 1 then (some (r1, u2))
  else (none))
set_option maxRecDepth 20000 in
theorem egX11_clauseHere_49 (N : Nat)   (x0 : Nat) (x1 : Int32) (u : SG) (h_u : HK [(some x0, 12)] u) : gX11_clauseHere_49 N   x0 x1 u = hgX11_clauseHere_49 N   x0 x1 u := by
  unfold gX11_clauseHere_49 hgX11_clauseHere_49
  refine eq_g (show zK u x0 = 12 from (h_u.g 0 rfl)) ?_
  refine eq_cH (eX11_fails N x0 (0 : Int32) x1 u (hkc (show zK u x0 = 12 from (h_u.g 0 rfl)) (hk0 h_u.1))) (fun r1 u2 e9 => h_u.fr (fr_X11_fails (P := PT) N x0 (0 : Int32) x1 u clPT trivial _ _ e9).1) (fun r1 u2 h_u2 => ?_)
  refine eq_if ?_ ?_
  · rfl
  · rfl
set_option maxRecDepth 20000 in
def hgX11_clauseHere_24 (N : Nat)   (x0 : Nat) (x1 : Int32) (s0 : Int32) (u : SG) : Option (Int32 × SG) := if s0 = 0 then (cl (hX11_isWord N x0 (495739823472 : Int64) u) fun r1 u2 => (if r1 = 0 then (hgX11_clauseHere_49 N    x0 x1 u2)
  else (hgX11_clauseHere_56 N    x0 x1 s0 u2)))
  else (cl (hX11_isStreetWord N x0 u) fun r3 u4 => (if r3 = 0 then (hgX11_clauseHere_49 N    x0 x1 u4)
  else (hgX11_clauseHere_56 N    x0 x1 s0 u4)))
set_option maxRecDepth 20000 in
theorem egX11_clauseHere_24 (N : Nat)   (x0 : Nat) (x1 : Int32) (s0 : Int32) (u : SG) (h_u : HK [(some x0, 12)] u) : gX11_clauseHere_24 N   x0 x1 s0 u = hgX11_clauseHere_24 N   x0 x1 s0 u := by
  unfold gX11_clauseHere_24 hgX11_clauseHere_24
  refine eq_if ?_ ?_
  · refine eq_g (show zK u x0 = 12 from (h_u.g 0 rfl)) ?_
    refine eq_cH (eX11_isWord N x0 (495739823472 : Int64) u (hkc (show zK u x0 = 12 from (h_u.g 0 rfl)) (hk0 h_u.1))) (fun r1 u2 e9 => h_u.fr (fr_X11_isWord (P := PT) N x0 (495739823472 : Int64) u clPT trivial _ _ e9).1) (fun r1 u2 h_u2 => ?_)
    refine eq_if ?_ ?_
    · exact egX11_clauseHere_49 N    x0 x1 u2 (hkc (show zK u2 x0 = 12 from (h_u2.g 0 rfl)) (hk0 h_u2.1))
    · exact egX11_clauseHere_56 N    x0 x1 s0 u2 (hkc (show zK u2 x0 = 12 from (h_u2.g 0 rfl)) (hk0 h_u2.1))
  · refine eq_g (show zK u x0 = 12 from (h_u.g 0 rfl)) ?_
    refine eq_cH (eX11_isStreetWord N x0 u (hkc (show zK u x0 = 12 from (h_u.g 0 rfl)) (hk0 h_u.1))) (fun r3 u4 e9 => h_u.fr (fr_X11_isStreetWord (P := PT) N x0 u clPT trivial _ _ e9).1) (fun r3 u4 h_u4 => ?_)
    refine eq_if ?_ ?_
    · exact egX11_clauseHere_49 N    x0 x1 u4 (hkc (show zK u4 x0 = 12 from (h_u4.g 0 rfl)) (hk0 h_u4.1))
    · exact egX11_clauseHere_56 N    x0 x1 s0 u4 (hkc (show zK u4 x0 = 12 from (h_u4.g 0 rfl)) (hk0 h_u4.1))
set_option maxRecDepth 20000 in
def hX11_clauseHere (N : Nat)  (a0 : Nat) (u : SG) : Option (Int32 × SG) := cl (hX11_see N a0 u) fun r1 u2 => (bs (zI u2 a0 8) fun v3 => (if (zI u2 a0 11) = (6 : Int32) then (hgX11_clauseHere_24 N    a0 v3 (1 : Int32) u2)
  else (hgX11_clauseHere_24 N    a0 v3 (0 : Int32) u2)))
set_option maxRecDepth 20000 in
theorem eX11_clauseHere (N : Nat)  (a0 : Nat) (u : SG) (h_u : HK [(some a0, 12)] u) : fX11_clauseHere N  a0 u = hX11_clauseHere N  a0 u := by
  unfold fX11_clauseHere hX11_clauseHere
  refine eq_g (show zK u a0 = 12 from (h_u.g 0 rfl)) ?_
  refine eq_cH (eX11_see N a0 u (hkc (show zK u a0 = 12 from (h_u.g 0 rfl)) (hk0 h_u.1))) (fun r1 u2 e9 => h_u.fr (fr_X11_see (P := PT) N a0 u clPT trivial _ _ e9).1) (fun r1 u2 h_u2 => ?_)
  refine eq_g (show zK u2 a0 = 12 from (h_u2.g 0 rfl)) ?_
  refine eq_bs (fun v3 => ?_)
  refine eq_g (show zK u2 a0 = 12 from (h_u2.g 0 rfl)) ?_
  refine eq_if ?_ ?_
  · exact egX11_clauseHere_24 N    a0 v3 (1 : Int32) u2 (hkc (show zK u2 a0 = 12 from (h_u2.g 0 rfl)) (hk0 h_u2.1))
  · exact egX11_clauseHere_24 N    a0 v3 (0 : Int32) u2 (hkc (show zK u2 a0 = 12 from (h_u2.g 0 rfl)) (hk0 h_u2.1))
set_option maxRecDepth 20000 in
def hgX11_readsAll_88 (N : Nat)   (x0 : Nat) (u : SG) : Option (Int32 × SG) := bs (sI u x0 1 (0 : Int32)) fun u1 => (if (zI u1 x0 9) = 0 then (some ((1 : Int32), u1))
  else (some ((0 : Int32), u1)))
set_option maxRecDepth 20000 in
theorem egX11_readsAll_88 (N : Nat)   (x0 : Nat) (u : SG) (h_u : HK [(some x0, 12)] u) : gX11_readsAll_88 N   x0 u = hgX11_readsAll_88 N   x0 u := by
  unfold gX11_readsAll_88 hgX11_readsAll_88
  refine eq_g (show zK u x0 = 12 from (h_u.g 0 rfl)) ?_
  refine eq_sH (h_u.fr (P := PT) (Fr.sIr trivial)) (fun u1 h_u1 => ?_)
  refine eq_g (show zK u1 x0 = 12 from (h_u1.g 0 rfl)) ?_
  refine eq_if ?_ ?_
  · rfl
  · rfl
set_option maxRecDepth 20000 in
def hgX11_readsAll_66 (N : Nat)   (x0 : Nat) (x1 : Int32) (u : SG) : Option (Int32 × SG) := if x1 = 0 then (hgX11_readsAll_88 N    x0 u)
  else (cl (hX11_see N x0 u) fun r1 u2 => (if r1 = (-1 : Int32) then (hgX11_readsAll_88 N    x0 u2)
  else (cl (hX11_fails N x0 (0 : Int32) (zI u2 x0 8) u2) fun r3 u4 => (hgX11_readsAll_88 N    x0 u4))))
set_option maxRecDepth 20000 in
theorem egX11_readsAll_66 (N : Nat)   (x0 : Nat) (x1 : Int32) (u : SG) (h_u : HK [(some x0, 12)] u) : gX11_readsAll_66 N   x0 x1 u = hgX11_readsAll_66 N   x0 x1 u := by
  unfold gX11_readsAll_66 hgX11_readsAll_66
  refine eq_if ?_ ?_
  · exact egX11_readsAll_88 N    x0 u (hkc (show zK u x0 = 12 from (h_u.g 0 rfl)) (hk0 h_u.1))
  · refine eq_g (show zK u x0 = 12 from (h_u.g 0 rfl)) ?_
    refine eq_cH (eX11_see N x0 u (hkc (show zK u x0 = 12 from (h_u.g 0 rfl)) (hk0 h_u.1))) (fun r1 u2 e9 => h_u.fr (fr_X11_see (P := PT) N x0 u clPT trivial _ _ e9).1) (fun r1 u2 h_u2 => ?_)
    refine eq_if ?_ ?_
    · exact egX11_readsAll_88 N    x0 u2 (hkc (show zK u2 x0 = 12 from (h_u2.g 0 rfl)) (hk0 h_u2.1))
    · refine eq_g (show zK u2 x0 = 12 from (h_u2.g 0 rfl)) ?_
      refine eq_g (show zK u2 x0 = 12 from (h_u2.g 0 rfl)) ?_
      refine eq_cH (eX11_fails N x0 (0 : Int32) (zI u2 x0 8) u2 (hkc (show zK u2 x0 = 12 from (h_u2.g 0 rfl)) (hk0 h_u2.1))) (fun r3 u4 e9 => h_u2.fr (fr_X11_fails (P := PT) N x0 (0 : Int32) (zI u2 x0 8) u2 clPT trivial _ _ e9).1) (fun r3 u4 h_u4 => ?_)
      exact egX11_readsAll_88 N    x0 u4 (hkc (show zK u4 x0 = 12 from (h_u4.g 0 rfl)) (hk0 h_u4.1))
set_option maxRecDepth 20000 in
def hgX11_readsAll_35 (N : Nat)   : Nat → Nat → Int32 → SG → Option (Int32 × SG)
  | 0, _, _, _ => none
  | n + 1, x0, x1, u => if x1 = 0 then (hgX11_readsAll_66 N    x0 x1 u)
  else (cl (hX11_see N x0 u) fun r1 u2 => (if r1 = (59 : Int32) then (bs (sI u2 x0 8 ((zI u2 x0 8) + (1 : Int32))) fun u3 => (cl (hX11_clauseHere N x0 u3) fun r4 u5 => ((hgX11_readsAll_35 N   n) x0 r4 u5)))
  else (hgX11_readsAll_66 N    x0 x1 u2)))
set_option maxRecDepth 20000 in
theorem egX11_readsAll_35 (N : Nat)   : ∀ (n : Nat) (x0 : Nat) (x1 : Int32) (u : SG), HK [(some x0, 12)] u → gX11_readsAll_35 N   n x0 x1 u = hgX11_readsAll_35 N   n x0 x1 u := by
  intro n
  induction n with
  | zero => intros; rfl
  | succ n ih =>
    intro x0 x1 u h_u
    have hrc35 := ih
    rw [gX11_readsAll_35, hgX11_readsAll_35]
    refine eq_if ?_ ?_
    · exact egX11_readsAll_66 N    x0 x1 u (hkc (show zK u x0 = 12 from (h_u.g 0 rfl)) (hk0 h_u.1))
    · refine eq_g (show zK u x0 = 12 from (h_u.g 0 rfl)) ?_
      refine eq_cH (eX11_see N x0 u (hkc (show zK u x0 = 12 from (h_u.g 0 rfl)) (hk0 h_u.1))) (fun r1 u2 e9 => h_u.fr (fr_X11_see (P := PT) N x0 u clPT trivial _ _ e9).1) (fun r1 u2 h_u2 => ?_)
      refine eq_if ?_ ?_
      · refine eq_g (show zK u2 x0 = 12 from (h_u2.g 0 rfl)) ?_
        refine eq_g (show zK u2 x0 = 12 from (h_u2.g 0 rfl)) ?_
        refine eq_sH (h_u2.fr (P := PT) (Fr.sIr trivial)) (fun u3 h_u3 => ?_)
        refine eq_g (show zK u3 x0 = 12 from (h_u3.g 0 rfl)) ?_
        refine eq_cH (eX11_clauseHere N x0 u3 (hkc (show zK u3 x0 = 12 from (h_u3.g 0 rfl)) (hk0 h_u3.1))) (fun r4 u5 e9 => h_u3.fr (fr_X11_clauseHere (P := PT) N x0 u3 clPT trivial _ _ e9).1) (fun r4 u5 h_u5 => ?_)
        exact hrc35 x0 r4 u5 (hkc (show zK u5 x0 = 12 from (h_u5.g 0 rfl)) (hk0 h_u5.1))
      · exact egX11_readsAll_66 N    x0 x1 u2 (hkc (show zK u2 x0 = 12 from (h_u2.g 0 rfl)) (hk0 h_u2.1))
set_option maxRecDepth 20000 in
def hX11_readsAll (N : Nat)  (a0 : Nat) (u : SG) : Option (Int32 × SG) := if (zI u a0 11) < 0 ∨ 7 ≤ (zI u a0 11).toNatClampNeg then none else (bs (sI u (a0 + 3) (zI u a0 11).toNatClampNeg (0 : Int32)) fun u2 => (bs (sI u2 a0 14 (0 : Int32)) fun u3 => (bs (sI u3 a0 8 (0 : Int32)) fun u4 => (bs (sI u4 a0 9 (0 : Int32)) fun u5 => (bs (sI u5 a0 12 (0 : Int32)) fun u6 => (cl (hX11_clauseHere N a0 u6) fun r7 u8 => (hgX11_readsAll_35 N   N a0 r7 u8)))))))
set_option maxRecDepth 20000 in
theorem eX11_readsAll (N : Nat)  (a0 : Nat) (u : SG) (h_u : HK [(some a0, 12)] u) : fX11_readsAll N  a0 u = hX11_readsAll N  a0 u := by
  unfold fX11_readsAll hX11_readsAll
  refine eq_g (show zK u a0 = 12 from (h_u.g 0 rfl)) ?_
  refine eq_bR (show zR u a0 4 = some (a0 + 3) from lyR_12_4 h_u.1 (h_u.g 0 rfl)) ?_
  refine eq_g (show zK u a0 = 12 from (h_u.g 0 rfl)) ?_
  refine eq_g (show zK u (a0 + 3) = 22 from (lyK_12_4 h_u.1 (h_u.g 0 rfl))) ?_
  refine eq_ixh (show zN u (a0 + 3) = 7 from lyN_12_4 h_u.1 (h_u.g 0 rfl)) (fun hix1 => ?_)
  refine eq_sH (h_u.fr (P := PT) (Fr.sIr trivial)) (fun u2 h_u2 => ?_)
  refine eq_g (show zK u2 a0 = 12 from (h_u2.g 0 rfl)) ?_
  refine eq_sH (h_u2.fr (P := PT) (Fr.sIr trivial)) (fun u3 h_u3 => ?_)
  refine eq_g (show zK u3 a0 = 12 from (h_u3.g 0 rfl)) ?_
  refine eq_sH (h_u3.fr (P := PT) (Fr.sIr trivial)) (fun u4 h_u4 => ?_)
  refine eq_g (show zK u4 a0 = 12 from (h_u4.g 0 rfl)) ?_
  refine eq_sH (h_u4.fr (P := PT) (Fr.sIr trivial)) (fun u5 h_u5 => ?_)
  refine eq_g (show zK u5 a0 = 12 from (h_u5.g 0 rfl)) ?_
  refine eq_sH (h_u5.fr (P := PT) (Fr.sIr trivial)) (fun u6 h_u6 => ?_)
  refine eq_g (show zK u6 a0 = 12 from (h_u6.g 0 rfl)) ?_
  refine eq_cH (eX11_clauseHere N a0 u6 (hkc (show zK u6 a0 = 12 from (h_u6.g 0 rfl)) (hk0 h_u6.1))) (fun r7 u8 e9 => h_u6.fr (fr_X11_clauseHere (P := PT) N a0 u6 clPT trivial _ _ e9).1) (fun r7 u8 h_u8 => ?_)
  exact egX11_readsAll_35 N   N a0 r7 u8 (hkc (show zK u8 a0 = 12 from (h_u8.g 0 rfl)) (hk0 h_u8.1))
set_option maxRecDepth 20000 in
def hX11_rule (N : Nat)  (a0 : Nat) (u : SG) : Option (Int32 × SG) := if (zI u a0 2) = (6 : Int32) then (some ((-1 : Int32), u))
  else (bs (sI u a0 11 (zI u a0 2)) fun u1 => (if (zI u1 a0 11) < 0 ∨ 6 ≤ (zI u1 a0 11).toNatClampNeg then none else (bs (sI u1 (a0 + 5) (zI u1 a0 11).toNatClampNeg (0 : Int32)) fun u3 => (cl (hX11_readsAll N a0 u3) fun r4 u5 => (if r4 = 0 then (some ((-2 : Int32) - (zI u5 a0 9), u5))
  else (bs (sI u5 a0 2 ((zI u5 a0 2) + (1 : Int32))) fun u6 => (some ((zI u6 a0 2) - (1 : Int32), u6))))))))
set_option maxRecDepth 20000 in
theorem eX11_rule (N : Nat)  (a0 : Nat) (u : SG) (h_u : HK [(some a0, 12)] u) : fX11_rule N  a0 u = hX11_rule N  a0 u := by
  unfold fX11_rule hX11_rule
  refine eq_g (show zK u a0 = 12 from (h_u.g 0 rfl)) ?_
  refine eq_if ?_ ?_
  · rfl
  · refine eq_g (show zK u a0 = 12 from (h_u.g 0 rfl)) ?_
    refine eq_g (show zK u a0 = 12 from (h_u.g 0 rfl)) ?_
    refine eq_sH (h_u.fr (P := PT) (Fr.sIr trivial)) (fun u1 h_u1 => ?_)
    refine eq_g (show zK u1 a0 = 12 from (h_u1.g 0 rfl)) ?_
    refine eq_bR (show zR u1 a0 6 = some (a0 + 5) from lyR_12_6 h_u1.1 (h_u1.g 0 rfl)) ?_
    refine eq_g (show zK u1 a0 = 12 from (h_u1.g 0 rfl)) ?_
    refine eq_g (show zK u1 (a0 + 5) = 22 from (lyK_12_6 h_u1.1 (h_u1.g 0 rfl))) ?_
    refine eq_ixh (show zN u1 (a0 + 5) = 6 from lyN_12_6 h_u1.1 (h_u1.g 0 rfl)) (fun hix1 => ?_)
    refine eq_sH (h_u1.fr (P := PT) (Fr.sIr trivial)) (fun u3 h_u3 => ?_)
    refine eq_g (show zK u3 a0 = 12 from (h_u3.g 0 rfl)) ?_
    refine eq_cH (eX11_readsAll N a0 u3 (hkc (show zK u3 a0 = 12 from (h_u3.g 0 rfl)) (hk0 h_u3.1))) (fun r4 u5 e9 => h_u3.fr (fr_X11_readsAll (P := PT) N a0 u3 clPT trivial _ _ e9).1) (fun r4 u5 h_u5 => ?_)
    refine eq_if ?_ ?_
    · refine eq_g (show zK u5 a0 = 12 from (h_u5.g 0 rfl)) ?_
      rfl
    · refine eq_g (show zK u5 a0 = 12 from (h_u5.g 0 rfl)) ?_
      refine eq_g (show zK u5 a0 = 12 from (h_u5.g 0 rfl)) ?_
      refine eq_sH (h_u5.fr (P := PT) (Fr.sIr trivial)) (fun u6 h_u6 => ?_)
      refine eq_g (show zK u6 a0 = 12 from (h_u6.g 0 rfl)) ?_
      rfl
set_option maxRecDepth 20000 in
def hgX11_street_81 (N : Nat)   : Nat → Nat → Int32 → SG → Option (Int32 × SG)
  | 0, _, _, _ => none
  | n + 1, x0, x1, u => if (5 : Int32) ≤ x1 then (bs (sI u x0 25 (0 : Int32)) fun u1 => (some (zI u1 (x0 + 10) 1, u1)))
  else (if ((40 : Int32) + x1) < 0 ∨ 144 ≤ ((40 : Int32) + x1).toNatClampNeg then none else (bs (sI u (x0 + 10) ((40 : Int32) + x1).toNatClampNeg (0 : Int32)) fun u4 => ((hgX11_street_81 N   n) x0 (x1 + (1 : Int32)) u4)))
set_option maxRecDepth 20000 in
theorem egX11_street_81 (N : Nat)   : ∀ (n : Nat) (x0 : Nat) (x1 : Int32) (u : SG), HK [(some x0, 12)] u → gX11_street_81 N   n x0 x1 u = hgX11_street_81 N   n x0 x1 u := by
  intro n
  induction n with
  | zero => intros; rfl
  | succ n ih =>
    intro x0 x1 u h_u
    have hrc81 := ih
    rw [gX11_street_81, hgX11_street_81]
    refine eq_if ?_ ?_
    · refine eq_g (show zK u x0 = 12 from (h_u.g 0 rfl)) ?_
      refine eq_sH (h_u.fr (P := PT) (Fr.sIr trivial)) (fun u1 h_u1 => ?_)
      refine eq_g (show zK u1 x0 = 12 from (h_u1.g 0 rfl)) ?_
      refine eq_bR (show zR u1 x0 20 = some (x0 + 10) from lyR_12_20 h_u1.1 (h_u1.g 0 rfl)) ?_
      refine eq_g (show zK u1 (x0 + 10) = 22 from (lyK_12_20 h_u1.1 (h_u1.g 0 rfl))) ?_
      refine eq_n (by rw [show zN u1 (x0 + 10) = 144 from lyN_12_20 h_u1.1 (h_u1.g 0 rfl)]; decide) ?_
      rfl
    · refine eq_g (show zK u x0 = 12 from (h_u.g 0 rfl)) ?_
      refine eq_bR (show zR u x0 20 = some (x0 + 10) from lyR_12_20 h_u.1 (h_u.g 0 rfl)) ?_
      refine eq_g (show zK u (x0 + 10) = 22 from (lyK_12_20 h_u.1 (h_u.g 0 rfl))) ?_
      refine eq_ixh (show zN u (x0 + 10) = 144 from lyN_12_20 h_u.1 (h_u.g 0 rfl)) (fun hix1 => ?_)
      refine eq_sH (h_u.fr (P := PT) (Fr.sIr trivial)) (fun u4 h_u4 => ?_)
      exact hrc81 x0 (x1 + (1 : Int32)) u4 (hkc (show zK u4 x0 = 12 from (h_u4.g 0 rfl)) (hk0 h_u4.1))
set_option maxRecDepth 20000 in
def hgX11_street_44 (N : Nat)   : Nat → Nat → Int32 → SG → Option (Int32 × SG)
  | 0, _, _, _ => none
  | n + 1, x0, x1, u => if (144 : Int32) ≤ x1 then (hgX11_street_81 N   N x0 (0 : Int32) u)
  else (if (103 : Int32) ≤ x1 then (if x1 < 0 ∨ 144 ≤ x1.toNatClampNeg then none else (bs (sI u (x0 + 10) x1.toNatClampNeg (0 : Int32)) fun u2 => ((hgX11_street_44 N   n) x0 (x1 + (1 : Int32)) u2)))
  else (if x1 < 0 ∨ 103 ≤ x1.toNatClampNeg then none else (if x1 < 0 ∨ 144 ≤ x1.toNatClampNeg then none else (bs (sI u (x0 + 10) x1.toNatClampNeg (zI u (x0 + 6) x1.toNatClampNeg)) fun u4 => ((hgX11_street_44 N   n) x0 (x1 + (1 : Int32)) u4)))))
set_option maxRecDepth 20000 in
theorem egX11_street_44 (N : Nat)   : ∀ (n : Nat) (x0 : Nat) (x1 : Int32) (u : SG), HK [(some x0, 12)] u → gX11_street_44 N   n x0 x1 u = hgX11_street_44 N   n x0 x1 u := by
  intro n
  induction n with
  | zero => intros; rfl
  | succ n ih =>
    intro x0 x1 u h_u
    have hrc44 := ih
    rw [gX11_street_44, hgX11_street_44]
    refine eq_if ?_ ?_
    · exact egX11_street_81 N   N x0 (0 : Int32) u (hkc (show zK u x0 = 12 from (h_u.g 0 rfl)) (hk0 h_u.1))
    · refine eq_g (show zK u x0 = 12 from (h_u.g 0 rfl)) ?_
      refine eq_bR (show zR u x0 20 = some (x0 + 10) from lyR_12_20 h_u.1 (h_u.g 0 rfl)) ?_
      refine eq_if ?_ ?_
      · refine eq_g (show zK u (x0 + 10) = 22 from (lyK_12_20 h_u.1 (h_u.g 0 rfl))) ?_
        refine eq_ixh (show zN u (x0 + 10) = 144 from lyN_12_20 h_u.1 (h_u.g 0 rfl)) (fun hix1 => ?_)
        refine eq_sH (h_u.fr (P := PT) (Fr.sIr trivial)) (fun u2 h_u2 => ?_)
        exact hrc44 x0 (x1 + (1 : Int32)) u2 (hkc (show zK u2 x0 = 12 from (h_u2.g 0 rfl)) (hk0 h_u2.1))
      · refine eq_g (show zK u x0 = 12 from (h_u.g 0 rfl)) ?_
        refine eq_bR (show zR u x0 7 = some (x0 + 6) from lyR_12_7 h_u.1 (h_u.g 0 rfl)) ?_
        refine eq_g (show zK u (x0 + 6) = 22 from (lyK_12_7 h_u.1 (h_u.g 0 rfl))) ?_
        refine eq_ixh (show zN u (x0 + 6) = 103 from lyN_12_7 h_u.1 (h_u.g 0 rfl)) (fun hix2 => ?_)
        refine eq_g (show zK u (x0 + 10) = 22 from (lyK_12_20 h_u.1 (h_u.g 0 rfl))) ?_
        refine eq_ixh (show zN u (x0 + 10) = 144 from lyN_12_20 h_u.1 (h_u.g 0 rfl)) (fun hix3 => ?_)
        refine eq_sH (h_u.fr (P := PT) (Fr.sIr trivial)) (fun u4 h_u4 => ?_)
        exact hrc44 x0 (x1 + (1 : Int32)) u4 (hkc (show zK u4 x0 = 12 from (h_u4.g 0 rfl)) (hk0 h_u4.1))
set_option maxRecDepth 20000 in
def hgX11_street_8 (N : Nat)   : Nat → Nat → Int32 → SG → Option (Int32 × SG)
  | 0, _, _, _ => none
  | n + 1, x0, x1, u => if (10 : Int32) ≤ x1 then (cl (hX11_readsAll N x0 u) fun r1 u2 => (if r1 = 0 then (some ((-2 : Int32) - (zI u2 x0 9), u2))
  else (hgX11_street_44 N   N x0 (0 : Int32) u2)))
  else (if x1 < 0 ∨ 103 ≤ x1.toNatClampNeg then none else (bs (sI u (x0 + 6) x1.toNatClampNeg (0 : Int32)) fun u4 => ((hgX11_street_8 N   n) x0 (x1 + (1 : Int32)) u4)))
set_option maxRecDepth 20000 in
theorem egX11_street_8 (N : Nat)   : ∀ (n : Nat) (x0 : Nat) (x1 : Int32) (u : SG), HK [(some x0, 12)] u → gX11_street_8 N   n x0 x1 u = hgX11_street_8 N   n x0 x1 u := by
  intro n
  induction n with
  | zero => intros; rfl
  | succ n ih =>
    intro x0 x1 u h_u
    have hrc8 := ih
    rw [gX11_street_8, hgX11_street_8]
    refine eq_if ?_ ?_
    · refine eq_g (show zK u x0 = 12 from (h_u.g 0 rfl)) ?_
      refine eq_cH (eX11_readsAll N x0 u (hkc (show zK u x0 = 12 from (h_u.g 0 rfl)) (hk0 h_u.1))) (fun r1 u2 e9 => h_u.fr (fr_X11_readsAll (P := PT) N x0 u clPT trivial _ _ e9).1) (fun r1 u2 h_u2 => ?_)
      refine eq_if ?_ ?_
      · refine eq_g (show zK u2 x0 = 12 from (h_u2.g 0 rfl)) ?_
        rfl
      · exact egX11_street_44 N   N x0 (0 : Int32) u2 (hkc (show zK u2 x0 = 12 from (h_u2.g 0 rfl)) (hk0 h_u2.1))
    · refine eq_g (show zK u x0 = 12 from (h_u.g 0 rfl)) ?_
      refine eq_bR (show zR u x0 7 = some (x0 + 6) from lyR_12_7 h_u.1 (h_u.g 0 rfl)) ?_
      refine eq_g (show zK u (x0 + 6) = 22 from (lyK_12_7 h_u.1 (h_u.g 0 rfl))) ?_
      refine eq_ixh (show zN u (x0 + 6) = 103 from lyN_12_7 h_u.1 (h_u.g 0 rfl)) (fun hix1 => ?_)
      refine eq_sH (h_u.fr (P := PT) (Fr.sIr trivial)) (fun u4 h_u4 => ?_)
      exact hrc8 x0 (x1 + (1 : Int32)) u4 (hkc (show zK u4 x0 = 12 from (h_u4.g 0 rfl)) (hk0 h_u4.1))
set_option maxRecDepth 20000 in
def hX11_street (N : Nat)  (a0 : Nat) (u : SG) : Option (Int32 × SG) := bs (sI u a0 11 (6 : Int32)) fun u1 => (hgX11_street_8 N   N a0 (0 : Int32) u1)
set_option maxRecDepth 20000 in
theorem eX11_street (N : Nat)  (a0 : Nat) (u : SG) (h_u : HK [(some a0, 12)] u) : fX11_street N  a0 u = hX11_street N  a0 u := by
  unfold fX11_street hX11_street
  refine eq_g (show zK u a0 = 12 from (h_u.g 0 rfl)) ?_
  refine eq_sH (h_u.fr (P := PT) (Fr.sIr trivial)) (fun u1 h_u1 => ?_)
  exact egX11_street_8 N   N a0 (0 : Int32) u1 (hkc (show zK u1 a0 = 12 from (h_u1.g 0 rfl)) (hk0 h_u1.1))
set_option maxRecDepth 20000 in
def hX11_isRule (N : Nat)  (a0 : Nat) (p1 : Int32) (u : SG) : Option (Int32 × SG) := if p1 < 0 then (some ((0 : Int32), u))
  else (if (zI u a0 2) ≤ p1 then (some ((0 : Int32), u))
  else (some ((1 : Int32), u)))
set_option maxRecDepth 20000 in
theorem eX11_isRule (N : Nat)  (a0 : Nat) (p1 : Int32) (u : SG) (h_u : HK [(some a0, 12)] u) : fX11_isRule N  a0 p1 u = hX11_isRule N  a0 p1 u := by
  unfold fX11_isRule hX11_isRule
  refine eq_if ?_ ?_
  · rfl
  · refine eq_g (show zK u a0 = 12 from (h_u.g 0 rfl)) ?_
    refine eq_if ?_ ?_
    · rfl
    · rfl
set_option maxRecDepth 20000 in
def hX11_push (N : Nat)  (a0 : Nat) (p1 : Int64) (u : SG) : Option (Unit × SG) := if (zI u a0 18) < 0 ∨ 64 ≤ (zI u a0 18).toNatClampNeg then none else (bs (sL u (a0 + 8) (zI u a0 18).toNatClampNeg p1) fun u2 => (bs (sI u2 a0 18 ((zI u2 a0 18) + (1 : Int32))) fun u3 => (some ((), u3))))
set_option maxRecDepth 20000 in
theorem eX11_push (N : Nat)  (a0 : Nat) (p1 : Int64) (u : SG) (h_u : HK [(some a0, 12)] u) : fX11_push N  a0 p1 u = hX11_push N  a0 p1 u := by
  unfold fX11_push hX11_push
  refine eq_g (show zK u a0 = 12 from (h_u.g 0 rfl)) ?_
  refine eq_bR (show zR u a0 17 = some (a0 + 8) from lyR_12_17 h_u.1 (h_u.g 0 rfl)) ?_
  refine eq_g (show zK u a0 = 12 from (h_u.g 0 rfl)) ?_
  refine eq_g (show zK u (a0 + 8) = 23 from (lyK_12_17 h_u.1 (h_u.g 0 rfl))) ?_
  refine eq_ixh (show zN u (a0 + 8) = 64 from lyN_12_17 h_u.1 (h_u.g 0 rfl)) (fun hix1 => ?_)
  refine eq_sH (h_u.fr (P := PT) (Fr.sLr trivial)) (fun u2 h_u2 => ?_)
  refine eq_g (show zK u2 a0 = 12 from (h_u2.g 0 rfl)) ?_
  refine eq_g (show zK u2 a0 = 12 from (h_u2.g 0 rfl)) ?_
  refine eq_sH (h_u2.fr (P := PT) (Fr.sIr trivial)) (fun u3 h_u3 => ?_)
  rfl
set_option maxRecDepth 20000 in
def hX11_pop (N : Nat)  (a0 : Nat) (u : SG) : Option (Int64 × SG) := bs (sI u a0 18 ((zI u a0 18) - (1 : Int32))) fun u1 => (if (zI u1 a0 18) < 0 ∨ 64 ≤ (zI u1 a0 18).toNatClampNeg then none else (some (zL u1 (a0 + 8) (zI u1 a0 18).toNatClampNeg, u1)))
set_option maxRecDepth 20000 in
theorem eX11_pop (N : Nat)  (a0 : Nat) (u : SG) (h_u : HK [(some a0, 12)] u) : fX11_pop N  a0 u = hX11_pop N  a0 u := by
  unfold fX11_pop hX11_pop
  refine eq_g (show zK u a0 = 12 from (h_u.g 0 rfl)) ?_
  refine eq_g (show zK u a0 = 12 from (h_u.g 0 rfl)) ?_
  refine eq_sH (h_u.fr (P := PT) (Fr.sIr trivial)) (fun u1 h_u1 => ?_)
  refine eq_g (show zK u1 a0 = 12 from (h_u1.g 0 rfl)) ?_
  refine eq_bR (show zR u1 a0 17 = some (a0 + 8) from lyR_12_17 h_u1.1 (h_u1.g 0 rfl)) ?_
  refine eq_g (show zK u1 a0 = 12 from (h_u1.g 0 rfl)) ?_
  refine eq_g (show zK u1 (a0 + 8) = 23 from (lyK_12_17 h_u1.1 (h_u1.g 0 rfl))) ?_
  refine eq_ixh (show zN u1 (a0 + 8) = 64 from lyN_12_17 h_u1.1 (h_u1.g 0 rfl)) (fun hix1 => ?_)
  rfl
set_option maxRecDepth 20000 in
def hgX11_reckons_8 (N : Nat)   : Nat → Nat → Int32 → Int32 → Int32 → SG → Option (Int64 × SG)
  | 0, _, _, _, _, _ => none
  | n + 1, x0, x1, x3, x4, u => if x3 ≤ x4 then (cl (hX11_pop N x0 u) fun r1 u2 => (some (r1, u2)))
  else (if (((400 : Int32) * x1) + x4) < 0 ∨ 2400 ≤ (((400 : Int32) * x1) + x4).toNatClampNeg then none else (bs ((zI u (x0 + 2) (((400 : Int32) * x1) + x4).toNatClampNeg) &&& (15 : Int32)) fun v4 => (if (((400 : Int32) * x1) + x4) < 0 ∨ 2400 ≤ (((400 : Int32) * x1) + x4).toNatClampNeg then none else (bs ((zI u (x0 + 2) (((400 : Int32) * x1) + x4).toNatClampNeg) >>> ((4 : Int32) &&& 31)) fun v6 => (if v4 = 0 then (cl (hX11_push N x0 v6.toInt64 u) fun r22 u23 => ((hgX11_reckons_8 N   n) x0 x1 x3 (x4 + (1 : Int32)) u23))
  else (if v4 = (1 : Int32) then (if v6 < 0 ∨ 13 ≤ v6.toNatClampNeg then none else (cl (hX11_push N x0 (zL u (x0 + 9) v6.toNatClampNeg) u) fun r20 u21 => ((hgX11_reckons_8 N   n) x0 x1 x3 (x4 + (1 : Int32)) u21)))
  else (if v4 = (11 : Int32) then (cl (hX11_pop N x0 u) fun r15 u16 => (cl (hX11_push N x0 ((1 : Int64) - r15) u16) fun r17 u18 => ((hgX11_reckons_8 N   n) x0 x1 x3 (x4 + (1 : Int32)) u18)))
  else (cl (hX11_pop N x0 u) fun r7 u8 => (cl (hX11_pop N x0 u8) fun r9 u10 => (cl (fX11_one N v4 r9 r7 u10) fun r11 u12 => (cl (hX11_push N x0 r11 u12) fun r13 u14 => ((hgX11_reckons_8 N   n) x0 x1 x3 (x4 + (1 : Int32)) u14))))))))))))
set_option maxRecDepth 20000 in
theorem egX11_reckons_8 (N : Nat)   : ∀ (n : Nat) (x0 : Nat) (x1 : Int32) (x3 : Int32) (x4 : Int32) (u : SG), HK [(some x0, 12)] u → gX11_reckons_8 N   n x0 x1 x3 x4 u = hgX11_reckons_8 N   n x0 x1 x3 x4 u := by
  intro n
  induction n with
  | zero => intros; rfl
  | succ n ih =>
    intro x0 x1 x3 x4 u h_u
    have hrc8 := ih
    rw [gX11_reckons_8, hgX11_reckons_8]
    refine eq_if ?_ ?_
    · refine eq_g (show zK u x0 = 12 from (h_u.g 0 rfl)) ?_
      refine eq_cH (eX11_pop N x0 u (hkc (show zK u x0 = 12 from (h_u.g 0 rfl)) (hk0 h_u.1))) (fun r1 u2 e9 => h_u.fr (fr_X11_pop (P := PT) N x0 u clPT trivial _ _ e9).1) (fun r1 u2 h_u2 => ?_)
      rfl
    · refine eq_g (show zK u x0 = 12 from (h_u.g 0 rfl)) ?_
      refine eq_bR (show zR u x0 3 = some (x0 + 2) from lyR_12_3 h_u.1 (h_u.g 0 rfl)) ?_
      refine eq_g (show zK u (x0 + 2) = 22 from (lyK_12_3 h_u.1 (h_u.g 0 rfl))) ?_
      refine eq_ixh (show zN u (x0 + 2) = 2400 from lyN_12_3 h_u.1 (h_u.g 0 rfl)) (fun hix1 => ?_)
      refine eq_bs (fun v4 => ?_)
      refine eq_g (show zK u x0 = 12 from (h_u.g 0 rfl)) ?_
      refine eq_bR (show zR u x0 3 = some (x0 + 2) from lyR_12_3 h_u.1 (h_u.g 0 rfl)) ?_
      refine eq_g (show zK u (x0 + 2) = 22 from (lyK_12_3 h_u.1 (h_u.g 0 rfl))) ?_
      refine eq_ixh (show zN u (x0 + 2) = 2400 from lyN_12_3 h_u.1 (h_u.g 0 rfl)) (fun hix2 => ?_)
      refine eq_bs (fun v6 => ?_)
      refine eq_if ?_ ?_
      · refine eq_g (show zK u x0 = 12 from (h_u.g 0 rfl)) ?_
        refine eq_cH (eX11_push N x0 v6.toInt64 u (hkc (show zK u x0 = 12 from (h_u.g 0 rfl)) (hk0 h_u.1))) (fun r22 u23 e9 => h_u.fr (fr_X11_push (P := PT) N x0 v6.toInt64 u clPT trivial _ _ e9).1) (fun r22 u23 h_u23 => ?_)
        exact hrc8 x0 x1 x3 (x4 + (1 : Int32)) u23 (hkc (show zK u23 x0 = 12 from (h_u23.g 0 rfl)) (hk0 h_u23.1))
      · refine eq_if ?_ ?_
        · refine eq_g (show zK u x0 = 12 from (h_u.g 0 rfl)) ?_
          refine eq_bR (show zR u x0 19 = some (x0 + 9) from lyR_12_19 h_u.1 (h_u.g 0 rfl)) ?_
          refine eq_g (show zK u (x0 + 9) = 23 from (lyK_12_19 h_u.1 (h_u.g 0 rfl))) ?_
          refine eq_ixh (show zN u (x0 + 9) = 13 from lyN_12_19 h_u.1 (h_u.g 0 rfl)) (fun hix3 => ?_)
          refine eq_g (show zK u x0 = 12 from (h_u.g 0 rfl)) ?_
          refine eq_cH (eX11_push N x0 (zL u (x0 + 9) v6.toNatClampNeg) u (hkc (show zK u x0 = 12 from (h_u.g 0 rfl)) (hk0 h_u.1))) (fun r20 u21 e9 => h_u.fr (fr_X11_push (P := PT) N x0 (zL u (x0 + 9) v6.toNatClampNeg) u clPT trivial _ _ e9).1) (fun r20 u21 h_u21 => ?_)
          exact hrc8 x0 x1 x3 (x4 + (1 : Int32)) u21 (hkc (show zK u21 x0 = 12 from (h_u21.g 0 rfl)) (hk0 h_u21.1))
        · refine eq_if ?_ ?_
          · refine eq_g (show zK u x0 = 12 from (h_u.g 0 rfl)) ?_
            refine eq_cH (eX11_pop N x0 u (hkc (show zK u x0 = 12 from (h_u.g 0 rfl)) (hk0 h_u.1))) (fun r15 u16 e9 => h_u.fr (fr_X11_pop (P := PT) N x0 u clPT trivial _ _ e9).1) (fun r15 u16 h_u16 => ?_)
            refine eq_g (show zK u16 x0 = 12 from (h_u16.g 0 rfl)) ?_
            refine eq_cH (eX11_push N x0 ((1 : Int64) - r15) u16 (hkc (show zK u16 x0 = 12 from (h_u16.g 0 rfl)) (hk0 h_u16.1))) (fun r17 u18 e9 => h_u16.fr (fr_X11_push (P := PT) N x0 ((1 : Int64) - r15) u16 clPT trivial _ _ e9).1) (fun r17 u18 h_u18 => ?_)
            exact hrc8 x0 x1 x3 (x4 + (1 : Int32)) u18 (hkc (show zK u18 x0 = 12 from (h_u18.g 0 rfl)) (hk0 h_u18.1))
          · refine eq_g (show zK u x0 = 12 from (h_u.g 0 rfl)) ?_
            refine eq_cH (eX11_pop N x0 u (hkc (show zK u x0 = 12 from (h_u.g 0 rfl)) (hk0 h_u.1))) (fun r7 u8 e9 => h_u.fr (fr_X11_pop (P := PT) N x0 u clPT trivial _ _ e9).1) (fun r7 u8 h_u8 => ?_)
            refine eq_g (show zK u8 x0 = 12 from (h_u8.g 0 rfl)) ?_
            refine eq_cH (eX11_pop N x0 u8 (hkc (show zK u8 x0 = 12 from (h_u8.g 0 rfl)) (hk0 h_u8.1))) (fun r9 u10 e9 => h_u8.fr (fr_X11_pop (P := PT) N x0 u8 clPT trivial _ _ e9).1) (fun r9 u10 h_u10 => ?_)
            refine eq_cH rfl (fun r11 u12 e9 => h_u10.fr (fr_X11_one (P := PT) N v4 r9 r7 u10 clPT _ _ e9).1) (fun r11 u12 h_u12 => ?_)
            refine eq_g (show zK u12 x0 = 12 from (h_u12.g 0 rfl)) ?_
            refine eq_cH (eX11_push N x0 r11 u12 (hkc (show zK u12 x0 = 12 from (h_u12.g 0 rfl)) (hk0 h_u12.1))) (fun r13 u14 e9 => h_u12.fr (fr_X11_push (P := PT) N x0 r11 u12 clPT trivial _ _ e9).1) (fun r13 u14 h_u14 => ?_)
            exact hrc8 x0 x1 x3 (x4 + (1 : Int32)) u14 (hkc (show zK u14 x0 = 12 from (h_u14.g 0 rfl)) (hk0 h_u14.1))
set_option maxRecDepth 20000 in
def hX11_reckons (N : Nat)  (a0 : Nat) (p1 : Int32) (p2 : Int32) (p3 : Int32) (u : SG) : Option (Int64 × SG) := bs (sI u a0 18 (0 : Int32)) fun u1 => (hgX11_reckons_8 N   N a0 p1 p3 p2 u1)
set_option maxRecDepth 20000 in
theorem eX11_reckons (N : Nat)  (a0 : Nat) (p1 : Int32) (p2 : Int32) (p3 : Int32) (u : SG) (h_u : HK [(some a0, 12)] u) : fX11_reckons N  a0 p1 p2 p3 u = hX11_reckons N  a0 p1 p2 p3 u := by
  unfold fX11_reckons hX11_reckons
  refine eq_g (show zK u a0 = 12 from (h_u.g 0 rfl)) ?_
  refine eq_sH (h_u.fr (P := PT) (Fr.sIr trivial)) (fun u1 h_u1 => ?_)
  exact egX11_reckons_8 N   N a0 p1 p3 p2 u1 (hkc (show zK u1 a0 = 12 from (h_u1.g 0 rfl)) (hk0 h_u1.1))
set_option maxRecDepth 20000 in
def hX11_isStreet (N : Nat)  (a0 : Nat) (u : SG) : Option (Int32 × SG) := if (zI u (a0 + 10) 0) ≤ 0 then (some ((0 : Int32), u))
  else (some ((1 : Int32), u))
set_option maxRecDepth 20000 in
theorem eX11_isStreet (N : Nat)  (a0 : Nat) (u : SG) (h_u : HK [(some a0, 12)] u) : fX11_isStreet N  a0 u = hX11_isStreet N  a0 u := by
  unfold fX11_isStreet hX11_isStreet
  refine eq_g (show zK u a0 = 12 from (h_u.g 0 rfl)) ?_
  refine eq_bR (show zR u a0 20 = some (a0 + 10) from lyR_12_20 h_u.1 (h_u.g 0 rfl)) ?_
  refine eq_g (show zK u (a0 + 10) = 22 from (lyK_12_20 h_u.1 (h_u.g 0 rfl))) ?_
  refine eq_n (by rw [show zN u (a0 + 10) = 144 from lyN_12_20 h_u.1 (h_u.g 0 rfl)]; decide) ?_
  refine eq_if ?_ ?_
  · rfl
  · rfl
set_option maxRecDepth 20000 in
def hX11_isPerson (N : Nat)  (a0 : Nat) (p1 : Int32) (u : SG) : Option (Int32 × SG) := if p1 < 0 then (some ((0 : Int32), u))
  else (if (zI u (a0 + 10) 1) ≤ p1 then (some ((0 : Int32), u))
  else (some ((1 : Int32), u)))
set_option maxRecDepth 20000 in
theorem eX11_isPerson (N : Nat)  (a0 : Nat) (p1 : Int32) (u : SG) (h_u : HK [(some a0, 12)] u) : fX11_isPerson N  a0 p1 u = hX11_isPerson N  a0 p1 u := by
  unfold fX11_isPerson hX11_isPerson
  refine eq_if ?_ ?_
  · rfl
  · refine eq_g (show zK u a0 = 12 from (h_u.g 0 rfl)) ?_
    refine eq_bR (show zR u a0 20 = some (a0 + 10) from lyR_12_20 h_u.1 (h_u.g 0 rfl)) ?_
    refine eq_g (show zK u (a0 + 10) = 22 from (lyK_12_20 h_u.1 (h_u.g 0 rfl))) ?_
    refine eq_n (by rw [show zN u (a0 + 10) = 144 from lyN_12_20 h_u.1 (h_u.g 0 rfl)]; decide) ?_
    refine eq_if ?_ ?_
    · rfl
    · rfl
set_option maxRecDepth 20000 in
def hX11_isLamp (N : Nat)  (a0 : Nat) (p1 : Int32) (u : SG) : Option (Int32 × SG) := if p1 < 0 then (some ((0 : Int32), u))
  else (if (zI u (a0 + 10) 3) ≤ p1 then (some ((0 : Int32), u))
  else (some ((1 : Int32), u)))
set_option maxRecDepth 20000 in
theorem eX11_isLamp (N : Nat)  (a0 : Nat) (p1 : Int32) (u : SG) (h_u : HK [(some a0, 12)] u) : fX11_isLamp N  a0 p1 u = hX11_isLamp N  a0 p1 u := by
  unfold fX11_isLamp hX11_isLamp
  refine eq_if ?_ ?_
  · rfl
  · refine eq_g (show zK u a0 = 12 from (h_u.g 0 rfl)) ?_
    refine eq_bR (show zR u a0 20 = some (a0 + 10) from lyR_12_20 h_u.1 (h_u.g 0 rfl)) ?_
    refine eq_g (show zK u (a0 + 10) = 22 from (lyK_12_20 h_u.1 (h_u.g 0 rfl))) ?_
    refine eq_n (by rw [show zN u (a0 + 10) = 144 from lyN_12_20 h_u.1 (h_u.g 0 rfl)]; decide) ?_
    refine eq_if ?_ ?_
    · rfl
    · rfl
set_option maxRecDepth 20000 in
def hX11_personOf (N : Nat)  (a0 : Nat) (p1 : Int32) (p2 : Int32) (u : SG) : Option (Int32 × SG) := if (((10 : Int32) + ((6 : Int32) * p1)) + p2) < 0 ∨ 144 ≤ (((10 : Int32) + ((6 : Int32) * p1)) + p2).toNatClampNeg then none else (some (zI u (a0 + 10) (((10 : Int32) + ((6 : Int32) * p1)) + p2).toNatClampNeg, u))
set_option maxRecDepth 20000 in
theorem eX11_personOf (N : Nat)  (a0 : Nat) (p1 : Int32) (p2 : Int32) (u : SG) (h_u : HK [(some a0, 12)] u) : fX11_personOf N  a0 p1 p2 u = hX11_personOf N  a0 p1 p2 u := by
  unfold fX11_personOf hX11_personOf
  refine eq_g (show zK u a0 = 12 from (h_u.g 0 rfl)) ?_
  refine eq_bR (show zR u a0 20 = some (a0 + 10) from lyR_12_20 h_u.1 (h_u.g 0 rfl)) ?_
  refine eq_g (show zK u (a0 + 10) = 22 from (lyK_12_20 h_u.1 (h_u.g 0 rfl))) ?_
  refine eq_ixh (show zN u (a0 + 10) = 144 from lyN_12_20 h_u.1 (h_u.g 0 rfl)) (fun hix1 => ?_)
  rfl
set_option maxRecDepth 20000 in
def hgX11_worksIn_2 (N : Nat)   : Nat → Nat → Int32 → Int32 → Int32 → SG → Option (Int32 × SG)
  | 0, _, _, _, _, _ => none
  | n + 1, x0, x1, x2, x3, u => if (zI u (x0 + 10) 2) ≤ x3 then (some ((0 : Int32), u))
  else (bs ((45 : Int32) + ((3 : Int32) * x3)) fun v2 => (if v2 < 0 ∨ 144 ≤ v2.toNatClampNeg then none else (if (zI u (x0 + 10) v2.toNatClampNeg) = x1 then (if (v2 + (1 : Int32)) < 0 ∨ 144 ≤ (v2 + (1 : Int32)).toNatClampNeg then none else (if x2 < (zI u (x0 + 10) (v2 + (1 : Int32)).toNatClampNeg) then ((hgX11_worksIn_2 N   n) x0 x1 x2 (x3 + (1 : Int32)) u)
  else (if (v2 + (2 : Int32)) < 0 ∨ 144 ≤ (v2 + (2 : Int32)).toNatClampNeg then none else (if (zI u (x0 + 10) (v2 + (2 : Int32)).toNatClampNeg) < x2 then ((hgX11_worksIn_2 N   n) x0 x1 x2 (x3 + (1 : Int32)) u)
  else (some ((1 : Int32), u))))))
  else ((hgX11_worksIn_2 N   n) x0 x1 x2 (x3 + (1 : Int32)) u))))
set_option maxRecDepth 20000 in
theorem egX11_worksIn_2 (N : Nat)   : ∀ (n : Nat) (x0 : Nat) (x1 : Int32) (x2 : Int32) (x3 : Int32) (u : SG), HK [(some x0, 12)] u → gX11_worksIn_2 N   n x0 x1 x2 x3 u = hgX11_worksIn_2 N   n x0 x1 x2 x3 u := by
  intro n
  induction n with
  | zero => intros; rfl
  | succ n ih =>
    intro x0 x1 x2 x3 u h_u
    have hrc2 := ih
    rw [gX11_worksIn_2, hgX11_worksIn_2]
    refine eq_g (show zK u x0 = 12 from (h_u.g 0 rfl)) ?_
    refine eq_bR (show zR u x0 20 = some (x0 + 10) from lyR_12_20 h_u.1 (h_u.g 0 rfl)) ?_
    refine eq_g (show zK u (x0 + 10) = 22 from (lyK_12_20 h_u.1 (h_u.g 0 rfl))) ?_
    refine eq_n (by rw [show zN u (x0 + 10) = 144 from lyN_12_20 h_u.1 (h_u.g 0 rfl)]; decide) ?_
    refine eq_if ?_ ?_
    · rfl
    · refine eq_bs (fun v2 => ?_)
      refine eq_g (show zK u x0 = 12 from (h_u.g 0 rfl)) ?_
      refine eq_bR (show zR u x0 20 = some (x0 + 10) from lyR_12_20 h_u.1 (h_u.g 0 rfl)) ?_
      refine eq_g (show zK u (x0 + 10) = 22 from (lyK_12_20 h_u.1 (h_u.g 0 rfl))) ?_
      refine eq_ixh (show zN u (x0 + 10) = 144 from lyN_12_20 h_u.1 (h_u.g 0 rfl)) (fun hix1 => ?_)
      refine eq_if ?_ ?_
      · refine eq_g (show zK u x0 = 12 from (h_u.g 0 rfl)) ?_
        refine eq_bR (show zR u x0 20 = some (x0 + 10) from lyR_12_20 h_u.1 (h_u.g 0 rfl)) ?_
        refine eq_g (show zK u (x0 + 10) = 22 from (lyK_12_20 h_u.1 (h_u.g 0 rfl))) ?_
        refine eq_ixh (show zN u (x0 + 10) = 144 from lyN_12_20 h_u.1 (h_u.g 0 rfl)) (fun hix2 => ?_)
        refine eq_if ?_ ?_
        · exact hrc2 x0 x1 x2 (x3 + (1 : Int32)) u (hkc (show zK u x0 = 12 from (h_u.g 0 rfl)) (hk0 h_u.1))
        · refine eq_g (show zK u x0 = 12 from (h_u.g 0 rfl)) ?_
          refine eq_bR (show zR u x0 20 = some (x0 + 10) from lyR_12_20 h_u.1 (h_u.g 0 rfl)) ?_
          refine eq_g (show zK u (x0 + 10) = 22 from (lyK_12_20 h_u.1 (h_u.g 0 rfl))) ?_
          refine eq_ixh (show zN u (x0 + 10) = 144 from lyN_12_20 h_u.1 (h_u.g 0 rfl)) (fun hix3 => ?_)
          refine eq_if ?_ ?_
          · exact hrc2 x0 x1 x2 (x3 + (1 : Int32)) u (hkc (show zK u x0 = 12 from (h_u.g 0 rfl)) (hk0 h_u.1))
          · rfl
      · exact hrc2 x0 x1 x2 (x3 + (1 : Int32)) u (hkc (show zK u x0 = 12 from (h_u.g 0 rfl)) (hk0 h_u.1))
set_option maxRecDepth 20000 in
def hX11_worksIn (N : Nat)  (a0 : Nat) (p1 : Int32) (p2 : Int32) (u : SG) : Option (Int32 × SG) := hgX11_worksIn_2 N   N a0 p1 p2 (0 : Int32) u
set_option maxRecDepth 20000 in
theorem eX11_worksIn (N : Nat)  (a0 : Nat) (p1 : Int32) (p2 : Int32) (u : SG) (h_u : HK [(some a0, 12)] u) : fX11_worksIn N  a0 p1 p2 u = hX11_worksIn N  a0 p1 p2 u := by
  unfold fX11_worksIn hX11_worksIn
  exact egX11_worksIn_2 N   N a0 p1 p2 (0 : Int32) u (hkc (show zK u a0 = 12 from (h_u.g 0 rfl)) (hk0 h_u.1))
set_option maxRecDepth 20000 in
def hgX11_isLitIn_2 (N : Nat)   : Nat → Nat → Int32 → Int32 → Int32 → SG → Option (Int32 × SG)
  | 0, _, _, _, _, _ => none
  | n + 1, x0, x1, x2, x3, u => if (zI u (x0 + 10) 4) ≤ x3 then (some ((0 : Int32), u))
  else (bs ((79 : Int32) + ((3 : Int32) * x3)) fun v2 => (if v2 < 0 ∨ 144 ≤ v2.toNatClampNeg then none else (if (zI u (x0 + 10) v2.toNatClampNeg) = x1 then (if (v2 + (1 : Int32)) < 0 ∨ 144 ≤ (v2 + (1 : Int32)).toNatClampNeg then none else (if x2 < (zI u (x0 + 10) (v2 + (1 : Int32)).toNatClampNeg) then ((hgX11_isLitIn_2 N   n) x0 x1 x2 (x3 + (1 : Int32)) u)
  else (if (v2 + (2 : Int32)) < 0 ∨ 144 ≤ (v2 + (2 : Int32)).toNatClampNeg then none else (if (zI u (x0 + 10) (v2 + (2 : Int32)).toNatClampNeg) < x2 then ((hgX11_isLitIn_2 N   n) x0 x1 x2 (x3 + (1 : Int32)) u)
  else (some ((1 : Int32), u))))))
  else ((hgX11_isLitIn_2 N   n) x0 x1 x2 (x3 + (1 : Int32)) u))))
set_option maxRecDepth 20000 in
theorem egX11_isLitIn_2 (N : Nat)   : ∀ (n : Nat) (x0 : Nat) (x1 : Int32) (x2 : Int32) (x3 : Int32) (u : SG), HK [(some x0, 12)] u → gX11_isLitIn_2 N   n x0 x1 x2 x3 u = hgX11_isLitIn_2 N   n x0 x1 x2 x3 u := by
  intro n
  induction n with
  | zero => intros; rfl
  | succ n ih =>
    intro x0 x1 x2 x3 u h_u
    have hrc2 := ih
    rw [gX11_isLitIn_2, hgX11_isLitIn_2]
    refine eq_g (show zK u x0 = 12 from (h_u.g 0 rfl)) ?_
    refine eq_bR (show zR u x0 20 = some (x0 + 10) from lyR_12_20 h_u.1 (h_u.g 0 rfl)) ?_
    refine eq_g (show zK u (x0 + 10) = 22 from (lyK_12_20 h_u.1 (h_u.g 0 rfl))) ?_
    refine eq_n (by rw [show zN u (x0 + 10) = 144 from lyN_12_20 h_u.1 (h_u.g 0 rfl)]; decide) ?_
    refine eq_if ?_ ?_
    · rfl
    · refine eq_bs (fun v2 => ?_)
      refine eq_g (show zK u x0 = 12 from (h_u.g 0 rfl)) ?_
      refine eq_bR (show zR u x0 20 = some (x0 + 10) from lyR_12_20 h_u.1 (h_u.g 0 rfl)) ?_
      refine eq_g (show zK u (x0 + 10) = 22 from (lyK_12_20 h_u.1 (h_u.g 0 rfl))) ?_
      refine eq_ixh (show zN u (x0 + 10) = 144 from lyN_12_20 h_u.1 (h_u.g 0 rfl)) (fun hix1 => ?_)
      refine eq_if ?_ ?_
      · refine eq_g (show zK u x0 = 12 from (h_u.g 0 rfl)) ?_
        refine eq_bR (show zR u x0 20 = some (x0 + 10) from lyR_12_20 h_u.1 (h_u.g 0 rfl)) ?_
        refine eq_g (show zK u (x0 + 10) = 22 from (lyK_12_20 h_u.1 (h_u.g 0 rfl))) ?_
        refine eq_ixh (show zN u (x0 + 10) = 144 from lyN_12_20 h_u.1 (h_u.g 0 rfl)) (fun hix2 => ?_)
        refine eq_if ?_ ?_
        · exact hrc2 x0 x1 x2 (x3 + (1 : Int32)) u (hkc (show zK u x0 = 12 from (h_u.g 0 rfl)) (hk0 h_u.1))
        · refine eq_g (show zK u x0 = 12 from (h_u.g 0 rfl)) ?_
          refine eq_bR (show zR u x0 20 = some (x0 + 10) from lyR_12_20 h_u.1 (h_u.g 0 rfl)) ?_
          refine eq_g (show zK u (x0 + 10) = 22 from (lyK_12_20 h_u.1 (h_u.g 0 rfl))) ?_
          refine eq_ixh (show zN u (x0 + 10) = 144 from lyN_12_20 h_u.1 (h_u.g 0 rfl)) (fun hix3 => ?_)
          refine eq_if ?_ ?_
          · exact hrc2 x0 x1 x2 (x3 + (1 : Int32)) u (hkc (show zK u x0 = 12 from (h_u.g 0 rfl)) (hk0 h_u.1))
          · rfl
      · exact hrc2 x0 x1 x2 (x3 + (1 : Int32)) u (hkc (show zK u x0 = 12 from (h_u.g 0 rfl)) (hk0 h_u.1))
set_option maxRecDepth 20000 in
def hX11_isLitIn (N : Nat)  (a0 : Nat) (p1 : Int32) (p2 : Int32) (u : SG) : Option (Int32 × SG) := hgX11_isLitIn_2 N   N a0 p1 p2 (0 : Int32) u
set_option maxRecDepth 20000 in
theorem eX11_isLitIn (N : Nat)  (a0 : Nat) (p1 : Int32) (p2 : Int32) (u : SG) (h_u : HK [(some a0, 12)] u) : fX11_isLitIn N  a0 p1 p2 u = hX11_isLitIn N  a0 p1 p2 u := by
  unfold fX11_isLitIn hX11_isLitIn
  exact egX11_isLitIn_2 N   N a0 p1 p2 (0 : Int32) u (hkc (show zK u a0 = 12 from (h_u.g 0 rfl)) (hk0 h_u.1))
set_option maxRecDepth 20000 in
def hX11_burnsIn (N : Nat)  (a0 : Nat) (p1 : Int32) (p2 : Int32) (u : SG) : Option (Int32 × SG) := if ((40 : Int32) + p1) < 0 ∨ 144 ≤ ((40 : Int32) + p1).toNatClampNeg then none else (bs (zI u (a0 + 10) ((40 : Int32) + p1).toNatClampNeg) fun v2 => (if v2 = (1 : Int32) then (some ((1 : Int32), u))
  else (if v2 = 0 then (cl (hX11_isLitIn N a0 p1 p2 u) fun r3 u4 => (if r3 = 0 then (some ((0 : Int32), u4))
  else (some ((1 : Int32), u4))))
  else (some ((0 : Int32), u)))))
set_option maxRecDepth 20000 in
theorem eX11_burnsIn (N : Nat)  (a0 : Nat) (p1 : Int32) (p2 : Int32) (u : SG) (h_u : HK [(some a0, 12)] u) : fX11_burnsIn N  a0 p1 p2 u = hX11_burnsIn N  a0 p1 p2 u := by
  unfold fX11_burnsIn hX11_burnsIn
  refine eq_g (show zK u a0 = 12 from (h_u.g 0 rfl)) ?_
  refine eq_bR (show zR u a0 20 = some (a0 + 10) from lyR_12_20 h_u.1 (h_u.g 0 rfl)) ?_
  refine eq_g (show zK u (a0 + 10) = 22 from (lyK_12_20 h_u.1 (h_u.g 0 rfl))) ?_
  refine eq_ixh (show zN u (a0 + 10) = 144 from lyN_12_20 h_u.1 (h_u.g 0 rfl)) (fun hix1 => ?_)
  refine eq_bs (fun v2 => ?_)
  refine eq_if ?_ ?_
  · rfl
  · refine eq_if ?_ ?_
    · refine eq_g (show zK u a0 = 12 from (h_u.g 0 rfl)) ?_
      refine eq_cH (eX11_isLitIn N a0 p1 p2 u (hkc (show zK u a0 = 12 from (h_u.g 0 rfl)) (hk0 h_u.1))) (fun r3 u4 e9 => h_u.fr (fr_X11_isLitIn (P := PT) N a0 p1 p2 u clPT trivial _ _ e9).1) (fun r3 u4 h_u4 => ?_)
      refine eq_if ?_ ?_
      · rfl
      · rfl
    · rfl
set_option maxRecDepth 20000 in
def hX11_costOf (N : Nat)  (a0 : Nat) (p1 : Int32) (u : SG) : Option (Int32 × SG) := if (((69 : Int32) + ((2 : Int32) * p1)) + (1 : Int32)) < 0 ∨ 144 ≤ (((69 : Int32) + ((2 : Int32) * p1)) + (1 : Int32)).toNatClampNeg then none else (some (zI u (a0 + 10) (((69 : Int32) + ((2 : Int32) * p1)) + (1 : Int32)).toNatClampNeg, u))
set_option maxRecDepth 20000 in
theorem eX11_costOf (N : Nat)  (a0 : Nat) (p1 : Int32) (u : SG) (h_u : HK [(some a0, 12)] u) : fX11_costOf N  a0 p1 u = hX11_costOf N  a0 p1 u := by
  unfold fX11_costOf hX11_costOf
  refine eq_g (show zK u a0 = 12 from (h_u.g 0 rfl)) ?_
  refine eq_bR (show zR u a0 20 = some (a0 + 10) from lyR_12_20 h_u.1 (h_u.g 0 rfl)) ?_
  refine eq_g (show zK u (a0 + 10) = 22 from (lyK_12_20 h_u.1 (h_u.g 0 rfl))) ?_
  refine eq_ixh (show zN u (a0 + 10) = 144 from lyN_12_20 h_u.1 (h_u.g 0 rfl)) (fun hix1 => ?_)
  rfl
set_option maxRecDepth 20000 in
def hgX11_costIn_4 (N : Nat)   : Nat → Nat → Int32 → Int32 → Int32 → SG → Option (Int32 × SG)
  | 0, _, _, _, _, _ => none
  | n + 1, x0, x1, x2, x3, u => if (zI u (x0 + 10) 3) ≤ x3 then (some (x2, u))
  else (cl (hX11_burnsIn N x0 x3 x1 u) fun r2 u3 => (if r2 = 0 then (bs (x2 + (0 : Int32)) fun v4 => ((hgX11_costIn_4 N   n) x0 x1 v4 (x3 + (1 : Int32)) u3))
  else (cl (hX11_costOf N x0 x3 u3) fun r5 u6 => (bs (x2 + r5) fun v7 => ((hgX11_costIn_4 N   n) x0 x1 v7 (x3 + (1 : Int32)) u6)))))
set_option maxRecDepth 20000 in
theorem egX11_costIn_4 (N : Nat)   : ∀ (n : Nat) (x0 : Nat) (x1 : Int32) (x2 : Int32) (x3 : Int32) (u : SG), HK [(some x0, 12)] u → gX11_costIn_4 N   n x0 x1 x2 x3 u = hgX11_costIn_4 N   n x0 x1 x2 x3 u := by
  intro n
  induction n with
  | zero => intros; rfl
  | succ n ih =>
    intro x0 x1 x2 x3 u h_u
    have hrc4 := ih
    rw [gX11_costIn_4, hgX11_costIn_4]
    refine eq_g (show zK u x0 = 12 from (h_u.g 0 rfl)) ?_
    refine eq_bR (show zR u x0 20 = some (x0 + 10) from lyR_12_20 h_u.1 (h_u.g 0 rfl)) ?_
    refine eq_g (show zK u (x0 + 10) = 22 from (lyK_12_20 h_u.1 (h_u.g 0 rfl))) ?_
    refine eq_n (by rw [show zN u (x0 + 10) = 144 from lyN_12_20 h_u.1 (h_u.g 0 rfl)]; decide) ?_
    refine eq_if ?_ ?_
    · rfl
    · refine eq_g (show zK u x0 = 12 from (h_u.g 0 rfl)) ?_
      refine eq_cH (eX11_burnsIn N x0 x3 x1 u (hkc (show zK u x0 = 12 from (h_u.g 0 rfl)) (hk0 h_u.1))) (fun r2 u3 e9 => h_u.fr (fr_X11_burnsIn (P := PT) N x0 x3 x1 u clPT trivial _ _ e9).1) (fun r2 u3 h_u3 => ?_)
      refine eq_if ?_ ?_
      · refine eq_bs (fun v4 => ?_)
        exact hrc4 x0 x1 v4 (x3 + (1 : Int32)) u3 (hkc (show zK u3 x0 = 12 from (h_u3.g 0 rfl)) (hk0 h_u3.1))
      · refine eq_g (show zK u3 x0 = 12 from (h_u3.g 0 rfl)) ?_
        refine eq_cH (eX11_costOf N x0 x3 u3 (hkc (show zK u3 x0 = 12 from (h_u3.g 0 rfl)) (hk0 h_u3.1))) (fun r5 u6 e9 => h_u3.fr (fr_X11_costOf (P := PT) N x0 x3 u3 clPT trivial _ _ e9).1) (fun r5 u6 h_u6 => ?_)
        refine eq_bs (fun v7 => ?_)
        exact hrc4 x0 x1 v7 (x3 + (1 : Int32)) u6 (hkc (show zK u6 x0 = 12 from (h_u6.g 0 rfl)) (hk0 h_u6.1))
set_option maxRecDepth 20000 in
def hX11_costIn (N : Nat)  (a0 : Nat) (p1 : Int32) (u : SG) : Option (Int32 × SG) := hgX11_costIn_4 N   N a0 p1 (0 : Int32) (0 : Int32) u
set_option maxRecDepth 20000 in
theorem eX11_costIn (N : Nat)  (a0 : Nat) (p1 : Int32) (u : SG) (h_u : HK [(some a0, 12)] u) : fX11_costIn N  a0 p1 u = hX11_costIn N  a0 p1 u := by
  unfold fX11_costIn hX11_costIn
  exact egX11_costIn_4 N   N a0 p1 (0 : Int32) (0 : Int32) u (hkc (show zK u a0 = 12 from (h_u.g 0 rfl)) (hk0 h_u.1))
set_option maxRecDepth 20000 in
def hgX11_sleepers_4 (N : Nat)   : Nat → Nat → Int32 → Int32 → SG → Option (Int32 × SG)
  | 0, _, _, _, _ => none
  | n + 1, x0, x1, x2, u => if (zI u (x0 + 10) 1) ≤ x2 then (some (x1, u))
  else (cl (hX11_personOf N x0 x2 (2 : Int32) u) fun r2 u3 => (if r2 = (1 : Int32) then (bs (x1 ||| ((1 : Int32) <<< (x2 &&& 31))) fun v5 => ((hgX11_sleepers_4 N   n) x0 v5 (x2 + (1 : Int32)) u3))
  else (bs (x1 ||| (0 : Int32)) fun v4 => ((hgX11_sleepers_4 N   n) x0 v4 (x2 + (1 : Int32)) u3))))
set_option maxRecDepth 20000 in
theorem egX11_sleepers_4 (N : Nat)   : ∀ (n : Nat) (x0 : Nat) (x1 : Int32) (x2 : Int32) (u : SG), HK [(some x0, 12)] u → gX11_sleepers_4 N   n x0 x1 x2 u = hgX11_sleepers_4 N   n x0 x1 x2 u := by
  intro n
  induction n with
  | zero => intros; rfl
  | succ n ih =>
    intro x0 x1 x2 u h_u
    have hrc4 := ih
    rw [gX11_sleepers_4, hgX11_sleepers_4]
    refine eq_g (show zK u x0 = 12 from (h_u.g 0 rfl)) ?_
    refine eq_bR (show zR u x0 20 = some (x0 + 10) from lyR_12_20 h_u.1 (h_u.g 0 rfl)) ?_
    refine eq_g (show zK u (x0 + 10) = 22 from (lyK_12_20 h_u.1 (h_u.g 0 rfl))) ?_
    refine eq_n (by rw [show zN u (x0 + 10) = 144 from lyN_12_20 h_u.1 (h_u.g 0 rfl)]; decide) ?_
    refine eq_if ?_ ?_
    · rfl
    · refine eq_g (show zK u x0 = 12 from (h_u.g 0 rfl)) ?_
      refine eq_cH (eX11_personOf N x0 x2 (2 : Int32) u (hkc (show zK u x0 = 12 from (h_u.g 0 rfl)) (hk0 h_u.1))) (fun r2 u3 e9 => h_u.fr (fr_X11_personOf (P := PT) N x0 x2 (2 : Int32) u clPT trivial _ _ e9).1) (fun r2 u3 h_u3 => ?_)
      refine eq_if ?_ ?_
      · refine eq_bs (fun v5 => ?_)
        exact hrc4 x0 v5 (x2 + (1 : Int32)) u3 (hkc (show zK u3 x0 = 12 from (h_u3.g 0 rfl)) (hk0 h_u3.1))
      · refine eq_bs (fun v4 => ?_)
        exact hrc4 x0 v4 (x2 + (1 : Int32)) u3 (hkc (show zK u3 x0 = 12 from (h_u3.g 0 rfl)) (hk0 h_u3.1))
set_option maxRecDepth 20000 in
def hX11_sleepers (N : Nat)  (a0 : Nat) (u : SG) : Option (Int32 × SG) := hgX11_sleepers_4 N   N a0 (0 : Int32) (0 : Int32) u
set_option maxRecDepth 20000 in
theorem eX11_sleepers (N : Nat)  (a0 : Nat) (u : SG) (h_u : HK [(some a0, 12)] u) : fX11_sleepers N  a0 u = hX11_sleepers N  a0 u := by
  unfold fX11_sleepers hX11_sleepers
  exact egX11_sleepers_4 N   N a0 (0 : Int32) (0 : Int32) u (hkc (show zK u a0 = 12 from (h_u.g 0 rfl)) (hk0 h_u.1))
set_option maxRecDepth 20000 in
def hgX11_burning_4 (N : Nat)   : Nat → Nat → Int32 → Int32 → SG → Option (Int32 × SG)
  | 0, _, _, _, _ => none
  | n + 1, x0, x1, x2, u => if (zI u (x0 + 10) 3) ≤ x2 then (some (x1, u))
  else (cl (hX11_burnsIn N x0 x2 (zI u (x0 + 10) 5) u) fun r3 u4 => (if r3 = 0 then (bs (x1 ||| (0 : Int32)) fun v5 => ((hgX11_burning_4 N   n) x0 v5 (x2 + (1 : Int32)) u4))
  else (bs (x1 ||| ((1 : Int32) <<< (x2 &&& 31))) fun v6 => ((hgX11_burning_4 N   n) x0 v6 (x2 + (1 : Int32)) u4))))
set_option maxRecDepth 20000 in
theorem egX11_burning_4 (N : Nat)   : ∀ (n : Nat) (x0 : Nat) (x1 : Int32) (x2 : Int32) (u : SG), HK [(some x0, 12)] u → gX11_burning_4 N   n x0 x1 x2 u = hgX11_burning_4 N   n x0 x1 x2 u := by
  intro n
  induction n with
  | zero => intros; rfl
  | succ n ih =>
    intro x0 x1 x2 u h_u
    have hrc4 := ih
    rw [gX11_burning_4, hgX11_burning_4]
    refine eq_g (show zK u x0 = 12 from (h_u.g 0 rfl)) ?_
    refine eq_bR (show zR u x0 20 = some (x0 + 10) from lyR_12_20 h_u.1 (h_u.g 0 rfl)) ?_
    refine eq_g (show zK u (x0 + 10) = 22 from (lyK_12_20 h_u.1 (h_u.g 0 rfl))) ?_
    refine eq_n (by rw [show zN u (x0 + 10) = 144 from lyN_12_20 h_u.1 (h_u.g 0 rfl)]; decide) ?_
    refine eq_if ?_ ?_
    · rfl
    · refine eq_g (show zK u x0 = 12 from (h_u.g 0 rfl)) ?_
      refine eq_bR (show zR u x0 20 = some (x0 + 10) from lyR_12_20 h_u.1 (h_u.g 0 rfl)) ?_
      refine eq_g (show zK u (x0 + 10) = 22 from (lyK_12_20 h_u.1 (h_u.g 0 rfl))) ?_
      refine eq_n (by rw [show zN u (x0 + 10) = 144 from lyN_12_20 h_u.1 (h_u.g 0 rfl)]; decide) ?_
      refine eq_g (show zK u x0 = 12 from (h_u.g 0 rfl)) ?_
      refine eq_cH (eX11_burnsIn N x0 x2 (zI u (x0 + 10) 5) u (hkc (show zK u x0 = 12 from (h_u.g 0 rfl)) (hk0 h_u.1))) (fun r3 u4 e9 => h_u.fr (fr_X11_burnsIn (P := PT) N x0 x2 (zI u (x0 + 10) 5) u clPT trivial _ _ e9).1) (fun r3 u4 h_u4 => ?_)
      refine eq_if ?_ ?_
      · refine eq_bs (fun v5 => ?_)
        exact hrc4 x0 v5 (x2 + (1 : Int32)) u4 (hkc (show zK u4 x0 = 12 from (h_u4.g 0 rfl)) (hk0 h_u4.1))
      · refine eq_bs (fun v6 => ?_)
        exact hrc4 x0 v6 (x2 + (1 : Int32)) u4 (hkc (show zK u4 x0 = 12 from (h_u4.g 0 rfl)) (hk0 h_u4.1))
set_option maxRecDepth 20000 in
def hX11_burning (N : Nat)  (a0 : Nat) (u : SG) : Option (Int32 × SG) := hgX11_burning_4 N   N a0 (0 : Int32) (0 : Int32) u
set_option maxRecDepth 20000 in
theorem eX11_burning (N : Nat)  (a0 : Nat) (u : SG) (h_u : HK [(some a0, 12)] u) : fX11_burning N  a0 u = hX11_burning N  a0 u := by
  unfold fX11_burning hX11_burning
  exact egX11_burning_4 N   N a0 (0 : Int32) (0 : Int32) u (hkc (show zK u a0 = 12 from (h_u.g 0 rfl)) (hk0 h_u.1))
set_option maxRecDepth 20000 in
def hgX11_idle_4 (N : Nat)   : Nat → Nat → Int32 → Int32 → SG → Option (Int32 × SG)
  | 0, _, _, _, _ => none
  | n + 1, x0, x1, x2, u => if (zI u (x0 + 10) 1) ≤ x2 then (some (x1, u))
  else (cl (hX11_worksIn N x0 x2 (zI u (x0 + 10) 5) u) fun r3 u4 => (if r3 = 0 then (bs (x1 ||| ((1 : Int32) <<< (x2 &&& 31))) fun v5 => ((hgX11_idle_4 N   n) x0 v5 (x2 + (1 : Int32)) u4))
  else (bs (x1 ||| (0 : Int32)) fun v6 => ((hgX11_idle_4 N   n) x0 v6 (x2 + (1 : Int32)) u4))))
set_option maxRecDepth 20000 in
theorem egX11_idle_4 (N : Nat)   : ∀ (n : Nat) (x0 : Nat) (x1 : Int32) (x2 : Int32) (u : SG), HK [(some x0, 12)] u → gX11_idle_4 N   n x0 x1 x2 u = hgX11_idle_4 N   n x0 x1 x2 u := by
  intro n
  induction n with
  | zero => intros; rfl
  | succ n ih =>
    intro x0 x1 x2 u h_u
    have hrc4 := ih
    rw [gX11_idle_4, hgX11_idle_4]
    refine eq_g (show zK u x0 = 12 from (h_u.g 0 rfl)) ?_
    refine eq_bR (show zR u x0 20 = some (x0 + 10) from lyR_12_20 h_u.1 (h_u.g 0 rfl)) ?_
    refine eq_g (show zK u (x0 + 10) = 22 from (lyK_12_20 h_u.1 (h_u.g 0 rfl))) ?_
    refine eq_n (by rw [show zN u (x0 + 10) = 144 from lyN_12_20 h_u.1 (h_u.g 0 rfl)]; decide) ?_
    refine eq_if ?_ ?_
    · rfl
    · refine eq_g (show zK u x0 = 12 from (h_u.g 0 rfl)) ?_
      refine eq_bR (show zR u x0 20 = some (x0 + 10) from lyR_12_20 h_u.1 (h_u.g 0 rfl)) ?_
      refine eq_g (show zK u (x0 + 10) = 22 from (lyK_12_20 h_u.1 (h_u.g 0 rfl))) ?_
      refine eq_n (by rw [show zN u (x0 + 10) = 144 from lyN_12_20 h_u.1 (h_u.g 0 rfl)]; decide) ?_
      refine eq_g (show zK u x0 = 12 from (h_u.g 0 rfl)) ?_
      refine eq_cH (eX11_worksIn N x0 x2 (zI u (x0 + 10) 5) u (hkc (show zK u x0 = 12 from (h_u.g 0 rfl)) (hk0 h_u.1))) (fun r3 u4 e9 => h_u.fr (fr_X11_worksIn (P := PT) N x0 x2 (zI u (x0 + 10) 5) u clPT trivial _ _ e9).1) (fun r3 u4 h_u4 => ?_)
      refine eq_if ?_ ?_
      · refine eq_bs (fun v5 => ?_)
        exact hrc4 x0 v5 (x2 + (1 : Int32)) u4 (hkc (show zK u4 x0 = 12 from (h_u4.g 0 rfl)) (hk0 h_u4.1))
      · refine eq_bs (fun v6 => ?_)
        exact hrc4 x0 v6 (x2 + (1 : Int32)) u4 (hkc (show zK u4 x0 = 12 from (h_u4.g 0 rfl)) (hk0 h_u4.1))
set_option maxRecDepth 20000 in
def hX11_idle (N : Nat)  (a0 : Nat) (u : SG) : Option (Int32 × SG) := hgX11_idle_4 N   N a0 (0 : Int32) (0 : Int32) u
set_option maxRecDepth 20000 in
theorem eX11_idle (N : Nat)  (a0 : Nat) (u : SG) (h_u : HK [(some a0, 12)] u) : fX11_idle N  a0 u = hX11_idle N  a0 u := by
  unfold fX11_idle hX11_idle
  exact egX11_idle_4 N   N a0 (0 : Int32) (0 : Int32) u (hkc (show zK u a0 = 12 from (h_u.g 0 rfl)) (hk0 h_u.1))
set_option maxRecDepth 20000 in
def hX11_force (N : Nat)  (a0 : Nat) (p1 : Int32) (u : SG) : Option (Int32 × SG) := if p1 = (-1 : Int32) then (bs (zI u a0 21) fun v1 => (bs (sI u a0 21 p1) fun u2 => (some (v1, u2))))
  else (cl (hX11_isRule N a0 p1 u) fun r3 u4 => (if r3 = 0 then (some ((-2 : Int32), u4))
  else (bs (zI u4 a0 21) fun v5 => (bs (sI u4 a0 21 p1) fun u6 => (some (v5, u6))))))
set_option maxRecDepth 20000 in
theorem eX11_force (N : Nat)  (a0 : Nat) (p1 : Int32) (u : SG) (h_u : HK [(some a0, 12)] u) : fX11_force N  a0 p1 u = hX11_force N  a0 p1 u := by
  unfold fX11_force hX11_force
  refine eq_if ?_ ?_
  · refine eq_g (show zK u a0 = 12 from (h_u.g 0 rfl)) ?_
    refine eq_bs (fun v1 => ?_)
    refine eq_g (show zK u a0 = 12 from (h_u.g 0 rfl)) ?_
    refine eq_sH (h_u.fr (P := PT) (Fr.sIr trivial)) (fun u2 h_u2 => ?_)
    rfl
  · refine eq_g (show zK u a0 = 12 from (h_u.g 0 rfl)) ?_
    refine eq_cH (eX11_isRule N a0 p1 u (hkc (show zK u a0 = 12 from (h_u.g 0 rfl)) (hk0 h_u.1))) (fun r3 u4 e9 => h_u.fr (fr_X11_isRule (P := PT) N a0 p1 u clPT trivial _ _ e9).1) (fun r3 u4 h_u4 => ?_)
    refine eq_if ?_ ?_
    · rfl
    · refine eq_g (show zK u4 a0 = 12 from (h_u4.g 0 rfl)) ?_
      refine eq_bs (fun v5 => ?_)
      refine eq_g (show zK u4 a0 = 12 from (h_u4.g 0 rfl)) ?_
      refine eq_sH (h_u4.fr (P := PT) (Fr.sIr trivial)) (fun u6 h_u6 => ?_)
      rfl
set_option maxRecDepth 20000 in
def hX11_person (N : Nat)  (a0 : Nat) (p1 : Int32) (p2 : Int32) (u : SG) : Option (Int32 × SG) := cl (hX11_isPerson N a0 p1 u) fun r1 u2 => (if r1 = 0 then (some ((-1 : Int32), u2))
  else (cl (fX11_in N p2.toInt64 (0 : Int64) (5 : Int64) u2) fun r3 u4 => (if r3 = 0 then (some ((-1 : Int32), u4))
  else (if (5 : Int32) ≤ p2 then (cl (hX11_worksIn N a0 p1 (zI u4 (a0 + 10) 5) u4) fun r6 u7 => (if r6 = 0 then (some ((0 : Int32), u7))
  else (some ((1 : Int32), u7))))
  else (cl (hX11_personOf N a0 p1 p2 u4) fun r8 u9 => (some (r8, u9)))))))
set_option maxRecDepth 20000 in
theorem eX11_person (N : Nat)  (a0 : Nat) (p1 : Int32) (p2 : Int32) (u : SG) (h_u : HK [(some a0, 12)] u) : fX11_person N  a0 p1 p2 u = hX11_person N  a0 p1 p2 u := by
  unfold fX11_person hX11_person
  refine eq_g (show zK u a0 = 12 from (h_u.g 0 rfl)) ?_
  refine eq_cH (eX11_isPerson N a0 p1 u (hkc (show zK u a0 = 12 from (h_u.g 0 rfl)) (hk0 h_u.1))) (fun r1 u2 e9 => h_u.fr (fr_X11_isPerson (P := PT) N a0 p1 u clPT trivial _ _ e9).1) (fun r1 u2 h_u2 => ?_)
  refine eq_if ?_ ?_
  · rfl
  · refine eq_cH rfl (fun r3 u4 e9 => h_u2.fr (fr_X11_in (P := PT) N p2.toInt64 (0 : Int64) (5 : Int64) u2 clPT _ _ e9).1) (fun r3 u4 h_u4 => ?_)
    refine eq_if ?_ ?_
    · rfl
    · refine eq_if ?_ ?_
      · refine eq_g (show zK u4 a0 = 12 from (h_u4.g 0 rfl)) ?_
        refine eq_bR (show zR u4 a0 20 = some (a0 + 10) from lyR_12_20 h_u4.1 (h_u4.g 0 rfl)) ?_
        refine eq_g (show zK u4 (a0 + 10) = 22 from (lyK_12_20 h_u4.1 (h_u4.g 0 rfl))) ?_
        refine eq_n (by rw [show zN u4 (a0 + 10) = 144 from lyN_12_20 h_u4.1 (h_u4.g 0 rfl)]; decide) ?_
        refine eq_g (show zK u4 a0 = 12 from (h_u4.g 0 rfl)) ?_
        refine eq_cH (eX11_worksIn N a0 p1 (zI u4 (a0 + 10) 5) u4 (hkc (show zK u4 a0 = 12 from (h_u4.g 0 rfl)) (hk0 h_u4.1))) (fun r6 u7 e9 => h_u4.fr (fr_X11_worksIn (P := PT) N a0 p1 (zI u4 (a0 + 10) 5) u4 clPT trivial _ _ e9).1) (fun r6 u7 h_u7 => ?_)
        refine eq_if ?_ ?_
        · rfl
        · rfl
      · refine eq_g (show zK u4 a0 = 12 from (h_u4.g 0 rfl)) ?_
        refine eq_cH (eX11_personOf N a0 p1 p2 u4 (hkc (show zK u4 a0 = 12 from (h_u4.g 0 rfl)) (hk0 h_u4.1))) (fun r8 u9 e9 => h_u4.fr (fr_X11_personOf (P := PT) N a0 p1 p2 u4 clPT trivial _ _ e9).1) (fun r8 u9 h_u9 => ?_)
        rfl
set_option maxRecDepth 20000 in
def hX11_lamp (N : Nat)  (a0 : Nat) (p1 : Int32) (p2 : Int32) (u : SG) : Option (Int32 × SG) := cl (hX11_isLamp N a0 p1 u) fun r1 u2 => (if r1 = 0 then (some ((-1 : Int32), u2))
  else (cl (fX11_in N p2.toInt64 (0 : Int64) (2 : Int64) u2) fun r3 u4 => (if r3 = 0 then (some ((-1 : Int32), u4))
  else (if (2 : Int32) ≤ p2 then (cl (hX11_burnsIn N a0 p1 (zI u4 (a0 + 10) 5) u4) fun r6 u7 => (if r6 = 0 then (some ((0 : Int32), u7))
  else (some ((1 : Int32), u7))))
  else (if (((69 : Int32) + ((2 : Int32) * p1)) + p2) < 0 ∨ 144 ≤ (((69 : Int32) + ((2 : Int32) * p1)) + p2).toNatClampNeg then none else (some (zI u4 (a0 + 10) (((69 : Int32) + ((2 : Int32) * p1)) + p2).toNatClampNeg, u4)))))))
set_option maxRecDepth 20000 in
theorem eX11_lamp (N : Nat)  (a0 : Nat) (p1 : Int32) (p2 : Int32) (u : SG) (h_u : HK [(some a0, 12)] u) : fX11_lamp N  a0 p1 p2 u = hX11_lamp N  a0 p1 p2 u := by
  unfold fX11_lamp hX11_lamp
  refine eq_g (show zK u a0 = 12 from (h_u.g 0 rfl)) ?_
  refine eq_cH (eX11_isLamp N a0 p1 u (hkc (show zK u a0 = 12 from (h_u.g 0 rfl)) (hk0 h_u.1))) (fun r1 u2 e9 => h_u.fr (fr_X11_isLamp (P := PT) N a0 p1 u clPT trivial _ _ e9).1) (fun r1 u2 h_u2 => ?_)
  refine eq_if ?_ ?_
  · rfl
  · refine eq_cH rfl (fun r3 u4 e9 => h_u2.fr (fr_X11_in (P := PT) N p2.toInt64 (0 : Int64) (2 : Int64) u2 clPT _ _ e9).1) (fun r3 u4 h_u4 => ?_)
    refine eq_if ?_ ?_
    · rfl
    · refine eq_if ?_ ?_
      · refine eq_g (show zK u4 a0 = 12 from (h_u4.g 0 rfl)) ?_
        refine eq_bR (show zR u4 a0 20 = some (a0 + 10) from lyR_12_20 h_u4.1 (h_u4.g 0 rfl)) ?_
        refine eq_g (show zK u4 (a0 + 10) = 22 from (lyK_12_20 h_u4.1 (h_u4.g 0 rfl))) ?_
        refine eq_n (by rw [show zN u4 (a0 + 10) = 144 from lyN_12_20 h_u4.1 (h_u4.g 0 rfl)]; decide) ?_
        refine eq_g (show zK u4 a0 = 12 from (h_u4.g 0 rfl)) ?_
        refine eq_cH (eX11_burnsIn N a0 p1 (zI u4 (a0 + 10) 5) u4 (hkc (show zK u4 a0 = 12 from (h_u4.g 0 rfl)) (hk0 h_u4.1))) (fun r6 u7 e9 => h_u4.fr (fr_X11_burnsIn (P := PT) N a0 p1 (zI u4 (a0 + 10) 5) u4 clPT trivial _ _ e9).1) (fun r6 u7 h_u7 => ?_)
        refine eq_if ?_ ?_
        · rfl
        · rfl
      · refine eq_g (show zK u4 a0 = 12 from (h_u4.g 0 rfl)) ?_
        refine eq_bR (show zR u4 a0 20 = some (a0 + 10) from lyR_12_20 h_u4.1 (h_u4.g 0 rfl)) ?_
        refine eq_g (show zK u4 (a0 + 10) = 22 from (lyK_12_20 h_u4.1 (h_u4.g 0 rfl))) ?_
        refine eq_ixh (show zN u4 (a0 + 10) = 144 from lyN_12_20 h_u4.1 (h_u4.g 0 rfl)) (fun hix1 => ?_)
        rfl
set_option maxRecDepth 20000 in
def hgX11_ownCost_4 (N : Nat)   : Nat → Nat → Int32 → Int32 → Int32 → SG → Option (Int32 × SG)
  | 0, _, _, _, _, _ => none
  | n + 1, x0, x1, x2, x3, u => if (zI u (x0 + 10) 3) ≤ x3 then (some (x2, u))
  else (if ((69 : Int32) + ((2 : Int32) * x3)) < 0 ∨ 144 ≤ ((69 : Int32) + ((2 : Int32) * x3)).toNatClampNeg then none else (if (zI u (x0 + 10) ((69 : Int32) + ((2 : Int32) * x3)).toNatClampNeg) = x1 then (cl (hX11_burnsIn N x0 x3 (zI u (x0 + 10) 5) u) fun r5 u6 => (if r5 = 0 then (bs (x2 + (0 : Int32)) fun v7 => ((hgX11_ownCost_4 N   n) x0 x1 v7 (x3 + (1 : Int32)) u6))
  else (cl (hX11_costOf N x0 x3 u6) fun r8 u9 => (bs (x2 + r8) fun v10 => ((hgX11_ownCost_4 N   n) x0 x1 v10 (x3 + (1 : Int32)) u9)))))
  else (bs (x2 + (0 : Int32)) fun v3 => ((hgX11_ownCost_4 N   n) x0 x1 v3 (x3 + (1 : Int32)) u))))
set_option maxRecDepth 20000 in
theorem egX11_ownCost_4 (N : Nat)   : ∀ (n : Nat) (x0 : Nat) (x1 : Int32) (x2 : Int32) (x3 : Int32) (u : SG), HK [(some x0, 12)] u → gX11_ownCost_4 N   n x0 x1 x2 x3 u = hgX11_ownCost_4 N   n x0 x1 x2 x3 u := by
  intro n
  induction n with
  | zero => intros; rfl
  | succ n ih =>
    intro x0 x1 x2 x3 u h_u
    have hrc4 := ih
    rw [gX11_ownCost_4, hgX11_ownCost_4]
    refine eq_g (show zK u x0 = 12 from (h_u.g 0 rfl)) ?_
    refine eq_bR (show zR u x0 20 = some (x0 + 10) from lyR_12_20 h_u.1 (h_u.g 0 rfl)) ?_
    refine eq_g (show zK u (x0 + 10) = 22 from (lyK_12_20 h_u.1 (h_u.g 0 rfl))) ?_
    refine eq_n (by rw [show zN u (x0 + 10) = 144 from lyN_12_20 h_u.1 (h_u.g 0 rfl)]; decide) ?_
    refine eq_if ?_ ?_
    · rfl
    · refine eq_g (show zK u x0 = 12 from (h_u.g 0 rfl)) ?_
      refine eq_bR (show zR u x0 20 = some (x0 + 10) from lyR_12_20 h_u.1 (h_u.g 0 rfl)) ?_
      refine eq_g (show zK u (x0 + 10) = 22 from (lyK_12_20 h_u.1 (h_u.g 0 rfl))) ?_
      refine eq_ixh (show zN u (x0 + 10) = 144 from lyN_12_20 h_u.1 (h_u.g 0 rfl)) (fun hix1 => ?_)
      refine eq_if ?_ ?_
      · refine eq_g (show zK u x0 = 12 from (h_u.g 0 rfl)) ?_
        refine eq_bR (show zR u x0 20 = some (x0 + 10) from lyR_12_20 h_u.1 (h_u.g 0 rfl)) ?_
        refine eq_g (show zK u (x0 + 10) = 22 from (lyK_12_20 h_u.1 (h_u.g 0 rfl))) ?_
        refine eq_n (by rw [show zN u (x0 + 10) = 144 from lyN_12_20 h_u.1 (h_u.g 0 rfl)]; decide) ?_
        refine eq_g (show zK u x0 = 12 from (h_u.g 0 rfl)) ?_
        refine eq_cH (eX11_burnsIn N x0 x3 (zI u (x0 + 10) 5) u (hkc (show zK u x0 = 12 from (h_u.g 0 rfl)) (hk0 h_u.1))) (fun r5 u6 e9 => h_u.fr (fr_X11_burnsIn (P := PT) N x0 x3 (zI u (x0 + 10) 5) u clPT trivial _ _ e9).1) (fun r5 u6 h_u6 => ?_)
        refine eq_if ?_ ?_
        · refine eq_bs (fun v7 => ?_)
          exact hrc4 x0 x1 v7 (x3 + (1 : Int32)) u6 (hkc (show zK u6 x0 = 12 from (h_u6.g 0 rfl)) (hk0 h_u6.1))
        · refine eq_g (show zK u6 x0 = 12 from (h_u6.g 0 rfl)) ?_
          refine eq_cH (eX11_costOf N x0 x3 u6 (hkc (show zK u6 x0 = 12 from (h_u6.g 0 rfl)) (hk0 h_u6.1))) (fun r8 u9 e9 => h_u6.fr (fr_X11_costOf (P := PT) N x0 x3 u6 clPT trivial _ _ e9).1) (fun r8 u9 h_u9 => ?_)
          refine eq_bs (fun v10 => ?_)
          exact hrc4 x0 x1 v10 (x3 + (1 : Int32)) u9 (hkc (show zK u9 x0 = 12 from (h_u9.g 0 rfl)) (hk0 h_u9.1))
      · refine eq_bs (fun v3 => ?_)
        exact hrc4 x0 x1 v3 (x3 + (1 : Int32)) u (hkc (show zK u x0 = 12 from (h_u.g 0 rfl)) (hk0 h_u.1))
set_option maxRecDepth 20000 in
def hX11_ownCost (N : Nat)  (a0 : Nat) (p1 : Int32) (u : SG) : Option (Int32 × SG) := hgX11_ownCost_4 N   N a0 p1 (0 : Int32) (0 : Int32) u
set_option maxRecDepth 20000 in
theorem eX11_ownCost (N : Nat)  (a0 : Nat) (p1 : Int32) (u : SG) (h_u : HK [(some a0, 12)] u) : fX11_ownCost N  a0 p1 u = hX11_ownCost N  a0 p1 u := by
  unfold fX11_ownCost hX11_ownCost
  exact egX11_ownCost_4 N   N a0 p1 (0 : Int32) (0 : Int32) u (hkc (show zK u a0 = 12 from (h_u.g 0 rfl)) (hk0 h_u.1))
set_option maxRecDepth 20000 in
def hX11_words (N : Nat)  (a0 : Nat) (p1 : Int32) (u : SG) : Option (Unit × SG) := bs (sL u (a0 + 9) 0 p1.toInt64) fun u2 => (bs (sL u2 (a0 + 9) 1 ((zI u2 (a0 + 10) 5).toInt64)) fun u5 => (bs (sL u5 (a0 + 9) 2 ((zI u5 (a0 + 10) 6).toInt64)) fun u8 => (cl (hX11_personOf N a0 p1 (0 : Int32) u8) fun r10 u11 => (bs (sL u11 (a0 + 9) 3 r10.toInt64) fun u12 => (cl (hX11_personOf N a0 p1 (1 : Int32) u12) fun r14 u15 => (bs (sL u15 (a0 + 9) 4 r14.toInt64) fun u16 => (cl (hX11_personOf N a0 p1 (3 : Int32) u16) fun r18 u19 => (bs (sL u19 (a0 + 9) 5 r18.toInt64) fun u20 => (bs (sL u20 (a0 + 9) 6 (((zI u20 (a0 + 10) 0) - (zI u20 (a0 + 10) 5)).toInt64)) fun u24 => (cl (hX11_costIn N a0 (zI u24 (a0 + 10) 5) u24) fun r27 u28 => (bs (sL u28 (a0 + 9) 7 r27.toInt64) fun u29 => (cl (hX11_sleepers N a0 u29) fun r31 u32 => (cl (fX11_bits N (r31 &&& (((1 : Int32) <<< (p1 &&& 31)) ^^^ (-1 : Int32))) u32) fun r33 u34 => (bs (sL u34 (a0 + 9) 8 r33.toInt64) fun u35 => (cl (hX11_personOf N a0 p1 (2 : Int32) u35) fun r37 u38 => (bs (sL u38 (a0 + 9) 9 r37.toInt64) fun u39 => (cl (hX11_personOf N a0 p1 (5 : Int32) u39) fun r41 u42 => (if (60 : Int32) = 0 then (none)
  else (bs (sL u42 (a0 + 9) 10 ((r41 / (60 : Int32)).toInt64)) fun u43 => (cl (hX11_personOf N a0 p1 (4 : Int32) u43) fun r45 u46 => (bs (sL u46 (a0 + 9) 11 r45.toInt64) fun u47 => (cl (hX11_ownCost N a0 p1 u47) fun r49 u50 => (bs (sL u50 (a0 + 9) 12 r49.toInt64) fun u51 => (some ((), u51)))))))))))))))))))))))))
set_option maxRecDepth 20000 in
theorem eX11_words (N : Nat)  (a0 : Nat) (p1 : Int32) (u : SG) (h_u : HK [(some a0, 12)] u) : fX11_words N  a0 p1 u = hX11_words N  a0 p1 u := by
  unfold fX11_words hX11_words
  refine eq_g (show zK u a0 = 12 from (h_u.g 0 rfl)) ?_
  refine eq_bR (show zR u a0 19 = some (a0 + 9) from lyR_12_19 h_u.1 (h_u.g 0 rfl)) ?_
  refine eq_g (show zK u (a0 + 9) = 23 from (lyK_12_19 h_u.1 (h_u.g 0 rfl))) ?_
  refine eq_n (by rw [show zN u (a0 + 9) = 13 from lyN_12_19 h_u.1 (h_u.g 0 rfl)]; decide) ?_
  refine eq_sH (h_u.fr (P := PT) (Fr.sLr trivial)) (fun u2 h_u2 => ?_)
  refine eq_g (show zK u2 a0 = 12 from (h_u2.g 0 rfl)) ?_
  refine eq_bR (show zR u2 a0 19 = some (a0 + 9) from lyR_12_19 h_u2.1 (h_u2.g 0 rfl)) ?_
  refine eq_g (show zK u2 a0 = 12 from (h_u2.g 0 rfl)) ?_
  refine eq_bR (show zR u2 a0 20 = some (a0 + 10) from lyR_12_20 h_u2.1 (h_u2.g 0 rfl)) ?_
  refine eq_g (show zK u2 (a0 + 10) = 22 from (lyK_12_20 h_u2.1 (h_u2.g 0 rfl))) ?_
  refine eq_n (by rw [show zN u2 (a0 + 10) = 144 from lyN_12_20 h_u2.1 (h_u2.g 0 rfl)]; decide) ?_
  refine eq_g (show zK u2 (a0 + 9) = 23 from (lyK_12_19 h_u2.1 (h_u2.g 0 rfl))) ?_
  refine eq_n (by rw [show zN u2 (a0 + 9) = 13 from lyN_12_19 h_u2.1 (h_u2.g 0 rfl)]; decide) ?_
  refine eq_sH (h_u2.fr (P := PT) (Fr.sLr trivial)) (fun u5 h_u5 => ?_)
  refine eq_g (show zK u5 a0 = 12 from (h_u5.g 0 rfl)) ?_
  refine eq_bR (show zR u5 a0 19 = some (a0 + 9) from lyR_12_19 h_u5.1 (h_u5.g 0 rfl)) ?_
  refine eq_g (show zK u5 a0 = 12 from (h_u5.g 0 rfl)) ?_
  refine eq_bR (show zR u5 a0 20 = some (a0 + 10) from lyR_12_20 h_u5.1 (h_u5.g 0 rfl)) ?_
  refine eq_g (show zK u5 (a0 + 10) = 22 from (lyK_12_20 h_u5.1 (h_u5.g 0 rfl))) ?_
  refine eq_n (by rw [show zN u5 (a0 + 10) = 144 from lyN_12_20 h_u5.1 (h_u5.g 0 rfl)]; decide) ?_
  refine eq_g (show zK u5 (a0 + 9) = 23 from (lyK_12_19 h_u5.1 (h_u5.g 0 rfl))) ?_
  refine eq_n (by rw [show zN u5 (a0 + 9) = 13 from lyN_12_19 h_u5.1 (h_u5.g 0 rfl)]; decide) ?_
  refine eq_sH (h_u5.fr (P := PT) (Fr.sLr trivial)) (fun u8 h_u8 => ?_)
  refine eq_g (show zK u8 a0 = 12 from (h_u8.g 0 rfl)) ?_
  refine eq_bR (show zR u8 a0 19 = some (a0 + 9) from lyR_12_19 h_u8.1 (h_u8.g 0 rfl)) ?_
  refine eq_g (show zK u8 a0 = 12 from (h_u8.g 0 rfl)) ?_
  refine eq_cH (eX11_personOf N a0 p1 (0 : Int32) u8 (hkc (show zK u8 a0 = 12 from (h_u8.g 0 rfl)) (hk0 h_u8.1))) (fun r10 u11 e9 => h_u8.fr (fr_X11_personOf (P := PT) N a0 p1 (0 : Int32) u8 clPT trivial _ _ e9).1) (fun r10 u11 h_u11 => ?_)
  refine eq_g (show zK u11 (a0 + 9) = 23 from (lyK_12_19 h_u11.1 (h_u11.g 0 rfl))) ?_
  refine eq_n (by rw [show zN u11 (a0 + 9) = 13 from lyN_12_19 h_u11.1 (h_u11.g 0 rfl)]; decide) ?_
  refine eq_sH (h_u11.fr (P := PT) (Fr.sLr trivial)) (fun u12 h_u12 => ?_)
  refine eq_g (show zK u12 a0 = 12 from (h_u12.g 0 rfl)) ?_
  refine eq_bR (show zR u12 a0 19 = some (a0 + 9) from lyR_12_19 h_u12.1 (h_u12.g 0 rfl)) ?_
  refine eq_g (show zK u12 a0 = 12 from (h_u12.g 0 rfl)) ?_
  refine eq_cH (eX11_personOf N a0 p1 (1 : Int32) u12 (hkc (show zK u12 a0 = 12 from (h_u12.g 0 rfl)) (hk0 h_u12.1))) (fun r14 u15 e9 => h_u12.fr (fr_X11_personOf (P := PT) N a0 p1 (1 : Int32) u12 clPT trivial _ _ e9).1) (fun r14 u15 h_u15 => ?_)
  refine eq_g (show zK u15 (a0 + 9) = 23 from (lyK_12_19 h_u15.1 (h_u15.g 0 rfl))) ?_
  refine eq_n (by rw [show zN u15 (a0 + 9) = 13 from lyN_12_19 h_u15.1 (h_u15.g 0 rfl)]; decide) ?_
  refine eq_sH (h_u15.fr (P := PT) (Fr.sLr trivial)) (fun u16 h_u16 => ?_)
  refine eq_g (show zK u16 a0 = 12 from (h_u16.g 0 rfl)) ?_
  refine eq_bR (show zR u16 a0 19 = some (a0 + 9) from lyR_12_19 h_u16.1 (h_u16.g 0 rfl)) ?_
  refine eq_g (show zK u16 a0 = 12 from (h_u16.g 0 rfl)) ?_
  refine eq_cH (eX11_personOf N a0 p1 (3 : Int32) u16 (hkc (show zK u16 a0 = 12 from (h_u16.g 0 rfl)) (hk0 h_u16.1))) (fun r18 u19 e9 => h_u16.fr (fr_X11_personOf (P := PT) N a0 p1 (3 : Int32) u16 clPT trivial _ _ e9).1) (fun r18 u19 h_u19 => ?_)
  refine eq_g (show zK u19 (a0 + 9) = 23 from (lyK_12_19 h_u19.1 (h_u19.g 0 rfl))) ?_
  refine eq_n (by rw [show zN u19 (a0 + 9) = 13 from lyN_12_19 h_u19.1 (h_u19.g 0 rfl)]; decide) ?_
  refine eq_sH (h_u19.fr (P := PT) (Fr.sLr trivial)) (fun u20 h_u20 => ?_)
  refine eq_g (show zK u20 a0 = 12 from (h_u20.g 0 rfl)) ?_
  refine eq_bR (show zR u20 a0 19 = some (a0 + 9) from lyR_12_19 h_u20.1 (h_u20.g 0 rfl)) ?_
  refine eq_g (show zK u20 a0 = 12 from (h_u20.g 0 rfl)) ?_
  refine eq_bR (show zR u20 a0 20 = some (a0 + 10) from lyR_12_20 h_u20.1 (h_u20.g 0 rfl)) ?_
  refine eq_g (show zK u20 (a0 + 10) = 22 from (lyK_12_20 h_u20.1 (h_u20.g 0 rfl))) ?_
  refine eq_n (by rw [show zN u20 (a0 + 10) = 144 from lyN_12_20 h_u20.1 (h_u20.g 0 rfl)]; decide) ?_
  refine eq_g (show zK u20 a0 = 12 from (h_u20.g 0 rfl)) ?_
  refine eq_bR (show zR u20 a0 20 = some (a0 + 10) from lyR_12_20 h_u20.1 (h_u20.g 0 rfl)) ?_
  refine eq_g (show zK u20 (a0 + 10) = 22 from (lyK_12_20 h_u20.1 (h_u20.g 0 rfl))) ?_
  refine eq_n (by rw [show zN u20 (a0 + 10) = 144 from lyN_12_20 h_u20.1 (h_u20.g 0 rfl)]; decide) ?_
  refine eq_g (show zK u20 (a0 + 9) = 23 from (lyK_12_19 h_u20.1 (h_u20.g 0 rfl))) ?_
  refine eq_n (by rw [show zN u20 (a0 + 9) = 13 from lyN_12_19 h_u20.1 (h_u20.g 0 rfl)]; decide) ?_
  refine eq_sH (h_u20.fr (P := PT) (Fr.sLr trivial)) (fun u24 h_u24 => ?_)
  refine eq_g (show zK u24 a0 = 12 from (h_u24.g 0 rfl)) ?_
  refine eq_bR (show zR u24 a0 19 = some (a0 + 9) from lyR_12_19 h_u24.1 (h_u24.g 0 rfl)) ?_
  refine eq_g (show zK u24 a0 = 12 from (h_u24.g 0 rfl)) ?_
  refine eq_bR (show zR u24 a0 20 = some (a0 + 10) from lyR_12_20 h_u24.1 (h_u24.g 0 rfl)) ?_
  refine eq_g (show zK u24 (a0 + 10) = 22 from (lyK_12_20 h_u24.1 (h_u24.g 0 rfl))) ?_
  refine eq_n (by rw [show zN u24 (a0 + 10) = 144 from lyN_12_20 h_u24.1 (h_u24.g 0 rfl)]; decide) ?_
  refine eq_g (show zK u24 a0 = 12 from (h_u24.g 0 rfl)) ?_
  refine eq_cH (eX11_costIn N a0 (zI u24 (a0 + 10) 5) u24 (hkc (show zK u24 a0 = 12 from (h_u24.g 0 rfl)) (hk0 h_u24.1))) (fun r27 u28 e9 => h_u24.fr (fr_X11_costIn (P := PT) N a0 (zI u24 (a0 + 10) 5) u24 clPT trivial _ _ e9).1) (fun r27 u28 h_u28 => ?_)
  refine eq_g (show zK u28 (a0 + 9) = 23 from (lyK_12_19 h_u28.1 (h_u28.g 0 rfl))) ?_
  refine eq_n (by rw [show zN u28 (a0 + 9) = 13 from lyN_12_19 h_u28.1 (h_u28.g 0 rfl)]; decide) ?_
  refine eq_sH (h_u28.fr (P := PT) (Fr.sLr trivial)) (fun u29 h_u29 => ?_)
  refine eq_g (show zK u29 a0 = 12 from (h_u29.g 0 rfl)) ?_
  refine eq_bR (show zR u29 a0 19 = some (a0 + 9) from lyR_12_19 h_u29.1 (h_u29.g 0 rfl)) ?_
  refine eq_g (show zK u29 a0 = 12 from (h_u29.g 0 rfl)) ?_
  refine eq_cH (eX11_sleepers N a0 u29 (hkc (show zK u29 a0 = 12 from (h_u29.g 0 rfl)) (hk0 h_u29.1))) (fun r31 u32 e9 => h_u29.fr (fr_X11_sleepers (P := PT) N a0 u29 clPT trivial _ _ e9).1) (fun r31 u32 h_u32 => ?_)
  refine eq_cH rfl (fun r33 u34 e9 => h_u32.fr (fr_X11_bits (P := PT) N (r31 &&& (((1 : Int32) <<< (p1 &&& 31)) ^^^ (-1 : Int32))) u32 clPT _ _ e9).1) (fun r33 u34 h_u34 => ?_)
  refine eq_g (show zK u34 (a0 + 9) = 23 from (lyK_12_19 h_u34.1 (h_u34.g 0 rfl))) ?_
  refine eq_n (by rw [show zN u34 (a0 + 9) = 13 from lyN_12_19 h_u34.1 (h_u34.g 0 rfl)]; decide) ?_
  refine eq_sH (h_u34.fr (P := PT) (Fr.sLr trivial)) (fun u35 h_u35 => ?_)
  refine eq_g (show zK u35 a0 = 12 from (h_u35.g 0 rfl)) ?_
  refine eq_bR (show zR u35 a0 19 = some (a0 + 9) from lyR_12_19 h_u35.1 (h_u35.g 0 rfl)) ?_
  refine eq_g (show zK u35 a0 = 12 from (h_u35.g 0 rfl)) ?_
  refine eq_cH (eX11_personOf N a0 p1 (2 : Int32) u35 (hkc (show zK u35 a0 = 12 from (h_u35.g 0 rfl)) (hk0 h_u35.1))) (fun r37 u38 e9 => h_u35.fr (fr_X11_personOf (P := PT) N a0 p1 (2 : Int32) u35 clPT trivial _ _ e9).1) (fun r37 u38 h_u38 => ?_)
  refine eq_g (show zK u38 (a0 + 9) = 23 from (lyK_12_19 h_u38.1 (h_u38.g 0 rfl))) ?_
  refine eq_n (by rw [show zN u38 (a0 + 9) = 13 from lyN_12_19 h_u38.1 (h_u38.g 0 rfl)]; decide) ?_
  refine eq_sH (h_u38.fr (P := PT) (Fr.sLr trivial)) (fun u39 h_u39 => ?_)
  refine eq_g (show zK u39 a0 = 12 from (h_u39.g 0 rfl)) ?_
  refine eq_bR (show zR u39 a0 19 = some (a0 + 9) from lyR_12_19 h_u39.1 (h_u39.g 0 rfl)) ?_
  refine eq_g (show zK u39 a0 = 12 from (h_u39.g 0 rfl)) ?_
  refine eq_cH (eX11_personOf N a0 p1 (5 : Int32) u39 (hkc (show zK u39 a0 = 12 from (h_u39.g 0 rfl)) (hk0 h_u39.1))) (fun r41 u42 e9 => h_u39.fr (fr_X11_personOf (P := PT) N a0 p1 (5 : Int32) u39 clPT trivial _ _ e9).1) (fun r41 u42 h_u42 => ?_)
  refine eq_if ?_ ?_
  · rfl
  · refine eq_g (show zK u42 (a0 + 9) = 23 from (lyK_12_19 h_u42.1 (h_u42.g 0 rfl))) ?_
    refine eq_n (by rw [show zN u42 (a0 + 9) = 13 from lyN_12_19 h_u42.1 (h_u42.g 0 rfl)]; decide) ?_
    refine eq_sH (h_u42.fr (P := PT) (Fr.sLr trivial)) (fun u43 h_u43 => ?_)
    refine eq_g (show zK u43 a0 = 12 from (h_u43.g 0 rfl)) ?_
    refine eq_bR (show zR u43 a0 19 = some (a0 + 9) from lyR_12_19 h_u43.1 (h_u43.g 0 rfl)) ?_
    refine eq_g (show zK u43 a0 = 12 from (h_u43.g 0 rfl)) ?_
    refine eq_cH (eX11_personOf N a0 p1 (4 : Int32) u43 (hkc (show zK u43 a0 = 12 from (h_u43.g 0 rfl)) (hk0 h_u43.1))) (fun r45 u46 e9 => h_u43.fr (fr_X11_personOf (P := PT) N a0 p1 (4 : Int32) u43 clPT trivial _ _ e9).1) (fun r45 u46 h_u46 => ?_)
    refine eq_g (show zK u46 (a0 + 9) = 23 from (lyK_12_19 h_u46.1 (h_u46.g 0 rfl))) ?_
    refine eq_n (by rw [show zN u46 (a0 + 9) = 13 from lyN_12_19 h_u46.1 (h_u46.g 0 rfl)]; decide) ?_
    refine eq_sH (h_u46.fr (P := PT) (Fr.sLr trivial)) (fun u47 h_u47 => ?_)
    refine eq_g (show zK u47 a0 = 12 from (h_u47.g 0 rfl)) ?_
    refine eq_bR (show zR u47 a0 19 = some (a0 + 9) from lyR_12_19 h_u47.1 (h_u47.g 0 rfl)) ?_
    refine eq_g (show zK u47 a0 = 12 from (h_u47.g 0 rfl)) ?_
    refine eq_cH (eX11_ownCost N a0 p1 u47 (hkc (show zK u47 a0 = 12 from (h_u47.g 0 rfl)) (hk0 h_u47.1))) (fun r49 u50 e9 => h_u47.fr (fr_X11_ownCost (P := PT) N a0 p1 u47 clPT trivial _ _ e9).1) (fun r49 u50 h_u50 => ?_)
    refine eq_g (show zK u50 (a0 + 9) = 23 from (lyK_12_19 h_u50.1 (h_u50.g 0 rfl))) ?_
    refine eq_n (by rw [show zN u50 (a0 + 9) = 13 from lyN_12_19 h_u50.1 (h_u50.g 0 rfl)]; decide) ?_
    refine eq_sH (h_u50.fr (P := PT) (Fr.sLr trivial)) (fun u51 h_u51 => ?_)
    rfl
set_option maxRecDepth 20000 in
def hgX11_summedBy_58 (N : Nat)   (x0 : Nat) (x1 : Int32) (x3 : Int32) (u : SG) : Option (Int64 × SG) := if x3 < 0 ∨ 288 ≤ x3.toNatClampNeg then none else (if (x3 + (1 : Int32)) < 0 ∨ 288 ≤ (x3 + (1 : Int32)).toNatClampNeg then none else (cl (hX11_reckons N x0 x1 (zI u (x0 + 4) x3.toNatClampNeg) (zI u (x0 + 4) (x3 + (1 : Int32)).toNatClampNeg) u) fun r3 u4 => (some (r3, u4))))
set_option maxRecDepth 20000 in
theorem egX11_summedBy_58 (N : Nat)   (x0 : Nat) (x1 : Int32) (x3 : Int32) (u : SG) (h_u : HK [(some x0, 12)] u) : gX11_summedBy_58 N   x0 x1 x3 u = hgX11_summedBy_58 N   x0 x1 x3 u := by
  unfold gX11_summedBy_58 hgX11_summedBy_58
  refine eq_g (show zK u x0 = 12 from (h_u.g 0 rfl)) ?_
  refine eq_bR (show zR u x0 5 = some (x0 + 4) from lyR_12_5 h_u.1 (h_u.g 0 rfl)) ?_
  refine eq_g (show zK u (x0 + 4) = 22 from (lyK_12_5 h_u.1 (h_u.g 0 rfl))) ?_
  refine eq_ixh (show zN u (x0 + 4) = 288 from lyN_12_5 h_u.1 (h_u.g 0 rfl)) (fun hix1 => ?_)
  refine eq_g (show zK u x0 = 12 from (h_u.g 0 rfl)) ?_
  refine eq_bR (show zR u x0 5 = some (x0 + 4) from lyR_12_5 h_u.1 (h_u.g 0 rfl)) ?_
  refine eq_g (show zK u (x0 + 4) = 22 from (lyK_12_5 h_u.1 (h_u.g 0 rfl))) ?_
  refine eq_ixh (show zN u (x0 + 4) = 288 from lyN_12_5 h_u.1 (h_u.g 0 rfl)) (fun hix2 => ?_)
  refine eq_g (show zK u x0 = 12 from (h_u.g 0 rfl)) ?_
  refine eq_cH (eX11_reckons N x0 x1 (zI u (x0 + 4) x3.toNatClampNeg) (zI u (x0 + 4) (x3 + (1 : Int32)).toNatClampNeg) u (hkc (show zK u x0 = 12 from (h_u.g 0 rfl)) (hk0 h_u.1))) (fun r3 u4 e9 => h_u.fr (fr_X11_reckons (P := PT) N x0 x1 (zI u (x0 + 4) x3.toNatClampNeg) (zI u (x0 + 4) (x3 + (1 : Int32)).toNatClampNeg) u clPT trivial _ _ e9).1) (fun r3 u4 h_u4 => ?_)
  rfl
set_option maxRecDepth 20000 in
def hgX11_summedBy_2 (N : Nat)   : Nat → Nat → Int32 → Int32 → SG → Option (Int64 × SG)
  | 0, _, _, _, _ => none
  | n + 1, x0, x1, x2, u => if x1 < 0 ∨ 6 ≤ x1.toNatClampNeg then none else (if (zI u (x0 + 5) x1.toNatClampNeg) ≤ x2 then (some ((0 : Int64), u))
  else (bs (((48 : Int32) * x1) + ((4 : Int32) * x2)) fun v2 => (if (v2 + (2 : Int32)) < 0 ∨ 288 ≤ (v2 + (2 : Int32)).toNatClampNeg then none else (if (zI u (x0 + 4) (v2 + (2 : Int32)).toNatClampNeg) < 0 then (hgX11_summedBy_58 N    x0 x1 v2 u)
  else (if (v2 + (2 : Int32)) < 0 ∨ 288 ≤ (v2 + (2 : Int32)).toNatClampNeg then none else (if (v2 + (3 : Int32)) < 0 ∨ 288 ≤ (v2 + (3 : Int32)).toNatClampNeg then none else (cl (hX11_reckons N x0 x1 (zI u (x0 + 4) (v2 + (2 : Int32)).toNatClampNeg) (zI u (x0 + 4) (v2 + (3 : Int32)).toNatClampNeg) u) fun r6 u7 => (if (lg_cmp r6 (1 : Int64)) = 0 then (hgX11_summedBy_58 N    x0 x1 v2 u7)
  else ((hgX11_summedBy_2 N   n) x0 x1 (x2 + (1 : Int32)) u7)))))))))
set_option maxRecDepth 20000 in
theorem egX11_summedBy_2 (N : Nat)   : ∀ (n : Nat) (x0 : Nat) (x1 : Int32) (x2 : Int32) (u : SG), HK [(some x0, 12)] u → gX11_summedBy_2 N   n x0 x1 x2 u = hgX11_summedBy_2 N   n x0 x1 x2 u := by
  intro n
  induction n with
  | zero => intros; rfl
  | succ n ih =>
    intro x0 x1 x2 u h_u
    have hrc2 := ih
    rw [gX11_summedBy_2, hgX11_summedBy_2]
    refine eq_g (show zK u x0 = 12 from (h_u.g 0 rfl)) ?_
    refine eq_bR (show zR u x0 6 = some (x0 + 5) from lyR_12_6 h_u.1 (h_u.g 0 rfl)) ?_
    refine eq_g (show zK u (x0 + 5) = 22 from (lyK_12_6 h_u.1 (h_u.g 0 rfl))) ?_
    refine eq_ixh (show zN u (x0 + 5) = 6 from lyN_12_6 h_u.1 (h_u.g 0 rfl)) (fun hix1 => ?_)
    refine eq_if ?_ ?_
    · rfl
    · refine eq_bs (fun v2 => ?_)
      refine eq_g (show zK u x0 = 12 from (h_u.g 0 rfl)) ?_
      refine eq_bR (show zR u x0 5 = some (x0 + 4) from lyR_12_5 h_u.1 (h_u.g 0 rfl)) ?_
      refine eq_g (show zK u (x0 + 4) = 22 from (lyK_12_5 h_u.1 (h_u.g 0 rfl))) ?_
      refine eq_ixh (show zN u (x0 + 4) = 288 from lyN_12_5 h_u.1 (h_u.g 0 rfl)) (fun hix2 => ?_)
      refine eq_if ?_ ?_
      · exact egX11_summedBy_58 N    x0 x1 v2 u (hkc (show zK u x0 = 12 from (h_u.g 0 rfl)) (hk0 h_u.1))
      · refine eq_g (show zK u x0 = 12 from (h_u.g 0 rfl)) ?_
        refine eq_bR (show zR u x0 5 = some (x0 + 4) from lyR_12_5 h_u.1 (h_u.g 0 rfl)) ?_
        refine eq_g (show zK u (x0 + 4) = 22 from (lyK_12_5 h_u.1 (h_u.g 0 rfl))) ?_
        refine eq_ixh (show zN u (x0 + 4) = 288 from lyN_12_5 h_u.1 (h_u.g 0 rfl)) (fun hix3 => ?_)
        refine eq_g (show zK u x0 = 12 from (h_u.g 0 rfl)) ?_
        refine eq_bR (show zR u x0 5 = some (x0 + 4) from lyR_12_5 h_u.1 (h_u.g 0 rfl)) ?_
        refine eq_g (show zK u (x0 + 4) = 22 from (lyK_12_5 h_u.1 (h_u.g 0 rfl))) ?_
        refine eq_ixh (show zN u (x0 + 4) = 288 from lyN_12_5 h_u.1 (h_u.g 0 rfl)) (fun hix4 => ?_)
        refine eq_g (show zK u x0 = 12 from (h_u.g 0 rfl)) ?_
        refine eq_cH (eX11_reckons N x0 x1 (zI u (x0 + 4) (v2 + (2 : Int32)).toNatClampNeg) (zI u (x0 + 4) (v2 + (3 : Int32)).toNatClampNeg) u (hkc (show zK u x0 = 12 from (h_u.g 0 rfl)) (hk0 h_u.1))) (fun r6 u7 e9 => h_u.fr (fr_X11_reckons (P := PT) N x0 x1 (zI u (x0 + 4) (v2 + (2 : Int32)).toNatClampNeg) (zI u (x0 + 4) (v2 + (3 : Int32)).toNatClampNeg) u clPT trivial _ _ e9).1) (fun r6 u7 h_u7 => ?_)
        refine eq_if ?_ ?_
        · exact egX11_summedBy_58 N    x0 x1 v2 u7 (hkc (show zK u7 x0 = 12 from (h_u7.g 0 rfl)) (hk0 h_u7.1))
        · exact hrc2 x0 x1 (x2 + (1 : Int32)) u7 (hkc (show zK u7 x0 = 12 from (h_u7.g 0 rfl)) (hk0 h_u7.1))
set_option maxRecDepth 20000 in
def hX11_summedBy (N : Nat)  (a0 : Nat) (p1 : Int32) (u : SG) : Option (Int64 × SG) := hgX11_summedBy_2 N   N a0 p1 (0 : Int32) u
set_option maxRecDepth 20000 in
theorem eX11_summedBy (N : Nat)  (a0 : Nat) (p1 : Int32) (u : SG) (h_u : HK [(some a0, 12)] u) : fX11_summedBy N  a0 p1 u = hX11_summedBy N  a0 p1 u := by
  unfold fX11_summedBy hX11_summedBy
  exact egX11_summedBy_2 N   N a0 p1 (0 : Int32) u (hkc (show zK u a0 = 12 from (h_u.g 0 rfl)) (hk0 h_u.1))
set_option maxRecDepth 20000 in
def hX11_setsAsleep (N : Nat)  (a0 : Nat) (p1 : Int32) (p2 : Int32) (u : SG) : Option (Unit × SG) := if p2 = 0 then (if (((10 : Int32) + ((6 : Int32) * p1)) + (2 : Int32)) < 0 ∨ 144 ≤ (((10 : Int32) + ((6 : Int32) * p1)) + (2 : Int32)).toNatClampNeg then none else (bs (sI u (a0 + 10) (((10 : Int32) + ((6 : Int32) * p1)) + (2 : Int32)).toNatClampNeg (0 : Int32)) fun u2 => (some ((), u2))))
  else (if (((10 : Int32) + ((6 : Int32) * p1)) + (2 : Int32)) < 0 ∨ 144 ≤ (((10 : Int32) + ((6 : Int32) * p1)) + (2 : Int32)).toNatClampNeg then none else (bs (sI u (a0 + 10) (((10 : Int32) + ((6 : Int32) * p1)) + (2 : Int32)).toNatClampNeg (1 : Int32)) fun u3 => (some ((), u3))))
set_option maxRecDepth 20000 in
theorem eX11_setsAsleep (N : Nat)  (a0 : Nat) (p1 : Int32) (p2 : Int32) (u : SG) (h_u : HK [(some a0, 12)] u) : fX11_setsAsleep N  a0 p1 p2 u = hX11_setsAsleep N  a0 p1 p2 u := by
  unfold fX11_setsAsleep hX11_setsAsleep
  refine eq_g (show zK u a0 = 12 from (h_u.g 0 rfl)) ?_
  refine eq_bR (show zR u a0 20 = some (a0 + 10) from lyR_12_20 h_u.1 (h_u.g 0 rfl)) ?_
  refine eq_if ?_ ?_
  · refine eq_g (show zK u (a0 + 10) = 22 from (lyK_12_20 h_u.1 (h_u.g 0 rfl))) ?_
    refine eq_ixh (show zN u (a0 + 10) = 144 from lyN_12_20 h_u.1 (h_u.g 0 rfl)) (fun hix1 => ?_)
    refine eq_sH (h_u.fr (P := PT) (Fr.sIr trivial)) (fun u2 h_u2 => ?_)
    rfl
  · refine eq_g (show zK u (a0 + 10) = 22 from (lyK_12_20 h_u.1 (h_u.g 0 rfl))) ?_
    refine eq_ixh (show zN u (a0 + 10) = 144 from lyN_12_20 h_u.1 (h_u.g 0 rfl)) (fun hix2 => ?_)
    refine eq_sH (h_u.fr (P := PT) (Fr.sIr trivial)) (fun u3 h_u3 => ?_)
    rfl
set_option maxRecDepth 20000 in
def hgX11_wakesWorkers_2 (N : Nat)   : Nat → Nat → Int32 → SG → Option (Unit × SG)
  | 0, _, _, _ => none
  | n + 1, x0, x1, u => if (zI u (x0 + 10) 1) ≤ x1 then (some ((), u))
  else (cl (hX11_worksIn N x0 x1 (zI u (x0 + 10) 5) u) fun r3 u4 => (if r3 = 0 then ((hgX11_wakesWorkers_2 N   n) x0 (x1 + (1 : Int32)) u4)
  else (cl (hX11_setsAsleep N x0 x1 (0 : Int32) u4) fun r5 u6 => ((hgX11_wakesWorkers_2 N   n) x0 (x1 + (1 : Int32)) u6))))
set_option maxRecDepth 20000 in
theorem egX11_wakesWorkers_2 (N : Nat)   : ∀ (n : Nat) (x0 : Nat) (x1 : Int32) (u : SG), HK [(some x0, 12)] u → gX11_wakesWorkers_2 N   n x0 x1 u = hgX11_wakesWorkers_2 N   n x0 x1 u := by
  intro n
  induction n with
  | zero => intros; rfl
  | succ n ih =>
    intro x0 x1 u h_u
    have hrc2 := ih
    rw [gX11_wakesWorkers_2, hgX11_wakesWorkers_2]
    refine eq_g (show zK u x0 = 12 from (h_u.g 0 rfl)) ?_
    refine eq_bR (show zR u x0 20 = some (x0 + 10) from lyR_12_20 h_u.1 (h_u.g 0 rfl)) ?_
    refine eq_g (show zK u (x0 + 10) = 22 from (lyK_12_20 h_u.1 (h_u.g 0 rfl))) ?_
    refine eq_n (by rw [show zN u (x0 + 10) = 144 from lyN_12_20 h_u.1 (h_u.g 0 rfl)]; decide) ?_
    refine eq_if ?_ ?_
    · rfl
    · refine eq_g (show zK u x0 = 12 from (h_u.g 0 rfl)) ?_
      refine eq_bR (show zR u x0 20 = some (x0 + 10) from lyR_12_20 h_u.1 (h_u.g 0 rfl)) ?_
      refine eq_g (show zK u (x0 + 10) = 22 from (lyK_12_20 h_u.1 (h_u.g 0 rfl))) ?_
      refine eq_n (by rw [show zN u (x0 + 10) = 144 from lyN_12_20 h_u.1 (h_u.g 0 rfl)]; decide) ?_
      refine eq_g (show zK u x0 = 12 from (h_u.g 0 rfl)) ?_
      refine eq_cH (eX11_worksIn N x0 x1 (zI u (x0 + 10) 5) u (hkc (show zK u x0 = 12 from (h_u.g 0 rfl)) (hk0 h_u.1))) (fun r3 u4 e9 => h_u.fr (fr_X11_worksIn (P := PT) N x0 x1 (zI u (x0 + 10) 5) u clPT trivial _ _ e9).1) (fun r3 u4 h_u4 => ?_)
      refine eq_if ?_ ?_
      · exact hrc2 x0 (x1 + (1 : Int32)) u4 (hkc (show zK u4 x0 = 12 from (h_u4.g 0 rfl)) (hk0 h_u4.1))
      · refine eq_g (show zK u4 x0 = 12 from (h_u4.g 0 rfl)) ?_
        refine eq_cH (eX11_setsAsleep N x0 x1 (0 : Int32) u4 (hkc (show zK u4 x0 = 12 from (h_u4.g 0 rfl)) (hk0 h_u4.1))) (fun r5 u6 e9 => h_u4.fr (fr_X11_setsAsleep (P := PT) N x0 x1 (0 : Int32) u4 clPT trivial _ _ e9).1) (fun r5 u6 h_u6 => ?_)
        exact hrc2 x0 (x1 + (1 : Int32)) u6 (hkc (show zK u6 x0 = 12 from (h_u6.g 0 rfl)) (hk0 h_u6.1))
set_option maxRecDepth 20000 in
def hX11_wakesWorkers (N : Nat)  (a0 : Nat) (u : SG) : Option (Unit × SG) := hgX11_wakesWorkers_2 N   N a0 (0 : Int32) u
set_option maxRecDepth 20000 in
theorem eX11_wakesWorkers (N : Nat)  (a0 : Nat) (u : SG) (h_u : HK [(some a0, 12)] u) : fX11_wakesWorkers N  a0 u = hX11_wakesWorkers N  a0 u := by
  unfold fX11_wakesWorkers hX11_wakesWorkers
  exact egX11_wakesWorkers_2 N   N a0 (0 : Int32) u (hkc (show zK u a0 = 12 from (h_u.g 0 rfl)) (hk0 h_u.1))
set_option maxRecDepth 20000 in
def hgX11_sleepsByRule_61 (N : Nat)  (rc2 : Nat → Int32 → SG → Option (Unit × SG)) (x0 : Nat) (x1 : Int32) (s0 : Nat) (s1 : Int32) (s2 : Int32) (u : SG) : Option (Unit × SG) := cl (hX11_setsAsleep N s0 s1 s2 u) fun r1 u2 => (rc2 x0 (x1 + (1 : Int32)) u2)
set_option maxRecDepth 20000 in
theorem egX11_sleepsByRule_61 (N : Nat)  (rec2 : Nat → Int32 → SG → Option (Unit × SG)) (rc2 : Nat → Int32 → SG → Option (Unit × SG)) (hrc2 : ∀ (x0 : Nat) (x1 : Int32) (u : SG), HK [(some x0, 12)] u → rec2 x0 x1 u = rc2 x0 x1 u) (x0 : Nat) (x1 : Int32) (s0 : Nat) (s1 : Int32) (s2 : Int32) (u : SG) (h_u : HK [(some x0, 12), (some s0, 12)] u) : gX11_sleepsByRule_61 N  rec2 x0 x1 s0 s1 s2 u = hgX11_sleepsByRule_61 N  rc2 x0 x1 s0 s1 s2 u := by
  unfold gX11_sleepsByRule_61 hgX11_sleepsByRule_61
  refine eq_g (show zK u s0 = 12 from (h_u.g 1 rfl)) ?_
  refine eq_cH (eX11_setsAsleep N s0 s1 s2 u (hkc (show zK u s0 = 12 from (h_u.g 1 rfl)) (hk0 h_u.1))) (fun r1 u2 e9 => h_u.fr (fr_X11_setsAsleep (P := PT) N s0 s1 s2 u clPT trivial _ _ e9).1) (fun r1 u2 h_u2 => ?_)
  exact hrc2 x0 (x1 + (1 : Int32)) u2 (hkc (show zK u2 x0 = 12 from (h_u2.g 0 rfl)) (hk0 h_u2.1))
set_option maxRecDepth 20000 in
def hgX11_sleepsByRule_2 (N : Nat)   : Nat → Nat → Int32 → SG → Option (Unit × SG)
  | 0, _, _, _ => none
  | n + 1, x0, x1, u => if (zI u (x0 + 10) 1) ≤ x1 then (some ((), u))
  else (if (zI u x0 21) < 0 then (some ((), u))
  else (cl (hX11_worksIn N x0 x1 (zI u (x0 + 10) 5) u) fun r3 u4 => (if r3 = 0 then (cl (hX11_words N x0 x1 u4) fun r5 u6 => (cl (hX11_summedBy N x0 (zI u6 x0 21) u6) fun r7 u8 => (if (lg_cmp r7 (0 : Int64)) ≤ 0 then (hgX11_sleepsByRule_61 N  (hgX11_sleepsByRule_2 N   n)  x0 x1 x0 x1 (0 : Int32) u8)
  else (hgX11_sleepsByRule_61 N  (hgX11_sleepsByRule_2 N   n)  x0 x1 x0 x1 (1 : Int32) u8))))
  else ((hgX11_sleepsByRule_2 N   n) x0 (x1 + (1 : Int32)) u4))))
set_option maxRecDepth 20000 in
theorem egX11_sleepsByRule_2 (N : Nat)   : ∀ (n : Nat) (x0 : Nat) (x1 : Int32) (u : SG), HK [(some x0, 12)] u → gX11_sleepsByRule_2 N   n x0 x1 u = hgX11_sleepsByRule_2 N   n x0 x1 u := by
  intro n
  induction n with
  | zero => intros; rfl
  | succ n ih =>
    intro x0 x1 u h_u
    have hrc2 := ih
    rw [gX11_sleepsByRule_2, hgX11_sleepsByRule_2]
    refine eq_g (show zK u x0 = 12 from (h_u.g 0 rfl)) ?_
    refine eq_bR (show zR u x0 20 = some (x0 + 10) from lyR_12_20 h_u.1 (h_u.g 0 rfl)) ?_
    refine eq_g (show zK u (x0 + 10) = 22 from (lyK_12_20 h_u.1 (h_u.g 0 rfl))) ?_
    refine eq_n (by rw [show zN u (x0 + 10) = 144 from lyN_12_20 h_u.1 (h_u.g 0 rfl)]; decide) ?_
    refine eq_if ?_ ?_
    · rfl
    · refine eq_g (show zK u x0 = 12 from (h_u.g 0 rfl)) ?_
      refine eq_if ?_ ?_
      · rfl
      · refine eq_g (show zK u x0 = 12 from (h_u.g 0 rfl)) ?_
        refine eq_bR (show zR u x0 20 = some (x0 + 10) from lyR_12_20 h_u.1 (h_u.g 0 rfl)) ?_
        refine eq_g (show zK u (x0 + 10) = 22 from (lyK_12_20 h_u.1 (h_u.g 0 rfl))) ?_
        refine eq_n (by rw [show zN u (x0 + 10) = 144 from lyN_12_20 h_u.1 (h_u.g 0 rfl)]; decide) ?_
        refine eq_g (show zK u x0 = 12 from (h_u.g 0 rfl)) ?_
        refine eq_cH (eX11_worksIn N x0 x1 (zI u (x0 + 10) 5) u (hkc (show zK u x0 = 12 from (h_u.g 0 rfl)) (hk0 h_u.1))) (fun r3 u4 e9 => h_u.fr (fr_X11_worksIn (P := PT) N x0 x1 (zI u (x0 + 10) 5) u clPT trivial _ _ e9).1) (fun r3 u4 h_u4 => ?_)
        refine eq_if ?_ ?_
        · refine eq_g (show zK u4 x0 = 12 from (h_u4.g 0 rfl)) ?_
          refine eq_cH (eX11_words N x0 x1 u4 (hkc (show zK u4 x0 = 12 from (h_u4.g 0 rfl)) (hk0 h_u4.1))) (fun r5 u6 e9 => h_u4.fr (fr_X11_words (P := PT) N x0 x1 u4 clPT trivial _ _ e9).1) (fun r5 u6 h_u6 => ?_)
          refine eq_g (show zK u6 x0 = 12 from (h_u6.g 0 rfl)) ?_
          refine eq_g (show zK u6 x0 = 12 from (h_u6.g 0 rfl)) ?_
          refine eq_cH (eX11_summedBy N x0 (zI u6 x0 21) u6 (hkc (show zK u6 x0 = 12 from (h_u6.g 0 rfl)) (hk0 h_u6.1))) (fun r7 u8 e9 => h_u6.fr (fr_X11_summedBy (P := PT) N x0 (zI u6 x0 21) u6 clPT trivial _ _ e9).1) (fun r7 u8 h_u8 => ?_)
          refine eq_if ?_ ?_
          · exact egX11_sleepsByRule_61 N  _ _ hrc2  x0 x1 x0 x1 (0 : Int32) u8 (hkc (show zK u8 x0 = 12 from (h_u8.g 0 rfl)) (hkc (show zK u8 x0 = 12 from (h_u8.g 0 rfl)) (hk0 h_u8.1)))
          · exact egX11_sleepsByRule_61 N  _ _ hrc2  x0 x1 x0 x1 (1 : Int32) u8 (hkc (show zK u8 x0 = 12 from (h_u8.g 0 rfl)) (hkc (show zK u8 x0 = 12 from (h_u8.g 0 rfl)) (hk0 h_u8.1)))
        · exact hrc2 x0 (x1 + (1 : Int32)) u4 (hkc (show zK u4 x0 = 12 from (h_u4.g 0 rfl)) (hk0 h_u4.1))
set_option maxRecDepth 20000 in
def hX11_sleepsByRule (N : Nat)  (a0 : Nat) (u : SG) : Option (Unit × SG) := hgX11_sleepsByRule_2 N   N a0 (0 : Int32) u
set_option maxRecDepth 20000 in
theorem eX11_sleepsByRule (N : Nat)  (a0 : Nat) (u : SG) (h_u : HK [(some a0, 12)] u) : fX11_sleepsByRule N  a0 u = hX11_sleepsByRule N  a0 u := by
  unfold fX11_sleepsByRule hX11_sleepsByRule
  exact egX11_sleepsByRule_2 N   N a0 (0 : Int32) u (hkc (show zK u a0 = 12 from (h_u.g 0 rfl)) (hk0 h_u.1))
set_option maxRecDepth 20000 in
def hgX11_endsNight_119 (N : Nat)   : Nat → Nat → Int32 → SG → Option (Unit × SG)
  | 0, _, _, _ => none
  | n + 1, x0, x1, u => if (5 : Int32) ≤ x1 then (some ((), u))
  else (if ((40 : Int32) + x1) < 0 ∨ 144 ≤ ((40 : Int32) + x1).toNatClampNeg then none else (bs (sI u (x0 + 10) ((40 : Int32) + x1).toNatClampNeg (0 : Int32)) fun u2 => ((hgX11_endsNight_119 N   n) x0 (x1 + (1 : Int32)) u2)))
set_option maxRecDepth 20000 in
theorem egX11_endsNight_119 (N : Nat)   : ∀ (n : Nat) (x0 : Nat) (x1 : Int32) (u : SG), HK [(some x0, 12)] u → gX11_endsNight_119 N   n x0 x1 u = hgX11_endsNight_119 N   n x0 x1 u := by
  intro n
  induction n with
  | zero => intros; rfl
  | succ n ih =>
    intro x0 x1 u h_u
    have hrc119 := ih
    rw [gX11_endsNight_119, hgX11_endsNight_119]
    refine eq_if ?_ ?_
    · rfl
    · refine eq_g (show zK u x0 = 12 from (h_u.g 0 rfl)) ?_
      refine eq_bR (show zR u x0 20 = some (x0 + 10) from lyR_12_20 h_u.1 (h_u.g 0 rfl)) ?_
      refine eq_g (show zK u (x0 + 10) = 22 from (lyK_12_20 h_u.1 (h_u.g 0 rfl))) ?_
      refine eq_ixh (show zN u (x0 + 10) = 144 from lyN_12_20 h_u.1 (h_u.g 0 rfl)) (fun hix1 => ?_)
      refine eq_sH (h_u.fr (P := PT) (Fr.sIr trivial)) (fun u2 h_u2 => ?_)
      exact hrc119 x0 (x1 + (1 : Int32)) u2 (hkc (show zK u2 x0 = 12 from (h_u2.g 0 rfl)) (hk0 h_u2.1))
set_option maxRecDepth 20000 in
def hgX11_endsNight_20 (N : Nat)   : Nat → Nat → Int32 → SG → Option (Unit × SG)
  | 0, _, _, _ => none
  | n + 1, x0, x1, u => if (zI u (x0 + 10) 1) ≤ x1 then (hgX11_endsNight_119 N   N x0 (0 : Int32) u)
  else (bs ((10 : Int32) + ((6 : Int32) * x1)) fun v2 => (if (v2 + (4 : Int32)) < 0 ∨ 144 ≤ (v2 + (4 : Int32)).toNatClampNeg then none else (if v2 < 0 ∨ 144 ≤ v2.toNatClampNeg then none else (if (v2 + (3 : Int32)) < 0 ∨ 144 ≤ (v2 + (3 : Int32)).toNatClampNeg then none else (bs (((zI u (x0 + 10) (v2 + (4 : Int32)).toNatClampNeg) + (zI u (x0 + 10) v2.toNatClampNeg)) - (zI u (x0 + 10) (v2 + (3 : Int32)).toNatClampNeg)) fun v6 => (if (v2 + (2 : Int32)) < 0 ∨ 144 ≤ (v2 + (2 : Int32)).toNatClampNeg then none else (bs (sI u (x0 + 10) (v2 + (2 : Int32)).toNatClampNeg (0 : Int32)) fun u8 => (if (v2 + (3 : Int32)) < 0 ∨ 144 ≤ (v2 + (3 : Int32)).toNatClampNeg then none else (bs (sI u8 (x0 + 10) (v2 + (3 : Int32)).toNatClampNeg (0 : Int32)) fun u10 => (if 0 ≤ v6 then (if v6 ≤ (999 : Int32) then (if (v2 + (4 : Int32)) < 0 ∨ 144 ≤ (v2 + (4 : Int32)).toNatClampNeg then none else (bs (sI u10 (x0 + 10) (v2 + (4 : Int32)).toNatClampNeg v6) fun u12 => ((hgX11_endsNight_20 N   n) x0 (x1 + (1 : Int32)) u12)))
  else (if (v2 + (4 : Int32)) < 0 ∨ 144 ≤ (v2 + (4 : Int32)).toNatClampNeg then none else (bs (sI u10 (x0 + 10) (v2 + (4 : Int32)).toNatClampNeg (999 : Int32)) fun u13 => ((hgX11_endsNight_20 N   n) x0 (x1 + (1 : Int32)) u13))))
  else (if (v2 + (4 : Int32)) < 0 ∨ 144 ≤ (v2 + (4 : Int32)).toNatClampNeg then none else (bs (sI u10 (x0 + 10) (v2 + (4 : Int32)).toNatClampNeg (0 : Int32)) fun u14 => ((hgX11_endsNight_20 N   n) x0 (x1 + (1 : Int32)) u14)))))))))))))
set_option maxRecDepth 20000 in
theorem egX11_endsNight_20 (N : Nat)   : ∀ (n : Nat) (x0 : Nat) (x1 : Int32) (u : SG), HK [(some x0, 12)] u → gX11_endsNight_20 N   n x0 x1 u = hgX11_endsNight_20 N   n x0 x1 u := by
  intro n
  induction n with
  | zero => intros; rfl
  | succ n ih =>
    intro x0 x1 u h_u
    have hrc20 := ih
    rw [gX11_endsNight_20, hgX11_endsNight_20]
    refine eq_g (show zK u x0 = 12 from (h_u.g 0 rfl)) ?_
    refine eq_bR (show zR u x0 20 = some (x0 + 10) from lyR_12_20 h_u.1 (h_u.g 0 rfl)) ?_
    refine eq_g (show zK u (x0 + 10) = 22 from (lyK_12_20 h_u.1 (h_u.g 0 rfl))) ?_
    refine eq_n (by rw [show zN u (x0 + 10) = 144 from lyN_12_20 h_u.1 (h_u.g 0 rfl)]; decide) ?_
    refine eq_if ?_ ?_
    · exact egX11_endsNight_119 N   N x0 (0 : Int32) u (hkc (show zK u x0 = 12 from (h_u.g 0 rfl)) (hk0 h_u.1))
    · refine eq_bs (fun v2 => ?_)
      refine eq_g (show zK u x0 = 12 from (h_u.g 0 rfl)) ?_
      refine eq_bR (show zR u x0 20 = some (x0 + 10) from lyR_12_20 h_u.1 (h_u.g 0 rfl)) ?_
      refine eq_g (show zK u (x0 + 10) = 22 from (lyK_12_20 h_u.1 (h_u.g 0 rfl))) ?_
      refine eq_ixh (show zN u (x0 + 10) = 144 from lyN_12_20 h_u.1 (h_u.g 0 rfl)) (fun hix1 => ?_)
      refine eq_g (show zK u x0 = 12 from (h_u.g 0 rfl)) ?_
      refine eq_bR (show zR u x0 20 = some (x0 + 10) from lyR_12_20 h_u.1 (h_u.g 0 rfl)) ?_
      refine eq_g (show zK u (x0 + 10) = 22 from (lyK_12_20 h_u.1 (h_u.g 0 rfl))) ?_
      refine eq_ixh (show zN u (x0 + 10) = 144 from lyN_12_20 h_u.1 (h_u.g 0 rfl)) (fun hix2 => ?_)
      refine eq_g (show zK u x0 = 12 from (h_u.g 0 rfl)) ?_
      refine eq_bR (show zR u x0 20 = some (x0 + 10) from lyR_12_20 h_u.1 (h_u.g 0 rfl)) ?_
      refine eq_g (show zK u (x0 + 10) = 22 from (lyK_12_20 h_u.1 (h_u.g 0 rfl))) ?_
      refine eq_ixh (show zN u (x0 + 10) = 144 from lyN_12_20 h_u.1 (h_u.g 0 rfl)) (fun hix3 => ?_)
      refine eq_bs (fun v6 => ?_)
      refine eq_g (show zK u x0 = 12 from (h_u.g 0 rfl)) ?_
      refine eq_bR (show zR u x0 20 = some (x0 + 10) from lyR_12_20 h_u.1 (h_u.g 0 rfl)) ?_
      refine eq_g (show zK u (x0 + 10) = 22 from (lyK_12_20 h_u.1 (h_u.g 0 rfl))) ?_
      refine eq_ixh (show zN u (x0 + 10) = 144 from lyN_12_20 h_u.1 (h_u.g 0 rfl)) (fun hix4 => ?_)
      refine eq_sH (h_u.fr (P := PT) (Fr.sIr trivial)) (fun u8 h_u8 => ?_)
      refine eq_g (show zK u8 x0 = 12 from (h_u8.g 0 rfl)) ?_
      refine eq_bR (show zR u8 x0 20 = some (x0 + 10) from lyR_12_20 h_u8.1 (h_u8.g 0 rfl)) ?_
      refine eq_g (show zK u8 (x0 + 10) = 22 from (lyK_12_20 h_u8.1 (h_u8.g 0 rfl))) ?_
      refine eq_ixh (show zN u8 (x0 + 10) = 144 from lyN_12_20 h_u8.1 (h_u8.g 0 rfl)) (fun hix5 => ?_)
      refine eq_sH (h_u8.fr (P := PT) (Fr.sIr trivial)) (fun u10 h_u10 => ?_)
      refine eq_g (show zK u10 x0 = 12 from (h_u10.g 0 rfl)) ?_
      refine eq_bR (show zR u10 x0 20 = some (x0 + 10) from lyR_12_20 h_u10.1 (h_u10.g 0 rfl)) ?_
      refine eq_if ?_ ?_
      · refine eq_if ?_ ?_
        · refine eq_g (show zK u10 (x0 + 10) = 22 from (lyK_12_20 h_u10.1 (h_u10.g 0 rfl))) ?_
          refine eq_ixh (show zN u10 (x0 + 10) = 144 from lyN_12_20 h_u10.1 (h_u10.g 0 rfl)) (fun hix6 => ?_)
          refine eq_sH (h_u10.fr (P := PT) (Fr.sIr trivial)) (fun u12 h_u12 => ?_)
          exact hrc20 x0 (x1 + (1 : Int32)) u12 (hkc (show zK u12 x0 = 12 from (h_u12.g 0 rfl)) (hk0 h_u12.1))
        · refine eq_g (show zK u10 (x0 + 10) = 22 from (lyK_12_20 h_u10.1 (h_u10.g 0 rfl))) ?_
          refine eq_ixh (show zN u10 (x0 + 10) = 144 from lyN_12_20 h_u10.1 (h_u10.g 0 rfl)) (fun hix7 => ?_)
          refine eq_sH (h_u10.fr (P := PT) (Fr.sIr trivial)) (fun u13 h_u13 => ?_)
          exact hrc20 x0 (x1 + (1 : Int32)) u13 (hkc (show zK u13 x0 = 12 from (h_u13.g 0 rfl)) (hk0 h_u13.1))
      · refine eq_g (show zK u10 (x0 + 10) = 22 from (lyK_12_20 h_u10.1 (h_u10.g 0 rfl))) ?_
        refine eq_ixh (show zN u10 (x0 + 10) = 144 from lyN_12_20 h_u10.1 (h_u10.g 0 rfl)) (fun hix8 => ?_)
        refine eq_sH (h_u10.fr (P := PT) (Fr.sIr trivial)) (fun u14 h_u14 => ?_)
        exact hrc20 x0 (x1 + (1 : Int32)) u14 (hkc (show zK u14 x0 = 12 from (h_u14.g 0 rfl)) (hk0 h_u14.1))
set_option maxRecDepth 20000 in
def hX11_endsNight (N : Nat)  (a0 : Nat) (u : SG) : Option (Unit × SG) := bs (sI u (a0 + 10) 5 (0 : Int32)) fun u2 => (bs (sI u2 (a0 + 10) 6 ((zI u2 (a0 + 10) 6) + (1 : Int32))) fun u4 => (hgX11_endsNight_20 N   N a0 (0 : Int32) u4))
set_option maxRecDepth 20000 in
theorem eX11_endsNight (N : Nat)  (a0 : Nat) (u : SG) (h_u : HK [(some a0, 12)] u) : fX11_endsNight N  a0 u = hX11_endsNight N  a0 u := by
  unfold fX11_endsNight hX11_endsNight
  refine eq_g (show zK u a0 = 12 from (h_u.g 0 rfl)) ?_
  refine eq_bR (show zR u a0 20 = some (a0 + 10) from lyR_12_20 h_u.1 (h_u.g 0 rfl)) ?_
  refine eq_g (show zK u (a0 + 10) = 22 from (lyK_12_20 h_u.1 (h_u.g 0 rfl))) ?_
  refine eq_n (by rw [show zN u (a0 + 10) = 144 from lyN_12_20 h_u.1 (h_u.g 0 rfl)]; decide) ?_
  refine eq_sH (h_u.fr (P := PT) (Fr.sIr trivial)) (fun u2 h_u2 => ?_)
  refine eq_g (show zK u2 a0 = 12 from (h_u2.g 0 rfl)) ?_
  refine eq_bR (show zR u2 a0 20 = some (a0 + 10) from lyR_12_20 h_u2.1 (h_u2.g 0 rfl)) ?_
  refine eq_g (show zK u2 (a0 + 10) = 22 from (lyK_12_20 h_u2.1 (h_u2.g 0 rfl))) ?_
  refine eq_n (by rw [show zN u2 (a0 + 10) = 144 from lyN_12_20 h_u2.1 (h_u2.g 0 rfl)]; decide) ?_
  refine eq_g (show zK u2 (a0 + 10) = 22 from (lyK_12_20 h_u2.1 (h_u2.g 0 rfl))) ?_
  refine eq_n (by rw [show zN u2 (a0 + 10) = 144 from lyN_12_20 h_u2.1 (h_u2.g 0 rfl)]; decide) ?_
  refine eq_sH (h_u2.fr (P := PT) (Fr.sIr trivial)) (fun u4 h_u4 => ?_)
  exact egX11_endsNight_20 N   N a0 (0 : Int32) u4 (hkc (show zK u4 a0 = 12 from (h_u4.g 0 rfl)) (hk0 h_u4.1))
set_option maxRecDepth 20000 in
def hgX11_shares_126 (N : Nat)   (x0 : Nat) (x2 : Int32) (u : SG) : Option (Int32 × SG) := bs (sI u (x0 + 10) 5 ((zI u (x0 + 10) 5) + (1 : Int32))) fun u2 => (if (zI u2 (x0 + 10) 5) = (zI u2 (x0 + 10) 0) then (cl (hX11_endsNight N x0 u2) fun r5 u6 => (some (x2, u6)))
  else (some (x2, u2)))
set_option maxRecDepth 20000 in
theorem egX11_shares_126 (N : Nat)   (x0 : Nat) (x2 : Int32) (u : SG) (h_u : HK [(some x0, 12)] u) : gX11_shares_126 N   x0 x2 u = hgX11_shares_126 N   x0 x2 u := by
  unfold gX11_shares_126 hgX11_shares_126
  refine eq_g (show zK u x0 = 12 from (h_u.g 0 rfl)) ?_
  refine eq_bR (show zR u x0 20 = some (x0 + 10) from lyR_12_20 h_u.1 (h_u.g 0 rfl)) ?_
  refine eq_g (show zK u (x0 + 10) = 22 from (lyK_12_20 h_u.1 (h_u.g 0 rfl))) ?_
  refine eq_n (by rw [show zN u (x0 + 10) = 144 from lyN_12_20 h_u.1 (h_u.g 0 rfl)]; decide) ?_
  refine eq_g (show zK u (x0 + 10) = 22 from (lyK_12_20 h_u.1 (h_u.g 0 rfl))) ?_
  refine eq_n (by rw [show zN u (x0 + 10) = 144 from lyN_12_20 h_u.1 (h_u.g 0 rfl)]; decide) ?_
  refine eq_sH (h_u.fr (P := PT) (Fr.sIr trivial)) (fun u2 h_u2 => ?_)
  refine eq_g (show zK u2 x0 = 12 from (h_u2.g 0 rfl)) ?_
  refine eq_bR (show zR u2 x0 20 = some (x0 + 10) from lyR_12_20 h_u2.1 (h_u2.g 0 rfl)) ?_
  refine eq_g (show zK u2 (x0 + 10) = 22 from (lyK_12_20 h_u2.1 (h_u2.g 0 rfl))) ?_
  refine eq_n (by rw [show zN u2 (x0 + 10) = 144 from lyN_12_20 h_u2.1 (h_u2.g 0 rfl)]; decide) ?_
  refine eq_g (show zK u2 x0 = 12 from (h_u2.g 0 rfl)) ?_
  refine eq_bR (show zR u2 x0 20 = some (x0 + 10) from lyR_12_20 h_u2.1 (h_u2.g 0 rfl)) ?_
  refine eq_g (show zK u2 (x0 + 10) = 22 from (lyK_12_20 h_u2.1 (h_u2.g 0 rfl))) ?_
  refine eq_n (by rw [show zN u2 (x0 + 10) = 144 from lyN_12_20 h_u2.1 (h_u2.g 0 rfl)]; decide) ?_
  refine eq_if ?_ ?_
  · refine eq_g (show zK u2 x0 = 12 from (h_u2.g 0 rfl)) ?_
    refine eq_cH (eX11_endsNight N x0 u2 (hkc (show zK u2 x0 = 12 from (h_u2.g 0 rfl)) (hk0 h_u2.1))) (fun r5 u6 e9 => h_u2.fr (fr_X11_endsNight (P := PT) N x0 u2 clPT trivial _ _ e9).1) (fun r5 u6 h_u6 => ?_)
    rfl
  · rfl
set_option maxRecDepth 20000 in
def hgX11_shares_24 (N : Nat)   : Nat → Nat → Int32 → Int32 → Int32 → SG → Option (Int32 × SG)
  | 0, _, _, _, _, _ => none
  | n + 1, x0, x1, x2, x3, u => if (zI u (x0 + 10) 1) ≤ x3 then (if x2 = 0 then (bs (sI u (x0 + 10) 7 ((zI u (x0 + 10) 7) + x1)) fun u3 => (hgX11_shares_126 N    x0 x2 u3))
  else (hgX11_shares_126 N    x0 x2 u))
  else (bs ((10 : Int32) + ((6 : Int32) * x3)) fun v4 => (if (v4 + (2 : Int32)) < 0 ∨ 144 ≤ (v4 + (2 : Int32)).toNatClampNeg then none else (if (zI u (x0 + 10) (v4 + (2 : Int32)).toNatClampNeg) = 0 then (if x3 < 0 ∨ 5 ≤ x3.toNatClampNeg then none else (if (zI u (x0 + 10) 1) - x2 = 0 then (none)
  else (if x3 < 0 ∨ 5 ≤ x3.toNatClampNeg then none else (bs (sI u (x0 + 11) x3.toNatClampNeg ((zI u (x0 + 11) x3.toNatClampNeg) + (x1 / ((zI u (x0 + 10) 1) - x2)))) fun u12 => ((hgX11_shares_24 N   n) x0 x1 x2 (x3 + (1 : Int32)) u12)))))
  else (if (v4 + (5 : Int32)) < 0 ∨ 144 ≤ (v4 + (5 : Int32)).toNatClampNeg then none else (if x2 = 0 then (none)
  else (if (v4 + (5 : Int32)) < 0 ∨ 144 ≤ (v4 + (5 : Int32)).toNatClampNeg then none else (bs (sI u (x0 + 10) (v4 + (5 : Int32)).toNatClampNeg ((zI u (x0 + 10) (v4 + (5 : Int32)).toNatClampNeg) + (x1 / x2))) fun u7 => (if (v4 + (3 : Int32)) < 0 ∨ 144 ≤ (v4 + (3 : Int32)).toNatClampNeg then none else (if (v4 + (3 : Int32)) < 0 ∨ 144 ≤ (v4 + (3 : Int32)).toNatClampNeg then none else (bs (sI u7 (x0 + 10) (v4 + (3 : Int32)).toNatClampNeg ((zI u7 (x0 + 10) (v4 + (3 : Int32)).toNatClampNeg) + (1 : Int32))) fun u9 => ((hgX11_shares_24 N   n) x0 x1 x2 (x3 + (1 : Int32)) u9)))))))))))
set_option maxRecDepth 20000 in
theorem egX11_shares_24 (N : Nat)   : ∀ (n : Nat) (x0 : Nat) (x1 : Int32) (x2 : Int32) (x3 : Int32) (u : SG), HK [(some x0, 12)] u → gX11_shares_24 N   n x0 x1 x2 x3 u = hgX11_shares_24 N   n x0 x1 x2 x3 u := by
  intro n
  induction n with
  | zero => intros; rfl
  | succ n ih =>
    intro x0 x1 x2 x3 u h_u
    have hrc24 := ih
    rw [gX11_shares_24, hgX11_shares_24]
    refine eq_g (show zK u x0 = 12 from (h_u.g 0 rfl)) ?_
    refine eq_bR (show zR u x0 20 = some (x0 + 10) from lyR_12_20 h_u.1 (h_u.g 0 rfl)) ?_
    refine eq_g (show zK u (x0 + 10) = 22 from (lyK_12_20 h_u.1 (h_u.g 0 rfl))) ?_
    refine eq_n (by rw [show zN u (x0 + 10) = 144 from lyN_12_20 h_u.1 (h_u.g 0 rfl)]; decide) ?_
    refine eq_if ?_ ?_
    · refine eq_if ?_ ?_
      · refine eq_g (show zK u x0 = 12 from (h_u.g 0 rfl)) ?_
        refine eq_bR (show zR u x0 20 = some (x0 + 10) from lyR_12_20 h_u.1 (h_u.g 0 rfl)) ?_
        refine eq_g (show zK u (x0 + 10) = 22 from (lyK_12_20 h_u.1 (h_u.g 0 rfl))) ?_
        refine eq_n (by rw [show zN u (x0 + 10) = 144 from lyN_12_20 h_u.1 (h_u.g 0 rfl)]; decide) ?_
        refine eq_g (show zK u (x0 + 10) = 22 from (lyK_12_20 h_u.1 (h_u.g 0 rfl))) ?_
        refine eq_n (by rw [show zN u (x0 + 10) = 144 from lyN_12_20 h_u.1 (h_u.g 0 rfl)]; decide) ?_
        refine eq_sH (h_u.fr (P := PT) (Fr.sIr trivial)) (fun u3 h_u3 => ?_)
        exact egX11_shares_126 N    x0 x2 u3 (hkc (show zK u3 x0 = 12 from (h_u3.g 0 rfl)) (hk0 h_u3.1))
      · exact egX11_shares_126 N    x0 x2 u (hkc (show zK u x0 = 12 from (h_u.g 0 rfl)) (hk0 h_u.1))
    · refine eq_bs (fun v4 => ?_)
      refine eq_g (show zK u x0 = 12 from (h_u.g 0 rfl)) ?_
      refine eq_bR (show zR u x0 20 = some (x0 + 10) from lyR_12_20 h_u.1 (h_u.g 0 rfl)) ?_
      refine eq_g (show zK u (x0 + 10) = 22 from (lyK_12_20 h_u.1 (h_u.g 0 rfl))) ?_
      refine eq_ixh (show zN u (x0 + 10) = 144 from lyN_12_20 h_u.1 (h_u.g 0 rfl)) (fun hix1 => ?_)
      refine eq_if ?_ ?_
      · refine eq_g (show zK u x0 = 12 from (h_u.g 0 rfl)) ?_
        refine eq_bR (show zR u x0 23 = some (x0 + 11) from lyR_12_23 h_u.1 (h_u.g 0 rfl)) ?_
        refine eq_g (show zK u (x0 + 11) = 22 from (lyK_12_23 h_u.1 (h_u.g 0 rfl))) ?_
        refine eq_ixh (show zN u (x0 + 11) = 5 from lyN_12_23 h_u.1 (h_u.g 0 rfl)) (fun hix2 => ?_)
        refine eq_g (show zK u x0 = 12 from (h_u.g 0 rfl)) ?_
        refine eq_bR (show zR u x0 20 = some (x0 + 10) from lyR_12_20 h_u.1 (h_u.g 0 rfl)) ?_
        refine eq_g (show zK u (x0 + 10) = 22 from (lyK_12_20 h_u.1 (h_u.g 0 rfl))) ?_
        refine eq_n (by rw [show zN u (x0 + 10) = 144 from lyN_12_20 h_u.1 (h_u.g 0 rfl)]; decide) ?_
        refine eq_if ?_ ?_
        · rfl
        · refine eq_g (show zK u (x0 + 11) = 22 from (lyK_12_23 h_u.1 (h_u.g 0 rfl))) ?_
          refine eq_ixh (show zN u (x0 + 11) = 5 from lyN_12_23 h_u.1 (h_u.g 0 rfl)) (fun hix3 => ?_)
          refine eq_sH (h_u.fr (P := PT) (Fr.sIr trivial)) (fun u12 h_u12 => ?_)
          exact hrc24 x0 x1 x2 (x3 + (1 : Int32)) u12 (hkc (show zK u12 x0 = 12 from (h_u12.g 0 rfl)) (hk0 h_u12.1))
      · refine eq_g (show zK u x0 = 12 from (h_u.g 0 rfl)) ?_
        refine eq_bR (show zR u x0 20 = some (x0 + 10) from lyR_12_20 h_u.1 (h_u.g 0 rfl)) ?_
        refine eq_g (show zK u (x0 + 10) = 22 from (lyK_12_20 h_u.1 (h_u.g 0 rfl))) ?_
        refine eq_ixh (show zN u (x0 + 10) = 144 from lyN_12_20 h_u.1 (h_u.g 0 rfl)) (fun hix4 => ?_)
        refine eq_if ?_ ?_
        · rfl
        · refine eq_g (show zK u (x0 + 10) = 22 from (lyK_12_20 h_u.1 (h_u.g 0 rfl))) ?_
          refine eq_ixh (show zN u (x0 + 10) = 144 from lyN_12_20 h_u.1 (h_u.g 0 rfl)) (fun hix5 => ?_)
          refine eq_sH (h_u.fr (P := PT) (Fr.sIr trivial)) (fun u7 h_u7 => ?_)
          refine eq_g (show zK u7 x0 = 12 from (h_u7.g 0 rfl)) ?_
          refine eq_bR (show zR u7 x0 20 = some (x0 + 10) from lyR_12_20 h_u7.1 (h_u7.g 0 rfl)) ?_
          refine eq_g (show zK u7 (x0 + 10) = 22 from (lyK_12_20 h_u7.1 (h_u7.g 0 rfl))) ?_
          refine eq_ixh (show zN u7 (x0 + 10) = 144 from lyN_12_20 h_u7.1 (h_u7.g 0 rfl)) (fun hix6 => ?_)
          refine eq_g (show zK u7 (x0 + 10) = 22 from (lyK_12_20 h_u7.1 (h_u7.g 0 rfl))) ?_
          refine eq_ixh (show zN u7 (x0 + 10) = 144 from lyN_12_20 h_u7.1 (h_u7.g 0 rfl)) (fun hix7 => ?_)
          refine eq_sH (h_u7.fr (P := PT) (Fr.sIr trivial)) (fun u9 h_u9 => ?_)
          exact hrc24 x0 x1 x2 (x3 + (1 : Int32)) u9 (hkc (show zK u9 x0 = 12 from (h_u9.g 0 rfl)) (hk0 h_u9.1))
set_option maxRecDepth 20000 in
def hX11_shares (N : Nat)  (a0 : Nat) (u : SG) : Option (Int32 × SG) := cl (hX11_costIn N a0 (zI u (a0 + 10) 5) u) fun r2 u3 => (bs ((60 : Int32) * r2) fun v4 => (cl (hX11_sleepers N a0 u3) fun r5 u6 => (cl (fX11_bits N r5 u6) fun r7 u8 => (hgX11_shares_24 N   N a0 v4 r7 (0 : Int32) u8))))
set_option maxRecDepth 20000 in
theorem eX11_shares (N : Nat)  (a0 : Nat) (u : SG) (h_u : HK [(some a0, 12)] u) : fX11_shares N  a0 u = hX11_shares N  a0 u := by
  unfold fX11_shares hX11_shares
  refine eq_g (show zK u a0 = 12 from (h_u.g 0 rfl)) ?_
  refine eq_bR (show zR u a0 20 = some (a0 + 10) from lyR_12_20 h_u.1 (h_u.g 0 rfl)) ?_
  refine eq_g (show zK u (a0 + 10) = 22 from (lyK_12_20 h_u.1 (h_u.g 0 rfl))) ?_
  refine eq_n (by rw [show zN u (a0 + 10) = 144 from lyN_12_20 h_u.1 (h_u.g 0 rfl)]; decide) ?_
  refine eq_g (show zK u a0 = 12 from (h_u.g 0 rfl)) ?_
  refine eq_cH (eX11_costIn N a0 (zI u (a0 + 10) 5) u (hkc (show zK u a0 = 12 from (h_u.g 0 rfl)) (hk0 h_u.1))) (fun r2 u3 e9 => h_u.fr (fr_X11_costIn (P := PT) N a0 (zI u (a0 + 10) 5) u clPT trivial _ _ e9).1) (fun r2 u3 h_u3 => ?_)
  refine eq_bs (fun v4 => ?_)
  refine eq_g (show zK u3 a0 = 12 from (h_u3.g 0 rfl)) ?_
  refine eq_cH (eX11_sleepers N a0 u3 (hkc (show zK u3 a0 = 12 from (h_u3.g 0 rfl)) (hk0 h_u3.1))) (fun r5 u6 e9 => h_u3.fr (fr_X11_sleepers (P := PT) N a0 u3 clPT trivial _ _ e9).1) (fun r5 u6 h_u6 => ?_)
  refine eq_cH rfl (fun r7 u8 e9 => h_u6.fr (fr_X11_bits (P := PT) N r5 u6 clPT _ _ e9).1) (fun r7 u8 h_u8 => ?_)
  exact egX11_shares_24 N   N a0 v4 r7 (0 : Int32) u8 (hkc (show zK u8 a0 = 12 from (h_u8.g 0 rfl)) (hk0 h_u8.1))
set_option maxRecDepth 20000 in
def hX11_passes (N : Nat)  (a0 : Nat) (u : SG) : Option (Int32 × SG) := cl (hX11_wakesWorkers N a0 u) fun r1 u2 => (cl (hX11_sleepsByRule N a0 u2) fun r3 u4 => (cl (hX11_shares N a0 u4) fun r5 u6 => (some (r5, u6))))
set_option maxRecDepth 20000 in
theorem eX11_passes (N : Nat)  (a0 : Nat) (u : SG) (h_u : HK [(some a0, 12)] u) : fX11_passes N  a0 u = hX11_passes N  a0 u := by
  unfold fX11_passes hX11_passes
  refine eq_g (show zK u a0 = 12 from (h_u.g 0 rfl)) ?_
  refine eq_cH (eX11_wakesWorkers N a0 u (hkc (show zK u a0 = 12 from (h_u.g 0 rfl)) (hk0 h_u.1))) (fun r1 u2 e9 => h_u.fr (fr_X11_wakesWorkers (P := PT) N a0 u clPT trivial _ _ e9).1) (fun r1 u2 h_u2 => ?_)
  refine eq_g (show zK u2 a0 = 12 from (h_u2.g 0 rfl)) ?_
  refine eq_cH (eX11_sleepsByRule N a0 u2 (hkc (show zK u2 a0 = 12 from (h_u2.g 0 rfl)) (hk0 h_u2.1))) (fun r3 u4 e9 => h_u2.fr (fr_X11_sleepsByRule (P := PT) N a0 u2 clPT trivial _ _ e9).1) (fun r3 u4 h_u4 => ?_)
  refine eq_g (show zK u4 a0 = 12 from (h_u4.g 0 rfl)) ?_
  refine eq_cH (eX11_shares N a0 u4 (hkc (show zK u4 a0 = 12 from (h_u4.g 0 rfl)) (hk0 h_u4.1))) (fun r5 u6 e9 => h_u4.fr (fr_X11_shares (P := PT) N a0 u4 clPT trivial _ _ e9).1) (fun r5 u6 h_u6 => ?_)
  rfl
set_option maxRecDepth 20000 in
def hgX11_keepsAct_52 (N : Nat)   : Nat → Nat → Int32 → SG → Option (Unit × SG)
  | 0, _, _, _ => none
  | n + 1, x0, x1, u => if (45 : Int32) ≤ x1 then (bs (sI u x0 25 ((zI u x0 25) + (1 : Int32))) fun u1 => (some ((), u1)))
  else (if x1 < 0 ∨ 144 ≤ x1.toNatClampNeg then none else (if (((45 : Int32) * (zI u x0 25)) + x1) < 0 ∨ 900 ≤ (((45 : Int32) * (zI u x0 25)) + x1).toNatClampNeg then none else (bs (sI u (x0 + 12) (((45 : Int32) * (zI u x0 25)) + x1).toNatClampNeg (zI u (x0 + 10) x1.toNatClampNeg)) fun u4 => ((hgX11_keepsAct_52 N   n) x0 (x1 + (1 : Int32)) u4))))
set_option maxRecDepth 20000 in
theorem egX11_keepsAct_52 (N : Nat)   : ∀ (n : Nat) (x0 : Nat) (x1 : Int32) (u : SG), HK [(some x0, 12)] u → gX11_keepsAct_52 N   n x0 x1 u = hgX11_keepsAct_52 N   n x0 x1 u := by
  intro n
  induction n with
  | zero => intros; rfl
  | succ n ih =>
    intro x0 x1 u h_u
    have hrc52 := ih
    rw [gX11_keepsAct_52, hgX11_keepsAct_52]
    refine eq_if ?_ ?_
    · refine eq_g (show zK u x0 = 12 from (h_u.g 0 rfl)) ?_
      refine eq_g (show zK u x0 = 12 from (h_u.g 0 rfl)) ?_
      refine eq_sH (h_u.fr (P := PT) (Fr.sIr trivial)) (fun u1 h_u1 => ?_)
      rfl
    · refine eq_g (show zK u x0 = 12 from (h_u.g 0 rfl)) ?_
      refine eq_bR (show zR u x0 24 = some (x0 + 12) from lyR_12_24 h_u.1 (h_u.g 0 rfl)) ?_
      refine eq_g (show zK u x0 = 12 from (h_u.g 0 rfl)) ?_
      refine eq_g (show zK u x0 = 12 from (h_u.g 0 rfl)) ?_
      refine eq_bR (show zR u x0 20 = some (x0 + 10) from lyR_12_20 h_u.1 (h_u.g 0 rfl)) ?_
      refine eq_g (show zK u (x0 + 10) = 22 from (lyK_12_20 h_u.1 (h_u.g 0 rfl))) ?_
      refine eq_ixh (show zN u (x0 + 10) = 144 from lyN_12_20 h_u.1 (h_u.g 0 rfl)) (fun hix1 => ?_)
      refine eq_g (show zK u (x0 + 12) = 22 from (lyK_12_24 h_u.1 (h_u.g 0 rfl))) ?_
      refine eq_ixh (show zN u (x0 + 12) = 900 from lyN_12_24 h_u.1 (h_u.g 0 rfl)) (fun hix2 => ?_)
      refine eq_sH (h_u.fr (P := PT) (Fr.sIr trivial)) (fun u4 h_u4 => ?_)
      exact hrc52 x0 (x1 + (1 : Int32)) u4 (hkc (show zK u4 x0 = 12 from (h_u4.g 0 rfl)) (hk0 h_u4.1))
set_option maxRecDepth 20000 in
def hgX11_keepsAct_12 (N : Nat)   : Nat → Nat → Int32 → SG → Option (Unit × SG)
  | 0, _, _, _ => none
  | n + 1, x0, x1, u => if (900 : Int32) ≤ x1 then (bs (sI u x0 25 ((zI u x0 25) - (1 : Int32))) fun u1 => (hgX11_keepsAct_52 N   N x0 (0 : Int32) u1))
  else (if x1 < 0 ∨ 900 ≤ x1.toNatClampNeg then none else (if (x1 - (45 : Int32)) < 0 ∨ 900 ≤ (x1 - (45 : Int32)).toNatClampNeg then none else (bs (sI u (x0 + 12) (x1 - (45 : Int32)).toNatClampNeg (zI u (x0 + 12) x1.toNatClampNeg)) fun u4 => ((hgX11_keepsAct_12 N   n) x0 (x1 + (1 : Int32)) u4))))
set_option maxRecDepth 20000 in
theorem egX11_keepsAct_12 (N : Nat)   : ∀ (n : Nat) (x0 : Nat) (x1 : Int32) (u : SG), HK [(some x0, 12)] u → gX11_keepsAct_12 N   n x0 x1 u = hgX11_keepsAct_12 N   n x0 x1 u := by
  intro n
  induction n with
  | zero => intros; rfl
  | succ n ih =>
    intro x0 x1 u h_u
    have hrc12 := ih
    rw [gX11_keepsAct_12, hgX11_keepsAct_12]
    refine eq_if ?_ ?_
    · refine eq_g (show zK u x0 = 12 from (h_u.g 0 rfl)) ?_
      refine eq_g (show zK u x0 = 12 from (h_u.g 0 rfl)) ?_
      refine eq_sH (h_u.fr (P := PT) (Fr.sIr trivial)) (fun u1 h_u1 => ?_)
      exact egX11_keepsAct_52 N   N x0 (0 : Int32) u1 (hkc (show zK u1 x0 = 12 from (h_u1.g 0 rfl)) (hk0 h_u1.1))
    · refine eq_g (show zK u x0 = 12 from (h_u.g 0 rfl)) ?_
      refine eq_bR (show zR u x0 24 = some (x0 + 12) from lyR_12_24 h_u.1 (h_u.g 0 rfl)) ?_
      refine eq_g (show zK u x0 = 12 from (h_u.g 0 rfl)) ?_
      refine eq_bR (show zR u x0 24 = some (x0 + 12) from lyR_12_24 h_u.1 (h_u.g 0 rfl)) ?_
      refine eq_g (show zK u (x0 + 12) = 22 from (lyK_12_24 h_u.1 (h_u.g 0 rfl))) ?_
      refine eq_ixh (show zN u (x0 + 12) = 900 from lyN_12_24 h_u.1 (h_u.g 0 rfl)) (fun hix1 => ?_)
      refine eq_g (show zK u (x0 + 12) = 22 from (lyK_12_24 h_u.1 (h_u.g 0 rfl))) ?_
      refine eq_ixh (show zN u (x0 + 12) = 900 from lyN_12_24 h_u.1 (h_u.g 0 rfl)) (fun hix2 => ?_)
      refine eq_sH (h_u.fr (P := PT) (Fr.sIr trivial)) (fun u4 h_u4 => ?_)
      exact hrc12 x0 (x1 + (1 : Int32)) u4 (hkc (show zK u4 x0 = 12 from (h_u4.g 0 rfl)) (hk0 h_u4.1))
set_option maxRecDepth 20000 in
def hX11_keepsAct (N : Nat)  (a0 : Nat) (u : SG) : Option (Unit × SG) := if (zI u a0 25) = (20 : Int32) then (hgX11_keepsAct_12 N   N a0 (45 : Int32) u)
  else (hgX11_keepsAct_52 N   N a0 (0 : Int32) u)
set_option maxRecDepth 20000 in
theorem eX11_keepsAct (N : Nat)  (a0 : Nat) (u : SG) (h_u : HK [(some a0, 12)] u) : fX11_keepsAct N  a0 u = hX11_keepsAct N  a0 u := by
  unfold fX11_keepsAct hX11_keepsAct
  refine eq_g (show zK u a0 = 12 from (h_u.g 0 rfl)) ?_
  refine eq_if ?_ ?_
  · exact egX11_keepsAct_12 N   N a0 (45 : Int32) u (hkc (show zK u a0 = 12 from (h_u.g 0 rfl)) (hk0 h_u.1))
  · exact egX11_keepsAct_52 N   N a0 (0 : Int32) u (hkc (show zK u a0 = 12 from (h_u.g 0 rfl)) (hk0 h_u.1))
set_option maxRecDepth 20000 in
def hgX11_undo_21 (N : Nat)   : Nat → Nat → Int32 → SG → Option (Int32 × SG)
  | 0, _, _, _ => none
  | n + 1, x0, x1, u => if (45 : Int32) ≤ x1 then (some (zI u x0 25, u))
  else (if (((45 : Int32) * (zI u x0 25)) + x1) < 0 ∨ 900 ≤ (((45 : Int32) * (zI u x0 25)) + x1).toNatClampNeg then none else (if x1 < 0 ∨ 144 ≤ x1.toNatClampNeg then none else (bs (sI u (x0 + 10) x1.toNatClampNeg (zI u (x0 + 12) (((45 : Int32) * (zI u x0 25)) + x1).toNatClampNeg)) fun u3 => ((hgX11_undo_21 N   n) x0 (x1 + (1 : Int32)) u3))))
set_option maxRecDepth 20000 in
theorem egX11_undo_21 (N : Nat)   : ∀ (n : Nat) (x0 : Nat) (x1 : Int32) (u : SG), HK [(some x0, 12)] u → gX11_undo_21 N   n x0 x1 u = hgX11_undo_21 N   n x0 x1 u := by
  intro n
  induction n with
  | zero => intros; rfl
  | succ n ih =>
    intro x0 x1 u h_u
    have hrc21 := ih
    rw [gX11_undo_21, hgX11_undo_21]
    refine eq_if ?_ ?_
    · refine eq_g (show zK u x0 = 12 from (h_u.g 0 rfl)) ?_
      rfl
    · refine eq_g (show zK u x0 = 12 from (h_u.g 0 rfl)) ?_
      refine eq_bR (show zR u x0 20 = some (x0 + 10) from lyR_12_20 h_u.1 (h_u.g 0 rfl)) ?_
      refine eq_g (show zK u x0 = 12 from (h_u.g 0 rfl)) ?_
      refine eq_bR (show zR u x0 24 = some (x0 + 12) from lyR_12_24 h_u.1 (h_u.g 0 rfl)) ?_
      refine eq_g (show zK u x0 = 12 from (h_u.g 0 rfl)) ?_
      refine eq_g (show zK u (x0 + 12) = 22 from (lyK_12_24 h_u.1 (h_u.g 0 rfl))) ?_
      refine eq_ixh (show zN u (x0 + 12) = 900 from lyN_12_24 h_u.1 (h_u.g 0 rfl)) (fun hix1 => ?_)
      refine eq_g (show zK u (x0 + 10) = 22 from (lyK_12_20 h_u.1 (h_u.g 0 rfl))) ?_
      refine eq_ixh (show zN u (x0 + 10) = 144 from lyN_12_20 h_u.1 (h_u.g 0 rfl)) (fun hix2 => ?_)
      refine eq_sH (h_u.fr (P := PT) (Fr.sIr trivial)) (fun u3 h_u3 => ?_)
      exact hrc21 x0 (x1 + (1 : Int32)) u3 (hkc (show zK u3 x0 = 12 from (h_u3.g 0 rfl)) (hk0 h_u3.1))
set_option maxRecDepth 20000 in
def hX11_undo (N : Nat)  (a0 : Nat) (u : SG) : Option (Int32 × SG) := if (zI u a0 25) = 0 then (some ((-1 : Int32), u))
  else (bs (sI u a0 25 ((zI u a0 25) - (1 : Int32))) fun u1 => (hgX11_undo_21 N   N a0 (0 : Int32) u1))
set_option maxRecDepth 20000 in
theorem eX11_undo (N : Nat)  (a0 : Nat) (u : SG) (h_u : HK [(some a0, 12)] u) : fX11_undo N  a0 u = hX11_undo N  a0 u := by
  unfold fX11_undo hX11_undo
  refine eq_g (show zK u a0 = 12 from (h_u.g 0 rfl)) ?_
  refine eq_if ?_ ?_
  · rfl
  · refine eq_g (show zK u a0 = 12 from (h_u.g 0 rfl)) ?_
    refine eq_g (show zK u a0 = 12 from (h_u.g 0 rfl)) ?_
    refine eq_sH (h_u.fr (P := PT) (Fr.sIr trivial)) (fun u1 h_u1 => ?_)
    exact egX11_undo_21 N   N a0 (0 : Int32) u1 (hkc (show zK u1 a0 = 12 from (h_u1.g 0 rfl)) (hk0 h_u1.1))
set_option maxRecDepth 20000 in
def hgX11_hour_39 (N : Nat)   (x0 : Nat) (u : SG) : Option (Int32 × SG) := cl (hX11_keepsAct N x0 u) fun r1 u2 => (cl (hX11_passes N x0 u2) fun r3 u4 => (some (r3, u4)))
set_option maxRecDepth 20000 in
theorem egX11_hour_39 (N : Nat)   (x0 : Nat) (u : SG) (h_u : HK [(some x0, 12)] u) : gX11_hour_39 N   x0 u = hgX11_hour_39 N   x0 u := by
  unfold gX11_hour_39 hgX11_hour_39
  refine eq_g (show zK u x0 = 12 from (h_u.g 0 rfl)) ?_
  refine eq_cH (eX11_keepsAct N x0 u (hkc (show zK u x0 = 12 from (h_u.g 0 rfl)) (hk0 h_u.1))) (fun r1 u2 e9 => h_u.fr (fr_X11_keepsAct (P := PT) N x0 u clPT trivial _ _ e9).1) (fun r1 u2 h_u2 => ?_)
  refine eq_g (show zK u2 x0 = 12 from (h_u2.g 0 rfl)) ?_
  refine eq_cH (eX11_passes N x0 u2 (hkc (show zK u2 x0 = 12 from (h_u2.g 0 rfl)) (hk0 h_u2.1))) (fun r3 u4 e9 => h_u2.fr (fr_X11_passes (P := PT) N x0 u2 clPT trivial _ _ e9).1) (fun r3 u4 h_u4 => ?_)
  rfl
set_option maxRecDepth 20000 in
def hX11_hour (N : Nat)  (a0 : Nat) (u : SG) : Option (Int32 × SG) := cl (hX11_isStreet N a0 u) fun r1 u2 => (if r1 = 0 then (some ((-1 : Int32), u2))
  else (if (zI u2 (a0 + 10) 6) = (999 : Int32) then (if (zI u2 (a0 + 10) 5) = ((zI u2 (a0 + 10) 0) - (1 : Int32)) then (some ((-1 : Int32), u2))
  else (hgX11_hour_39 N    a0 u2))
  else (hgX11_hour_39 N    a0 u2)))
set_option maxRecDepth 20000 in
theorem eX11_hour (N : Nat)  (a0 : Nat) (u : SG) (h_u : HK [(some a0, 12)] u) : fX11_hour N  a0 u = hX11_hour N  a0 u := by
  unfold fX11_hour hX11_hour
  refine eq_g (show zK u a0 = 12 from (h_u.g 0 rfl)) ?_
  refine eq_cH (eX11_isStreet N a0 u (hkc (show zK u a0 = 12 from (h_u.g 0 rfl)) (hk0 h_u.1))) (fun r1 u2 e9 => h_u.fr (fr_X11_isStreet (P := PT) N a0 u clPT trivial _ _ e9).1) (fun r1 u2 h_u2 => ?_)
  refine eq_if ?_ ?_
  · rfl
  · refine eq_g (show zK u2 a0 = 12 from (h_u2.g 0 rfl)) ?_
    refine eq_bR (show zR u2 a0 20 = some (a0 + 10) from lyR_12_20 h_u2.1 (h_u2.g 0 rfl)) ?_
    refine eq_g (show zK u2 (a0 + 10) = 22 from (lyK_12_20 h_u2.1 (h_u2.g 0 rfl))) ?_
    refine eq_n (by rw [show zN u2 (a0 + 10) = 144 from lyN_12_20 h_u2.1 (h_u2.g 0 rfl)]; decide) ?_
    refine eq_if ?_ ?_
    · refine eq_g (show zK u2 a0 = 12 from (h_u2.g 0 rfl)) ?_
      refine eq_bR (show zR u2 a0 20 = some (a0 + 10) from lyR_12_20 h_u2.1 (h_u2.g 0 rfl)) ?_
      refine eq_g (show zK u2 (a0 + 10) = 22 from (lyK_12_20 h_u2.1 (h_u2.g 0 rfl))) ?_
      refine eq_n (by rw [show zN u2 (a0 + 10) = 144 from lyN_12_20 h_u2.1 (h_u2.g 0 rfl)]; decide) ?_
      refine eq_g (show zK u2 a0 = 12 from (h_u2.g 0 rfl)) ?_
      refine eq_bR (show zR u2 a0 20 = some (a0 + 10) from lyR_12_20 h_u2.1 (h_u2.g 0 rfl)) ?_
      refine eq_g (show zK u2 (a0 + 10) = 22 from (lyK_12_20 h_u2.1 (h_u2.g 0 rfl))) ?_
      refine eq_n (by rw [show zN u2 (a0 + 10) = 144 from lyN_12_20 h_u2.1 (h_u2.g 0 rfl)]; decide) ?_
      refine eq_if ?_ ?_
      · rfl
      · exact egX11_hour_39 N    a0 u2 (hkc (show zK u2 a0 = 12 from (h_u2.g 0 rfl)) (hk0 h_u2.1))
    · exact egX11_hour_39 N    a0 u2 (hkc (show zK u2 a0 = 12 from (h_u2.g 0 rfl)) (hk0 h_u2.1))
set_option maxRecDepth 20000 in
def hgX11_sleep_47 (N : Nat)   (x0 : Nat) (x1 : Int32) (x2 : Int32) (u : SG) : Option (Int32 × SG) := cl (hX11_keepsAct N x0 u) fun r1 u2 => (cl (hX11_setsAsleep N x0 x1 x2 u2) fun r3 u4 => (some ((1 : Int32), u4)))
set_option maxRecDepth 20000 in
theorem egX11_sleep_47 (N : Nat)   (x0 : Nat) (x1 : Int32) (x2 : Int32) (u : SG) (h_u : HK [(some x0, 12)] u) : gX11_sleep_47 N   x0 x1 x2 u = hgX11_sleep_47 N   x0 x1 x2 u := by
  unfold gX11_sleep_47 hgX11_sleep_47
  refine eq_g (show zK u x0 = 12 from (h_u.g 0 rfl)) ?_
  refine eq_cH (eX11_keepsAct N x0 u (hkc (show zK u x0 = 12 from (h_u.g 0 rfl)) (hk0 h_u.1))) (fun r1 u2 e9 => h_u.fr (fr_X11_keepsAct (P := PT) N x0 u clPT trivial _ _ e9).1) (fun r1 u2 h_u2 => ?_)
  refine eq_g (show zK u2 x0 = 12 from (h_u2.g 0 rfl)) ?_
  refine eq_cH (eX11_setsAsleep N x0 x1 x2 u2 (hkc (show zK u2 x0 = 12 from (h_u2.g 0 rfl)) (hk0 h_u2.1))) (fun r3 u4 e9 => h_u2.fr (fr_X11_setsAsleep (P := PT) N x0 x1 x2 u2 clPT trivial _ _ e9).1) (fun r3 u4 h_u4 => ?_)
  rfl
set_option maxRecDepth 20000 in
def hgX11_sleep_23 (N : Nat)   (x0 : Nat) (x1 : Int32) (x2 : Int32) (s0 : Int32) (u : SG) : Option (Int32 × SG) := if s0 = x2 then (some ((0 : Int32), u))
  else (if x2 = 0 then (hgX11_sleep_47 N    x0 x1 x2 u)
  else (cl (hX11_worksIn N x0 x1 (zI u (x0 + 10) 5) u) fun r2 u3 => (if r2 = 0 then (hgX11_sleep_47 N    x0 x1 x2 u3)
  else (some ((0 : Int32), u3)))))
set_option maxRecDepth 20000 in
theorem egX11_sleep_23 (N : Nat)   (x0 : Nat) (x1 : Int32) (x2 : Int32) (s0 : Int32) (u : SG) (h_u : HK [(some x0, 12)] u) : gX11_sleep_23 N   x0 x1 x2 s0 u = hgX11_sleep_23 N   x0 x1 x2 s0 u := by
  unfold gX11_sleep_23 hgX11_sleep_23
  refine eq_if ?_ ?_
  · rfl
  · refine eq_if ?_ ?_
    · exact egX11_sleep_47 N    x0 x1 x2 u (hkc (show zK u x0 = 12 from (h_u.g 0 rfl)) (hk0 h_u.1))
    · refine eq_g (show zK u x0 = 12 from (h_u.g 0 rfl)) ?_
      refine eq_bR (show zR u x0 20 = some (x0 + 10) from lyR_12_20 h_u.1 (h_u.g 0 rfl)) ?_
      refine eq_g (show zK u (x0 + 10) = 22 from (lyK_12_20 h_u.1 (h_u.g 0 rfl))) ?_
      refine eq_n (by rw [show zN u (x0 + 10) = 144 from lyN_12_20 h_u.1 (h_u.g 0 rfl)]; decide) ?_
      refine eq_g (show zK u x0 = 12 from (h_u.g 0 rfl)) ?_
      refine eq_cH (eX11_worksIn N x0 x1 (zI u (x0 + 10) 5) u (hkc (show zK u x0 = 12 from (h_u.g 0 rfl)) (hk0 h_u.1))) (fun r2 u3 e9 => h_u.fr (fr_X11_worksIn (P := PT) N x0 x1 (zI u (x0 + 10) 5) u clPT trivial _ _ e9).1) (fun r2 u3 h_u3 => ?_)
      refine eq_if ?_ ?_
      · exact egX11_sleep_47 N    x0 x1 x2 u3 (hkc (show zK u3 x0 = 12 from (h_u3.g 0 rfl)) (hk0 h_u3.1))
      · rfl
set_option maxRecDepth 20000 in
def hX11_sleep (N : Nat)  (a0 : Nat) (p1 : Int32) (p2 : Int32) (u : SG) : Option (Int32 × SG) := cl (hX11_isPerson N a0 p1 u) fun r1 u2 => (if r1 = 0 then (some ((0 : Int32), u2))
  else (cl (hX11_personOf N a0 p1 (2 : Int32) u2) fun r3 u4 => (if r3 = (1 : Int32) then (hgX11_sleep_23 N    a0 p1 p2 (1 : Int32) u4)
  else (hgX11_sleep_23 N    a0 p1 p2 (0 : Int32) u4))))
set_option maxRecDepth 20000 in
theorem eX11_sleep (N : Nat)  (a0 : Nat) (p1 : Int32) (p2 : Int32) (u : SG) (h_u : HK [(some a0, 12)] u) : fX11_sleep N  a0 p1 p2 u = hX11_sleep N  a0 p1 p2 u := by
  unfold fX11_sleep hX11_sleep
  refine eq_g (show zK u a0 = 12 from (h_u.g 0 rfl)) ?_
  refine eq_cH (eX11_isPerson N a0 p1 u (hkc (show zK u a0 = 12 from (h_u.g 0 rfl)) (hk0 h_u.1))) (fun r1 u2 e9 => h_u.fr (fr_X11_isPerson (P := PT) N a0 p1 u clPT trivial _ _ e9).1) (fun r1 u2 h_u2 => ?_)
  refine eq_if ?_ ?_
  · rfl
  · refine eq_g (show zK u2 a0 = 12 from (h_u2.g 0 rfl)) ?_
    refine eq_cH (eX11_personOf N a0 p1 (2 : Int32) u2 (hkc (show zK u2 a0 = 12 from (h_u2.g 0 rfl)) (hk0 h_u2.1))) (fun r3 u4 e9 => h_u2.fr (fr_X11_personOf (P := PT) N a0 p1 (2 : Int32) u2 clPT trivial _ _ e9).1) (fun r3 u4 h_u4 => ?_)
    refine eq_if ?_ ?_
    · exact egX11_sleep_23 N    a0 p1 p2 (1 : Int32) u4 (hkc (show zK u4 a0 = 12 from (h_u4.g 0 rfl)) (hk0 h_u4.1))
    · exact egX11_sleep_23 N    a0 p1 p2 (0 : Int32) u4 (hkc (show zK u4 a0 = 12 from (h_u4.g 0 rfl)) (hk0 h_u4.1))
set_option maxRecDepth 20000 in
def hX11_light (N : Nat)  (a0 : Nat) (p1 : Int32) (p2 : Int32) (u : SG) : Option (Int32 × SG) := cl (hX11_isLamp N a0 p1 u) fun r1 u2 => (if r1 = 0 then (some ((0 : Int32), u2))
  else (cl (hX11_burnsIn N a0 p1 (zI u2 (a0 + 10) 5) u2) fun r4 u5 => (if r4 = p2 then (some ((0 : Int32), u5))
  else (cl (hX11_keepsAct N a0 u5) fun r6 u7 => (if p2 = 0 then (if ((40 : Int32) + p1) < 0 ∨ 144 ≤ ((40 : Int32) + p1).toNatClampNeg then none else (bs (sI u7 (a0 + 10) ((40 : Int32) + p1).toNatClampNeg (2 : Int32)) fun u9 => (some ((1 : Int32), u9))))
  else (if ((40 : Int32) + p1) < 0 ∨ 144 ≤ ((40 : Int32) + p1).toNatClampNeg then none else (bs (sI u7 (a0 + 10) ((40 : Int32) + p1).toNatClampNeg (1 : Int32)) fun u10 => (some ((1 : Int32), u10)))))))))
set_option maxRecDepth 20000 in
theorem eX11_light (N : Nat)  (a0 : Nat) (p1 : Int32) (p2 : Int32) (u : SG) (h_u : HK [(some a0, 12)] u) : fX11_light N  a0 p1 p2 u = hX11_light N  a0 p1 p2 u := by
  unfold fX11_light hX11_light
  refine eq_g (show zK u a0 = 12 from (h_u.g 0 rfl)) ?_
  refine eq_cH (eX11_isLamp N a0 p1 u (hkc (show zK u a0 = 12 from (h_u.g 0 rfl)) (hk0 h_u.1))) (fun r1 u2 e9 => h_u.fr (fr_X11_isLamp (P := PT) N a0 p1 u clPT trivial _ _ e9).1) (fun r1 u2 h_u2 => ?_)
  refine eq_if ?_ ?_
  · rfl
  · refine eq_g (show zK u2 a0 = 12 from (h_u2.g 0 rfl)) ?_
    refine eq_bR (show zR u2 a0 20 = some (a0 + 10) from lyR_12_20 h_u2.1 (h_u2.g 0 rfl)) ?_
    refine eq_g (show zK u2 (a0 + 10) = 22 from (lyK_12_20 h_u2.1 (h_u2.g 0 rfl))) ?_
    refine eq_n (by rw [show zN u2 (a0 + 10) = 144 from lyN_12_20 h_u2.1 (h_u2.g 0 rfl)]; decide) ?_
    refine eq_g (show zK u2 a0 = 12 from (h_u2.g 0 rfl)) ?_
    refine eq_cH (eX11_burnsIn N a0 p1 (zI u2 (a0 + 10) 5) u2 (hkc (show zK u2 a0 = 12 from (h_u2.g 0 rfl)) (hk0 h_u2.1))) (fun r4 u5 e9 => h_u2.fr (fr_X11_burnsIn (P := PT) N a0 p1 (zI u2 (a0 + 10) 5) u2 clPT trivial _ _ e9).1) (fun r4 u5 h_u5 => ?_)
    refine eq_if ?_ ?_
    · rfl
    · refine eq_g (show zK u5 a0 = 12 from (h_u5.g 0 rfl)) ?_
      refine eq_cH (eX11_keepsAct N a0 u5 (hkc (show zK u5 a0 = 12 from (h_u5.g 0 rfl)) (hk0 h_u5.1))) (fun r6 u7 e9 => h_u5.fr (fr_X11_keepsAct (P := PT) N a0 u5 clPT trivial _ _ e9).1) (fun r6 u7 h_u7 => ?_)
      refine eq_g (show zK u7 a0 = 12 from (h_u7.g 0 rfl)) ?_
      refine eq_bR (show zR u7 a0 20 = some (a0 + 10) from lyR_12_20 h_u7.1 (h_u7.g 0 rfl)) ?_
      refine eq_if ?_ ?_
      · refine eq_g (show zK u7 (a0 + 10) = 22 from (lyK_12_20 h_u7.1 (h_u7.g 0 rfl))) ?_
        refine eq_ixh (show zN u7 (a0 + 10) = 144 from lyN_12_20 h_u7.1 (h_u7.g 0 rfl)) (fun hix1 => ?_)
        refine eq_sH (h_u7.fr (P := PT) (Fr.sIr trivial)) (fun u9 h_u9 => ?_)
        rfl
      · refine eq_g (show zK u7 (a0 + 10) = 22 from (lyK_12_20 h_u7.1 (h_u7.g 0 rfl))) ?_
        refine eq_ixh (show zN u7 (a0 + 10) = 144 from lyN_12_20 h_u7.1 (h_u7.g 0 rfl)) (fun hix2 => ?_)
        refine eq_sH (h_u7.fr (P := PT) (Fr.sIr trivial)) (fun u10 h_u10 => ?_)
        rfl
set_option maxRecDepth 20000 in
def hgX11_owed_53 (N : Nat)   (x2 : Int32) (s0 : Int32) (u : SG) : Option (Int32 × SG) := cl (fX11_fraction N s0 (60 : Int32) x2 u) fun r1 u2 => (some (r1, u2))
set_option maxRecDepth 20000 in
theorem egX11_owed_53 (N : Nat)   (x2 : Int32) (s0 : Int32) (u : SG) (h_u : HK [] u) : gX11_owed_53 N   x2 s0 u = hgX11_owed_53 N   x2 s0 u := by
  unfold gX11_owed_53 hgX11_owed_53
  refine eq_cH rfl (fun r1 u2 e9 => h_u.fr (fr_X11_fraction (P := PT) N s0 (60 : Int32) x2 u clPT _ _ e9).1) (fun r1 u2 h_u2 => ?_)
  rfl
set_option maxRecDepth 20000 in
def hgX11_owed_20 (N : Nat)   (x0 : Nat) (x1 : Int32) (x2 : Int32) (u : SG) : Option (Int32 × SG) := cl (fX11_in N x2.toInt64 (0 : Int64) (1 : Int64) u) fun r1 u2 => (if r1 = 0 then (some ((-1 : Int32), u2))
  else (if x1 = (-1 : Int32) then (hgX11_owed_53 N    x2 (zI u2 (x0 + 10) 7) u2)
  else (cl (hX11_personOf N x0 x1 (5 : Int32) u2) fun r3 u4 => (hgX11_owed_53 N    x2 r3 u4))))
set_option maxRecDepth 20000 in
theorem egX11_owed_20 (N : Nat)   (x0 : Nat) (x1 : Int32) (x2 : Int32) (u : SG) (h_u : HK [(some x0, 12)] u) : gX11_owed_20 N   x0 x1 x2 u = hgX11_owed_20 N   x0 x1 x2 u := by
  unfold gX11_owed_20 hgX11_owed_20
  refine eq_cH rfl (fun r1 u2 e9 => h_u.fr (fr_X11_in (P := PT) N x2.toInt64 (0 : Int64) (1 : Int64) u clPT _ _ e9).1) (fun r1 u2 h_u2 => ?_)
  refine eq_if ?_ ?_
  · rfl
  · refine eq_if ?_ ?_
    · refine eq_g (show zK u2 x0 = 12 from (h_u2.g 0 rfl)) ?_
      refine eq_bR (show zR u2 x0 20 = some (x0 + 10) from lyR_12_20 h_u2.1 (h_u2.g 0 rfl)) ?_
      refine eq_g (show zK u2 (x0 + 10) = 22 from (lyK_12_20 h_u2.1 (h_u2.g 0 rfl))) ?_
      refine eq_n (by rw [show zN u2 (x0 + 10) = 144 from lyN_12_20 h_u2.1 (h_u2.g 0 rfl)]; decide) ?_
      exact egX11_owed_53 N    x2 (zI u2 (x0 + 10) 7) u2 (hk0 h_u2.1)
    · refine eq_g (show zK u2 x0 = 12 from (h_u2.g 0 rfl)) ?_
      refine eq_cH (eX11_personOf N x0 x1 (5 : Int32) u2 (hkc (show zK u2 x0 = 12 from (h_u2.g 0 rfl)) (hk0 h_u2.1))) (fun r3 u4 e9 => h_u2.fr (fr_X11_personOf (P := PT) N x0 x1 (5 : Int32) u2 clPT trivial _ _ e9).1) (fun r3 u4 h_u4 => ?_)
      exact egX11_owed_53 N    x2 r3 u4 (hk0 h_u4.1)
set_option maxRecDepth 20000 in
def hX11_owed (N : Nat)  (a0 : Nat) (p1 : Int32) (p2 : Int32) (u : SG) : Option (Int32 × SG) := cl (hX11_isStreet N a0 u) fun r1 u2 => (if r1 = 0 then (some ((-1 : Int32), u2))
  else (if p1 = (-1 : Int32) then (hgX11_owed_20 N    a0 p1 p2 u2)
  else (cl (hX11_isPerson N a0 p1 u2) fun r3 u4 => (if r3 = 0 then (some ((-1 : Int32), u4))
  else (hgX11_owed_20 N    a0 p1 p2 u4)))))
set_option maxRecDepth 20000 in
theorem eX11_owed (N : Nat)  (a0 : Nat) (p1 : Int32) (p2 : Int32) (u : SG) (h_u : HK [(some a0, 12)] u) : fX11_owed N  a0 p1 p2 u = hX11_owed N  a0 p1 p2 u := by
  unfold fX11_owed hX11_owed
  refine eq_g (show zK u a0 = 12 from (h_u.g 0 rfl)) ?_
  refine eq_cH (eX11_isStreet N a0 u (hkc (show zK u a0 = 12 from (h_u.g 0 rfl)) (hk0 h_u.1))) (fun r1 u2 e9 => h_u.fr (fr_X11_isStreet (P := PT) N a0 u clPT trivial _ _ e9).1) (fun r1 u2 h_u2 => ?_)
  refine eq_if ?_ ?_
  · rfl
  · refine eq_if ?_ ?_
    · exact egX11_owed_20 N    a0 p1 p2 u2 (hkc (show zK u2 a0 = 12 from (h_u2.g 0 rfl)) (hk0 h_u2.1))
    · refine eq_g (show zK u2 a0 = 12 from (h_u2.g 0 rfl)) ?_
      refine eq_cH (eX11_isPerson N a0 p1 u2 (hkc (show zK u2 a0 = 12 from (h_u2.g 0 rfl)) (hk0 h_u2.1))) (fun r3 u4 e9 => h_u2.fr (fr_X11_isPerson (P := PT) N a0 p1 u2 clPT trivial _ _ e9).1) (fun r3 u4 h_u4 => ?_)
      refine eq_if ?_ ?_
      · rfl
      · exact egX11_owed_20 N    a0 p1 p2 u4 (hkc (show zK u4 a0 = 12 from (h_u4.g 0 rfl)) (hk0 h_u4.1))
set_option maxRecDepth 20000 in
def hgX11_keeps_28 (N : Nat)   : Nat → Nat → Int32 → SG → Option (Unit × SG)
  | 0, _, _, _ => none
  | n + 1, x0, x1, u => if (5 : Int32) ≤ x1 then (some ((), u))
  else (if x1 < 0 ∨ 5 ≤ x1.toNatClampNeg then none else (bs (sI u (x0 + 11) x1.toNatClampNeg (0 : Int32)) fun u2 => ((hgX11_keeps_28 N   n) x0 (x1 + (1 : Int32)) u2)))
set_option maxRecDepth 20000 in
theorem egX11_keeps_28 (N : Nat)   : ∀ (n : Nat) (x0 : Nat) (x1 : Int32) (u : SG), HK [(some x0, 12)] u → gX11_keeps_28 N   n x0 x1 u = hgX11_keeps_28 N   n x0 x1 u := by
  intro n
  induction n with
  | zero => intros; rfl
  | succ n ih =>
    intro x0 x1 u h_u
    have hrc28 := ih
    rw [gX11_keeps_28, hgX11_keeps_28]
    refine eq_if ?_ ?_
    · rfl
    · refine eq_g (show zK u x0 = 12 from (h_u.g 0 rfl)) ?_
      refine eq_bR (show zR u x0 23 = some (x0 + 11) from lyR_12_23 h_u.1 (h_u.g 0 rfl)) ?_
      refine eq_g (show zK u (x0 + 11) = 22 from (lyK_12_23 h_u.1 (h_u.g 0 rfl))) ?_
      refine eq_ixh (show zN u (x0 + 11) = 5 from lyN_12_23 h_u.1 (h_u.g 0 rfl)) (fun hix1 => ?_)
      refine eq_sH (h_u.fr (P := PT) (Fr.sIr trivial)) (fun u2 h_u2 => ?_)
      exact hrc28 x0 (x1 + (1 : Int32)) u2 (hkc (show zK u2 x0 = 12 from (h_u2.g 0 rfl)) (hk0 h_u2.1))
set_option maxRecDepth 20000 in
def hgX11_keeps_2 (N : Nat)   : Nat → Nat → Int32 → SG → Option (Unit × SG)
  | 0, _, _, _ => none
  | n + 1, x0, x1, u => if (45 : Int32) ≤ x1 then (hgX11_keeps_28 N   N x0 (0 : Int32) u)
  else (if x1 < 0 ∨ 144 ≤ x1.toNatClampNeg then none else (if x1 < 0 ∨ 45 ≤ x1.toNatClampNeg then none else (bs (sI u (x0 + 13) x1.toNatClampNeg (zI u (x0 + 10) x1.toNatClampNeg)) fun u3 => ((hgX11_keeps_2 N   n) x0 (x1 + (1 : Int32)) u3))))
set_option maxRecDepth 20000 in
theorem egX11_keeps_2 (N : Nat)   : ∀ (n : Nat) (x0 : Nat) (x1 : Int32) (u : SG), HK [(some x0, 12)] u → gX11_keeps_2 N   n x0 x1 u = hgX11_keeps_2 N   n x0 x1 u := by
  intro n
  induction n with
  | zero => intros; rfl
  | succ n ih =>
    intro x0 x1 u h_u
    have hrc2 := ih
    rw [gX11_keeps_2, hgX11_keeps_2]
    refine eq_if ?_ ?_
    · exact egX11_keeps_28 N   N x0 (0 : Int32) u (hkc (show zK u x0 = 12 from (h_u.g 0 rfl)) (hk0 h_u.1))
    · refine eq_g (show zK u x0 = 12 from (h_u.g 0 rfl)) ?_
      refine eq_bR (show zR u x0 26 = some (x0 + 13) from lyR_12_26 h_u.1 (h_u.g 0 rfl)) ?_
      refine eq_g (show zK u x0 = 12 from (h_u.g 0 rfl)) ?_
      refine eq_bR (show zR u x0 20 = some (x0 + 10) from lyR_12_20 h_u.1 (h_u.g 0 rfl)) ?_
      refine eq_g (show zK u (x0 + 10) = 22 from (lyK_12_20 h_u.1 (h_u.g 0 rfl))) ?_
      refine eq_ixh (show zN u (x0 + 10) = 144 from lyN_12_20 h_u.1 (h_u.g 0 rfl)) (fun hix1 => ?_)
      refine eq_g (show zK u (x0 + 13) = 22 from (lyK_12_26 h_u.1 (h_u.g 0 rfl))) ?_
      refine eq_ixh (show zN u (x0 + 13) = 45 from lyN_12_26 h_u.1 (h_u.g 0 rfl)) (fun hix2 => ?_)
      refine eq_sH (h_u.fr (P := PT) (Fr.sIr trivial)) (fun u3 h_u3 => ?_)
      exact hrc2 x0 (x1 + (1 : Int32)) u3 (hkc (show zK u3 x0 = 12 from (h_u3.g 0 rfl)) (hk0 h_u3.1))
set_option maxRecDepth 20000 in
def hX11_keeps (N : Nat)  (a0 : Nat) (u : SG) : Option (Unit × SG) := hgX11_keeps_2 N   N a0 (0 : Int32) u
set_option maxRecDepth 20000 in
theorem eX11_keeps (N : Nat)  (a0 : Nat) (u : SG) (h_u : HK [(some a0, 12)] u) : fX11_keeps N  a0 u = hX11_keeps N  a0 u := by
  unfold fX11_keeps hX11_keeps
  exact egX11_keeps_2 N   N a0 (0 : Int32) u (hkc (show zK u a0 = 12 from (h_u.g 0 rfl)) (hk0 h_u.1))
set_option maxRecDepth 20000 in
def hgX11_laysBack_2 (N : Nat)   : Nat → Nat → Int32 → SG → Option (Unit × SG)
  | 0, _, _, _ => none
  | n + 1, x0, x1, u => if (45 : Int32) ≤ x1 then (some ((), u))
  else (if x1 < 0 ∨ 45 ≤ x1.toNatClampNeg then none else (if x1 < 0 ∨ 144 ≤ x1.toNatClampNeg then none else (bs (sI u (x0 + 10) x1.toNatClampNeg (zI u (x0 + 13) x1.toNatClampNeg)) fun u3 => ((hgX11_laysBack_2 N   n) x0 (x1 + (1 : Int32)) u3))))
set_option maxRecDepth 20000 in
theorem egX11_laysBack_2 (N : Nat)   : ∀ (n : Nat) (x0 : Nat) (x1 : Int32) (u : SG), HK [(some x0, 12)] u → gX11_laysBack_2 N   n x0 x1 u = hgX11_laysBack_2 N   n x0 x1 u := by
  intro n
  induction n with
  | zero => intros; rfl
  | succ n ih =>
    intro x0 x1 u h_u
    have hrc2 := ih
    rw [gX11_laysBack_2, hgX11_laysBack_2]
    refine eq_if ?_ ?_
    · rfl
    · refine eq_g (show zK u x0 = 12 from (h_u.g 0 rfl)) ?_
      refine eq_bR (show zR u x0 20 = some (x0 + 10) from lyR_12_20 h_u.1 (h_u.g 0 rfl)) ?_
      refine eq_g (show zK u x0 = 12 from (h_u.g 0 rfl)) ?_
      refine eq_bR (show zR u x0 26 = some (x0 + 13) from lyR_12_26 h_u.1 (h_u.g 0 rfl)) ?_
      refine eq_g (show zK u (x0 + 13) = 22 from (lyK_12_26 h_u.1 (h_u.g 0 rfl))) ?_
      refine eq_ixh (show zN u (x0 + 13) = 45 from lyN_12_26 h_u.1 (h_u.g 0 rfl)) (fun hix1 => ?_)
      refine eq_g (show zK u (x0 + 10) = 22 from (lyK_12_20 h_u.1 (h_u.g 0 rfl))) ?_
      refine eq_ixh (show zN u (x0 + 10) = 144 from lyN_12_20 h_u.1 (h_u.g 0 rfl)) (fun hix2 => ?_)
      refine eq_sH (h_u.fr (P := PT) (Fr.sIr trivial)) (fun u3 h_u3 => ?_)
      exact hrc2 x0 (x1 + (1 : Int32)) u3 (hkc (show zK u3 x0 = 12 from (h_u3.g 0 rfl)) (hk0 h_u3.1))
set_option maxRecDepth 20000 in
def hX11_laysBack (N : Nat)  (a0 : Nat) (u : SG) : Option (Unit × SG) := hgX11_laysBack_2 N   N a0 (0 : Int32) u
set_option maxRecDepth 20000 in
theorem eX11_laysBack (N : Nat)  (a0 : Nat) (u : SG) (h_u : HK [(some a0, 12)] u) : fX11_laysBack N  a0 u = hX11_laysBack N  a0 u := by
  unfold fX11_laysBack hX11_laysBack
  exact egX11_laysBack_2 N   N a0 (0 : Int32) u (hkc (show zK u a0 = 12 from (h_u.g 0 rfl)) (hk0 h_u.1))
set_option maxRecDepth 20000 in
def hgX11_ahead_41 (N : Nat)   : Nat → Nat → Int32 → Int32 → Int32 → Int32 → SG → Option (Int32 × SG)
  | 0, _, _, _, _, _, _ => none
  | n + 1, x0, x1, x2, x3, x4, u => if x2 ≤ x4 then (cl (hX11_personOf N x0 x1 ((2 : Int32) + x3) u) fun r1 u2 => (cl (hX11_laysBack N x0 u2) fun r3 u4 => (some (r1, u4))))
  else (cl (hX11_passes N x0 u) fun r5 u6 => ((hgX11_ahead_41 N   n) x0 x1 x2 x3 (x4 + (1 : Int32)) u6))
set_option maxRecDepth 20000 in
theorem egX11_ahead_41 (N : Nat)   : ∀ (n : Nat) (x0 : Nat) (x1 : Int32) (x2 : Int32) (x3 : Int32) (x4 : Int32) (u : SG), HK [(some x0, 12)] u → gX11_ahead_41 N   n x0 x1 x2 x3 x4 u = hgX11_ahead_41 N   n x0 x1 x2 x3 x4 u := by
  intro n
  induction n with
  | zero => intros; rfl
  | succ n ih =>
    intro x0 x1 x2 x3 x4 u h_u
    have hrc41 := ih
    rw [gX11_ahead_41, hgX11_ahead_41]
    refine eq_if ?_ ?_
    · refine eq_g (show zK u x0 = 12 from (h_u.g 0 rfl)) ?_
      refine eq_cH (eX11_personOf N x0 x1 ((2 : Int32) + x3) u (hkc (show zK u x0 = 12 from (h_u.g 0 rfl)) (hk0 h_u.1))) (fun r1 u2 e9 => h_u.fr (fr_X11_personOf (P := PT) N x0 x1 ((2 : Int32) + x3) u clPT trivial _ _ e9).1) (fun r1 u2 h_u2 => ?_)
      refine eq_g (show zK u2 x0 = 12 from (h_u2.g 0 rfl)) ?_
      refine eq_cH (eX11_laysBack N x0 u2 (hkc (show zK u2 x0 = 12 from (h_u2.g 0 rfl)) (hk0 h_u2.1))) (fun r3 u4 e9 => h_u2.fr (fr_X11_laysBack (P := PT) N x0 u2 clPT trivial _ _ e9).1) (fun r3 u4 h_u4 => ?_)
      rfl
    · refine eq_g (show zK u x0 = 12 from (h_u.g 0 rfl)) ?_
      refine eq_cH (eX11_passes N x0 u (hkc (show zK u x0 = 12 from (h_u.g 0 rfl)) (hk0 h_u.1))) (fun r5 u6 e9 => h_u.fr (fr_X11_passes (P := PT) N x0 u clPT trivial _ _ e9).1) (fun r5 u6 h_u6 => ?_)
      exact hrc41 x0 x1 x2 x3 (x4 + (1 : Int32)) u6 (hkc (show zK u6 x0 = 12 from (h_u6.g 0 rfl)) (hk0 h_u6.1))
set_option maxRecDepth 20000 in
def hX11_ahead (N : Nat)  (a0 : Nat) (p1 : Int32) (p2 : Int32) (p3 : Int32) (u : SG) : Option (Int32 × SG) := cl (hX11_isPerson N a0 p1 u) fun r1 u2 => (if r1 = 0 then (some ((-1 : Int32), u2))
  else (cl (fX11_in N p2.toInt64 (0 : Int64) (100 : Int64) u2) fun r3 u4 => (if r3 = 0 then (some ((-1 : Int32), u4))
  else (cl (fX11_in N p3.toInt64 (0 : Int64) (2 : Int64) u4) fun r5 u6 => (if r5 = 0 then (some ((-1 : Int32), u6))
  else (cl (hX11_keeps N a0 u6) fun r7 u8 => (hgX11_ahead_41 N   N a0 p1 p2 p3 (0 : Int32) u8)))))))
set_option maxRecDepth 20000 in
theorem eX11_ahead (N : Nat)  (a0 : Nat) (p1 : Int32) (p2 : Int32) (p3 : Int32) (u : SG) (h_u : HK [(some a0, 12)] u) : fX11_ahead N  a0 p1 p2 p3 u = hX11_ahead N  a0 p1 p2 p3 u := by
  unfold fX11_ahead hX11_ahead
  refine eq_g (show zK u a0 = 12 from (h_u.g 0 rfl)) ?_
  refine eq_cH (eX11_isPerson N a0 p1 u (hkc (show zK u a0 = 12 from (h_u.g 0 rfl)) (hk0 h_u.1))) (fun r1 u2 e9 => h_u.fr (fr_X11_isPerson (P := PT) N a0 p1 u clPT trivial _ _ e9).1) (fun r1 u2 h_u2 => ?_)
  refine eq_if ?_ ?_
  · rfl
  · refine eq_cH rfl (fun r3 u4 e9 => h_u2.fr (fr_X11_in (P := PT) N p2.toInt64 (0 : Int64) (100 : Int64) u2 clPT _ _ e9).1) (fun r3 u4 h_u4 => ?_)
    refine eq_if ?_ ?_
    · rfl
    · refine eq_cH rfl (fun r5 u6 e9 => h_u4.fr (fr_X11_in (P := PT) N p3.toInt64 (0 : Int64) (2 : Int64) u4 clPT _ _ e9).1) (fun r5 u6 h_u6 => ?_)
      refine eq_if ?_ ?_
      · rfl
      · refine eq_g (show zK u6 a0 = 12 from (h_u6.g 0 rfl)) ?_
        refine eq_cH (eX11_keeps N a0 u6 (hkc (show zK u6 a0 = 12 from (h_u6.g 0 rfl)) (hk0 h_u6.1))) (fun r7 u8 e9 => h_u6.fr (fr_X11_keeps (P := PT) N a0 u6 clPT trivial _ _ e9).1) (fun r7 u8 h_u8 => ?_)
        exact egX11_ahead_41 N   N a0 p1 p2 p3 (0 : Int32) u8 (hkc (show zK u8 a0 = 12 from (h_u8.g 0 rfl)) (hk0 h_u8.1))
set_option maxRecDepth 20000 in
def hgX11_worksOne_2 (N : Nat)   : Nat → Nat → Int32 → Int32 → Int32 → SG → Option (Int32 × SG)
  | 0, _, _, _, _, _ => none
  | n + 1, x0, x1, x2, x3, u => if (zI u (x0 + 10) 1) ≤ x3 then (some ((0 : Int32), u))
  else (cl (fX11_isOf N x1 x3 u) fun r2 u3 => (if r2 = 0 then ((hgX11_worksOne_2 N   n) x0 x1 x2 (x3 + (1 : Int32)) u3)
  else (cl (hX11_worksIn N x0 x3 x2 u3) fun r4 u5 => (if r4 = 0 then ((hgX11_worksOne_2 N   n) x0 x1 x2 (x3 + (1 : Int32)) u5)
  else (some ((1 : Int32), u5))))))
set_option maxRecDepth 20000 in
theorem egX11_worksOne_2 (N : Nat)   : ∀ (n : Nat) (x0 : Nat) (x1 : Int32) (x2 : Int32) (x3 : Int32) (u : SG), HK [(some x0, 12)] u → gX11_worksOne_2 N   n x0 x1 x2 x3 u = hgX11_worksOne_2 N   n x0 x1 x2 x3 u := by
  intro n
  induction n with
  | zero => intros; rfl
  | succ n ih =>
    intro x0 x1 x2 x3 u h_u
    have hrc2 := ih
    rw [gX11_worksOne_2, hgX11_worksOne_2]
    refine eq_g (show zK u x0 = 12 from (h_u.g 0 rfl)) ?_
    refine eq_bR (show zR u x0 20 = some (x0 + 10) from lyR_12_20 h_u.1 (h_u.g 0 rfl)) ?_
    refine eq_g (show zK u (x0 + 10) = 22 from (lyK_12_20 h_u.1 (h_u.g 0 rfl))) ?_
    refine eq_n (by rw [show zN u (x0 + 10) = 144 from lyN_12_20 h_u.1 (h_u.g 0 rfl)]; decide) ?_
    refine eq_if ?_ ?_
    · rfl
    · refine eq_cH rfl (fun r2 u3 e9 => h_u.fr (fr_X11_isOf (P := PT) N x1 x3 u clPT _ _ e9).1) (fun r2 u3 h_u3 => ?_)
      refine eq_if ?_ ?_
      · exact hrc2 x0 x1 x2 (x3 + (1 : Int32)) u3 (hkc (show zK u3 x0 = 12 from (h_u3.g 0 rfl)) (hk0 h_u3.1))
      · refine eq_g (show zK u3 x0 = 12 from (h_u3.g 0 rfl)) ?_
        refine eq_cH (eX11_worksIn N x0 x3 x2 u3 (hkc (show zK u3 x0 = 12 from (h_u3.g 0 rfl)) (hk0 h_u3.1))) (fun r4 u5 e9 => h_u3.fr (fr_X11_worksIn (P := PT) N x0 x3 x2 u3 clPT trivial _ _ e9).1) (fun r4 u5 h_u5 => ?_)
        refine eq_if ?_ ?_
        · exact hrc2 x0 x1 x2 (x3 + (1 : Int32)) u5 (hkc (show zK u5 x0 = 12 from (h_u5.g 0 rfl)) (hk0 h_u5.1))
        · rfl
set_option maxRecDepth 20000 in
def hX11_worksOne (N : Nat)  (a0 : Nat) (p1 : Int32) (p2 : Int32) (u : SG) : Option (Int32 × SG) := hgX11_worksOne_2 N   N a0 p1 p2 (0 : Int32) u
set_option maxRecDepth 20000 in
theorem eX11_worksOne (N : Nat)  (a0 : Nat) (p1 : Int32) (p2 : Int32) (u : SG) (h_u : HK [(some a0, 12)] u) : fX11_worksOne N  a0 p1 p2 u = hX11_worksOne N  a0 p1 p2 u := by
  unfold fX11_worksOne hX11_worksOne
  exact egX11_worksOne_2 N   N a0 p1 p2 (0 : Int32) u (hkc (show zK u a0 = 12 from (h_u.g 0 rfl)) (hk0 h_u.1))
set_option maxRecDepth 20000 in
def hgX11_findsCheap_101 (N : Nat)  (rc61 : Nat → Int32 → Int32 → Int32 → SG → Option (Unit × SG)) : Nat → Nat → Int32 → Int32 → Int32 → Int32 → Int32 → SG → Option (Unit × SG)
  | 0, _, _, _, _, _, _, _ => none
  | n + 1, x0, x2, x3, x4, x5, x6, u => if (zI u (x0 + 10) 0) ≤ x6 then (if (zI u x0 27) < 0 then (bs (sI u x0 27 x4) fun u2 => (bs (sI u2 x0 28 x5) fun u3 => (rc61 x0 x2 x3 (x4 + (1 : Int32)) u3)))
  else (if x5 < (zI u x0 28) then (bs (sI u x0 27 x4) fun u4 => (bs (sI u4 x0 28 x5) fun u5 => (rc61 x0 x2 x3 (x4 + (1 : Int32)) u5)))
  else (rc61 x0 x2 x3 (x4 + (1 : Int32)) u)))
  else (cl (fX11_isOf N x4 x6 u) fun r6 u7 => (if r6 = 0 then (bs (x5 + (0 : Int32)) fun v8 => ((hgX11_findsCheap_101 N  rc61 n) x0 x2 x3 x4 v8 (x6 + (1 : Int32)) u7))
  else (cl (hX11_costIn N x0 x6 u7) fun r9 u10 => (bs (x5 + r9) fun v11 => ((hgX11_findsCheap_101 N  rc61 n) x0 x2 x3 x4 v11 (x6 + (1 : Int32)) u10)))))
set_option maxRecDepth 20000 in
theorem egX11_findsCheap_101 (N : Nat)  (rec61 : Nat → Int32 → Int32 → Int32 → SG → Option (Unit × SG)) (rc61 : Nat → Int32 → Int32 → Int32 → SG → Option (Unit × SG)) (hrc61 : ∀ (x0 : Nat) (x2 : Int32) (x3 : Int32) (x4 : Int32) (u : SG), HK [(some x0, 12)] u → rec61 x0 x2 x3 x4 u = rc61 x0 x2 x3 x4 u) : ∀ (n : Nat) (x0 : Nat) (x2 : Int32) (x3 : Int32) (x4 : Int32) (x5 : Int32) (x6 : Int32) (u : SG), HK [(some x0, 12)] u → gX11_findsCheap_101 N  rec61 n x0 x2 x3 x4 x5 x6 u = hgX11_findsCheap_101 N  rc61 n x0 x2 x3 x4 x5 x6 u := by
  intro n
  induction n with
  | zero => intros; rfl
  | succ n ih =>
    intro x0 x2 x3 x4 x5 x6 u h_u
    have hrc101 := ih
    rw [gX11_findsCheap_101, hgX11_findsCheap_101]
    refine eq_g (show zK u x0 = 12 from (h_u.g 0 rfl)) ?_
    refine eq_bR (show zR u x0 20 = some (x0 + 10) from lyR_12_20 h_u.1 (h_u.g 0 rfl)) ?_
    refine eq_g (show zK u (x0 + 10) = 22 from (lyK_12_20 h_u.1 (h_u.g 0 rfl))) ?_
    refine eq_n (by rw [show zN u (x0 + 10) = 144 from lyN_12_20 h_u.1 (h_u.g 0 rfl)]; decide) ?_
    refine eq_if ?_ ?_
    · refine eq_g (show zK u x0 = 12 from (h_u.g 0 rfl)) ?_
      refine eq_if ?_ ?_
      · refine eq_g (show zK u x0 = 12 from (h_u.g 0 rfl)) ?_
        refine eq_sH (h_u.fr (P := PT) (Fr.sIr trivial)) (fun u2 h_u2 => ?_)
        refine eq_g (show zK u2 x0 = 12 from (h_u2.g 0 rfl)) ?_
        refine eq_sH (h_u2.fr (P := PT) (Fr.sIr trivial)) (fun u3 h_u3 => ?_)
        exact hrc61 x0 x2 x3 (x4 + (1 : Int32)) u3 (hkc (show zK u3 x0 = 12 from (h_u3.g 0 rfl)) (hk0 h_u3.1))
      · refine eq_g (show zK u x0 = 12 from (h_u.g 0 rfl)) ?_
        refine eq_if ?_ ?_
        · refine eq_g (show zK u x0 = 12 from (h_u.g 0 rfl)) ?_
          refine eq_sH (h_u.fr (P := PT) (Fr.sIr trivial)) (fun u4 h_u4 => ?_)
          refine eq_g (show zK u4 x0 = 12 from (h_u4.g 0 rfl)) ?_
          refine eq_sH (h_u4.fr (P := PT) (Fr.sIr trivial)) (fun u5 h_u5 => ?_)
          exact hrc61 x0 x2 x3 (x4 + (1 : Int32)) u5 (hkc (show zK u5 x0 = 12 from (h_u5.g 0 rfl)) (hk0 h_u5.1))
        · exact hrc61 x0 x2 x3 (x4 + (1 : Int32)) u (hkc (show zK u x0 = 12 from (h_u.g 0 rfl)) (hk0 h_u.1))
    · refine eq_cH rfl (fun r6 u7 e9 => h_u.fr (fr_X11_isOf (P := PT) N x4 x6 u clPT _ _ e9).1) (fun r6 u7 h_u7 => ?_)
      refine eq_if ?_ ?_
      · refine eq_bs (fun v8 => ?_)
        exact hrc101 x0 x2 x3 x4 v8 (x6 + (1 : Int32)) u7 (hkc (show zK u7 x0 = 12 from (h_u7.g 0 rfl)) (hk0 h_u7.1))
      · refine eq_g (show zK u7 x0 = 12 from (h_u7.g 0 rfl)) ?_
        refine eq_cH (eX11_costIn N x0 x6 u7 (hkc (show zK u7 x0 = 12 from (h_u7.g 0 rfl)) (hk0 h_u7.1))) (fun r9 u10 e9 => h_u7.fr (fr_X11_costIn (P := PT) N x0 x6 u7 clPT trivial _ _ e9).1) (fun r9 u10 h_u10 => ?_)
        refine eq_bs (fun v11 => ?_)
        exact hrc101 x0 x2 x3 x4 v11 (x6 + (1 : Int32)) u10 (hkc (show zK u10 x0 = 12 from (h_u10.g 0 rfl)) (hk0 h_u10.1))
set_option maxRecDepth 20000 in
def hgX11_findsCheap_61 (N : Nat)   : Nat → Nat → Int32 → Int32 → Int32 → SG → Option (Unit × SG)
  | 0, _, _, _, _, _ => none
  | n + 1, x0, x2, x3, x4, u => if ((1 : Int32) <<< ((zI u (x0 + 10) 0) &&& 31)) ≤ x4 then (some ((), u))
  else (if (x4 &&& (x3 ^^^ (-1 : Int32))) = 0 then (cl (fX11_bits N x4 u) fun r2 u3 => (if r2 = x2 then (hgX11_findsCheap_101 N  (hgX11_findsCheap_61 N   n) N x0 x2 x3 x4 (0 : Int32) (0 : Int32) u3)
  else ((hgX11_findsCheap_61 N   n) x0 x2 x3 (x4 + (1 : Int32)) u3)))
  else ((hgX11_findsCheap_61 N   n) x0 x2 x3 (x4 + (1 : Int32)) u))
set_option maxRecDepth 20000 in
theorem egX11_findsCheap_61 (N : Nat)   : ∀ (n : Nat) (x0 : Nat) (x2 : Int32) (x3 : Int32) (x4 : Int32) (u : SG), HK [(some x0, 12)] u → gX11_findsCheap_61 N   n x0 x2 x3 x4 u = hgX11_findsCheap_61 N   n x0 x2 x3 x4 u := by
  intro n
  induction n with
  | zero => intros; rfl
  | succ n ih =>
    intro x0 x2 x3 x4 u h_u
    have hrc61 := ih
    rw [gX11_findsCheap_61, hgX11_findsCheap_61]
    refine eq_g (show zK u x0 = 12 from (h_u.g 0 rfl)) ?_
    refine eq_bR (show zR u x0 20 = some (x0 + 10) from lyR_12_20 h_u.1 (h_u.g 0 rfl)) ?_
    refine eq_g (show zK u (x0 + 10) = 22 from (lyK_12_20 h_u.1 (h_u.g 0 rfl))) ?_
    refine eq_n (by rw [show zN u (x0 + 10) = 144 from lyN_12_20 h_u.1 (h_u.g 0 rfl)]; decide) ?_
    refine eq_if ?_ ?_
    · rfl
    · refine eq_if ?_ ?_
      · refine eq_cH rfl (fun r2 u3 e9 => h_u.fr (fr_X11_bits (P := PT) N x4 u clPT _ _ e9).1) (fun r2 u3 h_u3 => ?_)
        refine eq_if ?_ ?_
        · exact egX11_findsCheap_101 N  _ _ hrc61 N x0 x2 x3 x4 (0 : Int32) (0 : Int32) u3 (hkc (show zK u3 x0 = 12 from (h_u3.g 0 rfl)) (hk0 h_u3.1))
        · exact hrc61 x0 x2 x3 (x4 + (1 : Int32)) u3 (hkc (show zK u3 x0 = 12 from (h_u3.g 0 rfl)) (hk0 h_u3.1))
      · exact hrc61 x0 x2 x3 (x4 + (1 : Int32)) u (hkc (show zK u x0 = 12 from (h_u.g 0 rfl)) (hk0 h_u.1))
set_option maxRecDepth 20000 in
def hgX11_findsCheap_10 (N : Nat)   : Nat → Nat → Int32 → Int32 → Int32 → Int32 → SG → Option (Unit × SG)
  | 0, _, _, _, _, _, _ => none
  | n + 1, x0, x1, x2, x3, x4, u => if (zI u (x0 + 10) 0) ≤ x4 then (bs (sI u x0 27 (-1 : Int32)) fun u2 => (bs (sI u2 x0 28 (0 : Int32)) fun u3 => (hgX11_findsCheap_61 N   N x0 x2 x3 (0 : Int32) u3)))
  else (cl (hX11_worksOne N x0 x1 x4 u) fun r4 u5 => (if r4 = 0 then (bs (x3 ||| ((1 : Int32) <<< (x4 &&& 31))) fun v6 => ((hgX11_findsCheap_10 N   n) x0 x1 x2 v6 (x4 + (1 : Int32)) u5))
  else (bs (x3 ||| (0 : Int32)) fun v7 => ((hgX11_findsCheap_10 N   n) x0 x1 x2 v7 (x4 + (1 : Int32)) u5))))
set_option maxRecDepth 20000 in
theorem egX11_findsCheap_10 (N : Nat)   : ∀ (n : Nat) (x0 : Nat) (x1 : Int32) (x2 : Int32) (x3 : Int32) (x4 : Int32) (u : SG), HK [(some x0, 12)] u → gX11_findsCheap_10 N   n x0 x1 x2 x3 x4 u = hgX11_findsCheap_10 N   n x0 x1 x2 x3 x4 u := by
  intro n
  induction n with
  | zero => intros; rfl
  | succ n ih =>
    intro x0 x1 x2 x3 x4 u h_u
    have hrc10 := ih
    rw [gX11_findsCheap_10, hgX11_findsCheap_10]
    refine eq_g (show zK u x0 = 12 from (h_u.g 0 rfl)) ?_
    refine eq_bR (show zR u x0 20 = some (x0 + 10) from lyR_12_20 h_u.1 (h_u.g 0 rfl)) ?_
    refine eq_g (show zK u (x0 + 10) = 22 from (lyK_12_20 h_u.1 (h_u.g 0 rfl))) ?_
    refine eq_n (by rw [show zN u (x0 + 10) = 144 from lyN_12_20 h_u.1 (h_u.g 0 rfl)]; decide) ?_
    refine eq_if ?_ ?_
    · refine eq_g (show zK u x0 = 12 from (h_u.g 0 rfl)) ?_
      refine eq_sH (h_u.fr (P := PT) (Fr.sIr trivial)) (fun u2 h_u2 => ?_)
      refine eq_g (show zK u2 x0 = 12 from (h_u2.g 0 rfl)) ?_
      refine eq_sH (h_u2.fr (P := PT) (Fr.sIr trivial)) (fun u3 h_u3 => ?_)
      exact egX11_findsCheap_61 N   N x0 x2 x3 (0 : Int32) u3 (hkc (show zK u3 x0 = 12 from (h_u3.g 0 rfl)) (hk0 h_u3.1))
    · refine eq_g (show zK u x0 = 12 from (h_u.g 0 rfl)) ?_
      refine eq_cH (eX11_worksOne N x0 x1 x4 u (hkc (show zK u x0 = 12 from (h_u.g 0 rfl)) (hk0 h_u.1))) (fun r4 u5 e9 => h_u.fr (fr_X11_worksOne (P := PT) N x0 x1 x4 u clPT trivial _ _ e9).1) (fun r4 u5 h_u5 => ?_)
      refine eq_if ?_ ?_
      · refine eq_bs (fun v6 => ?_)
        exact hrc10 x0 x1 x2 v6 (x4 + (1 : Int32)) u5 (hkc (show zK u5 x0 = 12 from (h_u5.g 0 rfl)) (hk0 h_u5.1))
      · refine eq_bs (fun v7 => ?_)
        exact hrc10 x0 x1 x2 v7 (x4 + (1 : Int32)) u5 (hkc (show zK u5 x0 = 12 from (h_u5.g 0 rfl)) (hk0 h_u5.1))
set_option maxRecDepth 20000 in
def hX11_findsCheap (N : Nat)  (a0 : Nat) (p1 : Int32) (p2 : Int32) (u : SG) : Option (Unit × SG) := bs (zI u (a0 + 10) 5) fun v2 => (hgX11_findsCheap_10 N   N a0 p1 p2 (0 : Int32) v2 u)
set_option maxRecDepth 20000 in
theorem eX11_findsCheap (N : Nat)  (a0 : Nat) (p1 : Int32) (p2 : Int32) (u : SG) (h_u : HK [(some a0, 12)] u) : fX11_findsCheap N  a0 p1 p2 u = hX11_findsCheap N  a0 p1 p2 u := by
  unfold fX11_findsCheap hX11_findsCheap
  refine eq_g (show zK u a0 = 12 from (h_u.g 0 rfl)) ?_
  refine eq_bR (show zR u a0 20 = some (a0 + 10) from lyR_12_20 h_u.1 (h_u.g 0 rfl)) ?_
  refine eq_g (show zK u (a0 + 10) = 22 from (lyK_12_20 h_u.1 (h_u.g 0 rfl))) ?_
  refine eq_n (by rw [show zN u (a0 + 10) = 144 from lyN_12_20 h_u.1 (h_u.g 0 rfl)]; decide) ?_
  refine eq_bs (fun v2 => ?_)
  exact egX11_findsCheap_10 N   N a0 p1 p2 (0 : Int32) v2 u (hkc (show zK u a0 = 12 from (h_u.g 0 rfl)) (hk0 h_u.1))
set_option maxRecDepth 20000 in
def hX11_cheapest (N : Nat)  (a0 : Nat) (p1 : Int32) (p2 : Int32) (p3 : Int32) (u : SG) : Option (Int32 × SG) := cl (fX11_bits N p1 u) fun r1 u2 => (cl (hX11_findsCheap N a0 p1 p2 u2) fun r3 u4 => (if 0 ≤ (zI u4 a0 27) then (if p3 = 0 then (some (zI u4 a0 27, u4))
  else (cl (hX11_sleepers N a0 u4) fun r5 u6 => (cl (fX11_bits N (r5 &&& (p1 ^^^ (-1 : Int32))) u6) fun r7 u8 => (cl (fX11_fraction N ((zI u4 a0 28) * r1) (r1 + r7) (p3 - (1 : Int32)) u8) fun r9 u10 => (some (r9, u10))))))
  else (some ((-2 : Int32), u4))))
set_option maxRecDepth 20000 in
theorem eX11_cheapest (N : Nat)  (a0 : Nat) (p1 : Int32) (p2 : Int32) (p3 : Int32) (u : SG) (h_u : HK [(some a0, 12)] u) : fX11_cheapest N  a0 p1 p2 p3 u = hX11_cheapest N  a0 p1 p2 p3 u := by
  unfold fX11_cheapest hX11_cheapest
  refine eq_cH rfl (fun r1 u2 e9 => h_u.fr (fr_X11_bits (P := PT) N p1 u clPT _ _ e9).1) (fun r1 u2 h_u2 => ?_)
  refine eq_g (show zK u2 a0 = 12 from (h_u2.g 0 rfl)) ?_
  refine eq_cH (eX11_findsCheap N a0 p1 p2 u2 (hkc (show zK u2 a0 = 12 from (h_u2.g 0 rfl)) (hk0 h_u2.1))) (fun r3 u4 e9 => h_u2.fr (fr_X11_findsCheap (P := PT) N a0 p1 p2 u2 clPT trivial _ _ e9).1) (fun r3 u4 h_u4 => ?_)
  refine eq_g (show zK u4 a0 = 12 from (h_u4.g 0 rfl)) ?_
  refine eq_if ?_ ?_
  · refine eq_if ?_ ?_
    · refine eq_g (show zK u4 a0 = 12 from (h_u4.g 0 rfl)) ?_
      rfl
    · refine eq_g (show zK u4 a0 = 12 from (h_u4.g 0 rfl)) ?_
      refine eq_g (show zK u4 a0 = 12 from (h_u4.g 0 rfl)) ?_
      refine eq_cH (eX11_sleepers N a0 u4 (hkc (show zK u4 a0 = 12 from (h_u4.g 0 rfl)) (hk0 h_u4.1))) (fun r5 u6 e9 => h_u4.fr (fr_X11_sleepers (P := PT) N a0 u4 clPT trivial _ _ e9).1) (fun r5 u6 h_u6 => ?_)
      refine eq_cH rfl (fun r7 u8 e9 => h_u6.fr (fr_X11_bits (P := PT) N (r5 &&& (p1 ^^^ (-1 : Int32))) u6 clPT _ _ e9).1) (fun r7 u8 h_u8 => ?_)
      refine eq_cH rfl (fun r9 u10 e9 => h_u8.fr (fr_X11_fraction (P := PT) N ((zI u4 a0 28) * r1) (r1 + r7) (p3 - (1 : Int32)) u8 clPT _ _ e9).1) (fun r9 u10 h_u10 => ?_)
      rfl
  · rfl
set_option maxRecDepth 20000 in
def hX11_cheap (N : Nat)  (a0 : Nat) (p1 : Int32) (p2 : Int32) (p3 : Int32) (u : SG) : Option (Int32 × SG) := cl (hX11_isPerson N a0 p1 u) fun r1 u2 => (if r1 = 0 then (some ((-1 : Int32), u2))
  else (cl (fX11_in N p2.toInt64 (0 : Int64) (10 : Int64) u2) fun r3 u4 => (if r3 = 0 then (some ((-1 : Int32), u4))
  else (cl (fX11_in N p3.toInt64 (0 : Int64) (2 : Int64) u4) fun r5 u6 => (if r5 = 0 then (some ((-1 : Int32), u6))
  else (cl (hX11_cheapest N a0 ((1 : Int32) <<< (p1 &&& 31)) p2 p3 u6) fun r7 u8 => (some (r7, u8))))))))
set_option maxRecDepth 20000 in
theorem eX11_cheap (N : Nat)  (a0 : Nat) (p1 : Int32) (p2 : Int32) (p3 : Int32) (u : SG) (h_u : HK [(some a0, 12)] u) : fX11_cheap N  a0 p1 p2 p3 u = hX11_cheap N  a0 p1 p2 p3 u := by
  unfold fX11_cheap hX11_cheap
  refine eq_g (show zK u a0 = 12 from (h_u.g 0 rfl)) ?_
  refine eq_cH (eX11_isPerson N a0 p1 u (hkc (show zK u a0 = 12 from (h_u.g 0 rfl)) (hk0 h_u.1))) (fun r1 u2 e9 => h_u.fr (fr_X11_isPerson (P := PT) N a0 p1 u clPT trivial _ _ e9).1) (fun r1 u2 h_u2 => ?_)
  refine eq_if ?_ ?_
  · rfl
  · refine eq_cH rfl (fun r3 u4 e9 => h_u2.fr (fr_X11_in (P := PT) N p2.toInt64 (0 : Int64) (10 : Int64) u2 clPT _ _ e9).1) (fun r3 u4 h_u4 => ?_)
    refine eq_if ?_ ?_
    · rfl
    · refine eq_cH rfl (fun r5 u6 e9 => h_u4.fr (fr_X11_in (P := PT) N p3.toInt64 (0 : Int64) (2 : Int64) u4 clPT _ _ e9).1) (fun r5 u6 h_u6 => ?_)
      refine eq_if ?_ ?_
      · rfl
      · refine eq_g (show zK u6 a0 = 12 from (h_u6.g 0 rfl)) ?_
        refine eq_cH (eX11_cheapest N a0 ((1 : Int32) <<< (p1 &&& 31)) p2 p3 u6 (hkc (show zK u6 a0 = 12 from (h_u6.g 0 rfl)) (hk0 h_u6.1))) (fun r7 u8 e9 => h_u6.fr (fr_X11_cheapest (P := PT) N a0 ((1 : Int32) <<< (p1 &&& 31)) p2 p3 u6 clPT trivial _ _ e9).1) (fun r7 u8 h_u8 => ?_)
        rfl
set_option maxRecDepth 20000 in
def hX11_guild (N : Nat)  (a0 : Nat) (p1 : Int32) (p2 : Int32) (p3 : Int32) (u : SG) : Option (Int32 × SG) := cl (hX11_isStreet N a0 u) fun r1 u2 => (if r1 = 0 then (some ((-1 : Int32), u2))
  else (if p1 ≤ 0 then (some ((-1 : Int32), u2))
  else (if ((1 : Int32) <<< ((zI u2 (a0 + 10) 1) &&& 31)) ≤ p1 then (some ((-1 : Int32), u2))
  else (cl (fX11_in N p2.toInt64 (0 : Int64) (10 : Int64) u2) fun r4 u5 => (if r4 = 0 then (some ((-1 : Int32), u5))
  else (cl (fX11_in N p3.toInt64 (0 : Int64) (2 : Int64) u5) fun r6 u7 => (if r6 = 0 then (some ((-1 : Int32), u7))
  else (cl (hX11_cheapest N a0 p1 p2 p3 u7) fun r8 u9 => (some (r8, u9))))))))))
set_option maxRecDepth 20000 in
theorem eX11_guild (N : Nat)  (a0 : Nat) (p1 : Int32) (p2 : Int32) (p3 : Int32) (u : SG) (h_u : HK [(some a0, 12)] u) : fX11_guild N  a0 p1 p2 p3 u = hX11_guild N  a0 p1 p2 p3 u := by
  unfold fX11_guild hX11_guild
  refine eq_g (show zK u a0 = 12 from (h_u.g 0 rfl)) ?_
  refine eq_cH (eX11_isStreet N a0 u (hkc (show zK u a0 = 12 from (h_u.g 0 rfl)) (hk0 h_u.1))) (fun r1 u2 e9 => h_u.fr (fr_X11_isStreet (P := PT) N a0 u clPT trivial _ _ e9).1) (fun r1 u2 h_u2 => ?_)
  refine eq_if ?_ ?_
  · rfl
  · refine eq_if ?_ ?_
    · rfl
    · refine eq_g (show zK u2 a0 = 12 from (h_u2.g 0 rfl)) ?_
      refine eq_bR (show zR u2 a0 20 = some (a0 + 10) from lyR_12_20 h_u2.1 (h_u2.g 0 rfl)) ?_
      refine eq_g (show zK u2 (a0 + 10) = 22 from (lyK_12_20 h_u2.1 (h_u2.g 0 rfl))) ?_
      refine eq_n (by rw [show zN u2 (a0 + 10) = 144 from lyN_12_20 h_u2.1 (h_u2.g 0 rfl)]; decide) ?_
      refine eq_if ?_ ?_
      · rfl
      · refine eq_cH rfl (fun r4 u5 e9 => h_u2.fr (fr_X11_in (P := PT) N p2.toInt64 (0 : Int64) (10 : Int64) u2 clPT _ _ e9).1) (fun r4 u5 h_u5 => ?_)
        refine eq_if ?_ ?_
        · rfl
        · refine eq_cH rfl (fun r6 u7 e9 => h_u5.fr (fr_X11_in (P := PT) N p3.toInt64 (0 : Int64) (2 : Int64) u5 clPT _ _ e9).1) (fun r6 u7 h_u7 => ?_)
          refine eq_if ?_ ?_
          · rfl
          · refine eq_g (show zK u7 a0 = 12 from (h_u7.g 0 rfl)) ?_
            refine eq_cH (eX11_cheapest N a0 p1 p2 p3 u7 (hkc (show zK u7 a0 = 12 from (h_u7.g 0 rfl)) (hk0 h_u7.1))) (fun r8 u9 e9 => h_u7.fr (fr_X11_cheapest (P := PT) N a0 p1 p2 p3 u7 clPT trivial _ _ e9).1) (fun r8 u9 h_u9 => ?_)
            rfl
set_option maxRecDepth 20000 in
def hgX11_isRest_35 (N : Nat)   : Nat → Nat → Int32 → Int32 → Int32 → Int32 → Int32 → SG → Option (Int32 × SG)
  | 0, _, _, _, _, _, _, _ => none
  | n + 1, x0, x1, x2, x3, x4, x5, u => if (zI u (x0 + 10) 1) ≤ x5 then (some ((1 : Int32), u))
  else (cl (fX11_isOf N x2 x5 u) fun r2 u3 => (if r2 = 0 then ((hgX11_isRest_35 N   n) x0 x1 x2 x3 x4 (x5 + (1 : Int32)) u3)
  else (cl (hX11_personOf N x0 x5 (1 : Int32) u3) fun r4 u5 => (cl (fX11_isOf N x1 x5 u5) fun r6 u7 => (if r6 = 0 then (if (r4 * (x4 + (1 : Int32))) ≤ x3 then ((hgX11_isRest_35 N   n) x0 x1 x2 x3 x4 (x5 + (1 : Int32)) u7)
  else (some ((0 : Int32), u7)))
  else (if x3 ≤ (r4 * x4) then ((hgX11_isRest_35 N   n) x0 x1 x2 x3 x4 (x5 + (1 : Int32)) u7)
  else (some ((0 : Int32), u7))))))))
set_option maxRecDepth 20000 in
theorem egX11_isRest_35 (N : Nat)   : ∀ (n : Nat) (x0 : Nat) (x1 : Int32) (x2 : Int32) (x3 : Int32) (x4 : Int32) (x5 : Int32) (u : SG), HK [(some x0, 12)] u → gX11_isRest_35 N   n x0 x1 x2 x3 x4 x5 u = hgX11_isRest_35 N   n x0 x1 x2 x3 x4 x5 u := by
  intro n
  induction n with
  | zero => intros; rfl
  | succ n ih =>
    intro x0 x1 x2 x3 x4 x5 u h_u
    have hrc35 := ih
    rw [gX11_isRest_35, hgX11_isRest_35]
    refine eq_g (show zK u x0 = 12 from (h_u.g 0 rfl)) ?_
    refine eq_bR (show zR u x0 20 = some (x0 + 10) from lyR_12_20 h_u.1 (h_u.g 0 rfl)) ?_
    refine eq_g (show zK u (x0 + 10) = 22 from (lyK_12_20 h_u.1 (h_u.g 0 rfl))) ?_
    refine eq_n (by rw [show zN u (x0 + 10) = 144 from lyN_12_20 h_u.1 (h_u.g 0 rfl)]; decide) ?_
    refine eq_if ?_ ?_
    · rfl
    · refine eq_cH rfl (fun r2 u3 e9 => h_u.fr (fr_X11_isOf (P := PT) N x2 x5 u clPT _ _ e9).1) (fun r2 u3 h_u3 => ?_)
      refine eq_if ?_ ?_
      · exact hrc35 x0 x1 x2 x3 x4 (x5 + (1 : Int32)) u3 (hkc (show zK u3 x0 = 12 from (h_u3.g 0 rfl)) (hk0 h_u3.1))
      · refine eq_g (show zK u3 x0 = 12 from (h_u3.g 0 rfl)) ?_
        refine eq_cH (eX11_personOf N x0 x5 (1 : Int32) u3 (hkc (show zK u3 x0 = 12 from (h_u3.g 0 rfl)) (hk0 h_u3.1))) (fun r4 u5 e9 => h_u3.fr (fr_X11_personOf (P := PT) N x0 x5 (1 : Int32) u3 clPT trivial _ _ e9).1) (fun r4 u5 h_u5 => ?_)
        refine eq_cH rfl (fun r6 u7 e9 => h_u5.fr (fr_X11_isOf (P := PT) N x1 x5 u5 clPT _ _ e9).1) (fun r6 u7 h_u7 => ?_)
        refine eq_if ?_ ?_
        · refine eq_if ?_ ?_
          · exact hrc35 x0 x1 x2 x3 x4 (x5 + (1 : Int32)) u7 (hkc (show zK u7 x0 = 12 from (h_u7.g 0 rfl)) (hk0 h_u7.1))
          · rfl
        · refine eq_if ?_ ?_
          · exact hrc35 x0 x1 x2 x3 x4 (x5 + (1 : Int32)) u7 (hkc (show zK u7 x0 = 12 from (h_u7.g 0 rfl)) (hk0 h_u7.1))
          · rfl
set_option maxRecDepth 20000 in
def hX11_isRest (N : Nat)  (a0 : Nat) (p1 : Int32) (u : SG) : Option (Int32 × SG) := cl (hX11_idle N a0 u) fun r1 u2 => (cl (hX11_costIn N a0 (zI u2 (a0 + 10) 5) u2) fun r4 u5 => (cl (fX11_bits N p1 u5) fun r6 u7 => (if (p1 &&& (r1 ^^^ (-1 : Int32))) = 0 then (hgX11_isRest_35 N   N a0 p1 r1 r4 r6 (0 : Int32) u7)
  else (some ((0 : Int32), u7)))))
set_option maxRecDepth 20000 in
theorem eX11_isRest (N : Nat)  (a0 : Nat) (p1 : Int32) (u : SG) (h_u : HK [(some a0, 12)] u) : fX11_isRest N  a0 p1 u = hX11_isRest N  a0 p1 u := by
  unfold fX11_isRest hX11_isRest
  refine eq_g (show zK u a0 = 12 from (h_u.g 0 rfl)) ?_
  refine eq_cH (eX11_idle N a0 u (hkc (show zK u a0 = 12 from (h_u.g 0 rfl)) (hk0 h_u.1))) (fun r1 u2 e9 => h_u.fr (fr_X11_idle (P := PT) N a0 u clPT trivial _ _ e9).1) (fun r1 u2 h_u2 => ?_)
  refine eq_g (show zK u2 a0 = 12 from (h_u2.g 0 rfl)) ?_
  refine eq_bR (show zR u2 a0 20 = some (a0 + 10) from lyR_12_20 h_u2.1 (h_u2.g 0 rfl)) ?_
  refine eq_g (show zK u2 (a0 + 10) = 22 from (lyK_12_20 h_u2.1 (h_u2.g 0 rfl))) ?_
  refine eq_n (by rw [show zN u2 (a0 + 10) = 144 from lyN_12_20 h_u2.1 (h_u2.g 0 rfl)]; decide) ?_
  refine eq_g (show zK u2 a0 = 12 from (h_u2.g 0 rfl)) ?_
  refine eq_cH (eX11_costIn N a0 (zI u2 (a0 + 10) 5) u2 (hkc (show zK u2 a0 = 12 from (h_u2.g 0 rfl)) (hk0 h_u2.1))) (fun r4 u5 e9 => h_u2.fr (fr_X11_costIn (P := PT) N a0 (zI u2 (a0 + 10) 5) u2 clPT trivial _ _ e9).1) (fun r4 u5 h_u5 => ?_)
  refine eq_cH rfl (fun r6 u7 e9 => h_u5.fr (fr_X11_bits (P := PT) N p1 u5 clPT _ _ e9).1) (fun r6 u7 h_u7 => ?_)
  refine eq_if ?_ ?_
  · exact egX11_isRest_35 N   N a0 p1 r1 r4 r6 (0 : Int32) u7 (hkc (show zK u7 a0 = 12 from (h_u7.g 0 rfl)) (hk0 h_u7.1))
  · rfl
set_option maxRecDepth 20000 in
def hgX11_rest_33 (N : Nat)   : Nat → Nat → Int32 → Int32 → Int32 → Int32 → Int32 → SG → Option (Int32 × SG)
  | 0, _, _, _, _, _, _, _ => none
  | n + 1, x0, x1, x2, x3, x4, x5, u => if ((1 : Int32) <<< ((zI u (x0 + 10) 1) &&& 31)) ≤ x5 then (if x1 = 0 then (some (x2, u))
  else (if x1 = (1 : Int32) then (some (x3, u))
  else (some (x4, u))))
  else (cl (hX11_isRest N x0 x5 u) fun r2 u3 => (if r2 = 0 then ((hgX11_rest_33 N   n) x0 x1 x2 x3 x4 (x5 + (1 : Int32)) u3)
  else (if x2 = 0 then ((hgX11_rest_33 N   n) x0 x1 (x2 + (1 : Int32)) x5 x5 (x5 + (1 : Int32)) u3)
  else ((hgX11_rest_33 N   n) x0 x1 (x2 + (1 : Int32)) x3 x5 (x5 + (1 : Int32)) u3))))
set_option maxRecDepth 20000 in
theorem egX11_rest_33 (N : Nat)   : ∀ (n : Nat) (x0 : Nat) (x1 : Int32) (x2 : Int32) (x3 : Int32) (x4 : Int32) (x5 : Int32) (u : SG), HK [(some x0, 12)] u → gX11_rest_33 N   n x0 x1 x2 x3 x4 x5 u = hgX11_rest_33 N   n x0 x1 x2 x3 x4 x5 u := by
  intro n
  induction n with
  | zero => intros; rfl
  | succ n ih =>
    intro x0 x1 x2 x3 x4 x5 u h_u
    have hrc33 := ih
    rw [gX11_rest_33, hgX11_rest_33]
    refine eq_g (show zK u x0 = 12 from (h_u.g 0 rfl)) ?_
    refine eq_bR (show zR u x0 20 = some (x0 + 10) from lyR_12_20 h_u.1 (h_u.g 0 rfl)) ?_
    refine eq_g (show zK u (x0 + 10) = 22 from (lyK_12_20 h_u.1 (h_u.g 0 rfl))) ?_
    refine eq_n (by rw [show zN u (x0 + 10) = 144 from lyN_12_20 h_u.1 (h_u.g 0 rfl)]; decide) ?_
    refine eq_if ?_ ?_
    · refine eq_if ?_ ?_
      · rfl
      · refine eq_if ?_ ?_
        · rfl
        · rfl
    · refine eq_g (show zK u x0 = 12 from (h_u.g 0 rfl)) ?_
      refine eq_cH (eX11_isRest N x0 x5 u (hkc (show zK u x0 = 12 from (h_u.g 0 rfl)) (hk0 h_u.1))) (fun r2 u3 e9 => h_u.fr (fr_X11_isRest (P := PT) N x0 x5 u clPT trivial _ _ e9).1) (fun r2 u3 h_u3 => ?_)
      refine eq_if ?_ ?_
      · exact hrc33 x0 x1 x2 x3 x4 (x5 + (1 : Int32)) u3 (hkc (show zK u3 x0 = 12 from (h_u3.g 0 rfl)) (hk0 h_u3.1))
      · refine eq_if ?_ ?_
        · exact hrc33 x0 x1 (x2 + (1 : Int32)) x5 x5 (x5 + (1 : Int32)) u3 (hkc (show zK u3 x0 = 12 from (h_u3.g 0 rfl)) (hk0 h_u3.1))
        · exact hrc33 x0 x1 (x2 + (1 : Int32)) x3 x5 (x5 + (1 : Int32)) u3 (hkc (show zK u3 x0 = 12 from (h_u3.g 0 rfl)) (hk0 h_u3.1))
set_option maxRecDepth 20000 in
def hX11_rest (N : Nat)  (a0 : Nat) (p1 : Int32) (u : SG) : Option (Int32 × SG) := cl (hX11_isStreet N a0 u) fun r1 u2 => (if r1 = 0 then (some ((-1 : Int32), u2))
  else (cl (fX11_in N p1.toInt64 (0 : Int64) (2 : Int64) u2) fun r3 u4 => (if r3 = 0 then (some ((-1 : Int32), u4))
  else (hgX11_rest_33 N   N a0 p1 (0 : Int32) (-2 : Int32) (-2 : Int32) (0 : Int32) u4))))
set_option maxRecDepth 20000 in
theorem eX11_rest (N : Nat)  (a0 : Nat) (p1 : Int32) (u : SG) (h_u : HK [(some a0, 12)] u) : fX11_rest N  a0 p1 u = hX11_rest N  a0 p1 u := by
  unfold fX11_rest hX11_rest
  refine eq_g (show zK u a0 = 12 from (h_u.g 0 rfl)) ?_
  refine eq_cH (eX11_isStreet N a0 u (hkc (show zK u a0 = 12 from (h_u.g 0 rfl)) (hk0 h_u.1))) (fun r1 u2 e9 => h_u.fr (fr_X11_isStreet (P := PT) N a0 u clPT trivial _ _ e9).1) (fun r1 u2 h_u2 => ?_)
  refine eq_if ?_ ?_
  · rfl
  · refine eq_cH rfl (fun r3 u4 e9 => h_u2.fr (fr_X11_in (P := PT) N p1.toInt64 (0 : Int64) (2 : Int64) u2 clPT _ _ e9).1) (fun r3 u4 h_u4 => ?_)
    refine eq_if ?_ ?_
    · rfl
    · exact egX11_rest_33 N   N a0 p1 (0 : Int32) (-2 : Int32) (-2 : Int32) (0 : Int32) u4 (hkc (show zK u4 a0 = 12 from (h_u4.g 0 rfl)) (hk0 h_u4.1))
set_option maxRecDepth 20000 in
def hgX11_isDarkEnough_67 (N : Nat)   : Nat → Nat → Int32 → Int32 → Int32 → SG → Option (Int32 × SG)
  | 0, _, _, _, _, _ => none
  | n + 1, x0, x2, x3, x4, u => if (zI u (x0 + 10) 1) ≤ x4 then (some ((1 : Int32), u))
  else (cl (fX11_isOf N x2 x4 u) fun r2 u3 => (if r2 = 0 then ((hgX11_isDarkEnough_67 N   n) x0 x2 x3 (x4 + (1 : Int32)) u3)
  else (cl (hX11_personOf N x0 x4 (1 : Int32) u3) fun r4 u5 => (cl (fX11_bits N x2 u5) fun r6 u7 => (if x3 ≤ (r4 * r6) then ((hgX11_isDarkEnough_67 N   n) x0 x2 x3 (x4 + (1 : Int32)) u7)
  else (some ((0 : Int32), u7)))))))
set_option maxRecDepth 20000 in
theorem egX11_isDarkEnough_67 (N : Nat)   : ∀ (n : Nat) (x0 : Nat) (x2 : Int32) (x3 : Int32) (x4 : Int32) (u : SG), HK [(some x0, 12)] u → gX11_isDarkEnough_67 N   n x0 x2 x3 x4 u = hgX11_isDarkEnough_67 N   n x0 x2 x3 x4 u := by
  intro n
  induction n with
  | zero => intros; rfl
  | succ n ih =>
    intro x0 x2 x3 x4 u h_u
    have hrc67 := ih
    rw [gX11_isDarkEnough_67, hgX11_isDarkEnough_67]
    refine eq_g (show zK u x0 = 12 from (h_u.g 0 rfl)) ?_
    refine eq_bR (show zR u x0 20 = some (x0 + 10) from lyR_12_20 h_u.1 (h_u.g 0 rfl)) ?_
    refine eq_g (show zK u (x0 + 10) = 22 from (lyK_12_20 h_u.1 (h_u.g 0 rfl))) ?_
    refine eq_n (by rw [show zN u (x0 + 10) = 144 from lyN_12_20 h_u.1 (h_u.g 0 rfl)]; decide) ?_
    refine eq_if ?_ ?_
    · rfl
    · refine eq_cH rfl (fun r2 u3 e9 => h_u.fr (fr_X11_isOf (P := PT) N x2 x4 u clPT _ _ e9).1) (fun r2 u3 h_u3 => ?_)
      refine eq_if ?_ ?_
      · exact hrc67 x0 x2 x3 (x4 + (1 : Int32)) u3 (hkc (show zK u3 x0 = 12 from (h_u3.g 0 rfl)) (hk0 h_u3.1))
      · refine eq_g (show zK u3 x0 = 12 from (h_u3.g 0 rfl)) ?_
        refine eq_cH (eX11_personOf N x0 x4 (1 : Int32) u3 (hkc (show zK u3 x0 = 12 from (h_u3.g 0 rfl)) (hk0 h_u3.1))) (fun r4 u5 e9 => h_u3.fr (fr_X11_personOf (P := PT) N x0 x4 (1 : Int32) u3 clPT trivial _ _ e9).1) (fun r4 u5 h_u5 => ?_)
        refine eq_cH rfl (fun r6 u7 e9 => h_u5.fr (fr_X11_bits (P := PT) N x2 u5 clPT _ _ e9).1) (fun r6 u7 h_u7 => ?_)
        refine eq_if ?_ ?_
        · exact hrc67 x0 x2 x3 (x4 + (1 : Int32)) u7 (hkc (show zK u7 x0 = 12 from (h_u7.g 0 rfl)) (hk0 h_u7.1))
        · rfl
set_option maxRecDepth 20000 in
def hgX11_isDarkEnough_10 (N : Nat)   : Nat → Nat → Int32 → Int32 → Int32 → Int32 → SG → Option (Int32 × SG)
  | 0, _, _, _, _, _, _ => none
  | n + 1, x0, x1, x2, x3, x4, u => if (zI u (x0 + 10) 3) ≤ x4 then (hgX11_isDarkEnough_67 N   N x0 x2 x3 (0 : Int32) u)
  else (cl (hX11_burnsIn N x0 x4 (zI u (x0 + 10) 5) u) fun r3 u4 => (if r3 = 0 then (bs (x3 + (0 : Int32)) fun v5 => ((hgX11_isDarkEnough_10 N   n) x0 x1 x2 v5 (x4 + (1 : Int32)) u4))
  else (cl (fX11_isOf N x1 x4 u4) fun r6 u7 => (if r6 = 0 then (cl (hX11_costOf N x0 x4 u7) fun r9 u10 => (bs (x3 + r9) fun v11 => ((hgX11_isDarkEnough_10 N   n) x0 x1 x2 v11 (x4 + (1 : Int32)) u10)))
  else (bs (x3 + (0 : Int32)) fun v8 => ((hgX11_isDarkEnough_10 N   n) x0 x1 x2 v8 (x4 + (1 : Int32)) u7))))))
set_option maxRecDepth 20000 in
theorem egX11_isDarkEnough_10 (N : Nat)   : ∀ (n : Nat) (x0 : Nat) (x1 : Int32) (x2 : Int32) (x3 : Int32) (x4 : Int32) (u : SG), HK [(some x0, 12)] u → gX11_isDarkEnough_10 N   n x0 x1 x2 x3 x4 u = hgX11_isDarkEnough_10 N   n x0 x1 x2 x3 x4 u := by
  intro n
  induction n with
  | zero => intros; rfl
  | succ n ih =>
    intro x0 x1 x2 x3 x4 u h_u
    have hrc10 := ih
    rw [gX11_isDarkEnough_10, hgX11_isDarkEnough_10]
    refine eq_g (show zK u x0 = 12 from (h_u.g 0 rfl)) ?_
    refine eq_bR (show zR u x0 20 = some (x0 + 10) from lyR_12_20 h_u.1 (h_u.g 0 rfl)) ?_
    refine eq_g (show zK u (x0 + 10) = 22 from (lyK_12_20 h_u.1 (h_u.g 0 rfl))) ?_
    refine eq_n (by rw [show zN u (x0 + 10) = 144 from lyN_12_20 h_u.1 (h_u.g 0 rfl)]; decide) ?_
    refine eq_if ?_ ?_
    · exact egX11_isDarkEnough_67 N   N x0 x2 x3 (0 : Int32) u (hkc (show zK u x0 = 12 from (h_u.g 0 rfl)) (hk0 h_u.1))
    · refine eq_g (show zK u x0 = 12 from (h_u.g 0 rfl)) ?_
      refine eq_bR (show zR u x0 20 = some (x0 + 10) from lyR_12_20 h_u.1 (h_u.g 0 rfl)) ?_
      refine eq_g (show zK u (x0 + 10) = 22 from (lyK_12_20 h_u.1 (h_u.g 0 rfl))) ?_
      refine eq_n (by rw [show zN u (x0 + 10) = 144 from lyN_12_20 h_u.1 (h_u.g 0 rfl)]; decide) ?_
      refine eq_g (show zK u x0 = 12 from (h_u.g 0 rfl)) ?_
      refine eq_cH (eX11_burnsIn N x0 x4 (zI u (x0 + 10) 5) u (hkc (show zK u x0 = 12 from (h_u.g 0 rfl)) (hk0 h_u.1))) (fun r3 u4 e9 => h_u.fr (fr_X11_burnsIn (P := PT) N x0 x4 (zI u (x0 + 10) 5) u clPT trivial _ _ e9).1) (fun r3 u4 h_u4 => ?_)
      refine eq_if ?_ ?_
      · refine eq_bs (fun v5 => ?_)
        exact hrc10 x0 x1 x2 v5 (x4 + (1 : Int32)) u4 (hkc (show zK u4 x0 = 12 from (h_u4.g 0 rfl)) (hk0 h_u4.1))
      · refine eq_cH rfl (fun r6 u7 e9 => h_u4.fr (fr_X11_isOf (P := PT) N x1 x4 u4 clPT _ _ e9).1) (fun r6 u7 h_u7 => ?_)
        refine eq_if ?_ ?_
        · refine eq_g (show zK u7 x0 = 12 from (h_u7.g 0 rfl)) ?_
          refine eq_cH (eX11_costOf N x0 x4 u7 (hkc (show zK u7 x0 = 12 from (h_u7.g 0 rfl)) (hk0 h_u7.1))) (fun r9 u10 e9 => h_u7.fr (fr_X11_costOf (P := PT) N x0 x4 u7 clPT trivial _ _ e9).1) (fun r9 u10 h_u10 => ?_)
          refine eq_bs (fun v11 => ?_)
          exact hrc10 x0 x1 x2 v11 (x4 + (1 : Int32)) u10 (hkc (show zK u10 x0 = 12 from (h_u10.g 0 rfl)) (hk0 h_u10.1))
        · refine eq_bs (fun v8 => ?_)
          exact hrc10 x0 x1 x2 v8 (x4 + (1 : Int32)) u7 (hkc (show zK u7 x0 = 12 from (h_u7.g 0 rfl)) (hk0 h_u7.1))
set_option maxRecDepth 20000 in
def hX11_isDarkEnough (N : Nat)  (a0 : Nat) (p1 : Int32) (u : SG) : Option (Int32 × SG) := cl (hX11_idle N a0 u) fun r1 u2 => (hgX11_isDarkEnough_10 N   N a0 p1 r1 (0 : Int32) (0 : Int32) u2)
set_option maxRecDepth 20000 in
theorem eX11_isDarkEnough (N : Nat)  (a0 : Nat) (p1 : Int32) (u : SG) (h_u : HK [(some a0, 12)] u) : fX11_isDarkEnough N  a0 p1 u = hX11_isDarkEnough N  a0 p1 u := by
  unfold fX11_isDarkEnough hX11_isDarkEnough
  refine eq_g (show zK u a0 = 12 from (h_u.g 0 rfl)) ?_
  refine eq_cH (eX11_idle N a0 u (hkc (show zK u a0 = 12 from (h_u.g 0 rfl)) (hk0 h_u.1))) (fun r1 u2 e9 => h_u.fr (fr_X11_idle (P := PT) N a0 u clPT trivial _ _ e9).1) (fun r1 u2 h_u2 => ?_)
  exact egX11_isDarkEnough_10 N   N a0 p1 r1 (0 : Int32) (0 : Int32) u2 (hkc (show zK u2 a0 = 12 from (h_u2.g 0 rfl)) (hk0 h_u2.1))
set_option maxRecDepth 20000 in
def hgX11_dark_63 (N : Nat)  (rc29 : Nat → Int32 → Int32 → Int32 → Int32 → SG → Option (Int32 × SG)) (x0 : Nat) (x1 : Int32) (x2 : Int32) (x3 : Int32) (x4 : Int32) (u : SG) : Option (Int32 × SG) := cl (hX11_isDarkEnough N x0 x4 u) fun r1 u2 => (if r1 = 0 then (rc29 x0 x1 x2 x3 (x4 + (1 : Int32)) u2)
  else (rc29 x0 x1 x2 x4 (x4 + (1 : Int32)) u2))
set_option maxRecDepth 20000 in
theorem egX11_dark_63 (N : Nat)  (rec29 : Nat → Int32 → Int32 → Int32 → Int32 → SG → Option (Int32 × SG)) (rc29 : Nat → Int32 → Int32 → Int32 → Int32 → SG → Option (Int32 × SG)) (hrc29 : ∀ (x0 : Nat) (x1 : Int32) (x2 : Int32) (x3 : Int32) (x4 : Int32) (u : SG), HK [(some x0, 12)] u → rec29 x0 x1 x2 x3 x4 u = rc29 x0 x1 x2 x3 x4 u) (x0 : Nat) (x1 : Int32) (x2 : Int32) (x3 : Int32) (x4 : Int32) (u : SG) (h_u : HK [(some x0, 12)] u) : gX11_dark_63 N  rec29 x0 x1 x2 x3 x4 u = hgX11_dark_63 N  rc29 x0 x1 x2 x3 x4 u := by
  unfold gX11_dark_63 hgX11_dark_63
  refine eq_g (show zK u x0 = 12 from (h_u.g 0 rfl)) ?_
  refine eq_cH (eX11_isDarkEnough N x0 x4 u (hkc (show zK u x0 = 12 from (h_u.g 0 rfl)) (hk0 h_u.1))) (fun r1 u2 e9 => h_u.fr (fr_X11_isDarkEnough (P := PT) N x0 x4 u clPT trivial _ _ e9).1) (fun r1 u2 h_u2 => ?_)
  refine eq_if ?_ ?_
  · exact hrc29 x0 x1 x2 x3 (x4 + (1 : Int32)) u2 (hkc (show zK u2 x0 = 12 from (h_u2.g 0 rfl)) (hk0 h_u2.1))
  · exact hrc29 x0 x1 x2 x4 (x4 + (1 : Int32)) u2 (hkc (show zK u2 x0 = 12 from (h_u2.g 0 rfl)) (hk0 h_u2.1))
set_option maxRecDepth 20000 in
def hgX11_dark_29 (N : Nat)   : Nat → Nat → Int32 → Int32 → Int32 → Int32 → SG → Option (Int32 × SG)
  | 0, _, _, _, _, _, _ => none
  | n + 1, x0, x1, x2, x3, x4, u => if x2 < x4 then (if x1 = 0 then (cl (fX11_bits N x3 u) fun r1 u2 => (some (r1, u2)))
  else (some (x3, u)))
  else (if (x4 &&& (x2 ^^^ (-1 : Int32))) = 0 then (if x3 < 0 then (hgX11_dark_63 N  (hgX11_dark_29 N   n)  x0 x1 x2 x3 x4 u)
  else (cl (fX11_bits N x4 u) fun r3 u4 => (cl (fX11_bits N x3 u4) fun r5 u6 => (if r3 < r5 then (hgX11_dark_63 N  (hgX11_dark_29 N   n)  x0 x1 x2 x3 x4 u6)
  else ((hgX11_dark_29 N   n) x0 x1 x2 x3 (x4 + (1 : Int32)) u6)))))
  else ((hgX11_dark_29 N   n) x0 x1 x2 x3 (x4 + (1 : Int32)) u))
set_option maxRecDepth 20000 in
theorem egX11_dark_29 (N : Nat)   : ∀ (n : Nat) (x0 : Nat) (x1 : Int32) (x2 : Int32) (x3 : Int32) (x4 : Int32) (u : SG), HK [(some x0, 12)] u → gX11_dark_29 N   n x0 x1 x2 x3 x4 u = hgX11_dark_29 N   n x0 x1 x2 x3 x4 u := by
  intro n
  induction n with
  | zero => intros; rfl
  | succ n ih =>
    intro x0 x1 x2 x3 x4 u h_u
    have hrc29 := ih
    rw [gX11_dark_29, hgX11_dark_29]
    refine eq_if ?_ ?_
    · refine eq_if ?_ ?_
      · refine eq_cH rfl (fun r1 u2 e9 => h_u.fr (fr_X11_bits (P := PT) N x3 u clPT _ _ e9).1) (fun r1 u2 h_u2 => ?_)
        rfl
      · rfl
    · refine eq_if ?_ ?_
      · refine eq_if ?_ ?_
        · exact egX11_dark_63 N  _ _ hrc29  x0 x1 x2 x3 x4 u (hkc (show zK u x0 = 12 from (h_u.g 0 rfl)) (hk0 h_u.1))
        · refine eq_cH rfl (fun r3 u4 e9 => h_u.fr (fr_X11_bits (P := PT) N x4 u clPT _ _ e9).1) (fun r3 u4 h_u4 => ?_)
          refine eq_cH rfl (fun r5 u6 e9 => h_u4.fr (fr_X11_bits (P := PT) N x3 u4 clPT _ _ e9).1) (fun r5 u6 h_u6 => ?_)
          refine eq_if ?_ ?_
          · exact egX11_dark_63 N  _ _ hrc29  x0 x1 x2 x3 x4 u6 (hkc (show zK u6 x0 = 12 from (h_u6.g 0 rfl)) (hk0 h_u6.1))
          · exact hrc29 x0 x1 x2 x3 (x4 + (1 : Int32)) u6 (hkc (show zK u6 x0 = 12 from (h_u6.g 0 rfl)) (hk0 h_u6.1))
      · exact hrc29 x0 x1 x2 x3 (x4 + (1 : Int32)) u (hkc (show zK u x0 = 12 from (h_u.g 0 rfl)) (hk0 h_u.1))
set_option maxRecDepth 20000 in
def hX11_dark (N : Nat)  (a0 : Nat) (p1 : Int32) (u : SG) : Option (Int32 × SG) := cl (hX11_isStreet N a0 u) fun r1 u2 => (if r1 = 0 then (some ((-1 : Int32), u2))
  else (cl (fX11_in N p1.toInt64 (0 : Int64) (1 : Int64) u2) fun r3 u4 => (if r3 = 0 then (some ((-1 : Int32), u4))
  else (cl (hX11_burning N a0 u4) fun r5 u6 => (hgX11_dark_29 N   N a0 p1 r5 (-1 : Int32) (0 : Int32) u6)))))
set_option maxRecDepth 20000 in
theorem eX11_dark (N : Nat)  (a0 : Nat) (p1 : Int32) (u : SG) (h_u : HK [(some a0, 12)] u) : fX11_dark N  a0 p1 u = hX11_dark N  a0 p1 u := by
  unfold fX11_dark hX11_dark
  refine eq_g (show zK u a0 = 12 from (h_u.g 0 rfl)) ?_
  refine eq_cH (eX11_isStreet N a0 u (hkc (show zK u a0 = 12 from (h_u.g 0 rfl)) (hk0 h_u.1))) (fun r1 u2 e9 => h_u.fr (fr_X11_isStreet (P := PT) N a0 u clPT trivial _ _ e9).1) (fun r1 u2 h_u2 => ?_)
  refine eq_if ?_ ?_
  · rfl
  · refine eq_cH rfl (fun r3 u4 e9 => h_u2.fr (fr_X11_in (P := PT) N p1.toInt64 (0 : Int64) (1 : Int64) u2 clPT _ _ e9).1) (fun r3 u4 h_u4 => ?_)
    refine eq_if ?_ ?_
    · rfl
    · refine eq_g (show zK u4 a0 = 12 from (h_u4.g 0 rfl)) ?_
      refine eq_cH (eX11_burning N a0 u4 (hkc (show zK u4 a0 = 12 from (h_u4.g 0 rfl)) (hk0 h_u4.1))) (fun r5 u6 e9 => h_u4.fr (fr_X11_burning (P := PT) N a0 u4 clPT trivial _ _ e9).1) (fun r5 u6 h_u6 => ?_)
      exact egX11_dark_29 N   N a0 p1 r5 (-1 : Int32) (0 : Int32) u6 (hkc (show zK u6 a0 = 12 from (h_u6.g 0 rfl)) (hk0 h_u6.1))
set_option maxRecDepth 20000 in
def hgX11_fact__132 (N : Nat)   (x0 : Nat) (x1 : Int32) (x2 : Int32) (x3 : Int32) (x4 : Int32) (u : SG) : Option (Int32 × SG) := bs ((103 : Int32) + ((4 : Int32) * (zI u (x0 + 10) 143))) fun v2 => (if v2 < 0 ∨ 144 ≤ v2.toNatClampNeg then none else (bs (sI u (x0 + 10) v2.toNatClampNeg x1) fun u4 => (if (v2 + (1 : Int32)) < 0 ∨ 144 ≤ (v2 + (1 : Int32)).toNatClampNeg then none else (bs (sI u4 (x0 + 10) (v2 + (1 : Int32)).toNatClampNeg x2) fun u6 => (if (v2 + (2 : Int32)) < 0 ∨ 144 ≤ (v2 + (2 : Int32)).toNatClampNeg then none else (bs (sI u6 (x0 + 10) (v2 + (2 : Int32)).toNatClampNeg x3) fun u8 => (if (v2 + (3 : Int32)) < 0 ∨ 144 ≤ (v2 + (3 : Int32)).toNatClampNeg then none else (bs (sI u8 (x0 + 10) (v2 + (3 : Int32)).toNatClampNeg x4) fun u10 => (bs (sI u10 (x0 + 10) 143 ((zI u10 (x0 + 10) 143) + (1 : Int32))) fun u12 => (some (zI u12 (x0 + 10) 143, u12)))))))))))
set_option maxRecDepth 20000 in
theorem egX11_fact__132 (N : Nat)   (x0 : Nat) (x1 : Int32) (x2 : Int32) (x3 : Int32) (x4 : Int32) (u : SG) (h_u : HK [(some x0, 12)] u) : gX11_fact__132 N   x0 x1 x2 x3 x4 u = hgX11_fact__132 N   x0 x1 x2 x3 x4 u := by
  unfold gX11_fact__132 hgX11_fact__132
  refine eq_g (show zK u x0 = 12 from (h_u.g 0 rfl)) ?_
  refine eq_bR (show zR u x0 20 = some (x0 + 10) from lyR_12_20 h_u.1 (h_u.g 0 rfl)) ?_
  refine eq_g (show zK u (x0 + 10) = 22 from (lyK_12_20 h_u.1 (h_u.g 0 rfl))) ?_
  refine eq_n (by rw [show zN u (x0 + 10) = 144 from lyN_12_20 h_u.1 (h_u.g 0 rfl)]; decide) ?_
  refine eq_bs (fun v2 => ?_)
  refine eq_g (show zK u x0 = 12 from (h_u.g 0 rfl)) ?_
  refine eq_bR (show zR u x0 20 = some (x0 + 10) from lyR_12_20 h_u.1 (h_u.g 0 rfl)) ?_
  refine eq_g (show zK u (x0 + 10) = 22 from (lyK_12_20 h_u.1 (h_u.g 0 rfl))) ?_
  refine eq_ixh (show zN u (x0 + 10) = 144 from lyN_12_20 h_u.1 (h_u.g 0 rfl)) (fun hix1 => ?_)
  refine eq_sH (h_u.fr (P := PT) (Fr.sIr trivial)) (fun u4 h_u4 => ?_)
  refine eq_g (show zK u4 x0 = 12 from (h_u4.g 0 rfl)) ?_
  refine eq_bR (show zR u4 x0 20 = some (x0 + 10) from lyR_12_20 h_u4.1 (h_u4.g 0 rfl)) ?_
  refine eq_g (show zK u4 (x0 + 10) = 22 from (lyK_12_20 h_u4.1 (h_u4.g 0 rfl))) ?_
  refine eq_ixh (show zN u4 (x0 + 10) = 144 from lyN_12_20 h_u4.1 (h_u4.g 0 rfl)) (fun hix2 => ?_)
  refine eq_sH (h_u4.fr (P := PT) (Fr.sIr trivial)) (fun u6 h_u6 => ?_)
  refine eq_g (show zK u6 x0 = 12 from (h_u6.g 0 rfl)) ?_
  refine eq_bR (show zR u6 x0 20 = some (x0 + 10) from lyR_12_20 h_u6.1 (h_u6.g 0 rfl)) ?_
  refine eq_g (show zK u6 (x0 + 10) = 22 from (lyK_12_20 h_u6.1 (h_u6.g 0 rfl))) ?_
  refine eq_ixh (show zN u6 (x0 + 10) = 144 from lyN_12_20 h_u6.1 (h_u6.g 0 rfl)) (fun hix3 => ?_)
  refine eq_sH (h_u6.fr (P := PT) (Fr.sIr trivial)) (fun u8 h_u8 => ?_)
  refine eq_g (show zK u8 x0 = 12 from (h_u8.g 0 rfl)) ?_
  refine eq_bR (show zR u8 x0 20 = some (x0 + 10) from lyR_12_20 h_u8.1 (h_u8.g 0 rfl)) ?_
  refine eq_g (show zK u8 (x0 + 10) = 22 from (lyK_12_20 h_u8.1 (h_u8.g 0 rfl))) ?_
  refine eq_ixh (show zN u8 (x0 + 10) = 144 from lyN_12_20 h_u8.1 (h_u8.g 0 rfl)) (fun hix4 => ?_)
  refine eq_sH (h_u8.fr (P := PT) (Fr.sIr trivial)) (fun u10 h_u10 => ?_)
  refine eq_g (show zK u10 x0 = 12 from (h_u10.g 0 rfl)) ?_
  refine eq_bR (show zR u10 x0 20 = some (x0 + 10) from lyR_12_20 h_u10.1 (h_u10.g 0 rfl)) ?_
  refine eq_g (show zK u10 (x0 + 10) = 22 from (lyK_12_20 h_u10.1 (h_u10.g 0 rfl))) ?_
  refine eq_n (by rw [show zN u10 (x0 + 10) = 144 from lyN_12_20 h_u10.1 (h_u10.g 0 rfl)]; decide) ?_
  refine eq_g (show zK u10 (x0 + 10) = 22 from (lyK_12_20 h_u10.1 (h_u10.g 0 rfl))) ?_
  refine eq_n (by rw [show zN u10 (x0 + 10) = 144 from lyN_12_20 h_u10.1 (h_u10.g 0 rfl)]; decide) ?_
  refine eq_sH (h_u10.fr (P := PT) (Fr.sIr trivial)) (fun u12 h_u12 => ?_)
  refine eq_g (show zK u12 x0 = 12 from (h_u12.g 0 rfl)) ?_
  refine eq_bR (show zR u12 x0 20 = some (x0 + 10) from lyR_12_20 h_u12.1 (h_u12.g 0 rfl)) ?_
  refine eq_g (show zK u12 (x0 + 10) = 22 from (lyK_12_20 h_u12.1 (h_u12.g 0 rfl))) ?_
  refine eq_n (by rw [show zN u12 (x0 + 10) = 144 from lyN_12_20 h_u12.1 (h_u12.g 0 rfl)]; decide) ?_
  rfl
set_option maxRecDepth 20000 in
def hgX11_fact__99 (N : Nat)   (x0 : Nat) (x1 : Int32) (x2 : Int32) (x3 : Int32) (x4 : Int32) (u : SG) : Option (Int32 × SG) := if x1 ≤ (3 : Int32) then (hgX11_fact__132 N    x0 x1 x2 x3 x4 u)
  else (cl (fX11_in N x3.toInt64 (0 : Int64) (300 : Int64) u) fun r1 u2 => (if r1 = 0 then (some ((-2 : Int32), u2))
  else (cl (fX11_in N x4.toInt64 (0 : Int64) (300 : Int64) u2) fun r3 u4 => (if r3 = 0 then (some ((-2 : Int32), u4))
  else (hgX11_fact__132 N    x0 x1 x2 x3 x4 u4)))))
set_option maxRecDepth 20000 in
theorem egX11_fact__99 (N : Nat)   (x0 : Nat) (x1 : Int32) (x2 : Int32) (x3 : Int32) (x4 : Int32) (u : SG) (h_u : HK [(some x0, 12)] u) : gX11_fact__99 N   x0 x1 x2 x3 x4 u = hgX11_fact__99 N   x0 x1 x2 x3 x4 u := by
  unfold gX11_fact__99 hgX11_fact__99
  refine eq_if ?_ ?_
  · exact egX11_fact__132 N    x0 x1 x2 x3 x4 u (hkc (show zK u x0 = 12 from (h_u.g 0 rfl)) (hk0 h_u.1))
  · refine eq_cH rfl (fun r1 u2 e9 => h_u.fr (fr_X11_in (P := PT) N x3.toInt64 (0 : Int64) (300 : Int64) u clPT _ _ e9).1) (fun r1 u2 h_u2 => ?_)
    refine eq_if ?_ ?_
    · rfl
    · refine eq_cH rfl (fun r3 u4 e9 => h_u2.fr (fr_X11_in (P := PT) N x4.toInt64 (0 : Int64) (300 : Int64) u2 clPT _ _ e9).1) (fun r3 u4 h_u4 => ?_)
      refine eq_if ?_ ?_
      · rfl
      · exact egX11_fact__132 N    x0 x1 x2 x3 x4 u4 (hkc (show zK u4 x0 = 12 from (h_u4.g 0 rfl)) (hk0 h_u4.1))
set_option maxRecDepth 20000 in
def hgX11_fact__66 (N : Nat)   (x0 : Nat) (x1 : Int32) (x2 : Int32) (x3 : Int32) (x4 : Int32) (s0 : Int32) (u : SG) : Option (Int32 × SG) := if s0 = 0 then (cl (hX11_isPerson N x0 x2 u) fun r1 u2 => (if r1 = 0 then (some ((-2 : Int32), u2))
  else (hgX11_fact__99 N    x0 x1 x2 x3 x4 u2)))
  else (cl (fX11_in N x2.toInt64 (0 : Int64) (5 : Int64) u) fun r3 u4 => (if r3 = 0 then (some ((-2 : Int32), u4))
  else (hgX11_fact__99 N    x0 x1 x2 x3 x4 u4)))
set_option maxRecDepth 20000 in
theorem egX11_fact__66 (N : Nat)   (x0 : Nat) (x1 : Int32) (x2 : Int32) (x3 : Int32) (x4 : Int32) (s0 : Int32) (u : SG) (h_u : HK [(some x0, 12)] u) : gX11_fact__66 N   x0 x1 x2 x3 x4 s0 u = hgX11_fact__66 N   x0 x1 x2 x3 x4 s0 u := by
  unfold gX11_fact__66 hgX11_fact__66
  refine eq_if ?_ ?_
  · refine eq_g (show zK u x0 = 12 from (h_u.g 0 rfl)) ?_
    refine eq_cH (eX11_isPerson N x0 x2 u (hkc (show zK u x0 = 12 from (h_u.g 0 rfl)) (hk0 h_u.1))) (fun r1 u2 e9 => h_u.fr (fr_X11_isPerson (P := PT) N x0 x2 u clPT trivial _ _ e9).1) (fun r1 u2 h_u2 => ?_)
    refine eq_if ?_ ?_
    · rfl
    · exact egX11_fact__99 N    x0 x1 x2 x3 x4 u2 (hkc (show zK u2 x0 = 12 from (h_u2.g 0 rfl)) (hk0 h_u2.1))
  · refine eq_cH rfl (fun r3 u4 e9 => h_u.fr (fr_X11_in (P := PT) N x2.toInt64 (0 : Int64) (5 : Int64) u clPT _ _ e9).1) (fun r3 u4 h_u4 => ?_)
    refine eq_if ?_ ?_
    · rfl
    · exact egX11_fact__99 N    x0 x1 x2 x3 x4 u4 (hkc (show zK u4 x0 = 12 from (h_u4.g 0 rfl)) (hk0 h_u4.1))
set_option maxRecDepth 20000 in
def hgX11_fact__61 (N : Nat)   (x0 : Nat) (x1 : Int32) (x2 : Int32) (x3 : Int32) (x4 : Int32) (u : SG) : Option (Int32 × SG) := hgX11_fact__66 N    x0 x1 x2 x3 x4 (1 : Int32) u
set_option maxRecDepth 20000 in
theorem egX11_fact__61 (N : Nat)   (x0 : Nat) (x1 : Int32) (x2 : Int32) (x3 : Int32) (x4 : Int32) (u : SG) (h_u : HK [(some x0, 12)] u) : gX11_fact__61 N   x0 x1 x2 x3 x4 u = hgX11_fact__61 N   x0 x1 x2 x3 x4 u := by
  unfold gX11_fact__61 hgX11_fact__61
  exact egX11_fact__66 N    x0 x1 x2 x3 x4 (1 : Int32) u (hkc (show zK u x0 = 12 from (h_u.g 0 rfl)) (hk0 h_u.1))
set_option maxRecDepth 20000 in
def hX11_fact_ (N : Nat)  (a0 : Nat) (p1 : Int32) (p2 : Int32) (p3 : Int32) (p4 : Int32) (u : SG) : Option (Int32 × SG) := if p1 = (-1 : Int32) then (bs (sI u (a0 + 10) 143 (0 : Int32)) fun u7 => (some ((0 : Int32), u7)))
  else (cl (hX11_isStreet N a0 u) fun r1 u2 => (if r1 = 0 then (some ((-2 : Int32), u2))
  else (cl (fX11_in N p1.toInt64 (0 : Int64) (5 : Int64) u2) fun r3 u4 => (if r3 = 0 then (some ((-2 : Int32), u4))
  else (if (zI u4 (a0 + 10) 143) = (10 : Int32) then (some ((-2 : Int32), u4))
  else (if p1 = (2 : Int32) then (hgX11_fact__61 N    a0 p1 p2 p3 p4 u4)
  else (if p1 = (3 : Int32) then (hgX11_fact__61 N    a0 p1 p2 p3 p4 u4)
  else (hgX11_fact__66 N    a0 p1 p2 p3 p4 (0 : Int32) u4))))))))
set_option maxRecDepth 20000 in
theorem eX11_fact_ (N : Nat)  (a0 : Nat) (p1 : Int32) (p2 : Int32) (p3 : Int32) (p4 : Int32) (u : SG) (h_u : HK [(some a0, 12)] u) : fX11_fact_ N  a0 p1 p2 p3 p4 u = hX11_fact_ N  a0 p1 p2 p3 p4 u := by
  unfold fX11_fact_ hX11_fact_
  refine eq_if ?_ ?_
  · refine eq_g (show zK u a0 = 12 from (h_u.g 0 rfl)) ?_
    refine eq_bR (show zR u a0 20 = some (a0 + 10) from lyR_12_20 h_u.1 (h_u.g 0 rfl)) ?_
    refine eq_g (show zK u (a0 + 10) = 22 from (lyK_12_20 h_u.1 (h_u.g 0 rfl))) ?_
    refine eq_n (by rw [show zN u (a0 + 10) = 144 from lyN_12_20 h_u.1 (h_u.g 0 rfl)]; decide) ?_
    refine eq_sH (h_u.fr (P := PT) (Fr.sIr trivial)) (fun u7 h_u7 => ?_)
    rfl
  · refine eq_g (show zK u a0 = 12 from (h_u.g 0 rfl)) ?_
    refine eq_cH (eX11_isStreet N a0 u (hkc (show zK u a0 = 12 from (h_u.g 0 rfl)) (hk0 h_u.1))) (fun r1 u2 e9 => h_u.fr (fr_X11_isStreet (P := PT) N a0 u clPT trivial _ _ e9).1) (fun r1 u2 h_u2 => ?_)
    refine eq_if ?_ ?_
    · rfl
    · refine eq_cH rfl (fun r3 u4 e9 => h_u2.fr (fr_X11_in (P := PT) N p1.toInt64 (0 : Int64) (5 : Int64) u2 clPT _ _ e9).1) (fun r3 u4 h_u4 => ?_)
      refine eq_if ?_ ?_
      · rfl
      · refine eq_g (show zK u4 a0 = 12 from (h_u4.g 0 rfl)) ?_
        refine eq_bR (show zR u4 a0 20 = some (a0 + 10) from lyR_12_20 h_u4.1 (h_u4.g 0 rfl)) ?_
        refine eq_g (show zK u4 (a0 + 10) = 22 from (lyK_12_20 h_u4.1 (h_u4.g 0 rfl))) ?_
        refine eq_n (by rw [show zN u4 (a0 + 10) = 144 from lyN_12_20 h_u4.1 (h_u4.g 0 rfl)]; decide) ?_
        refine eq_if ?_ ?_
        · rfl
        · refine eq_if ?_ ?_
          · exact egX11_fact__61 N    a0 p1 p2 p3 p4 u4 (hkc (show zK u4 a0 = 12 from (h_u4.g 0 rfl)) (hk0 h_u4.1))
          · refine eq_if ?_ ?_
            · exact egX11_fact__61 N    a0 p1 p2 p3 p4 u4 (hkc (show zK u4 a0 = 12 from (h_u4.g 0 rfl)) (hk0 h_u4.1))
            · exact egX11_fact__66 N    a0 p1 p2 p3 p4 (0 : Int32) u4 (hkc (show zK u4 a0 = 12 from (h_u4.g 0 rfl)) (hk0 h_u4.1))
set_option maxRecDepth 20000 in
def hX11_isFactSo (N : Nat)  (a0 : Nat) (p1 : Int32) (p2 : Int32) (u : SG) : Option (Int32 × SG) := cl (fX11_bits N p2 u) fun r1 u2 => (if (p1 + (1 : Int32)) < 0 ∨ 144 ≤ (p1 + (1 : Int32)).toNatClampNeg then none else (bs (zI u2 (a0 + 10) (p1 + (1 : Int32)).toNatClampNeg) fun v4 => (if p1 < 0 ∨ 144 ≤ p1.toNatClampNeg then none else (bs (zI u2 (a0 + 10) p1.toNatClampNeg) fun v6 => (if v6 = (0 : Int32) then (cl (fX11_isOf N p2 v4 u2) fun r7 u8 => (if r7 = 0 ∨ r7 = 1 then (some (r7, u8))
  else (none)))
  else (if v6 = (1 : Int32) then (cl (fX11_isOf N p2 v4 u2) fun r9 u10 => (if r9 = 0 then (some ((1 : Int32), u10))
  else (some ((0 : Int32), u10))))
  else (if v6 = (2 : Int32) then (if r1 < v4 then (some ((0 : Int32), u2))
  else (some ((1 : Int32), u2)))
  else (if v6 = (3 : Int32) then (if v4 < r1 then (some ((0 : Int32), u2))
  else (some ((1 : Int32), u2)))
  else (if v6 = (4 : Int32) then (cl (fX11_isOf N p2 v4 u2) fun r11 u12 => (if r11 = 0 then (some ((0 : Int32), u12))
  else (if (p1 + (3 : Int32)) < 0 ∨ 144 ≤ (p1 + (3 : Int32)).toNatClampNeg then none else (if (p1 + (2 : Int32)) < 0 ∨ 144 ≤ (p1 + (2 : Int32)).toNatClampNeg then none else (if ((zI u12 (a0 + 10) (p1 + (2 : Int32)).toNatClampNeg) * r1) < (zI u12 (a0 + 10) (p1 + (3 : Int32)).toNatClampNeg) then (some ((0 : Int32), u12))
  else (some ((1 : Int32), u12)))))))
  else (cl (fX11_isOf N p2 v4 u2) fun r15 u16 => (if r15 = 0 then (some ((0 : Int32), u16))
  else (if (p1 + (3 : Int32)) < 0 ∨ 144 ≤ (p1 + (3 : Int32)).toNatClampNeg then none else (if (p1 + (2 : Int32)) < 0 ∨ 144 ≤ (p1 + (2 : Int32)).toNatClampNeg then none else (if (zI u16 (a0 + 10) (p1 + (3 : Int32)).toNatClampNeg) ≤ ((zI u16 (a0 + 10) (p1 + (2 : Int32)).toNatClampNeg) * r1) then (some ((0 : Int32), u16))
  else (some ((1 : Int32), u16))))))))))))))))
set_option maxRecDepth 20000 in
theorem eX11_isFactSo (N : Nat)  (a0 : Nat) (p1 : Int32) (p2 : Int32) (u : SG) (h_u : HK [(some a0, 12)] u) : fX11_isFactSo N  a0 p1 p2 u = hX11_isFactSo N  a0 p1 p2 u := by
  unfold fX11_isFactSo hX11_isFactSo
  refine eq_cH rfl (fun r1 u2 e9 => h_u.fr (fr_X11_bits (P := PT) N p2 u clPT _ _ e9).1) (fun r1 u2 h_u2 => ?_)
  refine eq_g (show zK u2 a0 = 12 from (h_u2.g 0 rfl)) ?_
  refine eq_bR (show zR u2 a0 20 = some (a0 + 10) from lyR_12_20 h_u2.1 (h_u2.g 0 rfl)) ?_
  refine eq_g (show zK u2 (a0 + 10) = 22 from (lyK_12_20 h_u2.1 (h_u2.g 0 rfl))) ?_
  refine eq_ixh (show zN u2 (a0 + 10) = 144 from lyN_12_20 h_u2.1 (h_u2.g 0 rfl)) (fun hix1 => ?_)
  refine eq_bs (fun v4 => ?_)
  refine eq_g (show zK u2 a0 = 12 from (h_u2.g 0 rfl)) ?_
  refine eq_bR (show zR u2 a0 20 = some (a0 + 10) from lyR_12_20 h_u2.1 (h_u2.g 0 rfl)) ?_
  refine eq_g (show zK u2 (a0 + 10) = 22 from (lyK_12_20 h_u2.1 (h_u2.g 0 rfl))) ?_
  refine eq_ixh (show zN u2 (a0 + 10) = 144 from lyN_12_20 h_u2.1 (h_u2.g 0 rfl)) (fun hix2 => ?_)
  refine eq_bs (fun v6 => ?_)
  refine eq_if ?_ ?_
  · refine eq_cH rfl (fun r7 u8 e9 => h_u2.fr (fr_X11_isOf (P := PT) N p2 v4 u2 clPT _ _ e9).1) (fun r7 u8 h_u8 => ?_)
    refine eq_if ?_ ?_
    · rfl
    · rfl
  · refine eq_if ?_ ?_
    · refine eq_cH rfl (fun r9 u10 e9 => h_u2.fr (fr_X11_isOf (P := PT) N p2 v4 u2 clPT _ _ e9).1) (fun r9 u10 h_u10 => ?_)
      refine eq_if ?_ ?_
      · rfl
      · rfl
    · refine eq_if ?_ ?_
      · refine eq_if ?_ ?_
        · rfl
        · rfl
      · refine eq_if ?_ ?_
        · refine eq_if ?_ ?_
          · rfl
          · rfl
        · refine eq_if ?_ ?_
          · refine eq_cH rfl (fun r11 u12 e9 => h_u2.fr (fr_X11_isOf (P := PT) N p2 v4 u2 clPT _ _ e9).1) (fun r11 u12 h_u12 => ?_)
            refine eq_if ?_ ?_
            · rfl
            · refine eq_g (show zK u12 a0 = 12 from (h_u12.g 0 rfl)) ?_
              refine eq_bR (show zR u12 a0 20 = some (a0 + 10) from lyR_12_20 h_u12.1 (h_u12.g 0 rfl)) ?_
              refine eq_g (show zK u12 (a0 + 10) = 22 from (lyK_12_20 h_u12.1 (h_u12.g 0 rfl))) ?_
              refine eq_ixh (show zN u12 (a0 + 10) = 144 from lyN_12_20 h_u12.1 (h_u12.g 0 rfl)) (fun hix3 => ?_)
              refine eq_g (show zK u12 a0 = 12 from (h_u12.g 0 rfl)) ?_
              refine eq_bR (show zR u12 a0 20 = some (a0 + 10) from lyR_12_20 h_u12.1 (h_u12.g 0 rfl)) ?_
              refine eq_g (show zK u12 (a0 + 10) = 22 from (lyK_12_20 h_u12.1 (h_u12.g 0 rfl))) ?_
              refine eq_ixh (show zN u12 (a0 + 10) = 144 from lyN_12_20 h_u12.1 (h_u12.g 0 rfl)) (fun hix4 => ?_)
              refine eq_if ?_ ?_
              · rfl
              · rfl
          · refine eq_cH rfl (fun r15 u16 e9 => h_u2.fr (fr_X11_isOf (P := PT) N p2 v4 u2 clPT _ _ e9).1) (fun r15 u16 h_u16 => ?_)
            refine eq_if ?_ ?_
            · rfl
            · refine eq_g (show zK u16 a0 = 12 from (h_u16.g 0 rfl)) ?_
              refine eq_bR (show zR u16 a0 20 = some (a0 + 10) from lyR_12_20 h_u16.1 (h_u16.g 0 rfl)) ?_
              refine eq_g (show zK u16 (a0 + 10) = 22 from (lyK_12_20 h_u16.1 (h_u16.g 0 rfl))) ?_
              refine eq_ixh (show zN u16 (a0 + 10) = 144 from lyN_12_20 h_u16.1 (h_u16.g 0 rfl)) (fun hix5 => ?_)
              refine eq_g (show zK u16 a0 = 12 from (h_u16.g 0 rfl)) ?_
              refine eq_bR (show zR u16 a0 20 = some (a0 + 10) from lyR_12_20 h_u16.1 (h_u16.g 0 rfl)) ?_
              refine eq_g (show zK u16 (a0 + 10) = 22 from (lyK_12_20 h_u16.1 (h_u16.g 0 rfl))) ?_
              refine eq_ixh (show zN u16 (a0 + 10) = 144 from lyN_12_20 h_u16.1 (h_u16.g 0 rfl)) (fun hix6 => ?_)
              refine eq_if ?_ ?_
              · rfl
              · rfl
set_option maxRecDepth 20000 in
def hgX11_fitsFacts_2 (N : Nat)   : Nat → Nat → Int32 → Int32 → SG → Option (Int32 × SG)
  | 0, _, _, _, _ => none
  | n + 1, x0, x1, x2, u => if (zI u (x0 + 10) 143) ≤ x2 then (some ((1 : Int32), u))
  else (cl (hX11_isFactSo N x0 ((103 : Int32) + ((4 : Int32) * x2)) x1 u) fun r2 u3 => (if r2 = 0 then (some ((0 : Int32), u3))
  else ((hgX11_fitsFacts_2 N   n) x0 x1 (x2 + (1 : Int32)) u3)))
set_option maxRecDepth 20000 in
theorem egX11_fitsFacts_2 (N : Nat)   : ∀ (n : Nat) (x0 : Nat) (x1 : Int32) (x2 : Int32) (u : SG), HK [(some x0, 12)] u → gX11_fitsFacts_2 N   n x0 x1 x2 u = hgX11_fitsFacts_2 N   n x0 x1 x2 u := by
  intro n
  induction n with
  | zero => intros; rfl
  | succ n ih =>
    intro x0 x1 x2 u h_u
    have hrc2 := ih
    rw [gX11_fitsFacts_2, hgX11_fitsFacts_2]
    refine eq_g (show zK u x0 = 12 from (h_u.g 0 rfl)) ?_
    refine eq_bR (show zR u x0 20 = some (x0 + 10) from lyR_12_20 h_u.1 (h_u.g 0 rfl)) ?_
    refine eq_g (show zK u (x0 + 10) = 22 from (lyK_12_20 h_u.1 (h_u.g 0 rfl))) ?_
    refine eq_n (by rw [show zN u (x0 + 10) = 144 from lyN_12_20 h_u.1 (h_u.g 0 rfl)]; decide) ?_
    refine eq_if ?_ ?_
    · rfl
    · refine eq_g (show zK u x0 = 12 from (h_u.g 0 rfl)) ?_
      refine eq_cH (eX11_isFactSo N x0 ((103 : Int32) + ((4 : Int32) * x2)) x1 u (hkc (show zK u x0 = 12 from (h_u.g 0 rfl)) (hk0 h_u.1))) (fun r2 u3 e9 => h_u.fr (fr_X11_isFactSo (P := PT) N x0 ((103 : Int32) + ((4 : Int32) * x2)) x1 u clPT trivial _ _ e9).1) (fun r2 u3 h_u3 => ?_)
      refine eq_if ?_ ?_
      · rfl
      · exact hrc2 x0 x1 (x2 + (1 : Int32)) u3 (hkc (show zK u3 x0 = 12 from (h_u3.g 0 rfl)) (hk0 h_u3.1))
set_option maxRecDepth 20000 in
def hX11_fitsFacts (N : Nat)  (a0 : Nat) (p1 : Int32) (u : SG) : Option (Int32 × SG) := hgX11_fitsFacts_2 N   N a0 p1 (0 : Int32) u
set_option maxRecDepth 20000 in
theorem eX11_fitsFacts (N : Nat)  (a0 : Nat) (p1 : Int32) (u : SG) (h_u : HK [(some a0, 12)] u) : fX11_fitsFacts N  a0 p1 u = hX11_fitsFacts N  a0 p1 u := by
  unfold fX11_fitsFacts hX11_fitsFacts
  exact egX11_fitsFacts_2 N   N a0 p1 (0 : Int32) u (hkc (show zK u a0 = 12 from (h_u.g 0 rfl)) (hk0 h_u.1))
set_option maxRecDepth 20000 in
def hgX11_slept_76 (N : Nat)  (rc47 : Nat → Int32 → Int32 → Int32 → Int32 → Int32 → Int32 → Int32 → SG → Option (Int32 × SG)) (x0 : Nat) (x1 : Int32) (x2 : Int32) (x3 : Int32) (x5 : Int32) (x6 : Int32) (x7 : Int32) (s0 : Int32) (u : SG) : Option (Int32 × SG) := bs (x5 &&& x7) fun v1 => (bs (x6 &&& (x7 ^^^ (-1 : Int32))) fun v2 => (rc47 x0 x1 x2 (x3 + (1 : Int32)) s0 v1 v2 (x7 + (1 : Int32)) u))
set_option maxRecDepth 20000 in
theorem egX11_slept_76 (N : Nat)  (rec47 : Nat → Int32 → Int32 → Int32 → Int32 → Int32 → Int32 → Int32 → SG → Option (Int32 × SG)) (rc47 : Nat → Int32 → Int32 → Int32 → Int32 → Int32 → Int32 → Int32 → SG → Option (Int32 × SG)) (hrc47 : ∀ (x0 : Nat) (x1 : Int32) (x2 : Int32) (x3 : Int32) (x4 : Int32) (x5 : Int32) (x6 : Int32) (x7 : Int32) (u : SG), HK [(some x0, 12)] u → rec47 x0 x1 x2 x3 x4 x5 x6 x7 u = rc47 x0 x1 x2 x3 x4 x5 x6 x7 u) (x0 : Nat) (x1 : Int32) (x2 : Int32) (x3 : Int32) (x5 : Int32) (x6 : Int32) (x7 : Int32) (s0 : Int32) (u : SG) (h_u : HK [(some x0, 12)] u) : gX11_slept_76 N  rec47 x0 x1 x2 x3 x5 x6 x7 s0 u = hgX11_slept_76 N  rc47 x0 x1 x2 x3 x5 x6 x7 s0 u := by
  unfold gX11_slept_76 hgX11_slept_76
  refine eq_bs (fun v1 => ?_)
  refine eq_bs (fun v2 => ?_)
  exact hrc47 x0 x1 x2 (x3 + (1 : Int32)) s0 v1 v2 (x7 + (1 : Int32)) u (hkc (show zK u x0 = 12 from (h_u.g 0 rfl)) (hk0 h_u.1))
set_option maxRecDepth 20000 in
def hgX11_slept_47 (N : Nat)   : Nat → Nat → Int32 → Int32 → Int32 → Int32 → Int32 → Int32 → Int32 → SG → Option (Int32 × SG)
  | 0, _, _, _, _, _, _, _, _, _ => none
  | n + 1, x0, x1, x2, x3, x4, x5, x6, x7, u => if x2 < x7 then (if (2 : Int32) ≤ x1 then (if x3 = 0 then (some ((0 : Int32), u))
  else (if x1 = (2 : Int32) then (some (x5, u))
  else (some (x6, u))))
  else (if x1 = 0 then (some (x3, u))
  else (some (x4, u))))
  else (cl (hX11_fitsFacts N x0 x7 u) fun r1 u2 => (if r1 = 0 then ((hgX11_slept_47 N   n) x0 x1 x2 x3 x4 x5 x6 (x7 + (1 : Int32)) u2)
  else (if x3 = 0 then (hgX11_slept_76 N  (hgX11_slept_47 N   n)  x0 x1 x2 x3 x5 x6 x7 x7 u2)
  else (hgX11_slept_76 N  (hgX11_slept_47 N   n)  x0 x1 x2 x3 x5 x6 x7 x4 u2))))
set_option maxRecDepth 20000 in
theorem egX11_slept_47 (N : Nat)   : ∀ (n : Nat) (x0 : Nat) (x1 : Int32) (x2 : Int32) (x3 : Int32) (x4 : Int32) (x5 : Int32) (x6 : Int32) (x7 : Int32) (u : SG), HK [(some x0, 12)] u → gX11_slept_47 N   n x0 x1 x2 x3 x4 x5 x6 x7 u = hgX11_slept_47 N   n x0 x1 x2 x3 x4 x5 x6 x7 u := by
  intro n
  induction n with
  | zero => intros; rfl
  | succ n ih =>
    intro x0 x1 x2 x3 x4 x5 x6 x7 u h_u
    have hrc47 := ih
    rw [gX11_slept_47, hgX11_slept_47]
    refine eq_if ?_ ?_
    · refine eq_if ?_ ?_
      · refine eq_if ?_ ?_
        · rfl
        · refine eq_if ?_ ?_
          · rfl
          · rfl
      · refine eq_if ?_ ?_
        · rfl
        · rfl
    · refine eq_g (show zK u x0 = 12 from (h_u.g 0 rfl)) ?_
      refine eq_cH (eX11_fitsFacts N x0 x7 u (hkc (show zK u x0 = 12 from (h_u.g 0 rfl)) (hk0 h_u.1))) (fun r1 u2 e9 => h_u.fr (fr_X11_fitsFacts (P := PT) N x0 x7 u clPT trivial _ _ e9).1) (fun r1 u2 h_u2 => ?_)
      refine eq_if ?_ ?_
      · exact hrc47 x0 x1 x2 x3 x4 x5 x6 (x7 + (1 : Int32)) u2 (hkc (show zK u2 x0 = 12 from (h_u2.g 0 rfl)) (hk0 h_u2.1))
      · refine eq_if ?_ ?_
        · exact egX11_slept_76 N  _ _ hrc47  x0 x1 x2 x3 x5 x6 x7 x7 u2 (hkc (show zK u2 x0 = 12 from (h_u2.g 0 rfl)) (hk0 h_u2.1))
        · exact egX11_slept_76 N  _ _ hrc47  x0 x1 x2 x3 x5 x6 x7 x4 u2 (hkc (show zK u2 x0 = 12 from (h_u2.g 0 rfl)) (hk0 h_u2.1))
set_option maxRecDepth 20000 in
def hX11_slept (N : Nat)  (a0 : Nat) (p1 : Int32) (u : SG) : Option (Int32 × SG) := cl (hX11_isStreet N a0 u) fun r1 u2 => (if r1 = 0 then (some ((-1 : Int32), u2))
  else (cl (fX11_in N p1.toInt64 (0 : Int64) (3 : Int64) u2) fun r3 u4 => (if r3 = 0 then (some ((-1 : Int32), u4))
  else (bs (((1 : Int32) <<< ((zI u4 (a0 + 10) 1) &&& 31)) - (1 : Int32)) fun v6 => (hgX11_slept_47 N   N a0 p1 v6 (0 : Int32) (-2 : Int32) v6 v6 (0 : Int32) u4)))))
set_option maxRecDepth 20000 in
theorem eX11_slept (N : Nat)  (a0 : Nat) (p1 : Int32) (u : SG) (h_u : HK [(some a0, 12)] u) : fX11_slept N  a0 p1 u = hX11_slept N  a0 p1 u := by
  unfold fX11_slept hX11_slept
  refine eq_g (show zK u a0 = 12 from (h_u.g 0 rfl)) ?_
  refine eq_cH (eX11_isStreet N a0 u (hkc (show zK u a0 = 12 from (h_u.g 0 rfl)) (hk0 h_u.1))) (fun r1 u2 e9 => h_u.fr (fr_X11_isStreet (P := PT) N a0 u clPT trivial _ _ e9).1) (fun r1 u2 h_u2 => ?_)
  refine eq_if ?_ ?_
  · rfl
  · refine eq_cH rfl (fun r3 u4 e9 => h_u2.fr (fr_X11_in (P := PT) N p1.toInt64 (0 : Int64) (3 : Int64) u2 clPT _ _ e9).1) (fun r3 u4 h_u4 => ?_)
    refine eq_if ?_ ?_
    · rfl
    · refine eq_g (show zK u4 a0 = 12 from (h_u4.g 0 rfl)) ?_
      refine eq_bR (show zR u4 a0 20 = some (a0 + 10) from lyR_12_20 h_u4.1 (h_u4.g 0 rfl)) ?_
      refine eq_g (show zK u4 (a0 + 10) = 22 from (lyK_12_20 h_u4.1 (h_u4.g 0 rfl))) ?_
      refine eq_n (by rw [show zN u4 (a0 + 10) = 144 from lyN_12_20 h_u4.1 (h_u4.g 0 rfl)]; decide) ?_
      refine eq_bs (fun v6 => ?_)
      exact egX11_slept_47 N   N a0 p1 v6 (0 : Int32) (-2 : Int32) v6 v6 (0 : Int32) u4 (hkc (show zK u4 a0 = 12 from (h_u4.g 0 rfl)) (hk0 h_u4.1))
set_option maxRecDepth 20000 in
def hgX11_ask_112 (N : Nat)  (rc28 : Nat → Int32 → Int32 → Int32 → Int32 → SG → Option (Int32 × SG)) (x0 : Nat) (x1 : Int32) (x2 : Int32) (x3 : Int32) (x4 : Int32) (s0 : Int32) (u : SG) : Option (Int32 × SG) := if s0 = 0 then (rc28 x0 x1 x2 x3 (x4 + (1 : Int32)) u)
  else (if x2 < 0 then (rc28 x0 x1 x4 s0 (x4 + (1 : Int32)) u)
  else (if s0 < x3 then (rc28 x0 x1 x4 s0 (x4 + (1 : Int32)) u)
  else (rc28 x0 x1 x2 x3 (x4 + (1 : Int32)) u)))
set_option maxRecDepth 20000 in
theorem egX11_ask_112 (N : Nat)  (rec28 : Nat → Int32 → Int32 → Int32 → Int32 → SG → Option (Int32 × SG)) (rc28 : Nat → Int32 → Int32 → Int32 → Int32 → SG → Option (Int32 × SG)) (hrc28 : ∀ (x0 : Nat) (x1 : Int32) (x2 : Int32) (x3 : Int32) (x4 : Int32) (u : SG), HK [(some x0, 12)] u → rec28 x0 x1 x2 x3 x4 u = rc28 x0 x1 x2 x3 x4 u) (x0 : Nat) (x1 : Int32) (x2 : Int32) (x3 : Int32) (x4 : Int32) (s0 : Int32) (u : SG) (h_u : HK [(some x0, 12)] u) : gX11_ask_112 N  rec28 x0 x1 x2 x3 x4 s0 u = hgX11_ask_112 N  rc28 x0 x1 x2 x3 x4 s0 u := by
  unfold gX11_ask_112 hgX11_ask_112
  refine eq_if ?_ ?_
  · exact hrc28 x0 x1 x2 x3 (x4 + (1 : Int32)) u (hkc (show zK u x0 = 12 from (h_u.g 0 rfl)) (hk0 h_u.1))
  · refine eq_if ?_ ?_
    · exact hrc28 x0 x1 x4 s0 (x4 + (1 : Int32)) u (hkc (show zK u x0 = 12 from (h_u.g 0 rfl)) (hk0 h_u.1))
    · refine eq_if ?_ ?_
      · exact hrc28 x0 x1 x4 s0 (x4 + (1 : Int32)) u (hkc (show zK u x0 = 12 from (h_u.g 0 rfl)) (hk0 h_u.1))
      · exact hrc28 x0 x1 x2 x3 (x4 + (1 : Int32)) u (hkc (show zK u x0 = 12 from (h_u.g 0 rfl)) (hk0 h_u.1))
set_option maxRecDepth 20000 in
def hgX11_ask_48 (N : Nat)  (rc28 : Nat → Int32 → Int32 → Int32 → Int32 → SG → Option (Int32 × SG)) : Nat → Nat → Int32 → Int32 → Int32 → Int32 → Int32 → Int32 → Int32 → SG → Option (Int32 × SG)
  | 0, _, _, _, _, _, _, _, _, _ => none
  | n + 1, x0, x1, x2, x3, x4, x5, x6, x7, u => if ((1 : Int32) <<< ((zI u (x0 + 10) 1) &&& 31)) ≤ x7 then (if x5 ≤ x6 then (hgX11_ask_112 N  rc28  x0 x1 x2 x3 x4 x6 u)
  else (hgX11_ask_112 N  rc28  x0 x1 x2 x3 x4 x5 u))
  else (cl (hX11_fitsFacts N x0 x7 u) fun r2 u3 => (if r2 = 0 then ((hgX11_ask_48 N  rc28 n) x0 x1 x2 x3 x4 x5 x6 (x7 + (1 : Int32)) u3)
  else (cl (fX11_isOf N x7 x4 u3) fun r4 u5 => (if r4 = 0 then ((hgX11_ask_48 N  rc28 n) x0 x1 x2 x3 x4 x5 (x6 + (1 : Int32)) (x7 + (1 : Int32)) u5)
  else ((hgX11_ask_48 N  rc28 n) x0 x1 x2 x3 x4 (x5 + (1 : Int32)) x6 (x7 + (1 : Int32)) u5)))))
set_option maxRecDepth 20000 in
theorem egX11_ask_48 (N : Nat)  (rec28 : Nat → Int32 → Int32 → Int32 → Int32 → SG → Option (Int32 × SG)) (rc28 : Nat → Int32 → Int32 → Int32 → Int32 → SG → Option (Int32 × SG)) (hrc28 : ∀ (x0 : Nat) (x1 : Int32) (x2 : Int32) (x3 : Int32) (x4 : Int32) (u : SG), HK [(some x0, 12)] u → rec28 x0 x1 x2 x3 x4 u = rc28 x0 x1 x2 x3 x4 u) : ∀ (n : Nat) (x0 : Nat) (x1 : Int32) (x2 : Int32) (x3 : Int32) (x4 : Int32) (x5 : Int32) (x6 : Int32) (x7 : Int32) (u : SG), HK [(some x0, 12)] u → gX11_ask_48 N  rec28 n x0 x1 x2 x3 x4 x5 x6 x7 u = hgX11_ask_48 N  rc28 n x0 x1 x2 x3 x4 x5 x6 x7 u := by
  intro n
  induction n with
  | zero => intros; rfl
  | succ n ih =>
    intro x0 x1 x2 x3 x4 x5 x6 x7 u h_u
    have hrc48 := ih
    rw [gX11_ask_48, hgX11_ask_48]
    refine eq_g (show zK u x0 = 12 from (h_u.g 0 rfl)) ?_
    refine eq_bR (show zR u x0 20 = some (x0 + 10) from lyR_12_20 h_u.1 (h_u.g 0 rfl)) ?_
    refine eq_g (show zK u (x0 + 10) = 22 from (lyK_12_20 h_u.1 (h_u.g 0 rfl))) ?_
    refine eq_n (by rw [show zN u (x0 + 10) = 144 from lyN_12_20 h_u.1 (h_u.g 0 rfl)]; decide) ?_
    refine eq_if ?_ ?_
    · refine eq_if ?_ ?_
      · exact egX11_ask_112 N  _ _ hrc28  x0 x1 x2 x3 x4 x6 u (hkc (show zK u x0 = 12 from (h_u.g 0 rfl)) (hk0 h_u.1))
      · exact egX11_ask_112 N  _ _ hrc28  x0 x1 x2 x3 x4 x5 u (hkc (show zK u x0 = 12 from (h_u.g 0 rfl)) (hk0 h_u.1))
    · refine eq_g (show zK u x0 = 12 from (h_u.g 0 rfl)) ?_
      refine eq_cH (eX11_fitsFacts N x0 x7 u (hkc (show zK u x0 = 12 from (h_u.g 0 rfl)) (hk0 h_u.1))) (fun r2 u3 e9 => h_u.fr (fr_X11_fitsFacts (P := PT) N x0 x7 u clPT trivial _ _ e9).1) (fun r2 u3 h_u3 => ?_)
      refine eq_if ?_ ?_
      · exact hrc48 x0 x1 x2 x3 x4 x5 x6 (x7 + (1 : Int32)) u3 (hkc (show zK u3 x0 = 12 from (h_u3.g 0 rfl)) (hk0 h_u3.1))
      · refine eq_cH rfl (fun r4 u5 e9 => h_u3.fr (fr_X11_isOf (P := PT) N x7 x4 u3 clPT _ _ e9).1) (fun r4 u5 h_u5 => ?_)
        refine eq_if ?_ ?_
        · exact hrc48 x0 x1 x2 x3 x4 x5 (x6 + (1 : Int32)) (x7 + (1 : Int32)) u5 (hkc (show zK u5 x0 = 12 from (h_u5.g 0 rfl)) (hk0 h_u5.1))
        · exact hrc48 x0 x1 x2 x3 x4 (x5 + (1 : Int32)) x6 (x7 + (1 : Int32)) u5 (hkc (show zK u5 x0 = 12 from (h_u5.g 0 rfl)) (hk0 h_u5.1))
set_option maxRecDepth 20000 in
def hgX11_ask_28 (N : Nat)   : Nat → Nat → Int32 → Int32 → Int32 → Int32 → SG → Option (Int32 × SG)
  | 0, _, _, _, _, _, _ => none
  | n + 1, x0, x1, x2, x3, x4, u => if (zI u (x0 + 10) 1) ≤ x4 then (if x1 = 0 then (some (x2, u))
  else (some (x3, u)))
  else (hgX11_ask_48 N  (hgX11_ask_28 N   n) N x0 x1 x2 x3 x4 (0 : Int32) (0 : Int32) (0 : Int32) u)
set_option maxRecDepth 20000 in
theorem egX11_ask_28 (N : Nat)   : ∀ (n : Nat) (x0 : Nat) (x1 : Int32) (x2 : Int32) (x3 : Int32) (x4 : Int32) (u : SG), HK [(some x0, 12)] u → gX11_ask_28 N   n x0 x1 x2 x3 x4 u = hgX11_ask_28 N   n x0 x1 x2 x3 x4 u := by
  intro n
  induction n with
  | zero => intros; rfl
  | succ n ih =>
    intro x0 x1 x2 x3 x4 u h_u
    have hrc28 := ih
    rw [gX11_ask_28, hgX11_ask_28]
    refine eq_g (show zK u x0 = 12 from (h_u.g 0 rfl)) ?_
    refine eq_bR (show zR u x0 20 = some (x0 + 10) from lyR_12_20 h_u.1 (h_u.g 0 rfl)) ?_
    refine eq_g (show zK u (x0 + 10) = 22 from (lyK_12_20 h_u.1 (h_u.g 0 rfl))) ?_
    refine eq_n (by rw [show zN u (x0 + 10) = 144 from lyN_12_20 h_u.1 (h_u.g 0 rfl)]; decide) ?_
    refine eq_if ?_ ?_
    · refine eq_if ?_ ?_
      · rfl
      · rfl
    · exact egX11_ask_48 N  _ _ hrc28 N x0 x1 x2 x3 x4 (0 : Int32) (0 : Int32) (0 : Int32) u (hkc (show zK u x0 = 12 from (h_u.g 0 rfl)) (hk0 h_u.1))
set_option maxRecDepth 20000 in
def hX11_ask (N : Nat)  (a0 : Nat) (p1 : Int32) (u : SG) : Option (Int32 × SG) := cl (hX11_isStreet N a0 u) fun r1 u2 => (if r1 = 0 then (some ((-1 : Int32), u2))
  else (cl (fX11_in N p1.toInt64 (0 : Int64) (1 : Int64) u2) fun r3 u4 => (if r3 = 0 then (some ((-1 : Int32), u4))
  else (hgX11_ask_28 N   N a0 p1 (-2 : Int32) (-2 : Int32) (0 : Int32) u4))))
set_option maxRecDepth 20000 in
theorem eX11_ask (N : Nat)  (a0 : Nat) (p1 : Int32) (u : SG) (h_u : HK [(some a0, 12)] u) : fX11_ask N  a0 p1 u = hX11_ask N  a0 p1 u := by
  unfold fX11_ask hX11_ask
  refine eq_g (show zK u a0 = 12 from (h_u.g 0 rfl)) ?_
  refine eq_cH (eX11_isStreet N a0 u (hkc (show zK u a0 = 12 from (h_u.g 0 rfl)) (hk0 h_u.1))) (fun r1 u2 e9 => h_u.fr (fr_X11_isStreet (P := PT) N a0 u clPT trivial _ _ e9).1) (fun r1 u2 h_u2 => ?_)
  refine eq_if ?_ ?_
  · rfl
  · refine eq_cH rfl (fun r3 u4 e9 => h_u2.fr (fr_X11_in (P := PT) N p1.toInt64 (0 : Int64) (1 : Int64) u2 clPT _ _ e9).1) (fun r3 u4 h_u4 => ?_)
    refine eq_if ?_ ?_
    · rfl
    · exact egX11_ask_28 N   N a0 p1 (-2 : Int32) (-2 : Int32) (0 : Int32) u4 (hkc (show zK u4 a0 = 12 from (h_u4.g 0 rfl)) (hk0 h_u4.1))
set_option maxRecDepth 20000 in
def hgX11_toldCost_4 (N : Nat)   : Nat → Nat → Int32 → Int32 → Int32 → SG → Option (Int32 × SG)
  | 0, _, _, _, _, _ => none
  | n + 1, x0, x1, x2, x3, u => if (zI u (x0 + 10) 3) ≤ x3 then (some (x2, u))
  else (cl (hX11_isLitIn N x0 x3 x1 u) fun r2 u3 => (if r2 = 0 then (bs (x2 + (0 : Int32)) fun v4 => ((hgX11_toldCost_4 N   n) x0 x1 v4 (x3 + (1 : Int32)) u3))
  else (cl (hX11_costOf N x0 x3 u3) fun r5 u6 => (bs (x2 + r5) fun v7 => ((hgX11_toldCost_4 N   n) x0 x1 v7 (x3 + (1 : Int32)) u6)))))
set_option maxRecDepth 20000 in
theorem egX11_toldCost_4 (N : Nat)   : ∀ (n : Nat) (x0 : Nat) (x1 : Int32) (x2 : Int32) (x3 : Int32) (u : SG), HK [(some x0, 12)] u → gX11_toldCost_4 N   n x0 x1 x2 x3 u = hgX11_toldCost_4 N   n x0 x1 x2 x3 u := by
  intro n
  induction n with
  | zero => intros; rfl
  | succ n ih =>
    intro x0 x1 x2 x3 u h_u
    have hrc4 := ih
    rw [gX11_toldCost_4, hgX11_toldCost_4]
    refine eq_g (show zK u x0 = 12 from (h_u.g 0 rfl)) ?_
    refine eq_bR (show zR u x0 20 = some (x0 + 10) from lyR_12_20 h_u.1 (h_u.g 0 rfl)) ?_
    refine eq_g (show zK u (x0 + 10) = 22 from (lyK_12_20 h_u.1 (h_u.g 0 rfl))) ?_
    refine eq_n (by rw [show zN u (x0 + 10) = 144 from lyN_12_20 h_u.1 (h_u.g 0 rfl)]; decide) ?_
    refine eq_if ?_ ?_
    · rfl
    · refine eq_g (show zK u x0 = 12 from (h_u.g 0 rfl)) ?_
      refine eq_cH (eX11_isLitIn N x0 x3 x1 u (hkc (show zK u x0 = 12 from (h_u.g 0 rfl)) (hk0 h_u.1))) (fun r2 u3 e9 => h_u.fr (fr_X11_isLitIn (P := PT) N x0 x3 x1 u clPT trivial _ _ e9).1) (fun r2 u3 h_u3 => ?_)
      refine eq_if ?_ ?_
      · refine eq_bs (fun v4 => ?_)
        exact hrc4 x0 x1 v4 (x3 + (1 : Int32)) u3 (hkc (show zK u3 x0 = 12 from (h_u3.g 0 rfl)) (hk0 h_u3.1))
      · refine eq_g (show zK u3 x0 = 12 from (h_u3.g 0 rfl)) ?_
        refine eq_cH (eX11_costOf N x0 x3 u3 (hkc (show zK u3 x0 = 12 from (h_u3.g 0 rfl)) (hk0 h_u3.1))) (fun r5 u6 e9 => h_u3.fr (fr_X11_costOf (P := PT) N x0 x3 u3 clPT trivial _ _ e9).1) (fun r5 u6 h_u6 => ?_)
        refine eq_bs (fun v7 => ?_)
        exact hrc4 x0 x1 v7 (x3 + (1 : Int32)) u6 (hkc (show zK u6 x0 = 12 from (h_u6.g 0 rfl)) (hk0 h_u6.1))
set_option maxRecDepth 20000 in
def hX11_toldCost (N : Nat)  (a0 : Nat) (p1 : Int32) (u : SG) : Option (Int32 × SG) := hgX11_toldCost_4 N   N a0 p1 (0 : Int32) (0 : Int32) u
set_option maxRecDepth 20000 in
theorem eX11_toldCost (N : Nat)  (a0 : Nat) (p1 : Int32) (u : SG) (h_u : HK [(some a0, 12)] u) : fX11_toldCost N  a0 p1 u = hX11_toldCost N  a0 p1 u := by
  unfold fX11_toldCost hX11_toldCost
  exact egX11_toldCost_4 N   N a0 p1 (0 : Int32) (0 : Int32) u (hkc (show zK u a0 = 12 from (h_u.g 0 rfl)) (hk0 h_u.1))
set_option maxRecDepth 20000 in
def hgX11_fillsNight_86 (N : Nat)  (rc23 : Nat → Int32 → Int32 → SG → Option (Unit × SG)) (rc43 : Nat → Int32 → Int32 → Int32 → Int32 → Int32 → SG → Option (Unit × SG)) (x0 : Nat) (x1 : Int32) (x2 : Int32) (x3 : Int32) (x5 : Int32) (s0 : Int32) (u : SG) : Option (Unit × SG) := cl (hX11_toldCost N x0 x5 u) fun r1 u2 => (bs (x3 + r1) fun v3 => (rc43 x0 x1 x2 v3 s0 (x5 + (1 : Int32)) u2))
set_option maxRecDepth 20000 in
theorem egX11_fillsNight_86 (N : Nat)  (rec23 : Nat → Int32 → Int32 → SG → Option (Unit × SG)) (rc23 : Nat → Int32 → Int32 → SG → Option (Unit × SG)) (hrc23 : ∀ (x0 : Nat) (x1 : Int32) (x2 : Int32) (u : SG), HK [(some x0, 12)] u → rec23 x0 x1 x2 u = rc23 x0 x1 x2 u) (rec43 : Nat → Int32 → Int32 → Int32 → Int32 → Int32 → SG → Option (Unit × SG)) (rc43 : Nat → Int32 → Int32 → Int32 → Int32 → Int32 → SG → Option (Unit × SG)) (hrc43 : ∀ (x0 : Nat) (x1 : Int32) (x2 : Int32) (x3 : Int32) (x4 : Int32) (x5 : Int32) (u : SG), HK [(some x0, 12)] u → rec43 x0 x1 x2 x3 x4 x5 u = rc43 x0 x1 x2 x3 x4 x5 u) (x0 : Nat) (x1 : Int32) (x2 : Int32) (x3 : Int32) (x5 : Int32) (s0 : Int32) (u : SG) (h_u : HK [(some x0, 12)] u) : gX11_fillsNight_86 N  rec23 rec43 x0 x1 x2 x3 x5 s0 u = hgX11_fillsNight_86 N  rc23 rc43 x0 x1 x2 x3 x5 s0 u := by
  unfold gX11_fillsNight_86 hgX11_fillsNight_86
  refine eq_g (show zK u x0 = 12 from (h_u.g 0 rfl)) ?_
  refine eq_cH (eX11_toldCost N x0 x5 u (hkc (show zK u x0 = 12 from (h_u.g 0 rfl)) (hk0 h_u.1))) (fun r1 u2 e9 => h_u.fr (fr_X11_toldCost (P := PT) N x0 x5 u clPT trivial _ _ e9).1) (fun r1 u2 h_u2 => ?_)
  refine eq_bs (fun v3 => ?_)
  exact hrc43 x0 x1 x2 v3 s0 (x5 + (1 : Int32)) u2 (hkc (show zK u2 x0 = 12 from (h_u2.g 0 rfl)) (hk0 h_u2.1))
set_option maxRecDepth 20000 in
def hgX11_fillsNight_85 (N : Nat)  (rc23 : Nat → Int32 → Int32 → SG → Option (Unit × SG)) (rc43 : Nat → Int32 → Int32 → Int32 → Int32 → Int32 → SG → Option (Unit × SG)) (x0 : Nat) (x1 : Int32) (x2 : Int32) (x3 : Int32) (x5 : Int32) (u : SG) : Option (Unit × SG) := hgX11_fillsNight_86 N  rc23 rc43  x0 x1 x2 x3 x5 (0 : Int32) u
set_option maxRecDepth 20000 in
theorem egX11_fillsNight_85 (N : Nat)  (rec23 : Nat → Int32 → Int32 → SG → Option (Unit × SG)) (rc23 : Nat → Int32 → Int32 → SG → Option (Unit × SG)) (hrc23 : ∀ (x0 : Nat) (x1 : Int32) (x2 : Int32) (u : SG), HK [(some x0, 12)] u → rec23 x0 x1 x2 u = rc23 x0 x1 x2 u) (rec43 : Nat → Int32 → Int32 → Int32 → Int32 → Int32 → SG → Option (Unit × SG)) (rc43 : Nat → Int32 → Int32 → Int32 → Int32 → Int32 → SG → Option (Unit × SG)) (hrc43 : ∀ (x0 : Nat) (x1 : Int32) (x2 : Int32) (x3 : Int32) (x4 : Int32) (x5 : Int32) (u : SG), HK [(some x0, 12)] u → rec43 x0 x1 x2 x3 x4 x5 u = rc43 x0 x1 x2 x3 x4 x5 u) (x0 : Nat) (x1 : Int32) (x2 : Int32) (x3 : Int32) (x5 : Int32) (u : SG) (h_u : HK [(some x0, 12)] u) : gX11_fillsNight_85 N  rec23 rec43 x0 x1 x2 x3 x5 u = hgX11_fillsNight_85 N  rc23 rc43 x0 x1 x2 x3 x5 u := by
  unfold gX11_fillsNight_85 hgX11_fillsNight_85
  exact egX11_fillsNight_86 N  _ _ hrc23 _ _ hrc43  x0 x1 x2 x3 x5 (0 : Int32) u (hkc (show zK u x0 = 12 from (h_u.g 0 rfl)) (hk0 h_u.1))
set_option maxRecDepth 20000 in
def hgX11_fillsNight_43 (N : Nat)  (rc23 : Nat → Int32 → Int32 → SG → Option (Unit × SG)) : Nat → Nat → Int32 → Int32 → Int32 → Int32 → Int32 → SG → Option (Unit × SG)
  | 0, _, _, _, _, _, _, _ => none
  | n + 1, x0, x1, x2, x3, x4, x5, u => if (zI u (x0 + 10) 0) ≤ x5 then (cl (fX11_bits N x2 u) fun r2 u3 => (if x4 = 0 then (rc23 x0 x1 (x2 + (1 : Int32)) u3)
  else (if r2 < 0 ∨ 11 ≤ r2.toNatClampNeg then none else (if (zI u3 (x0 + 14) r2.toNatClampNeg) < 0 then (if r2 < 0 ∨ 11 ≤ r2.toNatClampNeg then none else (bs (sI u3 (x0 + 14) r2.toNatClampNeg x3) fun u6 => (rc23 x0 x1 (x2 + (1 : Int32)) u6)))
  else (if r2 < 0 ∨ 11 ≤ r2.toNatClampNeg then none else (if (zI u3 (x0 + 14) r2.toNatClampNeg) ≤ x3 then (rc23 x0 x1 (x2 + (1 : Int32)) u3)
  else (if r2 < 0 ∨ 11 ≤ r2.toNatClampNeg then none else (bs (sI u3 (x0 + 14) r2.toNatClampNeg x3) fun u9 => (rc23 x0 x1 (x2 + (1 : Int32)) u9)))))))))
  else (cl (fX11_isOf N x2 x5 u) fun r10 u11 => (if r10 = 0 then ((hgX11_fillsNight_43 N  rc23 n) x0 x1 x2 x3 x4 (x5 + (1 : Int32)) u11)
  else (if x4 = 0 then (hgX11_fillsNight_85 N  rc23 (hgX11_fillsNight_43 N  rc23 n)  x0 x1 x2 x3 x5 u11)
  else (cl (hX11_worksIn N x0 x1 x5 u11) fun r12 u13 => (if r12 = 0 then (hgX11_fillsNight_86 N  rc23 (hgX11_fillsNight_43 N  rc23 n)  x0 x1 x2 x3 x5 (1 : Int32) u13)
  else (hgX11_fillsNight_85 N  rc23 (hgX11_fillsNight_43 N  rc23 n)  x0 x1 x2 x3 x5 u13))))))
set_option maxRecDepth 20000 in
theorem egX11_fillsNight_43 (N : Nat)  (rec23 : Nat → Int32 → Int32 → SG → Option (Unit × SG)) (rc23 : Nat → Int32 → Int32 → SG → Option (Unit × SG)) (hrc23 : ∀ (x0 : Nat) (x1 : Int32) (x2 : Int32) (u : SG), HK [(some x0, 12)] u → rec23 x0 x1 x2 u = rc23 x0 x1 x2 u) : ∀ (n : Nat) (x0 : Nat) (x1 : Int32) (x2 : Int32) (x3 : Int32) (x4 : Int32) (x5 : Int32) (u : SG), HK [(some x0, 12)] u → gX11_fillsNight_43 N  rec23 n x0 x1 x2 x3 x4 x5 u = hgX11_fillsNight_43 N  rc23 n x0 x1 x2 x3 x4 x5 u := by
  intro n
  induction n with
  | zero => intros; rfl
  | succ n ih =>
    intro x0 x1 x2 x3 x4 x5 u h_u
    have hrc43 := ih
    rw [gX11_fillsNight_43, hgX11_fillsNight_43]
    refine eq_g (show zK u x0 = 12 from (h_u.g 0 rfl)) ?_
    refine eq_bR (show zR u x0 20 = some (x0 + 10) from lyR_12_20 h_u.1 (h_u.g 0 rfl)) ?_
    refine eq_g (show zK u (x0 + 10) = 22 from (lyK_12_20 h_u.1 (h_u.g 0 rfl))) ?_
    refine eq_n (by rw [show zN u (x0 + 10) = 144 from lyN_12_20 h_u.1 (h_u.g 0 rfl)]; decide) ?_
    refine eq_if ?_ ?_
    · refine eq_cH rfl (fun r2 u3 e9 => h_u.fr (fr_X11_bits (P := PT) N x2 u clPT _ _ e9).1) (fun r2 u3 h_u3 => ?_)
      refine eq_if ?_ ?_
      · exact hrc23 x0 x1 (x2 + (1 : Int32)) u3 (hkc (show zK u3 x0 = 12 from (h_u3.g 0 rfl)) (hk0 h_u3.1))
      · refine eq_g (show zK u3 x0 = 12 from (h_u3.g 0 rfl)) ?_
        refine eq_bR (show zR u3 x0 29 = some (x0 + 14) from lyR_12_29 h_u3.1 (h_u3.g 0 rfl)) ?_
        refine eq_g (show zK u3 (x0 + 14) = 22 from (lyK_12_29 h_u3.1 (h_u3.g 0 rfl))) ?_
        refine eq_ixh (show zN u3 (x0 + 14) = 11 from lyN_12_29 h_u3.1 (h_u3.g 0 rfl)) (fun hix1 => ?_)
        refine eq_if ?_ ?_
        · refine eq_g (show zK u3 x0 = 12 from (h_u3.g 0 rfl)) ?_
          refine eq_bR (show zR u3 x0 29 = some (x0 + 14) from lyR_12_29 h_u3.1 (h_u3.g 0 rfl)) ?_
          refine eq_g (show zK u3 (x0 + 14) = 22 from (lyK_12_29 h_u3.1 (h_u3.g 0 rfl))) ?_
          refine eq_ixh (show zN u3 (x0 + 14) = 11 from lyN_12_29 h_u3.1 (h_u3.g 0 rfl)) (fun hix2 => ?_)
          refine eq_sH (h_u3.fr (P := PT) (Fr.sIr trivial)) (fun u6 h_u6 => ?_)
          exact hrc23 x0 x1 (x2 + (1 : Int32)) u6 (hkc (show zK u6 x0 = 12 from (h_u6.g 0 rfl)) (hk0 h_u6.1))
        · refine eq_g (show zK u3 x0 = 12 from (h_u3.g 0 rfl)) ?_
          refine eq_bR (show zR u3 x0 29 = some (x0 + 14) from lyR_12_29 h_u3.1 (h_u3.g 0 rfl)) ?_
          refine eq_g (show zK u3 (x0 + 14) = 22 from (lyK_12_29 h_u3.1 (h_u3.g 0 rfl))) ?_
          refine eq_ixh (show zN u3 (x0 + 14) = 11 from lyN_12_29 h_u3.1 (h_u3.g 0 rfl)) (fun hix3 => ?_)
          refine eq_if ?_ ?_
          · exact hrc23 x0 x1 (x2 + (1 : Int32)) u3 (hkc (show zK u3 x0 = 12 from (h_u3.g 0 rfl)) (hk0 h_u3.1))
          · refine eq_g (show zK u3 x0 = 12 from (h_u3.g 0 rfl)) ?_
            refine eq_bR (show zR u3 x0 29 = some (x0 + 14) from lyR_12_29 h_u3.1 (h_u3.g 0 rfl)) ?_
            refine eq_g (show zK u3 (x0 + 14) = 22 from (lyK_12_29 h_u3.1 (h_u3.g 0 rfl))) ?_
            refine eq_ixh (show zN u3 (x0 + 14) = 11 from lyN_12_29 h_u3.1 (h_u3.g 0 rfl)) (fun hix4 => ?_)
            refine eq_sH (h_u3.fr (P := PT) (Fr.sIr trivial)) (fun u9 h_u9 => ?_)
            exact hrc23 x0 x1 (x2 + (1 : Int32)) u9 (hkc (show zK u9 x0 = 12 from (h_u9.g 0 rfl)) (hk0 h_u9.1))
    · refine eq_cH rfl (fun r10 u11 e9 => h_u.fr (fr_X11_isOf (P := PT) N x2 x5 u clPT _ _ e9).1) (fun r10 u11 h_u11 => ?_)
      refine eq_if ?_ ?_
      · exact hrc43 x0 x1 x2 x3 x4 (x5 + (1 : Int32)) u11 (hkc (show zK u11 x0 = 12 from (h_u11.g 0 rfl)) (hk0 h_u11.1))
      · refine eq_if ?_ ?_
        · exact egX11_fillsNight_85 N  _ _ hrc23 _ _ hrc43  x0 x1 x2 x3 x5 u11 (hkc (show zK u11 x0 = 12 from (h_u11.g 0 rfl)) (hk0 h_u11.1))
        · refine eq_g (show zK u11 x0 = 12 from (h_u11.g 0 rfl)) ?_
          refine eq_cH (eX11_worksIn N x0 x1 x5 u11 (hkc (show zK u11 x0 = 12 from (h_u11.g 0 rfl)) (hk0 h_u11.1))) (fun r12 u13 e9 => h_u11.fr (fr_X11_worksIn (P := PT) N x0 x1 x5 u11 clPT trivial _ _ e9).1) (fun r12 u13 h_u13 => ?_)
          refine eq_if ?_ ?_
          · exact egX11_fillsNight_86 N  _ _ hrc23 _ _ hrc43  x0 x1 x2 x3 x5 (1 : Int32) u13 (hkc (show zK u13 x0 = 12 from (h_u13.g 0 rfl)) (hk0 h_u13.1))
          · exact egX11_fillsNight_85 N  _ _ hrc23 _ _ hrc43  x0 x1 x2 x3 x5 u13 (hkc (show zK u13 x0 = 12 from (h_u13.g 0 rfl)) (hk0 h_u13.1))
set_option maxRecDepth 20000 in
def hgX11_fillsNight_23 (N : Nat)   : Nat → Nat → Int32 → Int32 → SG → Option (Unit × SG)
  | 0, _, _, _, _ => none
  | n + 1, x0, x1, x2, u => if ((1 : Int32) <<< ((zI u (x0 + 10) 0) &&& 31)) ≤ x2 then (some ((), u))
  else (hgX11_fillsNight_43 N  (hgX11_fillsNight_23 N   n) N x0 x1 x2 (0 : Int32) (1 : Int32) (0 : Int32) u)
set_option maxRecDepth 20000 in
theorem egX11_fillsNight_23 (N : Nat)   : ∀ (n : Nat) (x0 : Nat) (x1 : Int32) (x2 : Int32) (u : SG), HK [(some x0, 12)] u → gX11_fillsNight_23 N   n x0 x1 x2 u = hgX11_fillsNight_23 N   n x0 x1 x2 u := by
  intro n
  induction n with
  | zero => intros; rfl
  | succ n ih =>
    intro x0 x1 x2 u h_u
    have hrc23 := ih
    rw [gX11_fillsNight_23, hgX11_fillsNight_23]
    refine eq_g (show zK u x0 = 12 from (h_u.g 0 rfl)) ?_
    refine eq_bR (show zR u x0 20 = some (x0 + 10) from lyR_12_20 h_u.1 (h_u.g 0 rfl)) ?_
    refine eq_g (show zK u (x0 + 10) = 22 from (lyK_12_20 h_u.1 (h_u.g 0 rfl))) ?_
    refine eq_n (by rw [show zN u (x0 + 10) = 144 from lyN_12_20 h_u.1 (h_u.g 0 rfl)]; decide) ?_
    refine eq_if ?_ ?_
    · rfl
    · exact egX11_fillsNight_43 N  _ _ hrc23 N x0 x1 x2 (0 : Int32) (1 : Int32) (0 : Int32) u (hkc (show zK u x0 = 12 from (h_u.g 0 rfl)) (hk0 h_u.1))
set_option maxRecDepth 20000 in
def hgX11_fillsNight_2 (N : Nat)   : Nat → Nat → Int32 → Int32 → SG → Option (Unit × SG)
  | 0, _, _, _, _ => none
  | n + 1, x0, x1, x2, u => if (10 : Int32) < x2 then (hgX11_fillsNight_23 N   N x0 x1 (0 : Int32) u)
  else (if x2 < 0 ∨ 11 ≤ x2.toNatClampNeg then none else (bs (sI u (x0 + 14) x2.toNatClampNeg (-1 : Int32)) fun u2 => ((hgX11_fillsNight_2 N   n) x0 x1 (x2 + (1 : Int32)) u2)))
set_option maxRecDepth 20000 in
theorem egX11_fillsNight_2 (N : Nat)   : ∀ (n : Nat) (x0 : Nat) (x1 : Int32) (x2 : Int32) (u : SG), HK [(some x0, 12)] u → gX11_fillsNight_2 N   n x0 x1 x2 u = hgX11_fillsNight_2 N   n x0 x1 x2 u := by
  intro n
  induction n with
  | zero => intros; rfl
  | succ n ih =>
    intro x0 x1 x2 u h_u
    have hrc2 := ih
    rw [gX11_fillsNight_2, hgX11_fillsNight_2]
    refine eq_if ?_ ?_
    · exact egX11_fillsNight_23 N   N x0 x1 (0 : Int32) u (hkc (show zK u x0 = 12 from (h_u.g 0 rfl)) (hk0 h_u.1))
    · refine eq_g (show zK u x0 = 12 from (h_u.g 0 rfl)) ?_
      refine eq_bR (show zR u x0 29 = some (x0 + 14) from lyR_12_29 h_u.1 (h_u.g 0 rfl)) ?_
      refine eq_g (show zK u (x0 + 14) = 22 from (lyK_12_29 h_u.1 (h_u.g 0 rfl))) ?_
      refine eq_ixh (show zN u (x0 + 14) = 11 from lyN_12_29 h_u.1 (h_u.g 0 rfl)) (fun hix1 => ?_)
      refine eq_sH (h_u.fr (P := PT) (Fr.sIr trivial)) (fun u2 h_u2 => ?_)
      exact hrc2 x0 x1 (x2 + (1 : Int32)) u2 (hkc (show zK u2 x0 = 12 from (h_u2.g 0 rfl)) (hk0 h_u2.1))
set_option maxRecDepth 20000 in
def hX11_fillsNight (N : Nat)  (a0 : Nat) (p1 : Int32) (u : SG) : Option (Unit × SG) := hgX11_fillsNight_2 N   N a0 p1 (0 : Int32) u
set_option maxRecDepth 20000 in
theorem eX11_fillsNight (N : Nat)  (a0 : Nat) (p1 : Int32) (u : SG) (h_u : HK [(some a0, 12)] u) : fX11_fillsNight N  a0 p1 u = hX11_fillsNight N  a0 p1 u := by
  unfold fX11_fillsNight hX11_fillsNight
  exact egX11_fillsNight_2 N   N a0 p1 (0 : Int32) u (hkc (show zK u a0 = 12 from (h_u.g 0 rfl)) (hk0 h_u.1))
set_option maxRecDepth 20000 in
def hX11_leastOf (N : Nat)  (a0 : Nat) (p1 : Int32) (p2 : Int32) (u : SG) : Option (Int32 × SG) := if 0 ≤ p2 then (if (((81 : Int32) * p1) + p2) < 0 ∨ 729 ≤ (((81 : Int32) * p1) + p2).toNatClampNeg then none else (some (zI u (a0 + 15) (((81 : Int32) * p1) + p2).toNatClampNeg, u)))
  else (if (((81 : Int32) * p1) + (0 : Int32)) < 0 ∨ 729 ≤ (((81 : Int32) * p1) + (0 : Int32)).toNatClampNeg then none else (some (zI u (a0 + 15) (((81 : Int32) * p1) + (0 : Int32)).toNatClampNeg, u)))
set_option maxRecDepth 20000 in
theorem eX11_leastOf (N : Nat)  (a0 : Nat) (p1 : Int32) (p2 : Int32) (u : SG) (h_u : HK [(some a0, 12)] u) : fX11_leastOf N  a0 p1 p2 u = hX11_leastOf N  a0 p1 p2 u := by
  unfold fX11_leastOf hX11_leastOf
  refine eq_g (show zK u a0 = 12 from (h_u.g 0 rfl)) ?_
  refine eq_bR (show zR u a0 30 = some (a0 + 15) from lyR_12_30 h_u.1 (h_u.g 0 rfl)) ?_
  refine eq_if ?_ ?_
  · refine eq_g (show zK u (a0 + 15) = 22 from (lyK_12_30 h_u.1 (h_u.g 0 rfl))) ?_
    refine eq_ixh (show zN u (a0 + 15) = 729 from lyN_12_30 h_u.1 (h_u.g 0 rfl)) (fun hix1 => ?_)
    rfl
  · refine eq_g (show zK u (a0 + 15) = 22 from (lyK_12_30 h_u.1 (h_u.g 0 rfl))) ?_
    refine eq_ixh (show zN u (a0 + 15) = 729 from lyN_12_30 h_u.1 (h_u.g 0 rfl)) (fun hix2 => ?_)
    rfl
set_option maxRecDepth 20000 in
def hX11_costBy (N : Nat)  (a0 : Nat) (p1 : Int32) (p2 : Int32) (p3 : Int32) (p4 : Int32) (u : SG) : Option (Int32 × SG) := cl (hX11_personOf N a0 p1 (0 : Int32) u) fun r1 u2 => (if r1 < p4 then (some ((-1 : Int32), u2))
  else (if p4 < 0 ∨ 11 ≤ p4.toNatClampNeg then none else (if (zI u2 (a0 + 14) p4.toNatClampNeg) < 0 then (some ((-1 : Int32), u2))
  else (cl (hX11_leastOf N a0 (p2 - (1 : Int32)) (p3 - p4) u2) fun r4 u5 => (if 0 ≤ r4 then (if p4 < 0 ∨ 11 ≤ p4.toNatClampNeg then none else (cl (hX11_leastOf N a0 (p2 - (1 : Int32)) (p3 - p4) u5) fun r7 u8 => (some ((zI u5 (a0 + 14) p4.toNatClampNeg) + r7, u8))))
  else (some ((-1 : Int32), u5)))))))
set_option maxRecDepth 20000 in
theorem eX11_costBy (N : Nat)  (a0 : Nat) (p1 : Int32) (p2 : Int32) (p3 : Int32) (p4 : Int32) (u : SG) (h_u : HK [(some a0, 12)] u) : fX11_costBy N  a0 p1 p2 p3 p4 u = hX11_costBy N  a0 p1 p2 p3 p4 u := by
  unfold fX11_costBy hX11_costBy
  refine eq_g (show zK u a0 = 12 from (h_u.g 0 rfl)) ?_
  refine eq_cH (eX11_personOf N a0 p1 (0 : Int32) u (hkc (show zK u a0 = 12 from (h_u.g 0 rfl)) (hk0 h_u.1))) (fun r1 u2 e9 => h_u.fr (fr_X11_personOf (P := PT) N a0 p1 (0 : Int32) u clPT trivial _ _ e9).1) (fun r1 u2 h_u2 => ?_)
  refine eq_if ?_ ?_
  · rfl
  · refine eq_g (show zK u2 a0 = 12 from (h_u2.g 0 rfl)) ?_
    refine eq_bR (show zR u2 a0 29 = some (a0 + 14) from lyR_12_29 h_u2.1 (h_u2.g 0 rfl)) ?_
    refine eq_g (show zK u2 (a0 + 14) = 22 from (lyK_12_29 h_u2.1 (h_u2.g 0 rfl))) ?_
    refine eq_ixh (show zN u2 (a0 + 14) = 11 from lyN_12_29 h_u2.1 (h_u2.g 0 rfl)) (fun hix1 => ?_)
    refine eq_if ?_ ?_
    · rfl
    · refine eq_g (show zK u2 a0 = 12 from (h_u2.g 0 rfl)) ?_
      refine eq_cH (eX11_leastOf N a0 (p2 - (1 : Int32)) (p3 - p4) u2 (hkc (show zK u2 a0 = 12 from (h_u2.g 0 rfl)) (hk0 h_u2.1))) (fun r4 u5 e9 => h_u2.fr (fr_X11_leastOf (P := PT) N a0 (p2 - (1 : Int32)) (p3 - p4) u2 clPT trivial _ _ e9).1) (fun r4 u5 h_u5 => ?_)
      refine eq_if ?_ ?_
      · refine eq_g (show zK u5 a0 = 12 from (h_u5.g 0 rfl)) ?_
        refine eq_bR (show zR u5 a0 29 = some (a0 + 14) from lyR_12_29 h_u5.1 (h_u5.g 0 rfl)) ?_
        refine eq_g (show zK u5 (a0 + 14) = 22 from (lyK_12_29 h_u5.1 (h_u5.g 0 rfl))) ?_
        refine eq_ixh (show zN u5 (a0 + 14) = 11 from lyN_12_29 h_u5.1 (h_u5.g 0 rfl)) (fun hix2 => ?_)
        refine eq_g (show zK u5 a0 = 12 from (h_u5.g 0 rfl)) ?_
        refine eq_cH (eX11_leastOf N a0 (p2 - (1 : Int32)) (p3 - p4) u5 (hkc (show zK u5 a0 = 12 from (h_u5.g 0 rfl)) (hk0 h_u5.1))) (fun r7 u8 e9 => h_u5.fr (fr_X11_leastOf (P := PT) N a0 (p2 - (1 : Int32)) (p3 - p4) u5 clPT trivial _ _ e9).1) (fun r7 u8 h_u8 => ?_)
        rfl
      · rfl
set_option maxRecDepth 20000 in
def hgX11_fillsLeast_52 (N : Nat)  (rc31 : Nat → Int32 → Int32 → Int32 → SG → Option (Unit × SG)) (rc39 : Nat → Int32 → Int32 → Int32 → Int32 → SG → Option (Unit × SG)) : Nat → Nat → Int32 → Int32 → Int32 → Int32 → Int32 → Int32 → SG → Option (Unit × SG)
  | 0, _, _, _, _, _, _, _, _ => none
  | n + 1, x0, x1, x2, x3, x4, x5, x6, u => if (10 : Int32) < x6 then (if (((81 : Int32) * x3) + x4) < 0 ∨ 729 ≤ (((81 : Int32) * x3) + x4).toNatClampNeg then none else (bs (sI u (x0 + 15) (((81 : Int32) * x3) + x4).toNatClampNeg x5) fun u2 => (rc39 x0 x1 x2 x3 (x4 + (1 : Int32)) u2)))
  else (cl (hX11_costBy N x0 x1 x3 x4 x6 u) fun r3 u4 => (if r3 < 0 then ((hgX11_fillsLeast_52 N  rc31 rc39 n) x0 x1 x2 x3 x4 x5 (x6 + (1 : Int32)) u4)
  else (if x5 < 0 then ((hgX11_fillsLeast_52 N  rc31 rc39 n) x0 x1 x2 x3 x4 r3 (x6 + (1 : Int32)) u4)
  else (if x5 ≤ r3 then ((hgX11_fillsLeast_52 N  rc31 rc39 n) x0 x1 x2 x3 x4 x5 (x6 + (1 : Int32)) u4)
  else ((hgX11_fillsLeast_52 N  rc31 rc39 n) x0 x1 x2 x3 x4 r3 (x6 + (1 : Int32)) u4)))))
set_option maxRecDepth 20000 in
theorem egX11_fillsLeast_52 (N : Nat)  (rec31 : Nat → Int32 → Int32 → Int32 → SG → Option (Unit × SG)) (rc31 : Nat → Int32 → Int32 → Int32 → SG → Option (Unit × SG)) (hrc31 : ∀ (x0 : Nat) (x1 : Int32) (x2 : Int32) (x3 : Int32) (u : SG), HK [(some x0, 12)] u → rec31 x0 x1 x2 x3 u = rc31 x0 x1 x2 x3 u) (rec39 : Nat → Int32 → Int32 → Int32 → Int32 → SG → Option (Unit × SG)) (rc39 : Nat → Int32 → Int32 → Int32 → Int32 → SG → Option (Unit × SG)) (hrc39 : ∀ (x0 : Nat) (x1 : Int32) (x2 : Int32) (x3 : Int32) (x4 : Int32) (u : SG), HK [(some x0, 12)] u → rec39 x0 x1 x2 x3 x4 u = rc39 x0 x1 x2 x3 x4 u) : ∀ (n : Nat) (x0 : Nat) (x1 : Int32) (x2 : Int32) (x3 : Int32) (x4 : Int32) (x5 : Int32) (x6 : Int32) (u : SG), HK [(some x0, 12)] u → gX11_fillsLeast_52 N  rec31 rec39 n x0 x1 x2 x3 x4 x5 x6 u = hgX11_fillsLeast_52 N  rc31 rc39 n x0 x1 x2 x3 x4 x5 x6 u := by
  intro n
  induction n with
  | zero => intros; rfl
  | succ n ih =>
    intro x0 x1 x2 x3 x4 x5 x6 u h_u
    have hrc52 := ih
    rw [gX11_fillsLeast_52, hgX11_fillsLeast_52]
    refine eq_if ?_ ?_
    · refine eq_g (show zK u x0 = 12 from (h_u.g 0 rfl)) ?_
      refine eq_bR (show zR u x0 30 = some (x0 + 15) from lyR_12_30 h_u.1 (h_u.g 0 rfl)) ?_
      refine eq_g (show zK u (x0 + 15) = 22 from (lyK_12_30 h_u.1 (h_u.g 0 rfl))) ?_
      refine eq_ixh (show zN u (x0 + 15) = 729 from lyN_12_30 h_u.1 (h_u.g 0 rfl)) (fun hix1 => ?_)
      refine eq_sH (h_u.fr (P := PT) (Fr.sIr trivial)) (fun u2 h_u2 => ?_)
      exact hrc39 x0 x1 x2 x3 (x4 + (1 : Int32)) u2 (hkc (show zK u2 x0 = 12 from (h_u2.g 0 rfl)) (hk0 h_u2.1))
    · refine eq_g (show zK u x0 = 12 from (h_u.g 0 rfl)) ?_
      refine eq_cH (eX11_costBy N x0 x1 x3 x4 x6 u (hkc (show zK u x0 = 12 from (h_u.g 0 rfl)) (hk0 h_u.1))) (fun r3 u4 e9 => h_u.fr (fr_X11_costBy (P := PT) N x0 x1 x3 x4 x6 u clPT trivial _ _ e9).1) (fun r3 u4 h_u4 => ?_)
      refine eq_if ?_ ?_
      · exact hrc52 x0 x1 x2 x3 x4 x5 (x6 + (1 : Int32)) u4 (hkc (show zK u4 x0 = 12 from (h_u4.g 0 rfl)) (hk0 h_u4.1))
      · refine eq_if ?_ ?_
        · exact hrc52 x0 x1 x2 x3 x4 r3 (x6 + (1 : Int32)) u4 (hkc (show zK u4 x0 = 12 from (h_u4.g 0 rfl)) (hk0 h_u4.1))
        · refine eq_if ?_ ?_
          · exact hrc52 x0 x1 x2 x3 x4 x5 (x6 + (1 : Int32)) u4 (hkc (show zK u4 x0 = 12 from (h_u4.g 0 rfl)) (hk0 h_u4.1))
          · exact hrc52 x0 x1 x2 x3 x4 r3 (x6 + (1 : Int32)) u4 (hkc (show zK u4 x0 = 12 from (h_u4.g 0 rfl)) (hk0 h_u4.1))
set_option maxRecDepth 20000 in
def hgX11_fillsLeast_39 (N : Nat)  (rc31 : Nat → Int32 → Int32 → Int32 → SG → Option (Unit × SG)) : Nat → Nat → Int32 → Int32 → Int32 → Int32 → SG → Option (Unit × SG)
  | 0, _, _, _, _, _, _ => none
  | n + 1, x0, x1, x2, x3, x4, u => if (80 : Int32) < x4 then (rc31 x0 x1 x2 (x3 + (1 : Int32)) u)
  else (hgX11_fillsLeast_52 N  rc31 (hgX11_fillsLeast_39 N  rc31 n) N x0 x1 x2 x3 x4 (-1 : Int32) (0 : Int32) u)
set_option maxRecDepth 20000 in
theorem egX11_fillsLeast_39 (N : Nat)  (rec31 : Nat → Int32 → Int32 → Int32 → SG → Option (Unit × SG)) (rc31 : Nat → Int32 → Int32 → Int32 → SG → Option (Unit × SG)) (hrc31 : ∀ (x0 : Nat) (x1 : Int32) (x2 : Int32) (x3 : Int32) (u : SG), HK [(some x0, 12)] u → rec31 x0 x1 x2 x3 u = rc31 x0 x1 x2 x3 u) : ∀ (n : Nat) (x0 : Nat) (x1 : Int32) (x2 : Int32) (x3 : Int32) (x4 : Int32) (u : SG), HK [(some x0, 12)] u → gX11_fillsLeast_39 N  rec31 n x0 x1 x2 x3 x4 u = hgX11_fillsLeast_39 N  rc31 n x0 x1 x2 x3 x4 u := by
  intro n
  induction n with
  | zero => intros; rfl
  | succ n ih =>
    intro x0 x1 x2 x3 x4 u h_u
    have hrc39 := ih
    rw [gX11_fillsLeast_39, hgX11_fillsLeast_39]
    refine eq_if ?_ ?_
    · exact hrc31 x0 x1 x2 (x3 + (1 : Int32)) u (hkc (show zK u x0 = 12 from (h_u.g 0 rfl)) (hk0 h_u.1))
    · exact egX11_fillsLeast_52 N  _ _ hrc31 _ _ hrc39 N x0 x1 x2 x3 x4 (-1 : Int32) (0 : Int32) u (hkc (show zK u x0 = 12 from (h_u.g 0 rfl)) (hk0 h_u.1))
set_option maxRecDepth 20000 in
def hgX11_fillsLeast_31 (N : Nat)   : Nat → Nat → Int32 → Int32 → Int32 → SG → Option (Unit × SG)
  | 0, _, _, _, _, _ => none
  | n + 1, x0, x1, x2, x3, u => if x2 < x3 then (some ((), u))
  else (hgX11_fillsLeast_39 N  (hgX11_fillsLeast_31 N   n) N x0 x1 x2 x3 (0 : Int32) u)
set_option maxRecDepth 20000 in
theorem egX11_fillsLeast_31 (N : Nat)   : ∀ (n : Nat) (x0 : Nat) (x1 : Int32) (x2 : Int32) (x3 : Int32) (u : SG), HK [(some x0, 12)] u → gX11_fillsLeast_31 N   n x0 x1 x2 x3 u = hgX11_fillsLeast_31 N   n x0 x1 x2 x3 u := by
  intro n
  induction n with
  | zero => intros; rfl
  | succ n ih =>
    intro x0 x1 x2 x3 u h_u
    have hrc31 := ih
    rw [gX11_fillsLeast_31, hgX11_fillsLeast_31]
    refine eq_if ?_ ?_
    · rfl
    · exact egX11_fillsLeast_39 N  _ _ hrc31 N x0 x1 x2 x3 (0 : Int32) u (hkc (show zK u x0 = 12 from (h_u.g 0 rfl)) (hk0 h_u.1))
set_option maxRecDepth 20000 in
def hgX11_fillsLeast_2 (N : Nat)   : Nat → Nat → Int32 → Int32 → Int32 → SG → Option (Unit × SG)
  | 0, _, _, _, _, _ => none
  | n + 1, x0, x1, x2, x3, u => if (80 : Int32) < x3 then (hgX11_fillsLeast_31 N   N x0 x1 x2 (1 : Int32) u)
  else (if x3 = 0 then (if x3 < 0 ∨ 729 ≤ x3.toNatClampNeg then none else (bs (sI u (x0 + 15) x3.toNatClampNeg (0 : Int32)) fun u3 => ((hgX11_fillsLeast_2 N   n) x0 x1 x2 (x3 + (1 : Int32)) u3)))
  else (if x3 < 0 ∨ 729 ≤ x3.toNatClampNeg then none else (bs (sI u (x0 + 15) x3.toNatClampNeg (-1 : Int32)) fun u2 => ((hgX11_fillsLeast_2 N   n) x0 x1 x2 (x3 + (1 : Int32)) u2))))
set_option maxRecDepth 20000 in
theorem egX11_fillsLeast_2 (N : Nat)   : ∀ (n : Nat) (x0 : Nat) (x1 : Int32) (x2 : Int32) (x3 : Int32) (u : SG), HK [(some x0, 12)] u → gX11_fillsLeast_2 N   n x0 x1 x2 x3 u = hgX11_fillsLeast_2 N   n x0 x1 x2 x3 u := by
  intro n
  induction n with
  | zero => intros; rfl
  | succ n ih =>
    intro x0 x1 x2 x3 u h_u
    have hrc2 := ih
    rw [gX11_fillsLeast_2, hgX11_fillsLeast_2]
    refine eq_if ?_ ?_
    · exact egX11_fillsLeast_31 N   N x0 x1 x2 (1 : Int32) u (hkc (show zK u x0 = 12 from (h_u.g 0 rfl)) (hk0 h_u.1))
    · refine eq_g (show zK u x0 = 12 from (h_u.g 0 rfl)) ?_
      refine eq_bR (show zR u x0 30 = some (x0 + 15) from lyR_12_30 h_u.1 (h_u.g 0 rfl)) ?_
      refine eq_if ?_ ?_
      · refine eq_g (show zK u (x0 + 15) = 22 from (lyK_12_30 h_u.1 (h_u.g 0 rfl))) ?_
        refine eq_ixh (show zN u (x0 + 15) = 729 from lyN_12_30 h_u.1 (h_u.g 0 rfl)) (fun hix1 => ?_)
        refine eq_sH (h_u.fr (P := PT) (Fr.sIr trivial)) (fun u3 h_u3 => ?_)
        exact hrc2 x0 x1 x2 (x3 + (1 : Int32)) u3 (hkc (show zK u3 x0 = 12 from (h_u3.g 0 rfl)) (hk0 h_u3.1))
      · refine eq_g (show zK u (x0 + 15) = 22 from (lyK_12_30 h_u.1 (h_u.g 0 rfl))) ?_
        refine eq_ixh (show zN u (x0 + 15) = 729 from lyN_12_30 h_u.1 (h_u.g 0 rfl)) (fun hix2 => ?_)
        refine eq_sH (h_u.fr (P := PT) (Fr.sIr trivial)) (fun u2 h_u2 => ?_)
        exact hrc2 x0 x1 x2 (x3 + (1 : Int32)) u2 (hkc (show zK u2 x0 = 12 from (h_u2.g 0 rfl)) (hk0 h_u2.1))
set_option maxRecDepth 20000 in
def hX11_fillsLeast (N : Nat)  (a0 : Nat) (p1 : Int32) (p2 : Int32) (u : SG) : Option (Unit × SG) := hgX11_fillsLeast_2 N   N a0 p1 p2 (0 : Int32) u
set_option maxRecDepth 20000 in
theorem eX11_fillsLeast (N : Nat)  (a0 : Nat) (p1 : Int32) (p2 : Int32) (u : SG) (h_u : HK [(some a0, 12)] u) : fX11_fillsLeast N  a0 p1 p2 u = hX11_fillsLeast N  a0 p1 p2 u := by
  unfold fX11_fillsLeast hX11_fillsLeast
  exact egX11_fillsLeast_2 N   N a0 p1 p2 (0 : Int32) u (hkc (show zK u a0 = 12 from (h_u.g 0 rfl)) (hk0 h_u.1))
set_option maxRecDepth 20000 in
def hgX11_nights_155 (N : Nat)  (rc129 : Nat → Int32 → Int32 → Int32 → Int32 → Int32 → Int32 → SG → Option (Int32 × SG)) : Nat → Nat → Int32 → Int32 → Int32 → Int32 → Int32 → Int32 → SG → Option (Int32 × SG)
  | 0, _, _, _, _, _, _, _, _ => none
  | n + 1, x0, x1, x2, x4, x5, x6, x7, u => cl (hX11_costBy N x0 x1 (x2 - x7) x5 x6 u) fun r1 u2 => (cl (hX11_leastOf N x0 (x2 - x7) x5 u2) fun r3 u4 => (if r1 = r3 then (rc129 x0 x1 x2 x4 x5 x6 (x7 + (1 : Int32)) u4)
  else ((hgX11_nights_155 N  rc129 n) x0 x1 x2 x4 x5 (x6 + (1 : Int32)) x7 u4)))
set_option maxRecDepth 20000 in
theorem egX11_nights_155 (N : Nat)  (rec129 : Nat → Int32 → Int32 → Int32 → Int32 → Int32 → Int32 → SG → Option (Int32 × SG)) (rc129 : Nat → Int32 → Int32 → Int32 → Int32 → Int32 → Int32 → SG → Option (Int32 × SG)) (hrc129 : ∀ (x0 : Nat) (x1 : Int32) (x2 : Int32) (x4 : Int32) (x5 : Int32) (x6 : Int32) (x7 : Int32) (u : SG), HK [(some x0, 12)] u → rec129 x0 x1 x2 x4 x5 x6 x7 u = rc129 x0 x1 x2 x4 x5 x6 x7 u) : ∀ (n : Nat) (x0 : Nat) (x1 : Int32) (x2 : Int32) (x4 : Int32) (x5 : Int32) (x6 : Int32) (x7 : Int32) (u : SG), HK [(some x0, 12)] u → gX11_nights_155 N  rec129 n x0 x1 x2 x4 x5 x6 x7 u = hgX11_nights_155 N  rc129 n x0 x1 x2 x4 x5 x6 x7 u := by
  intro n
  induction n with
  | zero => intros; rfl
  | succ n ih =>
    intro x0 x1 x2 x4 x5 x6 x7 u h_u
    have hrc155 := ih
    rw [gX11_nights_155, hgX11_nights_155]
    refine eq_g (show zK u x0 = 12 from (h_u.g 0 rfl)) ?_
    refine eq_cH (eX11_costBy N x0 x1 (x2 - x7) x5 x6 u (hkc (show zK u x0 = 12 from (h_u.g 0 rfl)) (hk0 h_u.1))) (fun r1 u2 e9 => h_u.fr (fr_X11_costBy (P := PT) N x0 x1 (x2 - x7) x5 x6 u clPT trivial _ _ e9).1) (fun r1 u2 h_u2 => ?_)
    refine eq_g (show zK u2 x0 = 12 from (h_u2.g 0 rfl)) ?_
    refine eq_cH (eX11_leastOf N x0 (x2 - x7) x5 u2 (hkc (show zK u2 x0 = 12 from (h_u2.g 0 rfl)) (hk0 h_u2.1))) (fun r3 u4 e9 => h_u2.fr (fr_X11_leastOf (P := PT) N x0 (x2 - x7) x5 u2 clPT trivial _ _ e9).1) (fun r3 u4 h_u4 => ?_)
    refine eq_if ?_ ?_
    · exact hrc129 x0 x1 x2 x4 x5 x6 (x7 + (1 : Int32)) u4 (hkc (show zK u4 x0 = 12 from (h_u4.g 0 rfl)) (hk0 h_u4.1))
    · exact hrc155 x0 x1 x2 x4 x5 (x6 + (1 : Int32)) x7 u4 (hkc (show zK u4 x0 = 12 from (h_u4.g 0 rfl)) (hk0 h_u4.1))
set_option maxRecDepth 20000 in
def hgX11_nights_129 (N : Nat)   : Nat → Nat → Int32 → Int32 → Int32 → Int32 → Int32 → Int32 → SG → Option (Int32 × SG)
  | 0, _, _, _, _, _, _, _, _ => none
  | n + 1, x0, x1, x2, x4, x5, x6, x7, u => if x4 < x7 then (some (x6, u))
  else (if x7 = 0 then (bs (x5 - (0 : Int32)) fun v2 => (hgX11_nights_155 N  (hgX11_nights_129 N   n) N x0 x1 x2 x4 v2 (0 : Int32) x7 u))
  else (bs (x5 - x6) fun v1 => (hgX11_nights_155 N  (hgX11_nights_129 N   n) N x0 x1 x2 x4 v1 (0 : Int32) x7 u)))
set_option maxRecDepth 20000 in
theorem egX11_nights_129 (N : Nat)   : ∀ (n : Nat) (x0 : Nat) (x1 : Int32) (x2 : Int32) (x4 : Int32) (x5 : Int32) (x6 : Int32) (x7 : Int32) (u : SG), HK [(some x0, 12)] u → gX11_nights_129 N   n x0 x1 x2 x4 x5 x6 x7 u = hgX11_nights_129 N   n x0 x1 x2 x4 x5 x6 x7 u := by
  intro n
  induction n with
  | zero => intros; rfl
  | succ n ih =>
    intro x0 x1 x2 x4 x5 x6 x7 u h_u
    have hrc129 := ih
    rw [gX11_nights_129, hgX11_nights_129]
    refine eq_if ?_ ?_
    · rfl
    · refine eq_if ?_ ?_
      · refine eq_bs (fun v2 => ?_)
        exact egX11_nights_155 N  _ _ hrc129 N x0 x1 x2 x4 v2 (0 : Int32) x7 u (hkc (show zK u x0 = 12 from (h_u.g 0 rfl)) (hk0 h_u.1))
      · refine eq_bs (fun v1 => ?_)
        exact egX11_nights_155 N  _ _ hrc129 N x0 x1 x2 x4 v1 (0 : Int32) x7 u (hkc (show zK u x0 = 12 from (h_u.g 0 rfl)) (hk0 h_u.1))
set_option maxRecDepth 20000 in
def hX11_nights (N : Nat)  (a0 : Nat) (p1 : Int32) (p2 : Int32) (p3 : Int32) (p4 : Int32) (u : SG) : Option (Int32 × SG) := cl (hX11_isPerson N a0 p1 u) fun r1 u2 => (if r1 = 0 then (some ((-3 : Int32), u2))
  else (cl (fX11_in N p2.toInt64 (1 : Int64) (8 : Int64) u2) fun r3 u4 => (if r3 = 0 then (some ((-3 : Int32), u4))
  else (cl (fX11_in N p3.toInt64 (0 : Int64) (99 : Int64) u4) fun r5 u6 => (if r5 = 0 then (some ((-3 : Int32), u6))
  else (cl (fX11_in N p4.toInt64 (-1 : Int64) (7 : Int64) u6) fun r7 u8 => (if r7 = 0 then (some ((-3 : Int32), u8))
  else (cl (hX11_personOf N a0 p1 (4 : Int32) u8) fun r9 u10 => (cl (hX11_personOf N a0 p1 (0 : Int32) u10) fun r11 u12 => (bs ((r9 + (p2 * r11)) - p3) fun v13 => (cl (hX11_fillsNight N a0 p1 u12) fun r14 u15 => (cl (hX11_fillsLeast N a0 p1 p2 u15) fun r16 u17 => (if (80 : Int32) < v13 then (some ((-2 : Int32), u17))
  else (cl (hX11_leastOf N a0 p2 v13 u17) fun r18 u19 => (if 0 ≤ r18 then (if p4 = (-1 : Int32) then (cl (hX11_leastOf N a0 p2 v13 u19) fun r20 u21 => (some (r20, u21)))
  else (if p4 < p2 then (hgX11_nights_129 N   N a0 p1 p2 p4 v13 (0 : Int32) (0 : Int32) u19)
  else (some ((-2 : Int32), u19))))
  else (some ((-2 : Int32), u19)))))))))))))))))
set_option maxRecDepth 20000 in
theorem eX11_nights (N : Nat)  (a0 : Nat) (p1 : Int32) (p2 : Int32) (p3 : Int32) (p4 : Int32) (u : SG) (h_u : HK [(some a0, 12)] u) : fX11_nights N  a0 p1 p2 p3 p4 u = hX11_nights N  a0 p1 p2 p3 p4 u := by
  unfold fX11_nights hX11_nights
  refine eq_g (show zK u a0 = 12 from (h_u.g 0 rfl)) ?_
  refine eq_cH (eX11_isPerson N a0 p1 u (hkc (show zK u a0 = 12 from (h_u.g 0 rfl)) (hk0 h_u.1))) (fun r1 u2 e9 => h_u.fr (fr_X11_isPerson (P := PT) N a0 p1 u clPT trivial _ _ e9).1) (fun r1 u2 h_u2 => ?_)
  refine eq_if ?_ ?_
  · rfl
  · refine eq_cH rfl (fun r3 u4 e9 => h_u2.fr (fr_X11_in (P := PT) N p2.toInt64 (1 : Int64) (8 : Int64) u2 clPT _ _ e9).1) (fun r3 u4 h_u4 => ?_)
    refine eq_if ?_ ?_
    · rfl
    · refine eq_cH rfl (fun r5 u6 e9 => h_u4.fr (fr_X11_in (P := PT) N p3.toInt64 (0 : Int64) (99 : Int64) u4 clPT _ _ e9).1) (fun r5 u6 h_u6 => ?_)
      refine eq_if ?_ ?_
      · rfl
      · refine eq_cH rfl (fun r7 u8 e9 => h_u6.fr (fr_X11_in (P := PT) N p4.toInt64 (-1 : Int64) (7 : Int64) u6 clPT _ _ e9).1) (fun r7 u8 h_u8 => ?_)
        refine eq_if ?_ ?_
        · rfl
        · refine eq_g (show zK u8 a0 = 12 from (h_u8.g 0 rfl)) ?_
          refine eq_cH (eX11_personOf N a0 p1 (4 : Int32) u8 (hkc (show zK u8 a0 = 12 from (h_u8.g 0 rfl)) (hk0 h_u8.1))) (fun r9 u10 e9 => h_u8.fr (fr_X11_personOf (P := PT) N a0 p1 (4 : Int32) u8 clPT trivial _ _ e9).1) (fun r9 u10 h_u10 => ?_)
          refine eq_g (show zK u10 a0 = 12 from (h_u10.g 0 rfl)) ?_
          refine eq_cH (eX11_personOf N a0 p1 (0 : Int32) u10 (hkc (show zK u10 a0 = 12 from (h_u10.g 0 rfl)) (hk0 h_u10.1))) (fun r11 u12 e9 => h_u10.fr (fr_X11_personOf (P := PT) N a0 p1 (0 : Int32) u10 clPT trivial _ _ e9).1) (fun r11 u12 h_u12 => ?_)
          refine eq_bs (fun v13 => ?_)
          refine eq_g (show zK u12 a0 = 12 from (h_u12.g 0 rfl)) ?_
          refine eq_cH (eX11_fillsNight N a0 p1 u12 (hkc (show zK u12 a0 = 12 from (h_u12.g 0 rfl)) (hk0 h_u12.1))) (fun r14 u15 e9 => h_u12.fr (fr_X11_fillsNight (P := PT) N a0 p1 u12 clPT trivial _ _ e9).1) (fun r14 u15 h_u15 => ?_)
          refine eq_g (show zK u15 a0 = 12 from (h_u15.g 0 rfl)) ?_
          refine eq_cH (eX11_fillsLeast N a0 p1 p2 u15 (hkc (show zK u15 a0 = 12 from (h_u15.g 0 rfl)) (hk0 h_u15.1))) (fun r16 u17 e9 => h_u15.fr (fr_X11_fillsLeast (P := PT) N a0 p1 p2 u15 clPT trivial _ _ e9).1) (fun r16 u17 h_u17 => ?_)
          refine eq_if ?_ ?_
          · rfl
          · refine eq_g (show zK u17 a0 = 12 from (h_u17.g 0 rfl)) ?_
            refine eq_cH (eX11_leastOf N a0 p2 v13 u17 (hkc (show zK u17 a0 = 12 from (h_u17.g 0 rfl)) (hk0 h_u17.1))) (fun r18 u19 e9 => h_u17.fr (fr_X11_leastOf (P := PT) N a0 p2 v13 u17 clPT trivial _ _ e9).1) (fun r18 u19 h_u19 => ?_)
            refine eq_if ?_ ?_
            · refine eq_if ?_ ?_
              · refine eq_g (show zK u19 a0 = 12 from (h_u19.g 0 rfl)) ?_
                refine eq_cH (eX11_leastOf N a0 p2 v13 u19 (hkc (show zK u19 a0 = 12 from (h_u19.g 0 rfl)) (hk0 h_u19.1))) (fun r20 u21 e9 => h_u19.fr (fr_X11_leastOf (P := PT) N a0 p2 v13 u19 clPT trivial _ _ e9).1) (fun r20 u21 h_u21 => ?_)
                rfl
              · refine eq_if ?_ ?_
                · exact egX11_nights_129 N   N a0 p1 p2 p4 v13 (0 : Int32) (0 : Int32) u19 (hkc (show zK u19 a0 = 12 from (h_u19.g 0 rfl)) (hk0 h_u19.1))
                · rfl
            · rfl
set_option maxRecDepth 20000 in
def hgX11_turned_49 (N : Nat)   : Nat → Nat → Int32 → Int32 → Int32 → Int32 → Int32 → SG → Option (Int32 × SG)
  | 0, _, _, _, _, _, _, _ => none
  | n + 1, x0, x1, x2, x3, x4, x5, u => if x2 ≤ x5 then (if x1 < 0 ∨ 5 ≤ x1.toNatClampNeg then none else (cl (hX11_personOf N x0 x1 (5 : Int32) u) fun r2 u3 => (bs ((zI u (x0 + 11) x1.toNatClampNeg) - (r2 - x4)) fun v4 => (cl (hX11_laysBack N x0 u3) fun r5 u6 => (cl (fX11_fraction N v4 (60 : Int32) x3 u6) fun r7 u8 => (some (r7, u8)))))))
  else (cl (hX11_passes N x0 u) fun r9 u10 => ((hgX11_turned_49 N   n) x0 x1 x2 x3 x4 (x5 + (1 : Int32)) u10))
set_option maxRecDepth 20000 in
theorem egX11_turned_49 (N : Nat)   : ∀ (n : Nat) (x0 : Nat) (x1 : Int32) (x2 : Int32) (x3 : Int32) (x4 : Int32) (x5 : Int32) (u : SG), HK [(some x0, 12)] u → gX11_turned_49 N   n x0 x1 x2 x3 x4 x5 u = hgX11_turned_49 N   n x0 x1 x2 x3 x4 x5 u := by
  intro n
  induction n with
  | zero => intros; rfl
  | succ n ih =>
    intro x0 x1 x2 x3 x4 x5 u h_u
    have hrc49 := ih
    rw [gX11_turned_49, hgX11_turned_49]
    refine eq_if ?_ ?_
    · refine eq_g (show zK u x0 = 12 from (h_u.g 0 rfl)) ?_
      refine eq_bR (show zR u x0 23 = some (x0 + 11) from lyR_12_23 h_u.1 (h_u.g 0 rfl)) ?_
      refine eq_g (show zK u (x0 + 11) = 22 from (lyK_12_23 h_u.1 (h_u.g 0 rfl))) ?_
      refine eq_ixh (show zN u (x0 + 11) = 5 from lyN_12_23 h_u.1 (h_u.g 0 rfl)) (fun hix1 => ?_)
      refine eq_g (show zK u x0 = 12 from (h_u.g 0 rfl)) ?_
      refine eq_cH (eX11_personOf N x0 x1 (5 : Int32) u (hkc (show zK u x0 = 12 from (h_u.g 0 rfl)) (hk0 h_u.1))) (fun r2 u3 e9 => h_u.fr (fr_X11_personOf (P := PT) N x0 x1 (5 : Int32) u clPT trivial _ _ e9).1) (fun r2 u3 h_u3 => ?_)
      refine eq_bs (fun v4 => ?_)
      refine eq_g (show zK u3 x0 = 12 from (h_u3.g 0 rfl)) ?_
      refine eq_cH (eX11_laysBack N x0 u3 (hkc (show zK u3 x0 = 12 from (h_u3.g 0 rfl)) (hk0 h_u3.1))) (fun r5 u6 e9 => h_u3.fr (fr_X11_laysBack (P := PT) N x0 u3 clPT trivial _ _ e9).1) (fun r5 u6 h_u6 => ?_)
      refine eq_cH rfl (fun r7 u8 e9 => h_u6.fr (fr_X11_fraction (P := PT) N v4 (60 : Int32) x3 u6 clPT _ _ e9).1) (fun r7 u8 h_u8 => ?_)
      rfl
    · refine eq_g (show zK u x0 = 12 from (h_u.g 0 rfl)) ?_
      refine eq_cH (eX11_passes N x0 u (hkc (show zK u x0 = 12 from (h_u.g 0 rfl)) (hk0 h_u.1))) (fun r9 u10 e9 => h_u.fr (fr_X11_passes (P := PT) N x0 u clPT trivial _ _ e9).1) (fun r9 u10 h_u10 => ?_)
      exact hrc49 x0 x1 x2 x3 x4 (x5 + (1 : Int32)) u10 (hkc (show zK u10 x0 = 12 from (h_u10.g 0 rfl)) (hk0 h_u10.1))
set_option maxRecDepth 20000 in
def hX11_turned (N : Nat)  (a0 : Nat) (p1 : Int32) (p2 : Int32) (p3 : Int32) (u : SG) : Option (Int32 × SG) := cl (hX11_isPerson N a0 p1 u) fun r1 u2 => (if r1 = 0 then (some ((-1000000 : Int32), u2))
  else (cl (fX11_in N p2.toInt64 (1 : Int64) (60 : Int64) u2) fun r3 u4 => (if r3 = 0 then (some ((-1000000 : Int32), u4))
  else (cl (fX11_in N p3.toInt64 (0 : Int64) (1 : Int64) u4) fun r5 u6 => (if r5 = 0 then (some ((-1000000 : Int32), u6))
  else (cl (hX11_personOf N a0 p1 (5 : Int32) u6) fun r7 u8 => (cl (hX11_keeps N a0 u8) fun r9 u10 => (hgX11_turned_49 N   N a0 p1 p2 p3 r7 (0 : Int32) u10))))))))
set_option maxRecDepth 20000 in
theorem eX11_turned (N : Nat)  (a0 : Nat) (p1 : Int32) (p2 : Int32) (p3 : Int32) (u : SG) (h_u : HK [(some a0, 12)] u) : fX11_turned N  a0 p1 p2 p3 u = hX11_turned N  a0 p1 p2 p3 u := by
  unfold fX11_turned hX11_turned
  refine eq_g (show zK u a0 = 12 from (h_u.g 0 rfl)) ?_
  refine eq_cH (eX11_isPerson N a0 p1 u (hkc (show zK u a0 = 12 from (h_u.g 0 rfl)) (hk0 h_u.1))) (fun r1 u2 e9 => h_u.fr (fr_X11_isPerson (P := PT) N a0 p1 u clPT trivial _ _ e9).1) (fun r1 u2 h_u2 => ?_)
  refine eq_if ?_ ?_
  · rfl
  · refine eq_cH rfl (fun r3 u4 e9 => h_u2.fr (fr_X11_in (P := PT) N p2.toInt64 (1 : Int64) (60 : Int64) u2 clPT _ _ e9).1) (fun r3 u4 h_u4 => ?_)
    refine eq_if ?_ ?_
    · rfl
    · refine eq_cH rfl (fun r5 u6 e9 => h_u4.fr (fr_X11_in (P := PT) N p3.toInt64 (0 : Int64) (1 : Int64) u4 clPT _ _ e9).1) (fun r5 u6 h_u6 => ?_)
      refine eq_if ?_ ?_
      · rfl
      · refine eq_g (show zK u6 a0 = 12 from (h_u6.g 0 rfl)) ?_
        refine eq_cH (eX11_personOf N a0 p1 (5 : Int32) u6 (hkc (show zK u6 a0 = 12 from (h_u6.g 0 rfl)) (hk0 h_u6.1))) (fun r7 u8 e9 => h_u6.fr (fr_X11_personOf (P := PT) N a0 p1 (5 : Int32) u6 clPT trivial _ _ e9).1) (fun r7 u8 h_u8 => ?_)
        refine eq_g (show zK u8 a0 = 12 from (h_u8.g 0 rfl)) ?_
        refine eq_cH (eX11_keeps N a0 u8 (hkc (show zK u8 a0 = 12 from (h_u8.g 0 rfl)) (hk0 h_u8.1))) (fun r9 u10 e9 => h_u8.fr (fr_X11_keeps (P := PT) N a0 u8 clPT trivial _ _ e9).1) (fun r9 u10 h_u10 => ?_)
        exact egX11_turned_49 N   N a0 p1 p2 p3 r7 (0 : Int32) u10 (hkc (show zK u10 a0 = 12 from (h_u10.g 0 rfl)) (hk0 h_u10.1))
set_option maxRecDepth 20000 in
def hgX11_owedHeld_55 (N : Nat)   (x0 : Nat) (s0 : Int32) (u : SG) : Option (Int32 × SG) := cl (hX11_laysBack N x0 u) fun r1 u2 => (some (s0, u2))
set_option maxRecDepth 20000 in
theorem egX11_owedHeld_55 (N : Nat)   (x0 : Nat) (s0 : Int32) (u : SG) (h_u : HK [(some x0, 12)] u) : gX11_owedHeld_55 N   x0 s0 u = hgX11_owedHeld_55 N   x0 s0 u := by
  unfold gX11_owedHeld_55 hgX11_owedHeld_55
  refine eq_g (show zK u x0 = 12 from (h_u.g 0 rfl)) ?_
  refine eq_cH (eX11_laysBack N x0 u (hkc (show zK u x0 = 12 from (h_u.g 0 rfl)) (hk0 h_u.1))) (fun r1 u2 e9 => h_u.fr (fr_X11_laysBack (P := PT) N x0 u clPT trivial _ _ e9).1) (fun r1 u2 h_u2 => ?_)
  rfl
set_option maxRecDepth 20000 in
def hgX11_owedHeld_17 (N : Nat)   : Nat → Nat → Int32 → Int32 → Int32 → SG → Option (Int32 × SG)
  | 0, _, _, _, _, _ => none
  | n + 1, x0, x3, x4, x5, u => if x4 ≤ x5 then (if 0 ≤ x3 then (cl (hX11_personOf N x0 x3 (5 : Int32) u) fun r1 u2 => (hgX11_owedHeld_55 N    x0 r1 u2))
  else (hgX11_owedHeld_55 N    x0 (zI u (x0 + 10) 7) u))
  else (cl (hX11_passes N x0 u) fun r4 u5 => ((hgX11_owedHeld_17 N   n) x0 x3 x4 (x5 + (1 : Int32)) u5))
set_option maxRecDepth 20000 in
theorem egX11_owedHeld_17 (N : Nat)   : ∀ (n : Nat) (x0 : Nat) (x3 : Int32) (x4 : Int32) (x5 : Int32) (u : SG), HK [(some x0, 12)] u → gX11_owedHeld_17 N   n x0 x3 x4 x5 u = hgX11_owedHeld_17 N   n x0 x3 x4 x5 u := by
  intro n
  induction n with
  | zero => intros; rfl
  | succ n ih =>
    intro x0 x3 x4 x5 u h_u
    have hrc17 := ih
    rw [gX11_owedHeld_17, hgX11_owedHeld_17]
    refine eq_if ?_ ?_
    · refine eq_if ?_ ?_
      · refine eq_g (show zK u x0 = 12 from (h_u.g 0 rfl)) ?_
        refine eq_cH (eX11_personOf N x0 x3 (5 : Int32) u (hkc (show zK u x0 = 12 from (h_u.g 0 rfl)) (hk0 h_u.1))) (fun r1 u2 e9 => h_u.fr (fr_X11_personOf (P := PT) N x0 x3 (5 : Int32) u clPT trivial _ _ e9).1) (fun r1 u2 h_u2 => ?_)
        exact egX11_owedHeld_55 N    x0 r1 u2 (hkc (show zK u2 x0 = 12 from (h_u2.g 0 rfl)) (hk0 h_u2.1))
      · refine eq_g (show zK u x0 = 12 from (h_u.g 0 rfl)) ?_
        refine eq_bR (show zR u x0 20 = some (x0 + 10) from lyR_12_20 h_u.1 (h_u.g 0 rfl)) ?_
        refine eq_g (show zK u (x0 + 10) = 22 from (lyK_12_20 h_u.1 (h_u.g 0 rfl))) ?_
        refine eq_n (by rw [show zN u (x0 + 10) = 144 from lyN_12_20 h_u.1 (h_u.g 0 rfl)]; decide) ?_
        exact egX11_owedHeld_55 N    x0 (zI u (x0 + 10) 7) u (hkc (show zK u x0 = 12 from (h_u.g 0 rfl)) (hk0 h_u.1))
    · refine eq_g (show zK u x0 = 12 from (h_u.g 0 rfl)) ?_
      refine eq_cH (eX11_passes N x0 u (hkc (show zK u x0 = 12 from (h_u.g 0 rfl)) (hk0 h_u.1))) (fun r4 u5 e9 => h_u.fr (fr_X11_passes (P := PT) N x0 u clPT trivial _ _ e9).1) (fun r4 u5 h_u5 => ?_)
      exact hrc17 x0 x3 x4 (x5 + (1 : Int32)) u5 (hkc (show zK u5 x0 = 12 from (h_u5.g 0 rfl)) (hk0 h_u5.1))
set_option maxRecDepth 20000 in
def hX11_owedHeld (N : Nat)  (a0 : Nat) (p1 : Int32) (p2 : Int32) (p3 : Int32) (p4 : Int32) (u : SG) : Option (Int32 × SG) := cl (hX11_keeps N a0 u) fun r1 u2 => (if ((40 : Int32) + p1) < 0 ∨ 144 ≤ ((40 : Int32) + p1).toNatClampNeg then none else (bs (sI u2 (a0 + 10) ((40 : Int32) + p1).toNatClampNeg p2) fun u4 => (hgX11_owedHeld_17 N   N a0 p3 p4 (0 : Int32) u4)))
set_option maxRecDepth 20000 in
theorem eX11_owedHeld (N : Nat)  (a0 : Nat) (p1 : Int32) (p2 : Int32) (p3 : Int32) (p4 : Int32) (u : SG) (h_u : HK [(some a0, 12)] u) : fX11_owedHeld N  a0 p1 p2 p3 p4 u = hX11_owedHeld N  a0 p1 p2 p3 p4 u := by
  unfold fX11_owedHeld hX11_owedHeld
  refine eq_g (show zK u a0 = 12 from (h_u.g 0 rfl)) ?_
  refine eq_cH (eX11_keeps N a0 u (hkc (show zK u a0 = 12 from (h_u.g 0 rfl)) (hk0 h_u.1))) (fun r1 u2 e9 => h_u.fr (fr_X11_keeps (P := PT) N a0 u clPT trivial _ _ e9).1) (fun r1 u2 h_u2 => ?_)
  refine eq_g (show zK u2 a0 = 12 from (h_u2.g 0 rfl)) ?_
  refine eq_bR (show zR u2 a0 20 = some (a0 + 10) from lyR_12_20 h_u2.1 (h_u2.g 0 rfl)) ?_
  refine eq_g (show zK u2 (a0 + 10) = 22 from (lyK_12_20 h_u2.1 (h_u2.g 0 rfl))) ?_
  refine eq_ixh (show zN u2 (a0 + 10) = 144 from lyN_12_20 h_u2.1 (h_u2.g 0 rfl)) (fun hix1 => ?_)
  refine eq_sH (h_u2.fr (P := PT) (Fr.sIr trivial)) (fun u4 h_u4 => ?_)
  exact egX11_owedHeld_17 N   N a0 p3 p4 (0 : Int32) u4 (hkc (show zK u4 a0 = 12 from (h_u4.g 0 rfl)) (hk0 h_u4.1))
set_option maxRecDepth 20000 in
def hgX11_spite_21 (N : Nat)   (x0 : Nat) (x1 : Int32) (x2 : Int32) (x3 : Int32) (x4 : Int32) (u : SG) : Option (Int32 × SG) := cl (fX11_in N x3.toInt64 (1 : Int64) (60 : Int64) u) fun r1 u2 => (if r1 = 0 then (some ((-1000000 : Int32), u2))
  else (cl (fX11_in N x4.toInt64 (0 : Int64) (1 : Int64) u2) fun r3 u4 => (if r3 = 0 then (some ((-1000000 : Int32), u4))
  else (cl (hX11_owedHeld N x0 x1 (1 : Int32) x2 x3 u4) fun r5 u6 => (cl (hX11_owedHeld N x0 x1 (2 : Int32) x2 x3 u6) fun r7 u8 => (cl (fX11_fraction N (r5 - r7) (60 : Int32) x4 u8) fun r9 u10 => (some (r9, u10))))))))
set_option maxRecDepth 20000 in
theorem egX11_spite_21 (N : Nat)   (x0 : Nat) (x1 : Int32) (x2 : Int32) (x3 : Int32) (x4 : Int32) (u : SG) (h_u : HK [(some x0, 12)] u) : gX11_spite_21 N   x0 x1 x2 x3 x4 u = hgX11_spite_21 N   x0 x1 x2 x3 x4 u := by
  unfold gX11_spite_21 hgX11_spite_21
  refine eq_cH rfl (fun r1 u2 e9 => h_u.fr (fr_X11_in (P := PT) N x3.toInt64 (1 : Int64) (60 : Int64) u clPT _ _ e9).1) (fun r1 u2 h_u2 => ?_)
  refine eq_if ?_ ?_
  · rfl
  · refine eq_cH rfl (fun r3 u4 e9 => h_u2.fr (fr_X11_in (P := PT) N x4.toInt64 (0 : Int64) (1 : Int64) u2 clPT _ _ e9).1) (fun r3 u4 h_u4 => ?_)
    refine eq_if ?_ ?_
    · rfl
    · refine eq_g (show zK u4 x0 = 12 from (h_u4.g 0 rfl)) ?_
      refine eq_cH (eX11_owedHeld N x0 x1 (1 : Int32) x2 x3 u4 (hkc (show zK u4 x0 = 12 from (h_u4.g 0 rfl)) (hk0 h_u4.1))) (fun r5 u6 e9 => h_u4.fr (fr_X11_owedHeld (P := PT) N x0 x1 (1 : Int32) x2 x3 u4 clPT trivial _ _ e9).1) (fun r5 u6 h_u6 => ?_)
      refine eq_g (show zK u6 x0 = 12 from (h_u6.g 0 rfl)) ?_
      refine eq_cH (eX11_owedHeld N x0 x1 (2 : Int32) x2 x3 u6 (hkc (show zK u6 x0 = 12 from (h_u6.g 0 rfl)) (hk0 h_u6.1))) (fun r7 u8 e9 => h_u6.fr (fr_X11_owedHeld (P := PT) N x0 x1 (2 : Int32) x2 x3 u6 clPT trivial _ _ e9).1) (fun r7 u8 h_u8 => ?_)
      refine eq_cH rfl (fun r9 u10 e9 => h_u8.fr (fr_X11_fraction (P := PT) N (r5 - r7) (60 : Int32) x4 u8 clPT _ _ e9).1) (fun r9 u10 h_u10 => ?_)
      rfl
set_option maxRecDepth 20000 in
def hX11_spite (N : Nat)  (a0 : Nat) (p1 : Int32) (p2 : Int32) (p3 : Int32) (p4 : Int32) (u : SG) : Option (Int32 × SG) := cl (hX11_isLamp N a0 p1 u) fun r1 u2 => (if r1 = 0 then (some ((-1000000 : Int32), u2))
  else (if p2 = (-1 : Int32) then (hgX11_spite_21 N    a0 p1 p2 p3 p4 u2)
  else (cl (hX11_isPerson N a0 p2 u2) fun r3 u4 => (if r3 = 0 then (some ((-1000000 : Int32), u4))
  else (hgX11_spite_21 N    a0 p1 p2 p3 p4 u4)))))
set_option maxRecDepth 20000 in
theorem eX11_spite (N : Nat)  (a0 : Nat) (p1 : Int32) (p2 : Int32) (p3 : Int32) (p4 : Int32) (u : SG) (h_u : HK [(some a0, 12)] u) : fX11_spite N  a0 p1 p2 p3 p4 u = hX11_spite N  a0 p1 p2 p3 p4 u := by
  unfold fX11_spite hX11_spite
  refine eq_g (show zK u a0 = 12 from (h_u.g 0 rfl)) ?_
  refine eq_cH (eX11_isLamp N a0 p1 u (hkc (show zK u a0 = 12 from (h_u.g 0 rfl)) (hk0 h_u.1))) (fun r1 u2 e9 => h_u.fr (fr_X11_isLamp (P := PT) N a0 p1 u clPT trivial _ _ e9).1) (fun r1 u2 h_u2 => ?_)
  refine eq_if ?_ ?_
  · rfl
  · refine eq_if ?_ ?_
    · exact egX11_spite_21 N    a0 p1 p2 p3 p4 u2 (hkc (show zK u2 a0 = 12 from (h_u2.g 0 rfl)) (hk0 h_u2.1))
    · refine eq_g (show zK u2 a0 = 12 from (h_u2.g 0 rfl)) ?_
      refine eq_cH (eX11_isPerson N a0 p2 u2 (hkc (show zK u2 a0 = 12 from (h_u2.g 0 rfl)) (hk0 h_u2.1))) (fun r3 u4 e9 => h_u2.fr (fr_X11_isPerson (P := PT) N a0 p2 u2 clPT trivial _ _ e9).1) (fun r3 u4 h_u4 => ?_)
      refine eq_if ?_ ?_
      · rfl
      · exact egX11_spite_21 N    a0 p1 p2 p3 p4 u4 (hkc (show zK u4 a0 = 12 from (h_u4.g 0 rfl)) (hk0 h_u4.1))
set_option maxRecDepth 20000 in
def hX11_seed (N : Nat)  (a0 : Nat) (p1 : Int32) (u : SG) : Option (Int32 × SG) := if 0 ≤ p1 then (bs (zI u a0 22) fun v1 => (bs (sI u a0 22 p1) fun u2 => (some (v1, u2))))
  else (some ((-1 : Int32), u))
set_option maxRecDepth 20000 in
theorem eX11_seed (N : Nat)  (a0 : Nat) (p1 : Int32) (u : SG) (h_u : HK [(some a0, 12)] u) : fX11_seed N  a0 p1 u = hX11_seed N  a0 p1 u := by
  unfold fX11_seed hX11_seed
  refine eq_if ?_ ?_
  · refine eq_g (show zK u a0 = 12 from (h_u.g 0 rfl)) ?_
    refine eq_bs (fun v1 => ?_)
    refine eq_g (show zK u a0 = 12 from (h_u.g 0 rfl)) ?_
    refine eq_sH (h_u.fr (P := PT) (Fr.sIr trivial)) (fun u2 h_u2 => ?_)
    rfl
  · rfl
set_option maxRecDepth 20000 in
def hX11_draw (N : Nat)  (a0 : Nat) (p1 : Int32) (u : SG) : Option (Int32 × SG) := if (2147483648 : Int64) = 0 then (none)
  else (bs (sL u a0 31 ((((zL u a0 31) * (1103515245 : Int64)) + (12345 : Int64)) - (((zL u a0 31) * (1103515245 : Int64)) + (12345 : Int64)) / (2147483648 : Int64) * (2147483648 : Int64))) fun u1 => (if (65536 : Int64) = 0 then (none)
  else (if p1.toInt64 = 0 then (none)
  else (some ((((zL u1 a0 31) / (65536 : Int64)) - ((zL u1 a0 31) / (65536 : Int64)) / p1.toInt64 * p1.toInt64).toInt32, u1)))))
set_option maxRecDepth 20000 in
theorem eX11_draw (N : Nat)  (a0 : Nat) (p1 : Int32) (u : SG) (h_u : HK [(some a0, 12)] u) : fX11_draw N  a0 p1 u = hX11_draw N  a0 p1 u := by
  unfold fX11_draw hX11_draw
  refine eq_g (show zK u a0 = 12 from (h_u.g 0 rfl)) ?_
  refine eq_if ?_ ?_
  · rfl
  · refine eq_g (show zK u a0 = 12 from (h_u.g 0 rfl)) ?_
    refine eq_sH (h_u.fr (P := PT) (Fr.sLr trivial)) (fun u1 h_u1 => ?_)
    refine eq_g (show zK u1 a0 = 12 from (h_u1.g 0 rfl)) ?_
    refine eq_if ?_ ?_
    · rfl
    · refine eq_if ?_ ?_
      · rfl
      · rfl
set_option maxRecDepth 20000 in
def hgX11_lives_153 (N : Nat)  (rc78 : Nat → Int32 → Int32 → Int32 → Int32 → Int32 → Int32 → Int32 → SG → Option (Int32 × SG)) (rc96 : Nat → Int32 → Int32 → Int32 → Int32 → Int32 → Int32 → Int32 → Int32 → Int32 → SG → Option (Int32 × SG)) (rc109 : Nat → Int32 → Int32 → Int32 → Int32 → Int32 → Int32 → Int32 → Int32 → Int32 → Int32 → SG → Option (Int32 × SG)) (x0 : Nat) (x1 : Int32) (x2 : Int32) (x3 : Int32) (x4 : Int32) (x5 : Int32) (x6 : Int32) (x7 : Int32) (x8 : Int32) (x9 : Int32) (x10 : Int32) (s0 : Nat) (s1 : Int32) (s2 : Int32) (u : SG) : Option (Int32 × SG) := cl (hX11_setsAsleep N s0 s1 s2 u) fun r1 u2 => (rc109 x0 x1 x2 x3 x4 x5 x6 x7 x8 x9 (x10 + (1 : Int32)) u2)
set_option maxRecDepth 20000 in
theorem egX11_lives_153 (N : Nat)  (rec78 : Nat → Int32 → Int32 → Int32 → Int32 → Int32 → Int32 → Int32 → SG → Option (Int32 × SG)) (rc78 : Nat → Int32 → Int32 → Int32 → Int32 → Int32 → Int32 → Int32 → SG → Option (Int32 × SG)) (hrc78 : ∀ (x0 : Nat) (x1 : Int32) (x2 : Int32) (x3 : Int32) (x4 : Int32) (x5 : Int32) (x6 : Int32) (x7 : Int32) (u : SG), HK [(some x0, 12)] u → rec78 x0 x1 x2 x3 x4 x5 x6 x7 u = rc78 x0 x1 x2 x3 x4 x5 x6 x7 u) (rec96 : Nat → Int32 → Int32 → Int32 → Int32 → Int32 → Int32 → Int32 → Int32 → Int32 → SG → Option (Int32 × SG)) (rc96 : Nat → Int32 → Int32 → Int32 → Int32 → Int32 → Int32 → Int32 → Int32 → Int32 → SG → Option (Int32 × SG)) (hrc96 : ∀ (x0 : Nat) (x1 : Int32) (x2 : Int32) (x3 : Int32) (x4 : Int32) (x5 : Int32) (x6 : Int32) (x7 : Int32) (x8 : Int32) (x9 : Int32) (u : SG), HK [(some x0, 12)] u → rec96 x0 x1 x2 x3 x4 x5 x6 x7 x8 x9 u = rc96 x0 x1 x2 x3 x4 x5 x6 x7 x8 x9 u) (rec109 : Nat → Int32 → Int32 → Int32 → Int32 → Int32 → Int32 → Int32 → Int32 → Int32 → Int32 → SG → Option (Int32 × SG)) (rc109 : Nat → Int32 → Int32 → Int32 → Int32 → Int32 → Int32 → Int32 → Int32 → Int32 → Int32 → SG → Option (Int32 × SG)) (hrc109 : ∀ (x0 : Nat) (x1 : Int32) (x2 : Int32) (x3 : Int32) (x4 : Int32) (x5 : Int32) (x6 : Int32) (x7 : Int32) (x8 : Int32) (x9 : Int32) (x10 : Int32) (u : SG), HK [(some x0, 12)] u → rec109 x0 x1 x2 x3 x4 x5 x6 x7 x8 x9 x10 u = rc109 x0 x1 x2 x3 x4 x5 x6 x7 x8 x9 x10 u) (x0 : Nat) (x1 : Int32) (x2 : Int32) (x3 : Int32) (x4 : Int32) (x5 : Int32) (x6 : Int32) (x7 : Int32) (x8 : Int32) (x9 : Int32) (x10 : Int32) (s0 : Nat) (s1 : Int32) (s2 : Int32) (u : SG) (h_u : HK [(some x0, 12), (some s0, 12)] u) : gX11_lives_153 N  rec78 rec96 rec109 x0 x1 x2 x3 x4 x5 x6 x7 x8 x9 x10 s0 s1 s2 u = hgX11_lives_153 N  rc78 rc96 rc109 x0 x1 x2 x3 x4 x5 x6 x7 x8 x9 x10 s0 s1 s2 u := by
  unfold gX11_lives_153 hgX11_lives_153
  refine eq_g (show zK u s0 = 12 from (h_u.g 1 rfl)) ?_
  refine eq_cH (eX11_setsAsleep N s0 s1 s2 u (hkc (show zK u s0 = 12 from (h_u.g 1 rfl)) (hk0 h_u.1))) (fun r1 u2 e9 => h_u.fr (fr_X11_setsAsleep (P := PT) N s0 s1 s2 u clPT trivial _ _ e9).1) (fun r1 u2 h_u2 => ?_)
  exact hrc109 x0 x1 x2 x3 x4 x5 x6 x7 x8 x9 (x10 + (1 : Int32)) u2 (hkc (show zK u2 x0 = 12 from (h_u2.g 0 rfl)) (hk0 h_u2.1))
set_option maxRecDepth 20000 in
def hgX11_lives_109 (N : Nat)  (rc78 : Nat → Int32 → Int32 → Int32 → Int32 → Int32 → Int32 → Int32 → SG → Option (Int32 × SG)) (rc96 : Nat → Int32 → Int32 → Int32 → Int32 → Int32 → Int32 → Int32 → Int32 → Int32 → SG → Option (Int32 × SG)) : Nat → Nat → Int32 → Int32 → Int32 → Int32 → Int32 → Int32 → Int32 → Int32 → Int32 → Int32 → SG → Option (Int32 × SG)
  | 0, _, _, _, _, _, _, _, _, _, _, _, _ => none
  | n + 1, x0, x1, x2, x3, x4, x5, x6, x7, x8, x9, x10, u => if (zI u (x0 + 10) 1) ≤ x10 then (cl (hX11_shares N x0 u) fun r2 u3 => (bs (x5 + r2) fun v4 => (rc96 x0 x1 x2 x3 x4 v4 x6 x7 x8 (x9 + (1 : Int32)) u3)))
  else (cl (hX11_worksIn N x0 x10 (zI u (x0 + 10) 5) u) fun r6 u7 => (if r6 = 0 then (cl (hX11_draw N x0 (100 : Int32) u7) fun r8 u9 => (if x3 ≤ r8 then (hgX11_lives_153 N  rc78 rc96 (hgX11_lives_109 N  rc78 rc96 n)  x0 x1 x2 x3 x4 x5 x6 x7 x8 x9 x10 x0 x10 (0 : Int32) u9)
  else (hgX11_lives_153 N  rc78 rc96 (hgX11_lives_109 N  rc78 rc96 n)  x0 x1 x2 x3 x4 x5 x6 x7 x8 x9 x10 x0 x10 (1 : Int32) u9)))
  else ((hgX11_lives_109 N  rc78 rc96 n) x0 x1 x2 x3 x4 x5 x6 x7 x8 x9 (x10 + (1 : Int32)) u7)))
set_option maxRecDepth 20000 in
theorem egX11_lives_109 (N : Nat)  (rec78 : Nat → Int32 → Int32 → Int32 → Int32 → Int32 → Int32 → Int32 → SG → Option (Int32 × SG)) (rc78 : Nat → Int32 → Int32 → Int32 → Int32 → Int32 → Int32 → Int32 → SG → Option (Int32 × SG)) (hrc78 : ∀ (x0 : Nat) (x1 : Int32) (x2 : Int32) (x3 : Int32) (x4 : Int32) (x5 : Int32) (x6 : Int32) (x7 : Int32) (u : SG), HK [(some x0, 12)] u → rec78 x0 x1 x2 x3 x4 x5 x6 x7 u = rc78 x0 x1 x2 x3 x4 x5 x6 x7 u) (rec96 : Nat → Int32 → Int32 → Int32 → Int32 → Int32 → Int32 → Int32 → Int32 → Int32 → SG → Option (Int32 × SG)) (rc96 : Nat → Int32 → Int32 → Int32 → Int32 → Int32 → Int32 → Int32 → Int32 → Int32 → SG → Option (Int32 × SG)) (hrc96 : ∀ (x0 : Nat) (x1 : Int32) (x2 : Int32) (x3 : Int32) (x4 : Int32) (x5 : Int32) (x6 : Int32) (x7 : Int32) (x8 : Int32) (x9 : Int32) (u : SG), HK [(some x0, 12)] u → rec96 x0 x1 x2 x3 x4 x5 x6 x7 x8 x9 u = rc96 x0 x1 x2 x3 x4 x5 x6 x7 x8 x9 u) : ∀ (n : Nat) (x0 : Nat) (x1 : Int32) (x2 : Int32) (x3 : Int32) (x4 : Int32) (x5 : Int32) (x6 : Int32) (x7 : Int32) (x8 : Int32) (x9 : Int32) (x10 : Int32) (u : SG), HK [(some x0, 12)] u → gX11_lives_109 N  rec78 rec96 n x0 x1 x2 x3 x4 x5 x6 x7 x8 x9 x10 u = hgX11_lives_109 N  rc78 rc96 n x0 x1 x2 x3 x4 x5 x6 x7 x8 x9 x10 u := by
  intro n
  induction n with
  | zero => intros; rfl
  | succ n ih =>
    intro x0 x1 x2 x3 x4 x5 x6 x7 x8 x9 x10 u h_u
    have hrc109 := ih
    rw [gX11_lives_109, hgX11_lives_109]
    refine eq_g (show zK u x0 = 12 from (h_u.g 0 rfl)) ?_
    refine eq_bR (show zR u x0 20 = some (x0 + 10) from lyR_12_20 h_u.1 (h_u.g 0 rfl)) ?_
    refine eq_g (show zK u (x0 + 10) = 22 from (lyK_12_20 h_u.1 (h_u.g 0 rfl))) ?_
    refine eq_n (by rw [show zN u (x0 + 10) = 144 from lyN_12_20 h_u.1 (h_u.g 0 rfl)]; decide) ?_
    refine eq_if ?_ ?_
    · refine eq_g (show zK u x0 = 12 from (h_u.g 0 rfl)) ?_
      refine eq_cH (eX11_shares N x0 u (hkc (show zK u x0 = 12 from (h_u.g 0 rfl)) (hk0 h_u.1))) (fun r2 u3 e9 => h_u.fr (fr_X11_shares (P := PT) N x0 u clPT trivial _ _ e9).1) (fun r2 u3 h_u3 => ?_)
      refine eq_bs (fun v4 => ?_)
      exact hrc96 x0 x1 x2 x3 x4 v4 x6 x7 x8 (x9 + (1 : Int32)) u3 (hkc (show zK u3 x0 = 12 from (h_u3.g 0 rfl)) (hk0 h_u3.1))
    · refine eq_g (show zK u x0 = 12 from (h_u.g 0 rfl)) ?_
      refine eq_bR (show zR u x0 20 = some (x0 + 10) from lyR_12_20 h_u.1 (h_u.g 0 rfl)) ?_
      refine eq_g (show zK u (x0 + 10) = 22 from (lyK_12_20 h_u.1 (h_u.g 0 rfl))) ?_
      refine eq_n (by rw [show zN u (x0 + 10) = 144 from lyN_12_20 h_u.1 (h_u.g 0 rfl)]; decide) ?_
      refine eq_g (show zK u x0 = 12 from (h_u.g 0 rfl)) ?_
      refine eq_cH (eX11_worksIn N x0 x10 (zI u (x0 + 10) 5) u (hkc (show zK u x0 = 12 from (h_u.g 0 rfl)) (hk0 h_u.1))) (fun r6 u7 e9 => h_u.fr (fr_X11_worksIn (P := PT) N x0 x10 (zI u (x0 + 10) 5) u clPT trivial _ _ e9).1) (fun r6 u7 h_u7 => ?_)
      refine eq_if ?_ ?_
      · refine eq_g (show zK u7 x0 = 12 from (h_u7.g 0 rfl)) ?_
        refine eq_cH (eX11_draw N x0 (100 : Int32) u7 (hkc (show zK u7 x0 = 12 from (h_u7.g 0 rfl)) (hk0 h_u7.1))) (fun r8 u9 e9 => h_u7.fr (fr_X11_draw (P := PT) N x0 (100 : Int32) u7 clPT trivial _ _ e9).1) (fun r8 u9 h_u9 => ?_)
        refine eq_if ?_ ?_
        · exact egX11_lives_153 N  _ _ hrc78 _ _ hrc96 _ _ hrc109  x0 x1 x2 x3 x4 x5 x6 x7 x8 x9 x10 x0 x10 (0 : Int32) u9 (hkc (show zK u9 x0 = 12 from (h_u9.g 0 rfl)) (hkc (show zK u9 x0 = 12 from (h_u9.g 0 rfl)) (hk0 h_u9.1)))
        · exact egX11_lives_153 N  _ _ hrc78 _ _ hrc96 _ _ hrc109  x0 x1 x2 x3 x4 x5 x6 x7 x8 x9 x10 x0 x10 (1 : Int32) u9 (hkc (show zK u9 x0 = 12 from (h_u9.g 0 rfl)) (hkc (show zK u9 x0 = 12 from (h_u9.g 0 rfl)) (hk0 h_u9.1)))
      · exact hrc109 x0 x1 x2 x3 x4 x5 x6 x7 x8 x9 (x10 + (1 : Int32)) u7 (hkc (show zK u7 x0 = 12 from (h_u7.g 0 rfl)) (hk0 h_u7.1))
set_option maxRecDepth 20000 in
def hgX11_lives_96 (N : Nat)  (rc78 : Nat → Int32 → Int32 → Int32 → Int32 → Int32 → Int32 → Int32 → SG → Option (Int32 × SG)) : Nat → Nat → Int32 → Int32 → Int32 → Int32 → Int32 → Int32 → Int32 → Int32 → Int32 → SG → Option (Int32 × SG)
  | 0, _, _, _, _, _, _, _, _, _, _, _ => none
  | n + 1, x0, x1, x2, x3, x4, x5, x6, x7, x8, x9, u => if x2 ≤ x9 then (if (60 : Int32) = 0 then (none)
  else (bs (x6 + (((zI u (x0 + 10) 7) - x8) / (60 : Int32))) fun v2 => (cl (hX11_laysBack N x0 u) fun r3 u4 => (rc78 x0 x1 x2 x3 x4 x5 v2 (x7 + (1 : Int32)) u4))))
  else (cl (hX11_wakesWorkers N x0 u) fun r5 u6 => (hgX11_lives_109 N  rc78 (hgX11_lives_96 N  rc78 n) N x0 x1 x2 x3 x4 x5 x6 x7 x8 x9 (0 : Int32) u6))
set_option maxRecDepth 20000 in
theorem egX11_lives_96 (N : Nat)  (rec78 : Nat → Int32 → Int32 → Int32 → Int32 → Int32 → Int32 → Int32 → SG → Option (Int32 × SG)) (rc78 : Nat → Int32 → Int32 → Int32 → Int32 → Int32 → Int32 → Int32 → SG → Option (Int32 × SG)) (hrc78 : ∀ (x0 : Nat) (x1 : Int32) (x2 : Int32) (x3 : Int32) (x4 : Int32) (x5 : Int32) (x6 : Int32) (x7 : Int32) (u : SG), HK [(some x0, 12)] u → rec78 x0 x1 x2 x3 x4 x5 x6 x7 u = rc78 x0 x1 x2 x3 x4 x5 x6 x7 u) : ∀ (n : Nat) (x0 : Nat) (x1 : Int32) (x2 : Int32) (x3 : Int32) (x4 : Int32) (x5 : Int32) (x6 : Int32) (x7 : Int32) (x8 : Int32) (x9 : Int32) (u : SG), HK [(some x0, 12)] u → gX11_lives_96 N  rec78 n x0 x1 x2 x3 x4 x5 x6 x7 x8 x9 u = hgX11_lives_96 N  rc78 n x0 x1 x2 x3 x4 x5 x6 x7 x8 x9 u := by
  intro n
  induction n with
  | zero => intros; rfl
  | succ n ih =>
    intro x0 x1 x2 x3 x4 x5 x6 x7 x8 x9 u h_u
    have hrc96 := ih
    rw [gX11_lives_96, hgX11_lives_96]
    refine eq_if ?_ ?_
    · refine eq_g (show zK u x0 = 12 from (h_u.g 0 rfl)) ?_
      refine eq_bR (show zR u x0 20 = some (x0 + 10) from lyR_12_20 h_u.1 (h_u.g 0 rfl)) ?_
      refine eq_g (show zK u (x0 + 10) = 22 from (lyK_12_20 h_u.1 (h_u.g 0 rfl))) ?_
      refine eq_n (by rw [show zN u (x0 + 10) = 144 from lyN_12_20 h_u.1 (h_u.g 0 rfl)]; decide) ?_
      refine eq_if ?_ ?_
      · rfl
      · refine eq_bs (fun v2 => ?_)
        refine eq_g (show zK u x0 = 12 from (h_u.g 0 rfl)) ?_
        refine eq_cH (eX11_laysBack N x0 u (hkc (show zK u x0 = 12 from (h_u.g 0 rfl)) (hk0 h_u.1))) (fun r3 u4 e9 => h_u.fr (fr_X11_laysBack (P := PT) N x0 u clPT trivial _ _ e9).1) (fun r3 u4 h_u4 => ?_)
        exact hrc78 x0 x1 x2 x3 x4 x5 v2 (x7 + (1 : Int32)) u4 (hkc (show zK u4 x0 = 12 from (h_u4.g 0 rfl)) (hk0 h_u4.1))
    · refine eq_g (show zK u x0 = 12 from (h_u.g 0 rfl)) ?_
      refine eq_cH (eX11_wakesWorkers N x0 u (hkc (show zK u x0 = 12 from (h_u.g 0 rfl)) (hk0 h_u.1))) (fun r5 u6 e9 => h_u.fr (fr_X11_wakesWorkers (P := PT) N x0 u clPT trivial _ _ e9).1) (fun r5 u6 h_u6 => ?_)
      exact egX11_lives_109 N  _ _ hrc78 _ _ hrc96 N x0 x1 x2 x3 x4 x5 x6 x7 x8 x9 (0 : Int32) u6 (hkc (show zK u6 x0 = 12 from (h_u6.g 0 rfl)) (hk0 h_u6.1))
set_option maxRecDepth 20000 in
def hgX11_lives_78 (N : Nat)   : Nat → Nat → Int32 → Int32 → Int32 → Int32 → Int32 → Int32 → Int32 → SG → Option (Int32 × SG)
  | 0, _, _, _, _, _, _, _, _, _ => none
  | n + 1, x0, x1, x2, x3, x4, x5, x6, x7, u => if x1 ≤ x7 then (if x4 = 0 then (some (x5, u))
  else (some (x6, u)))
  else (bs (zI u (x0 + 10) 7) fun v2 => (hgX11_lives_96 N  (hgX11_lives_78 N   n) N x0 x1 x2 x3 x4 x5 x6 x7 v2 (0 : Int32) u))
set_option maxRecDepth 20000 in
theorem egX11_lives_78 (N : Nat)   : ∀ (n : Nat) (x0 : Nat) (x1 : Int32) (x2 : Int32) (x3 : Int32) (x4 : Int32) (x5 : Int32) (x6 : Int32) (x7 : Int32) (u : SG), HK [(some x0, 12)] u → gX11_lives_78 N   n x0 x1 x2 x3 x4 x5 x6 x7 u = hgX11_lives_78 N   n x0 x1 x2 x3 x4 x5 x6 x7 u := by
  intro n
  induction n with
  | zero => intros; rfl
  | succ n ih =>
    intro x0 x1 x2 x3 x4 x5 x6 x7 u h_u
    have hrc78 := ih
    rw [gX11_lives_78, hgX11_lives_78]
    refine eq_if ?_ ?_
    · refine eq_if ?_ ?_
      · rfl
      · rfl
    · refine eq_g (show zK u x0 = 12 from (h_u.g 0 rfl)) ?_
      refine eq_bR (show zR u x0 20 = some (x0 + 10) from lyR_12_20 h_u.1 (h_u.g 0 rfl)) ?_
      refine eq_g (show zK u (x0 + 10) = 22 from (lyK_12_20 h_u.1 (h_u.g 0 rfl))) ?_
      refine eq_n (by rw [show zN u (x0 + 10) = 144 from lyN_12_20 h_u.1 (h_u.g 0 rfl)]; decide) ?_
      refine eq_bs (fun v2 => ?_)
      exact egX11_lives_96 N  _ _ hrc78 N x0 x1 x2 x3 x4 x5 x6 x7 v2 (0 : Int32) u (hkc (show zK u x0 = 12 from (h_u.g 0 rfl)) (hk0 h_u.1))
set_option maxRecDepth 20000 in
def hX11_lives (N : Nat)  (a0 : Nat) (p1 : Int32) (p2 : Int32) (p3 : Int32) (p4 : Int32) (u : SG) : Option (Int32 × SG) := cl (hX11_isStreet N a0 u) fun r1 u2 => (if r1 = 0 then (some ((-1 : Int32), u2))
  else (cl (fX11_in N p1.toInt64 (1 : Int64) (10 : Int64) u2) fun r3 u4 => (if r3 = 0 then (some ((-1 : Int32), u4))
  else (cl (fX11_in N p2.toInt64 (1 : Int64) (60 : Int64) u4) fun r5 u6 => (if r5 = 0 then (some ((-1 : Int32), u6))
  else (cl (fX11_in N p3.toInt64 (0 : Int64) (100 : Int64) u6) fun r7 u8 => (if r7 = 0 then (some ((-1 : Int32), u8))
  else (cl (fX11_in N p4.toInt64 (0 : Int64) (1 : Int64) u8) fun r9 u10 => (if r9 = 0 then (some ((-1 : Int32), u10))
  else (bs (sL u10 a0 31 ((zI u10 a0 22).toInt64)) fun u11 => (cl (hX11_keeps N a0 u11) fun r12 u13 => (hgX11_lives_78 N   N a0 p1 p2 p3 p4 (0 : Int32) (0 : Int32) (0 : Int32) u13))))))))))))
set_option maxRecDepth 20000 in
theorem eX11_lives (N : Nat)  (a0 : Nat) (p1 : Int32) (p2 : Int32) (p3 : Int32) (p4 : Int32) (u : SG) (h_u : HK [(some a0, 12)] u) : fX11_lives N  a0 p1 p2 p3 p4 u = hX11_lives N  a0 p1 p2 p3 p4 u := by
  unfold fX11_lives hX11_lives
  refine eq_g (show zK u a0 = 12 from (h_u.g 0 rfl)) ?_
  refine eq_cH (eX11_isStreet N a0 u (hkc (show zK u a0 = 12 from (h_u.g 0 rfl)) (hk0 h_u.1))) (fun r1 u2 e9 => h_u.fr (fr_X11_isStreet (P := PT) N a0 u clPT trivial _ _ e9).1) (fun r1 u2 h_u2 => ?_)
  refine eq_if ?_ ?_
  · rfl
  · refine eq_cH rfl (fun r3 u4 e9 => h_u2.fr (fr_X11_in (P := PT) N p1.toInt64 (1 : Int64) (10 : Int64) u2 clPT _ _ e9).1) (fun r3 u4 h_u4 => ?_)
    refine eq_if ?_ ?_
    · rfl
    · refine eq_cH rfl (fun r5 u6 e9 => h_u4.fr (fr_X11_in (P := PT) N p2.toInt64 (1 : Int64) (60 : Int64) u4 clPT _ _ e9).1) (fun r5 u6 h_u6 => ?_)
      refine eq_if ?_ ?_
      · rfl
      · refine eq_cH rfl (fun r7 u8 e9 => h_u6.fr (fr_X11_in (P := PT) N p3.toInt64 (0 : Int64) (100 : Int64) u6 clPT _ _ e9).1) (fun r7 u8 h_u8 => ?_)
        refine eq_if ?_ ?_
        · rfl
        · refine eq_cH rfl (fun r9 u10 e9 => h_u8.fr (fr_X11_in (P := PT) N p4.toInt64 (0 : Int64) (1 : Int64) u8 clPT _ _ e9).1) (fun r9 u10 h_u10 => ?_)
          refine eq_if ?_ ?_
          · rfl
          · refine eq_g (show zK u10 a0 = 12 from (h_u10.g 0 rfl)) ?_
            refine eq_g (show zK u10 a0 = 12 from (h_u10.g 0 rfl)) ?_
            refine eq_sH (h_u10.fr (P := PT) (Fr.sLr trivial)) (fun u11 h_u11 => ?_)
            refine eq_g (show zK u11 a0 = 12 from (h_u11.g 0 rfl)) ?_
            refine eq_cH (eX11_keeps N a0 u11 (hkc (show zK u11 a0 = 12 from (h_u11.g 0 rfl)) (hk0 h_u11.1))) (fun r12 u13 e9 => h_u11.fr (fr_X11_keeps (P := PT) N a0 u11 clPT trivial _ _ e9).1) (fun r12 u13 h_u13 => ?_)
            exact egX11_lives_78 N   N a0 p1 p2 p3 p4 (0 : Int32) (0 : Int32) (0 : Int32) u13 (hkc (show zK u13 a0 = 12 from (h_u13.g 0 rfl)) (hk0 h_u13.1))
set_option maxRecDepth 20000 in
def hX11_count (N : Nat)  (a0 : Nat) (p1 : Int32) (u : SG) : Option (Int32 × SG) := if p1 = (0 : Int32) then (if p1 < 0 ∨ 144 ≤ p1.toNatClampNeg then none else (some (zI u (a0 + 10) p1.toNatClampNeg, u)))
  else (if p1 = (1 : Int32) then (if p1 < 0 ∨ 144 ≤ p1.toNatClampNeg then none else (some (zI u (a0 + 10) p1.toNatClampNeg, u)))
  else (if p1 = (2 : Int32) then (if p1 < 0 ∨ 144 ≤ p1.toNatClampNeg then none else (some (zI u (a0 + 10) p1.toNatClampNeg, u)))
  else (if p1 = (3 : Int32) then (if p1 < 0 ∨ 144 ≤ p1.toNatClampNeg then none else (some (zI u (a0 + 10) p1.toNatClampNeg, u)))
  else (if p1 = (4 : Int32) then (if p1 < 0 ∨ 144 ≤ p1.toNatClampNeg then none else (some (zI u (a0 + 10) p1.toNatClampNeg, u)))
  else (if p1 = (5 : Int32) then (some (zI u a0 2, u))
  else (if p1 = (6 : Int32) then (some (zI u a0 21, u))
  else (if p1 = (7 : Int32) then (some (zI u (a0 + 10) 5, u))
  else (if p1 = (8 : Int32) then (some (zI u (a0 + 10) 6, u))
  else (if p1 = (9 : Int32) then (cl (hX11_sleepers N a0 u) fun r8 u9 => (some (r8, u9)))
  else (if p1 = (10 : Int32) then (cl (hX11_burning N a0 u) fun r10 u11 => (some (r10, u11)))
  else (if p1 = (11 : Int32) then (cl (hX11_costIn N a0 (zI u (a0 + 10) 5) u) fun r13 u14 => (some (r13, u14)))
  else (if p1 = (12 : Int32) then (some (zI u (a0 + 10) 143, u))
  else (if p1 = (13 : Int32) then (some (zI u a0 25, u))
  else (if p1 = (14 : Int32) then (some (zI u a0 22, u))
  else (if p1 = (15 : Int32) then (some (zI u a0 1, u))
  else (some ((-1 : Int32), u)))))))))))))))))
set_option maxRecDepth 20000 in
theorem eX11_count (N : Nat)  (a0 : Nat) (p1 : Int32) (u : SG) (h_u : HK [(some a0, 12)] u) : fX11_count N  a0 p1 u = hX11_count N  a0 p1 u := by
  unfold fX11_count hX11_count
  refine eq_if ?_ ?_
  · refine eq_g (show zK u a0 = 12 from (h_u.g 0 rfl)) ?_
    refine eq_bR (show zR u a0 20 = some (a0 + 10) from lyR_12_20 h_u.1 (h_u.g 0 rfl)) ?_
    refine eq_g (show zK u (a0 + 10) = 22 from (lyK_12_20 h_u.1 (h_u.g 0 rfl))) ?_
    refine eq_ixh (show zN u (a0 + 10) = 144 from lyN_12_20 h_u.1 (h_u.g 0 rfl)) (fun hix1 => ?_)
    rfl
  · refine eq_if ?_ ?_
    · refine eq_g (show zK u a0 = 12 from (h_u.g 0 rfl)) ?_
      refine eq_bR (show zR u a0 20 = some (a0 + 10) from lyR_12_20 h_u.1 (h_u.g 0 rfl)) ?_
      refine eq_g (show zK u (a0 + 10) = 22 from (lyK_12_20 h_u.1 (h_u.g 0 rfl))) ?_
      refine eq_ixh (show zN u (a0 + 10) = 144 from lyN_12_20 h_u.1 (h_u.g 0 rfl)) (fun hix2 => ?_)
      rfl
    · refine eq_if ?_ ?_
      · refine eq_g (show zK u a0 = 12 from (h_u.g 0 rfl)) ?_
        refine eq_bR (show zR u a0 20 = some (a0 + 10) from lyR_12_20 h_u.1 (h_u.g 0 rfl)) ?_
        refine eq_g (show zK u (a0 + 10) = 22 from (lyK_12_20 h_u.1 (h_u.g 0 rfl))) ?_
        refine eq_ixh (show zN u (a0 + 10) = 144 from lyN_12_20 h_u.1 (h_u.g 0 rfl)) (fun hix3 => ?_)
        rfl
      · refine eq_if ?_ ?_
        · refine eq_g (show zK u a0 = 12 from (h_u.g 0 rfl)) ?_
          refine eq_bR (show zR u a0 20 = some (a0 + 10) from lyR_12_20 h_u.1 (h_u.g 0 rfl)) ?_
          refine eq_g (show zK u (a0 + 10) = 22 from (lyK_12_20 h_u.1 (h_u.g 0 rfl))) ?_
          refine eq_ixh (show zN u (a0 + 10) = 144 from lyN_12_20 h_u.1 (h_u.g 0 rfl)) (fun hix4 => ?_)
          rfl
        · refine eq_if ?_ ?_
          · refine eq_g (show zK u a0 = 12 from (h_u.g 0 rfl)) ?_
            refine eq_bR (show zR u a0 20 = some (a0 + 10) from lyR_12_20 h_u.1 (h_u.g 0 rfl)) ?_
            refine eq_g (show zK u (a0 + 10) = 22 from (lyK_12_20 h_u.1 (h_u.g 0 rfl))) ?_
            refine eq_ixh (show zN u (a0 + 10) = 144 from lyN_12_20 h_u.1 (h_u.g 0 rfl)) (fun hix5 => ?_)
            rfl
          · refine eq_if ?_ ?_
            · refine eq_g (show zK u a0 = 12 from (h_u.g 0 rfl)) ?_
              rfl
            · refine eq_if ?_ ?_
              · refine eq_g (show zK u a0 = 12 from (h_u.g 0 rfl)) ?_
                rfl
              · refine eq_if ?_ ?_
                · refine eq_g (show zK u a0 = 12 from (h_u.g 0 rfl)) ?_
                  refine eq_bR (show zR u a0 20 = some (a0 + 10) from lyR_12_20 h_u.1 (h_u.g 0 rfl)) ?_
                  refine eq_g (show zK u (a0 + 10) = 22 from (lyK_12_20 h_u.1 (h_u.g 0 rfl))) ?_
                  refine eq_n (by rw [show zN u (a0 + 10) = 144 from lyN_12_20 h_u.1 (h_u.g 0 rfl)]; decide) ?_
                  rfl
                · refine eq_if ?_ ?_
                  · refine eq_g (show zK u a0 = 12 from (h_u.g 0 rfl)) ?_
                    refine eq_bR (show zR u a0 20 = some (a0 + 10) from lyR_12_20 h_u.1 (h_u.g 0 rfl)) ?_
                    refine eq_g (show zK u (a0 + 10) = 22 from (lyK_12_20 h_u.1 (h_u.g 0 rfl))) ?_
                    refine eq_n (by rw [show zN u (a0 + 10) = 144 from lyN_12_20 h_u.1 (h_u.g 0 rfl)]; decide) ?_
                    rfl
                  · refine eq_if ?_ ?_
                    · refine eq_g (show zK u a0 = 12 from (h_u.g 0 rfl)) ?_
                      refine eq_cH (eX11_sleepers N a0 u (hkc (show zK u a0 = 12 from (h_u.g 0 rfl)) (hk0 h_u.1))) (fun r8 u9 e9 => h_u.fr (fr_X11_sleepers (P := PT) N a0 u clPT trivial _ _ e9).1) (fun r8 u9 h_u9 => ?_)
                      rfl
                    · refine eq_if ?_ ?_
                      · refine eq_g (show zK u a0 = 12 from (h_u.g 0 rfl)) ?_
                        refine eq_cH (eX11_burning N a0 u (hkc (show zK u a0 = 12 from (h_u.g 0 rfl)) (hk0 h_u.1))) (fun r10 u11 e9 => h_u.fr (fr_X11_burning (P := PT) N a0 u clPT trivial _ _ e9).1) (fun r10 u11 h_u11 => ?_)
                        rfl
                      · refine eq_if ?_ ?_
                        · refine eq_g (show zK u a0 = 12 from (h_u.g 0 rfl)) ?_
                          refine eq_bR (show zR u a0 20 = some (a0 + 10) from lyR_12_20 h_u.1 (h_u.g 0 rfl)) ?_
                          refine eq_g (show zK u (a0 + 10) = 22 from (lyK_12_20 h_u.1 (h_u.g 0 rfl))) ?_
                          refine eq_n (by rw [show zN u (a0 + 10) = 144 from lyN_12_20 h_u.1 (h_u.g 0 rfl)]; decide) ?_
                          refine eq_g (show zK u a0 = 12 from (h_u.g 0 rfl)) ?_
                          refine eq_cH (eX11_costIn N a0 (zI u (a0 + 10) 5) u (hkc (show zK u a0 = 12 from (h_u.g 0 rfl)) (hk0 h_u.1))) (fun r13 u14 e9 => h_u.fr (fr_X11_costIn (P := PT) N a0 (zI u (a0 + 10) 5) u clPT trivial _ _ e9).1) (fun r13 u14 h_u14 => ?_)
                          rfl
                        · refine eq_if ?_ ?_
                          · refine eq_g (show zK u a0 = 12 from (h_u.g 0 rfl)) ?_
                            refine eq_bR (show zR u a0 20 = some (a0 + 10) from lyR_12_20 h_u.1 (h_u.g 0 rfl)) ?_
                            refine eq_g (show zK u (a0 + 10) = 22 from (lyK_12_20 h_u.1 (h_u.g 0 rfl))) ?_
                            refine eq_n (by rw [show zN u (a0 + 10) = 144 from lyN_12_20 h_u.1 (h_u.g 0 rfl)]; decide) ?_
                            rfl
                          · refine eq_if ?_ ?_
                            · refine eq_g (show zK u a0 = 12 from (h_u.g 0 rfl)) ?_
                              rfl
                            · refine eq_if ?_ ?_
                              · refine eq_g (show zK u a0 = 12 from (h_u.g 0 rfl)) ?_
                                rfl
                              · refine eq_if ?_ ?_
                                · refine eq_g (show zK u a0 = 12 from (h_u.g 0 rfl)) ?_
                                  rfl
                                · rfl
set_option maxRecDepth 20000 in
def hgX11_image_43 (N : Nat)   : Nat → Nat → Int32 → Int32 → SG → Option (Int32 × SG)
  | 0, _, _, _, _ => none
  | n + 1, x0, x1, x2, u => if (144 : Int32) ≤ x2 then (some (zI u (x0 + 10) 6, u))
  else (if x2 < 0 ∨ 144 ≤ x2.toNatClampNeg then none else (if (((144 : Int32) * x1) + x2) < 0 ∨ 576 ≤ (((144 : Int32) * x1) + x2).toNatClampNeg then none else (bs (sI u (x0 + 16) (((144 : Int32) * x1) + x2).toNatClampNeg (zI u (x0 + 10) x2.toNatClampNeg)) fun u4 => ((hgX11_image_43 N   n) x0 x1 (x2 + (1 : Int32)) u4))))
set_option maxRecDepth 20000 in
theorem egX11_image_43 (N : Nat)   : ∀ (n : Nat) (x0 : Nat) (x1 : Int32) (x2 : Int32) (u : SG), HK [(some x0, 12)] u → gX11_image_43 N   n x0 x1 x2 u = hgX11_image_43 N   n x0 x1 x2 u := by
  intro n
  induction n with
  | zero => intros; rfl
  | succ n ih =>
    intro x0 x1 x2 u h_u
    have hrc43 := ih
    rw [gX11_image_43, hgX11_image_43]
    refine eq_if ?_ ?_
    · refine eq_g (show zK u x0 = 12 from (h_u.g 0 rfl)) ?_
      refine eq_bR (show zR u x0 20 = some (x0 + 10) from lyR_12_20 h_u.1 (h_u.g 0 rfl)) ?_
      refine eq_g (show zK u (x0 + 10) = 22 from (lyK_12_20 h_u.1 (h_u.g 0 rfl))) ?_
      refine eq_n (by rw [show zN u (x0 + 10) = 144 from lyN_12_20 h_u.1 (h_u.g 0 rfl)]; decide) ?_
      rfl
    · refine eq_g (show zK u x0 = 12 from (h_u.g 0 rfl)) ?_
      refine eq_bR (show zR u x0 32 = some (x0 + 16) from lyR_12_32 h_u.1 (h_u.g 0 rfl)) ?_
      refine eq_g (show zK u x0 = 12 from (h_u.g 0 rfl)) ?_
      refine eq_bR (show zR u x0 20 = some (x0 + 10) from lyR_12_20 h_u.1 (h_u.g 0 rfl)) ?_
      refine eq_g (show zK u (x0 + 10) = 22 from (lyK_12_20 h_u.1 (h_u.g 0 rfl))) ?_
      refine eq_ixh (show zN u (x0 + 10) = 144 from lyN_12_20 h_u.1 (h_u.g 0 rfl)) (fun hix1 => ?_)
      refine eq_g (show zK u (x0 + 16) = 22 from (lyK_12_32 h_u.1 (h_u.g 0 rfl))) ?_
      refine eq_ixh (show zN u (x0 + 16) = 576 from lyN_12_32 h_u.1 (h_u.g 0 rfl)) (fun hix2 => ?_)
      refine eq_sH (h_u.fr (P := PT) (Fr.sIr trivial)) (fun u4 h_u4 => ?_)
      exact hrc43 x0 x1 (x2 + (1 : Int32)) u4 (hkc (show zK u4 x0 = 12 from (h_u4.g 0 rfl)) (hk0 h_u4.1))
set_option maxRecDepth 20000 in
def hX11_image (N : Nat)  (a0 : Nat) (p1 : Int32) (u : SG) : Option (Int32 × SG) := cl (fX11_in N p1.toInt64 (0 : Int64) (3 : Int64) u) fun r1 u2 => (if r1 = 0 then (some ((-1 : Int32), u2))
  else (if p1 < 0 ∨ 4 ≤ p1.toNatClampNeg then none else (bs (sI u2 (a0 + 19) p1.toNatClampNeg (vp_nar .boolean (1 : Int32))) fun u4 => (if p1 < 0 ∨ 4 ≤ p1.toNatClampNeg then none else (bs (sI u4 (a0 + 17) p1.toNatClampNeg (zI u4 a0 21)) fun u6 => (if p1 < 0 ∨ 4 ≤ p1.toNatClampNeg then none else (bs (sI u6 (a0 + 18) p1.toNatClampNeg (zI u6 a0 22)) fun u8 => (hgX11_image_43 N   N a0 p1 (0 : Int32) u8))))))))
set_option maxRecDepth 20000 in
theorem eX11_image (N : Nat)  (a0 : Nat) (p1 : Int32) (u : SG) (h_u : HK [(some a0, 12)] u) : fX11_image N  a0 p1 u = hX11_image N  a0 p1 u := by
  unfold fX11_image hX11_image
  refine eq_cH rfl (fun r1 u2 e9 => h_u.fr (fr_X11_in (P := PT) N p1.toInt64 (0 : Int64) (3 : Int64) u clPT _ _ e9).1) (fun r1 u2 h_u2 => ?_)
  refine eq_if ?_ ?_
  · rfl
  · refine eq_g (show zK u2 a0 = 12 from (h_u2.g 0 rfl)) ?_
    refine eq_bR (show zR u2 a0 35 = some (a0 + 19) from lyR_12_35 h_u2.1 (h_u2.g 0 rfl)) ?_
    refine eq_g (show zK u2 (a0 + 19) = 24 from (lyK_12_35 h_u2.1 (h_u2.g 0 rfl))) ?_
    refine eq_ixh (show zN u2 (a0 + 19) = 4 from lyN_12_35 h_u2.1 (h_u2.g 0 rfl)) (fun hix1 => ?_)
    refine eq_sH (h_u2.fr (P := PT) (Fr.sIr trivial)) (fun u4 h_u4 => ?_)
    refine eq_g (show zK u4 a0 = 12 from (h_u4.g 0 rfl)) ?_
    refine eq_bR (show zR u4 a0 33 = some (a0 + 17) from lyR_12_33 h_u4.1 (h_u4.g 0 rfl)) ?_
    refine eq_g (show zK u4 a0 = 12 from (h_u4.g 0 rfl)) ?_
    refine eq_g (show zK u4 (a0 + 17) = 22 from (lyK_12_33 h_u4.1 (h_u4.g 0 rfl))) ?_
    refine eq_ixh (show zN u4 (a0 + 17) = 4 from lyN_12_33 h_u4.1 (h_u4.g 0 rfl)) (fun hix2 => ?_)
    refine eq_sH (h_u4.fr (P := PT) (Fr.sIr trivial)) (fun u6 h_u6 => ?_)
    refine eq_g (show zK u6 a0 = 12 from (h_u6.g 0 rfl)) ?_
    refine eq_bR (show zR u6 a0 34 = some (a0 + 18) from lyR_12_34 h_u6.1 (h_u6.g 0 rfl)) ?_
    refine eq_g (show zK u6 a0 = 12 from (h_u6.g 0 rfl)) ?_
    refine eq_g (show zK u6 (a0 + 18) = 22 from (lyK_12_34 h_u6.1 (h_u6.g 0 rfl))) ?_
    refine eq_ixh (show zN u6 (a0 + 18) = 4 from lyN_12_34 h_u6.1 (h_u6.g 0 rfl)) (fun hix3 => ?_)
    refine eq_sH (h_u6.fr (P := PT) (Fr.sIr trivial)) (fun u8 h_u8 => ?_)
    exact egX11_image_43 N   N a0 p1 (0 : Int32) u8 (hkc (show zK u8 a0 = 12 from (h_u8.g 0 rfl)) (hk0 h_u8.1))
set_option maxRecDepth 20000 in
def hgX11_back_50 (N : Nat)   : Nat → Nat → Int32 → Int32 → SG → Option (Int32 × SG)
  | 0, _, _, _, _ => none
  | n + 1, x0, x1, x2, u => if (144 : Int32) ≤ x2 then (some (zI u (x0 + 10) 6, u))
  else (if (((144 : Int32) * x1) + x2) < 0 ∨ 576 ≤ (((144 : Int32) * x1) + x2).toNatClampNeg then none else (if x2 < 0 ∨ 144 ≤ x2.toNatClampNeg then none else (bs (sI u (x0 + 10) x2.toNatClampNeg (zI u (x0 + 16) (((144 : Int32) * x1) + x2).toNatClampNeg)) fun u4 => ((hgX11_back_50 N   n) x0 x1 (x2 + (1 : Int32)) u4))))
set_option maxRecDepth 20000 in
theorem egX11_back_50 (N : Nat)   : ∀ (n : Nat) (x0 : Nat) (x1 : Int32) (x2 : Int32) (u : SG), HK [(some x0, 12)] u → gX11_back_50 N   n x0 x1 x2 u = hgX11_back_50 N   n x0 x1 x2 u := by
  intro n
  induction n with
  | zero => intros; rfl
  | succ n ih =>
    intro x0 x1 x2 u h_u
    have hrc50 := ih
    rw [gX11_back_50, hgX11_back_50]
    refine eq_if ?_ ?_
    · refine eq_g (show zK u x0 = 12 from (h_u.g 0 rfl)) ?_
      refine eq_bR (show zR u x0 20 = some (x0 + 10) from lyR_12_20 h_u.1 (h_u.g 0 rfl)) ?_
      refine eq_g (show zK u (x0 + 10) = 22 from (lyK_12_20 h_u.1 (h_u.g 0 rfl))) ?_
      refine eq_n (by rw [show zN u (x0 + 10) = 144 from lyN_12_20 h_u.1 (h_u.g 0 rfl)]; decide) ?_
      rfl
    · refine eq_g (show zK u x0 = 12 from (h_u.g 0 rfl)) ?_
      refine eq_bR (show zR u x0 20 = some (x0 + 10) from lyR_12_20 h_u.1 (h_u.g 0 rfl)) ?_
      refine eq_g (show zK u x0 = 12 from (h_u.g 0 rfl)) ?_
      refine eq_bR (show zR u x0 32 = some (x0 + 16) from lyR_12_32 h_u.1 (h_u.g 0 rfl)) ?_
      refine eq_g (show zK u (x0 + 16) = 22 from (lyK_12_32 h_u.1 (h_u.g 0 rfl))) ?_
      refine eq_ixh (show zN u (x0 + 16) = 576 from lyN_12_32 h_u.1 (h_u.g 0 rfl)) (fun hix1 => ?_)
      refine eq_g (show zK u (x0 + 10) = 22 from (lyK_12_20 h_u.1 (h_u.g 0 rfl))) ?_
      refine eq_ixh (show zN u (x0 + 10) = 144 from lyN_12_20 h_u.1 (h_u.g 0 rfl)) (fun hix2 => ?_)
      refine eq_sH (h_u.fr (P := PT) (Fr.sIr trivial)) (fun u4 h_u4 => ?_)
      exact hrc50 x0 x1 (x2 + (1 : Int32)) u4 (hkc (show zK u4 x0 = 12 from (h_u4.g 0 rfl)) (hk0 h_u4.1))
set_option maxRecDepth 20000 in
def hX11_back (N : Nat)  (a0 : Nat) (p1 : Int32) (u : SG) : Option (Int32 × SG) := cl (fX11_in N p1.toInt64 (0 : Int64) (3 : Int64) u) fun r1 u2 => (if r1 = 0 then (some ((-1 : Int32), u2))
  else (if p1 < 0 ∨ 4 ≤ p1.toNatClampNeg then none else (if (zI u2 (a0 + 19) p1.toNatClampNeg) = 0 then (some ((-1 : Int32), u2))
  else (if p1 < 0 ∨ 4 ≤ p1.toNatClampNeg then none else (bs (sI u2 a0 21 (zI u2 (a0 + 17) p1.toNatClampNeg)) fun u5 => (if p1 < 0 ∨ 4 ≤ p1.toNatClampNeg then none else (bs (sI u5 a0 22 (zI u5 (a0 + 18) p1.toNatClampNeg)) fun u7 => (bs (sI u7 a0 25 (0 : Int32)) fun u8 => (hgX11_back_50 N   N a0 p1 (0 : Int32) u8)))))))))
set_option maxRecDepth 20000 in
theorem eX11_back (N : Nat)  (a0 : Nat) (p1 : Int32) (u : SG) (h_u : HK [(some a0, 12)] u) : fX11_back N  a0 p1 u = hX11_back N  a0 p1 u := by
  unfold fX11_back hX11_back
  refine eq_cH rfl (fun r1 u2 e9 => h_u.fr (fr_X11_in (P := PT) N p1.toInt64 (0 : Int64) (3 : Int64) u clPT _ _ e9).1) (fun r1 u2 h_u2 => ?_)
  refine eq_if ?_ ?_
  · rfl
  · refine eq_g (show zK u2 a0 = 12 from (h_u2.g 0 rfl)) ?_
    refine eq_bR (show zR u2 a0 35 = some (a0 + 19) from lyR_12_35 h_u2.1 (h_u2.g 0 rfl)) ?_
    refine eq_g (show zK u2 (a0 + 19) = 24 from (lyK_12_35 h_u2.1 (h_u2.g 0 rfl))) ?_
    refine eq_ixh (show zN u2 (a0 + 19) = 4 from lyN_12_35 h_u2.1 (h_u2.g 0 rfl)) (fun hix1 => ?_)
    refine eq_if ?_ ?_
    · rfl
    · refine eq_g (show zK u2 a0 = 12 from (h_u2.g 0 rfl)) ?_
      refine eq_bR (show zR u2 a0 33 = some (a0 + 17) from lyR_12_33 h_u2.1 (h_u2.g 0 rfl)) ?_
      refine eq_g (show zK u2 (a0 + 17) = 22 from (lyK_12_33 h_u2.1 (h_u2.g 0 rfl))) ?_
      refine eq_ixh (show zN u2 (a0 + 17) = 4 from lyN_12_33 h_u2.1 (h_u2.g 0 rfl)) (fun hix2 => ?_)
      refine eq_g (show zK u2 a0 = 12 from (h_u2.g 0 rfl)) ?_
      refine eq_sH (h_u2.fr (P := PT) (Fr.sIr trivial)) (fun u5 h_u5 => ?_)
      refine eq_g (show zK u5 a0 = 12 from (h_u5.g 0 rfl)) ?_
      refine eq_bR (show zR u5 a0 34 = some (a0 + 18) from lyR_12_34 h_u5.1 (h_u5.g 0 rfl)) ?_
      refine eq_g (show zK u5 (a0 + 18) = 22 from (lyK_12_34 h_u5.1 (h_u5.g 0 rfl))) ?_
      refine eq_ixh (show zN u5 (a0 + 18) = 4 from lyN_12_34 h_u5.1 (h_u5.g 0 rfl)) (fun hix3 => ?_)
      refine eq_g (show zK u5 a0 = 12 from (h_u5.g 0 rfl)) ?_
      refine eq_sH (h_u5.fr (P := PT) (Fr.sIr trivial)) (fun u7 h_u7 => ?_)
      refine eq_g (show zK u7 a0 = 12 from (h_u7.g 0 rfl)) ?_
      refine eq_sH (h_u7.fr (P := PT) (Fr.sIr trivial)) (fun u8 h_u8 => ?_)
      exact egX11_back_50 N   N a0 p1 (0 : Int32) u8 (hkc (show zK u8 a0 = 12 from (h_u8.g 0 rfl)) (hk0 h_u8.1))
