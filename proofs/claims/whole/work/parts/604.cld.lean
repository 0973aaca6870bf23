set_option maxRecDepth 20000 in
def hgX7_addSpan_7 (N : Nat)   : Nat → Nat → Int32 → Int32 → Int32 → SG → Option (Unit × SG)
  | 0, _, _, _, _, _ => none
  | n + 1, x0, x1, x3, x4, u => if x3 < x4 then (some ((), u))
  else (if (nI (zN u x0)) ≤ x4 then (some ((), u))
  else (if x4 < 0 ∨ zN u x0 ≤ x4.toNatClampNeg then (none)
  else (if x4 < 0 ∨ zN u x0 ≤ x4.toNatClampNeg then (none)
  else (bs (sI u x0 x4.toNatClampNeg ((zI u x0 x4.toNatClampNeg) ||| ((1 : Int32) <<< (x1 &&& 31)))) fun u1 => ((hgX7_addSpan_7 N   n) x0 x1 x3 (x4 + (1 : Int32)) u1)))))
set_option maxRecDepth 20000 in
theorem egX7_addSpan_7 (N : Nat)   : ∀ (n : Nat) (x0 : Nat) (x1 : Int32) (x3 : Int32) (x4 : Int32) (u : SG), HK [(some x0, 22)] u → gX7_addSpan_7 N   n x0 x1 x3 x4 u = hgX7_addSpan_7 N   n x0 x1 x3 x4 u := by
  intro n
  induction n with
  | zero => intros; rfl
  | succ n ih =>
    intro x0 x1 x3 x4 u h_u
    have hrc7 := ih
    rw [gX7_addSpan_7, hgX7_addSpan_7]
    refine eq_if ?_ ?_
    · rfl
    · refine eq_g (show zK u x0 = 22 from (h_u.g 0 rfl)) ?_
      refine eq_if ?_ ?_
      · rfl
      · refine eq_g (show zK u x0 = 22 from (h_u.g 0 rfl)) ?_
        refine eq_if ?_ ?_
        · rfl
        · refine eq_g (show zK u x0 = 22 from (h_u.g 0 rfl)) ?_
          refine eq_if ?_ ?_
          · rfl
          · refine eq_sH (h_u.fr (P := PT) (Fr.sIr trivial)) (fun u1 h_u1 => ?_)
            exact hrc7 x0 x1 x3 (x4 + (1 : Int32)) u1 (hkc (show zK u1 x0 = 22 from (h_u1.g 0 rfl)) (hk0 h_u1.1))
set_option maxRecDepth 20000 in
def hX7_addSpan (N : Nat)  (p1 : Nat) (p2 : Int32) (p3 : Int32) (p4 : Int32) (u : SG) : Option (Unit × SG) := cl (fJ9_max_7cf53 N (0 : Int32) p3 u) fun r1 u2 => (hgX7_addSpan_7 N   N p1 p2 p4 r1 u2)
set_option maxRecDepth 20000 in
theorem eX7_addSpan (N : Nat)  (p1 : Nat) (p2 : Int32) (p3 : Int32) (p4 : Int32) (u : SG) (h_u : HK [(some p1, 22)] u) : fX7_addSpan N  p1 p2 p3 p4 u = hX7_addSpan N  p1 p2 p3 p4 u := by
  unfold fX7_addSpan hX7_addSpan
  refine eq_cH rfl (fun r1 u2 e9 => h_u.fr (fr_J9_max_7cf53 (P := PT) N (0 : Int32) p3 u clPT _ _ e9).1) (fun r1 u2 h_u2 => ?_)
  exact egX7_addSpan_7 N   N p1 p2 p4 r1 u2 (hkc (show zK u2 p1 = 22 from (h_u2.g 0 rfl)) (hk0 h_u2.1))
set_option maxRecDepth 20000 in
def hX7_addWork (N : Nat)  (a0 : Nat) (p1 : Int32) (p2 : Int32) (p3 : Int32) (u : SG) : Option (Unit × SG) := bs (sI u a0 8 ((zI u a0 8) + (1 : Int32))) fun u1 => (cl (hX7_addSpan N (a0 + 5) p1 p2 p3 u1) fun r3 u4 => (some ((), u4)))
set_option maxRecDepth 20000 in
theorem eX7_addWork (N : Nat)  (a0 : Nat) (p1 : Int32) (p2 : Int32) (p3 : Int32) (u : SG) (h_u : HK [(some a0, 8)] u) : fX7_addWork N  a0 p1 p2 p3 u = hX7_addWork N  a0 p1 p2 p3 u := by
  unfold fX7_addWork hX7_addWork
  refine eq_g (show zK u a0 = 8 from (h_u.g 0 rfl)) ?_
  refine eq_g (show zK u a0 = 8 from (h_u.g 0 rfl)) ?_
  refine eq_sH (h_u.fr (P := PT) (Fr.sIr trivial)) (fun u1 h_u1 => ?_)
  refine eq_g (show zK u1 a0 = 8 from (h_u1.g 0 rfl)) ?_
  refine eq_bR (show zR u1 a0 4 = some (a0 + 5) from lyR_8_4 h_u1.1 (h_u1.g 0 rfl)) ?_
  refine eq_cH (eX7_addSpan N (a0 + 5) p1 p2 p3 u1 (hkc (show zK u1 (a0 + 5) = 22 from (lyK_8_4 h_u1.1 (h_u1.g 0 rfl))) (hk0 h_u1.1))) (fun r3 u4 e9 => h_u1.fr (fr_X7_addSpan (P := PT) N (a0 + 5) p1 p2 p3 u1 clPT trivial _ _ e9).1) (fun r3 u4 h_u4 => ?_)
  rfl
set_option maxRecDepth 20000 in
def hX7_addLit (N : Nat)  (a0 : Nat) (p1 : Int32) (p2 : Int32) (p3 : Int32) (u : SG) : Option (Unit × SG) := bs (sI u a0 10 ((zI u a0 10) + (1 : Int32))) fun u1 => (cl (hX7_addSpan N (a0 + 6) p1 p2 p3 u1) fun r3 u4 => (some ((), u4)))
set_option maxRecDepth 20000 in
theorem eX7_addLit (N : Nat)  (a0 : Nat) (p1 : Int32) (p2 : Int32) (p3 : Int32) (u : SG) (h_u : HK [(some a0, 8)] u) : fX7_addLit N  a0 p1 p2 p3 u = hX7_addLit N  a0 p1 p2 p3 u := by
  unfold fX7_addLit hX7_addLit
  refine eq_g (show zK u a0 = 8 from (h_u.g 0 rfl)) ?_
  refine eq_g (show zK u a0 = 8 from (h_u.g 0 rfl)) ?_
  refine eq_sH (h_u.fr (P := PT) (Fr.sIr trivial)) (fun u1 h_u1 => ?_)
  refine eq_g (show zK u1 a0 = 8 from (h_u1.g 0 rfl)) ?_
  refine eq_bR (show zR u1 a0 5 = some (a0 + 6) from lyR_8_5 h_u1.1 (h_u1.g 0 rfl)) ?_
  refine eq_cH (eX7_addSpan N (a0 + 6) p1 p2 p3 u1 (hkc (show zK u1 (a0 + 6) = 22 from (lyK_8_5 h_u1.1 (h_u1.g 0 rfl))) (hk0 h_u1.1))) (fun r3 u4 e9 => h_u1.fr (fr_X7_addSpan (P := PT) N (a0 + 6) p1 p2 p3 u1 clPT trivial _ _ e9).1) (fun r3 u4 h_u4 => ?_)
  rfl
set_option maxRecDepth 20000 in
def hX8_isFull (N : Nat)  (p1 : Nat) (p2 : Int32) (u : SG) : Option (Int32 × SG) := if p2 = (0 : Int32) then (if (zI u p1 7) < (5 : Int32) then (some ((0 : Int32), u))
  else (some ((1 : Int32), u)))
  else (if p2 = (14 : Int32) then (if (zI u p1 8) < (8 : Int32) then (some ((0 : Int32), u))
  else (some ((1 : Int32), u)))
  else (if p2 = (15 : Int32) then (if (zI u p1 9) < (5 : Int32) then (some ((0 : Int32), u))
  else (some ((1 : Int32), u)))
  else (if p2 = (16 : Int32) then (if (zI u p1 10) < (8 : Int32) then (some ((0 : Int32), u))
  else (some ((1 : Int32), u)))
  else (some ((0 : Int32), u)))))
set_option maxRecDepth 20000 in
theorem eX8_isFull (N : Nat)  (p1 : Nat) (p2 : Int32) (u : SG) (h_u : HK [(some p1, 8)] u) : fX8_isFull N  p1 p2 u = hX8_isFull N  p1 p2 u := by
  unfold fX8_isFull hX8_isFull
  refine eq_if ?_ ?_
  · refine eq_g (show zK u p1 = 8 from (h_u.g 0 rfl)) ?_
    refine eq_if ?_ ?_
    · rfl
    · rfl
  · refine eq_if ?_ ?_
    · refine eq_g (show zK u p1 = 8 from (h_u.g 0 rfl)) ?_
      refine eq_if ?_ ?_
      · rfl
      · rfl
    · refine eq_if ?_ ?_
      · refine eq_g (show zK u p1 = 8 from (h_u.g 0 rfl)) ?_
        refine eq_if ?_ ?_
        · rfl
        · rfl
      · refine eq_if ?_ ?_
        · refine eq_g (show zK u p1 = 8 from (h_u.g 0 rfl)) ?_
          refine eq_if ?_ ?_
          · rfl
          · rfl
        · rfl
set_option maxRecDepth 20000 in
def hgX9_takeNumber_31 (N : Nat)   (x0 : Nat) (u : SG) : Option (Int32 × SG) := cl (hX9_refuse N x0 (1 : Int32) u) fun r1 u2 => (some ((-1 : Int32), u2))
set_option maxRecDepth 20000 in
theorem egX9_takeNumber_31 (N : Nat)   (x0 : Nat) (u : SG) (h_u : HK [(some x0, 10)] u) : gX9_takeNumber_31 N   x0 u = hgX9_takeNumber_31 N   x0 u := by
  unfold gX9_takeNumber_31 hgX9_takeNumber_31
  refine eq_g (show zK u x0 = 10 from (h_u.g 0 rfl)) ?_
  refine eq_cH (eX9_refuse N x0 (1 : Int32) u (hkc (show zK u x0 = 10 from (h_u.g 0 rfl)) (hk0 h_u.1))) (fun r1 u2 e9 => h_u.fr (fr_X9_refuse (P := PT) N x0 (1 : Int32) u clPT trivial _ _ e9).1) (fun r1 u2 h_u2 => ?_)
  rfl
set_option maxRecDepth 20000 in
def hX9_takeNumber (N : Nat)  (a0 : Nat) (p1 : Int32) (p2 : Int32) (u : SG) : Option (Int32 × SG) := bs (zI u a0 9) fun v1 => (if (zI u a0 8) = (1 : Int32) then (if v1 < p1 then (hgX9_takeNumber_31 N    a0 u)
  else (if v1 ≤ p2 then (cl (hX9_step N a0 u) fun r2 u3 => (some (v1, u3)))
  else (hgX9_takeNumber_31 N    a0 u)))
  else (cl (hX9_refuse N a0 (0 : Int32) u) fun r4 u5 => (some ((-1 : Int32), u5))))
set_option maxRecDepth 20000 in
theorem eX9_takeNumber (N : Nat)  (a0 : Nat) (p1 : Int32) (p2 : Int32) (u : SG) (h_u : HK [(some a0, 10)] u) : fX9_takeNumber N  a0 p1 p2 u = hX9_takeNumber N  a0 p1 p2 u := by
  unfold fX9_takeNumber hX9_takeNumber
  refine eq_g (show zK u a0 = 10 from (h_u.g 0 rfl)) ?_
  refine eq_bs (fun v1 => ?_)
  refine eq_g (show zK u a0 = 10 from (h_u.g 0 rfl)) ?_
  refine eq_if ?_ ?_
  · refine eq_if ?_ ?_
    · exact egX9_takeNumber_31 N    a0 u (hkc (show zK u a0 = 10 from (h_u.g 0 rfl)) (hk0 h_u.1))
    · refine eq_if ?_ ?_
      · refine eq_g (show zK u a0 = 10 from (h_u.g 0 rfl)) ?_
        refine eq_cH (eX9_step N a0 u (hkc (show zK u a0 = 10 from (h_u.g 0 rfl)) (hk0 h_u.1))) (fun r2 u3 e9 => h_u.fr (fr_X9_step (P := PT) N a0 u clPT trivial _ _ e9).1) (fun r2 u3 h_u3 => ?_)
        rfl
      · exact egX9_takeNumber_31 N    a0 u (hkc (show zK u a0 = 10 from (h_u.g 0 rfl)) (hk0 h_u.1))
  · refine eq_g (show zK u a0 = 10 from (h_u.g 0 rfl)) ?_
    refine eq_cH (eX9_refuse N a0 (0 : Int32) u (hkc (show zK u a0 = 10 from (h_u.g 0 rfl)) (hk0 h_u.1))) (fun r4 u5 e9 => h_u.fr (fr_X9_refuse (P := PT) N a0 (0 : Int32) u clPT trivial _ _ e9).1) (fun r4 u5 h_u5 => ?_)
    rfl
set_option maxRecDepth 20000 in
def hX8_readHours (N : Nat)  (a0 : Nat) (p1 : Nat) (u : SG) : Option (Int32 × SG) := cl (hX9_takeNumber N (a0 - 5) (2 : Int32) (10 : Int32) u) fun r2 u3 => (if r2 = (-1 : Int32) then (some ((0 : Int32), u3))
  else (bs (sI u3 p1 6 r2) fun u4 => (some ((1 : Int32), u4))))
set_option maxRecDepth 20000 in
theorem eX8_readHours (N : Nat)  (a0 : Nat) (p1 : Nat) (u : SG) (h_u : HK [(some a0, 9), (some p1, 8)] u) : fX8_readHours N  a0 p1 u = hX8_readHours N  a0 p1 u := by
  unfold fX8_readHours hX8_readHours
  refine eq_g (show zK u a0 = 9 from (h_u.g 0 rfl)) ?_
  refine eq_bR (show zR u a0 0 = some (a0 - 5) from lyR_9_0 h_u.1 (h_u.g 0 rfl)) ?_
  refine eq_g (show zK u (a0 - 5) = 10 from (lyK_9_0 h_u.1 (h_u.g 0 rfl))) ?_
  refine eq_cH (eX9_takeNumber N (a0 - 5) (2 : Int32) (10 : Int32) u (hkc (show zK u (a0 - 5) = 10 from (lyK_9_0 h_u.1 (h_u.g 0 rfl))) (hk0 h_u.1))) (fun r2 u3 e9 => h_u.fr (fr_X9_takeNumber (P := PT) N (a0 - 5) (2 : Int32) (10 : Int32) u clPT trivial _ _ e9).1) (fun r2 u3 h_u3 => ?_)
  refine eq_if ?_ ?_
  · rfl
  · refine eq_g (show zK u3 p1 = 8 from (h_u3.g 1 rfl)) ?_
    refine eq_sH (h_u3.fr (P := PT) (Fr.sIr trivial)) (fun u4 h_u4 => ?_)
    rfl
set_option maxRecDepth 20000 in
def hX8_readPerson (N : Nat)  (a0 : Nat) (p1 : Nat) (u : SG) : Option (Int32 × SG) := cl (hX9_takeNumber N (a0 - 5) (0 : Int32) (zI u p1 6) u) fun r2 u3 => (if r2 = (-1 : Int32) then (some ((0 : Int32), u3))
  else (cl (hX9_takeNumber N (a0 - 5) (0 : Int32) (60 : Int32) u3) fun r5 u6 => (if r5 = (-1 : Int32) then (some ((0 : Int32), u6))
  else (cl (hX7_addPerson N p1 r2 r5 u6) fun r7 u8 => (some ((1 : Int32), u8))))))
set_option maxRecDepth 20000 in
theorem eX8_readPerson (N : Nat)  (a0 : Nat) (p1 : Nat) (u : SG) (h_u : HK [(some a0, 9), (some p1, 8)] u) : fX8_readPerson N  a0 p1 u = hX8_readPerson N  a0 p1 u := by
  unfold fX8_readPerson hX8_readPerson
  refine eq_g (show zK u a0 = 9 from (h_u.g 0 rfl)) ?_
  refine eq_bR (show zR u a0 0 = some (a0 - 5) from lyR_9_0 h_u.1 (h_u.g 0 rfl)) ?_
  refine eq_g (show zK u p1 = 8 from (h_u.g 1 rfl)) ?_
  refine eq_g (show zK u (a0 - 5) = 10 from (lyK_9_0 h_u.1 (h_u.g 0 rfl))) ?_
  refine eq_cH (eX9_takeNumber N (a0 - 5) (0 : Int32) (zI u p1 6) u (hkc (show zK u (a0 - 5) = 10 from (lyK_9_0 h_u.1 (h_u.g 0 rfl))) (hk0 h_u.1))) (fun r2 u3 e9 => h_u.fr (fr_X9_takeNumber (P := PT) N (a0 - 5) (0 : Int32) (zI u p1 6) u clPT trivial _ _ e9).1) (fun r2 u3 h_u3 => ?_)
  refine eq_if ?_ ?_
  · rfl
  · refine eq_g (show zK u3 a0 = 9 from (h_u3.g 0 rfl)) ?_
    refine eq_bR (show zR u3 a0 0 = some (a0 - 5) from lyR_9_0 h_u3.1 (h_u3.g 0 rfl)) ?_
    refine eq_g (show zK u3 (a0 - 5) = 10 from (lyK_9_0 h_u3.1 (h_u3.g 0 rfl))) ?_
    refine eq_cH (eX9_takeNumber N (a0 - 5) (0 : Int32) (60 : Int32) u3 (hkc (show zK u3 (a0 - 5) = 10 from (lyK_9_0 h_u3.1 (h_u3.g 0 rfl))) (hk0 h_u3.1))) (fun r5 u6 e9 => h_u3.fr (fr_X9_takeNumber (P := PT) N (a0 - 5) (0 : Int32) (60 : Int32) u3 clPT trivial _ _ e9).1) (fun r5 u6 h_u6 => ?_)
    refine eq_if ?_ ?_
    · rfl
    · refine eq_g (show zK u6 p1 = 8 from (h_u6.g 1 rfl)) ?_
      refine eq_cH (eX7_addPerson N p1 r2 r5 u6 (hkc (show zK u6 p1 = 8 from (h_u6.g 1 rfl)) (hk0 h_u6.1))) (fun r7 u8 e9 => h_u6.fr (fr_X7_addPerson (P := PT) N p1 r2 r5 u6 clPT trivial _ _ e9).1) (fun r7 u8 h_u8 => ?_)
      rfl
set_option maxRecDepth 20000 in
def hgX8_readLamp_23 (N : Nat)   (x0 : Nat) (x1 : Nat) (s0 : Int32) (u : SG) : Option (Int32 × SG) := cl (hX9_takeNumber N (x0 - 5) (0 : Int32) s0 u) fun r2 u3 => (if r2 = (-1 : Int32) then (some ((0 : Int32), u3))
  else (cl (hX9_takeNumber N (x0 - 5) (1 : Int32) (60 : Int32) u3) fun r5 u6 => (if r5 = (-1 : Int32) then (some ((0 : Int32), u6))
  else (cl (hX7_addLamp N x1 r2 r5 u6) fun r7 u8 => (some ((1 : Int32), u8))))))
set_option maxRecDepth 20000 in
theorem egX8_readLamp_23 (N : Nat)   (x0 : Nat) (x1 : Nat) (s0 : Int32) (u : SG) (h_u : HK [(some x0, 9), (some x1, 8)] u) : gX8_readLamp_23 N   x0 x1 s0 u = hgX8_readLamp_23 N   x0 x1 s0 u := by
  unfold gX8_readLamp_23 hgX8_readLamp_23
  refine eq_g (show zK u x0 = 9 from (h_u.g 0 rfl)) ?_
  refine eq_bR (show zR u x0 0 = some (x0 - 5) from lyR_9_0 h_u.1 (h_u.g 0 rfl)) ?_
  refine eq_g (show zK u (x0 - 5) = 10 from (lyK_9_0 h_u.1 (h_u.g 0 rfl))) ?_
  refine eq_cH (eX9_takeNumber N (x0 - 5) (0 : Int32) s0 u (hkc (show zK u (x0 - 5) = 10 from (lyK_9_0 h_u.1 (h_u.g 0 rfl))) (hk0 h_u.1))) (fun r2 u3 e9 => h_u.fr (fr_X9_takeNumber (P := PT) N (x0 - 5) (0 : Int32) s0 u clPT trivial _ _ e9).1) (fun r2 u3 h_u3 => ?_)
  refine eq_if ?_ ?_
  · rfl
  · refine eq_g (show zK u3 x0 = 9 from (h_u3.g 0 rfl)) ?_
    refine eq_bR (show zR u3 x0 0 = some (x0 - 5) from lyR_9_0 h_u3.1 (h_u3.g 0 rfl)) ?_
    refine eq_g (show zK u3 (x0 - 5) = 10 from (lyK_9_0 h_u3.1 (h_u3.g 0 rfl))) ?_
    refine eq_cH (eX9_takeNumber N (x0 - 5) (1 : Int32) (60 : Int32) u3 (hkc (show zK u3 (x0 - 5) = 10 from (lyK_9_0 h_u3.1 (h_u3.g 0 rfl))) (hk0 h_u3.1))) (fun r5 u6 e9 => h_u3.fr (fr_X9_takeNumber (P := PT) N (x0 - 5) (1 : Int32) (60 : Int32) u3 clPT trivial _ _ e9).1) (fun r5 u6 h_u6 => ?_)
    refine eq_if ?_ ?_
    · rfl
    · refine eq_g (show zK u6 x1 = 8 from (h_u6.g 1 rfl)) ?_
      refine eq_cH (eX7_addLamp N x1 r2 r5 u6 (hkc (show zK u6 x1 = 8 from (h_u6.g 1 rfl)) (hk0 h_u6.1))) (fun r7 u8 e9 => h_u6.fr (fr_X7_addLamp (P := PT) N x1 r2 r5 u6 clPT trivial _ _ e9).1) (fun r7 u8 h_u8 => ?_)
      rfl
set_option maxRecDepth 20000 in
def hX8_readLamp (N : Nat)  (a0 : Nat) (p1 : Nat) (u : SG) : Option (Int32 × SG) := if (zI u (a0 - 5) 9) = (9 : Int32) then (hgX8_readLamp_23 N    a0 p1 (9 : Int32) u)
  else (hgX8_readLamp_23 N    a0 p1 ((zI u p1 7) - (1 : Int32)) u)
set_option maxRecDepth 20000 in
theorem eX8_readLamp (N : Nat)  (a0 : Nat) (p1 : Nat) (u : SG) (h_u : HK [(some a0, 9), (some p1, 8)] u) : fX8_readLamp N  a0 p1 u = hX8_readLamp N  a0 p1 u := by
  unfold fX8_readLamp hX8_readLamp
  refine eq_g (show zK u a0 = 9 from (h_u.g 0 rfl)) ?_
  refine eq_bR (show zR u a0 0 = some (a0 - 5) from lyR_9_0 h_u.1 (h_u.g 0 rfl)) ?_
  refine eq_g (show zK u (a0 - 5) = 10 from (lyK_9_0 h_u.1 (h_u.g 0 rfl))) ?_
  refine eq_if ?_ ?_
  · exact egX8_readLamp_23 N    a0 p1 (9 : Int32) u (hkc (show zK u a0 = 9 from (h_u.g 0 rfl)) (hkc (show zK u p1 = 8 from (h_u.g 1 rfl)) (hk0 h_u.1)))
  · refine eq_g (show zK u p1 = 8 from (h_u.g 1 rfl)) ?_
    exact egX8_readLamp_23 N    a0 p1 ((zI u p1 7) - (1 : Int32)) u (hkc (show zK u a0 = 9 from (h_u.g 0 rfl)) (hkc (show zK u p1 = 8 from (h_u.g 1 rfl)) (hk0 h_u.1)))
set_option maxRecDepth 20000 in
def hgX8_readSpan_17 (N : Nat)   (x0 : Nat) (x1 : Nat) (x2 : Int32) (s0 : Int32) (u : SG) : Option (Int32 × SG) := cl (hX9_takeNumber N (x0 - 5) (0 : Int32) (s0 - (1 : Int32)) u) fun r2 u3 => (if r2 = (-1 : Int32) then (some ((0 : Int32), u3))
  else (cl (hX9_takeNumber N (x0 - 5) (0 : Int32) ((zI u3 x1 6) - (1 : Int32)) u3) fun r5 u6 => (if r5 = (-1 : Int32) then (some ((0 : Int32), u6))
  else (cl (hX9_takeNumber N (x0 - 5) r5 ((zI u6 x1 6) - (1 : Int32)) u6) fun r8 u9 => (if r8 = (-1 : Int32) then (some ((0 : Int32), u9))
  else (if x2 = (14 : Int32) then (cl (hX7_addWork N x1 r2 r5 r8 u9) fun r12 u13 => (some ((1 : Int32), u13)))
  else (cl (hX7_addLit N x1 r2 r5 r8 u9) fun r10 u11 => (some ((1 : Int32), u11)))))))))
set_option maxRecDepth 20000 in
theorem egX8_readSpan_17 (N : Nat)   (x0 : Nat) (x1 : Nat) (x2 : Int32) (s0 : Int32) (u : SG) (h_u : HK [(some x0, 9), (some x1, 8)] u) : gX8_readSpan_17 N   x0 x1 x2 s0 u = hgX8_readSpan_17 N   x0 x1 x2 s0 u := by
  unfold gX8_readSpan_17 hgX8_readSpan_17
  refine eq_g (show zK u x0 = 9 from (h_u.g 0 rfl)) ?_
  refine eq_bR (show zR u x0 0 = some (x0 - 5) from lyR_9_0 h_u.1 (h_u.g 0 rfl)) ?_
  refine eq_g (show zK u (x0 - 5) = 10 from (lyK_9_0 h_u.1 (h_u.g 0 rfl))) ?_
  refine eq_cH (eX9_takeNumber N (x0 - 5) (0 : Int32) (s0 - (1 : Int32)) u (hkc (show zK u (x0 - 5) = 10 from (lyK_9_0 h_u.1 (h_u.g 0 rfl))) (hk0 h_u.1))) (fun r2 u3 e9 => h_u.fr (fr_X9_takeNumber (P := PT) N (x0 - 5) (0 : Int32) (s0 - (1 : Int32)) u clPT trivial _ _ e9).1) (fun r2 u3 h_u3 => ?_)
  refine eq_if ?_ ?_
  · rfl
  · refine eq_g (show zK u3 x0 = 9 from (h_u3.g 0 rfl)) ?_
    refine eq_bR (show zR u3 x0 0 = some (x0 - 5) from lyR_9_0 h_u3.1 (h_u3.g 0 rfl)) ?_
    refine eq_g (show zK u3 x1 = 8 from (h_u3.g 1 rfl)) ?_
    refine eq_g (show zK u3 (x0 - 5) = 10 from (lyK_9_0 h_u3.1 (h_u3.g 0 rfl))) ?_
    refine eq_cH (eX9_takeNumber N (x0 - 5) (0 : Int32) ((zI u3 x1 6) - (1 : Int32)) u3 (hkc (show zK u3 (x0 - 5) = 10 from (lyK_9_0 h_u3.1 (h_u3.g 0 rfl))) (hk0 h_u3.1))) (fun r5 u6 e9 => h_u3.fr (fr_X9_takeNumber (P := PT) N (x0 - 5) (0 : Int32) ((zI u3 x1 6) - (1 : Int32)) u3 clPT trivial _ _ e9).1) (fun r5 u6 h_u6 => ?_)
    refine eq_if ?_ ?_
    · rfl
    · refine eq_g (show zK u6 x0 = 9 from (h_u6.g 0 rfl)) ?_
      refine eq_bR (show zR u6 x0 0 = some (x0 - 5) from lyR_9_0 h_u6.1 (h_u6.g 0 rfl)) ?_
      refine eq_g (show zK u6 x1 = 8 from (h_u6.g 1 rfl)) ?_
      refine eq_g (show zK u6 (x0 - 5) = 10 from (lyK_9_0 h_u6.1 (h_u6.g 0 rfl))) ?_
      refine eq_cH (eX9_takeNumber N (x0 - 5) r5 ((zI u6 x1 6) - (1 : Int32)) u6 (hkc (show zK u6 (x0 - 5) = 10 from (lyK_9_0 h_u6.1 (h_u6.g 0 rfl))) (hk0 h_u6.1))) (fun r8 u9 e9 => h_u6.fr (fr_X9_takeNumber (P := PT) N (x0 - 5) r5 ((zI u6 x1 6) - (1 : Int32)) u6 clPT trivial _ _ e9).1) (fun r8 u9 h_u9 => ?_)
      refine eq_if ?_ ?_
      · rfl
      · refine eq_if ?_ ?_
        · refine eq_g (show zK u9 x1 = 8 from (h_u9.g 1 rfl)) ?_
          refine eq_cH (eX7_addWork N x1 r2 r5 r8 u9 (hkc (show zK u9 x1 = 8 from (h_u9.g 1 rfl)) (hk0 h_u9.1))) (fun r12 u13 e9 => h_u9.fr (fr_X7_addWork (P := PT) N x1 r2 r5 r8 u9 clPT trivial _ _ e9).1) (fun r12 u13 h_u13 => ?_)
          rfl
        · refine eq_g (show zK u9 x1 = 8 from (h_u9.g 1 rfl)) ?_
          refine eq_cH (eX7_addLit N x1 r2 r5 r8 u9 (hkc (show zK u9 x1 = 8 from (h_u9.g 1 rfl)) (hk0 h_u9.1))) (fun r10 u11 e9 => h_u9.fr (fr_X7_addLit (P := PT) N x1 r2 r5 r8 u9 clPT trivial _ _ e9).1) (fun r10 u11 h_u11 => ?_)
          rfl
set_option maxRecDepth 20000 in
def hX8_readSpan (N : Nat)  (a0 : Nat) (p1 : Nat) (p2 : Int32) (u : SG) : Option (Int32 × SG) := if p2 = (14 : Int32) then (hgX8_readSpan_17 N    a0 p1 p2 (zI u p1 7) u)
  else (hgX8_readSpan_17 N    a0 p1 p2 (zI u p1 9) u)
set_option maxRecDepth 20000 in
theorem eX8_readSpan (N : Nat)  (a0 : Nat) (p1 : Nat) (p2 : Int32) (u : SG) (h_u : HK [(some a0, 9), (some p1, 8)] u) : fX8_readSpan N  a0 p1 p2 u = hX8_readSpan N  a0 p1 p2 u := by
  unfold fX8_readSpan hX8_readSpan
  refine eq_if ?_ ?_
  · refine eq_g (show zK u p1 = 8 from (h_u.g 1 rfl)) ?_
    exact egX8_readSpan_17 N    a0 p1 p2 (zI u p1 7) u (hkc (show zK u a0 = 9 from (h_u.g 0 rfl)) (hkc (show zK u p1 = 8 from (h_u.g 1 rfl)) (hk0 h_u.1)))
  · refine eq_g (show zK u p1 = 8 from (h_u.g 1 rfl)) ?_
    exact egX8_readSpan_17 N    a0 p1 p2 (zI u p1 9) u (hkc (show zK u a0 = 9 from (h_u.g 0 rfl)) (hkc (show zK u p1 = 8 from (h_u.g 1 rfl)) (hk0 h_u.1)))
set_option maxRecDepth 20000 in
def hgX8_readClause_73 (N : Nat)   (x0 : Nat) (u : SG) : Option (Int32 × SG) := cl (hX9_refuse N (x0 - 5) (4 : Int32) u) fun r2 u3 => (if r2 = 0 ∨ r2 = 1 then (some (r2, u3))
  else (none))
set_option maxRecDepth 20000 in
theorem egX8_readClause_73 (N : Nat)   (x0 : Nat) (u : SG) (h_u : HK [(some x0, 9)] u) : gX8_readClause_73 N   x0 u = hgX8_readClause_73 N   x0 u := by
  unfold gX8_readClause_73 hgX8_readClause_73
  refine eq_g (show zK u x0 = 9 from (h_u.g 0 rfl)) ?_
  refine eq_bR (show zR u x0 0 = some (x0 - 5) from lyR_9_0 h_u.1 (h_u.g 0 rfl)) ?_
  refine eq_g (show zK u (x0 - 5) = 10 from (lyK_9_0 h_u.1 (h_u.g 0 rfl))) ?_
  refine eq_cH (eX9_refuse N (x0 - 5) (4 : Int32) u (hkc (show zK u (x0 - 5) = 10 from (lyK_9_0 h_u.1 (h_u.g 0 rfl))) (hk0 h_u.1))) (fun r2 u3 e9 => h_u.fr (fr_X9_refuse (P := PT) N (x0 - 5) (4 : Int32) u clPT trivial _ _ e9).1) (fun r2 u3 h_u3 => ?_)
  refine eq_if ?_ ?_
  · rfl
  · rfl
set_option maxRecDepth 20000 in
def hgX8_readClause_52 (N : Nat)   (x0 : Nat) (x1 : Nat) (x2 : Int32) (x3 : Int32) (s0 : Int32) (u : SG) : Option (Int32 × SG) := if (40 : Int32) ≤ x2 then (hgX8_readClause_73 N    x0 u)
  else (if s0 = 0 then (cl (hX8_isFull N x1 x3 u) fun r1 u2 => (if r1 = 0 then (cl (hX9_step N (x0 - 5) u2) fun r4 u5 => (if x3 = (0 : Int32) then (cl (hX8_readPerson N x0 x1 u5) fun r6 u7 => (if r6 = 0 ∨ r6 = 1 then (some (r6, u7))
  else (none)))
  else (if x3 = (13 : Int32) then (cl (hX8_readHours N x0 x1 u5) fun r8 u9 => (if r8 = 0 ∨ r8 = 1 then (some (r8, u9))
  else (none)))
  else (if x3 = (15 : Int32) then (cl (hX8_readLamp N x0 x1 u5) fun r10 u11 => (if r10 = 0 ∨ r10 = 1 then (some (r10, u11))
  else (none)))
  else (cl (hX8_readSpan N x0 x1 x3 u5) fun r12 u13 => (if r12 = 0 ∨ r12 = 1 then (some (r12, u13))
  else (none)))))))
  else (hgX8_readClause_73 N    x0 u2)))
  else (hgX8_readClause_73 N    x0 u))
set_option maxRecDepth 20000 in
theorem egX8_readClause_52 (N : Nat)   (x0 : Nat) (x1 : Nat) (x2 : Int32) (x3 : Int32) (s0 : Int32) (u : SG) (h_u : HK [(some x0, 9), (some x1, 8)] u) : gX8_readClause_52 N   x0 x1 x2 x3 s0 u = hgX8_readClause_52 N   x0 x1 x2 x3 s0 u := by
  unfold gX8_readClause_52 hgX8_readClause_52
  refine eq_if ?_ ?_
  · exact egX8_readClause_73 N    x0 u (hkc (show zK u x0 = 9 from (h_u.g 0 rfl)) (hk0 h_u.1))
  · refine eq_if ?_ ?_
    · refine eq_cH (eX8_isFull N x1 x3 u (hkc (show zK u x1 = 8 from (h_u.g 1 rfl)) (hk0 h_u.1))) (fun r1 u2 e9 => h_u.fr (fr_X8_isFull (P := PT) N x1 x3 u clPT trivial _ _ e9).1) (fun r1 u2 h_u2 => ?_)
      refine eq_if ?_ ?_
      · refine eq_g (show zK u2 x0 = 9 from (h_u2.g 0 rfl)) ?_
        refine eq_bR (show zR u2 x0 0 = some (x0 - 5) from lyR_9_0 h_u2.1 (h_u2.g 0 rfl)) ?_
        refine eq_g (show zK u2 (x0 - 5) = 10 from (lyK_9_0 h_u2.1 (h_u2.g 0 rfl))) ?_
        refine eq_cH (eX9_step N (x0 - 5) u2 (hkc (show zK u2 (x0 - 5) = 10 from (lyK_9_0 h_u2.1 (h_u2.g 0 rfl))) (hk0 h_u2.1))) (fun r4 u5 e9 => h_u2.fr (fr_X9_step (P := PT) N (x0 - 5) u2 clPT trivial _ _ e9).1) (fun r4 u5 h_u5 => ?_)
        refine eq_if ?_ ?_
        · refine eq_g (show zK u5 x0 = 9 from (h_u5.g 0 rfl)) ?_
          refine eq_cH (eX8_readPerson N x0 x1 u5 (hkc (show zK u5 x0 = 9 from (h_u5.g 0 rfl)) (hkc (show zK u5 x1 = 8 from (h_u5.g 1 rfl)) (hk0 h_u5.1)))) (fun r6 u7 e9 => h_u5.fr (fr_X8_readPerson (P := PT) N x0 x1 u5 clPT trivial trivial _ _ e9).1) (fun r6 u7 h_u7 => ?_)
          refine eq_if ?_ ?_
          · rfl
          · rfl
        · refine eq_if ?_ ?_
          · refine eq_g (show zK u5 x0 = 9 from (h_u5.g 0 rfl)) ?_
            refine eq_cH (eX8_readHours N x0 x1 u5 (hkc (show zK u5 x0 = 9 from (h_u5.g 0 rfl)) (hkc (show zK u5 x1 = 8 from (h_u5.g 1 rfl)) (hk0 h_u5.1)))) (fun r8 u9 e9 => h_u5.fr (fr_X8_readHours (P := PT) N x0 x1 u5 clPT trivial trivial _ _ e9).1) (fun r8 u9 h_u9 => ?_)
            refine eq_if ?_ ?_
            · rfl
            · rfl
          · refine eq_if ?_ ?_
            · refine eq_g (show zK u5 x0 = 9 from (h_u5.g 0 rfl)) ?_
              refine eq_cH (eX8_readLamp N x0 x1 u5 (hkc (show zK u5 x0 = 9 from (h_u5.g 0 rfl)) (hkc (show zK u5 x1 = 8 from (h_u5.g 1 rfl)) (hk0 h_u5.1)))) (fun r10 u11 e9 => h_u5.fr (fr_X8_readLamp (P := PT) N x0 x1 u5 clPT trivial trivial _ _ e9).1) (fun r10 u11 h_u11 => ?_)
              refine eq_if ?_ ?_
              · rfl
              · rfl
            · refine eq_g (show zK u5 x0 = 9 from (h_u5.g 0 rfl)) ?_
              refine eq_cH (eX8_readSpan N x0 x1 x3 u5 (hkc (show zK u5 x0 = 9 from (h_u5.g 0 rfl)) (hkc (show zK u5 x1 = 8 from (h_u5.g 1 rfl)) (hk0 h_u5.1)))) (fun r12 u13 e9 => h_u5.fr (fr_X8_readSpan (P := PT) N x0 x1 x3 u5 clPT trivial trivial _ _ e9).1) (fun r12 u13 h_u13 => ?_)
              refine eq_if ?_ ?_
              · rfl
              · rfl
      · exact egX8_readClause_73 N    x0 u2 (hkc (show zK u2 x0 = 9 from (h_u2.g 0 rfl)) (hk0 h_u2.1))
    · exact egX8_readClause_73 N    x0 u (hkc (show zK u x0 = 9 from (h_u.g 0 rfl)) (hk0 h_u.1))
set_option maxRecDepth 20000 in
def hgX8_readClause_44 (N : Nat)   (x0 : Nat) (x1 : Nat) (x2 : Int32) (x3 : Int32) (s0 : Int32) (s1 : Int32) (u : SG) : Option (Int32 × SG) := if s0 = s1 then (hgX8_readClause_52 N    x0 x1 x2 x3 (0 : Int32) u)
  else (hgX8_readClause_52 N    x0 x1 x2 x3 (1 : Int32) u)
set_option maxRecDepth 20000 in
theorem egX8_readClause_44 (N : Nat)   (x0 : Nat) (x1 : Nat) (x2 : Int32) (x3 : Int32) (s0 : Int32) (s1 : Int32) (u : SG) (h_u : HK [(some x0, 9), (some x1, 8)] u) : gX8_readClause_44 N   x0 x1 x2 x3 s0 s1 u = hgX8_readClause_44 N   x0 x1 x2 x3 s0 s1 u := by
  unfold gX8_readClause_44 hgX8_readClause_44
  refine eq_if ?_ ?_
  · exact egX8_readClause_52 N    x0 x1 x2 x3 (0 : Int32) u (hkc (show zK u x0 = 9 from (h_u.g 0 rfl)) (hkc (show zK u x1 = 8 from (h_u.g 1 rfl)) (hk0 h_u.1)))
  · exact egX8_readClause_52 N    x0 x1 x2 x3 (1 : Int32) u (hkc (show zK u x0 = 9 from (h_u.g 0 rfl)) (hkc (show zK u x1 = 8 from (h_u.g 1 rfl)) (hk0 h_u.1)))
set_option maxRecDepth 20000 in
def hgX8_readClause_35 (N : Nat)   (x0 : Nat) (x1 : Nat) (x2 : Int32) (x3 : Int32) (s0 : Int32) (u : SG) : Option (Int32 × SG) := if x2 = 0 then (hgX8_readClause_44 N    x0 x1 x2 x3 s0 (1 : Int32) u)
  else (hgX8_readClause_44 N    x0 x1 x2 x3 s0 (0 : Int32) u)
set_option maxRecDepth 20000 in
theorem egX8_readClause_35 (N : Nat)   (x0 : Nat) (x1 : Nat) (x2 : Int32) (x3 : Int32) (s0 : Int32) (u : SG) (h_u : HK [(some x0, 9), (some x1, 8)] u) : gX8_readClause_35 N   x0 x1 x2 x3 s0 u = hgX8_readClause_35 N   x0 x1 x2 x3 s0 u := by
  unfold gX8_readClause_35 hgX8_readClause_35
  refine eq_if ?_ ?_
  · exact egX8_readClause_44 N    x0 x1 x2 x3 s0 (1 : Int32) u (hkc (show zK u x0 = 9 from (h_u.g 0 rfl)) (hkc (show zK u x1 = 8 from (h_u.g 1 rfl)) (hk0 h_u.1)))
  · exact egX8_readClause_44 N    x0 x1 x2 x3 s0 (0 : Int32) u (hkc (show zK u x0 = 9 from (h_u.g 0 rfl)) (hkc (show zK u x1 = 8 from (h_u.g 1 rfl)) (hk0 h_u.1)))
set_option maxRecDepth 20000 in
def hX8_readClause (N : Nat)  (a0 : Nat) (p1 : Nat) (p2 : Int32) (u : SG) : Option (Int32 × SG) := bs (zI u (a0 - 5) 10) fun v2 => (cl (fX8_isClause N v2 u) fun r3 u4 => (if r3 = 0 then (cl (hX9_refuse N (a0 - 5) (0 : Int32) u4) fun r6 u7 => (if r6 = 0 ∨ r6 = 1 then (some (r6, u7))
  else (none)))
  else (if v2 = (13 : Int32) then (hgX8_readClause_35 N    a0 p1 p2 v2 (1 : Int32) u4)
  else (hgX8_readClause_35 N    a0 p1 p2 v2 (0 : Int32) u4))))
set_option maxRecDepth 20000 in
theorem eX8_readClause (N : Nat)  (a0 : Nat) (p1 : Nat) (p2 : Int32) (u : SG) (h_u : HK [(some a0, 9), (some p1, 8)] u) : fX8_readClause N  a0 p1 p2 u = hX8_readClause N  a0 p1 p2 u := by
  unfold fX8_readClause hX8_readClause
  refine eq_g (show zK u a0 = 9 from (h_u.g 0 rfl)) ?_
  refine eq_bR (show zR u a0 0 = some (a0 - 5) from lyR_9_0 h_u.1 (h_u.g 0 rfl)) ?_
  refine eq_g (show zK u (a0 - 5) = 10 from (lyK_9_0 h_u.1 (h_u.g 0 rfl))) ?_
  refine eq_bs (fun v2 => ?_)
  refine eq_cH rfl (fun r3 u4 e9 => h_u.fr (fr_X8_isClause (P := PT) N v2 u clPT _ _ e9).1) (fun r3 u4 h_u4 => ?_)
  refine eq_if ?_ ?_
  · refine eq_g (show zK u4 a0 = 9 from (h_u4.g 0 rfl)) ?_
    refine eq_bR (show zR u4 a0 0 = some (a0 - 5) from lyR_9_0 h_u4.1 (h_u4.g 0 rfl)) ?_
    refine eq_g (show zK u4 (a0 - 5) = 10 from (lyK_9_0 h_u4.1 (h_u4.g 0 rfl))) ?_
    refine eq_cH (eX9_refuse N (a0 - 5) (0 : Int32) u4 (hkc (show zK u4 (a0 - 5) = 10 from (lyK_9_0 h_u4.1 (h_u4.g 0 rfl))) (hk0 h_u4.1))) (fun r6 u7 e9 => h_u4.fr (fr_X9_refuse (P := PT) N (a0 - 5) (0 : Int32) u4 clPT trivial _ _ e9).1) (fun r6 u7 h_u7 => ?_)
    refine eq_if ?_ ?_
    · rfl
    · rfl
  · refine eq_if ?_ ?_
    · exact egX8_readClause_35 N    a0 p1 p2 v2 (1 : Int32) u4 (hkc (show zK u4 a0 = 9 from (h_u4.g 0 rfl)) (hkc (show zK u4 p1 = 8 from (h_u4.g 1 rfl)) (hk0 h_u4.1)))
    · exact egX8_readClause_35 N    a0 p1 p2 v2 (0 : Int32) u4 (hkc (show zK u4 a0 = 9 from (h_u4.g 0 rfl)) (hkc (show zK u4 p1 = 8 from (h_u4.g 1 rfl)) (hk0 h_u4.1)))
set_option maxRecDepth 20000 in
def hgX8_readInto_13 (N : Nat)   : Nat → Nat → Nat → Int32 → SG → Option (Int32 × SG)
  | 0, _, _, _, _ => none
  | n + 1, x0, x1, x2, u => if (40 : Int32) < x2 then (some (zI u (x0 - 5) 2, u))
  else (cl (hX8_readClause N x0 x1 x2 u) fun r2 u3 => (if r2 = 0 then (some (zI u3 (x0 - 5) 2, u3))
  else (if (zI u3 (x0 - 5) 8) = 0 then (some ((0 : Int32), u3))
  else (cl (hX9_takeSign N (x0 - 5) (59 : Int32) u3) fun r6 u7 => (if r6 = 0 then (some (zI u7 (x0 - 5) 2, u7))
  else ((hgX8_readInto_13 N   n) x0 x1 (x2 + (1 : Int32)) u7))))))
set_option maxRecDepth 20000 in
theorem egX8_readInto_13 (N : Nat)   : ∀ (n : Nat) (x0 : Nat) (x1 : Nat) (x2 : Int32) (u : SG), HK [(some x0, 9), (some x1, 8)] u → gX8_readInto_13 N   n x0 x1 x2 u = hgX8_readInto_13 N   n x0 x1 x2 u := by
  intro n
  induction n with
  | zero => intros; rfl
  | succ n ih =>
    intro x0 x1 x2 u h_u
    have hrc13 := ih
    rw [gX8_readInto_13, hgX8_readInto_13]
    refine eq_if ?_ ?_
    · refine eq_g (show zK u x0 = 9 from (h_u.g 0 rfl)) ?_
      refine eq_bR (show zR u x0 0 = some (x0 - 5) from lyR_9_0 h_u.1 (h_u.g 0 rfl)) ?_
      refine eq_g (show zK u (x0 - 5) = 10 from (lyK_9_0 h_u.1 (h_u.g 0 rfl))) ?_
      rfl
    · refine eq_g (show zK u x0 = 9 from (h_u.g 0 rfl)) ?_
      refine eq_cH (eX8_readClause N x0 x1 x2 u (hkc (show zK u x0 = 9 from (h_u.g 0 rfl)) (hkc (show zK u x1 = 8 from (h_u.g 1 rfl)) (hk0 h_u.1)))) (fun r2 u3 e9 => h_u.fr (fr_X8_readClause (P := PT) N x0 x1 x2 u clPT trivial trivial _ _ e9).1) (fun r2 u3 h_u3 => ?_)
      refine eq_if ?_ ?_
      · refine eq_g (show zK u3 x0 = 9 from (h_u3.g 0 rfl)) ?_
        refine eq_bR (show zR u3 x0 0 = some (x0 - 5) from lyR_9_0 h_u3.1 (h_u3.g 0 rfl)) ?_
        refine eq_g (show zK u3 (x0 - 5) = 10 from (lyK_9_0 h_u3.1 (h_u3.g 0 rfl))) ?_
        rfl
      · refine eq_g (show zK u3 x0 = 9 from (h_u3.g 0 rfl)) ?_
        refine eq_bR (show zR u3 x0 0 = some (x0 - 5) from lyR_9_0 h_u3.1 (h_u3.g 0 rfl)) ?_
        refine eq_g (show zK u3 (x0 - 5) = 10 from (lyK_9_0 h_u3.1 (h_u3.g 0 rfl))) ?_
        refine eq_if ?_ ?_
        · rfl
        · refine eq_g (show zK u3 x0 = 9 from (h_u3.g 0 rfl)) ?_
          refine eq_bR (show zR u3 x0 0 = some (x0 - 5) from lyR_9_0 h_u3.1 (h_u3.g 0 rfl)) ?_
          refine eq_g (show zK u3 (x0 - 5) = 10 from (lyK_9_0 h_u3.1 (h_u3.g 0 rfl))) ?_
          refine eq_cH (eX9_takeSign N (x0 - 5) (59 : Int32) u3 (hkc (show zK u3 (x0 - 5) = 10 from (lyK_9_0 h_u3.1 (h_u3.g 0 rfl))) (hk0 h_u3.1))) (fun r6 u7 e9 => h_u3.fr (fr_X9_takeSign (P := PT) N (x0 - 5) (59 : Int32) u3 clPT trivial _ _ e9).1) (fun r6 u7 h_u7 => ?_)
          refine eq_if ?_ ?_
          · refine eq_g (show zK u7 x0 = 9 from (h_u7.g 0 rfl)) ?_
            refine eq_bR (show zR u7 x0 0 = some (x0 - 5) from lyR_9_0 h_u7.1 (h_u7.g 0 rfl)) ?_
            refine eq_g (show zK u7 (x0 - 5) = 10 from (lyK_9_0 h_u7.1 (h_u7.g 0 rfl))) ?_
            rfl
          · exact hrc13 x0 x1 (x2 + (1 : Int32)) u7 (hkc (show zK u7 x0 = 9 from (h_u7.g 0 rfl)) (hkc (show zK u7 x1 = 8 from (h_u7.g 1 rfl)) (hk0 h_u7.1)))
set_option maxRecDepth 20000 in
def hX8_readInto (N : Nat)  (a0 : Nat) (p1 : Nat) (u : SG) : Option (Int32 × SG) := cl (hX7_clear N p1 u) fun r1 u2 => (cl (hX9_open N (a0 - 5) u2) fun r4 u5 => (hgX8_readInto_13 N   N a0 p1 (0 : Int32) u5))
set_option maxRecDepth 20000 in
theorem eX8_readInto (N : Nat)  (a0 : Nat) (p1 : Nat) (u : SG) (h_u : HK [(some a0, 9), (some p1, 8)] u) : fX8_readInto N  a0 p1 u = hX8_readInto N  a0 p1 u := by
  unfold fX8_readInto hX8_readInto
  refine eq_g (show zK u p1 = 8 from (h_u.g 1 rfl)) ?_
  refine eq_cH (eX7_clear N p1 u (hkc (show zK u p1 = 8 from (h_u.g 1 rfl)) (hk0 h_u.1))) (fun r1 u2 e9 => h_u.fr (fr_X7_clear (P := PT) N p1 u clPT trivial _ _ e9).1) (fun r1 u2 h_u2 => ?_)
  refine eq_g (show zK u2 a0 = 9 from (h_u2.g 0 rfl)) ?_
  refine eq_bR (show zR u2 a0 0 = some (a0 - 5) from lyR_9_0 h_u2.1 (h_u2.g 0 rfl)) ?_
  refine eq_g (show zK u2 (a0 - 5) = 10 from (lyK_9_0 h_u2.1 (h_u2.g 0 rfl))) ?_
  refine eq_cH (eX9_open N (a0 - 5) u2 (hkc (show zK u2 (a0 - 5) = 10 from (lyK_9_0 h_u2.1 (h_u2.g 0 rfl))) (hk0 h_u2.1))) (fun r4 u5 e9 => h_u2.fr (fr_X9_open (P := PT) N (a0 - 5) u2 clPT trivial _ _ e9).1) (fun r4 u5 h_u5 => ?_)
  exact egX8_readInto_13 N   N a0 p1 (0 : Int32) u5 (hkc (show zK u5 a0 = 9 from (h_u5.g 0 rfl)) (hkc (show zK u5 p1 = 8 from (h_u5.g 1 rfl)) (hk0 h_u5.1)))
set_option maxRecDepth 20000 in
def hX9_hasRoom (N : Nat)  (a0 : Nat) (p1 : Int32) (u : SG) : Option (Int32 × SG) := if (400 : Int32) < ((zI u a0 1) + p1) then (some ((0 : Int32), u))
  else (some ((1 : Int32), u))
set_option maxRecDepth 20000 in
theorem eX9_hasRoom (N : Nat)  (a0 : Nat) (p1 : Int32) (u : SG) (h_u : HK [(some a0, 10)] u) : fX9_hasRoom N  a0 p1 u = hX9_hasRoom N  a0 p1 u := by
  unfold fX9_hasRoom hX9_hasRoom
  refine eq_g (show zK u a0 = 10 from (h_u.g 0 rfl)) ?_
  refine eq_if ?_ ?_
  · rfl
  · rfl
set_option maxRecDepth 20000 in
def hgX9_append_3 (N : Nat)   : Nat → Nat → Int32 → Int32 → SG → Option (Unit × SG)
  | 0, _, _, _, _ => none
  | n + 1, x0, x1, x2, u => if x2 < 0 then (some ((), u))
  else (if (zI u x0 1) < 0 then ((hgX9_append_3 N   n) x0 x1 (x2 + (-8 : Int32)) u)
  else (if (400 : Int32) ≤ (zI u x0 1) then ((hgX9_append_3 N   n) x0 x1 (x2 + (-8 : Int32)) u)
  else (if (zI u x0 1) < 0 ∨ 400 ≤ (zI u x0 1).toNatClampNeg then none else (bs (sI u (x0 + 1) (zI u x0 1).toNatClampNeg (vp_nar .byte ((x1 >>> (x2 &&& 31)).toInt8.toInt32))) fun u2 => (bs (sI u2 x0 1 ((zI u2 x0 1) + (1 : Int32))) fun u3 => ((hgX9_append_3 N   n) x0 x1 (x2 + (-8 : Int32)) u3))))))
set_option maxRecDepth 20000 in
theorem egX9_append_3 (N : Nat)   : ∀ (n : Nat) (x0 : Nat) (x1 : Int32) (x2 : Int32) (u : SG), HK [(some x0, 10)] u → gX9_append_3 N   n x0 x1 x2 u = hgX9_append_3 N   n x0 x1 x2 u := by
  intro n
  induction n with
  | zero => intros; rfl
  | succ n ih =>
    intro x0 x1 x2 u h_u
    have hrc3 := ih
    rw [gX9_append_3, hgX9_append_3]
    refine eq_if ?_ ?_
    · rfl
    · refine eq_g (show zK u x0 = 10 from (h_u.g 0 rfl)) ?_
      refine eq_if ?_ ?_
      · exact hrc3 x0 x1 (x2 + (-8 : Int32)) u (hkc (show zK u x0 = 10 from (h_u.g 0 rfl)) (hk0 h_u.1))
      · refine eq_g (show zK u x0 = 10 from (h_u.g 0 rfl)) ?_
        refine eq_if ?_ ?_
        · exact hrc3 x0 x1 (x2 + (-8 : Int32)) u (hkc (show zK u x0 = 10 from (h_u.g 0 rfl)) (hk0 h_u.1))
        · refine eq_g (show zK u x0 = 10 from (h_u.g 0 rfl)) ?_
          refine eq_bR (show zR u x0 0 = some (x0 + 1) from lyR_10_0 h_u.1 (h_u.g 0 rfl)) ?_
          refine eq_g (show zK u x0 = 10 from (h_u.g 0 rfl)) ?_
          refine eq_g (show zK u (x0 + 1) = 21 from (lyK_10_0 h_u.1 (h_u.g 0 rfl))) ?_
          refine eq_ixh (show zN u (x0 + 1) = 400 from lyN_10_0 h_u.1 (h_u.g 0 rfl)) (fun hix1 => ?_)
          refine eq_sH (h_u.fr (P := PT) (Fr.sIr trivial)) (fun u2 h_u2 => ?_)
          refine eq_g (show zK u2 x0 = 10 from (h_u2.g 0 rfl)) ?_
          refine eq_g (show zK u2 x0 = 10 from (h_u2.g 0 rfl)) ?_
          refine eq_sH (h_u2.fr (P := PT) (Fr.sIr trivial)) (fun u3 h_u3 => ?_)
          exact hrc3 x0 x1 (x2 + (-8 : Int32)) u3 (hkc (show zK u3 x0 = 10 from (h_u3.g 0 rfl)) (hk0 h_u3.1))
set_option maxRecDepth 20000 in
def hX9_append (N : Nat)  (a0 : Nat) (p1 : Int32) (u : SG) : Option (Unit × SG) := hgX9_append_3 N   N a0 p1 (24 : Int32) u
set_option maxRecDepth 20000 in
theorem eX9_append (N : Nat)  (a0 : Nat) (p1 : Int32) (u : SG) (h_u : HK [(some a0, 10)] u) : fX9_append N  a0 p1 u = hX9_append N  a0 p1 u := by
  unfold fX9_append hX9_append
  exact egX9_append_3 N   N a0 p1 (24 : Int32) u (hkc (show zK u a0 = 10 from (h_u.g 0 rfl)) (hk0 h_u.1))
set_option maxRecDepth 20000 in
def hX10_feed (N : Nat)  (a0 : Nat) (p1 : Int32) (p2 : Int32) (p3 : Int32) (p4 : Int32) (p5 : Int32) (u : SG) : Option (Int32 × SG) := cl (hX9_hasRoom N (a0 + 1) (20 : Int32) u) fun r2 u3 => (if r2 = 0 then (some ((-1 : Int32), u3))
  else (cl (hX9_append N (a0 + 1) p1 u3) fun r5 u6 => (cl (hX9_append N (a0 + 1) p2 u6) fun r8 u9 => (cl (hX9_append N (a0 + 1) p3 u9) fun r11 u12 => (cl (hX9_append N (a0 + 1) p4 u12) fun r14 u15 => (cl (hX9_append N (a0 + 1) p5 u15) fun r17 u18 => (some (zI u18 (a0 + 1) 1, u18))))))))
set_option maxRecDepth 20000 in
theorem eX10_feed (N : Nat)  (a0 : Nat) (p1 : Int32) (p2 : Int32) (p3 : Int32) (p4 : Int32) (p5 : Int32) (u : SG) (h_u : HK [(some a0, 11)] u) : fX10_feed N  a0 p1 p2 p3 p4 p5 u = hX10_feed N  a0 p1 p2 p3 p4 p5 u := by
  unfold fX10_feed hX10_feed
  refine eq_g (show zK u a0 = 11 from (h_u.g 0 rfl)) ?_
  refine eq_bR (show zR u a0 0 = some (a0 + 1) from lyR_11_0 h_u.1 (h_u.g 0 rfl)) ?_
  refine eq_g (show zK u (a0 + 1) = 10 from (lyK_11_0 h_u.1 (h_u.g 0 rfl))) ?_
  refine eq_cH (eX9_hasRoom N (a0 + 1) (20 : Int32) u (hkc (show zK u (a0 + 1) = 10 from (lyK_11_0 h_u.1 (h_u.g 0 rfl))) (hk0 h_u.1))) (fun r2 u3 e9 => h_u.fr (fr_X9_hasRoom (P := PT) N (a0 + 1) (20 : Int32) u clPT trivial _ _ e9).1) (fun r2 u3 h_u3 => ?_)
  refine eq_if ?_ ?_
  · rfl
  · refine eq_g (show zK u3 a0 = 11 from (h_u3.g 0 rfl)) ?_
    refine eq_bR (show zR u3 a0 0 = some (a0 + 1) from lyR_11_0 h_u3.1 (h_u3.g 0 rfl)) ?_
    refine eq_g (show zK u3 (a0 + 1) = 10 from (lyK_11_0 h_u3.1 (h_u3.g 0 rfl))) ?_
    refine eq_cH (eX9_append N (a0 + 1) p1 u3 (hkc (show zK u3 (a0 + 1) = 10 from (lyK_11_0 h_u3.1 (h_u3.g 0 rfl))) (hk0 h_u3.1))) (fun r5 u6 e9 => h_u3.fr (fr_X9_append (P := PT) N (a0 + 1) p1 u3 clPT trivial _ _ e9).1) (fun r5 u6 h_u6 => ?_)
    refine eq_g (show zK u6 a0 = 11 from (h_u6.g 0 rfl)) ?_
    refine eq_bR (show zR u6 a0 0 = some (a0 + 1) from lyR_11_0 h_u6.1 (h_u6.g 0 rfl)) ?_
    refine eq_g (show zK u6 (a0 + 1) = 10 from (lyK_11_0 h_u6.1 (h_u6.g 0 rfl))) ?_
    refine eq_cH (eX9_append N (a0 + 1) p2 u6 (hkc (show zK u6 (a0 + 1) = 10 from (lyK_11_0 h_u6.1 (h_u6.g 0 rfl))) (hk0 h_u6.1))) (fun r8 u9 e9 => h_u6.fr (fr_X9_append (P := PT) N (a0 + 1) p2 u6 clPT trivial _ _ e9).1) (fun r8 u9 h_u9 => ?_)
    refine eq_g (show zK u9 a0 = 11 from (h_u9.g 0 rfl)) ?_
    refine eq_bR (show zR u9 a0 0 = some (a0 + 1) from lyR_11_0 h_u9.1 (h_u9.g 0 rfl)) ?_
    refine eq_g (show zK u9 (a0 + 1) = 10 from (lyK_11_0 h_u9.1 (h_u9.g 0 rfl))) ?_
    refine eq_cH (eX9_append N (a0 + 1) p3 u9 (hkc (show zK u9 (a0 + 1) = 10 from (lyK_11_0 h_u9.1 (h_u9.g 0 rfl))) (hk0 h_u9.1))) (fun r11 u12 e9 => h_u9.fr (fr_X9_append (P := PT) N (a0 + 1) p3 u9 clPT trivial _ _ e9).1) (fun r11 u12 h_u12 => ?_)
    refine eq_g (show zK u12 a0 = 11 from (h_u12.g 0 rfl)) ?_
    refine eq_bR (show zR u12 a0 0 = some (a0 + 1) from lyR_11_0 h_u12.1 (h_u12.g 0 rfl)) ?_
    refine eq_g (show zK u12 (a0 + 1) = 10 from (lyK_11_0 h_u12.1 (h_u12.g 0 rfl))) ?_
    refine eq_cH (eX9_append N (a0 + 1) p4 u12 (hkc (show zK u12 (a0 + 1) = 10 from (lyK_11_0 h_u12.1 (h_u12.g 0 rfl))) (hk0 h_u12.1))) (fun r14 u15 e9 => h_u12.fr (fr_X9_append (P := PT) N (a0 + 1) p4 u12 clPT trivial _ _ e9).1) (fun r14 u15 h_u15 => ?_)
    refine eq_g (show zK u15 a0 = 11 from (h_u15.g 0 rfl)) ?_
    refine eq_bR (show zR u15 a0 0 = some (a0 + 1) from lyR_11_0 h_u15.1 (h_u15.g 0 rfl)) ?_
    refine eq_g (show zK u15 (a0 + 1) = 10 from (lyK_11_0 h_u15.1 (h_u15.g 0 rfl))) ?_
    refine eq_cH (eX9_append N (a0 + 1) p5 u15 (hkc (show zK u15 (a0 + 1) = 10 from (lyK_11_0 h_u15.1 (h_u15.g 0 rfl))) (hk0 h_u15.1))) (fun r17 u18 e9 => h_u15.fr (fr_X9_append (P := PT) N (a0 + 1) p5 u15 clPT trivial _ _ e9).1) (fun r17 u18 h_u18 => ?_)
    refine eq_g (show zK u18 a0 = 11 from (h_u18.g 0 rfl)) ?_
    refine eq_bR (show zR u18 a0 0 = some (a0 + 1) from lyR_11_0 h_u18.1 (h_u18.g 0 rfl)) ?_
    refine eq_g (show zK u18 (a0 + 1) = 10 from (lyK_11_0 h_u18.1 (h_u18.g 0 rfl))) ?_
    rfl
set_option maxRecDepth 20000 in
def hX10_end (N : Nat)  (a0 : Nat) (p1 : Int32) (u : SG) : Option (Int32 × SG) := if p1 < 0 then (some ((-1 : Int32), u))
  else (if p1 ≤ (zI u (a0 + 1) 1) then (bs (sI u (a0 + 1) 1 p1) fun u3 => (some (p1, u3)))
  else (some ((-1 : Int32), u)))
set_option maxRecDepth 20000 in
theorem eX10_end (N : Nat)  (a0 : Nat) (p1 : Int32) (u : SG) (h_u : HK [(some a0, 11)] u) : fX10_end N  a0 p1 u = hX10_end N  a0 p1 u := by
  unfold fX10_end hX10_end
  refine eq_if ?_ ?_
  · rfl
  · refine eq_g (show zK u a0 = 11 from (h_u.g 0 rfl)) ?_
    refine eq_bR (show zR u a0 0 = some (a0 + 1) from lyR_11_0 h_u.1 (h_u.g 0 rfl)) ?_
    refine eq_g (show zK u (a0 + 1) = 10 from (lyK_11_0 h_u.1 (h_u.g 0 rfl))) ?_
    refine eq_if ?_ ?_
    · refine eq_g (show zK u a0 = 11 from (h_u.g 0 rfl)) ?_
      refine eq_bR (show zR u a0 0 = some (a0 + 1) from lyR_11_0 h_u.1 (h_u.g 0 rfl)) ?_
      refine eq_g (show zK u (a0 + 1) = 10 from (lyK_11_0 h_u.1 (h_u.g 0 rfl))) ?_
      refine eq_sH (h_u.fr (P := PT) (Fr.sIr trivial)) (fun u3 h_u3 => ?_)
      rfl
    · rfl
set_option maxRecDepth 20000 in
def hX10_street (N : Nat)  (a0 : Nat) (u : SG) : Option (Int32 × SG) := cl (hX8_readInto N (a0 + 6) (a0 + 9) u) fun r3 u4 => (bs (sI u4 (a0 + 1) 1 (0 : Int32)) fun u6 => (if r3 = 0 then (cl (hX7_copyOf N (a0 + 18) (a0 + 9) u6) fun r10 u11 => (cl (hX2_clear N (a0 + 25) u11) fun r14 u15 => (cl (hX1_clear N (a0 + 29) u15) fun r18 u19 => (cl (hX0_clear N (a0 + 35) u19) fun r21 u22 => (some (zI u22 (a0 + 18) 7, u22))))))
  else (some ((-2 : Int32) - r3, u6))))
set_option maxRecDepth 20000 in
theorem eX10_street (N : Nat)  (a0 : Nat) (u : SG) (h_u : HK [(some a0, 11)] u) : fX10_street N  a0 u = hX10_street N  a0 u := by
  unfold fX10_street hX10_street
  refine eq_g (show zK u a0 = 11 from (h_u.g 0 rfl)) ?_
  refine eq_bR (show zR u a0 1 = some (a0 + 6) from lyR_11_1 h_u.1 (h_u.g 0 rfl)) ?_
  refine eq_g (show zK u a0 = 11 from (h_u.g 0 rfl)) ?_
  refine eq_bR (show zR u a0 3 = some (a0 + 9) from lyR_11_3 h_u.1 (h_u.g 0 rfl)) ?_
  refine eq_g (show zK u (a0 + 6) = 9 from (lyK_11_1 h_u.1 (h_u.g 0 rfl))) ?_
  refine eq_cH (eX8_readInto N (a0 + 6) (a0 + 9) u (hkc (show zK u (a0 + 6) = 9 from (lyK_11_1 h_u.1 (h_u.g 0 rfl))) (hkc (show zK u (a0 + 9) = 8 from (lyK_11_3 h_u.1 (h_u.g 0 rfl))) (hk0 h_u.1)))) (fun r3 u4 e9 => h_u.fr (fr_X8_readInto (P := PT) N (a0 + 6) (a0 + 9) u clPT trivial trivial _ _ e9).1) (fun r3 u4 h_u4 => ?_)
  refine eq_g (show zK u4 a0 = 11 from (h_u4.g 0 rfl)) ?_
  refine eq_bR (show zR u4 a0 0 = some (a0 + 1) from lyR_11_0 h_u4.1 (h_u4.g 0 rfl)) ?_
  refine eq_g (show zK u4 (a0 + 1) = 10 from (lyK_11_0 h_u4.1 (h_u4.g 0 rfl))) ?_
  refine eq_sH (h_u4.fr (P := PT) (Fr.sIr trivial)) (fun u6 h_u6 => ?_)
  refine eq_if ?_ ?_
  · refine eq_g (show zK u6 a0 = 11 from (h_u6.g 0 rfl)) ?_
    refine eq_bR (show zR u6 a0 6 = some (a0 + 17) from lyR_11_6 h_u6.1 (h_u6.g 0 rfl)) ?_
    refine eq_g (show zK u6 (a0 + 17) = 7 from (lyK_11_6 h_u6.1 (h_u6.g 0 rfl))) ?_
    refine eq_bR (show zR u6 (a0 + 17) 0 = some (a0 + 18) from lyR_7_0 h_u6.1 (lyK_11_6 h_u6.1 (h_u6.g 0 rfl))) ?_
    refine eq_g (show zK u6 a0 = 11 from (h_u6.g 0 rfl)) ?_
    refine eq_bR (show zR u6 a0 3 = some (a0 + 9) from lyR_11_3 h_u6.1 (h_u6.g 0 rfl)) ?_
    refine eq_g (show zK u6 (a0 + 18) = 8 from (lyK_7_0 h_u6.1 (lyK_11_6 h_u6.1 (h_u6.g 0 rfl)))) ?_
    refine eq_cH (eX7_copyOf N (a0 + 18) (a0 + 9) u6 (hkc (show zK u6 (a0 + 18) = 8 from (lyK_7_0 h_u6.1 (lyK_11_6 h_u6.1 (h_u6.g 0 rfl)))) (hkc (show zK u6 (a0 + 9) = 8 from (lyK_11_3 h_u6.1 (h_u6.g 0 rfl))) (hk0 h_u6.1)))) (fun r10 u11 e9 => h_u6.fr (fr_X7_copyOf (P := PT) N (a0 + 18) (a0 + 9) u6 clPT trivial trivial _ _ e9).1) (fun r10 u11 h_u11 => ?_)
    refine eq_g (show zK u11 a0 = 11 from (h_u11.g 0 rfl)) ?_
    refine eq_bR (show zR u11 a0 6 = some (a0 + 17) from lyR_11_6 h_u11.1 (h_u11.g 0 rfl)) ?_
    refine eq_g (show zK u11 (a0 + 17) = 7 from (lyK_11_6 h_u11.1 (h_u11.g 0 rfl))) ?_
    refine eq_bR (show zR u11 (a0 + 17) 1 = some (a0 + 25) from lyR_7_1 h_u11.1 (lyK_11_6 h_u11.1 (h_u11.g 0 rfl))) ?_
    refine eq_g (show zK u11 (a0 + 25) = 3 from (lyK_7_1 h_u11.1 (lyK_11_6 h_u11.1 (h_u11.g 0 rfl)))) ?_
    refine eq_cH (eX2_clear N (a0 + 25) u11 (hkc (show zK u11 (a0 + 25) = 3 from (lyK_7_1 h_u11.1 (lyK_11_6 h_u11.1 (h_u11.g 0 rfl)))) (hk0 h_u11.1))) (fun r14 u15 e9 => h_u11.fr (fr_X2_clear (P := PT) N (a0 + 25) u11 clPT trivial _ _ e9).1) (fun r14 u15 h_u15 => ?_)
    refine eq_g (show zK u15 a0 = 11 from (h_u15.g 0 rfl)) ?_
    refine eq_bR (show zR u15 a0 6 = some (a0 + 17) from lyR_11_6 h_u15.1 (h_u15.g 0 rfl)) ?_
    refine eq_g (show zK u15 (a0 + 17) = 7 from (lyK_11_6 h_u15.1 (h_u15.g 0 rfl))) ?_
    refine eq_bR (show zR u15 (a0 + 17) 2 = some (a0 + 29) from lyR_7_2 h_u15.1 (lyK_11_6 h_u15.1 (h_u15.g 0 rfl))) ?_
    refine eq_g (show zK u15 (a0 + 29) = 2 from (lyK_7_2 h_u15.1 (lyK_11_6 h_u15.1 (h_u15.g 0 rfl)))) ?_
    refine eq_cH (eX1_clear N (a0 + 29) u15 (hkc (show zK u15 (a0 + 29) = 2 from (lyK_7_2 h_u15.1 (lyK_11_6 h_u15.1 (h_u15.g 0 rfl)))) (hk0 h_u15.1))) (fun r18 u19 e9 => h_u15.fr (fr_X1_clear (P := PT) N (a0 + 29) u15 clPT trivial _ _ e9).1) (fun r18 u19 h_u19 => ?_)
    refine eq_g (show zK u19 a0 = 11 from (h_u19.g 0 rfl)) ?_
    refine eq_bR (show zR u19 a0 8 = some (a0 + 35) from lyR_11_8 h_u19.1 (h_u19.g 0 rfl)) ?_
    refine eq_g (show zK u19 (a0 + 35) = 1 from (lyK_11_8 h_u19.1 (h_u19.g 0 rfl))) ?_
    refine eq_cH (eX0_clear N (a0 + 35) u19 (hkc (show zK u19 (a0 + 35) = 1 from (lyK_11_8 h_u19.1 (h_u19.g 0 rfl))) (hk0 h_u19.1))) (fun r21 u22 e9 => h_u19.fr (fr_X0_clear (P := PT) N (a0 + 35) u19 clPT trivial _ _ e9).1) (fun r21 u22 h_u22 => ?_)
    refine eq_g (show zK u22 a0 = 11 from (h_u22.g 0 rfl)) ?_
    refine eq_bR (show zR u22 a0 6 = some (a0 + 17) from lyR_11_6 h_u22.1 (h_u22.g 0 rfl)) ?_
    refine eq_g (show zK u22 (a0 + 17) = 7 from (lyK_11_6 h_u22.1 (h_u22.g 0 rfl))) ?_
    refine eq_bR (show zR u22 (a0 + 17) 0 = some (a0 + 18) from lyR_7_0 h_u22.1 (lyK_11_6 h_u22.1 (h_u22.g 0 rfl))) ?_
    refine eq_g (show zK u22 (a0 + 18) = 8 from (lyK_7_0 h_u22.1 (lyK_11_6 h_u22.1 (h_u22.g 0 rfl)))) ?_
    rfl
  · rfl
set_option maxRecDepth 20000 in
def hX10_force (N : Nat)  (a0 : Nat) (p1 : Int32) (u : SG) : Option (Int32 × SG) := if p1 < (-1 : Int32) then (some ((-2 : Int32), u))
  else (if p1 < (zI u a0 5) then (bs (zI u (a0 + 17) 3) fun v2 => (bs (sI u (a0 + 17) 3 p1) fun u4 => (some (v2, u4))))
  else (some ((-2 : Int32), u)))
set_option maxRecDepth 20000 in
theorem eX10_force (N : Nat)  (a0 : Nat) (p1 : Int32) (u : SG) (h_u : HK [(some a0, 11)] u) : fX10_force N  a0 p1 u = hX10_force N  a0 p1 u := by
  unfold fX10_force hX10_force
  refine eq_if ?_ ?_
  · rfl
  · refine eq_g (show zK u a0 = 11 from (h_u.g 0 rfl)) ?_
    refine eq_if ?_ ?_
    · refine eq_g (show zK u a0 = 11 from (h_u.g 0 rfl)) ?_
      refine eq_bR (show zR u a0 6 = some (a0 + 17) from lyR_11_6 h_u.1 (h_u.g 0 rfl)) ?_
      refine eq_g (show zK u (a0 + 17) = 7 from (lyK_11_6 h_u.1 (h_u.g 0 rfl))) ?_
      refine eq_bs (fun v2 => ?_)
      refine eq_g (show zK u a0 = 11 from (h_u.g 0 rfl)) ?_
      refine eq_bR (show zR u a0 6 = some (a0 + 17) from lyR_11_6 h_u.1 (h_u.g 0 rfl)) ?_
      refine eq_g (show zK u (a0 + 17) = 7 from (lyK_11_6 h_u.1 (h_u.g 0 rfl))) ?_
      refine eq_sH (h_u.fr (P := PT) (Fr.sIr trivial)) (fun u4 h_u4 => ?_)
      rfl
    · rfl
set_option maxRecDepth 20000 in
def hX10_workersNow (N : Nat)  (a0 : Nat) (u : SG) : Option (Int32 × SG) := cl (hX7_workersAt N (a0 + 18) (zI u (a0 + 25) 0) u) fun r5 u6 => (some (r5, u6))
set_option maxRecDepth 20000 in
theorem eX10_workersNow (N : Nat)  (a0 : Nat) (u : SG) (h_u : HK [(some a0, 11)] u) : fX10_workersNow N  a0 u = hX10_workersNow N  a0 u := by
  unfold fX10_workersNow hX10_workersNow
  refine eq_g (show zK u a0 = 11 from (h_u.g 0 rfl)) ?_
  refine eq_bR (show zR u a0 6 = some (a0 + 17) from lyR_11_6 h_u.1 (h_u.g 0 rfl)) ?_
  refine eq_g (show zK u (a0 + 17) = 7 from (lyK_11_6 h_u.1 (h_u.g 0 rfl))) ?_
  refine eq_bR (show zR u (a0 + 17) 0 = some (a0 + 18) from lyR_7_0 h_u.1 (lyK_11_6 h_u.1 (h_u.g 0 rfl))) ?_
  refine eq_g (show zK u a0 = 11 from (h_u.g 0 rfl)) ?_
  refine eq_bR (show zR u a0 6 = some (a0 + 17) from lyR_11_6 h_u.1 (h_u.g 0 rfl)) ?_
  refine eq_g (show zK u (a0 + 17) = 7 from (lyK_11_6 h_u.1 (h_u.g 0 rfl))) ?_
  refine eq_bR (show zR u (a0 + 17) 1 = some (a0 + 25) from lyR_7_1 h_u.1 (lyK_11_6 h_u.1 (h_u.g 0 rfl))) ?_
  refine eq_g (show zK u (a0 + 25) = 3 from (lyK_7_1 h_u.1 (lyK_11_6 h_u.1 (h_u.g 0 rfl)))) ?_
  refine eq_g (show zK u (a0 + 18) = 8 from (lyK_7_0 h_u.1 (lyK_11_6 h_u.1 (h_u.g 0 rfl)))) ?_
  refine eq_cH (eX7_workersAt N (a0 + 18) (zI u (a0 + 25) 0) u (hkc (show zK u (a0 + 18) = 8 from (lyK_7_0 h_u.1 (lyK_11_6 h_u.1 (h_u.g 0 rfl)))) (hk0 h_u.1))) (fun r5 u6 e9 => h_u.fr (fr_X7_workersAt (P := PT) N (a0 + 18) (zI u (a0 + 25) 0) u clPT trivial _ _ e9).1) (fun r5 u6 h_u6 => ?_)
  rfl
set_option maxRecDepth 20000 in
def hX10_person (N : Nat)  (a0 : Nat) (p1 : Int32) (p2 : Int32) (u : SG) : Option (Int32 × SG) := cl (hX7_isPerson N (a0 + 18) p1 u) fun r3 u4 => (if r3 = 0 then (some ((-1 : Int32), u4))
  else (if p2 = (0 : Int32) then (if p1 < 0 ∨ 5 ≤ p1.toNatClampNeg then none else (some (zI u4 (a0 + 19) p1.toNatClampNeg, u4)))
  else (if p2 = (1 : Int32) then (if p1 < 0 ∨ 5 ≤ p1.toNatClampNeg then none else (some (zI u4 (a0 + 20) p1.toNatClampNeg, u4)))
  else (if p2 = (2 : Int32) then (cl (fX10_bitOf N (zI u4 (a0 + 25) 2) p1 u4) fun r13 u14 => (some (r13, u14)))
  else (if p2 = (3 : Int32) then (if p1 < 0 ∨ 5 ≤ p1.toNatClampNeg then none else (some (zI u4 (a0 + 26) p1.toNatClampNeg, u4)))
  else (if p2 = (4 : Int32) then (if p1 < 0 ∨ 5 ≤ p1.toNatClampNeg then none else (some (zI u4 (a0 + 27) p1.toNatClampNeg, u4)))
  else (if p2 = (5 : Int32) then (cl (hX10_workersNow N a0 u4) fun r21 u22 => (cl (fX10_bitOf N r21 p1 u22) fun r23 u24 => (some (r23, u24))))
  else (some ((-1 : Int32), u4)))))))))
set_option maxRecDepth 20000 in
theorem eX10_person (N : Nat)  (a0 : Nat) (p1 : Int32) (p2 : Int32) (u : SG) (h_u : HK [(some a0, 11)] u) : fX10_person N  a0 p1 p2 u = hX10_person N  a0 p1 p2 u := by
  unfold fX10_person hX10_person
  refine eq_g (show zK u a0 = 11 from (h_u.g 0 rfl)) ?_
  refine eq_bR (show zR u a0 6 = some (a0 + 17) from lyR_11_6 h_u.1 (h_u.g 0 rfl)) ?_
  refine eq_g (show zK u (a0 + 17) = 7 from (lyK_11_6 h_u.1 (h_u.g 0 rfl))) ?_
  refine eq_bR (show zR u (a0 + 17) 0 = some (a0 + 18) from lyR_7_0 h_u.1 (lyK_11_6 h_u.1 (h_u.g 0 rfl))) ?_
  refine eq_g (show zK u (a0 + 18) = 8 from (lyK_7_0 h_u.1 (lyK_11_6 h_u.1 (h_u.g 0 rfl)))) ?_
  refine eq_cH (eX7_isPerson N (a0 + 18) p1 u (hkc (show zK u (a0 + 18) = 8 from (lyK_7_0 h_u.1 (lyK_11_6 h_u.1 (h_u.g 0 rfl)))) (hk0 h_u.1))) (fun r3 u4 e9 => h_u.fr (fr_X7_isPerson (P := PT) N (a0 + 18) p1 u clPT trivial _ _ e9).1) (fun r3 u4 h_u4 => ?_)
  refine eq_if ?_ ?_
  · rfl
  · refine eq_if ?_ ?_
    · refine eq_g (show zK u4 a0 = 11 from (h_u4.g 0 rfl)) ?_
      refine eq_bR (show zR u4 a0 6 = some (a0 + 17) from lyR_11_6 h_u4.1 (h_u4.g 0 rfl)) ?_
      refine eq_g (show zK u4 (a0 + 17) = 7 from (lyK_11_6 h_u4.1 (h_u4.g 0 rfl))) ?_
      refine eq_bR (show zR u4 (a0 + 17) 0 = some (a0 + 18) from lyR_7_0 h_u4.1 (lyK_11_6 h_u4.1 (h_u4.g 0 rfl))) ?_
      refine eq_g (show zK u4 (a0 + 18) = 8 from (lyK_7_0 h_u4.1 (lyK_11_6 h_u4.1 (h_u4.g 0 rfl)))) ?_
      refine eq_bR (show zR u4 (a0 + 18) 0 = some (a0 + 19) from lyR_8_0 h_u4.1 (lyK_7_0 h_u4.1 (lyK_11_6 h_u4.1 (h_u4.g 0 rfl)))) ?_
      refine eq_g (show zK u4 (a0 + 19) = 22 from (lyK_8_0 h_u4.1 (lyK_7_0 h_u4.1 (lyK_11_6 h_u4.1 (h_u4.g 0 rfl))))) ?_
      refine eq_ixh (show zN u4 (a0 + 19) = 5 from lyN_8_0 h_u4.1 (lyK_7_0 h_u4.1 (lyK_11_6 h_u4.1 (h_u4.g 0 rfl)))) (fun hix1 => ?_)
      rfl
    · refine eq_if ?_ ?_
      · refine eq_g (show zK u4 a0 = 11 from (h_u4.g 0 rfl)) ?_
        refine eq_bR (show zR u4 a0 6 = some (a0 + 17) from lyR_11_6 h_u4.1 (h_u4.g 0 rfl)) ?_
        refine eq_g (show zK u4 (a0 + 17) = 7 from (lyK_11_6 h_u4.1 (h_u4.g 0 rfl))) ?_
        refine eq_bR (show zR u4 (a0 + 17) 0 = some (a0 + 18) from lyR_7_0 h_u4.1 (lyK_11_6 h_u4.1 (h_u4.g 0 rfl))) ?_
        refine eq_g (show zK u4 (a0 + 18) = 8 from (lyK_7_0 h_u4.1 (lyK_11_6 h_u4.1 (h_u4.g 0 rfl)))) ?_
        refine eq_bR (show zR u4 (a0 + 18) 1 = some (a0 + 20) from lyR_8_1 h_u4.1 (lyK_7_0 h_u4.1 (lyK_11_6 h_u4.1 (h_u4.g 0 rfl)))) ?_
        refine eq_g (show zK u4 (a0 + 20) = 22 from (lyK_8_1 h_u4.1 (lyK_7_0 h_u4.1 (lyK_11_6 h_u4.1 (h_u4.g 0 rfl))))) ?_
        refine eq_ixh (show zN u4 (a0 + 20) = 5 from lyN_8_1 h_u4.1 (lyK_7_0 h_u4.1 (lyK_11_6 h_u4.1 (h_u4.g 0 rfl)))) (fun hix2 => ?_)
        rfl
      · refine eq_if ?_ ?_
        · refine eq_g (show zK u4 a0 = 11 from (h_u4.g 0 rfl)) ?_
          refine eq_bR (show zR u4 a0 6 = some (a0 + 17) from lyR_11_6 h_u4.1 (h_u4.g 0 rfl)) ?_
          refine eq_g (show zK u4 (a0 + 17) = 7 from (lyK_11_6 h_u4.1 (h_u4.g 0 rfl))) ?_
          refine eq_bR (show zR u4 (a0 + 17) 1 = some (a0 + 25) from lyR_7_1 h_u4.1 (lyK_11_6 h_u4.1 (h_u4.g 0 rfl))) ?_
          refine eq_g (show zK u4 (a0 + 25) = 3 from (lyK_7_1 h_u4.1 (lyK_11_6 h_u4.1 (h_u4.g 0 rfl)))) ?_
          refine eq_cH rfl (fun r13 u14 e9 => h_u4.fr (fr_X10_bitOf (P := PT) N (zI u4 (a0 + 25) 2) p1 u4 clPT _ _ e9).1) (fun r13 u14 h_u14 => ?_)
          rfl
        · refine eq_if ?_ ?_
          · refine eq_g (show zK u4 a0 = 11 from (h_u4.g 0 rfl)) ?_
            refine eq_bR (show zR u4 a0 6 = some (a0 + 17) from lyR_11_6 h_u4.1 (h_u4.g 0 rfl)) ?_
            refine eq_g (show zK u4 (a0 + 17) = 7 from (lyK_11_6 h_u4.1 (h_u4.g 0 rfl))) ?_
            refine eq_bR (show zR u4 (a0 + 17) 1 = some (a0 + 25) from lyR_7_1 h_u4.1 (lyK_11_6 h_u4.1 (h_u4.g 0 rfl))) ?_
            refine eq_g (show zK u4 (a0 + 25) = 3 from (lyK_7_1 h_u4.1 (lyK_11_6 h_u4.1 (h_u4.g 0 rfl)))) ?_
            refine eq_bR (show zR u4 (a0 + 25) 5 = some (a0 + 26) from lyR_3_5 h_u4.1 (lyK_7_1 h_u4.1 (lyK_11_6 h_u4.1 (h_u4.g 0 rfl)))) ?_
            refine eq_g (show zK u4 (a0 + 26) = 22 from (lyK_3_5 h_u4.1 (lyK_7_1 h_u4.1 (lyK_11_6 h_u4.1 (h_u4.g 0 rfl))))) ?_
            refine eq_ixh (show zN u4 (a0 + 26) = 5 from lyN_3_5 h_u4.1 (lyK_7_1 h_u4.1 (lyK_11_6 h_u4.1 (h_u4.g 0 rfl)))) (fun hix3 => ?_)
            rfl
          · refine eq_if ?_ ?_
            · refine eq_g (show zK u4 a0 = 11 from (h_u4.g 0 rfl)) ?_
              refine eq_bR (show zR u4 a0 6 = some (a0 + 17) from lyR_11_6 h_u4.1 (h_u4.g 0 rfl)) ?_
              refine eq_g (show zK u4 (a0 + 17) = 7 from (lyK_11_6 h_u4.1 (h_u4.g 0 rfl))) ?_
              refine eq_bR (show zR u4 (a0 + 17) 1 = some (a0 + 25) from lyR_7_1 h_u4.1 (lyK_11_6 h_u4.1 (h_u4.g 0 rfl))) ?_
              refine eq_g (show zK u4 (a0 + 25) = 3 from (lyK_7_1 h_u4.1 (lyK_11_6 h_u4.1 (h_u4.g 0 rfl)))) ?_
              refine eq_bR (show zR u4 (a0 + 25) 6 = some (a0 + 27) from lyR_3_6 h_u4.1 (lyK_7_1 h_u4.1 (lyK_11_6 h_u4.1 (h_u4.g 0 rfl)))) ?_
              refine eq_g (show zK u4 (a0 + 27) = 22 from (lyK_3_6 h_u4.1 (lyK_7_1 h_u4.1 (lyK_11_6 h_u4.1 (h_u4.g 0 rfl))))) ?_
              refine eq_ixh (show zN u4 (a0 + 27) = 5 from lyN_3_6 h_u4.1 (lyK_7_1 h_u4.1 (lyK_11_6 h_u4.1 (h_u4.g 0 rfl)))) (fun hix4 => ?_)
              rfl
            · refine eq_if ?_ ?_
              · refine eq_g (show zK u4 a0 = 11 from (h_u4.g 0 rfl)) ?_
                refine eq_cH (eX10_workersNow N a0 u4 (hkc (show zK u4 a0 = 11 from (h_u4.g 0 rfl)) (hk0 h_u4.1))) (fun r21 u22 e9 => h_u4.fr (fr_X10_workersNow (P := PT) N a0 u4 clPT trivial _ _ e9).1) (fun r21 u22 h_u22 => ?_)
                refine eq_cH rfl (fun r23 u24 e9 => h_u22.fr (fr_X10_bitOf (P := PT) N r21 p1 u22 clPT _ _ e9).1) (fun r23 u24 h_u24 => ?_)
                rfl
              · rfl
set_option maxRecDepth 20000 in
def hX10_burningNow (N : Nat)  (a0 : Nat) (u : SG) : Option (Int32 × SG) := cl (hX2_burningAt N (a0 + 25) (a0 + 18) (zI u (a0 + 25) 0) u) fun r7 u8 => (some (r7, u8))
set_option maxRecDepth 20000 in
theorem eX10_burningNow (N : Nat)  (a0 : Nat) (u : SG) (h_u : HK [(some a0, 11)] u) : fX10_burningNow N  a0 u = hX10_burningNow N  a0 u := by
  unfold fX10_burningNow hX10_burningNow
  refine eq_g (show zK u a0 = 11 from (h_u.g 0 rfl)) ?_
  refine eq_bR (show zR u a0 6 = some (a0 + 17) from lyR_11_6 h_u.1 (h_u.g 0 rfl)) ?_
  refine eq_g (show zK u (a0 + 17) = 7 from (lyK_11_6 h_u.1 (h_u.g 0 rfl))) ?_
  refine eq_bR (show zR u (a0 + 17) 1 = some (a0 + 25) from lyR_7_1 h_u.1 (lyK_11_6 h_u.1 (h_u.g 0 rfl))) ?_
  refine eq_g (show zK u a0 = 11 from (h_u.g 0 rfl)) ?_
  refine eq_bR (show zR u a0 6 = some (a0 + 17) from lyR_11_6 h_u.1 (h_u.g 0 rfl)) ?_
  refine eq_g (show zK u (a0 + 17) = 7 from (lyK_11_6 h_u.1 (h_u.g 0 rfl))) ?_
  refine eq_bR (show zR u (a0 + 17) 0 = some (a0 + 18) from lyR_7_0 h_u.1 (lyK_11_6 h_u.1 (h_u.g 0 rfl))) ?_
  refine eq_g (show zK u a0 = 11 from (h_u.g 0 rfl)) ?_
  refine eq_bR (show zR u a0 6 = some (a0 + 17) from lyR_11_6 h_u.1 (h_u.g 0 rfl)) ?_
  refine eq_g (show zK u (a0 + 17) = 7 from (lyK_11_6 h_u.1 (h_u.g 0 rfl))) ?_
  refine eq_bR (show zR u (a0 + 17) 1 = some (a0 + 25) from lyR_7_1 h_u.1 (lyK_11_6 h_u.1 (h_u.g 0 rfl))) ?_
  refine eq_g (show zK u (a0 + 25) = 3 from (lyK_7_1 h_u.1 (lyK_11_6 h_u.1 (h_u.g 0 rfl)))) ?_
  refine eq_g (show zK u (a0 + 25) = 3 from (lyK_7_1 h_u.1 (lyK_11_6 h_u.1 (h_u.g 0 rfl)))) ?_
  refine eq_cH (eX2_burningAt N (a0 + 25) (a0 + 18) (zI u (a0 + 25) 0) u (hkc (show zK u (a0 + 25) = 3 from (lyK_7_1 h_u.1 (lyK_11_6 h_u.1 (h_u.g 0 rfl)))) (hkc (show zK u (a0 + 18) = 8 from (lyK_7_0 h_u.1 (lyK_11_6 h_u.1 (h_u.g 0 rfl)))) (hk0 h_u.1)))) (fun r7 u8 e9 => h_u.fr (fr_X2_burningAt (P := PT) N (a0 + 25) (a0 + 18) (zI u (a0 + 25) 0) u clPT trivial trivial _ _ e9).1) (fun r7 u8 h_u8 => ?_)
  rfl
set_option maxRecDepth 20000 in
def hX10_lamp (N : Nat)  (a0 : Nat) (p1 : Int32) (p2 : Int32) (u : SG) : Option (Int32 × SG) := cl (hX7_isLamp N (a0 + 18) p1 u) fun r3 u4 => (if r3 = 0 then (some ((-1 : Int32), u4))
  else (if p2 = (0 : Int32) then (if p1 < 0 ∨ 5 ≤ p1.toNatClampNeg then none else (some (zI u4 (a0 + 21) p1.toNatClampNeg, u4)))
  else (if p2 = (1 : Int32) then (if p1 < 0 ∨ 5 ≤ p1.toNatClampNeg then none else (some (zI u4 (a0 + 22) p1.toNatClampNeg, u4)))
  else (if p2 = (2 : Int32) then (cl (hX10_burningNow N a0 u4) fun r11 u12 => (cl (fX10_bitOf N r11 p1 u12) fun r13 u14 => (some (r13, u14))))
  else (some ((-1 : Int32), u4))))))
set_option maxRecDepth 20000 in
theorem eX10_lamp (N : Nat)  (a0 : Nat) (p1 : Int32) (p2 : Int32) (u : SG) (h_u : HK [(some a0, 11)] u) : fX10_lamp N  a0 p1 p2 u = hX10_lamp N  a0 p1 p2 u := by
  unfold fX10_lamp hX10_lamp
  refine eq_g (show zK u a0 = 11 from (h_u.g 0 rfl)) ?_
  refine eq_bR (show zR u a0 6 = some (a0 + 17) from lyR_11_6 h_u.1 (h_u.g 0 rfl)) ?_
  refine eq_g (show zK u (a0 + 17) = 7 from (lyK_11_6 h_u.1 (h_u.g 0 rfl))) ?_
  refine eq_bR (show zR u (a0 + 17) 0 = some (a0 + 18) from lyR_7_0 h_u.1 (lyK_11_6 h_u.1 (h_u.g 0 rfl))) ?_
  refine eq_g (show zK u (a0 + 18) = 8 from (lyK_7_0 h_u.1 (lyK_11_6 h_u.1 (h_u.g 0 rfl)))) ?_
  refine eq_cH (eX7_isLamp N (a0 + 18) p1 u (hkc (show zK u (a0 + 18) = 8 from (lyK_7_0 h_u.1 (lyK_11_6 h_u.1 (h_u.g 0 rfl)))) (hk0 h_u.1))) (fun r3 u4 e9 => h_u.fr (fr_X7_isLamp (P := PT) N (a0 + 18) p1 u clPT trivial _ _ e9).1) (fun r3 u4 h_u4 => ?_)
  refine eq_if ?_ ?_
  · rfl
  · refine eq_if ?_ ?_
    · refine eq_g (show zK u4 a0 = 11 from (h_u4.g 0 rfl)) ?_
      refine eq_bR (show zR u4 a0 6 = some (a0 + 17) from lyR_11_6 h_u4.1 (h_u4.g 0 rfl)) ?_
      refine eq_g (show zK u4 (a0 + 17) = 7 from (lyK_11_6 h_u4.1 (h_u4.g 0 rfl))) ?_
      refine eq_bR (show zR u4 (a0 + 17) 0 = some (a0 + 18) from lyR_7_0 h_u4.1 (lyK_11_6 h_u4.1 (h_u4.g 0 rfl))) ?_
      refine eq_g (show zK u4 (a0 + 18) = 8 from (lyK_7_0 h_u4.1 (lyK_11_6 h_u4.1 (h_u4.g 0 rfl)))) ?_
      refine eq_bR (show zR u4 (a0 + 18) 2 = some (a0 + 21) from lyR_8_2 h_u4.1 (lyK_7_0 h_u4.1 (lyK_11_6 h_u4.1 (h_u4.g 0 rfl)))) ?_
      refine eq_g (show zK u4 (a0 + 21) = 22 from (lyK_8_2 h_u4.1 (lyK_7_0 h_u4.1 (lyK_11_6 h_u4.1 (h_u4.g 0 rfl))))) ?_
      refine eq_ixh (show zN u4 (a0 + 21) = 5 from lyN_8_2 h_u4.1 (lyK_7_0 h_u4.1 (lyK_11_6 h_u4.1 (h_u4.g 0 rfl)))) (fun hix1 => ?_)
      rfl
    · refine eq_if ?_ ?_
      · refine eq_g (show zK u4 a0 = 11 from (h_u4.g 0 rfl)) ?_
        refine eq_bR (show zR u4 a0 6 = some (a0 + 17) from lyR_11_6 h_u4.1 (h_u4.g 0 rfl)) ?_
        refine eq_g (show zK u4 (a0 + 17) = 7 from (lyK_11_6 h_u4.1 (h_u4.g 0 rfl))) ?_
        refine eq_bR (show zR u4 (a0 + 17) 0 = some (a0 + 18) from lyR_7_0 h_u4.1 (lyK_11_6 h_u4.1 (h_u4.g 0 rfl))) ?_
        refine eq_g (show zK u4 (a0 + 18) = 8 from (lyK_7_0 h_u4.1 (lyK_11_6 h_u4.1 (h_u4.g 0 rfl)))) ?_
        refine eq_bR (show zR u4 (a0 + 18) 3 = some (a0 + 22) from lyR_8_3 h_u4.1 (lyK_7_0 h_u4.1 (lyK_11_6 h_u4.1 (h_u4.g 0 rfl)))) ?_
        refine eq_g (show zK u4 (a0 + 22) = 22 from (lyK_8_3 h_u4.1 (lyK_7_0 h_u4.1 (lyK_11_6 h_u4.1 (h_u4.g 0 rfl))))) ?_
        refine eq_ixh (show zN u4 (a0 + 22) = 5 from lyN_8_3 h_u4.1 (lyK_7_0 h_u4.1 (lyK_11_6 h_u4.1 (h_u4.g 0 rfl)))) (fun hix2 => ?_)
        rfl
      · refine eq_if ?_ ?_
        · refine eq_g (show zK u4 a0 = 11 from (h_u4.g 0 rfl)) ?_
          refine eq_cH (eX10_burningNow N a0 u4 (hkc (show zK u4 a0 = 11 from (h_u4.g 0 rfl)) (hk0 h_u4.1))) (fun r11 u12 e9 => h_u4.fr (fr_X10_burningNow (P := PT) N a0 u4 clPT trivial _ _ e9).1) (fun r11 u12 h_u12 => ?_)
          refine eq_cH rfl (fun r13 u14 e9 => h_u12.fr (fr_X10_bitOf (P := PT) N r11 p1 u12 clPT _ _ e9).1) (fun r13 u14 h_u14 => ?_)
          rfl
        · rfl
set_option maxRecDepth 20000 in
def hX10_ruleNow (N : Nat)  (a0 : Nat) (u : SG) : Option (Option Nat × SG) := bs (zI u (a0 + 17) 3) fun v2 => (if v2 < 0 then (some (none, u))
  else (if (zI u a0 5) ≤ v2 then (some (none, u))
  else (if v2 < 0 ∨ 6 ≤ v2.toNatClampNeg then none else (some (zR u (a0 + 16) v2.toNatClampNeg, u)))))
set_option maxRecDepth 20000 in
theorem eX10_ruleNow (N : Nat)  (a0 : Nat) (u : SG) (h_u : HK [(some a0, 11)] u) : fX10_ruleNow N  a0 u = hX10_ruleNow N  a0 u := by
  unfold fX10_ruleNow hX10_ruleNow
  refine eq_g (show zK u a0 = 11 from (h_u.g 0 rfl)) ?_
  refine eq_bR (show zR u a0 6 = some (a0 + 17) from lyR_11_6 h_u.1 (h_u.g 0 rfl)) ?_
  refine eq_g (show zK u (a0 + 17) = 7 from (lyK_11_6 h_u.1 (h_u.g 0 rfl))) ?_
  refine eq_bs (fun v2 => ?_)
  refine eq_if ?_ ?_
  · rfl
  · refine eq_g (show zK u a0 = 11 from (h_u.g 0 rfl)) ?_
    refine eq_if ?_ ?_
    · rfl
    · refine eq_g (show zK u a0 = 11 from (h_u.g 0 rfl)) ?_
      refine eq_bR (show zR u a0 4 = some (a0 + 16) from lyR_11_4 h_u.1 (h_u.g 0 rfl)) ?_
      refine eq_g (show zK u (a0 + 16) = 26 from (lyK_11_4 h_u.1 (h_u.g 0 rfl))) ?_
      refine eq_ixh (show zN u (a0 + 16) = 6 from lyN_11_4 h_u.1 (h_u.g 0 rfl)) (fun hix1 => ?_)
      rfl
theorem rn_K {N a : Nat} {u w : SG} {r : Option Nat} (k : zK u a = 11) (h : LY u) (e : fX10_ruleNow N a u = some (r, w)) : ∀ q, r = some q → zK w q = 5 := by
  rw [eX10_ruleNow N a u (hkc k (hk0 h))] at e
  unfold hX10_ruleNow at e
  intro q hq
  subst hq
  unfold bs at e
  dsimp only at e
  split at e
  · simp at e
  · split at e
    · simp at e
    · split at e
      · simp at e
      · simp only [Option.some.injEq, Prod.mk.injEq] at e
        obtain ⟨e1, e2⟩ := e
        subst e2
        exact lyQ_11 h k e1
set_option maxRecDepth 20000 in
def hX10_hour (N : Nat)  (a0 : Nat) (u : SG) : Option (Int32 × SG) := cl (hX7_isTold N (a0 + 18) u) fun r3 u4 => (if r3 = 0 then (some ((-1 : Int32), u4))
  else (cl (hX2_isLast N (a0 + 25) (a0 + 18) u4) fun r9 u10 => (if r9 = 0 then (cl (hX0_keep N (a0 + 35) (a0 + 25) u10) fun r14 u15 => (cl (hX10_ruleNow N a0 u15) fun r21 u22 => (cl (hX3_play N (a0 + 117) (a0 + 18) (a0 + 25) r21 u22) fun r23 u24 => (some (r23, u24)))))
  else (some ((-1 : Int32), u10)))))
set_option maxRecDepth 20000 in
theorem eX10_hour (N : Nat)  (a0 : Nat) (u : SG) (h_u : HK [(some a0, 11)] u) : fX10_hour N  a0 u = hX10_hour N  a0 u := by
  unfold fX10_hour hX10_hour
  refine eq_g (show zK u a0 = 11 from (h_u.g 0 rfl)) ?_
  refine eq_bR (show zR u a0 6 = some (a0 + 17) from lyR_11_6 h_u.1 (h_u.g 0 rfl)) ?_
  refine eq_g (show zK u (a0 + 17) = 7 from (lyK_11_6 h_u.1 (h_u.g 0 rfl))) ?_
  refine eq_bR (show zR u (a0 + 17) 0 = some (a0 + 18) from lyR_7_0 h_u.1 (lyK_11_6 h_u.1 (h_u.g 0 rfl))) ?_
  refine eq_g (show zK u (a0 + 18) = 8 from (lyK_7_0 h_u.1 (lyK_11_6 h_u.1 (h_u.g 0 rfl)))) ?_
  refine eq_cH (eX7_isTold N (a0 + 18) u (hkc (show zK u (a0 + 18) = 8 from (lyK_7_0 h_u.1 (lyK_11_6 h_u.1 (h_u.g 0 rfl)))) (hk0 h_u.1))) (fun r3 u4 e9 => h_u.fr (fr_X7_isTold (P := PT) N (a0 + 18) u clPT trivial _ _ e9).1) (fun r3 u4 h_u4 => ?_)
  refine eq_if ?_ ?_
  · rfl
  · refine eq_g (show zK u4 a0 = 11 from (h_u4.g 0 rfl)) ?_
    refine eq_bR (show zR u4 a0 6 = some (a0 + 17) from lyR_11_6 h_u4.1 (h_u4.g 0 rfl)) ?_
    refine eq_g (show zK u4 (a0 + 17) = 7 from (lyK_11_6 h_u4.1 (h_u4.g 0 rfl))) ?_
    refine eq_bR (show zR u4 (a0 + 17) 1 = some (a0 + 25) from lyR_7_1 h_u4.1 (lyK_11_6 h_u4.1 (h_u4.g 0 rfl))) ?_
    refine eq_g (show zK u4 a0 = 11 from (h_u4.g 0 rfl)) ?_
    refine eq_bR (show zR u4 a0 6 = some (a0 + 17) from lyR_11_6 h_u4.1 (h_u4.g 0 rfl)) ?_
    refine eq_g (show zK u4 (a0 + 17) = 7 from (lyK_11_6 h_u4.1 (h_u4.g 0 rfl))) ?_
    refine eq_bR (show zR u4 (a0 + 17) 0 = some (a0 + 18) from lyR_7_0 h_u4.1 (lyK_11_6 h_u4.1 (h_u4.g 0 rfl))) ?_
    refine eq_g (show zK u4 (a0 + 25) = 3 from (lyK_7_1 h_u4.1 (lyK_11_6 h_u4.1 (h_u4.g 0 rfl)))) ?_
    refine eq_cH (eX2_isLast N (a0 + 25) (a0 + 18) u4 (hkc (show zK u4 (a0 + 25) = 3 from (lyK_7_1 h_u4.1 (lyK_11_6 h_u4.1 (h_u4.g 0 rfl)))) (hkc (show zK u4 (a0 + 18) = 8 from (lyK_7_0 h_u4.1 (lyK_11_6 h_u4.1 (h_u4.g 0 rfl)))) (hk0 h_u4.1)))) (fun r9 u10 e9 => h_u4.fr (fr_X2_isLast (P := PT) N (a0 + 25) (a0 + 18) u4 clPT trivial trivial _ _ e9).1) (fun r9 u10 h_u10 => ?_)
    refine eq_if ?_ ?_
    · refine eq_g (show zK u10 a0 = 11 from (h_u10.g 0 rfl)) ?_
      refine eq_bR (show zR u10 a0 8 = some (a0 + 35) from lyR_11_8 h_u10.1 (h_u10.g 0 rfl)) ?_
      refine eq_g (show zK u10 a0 = 11 from (h_u10.g 0 rfl)) ?_
      refine eq_bR (show zR u10 a0 6 = some (a0 + 17) from lyR_11_6 h_u10.1 (h_u10.g 0 rfl)) ?_
      refine eq_g (show zK u10 (a0 + 17) = 7 from (lyK_11_6 h_u10.1 (h_u10.g 0 rfl))) ?_
      refine eq_bR (show zR u10 (a0 + 17) 1 = some (a0 + 25) from lyR_7_1 h_u10.1 (lyK_11_6 h_u10.1 (h_u10.g 0 rfl))) ?_
      refine eq_g (show zK u10 (a0 + 35) = 1 from (lyK_11_8 h_u10.1 (h_u10.g 0 rfl))) ?_
      refine eq_cH (eX0_keep N (a0 + 35) (a0 + 25) u10 (hkc (show zK u10 (a0 + 35) = 1 from (lyK_11_8 h_u10.1 (h_u10.g 0 rfl))) (hkc (show zK u10 (a0 + 25) = 3 from (lyK_7_1 h_u10.1 (lyK_11_6 h_u10.1 (h_u10.g 0 rfl)))) (hk0 h_u10.1)))) (fun r14 u15 e9 => h_u10.fr (fr_X0_keep (P := PT) N (a0 + 35) (a0 + 25) u10 clPT trivial trivial _ _ e9).1) (fun r14 u15 h_u15 => ?_)
      refine eq_g (show zK u15 a0 = 11 from (h_u15.g 0 rfl)) ?_
      refine eq_bR (show zR u15 a0 9 = some (a0 + 117) from lyR_11_9 h_u15.1 (h_u15.g 0 rfl)) ?_
      refine eq_g (show zK u15 a0 = 11 from (h_u15.g 0 rfl)) ?_
      refine eq_bR (show zR u15 a0 6 = some (a0 + 17) from lyR_11_6 h_u15.1 (h_u15.g 0 rfl)) ?_
      refine eq_g (show zK u15 (a0 + 17) = 7 from (lyK_11_6 h_u15.1 (h_u15.g 0 rfl))) ?_
      refine eq_bR (show zR u15 (a0 + 17) 0 = some (a0 + 18) from lyR_7_0 h_u15.1 (lyK_11_6 h_u15.1 (h_u15.g 0 rfl))) ?_
      refine eq_g (show zK u15 a0 = 11 from (h_u15.g 0 rfl)) ?_
      refine eq_bR (show zR u15 a0 6 = some (a0 + 17) from lyR_11_6 h_u15.1 (h_u15.g 0 rfl)) ?_
      refine eq_g (show zK u15 (a0 + 17) = 7 from (lyK_11_6 h_u15.1 (h_u15.g 0 rfl))) ?_
      refine eq_bR (show zR u15 (a0 + 17) 1 = some (a0 + 25) from lyR_7_1 h_u15.1 (lyK_11_6 h_u15.1 (h_u15.g 0 rfl))) ?_
      refine eq_g (show zK u15 a0 = 11 from (h_u15.g 0 rfl)) ?_
      refine eq_cR (eX10_ruleNow N a0 u15 (hkc (show zK u15 a0 = 11 from (h_u15.g 0 rfl)) (hk0 h_u15.1))) (fun r21 u22 e9 => ⟨h_u15.fr (fr_X10_ruleNow (P := PT) N a0 u15 clPT trivial _ _ e9).1, rn_K (show zK u15 a0 = 11 from (h_u15.g 0 rfl)) h_u15.1 e9⟩) (fun r21 u22 h_u22 hr_r21 => ?_)
      refine eq_g (show zK u22 (a0 + 117) = 4 from (lyK_11_9 h_u22.1 (h_u22.g 0 rfl))) ?_
      refine eq_cH (eX3_play N (a0 + 117) (a0 + 18) (a0 + 25) r21 u22 (hkc (show zK u22 (a0 + 117) = 4 from (lyK_11_9 h_u22.1 (h_u22.g 0 rfl))) (hkc (show zK u22 (a0 + 18) = 8 from (lyK_7_0 h_u22.1 (lyK_11_6 h_u22.1 (h_u22.g 0 rfl)))) (hkc (show zK u22 (a0 + 25) = 3 from (lyK_7_1 h_u22.1 (lyK_11_6 h_u22.1 (h_u22.g 0 rfl)))) (hkq hr_r21 (hk0 h_u22.1)))))) (fun r23 u24 e9 => h_u22.fr (fr_X3_play (P := PT) N (a0 + 117) (a0 + 18) (a0 + 25) r21 u22 clPT trivial trivial trivial (fun _ _ => trivial) _ _ e9).1) (fun r23 u24 h_u24 => ?_)
      rfl
    · rfl
set_option maxRecDepth 20000 in
def hgX10_sleep_75 (N : Nat)   (x0 : Nat) (x1 : Int32) (u : SG) : Option (Int32 × SG) := cl (hX0_keep N (x0 + 35) (x0 + 25) u) fun r4 u5 => (bs (sI u5 (x0 + 25) 2 ((zI u5 (x0 + 25) 2) ^^^ ((1 : Int32) <<< (x1 &&& 31)))) fun u8 => (some ((1 : Int32), u8)))
set_option maxRecDepth 20000 in
theorem egX10_sleep_75 (N : Nat)   (x0 : Nat) (x1 : Int32) (u : SG) (h_u : HK [(some x0, 11)] u) : gX10_sleep_75 N   x0 x1 u = hgX10_sleep_75 N   x0 x1 u := by
  unfold gX10_sleep_75 hgX10_sleep_75
  refine eq_g (show zK u x0 = 11 from (h_u.g 0 rfl)) ?_
  refine eq_bR (show zR u x0 8 = some (x0 + 35) from lyR_11_8 h_u.1 (h_u.g 0 rfl)) ?_
  refine eq_g (show zK u x0 = 11 from (h_u.g 0 rfl)) ?_
  refine eq_bR (show zR u x0 6 = some (x0 + 17) from lyR_11_6 h_u.1 (h_u.g 0 rfl)) ?_
  refine eq_g (show zK u (x0 + 17) = 7 from (lyK_11_6 h_u.1 (h_u.g 0 rfl))) ?_
  refine eq_bR (show zR u (x0 + 17) 1 = some (x0 + 25) from lyR_7_1 h_u.1 (lyK_11_6 h_u.1 (h_u.g 0 rfl))) ?_
  refine eq_g (show zK u (x0 + 35) = 1 from (lyK_11_8 h_u.1 (h_u.g 0 rfl))) ?_
  refine eq_cH (eX0_keep N (x0 + 35) (x0 + 25) u (hkc (show zK u (x0 + 35) = 1 from (lyK_11_8 h_u.1 (h_u.g 0 rfl))) (hkc (show zK u (x0 + 25) = 3 from (lyK_7_1 h_u.1 (lyK_11_6 h_u.1 (h_u.g 0 rfl)))) (hk0 h_u.1)))) (fun r4 u5 e9 => h_u.fr (fr_X0_keep (P := PT) N (x0 + 35) (x0 + 25) u clPT trivial trivial _ _ e9).1) (fun r4 u5 h_u5 => ?_)
  refine eq_g (show zK u5 x0 = 11 from (h_u5.g 0 rfl)) ?_
  refine eq_bR (show zR u5 x0 6 = some (x0 + 17) from lyR_11_6 h_u5.1 (h_u5.g 0 rfl)) ?_
  refine eq_g (show zK u5 (x0 + 17) = 7 from (lyK_11_6 h_u5.1 (h_u5.g 0 rfl))) ?_
  refine eq_bR (show zR u5 (x0 + 17) 1 = some (x0 + 25) from lyR_7_1 h_u5.1 (lyK_11_6 h_u5.1 (h_u5.g 0 rfl))) ?_
  refine eq_g (show zK u5 (x0 + 25) = 3 from (lyK_7_1 h_u5.1 (lyK_11_6 h_u5.1 (h_u5.g 0 rfl)))) ?_
  refine eq_g (show zK u5 (x0 + 25) = 3 from (lyK_7_1 h_u5.1 (lyK_11_6 h_u5.1 (h_u5.g 0 rfl)))) ?_
  refine eq_sH (h_u5.fr (P := PT) (Fr.sIr trivial)) (fun u8 h_u8 => ?_)
  rfl
set_option maxRecDepth 20000 in
def hgX10_sleep_57 (N : Nat)   (x0 : Nat) (x1 : Int32) (x2 : Int32) (x3 : Int32) (s0 : Int32) (u : SG) : Option (Int32 × SG) := if x3 = x2 then (some ((0 : Int32), u))
  else (if x2 = 0 then (hgX10_sleep_75 N    x0 x1 u)
  else (if s0 = 0 then (hgX10_sleep_75 N    x0 x1 u)
  else (some ((0 : Int32), u))))
set_option maxRecDepth 20000 in
theorem egX10_sleep_57 (N : Nat)   (x0 : Nat) (x1 : Int32) (x2 : Int32) (x3 : Int32) (s0 : Int32) (u : SG) (h_u : HK [(some x0, 11)] u) : gX10_sleep_57 N   x0 x1 x2 x3 s0 u = hgX10_sleep_57 N   x0 x1 x2 x3 s0 u := by
  unfold gX10_sleep_57 hgX10_sleep_57
  refine eq_if ?_ ?_
  · rfl
  · refine eq_if ?_ ?_
    · exact egX10_sleep_75 N    x0 x1 u (hkc (show zK u x0 = 11 from (h_u.g 0 rfl)) (hk0 h_u.1))
    · refine eq_if ?_ ?_
      · exact egX10_sleep_75 N    x0 x1 u (hkc (show zK u x0 = 11 from (h_u.g 0 rfl)) (hk0 h_u.1))
      · rfl
set_option maxRecDepth 20000 in
def hgX10_sleep_39 (N : Nat)   (x0 : Nat) (x1 : Int32) (x2 : Int32) (s0 : Int32) (u : SG) : Option (Int32 × SG) := cl (hX10_workersNow N x0 u) fun r1 u2 => (cl (fX10_bitOf N r1 x1 u2) fun r3 u4 => (if r3 = (1 : Int32) then (hgX10_sleep_57 N    x0 x1 x2 s0 (1 : Int32) u4)
  else (hgX10_sleep_57 N    x0 x1 x2 s0 (0 : Int32) u4)))
set_option maxRecDepth 20000 in
theorem egX10_sleep_39 (N : Nat)   (x0 : Nat) (x1 : Int32) (x2 : Int32) (s0 : Int32) (u : SG) (h_u : HK [(some x0, 11)] u) : gX10_sleep_39 N   x0 x1 x2 s0 u = hgX10_sleep_39 N   x0 x1 x2 s0 u := by
  unfold gX10_sleep_39 hgX10_sleep_39
  refine eq_g (show zK u x0 = 11 from (h_u.g 0 rfl)) ?_
  refine eq_cH (eX10_workersNow N x0 u (hkc (show zK u x0 = 11 from (h_u.g 0 rfl)) (hk0 h_u.1))) (fun r1 u2 e9 => h_u.fr (fr_X10_workersNow (P := PT) N x0 u clPT trivial _ _ e9).1) (fun r1 u2 h_u2 => ?_)
  refine eq_cH rfl (fun r3 u4 e9 => h_u2.fr (fr_X10_bitOf (P := PT) N r1 x1 u2 clPT _ _ e9).1) (fun r3 u4 h_u4 => ?_)
  refine eq_if ?_ ?_
  · exact egX10_sleep_57 N    x0 x1 x2 s0 (1 : Int32) u4 (hkc (show zK u4 x0 = 11 from (h_u4.g 0 rfl)) (hk0 h_u4.1))
  · exact egX10_sleep_57 N    x0 x1 x2 s0 (0 : Int32) u4 (hkc (show zK u4 x0 = 11 from (h_u4.g 0 rfl)) (hk0 h_u4.1))
set_option maxRecDepth 20000 in
def hX10_sleep (N : Nat)  (a0 : Nat) (p1 : Int32) (p2 : Int32) (u : SG) : Option (Int32 × SG) := cl (hX7_isPerson N (a0 + 18) p1 u) fun r3 u4 => (if r3 = 0 then (some ((0 : Int32), u4))
  else (cl (fX10_bitOf N (zI u4 (a0 + 25) 2) p1 u4) fun r7 u8 => (if r7 = (1 : Int32) then (hgX10_sleep_39 N    a0 p1 p2 (1 : Int32) u8)
  else (hgX10_sleep_39 N    a0 p1 p2 (0 : Int32) u8))))
set_option maxRecDepth 20000 in
theorem eX10_sleep (N : Nat)  (a0 : Nat) (p1 : Int32) (p2 : Int32) (u : SG) (h_u : HK [(some a0, 11)] u) : fX10_sleep N  a0 p1 p2 u = hX10_sleep N  a0 p1 p2 u := by
  unfold fX10_sleep hX10_sleep
  refine eq_g (show zK u a0 = 11 from (h_u.g 0 rfl)) ?_
  refine eq_bR (show zR u a0 6 = some (a0 + 17) from lyR_11_6 h_u.1 (h_u.g 0 rfl)) ?_
  refine eq_g (show zK u (a0 + 17) = 7 from (lyK_11_6 h_u.1 (h_u.g 0 rfl))) ?_
  refine eq_bR (show zR u (a0 + 17) 0 = some (a0 + 18) from lyR_7_0 h_u.1 (lyK_11_6 h_u.1 (h_u.g 0 rfl))) ?_
  refine eq_g (show zK u (a0 + 18) = 8 from (lyK_7_0 h_u.1 (lyK_11_6 h_u.1 (h_u.g 0 rfl)))) ?_
  refine eq_cH (eX7_isPerson N (a0 + 18) p1 u (hkc (show zK u (a0 + 18) = 8 from (lyK_7_0 h_u.1 (lyK_11_6 h_u.1 (h_u.g 0 rfl)))) (hk0 h_u.1))) (fun r3 u4 e9 => h_u.fr (fr_X7_isPerson (P := PT) N (a0 + 18) p1 u clPT trivial _ _ e9).1) (fun r3 u4 h_u4 => ?_)
  refine eq_if ?_ ?_
  · rfl
  · refine eq_g (show zK u4 a0 = 11 from (h_u4.g 0 rfl)) ?_
    refine eq_bR (show zR u4 a0 6 = some (a0 + 17) from lyR_11_6 h_u4.1 (h_u4.g 0 rfl)) ?_
    refine eq_g (show zK u4 (a0 + 17) = 7 from (lyK_11_6 h_u4.1 (h_u4.g 0 rfl))) ?_
    refine eq_bR (show zR u4 (a0 + 17) 1 = some (a0 + 25) from lyR_7_1 h_u4.1 (lyK_11_6 h_u4.1 (h_u4.g 0 rfl))) ?_
    refine eq_g (show zK u4 (a0 + 25) = 3 from (lyK_7_1 h_u4.1 (lyK_11_6 h_u4.1 (h_u4.g 0 rfl)))) ?_
    refine eq_cH rfl (fun r7 u8 e9 => h_u4.fr (fr_X10_bitOf (P := PT) N (zI u4 (a0 + 25) 2) p1 u4 clPT _ _ e9).1) (fun r7 u8 h_u8 => ?_)
    refine eq_if ?_ ?_
    · exact egX10_sleep_39 N    a0 p1 p2 (1 : Int32) u8 (hkc (show zK u8 a0 = 11 from (h_u8.g 0 rfl)) (hk0 h_u8.1))
    · exact egX10_sleep_39 N    a0 p1 p2 (0 : Int32) u8 (hkc (show zK u8 a0 = 11 from (h_u8.g 0 rfl)) (hk0 h_u8.1))
set_option maxRecDepth 20000 in
def hgX10_light_33 (N : Nat)   (x0 : Nat) (x1 : Int32) (x2 : Int32) (s0 : Int32) (u : SG) : Option (Int32 × SG) := if s0 = x2 then (some ((0 : Int32), u))
  else (cl (hX0_keep N (x0 + 35) (x0 + 25) u) fun r4 u5 => (cl (hX2_setLamp N (x0 + 25) x1 x2 u5) fun r8 u9 => (some ((1 : Int32), u9))))
set_option maxRecDepth 20000 in
theorem egX10_light_33 (N : Nat)   (x0 : Nat) (x1 : Int32) (x2 : Int32) (s0 : Int32) (u : SG) (h_u : HK [(some x0, 11)] u) : gX10_light_33 N   x0 x1 x2 s0 u = hgX10_light_33 N   x0 x1 x2 s0 u := by
  unfold gX10_light_33 hgX10_light_33
  refine eq_if ?_ ?_
  · rfl
  · refine eq_g (show zK u x0 = 11 from (h_u.g 0 rfl)) ?_
    refine eq_bR (show zR u x0 8 = some (x0 + 35) from lyR_11_8 h_u.1 (h_u.g 0 rfl)) ?_
    refine eq_g (show zK u x0 = 11 from (h_u.g 0 rfl)) ?_
    refine eq_bR (show zR u x0 6 = some (x0 + 17) from lyR_11_6 h_u.1 (h_u.g 0 rfl)) ?_
    refine eq_g (show zK u (x0 + 17) = 7 from (lyK_11_6 h_u.1 (h_u.g 0 rfl))) ?_
    refine eq_bR (show zR u (x0 + 17) 1 = some (x0 + 25) from lyR_7_1 h_u.1 (lyK_11_6 h_u.1 (h_u.g 0 rfl))) ?_
    refine eq_g (show zK u (x0 + 35) = 1 from (lyK_11_8 h_u.1 (h_u.g 0 rfl))) ?_
    refine eq_cH (eX0_keep N (x0 + 35) (x0 + 25) u (hkc (show zK u (x0 + 35) = 1 from (lyK_11_8 h_u.1 (h_u.g 0 rfl))) (hkc (show zK u (x0 + 25) = 3 from (lyK_7_1 h_u.1 (lyK_11_6 h_u.1 (h_u.g 0 rfl)))) (hk0 h_u.1)))) (fun r4 u5 e9 => h_u.fr (fr_X0_keep (P := PT) N (x0 + 35) (x0 + 25) u clPT trivial trivial _ _ e9).1) (fun r4 u5 h_u5 => ?_)
    refine eq_g (show zK u5 x0 = 11 from (h_u5.g 0 rfl)) ?_
    refine eq_bR (show zR u5 x0 6 = some (x0 + 17) from lyR_11_6 h_u5.1 (h_u5.g 0 rfl)) ?_
    refine eq_g (show zK u5 (x0 + 17) = 7 from (lyK_11_6 h_u5.1 (h_u5.g 0 rfl))) ?_
    refine eq_bR (show zR u5 (x0 + 17) 1 = some (x0 + 25) from lyR_7_1 h_u5.1 (lyK_11_6 h_u5.1 (h_u5.g 0 rfl))) ?_
    refine eq_g (show zK u5 (x0 + 25) = 3 from (lyK_7_1 h_u5.1 (lyK_11_6 h_u5.1 (h_u5.g 0 rfl)))) ?_
    refine eq_cH (eX2_setLamp N (x0 + 25) x1 x2 u5 (hkc (show zK u5 (x0 + 25) = 3 from (lyK_7_1 h_u5.1 (lyK_11_6 h_u5.1 (h_u5.g 0 rfl)))) (hk0 h_u5.1))) (fun r8 u9 e9 => h_u5.fr (fr_X2_setLamp (P := PT) N (x0 + 25) x1 x2 u5 clPT trivial _ _ e9).1) (fun r8 u9 h_u9 => ?_)
    rfl
set_option maxRecDepth 20000 in
def hX10_light (N : Nat)  (a0 : Nat) (p1 : Int32) (p2 : Int32) (u : SG) : Option (Int32 × SG) := cl (hX7_isLamp N (a0 + 18) p1 u) fun r3 u4 => (if r3 = 0 then (some ((0 : Int32), u4))
  else (cl (hX10_burningNow N a0 u4) fun r5 u6 => (cl (fX10_bitOf N r5 p1 u6) fun r7 u8 => (if r7 = (1 : Int32) then (hgX10_light_33 N    a0 p1 p2 (1 : Int32) u8)
  else (hgX10_light_33 N    a0 p1 p2 (0 : Int32) u8)))))
set_option maxRecDepth 20000 in
theorem eX10_light (N : Nat)  (a0 : Nat) (p1 : Int32) (p2 : Int32) (u : SG) (h_u : HK [(some a0, 11)] u) : fX10_light N  a0 p1 p2 u = hX10_light N  a0 p1 p2 u := by
  unfold fX10_light hX10_light
  refine eq_g (show zK u a0 = 11 from (h_u.g 0 rfl)) ?_
  refine eq_bR (show zR u a0 6 = some (a0 + 17) from lyR_11_6 h_u.1 (h_u.g 0 rfl)) ?_
  refine eq_g (show zK u (a0 + 17) = 7 from (lyK_11_6 h_u.1 (h_u.g 0 rfl))) ?_
  refine eq_bR (show zR u (a0 + 17) 0 = some (a0 + 18) from lyR_7_0 h_u.1 (lyK_11_6 h_u.1 (h_u.g 0 rfl))) ?_
  refine eq_g (show zK u (a0 + 18) = 8 from (lyK_7_0 h_u.1 (lyK_11_6 h_u.1 (h_u.g 0 rfl)))) ?_
  refine eq_cH (eX7_isLamp N (a0 + 18) p1 u (hkc (show zK u (a0 + 18) = 8 from (lyK_7_0 h_u.1 (lyK_11_6 h_u.1 (h_u.g 0 rfl)))) (hk0 h_u.1))) (fun r3 u4 e9 => h_u.fr (fr_X7_isLamp (P := PT) N (a0 + 18) p1 u clPT trivial _ _ e9).1) (fun r3 u4 h_u4 => ?_)
  refine eq_if ?_ ?_
  · rfl
  · refine eq_g (show zK u4 a0 = 11 from (h_u4.g 0 rfl)) ?_
    refine eq_cH (eX10_burningNow N a0 u4 (hkc (show zK u4 a0 = 11 from (h_u4.g 0 rfl)) (hk0 h_u4.1))) (fun r5 u6 e9 => h_u4.fr (fr_X10_burningNow (P := PT) N a0 u4 clPT trivial _ _ e9).1) (fun r5 u6 h_u6 => ?_)
    refine eq_cH rfl (fun r7 u8 e9 => h_u6.fr (fr_X10_bitOf (P := PT) N r5 p1 u6 clPT _ _ e9).1) (fun r7 u8 h_u8 => ?_)
    refine eq_if ?_ ?_
    · exact egX10_light_33 N    a0 p1 p2 (1 : Int32) u8 (hkc (show zK u8 a0 = 11 from (h_u8.g 0 rfl)) (hk0 h_u8.1))
    · exact egX10_light_33 N    a0 p1 p2 (0 : Int32) u8 (hkc (show zK u8 a0 = 11 from (h_u8.g 0 rfl)) (hk0 h_u8.1))
set_option maxRecDepth 20000 in
def hX10_undo (N : Nat)  (a0 : Nat) (u : SG) : Option (Int32 × SG) := cl (hX0_takeBack N (a0 + 35) (a0 + 25) u) fun r4 u5 => (if r4 = 0 then (some ((-1 : Int32), u5))
  else (some (zI u5 (a0 + 35) 2, u5)))
set_option maxRecDepth 20000 in
theorem eX10_undo (N : Nat)  (a0 : Nat) (u : SG) (h_u : HK [(some a0, 11)] u) : fX10_undo N  a0 u = hX10_undo N  a0 u := by
  unfold fX10_undo hX10_undo
  refine eq_g (show zK u a0 = 11 from (h_u.g 0 rfl)) ?_
  refine eq_bR (show zR u a0 8 = some (a0 + 35) from lyR_11_8 h_u.1 (h_u.g 0 rfl)) ?_
  refine eq_g (show zK u a0 = 11 from (h_u.g 0 rfl)) ?_
  refine eq_bR (show zR u a0 6 = some (a0 + 17) from lyR_11_6 h_u.1 (h_u.g 0 rfl)) ?_
  refine eq_g (show zK u (a0 + 17) = 7 from (lyK_11_6 h_u.1 (h_u.g 0 rfl))) ?_
  refine eq_bR (show zR u (a0 + 17) 1 = some (a0 + 25) from lyR_7_1 h_u.1 (lyK_11_6 h_u.1 (h_u.g 0 rfl))) ?_
  refine eq_g (show zK u (a0 + 35) = 1 from (lyK_11_8 h_u.1 (h_u.g 0 rfl))) ?_
  refine eq_cH (eX0_takeBack N (a0 + 35) (a0 + 25) u (hkc (show zK u (a0 + 35) = 1 from (lyK_11_8 h_u.1 (h_u.g 0 rfl))) (hkc (show zK u (a0 + 25) = 3 from (lyK_7_1 h_u.1 (lyK_11_6 h_u.1 (h_u.g 0 rfl)))) (hk0 h_u.1)))) (fun r4 u5 e9 => h_u.fr (fr_X0_takeBack (P := PT) N (a0 + 35) (a0 + 25) u clPT trivial trivial _ _ e9).1) (fun r4 u5 h_u5 => ?_)
  refine eq_if ?_ ?_
  · rfl
  · refine eq_g (show zK u5 a0 = 11 from (h_u5.g 0 rfl)) ?_
    refine eq_bR (show zR u5 a0 8 = some (a0 + 35) from lyR_11_8 h_u5.1 (h_u5.g 0 rfl)) ?_
    refine eq_g (show zK u5 (a0 + 35) = 1 from (lyK_11_8 h_u5.1 (h_u5.g 0 rfl))) ?_
    rfl
set_option maxRecDepth 20000 in
def hX10_isDebtor (N : Nat)  (a0 : Nat) (p1 : Int32) (u : SG) : Option (Int32 × SG) := cl (hX7_isTold N (a0 + 18) u) fun r3 u4 => (if r3 = 0 then (some ((0 : Int32), u4))
  else (if p1 = (-1 : Int32) then (some ((1 : Int32), u4))
  else (cl (hX7_isPerson N (a0 + 18) p1 u4) fun r7 u8 => (if r7 = 0 then (some ((0 : Int32), u8))
  else (some ((1 : Int32), u8))))))
set_option maxRecDepth 20000 in
theorem eX10_isDebtor (N : Nat)  (a0 : Nat) (p1 : Int32) (u : SG) (h_u : HK [(some a0, 11)] u) : fX10_isDebtor N  a0 p1 u = hX10_isDebtor N  a0 p1 u := by
  unfold fX10_isDebtor hX10_isDebtor
  refine eq_g (show zK u a0 = 11 from (h_u.g 0 rfl)) ?_
  refine eq_bR (show zR u a0 6 = some (a0 + 17) from lyR_11_6 h_u.1 (h_u.g 0 rfl)) ?_
  refine eq_g (show zK u (a0 + 17) = 7 from (lyK_11_6 h_u.1 (h_u.g 0 rfl))) ?_
  refine eq_bR (show zR u (a0 + 17) 0 = some (a0 + 18) from lyR_7_0 h_u.1 (lyK_11_6 h_u.1 (h_u.g 0 rfl))) ?_
  refine eq_g (show zK u (a0 + 18) = 8 from (lyK_7_0 h_u.1 (lyK_11_6 h_u.1 (h_u.g 0 rfl)))) ?_
  refine eq_cH (eX7_isTold N (a0 + 18) u (hkc (show zK u (a0 + 18) = 8 from (lyK_7_0 h_u.1 (lyK_11_6 h_u.1 (h_u.g 0 rfl)))) (hk0 h_u.1))) (fun r3 u4 e9 => h_u.fr (fr_X7_isTold (P := PT) N (a0 + 18) u clPT trivial _ _ e9).1) (fun r3 u4 h_u4 => ?_)
  refine eq_if ?_ ?_
  · rfl
  · refine eq_if ?_ ?_
    · rfl
    · refine eq_g (show zK u4 a0 = 11 from (h_u4.g 0 rfl)) ?_
      refine eq_bR (show zR u4 a0 6 = some (a0 + 17) from lyR_11_6 h_u4.1 (h_u4.g 0 rfl)) ?_
      refine eq_g (show zK u4 (a0 + 17) = 7 from (lyK_11_6 h_u4.1 (h_u4.g 0 rfl))) ?_
      refine eq_bR (show zR u4 (a0 + 17) 0 = some (a0 + 18) from lyR_7_0 h_u4.1 (lyK_11_6 h_u4.1 (h_u4.g 0 rfl))) ?_
      refine eq_g (show zK u4 (a0 + 18) = 8 from (lyK_7_0 h_u4.1 (lyK_11_6 h_u4.1 (h_u4.g 0 rfl)))) ?_
      refine eq_cH (eX7_isPerson N (a0 + 18) p1 u4 (hkc (show zK u4 (a0 + 18) = 8 from (lyK_7_0 h_u4.1 (lyK_11_6 h_u4.1 (h_u4.g 0 rfl)))) (hk0 h_u4.1))) (fun r7 u8 e9 => h_u4.fr (fr_X7_isPerson (P := PT) N (a0 + 18) p1 u4 clPT trivial _ _ e9).1) (fun r7 u8 h_u8 => ?_)
      refine eq_if ?_ ?_
      · rfl
      · rfl
set_option maxRecDepth 20000 in
def hX10_owed (N : Nat)  (a0 : Nat) (p1 : Int32) (p2 : Int32) (u : SG) : Option (Int32 × SG) := cl (hX10_isDebtor N a0 p1 u) fun r1 u2 => (if r1 = 0 then (some ((-1 : Int32), u2))
  else (cl (fX10_isPart N p2 u2) fun r3 u4 => (if r3 = 0 then (some ((-1 : Int32), u4))
  else (cl (fX10_debtorRow N p1 u4) fun r8 u9 => (if r8 < 0 ∨ 6 ≤ r8.toNatClampNeg then none else (cl (fX10_fraction N (zL u9 (a0 + 28) r8.toNatClampNeg) (60 : Int64) p2 u9) fun r10 u11 => (some (r10, u11))))))))
set_option maxRecDepth 20000 in
theorem eX10_owed (N : Nat)  (a0 : Nat) (p1 : Int32) (p2 : Int32) (u : SG) (h_u : HK [(some a0, 11)] u) : fX10_owed N  a0 p1 p2 u = hX10_owed N  a0 p1 p2 u := by
  unfold fX10_owed hX10_owed
  refine eq_g (show zK u a0 = 11 from (h_u.g 0 rfl)) ?_
  refine eq_cH (eX10_isDebtor N a0 p1 u (hkc (show zK u a0 = 11 from (h_u.g 0 rfl)) (hk0 h_u.1))) (fun r1 u2 e9 => h_u.fr (fr_X10_isDebtor (P := PT) N a0 p1 u clPT trivial _ _ e9).1) (fun r1 u2 h_u2 => ?_)
  refine eq_if ?_ ?_
  · rfl
  · refine eq_cH rfl (fun r3 u4 e9 => h_u2.fr (fr_X10_isPart (P := PT) N p2 u2 clPT _ _ e9).1) (fun r3 u4 h_u4 => ?_)
    refine eq_if ?_ ?_
    · rfl
    · refine eq_g (show zK u4 a0 = 11 from (h_u4.g 0 rfl)) ?_
      refine eq_bR (show zR u4 a0 6 = some (a0 + 17) from lyR_11_6 h_u4.1 (h_u4.g 0 rfl)) ?_
      refine eq_g (show zK u4 (a0 + 17) = 7 from (lyK_11_6 h_u4.1 (h_u4.g 0 rfl))) ?_
      refine eq_bR (show zR u4 (a0 + 17) 1 = some (a0 + 25) from lyR_7_1 h_u4.1 (lyK_11_6 h_u4.1 (h_u4.g 0 rfl))) ?_
      refine eq_g (show zK u4 (a0 + 25) = 3 from (lyK_7_1 h_u4.1 (lyK_11_6 h_u4.1 (h_u4.g 0 rfl)))) ?_
      refine eq_bR (show zR u4 (a0 + 25) 7 = some (a0 + 28) from lyR_3_7 h_u4.1 (lyK_7_1 h_u4.1 (lyK_11_6 h_u4.1 (h_u4.g 0 rfl)))) ?_
      refine eq_cH rfl (fun r8 u9 e9 => h_u4.fr (fr_X10_debtorRow (P := PT) N p1 u4 clPT _ _ e9).1) (fun r8 u9 h_u9 => ?_)
      refine eq_g (show zK u9 (a0 + 28) = 23 from (lyK_3_7 h_u9.1 (lyK_7_1 h_u9.1 (lyK_11_6 h_u9.1 (h_u9.g 0 rfl))))) ?_
      refine eq_ixh (show zN u9 (a0 + 28) = 6 from lyN_3_7 h_u9.1 (lyK_7_1 h_u9.1 (lyK_11_6 h_u9.1 (h_u9.g 0 rfl)))) (fun hix1 => ?_)
      refine eq_cH rfl (fun r10 u11 e9 => h_u9.fr (fr_X10_fraction (P := PT) N (zL u9 (a0 + 28) r8.toNatClampNeg) (60 : Int64) p2 u9 clPT _ _ e9).1) (fun r10 u11 h_u11 => ?_)
      rfl
set_option maxRecDepth 20000 in
def hgX10_playTrial_2 (N : Nat)   : Nat → Nat → Int32 → Int32 → SG → Option (Unit × SG)
  | 0, _, _, _, _ => none
  | n + 1, x0, x1, x2, u => if x1 ≤ x2 then (some ((), u))
  else (cl (hX10_ruleNow N x0 u) fun r5 u6 => (cl (hX3_play N (x0 + 117) (x0 + 18) (x0 + 119) r5 u6) fun r7 u8 => ((hgX10_playTrial_2 N   n) x0 x1 (x2 + (1 : Int32)) u8)))
set_option maxRecDepth 20000 in
theorem egX10_playTrial_2 (N : Nat)   : ∀ (n : Nat) (x0 : Nat) (x1 : Int32) (x2 : Int32) (u : SG), HK [(some x0, 11)] u → gX10_playTrial_2 N   n x0 x1 x2 u = hgX10_playTrial_2 N   n x0 x1 x2 u := by
  intro n
  induction n with
  | zero => intros; rfl
  | succ n ih =>
    intro x0 x1 x2 u h_u
    have hrc2 := ih
    rw [gX10_playTrial_2, hgX10_playTrial_2]
    refine eq_if ?_ ?_
    · rfl
    · refine eq_g (show zK u x0 = 11 from (h_u.g 0 rfl)) ?_
      refine eq_bR (show zR u x0 9 = some (x0 + 117) from lyR_11_9 h_u.1 (h_u.g 0 rfl)) ?_
      refine eq_g (show zK u x0 = 11 from (h_u.g 0 rfl)) ?_
      refine eq_bR (show zR u x0 6 = some (x0 + 17) from lyR_11_6 h_u.1 (h_u.g 0 rfl)) ?_
      refine eq_g (show zK u (x0 + 17) = 7 from (lyK_11_6 h_u.1 (h_u.g 0 rfl))) ?_
      refine eq_bR (show zR u (x0 + 17) 0 = some (x0 + 18) from lyR_7_0 h_u.1 (lyK_11_6 h_u.1 (h_u.g 0 rfl))) ?_
      refine eq_g (show zK u x0 = 11 from (h_u.g 0 rfl)) ?_
      refine eq_bR (show zR u x0 10 = some (x0 + 119) from lyR_11_10 h_u.1 (h_u.g 0 rfl)) ?_
      refine eq_g (show zK u x0 = 11 from (h_u.g 0 rfl)) ?_
      refine eq_cR (eX10_ruleNow N x0 u (hkc (show zK u x0 = 11 from (h_u.g 0 rfl)) (hk0 h_u.1))) (fun r5 u6 e9 => ⟨h_u.fr (fr_X10_ruleNow (P := PT) N x0 u clPT trivial _ _ e9).1, rn_K (show zK u x0 = 11 from (h_u.g 0 rfl)) h_u.1 e9⟩) (fun r5 u6 h_u6 hr_r5 => ?_)
      refine eq_g (show zK u6 (x0 + 117) = 4 from (lyK_11_9 h_u6.1 (h_u6.g 0 rfl))) ?_
      refine eq_cH (eX3_play N (x0 + 117) (x0 + 18) (x0 + 119) r5 u6 (hkc (show zK u6 (x0 + 117) = 4 from (lyK_11_9 h_u6.1 (h_u6.g 0 rfl))) (hkc (show zK u6 (x0 + 18) = 8 from (lyK_7_0 h_u6.1 (lyK_11_6 h_u6.1 (h_u6.g 0 rfl)))) (hkc (show zK u6 (x0 + 119) = 3 from (lyK_11_10 h_u6.1 (h_u6.g 0 rfl))) (hkq hr_r5 (hk0 h_u6.1)))))) (fun r7 u8 e9 => h_u6.fr (fr_X3_play (P := PT) N (x0 + 117) (x0 + 18) (x0 + 119) r5 u6 clPT trivial trivial trivial (fun _ _ => trivial) _ _ e9).1) (fun r7 u8 h_u8 => ?_)
      exact hrc2 x0 x1 (x2 + (1 : Int32)) u8 (hkc (show zK u8 x0 = 11 from (h_u8.g 0 rfl)) (hk0 h_u8.1))
set_option maxRecDepth 20000 in
def hX10_playTrial (N : Nat)  (a0 : Nat) (p1 : Int32) (u : SG) : Option (Unit × SG) := hgX10_playTrial_2 N   N a0 p1 (0 : Int32) u
set_option maxRecDepth 20000 in
theorem eX10_playTrial (N : Nat)  (a0 : Nat) (p1 : Int32) (u : SG) (h_u : HK [(some a0, 11)] u) : fX10_playTrial N  a0 p1 u = hX10_playTrial N  a0 p1 u := by
  unfold fX10_playTrial hX10_playTrial
  exact egX10_playTrial_2 N   N a0 p1 (0 : Int32) u (hkc (show zK u a0 = 11 from (h_u.g 0 rfl)) (hk0 h_u.1))
set_option maxRecDepth 20000 in
def hX10_ahead (N : Nat)  (a0 : Nat) (p1 : Int32) (p2 : Int32) (p3 : Int32) (u : SG) : Option (Int32 × SG) := cl (hX7_isPerson N (a0 + 18) p1 u) fun r3 u4 => (if r3 = 0 then (some ((-1 : Int32), u4))
  else (if p2 < 0 then (some ((-1 : Int32), u4))
  else (if p2 ≤ (100 : Int32) then (if p3 < 0 then (some ((-1 : Int32), u4))
  else (if p3 ≤ (2 : Int32) then (cl (hX2_copyOf N (a0 + 119) (a0 + 25) u4) fun r8 u9 => (cl (hX10_playTrial N a0 p2 u9) fun r10 u11 => (if p3 = 0 then (cl (fX10_bitOf N (zI u11 (a0 + 119) 2) p1 u11) fun r17 u18 => (some (r17, u18)))
  else (if p3 = (1 : Int32) then (if p1 < 0 ∨ 5 ≤ p1.toNatClampNeg then none else (some (zI u11 (a0 + 120) p1.toNatClampNeg, u11)))
  else (if p1 < 0 ∨ 5 ≤ p1.toNatClampNeg then none else (some (zI u11 (a0 + 121) p1.toNatClampNeg, u11)))))))
  else (some ((-1 : Int32), u4))))
  else (some ((-1 : Int32), u4)))))
set_option maxRecDepth 20000 in
theorem eX10_ahead (N : Nat)  (a0 : Nat) (p1 : Int32) (p2 : Int32) (p3 : Int32) (u : SG) (h_u : HK [(some a0, 11)] u) : fX10_ahead N  a0 p1 p2 p3 u = hX10_ahead N  a0 p1 p2 p3 u := by
  unfold fX10_ahead hX10_ahead
  refine eq_g (show zK u a0 = 11 from (h_u.g 0 rfl)) ?_
  refine eq_bR (show zR u a0 6 = some (a0 + 17) from lyR_11_6 h_u.1 (h_u.g 0 rfl)) ?_
  refine eq_g (show zK u (a0 + 17) = 7 from (lyK_11_6 h_u.1 (h_u.g 0 rfl))) ?_
  refine eq_bR (show zR u (a0 + 17) 0 = some (a0 + 18) from lyR_7_0 h_u.1 (lyK_11_6 h_u.1 (h_u.g 0 rfl))) ?_
  refine eq_g (show zK u (a0 + 18) = 8 from (lyK_7_0 h_u.1 (lyK_11_6 h_u.1 (h_u.g 0 rfl)))) ?_
  refine eq_cH (eX7_isPerson N (a0 + 18) p1 u (hkc (show zK u (a0 + 18) = 8 from (lyK_7_0 h_u.1 (lyK_11_6 h_u.1 (h_u.g 0 rfl)))) (hk0 h_u.1))) (fun r3 u4 e9 => h_u.fr (fr_X7_isPerson (P := PT) N (a0 + 18) p1 u clPT trivial _ _ e9).1) (fun r3 u4 h_u4 => ?_)
  refine eq_if ?_ ?_
  · rfl
  · refine eq_if ?_ ?_
    · rfl
    · refine eq_if ?_ ?_
      · refine eq_if ?_ ?_
        · rfl
        · refine eq_if ?_ ?_
          · refine eq_g (show zK u4 a0 = 11 from (h_u4.g 0 rfl)) ?_
            refine eq_bR (show zR u4 a0 10 = some (a0 + 119) from lyR_11_10 h_u4.1 (h_u4.g 0 rfl)) ?_
            refine eq_g (show zK u4 a0 = 11 from (h_u4.g 0 rfl)) ?_
            refine eq_bR (show zR u4 a0 6 = some (a0 + 17) from lyR_11_6 h_u4.1 (h_u4.g 0 rfl)) ?_
            refine eq_g (show zK u4 (a0 + 17) = 7 from (lyK_11_6 h_u4.1 (h_u4.g 0 rfl))) ?_
            refine eq_bR (show zR u4 (a0 + 17) 1 = some (a0 + 25) from lyR_7_1 h_u4.1 (lyK_11_6 h_u4.1 (h_u4.g 0 rfl))) ?_
            refine eq_g (show zK u4 (a0 + 119) = 3 from (lyK_11_10 h_u4.1 (h_u4.g 0 rfl))) ?_
            refine eq_cH (eX2_copyOf N (a0 + 119) (a0 + 25) u4 (hkc (show zK u4 (a0 + 119) = 3 from (lyK_11_10 h_u4.1 (h_u4.g 0 rfl))) (hkc (show zK u4 (a0 + 25) = 3 from (lyK_7_1 h_u4.1 (lyK_11_6 h_u4.1 (h_u4.g 0 rfl)))) (hk0 h_u4.1)))) (fun r8 u9 e9 => h_u4.fr (fr_X2_copyOf (P := PT) N (a0 + 119) (a0 + 25) u4 clPT trivial trivial _ _ e9).1) (fun r8 u9 h_u9 => ?_)
            refine eq_g (show zK u9 a0 = 11 from (h_u9.g 0 rfl)) ?_
            refine eq_cH (eX10_playTrial N a0 p2 u9 (hkc (show zK u9 a0 = 11 from (h_u9.g 0 rfl)) (hk0 h_u9.1))) (fun r10 u11 e9 => h_u9.fr (fr_X10_playTrial (P := PT) N a0 p2 u9 clPT trivial _ _ e9).1) (fun r10 u11 h_u11 => ?_)
            refine eq_if ?_ ?_
            · refine eq_g (show zK u11 a0 = 11 from (h_u11.g 0 rfl)) ?_
              refine eq_bR (show zR u11 a0 10 = some (a0 + 119) from lyR_11_10 h_u11.1 (h_u11.g 0 rfl)) ?_
              refine eq_g (show zK u11 (a0 + 119) = 3 from (lyK_11_10 h_u11.1 (h_u11.g 0 rfl))) ?_
              refine eq_cH rfl (fun r17 u18 e9 => h_u11.fr (fr_X10_bitOf (P := PT) N (zI u11 (a0 + 119) 2) p1 u11 clPT _ _ e9).1) (fun r17 u18 h_u18 => ?_)
              rfl
            · refine eq_if ?_ ?_
              · refine eq_g (show zK u11 a0 = 11 from (h_u11.g 0 rfl)) ?_
                refine eq_bR (show zR u11 a0 10 = some (a0 + 119) from lyR_11_10 h_u11.1 (h_u11.g 0 rfl)) ?_
                refine eq_g (show zK u11 (a0 + 119) = 3 from (lyK_11_10 h_u11.1 (h_u11.g 0 rfl))) ?_
                refine eq_bR (show zR u11 (a0 + 119) 5 = some (a0 + 120) from lyR_3_5 h_u11.1 (lyK_11_10 h_u11.1 (h_u11.g 0 rfl))) ?_
                refine eq_g (show zK u11 (a0 + 120) = 22 from (lyK_3_5 h_u11.1 (lyK_11_10 h_u11.1 (h_u11.g 0 rfl)))) ?_
                refine eq_ixh (show zN u11 (a0 + 120) = 5 from lyN_3_5 h_u11.1 (lyK_11_10 h_u11.1 (h_u11.g 0 rfl))) (fun hix1 => ?_)
                rfl
              · refine eq_g (show zK u11 a0 = 11 from (h_u11.g 0 rfl)) ?_
                refine eq_bR (show zR u11 a0 10 = some (a0 + 119) from lyR_11_10 h_u11.1 (h_u11.g 0 rfl)) ?_
                refine eq_g (show zK u11 (a0 + 119) = 3 from (lyK_11_10 h_u11.1 (h_u11.g 0 rfl))) ?_
                refine eq_bR (show zR u11 (a0 + 119) 6 = some (a0 + 121) from lyR_3_6 h_u11.1 (lyK_11_10 h_u11.1 (h_u11.g 0 rfl))) ?_
                refine eq_g (show zK u11 (a0 + 121) = 22 from (lyK_3_6 h_u11.1 (lyK_11_10 h_u11.1 (h_u11.g 0 rfl)))) ?_
                refine eq_ixh (show zN u11 (a0 + 121) = 5 from lyN_3_6 h_u11.1 (lyK_11_10 h_u11.1 (h_u11.g 0 rfl))) (fun hix2 => ?_)
                rfl
          · rfl
      · rfl
set_option maxRecDepth 20000 in
def hgX10_cheapestHours_43 (N : Nat)  (rc5 : Nat → Int32 → Int32 → Int32 → Int32 → SG → Option (Int32 × SG)) (rc17 : Nat → Int32 → Int32 → Int32 → Int32 → Int32 → Int32 → SG → Option (Int32 × SG)) (x0 : Nat) (x1 : Int32) (x2 : Int32) (x3 : Int32) (x4 : Int32) (x5 : Int32) (x6 : Int32) (s0 : Int32) (u : SG) : Option (Int32 × SG) := if s0 = 0 then (rc17 x0 x1 x2 x3 x4 x5 (x6 + (1 : Int32)) u)
  else (if x5 = (-1 : Int32) then (rc17 x0 x1 x2 x3 x4 x6 (x6 + (1 : Int32)) u)
  else (if x6 < 0 ∨ 10 ≤ x6.toNatClampNeg then none else (if x5 < 0 ∨ 10 ≤ x5.toNatClampNeg then none else (if (zI u (x0 + 123) x5.toNatClampNeg) ≤ (zI u (x0 + 123) x6.toNatClampNeg) then (rc17 x0 x1 x2 x3 x4 x5 (x6 + (1 : Int32)) u)
  else (rc17 x0 x1 x2 x3 x4 x6 (x6 + (1 : Int32)) u)))))
set_option maxRecDepth 20000 in
theorem egX10_cheapestHours_43 (N : Nat)  (rec5 : Nat → Int32 → Int32 → Int32 → Int32 → SG → Option (Int32 × SG)) (rc5 : Nat → Int32 → Int32 → Int32 → Int32 → SG → Option (Int32 × SG)) (hrc5 : ∀ (x0 : Nat) (x1 : Int32) (x2 : Int32) (x3 : Int32) (x4 : Int32) (u : SG), HK [(some x0, 11)] u → rec5 x0 x1 x2 x3 x4 u = rc5 x0 x1 x2 x3 x4 u) (rec17 : Nat → Int32 → Int32 → Int32 → Int32 → Int32 → Int32 → SG → Option (Int32 × SG)) (rc17 : Nat → Int32 → Int32 → Int32 → Int32 → Int32 → Int32 → SG → Option (Int32 × SG)) (hrc17 : ∀ (x0 : Nat) (x1 : Int32) (x2 : Int32) (x3 : Int32) (x4 : Int32) (x5 : Int32) (x6 : Int32) (u : SG), HK [(some x0, 11)] u → rec17 x0 x1 x2 x3 x4 x5 x6 u = rc17 x0 x1 x2 x3 x4 x5 x6 u) (x0 : Nat) (x1 : Int32) (x2 : Int32) (x3 : Int32) (x4 : Int32) (x5 : Int32) (x6 : Int32) (s0 : Int32) (u : SG) (h_u : HK [(some x0, 11)] u) : gX10_cheapestHours_43 N  rec5 rec17 x0 x1 x2 x3 x4 x5 x6 s0 u = hgX10_cheapestHours_43 N  rc5 rc17 x0 x1 x2 x3 x4 x5 x6 s0 u := by
  unfold gX10_cheapestHours_43 hgX10_cheapestHours_43
  refine eq_if ?_ ?_
  · exact hrc17 x0 x1 x2 x3 x4 x5 (x6 + (1 : Int32)) u (hkc (show zK u x0 = 11 from (h_u.g 0 rfl)) (hk0 h_u.1))
  · refine eq_if ?_ ?_
    · exact hrc17 x0 x1 x2 x3 x4 x6 (x6 + (1 : Int32)) u (hkc (show zK u x0 = 11 from (h_u.g 0 rfl)) (hk0 h_u.1))
    · refine eq_g (show zK u x0 = 11 from (h_u.g 0 rfl)) ?_
      refine eq_bR (show zR u x0 11 = some (x0 + 123) from lyR_11_11 h_u.1 (h_u.g 0 rfl)) ?_
      refine eq_g (show zK u (x0 + 123) = 22 from (lyK_11_11 h_u.1 (h_u.g 0 rfl))) ?_
      refine eq_ixh (show zN u (x0 + 123) = 10 from lyN_11_11 h_u.1 (h_u.g 0 rfl)) (fun hix1 => ?_)
      refine eq_g (show zK u x0 = 11 from (h_u.g 0 rfl)) ?_
      refine eq_bR (show zR u x0 11 = some (x0 + 123) from lyR_11_11 h_u.1 (h_u.g 0 rfl)) ?_
      refine eq_g (show zK u (x0 + 123) = 22 from (lyK_11_11 h_u.1 (h_u.g 0 rfl))) ?_
      refine eq_ixh (show zN u (x0 + 123) = 10 from lyN_11_11 h_u.1 (h_u.g 0 rfl)) (fun hix2 => ?_)
      refine eq_if ?_ ?_
      · exact hrc17 x0 x1 x2 x3 x4 x5 (x6 + (1 : Int32)) u (hkc (show zK u x0 = 11 from (h_u.g 0 rfl)) (hk0 h_u.1))
      · exact hrc17 x0 x1 x2 x3 x4 x6 (x6 + (1 : Int32)) u (hkc (show zK u x0 = 11 from (h_u.g 0 rfl)) (hk0 h_u.1))
set_option maxRecDepth 20000 in
def hgX10_cheapestHours_17 (N : Nat)  (rc5 : Nat → Int32 → Int32 → Int32 → Int32 → SG → Option (Int32 × SG)) : Nat → Nat → Int32 → Int32 → Int32 → Int32 → Int32 → Int32 → SG → Option (Int32 × SG)
  | 0, _, _, _, _, _, _, _, _ => none
  | n + 1, x0, x1, x2, x3, x4, x5, x6, u => if (10 : Int32) ≤ x6 then (if x5 = (-1 : Int32) then (rc5 x0 x1 x2 x3 (x4 + (1 : Int32)) u)
  else (bs (x3 ||| ((1 : Int32) <<< (x5 &&& 31))) fun v1 => (rc5 x0 x1 x2 v1 (x4 + (1 : Int32)) u)))
  else (cl (fX10_bitOf N (x1 &&& (x3 ^^^ (-1 : Int32))) x6 u) fun r2 u3 => (if r2 = (1 : Int32) then (hgX10_cheapestHours_43 N  rc5 (hgX10_cheapestHours_17 N  rc5 n)  x0 x1 x2 x3 x4 x5 x6 (1 : Int32) u3)
  else (hgX10_cheapestHours_43 N  rc5 (hgX10_cheapestHours_17 N  rc5 n)  x0 x1 x2 x3 x4 x5 x6 (0 : Int32) u3)))
set_option maxRecDepth 20000 in
theorem egX10_cheapestHours_17 (N : Nat)  (rec5 : Nat → Int32 → Int32 → Int32 → Int32 → SG → Option (Int32 × SG)) (rc5 : Nat → Int32 → Int32 → Int32 → Int32 → SG → Option (Int32 × SG)) (hrc5 : ∀ (x0 : Nat) (x1 : Int32) (x2 : Int32) (x3 : Int32) (x4 : Int32) (u : SG), HK [(some x0, 11)] u → rec5 x0 x1 x2 x3 x4 u = rc5 x0 x1 x2 x3 x4 u) : ∀ (n : Nat) (x0 : Nat) (x1 : Int32) (x2 : Int32) (x3 : Int32) (x4 : Int32) (x5 : Int32) (x6 : Int32) (u : SG), HK [(some x0, 11)] u → gX10_cheapestHours_17 N  rec5 n x0 x1 x2 x3 x4 x5 x6 u = hgX10_cheapestHours_17 N  rc5 n x0 x1 x2 x3 x4 x5 x6 u := by
  intro n
  induction n with
  | zero => intros; rfl
  | succ n ih =>
    intro x0 x1 x2 x3 x4 x5 x6 u h_u
    have hrc17 := ih
    rw [gX10_cheapestHours_17, hgX10_cheapestHours_17]
    refine eq_if ?_ ?_
    · refine eq_if ?_ ?_
      · exact hrc5 x0 x1 x2 x3 (x4 + (1 : Int32)) u (hkc (show zK u x0 = 11 from (h_u.g 0 rfl)) (hk0 h_u.1))
      · refine eq_bs (fun v1 => ?_)
        exact hrc5 x0 x1 x2 v1 (x4 + (1 : Int32)) u (hkc (show zK u x0 = 11 from (h_u.g 0 rfl)) (hk0 h_u.1))
    · refine eq_cH rfl (fun r2 u3 e9 => h_u.fr (fr_X10_bitOf (P := PT) N (x1 &&& (x3 ^^^ (-1 : Int32))) x6 u clPT _ _ e9).1) (fun r2 u3 h_u3 => ?_)
      refine eq_if ?_ ?_
      · exact egX10_cheapestHours_43 N  _ _ hrc5 _ _ hrc17  x0 x1 x2 x3 x4 x5 x6 (1 : Int32) u3 (hkc (show zK u3 x0 = 11 from (h_u3.g 0 rfl)) (hk0 h_u3.1))
      · exact egX10_cheapestHours_43 N  _ _ hrc5 _ _ hrc17  x0 x1 x2 x3 x4 x5 x6 (0 : Int32) u3 (hkc (show zK u3 x0 = 11 from (h_u3.g 0 rfl)) (hk0 h_u3.1))
set_option maxRecDepth 20000 in
def hgX10_cheapestHours_5 (N : Nat)   : Nat → Nat → Int32 → Int32 → Int32 → Int32 → SG → Option (Int32 × SG)
  | 0, _, _, _, _, _, _ => none
  | n + 1, x0, x1, x2, x3, x4, u => if x2 ≤ x4 then (some (x3, u))
  else (hgX10_cheapestHours_17 N  (hgX10_cheapestHours_5 N   n) N x0 x1 x2 x3 x4 (-1 : Int32) (0 : Int32) u)
set_option maxRecDepth 20000 in
theorem egX10_cheapestHours_5 (N : Nat)   : ∀ (n : Nat) (x0 : Nat) (x1 : Int32) (x2 : Int32) (x3 : Int32) (x4 : Int32) (u : SG), HK [(some x0, 11)] u → gX10_cheapestHours_5 N   n x0 x1 x2 x3 x4 u = hgX10_cheapestHours_5 N   n x0 x1 x2 x3 x4 u := by
  intro n
  induction n with
  | zero => intros; rfl
  | succ n ih =>
    intro x0 x1 x2 x3 x4 u h_u
    have hrc5 := ih
    rw [gX10_cheapestHours_5, hgX10_cheapestHours_5]
    refine eq_if ?_ ?_
    · rfl
    · exact egX10_cheapestHours_17 N  _ _ hrc5 N x0 x1 x2 x3 x4 (-1 : Int32) (0 : Int32) u (hkc (show zK u x0 = 11 from (h_u.g 0 rfl)) (hk0 h_u.1))
set_option maxRecDepth 20000 in
def hX10_cheapestHours (N : Nat)  (a0 : Nat) (p1 : Int32) (p2 : Int32) (u : SG) : Option (Int32 × SG) := hgX10_cheapestHours_5 N   N a0 p1 p2 (0 : Int32) (0 : Int32) u
set_option maxRecDepth 20000 in
theorem eX10_cheapestHours (N : Nat)  (a0 : Nat) (p1 : Int32) (p2 : Int32) (u : SG) (h_u : HK [(some a0, 11)] u) : fX10_cheapestHours N  a0 p1 p2 u = hX10_cheapestHours N  a0 p1 p2 u := by
  unfold fX10_cheapestHours hX10_cheapestHours
  exact egX10_cheapestHours_5 N   N a0 p1 p2 (0 : Int32) (0 : Int32) u (hkc (show zK u a0 = 11 from (h_u.g 0 rfl)) (hk0 h_u.1))
set_option maxRecDepth 20000 in
def hgX10_costOfHours_4 (N : Nat)   : Nat → Nat → Int32 → Int32 → Int32 → SG → Option (Int32 × SG)
  | 0, _, _, _, _, _ => none
  | n + 1, x0, x1, x2, x3, u => if (10 : Int32) ≤ x3 then (some (x2, u))
  else (cl (fX10_bitOf N x1 x3 u) fun r1 u2 => (if r1 = (1 : Int32) then (if x3 < 0 ∨ 10 ≤ x3.toNatClampNeg then none else (bs (x2 + (zI u2 (x0 + 123) x3.toNatClampNeg)) fun v4 => ((hgX10_costOfHours_4 N   n) x0 x1 v4 (x3 + (1 : Int32)) u2)))
  else ((hgX10_costOfHours_4 N   n) x0 x1 x2 (x3 + (1 : Int32)) u2)))
set_option maxRecDepth 20000 in
theorem egX10_costOfHours_4 (N : Nat)   : ∀ (n : Nat) (x0 : Nat) (x1 : Int32) (x2 : Int32) (x3 : Int32) (u : SG), HK [(some x0, 11)] u → gX10_costOfHours_4 N   n x0 x1 x2 x3 u = hgX10_costOfHours_4 N   n x0 x1 x2 x3 u := by
  intro n
  induction n with
  | zero => intros; rfl
  | succ n ih =>
    intro x0 x1 x2 x3 u h_u
    have hrc4 := ih
    rw [gX10_costOfHours_4, hgX10_costOfHours_4]
    refine eq_if ?_ ?_
    · rfl
    · refine eq_cH rfl (fun r1 u2 e9 => h_u.fr (fr_X10_bitOf (P := PT) N x1 x3 u clPT _ _ e9).1) (fun r1 u2 h_u2 => ?_)
      refine eq_if ?_ ?_
      · refine eq_g (show zK u2 x0 = 11 from (h_u2.g 0 rfl)) ?_
        refine eq_bR (show zR u2 x0 11 = some (x0 + 123) from lyR_11_11 h_u2.1 (h_u2.g 0 rfl)) ?_
        refine eq_g (show zK u2 (x0 + 123) = 22 from (lyK_11_11 h_u2.1 (h_u2.g 0 rfl))) ?_
        refine eq_ixh (show zN u2 (x0 + 123) = 10 from lyN_11_11 h_u2.1 (h_u2.g 0 rfl)) (fun hix1 => ?_)
        refine eq_bs (fun v4 => ?_)
        exact hrc4 x0 x1 v4 (x3 + (1 : Int32)) u2 (hkc (show zK u2 x0 = 11 from (h_u2.g 0 rfl)) (hk0 h_u2.1))
      · exact hrc4 x0 x1 x2 (x3 + (1 : Int32)) u2 (hkc (show zK u2 x0 = 11 from (h_u2.g 0 rfl)) (hk0 h_u2.1))
set_option maxRecDepth 20000 in
def hX10_costOfHours (N : Nat)  (a0 : Nat) (p1 : Int32) (u : SG) : Option (Int32 × SG) := hgX10_costOfHours_4 N   N a0 p1 (0 : Int32) (0 : Int32) u
set_option maxRecDepth 20000 in
theorem eX10_costOfHours (N : Nat)  (a0 : Nat) (p1 : Int32) (u : SG) (h_u : HK [(some a0, 11)] u) : fX10_costOfHours N  a0 p1 u = hX10_costOfHours N  a0 p1 u := by
  unfold fX10_costOfHours hX10_costOfHours
  exact egX10_costOfHours_4 N   N a0 p1 (0 : Int32) (0 : Int32) u (hkc (show zK u a0 = 11 from (h_u.g 0 rfl)) (hk0 h_u.1))
set_option maxRecDepth 20000 in
def hgX10_sleepTogether_99 (N : Nat)  (rc36 : Nat → Int32 → Int32 → Int32 → Nat → Int32 → Int32 → SG → Option (Int32 × SG)) (x0 : Nat) (x1 : Int32) (x2 : Int32) (x3 : Int32) (x4 : Nat) (x5 : Int32) (x6 : Int32) (s0 : Int32) (u : SG) : Option (Int32 × SG) := if s0 = 0 then (rc36 x0 x1 x2 x3 x4 x5 (x6 + (1 : Int32)) u)
  else (cl (hX7_workersAt N x4 x6 u) fun r1 u2 => (if (r1 &&& x1) = 0 then (bs (x5 ||| ((1 : Int32) <<< (x6 &&& 31))) fun v3 => (rc36 x0 x1 x2 x3 x4 v3 (x6 + (1 : Int32)) u2))
  else (rc36 x0 x1 x2 x3 x4 x5 (x6 + (1 : Int32)) u2)))
set_option maxRecDepth 20000 in
theorem egX10_sleepTogether_99 (N : Nat)  (rec36 : Nat → Int32 → Int32 → Int32 → Nat → Int32 → Int32 → SG → Option (Int32 × SG)) (rc36 : Nat → Int32 → Int32 → Int32 → Nat → Int32 → Int32 → SG → Option (Int32 × SG)) (hrc36 : ∀ (x0 : Nat) (x1 : Int32) (x2 : Int32) (x3 : Int32) (x4 : Nat) (x5 : Int32) (x6 : Int32) (u : SG), HK [(some x0, 11), (some x4, 8)] u → rec36 x0 x1 x2 x3 x4 x5 x6 u = rc36 x0 x1 x2 x3 x4 x5 x6 u) (x0 : Nat) (x1 : Int32) (x2 : Int32) (x3 : Int32) (x4 : Nat) (x5 : Int32) (x6 : Int32) (s0 : Int32) (u : SG) (h_u : HK [(some x0, 11), (some x4, 8)] u) : gX10_sleepTogether_99 N  rec36 x0 x1 x2 x3 x4 x5 x6 s0 u = hgX10_sleepTogether_99 N  rc36 x0 x1 x2 x3 x4 x5 x6 s0 u := by
  unfold gX10_sleepTogether_99 hgX10_sleepTogether_99
  refine eq_if ?_ ?_
  · exact hrc36 x0 x1 x2 x3 x4 x5 (x6 + (1 : Int32)) u (hkc (show zK u x0 = 11 from (h_u.g 0 rfl)) (hkc (show zK u x4 = 8 from (h_u.g 1 rfl)) (hk0 h_u.1)))
  · refine eq_g (show zK u x4 = 8 from (h_u.g 1 rfl)) ?_
    refine eq_cH (eX7_workersAt N x4 x6 u (hkc (show zK u x4 = 8 from (h_u.g 1 rfl)) (hk0 h_u.1))) (fun r1 u2 e9 => h_u.fr (fr_X7_workersAt (P := PT) N x4 x6 u clPT trivial _ _ e9).1) (fun r1 u2 h_u2 => ?_)
    refine eq_if ?_ ?_
    · refine eq_bs (fun v3 => ?_)
      exact hrc36 x0 x1 x2 x3 x4 v3 (x6 + (1 : Int32)) u2 (hkc (show zK u2 x0 = 11 from (h_u2.g 0 rfl)) (hkc (show zK u2 x4 = 8 from (h_u2.g 1 rfl)) (hk0 h_u2.1)))
    · exact hrc36 x0 x1 x2 x3 x4 x5 (x6 + (1 : Int32)) u2 (hkc (show zK u2 x0 = 11 from (h_u2.g 0 rfl)) (hkc (show zK u2 x4 = 8 from (h_u2.g 1 rfl)) (hk0 h_u2.1)))
set_option maxRecDepth 20000 in
def hgX10_sleepTogether_98 (N : Nat)  (rc36 : Nat → Int32 → Int32 → Int32 → Nat → Int32 → Int32 → SG → Option (Int32 × SG)) (x0 : Nat) (x1 : Int32) (x2 : Int32) (x3 : Int32) (x4 : Nat) (x5 : Int32) (x6 : Int32) (u : SG) : Option (Int32 × SG) := hgX10_sleepTogether_99 N  rc36  x0 x1 x2 x3 x4 x5 x6 (0 : Int32) u
set_option maxRecDepth 20000 in
theorem egX10_sleepTogether_98 (N : Nat)  (rec36 : Nat → Int32 → Int32 → Int32 → Nat → Int32 → Int32 → SG → Option (Int32 × SG)) (rc36 : Nat → Int32 → Int32 → Int32 → Nat → Int32 → Int32 → SG → Option (Int32 × SG)) (hrc36 : ∀ (x0 : Nat) (x1 : Int32) (x2 : Int32) (x3 : Int32) (x4 : Nat) (x5 : Int32) (x6 : Int32) (u : SG), HK [(some x0, 11), (some x4, 8)] u → rec36 x0 x1 x2 x3 x4 x5 x6 u = rc36 x0 x1 x2 x3 x4 x5 x6 u) (x0 : Nat) (x1 : Int32) (x2 : Int32) (x3 : Int32) (x4 : Nat) (x5 : Int32) (x6 : Int32) (u : SG) (h_u : HK [(some x0, 11), (some x4, 8)] u) : gX10_sleepTogether_98 N  rec36 x0 x1 x2 x3 x4 x5 x6 u = hgX10_sleepTogether_98 N  rc36 x0 x1 x2 x3 x4 x5 x6 u := by
  unfold gX10_sleepTogether_98 hgX10_sleepTogether_98
  exact egX10_sleepTogether_99 N  _ _ hrc36  x0 x1 x2 x3 x4 x5 x6 (0 : Int32) u (hkc (show zK u x0 = 11 from (h_u.g 0 rfl)) (hkc (show zK u x4 = 8 from (h_u.g 1 rfl)) (hk0 h_u.1)))
set_option maxRecDepth 20000 in
def hgX10_sleepTogether_36 (N : Nat)   : Nat → Nat → Int32 → Int32 → Int32 → Nat → Int32 → Int32 → SG → Option (Int32 × SG)
  | 0, _, _, _, _, _, _, _, _ => none
  | n + 1, x0, x1, x2, x3, x4, x5, x6, u => if (10 : Int32) ≤ x6 then (cl (fJ6_bitCount_0f7a4 N x5 u) fun r1 u2 => (if x2 ≤ r1 then (cl (hX10_cheapestHours N x0 x5 x2 u2) fun r3 u4 => (if x3 = 0 then (some (r3, u4))
  else (cl (fJ6_bitCount_0f7a4 N ((zI u4 (x0 + 25) 2) ||| x1) u4) fun r7 u8 => (cl (hX10_costOfHours N x0 r3 u8) fun r9 u10 => (cl (fJ6_bitCount_0f7a4 N x1 u10) fun r11 u12 => (cl (fX10_fraction N (r9.toInt64 * r11.toInt64) r7.toInt64 (x3 - (1 : Int32)) u12) fun r13 u14 => (some (r13, u14))))))))
  else (some ((-2 : Int32), u2))))
  else (cl (hX2_burningAt N (x0 + 25) x4 x6 u) fun r18 u19 => (cl (hX7_costOf N x4 r18 u19) fun r20 u21 => (if x6 < 0 ∨ 10 ≤ x6.toNatClampNeg then none else (bs (sI u21 (x0 + 123) x6.toNatClampNeg r20) fun u22 => (if x6 < (zI u22 (x0 + 25) 0) then (hgX10_sleepTogether_98 N  (hgX10_sleepTogether_36 N   n)  x0 x1 x2 x3 x4 x5 x6 u22)
  else (if (zI u22 x4 6) ≤ x6 then (hgX10_sleepTogether_98 N  (hgX10_sleepTogether_36 N   n)  x0 x1 x2 x3 x4 x5 x6 u22)
  else (hgX10_sleepTogether_99 N  (hgX10_sleepTogether_36 N   n)  x0 x1 x2 x3 x4 x5 x6 (1 : Int32) u22)))))))
set_option maxRecDepth 20000 in
theorem egX10_sleepTogether_36 (N : Nat)   : ∀ (n : Nat) (x0 : Nat) (x1 : Int32) (x2 : Int32) (x3 : Int32) (x4 : Nat) (x5 : Int32) (x6 : Int32) (u : SG), HK [(some x0, 11), (some x4, 8)] u → gX10_sleepTogether_36 N   n x0 x1 x2 x3 x4 x5 x6 u = hgX10_sleepTogether_36 N   n x0 x1 x2 x3 x4 x5 x6 u := by
  intro n
  induction n with
  | zero => intros; rfl
  | succ n ih =>
    intro x0 x1 x2 x3 x4 x5 x6 u h_u
    have hrc36 := ih
    rw [gX10_sleepTogether_36, hgX10_sleepTogether_36]
    refine eq_if ?_ ?_
    · refine eq_cH rfl (fun r1 u2 e9 => h_u.fr (fr_J6_bitCount_0f7a4 (P := PT) N x5 u clPT _ _ e9).1) (fun r1 u2 h_u2 => ?_)
      refine eq_if ?_ ?_
      · refine eq_g (show zK u2 x0 = 11 from (h_u2.g 0 rfl)) ?_
        refine eq_cH (eX10_cheapestHours N x0 x5 x2 u2 (hkc (show zK u2 x0 = 11 from (h_u2.g 0 rfl)) (hk0 h_u2.1))) (fun r3 u4 e9 => h_u2.fr (fr_X10_cheapestHours (P := PT) N x0 x5 x2 u2 clPT trivial _ _ e9).1) (fun r3 u4 h_u4 => ?_)
        refine eq_if ?_ ?_
        · rfl
        · refine eq_g (show zK u4 x0 = 11 from (h_u4.g 0 rfl)) ?_
          refine eq_bR (show zR u4 x0 6 = some (x0 + 17) from lyR_11_6 h_u4.1 (h_u4.g 0 rfl)) ?_
          refine eq_g (show zK u4 (x0 + 17) = 7 from (lyK_11_6 h_u4.1 (h_u4.g 0 rfl))) ?_
          refine eq_bR (show zR u4 (x0 + 17) 1 = some (x0 + 25) from lyR_7_1 h_u4.1 (lyK_11_6 h_u4.1 (h_u4.g 0 rfl))) ?_
          refine eq_g (show zK u4 (x0 + 25) = 3 from (lyK_7_1 h_u4.1 (lyK_11_6 h_u4.1 (h_u4.g 0 rfl)))) ?_
          refine eq_cH rfl (fun r7 u8 e9 => h_u4.fr (fr_J6_bitCount_0f7a4 (P := PT) N ((zI u4 (x0 + 25) 2) ||| x1) u4 clPT _ _ e9).1) (fun r7 u8 h_u8 => ?_)
          refine eq_g (show zK u8 x0 = 11 from (h_u8.g 0 rfl)) ?_
          refine eq_cH (eX10_costOfHours N x0 r3 u8 (hkc (show zK u8 x0 = 11 from (h_u8.g 0 rfl)) (hk0 h_u8.1))) (fun r9 u10 e9 => h_u8.fr (fr_X10_costOfHours (P := PT) N x0 r3 u8 clPT trivial _ _ e9).1) (fun r9 u10 h_u10 => ?_)
          refine eq_cH rfl (fun r11 u12 e9 => h_u10.fr (fr_J6_bitCount_0f7a4 (P := PT) N x1 u10 clPT _ _ e9).1) (fun r11 u12 h_u12 => ?_)
          refine eq_cH rfl (fun r13 u14 e9 => h_u12.fr (fr_X10_fraction (P := PT) N (r9.toInt64 * r11.toInt64) r7.toInt64 (x3 - (1 : Int32)) u12 clPT _ _ e9).1) (fun r13 u14 h_u14 => ?_)
          rfl
      · rfl
    · refine eq_g (show zK u x0 = 11 from (h_u.g 0 rfl)) ?_
      refine eq_bR (show zR u x0 11 = some (x0 + 123) from lyR_11_11 h_u.1 (h_u.g 0 rfl)) ?_
      refine eq_g (show zK u x0 = 11 from (h_u.g 0 rfl)) ?_
      refine eq_bR (show zR u x0 6 = some (x0 + 17) from lyR_11_6 h_u.1 (h_u.g 0 rfl)) ?_
      refine eq_g (show zK u (x0 + 17) = 7 from (lyK_11_6 h_u.1 (h_u.g 0 rfl))) ?_
      refine eq_bR (show zR u (x0 + 17) 1 = some (x0 + 25) from lyR_7_1 h_u.1 (lyK_11_6 h_u.1 (h_u.g 0 rfl))) ?_
      refine eq_g (show zK u (x0 + 25) = 3 from (lyK_7_1 h_u.1 (lyK_11_6 h_u.1 (h_u.g 0 rfl)))) ?_
      refine eq_cH (eX2_burningAt N (x0 + 25) x4 x6 u (hkc (show zK u (x0 + 25) = 3 from (lyK_7_1 h_u.1 (lyK_11_6 h_u.1 (h_u.g 0 rfl)))) (hkc (show zK u x4 = 8 from (h_u.g 1 rfl)) (hk0 h_u.1)))) (fun r18 u19 e9 => h_u.fr (fr_X2_burningAt (P := PT) N (x0 + 25) x4 x6 u clPT trivial trivial _ _ e9).1) (fun r18 u19 h_u19 => ?_)
      refine eq_g (show zK u19 x4 = 8 from (h_u19.g 1 rfl)) ?_
      refine eq_cH (eX7_costOf N x4 r18 u19 (hkc (show zK u19 x4 = 8 from (h_u19.g 1 rfl)) (hk0 h_u19.1))) (fun r20 u21 e9 => h_u19.fr (fr_X7_costOf (P := PT) N x4 r18 u19 clPT trivial _ _ e9).1) (fun r20 u21 h_u21 => ?_)
      refine eq_g (show zK u21 (x0 + 123) = 22 from (lyK_11_11 h_u21.1 (h_u21.g 0 rfl))) ?_
      refine eq_ixh (show zN u21 (x0 + 123) = 10 from lyN_11_11 h_u21.1 (h_u21.g 0 rfl)) (fun hix1 => ?_)
      refine eq_sH (h_u21.fr (P := PT) (Fr.sIr trivial)) (fun u22 h_u22 => ?_)
      refine eq_g (show zK u22 x0 = 11 from (h_u22.g 0 rfl)) ?_
      refine eq_bR (show zR u22 x0 6 = some (x0 + 17) from lyR_11_6 h_u22.1 (h_u22.g 0 rfl)) ?_
      refine eq_g (show zK u22 (x0 + 17) = 7 from (lyK_11_6 h_u22.1 (h_u22.g 0 rfl))) ?_
      refine eq_bR (show zR u22 (x0 + 17) 1 = some (x0 + 25) from lyR_7_1 h_u22.1 (lyK_11_6 h_u22.1 (h_u22.g 0 rfl))) ?_
      refine eq_g (show zK u22 (x0 + 25) = 3 from (lyK_7_1 h_u22.1 (lyK_11_6 h_u22.1 (h_u22.g 0 rfl)))) ?_
      refine eq_if ?_ ?_
      · exact egX10_sleepTogether_98 N  _ _ hrc36  x0 x1 x2 x3 x4 x5 x6 u22 (hkc (show zK u22 x0 = 11 from (h_u22.g 0 rfl)) (hkc (show zK u22 x4 = 8 from (h_u22.g 1 rfl)) (hk0 h_u22.1)))
      · refine eq_g (show zK u22 x4 = 8 from (h_u22.g 1 rfl)) ?_
        refine eq_if ?_ ?_
        · exact egX10_sleepTogether_98 N  _ _ hrc36  x0 x1 x2 x3 x4 x5 x6 u22 (hkc (show zK u22 x0 = 11 from (h_u22.g 0 rfl)) (hkc (show zK u22 x4 = 8 from (h_u22.g 1 rfl)) (hk0 h_u22.1)))
        · exact egX10_sleepTogether_99 N  _ _ hrc36  x0 x1 x2 x3 x4 x5 x6 (1 : Int32) u22 (hkc (show zK u22 x0 = 11 from (h_u22.g 0 rfl)) (hkc (show zK u22 x4 = 8 from (h_u22.g 1 rfl)) (hk0 h_u22.1)))
set_option maxRecDepth 20000 in
def hX10_sleepTogether (N : Nat)  (a0 : Nat) (p1 : Int32) (p2 : Int32) (p3 : Int32) (u : SG) : Option (Int32 × SG) := if p2 < 0 then (some ((-1 : Int32), u))
  else (if (10 : Int32) < p2 then (some ((-1 : Int32), u))
  else (if p3 < 0 then (some ((-1 : Int32), u))
  else (if p3 ≤ (2 : Int32) then (hgX10_sleepTogether_36 N   N a0 p1 p2 p3 (a0 + 18) (0 : Int32) (0 : Int32) u)
  else (some ((-1 : Int32), u)))))
set_option maxRecDepth 20000 in
theorem eX10_sleepTogether (N : Nat)  (a0 : Nat) (p1 : Int32) (p2 : Int32) (p3 : Int32) (u : SG) (h_u : HK [(some a0, 11)] u) : fX10_sleepTogether N  a0 p1 p2 p3 u = hX10_sleepTogether N  a0 p1 p2 p3 u := by
  unfold fX10_sleepTogether hX10_sleepTogether
  refine eq_if ?_ ?_
  · rfl
  · refine eq_if ?_ ?_
    · rfl
    · refine eq_if ?_ ?_
      · rfl
      · refine eq_if ?_ ?_
        · refine eq_g (show zK u a0 = 11 from (h_u.g 0 rfl)) ?_
          refine eq_bR (show zR u a0 6 = some (a0 + 17) from lyR_11_6 h_u.1 (h_u.g 0 rfl)) ?_
          refine eq_g (show zK u (a0 + 17) = 7 from (lyK_11_6 h_u.1 (h_u.g 0 rfl))) ?_
          refine eq_bR (show zR u (a0 + 17) 0 = some (a0 + 18) from lyR_7_0 h_u.1 (lyK_11_6 h_u.1 (h_u.g 0 rfl))) ?_
          exact egX10_sleepTogether_36 N   N a0 p1 p2 p3 (a0 + 18) (0 : Int32) (0 : Int32) u (hkc (show zK u a0 = 11 from (h_u.g 0 rfl)) (hkc (show zK u (a0 + 18) = 8 from (lyK_7_0 h_u.1 (lyK_11_6 h_u.1 (h_u.g 0 rfl)))) (hk0 h_u.1)))
        · rfl
set_option maxRecDepth 20000 in
def hX10_cheap (N : Nat)  (a0 : Nat) (p1 : Int32) (p2 : Int32) (p3 : Int32) (u : SG) : Option (Int32 × SG) := cl (hX7_isPerson N (a0 + 18) p1 u) fun r3 u4 => (if r3 = 0 then (some ((-1 : Int32), u4))
  else (cl (hX10_sleepTogether N a0 ((1 : Int32) <<< (p1 &&& 31)) p2 p3 u4) fun r5 u6 => (some (r5, u6))))
set_option maxRecDepth 20000 in
theorem eX10_cheap (N : Nat)  (a0 : Nat) (p1 : Int32) (p2 : Int32) (p3 : Int32) (u : SG) (h_u : HK [(some a0, 11)] u) : fX10_cheap N  a0 p1 p2 p3 u = hX10_cheap N  a0 p1 p2 p3 u := by
  unfold fX10_cheap hX10_cheap
  refine eq_g (show zK u a0 = 11 from (h_u.g 0 rfl)) ?_
  refine eq_bR (show zR u a0 6 = some (a0 + 17) from lyR_11_6 h_u.1 (h_u.g 0 rfl)) ?_
  refine eq_g (show zK u (a0 + 17) = 7 from (lyK_11_6 h_u.1 (h_u.g 0 rfl))) ?_
  refine eq_bR (show zR u (a0 + 17) 0 = some (a0 + 18) from lyR_7_0 h_u.1 (lyK_11_6 h_u.1 (h_u.g 0 rfl))) ?_
  refine eq_g (show zK u (a0 + 18) = 8 from (lyK_7_0 h_u.1 (lyK_11_6 h_u.1 (h_u.g 0 rfl)))) ?_
  refine eq_cH (eX7_isPerson N (a0 + 18) p1 u (hkc (show zK u (a0 + 18) = 8 from (lyK_7_0 h_u.1 (lyK_11_6 h_u.1 (h_u.g 0 rfl)))) (hk0 h_u.1))) (fun r3 u4 e9 => h_u.fr (fr_X7_isPerson (P := PT) N (a0 + 18) p1 u clPT trivial _ _ e9).1) (fun r3 u4 h_u4 => ?_)
  refine eq_if ?_ ?_
  · rfl
  · refine eq_g (show zK u4 a0 = 11 from (h_u4.g 0 rfl)) ?_
    refine eq_cH (eX10_sleepTogether N a0 ((1 : Int32) <<< (p1 &&& 31)) p2 p3 u4 (hkc (show zK u4 a0 = 11 from (h_u4.g 0 rfl)) (hk0 h_u4.1))) (fun r5 u6 e9 => h_u4.fr (fr_X10_sleepTogether (P := PT) N a0 ((1 : Int32) <<< (p1 &&& 31)) p2 p3 u4 clPT trivial _ _ e9).1) (fun r5 u6 h_u6 => ?_)
    rfl
set_option maxRecDepth 20000 in
def hgX10_isAtRest_9 (N : Nat)   : Nat → Nat → Int32 → Int32 → Int32 → Int32 → Int32 → SG → Option (Int32 × SG)
  | 0, _, _, _, _, _, _, _ => none
  | n + 1, x0, x1, x2, x3, x4, x5, u => if (zI u (x0 + 18) 7) ≤ x5 then (some ((1 : Int32), u))
  else (if x5 < 0 ∨ 5 ≤ x5.toNatClampNeg then none else (bs (zI u (x0 + 20) x5.toNatClampNeg) fun v6 => (cl (fX10_bitOf N x1 x5 u) fun r7 u8 => (if r7 = (1 : Int32) then (if x3 ≤ (v6 * x4) then ((hgX10_isAtRest_9 N   n) x0 x1 x2 x3 x4 (x5 + (1 : Int32)) u8)
  else (some ((0 : Int32), u8)))
  else (cl (fX10_bitOf N x2 x5 u8) fun r9 u10 => (if r9 = (1 : Int32) then (if (v6 * (x4 + (1 : Int32))) ≤ x3 then ((hgX10_isAtRest_9 N   n) x0 x1 x2 x3 x4 (x5 + (1 : Int32)) u10)
  else (some ((0 : Int32), u10)))
  else ((hgX10_isAtRest_9 N   n) x0 x1 x2 x3 x4 (x5 + (1 : Int32)) u10)))))))
set_option maxRecDepth 20000 in
theorem egX10_isAtRest_9 (N : Nat)   : ∀ (n : Nat) (x0 : Nat) (x1 : Int32) (x2 : Int32) (x3 : Int32) (x4 : Int32) (x5 : Int32) (u : SG), HK [(some x0, 11)] u → gX10_isAtRest_9 N   n x0 x1 x2 x3 x4 x5 u = hgX10_isAtRest_9 N   n x0 x1 x2 x3 x4 x5 u := by
  intro n
  induction n with
  | zero => intros; rfl
  | succ n ih =>
    intro x0 x1 x2 x3 x4 x5 u h_u
    have hrc9 := ih
    rw [gX10_isAtRest_9, hgX10_isAtRest_9]
    refine eq_g (show zK u x0 = 11 from (h_u.g 0 rfl)) ?_
    refine eq_bR (show zR u x0 6 = some (x0 + 17) from lyR_11_6 h_u.1 (h_u.g 0 rfl)) ?_
    refine eq_g (show zK u (x0 + 17) = 7 from (lyK_11_6 h_u.1 (h_u.g 0 rfl))) ?_
    refine eq_bR (show zR u (x0 + 17) 0 = some (x0 + 18) from lyR_7_0 h_u.1 (lyK_11_6 h_u.1 (h_u.g 0 rfl))) ?_
    refine eq_g (show zK u (x0 + 18) = 8 from (lyK_7_0 h_u.1 (lyK_11_6 h_u.1 (h_u.g 0 rfl)))) ?_
    refine eq_if ?_ ?_
    · rfl
    · refine eq_g (show zK u x0 = 11 from (h_u.g 0 rfl)) ?_
      refine eq_bR (show zR u x0 6 = some (x0 + 17) from lyR_11_6 h_u.1 (h_u.g 0 rfl)) ?_
      refine eq_g (show zK u (x0 + 17) = 7 from (lyK_11_6 h_u.1 (h_u.g 0 rfl))) ?_
      refine eq_bR (show zR u (x0 + 17) 0 = some (x0 + 18) from lyR_7_0 h_u.1 (lyK_11_6 h_u.1 (h_u.g 0 rfl))) ?_
      refine eq_g (show zK u (x0 + 18) = 8 from (lyK_7_0 h_u.1 (lyK_11_6 h_u.1 (h_u.g 0 rfl)))) ?_
      refine eq_bR (show zR u (x0 + 18) 1 = some (x0 + 20) from lyR_8_1 h_u.1 (lyK_7_0 h_u.1 (lyK_11_6 h_u.1 (h_u.g 0 rfl)))) ?_
      refine eq_g (show zK u (x0 + 20) = 22 from (lyK_8_1 h_u.1 (lyK_7_0 h_u.1 (lyK_11_6 h_u.1 (h_u.g 0 rfl))))) ?_
      refine eq_ixh (show zN u (x0 + 20) = 5 from lyN_8_1 h_u.1 (lyK_7_0 h_u.1 (lyK_11_6 h_u.1 (h_u.g 0 rfl)))) (fun hix1 => ?_)
      refine eq_bs (fun v6 => ?_)
      refine eq_cH rfl (fun r7 u8 e9 => h_u.fr (fr_X10_bitOf (P := PT) N x1 x5 u clPT _ _ e9).1) (fun r7 u8 h_u8 => ?_)
      refine eq_if ?_ ?_
      · refine eq_if ?_ ?_
        · exact hrc9 x0 x1 x2 x3 x4 (x5 + (1 : Int32)) u8 (hkc (show zK u8 x0 = 11 from (h_u8.g 0 rfl)) (hk0 h_u8.1))
        · rfl
      · refine eq_cH rfl (fun r9 u10 e9 => h_u8.fr (fr_X10_bitOf (P := PT) N x2 x5 u8 clPT _ _ e9).1) (fun r9 u10 h_u10 => ?_)
        refine eq_if ?_ ?_
        · refine eq_if ?_ ?_
          · exact hrc9 x0 x1 x2 x3 x4 (x5 + (1 : Int32)) u10 (hkc (show zK u10 x0 = 11 from (h_u10.g 0 rfl)) (hk0 h_u10.1))
          · rfl
        · exact hrc9 x0 x1 x2 x3 x4 (x5 + (1 : Int32)) u10 (hkc (show zK u10 x0 = 11 from (h_u10.g 0 rfl)) (hk0 h_u10.1))
set_option maxRecDepth 20000 in
def hX10_isAtRest (N : Nat)  (a0 : Nat) (p1 : Int32) (p2 : Int32) (p3 : Int32) (u : SG) : Option (Int32 × SG) := cl (fJ6_bitCount_0f7a4 N p1 u) fun r1 u2 => (hgX10_isAtRest_9 N   N a0 p1 p2 p3 r1 (0 : Int32) u2)
set_option maxRecDepth 20000 in
theorem eX10_isAtRest (N : Nat)  (a0 : Nat) (p1 : Int32) (p2 : Int32) (p3 : Int32) (u : SG) (h_u : HK [(some a0, 11)] u) : fX10_isAtRest N  a0 p1 p2 p3 u = hX10_isAtRest N  a0 p1 p2 p3 u := by
  unfold fX10_isAtRest hX10_isAtRest
  refine eq_cH rfl (fun r1 u2 e9 => h_u.fr (fr_J6_bitCount_0f7a4 (P := PT) N p1 u clPT _ _ e9).1) (fun r1 u2 h_u2 => ?_)
  exact egX10_isAtRest_9 N   N a0 p1 p2 p3 r1 (0 : Int32) u2 (hkc (show zK u2 a0 = 11 from (h_u2.g 0 rfl)) (hk0 h_u2.1))
set_option maxRecDepth 20000 in
def hgX10_rest_71 (N : Nat)   : Nat → Nat → Int32 → Int32 → Int32 → Int32 → Int32 → Int32 → Int32 → SG → Option (Int32 × SG)
  | 0, _, _, _, _, _, _, _, _, _ => none
  | n + 1, x0, x1, x2, x3, x4, x5, x6, x7, u => if x2 < x7 then (if x1 = 0 then (some (x4, u))
  else (if x1 = (1 : Int32) then (some (x5, u))
  else (some (x6, u))))
  else (if (x7 &&& (x2 ^^^ (-1 : Int32))) = 0 then (cl (hX10_isAtRest N x0 x7 x2 x3 u) fun r1 u2 => (if r1 = 0 then ((hgX10_rest_71 N   n) x0 x1 x2 x3 x4 x5 x6 (x7 + (1 : Int32)) u2)
  else (if x5 = (-2 : Int32) then ((hgX10_rest_71 N   n) x0 x1 x2 x3 (x4 + (1 : Int32)) x7 x7 (x7 + (1 : Int32)) u2)
  else ((hgX10_rest_71 N   n) x0 x1 x2 x3 (x4 + (1 : Int32)) x5 x7 (x7 + (1 : Int32)) u2))))
  else ((hgX10_rest_71 N   n) x0 x1 x2 x3 x4 x5 x6 (x7 + (1 : Int32)) u))
set_option maxRecDepth 20000 in
theorem egX10_rest_71 (N : Nat)   : ∀ (n : Nat) (x0 : Nat) (x1 : Int32) (x2 : Int32) (x3 : Int32) (x4 : Int32) (x5 : Int32) (x6 : Int32) (x7 : Int32) (u : SG), HK [(some x0, 11)] u → gX10_rest_71 N   n x0 x1 x2 x3 x4 x5 x6 x7 u = hgX10_rest_71 N   n x0 x1 x2 x3 x4 x5 x6 x7 u := by
  intro n
  induction n with
  | zero => intros; rfl
  | succ n ih =>
    intro x0 x1 x2 x3 x4 x5 x6 x7 u h_u
    have hrc71 := ih
    rw [gX10_rest_71, hgX10_rest_71]
    refine eq_if ?_ ?_
    · refine eq_if ?_ ?_
      · rfl
      · refine eq_if ?_ ?_
        · rfl
        · rfl
    · refine eq_if ?_ ?_
      · refine eq_g (show zK u x0 = 11 from (h_u.g 0 rfl)) ?_
        refine eq_cH (eX10_isAtRest N x0 x7 x2 x3 u (hkc (show zK u x0 = 11 from (h_u.g 0 rfl)) (hk0 h_u.1))) (fun r1 u2 e9 => h_u.fr (fr_X10_isAtRest (P := PT) N x0 x7 x2 x3 u clPT trivial _ _ e9).1) (fun r1 u2 h_u2 => ?_)
        refine eq_if ?_ ?_
        · exact hrc71 x0 x1 x2 x3 x4 x5 x6 (x7 + (1 : Int32)) u2 (hkc (show zK u2 x0 = 11 from (h_u2.g 0 rfl)) (hk0 h_u2.1))
        · refine eq_if ?_ ?_
          · exact hrc71 x0 x1 x2 x3 (x4 + (1 : Int32)) x7 x7 (x7 + (1 : Int32)) u2 (hkc (show zK u2 x0 = 11 from (h_u2.g 0 rfl)) (hk0 h_u2.1))
          · exact hrc71 x0 x1 x2 x3 (x4 + (1 : Int32)) x5 x7 (x7 + (1 : Int32)) u2 (hkc (show zK u2 x0 = 11 from (h_u2.g 0 rfl)) (hk0 h_u2.1))
      · exact hrc71 x0 x1 x2 x3 x4 x5 x6 (x7 + (1 : Int32)) u (hkc (show zK u x0 = 11 from (h_u.g 0 rfl)) (hk0 h_u.1))
set_option maxRecDepth 20000 in
def hX10_rest (N : Nat)  (a0 : Nat) (p1 : Int32) (u : SG) : Option (Int32 × SG) := cl (hX7_isTold N (a0 + 18) u) fun r3 u4 => (if r3 = 0 then (some ((-1 : Int32), u4))
  else (if p1 < 0 then (some ((-1 : Int32), u4))
  else (if p1 ≤ (2 : Int32) then (cl (hX7_everyone N (a0 + 18) u4) fun r7 u8 => (cl (hX10_workersNow N a0 u8) fun r9 u10 => (bs (r7 &&& (r9 ^^^ (-1 : Int32))) fun v11 => (cl (hX10_burningNow N a0 u10) fun r14 u15 => (cl (hX7_costOf N (a0 + 18) r14 u15) fun r16 u17 => (hgX10_rest_71 N   N a0 p1 v11 r16 (0 : Int32) (-2 : Int32) (-2 : Int32) (0 : Int32) u17))))))
  else (some ((-1 : Int32), u4)))))
set_option maxRecDepth 20000 in
theorem eX10_rest (N : Nat)  (a0 : Nat) (p1 : Int32) (u : SG) (h_u : HK [(some a0, 11)] u) : fX10_rest N  a0 p1 u = hX10_rest N  a0 p1 u := by
  unfold fX10_rest hX10_rest
  refine eq_g (show zK u a0 = 11 from (h_u.g 0 rfl)) ?_
  refine eq_bR (show zR u a0 6 = some (a0 + 17) from lyR_11_6 h_u.1 (h_u.g 0 rfl)) ?_
  refine eq_g (show zK u (a0 + 17) = 7 from (lyK_11_6 h_u.1 (h_u.g 0 rfl))) ?_
  refine eq_bR (show zR u (a0 + 17) 0 = some (a0 + 18) from lyR_7_0 h_u.1 (lyK_11_6 h_u.1 (h_u.g 0 rfl))) ?_
  refine eq_g (show zK u (a0 + 18) = 8 from (lyK_7_0 h_u.1 (lyK_11_6 h_u.1 (h_u.g 0 rfl)))) ?_
  refine eq_cH (eX7_isTold N (a0 + 18) u (hkc (show zK u (a0 + 18) = 8 from (lyK_7_0 h_u.1 (lyK_11_6 h_u.1 (h_u.g 0 rfl)))) (hk0 h_u.1))) (fun r3 u4 e9 => h_u.fr (fr_X7_isTold (P := PT) N (a0 + 18) u clPT trivial _ _ e9).1) (fun r3 u4 h_u4 => ?_)
  refine eq_if ?_ ?_
  · rfl
  · refine eq_if ?_ ?_
    · rfl
    · refine eq_if ?_ ?_
      · refine eq_g (show zK u4 a0 = 11 from (h_u4.g 0 rfl)) ?_
        refine eq_bR (show zR u4 a0 6 = some (a0 + 17) from lyR_11_6 h_u4.1 (h_u4.g 0 rfl)) ?_
        refine eq_g (show zK u4 (a0 + 17) = 7 from (lyK_11_6 h_u4.1 (h_u4.g 0 rfl))) ?_
        refine eq_bR (show zR u4 (a0 + 17) 0 = some (a0 + 18) from lyR_7_0 h_u4.1 (lyK_11_6 h_u4.1 (h_u4.g 0 rfl))) ?_
        refine eq_g (show zK u4 (a0 + 18) = 8 from (lyK_7_0 h_u4.1 (lyK_11_6 h_u4.1 (h_u4.g 0 rfl)))) ?_
        refine eq_cH (eX7_everyone N (a0 + 18) u4 (hkc (show zK u4 (a0 + 18) = 8 from (lyK_7_0 h_u4.1 (lyK_11_6 h_u4.1 (h_u4.g 0 rfl)))) (hk0 h_u4.1))) (fun r7 u8 e9 => h_u4.fr (fr_X7_everyone (P := PT) N (a0 + 18) u4 clPT trivial _ _ e9).1) (fun r7 u8 h_u8 => ?_)
        refine eq_g (show zK u8 a0 = 11 from (h_u8.g 0 rfl)) ?_
        refine eq_cH (eX10_workersNow N a0 u8 (hkc (show zK u8 a0 = 11 from (h_u8.g 0 rfl)) (hk0 h_u8.1))) (fun r9 u10 e9 => h_u8.fr (fr_X10_workersNow (P := PT) N a0 u8 clPT trivial _ _ e9).1) (fun r9 u10 h_u10 => ?_)
        refine eq_bs (fun v11 => ?_)
        refine eq_g (show zK u10 a0 = 11 from (h_u10.g 0 rfl)) ?_
        refine eq_bR (show zR u10 a0 6 = some (a0 + 17) from lyR_11_6 h_u10.1 (h_u10.g 0 rfl)) ?_
        refine eq_g (show zK u10 (a0 + 17) = 7 from (lyK_11_6 h_u10.1 (h_u10.g 0 rfl))) ?_
        refine eq_bR (show zR u10 (a0 + 17) 0 = some (a0 + 18) from lyR_7_0 h_u10.1 (lyK_11_6 h_u10.1 (h_u10.g 0 rfl))) ?_
        refine eq_g (show zK u10 a0 = 11 from (h_u10.g 0 rfl)) ?_
        refine eq_cH (eX10_burningNow N a0 u10 (hkc (show zK u10 a0 = 11 from (h_u10.g 0 rfl)) (hk0 h_u10.1))) (fun r14 u15 e9 => h_u10.fr (fr_X10_burningNow (P := PT) N a0 u10 clPT trivial _ _ e9).1) (fun r14 u15 h_u15 => ?_)
        refine eq_g (show zK u15 (a0 + 18) = 8 from (lyK_7_0 h_u15.1 (lyK_11_6 h_u15.1 (h_u15.g 0 rfl)))) ?_
        refine eq_cH (eX7_costOf N (a0 + 18) r14 u15 (hkc (show zK u15 (a0 + 18) = 8 from (lyK_7_0 h_u15.1 (lyK_11_6 h_u15.1 (h_u15.g 0 rfl)))) (hk0 h_u15.1))) (fun r16 u17 e9 => h_u15.fr (fr_X7_costOf (P := PT) N (a0 + 18) r14 u15 clPT trivial _ _ e9).1) (fun r16 u17 h_u17 => ?_)
        exact egX10_rest_71 N   N a0 p1 v11 r16 (0 : Int32) (-2 : Int32) (-2 : Int32) (0 : Int32) u17 (hkc (show zK u17 a0 = 11 from (h_u17.g 0 rfl)) (hk0 h_u17.1))
      · rfl
set_option maxRecDepth 20000 in
def hgX10_allCouldSleep_63 (N : Nat)  (rc33 : Nat → Int32 → Int32 → Int32 → SG → Option (Int32 × SG)) (x0 : Nat) (x2 : Int32) (x3 : Int32) (x4 : Int32) (s0 : Int32) (u : SG) : Option (Int32 × SG) := if s0 = 0 then (rc33 x0 x2 x3 (x4 + (1 : Int32)) u)
  else (if x4 < 0 ∨ 5 ≤ x4.toNatClampNeg then none else (cl (fJ6_bitCount_0f7a4 N x2 u) fun r4 u5 => (if x3 ≤ ((zI u (x0 + 20) x4.toNatClampNeg) * r4) then (rc33 x0 x2 x3 (x4 + (1 : Int32)) u5)
  else (some ((0 : Int32), u5)))))
set_option maxRecDepth 20000 in
theorem egX10_allCouldSleep_63 (N : Nat)  (rec33 : Nat → Int32 → Int32 → Int32 → SG → Option (Int32 × SG)) (rc33 : Nat → Int32 → Int32 → Int32 → SG → Option (Int32 × SG)) (hrc33 : ∀ (x0 : Nat) (x2 : Int32) (x3 : Int32) (x4 : Int32) (u : SG), HK [(some x0, 11)] u → rec33 x0 x2 x3 x4 u = rc33 x0 x2 x3 x4 u) (x0 : Nat) (x2 : Int32) (x3 : Int32) (x4 : Int32) (s0 : Int32) (u : SG) (h_u : HK [(some x0, 11)] u) : gX10_allCouldSleep_63 N  rec33 x0 x2 x3 x4 s0 u = hgX10_allCouldSleep_63 N  rc33 x0 x2 x3 x4 s0 u := by
  unfold gX10_allCouldSleep_63 hgX10_allCouldSleep_63
  refine eq_if ?_ ?_
  · exact hrc33 x0 x2 x3 (x4 + (1 : Int32)) u (hkc (show zK u x0 = 11 from (h_u.g 0 rfl)) (hk0 h_u.1))
  · refine eq_g (show zK u x0 = 11 from (h_u.g 0 rfl)) ?_
    refine eq_bR (show zR u x0 6 = some (x0 + 17) from lyR_11_6 h_u.1 (h_u.g 0 rfl)) ?_
    refine eq_g (show zK u (x0 + 17) = 7 from (lyK_11_6 h_u.1 (h_u.g 0 rfl))) ?_
    refine eq_bR (show zR u (x0 + 17) 0 = some (x0 + 18) from lyR_7_0 h_u.1 (lyK_11_6 h_u.1 (h_u.g 0 rfl))) ?_
    refine eq_g (show zK u (x0 + 18) = 8 from (lyK_7_0 h_u.1 (lyK_11_6 h_u.1 (h_u.g 0 rfl)))) ?_
    refine eq_bR (show zR u (x0 + 18) 1 = some (x0 + 20) from lyR_8_1 h_u.1 (lyK_7_0 h_u.1 (lyK_11_6 h_u.1 (h_u.g 0 rfl)))) ?_
    refine eq_g (show zK u (x0 + 20) = 22 from (lyK_8_1 h_u.1 (lyK_7_0 h_u.1 (lyK_11_6 h_u.1 (h_u.g 0 rfl))))) ?_
    refine eq_ixh (show zN u (x0 + 20) = 5 from lyN_8_1 h_u.1 (lyK_7_0 h_u.1 (lyK_11_6 h_u.1 (h_u.g 0 rfl)))) (fun hix1 => ?_)
    refine eq_cH rfl (fun r4 u5 e9 => h_u.fr (fr_J6_bitCount_0f7a4 (P := PT) N x2 u clPT _ _ e9).1) (fun r4 u5 h_u5 => ?_)
    refine eq_if ?_ ?_
    · exact hrc33 x0 x2 x3 (x4 + (1 : Int32)) u5 (hkc (show zK u5 x0 = 11 from (h_u5.g 0 rfl)) (hk0 h_u5.1))
    · rfl
set_option maxRecDepth 20000 in
def hgX10_allCouldSleep_33 (N : Nat)   : Nat → Nat → Int32 → Int32 → Int32 → SG → Option (Int32 × SG)
  | 0, _, _, _, _, _ => none
  | n + 1, x0, x2, x3, x4, u => if (zI u (x0 + 18) 7) ≤ x4 then (some ((1 : Int32), u))
  else (cl (fX10_bitOf N x2 x4 u) fun r3 u4 => (if r3 = (1 : Int32) then (hgX10_allCouldSleep_63 N  (hgX10_allCouldSleep_33 N   n)  x0 x2 x3 x4 (1 : Int32) u4)
  else (hgX10_allCouldSleep_63 N  (hgX10_allCouldSleep_33 N   n)  x0 x2 x3 x4 (0 : Int32) u4)))
set_option maxRecDepth 20000 in
theorem egX10_allCouldSleep_33 (N : Nat)   : ∀ (n : Nat) (x0 : Nat) (x2 : Int32) (x3 : Int32) (x4 : Int32) (u : SG), HK [(some x0, 11)] u → gX10_allCouldSleep_33 N   n x0 x2 x3 x4 u = hgX10_allCouldSleep_33 N   n x0 x2 x3 x4 u := by
  intro n
  induction n with
  | zero => intros; rfl
  | succ n ih =>
    intro x0 x2 x3 x4 u h_u
    have hrc33 := ih
    rw [gX10_allCouldSleep_33, hgX10_allCouldSleep_33]
    refine eq_g (show zK u x0 = 11 from (h_u.g 0 rfl)) ?_
    refine eq_bR (show zR u x0 6 = some (x0 + 17) from lyR_11_6 h_u.1 (h_u.g 0 rfl)) ?_
    refine eq_g (show zK u (x0 + 17) = 7 from (lyK_11_6 h_u.1 (h_u.g 0 rfl))) ?_
    refine eq_bR (show zR u (x0 + 17) 0 = some (x0 + 18) from lyR_7_0 h_u.1 (lyK_11_6 h_u.1 (h_u.g 0 rfl))) ?_
    refine eq_g (show zK u (x0 + 18) = 8 from (lyK_7_0 h_u.1 (lyK_11_6 h_u.1 (h_u.g 0 rfl)))) ?_
    refine eq_if ?_ ?_
    · rfl
    · refine eq_cH rfl (fun r3 u4 e9 => h_u.fr (fr_X10_bitOf (P := PT) N x2 x4 u clPT _ _ e9).1) (fun r3 u4 h_u4 => ?_)
      refine eq_if ?_ ?_
      · exact egX10_allCouldSleep_63 N  _ _ hrc33  x0 x2 x3 x4 (1 : Int32) u4 (hkc (show zK u4 x0 = 11 from (h_u4.g 0 rfl)) (hk0 h_u4.1))
      · exact egX10_allCouldSleep_63 N  _ _ hrc33  x0 x2 x3 x4 (0 : Int32) u4 (hkc (show zK u4 x0 = 11 from (h_u4.g 0 rfl)) (hk0 h_u4.1))
set_option maxRecDepth 20000 in
def hX10_allCouldSleep (N : Nat)  (a0 : Nat) (p1 : Int32) (u : SG) : Option (Int32 × SG) := cl (hX7_everyone N (a0 + 18) u) fun r3 u4 => (cl (hX10_workersNow N a0 u4) fun r5 u6 => (bs (r3 &&& (r5 ^^^ (-1 : Int32))) fun v7 => (cl (hX7_costOf N (a0 + 18) p1 u6) fun r10 u11 => (hgX10_allCouldSleep_33 N   N a0 v7 r10 (0 : Int32) u11))))
set_option maxRecDepth 20000 in
theorem eX10_allCouldSleep (N : Nat)  (a0 : Nat) (p1 : Int32) (u : SG) (h_u : HK [(some a0, 11)] u) : fX10_allCouldSleep N  a0 p1 u = hX10_allCouldSleep N  a0 p1 u := by
  unfold fX10_allCouldSleep hX10_allCouldSleep
  refine eq_g (show zK u a0 = 11 from (h_u.g 0 rfl)) ?_
  refine eq_bR (show zR u a0 6 = some (a0 + 17) from lyR_11_6 h_u.1 (h_u.g 0 rfl)) ?_
  refine eq_g (show zK u (a0 + 17) = 7 from (lyK_11_6 h_u.1 (h_u.g 0 rfl))) ?_
  refine eq_bR (show zR u (a0 + 17) 0 = some (a0 + 18) from lyR_7_0 h_u.1 (lyK_11_6 h_u.1 (h_u.g 0 rfl))) ?_
  refine eq_g (show zK u (a0 + 18) = 8 from (lyK_7_0 h_u.1 (lyK_11_6 h_u.1 (h_u.g 0 rfl)))) ?_
  refine eq_cH (eX7_everyone N (a0 + 18) u (hkc (show zK u (a0 + 18) = 8 from (lyK_7_0 h_u.1 (lyK_11_6 h_u.1 (h_u.g 0 rfl)))) (hk0 h_u.1))) (fun r3 u4 e9 => h_u.fr (fr_X7_everyone (P := PT) N (a0 + 18) u clPT trivial _ _ e9).1) (fun r3 u4 h_u4 => ?_)
  refine eq_g (show zK u4 a0 = 11 from (h_u4.g 0 rfl)) ?_
  refine eq_cH (eX10_workersNow N a0 u4 (hkc (show zK u4 a0 = 11 from (h_u4.g 0 rfl)) (hk0 h_u4.1))) (fun r5 u6 e9 => h_u4.fr (fr_X10_workersNow (P := PT) N a0 u4 clPT trivial _ _ e9).1) (fun r5 u6 h_u6 => ?_)
  refine eq_bs (fun v7 => ?_)
  refine eq_g (show zK u6 a0 = 11 from (h_u6.g 0 rfl)) ?_
  refine eq_bR (show zR u6 a0 6 = some (a0 + 17) from lyR_11_6 h_u6.1 (h_u6.g 0 rfl)) ?_
  refine eq_g (show zK u6 (a0 + 17) = 7 from (lyK_11_6 h_u6.1 (h_u6.g 0 rfl))) ?_
  refine eq_bR (show zR u6 (a0 + 17) 0 = some (a0 + 18) from lyR_7_0 h_u6.1 (lyK_11_6 h_u6.1 (h_u6.g 0 rfl))) ?_
  refine eq_g (show zK u6 (a0 + 18) = 8 from (lyK_7_0 h_u6.1 (lyK_11_6 h_u6.1 (h_u6.g 0 rfl)))) ?_
  refine eq_cH (eX7_costOf N (a0 + 18) p1 u6 (hkc (show zK u6 (a0 + 18) = 8 from (lyK_7_0 h_u6.1 (lyK_11_6 h_u6.1 (h_u6.g 0 rfl)))) (hk0 h_u6.1))) (fun r10 u11 e9 => h_u6.fr (fr_X7_costOf (P := PT) N (a0 + 18) p1 u6 clPT trivial _ _ e9).1) (fun r10 u11 h_u11 => ?_)
  exact egX10_allCouldSleep_33 N   N a0 v7 r10 (0 : Int32) u11 (hkc (show zK u11 a0 = 11 from (h_u11.g 0 rfl)) (hk0 h_u11.1))
set_option maxRecDepth 20000 in
def hgX10_dark_57 (N : Nat)  (rc34 : Nat → Int32 → Int32 → Int32 → Int32 → SG → Option (Int32 × SG)) (x0 : Nat) (x1 : Int32) (x2 : Int32) (x3 : Int32) (x4 : Int32) (s0 : Int32) (u : SG) : Option (Int32 × SG) := if (x4 &&& (x2 ^^^ (-1 : Int32))) = 0 then (if s0 = 0 then (rc34 x0 x1 x2 x3 (x4 + (1 : Int32)) u)
  else (cl (hX10_allCouldSleep N x0 (x2 &&& (x4 ^^^ (-1 : Int32))) u) fun r1 u2 => (if r1 = 0 then (rc34 x0 x1 x2 x3 (x4 + (1 : Int32)) u2)
  else (rc34 x0 x1 x2 x4 (x4 + (1 : Int32)) u2))))
  else (rc34 x0 x1 x2 x3 (x4 + (1 : Int32)) u)
set_option maxRecDepth 20000 in
theorem egX10_dark_57 (N : Nat)  (rec34 : Nat → Int32 → Int32 → Int32 → Int32 → SG → Option (Int32 × SG)) (rc34 : Nat → Int32 → Int32 → Int32 → Int32 → SG → Option (Int32 × SG)) (hrc34 : ∀ (x0 : Nat) (x1 : Int32) (x2 : Int32) (x3 : Int32) (x4 : Int32) (u : SG), HK [(some x0, 11)] u → rec34 x0 x1 x2 x3 x4 u = rc34 x0 x1 x2 x3 x4 u) (x0 : Nat) (x1 : Int32) (x2 : Int32) (x3 : Int32) (x4 : Int32) (s0 : Int32) (u : SG) (h_u : HK [(some x0, 11)] u) : gX10_dark_57 N  rec34 x0 x1 x2 x3 x4 s0 u = hgX10_dark_57 N  rc34 x0 x1 x2 x3 x4 s0 u := by
  unfold gX10_dark_57 hgX10_dark_57
  refine eq_if ?_ ?_
  · refine eq_if ?_ ?_
    · exact hrc34 x0 x1 x2 x3 (x4 + (1 : Int32)) u (hkc (show zK u x0 = 11 from (h_u.g 0 rfl)) (hk0 h_u.1))
    · refine eq_g (show zK u x0 = 11 from (h_u.g 0 rfl)) ?_
      refine eq_cH (eX10_allCouldSleep N x0 (x2 &&& (x4 ^^^ (-1 : Int32))) u (hkc (show zK u x0 = 11 from (h_u.g 0 rfl)) (hk0 h_u.1))) (fun r1 u2 e9 => h_u.fr (fr_X10_allCouldSleep (P := PT) N x0 (x2 &&& (x4 ^^^ (-1 : Int32))) u clPT trivial _ _ e9).1) (fun r1 u2 h_u2 => ?_)
      refine eq_if ?_ ?_
      · exact hrc34 x0 x1 x2 x3 (x4 + (1 : Int32)) u2 (hkc (show zK u2 x0 = 11 from (h_u2.g 0 rfl)) (hk0 h_u2.1))
      · exact hrc34 x0 x1 x2 x4 (x4 + (1 : Int32)) u2 (hkc (show zK u2 x0 = 11 from (h_u2.g 0 rfl)) (hk0 h_u2.1))
  · exact hrc34 x0 x1 x2 x3 (x4 + (1 : Int32)) u (hkc (show zK u x0 = 11 from (h_u.g 0 rfl)) (hk0 h_u.1))
set_option maxRecDepth 20000 in
def hgX10_dark_34 (N : Nat)   : Nat → Nat → Int32 → Int32 → Int32 → Int32 → SG → Option (Int32 × SG)
  | 0, _, _, _, _, _, _ => none
  | n + 1, x0, x1, x2, x3, x4, u => if x2 ≤ x4 then (if x1 = 0 then (cl (fJ6_bitCount_0f7a4 N x3 u) fun r1 u2 => (some (r1, u2)))
  else (some (x3, u)))
  else (cl (fJ6_bitCount_0f7a4 N x4 u) fun r3 u4 => (cl (fJ6_bitCount_0f7a4 N x3 u4) fun r5 u6 => (if r5 ≤ r3 then (hgX10_dark_57 N  (hgX10_dark_34 N   n)  x0 x1 x2 x3 x4 (0 : Int32) u6)
  else (hgX10_dark_57 N  (hgX10_dark_34 N   n)  x0 x1 x2 x3 x4 (1 : Int32) u6))))
set_option maxRecDepth 20000 in
theorem egX10_dark_34 (N : Nat)   : ∀ (n : Nat) (x0 : Nat) (x1 : Int32) (x2 : Int32) (x3 : Int32) (x4 : Int32) (u : SG), HK [(some x0, 11)] u → gX10_dark_34 N   n x0 x1 x2 x3 x4 u = hgX10_dark_34 N   n x0 x1 x2 x3 x4 u := by
  intro n
  induction n with
  | zero => intros; rfl
  | succ n ih =>
    intro x0 x1 x2 x3 x4 u h_u
    have hrc34 := ih
    rw [gX10_dark_34, hgX10_dark_34]
    refine eq_if ?_ ?_
    · refine eq_if ?_ ?_
      · refine eq_cH rfl (fun r1 u2 e9 => h_u.fr (fr_J6_bitCount_0f7a4 (P := PT) N x3 u clPT _ _ e9).1) (fun r1 u2 h_u2 => ?_)
        rfl
      · rfl
    · refine eq_cH rfl (fun r3 u4 e9 => h_u.fr (fr_J6_bitCount_0f7a4 (P := PT) N x4 u clPT _ _ e9).1) (fun r3 u4 h_u4 => ?_)
      refine eq_cH rfl (fun r5 u6 e9 => h_u4.fr (fr_J6_bitCount_0f7a4 (P := PT) N x3 u4 clPT _ _ e9).1) (fun r5 u6 h_u6 => ?_)
      refine eq_if ?_ ?_
      · exact egX10_dark_57 N  _ _ hrc34  x0 x1 x2 x3 x4 (0 : Int32) u6 (hkc (show zK u6 x0 = 11 from (h_u6.g 0 rfl)) (hk0 h_u6.1))
      · exact egX10_dark_57 N  _ _ hrc34  x0 x1 x2 x3 x4 (1 : Int32) u6 (hkc (show zK u6 x0 = 11 from (h_u6.g 0 rfl)) (hk0 h_u6.1))
set_option maxRecDepth 20000 in
def hX10_dark (N : Nat)  (a0 : Nat) (p1 : Int32) (u : SG) : Option (Int32 × SG) := cl (hX7_isTold N (a0 + 18) u) fun r3 u4 => (if r3 = 0 then (some ((-1 : Int32), u4))
  else (if p1 < 0 then (some ((-1 : Int32), u4))
  else (if p1 ≤ (1 : Int32) then (cl (hX10_burningNow N a0 u4) fun r5 u6 => (hgX10_dark_34 N   N a0 p1 r5 r5 (0 : Int32) u6))
  else (some ((-1 : Int32), u4)))))
set_option maxRecDepth 20000 in
theorem eX10_dark (N : Nat)  (a0 : Nat) (p1 : Int32) (u : SG) (h_u : HK [(some a0, 11)] u) : fX10_dark N  a0 p1 u = hX10_dark N  a0 p1 u := by
  unfold fX10_dark hX10_dark
  refine eq_g (show zK u a0 = 11 from (h_u.g 0 rfl)) ?_
  refine eq_bR (show zR u a0 6 = some (a0 + 17) from lyR_11_6 h_u.1 (h_u.g 0 rfl)) ?_
  refine eq_g (show zK u (a0 + 17) = 7 from (lyK_11_6 h_u.1 (h_u.g 0 rfl))) ?_
  refine eq_bR (show zR u (a0 + 17) 0 = some (a0 + 18) from lyR_7_0 h_u.1 (lyK_11_6 h_u.1 (h_u.g 0 rfl))) ?_
  refine eq_g (show zK u (a0 + 18) = 8 from (lyK_7_0 h_u.1 (lyK_11_6 h_u.1 (h_u.g 0 rfl)))) ?_
  refine eq_cH (eX7_isTold N (a0 + 18) u (hkc (show zK u (a0 + 18) = 8 from (lyK_7_0 h_u.1 (lyK_11_6 h_u.1 (h_u.g 0 rfl)))) (hk0 h_u.1))) (fun r3 u4 e9 => h_u.fr (fr_X7_isTold (P := PT) N (a0 + 18) u clPT trivial _ _ e9).1) (fun r3 u4 h_u4 => ?_)
  refine eq_if ?_ ?_
  · rfl
  · refine eq_if ?_ ?_
    · rfl
    · refine eq_if ?_ ?_
      · refine eq_g (show zK u4 a0 = 11 from (h_u4.g 0 rfl)) ?_
        refine eq_cH (eX10_burningNow N a0 u4 (hkc (show zK u4 a0 = 11 from (h_u4.g 0 rfl)) (hk0 h_u4.1))) (fun r5 u6 e9 => h_u4.fr (fr_X10_burningNow (P := PT) N a0 u4 clPT trivial _ _ e9).1) (fun r5 u6 h_u6 => ?_)
        exact egX10_dark_34 N   N a0 p1 r5 r5 (0 : Int32) u6 (hkc (show zK u6 a0 = 11 from (h_u6.g 0 rfl)) (hk0 h_u6.1))
      · rfl
set_option maxRecDepth 20000 in
def hX10_guild (N : Nat)  (a0 : Nat) (p1 : Int32) (p2 : Int32) (p3 : Int32) (u : SG) : Option (Int32 × SG) := cl (hX7_isTold N (a0 + 18) u) fun r3 u4 => (if r3 = 0 then (some ((-1 : Int32), u4))
  else (if p1 ≤ 0 then (some ((-1 : Int32), u4))
  else (cl (hX7_everyone N (a0 + 18) u4) fun r7 u8 => (if p1 ≤ r7 then (cl (hX10_sleepTogether N a0 p1 p2 p3 u8) fun r9 u10 => (some (r9, u10)))
  else (some ((-1 : Int32), u8))))))
set_option maxRecDepth 20000 in
theorem eX10_guild (N : Nat)  (a0 : Nat) (p1 : Int32) (p2 : Int32) (p3 : Int32) (u : SG) (h_u : HK [(some a0, 11)] u) : fX10_guild N  a0 p1 p2 p3 u = hX10_guild N  a0 p1 p2 p3 u := by
  unfold fX10_guild hX10_guild
  refine eq_g (show zK u a0 = 11 from (h_u.g 0 rfl)) ?_
  refine eq_bR (show zR u a0 6 = some (a0 + 17) from lyR_11_6 h_u.1 (h_u.g 0 rfl)) ?_
  refine eq_g (show zK u (a0 + 17) = 7 from (lyK_11_6 h_u.1 (h_u.g 0 rfl))) ?_
  refine eq_bR (show zR u (a0 + 17) 0 = some (a0 + 18) from lyR_7_0 h_u.1 (lyK_11_6 h_u.1 (h_u.g 0 rfl))) ?_
  refine eq_g (show zK u (a0 + 18) = 8 from (lyK_7_0 h_u.1 (lyK_11_6 h_u.1 (h_u.g 0 rfl)))) ?_
  refine eq_cH (eX7_isTold N (a0 + 18) u (hkc (show zK u (a0 + 18) = 8 from (lyK_7_0 h_u.1 (lyK_11_6 h_u.1 (h_u.g 0 rfl)))) (hk0 h_u.1))) (fun r3 u4 e9 => h_u.fr (fr_X7_isTold (P := PT) N (a0 + 18) u clPT trivial _ _ e9).1) (fun r3 u4 h_u4 => ?_)
  refine eq_if ?_ ?_
  · rfl
  · refine eq_if ?_ ?_
    · rfl
    · refine eq_g (show zK u4 a0 = 11 from (h_u4.g 0 rfl)) ?_
      refine eq_bR (show zR u4 a0 6 = some (a0 + 17) from lyR_11_6 h_u4.1 (h_u4.g 0 rfl)) ?_
      refine eq_g (show zK u4 (a0 + 17) = 7 from (lyK_11_6 h_u4.1 (h_u4.g 0 rfl))) ?_
      refine eq_bR (show zR u4 (a0 + 17) 0 = some (a0 + 18) from lyR_7_0 h_u4.1 (lyK_11_6 h_u4.1 (h_u4.g 0 rfl))) ?_
      refine eq_g (show zK u4 (a0 + 18) = 8 from (lyK_7_0 h_u4.1 (lyK_11_6 h_u4.1 (h_u4.g 0 rfl)))) ?_
      refine eq_cH (eX7_everyone N (a0 + 18) u4 (hkc (show zK u4 (a0 + 18) = 8 from (lyK_7_0 h_u4.1 (lyK_11_6 h_u4.1 (h_u4.g 0 rfl)))) (hk0 h_u4.1))) (fun r7 u8 e9 => h_u4.fr (fr_X7_everyone (P := PT) N (a0 + 18) u4 clPT trivial _ _ e9).1) (fun r7 u8 h_u8 => ?_)
      refine eq_if ?_ ?_
      · refine eq_g (show zK u8 a0 = 11 from (h_u8.g 0 rfl)) ?_
        refine eq_cH (eX10_sleepTogether N a0 p1 p2 p3 u8 (hkc (show zK u8 a0 = 11 from (h_u8.g 0 rfl)) (hk0 h_u8.1))) (fun r9 u10 e9 => h_u8.fr (fr_X10_sleepTogether (P := PT) N a0 p1 p2 p3 u8 clPT trivial _ _ e9).1) (fun r9 u10 h_u10 => ?_)
        rfl
      · rfl
set_option maxRecDepth 20000 in
def hgX10_isFact_40 (N : Nat)   (x0 : Nat) (x2 : Int32) (u : SG) : Option (Int32 × SG) := cl (hX7_isPerson N (x0 + 18) x2 u) fun r3 u4 => (if r3 = 0 ∨ r3 = 1 then (some (r3, u4))
  else (none))
set_option maxRecDepth 20000 in
theorem egX10_isFact_40 (N : Nat)   (x0 : Nat) (x2 : Int32) (u : SG) (h_u : HK [(some x0, 11)] u) : gX10_isFact_40 N   x0 x2 u = hgX10_isFact_40 N   x0 x2 u := by
  unfold gX10_isFact_40 hgX10_isFact_40
  refine eq_g (show zK u x0 = 11 from (h_u.g 0 rfl)) ?_
  refine eq_bR (show zR u x0 6 = some (x0 + 17) from lyR_11_6 h_u.1 (h_u.g 0 rfl)) ?_
  refine eq_g (show zK u (x0 + 17) = 7 from (lyK_11_6 h_u.1 (h_u.g 0 rfl))) ?_
  refine eq_bR (show zR u (x0 + 17) 0 = some (x0 + 18) from lyR_7_0 h_u.1 (lyK_11_6 h_u.1 (h_u.g 0 rfl))) ?_
  refine eq_g (show zK u (x0 + 18) = 8 from (lyK_7_0 h_u.1 (lyK_11_6 h_u.1 (h_u.g 0 rfl)))) ?_
  refine eq_cH (eX7_isPerson N (x0 + 18) x2 u (hkc (show zK u (x0 + 18) = 8 from (lyK_7_0 h_u.1 (lyK_11_6 h_u.1 (h_u.g 0 rfl)))) (hk0 h_u.1))) (fun r3 u4 e9 => h_u.fr (fr_X7_isPerson (P := PT) N (x0 + 18) x2 u clPT trivial _ _ e9).1) (fun r3 u4 h_u4 => ?_)
  refine eq_if ?_ ?_
  · rfl
  · rfl
set_option maxRecDepth 20000 in
def hgX10_isFact_52 (N : Nat)   (x2 : Int32) (u : SG) : Option (Int32 × SG) := if x2 < 0 then (some ((0 : Int32), u))
  else (if (5 : Int32) < x2 then (some ((0 : Int32), u))
  else (some ((1 : Int32), u)))
set_option maxRecDepth 20000 in
theorem egX10_isFact_52 (N : Nat)   (x2 : Int32) (u : SG) (h_u : HK [] u) : gX10_isFact_52 N   x2 u = hgX10_isFact_52 N   x2 u := by
  unfold gX10_isFact_52 hgX10_isFact_52
  refine eq_if ?_ ?_
  · rfl
  · refine eq_if ?_ ?_
    · rfl
    · rfl
set_option maxRecDepth 20000 in
def hgX10_isFact_67 (N : Nat)   (x0 : Nat) (x2 : Int32) (x3 : Int32) (x4 : Int32) (u : SG) : Option (Int32 × SG) := cl (hX7_isPerson N (x0 + 18) x2 u) fun r3 u4 => (if r3 = 0 then (some ((0 : Int32), u4))
  else (if x3 < 0 then (some ((0 : Int32), u4))
  else (if (300 : Int32) < x3 then (some ((0 : Int32), u4))
  else (if x4 < 0 then (some ((0 : Int32), u4))
  else (if (300 : Int32) < x4 then (some ((0 : Int32), u4))
  else (some ((1 : Int32), u4)))))))
set_option maxRecDepth 20000 in
theorem egX10_isFact_67 (N : Nat)   (x0 : Nat) (x2 : Int32) (x3 : Int32) (x4 : Int32) (u : SG) (h_u : HK [(some x0, 11)] u) : gX10_isFact_67 N   x0 x2 x3 x4 u = hgX10_isFact_67 N   x0 x2 x3 x4 u := by
  unfold gX10_isFact_67 hgX10_isFact_67
  refine eq_g (show zK u x0 = 11 from (h_u.g 0 rfl)) ?_
  refine eq_bR (show zR u x0 6 = some (x0 + 17) from lyR_11_6 h_u.1 (h_u.g 0 rfl)) ?_
  refine eq_g (show zK u (x0 + 17) = 7 from (lyK_11_6 h_u.1 (h_u.g 0 rfl))) ?_
  refine eq_bR (show zR u (x0 + 17) 0 = some (x0 + 18) from lyR_7_0 h_u.1 (lyK_11_6 h_u.1 (h_u.g 0 rfl))) ?_
  refine eq_g (show zK u (x0 + 18) = 8 from (lyK_7_0 h_u.1 (lyK_11_6 h_u.1 (h_u.g 0 rfl)))) ?_
  refine eq_cH (eX7_isPerson N (x0 + 18) x2 u (hkc (show zK u (x0 + 18) = 8 from (lyK_7_0 h_u.1 (lyK_11_6 h_u.1 (h_u.g 0 rfl)))) (hk0 h_u.1))) (fun r3 u4 e9 => h_u.fr (fr_X7_isPerson (P := PT) N (x0 + 18) x2 u clPT trivial _ _ e9).1) (fun r3 u4 h_u4 => ?_)
  refine eq_if ?_ ?_
  · rfl
  · refine eq_if ?_ ?_
    · rfl
    · refine eq_if ?_ ?_
      · rfl
      · refine eq_if ?_ ?_
        · rfl
        · refine eq_if ?_ ?_
          · rfl
          · rfl
set_option maxRecDepth 20000 in
def hX10_isFact (N : Nat)  (a0 : Nat) (p1 : Int32) (p2 : Int32) (p3 : Int32) (p4 : Int32) (u : SG) : Option (Int32 × SG) := if p1 = (0 : Int32) then (hgX10_isFact_40 N    a0 p2 u)
  else (if p1 = (1 : Int32) then (hgX10_isFact_40 N    a0 p2 u)
  else (if p1 = (2 : Int32) then (hgX10_isFact_52 N    p2 u)
  else (if p1 = (3 : Int32) then (hgX10_isFact_52 N    p2 u)
  else (if p1 = (4 : Int32) then (hgX10_isFact_67 N    a0 p2 p3 p4 u)
  else (if p1 = (5 : Int32) then (hgX10_isFact_67 N    a0 p2 p3 p4 u)
  else (some ((0 : Int32), u)))))))
set_option maxRecDepth 20000 in
theorem eX10_isFact (N : Nat)  (a0 : Nat) (p1 : Int32) (p2 : Int32) (p3 : Int32) (p4 : Int32) (u : SG) (h_u : HK [(some a0, 11)] u) : fX10_isFact N  a0 p1 p2 p3 p4 u = hX10_isFact N  a0 p1 p2 p3 p4 u := by
  unfold fX10_isFact hX10_isFact
  refine eq_if ?_ ?_
  · exact egX10_isFact_40 N    a0 p2 u (hkc (show zK u a0 = 11 from (h_u.g 0 rfl)) (hk0 h_u.1))
  · refine eq_if ?_ ?_
    · exact egX10_isFact_40 N    a0 p2 u (hkc (show zK u a0 = 11 from (h_u.g 0 rfl)) (hk0 h_u.1))
    · refine eq_if ?_ ?_
      · exact egX10_isFact_52 N    p2 u (hk0 h_u.1)
      · refine eq_if ?_ ?_
        · exact egX10_isFact_52 N    p2 u (hk0 h_u.1)
        · refine eq_if ?_ ?_
          · exact egX10_isFact_67 N    a0 p2 p3 p4 u (hkc (show zK u a0 = 11 from (h_u.g 0 rfl)) (hk0 h_u.1))
          · refine eq_if ?_ ?_
            · exact egX10_isFact_67 N    a0 p2 p3 p4 u (hkc (show zK u a0 = 11 from (h_u.g 0 rfl)) (hk0 h_u.1))
            · rfl
set_option maxRecDepth 20000 in
def hX10_fact (N : Nat)  (a0 : Nat) (p1 : Int32) (p2 : Int32) (p3 : Int32) (p4 : Int32) (u : SG) : Option (Int32 × SG) := if p1 = (-1 : Int32) then (cl (hX1_clear N (a0 + 29) u) fun r15 u16 => (some ((0 : Int32), u16)))
  else (cl (hX7_isTold N (a0 + 18) u) fun r3 u4 => (if r3 = 0 then (some ((-2 : Int32), u4))
  else (cl (hX10_isFact N a0 p1 p2 p3 p4 u4) fun r5 u6 => (if r5 = 0 then (some ((-2 : Int32), u6))
  else (cl (hX1_add N (a0 + 29) p1 p2 p3 p4 u6) fun r9 u10 => (if r9 = 0 then (some ((-2 : Int32), u10))
  else (some (zI u10 (a0 + 29) 4, u10))))))))
set_option maxRecDepth 20000 in
theorem eX10_fact (N : Nat)  (a0 : Nat) (p1 : Int32) (p2 : Int32) (p3 : Int32) (p4 : Int32) (u : SG) (h_u : HK [(some a0, 11)] u) : fX10_fact N  a0 p1 p2 p3 p4 u = hX10_fact N  a0 p1 p2 p3 p4 u := by
  unfold fX10_fact hX10_fact
  refine eq_if ?_ ?_
  · refine eq_g (show zK u a0 = 11 from (h_u.g 0 rfl)) ?_
    refine eq_bR (show zR u a0 6 = some (a0 + 17) from lyR_11_6 h_u.1 (h_u.g 0 rfl)) ?_
    refine eq_g (show zK u (a0 + 17) = 7 from (lyK_11_6 h_u.1 (h_u.g 0 rfl))) ?_
    refine eq_bR (show zR u (a0 + 17) 2 = some (a0 + 29) from lyR_7_2 h_u.1 (lyK_11_6 h_u.1 (h_u.g 0 rfl))) ?_
    refine eq_g (show zK u (a0 + 29) = 2 from (lyK_7_2 h_u.1 (lyK_11_6 h_u.1 (h_u.g 0 rfl)))) ?_
    refine eq_cH (eX1_clear N (a0 + 29) u (hkc (show zK u (a0 + 29) = 2 from (lyK_7_2 h_u.1 (lyK_11_6 h_u.1 (h_u.g 0 rfl)))) (hk0 h_u.1))) (fun r15 u16 e9 => h_u.fr (fr_X1_clear (P := PT) N (a0 + 29) u clPT trivial _ _ e9).1) (fun r15 u16 h_u16 => ?_)
    rfl
  · refine eq_g (show zK u a0 = 11 from (h_u.g 0 rfl)) ?_
    refine eq_bR (show zR u a0 6 = some (a0 + 17) from lyR_11_6 h_u.1 (h_u.g 0 rfl)) ?_
    refine eq_g (show zK u (a0 + 17) = 7 from (lyK_11_6 h_u.1 (h_u.g 0 rfl))) ?_
    refine eq_bR (show zR u (a0 + 17) 0 = some (a0 + 18) from lyR_7_0 h_u.1 (lyK_11_6 h_u.1 (h_u.g 0 rfl))) ?_
    refine eq_g (show zK u (a0 + 18) = 8 from (lyK_7_0 h_u.1 (lyK_11_6 h_u.1 (h_u.g 0 rfl)))) ?_
    refine eq_cH (eX7_isTold N (a0 + 18) u (hkc (show zK u (a0 + 18) = 8 from (lyK_7_0 h_u.1 (lyK_11_6 h_u.1 (h_u.g 0 rfl)))) (hk0 h_u.1))) (fun r3 u4 e9 => h_u.fr (fr_X7_isTold (P := PT) N (a0 + 18) u clPT trivial _ _ e9).1) (fun r3 u4 h_u4 => ?_)
    refine eq_if ?_ ?_
    · rfl
    · refine eq_g (show zK u4 a0 = 11 from (h_u4.g 0 rfl)) ?_
      refine eq_cH (eX10_isFact N a0 p1 p2 p3 p4 u4 (hkc (show zK u4 a0 = 11 from (h_u4.g 0 rfl)) (hk0 h_u4.1))) (fun r5 u6 e9 => h_u4.fr (fr_X10_isFact (P := PT) N a0 p1 p2 p3 p4 u4 clPT trivial _ _ e9).1) (fun r5 u6 h_u6 => ?_)
      refine eq_if ?_ ?_
      · rfl
      · refine eq_g (show zK u6 a0 = 11 from (h_u6.g 0 rfl)) ?_
        refine eq_bR (show zR u6 a0 6 = some (a0 + 17) from lyR_11_6 h_u6.1 (h_u6.g 0 rfl)) ?_
        refine eq_g (show zK u6 (a0 + 17) = 7 from (lyK_11_6 h_u6.1 (h_u6.g 0 rfl))) ?_
        refine eq_bR (show zR u6 (a0 + 17) 2 = some (a0 + 29) from lyR_7_2 h_u6.1 (lyK_11_6 h_u6.1 (h_u6.g 0 rfl))) ?_
        refine eq_g (show zK u6 (a0 + 29) = 2 from (lyK_7_2 h_u6.1 (lyK_11_6 h_u6.1 (h_u6.g 0 rfl)))) ?_
        refine eq_cH (eX1_add N (a0 + 29) p1 p2 p3 p4 u6 (hkc (show zK u6 (a0 + 29) = 2 from (lyK_7_2 h_u6.1 (lyK_11_6 h_u6.1 (h_u6.g 0 rfl)))) (hk0 h_u6.1))) (fun r9 u10 e9 => h_u6.fr (fr_X1_add (P := PT) N (a0 + 29) p1 p2 p3 p4 u6 clPT trivial _ _ e9).1) (fun r9 u10 h_u10 => ?_)
        refine eq_if ?_ ?_
        · rfl
        · refine eq_g (show zK u10 a0 = 11 from (h_u10.g 0 rfl)) ?_
          refine eq_bR (show zR u10 a0 6 = some (a0 + 17) from lyR_11_6 h_u10.1 (h_u10.g 0 rfl)) ?_
          refine eq_g (show zK u10 (a0 + 17) = 7 from (lyK_11_6 h_u10.1 (h_u10.g 0 rfl))) ?_
          refine eq_bR (show zR u10 (a0 + 17) 2 = some (a0 + 29) from lyR_7_2 h_u10.1 (lyK_11_6 h_u10.1 (h_u10.g 0 rfl))) ?_
          refine eq_g (show zK u10 (a0 + 29) = 2 from (lyK_7_2 h_u10.1 (lyK_11_6 h_u10.1 (h_u10.g 0 rfl)))) ?_
          rfl
set_option maxRecDepth 20000 in
def hgX10_setsWith_4 (N : Nat)   : Nat → Nat → Int32 → Int32 → Int32 → SG → Option (Int32 × SG)
  | 0, _, _, _, _, _ => none
  | n + 1, x0, x1, x2, x3, u => cl (hX7_everyone N (x0 + 18) u) fun r3 u4 => (if r3 < x3 then (some (x2, u4))
  else (if (x1 &&& (x3 ^^^ (-1 : Int32))) = 0 then (cl (hX1_allow N (x0 + 29) x3 u4) fun r7 u8 => (if r7 = 0 then ((hgX10_setsWith_4 N   n) x0 x1 x2 (x3 + (1 : Int32)) u8)
  else ((hgX10_setsWith_4 N   n) x0 x1 (x2 + (1 : Int32)) (x3 + (1 : Int32)) u8)))
  else ((hgX10_setsWith_4 N   n) x0 x1 x2 (x3 + (1 : Int32)) u4)))
set_option maxRecDepth 20000 in
theorem egX10_setsWith_4 (N : Nat)   : ∀ (n : Nat) (x0 : Nat) (x1 : Int32) (x2 : Int32) (x3 : Int32) (u : SG), HK [(some x0, 11)] u → gX10_setsWith_4 N   n x0 x1 x2 x3 u = hgX10_setsWith_4 N   n x0 x1 x2 x3 u := by
  intro n
  induction n with
  | zero => intros; rfl
  | succ n ih =>
    intro x0 x1 x2 x3 u h_u
    have hrc4 := ih
    rw [gX10_setsWith_4, hgX10_setsWith_4]
    refine eq_g (show zK u x0 = 11 from (h_u.g 0 rfl)) ?_
    refine eq_bR (show zR u x0 6 = some (x0 + 17) from lyR_11_6 h_u.1 (h_u.g 0 rfl)) ?_
    refine eq_g (show zK u (x0 + 17) = 7 from (lyK_11_6 h_u.1 (h_u.g 0 rfl))) ?_
    refine eq_bR (show zR u (x0 + 17) 0 = some (x0 + 18) from lyR_7_0 h_u.1 (lyK_11_6 h_u.1 (h_u.g 0 rfl))) ?_
    refine eq_g (show zK u (x0 + 18) = 8 from (lyK_7_0 h_u.1 (lyK_11_6 h_u.1 (h_u.g 0 rfl)))) ?_
    refine eq_cH (eX7_everyone N (x0 + 18) u (hkc (show zK u (x0 + 18) = 8 from (lyK_7_0 h_u.1 (lyK_11_6 h_u.1 (h_u.g 0 rfl)))) (hk0 h_u.1))) (fun r3 u4 e9 => h_u.fr (fr_X7_everyone (P := PT) N (x0 + 18) u clPT trivial _ _ e9).1) (fun r3 u4 h_u4 => ?_)
    refine eq_if ?_ ?_
    · rfl
    · refine eq_if ?_ ?_
      · refine eq_g (show zK u4 x0 = 11 from (h_u4.g 0 rfl)) ?_
        refine eq_bR (show zR u4 x0 6 = some (x0 + 17) from lyR_11_6 h_u4.1 (h_u4.g 0 rfl)) ?_
        refine eq_g (show zK u4 (x0 + 17) = 7 from (lyK_11_6 h_u4.1 (h_u4.g 0 rfl))) ?_
        refine eq_bR (show zR u4 (x0 + 17) 2 = some (x0 + 29) from lyR_7_2 h_u4.1 (lyK_11_6 h_u4.1 (h_u4.g 0 rfl))) ?_
        refine eq_g (show zK u4 (x0 + 29) = 2 from (lyK_7_2 h_u4.1 (lyK_11_6 h_u4.1 (h_u4.g 0 rfl)))) ?_
        refine eq_cH (eX1_allow N (x0 + 29) x3 u4 (hkc (show zK u4 (x0 + 29) = 2 from (lyK_7_2 h_u4.1 (lyK_11_6 h_u4.1 (h_u4.g 0 rfl)))) (hk0 h_u4.1))) (fun r7 u8 e9 => h_u4.fr (fr_X1_allow (P := PT) N (x0 + 29) x3 u4 clPT trivial _ _ e9).1) (fun r7 u8 h_u8 => ?_)
        refine eq_if ?_ ?_
        · exact hrc4 x0 x1 x2 (x3 + (1 : Int32)) u8 (hkc (show zK u8 x0 = 11 from (h_u8.g 0 rfl)) (hk0 h_u8.1))
        · exact hrc4 x0 x1 (x2 + (1 : Int32)) (x3 + (1 : Int32)) u8 (hkc (show zK u8 x0 = 11 from (h_u8.g 0 rfl)) (hk0 h_u8.1))
      · exact hrc4 x0 x1 x2 (x3 + (1 : Int32)) u4 (hkc (show zK u4 x0 = 11 from (h_u4.g 0 rfl)) (hk0 h_u4.1))
set_option maxRecDepth 20000 in
def hX10_setsWith (N : Nat)  (a0 : Nat) (p1 : Int32) (u : SG) : Option (Int32 × SG) := hgX10_setsWith_4 N   N a0 p1 (0 : Int32) (0 : Int32) u
set_option maxRecDepth 20000 in
theorem eX10_setsWith (N : Nat)  (a0 : Nat) (p1 : Int32) (u : SG) (h_u : HK [(some a0, 11)] u) : fX10_setsWith N  a0 p1 u = hX10_setsWith N  a0 p1 u := by
  unfold fX10_setsWith hX10_setsWith
  exact egX10_setsWith_4 N   N a0 p1 (0 : Int32) (0 : Int32) u (hkc (show zK u a0 = 11 from (h_u.g 0 rfl)) (hk0 h_u.1))
set_option maxRecDepth 20000 in
def hgX10_slept_80 (N : Nat)  (rc47 : Nat → Int32 → Int32 → Int32 → Int32 → Int32 → Int32 → SG → Option (Int32 × SG)) (x0 : Nat) (x1 : Int32) (x2 : Int32) (x4 : Int32) (x5 : Int32) (x6 : Int32) (s0 : Int32) (u : SG) : Option (Int32 × SG) := bs (x4 &&& x6) fun v1 => (bs (x5 ||| x6) fun v2 => (rc47 x0 x1 x2 s0 v1 v2 (x6 + (1 : Int32)) u))
set_option maxRecDepth 20000 in
theorem egX10_slept_80 (N : Nat)  (rec47 : Nat → Int32 → Int32 → Int32 → Int32 → Int32 → Int32 → SG → Option (Int32 × SG)) (rc47 : Nat → Int32 → Int32 → Int32 → Int32 → Int32 → Int32 → SG → Option (Int32 × SG)) (hrc47 : ∀ (x0 : Nat) (x1 : Int32) (x2 : Int32) (x3 : Int32) (x4 : Int32) (x5 : Int32) (x6 : Int32) (u : SG), HK [(some x0, 11)] u → rec47 x0 x1 x2 x3 x4 x5 x6 u = rc47 x0 x1 x2 x3 x4 x5 x6 u) (x0 : Nat) (x1 : Int32) (x2 : Int32) (x4 : Int32) (x5 : Int32) (x6 : Int32) (s0 : Int32) (u : SG) (h_u : HK [(some x0, 11)] u) : gX10_slept_80 N  rec47 x0 x1 x2 x4 x5 x6 s0 u = hgX10_slept_80 N  rc47 x0 x1 x2 x4 x5 x6 s0 u := by
  unfold gX10_slept_80 hgX10_slept_80
  refine eq_bs (fun v1 => ?_)
  refine eq_bs (fun v2 => ?_)
  exact hrc47 x0 x1 x2 s0 v1 v2 (x6 + (1 : Int32)) u (hkc (show zK u x0 = 11 from (h_u.g 0 rfl)) (hk0 h_u.1))
set_option maxRecDepth 20000 in
def hgX10_slept_47 (N : Nat)   : Nat → Nat → Int32 → Int32 → Int32 → Int32 → Int32 → Int32 → SG → Option (Int32 × SG)
  | 0, _, _, _, _, _, _, _, _ => none
  | n + 1, x0, x1, x2, x3, x4, x5, x6, u => if x2 < x6 then (if x1 = (0 : Int32) then (cl (hX10_setsWith N x0 (0 : Int32) u) fun r1 u2 => (some (r1, u2)))
  else (if x1 = (1 : Int32) then (some (x3, u))
  else (if x1 = (2 : Int32) then (if x3 = (-2 : Int32) then (some ((0 : Int32), u))
  else (some (x4, u)))
  else (if x3 = (-2 : Int32) then (some ((0 : Int32), u))
  else (some (x2 &&& (x5 ^^^ (-1 : Int32)), u))))))
  else (cl (hX1_allow N (x0 + 29) x6 u) fun r5 u6 => (if r5 = 0 then ((hgX10_slept_47 N   n) x0 x1 x2 x3 x4 x5 (x6 + (1 : Int32)) u6)
  else (if x3 = (-2 : Int32) then (hgX10_slept_80 N  (hgX10_slept_47 N   n)  x0 x1 x2 x4 x5 x6 x6 u6)
  else (hgX10_slept_80 N  (hgX10_slept_47 N   n)  x0 x1 x2 x4 x5 x6 x3 u6))))
set_option maxRecDepth 20000 in
theorem egX10_slept_47 (N : Nat)   : ∀ (n : Nat) (x0 : Nat) (x1 : Int32) (x2 : Int32) (x3 : Int32) (x4 : Int32) (x5 : Int32) (x6 : Int32) (u : SG), HK [(some x0, 11)] u → gX10_slept_47 N   n x0 x1 x2 x3 x4 x5 x6 u = hgX10_slept_47 N   n x0 x1 x2 x3 x4 x5 x6 u := by
  intro n
  induction n with
  | zero => intros; rfl
  | succ n ih =>
    intro x0 x1 x2 x3 x4 x5 x6 u h_u
    have hrc47 := ih
    rw [gX10_slept_47, hgX10_slept_47]
    refine eq_if ?_ ?_
    · refine eq_if ?_ ?_
      · refine eq_g (show zK u x0 = 11 from (h_u.g 0 rfl)) ?_
        refine eq_cH (eX10_setsWith N x0 (0 : Int32) u (hkc (show zK u x0 = 11 from (h_u.g 0 rfl)) (hk0 h_u.1))) (fun r1 u2 e9 => h_u.fr (fr_X10_setsWith (P := PT) N x0 (0 : Int32) u clPT trivial _ _ e9).1) (fun r1 u2 h_u2 => ?_)
        rfl
      · refine eq_if ?_ ?_
        · rfl
        · refine eq_if ?_ ?_
          · refine eq_if ?_ ?_
            · rfl
            · rfl
          · refine eq_if ?_ ?_
            · rfl
            · rfl
    · refine eq_g (show zK u x0 = 11 from (h_u.g 0 rfl)) ?_
      refine eq_bR (show zR u x0 6 = some (x0 + 17) from lyR_11_6 h_u.1 (h_u.g 0 rfl)) ?_
      refine eq_g (show zK u (x0 + 17) = 7 from (lyK_11_6 h_u.1 (h_u.g 0 rfl))) ?_
      refine eq_bR (show zR u (x0 + 17) 2 = some (x0 + 29) from lyR_7_2 h_u.1 (lyK_11_6 h_u.1 (h_u.g 0 rfl))) ?_
      refine eq_g (show zK u (x0 + 29) = 2 from (lyK_7_2 h_u.1 (lyK_11_6 h_u.1 (h_u.g 0 rfl)))) ?_
      refine eq_cH (eX1_allow N (x0 + 29) x6 u (hkc (show zK u (x0 + 29) = 2 from (lyK_7_2 h_u.1 (lyK_11_6 h_u.1 (h_u.g 0 rfl)))) (hk0 h_u.1))) (fun r5 u6 e9 => h_u.fr (fr_X1_allow (P := PT) N (x0 + 29) x6 u clPT trivial _ _ e9).1) (fun r5 u6 h_u6 => ?_)
      refine eq_if ?_ ?_
      · exact hrc47 x0 x1 x2 x3 x4 x5 (x6 + (1 : Int32)) u6 (hkc (show zK u6 x0 = 11 from (h_u6.g 0 rfl)) (hk0 h_u6.1))
      · refine eq_if ?_ ?_
        · exact egX10_slept_80 N  _ _ hrc47  x0 x1 x2 x4 x5 x6 x6 u6 (hkc (show zK u6 x0 = 11 from (h_u6.g 0 rfl)) (hk0 h_u6.1))
        · exact egX10_slept_80 N  _ _ hrc47  x0 x1 x2 x4 x5 x6 x3 u6 (hkc (show zK u6 x0 = 11 from (h_u6.g 0 rfl)) (hk0 h_u6.1))
set_option maxRecDepth 20000 in
def hX10_slept (N : Nat)  (a0 : Nat) (p1 : Int32) (u : SG) : Option (Int32 × SG) := cl (hX7_isTold N (a0 + 18) u) fun r3 u4 => (if r3 = 0 then (some ((-1 : Int32), u4))
  else (if p1 < 0 then (some ((-1 : Int32), u4))
  else (if p1 ≤ (3 : Int32) then (cl (hX7_everyone N (a0 + 18) u4) fun r7 u8 => (hgX10_slept_47 N   N a0 p1 r7 (-2 : Int32) r7 (0 : Int32) (0 : Int32) u8))
  else (some ((-1 : Int32), u4)))))
set_option maxRecDepth 20000 in
theorem eX10_slept (N : Nat)  (a0 : Nat) (p1 : Int32) (u : SG) (h_u : HK [(some a0, 11)] u) : fX10_slept N  a0 p1 u = hX10_slept N  a0 p1 u := by
  unfold fX10_slept hX10_slept
  refine eq_g (show zK u a0 = 11 from (h_u.g 0 rfl)) ?_
  refine eq_bR (show zR u a0 6 = some (a0 + 17) from lyR_11_6 h_u.1 (h_u.g 0 rfl)) ?_
  refine eq_g (show zK u (a0 + 17) = 7 from (lyK_11_6 h_u.1 (h_u.g 0 rfl))) ?_
  refine eq_bR (show zR u (a0 + 17) 0 = some (a0 + 18) from lyR_7_0 h_u.1 (lyK_11_6 h_u.1 (h_u.g 0 rfl))) ?_
  refine eq_g (show zK u (a0 + 18) = 8 from (lyK_7_0 h_u.1 (lyK_11_6 h_u.1 (h_u.g 0 rfl)))) ?_
  refine eq_cH (eX7_isTold N (a0 + 18) u (hkc (show zK u (a0 + 18) = 8 from (lyK_7_0 h_u.1 (lyK_11_6 h_u.1 (h_u.g 0 rfl)))) (hk0 h_u.1))) (fun r3 u4 e9 => h_u.fr (fr_X7_isTold (P := PT) N (a0 + 18) u clPT trivial _ _ e9).1) (fun r3 u4 h_u4 => ?_)
  refine eq_if ?_ ?_
  · rfl
  · refine eq_if ?_ ?_
    · rfl
    · refine eq_if ?_ ?_
      · refine eq_g (show zK u4 a0 = 11 from (h_u4.g 0 rfl)) ?_
        refine eq_bR (show zR u4 a0 6 = some (a0 + 17) from lyR_11_6 h_u4.1 (h_u4.g 0 rfl)) ?_
        refine eq_g (show zK u4 (a0 + 17) = 7 from (lyK_11_6 h_u4.1 (h_u4.g 0 rfl))) ?_
        refine eq_bR (show zR u4 (a0 + 17) 0 = some (a0 + 18) from lyR_7_0 h_u4.1 (lyK_11_6 h_u4.1 (h_u4.g 0 rfl))) ?_
        refine eq_g (show zK u4 (a0 + 18) = 8 from (lyK_7_0 h_u4.1 (lyK_11_6 h_u4.1 (h_u4.g 0 rfl)))) ?_
        refine eq_cH (eX7_everyone N (a0 + 18) u4 (hkc (show zK u4 (a0 + 18) = 8 from (lyK_7_0 h_u4.1 (lyK_11_6 h_u4.1 (h_u4.g 0 rfl)))) (hk0 h_u4.1))) (fun r7 u8 e9 => h_u4.fr (fr_X7_everyone (P := PT) N (a0 + 18) u4 clPT trivial _ _ e9).1) (fun r7 u8 h_u8 => ?_)
        exact egX10_slept_47 N   N a0 p1 r7 (-2 : Int32) r7 (0 : Int32) (0 : Int32) u8 (hkc (show zK u8 a0 = 11 from (h_u8.g 0 rfl)) (hk0 h_u8.1))
      · rfl
set_option maxRecDepth 20000 in
def hgX10_ask_106 (N : Nat)   (x1 : Int32) (x3 : Int32) (x4 : Int32) (u : SG) : Option (Int32 × SG) := if x1 = 0 then (some (x3, u))
  else (some (x4, u))
set_option maxRecDepth 20000 in
theorem egX10_ask_106 (N : Nat)   (x1 : Int32) (x3 : Int32) (x4 : Int32) (u : SG) (h_u : HK [] u) : gX10_ask_106 N   x1 x3 x4 u = hgX10_ask_106 N   x1 x3 x4 u := by
  unfold gX10_ask_106 hgX10_ask_106
  refine eq_if ?_ ?_
  · rfl
  · rfl
set_option maxRecDepth 20000 in
def hgX10_ask_40 (N : Nat)   : Nat → Nat → Int32 → Int32 → Int32 → Int32 → Int32 → SG → Option (Int32 × SG)
  | 0, _, _, _, _, _, _, _ => none
  | n + 1, x0, x1, x2, x3, x4, x5, u => if (zI u (x0 + 18) 7) ≤ x5 then (hgX10_ask_106 N    x1 x3 x4 u)
  else (if x2 ≤ 0 then (hgX10_ask_106 N    x1 x3 x4 u)
  else (cl (hX10_setsWith N x0 ((1 : Int32) <<< (x5 &&& 31)) u) fun r3 u4 => (cl (fJ9_max_7cf53 N r3 (x2 - r3) u4) fun r5 u6 => (if x3 = (-2 : Int32) then ((hgX10_ask_40 N   n) x0 x1 x2 x5 r5 (x5 + (1 : Int32)) u6)
  else (if x4 ≤ r5 then ((hgX10_ask_40 N   n) x0 x1 x2 x3 x4 (x5 + (1 : Int32)) u6)
  else ((hgX10_ask_40 N   n) x0 x1 x2 x5 r5 (x5 + (1 : Int32)) u6))))))
set_option maxRecDepth 20000 in
theorem egX10_ask_40 (N : Nat)   : ∀ (n : Nat) (x0 : Nat) (x1 : Int32) (x2 : Int32) (x3 : Int32) (x4 : Int32) (x5 : Int32) (u : SG), HK [(some x0, 11)] u → gX10_ask_40 N   n x0 x1 x2 x3 x4 x5 u = hgX10_ask_40 N   n x0 x1 x2 x3 x4 x5 u := by
  intro n
  induction n with
  | zero => intros; rfl
  | succ n ih =>
    intro x0 x1 x2 x3 x4 x5 u h_u
    have hrc40 := ih
    rw [gX10_ask_40, hgX10_ask_40]
    refine eq_g (show zK u x0 = 11 from (h_u.g 0 rfl)) ?_
    refine eq_bR (show zR u x0 6 = some (x0 + 17) from lyR_11_6 h_u.1 (h_u.g 0 rfl)) ?_
    refine eq_g (show zK u (x0 + 17) = 7 from (lyK_11_6 h_u.1 (h_u.g 0 rfl))) ?_
    refine eq_bR (show zR u (x0 + 17) 0 = some (x0 + 18) from lyR_7_0 h_u.1 (lyK_11_6 h_u.1 (h_u.g 0 rfl))) ?_
    refine eq_g (show zK u (x0 + 18) = 8 from (lyK_7_0 h_u.1 (lyK_11_6 h_u.1 (h_u.g 0 rfl)))) ?_
    refine eq_if ?_ ?_
    · exact egX10_ask_106 N    x1 x3 x4 u (hk0 h_u.1)
    · refine eq_if ?_ ?_
      · exact egX10_ask_106 N    x1 x3 x4 u (hk0 h_u.1)
      · refine eq_g (show zK u x0 = 11 from (h_u.g 0 rfl)) ?_
        refine eq_cH (eX10_setsWith N x0 ((1 : Int32) <<< (x5 &&& 31)) u (hkc (show zK u x0 = 11 from (h_u.g 0 rfl)) (hk0 h_u.1))) (fun r3 u4 e9 => h_u.fr (fr_X10_setsWith (P := PT) N x0 ((1 : Int32) <<< (x5 &&& 31)) u clPT trivial _ _ e9).1) (fun r3 u4 h_u4 => ?_)
        refine eq_cH rfl (fun r5 u6 e9 => h_u4.fr (fr_J9_max_7cf53 (P := PT) N r3 (x2 - r3) u4 clPT _ _ e9).1) (fun r5 u6 h_u6 => ?_)
        refine eq_if ?_ ?_
        · exact hrc40 x0 x1 x2 x5 r5 (x5 + (1 : Int32)) u6 (hkc (show zK u6 x0 = 11 from (h_u6.g 0 rfl)) (hk0 h_u6.1))
        · refine eq_if ?_ ?_
          · exact hrc40 x0 x1 x2 x3 x4 (x5 + (1 : Int32)) u6 (hkc (show zK u6 x0 = 11 from (h_u6.g 0 rfl)) (hk0 h_u6.1))
          · exact hrc40 x0 x1 x2 x5 r5 (x5 + (1 : Int32)) u6 (hkc (show zK u6 x0 = 11 from (h_u6.g 0 rfl)) (hk0 h_u6.1))
set_option maxRecDepth 20000 in
def hX10_ask (N : Nat)  (a0 : Nat) (p1 : Int32) (u : SG) : Option (Int32 × SG) := cl (hX7_isTold N (a0 + 18) u) fun r3 u4 => (if r3 = 0 then (some ((-1 : Int32), u4))
  else (if p1 < 0 then (some ((-1 : Int32), u4))
  else (if p1 ≤ (1 : Int32) then (cl (hX10_setsWith N a0 (0 : Int32) u4) fun r5 u6 => (hgX10_ask_40 N   N a0 p1 r5 (-2 : Int32) (-2 : Int32) (0 : Int32) u6))
  else (some ((-1 : Int32), u4)))))
set_option maxRecDepth 20000 in
theorem eX10_ask (N : Nat)  (a0 : Nat) (p1 : Int32) (u : SG) (h_u : HK [(some a0, 11)] u) : fX10_ask N  a0 p1 u = hX10_ask N  a0 p1 u := by
  unfold fX10_ask hX10_ask
  refine eq_g (show zK u a0 = 11 from (h_u.g 0 rfl)) ?_
  refine eq_bR (show zR u a0 6 = some (a0 + 17) from lyR_11_6 h_u.1 (h_u.g 0 rfl)) ?_
  refine eq_g (show zK u (a0 + 17) = 7 from (lyK_11_6 h_u.1 (h_u.g 0 rfl))) ?_
  refine eq_bR (show zR u (a0 + 17) 0 = some (a0 + 18) from lyR_7_0 h_u.1 (lyK_11_6 h_u.1 (h_u.g 0 rfl))) ?_
  refine eq_g (show zK u (a0 + 18) = 8 from (lyK_7_0 h_u.1 (lyK_11_6 h_u.1 (h_u.g 0 rfl)))) ?_
  refine eq_cH (eX7_isTold N (a0 + 18) u (hkc (show zK u (a0 + 18) = 8 from (lyK_7_0 h_u.1 (lyK_11_6 h_u.1 (h_u.g 0 rfl)))) (hk0 h_u.1))) (fun r3 u4 e9 => h_u.fr (fr_X7_isTold (P := PT) N (a0 + 18) u clPT trivial _ _ e9).1) (fun r3 u4 h_u4 => ?_)
  refine eq_if ?_ ?_
  · rfl
  · refine eq_if ?_ ?_
    · rfl
    · refine eq_if ?_ ?_
      · refine eq_g (show zK u4 a0 = 11 from (h_u4.g 0 rfl)) ?_
        refine eq_cH (eX10_setsWith N a0 (0 : Int32) u4 (hkc (show zK u4 a0 = 11 from (h_u4.g 0 rfl)) (hk0 h_u4.1))) (fun r5 u6 e9 => h_u4.fr (fr_X10_setsWith (P := PT) N a0 (0 : Int32) u4 clPT trivial _ _ e9).1) (fun r5 u6 h_u6 => ?_)
        exact egX10_ask_40 N   N a0 p1 r5 (-2 : Int32) (-2 : Int32) (0 : Int32) u6 (hkc (show zK u6 a0 = 11 from (h_u6.g 0 rfl)) (hk0 h_u6.1))
      · rfl
set_option maxRecDepth 20000 in
def hgX10_priceNight_90 (N : Nat)   : Nat → Nat → Int32 → Int32 → Int32 → SG → Option (Int32 × SG)
  | 0, _, _, _, _, _ => none
  | n + 1, x0, x3, x4, x5, u => if (10 : Int32) < x5 then (some (x4, u))
  else (cl (fJ9_min_7cf53 N x5 x4 u) fun r2 u3 => (cl (hX10_cheapestHours N x0 x3 r2 u3) fun r4 u5 => (cl (hX10_costOfHours N x0 r4 u5) fun r6 u7 => (if x5 < 0 ∨ 11 ≤ x5.toNatClampNeg then none else (bs (sI u7 (x0 + 124) x5.toNatClampNeg r6) fun u8 => ((hgX10_priceNight_90 N   n) x0 x3 x4 (x5 + (1 : Int32)) u8))))))
set_option maxRecDepth 20000 in
theorem egX10_priceNight_90 (N : Nat)   : ∀ (n : Nat) (x0 : Nat) (x3 : Int32) (x4 : Int32) (x5 : Int32) (u : SG), HK [(some x0, 11)] u → gX10_priceNight_90 N   n x0 x3 x4 x5 u = hgX10_priceNight_90 N   n x0 x3 x4 x5 u := by
  intro n
  induction n with
  | zero => intros; rfl
  | succ n ih =>
    intro x0 x3 x4 x5 u h_u
    have hrc90 := ih
    rw [gX10_priceNight_90, hgX10_priceNight_90]
    refine eq_if ?_ ?_
    · rfl
    · refine eq_g (show zK u x0 = 11 from (h_u.g 0 rfl)) ?_
      refine eq_bR (show zR u x0 12 = some (x0 + 124) from lyR_11_12 h_u.1 (h_u.g 0 rfl)) ?_
      refine eq_cH rfl (fun r2 u3 e9 => h_u.fr (fr_J9_min_7cf53 (P := PT) N x5 x4 u clPT _ _ e9).1) (fun r2 u3 h_u3 => ?_)
      refine eq_g (show zK u3 x0 = 11 from (h_u3.g 0 rfl)) ?_
      refine eq_cH (eX10_cheapestHours N x0 x3 r2 u3 (hkc (show zK u3 x0 = 11 from (h_u3.g 0 rfl)) (hk0 h_u3.1))) (fun r4 u5 e9 => h_u3.fr (fr_X10_cheapestHours (P := PT) N x0 x3 r2 u3 clPT trivial _ _ e9).1) (fun r4 u5 h_u5 => ?_)
      refine eq_g (show zK u5 x0 = 11 from (h_u5.g 0 rfl)) ?_
      refine eq_cH (eX10_costOfHours N x0 r4 u5 (hkc (show zK u5 x0 = 11 from (h_u5.g 0 rfl)) (hk0 h_u5.1))) (fun r6 u7 e9 => h_u5.fr (fr_X10_costOfHours (P := PT) N x0 r4 u5 clPT trivial _ _ e9).1) (fun r6 u7 h_u7 => ?_)
      refine eq_g (show zK u7 (x0 + 124) = 22 from (lyK_11_12 h_u7.1 (h_u7.g 0 rfl))) ?_
      refine eq_ixh (show zN u7 (x0 + 124) = 11 from lyN_11_12 h_u7.1 (h_u7.g 0 rfl)) (fun hix1 => ?_)
      refine eq_sH (h_u7.fr (P := PT) (Fr.sIr trivial)) (fun u8 h_u8 => ?_)
      exact hrc90 x0 x3 x4 (x5 + (1 : Int32)) u8 (hkc (show zK u8 x0 = 11 from (h_u8.g 0 rfl)) (hk0 h_u8.1))
set_option maxRecDepth 20000 in
def hgX10_priceNight_13 (N : Nat)   : Nat → Nat → Int32 → Nat → Int32 → Int32 → SG → Option (Int32 × SG)
  | 0, _, _, _, _, _, _ => none
  | n + 1, x0, x1, x2, x3, x4, u => if (10 : Int32) ≤ x4 then (if x1 < 0 ∨ 5 ≤ x1.toNatClampNeg then none else (cl (fJ6_bitCount_0f7a4 N x3 u) fun r2 u3 => (cl (fJ9_min_7cf53 N (zI u (x2 + 1) x1.toNatClampNeg) r2 u3) fun r4 u5 => (hgX10_priceNight_90 N   N x0 x3 r4 (0 : Int32) u5))))
  else (cl (hX7_litAt N x2 x4 u) fun r7 u8 => (cl (hX7_costOf N x2 r7 u8) fun r9 u10 => (if x4 < 0 ∨ 10 ≤ x4.toNatClampNeg then none else (bs (sI u10 (x0 + 123) x4.toNatClampNeg r9) fun u11 => (if (zI u11 x2 6) ≤ x4 then ((hgX10_priceNight_13 N   n) x0 x1 x2 x3 (x4 + (1 : Int32)) u11)
  else (cl (hX7_workersAt N x2 x4 u11) fun r12 u13 => (cl (fX10_bitOf N r12 x1 u13) fun r14 u15 => (if r14 = 0 then (bs (x3 ||| ((1 : Int32) <<< (x4 &&& 31))) fun v16 => ((hgX10_priceNight_13 N   n) x0 x1 x2 v16 (x4 + (1 : Int32)) u15))
  else ((hgX10_priceNight_13 N   n) x0 x1 x2 x3 (x4 + (1 : Int32)) u15)))))))))
set_option maxRecDepth 20000 in
theorem egX10_priceNight_13 (N : Nat)   : ∀ (n : Nat) (x0 : Nat) (x1 : Int32) (x2 : Nat) (x3 : Int32) (x4 : Int32) (u : SG), HK [(some x0, 11), (some x2, 8)] u → gX10_priceNight_13 N   n x0 x1 x2 x3 x4 u = hgX10_priceNight_13 N   n x0 x1 x2 x3 x4 u := by
  intro n
  induction n with
  | zero => intros; rfl
  | succ n ih =>
    intro x0 x1 x2 x3 x4 u h_u
    have hrc13 := ih
    rw [gX10_priceNight_13, hgX10_priceNight_13]
    refine eq_if ?_ ?_
    · refine eq_g (show zK u x2 = 8 from (h_u.g 1 rfl)) ?_
      refine eq_bR (show zR u x2 0 = some (x2 + 1) from lyR_8_0 h_u.1 (h_u.g 1 rfl)) ?_
      refine eq_g (show zK u (x2 + 1) = 22 from (lyK_8_0 h_u.1 (h_u.g 1 rfl))) ?_
      refine eq_ixh (show zN u (x2 + 1) = 5 from lyN_8_0 h_u.1 (h_u.g 1 rfl)) (fun hix1 => ?_)
      refine eq_cH rfl (fun r2 u3 e9 => h_u.fr (fr_J6_bitCount_0f7a4 (P := PT) N x3 u clPT _ _ e9).1) (fun r2 u3 h_u3 => ?_)
      refine eq_cH rfl (fun r4 u5 e9 => h_u3.fr (fr_J9_min_7cf53 (P := PT) N (zI u (x2 + 1) x1.toNatClampNeg) r2 u3 clPT _ _ e9).1) (fun r4 u5 h_u5 => ?_)
      exact egX10_priceNight_90 N   N x0 x3 r4 (0 : Int32) u5 (hkc (show zK u5 x0 = 11 from (h_u5.g 0 rfl)) (hk0 h_u5.1))
    · refine eq_g (show zK u x0 = 11 from (h_u.g 0 rfl)) ?_
      refine eq_bR (show zR u x0 11 = some (x0 + 123) from lyR_11_11 h_u.1 (h_u.g 0 rfl)) ?_
      refine eq_g (show zK u x2 = 8 from (h_u.g 1 rfl)) ?_
      refine eq_cH (eX7_litAt N x2 x4 u (hkc (show zK u x2 = 8 from (h_u.g 1 rfl)) (hk0 h_u.1))) (fun r7 u8 e9 => h_u.fr (fr_X7_litAt (P := PT) N x2 x4 u clPT trivial _ _ e9).1) (fun r7 u8 h_u8 => ?_)
      refine eq_g (show zK u8 x2 = 8 from (h_u8.g 1 rfl)) ?_
      refine eq_cH (eX7_costOf N x2 r7 u8 (hkc (show zK u8 x2 = 8 from (h_u8.g 1 rfl)) (hk0 h_u8.1))) (fun r9 u10 e9 => h_u8.fr (fr_X7_costOf (P := PT) N x2 r7 u8 clPT trivial _ _ e9).1) (fun r9 u10 h_u10 => ?_)
      refine eq_g (show zK u10 (x0 + 123) = 22 from (lyK_11_11 h_u10.1 (h_u10.g 0 rfl))) ?_
      refine eq_ixh (show zN u10 (x0 + 123) = 10 from lyN_11_11 h_u10.1 (h_u10.g 0 rfl)) (fun hix2 => ?_)
      refine eq_sH (h_u10.fr (P := PT) (Fr.sIr trivial)) (fun u11 h_u11 => ?_)
      refine eq_g (show zK u11 x2 = 8 from (h_u11.g 1 rfl)) ?_
      refine eq_if ?_ ?_
      · exact hrc13 x0 x1 x2 x3 (x4 + (1 : Int32)) u11 (hkc (show zK u11 x0 = 11 from (h_u11.g 0 rfl)) (hkc (show zK u11 x2 = 8 from (h_u11.g 1 rfl)) (hk0 h_u11.1)))
      · refine eq_g (show zK u11 x2 = 8 from (h_u11.g 1 rfl)) ?_
        refine eq_cH (eX7_workersAt N x2 x4 u11 (hkc (show zK u11 x2 = 8 from (h_u11.g 1 rfl)) (hk0 h_u11.1))) (fun r12 u13 e9 => h_u11.fr (fr_X7_workersAt (P := PT) N x2 x4 u11 clPT trivial _ _ e9).1) (fun r12 u13 h_u13 => ?_)
        refine eq_cH rfl (fun r14 u15 e9 => h_u13.fr (fr_X10_bitOf (P := PT) N r12 x1 u13 clPT _ _ e9).1) (fun r14 u15 h_u15 => ?_)
        refine eq_if ?_ ?_
        · refine eq_bs (fun v16 => ?_)
          exact hrc13 x0 x1 x2 v16 (x4 + (1 : Int32)) u15 (hkc (show zK u15 x0 = 11 from (h_u15.g 0 rfl)) (hkc (show zK u15 x2 = 8 from (h_u15.g 1 rfl)) (hk0 h_u15.1)))
        · exact hrc13 x0 x1 x2 x3 (x4 + (1 : Int32)) u15 (hkc (show zK u15 x0 = 11 from (h_u15.g 0 rfl)) (hkc (show zK u15 x2 = 8 from (h_u15.g 1 rfl)) (hk0 h_u15.1)))
set_option maxRecDepth 20000 in
def hX10_priceNight (N : Nat)  (a0 : Nat) (p1 : Int32) (u : SG) : Option (Int32 × SG) := hgX10_priceNight_13 N   N a0 p1 (a0 + 18) (0 : Int32) (0 : Int32) u
set_option maxRecDepth 20000 in
theorem eX10_priceNight (N : Nat)  (a0 : Nat) (p1 : Int32) (u : SG) (h_u : HK [(some a0, 11)] u) : fX10_priceNight N  a0 p1 u = hX10_priceNight N  a0 p1 u := by
  unfold fX10_priceNight hX10_priceNight
  refine eq_g (show zK u a0 = 11 from (h_u.g 0 rfl)) ?_
  refine eq_bR (show zR u a0 6 = some (a0 + 17) from lyR_11_6 h_u.1 (h_u.g 0 rfl)) ?_
  refine eq_g (show zK u (a0 + 17) = 7 from (lyK_11_6 h_u.1 (h_u.g 0 rfl))) ?_
  refine eq_bR (show zR u (a0 + 17) 0 = some (a0 + 18) from lyR_7_0 h_u.1 (lyK_11_6 h_u.1 (h_u.g 0 rfl))) ?_
  exact egX10_priceNight_13 N   N a0 p1 (a0 + 18) (0 : Int32) (0 : Int32) u (hkc (show zK u a0 = 11 from (h_u.g 0 rfl)) (hkc (show zK u (a0 + 18) = 8 from (lyK_7_0 h_u.1 (lyK_11_6 h_u.1 (h_u.g 0 rfl)))) (hk0 h_u.1)))
set_option maxRecDepth 20000 in
def hX10_evenCost (N : Nat)  (a0 : Nat) (p1 : Int32) (p2 : Int32) (u : SG) : Option (Int32 × SG) := if 0 < p1 then (if p1 = 0 then (none)
  else (cl (fJ9_min_7cf53 N (p2 / p1) (10 : Int32) u) fun r1 u2 => (if p1 = 0 then (none)
  else (bs (p2 - p2 / p1 * p1) fun v3 => (cl (fJ9_min_7cf53 N (r1 + (1 : Int32)) (10 : Int32) u2) fun r4 u5 => (if r4 < 0 ∨ 11 ≤ r4.toNatClampNeg then none else (if r1 < 0 ∨ 11 ≤ r1.toNatClampNeg then none else (some ((v3 * (zI u5 (a0 + 124) r4.toNatClampNeg)) + ((p1 - v3) * (zI u5 (a0 + 124) r1.toNatClampNeg)), u5)))))))))
  else (some ((0 : Int32), u))
set_option maxRecDepth 20000 in
theorem eX10_evenCost (N : Nat)  (a0 : Nat) (p1 : Int32) (p2 : Int32) (u : SG) (h_u : HK [(some a0, 11)] u) : fX10_evenCost N  a0 p1 p2 u = hX10_evenCost N  a0 p1 p2 u := by
  unfold fX10_evenCost hX10_evenCost
  refine eq_if ?_ ?_
  · refine eq_if ?_ ?_
    · rfl
    · refine eq_cH rfl (fun r1 u2 e9 => h_u.fr (fr_J9_min_7cf53 (P := PT) N (p2 / p1) (10 : Int32) u clPT _ _ e9).1) (fun r1 u2 h_u2 => ?_)
      refine eq_if ?_ ?_
      · rfl
      · refine eq_bs (fun v3 => ?_)
        refine eq_cH rfl (fun r4 u5 e9 => h_u2.fr (fr_J9_min_7cf53 (P := PT) N (r1 + (1 : Int32)) (10 : Int32) u2 clPT _ _ e9).1) (fun r4 u5 h_u5 => ?_)
        refine eq_g (show zK u5 a0 = 11 from (h_u5.g 0 rfl)) ?_
        refine eq_bR (show zR u5 a0 12 = some (a0 + 124) from lyR_11_12 h_u5.1 (h_u5.g 0 rfl)) ?_
        refine eq_g (show zK u5 (a0 + 124) = 22 from (lyK_11_12 h_u5.1 (h_u5.g 0 rfl))) ?_
        refine eq_ixh (show zN u5 (a0 + 124) = 11 from lyN_11_12 h_u5.1 (h_u5.g 0 rfl)) (fun hix1 => ?_)
        refine eq_g (show zK u5 a0 = 11 from (h_u5.g 0 rfl)) ?_
        refine eq_bR (show zR u5 a0 12 = some (a0 + 124) from lyR_11_12 h_u5.1 (h_u5.g 0 rfl)) ?_
        refine eq_g (show zK u5 (a0 + 124) = 22 from (lyK_11_12 h_u5.1 (h_u5.g 0 rfl))) ?_
        refine eq_ixh (show zN u5 (a0 + 124) = 11 from lyN_11_12 h_u5.1 (h_u5.g 0 rfl)) (fun hix2 => ?_)
        rfl
  · rfl
set_option maxRecDepth 20000 in
def hgX10_sleepInNight_104 (N : Nat)  (rc9 : Nat → Int32 → Int32 → Int32 → Int32 → Int32 → Int32 → SG → Option (Int32 × SG)) (x0 : Nat) (x1 : Int32) (x3 : Int32) (x4 : Int32) (x5 : Int32) (x6 : Int32) (x7 : Int32) (u : SG) : Option (Int32 × SG) := cl (fJ9_max_7cf53 N (0 : Int32) (x5 - x6) u) fun r1 u2 => (rc9 x0 x1 x3 x4 r1 x6 (x7 + (1 : Int32)) u2)
set_option maxRecDepth 20000 in
theorem egX10_sleepInNight_104 (N : Nat)  (rec9 : Nat → Int32 → Int32 → Int32 → Int32 → Int32 → Int32 → SG → Option (Int32 × SG)) (rc9 : Nat → Int32 → Int32 → Int32 → Int32 → Int32 → Int32 → SG → Option (Int32 × SG)) (hrc9 : ∀ (x0 : Nat) (x1 : Int32) (x3 : Int32) (x4 : Int32) (x5 : Int32) (x6 : Int32) (x7 : Int32) (u : SG), HK [(some x0, 11)] u → rec9 x0 x1 x3 x4 x5 x6 x7 u = rc9 x0 x1 x3 x4 x5 x6 x7 u) (x0 : Nat) (x1 : Int32) (x3 : Int32) (x4 : Int32) (x5 : Int32) (x6 : Int32) (x7 : Int32) (u : SG) (h_u : HK [(some x0, 11)] u) : gX10_sleepInNight_104 N  rec9 x0 x1 x3 x4 x5 x6 x7 u = hgX10_sleepInNight_104 N  rc9 x0 x1 x3 x4 x5 x6 x7 u := by
  unfold gX10_sleepInNight_104 hgX10_sleepInNight_104
  refine eq_cH rfl (fun r1 u2 e9 => h_u.fr (fr_J9_max_7cf53 (P := PT) N (0 : Int32) (x5 - x6) u clPT _ _ e9).1) (fun r1 u2 h_u2 => ?_)
  exact hrc9 x0 x1 x3 x4 r1 x6 (x7 + (1 : Int32)) u2 (hkc (show zK u2 x0 = 11 from (h_u2.g 0 rfl)) (hk0 h_u2.1))
set_option maxRecDepth 20000 in
def hgX10_sleepInNight_52 (N : Nat)  (rc9 : Nat → Int32 → Int32 → Int32 → Int32 → Int32 → Int32 → SG → Option (Int32 × SG)) : Nat → Nat → Int32 → Int32 → Int32 → Int32 → Int32 → Int32 → Int32 → Int32 → Int32 → SG → Option (Int32 × SG)
  | 0, _, _, _, _, _, _, _, _, _, _, _ => none
  | n + 1, x0, x1, x3, x4, x5, x6, x7, x8, x9, x10, u => if x3 ≤ x10 then (hgX10_sleepInNight_104 N  rc9  x0 x1 x3 x4 x5 x6 x7 u)
  else (if x3 ≤ x6 then (hgX10_sleepInNight_104 N  rc9  x0 x1 x3 x4 x5 x6 x7 u)
  else (if x6 < 0 ∨ 11 ≤ x6.toNatClampNeg then none else (cl (fJ9_max_7cf53 N (0 : Int32) (x5 - x6) u) fun r2 u3 => (cl (hX10_evenCost N x0 x8 r2 u3) fun r4 u5 => (if x9 < ((zI u (x0 + 124) x6.toNatClampNeg) + r4) then ((hgX10_sleepInNight_52 N  rc9 n) x0 x1 x3 x4 x5 (x6 + (1 : Int32)) x7 x8 x9 (x10 + (1 : Int32)) u5)
  else (hgX10_sleepInNight_104 N  rc9  x0 x1 x3 x4 x5 x6 x7 u5))))))
set_option maxRecDepth 20000 in
theorem egX10_sleepInNight_52 (N : Nat)  (rec9 : Nat → Int32 → Int32 → Int32 → Int32 → Int32 → Int32 → SG → Option (Int32 × SG)) (rc9 : Nat → Int32 → Int32 → Int32 → Int32 → Int32 → Int32 → SG → Option (Int32 × SG)) (hrc9 : ∀ (x0 : Nat) (x1 : Int32) (x3 : Int32) (x4 : Int32) (x5 : Int32) (x6 : Int32) (x7 : Int32) (u : SG), HK [(some x0, 11)] u → rec9 x0 x1 x3 x4 x5 x6 x7 u = rc9 x0 x1 x3 x4 x5 x6 x7 u) : ∀ (n : Nat) (x0 : Nat) (x1 : Int32) (x3 : Int32) (x4 : Int32) (x5 : Int32) (x6 : Int32) (x7 : Int32) (x8 : Int32) (x9 : Int32) (x10 : Int32) (u : SG), HK [(some x0, 11)] u → gX10_sleepInNight_52 N  rec9 n x0 x1 x3 x4 x5 x6 x7 x8 x9 x10 u = hgX10_sleepInNight_52 N  rc9 n x0 x1 x3 x4 x5 x6 x7 x8 x9 x10 u := by
  intro n
  induction n with
  | zero => intros; rfl
  | succ n ih =>
    intro x0 x1 x3 x4 x5 x6 x7 x8 x9 x10 u h_u
    have hrc52 := ih
    rw [gX10_sleepInNight_52, hgX10_sleepInNight_52]
    refine eq_if ?_ ?_
    · exact egX10_sleepInNight_104 N  _ _ hrc9  x0 x1 x3 x4 x5 x6 x7 u (hkc (show zK u x0 = 11 from (h_u.g 0 rfl)) (hk0 h_u.1))
    · refine eq_if ?_ ?_
      · exact egX10_sleepInNight_104 N  _ _ hrc9  x0 x1 x3 x4 x5 x6 x7 u (hkc (show zK u x0 = 11 from (h_u.g 0 rfl)) (hk0 h_u.1))
      · refine eq_g (show zK u x0 = 11 from (h_u.g 0 rfl)) ?_
        refine eq_bR (show zR u x0 12 = some (x0 + 124) from lyR_11_12 h_u.1 (h_u.g 0 rfl)) ?_
        refine eq_g (show zK u (x0 + 124) = 22 from (lyK_11_12 h_u.1 (h_u.g 0 rfl))) ?_
        refine eq_ixh (show zN u (x0 + 124) = 11 from lyN_11_12 h_u.1 (h_u.g 0 rfl)) (fun hix1 => ?_)
        refine eq_cH rfl (fun r2 u3 e9 => h_u.fr (fr_J9_max_7cf53 (P := PT) N (0 : Int32) (x5 - x6) u clPT _ _ e9).1) (fun r2 u3 h_u3 => ?_)
        refine eq_g (show zK u3 x0 = 11 from (h_u3.g 0 rfl)) ?_
        refine eq_cH (eX10_evenCost N x0 x8 r2 u3 (hkc (show zK u3 x0 = 11 from (h_u3.g 0 rfl)) (hk0 h_u3.1))) (fun r4 u5 e9 => h_u3.fr (fr_X10_evenCost (P := PT) N x0 x8 r2 u3 clPT trivial _ _ e9).1) (fun r4 u5 h_u5 => ?_)
        refine eq_if ?_ ?_
        · exact hrc52 x0 x1 x3 x4 x5 (x6 + (1 : Int32)) x7 x8 x9 (x10 + (1 : Int32)) u5 (hkc (show zK u5 x0 = 11 from (h_u5.g 0 rfl)) (hk0 h_u5.1))
        · exact egX10_sleepInNight_104 N  _ _ hrc9  x0 x1 x3 x4 x5 x6 x7 u5 (hkc (show zK u5 x0 = 11 from (h_u5.g 0 rfl)) (hk0 h_u5.1))
set_option maxRecDepth 20000 in
def hgX10_sleepInNight_9 (N : Nat)   : Nat → Nat → Int32 → Int32 → Int32 → Int32 → Int32 → Int32 → SG → Option (Int32 × SG)
  | 0, _, _, _, _, _, _, _, _ => none
  | n + 1, x0, x1, x3, x4, x5, x6, x7, u => if x4 < x7 then (some (x6, u))
  else (bs ((x1 - x7) - (1 : Int32)) fun v1 => (cl (hX10_evenCost N x0 (v1 + (1 : Int32)) x5 u) fun r2 u3 => (cl (fJ9_max_7cf53 N (0 : Int32) (x5 - (v1 * x3)) u3) fun r4 u5 => (hgX10_sleepInNight_52 N  (hgX10_sleepInNight_9 N   n) N x0 x1 x3 x4 x5 r4 x7 v1 r2 (0 : Int32) u5))))
set_option maxRecDepth 20000 in
theorem egX10_sleepInNight_9 (N : Nat)   : ∀ (n : Nat) (x0 : Nat) (x1 : Int32) (x3 : Int32) (x4 : Int32) (x5 : Int32) (x6 : Int32) (x7 : Int32) (u : SG), HK [(some x0, 11)] u → gX10_sleepInNight_9 N   n x0 x1 x3 x4 x5 x6 x7 u = hgX10_sleepInNight_9 N   n x0 x1 x3 x4 x5 x6 x7 u := by
  intro n
  induction n with
  | zero => intros; rfl
  | succ n ih =>
    intro x0 x1 x3 x4 x5 x6 x7 u h_u
    have hrc9 := ih
    rw [gX10_sleepInNight_9, hgX10_sleepInNight_9]
    refine eq_if ?_ ?_
    · rfl
    · refine eq_bs (fun v1 => ?_)
      refine eq_g (show zK u x0 = 11 from (h_u.g 0 rfl)) ?_
      refine eq_cH (eX10_evenCost N x0 (v1 + (1 : Int32)) x5 u (hkc (show zK u x0 = 11 from (h_u.g 0 rfl)) (hk0 h_u.1))) (fun r2 u3 e9 => h_u.fr (fr_X10_evenCost (P := PT) N x0 (v1 + (1 : Int32)) x5 u clPT trivial _ _ e9).1) (fun r2 u3 h_u3 => ?_)
      refine eq_cH rfl (fun r4 u5 e9 => h_u3.fr (fr_J9_max_7cf53 (P := PT) N (0 : Int32) (x5 - (v1 * x3)) u3 clPT _ _ e9).1) (fun r4 u5 h_u5 => ?_)
      exact egX10_sleepInNight_52 N  _ _ hrc9 N x0 x1 x3 x4 x5 r4 x7 v1 r2 (0 : Int32) u5 (hkc (show zK u5 x0 = 11 from (h_u5.g 0 rfl)) (hk0 h_u5.1))
set_option maxRecDepth 20000 in
def hX10_sleepInNight (N : Nat)  (a0 : Nat) (p1 : Int32) (p2 : Int32) (p3 : Int32) (p4 : Int32) (u : SG) : Option (Int32 × SG) := hgX10_sleepInNight_9 N   N a0 p1 p3 p4 p2 (0 : Int32) (0 : Int32) u
set_option maxRecDepth 20000 in
theorem eX10_sleepInNight (N : Nat)  (a0 : Nat) (p1 : Int32) (p2 : Int32) (p3 : Int32) (p4 : Int32) (u : SG) (h_u : HK [(some a0, 11)] u) : fX10_sleepInNight N  a0 p1 p2 p3 p4 u = hX10_sleepInNight N  a0 p1 p2 p3 p4 u := by
  unfold fX10_sleepInNight hX10_sleepInNight
  exact egX10_sleepInNight_9 N   N a0 p1 p3 p4 p2 (0 : Int32) (0 : Int32) u (hkc (show zK u a0 = 11 from (h_u.g 0 rfl)) (hk0 h_u.1))
set_option maxRecDepth 20000 in
def hX10_nights (N : Nat)  (a0 : Nat) (p1 : Int32) (p2 : Int32) (p3 : Int32) (p4 : Int32) (u : SG) : Option (Int32 × SG) := cl (hX7_isPerson N (a0 + 18) p1 u) fun r3 u4 => (if r3 = 0 then (some ((-3 : Int32), u4))
  else (if p2 < (1 : Int32) then (some ((-3 : Int32), u4))
  else (if p2 ≤ (8 : Int32) then (if p3 < 0 then (some ((-3 : Int32), u4))
  else (if (99 : Int32) < p3 then (some ((-3 : Int32), u4))
  else (if p4 < (-1 : Int32) then (some ((-3 : Int32), u4))
  else (if p4 ≤ (7 : Int32) then (cl (hX10_priceNight N a0 p1 u4) fun r5 u6 => (if p1 < 0 ∨ 5 ≤ p1.toNatClampNeg then none else (if p1 < 0 ∨ 5 ≤ p1.toNatClampNeg then none else (cl (fJ9_max_7cf53 N (0 : Int32) (((zI u6 (a0 + 27) p1.toNatClampNeg) + (p2 * (zI u6 (a0 + 19) p1.toNatClampNeg))) - p3) u6) fun r13 u14 => (if (p2 * r5) < r13 then (some ((-2 : Int32), u14))
  else (if p4 < p2 then (if p4 = (-1 : Int32) then (cl (hX10_evenCost N a0 p2 r13 u14) fun r17 u18 => (some (r17, u18)))
  else (cl (hX10_sleepInNight N a0 p2 r13 r5 p4 u14) fun r15 u16 => (some (r15, u16))))
  else (some ((-2 : Int32), u14))))))))
  else (some ((-3 : Int32), u4))))))
  else (some ((-3 : Int32), u4)))))
set_option maxRecDepth 20000 in
theorem eX10_nights (N : Nat)  (a0 : Nat) (p1 : Int32) (p2 : Int32) (p3 : Int32) (p4 : Int32) (u : SG) (h_u : HK [(some a0, 11)] u) : fX10_nights N  a0 p1 p2 p3 p4 u = hX10_nights N  a0 p1 p2 p3 p4 u := by
  unfold fX10_nights hX10_nights
  refine eq_g (show zK u a0 = 11 from (h_u.g 0 rfl)) ?_
  refine eq_bR (show zR u a0 6 = some (a0 + 17) from lyR_11_6 h_u.1 (h_u.g 0 rfl)) ?_
  refine eq_g (show zK u (a0 + 17) = 7 from (lyK_11_6 h_u.1 (h_u.g 0 rfl))) ?_
  refine eq_bR (show zR u (a0 + 17) 0 = some (a0 + 18) from lyR_7_0 h_u.1 (lyK_11_6 h_u.1 (h_u.g 0 rfl))) ?_
  refine eq_g (show zK u (a0 + 18) = 8 from (lyK_7_0 h_u.1 (lyK_11_6 h_u.1 (h_u.g 0 rfl)))) ?_
  refine eq_cH (eX7_isPerson N (a0 + 18) p1 u (hkc (show zK u (a0 + 18) = 8 from (lyK_7_0 h_u.1 (lyK_11_6 h_u.1 (h_u.g 0 rfl)))) (hk0 h_u.1))) (fun r3 u4 e9 => h_u.fr (fr_X7_isPerson (P := PT) N (a0 + 18) p1 u clPT trivial _ _ e9).1) (fun r3 u4 h_u4 => ?_)
  refine eq_if ?_ ?_
  · rfl
  · refine eq_if ?_ ?_
    · rfl
    · refine eq_if ?_ ?_
      · refine eq_if ?_ ?_
        · rfl
        · refine eq_if ?_ ?_
          · rfl
          · refine eq_if ?_ ?_
            · rfl
            · refine eq_if ?_ ?_
              · refine eq_g (show zK u4 a0 = 11 from (h_u4.g 0 rfl)) ?_
                refine eq_cH (eX10_priceNight N a0 p1 u4 (hkc (show zK u4 a0 = 11 from (h_u4.g 0 rfl)) (hk0 h_u4.1))) (fun r5 u6 e9 => h_u4.fr (fr_X10_priceNight (P := PT) N a0 p1 u4 clPT trivial _ _ e9).1) (fun r5 u6 h_u6 => ?_)
                refine eq_g (show zK u6 a0 = 11 from (h_u6.g 0 rfl)) ?_
                refine eq_bR (show zR u6 a0 6 = some (a0 + 17) from lyR_11_6 h_u6.1 (h_u6.g 0 rfl)) ?_
                refine eq_g (show zK u6 (a0 + 17) = 7 from (lyK_11_6 h_u6.1 (h_u6.g 0 rfl))) ?_
                refine eq_bR (show zR u6 (a0 + 17) 1 = some (a0 + 25) from lyR_7_1 h_u6.1 (lyK_11_6 h_u6.1 (h_u6.g 0 rfl))) ?_
                refine eq_g (show zK u6 (a0 + 25) = 3 from (lyK_7_1 h_u6.1 (lyK_11_6 h_u6.1 (h_u6.g 0 rfl)))) ?_
                refine eq_bR (show zR u6 (a0 + 25) 6 = some (a0 + 27) from lyR_3_6 h_u6.1 (lyK_7_1 h_u6.1 (lyK_11_6 h_u6.1 (h_u6.g 0 rfl)))) ?_
                refine eq_g (show zK u6 (a0 + 27) = 22 from (lyK_3_6 h_u6.1 (lyK_7_1 h_u6.1 (lyK_11_6 h_u6.1 (h_u6.g 0 rfl))))) ?_
                refine eq_ixh (show zN u6 (a0 + 27) = 5 from lyN_3_6 h_u6.1 (lyK_7_1 h_u6.1 (lyK_11_6 h_u6.1 (h_u6.g 0 rfl)))) (fun hix1 => ?_)
                refine eq_g (show zK u6 a0 = 11 from (h_u6.g 0 rfl)) ?_
                refine eq_bR (show zR u6 a0 6 = some (a0 + 17) from lyR_11_6 h_u6.1 (h_u6.g 0 rfl)) ?_
                refine eq_g (show zK u6 (a0 + 17) = 7 from (lyK_11_6 h_u6.1 (h_u6.g 0 rfl))) ?_
                refine eq_bR (show zR u6 (a0 + 17) 0 = some (a0 + 18) from lyR_7_0 h_u6.1 (lyK_11_6 h_u6.1 (h_u6.g 0 rfl))) ?_
                refine eq_g (show zK u6 (a0 + 18) = 8 from (lyK_7_0 h_u6.1 (lyK_11_6 h_u6.1 (h_u6.g 0 rfl)))) ?_
                refine eq_bR (show zR u6 (a0 + 18) 0 = some (a0 + 19) from lyR_8_0 h_u6.1 (lyK_7_0 h_u6.1 (lyK_11_6 h_u6.1 (h_u6.g 0 rfl)))) ?_
                refine eq_g (show zK u6 (a0 + 19) = 22 from (lyK_8_0 h_u6.1 (lyK_7_0 h_u6.1 (lyK_11_6 h_u6.1 (h_u6.g 0 rfl))))) ?_
                refine eq_ixh (show zN u6 (a0 + 19) = 5 from lyN_8_0 h_u6.1 (lyK_7_0 h_u6.1 (lyK_11_6 h_u6.1 (h_u6.g 0 rfl)))) (fun hix2 => ?_)
                refine eq_cH rfl (fun r13 u14 e9 => h_u6.fr (fr_J9_max_7cf53 (P := PT) N (0 : Int32) (((zI u6 (a0 + 27) p1.toNatClampNeg) + (p2 * (zI u6 (a0 + 19) p1.toNatClampNeg))) - p3) u6 clPT _ _ e9).1) (fun r13 u14 h_u14 => ?_)
                refine eq_if ?_ ?_
                · rfl
                · refine eq_if ?_ ?_
                  · refine eq_if ?_ ?_
                    · refine eq_g (show zK u14 a0 = 11 from (h_u14.g 0 rfl)) ?_
                      refine eq_cH (eX10_evenCost N a0 p2 r13 u14 (hkc (show zK u14 a0 = 11 from (h_u14.g 0 rfl)) (hk0 h_u14.1))) (fun r17 u18 e9 => h_u14.fr (fr_X10_evenCost (P := PT) N a0 p2 r13 u14 clPT trivial _ _ e9).1) (fun r17 u18 h_u18 => ?_)
                      rfl
                    · refine eq_g (show zK u14 a0 = 11 from (h_u14.g 0 rfl)) ?_
                      refine eq_cH (eX10_sleepInNight N a0 p2 r13 r5 p4 u14 (hkc (show zK u14 a0 = 11 from (h_u14.g 0 rfl)) (hk0 h_u14.1))) (fun r15 u16 e9 => h_u14.fr (fr_X10_sleepInNight (P := PT) N a0 p2 r13 r5 p4 u14 clPT trivial _ _ e9).1) (fun r15 u16 h_u16 => ?_)
                      rfl
                  · rfl
              · rfl
      · rfl
set_option maxRecDepth 20000 in
def hgX10_turned_52 (N : Nat)   : Nat → Nat → Int32 → Int32 → Int32 → Int64 → Int32 → SG → Option (Int32 × SG)
  | 0, _, _, _, _, _, _, _ => none
  | n + 1, x0, x1, x2, x3, x4, x6, u => if x2 ≤ x6 then (if x1 < 0 ∨ 6 ≤ x1.toNatClampNeg then none else (if x1 < 0 ∨ 6 ≤ x1.toNatClampNeg then none else (bs ((zL u (x0 + 122) x1.toNatClampNeg) - (zL u (x0 + 28) x1.toNatClampNeg)) fun v6 => (cl (fX10_fraction N (x4 - v6) (60 : Int64) x3 u) fun r7 u8 => (some (r7, u8))))))
  else (cl (hX10_ruleNow N x0 u) fun r13 u14 => (cl (hX3_play N (x0 + 117) (x0 + 18) (x0 + 119) r13 u14) fun r15 u16 => (cl (hX3_shareIfWakingPaid N (x0 + 117) (x0 + 18) x1 u16) fun r20 u21 => (bs (x4 + r20) fun v22 => ((hgX10_turned_52 N   n) x0 x1 x2 x3 v22 (x6 + (1 : Int32)) u21)))))
set_option maxRecDepth 20000 in
theorem egX10_turned_52 (N : Nat)   : ∀ (n : Nat) (x0 : Nat) (x1 : Int32) (x2 : Int32) (x3 : Int32) (x4 : Int64) (x6 : Int32) (u : SG), HK [(some x0, 11)] u → gX10_turned_52 N   n x0 x1 x2 x3 x4 x6 u = hgX10_turned_52 N   n x0 x1 x2 x3 x4 x6 u := by
  intro n
  induction n with
  | zero => intros; rfl
  | succ n ih =>
    intro x0 x1 x2 x3 x4 x6 u h_u
    have hrc52 := ih
    rw [gX10_turned_52, hgX10_turned_52]
    refine eq_if ?_ ?_
    · refine eq_g (show zK u x0 = 11 from (h_u.g 0 rfl)) ?_
      refine eq_bR (show zR u x0 10 = some (x0 + 119) from lyR_11_10 h_u.1 (h_u.g 0 rfl)) ?_
      refine eq_g (show zK u (x0 + 119) = 3 from (lyK_11_10 h_u.1 (h_u.g 0 rfl))) ?_
      refine eq_bR (show zR u (x0 + 119) 7 = some (x0 + 122) from lyR_3_7 h_u.1 (lyK_11_10 h_u.1 (h_u.g 0 rfl))) ?_
      refine eq_g (show zK u (x0 + 122) = 23 from (lyK_3_7 h_u.1 (lyK_11_10 h_u.1 (h_u.g 0 rfl)))) ?_
      refine eq_ixh (show zN u (x0 + 122) = 6 from lyN_3_7 h_u.1 (lyK_11_10 h_u.1 (h_u.g 0 rfl))) (fun hix1 => ?_)
      refine eq_g (show zK u x0 = 11 from (h_u.g 0 rfl)) ?_
      refine eq_bR (show zR u x0 6 = some (x0 + 17) from lyR_11_6 h_u.1 (h_u.g 0 rfl)) ?_
      refine eq_g (show zK u (x0 + 17) = 7 from (lyK_11_6 h_u.1 (h_u.g 0 rfl))) ?_
      refine eq_bR (show zR u (x0 + 17) 1 = some (x0 + 25) from lyR_7_1 h_u.1 (lyK_11_6 h_u.1 (h_u.g 0 rfl))) ?_
      refine eq_g (show zK u (x0 + 25) = 3 from (lyK_7_1 h_u.1 (lyK_11_6 h_u.1 (h_u.g 0 rfl)))) ?_
      refine eq_bR (show zR u (x0 + 25) 7 = some (x0 + 28) from lyR_3_7 h_u.1 (lyK_7_1 h_u.1 (lyK_11_6 h_u.1 (h_u.g 0 rfl)))) ?_
      refine eq_g (show zK u (x0 + 28) = 23 from (lyK_3_7 h_u.1 (lyK_7_1 h_u.1 (lyK_11_6 h_u.1 (h_u.g 0 rfl))))) ?_
      refine eq_ixh (show zN u (x0 + 28) = 6 from lyN_3_7 h_u.1 (lyK_7_1 h_u.1 (lyK_11_6 h_u.1 (h_u.g 0 rfl)))) (fun hix2 => ?_)
      refine eq_bs (fun v6 => ?_)
      refine eq_cH rfl (fun r7 u8 e9 => h_u.fr (fr_X10_fraction (P := PT) N (x4 - v6) (60 : Int64) x3 u clPT _ _ e9).1) (fun r7 u8 h_u8 => ?_)
      rfl
    · refine eq_g (show zK u x0 = 11 from (h_u.g 0 rfl)) ?_
      refine eq_bR (show zR u x0 9 = some (x0 + 117) from lyR_11_9 h_u.1 (h_u.g 0 rfl)) ?_
      refine eq_g (show zK u x0 = 11 from (h_u.g 0 rfl)) ?_
      refine eq_bR (show zR u x0 6 = some (x0 + 17) from lyR_11_6 h_u.1 (h_u.g 0 rfl)) ?_
      refine eq_g (show zK u (x0 + 17) = 7 from (lyK_11_6 h_u.1 (h_u.g 0 rfl))) ?_
      refine eq_bR (show zR u (x0 + 17) 0 = some (x0 + 18) from lyR_7_0 h_u.1 (lyK_11_6 h_u.1 (h_u.g 0 rfl))) ?_
      refine eq_g (show zK u x0 = 11 from (h_u.g 0 rfl)) ?_
      refine eq_bR (show zR u x0 10 = some (x0 + 119) from lyR_11_10 h_u.1 (h_u.g 0 rfl)) ?_
      refine eq_g (show zK u x0 = 11 from (h_u.g 0 rfl)) ?_
      refine eq_cR (eX10_ruleNow N x0 u (hkc (show zK u x0 = 11 from (h_u.g 0 rfl)) (hk0 h_u.1))) (fun r13 u14 e9 => ⟨h_u.fr (fr_X10_ruleNow (P := PT) N x0 u clPT trivial _ _ e9).1, rn_K (show zK u x0 = 11 from (h_u.g 0 rfl)) h_u.1 e9⟩) (fun r13 u14 h_u14 hr_r13 => ?_)
      refine eq_g (show zK u14 (x0 + 117) = 4 from (lyK_11_9 h_u14.1 (h_u14.g 0 rfl))) ?_
      refine eq_cH (eX3_play N (x0 + 117) (x0 + 18) (x0 + 119) r13 u14 (hkc (show zK u14 (x0 + 117) = 4 from (lyK_11_9 h_u14.1 (h_u14.g 0 rfl))) (hkc (show zK u14 (x0 + 18) = 8 from (lyK_7_0 h_u14.1 (lyK_11_6 h_u14.1 (h_u14.g 0 rfl)))) (hkc (show zK u14 (x0 + 119) = 3 from (lyK_11_10 h_u14.1 (h_u14.g 0 rfl))) (hkq hr_r13 (hk0 h_u14.1)))))) (fun r15 u16 e9 => h_u14.fr (fr_X3_play (P := PT) N (x0 + 117) (x0 + 18) (x0 + 119) r13 u14 clPT trivial trivial trivial (fun _ _ => trivial) _ _ e9).1) (fun r15 u16 h_u16 => ?_)
      refine eq_g (show zK u16 x0 = 11 from (h_u16.g 0 rfl)) ?_
      refine eq_bR (show zR u16 x0 9 = some (x0 + 117) from lyR_11_9 h_u16.1 (h_u16.g 0 rfl)) ?_
      refine eq_g (show zK u16 x0 = 11 from (h_u16.g 0 rfl)) ?_
      refine eq_bR (show zR u16 x0 6 = some (x0 + 17) from lyR_11_6 h_u16.1 (h_u16.g 0 rfl)) ?_
      refine eq_g (show zK u16 (x0 + 17) = 7 from (lyK_11_6 h_u16.1 (h_u16.g 0 rfl))) ?_
      refine eq_bR (show zR u16 (x0 + 17) 0 = some (x0 + 18) from lyR_7_0 h_u16.1 (lyK_11_6 h_u16.1 (h_u16.g 0 rfl))) ?_
      refine eq_g (show zK u16 (x0 + 117) = 4 from (lyK_11_9 h_u16.1 (h_u16.g 0 rfl))) ?_
      refine eq_cH (eX3_shareIfWakingPaid N (x0 + 117) (x0 + 18) x1 u16 (hkc (show zK u16 (x0 + 117) = 4 from (lyK_11_9 h_u16.1 (h_u16.g 0 rfl))) (hkc (show zK u16 (x0 + 18) = 8 from (lyK_7_0 h_u16.1 (lyK_11_6 h_u16.1 (h_u16.g 0 rfl)))) (hk0 h_u16.1)))) (fun r20 u21 e9 => h_u16.fr (fr_X3_shareIfWakingPaid (P := PT) N (x0 + 117) (x0 + 18) x1 u16 clPT trivial trivial _ _ e9).1) (fun r20 u21 h_u21 => ?_)
      refine eq_bs (fun v22 => ?_)
      exact hrc52 x0 x1 x2 x3 v22 (x6 + (1 : Int32)) u21 (hkc (show zK u21 x0 = 11 from (h_u21.g 0 rfl)) (hk0 h_u21.1))
set_option maxRecDepth 20000 in
def hX10_turned (N : Nat)  (a0 : Nat) (p1 : Int32) (p2 : Int32) (p3 : Int32) (u : SG) : Option (Int32 × SG) := cl (hX7_isPerson N (a0 + 18) p1 u) fun r3 u4 => (if r3 = 0 then (some ((-1000000 : Int32), u4))
  else (cl (fX10_isSpan N p2 u4) fun r5 u6 => (if r5 = 0 then (some ((-1000000 : Int32), u6))
  else (cl (fX10_isPart N p3 u6) fun r7 u8 => (if r7 = 0 then (some ((-1000000 : Int32), u8))
  else (cl (hX2_copyOf N (a0 + 119) (a0 + 25) u8) fun r12 u13 => (hgX10_turned_52 N   N a0 p1 p2 p3 (0 : Int64) (0 : Int32) u13)))))))
set_option maxRecDepth 20000 in
theorem eX10_turned (N : Nat)  (a0 : Nat) (p1 : Int32) (p2 : Int32) (p3 : Int32) (u : SG) (h_u : HK [(some a0, 11)] u) : fX10_turned N  a0 p1 p2 p3 u = hX10_turned N  a0 p1 p2 p3 u := by
  unfold fX10_turned hX10_turned
  refine eq_g (show zK u a0 = 11 from (h_u.g 0 rfl)) ?_
  refine eq_bR (show zR u a0 6 = some (a0 + 17) from lyR_11_6 h_u.1 (h_u.g 0 rfl)) ?_
  refine eq_g (show zK u (a0 + 17) = 7 from (lyK_11_6 h_u.1 (h_u.g 0 rfl))) ?_
  refine eq_bR (show zR u (a0 + 17) 0 = some (a0 + 18) from lyR_7_0 h_u.1 (lyK_11_6 h_u.1 (h_u.g 0 rfl))) ?_
  refine eq_g (show zK u (a0 + 18) = 8 from (lyK_7_0 h_u.1 (lyK_11_6 h_u.1 (h_u.g 0 rfl)))) ?_
  refine eq_cH (eX7_isPerson N (a0 + 18) p1 u (hkc (show zK u (a0 + 18) = 8 from (lyK_7_0 h_u.1 (lyK_11_6 h_u.1 (h_u.g 0 rfl)))) (hk0 h_u.1))) (fun r3 u4 e9 => h_u.fr (fr_X7_isPerson (P := PT) N (a0 + 18) p1 u clPT trivial _ _ e9).1) (fun r3 u4 h_u4 => ?_)
  refine eq_if ?_ ?_
  · rfl
  · refine eq_cH rfl (fun r5 u6 e9 => h_u4.fr (fr_X10_isSpan (P := PT) N p2 u4 clPT _ _ e9).1) (fun r5 u6 h_u6 => ?_)
    refine eq_if ?_ ?_
    · rfl
    · refine eq_cH rfl (fun r7 u8 e9 => h_u6.fr (fr_X10_isPart (P := PT) N p3 u6 clPT _ _ e9).1) (fun r7 u8 h_u8 => ?_)
      refine eq_if ?_ ?_
      · rfl
      · refine eq_g (show zK u8 a0 = 11 from (h_u8.g 0 rfl)) ?_
        refine eq_bR (show zR u8 a0 10 = some (a0 + 119) from lyR_11_10 h_u8.1 (h_u8.g 0 rfl)) ?_
        refine eq_g (show zK u8 a0 = 11 from (h_u8.g 0 rfl)) ?_
        refine eq_bR (show zR u8 a0 6 = some (a0 + 17) from lyR_11_6 h_u8.1 (h_u8.g 0 rfl)) ?_
        refine eq_g (show zK u8 (a0 + 17) = 7 from (lyK_11_6 h_u8.1 (h_u8.g 0 rfl))) ?_
        refine eq_bR (show zR u8 (a0 + 17) 1 = some (a0 + 25) from lyR_7_1 h_u8.1 (lyK_11_6 h_u8.1 (h_u8.g 0 rfl))) ?_
        refine eq_g (show zK u8 (a0 + 119) = 3 from (lyK_11_10 h_u8.1 (h_u8.g 0 rfl))) ?_
        refine eq_cH (eX2_copyOf N (a0 + 119) (a0 + 25) u8 (hkc (show zK u8 (a0 + 119) = 3 from (lyK_11_10 h_u8.1 (h_u8.g 0 rfl))) (hkc (show zK u8 (a0 + 25) = 3 from (lyK_7_1 h_u8.1 (lyK_11_6 h_u8.1 (h_u8.g 0 rfl)))) (hk0 h_u8.1)))) (fun r12 u13 e9 => h_u8.fr (fr_X2_copyOf (P := PT) N (a0 + 119) (a0 + 25) u8 clPT trivial trivial _ _ e9).1) (fun r12 u13 h_u13 => ?_)
        exact egX10_turned_52 N   N a0 p1 p2 p3 (0 : Int64) (0 : Int32) u13 (hkc (show zK u13 a0 = 11 from (h_u13.g 0 rfl)) (hk0 h_u13.1))
set_option maxRecDepth 20000 in
def hX10_spite (N : Nat)  (a0 : Nat) (p1 : Int32) (p2 : Int32) (p3 : Int32) (p4 : Int32) (u : SG) : Option (Int32 × SG) := cl (hX7_isLamp N (a0 + 18) p1 u) fun r3 u4 => (if r3 = 0 then (some ((-1000000 : Int32), u4))
  else (cl (hX10_isDebtor N a0 p2 u4) fun r5 u6 => (if r5 = 0 then (some ((-1000000 : Int32), u6))
  else (cl (fX10_isSpan N p3 u6) fun r7 u8 => (if r7 = 0 then (some ((-1000000 : Int32), u8))
  else (cl (fX10_isPart N p4 u8) fun r9 u10 => (if r9 = 0 then (some ((-1000000 : Int32), u10))
  else (cl (fX10_debtorRow N p2 u10) fun r11 u12 => (cl (hX2_copyOf N (a0 + 119) (a0 + 25) u12) fun r16 u17 => (cl (hX2_setLamp N (a0 + 119) p1 (1 : Int32) u17) fun r19 u20 => (cl (hX10_playTrial N a0 p3 u20) fun r21 u22 => (if r11 < 0 ∨ 6 ≤ r11.toNatClampNeg then none else (bs (zL u22 (a0 + 122) r11.toNatClampNeg) fun v25 => (cl (hX2_copyOf N (a0 + 119) (a0 + 25) u22) fun r29 u30 => (cl (hX2_setLamp N (a0 + 119) p1 (0 : Int32) u30) fun r32 u33 => (cl (hX10_playTrial N a0 p3 u33) fun r34 u35 => (if r11 < 0 ∨ 6 ≤ r11.toNatClampNeg then none else (cl (fX10_fraction N (v25 - (zL u35 (a0 + 122) r11.toNatClampNeg)) (60 : Int64) p4 u35) fun r38 u39 => (some (r38, u39))))))))))))))))))))
set_option maxRecDepth 20000 in
theorem eX10_spite (N : Nat)  (a0 : Nat) (p1 : Int32) (p2 : Int32) (p3 : Int32) (p4 : Int32) (u : SG) (h_u : HK [(some a0, 11)] u) : fX10_spite N  a0 p1 p2 p3 p4 u = hX10_spite N  a0 p1 p2 p3 p4 u := by
  unfold fX10_spite hX10_spite
  refine eq_g (show zK u a0 = 11 from (h_u.g 0 rfl)) ?_
  refine eq_bR (show zR u a0 6 = some (a0 + 17) from lyR_11_6 h_u.1 (h_u.g 0 rfl)) ?_
  refine eq_g (show zK u (a0 + 17) = 7 from (lyK_11_6 h_u.1 (h_u.g 0 rfl))) ?_
  refine eq_bR (show zR u (a0 + 17) 0 = some (a0 + 18) from lyR_7_0 h_u.1 (lyK_11_6 h_u.1 (h_u.g 0 rfl))) ?_
  refine eq_g (show zK u (a0 + 18) = 8 from (lyK_7_0 h_u.1 (lyK_11_6 h_u.1 (h_u.g 0 rfl)))) ?_
  refine eq_cH (eX7_isLamp N (a0 + 18) p1 u (hkc (show zK u (a0 + 18) = 8 from (lyK_7_0 h_u.1 (lyK_11_6 h_u.1 (h_u.g 0 rfl)))) (hk0 h_u.1))) (fun r3 u4 e9 => h_u.fr (fr_X7_isLamp (P := PT) N (a0 + 18) p1 u clPT trivial _ _ e9).1) (fun r3 u4 h_u4 => ?_)
  refine eq_if ?_ ?_
  · rfl
  · refine eq_g (show zK u4 a0 = 11 from (h_u4.g 0 rfl)) ?_
    refine eq_cH (eX10_isDebtor N a0 p2 u4 (hkc (show zK u4 a0 = 11 from (h_u4.g 0 rfl)) (hk0 h_u4.1))) (fun r5 u6 e9 => h_u4.fr (fr_X10_isDebtor (P := PT) N a0 p2 u4 clPT trivial _ _ e9).1) (fun r5 u6 h_u6 => ?_)
    refine eq_if ?_ ?_
    · rfl
    · refine eq_cH rfl (fun r7 u8 e9 => h_u6.fr (fr_X10_isSpan (P := PT) N p3 u6 clPT _ _ e9).1) (fun r7 u8 h_u8 => ?_)
      refine eq_if ?_ ?_
      · rfl
      · refine eq_cH rfl (fun r9 u10 e9 => h_u8.fr (fr_X10_isPart (P := PT) N p4 u8 clPT _ _ e9).1) (fun r9 u10 h_u10 => ?_)
        refine eq_if ?_ ?_
        · rfl
        · refine eq_cH rfl (fun r11 u12 e9 => h_u10.fr (fr_X10_debtorRow (P := PT) N p2 u10 clPT _ _ e9).1) (fun r11 u12 h_u12 => ?_)
          refine eq_g (show zK u12 a0 = 11 from (h_u12.g 0 rfl)) ?_
          refine eq_bR (show zR u12 a0 10 = some (a0 + 119) from lyR_11_10 h_u12.1 (h_u12.g 0 rfl)) ?_
          refine eq_g (show zK u12 a0 = 11 from (h_u12.g 0 rfl)) ?_
          refine eq_bR (show zR u12 a0 6 = some (a0 + 17) from lyR_11_6 h_u12.1 (h_u12.g 0 rfl)) ?_
          refine eq_g (show zK u12 (a0 + 17) = 7 from (lyK_11_6 h_u12.1 (h_u12.g 0 rfl))) ?_
          refine eq_bR (show zR u12 (a0 + 17) 1 = some (a0 + 25) from lyR_7_1 h_u12.1 (lyK_11_6 h_u12.1 (h_u12.g 0 rfl))) ?_
          refine eq_g (show zK u12 (a0 + 119) = 3 from (lyK_11_10 h_u12.1 (h_u12.g 0 rfl))) ?_
          refine eq_cH (eX2_copyOf N (a0 + 119) (a0 + 25) u12 (hkc (show zK u12 (a0 + 119) = 3 from (lyK_11_10 h_u12.1 (h_u12.g 0 rfl))) (hkc (show zK u12 (a0 + 25) = 3 from (lyK_7_1 h_u12.1 (lyK_11_6 h_u12.1 (h_u12.g 0 rfl)))) (hk0 h_u12.1)))) (fun r16 u17 e9 => h_u12.fr (fr_X2_copyOf (P := PT) N (a0 + 119) (a0 + 25) u12 clPT trivial trivial _ _ e9).1) (fun r16 u17 h_u17 => ?_)
          refine eq_g (show zK u17 a0 = 11 from (h_u17.g 0 rfl)) ?_
          refine eq_bR (show zR u17 a0 10 = some (a0 + 119) from lyR_11_10 h_u17.1 (h_u17.g 0 rfl)) ?_
          refine eq_g (show zK u17 (a0 + 119) = 3 from (lyK_11_10 h_u17.1 (h_u17.g 0 rfl))) ?_
          refine eq_cH (eX2_setLamp N (a0 + 119) p1 (1 : Int32) u17 (hkc (show zK u17 (a0 + 119) = 3 from (lyK_11_10 h_u17.1 (h_u17.g 0 rfl))) (hk0 h_u17.1))) (fun r19 u20 e9 => h_u17.fr (fr_X2_setLamp (P := PT) N (a0 + 119) p1 (1 : Int32) u17 clPT trivial _ _ e9).1) (fun r19 u20 h_u20 => ?_)
          refine eq_g (show zK u20 a0 = 11 from (h_u20.g 0 rfl)) ?_
          refine eq_cH (eX10_playTrial N a0 p3 u20 (hkc (show zK u20 a0 = 11 from (h_u20.g 0 rfl)) (hk0 h_u20.1))) (fun r21 u22 e9 => h_u20.fr (fr_X10_playTrial (P := PT) N a0 p3 u20 clPT trivial _ _ e9).1) (fun r21 u22 h_u22 => ?_)
          refine eq_g (show zK u22 a0 = 11 from (h_u22.g 0 rfl)) ?_
          refine eq_bR (show zR u22 a0 10 = some (a0 + 119) from lyR_11_10 h_u22.1 (h_u22.g 0 rfl)) ?_
          refine eq_g (show zK u22 (a0 + 119) = 3 from (lyK_11_10 h_u22.1 (h_u22.g 0 rfl))) ?_
          refine eq_bR (show zR u22 (a0 + 119) 7 = some (a0 + 122) from lyR_3_7 h_u22.1 (lyK_11_10 h_u22.1 (h_u22.g 0 rfl))) ?_
          refine eq_g (show zK u22 (a0 + 122) = 23 from (lyK_3_7 h_u22.1 (lyK_11_10 h_u22.1 (h_u22.g 0 rfl)))) ?_
          refine eq_ixh (show zN u22 (a0 + 122) = 6 from lyN_3_7 h_u22.1 (lyK_11_10 h_u22.1 (h_u22.g 0 rfl))) (fun hix1 => ?_)
          refine eq_bs (fun v25 => ?_)
          refine eq_g (show zK u22 a0 = 11 from (h_u22.g 0 rfl)) ?_
          refine eq_bR (show zR u22 a0 10 = some (a0 + 119) from lyR_11_10 h_u22.1 (h_u22.g 0 rfl)) ?_
          refine eq_g (show zK u22 a0 = 11 from (h_u22.g 0 rfl)) ?_
          refine eq_bR (show zR u22 a0 6 = some (a0 + 17) from lyR_11_6 h_u22.1 (h_u22.g 0 rfl)) ?_
          refine eq_g (show zK u22 (a0 + 17) = 7 from (lyK_11_6 h_u22.1 (h_u22.g 0 rfl))) ?_
          refine eq_bR (show zR u22 (a0 + 17) 1 = some (a0 + 25) from lyR_7_1 h_u22.1 (lyK_11_6 h_u22.1 (h_u22.g 0 rfl))) ?_
          refine eq_g (show zK u22 (a0 + 119) = 3 from (lyK_11_10 h_u22.1 (h_u22.g 0 rfl))) ?_
          refine eq_cH (eX2_copyOf N (a0 + 119) (a0 + 25) u22 (hkc (show zK u22 (a0 + 119) = 3 from (lyK_11_10 h_u22.1 (h_u22.g 0 rfl))) (hkc (show zK u22 (a0 + 25) = 3 from (lyK_7_1 h_u22.1 (lyK_11_6 h_u22.1 (h_u22.g 0 rfl)))) (hk0 h_u22.1)))) (fun r29 u30 e9 => h_u22.fr (fr_X2_copyOf (P := PT) N (a0 + 119) (a0 + 25) u22 clPT trivial trivial _ _ e9).1) (fun r29 u30 h_u30 => ?_)
          refine eq_g (show zK u30 a0 = 11 from (h_u30.g 0 rfl)) ?_
          refine eq_bR (show zR u30 a0 10 = some (a0 + 119) from lyR_11_10 h_u30.1 (h_u30.g 0 rfl)) ?_
          refine eq_g (show zK u30 (a0 + 119) = 3 from (lyK_11_10 h_u30.1 (h_u30.g 0 rfl))) ?_
          refine eq_cH (eX2_setLamp N (a0 + 119) p1 (0 : Int32) u30 (hkc (show zK u30 (a0 + 119) = 3 from (lyK_11_10 h_u30.1 (h_u30.g 0 rfl))) (hk0 h_u30.1))) (fun r32 u33 e9 => h_u30.fr (fr_X2_setLamp (P := PT) N (a0 + 119) p1 (0 : Int32) u30 clPT trivial _ _ e9).1) (fun r32 u33 h_u33 => ?_)
          refine eq_g (show zK u33 a0 = 11 from (h_u33.g 0 rfl)) ?_
          refine eq_cH (eX10_playTrial N a0 p3 u33 (hkc (show zK u33 a0 = 11 from (h_u33.g 0 rfl)) (hk0 h_u33.1))) (fun r34 u35 e9 => h_u33.fr (fr_X10_playTrial (P := PT) N a0 p3 u33 clPT trivial _ _ e9).1) (fun r34 u35 h_u35 => ?_)
          refine eq_g (show zK u35 a0 = 11 from (h_u35.g 0 rfl)) ?_
          refine eq_bR (show zR u35 a0 10 = some (a0 + 119) from lyR_11_10 h_u35.1 (h_u35.g 0 rfl)) ?_
          refine eq_g (show zK u35 (a0 + 119) = 3 from (lyK_11_10 h_u35.1 (h_u35.g 0 rfl))) ?_
          refine eq_bR (show zR u35 (a0 + 119) 7 = some (a0 + 122) from lyR_3_7 h_u35.1 (lyK_11_10 h_u35.1 (h_u35.g 0 rfl))) ?_
          refine eq_g (show zK u35 (a0 + 122) = 23 from (lyK_3_7 h_u35.1 (lyK_11_10 h_u35.1 (h_u35.g 0 rfl)))) ?_
          refine eq_ixh (show zN u35 (a0 + 122) = 6 from lyN_3_7 h_u35.1 (lyK_11_10 h_u35.1 (h_u35.g 0 rfl))) (fun hix2 => ?_)
          refine eq_cH rfl (fun r38 u39 e9 => h_u35.fr (fr_X10_fraction (P := PT) N (v25 - (zL u35 (a0 + 122) r11.toNatClampNeg)) (60 : Int64) p4 u35 clPT _ _ e9).1) (fun r38 u39 h_u39 => ?_)
          rfl
set_option maxRecDepth 20000 in
def hX10_seed (N : Nat)  (a0 : Nat) (p1 : Int32) (u : SG) : Option (Int32 × SG) := if 0 ≤ p1 then (bs (zI u (a0 + 17) 4) fun v2 => (bs (sI u (a0 + 17) 4 p1) fun u4 => (some (v2, u4))))
  else (some ((-1 : Int32), u))
set_option maxRecDepth 20000 in
theorem eX10_seed (N : Nat)  (a0 : Nat) (p1 : Int32) (u : SG) (h_u : HK [(some a0, 11)] u) : fX10_seed N  a0 p1 u = hX10_seed N  a0 p1 u := by
  unfold fX10_seed hX10_seed
  refine eq_if ?_ ?_
  · refine eq_g (show zK u a0 = 11 from (h_u.g 0 rfl)) ?_
    refine eq_bR (show zR u a0 6 = some (a0 + 17) from lyR_11_6 h_u.1 (h_u.g 0 rfl)) ?_
    refine eq_g (show zK u (a0 + 17) = 7 from (lyK_11_6 h_u.1 (h_u.g 0 rfl))) ?_
    refine eq_bs (fun v2 => ?_)
    refine eq_g (show zK u a0 = 11 from (h_u.g 0 rfl)) ?_
    refine eq_bR (show zR u a0 6 = some (a0 + 17) from lyR_11_6 h_u.1 (h_u.g 0 rfl)) ?_
    refine eq_g (show zK u (a0 + 17) = 7 from (lyK_11_6 h_u.1 (h_u.g 0 rfl))) ?_
    refine eq_sH (h_u.fr (P := PT) (Fr.sIr trivial)) (fun u4 h_u4 => ?_)
    rfl
  · rfl
set_option maxRecDepth 20000 in
def hgX10_lives_97 (N : Nat)  (rc74 : Nat → Int32 → Int32 → Int32 → Int32 → Int32 → Int32 → Int64 → Int32 → SG → Option (Int32 × SG)) : Nat → Nat → Int32 → Int32 → Int32 → Int32 → Int32 → Int32 → Int64 → Int32 → Int32 → SG → Option (Int32 × SG)
  | 0, _, _, _, _, _, _, _, _, _, _, _ => none
  | n + 1, x0, x1, x2, x3, x4, x5, x6, x7, x9, x10, u => if x2 ≤ x10 then (bs (x7 + ((zL u (x0 + 122) 5) - (zL u (x0 + 28) 5))) fun v6 => (rc74 x0 x1 x2 x3 x4 x5 x6 v6 (x9 + (1 : Int32)) u))
  else (cl (hX3_draw N (x0 + 117) (x0 + 18) (x0 + 119) x5 x3 u) fun r11 u12 => (cl (hX3_play N (x0 + 117) (x0 + 18) (x0 + 119) none u12) fun r17 u18 => (bs (x6 + r17) fun v19 => ((hgX10_lives_97 N  rc74 n) x0 x1 x2 x3 x4 r11 v19 x7 x9 (x10 + (1 : Int32)) u18))))
set_option maxRecDepth 20000 in
theorem egX10_lives_97 (N : Nat)  (rec74 : Nat → Int32 → Int32 → Int32 → Int32 → Int32 → Int32 → Int64 → Int32 → SG → Option (Int32 × SG)) (rc74 : Nat → Int32 → Int32 → Int32 → Int32 → Int32 → Int32 → Int64 → Int32 → SG → Option (Int32 × SG)) (hrc74 : ∀ (x0 : Nat) (x1 : Int32) (x2 : Int32) (x3 : Int32) (x4 : Int32) (x5 : Int32) (x6 : Int32) (x7 : Int64) (x9 : Int32) (u : SG), HK [(some x0, 11)] u → rec74 x0 x1 x2 x3 x4 x5 x6 x7 x9 u = rc74 x0 x1 x2 x3 x4 x5 x6 x7 x9 u) : ∀ (n : Nat) (x0 : Nat) (x1 : Int32) (x2 : Int32) (x3 : Int32) (x4 : Int32) (x5 : Int32) (x6 : Int32) (x7 : Int64) (x9 : Int32) (x10 : Int32) (u : SG), HK [(some x0, 11)] u → gX10_lives_97 N  rec74 n x0 x1 x2 x3 x4 x5 x6 x7 x9 x10 u = hgX10_lives_97 N  rc74 n x0 x1 x2 x3 x4 x5 x6 x7 x9 x10 u := by
  intro n
  induction n with
  | zero => intros; rfl
  | succ n ih =>
    intro x0 x1 x2 x3 x4 x5 x6 x7 x9 x10 u h_u
    have hrc97 := ih
    rw [gX10_lives_97, hgX10_lives_97]
    refine eq_if ?_ ?_
    · refine eq_g (show zK u x0 = 11 from (h_u.g 0 rfl)) ?_
      refine eq_bR (show zR u x0 10 = some (x0 + 119) from lyR_11_10 h_u.1 (h_u.g 0 rfl)) ?_
      refine eq_g (show zK u (x0 + 119) = 3 from (lyK_11_10 h_u.1 (h_u.g 0 rfl))) ?_
      refine eq_bR (show zR u (x0 + 119) 7 = some (x0 + 122) from lyR_3_7 h_u.1 (lyK_11_10 h_u.1 (h_u.g 0 rfl))) ?_
      refine eq_g (show zK u (x0 + 122) = 23 from (lyK_3_7 h_u.1 (lyK_11_10 h_u.1 (h_u.g 0 rfl)))) ?_
      refine eq_n (by rw [show zN u (x0 + 122) = 6 from lyN_3_7 h_u.1 (lyK_11_10 h_u.1 (h_u.g 0 rfl))]; decide) ?_
      refine eq_g (show zK u x0 = 11 from (h_u.g 0 rfl)) ?_
      refine eq_bR (show zR u x0 6 = some (x0 + 17) from lyR_11_6 h_u.1 (h_u.g 0 rfl)) ?_
      refine eq_g (show zK u (x0 + 17) = 7 from (lyK_11_6 h_u.1 (h_u.g 0 rfl))) ?_
      refine eq_bR (show zR u (x0 + 17) 1 = some (x0 + 25) from lyR_7_1 h_u.1 (lyK_11_6 h_u.1 (h_u.g 0 rfl))) ?_
      refine eq_g (show zK u (x0 + 25) = 3 from (lyK_7_1 h_u.1 (lyK_11_6 h_u.1 (h_u.g 0 rfl)))) ?_
      refine eq_bR (show zR u (x0 + 25) 7 = some (x0 + 28) from lyR_3_7 h_u.1 (lyK_7_1 h_u.1 (lyK_11_6 h_u.1 (h_u.g 0 rfl)))) ?_
      refine eq_g (show zK u (x0 + 28) = 23 from (lyK_3_7 h_u.1 (lyK_7_1 h_u.1 (lyK_11_6 h_u.1 (h_u.g 0 rfl))))) ?_
      refine eq_n (by rw [show zN u (x0 + 28) = 6 from lyN_3_7 h_u.1 (lyK_7_1 h_u.1 (lyK_11_6 h_u.1 (h_u.g 0 rfl)))]; decide) ?_
      refine eq_bs (fun v6 => ?_)
      exact hrc74 x0 x1 x2 x3 x4 x5 x6 v6 (x9 + (1 : Int32)) u (hkc (show zK u x0 = 11 from (h_u.g 0 rfl)) (hk0 h_u.1))
    · refine eq_g (show zK u x0 = 11 from (h_u.g 0 rfl)) ?_
      refine eq_bR (show zR u x0 9 = some (x0 + 117) from lyR_11_9 h_u.1 (h_u.g 0 rfl)) ?_
      refine eq_g (show zK u x0 = 11 from (h_u.g 0 rfl)) ?_
      refine eq_bR (show zR u x0 6 = some (x0 + 17) from lyR_11_6 h_u.1 (h_u.g 0 rfl)) ?_
      refine eq_g (show zK u (x0 + 17) = 7 from (lyK_11_6 h_u.1 (h_u.g 0 rfl))) ?_
      refine eq_bR (show zR u (x0 + 17) 0 = some (x0 + 18) from lyR_7_0 h_u.1 (lyK_11_6 h_u.1 (h_u.g 0 rfl))) ?_
      refine eq_g (show zK u x0 = 11 from (h_u.g 0 rfl)) ?_
      refine eq_bR (show zR u x0 10 = some (x0 + 119) from lyR_11_10 h_u.1 (h_u.g 0 rfl)) ?_
      refine eq_g (show zK u (x0 + 117) = 4 from (lyK_11_9 h_u.1 (h_u.g 0 rfl))) ?_
      refine eq_cH (eX3_draw N (x0 + 117) (x0 + 18) (x0 + 119) x5 x3 u (hkc (show zK u (x0 + 117) = 4 from (lyK_11_9 h_u.1 (h_u.g 0 rfl))) (hkc (show zK u (x0 + 18) = 8 from (lyK_7_0 h_u.1 (lyK_11_6 h_u.1 (h_u.g 0 rfl)))) (hkc (show zK u (x0 + 119) = 3 from (lyK_11_10 h_u.1 (h_u.g 0 rfl))) (hk0 h_u.1))))) (fun r11 u12 e9 => h_u.fr (fr_X3_draw (P := PT) N (x0 + 117) (x0 + 18) (x0 + 119) x5 x3 u clPT trivial trivial trivial _ _ e9).1) (fun r11 u12 h_u12 => ?_)
      refine eq_g (show zK u12 x0 = 11 from (h_u12.g 0 rfl)) ?_
      refine eq_bR (show zR u12 x0 9 = some (x0 + 117) from lyR_11_9 h_u12.1 (h_u12.g 0 rfl)) ?_
      refine eq_g (show zK u12 x0 = 11 from (h_u12.g 0 rfl)) ?_
      refine eq_bR (show zR u12 x0 6 = some (x0 + 17) from lyR_11_6 h_u12.1 (h_u12.g 0 rfl)) ?_
      refine eq_g (show zK u12 (x0 + 17) = 7 from (lyK_11_6 h_u12.1 (h_u12.g 0 rfl))) ?_
      refine eq_bR (show zR u12 (x0 + 17) 0 = some (x0 + 18) from lyR_7_0 h_u12.1 (lyK_11_6 h_u12.1 (h_u12.g 0 rfl))) ?_
      refine eq_g (show zK u12 x0 = 11 from (h_u12.g 0 rfl)) ?_
      refine eq_bR (show zR u12 x0 10 = some (x0 + 119) from lyR_11_10 h_u12.1 (h_u12.g 0 rfl)) ?_
      refine eq_g (show zK u12 (x0 + 117) = 4 from (lyK_11_9 h_u12.1 (h_u12.g 0 rfl))) ?_
      refine eq_cH (eX3_play N (x0 + 117) (x0 + 18) (x0 + 119) none u12 (hkc (show zK u12 (x0 + 117) = 4 from (lyK_11_9 h_u12.1 (h_u12.g 0 rfl))) (hkc (show zK u12 (x0 + 18) = 8 from (lyK_7_0 h_u12.1 (lyK_11_6 h_u12.1 (h_u12.g 0 rfl)))) (hkc (show zK u12 (x0 + 119) = 3 from (lyK_11_10 h_u12.1 (h_u12.g 0 rfl))) (hkq (fun _ h9 => by cases h9) (hk0 h_u12.1)))))) (fun r17 u18 e9 => h_u12.fr (fr_X3_play (P := PT) N (x0 + 117) (x0 + 18) (x0 + 119) none u12 clPT trivial trivial trivial (fun _ _ => trivial) _ _ e9).1) (fun r17 u18 h_u18 => ?_)
      refine eq_bs (fun v19 => ?_)
      exact hrc97 x0 x1 x2 x3 x4 r11 v19 x7 x9 (x10 + (1 : Int32)) u18 (hkc (show zK u18 x0 = 11 from (h_u18.g 0 rfl)) (hk0 h_u18.1))
set_option maxRecDepth 20000 in
def hgX10_lives_74 (N : Nat)   : Nat → Nat → Int32 → Int32 → Int32 → Int32 → Int32 → Int32 → Int64 → Int32 → SG → Option (Int32 × SG)
  | 0, _, _, _, _, _, _, _, _, _, _ => none
  | n + 1, x0, x1, x2, x3, x4, x5, x6, x7, x9, u => if x1 ≤ x9 then (if x4 = 0 then (some (x6, u))
  else (if (60 : Int64) = 0 then (none)
  else (some ((x7 / (60 : Int64)).toInt32, u))))
  else (cl (hX2_copyOf N (x0 + 119) (x0 + 25) u) fun r4 u5 => (hgX10_lives_97 N  (hgX10_lives_74 N   n) N x0 x1 x2 x3 x4 x5 x6 x7 x9 (0 : Int32) u5))
set_option maxRecDepth 20000 in
theorem egX10_lives_74 (N : Nat)   : ∀ (n : Nat) (x0 : Nat) (x1 : Int32) (x2 : Int32) (x3 : Int32) (x4 : Int32) (x5 : Int32) (x6 : Int32) (x7 : Int64) (x9 : Int32) (u : SG), HK [(some x0, 11)] u → gX10_lives_74 N   n x0 x1 x2 x3 x4 x5 x6 x7 x9 u = hgX10_lives_74 N   n x0 x1 x2 x3 x4 x5 x6 x7 x9 u := by
  intro n
  induction n with
  | zero => intros; rfl
  | succ n ih =>
    intro x0 x1 x2 x3 x4 x5 x6 x7 x9 u h_u
    have hrc74 := ih
    rw [gX10_lives_74, hgX10_lives_74]
    refine eq_if ?_ ?_
    · refine eq_if ?_ ?_
      · rfl
      · refine eq_if ?_ ?_
        · rfl
        · rfl
    · refine eq_g (show zK u x0 = 11 from (h_u.g 0 rfl)) ?_
      refine eq_bR (show zR u x0 10 = some (x0 + 119) from lyR_11_10 h_u.1 (h_u.g 0 rfl)) ?_
      refine eq_g (show zK u x0 = 11 from (h_u.g 0 rfl)) ?_
      refine eq_bR (show zR u x0 6 = some (x0 + 17) from lyR_11_6 h_u.1 (h_u.g 0 rfl)) ?_
      refine eq_g (show zK u (x0 + 17) = 7 from (lyK_11_6 h_u.1 (h_u.g 0 rfl))) ?_
      refine eq_bR (show zR u (x0 + 17) 1 = some (x0 + 25) from lyR_7_1 h_u.1 (lyK_11_6 h_u.1 (h_u.g 0 rfl))) ?_
      refine eq_g (show zK u (x0 + 119) = 3 from (lyK_11_10 h_u.1 (h_u.g 0 rfl))) ?_
      refine eq_cH (eX2_copyOf N (x0 + 119) (x0 + 25) u (hkc (show zK u (x0 + 119) = 3 from (lyK_11_10 h_u.1 (h_u.g 0 rfl))) (hkc (show zK u (x0 + 25) = 3 from (lyK_7_1 h_u.1 (lyK_11_6 h_u.1 (h_u.g 0 rfl)))) (hk0 h_u.1)))) (fun r4 u5 e9 => h_u.fr (fr_X2_copyOf (P := PT) N (x0 + 119) (x0 + 25) u clPT trivial trivial _ _ e9).1) (fun r4 u5 h_u5 => ?_)
      exact egX10_lives_97 N  _ _ hrc74 N x0 x1 x2 x3 x4 x5 x6 x7 x9 (0 : Int32) u5 (hkc (show zK u5 x0 = 11 from (h_u5.g 0 rfl)) (hk0 h_u5.1))
set_option maxRecDepth 20000 in
def hX10_lives (N : Nat)  (a0 : Nat) (p1 : Int32) (p2 : Int32) (p3 : Int32) (p4 : Int32) (u : SG) : Option (Int32 × SG) := cl (hX7_isTold N (a0 + 18) u) fun r3 u4 => (if r3 = 0 then (some ((-1 : Int32), u4))
  else (if p1 < (1 : Int32) then (some ((-1 : Int32), u4))
  else (if (10 : Int32) < p1 then (some ((-1 : Int32), u4))
  else (cl (fX10_isSpan N p2 u4) fun r5 u6 => (if r5 = 0 then (some ((-1 : Int32), u6))
  else (if p3 < 0 then (some ((-1 : Int32), u6))
  else (if (100 : Int32) < p3 then (some ((-1 : Int32), u6))
  else (if p4 < 0 then (some ((-1 : Int32), u6))
  else (if p4 ≤ (1 : Int32) then (bs (zI u6 (a0 + 17) 4) fun v8 => (hgX10_lives_74 N   N a0 p1 p2 p3 p4 v8 (0 : Int32) (0 : Int64) (0 : Int32) u6))
  else (some ((-1 : Int32), u6)))))))))))
set_option maxRecDepth 20000 in
theorem eX10_lives (N : Nat)  (a0 : Nat) (p1 : Int32) (p2 : Int32) (p3 : Int32) (p4 : Int32) (u : SG) (h_u : HK [(some a0, 11)] u) : fX10_lives N  a0 p1 p2 p3 p4 u = hX10_lives N  a0 p1 p2 p3 p4 u := by
  unfold fX10_lives hX10_lives
  refine eq_g (show zK u a0 = 11 from (h_u.g 0 rfl)) ?_
  refine eq_bR (show zR u a0 6 = some (a0 + 17) from lyR_11_6 h_u.1 (h_u.g 0 rfl)) ?_
  refine eq_g (show zK u (a0 + 17) = 7 from (lyK_11_6 h_u.1 (h_u.g 0 rfl))) ?_
  refine eq_bR (show zR u (a0 + 17) 0 = some (a0 + 18) from lyR_7_0 h_u.1 (lyK_11_6 h_u.1 (h_u.g 0 rfl))) ?_
  refine eq_g (show zK u (a0 + 18) = 8 from (lyK_7_0 h_u.1 (lyK_11_6 h_u.1 (h_u.g 0 rfl)))) ?_
  refine eq_cH (eX7_isTold N (a0 + 18) u (hkc (show zK u (a0 + 18) = 8 from (lyK_7_0 h_u.1 (lyK_11_6 h_u.1 (h_u.g 0 rfl)))) (hk0 h_u.1))) (fun r3 u4 e9 => h_u.fr (fr_X7_isTold (P := PT) N (a0 + 18) u clPT trivial _ _ e9).1) (fun r3 u4 h_u4 => ?_)
  refine eq_if ?_ ?_
  · rfl
  · refine eq_if ?_ ?_
    · rfl
    · refine eq_if ?_ ?_
      · rfl
      · refine eq_cH rfl (fun r5 u6 e9 => h_u4.fr (fr_X10_isSpan (P := PT) N p2 u4 clPT _ _ e9).1) (fun r5 u6 h_u6 => ?_)
        refine eq_if ?_ ?_
        · rfl
        · refine eq_if ?_ ?_
          · rfl
          · refine eq_if ?_ ?_
            · rfl
            · refine eq_if ?_ ?_
              · rfl
              · refine eq_if ?_ ?_
                · refine eq_g (show zK u6 a0 = 11 from (h_u6.g 0 rfl)) ?_
                  refine eq_bR (show zR u6 a0 6 = some (a0 + 17) from lyR_11_6 h_u6.1 (h_u6.g 0 rfl)) ?_
                  refine eq_g (show zK u6 (a0 + 17) = 7 from (lyK_11_6 h_u6.1 (h_u6.g 0 rfl))) ?_
                  refine eq_bs (fun v8 => ?_)
                  exact egX10_lives_74 N   N a0 p1 p2 p3 p4 v8 (0 : Int32) (0 : Int64) (0 : Int32) u6 (hkc (show zK u6 a0 = 11 from (h_u6.g 0 rfl)) (hk0 h_u6.1))
                · rfl
set_option maxRecDepth 20000 in
def hX10_count (N : Nat)  (a0 : Nat) (p1 : Int32) (u : SG) : Option (Int32 × SG) := if p1 = (0 : Int32) then (some (zI u (a0 + 18) 6, u))
  else (if p1 = (1 : Int32) then (some (zI u (a0 + 18) 7, u))
  else (if p1 = (2 : Int32) then (some (zI u (a0 + 18) 8, u))
  else (if p1 = (3 : Int32) then (some (zI u (a0 + 18) 9, u))
  else (if p1 = (4 : Int32) then (some (zI u (a0 + 18) 10, u))
  else (if p1 = (5 : Int32) then (some (zI u a0 5, u))
  else (if p1 = (6 : Int32) then (some (zI u (a0 + 17) 3, u))
  else (if p1 = (7 : Int32) then (some (zI u (a0 + 25) 0, u))
  else (if p1 = (8 : Int32) then (some (zI u (a0 + 25) 1, u))
  else (if p1 = (9 : Int32) then (some (zI u (a0 + 25) 2, u))
  else (if p1 = (10 : Int32) then (cl (hX10_burningNow N a0 u) fun r18 u19 => (some (r18, u19)))
  else (if p1 = (11 : Int32) then (cl (hX10_burningNow N a0 u) fun r22 u23 => (cl (hX7_costOf N (a0 + 18) r22 u23) fun r24 u25 => (some (r24, u25))))
  else (if p1 = (12 : Int32) then (some (zI u (a0 + 29) 4, u))
  else (if p1 = (13 : Int32) then (some (zI u (a0 + 35) 2, u))
  else (if p1 = (14 : Int32) then (some (zI u (a0 + 17) 4, u))
  else (if p1 = (15 : Int32) then (some (zI u (a0 + 1) 1, u))
  else (some ((-1 : Int32), u)))))))))))))))))
set_option maxRecDepth 20000 in
theorem eX10_count (N : Nat)  (a0 : Nat) (p1 : Int32) (u : SG) (h_u : HK [(some a0, 11)] u) : fX10_count N  a0 p1 u = hX10_count N  a0 p1 u := by
  unfold fX10_count hX10_count
  refine eq_if ?_ ?_
  · refine eq_g (show zK u a0 = 11 from (h_u.g 0 rfl)) ?_
    refine eq_bR (show zR u a0 6 = some (a0 + 17) from lyR_11_6 h_u.1 (h_u.g 0 rfl)) ?_
    refine eq_g (show zK u (a0 + 17) = 7 from (lyK_11_6 h_u.1 (h_u.g 0 rfl))) ?_
    refine eq_bR (show zR u (a0 + 17) 0 = some (a0 + 18) from lyR_7_0 h_u.1 (lyK_11_6 h_u.1 (h_u.g 0 rfl))) ?_
    refine eq_g (show zK u (a0 + 18) = 8 from (lyK_7_0 h_u.1 (lyK_11_6 h_u.1 (h_u.g 0 rfl)))) ?_
    rfl
  · refine eq_if ?_ ?_
    · refine eq_g (show zK u a0 = 11 from (h_u.g 0 rfl)) ?_
      refine eq_bR (show zR u a0 6 = some (a0 + 17) from lyR_11_6 h_u.1 (h_u.g 0 rfl)) ?_
      refine eq_g (show zK u (a0 + 17) = 7 from (lyK_11_6 h_u.1 (h_u.g 0 rfl))) ?_
      refine eq_bR (show zR u (a0 + 17) 0 = some (a0 + 18) from lyR_7_0 h_u.1 (lyK_11_6 h_u.1 (h_u.g 0 rfl))) ?_
      refine eq_g (show zK u (a0 + 18) = 8 from (lyK_7_0 h_u.1 (lyK_11_6 h_u.1 (h_u.g 0 rfl)))) ?_
      rfl
    · refine eq_if ?_ ?_
      · refine eq_g (show zK u a0 = 11 from (h_u.g 0 rfl)) ?_
        refine eq_bR (show zR u a0 6 = some (a0 + 17) from lyR_11_6 h_u.1 (h_u.g 0 rfl)) ?_
        refine eq_g (show zK u (a0 + 17) = 7 from (lyK_11_6 h_u.1 (h_u.g 0 rfl))) ?_
        refine eq_bR (show zR u (a0 + 17) 0 = some (a0 + 18) from lyR_7_0 h_u.1 (lyK_11_6 h_u.1 (h_u.g 0 rfl))) ?_
        refine eq_g (show zK u (a0 + 18) = 8 from (lyK_7_0 h_u.1 (lyK_11_6 h_u.1 (h_u.g 0 rfl)))) ?_
        rfl
      · refine eq_if ?_ ?_
        · refine eq_g (show zK u a0 = 11 from (h_u.g 0 rfl)) ?_
          refine eq_bR (show zR u a0 6 = some (a0 + 17) from lyR_11_6 h_u.1 (h_u.g 0 rfl)) ?_
          refine eq_g (show zK u (a0 + 17) = 7 from (lyK_11_6 h_u.1 (h_u.g 0 rfl))) ?_
          refine eq_bR (show zR u (a0 + 17) 0 = some (a0 + 18) from lyR_7_0 h_u.1 (lyK_11_6 h_u.1 (h_u.g 0 rfl))) ?_
          refine eq_g (show zK u (a0 + 18) = 8 from (lyK_7_0 h_u.1 (lyK_11_6 h_u.1 (h_u.g 0 rfl)))) ?_
          rfl
        · refine eq_if ?_ ?_
          · refine eq_g (show zK u a0 = 11 from (h_u.g 0 rfl)) ?_
            refine eq_bR (show zR u a0 6 = some (a0 + 17) from lyR_11_6 h_u.1 (h_u.g 0 rfl)) ?_
            refine eq_g (show zK u (a0 + 17) = 7 from (lyK_11_6 h_u.1 (h_u.g 0 rfl))) ?_
            refine eq_bR (show zR u (a0 + 17) 0 = some (a0 + 18) from lyR_7_0 h_u.1 (lyK_11_6 h_u.1 (h_u.g 0 rfl))) ?_
            refine eq_g (show zK u (a0 + 18) = 8 from (lyK_7_0 h_u.1 (lyK_11_6 h_u.1 (h_u.g 0 rfl)))) ?_
            rfl
          · refine eq_if ?_ ?_
            · refine eq_g (show zK u a0 = 11 from (h_u.g 0 rfl)) ?_
              rfl
            · refine eq_if ?_ ?_
              · refine eq_g (show zK u a0 = 11 from (h_u.g 0 rfl)) ?_
                refine eq_bR (show zR u a0 6 = some (a0 + 17) from lyR_11_6 h_u.1 (h_u.g 0 rfl)) ?_
                refine eq_g (show zK u (a0 + 17) = 7 from (lyK_11_6 h_u.1 (h_u.g 0 rfl))) ?_
                rfl
              · refine eq_if ?_ ?_
                · refine eq_g (show zK u a0 = 11 from (h_u.g 0 rfl)) ?_
                  refine eq_bR (show zR u a0 6 = some (a0 + 17) from lyR_11_6 h_u.1 (h_u.g 0 rfl)) ?_
                  refine eq_g (show zK u (a0 + 17) = 7 from (lyK_11_6 h_u.1 (h_u.g 0 rfl))) ?_
                  refine eq_bR (show zR u (a0 + 17) 1 = some (a0 + 25) from lyR_7_1 h_u.1 (lyK_11_6 h_u.1 (h_u.g 0 rfl))) ?_
                  refine eq_g (show zK u (a0 + 25) = 3 from (lyK_7_1 h_u.1 (lyK_11_6 h_u.1 (h_u.g 0 rfl)))) ?_
                  rfl
                · refine eq_if ?_ ?_
                  · refine eq_g (show zK u a0 = 11 from (h_u.g 0 rfl)) ?_
                    refine eq_bR (show zR u a0 6 = some (a0 + 17) from lyR_11_6 h_u.1 (h_u.g 0 rfl)) ?_
                    refine eq_g (show zK u (a0 + 17) = 7 from (lyK_11_6 h_u.1 (h_u.g 0 rfl))) ?_
                    refine eq_bR (show zR u (a0 + 17) 1 = some (a0 + 25) from lyR_7_1 h_u.1 (lyK_11_6 h_u.1 (h_u.g 0 rfl))) ?_
                    refine eq_g (show zK u (a0 + 25) = 3 from (lyK_7_1 h_u.1 (lyK_11_6 h_u.1 (h_u.g 0 rfl)))) ?_
                    rfl
                  · refine eq_if ?_ ?_
                    · refine eq_g (show zK u a0 = 11 from (h_u.g 0 rfl)) ?_
                      refine eq_bR (show zR u a0 6 = some (a0 + 17) from lyR_11_6 h_u.1 (h_u.g 0 rfl)) ?_
                      refine eq_g (show zK u (a0 + 17) = 7 from (lyK_11_6 h_u.1 (h_u.g 0 rfl))) ?_
                      refine eq_bR (show zR u (a0 + 17) 1 = some (a0 + 25) from lyR_7_1 h_u.1 (lyK_11_6 h_u.1 (h_u.g 0 rfl))) ?_
                      refine eq_g (show zK u (a0 + 25) = 3 from (lyK_7_1 h_u.1 (lyK_11_6 h_u.1 (h_u.g 0 rfl)))) ?_
                      rfl
                    · refine eq_if ?_ ?_
                      · refine eq_g (show zK u a0 = 11 from (h_u.g 0 rfl)) ?_
                        refine eq_cH (eX10_burningNow N a0 u (hkc (show zK u a0 = 11 from (h_u.g 0 rfl)) (hk0 h_u.1))) (fun r18 u19 e9 => h_u.fr (fr_X10_burningNow (P := PT) N a0 u clPT trivial _ _ e9).1) (fun r18 u19 h_u19 => ?_)
                        rfl
                      · refine eq_if ?_ ?_
                        · refine eq_g (show zK u a0 = 11 from (h_u.g 0 rfl)) ?_
                          refine eq_bR (show zR u a0 6 = some (a0 + 17) from lyR_11_6 h_u.1 (h_u.g 0 rfl)) ?_
                          refine eq_g (show zK u (a0 + 17) = 7 from (lyK_11_6 h_u.1 (h_u.g 0 rfl))) ?_
                          refine eq_bR (show zR u (a0 + 17) 0 = some (a0 + 18) from lyR_7_0 h_u.1 (lyK_11_6 h_u.1 (h_u.g 0 rfl))) ?_
                          refine eq_g (show zK u a0 = 11 from (h_u.g 0 rfl)) ?_
                          refine eq_cH (eX10_burningNow N a0 u (hkc (show zK u a0 = 11 from (h_u.g 0 rfl)) (hk0 h_u.1))) (fun r22 u23 e9 => h_u.fr (fr_X10_burningNow (P := PT) N a0 u clPT trivial _ _ e9).1) (fun r22 u23 h_u23 => ?_)
                          refine eq_g (show zK u23 (a0 + 18) = 8 from (lyK_7_0 h_u23.1 (lyK_11_6 h_u23.1 (h_u23.g 0 rfl)))) ?_
                          refine eq_cH (eX7_costOf N (a0 + 18) r22 u23 (hkc (show zK u23 (a0 + 18) = 8 from (lyK_7_0 h_u23.1 (lyK_11_6 h_u23.1 (h_u23.g 0 rfl)))) (hk0 h_u23.1))) (fun r24 u25 e9 => h_u23.fr (fr_X7_costOf (P := PT) N (a0 + 18) r22 u23 clPT trivial _ _ e9).1) (fun r24 u25 h_u25 => ?_)
                          rfl
                        · refine eq_if ?_ ?_
                          · refine eq_g (show zK u a0 = 11 from (h_u.g 0 rfl)) ?_
                            refine eq_bR (show zR u a0 6 = some (a0 + 17) from lyR_11_6 h_u.1 (h_u.g 0 rfl)) ?_
                            refine eq_g (show zK u (a0 + 17) = 7 from (lyK_11_6 h_u.1 (h_u.g 0 rfl))) ?_
                            refine eq_bR (show zR u (a0 + 17) 2 = some (a0 + 29) from lyR_7_2 h_u.1 (lyK_11_6 h_u.1 (h_u.g 0 rfl))) ?_
                            refine eq_g (show zK u (a0 + 29) = 2 from (lyK_7_2 h_u.1 (lyK_11_6 h_u.1 (h_u.g 0 rfl)))) ?_
                            rfl
                          · refine eq_if ?_ ?_
                            · refine eq_g (show zK u a0 = 11 from (h_u.g 0 rfl)) ?_
                              refine eq_bR (show zR u a0 8 = some (a0 + 35) from lyR_11_8 h_u.1 (h_u.g 0 rfl)) ?_
                              refine eq_g (show zK u (a0 + 35) = 1 from (lyK_11_8 h_u.1 (h_u.g 0 rfl))) ?_
                              rfl
                            · refine eq_if ?_ ?_
                              · refine eq_g (show zK u a0 = 11 from (h_u.g 0 rfl)) ?_
                                refine eq_bR (show zR u a0 6 = some (a0 + 17) from lyR_11_6 h_u.1 (h_u.g 0 rfl)) ?_
                                refine eq_g (show zK u (a0 + 17) = 7 from (lyK_11_6 h_u.1 (h_u.g 0 rfl))) ?_
                                rfl
                              · refine eq_if ?_ ?_
                                · refine eq_g (show zK u a0 = 11 from (h_u.g 0 rfl)) ?_
                                  refine eq_bR (show zR u a0 0 = some (a0 + 1) from lyR_11_0 h_u.1 (h_u.g 0 rfl)) ?_
                                  refine eq_g (show zK u (a0 + 1) = 10 from (lyK_11_0 h_u.1 (h_u.g 0 rfl))) ?_
                                  rfl
                                · rfl
set_option maxRecDepth 20000 in
def hX10_image (N : Nat)  (a0 : Nat) (p1 : Int32) (u : SG) : Option (Int32 × SG) := if p1 < 0 then (some ((-1 : Int32), u))
  else (if p1 < (4 : Int32) then (if p1 < 0 ∨ 4 ≤ p1.toNatClampNeg then none else (cl (hX6_copyOf N (a0 + 125 + 17 * p1.toNatClampNeg) (a0 + 17) u) fun r4 u5 => (if p1 < 0 ∨ 4 ≤ p1.toNatClampNeg then none else (if (1 : Int32) = 0 ∨ (1 : Int32) = 1 then (bs (sI u5 (a0 + 125 + 17 * p1.toNatClampNeg) 5 (1 : Int32)) fun u8 => (some (zI u8 (a0 + 25) 1, u8)))
  else (none)))))
  else (some ((-1 : Int32), u)))
set_option maxRecDepth 20000 in
theorem eX10_image (N : Nat)  (a0 : Nat) (p1 : Int32) (u : SG) (h_u : HK [(some a0, 11)] u) : fX10_image N  a0 p1 u = hX10_image N  a0 p1 u := by
  unfold fX10_image hX10_image
  refine eq_if ?_ ?_
  · rfl
  · refine eq_if ?_ ?_
    · refine eq_g (show zK u a0 = 11 from (h_u.g 0 rfl)) ?_
      refine eq_bR (show zR u a0 7 = some (a0 + 34) from lyR_11_7 h_u.1 (h_u.g 0 rfl)) ?_
      refine eq_g (show zK u (a0 + 34) = 27 from (lyK_11_7 h_u.1 (h_u.g 0 rfl))) ?_
      refine eq_ixh (show zN u (a0 + 34) = 4 from lyN_11_7 h_u.1 (h_u.g 0 rfl)) (fun hix1 => ?_)
      refine eq_g (show zK u a0 = 11 from (h_u.g 0 rfl)) ?_
      refine eq_bR (show zR u a0 6 = some (a0 + 17) from lyR_11_6 h_u.1 (h_u.g 0 rfl)) ?_
      refine eq_bR (show zR u (a0 + 34) p1.toNatClampNeg = some (a0 + 125 + 17 * p1.toNatClampNeg) from (lyE_11 h_u.1 (h_u.g 0 rfl) (Nat.lt_of_not_le (fun h9 => hix1 (Or.inr h9)))).1) ?_
      refine eq_g (show zK u (a0 + 125 + 17 * p1.toNatClampNeg) = 7 from (lyE_11 h_u.1 (h_u.g 0 rfl) (Nat.lt_of_not_le (fun h9 => hix1 (Or.inr h9)))).2) ?_
      refine eq_cH (eX6_copyOf N (a0 + 125 + 17 * p1.toNatClampNeg) (a0 + 17) u (hkc (show zK u (a0 + 125 + 17 * p1.toNatClampNeg) = 7 from (lyE_11 h_u.1 (h_u.g 0 rfl) (Nat.lt_of_not_le (fun h9 => hix1 (Or.inr h9)))).2) (hkc (show zK u (a0 + 17) = 7 from (lyK_11_6 h_u.1 (h_u.g 0 rfl))) (hk0 h_u.1)))) (fun r4 u5 e9 => h_u.fr (fr_X6_copyOf (P := PT) N (a0 + 125 + 17 * p1.toNatClampNeg) (a0 + 17) u clPT trivial trivial _ _ e9).1) (fun r4 u5 h_u5 => ?_)
      refine eq_g (show zK u5 a0 = 11 from (h_u5.g 0 rfl)) ?_
      refine eq_bR (show zR u5 a0 7 = some (a0 + 34) from lyR_11_7 h_u5.1 (h_u5.g 0 rfl)) ?_
      refine eq_g (show zK u5 (a0 + 34) = 27 from (lyK_11_7 h_u5.1 (h_u5.g 0 rfl))) ?_
      refine eq_ixh (show zN u5 (a0 + 34) = 4 from lyN_11_7 h_u5.1 (h_u5.g 0 rfl)) (fun hix2 => ?_)
      refine eq_bR (show zR u5 (a0 + 34) p1.toNatClampNeg = some (a0 + 125 + 17 * p1.toNatClampNeg) from (lyE_11 h_u5.1 (h_u5.g 0 rfl) (Nat.lt_of_not_le (fun h9 => hix2 (Or.inr h9)))).1) ?_
      refine eq_g (show zK u5 (a0 + 125 + 17 * p1.toNatClampNeg) = 7 from (lyE_11 h_u5.1 (h_u5.g 0 rfl) (Nat.lt_of_not_le (fun h9 => hix2 (Or.inr h9)))).2) ?_
      refine eq_if ?_ ?_
      · refine eq_sH (h_u5.fr (P := PT) (Fr.sIr trivial)) (fun u8 h_u8 => ?_)
        refine eq_g (show zK u8 a0 = 11 from (h_u8.g 0 rfl)) ?_
        refine eq_bR (show zR u8 a0 6 = some (a0 + 17) from lyR_11_6 h_u8.1 (h_u8.g 0 rfl)) ?_
        refine eq_g (show zK u8 (a0 + 17) = 7 from (lyK_11_6 h_u8.1 (h_u8.g 0 rfl))) ?_
        refine eq_bR (show zR u8 (a0 + 17) 1 = some (a0 + 25) from lyR_7_1 h_u8.1 (lyK_11_6 h_u8.1 (h_u8.g 0 rfl))) ?_
        refine eq_g (show zK u8 (a0 + 25) = 3 from (lyK_7_1 h_u8.1 (lyK_11_6 h_u8.1 (h_u8.g 0 rfl)))) ?_
        rfl
      · rfl
    · rfl
set_option maxRecDepth 20000 in
def hX10_back (N : Nat)  (a0 : Nat) (p1 : Int32) (u : SG) : Option (Int32 × SG) := if p1 < 0 then (some ((-1 : Int32), u))
  else (if (4 : Int32) ≤ p1 then (some ((-1 : Int32), u))
  else (if p1 < 0 ∨ 4 ≤ p1.toNatClampNeg then none else (if (zI u (a0 + 125 + 17 * p1.toNatClampNeg) 5) = 0 then (some ((-1 : Int32), u))
  else (if p1 < 0 ∨ 4 ≤ p1.toNatClampNeg then none else (cl (hX6_copyOf N (a0 + 17) (a0 + 125 + 17 * p1.toNatClampNeg) u) fun r6 u7 => (cl (hX0_clear N (a0 + 35) u7) fun r9 u10 => (some (zI u10 (a0 + 25) 1, u10))))))))
set_option maxRecDepth 20000 in
theorem eX10_back (N : Nat)  (a0 : Nat) (p1 : Int32) (u : SG) (h_u : HK [(some a0, 11)] u) : fX10_back N  a0 p1 u = hX10_back N  a0 p1 u := by
  unfold fX10_back hX10_back
  refine eq_if ?_ ?_
  · rfl
  · refine eq_if ?_ ?_
    · rfl
    · refine eq_g (show zK u a0 = 11 from (h_u.g 0 rfl)) ?_
      refine eq_bR (show zR u a0 7 = some (a0 + 34) from lyR_11_7 h_u.1 (h_u.g 0 rfl)) ?_
      refine eq_g (show zK u (a0 + 34) = 27 from (lyK_11_7 h_u.1 (h_u.g 0 rfl))) ?_
      refine eq_ixh (show zN u (a0 + 34) = 4 from lyN_11_7 h_u.1 (h_u.g 0 rfl)) (fun hix1 => ?_)
      refine eq_bR (show zR u (a0 + 34) p1.toNatClampNeg = some (a0 + 125 + 17 * p1.toNatClampNeg) from (lyE_11 h_u.1 (h_u.g 0 rfl) (Nat.lt_of_not_le (fun h9 => hix1 (Or.inr h9)))).1) ?_
      refine eq_g (show zK u (a0 + 125 + 17 * p1.toNatClampNeg) = 7 from (lyE_11 h_u.1 (h_u.g 0 rfl) (Nat.lt_of_not_le (fun h9 => hix1 (Or.inr h9)))).2) ?_
      refine eq_if ?_ ?_
      · rfl
      · refine eq_g (show zK u a0 = 11 from (h_u.g 0 rfl)) ?_
        refine eq_bR (show zR u a0 6 = some (a0 + 17) from lyR_11_6 h_u.1 (h_u.g 0 rfl)) ?_
        refine eq_g (show zK u a0 = 11 from (h_u.g 0 rfl)) ?_
        refine eq_bR (show zR u a0 7 = some (a0 + 34) from lyR_11_7 h_u.1 (h_u.g 0 rfl)) ?_
        refine eq_g (show zK u (a0 + 34) = 27 from (lyK_11_7 h_u.1 (h_u.g 0 rfl))) ?_
        refine eq_ixh (show zN u (a0 + 34) = 4 from lyN_11_7 h_u.1 (h_u.g 0 rfl)) (fun hix2 => ?_)
        refine eq_bR (show zR u (a0 + 34) p1.toNatClampNeg = some (a0 + 125 + 17 * p1.toNatClampNeg) from (lyE_11 h_u.1 (h_u.g 0 rfl) (Nat.lt_of_not_le (fun h9 => hix2 (Or.inr h9)))).1) ?_
        refine eq_g (show zK u (a0 + 17) = 7 from (lyK_11_6 h_u.1 (h_u.g 0 rfl))) ?_
        refine eq_cH (eX6_copyOf N (a0 + 17) (a0 + 125 + 17 * p1.toNatClampNeg) u (hkc (show zK u (a0 + 17) = 7 from (lyK_11_6 h_u.1 (h_u.g 0 rfl))) (hkc (show zK u (a0 + 125 + 17 * p1.toNatClampNeg) = 7 from (lyE_11 h_u.1 (h_u.g 0 rfl) (Nat.lt_of_not_le (fun h9 => hix2 (Or.inr h9)))).2) (hk0 h_u.1)))) (fun r6 u7 e9 => h_u.fr (fr_X6_copyOf (P := PT) N (a0 + 17) (a0 + 125 + 17 * p1.toNatClampNeg) u clPT trivial trivial _ _ e9).1) (fun r6 u7 h_u7 => ?_)
        refine eq_g (show zK u7 a0 = 11 from (h_u7.g 0 rfl)) ?_
        refine eq_bR (show zR u7 a0 8 = some (a0 + 35) from lyR_11_8 h_u7.1 (h_u7.g 0 rfl)) ?_
        refine eq_g (show zK u7 (a0 + 35) = 1 from (lyK_11_8 h_u7.1 (h_u7.g 0 rfl))) ?_
        refine eq_cH (eX0_clear N (a0 + 35) u7 (hkc (show zK u7 (a0 + 35) = 1 from (lyK_11_8 h_u7.1 (h_u7.g 0 rfl))) (hk0 h_u7.1))) (fun r9 u10 e9 => h_u7.fr (fr_X0_clear (P := PT) N (a0 + 35) u7 clPT trivial _ _ e9).1) (fun r9 u10 h_u10 => ?_)
        refine eq_g (show zK u10 a0 = 11 from (h_u10.g 0 rfl)) ?_
        refine eq_bR (show zR u10 a0 6 = some (a0 + 17) from lyR_11_6 h_u10.1 (h_u10.g 0 rfl)) ?_
        refine eq_g (show zK u10 (a0 + 17) = 7 from (lyK_11_6 h_u10.1 (h_u10.g 0 rfl))) ?_
        refine eq_bR (show zR u10 (a0 + 17) 1 = some (a0 + 25) from lyR_7_1 h_u10.1 (lyK_11_6 h_u10.1 (h_u10.g 0 rfl))) ?_
        refine eq_g (show zK u10 (a0 + 25) = 3 from (lyK_7_1 h_u10.1 (lyK_11_6 h_u10.1 (h_u10.g 0 rfl)))) ?_
        rfl
