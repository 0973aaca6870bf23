/-! THE START: what lies there -/
def Bk (u : SG) (b : Nat) (T : List CE) : Prop := ∀ i c, T[i]? = some c → cel u (b + i) = c
section BK
variable {u : SG} {b i n : Nat} {S T : List CE} {c : CE}
theorem Bk.K (h : Bk u b T) (hi : T[i]? = some c) : zK u (b + i) = c.1 := congrArg (·.1) (h i c hi)
theorem Bk.N (h : Bk u b T) (hi : T[i]? = some c) : zN u (b + i) = c.2.1 := congrArg (·.2.1) (h i c hi)
theorem Bk.R (h : Bk u b T) (hi : T[i]? = some c) (j : Nat) : zR u (b + i) j = c.2.2.2.2 j := congrArg (fun q : CE => q.2.2.2.2 j) (h i c hi)
theorem Bk.I (h : Bk u b T) (hi : T[i]? = some c) (j : Nat) : zI u (b + i) j = c.2.2.1 j := congrArg (fun q : CE => q.2.2.1 j) (h i c hi)
theorem Bk.L (h : Bk u b T) (hi : T[i]? = some c) (j : Nat) : zL u (b + i) j = c.2.2.2.1 j := congrArg (fun q : CE => q.2.2.2.1 j) (h i c hi)
theorem Bk.l (h : Bk u b (S ++ T)) : Bk u b S := fun i c hi => h i c (by rw [List.getElem?_append_left (List.getElem?_eq_some_iff.mp hi).1]; exact hi)
theorem Bk.r (h : Bk u b (S ++ T)) (hn : S.length = n) : Bk u (b + n) T := fun i c hi => by
  have := h (n + i) c (by rw [List.getElem?_append_right (by omega), hn, show n + i - n = i by omega]; exact hi)
  rw [← Nat.add_assoc] at this
  exact this
theorem Bk.hd (h : Bk u b (c :: T)) : Bk u b [c] := fun i d hi => by
  have il := (List.getElem?_eq_some_iff.mp hi).1
  have : i = 0 := by simp at il; omega
  subst this
  exact h 0 d hi
theorem Bk.tl (h : Bk u b (c :: T)) : Bk u (b + 1) T := fun i d hi => by
  have := h (i + 1) d hi
  rw [show b + (i + 1) = b + 1 + i by omega] at this
  exact this
theorem lk2 (h : Bk u b (tX1 b)) : LK2 u b := ⟨h.R (i := 0) rfl 0, h.K (i := 1) rfl, h.N (i := 1) rfl, h.R (i := 0) rfl 1, h.K (i := 2) rfl, h.N (i := 2) rfl, h.R (i := 0) rfl 2, h.K (i := 3) rfl, h.N (i := 3) rfl, h.R (i := 0) rfl 3, h.K (i := 4) rfl, h.N (i := 4) rfl⟩
theorem lk3 (h : Bk u b (tX2 b)) : LK3 u b := ⟨h.R (i := 0) rfl 5, h.K (i := 1) rfl, h.N (i := 1) rfl, h.R (i := 0) rfl 6, h.K (i := 2) rfl, h.N (i := 2) rfl, h.R (i := 0) rfl 7, h.K (i := 3) rfl, h.N (i := 3) rfl⟩
theorem lk4 (h : Bk u b (tX3 b)) : LK4 u b := ⟨h.R (i := 0) rfl 0, h.K (i := 1) rfl, h.N (i := 1) rfl⟩
theorem lk8 (h : Bk u b (tX7 b)) : LK8 u b := ⟨h.R (i := 0) rfl 0, h.K (i := 1) rfl, h.N (i := 1) rfl, h.R (i := 0) rfl 1, h.K (i := 2) rfl, h.N (i := 2) rfl, h.R (i := 0) rfl 2, h.K (i := 3) rfl, h.N (i := 3) rfl, h.R (i := 0) rfl 3, h.K (i := 4) rfl, h.N (i := 4) rfl, h.R (i := 0) rfl 4, h.K (i := 5) rfl, h.N (i := 5) rfl, h.R (i := 0) rfl 5, h.K (i := 6) rfl, h.N (i := 6) rfl⟩
theorem lk10 (h : Bk u b (tX9 b)) : LK10 u b := ⟨h.R (i := 0) rfl 0, h.K (i := 1) rfl, h.N (i := 1) rfl, h.R (i := 0) rfl 3, h.K (i := 2) rfl, h.N (i := 2) rfl, h.R (i := 0) rfl 4, h.K (i := 3) rfl, h.N (i := 3) rfl, h.R (i := 0) rfl 5, h.K (i := 4) rfl, h.N (i := 4) rfl⟩
theorem lk12 (h : Bk u b (tX11 b)) : LK12 u b := ⟨h.R (i := 0) rfl 0, h.K (i := 1) rfl, h.N (i := 1) rfl, h.R (i := 0) rfl 3, h.K (i := 2) rfl, h.N (i := 2) rfl, h.R (i := 0) rfl 4, h.K (i := 3) rfl, h.N (i := 3) rfl, h.R (i := 0) rfl 5, h.K (i := 4) rfl, h.N (i := 4) rfl, h.R (i := 0) rfl 6, h.K (i := 5) rfl, h.N (i := 5) rfl, h.R (i := 0) rfl 7, h.K (i := 6) rfl, h.N (i := 6) rfl, h.R (i := 0) rfl 15, h.K (i := 7) rfl, h.N (i := 7) rfl, h.R (i := 0) rfl 17, h.K (i := 8) rfl, h.N (i := 8) rfl, h.R (i := 0) rfl 19, h.K (i := 9) rfl, h.N (i := 9) rfl, h.R (i := 0) rfl 20, h.K (i := 10) rfl, h.N (i := 10) rfl, h.R (i := 0) rfl 23, h.K (i := 11) rfl, h.N (i := 11) rfl, h.R (i := 0) rfl 24, h.K (i := 12) rfl, h.N (i := 12) rfl, h.R (i := 0) rfl 26, h.K (i := 13) rfl, h.N (i := 13) rfl, h.R (i := 0) rfl 29, h.K (i := 14) rfl, h.N (i := 14) rfl, h.R (i := 0) rfl 30, h.K (i := 15) rfl, h.N (i := 15) rfl, h.R (i := 0) rfl 32, h.K (i := 16) rfl, h.N (i := 16) rfl, h.R (i := 0) rfl 33, h.K (i := 17) rfl, h.N (i := 17) rfl, h.R (i := 0) rfl 34, h.K (i := 18) rfl, h.N (i := 18) rfl, h.R (i := 0) rfl 35, h.K (i := 19) rfl, h.N (i := 19) rfl⟩
theorem lk7 (h : Bk u b (tX6 b)) : LK7 u b := ⟨h.R (i := 0) rfl 0, h.K (i := 1) rfl, h.R (i := 0) rfl 1, h.K (i := 8) rfl, h.R (i := 0) rfl 2, h.K (i := 12) rfl⟩
theorem sc7 (h : Bk u b (tX6 b)) : Bk u (b + 1) (tX7 (b + 1)) ∧ Bk u (b + 8) (tX2 (b + 8)) ∧ Bk u (b + 12) (tX1 (b + 12)) := ⟨(h.l.l).r rfl, (h.l).r rfl, h.r rfl⟩
end BK
def tAll (z : Nat) : List CE := tX10 z ++ tX11 (z + 193)
def KL : List Nat := [11, 10, 21, 22, 22, 22, 9, 6, 22, 8, 22, 22, 22, 22, 22, 22, 26, 7, 8, 22, 22, 22, 22, 22, 22, 3, 22, 22, 23, 2, 22, 22, 22, 22, 27, 1, 25, 3, 22, 22, 23, 3, 22, 22, 23, 3, 22, 22, 23, 3, 22, 22, 23, 3, 22, 22, 23, 3, 22, 22, 23, 3, 22, 22, 23, 3, 22, 22, 23, 3, 22, 22, 23, 3, 22, 22, 23, 3, 22, 22, 23, 3, 22, 22, 23, 3, 22, 22, 23, 3, 22, 22, 23, 3, 22, 22, 23, 3, 22, 22, 23, 3, 22, 22, 23, 3, 22, 22, 23, 3, 22, 22, 23, 3, 22, 22, 23, 4, 23, 3, 22, 22, 23, 22, 22, 7, 8, 22, 22, 22, 22, 22, 22, 3, 22, 22, 23, 2, 22, 22, 22, 22, 7, 8, 22, 22, 22, 22, 22, 22, 3, 22, 22, 23, 2, 22, 22, 22, 22, 7, 8, 22, 22, 22, 22, 22, 22, 3, 22, 22, 23, 2, 22, 22, 22, 22, 7, 8, 22, 22, 22, 22, 22, 22, 3, 22, 22, 23, 2, 22, 22, 22, 22, 12, 21, 22, 22, 22, 22, 22, 22, 23, 23, 22, 22, 22, 22, 22, 22, 22, 22, 22, 24]
set_option maxRecDepth 20000 in
theorem KL_ok (z : Nat) : (tAll z).map (·.1) = KL := by
  have m1 : ∀ b, (tX1 b).map (·.1) = [2, 22, 22, 22, 22] := fun b => rfl
  have m2 : ∀ b, (tX2 b).map (·.1) = [3, 22, 22, 23] := fun b => rfl
  have m3 : ∀ b, (tX3 b).map (·.1) = [4, 23] := fun b => rfl
  have m5 : ∀ p b, (tX5 p b).map (·.1) = [6, 22] := fun p b => rfl
  have m6 : ∀ b, (tX6 b).map (·.1) = [7, 8, 22, 22, 22, 22, 22, 22, 3, 22, 22, 23, 2, 22, 22, 22, 22] := fun b => rfl
  have m7 : ∀ b, (tX7 b).map (·.1) = [8, 22, 22, 22, 22, 22, 22] := fun b => rfl
  have m9 : ∀ b, (tX9 b).map (·.1) = [10, 21, 22, 22, 22] := fun b => rfl
  have m11 : ∀ b, (tX11 b).map (·.1) = [12, 21, 22, 22, 22, 22, 22, 22, 23, 23, 22, 22, 22, 22, 22, 22, 22, 22, 22, 24] := fun b => rfl
  have n1 : ∀ k n, (nc k n).1 = k := fun k n => rfl
  have n2 : ∀ c j v, (ceR c j v).1 = c.1 := fun c j v => rfl
  have mc : (x10c z).1 = 11 := rfl
  have md : (x10d z).1 = 27 := rfl
  unfold tAll tX10 x10a x10b tX0 KL
  simp only [List.map_append, List.map_cons, List.map_nil, m1, m2, m3, m5, m6, m7, m9, m11, n1, n2, mc, md, List.cons_append, List.nil_append]
def Bs (u : SG) (z : Nat) : Prop := Bk u z [x10c z] ∧ Bk u (z + 1) (tX9 (z + 1)) ∧ Bk u (z + 6) [ceR (nc 9 0) 0 (some (z + 1))] ∧ Bk u (z + 7) (tX5 (z + 1) (z + 7)) ∧ Bk u (z + 9) (tX7 (z + 9)) ∧ Bk u (z + 16) [nc 26 6] ∧ Bk u (z + 17) (tX6 (z + 17)) ∧ Bk u (z + 34) [x10d z] ∧ Bk u (z + 35) (tX0 (z + 35)) ∧ Bk u (z + 117) (tX3 (z + 117)) ∧ Bk u (z + 119) (tX2 (z + 119)) ∧ Bk u (z + 123) [nc 22 10] ∧ Bk u (z + 124) [nc 22 11] ∧ Bk u (z + 125) (tX6 (z + 125)) ∧ Bk u (z + 142) (tX6 (z + 142)) ∧ Bk u (z + 159) (tX6 (z + 159)) ∧ Bk u (z + 176) (tX6 (z + 176)) ∧ Bk u (z + 193) (tX11 (z + 193))
theorem Bs.b0 {u : SG} {z : Nat} (s : Bs u z) : Bk u z [x10c z] := s.1
theorem Bs.b1 {u : SG} {z : Nat} (s : Bs u z) : Bk u (z + 1) (tX9 (z + 1)) := s.2.1
theorem Bs.b6 {u : SG} {z : Nat} (s : Bs u z) : Bk u (z + 6) [ceR (nc 9 0) 0 (some (z + 1))] := s.2.2.1
theorem Bs.b7 {u : SG} {z : Nat} (s : Bs u z) : Bk u (z + 7) (tX5 (z + 1) (z + 7)) := s.2.2.2.1
theorem Bs.b9 {u : SG} {z : Nat} (s : Bs u z) : Bk u (z + 9) (tX7 (z + 9)) := s.2.2.2.2.1
theorem Bs.b16 {u : SG} {z : Nat} (s : Bs u z) : Bk u (z + 16) [nc 26 6] := s.2.2.2.2.2.1
theorem Bs.b17 {u : SG} {z : Nat} (s : Bs u z) : Bk u (z + 17) (tX6 (z + 17)) := s.2.2.2.2.2.2.1
theorem Bs.b34 {u : SG} {z : Nat} (s : Bs u z) : Bk u (z + 34) [x10d z] := s.2.2.2.2.2.2.2.1
theorem Bs.b35 {u : SG} {z : Nat} (s : Bs u z) : Bk u (z + 35) (tX0 (z + 35)) := s.2.2.2.2.2.2.2.2.1
theorem Bs.b117 {u : SG} {z : Nat} (s : Bs u z) : Bk u (z + 117) (tX3 (z + 117)) := s.2.2.2.2.2.2.2.2.2.1
theorem Bs.b119 {u : SG} {z : Nat} (s : Bs u z) : Bk u (z + 119) (tX2 (z + 119)) := s.2.2.2.2.2.2.2.2.2.2.1
theorem Bs.b123 {u : SG} {z : Nat} (s : Bs u z) : Bk u (z + 123) [nc 22 10] := s.2.2.2.2.2.2.2.2.2.2.2.1
theorem Bs.b124 {u : SG} {z : Nat} (s : Bs u z) : Bk u (z + 124) [nc 22 11] := s.2.2.2.2.2.2.2.2.2.2.2.2.1
theorem Bs.b125 {u : SG} {z : Nat} (s : Bs u z) : Bk u (z + 125) (tX6 (z + 125)) := s.2.2.2.2.2.2.2.2.2.2.2.2.2.1
theorem Bs.b142 {u : SG} {z : Nat} (s : Bs u z) : Bk u (z + 142) (tX6 (z + 142)) := s.2.2.2.2.2.2.2.2.2.2.2.2.2.2.1
theorem Bs.b159 {u : SG} {z : Nat} (s : Bs u z) : Bk u (z + 159) (tX6 (z + 159)) := s.2.2.2.2.2.2.2.2.2.2.2.2.2.2.2.1
theorem Bs.b176 {u : SG} {z : Nat} (s : Bs u z) : Bk u (z + 176) (tX6 (z + 176)) := s.2.2.2.2.2.2.2.2.2.2.2.2.2.2.2.2.1
theorem Bs.b193 {u : SG} {z : Nat} (s : Bs u z) : Bk u (z + 193) (tX11 (z + 193)) := s.2.2.2.2.2.2.2.2.2.2.2.2.2.2.2.2.2
section START
variable {u : SG} {z : Nat}
theorem bs_of (h : Bk u z (tAll z)) : Bs u z := by
  have h10 : Bk u z (tX10 z) := h.l
  have h11 := h.r (tX10_len z)
  have ht : Bk u (z + 1) (x10a z ++ x10d z :: ((((x10b z ++ tX6 (z + (35 + 90))) ++ tX6 (z + (35 + 107))) ++ tX6 (z + (35 + 124))) ++ tX6 (z + (35 + 141)))) := h10.tl
  have ha : Bk u (z + 1) (x10a z) := ht.l
  have hr : Bk u (z + 34) (x10d z :: ((((x10b z ++ tX6 (z + (35 + 90))) ++ tX6 (z + (35 + 107))) ++ tX6 (z + (35 + 124))) ++ tX6 (z + (35 + 141)))) := ht.r (x10a_len z)
  have hq : Bk u (z + 35) ((((x10b z ++ tX6 (z + (35 + 90))) ++ tX6 (z + (35 + 107))) ++ tX6 (z + (35 + 124))) ++ tX6 (z + (35 + 141))) := hr.tl
  have l6 : ∀ b, (tX6 b).length = 17 := fun b => rfl
  have e1 := x10b_len z
  have e2 := len_app e1 (l6 (z + (35 + 90)))
  have e3 := len_app e2 (l6 (z + (35 + 107)))
  have e4 := len_app e3 (l6 (z + (35 + 124)))
  have hb : Bk u (z + 35) (x10b z) := hq.l.l.l.l
  have c1 := tX0_len (z + (1 + 34))
  have c2 := len_app c1 (show (tX3 (z + (1 + 116))).length = 2 from rfl)
  have c3 := len_app c2 (show (tX2 (z + (1 + 118))).length = 4 from rfl)
  have c4 := len_app c3 (show [nc 22 10].length = 1 from rfl)
  have hb : Bk u (z + 35) (tX0 (z + (1 + 34)) ++ tX3 (z + (1 + 116)) ++ tX2 (z + (1 + 118)) ++ [nc 22 10] ++ [nc 22 11]) := hb
  have ha : Bk u (z + 1) ((((([] ++ tX9 (z + (1 + 0))) ++ [ceR (nc 9 0) 0 (some (z + 1))]) ++ tX5 (z + 1) (z + (1 + 6))) ++ tX7 (z + (1 + 8))) ++ [nc 26 6] ++ tX6 (z + (1 + 16))) := ha
  exact ⟨h10.hd, ha.l.l.l.l.l, ha.l.l.l.l.r (n := 5) rfl, ha.l.l.l.r (n := 6) rfl, ha.l.l.r (n := 8) rfl, ha.l.r (n := 15) rfl, ha.r (n := 16) rfl, hr.hd, hb.l.l.l.l, hb.l.l.l.r c1, hb.l.l.r c2, hb.l.r c3, hb.r c4, hq.l.l.l.r e1, hq.l.l.r e2, hq.l.r e3, hq.r e4, h11⟩
theorem b0_acts (b : Nat) (h : Bk u b (tX0 b)) : (∀ i, i < 20 → Bk u (b + 2 + 4 * i) (tX2 (b + 2 + 4 * i))) ∧ zR u b 0 = some (b + 1) ∧ zK u (b + 1) = 25 ∧ zN u (b + 1) = 20 ∧ (∀ i, i < 20 → zR u (b + 1) i = some (b + 2 + 4 * i)) ∧ (∀ j, zI u b j = 0) := by
  have t2 : Bk u (b + 2) (((((((((((((((((((([] ++ tX2 (b + 2)) ++ tX2 (b + 6)) ++ tX2 (b + 10)) ++ tX2 (b + 14)) ++ tX2 (b + 18)) ++ tX2 (b + 22)) ++ tX2 (b + 26)) ++ tX2 (b + 30)) ++ tX2 (b + 34)) ++ tX2 (b + 38)) ++ tX2 (b + 42)) ++ tX2 (b + 46)) ++ tX2 (b + 50)) ++ tX2 (b + 54)) ++ tX2 (b + 58)) ++ tX2 (b + 62)) ++ tX2 (b + 66)) ++ tX2 (b + 70)) ++ tX2 (b + 74)) ++ tX2 (b + 78)) := h.tl.tl
  have c0 := h.hd
  have c1 := h.tl.hd
  have l2 : ∀ c, (tX2 c).length = 4 := fun c => rfl
  have n0 : ([] : List CE).length = 0 := rfl
  have n1 := len_app n0 (l2 (b + 2))
  have n2 := len_app n1 (l2 (b + 6))
  have n3 := len_app n2 (l2 (b + 10))
  have n4 := len_app n3 (l2 (b + 14))
  have n5 := len_app n4 (l2 (b + 18))
  have n6 := len_app n5 (l2 (b + 22))
  have n7 := len_app n6 (l2 (b + 26))
  have n8 := len_app n7 (l2 (b + 30))
  have n9 := len_app n8 (l2 (b + 34))
  have n10 := len_app n9 (l2 (b + 38))
  have n11 := len_app n10 (l2 (b + 42))
  have n12 := len_app n11 (l2 (b + 46))
  have n13 := len_app n12 (l2 (b + 50))
  have n14 := len_app n13 (l2 (b + 54))
  have n15 := len_app n14 (l2 (b + 58))
  have n16 := len_app n15 (l2 (b + 62))
  have n17 := len_app n16 (l2 (b + 66))
  have n18 := len_app n17 (l2 (b + 70))
  have n19 := len_app n18 (l2 (b + 74))
  refine ⟨fun i hi => ?_, c0.R (i := 0) rfl 0, c1.K (i := 0) rfl, c1.N (i := 0) rfl, fun i hi => ?_, fun j => c0.I (i := 0) rfl j⟩
  · rcases (by omega : i = 0 ∨ i = 1 ∨ i = 2 ∨ i = 3 ∨ i = 4 ∨ i = 5 ∨ i = 6 ∨ i = 7 ∨ i = 8 ∨ i = 9 ∨ i = 10 ∨ i = 11 ∨ i = 12 ∨ i = 13 ∨ i = 14 ∨ i = 15 ∨ i = 16 ∨ i = 17 ∨ i = 18 ∨ i = 19) with rfl | rfl | rfl | rfl | rfl | rfl | rfl | rfl | rfl | rfl | rfl | rfl | rfl | rfl | rfl | rfl | rfl | rfl | rfl | rfl
    · exact t2.l.l.l.l.l.l.l.l.l.l.l.l.l.l.l.l.l.l.l.r n0
    · exact t2.l.l.l.l.l.l.l.l.l.l.l.l.l.l.l.l.l.l.r n1
    · exact t2.l.l.l.l.l.l.l.l.l.l.l.l.l.l.l.l.l.r n2
    · exact t2.l.l.l.l.l.l.l.l.l.l.l.l.l.l.l.l.r n3
    · exact t2.l.l.l.l.l.l.l.l.l.l.l.l.l.l.l.r n4
    · exact t2.l.l.l.l.l.l.l.l.l.l.l.l.l.l.r n5
    · exact t2.l.l.l.l.l.l.l.l.l.l.l.l.l.r n6
    · exact t2.l.l.l.l.l.l.l.l.l.l.l.l.r n7
    · exact t2.l.l.l.l.l.l.l.l.l.l.l.r n8
    · exact t2.l.l.l.l.l.l.l.l.l.l.r n9
    · exact t2.l.l.l.l.l.l.l.l.l.r n10
    · exact t2.l.l.l.l.l.l.l.l.r n11
    · exact t2.l.l.l.l.l.l.l.r n12
    · exact t2.l.l.l.l.l.l.r n13
    · exact t2.l.l.l.l.l.r n14
    · exact t2.l.l.l.l.r n15
    · exact t2.l.l.l.r n16
    · exact t2.l.l.r n17
    · exact t2.l.r n18
    · exact t2.r n19
  · rcases (by omega : i = 0 ∨ i = 1 ∨ i = 2 ∨ i = 3 ∨ i = 4 ∨ i = 5 ∨ i = 6 ∨ i = 7 ∨ i = 8 ∨ i = 9 ∨ i = 10 ∨ i = 11 ∨ i = 12 ∨ i = 13 ∨ i = 14 ∨ i = 15 ∨ i = 16 ∨ i = 17 ∨ i = 18 ∨ i = 19) with rfl | rfl | rfl | rfl | rfl | rfl | rfl | rfl | rfl | rfl | rfl | rfl | rfl | rfl | rfl | rfl | rfl | rfl | rfl | rfl
    · exact c1.R (i := 0) rfl 0
    · exact c1.R (i := 0) rfl 1
    · exact c1.R (i := 0) rfl 2
    · exact c1.R (i := 0) rfl 3
    · exact c1.R (i := 0) rfl 4
    · exact c1.R (i := 0) rfl 5
    · exact c1.R (i := 0) rfl 6
    · exact c1.R (i := 0) rfl 7
    · exact c1.R (i := 0) rfl 8
    · exact c1.R (i := 0) rfl 9
    · exact c1.R (i := 0) rfl 10
    · exact c1.R (i := 0) rfl 11
    · exact c1.R (i := 0) rfl 12
    · exact c1.R (i := 0) rfl 13
    · exact c1.R (i := 0) rfl 14
    · exact c1.R (i := 0) rfl 15
    · exact c1.R (i := 0) rfl 16
    · exact c1.R (i := 0) rfl 17
    · exact c1.R (i := 0) rfl 18
    · exact c1.R (i := 0) rfl 19
theorem lb_1 (s : Bs u z) : LK10 u (z + 1) := lk10 s.b1
theorem lb_6 (s : Bs u z) : LK9 u (z + 6) := ⟨s.b6.R (i := 0) rfl 0, s.b1.K (i := 0) rfl⟩
theorem lb_7 (s : Bs u z) : LK6 u (z + 7) := ⟨s.b7.R (i := 0) rfl 0, s.b1.K (i := 0) rfl, s.b7.R (i := 0) rfl 1, s.b7.K (i := 1) rfl, s.b7.N (i := 1) rfl⟩
theorem lb_9 (s : Bs u z) : LK8 u (z + 9) := lk8 s.b9
theorem lb_17 (s : Bs u z) : LK7 u (z + 17) := lk7 s.b17
theorem lb_18 (s : Bs u z) : LK8 u (z + 18) := lk8 (sc7 s.b17).1
theorem lb_25 (s : Bs u z) : LK3 u (z + 25) := lk3 (sc7 s.b17).2.1
theorem lb_29 (s : Bs u z) : LK2 u (z + 29) := lk2 (sc7 s.b17).2.2
theorem lb_125 (s : Bs u z) : LK7 u (z + 125) := lk7 s.b125
theorem lb_126 (s : Bs u z) : LK8 u (z + 126) := lk8 (sc7 s.b125).1
theorem lb_133 (s : Bs u z) : LK3 u (z + 133) := lk3 (sc7 s.b125).2.1
theorem lb_137 (s : Bs u z) : LK2 u (z + 137) := lk2 (sc7 s.b125).2.2
theorem lb_142 (s : Bs u z) : LK7 u (z + 142) := lk7 s.b142
theorem lb_143 (s : Bs u z) : LK8 u (z + 143) := lk8 (sc7 s.b142).1
theorem lb_150 (s : Bs u z) : LK3 u (z + 150) := lk3 (sc7 s.b142).2.1
theorem lb_154 (s : Bs u z) : LK2 u (z + 154) := lk2 (sc7 s.b142).2.2
theorem lb_159 (s : Bs u z) : LK7 u (z + 159) := lk7 s.b159
theorem lb_160 (s : Bs u z) : LK8 u (z + 160) := lk8 (sc7 s.b159).1
theorem lb_167 (s : Bs u z) : LK3 u (z + 167) := lk3 (sc7 s.b159).2.1
theorem lb_171 (s : Bs u z) : LK2 u (z + 171) := lk2 (sc7 s.b159).2.2
theorem lb_176 (s : Bs u z) : LK7 u (z + 176) := lk7 s.b176
theorem lb_177 (s : Bs u z) : LK8 u (z + 177) := lk8 (sc7 s.b176).1
theorem lb_184 (s : Bs u z) : LK3 u (z + 184) := lk3 (sc7 s.b176).2.1
theorem lb_188 (s : Bs u z) : LK2 u (z + 188) := lk2 (sc7 s.b176).2.2
theorem lb_37 (s : Bs u z) : LK3 u (z + 37) := lk3 ((b0_acts _ s.b35).1 0 (by decide))
theorem lb_41 (s : Bs u z) : LK3 u (z + 41) := lk3 ((b0_acts _ s.b35).1 1 (by decide))
theorem lb_45 (s : Bs u z) : LK3 u (z + 45) := lk3 ((b0_acts _ s.b35).1 2 (by decide))
theorem lb_49 (s : Bs u z) : LK3 u (z + 49) := lk3 ((b0_acts _ s.b35).1 3 (by decide))
theorem lb_53 (s : Bs u z) : LK3 u (z + 53) := lk3 ((b0_acts _ s.b35).1 4 (by decide))
theorem lb_57 (s : Bs u z) : LK3 u (z + 57) := lk3 ((b0_acts _ s.b35).1 5 (by decide))
theorem lb_61 (s : Bs u z) : LK3 u (z + 61) := lk3 ((b0_acts _ s.b35).1 6 (by decide))
theorem lb_65 (s : Bs u z) : LK3 u (z + 65) := lk3 ((b0_acts _ s.b35).1 7 (by decide))
theorem lb_69 (s : Bs u z) : LK3 u (z + 69) := lk3 ((b0_acts _ s.b35).1 8 (by decide))
theorem lb_73 (s : Bs u z) : LK3 u (z + 73) := lk3 ((b0_acts _ s.b35).1 9 (by decide))
theorem lb_77 (s : Bs u z) : LK3 u (z + 77) := lk3 ((b0_acts _ s.b35).1 10 (by decide))
theorem lb_81 (s : Bs u z) : LK3 u (z + 81) := lk3 ((b0_acts _ s.b35).1 11 (by decide))
theorem lb_85 (s : Bs u z) : LK3 u (z + 85) := lk3 ((b0_acts _ s.b35).1 12 (by decide))
theorem lb_89 (s : Bs u z) : LK3 u (z + 89) := lk3 ((b0_acts _ s.b35).1 13 (by decide))
theorem lb_93 (s : Bs u z) : LK3 u (z + 93) := lk3 ((b0_acts _ s.b35).1 14 (by decide))
theorem lb_97 (s : Bs u z) : LK3 u (z + 97) := lk3 ((b0_acts _ s.b35).1 15 (by decide))
theorem lb_101 (s : Bs u z) : LK3 u (z + 101) := lk3 ((b0_acts _ s.b35).1 16 (by decide))
theorem lb_105 (s : Bs u z) : LK3 u (z + 105) := lk3 ((b0_acts _ s.b35).1 17 (by decide))
theorem lb_109 (s : Bs u z) : LK3 u (z + 109) := lk3 ((b0_acts _ s.b35).1 18 (by decide))
theorem lb_113 (s : Bs u z) : LK3 u (z + 113) := lk3 ((b0_acts _ s.b35).1 19 (by decide))
theorem lb_117 (s : Bs u z) : LK4 u (z + 117) := lk4 s.b117
theorem lb_119 (s : Bs u z) : LK3 u (z + 119) := lk3 s.b119
theorem lb_193 (s : Bs u z) : LK12 u (z + 193) := lk12 s.b193
theorem lb_35 (s : Bs u z) : LK1 u (z + 35) := by
  obtain ⟨a1, a2, a3, a4, a5, a6⟩ := b0_acts _ s.b35
  exact ⟨a2, a3, a4, fun i hi => ⟨a5 i hi, (a1 i hi).K (i := 0) rfl⟩⟩
theorem lb_0 (s : Bs u z) : LK11 u z := by
  refine ⟨s.b0.R (i := 0) rfl 0, s.b1.K (i := 0) rfl, s.b0.R (i := 0) rfl 1, s.b6.K (i := 0) rfl, s.b0.R (i := 0) rfl 2, s.b7.K (i := 0) rfl, s.b0.R (i := 0) rfl 3, s.b9.K (i := 0) rfl, s.b0.R (i := 0) rfl 4, s.b16.K (i := 0) rfl, s.b16.N (i := 0) rfl, s.b0.R (i := 0) rfl 6, s.b17.K (i := 0) rfl, s.b0.R (i := 0) rfl 7, s.b34.K (i := 0) rfl, s.b34.N (i := 0) rfl, s.b0.R (i := 0) rfl 8, s.b35.hd.K (i := 0) rfl, s.b0.R (i := 0) rfl 9, s.b117.K (i := 0) rfl, s.b0.R (i := 0) rfl 10, s.b119.K (i := 0) rfl, s.b0.R (i := 0) rfl 11, s.b123.K (i := 0) rfl, s.b123.N (i := 0) rfl, s.b0.R (i := 0) rfl 12, s.b124.K (i := 0) rfl, s.b124.N (i := 0) rfl, ?_, ?_⟩
  · intro i hi
    rcases (by omega : i = 0 ∨ i = 1 ∨ i = 2 ∨ i = 3) with rfl | rfl | rfl | rfl
    · exact ⟨s.b34.R (i := 0) rfl 0, s.b125.K (i := 0) rfl⟩
    · exact ⟨s.b34.R (i := 0) rfl 1, s.b142.K (i := 0) rfl⟩
    · exact ⟨s.b34.R (i := 0) rfl 2, s.b159.K (i := 0) rfl⟩
    · exact ⟨s.b34.R (i := 0) rfl 3, s.b176.K (i := 0) rfl⟩
  · intro i q hq
    have e : zR u (z + 16) i = none := s.b16.R (i := 0) rfl i
    rw [e] at hq
    cases hq
theorem ly_start (h : Bk u z (tAll z)) (s : Bs u z) (h0 : ∀ b, b < z → zK u b = 0) (h1 : ∀ b, z + 213 ≤ b → zK u b = 0) : LY u := by
  have hK : ∀ i, i < 213 → zK u (z + i) = KL.getD i 0 := by
    intro i hi
    have hl : i < (tAll z).length := by
      have : (tAll z).length = KL.length := by rw [← KL_ok z, List.length_map]
      rw [this]
      exact hi
    have e1 : (tAll z)[i]? = some (tAll z)[i] := List.getElem?_eq_getElem hl
    have e2 : ((tAll z).map (·.1))[i]? = some (tAll z)[i].1 := by rw [List.getElem?_map, e1]; rfl
    rw [KL_ok] at e2
    rw [h.K e1, List.getD_eq_getElem?_getD, e2]
    rfl
  intro a
  by_cases q0 : a < z
  · have := h0 a q0
    exact ⟨fun h => absurd (h.symm.trans this) (by decide), fun h => absurd (h.symm.trans this) (by decide), fun h => absurd (h.symm.trans this) (by decide), fun h => absurd (h.symm.trans this) (by decide), fun h => absurd (h.symm.trans this) (by decide), fun h => absurd (h.symm.trans this) (by decide), fun h => absurd (h.symm.trans this) (by decide), fun h => absurd (h.symm.trans this) (by decide), fun h => absurd (h.symm.trans this) (by decide), fun h => absurd (h.symm.trans this) (by decide), fun h => absurd (h.symm.trans this) (by decide), fun h => absurd (h.symm.trans this) (by decide)⟩
  by_cases q1 : z + 213 ≤ a
  · have := h1 a q1
    exact ⟨fun h => absurd (h.symm.trans this) (by decide), fun h => absurd (h.symm.trans this) (by decide), fun h => absurd (h.symm.trans this) (by decide), fun h => absurd (h.symm.trans this) (by decide), fun h => absurd (h.symm.trans this) (by decide), fun h => absurd (h.symm.trans this) (by decide), fun h => absurd (h.symm.trans this) (by decide), fun h => absurd (h.symm.trans this) (by decide), fun h => absurd (h.symm.trans this) (by decide), fun h => absurd (h.symm.trans this) (by decide), fun h => absurd (h.symm.trans this) (by decide), fun h => absurd (h.symm.trans this) (by decide)⟩
  obtain ⟨i, rfl⟩ : ∃ i, a = z + i := ⟨a - z, by omega⟩
  have hi : i < 213 := by omega
  rw [hK i hi]
  refine ⟨fun e => ?_, fun e => ?_, fun e => ?_, fun e => ?_, fun e => ?_, fun e => ?_, fun e => ?_, fun e => ?_, fun e => ?_, fun e => ?_, fun e => ?_, fun e => ?_⟩
  · have key : ∀ i, i < 213 → KL.getD i 0 = 1 → i = 35 := by decide +kernel
    rw [key i hi e]
    exact lb_35 s
  · have key : ∀ i, i < 213 → KL.getD i 0 = 2 → i ∈ ([29, 137, 154, 171, 188] : List Nat) := by decide +kernel
    have mm := key i hi e
    simp only [List.mem_cons, List.not_mem_nil, or_false] at mm
    rcases mm with rfl | rfl | rfl | rfl | rfl
    · exact lb_29 s
    · exact lb_137 s
    · exact lb_154 s
    · exact lb_171 s
    · exact lb_188 s
  · have key : ∀ i, i < 213 → KL.getD i 0 = 3 → i ∈ ([25, 37, 41, 45, 49, 53, 57, 61, 65, 69, 73, 77, 81, 85, 89, 93, 97, 101, 105, 109, 113, 119, 133, 150, 167, 184] : List Nat) := by decide +kernel
    have mm := key i hi e
    simp only [List.mem_cons, List.not_mem_nil, or_false] at mm
    rcases mm with rfl | rfl | rfl | rfl | rfl | rfl | rfl | rfl | rfl | rfl | rfl | rfl | rfl | rfl | rfl | rfl | rfl | rfl | rfl | rfl | rfl | rfl | rfl | rfl | rfl | rfl
    · exact lb_25 s
    · exact lb_37 s
    · exact lb_41 s
    · exact lb_45 s
    · exact lb_49 s
    · exact lb_53 s
    · exact lb_57 s
    · exact lb_61 s
    · exact lb_65 s
    · exact lb_69 s
    · exact lb_73 s
    · exact lb_77 s
    · exact lb_81 s
    · exact lb_85 s
    · exact lb_89 s
    · exact lb_93 s
    · exact lb_97 s
    · exact lb_101 s
    · exact lb_105 s
    · exact lb_109 s
    · exact lb_113 s
    · exact lb_119 s
    · exact lb_133 s
    · exact lb_150 s
    · exact lb_167 s
    · exact lb_184 s
  · have key : ∀ i, i < 213 → KL.getD i 0 = 4 → i = 117 := by decide +kernel
    rw [key i hi e]
    exact lb_117 s
  · have key : ∀ i, i < 213 → ¬ KL.getD i 0 = 5 := by decide +kernel
    exact absurd e (key i hi)
  · have key : ∀ i, i < 213 → KL.getD i 0 = 6 → i = 7 := by decide +kernel
    rw [key i hi e]
    exact lb_7 s
  · have key : ∀ i, i < 213 → KL.getD i 0 = 7 → i ∈ ([17, 125, 142, 159, 176] : List Nat) := by decide +kernel
    have mm := key i hi e
    simp only [List.mem_cons, List.not_mem_nil, or_false] at mm
    rcases mm with rfl | rfl | rfl | rfl | rfl
    · exact lb_17 s
    · exact lb_125 s
    · exact lb_142 s
    · exact lb_159 s
    · exact lb_176 s
  · have key : ∀ i, i < 213 → KL.getD i 0 = 8 → i ∈ ([9, 18, 126, 143, 160, 177] : List Nat) := by decide +kernel
    have mm := key i hi e
    simp only [List.mem_cons, List.not_mem_nil, or_false] at mm
    rcases mm with rfl | rfl | rfl | rfl | rfl | rfl
    · exact lb_9 s
    · exact lb_18 s
    · exact lb_126 s
    · exact lb_143 s
    · exact lb_160 s
    · exact lb_177 s
  · have key : ∀ i, i < 213 → KL.getD i 0 = 9 → i = 6 := by decide +kernel
    rw [key i hi e]
    exact lb_6 s
  · have key : ∀ i, i < 213 → KL.getD i 0 = 10 → i = 1 := by decide +kernel
    rw [key i hi e]
    exact lb_1 s
  · have key : ∀ i, i < 213 → KL.getD i 0 = 11 → i = 0 := by decide +kernel
    rw [key i hi e]
    exact lb_0 s
  · have key : ∀ i, i < 213 → KL.getD i 0 = 12 → i = 193 := by decide +kernel
    rw [key i hi e]
    exact lb_193 s
def A0 : AT := (0, fun _ => 0, [], (fun _ => 0, M0, fun _ => 0, 0, none, 0), [], fun _ => none)
theorem aok_start : Aok 0 A0 := by
  have hA : Gb (fun _ => 0) := ⟨Nat.zero_le _, Nat.zero_le _, Nat.zero_le _, Nat.zero_le _, Nat.zero_le _, fun _ => ⟨rfl, rfl⟩, fun p hp => absurd hp (Nat.not_lt_zero _), fun k hk => absurd hk (Nat.not_lt_zero _), fun l hl => absurd hl (Nat.not_lt_zero _), fun k hk => absurd hk (Nat.not_lt_zero _)⟩
  exact ⟨Nat.zero_le _, fun k => by show 0 < 256; decide, Nat.zero_le _, fun R hR => absurd hR (by show ¬ R ∈ ([] : List RT); simp), ⟨hA, ⟨Or.inr ⟨rfl, rfl⟩, Nat.zero_le _, Nat.zero_le _, fun p hp => absurd hp (Nat.not_lt_zero _), fun l hl => Nat.zero_le _⟩, Nat.zero_le _, fun j hj => absurd hj (Nat.not_lt_zero _), fun t ht => (by cases ht), 0, by decide, rfl⟩, Nat.zero_le _, fun M hM => absurd hM (by show ¬ M ∈ ([] : List MT); simp), fun k S hk hS => (by cases hS)⟩
set_option maxRecDepth 20000 in
theorem inv_start (h : Bk u z (tAll z)) (h0 : ∀ b, b < z → zK u b = 0) (h1 : ∀ b, z + 213 ≤ b → zK u b = 0) (hs : u.1 = z + 213) : Inv u z A0 := by
  have s := bs_of h
  have s17 := sc7 s.b17
  have str : Str u (z + 18) (fun _ => 0) := ⟨s17.1.I (i := 0) rfl 6, s17.1.I (i := 0) rfl 7, s17.1.I (i := 0) rfl 8, s17.1.I (i := 0) rfl 9, s17.1.I (i := 0) rfl 10, fun p hp => absurd hp (Nat.not_lt_zero _), fun l hl => absurd hl (Nat.not_lt_zero _), fun t _ => ⟨s17.1.I (i := 5) rfl t, s17.1.I (i := 6) rfl t⟩⟩
  have mom : Mom u (z + 25) (fun _ => 0) M0 := ⟨s17.2.1.I (i := 0) rfl 0, s17.2.1.I (i := 0) rfl 1, s17.2.1.I (i := 0) rfl 2, s17.2.1.I (i := 0) rfl 3, s17.2.1.I (i := 0) rfl 4, fun p hp => absurd hp (Nat.not_lt_zero _), s17.2.1.L (i := 3) rfl 5⟩
  have f0 : ∀ k, zI u (z + 203) k = 0 := fun k => s.b193.I (i := 10) rfl k
  refine ⟨ly_start h s h0 h1, s.b0.K (i := 0) rfl, s.b193.K (i := 0) rfl, ?_, ?_, ⟨fun a ha => h1 a (by omega), fun t q hq => ?_⟩⟩
  · refine invC ⟨s.b1.I (i := 0) rfl 1, fun k hk => absurd hk (Nat.not_lt_zero _)⟩ ⟨s.b0.I (i := 0) rfl 5, fun t R hR => absurd hR (by show ¬ ([] : List RT)[t]? = some R; simp)⟩ ⟨str, mom, s17.2.2.I (i := 0) rfl 4, fun j hj => absurd hj (Nat.not_lt_zero _), s.b17.I (i := 0) rfl 3, s.b17.I (i := 0) rfl 4⟩ ⟨(b0_acts _ s.b35).2.2.2.2.2 2, 0, by decide, (b0_acts _ s.b35).2.2.2.2.2 1, fun j M hM => absurd hM (by show ¬ ([] : List MT)[j]? = some M; simp)⟩ (fun k hk => ⟨?_, fun S hS => (by cases hS)⟩)
    rcases (by omega : k = 0 ∨ k = 1 ∨ k = 2 ∨ k = 3) with rfl | rfl | rfl | rfl
    · exact s.b125.I (i := 0) rfl 5
    · exact s.b142.I (i := 0) rfl 5
    · exact s.b159.I (i := 0) rfl 5
    · exact s.b176.I (i := 0) rfl 5
  · refine invR ⟨s.b193.I (i := 0) rfl 1, fun k hk => absurd hk (Nat.not_lt_zero _)⟩ ⟨s.b193.I (i := 0) rfl 2, fun t R hR => absurd hR (by show ¬ ([] : List RT)[t]? = some R; simp)⟩ ⟨⟨⟨fun k hk => f0 k, f0 5, f0 6, f0 7, fun p hp => absurd hp (Nat.not_lt_zero _), fun l hl => f0 (40 + l)⟩, fun k q1 q2 => f0 k, f0 143, fun k hk => absurd hk (Nat.not_lt_zero _)⟩, s.b193.I (i := 0) rfl 21, s.b193.I (i := 0) rfl 22⟩ ⟨s.b193.I (i := 0) rfl 25, fun j M hM => absurd hM (by show ¬ ([] : List MT)[j]? = some M; simp)⟩ (fun k hk => ⟨s.b193.I (i := 19) rfl k, fun S hS => (by cases hS)⟩)
  · have e : zR u (z + 16) t = none := s.b16.R (i := 0) rfl t
    rw [e] at hq
    cases hq
end START
set_option maxRecDepth 20000 in
theorem law_pure (L : Nat) (xs : Nat → Int32) (z : Nat) (hL : L ≤ 3072) : ∃ u', fL_law 15000 L xs (uz z) = some (1, u') := by
  have hN : 2000 ≤ 15000 := by decide
  unfold fL_law
  have h0 : Hp (uz z) (uz z) z [] := ⟨rfl, fun _ _ => rfl, fun i c hi => by simp at hi, fun _ _ => rfl⟩
  refine st_new' (G := fun r : Option (Int32 × SG) => ∃ u', r = some ((1 : Int32), u')) h0 0 rfl (fun u h => ?_)
  refine st_call' (G := fun r : Option (Int32 × SG) => ∃ u', r = some ((1 : Int32), u')) (ds := []) h 0 rfl (f := fun b v => fX10_init 15000 b v) (n := 192) (tab := tX10) (fun v b h => i_X10 h) (fun b => tX10_len b) rfl rfl (fun u h => ?_)
  replace h : Hp (uz z) u z (tX10 z) := h
  refine st_new' (G := fun r : Option (Int32 × SG) => ∃ u', r = some ((1 : Int32), u')) h 193 (tX10_len z) (fun u h => ?_)
  refine st_call' (G := fun r : Option (Int32 × SG) => ∃ u', r = some ((1 : Int32), u')) (ds := tX10 z) h 193 rfl (f := fun b v => fX11_init 15000 b v) (tab := tX11) (fun v b h => i_X11 h) (fun _ => rfl) (tX10_len z) rfl (fun u h => ?_)
  have hs : u.1 = z + 213 := by rw [h.1, len_app (tX10_len z) (show (tX11 (z + 193)).length = 20 from rfl)]
  have hb : Bk u z (tAll z) := fun i c hi => h.2.2.1 i c hi
  have i0 := inv_start hb (fun b hb => (show zK u b = zK (uz z) b from congrArg (·.1) (h.2.1 b hb))) (fun b hb => h.2.2.2 b (by omega)) hs
  exact law_loop hN hL (op_street hN) (op_rule hN) (fun p1 p2 p3 => op_cheap p1 p2 p3 hN) (fun p1 p2 p3 => op_guild p1 p2 p3 hN) (fun p1 p2 p3 p4 => op_nights p1 p2 p3 p4 hN) 15000 0 z A0 u (by omega) (by omega) aok_start i0
