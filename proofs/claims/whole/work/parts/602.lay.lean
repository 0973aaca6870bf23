def PT : Nat → Prop := fun _ => True
theorem clPT {u : SG} : Cl PT u := fun _ _ _ _ _ => trivial
section EQS
variable {α β : Type} {fx gx fy gy : Option β}
theorem eq_g {c : Prop} [Decidable c] (h : c) (e : fx = gx) : (if c then fx else none) = gx := by rw [if_pos h]; exact e
theorem eq_n {c : Prop} [Decidable c] (h : ¬ c) (e : fx = gx) : (if c then none else fx) = gx := by rw [if_neg h]; exact e
theorem eq_ix {i : Int32} {a n j : Nat} (h : a = n) (e : fx = gx) : (if i < 0 ∨ a ≤ j then none else fx) = (if i < 0 ∨ n ≤ j then none else gx) := by subst h; rw [e]
theorem eq_if {c : Prop} [Decidable c] (e1 : fx = gx) (e2 : fy = gy) : (if c then fx else fy) = (if c then gx else gy) := by rw [e1, e2]
theorem eq_bR {x : Option Nat} {q : Nat} {k : Nat → Option β} (h : x = some q) (e : k q = gx) : Option.bind x k = gx := by rw [h]; exact e
theorem eq_bs {x : α} {k k2 : α → Option β} (e : ∀ x, k x = k2 x) : bs x k = bs x k2 := e x
end EQS
/-! THE CLASS: its layout, one for the whole heap, and clean functions -/
def LK1 (u : SG) (a : Nat) : Prop := zR u a 0 = some (a + 1) ∧ zK u (a + 1) = 25 ∧ zN u (a + 1) = 20 ∧ (∀ i, i < 20 → zR u (a + 1) i = some (a + 2 + 4 * i) ∧ zK u (a + 2 + 4 * i) = 3)
def LK2 (u : SG) (a : Nat) : Prop := zR u a 0 = some (a + 1) ∧ zK u (a + 1) = 22 ∧ zN u (a + 1) = 10 ∧ zR u a 1 = some (a + 2) ∧ zK u (a + 2) = 22 ∧ zN u (a + 2) = 10 ∧ zR u a 2 = some (a + 3) ∧ zK u (a + 3) = 22 ∧ zN u (a + 3) = 10 ∧ zR u a 3 = some (a + 4) ∧ zK u (a + 4) = 22 ∧ zN u (a + 4) = 10
def LK3 (u : SG) (a : Nat) : Prop := zR u a 5 = some (a + 1) ∧ zK u (a + 1) = 22 ∧ zN u (a + 1) = 5 ∧ zR u a 6 = some (a + 2) ∧ zK u (a + 2) = 22 ∧ zN u (a + 2) = 5 ∧ zR u a 7 = some (a + 3) ∧ zK u (a + 3) = 23 ∧ zN u (a + 3) = 6
def LK4 (u : SG) (a : Nat) : Prop := zR u a 0 = some (a + 1) ∧ zK u (a + 1) = 23 ∧ zN u (a + 1) = 64
def LK5 (u : SG) (a : Nat) : Prop := zR u a 0 = some (a + 1) ∧ zK u (a + 1) = 22
def LK6 (u : SG) (a : Nat) : Prop := zR u a 0 = some (a - 6) ∧ zK u (a - 6) = 10 ∧ zR u a 1 = some (a + 1) ∧ zK u (a + 1) = 22 ∧ zN u (a + 1) = 412
def LK7 (u : SG) (a : Nat) : Prop := zR u a 0 = some (a + 1) ∧ zK u (a + 1) = 8 ∧ zR u a 1 = some (a + 8) ∧ zK u (a + 8) = 3 ∧ zR u a 2 = some (a + 12) ∧ zK u (a + 12) = 2
def LK8 (u : SG) (a : Nat) : Prop := zR u a 0 = some (a + 1) ∧ zK u (a + 1) = 22 ∧ zN u (a + 1) = 5 ∧ zR u a 1 = some (a + 2) ∧ zK u (a + 2) = 22 ∧ zN u (a + 2) = 5 ∧ zR u a 2 = some (a + 3) ∧ zK u (a + 3) = 22 ∧ zN u (a + 3) = 5 ∧ zR u a 3 = some (a + 4) ∧ zK u (a + 4) = 22 ∧ zN u (a + 4) = 5 ∧ zR u a 4 = some (a + 5) ∧ zK u (a + 5) = 22 ∧ zN u (a + 5) = 10 ∧ zR u a 5 = some (a + 6) ∧ zK u (a + 6) = 22 ∧ zN u (a + 6) = 10
def LK9 (u : SG) (a : Nat) : Prop := zR u a 0 = some (a - 5) ∧ zK u (a - 5) = 10
def LK10 (u : SG) (a : Nat) : Prop := zR u a 0 = some (a + 1) ∧ zK u (a + 1) = 21 ∧ zN u (a + 1) = 400 ∧ zR u a 3 = some (a + 2) ∧ zK u (a + 2) = 22 ∧ zN u (a + 2) = 401 ∧ zR u a 4 = some (a + 3) ∧ zK u (a + 3) = 22 ∧ zN u (a + 3) = 401 ∧ zR u a 5 = some (a + 4) ∧ zK u (a + 4) = 22 ∧ zN u (a + 4) = 401
def LK11 (u : SG) (a : Nat) : Prop := zR u a 0 = some (a + 1) ∧ zK u (a + 1) = 10 ∧ zR u a 1 = some (a + 6) ∧ zK u (a + 6) = 9 ∧ zR u a 2 = some (a + 7) ∧ zK u (a + 7) = 6 ∧ zR u a 3 = some (a + 9) ∧ zK u (a + 9) = 8 ∧ zR u a 4 = some (a + 16) ∧ zK u (a + 16) = 26 ∧ zN u (a + 16) = 6 ∧ zR u a 6 = some (a + 17) ∧ zK u (a + 17) = 7 ∧ zR u a 7 = some (a + 34) ∧ zK u (a + 34) = 27 ∧ zN u (a + 34) = 4 ∧ zR u a 8 = some (a + 35) ∧ zK u (a + 35) = 1 ∧ zR u a 9 = some (a + 117) ∧ zK u (a + 117) = 4 ∧ zR u a 10 = some (a + 119) ∧ zK u (a + 119) = 3 ∧ zR u a 11 = some (a + 123) ∧ zK u (a + 123) = 22 ∧ zN u (a + 123) = 10 ∧ zR u a 12 = some (a + 124) ∧ zK u (a + 124) = 22 ∧ zN u (a + 124) = 11 ∧ (∀ i, i < 4 → zR u (a + 34) i = some (a + 125 + 17 * i) ∧ zK u (a + 125 + 17 * i) = 7) ∧ (∀ i q, zR u (a + 16) i = some q → zK u q = 5)
def LK12 (u : SG) (a : Nat) : Prop := zR u a 0 = some (a + 1) ∧ zK u (a + 1) = 21 ∧ zN u (a + 1) = 400 ∧ zR u a 3 = some (a + 2) ∧ zK u (a + 2) = 22 ∧ zN u (a + 2) = 2400 ∧ zR u a 4 = some (a + 3) ∧ zK u (a + 3) = 22 ∧ zN u (a + 3) = 7 ∧ zR u a 5 = some (a + 4) ∧ zK u (a + 4) = 22 ∧ zN u (a + 4) = 288 ∧ zR u a 6 = some (a + 5) ∧ zK u (a + 5) = 22 ∧ zN u (a + 5) = 6 ∧ zR u a 7 = some (a + 6) ∧ zK u (a + 6) = 22 ∧ zN u (a + 6) = 103 ∧ zR u a 15 = some (a + 7) ∧ zK u (a + 7) = 22 ∧ zN u (a + 7) = 400 ∧ zR u a 17 = some (a + 8) ∧ zK u (a + 8) = 23 ∧ zN u (a + 8) = 64 ∧ zR u a 19 = some (a + 9) ∧ zK u (a + 9) = 23 ∧ zN u (a + 9) = 13 ∧ zR u a 20 = some (a + 10) ∧ zK u (a + 10) = 22 ∧ zN u (a + 10) = 144 ∧ zR u a 23 = some (a + 11) ∧ zK u (a + 11) = 22 ∧ zN u (a + 11) = 5 ∧ zR u a 24 = some (a + 12) ∧ zK u (a + 12) = 22 ∧ zN u (a + 12) = 900 ∧ zR u a 26 = some (a + 13) ∧ zK u (a + 13) = 22 ∧ zN u (a + 13) = 45 ∧ zR u a 29 = some (a + 14) ∧ zK u (a + 14) = 22 ∧ zN u (a + 14) = 11 ∧ zR u a 30 = some (a + 15) ∧ zK u (a + 15) = 22 ∧ zN u (a + 15) = 729 ∧ zR u a 32 = some (a + 16) ∧ zK u (a + 16) = 22 ∧ zN u (a + 16) = 576 ∧ zR u a 33 = some (a + 17) ∧ zK u (a + 17) = 22 ∧ zN u (a + 17) = 4 ∧ zR u a 34 = some (a + 18) ∧ zK u (a + 18) = 22 ∧ zN u (a + 18) = 4 ∧ zR u a 35 = some (a + 19) ∧ zK u (a + 19) = 24 ∧ zN u (a + 19) = 4
def LY (u : SG) : Prop := ∀ a, (zK u a = 1 → LK1 u a) ∧ (zK u a = 2 → LK2 u a) ∧ (zK u a = 3 → LK3 u a) ∧ (zK u a = 4 → LK4 u a) ∧ (zK u a = 5 → LK5 u a) ∧ (zK u a = 6 → LK6 u a) ∧ (zK u a = 7 → LK7 u a) ∧ (zK u a = 8 → LK8 u a) ∧ (zK u a = 9 → LK9 u a) ∧ (zK u a = 10 → LK10 u a) ∧ (zK u a = 11 → LK11 u a) ∧ (zK u a = 12 → LK12 u a)
theorem LY.o1 {u : SG} {a : Nat} (h : LY u) (k : zK u a = 1) : LK1 u a := ((h a).1) k
theorem lyR_1_0 {u : SG} {a : Nat} (h : LY u) (k : zK u a = 1) : zR u a 0 = some (a + 1) := (h.o1 k).1
theorem lyK_1_0 {u : SG} {a : Nat} (h : LY u) (k : zK u a = 1) : zK u (a + 1) = 25 := (h.o1 k).2.1
theorem lyN_1_0 {u : SG} {a : Nat} (h : LY u) (k : zK u a = 1) : zN u (a + 1) = 20 := (h.o1 k).2.2.1
theorem lyE_1 {u : SG} {a : Nat} (h : LY u) (k : zK u a = 1) {i : Nat} (hi : i < 20) : zR u (a + 1) i = some (a + 2 + 4 * i) ∧ zK u (a + 2 + 4 * i) = 3 := (h.o1 k).2.2.2 i hi
theorem LY.o2 {u : SG} {a : Nat} (h : LY u) (k : zK u a = 2) : LK2 u a := ((h a).2.1) k
theorem lyR_2_0 {u : SG} {a : Nat} (h : LY u) (k : zK u a = 2) : zR u a 0 = some (a + 1) := (h.o2 k).1
theorem lyK_2_0 {u : SG} {a : Nat} (h : LY u) (k : zK u a = 2) : zK u (a + 1) = 22 := (h.o2 k).2.1
theorem lyN_2_0 {u : SG} {a : Nat} (h : LY u) (k : zK u a = 2) : zN u (a + 1) = 10 := (h.o2 k).2.2.1
theorem lyR_2_1 {u : SG} {a : Nat} (h : LY u) (k : zK u a = 2) : zR u a 1 = some (a + 2) := (h.o2 k).2.2.2.1
theorem lyK_2_1 {u : SG} {a : Nat} (h : LY u) (k : zK u a = 2) : zK u (a + 2) = 22 := (h.o2 k).2.2.2.2.1
theorem lyN_2_1 {u : SG} {a : Nat} (h : LY u) (k : zK u a = 2) : zN u (a + 2) = 10 := (h.o2 k).2.2.2.2.2.1
theorem lyR_2_2 {u : SG} {a : Nat} (h : LY u) (k : zK u a = 2) : zR u a 2 = some (a + 3) := (h.o2 k).2.2.2.2.2.2.1
theorem lyK_2_2 {u : SG} {a : Nat} (h : LY u) (k : zK u a = 2) : zK u (a + 3) = 22 := (h.o2 k).2.2.2.2.2.2.2.1
theorem lyN_2_2 {u : SG} {a : Nat} (h : LY u) (k : zK u a = 2) : zN u (a + 3) = 10 := (h.o2 k).2.2.2.2.2.2.2.2.1
theorem lyR_2_3 {u : SG} {a : Nat} (h : LY u) (k : zK u a = 2) : zR u a 3 = some (a + 4) := (h.o2 k).2.2.2.2.2.2.2.2.2.1
theorem lyK_2_3 {u : SG} {a : Nat} (h : LY u) (k : zK u a = 2) : zK u (a + 4) = 22 := (h.o2 k).2.2.2.2.2.2.2.2.2.2.1
theorem lyN_2_3 {u : SG} {a : Nat} (h : LY u) (k : zK u a = 2) : zN u (a + 4) = 10 := (h.o2 k).2.2.2.2.2.2.2.2.2.2.2
theorem LY.o3 {u : SG} {a : Nat} (h : LY u) (k : zK u a = 3) : LK3 u a := ((h a).2.2.1) k
theorem lyR_3_5 {u : SG} {a : Nat} (h : LY u) (k : zK u a = 3) : zR u a 5 = some (a + 1) := (h.o3 k).1
theorem lyK_3_5 {u : SG} {a : Nat} (h : LY u) (k : zK u a = 3) : zK u (a + 1) = 22 := (h.o3 k).2.1
theorem lyN_3_5 {u : SG} {a : Nat} (h : LY u) (k : zK u a = 3) : zN u (a + 1) = 5 := (h.o3 k).2.2.1
theorem lyR_3_6 {u : SG} {a : Nat} (h : LY u) (k : zK u a = 3) : zR u a 6 = some (a + 2) := (h.o3 k).2.2.2.1
theorem lyK_3_6 {u : SG} {a : Nat} (h : LY u) (k : zK u a = 3) : zK u (a + 2) = 22 := (h.o3 k).2.2.2.2.1
theorem lyN_3_6 {u : SG} {a : Nat} (h : LY u) (k : zK u a = 3) : zN u (a + 2) = 5 := (h.o3 k).2.2.2.2.2.1
theorem lyR_3_7 {u : SG} {a : Nat} (h : LY u) (k : zK u a = 3) : zR u a 7 = some (a + 3) := (h.o3 k).2.2.2.2.2.2.1
theorem lyK_3_7 {u : SG} {a : Nat} (h : LY u) (k : zK u a = 3) : zK u (a + 3) = 23 := (h.o3 k).2.2.2.2.2.2.2.1
theorem lyN_3_7 {u : SG} {a : Nat} (h : LY u) (k : zK u a = 3) : zN u (a + 3) = 6 := (h.o3 k).2.2.2.2.2.2.2.2
theorem LY.o4 {u : SG} {a : Nat} (h : LY u) (k : zK u a = 4) : LK4 u a := ((h a).2.2.2.1) k
theorem lyR_4_0 {u : SG} {a : Nat} (h : LY u) (k : zK u a = 4) : zR u a 0 = some (a + 1) := (h.o4 k).1
theorem lyK_4_0 {u : SG} {a : Nat} (h : LY u) (k : zK u a = 4) : zK u (a + 1) = 23 := (h.o4 k).2.1
theorem lyN_4_0 {u : SG} {a : Nat} (h : LY u) (k : zK u a = 4) : zN u (a + 1) = 64 := (h.o4 k).2.2
theorem LY.o5 {u : SG} {a : Nat} (h : LY u) (k : zK u a = 5) : LK5 u a := ((h a).2.2.2.2.1) k
theorem lyR_5_0 {u : SG} {a : Nat} (h : LY u) (k : zK u a = 5) : zR u a 0 = some (a + 1) := (h.o5 k).1
theorem lyK_5_0 {u : SG} {a : Nat} (h : LY u) (k : zK u a = 5) : zK u (a + 1) = 22 := (h.o5 k).2
theorem LY.o6 {u : SG} {a : Nat} (h : LY u) (k : zK u a = 6) : LK6 u a := ((h a).2.2.2.2.2.1) k
theorem lyR_6_0 {u : SG} {a : Nat} (h : LY u) (k : zK u a = 6) : zR u a 0 = some (a - 6) := (h.o6 k).1
theorem lyK_6_0 {u : SG} {a : Nat} (h : LY u) (k : zK u a = 6) : zK u (a - 6) = 10 := (h.o6 k).2.1
theorem lyR_6_1 {u : SG} {a : Nat} (h : LY u) (k : zK u a = 6) : zR u a 1 = some (a + 1) := (h.o6 k).2.2.1
theorem lyK_6_1 {u : SG} {a : Nat} (h : LY u) (k : zK u a = 6) : zK u (a + 1) = 22 := (h.o6 k).2.2.2.1
theorem lyN_6_1 {u : SG} {a : Nat} (h : LY u) (k : zK u a = 6) : zN u (a + 1) = 412 := (h.o6 k).2.2.2.2
theorem LY.o7 {u : SG} {a : Nat} (h : LY u) (k : zK u a = 7) : LK7 u a := ((h a).2.2.2.2.2.2.1) k
theorem lyR_7_0 {u : SG} {a : Nat} (h : LY u) (k : zK u a = 7) : zR u a 0 = some (a + 1) := (h.o7 k).1
theorem lyK_7_0 {u : SG} {a : Nat} (h : LY u) (k : zK u a = 7) : zK u (a + 1) = 8 := (h.o7 k).2.1
theorem lyR_7_1 {u : SG} {a : Nat} (h : LY u) (k : zK u a = 7) : zR u a 1 = some (a + 8) := (h.o7 k).2.2.1
theorem lyK_7_1 {u : SG} {a : Nat} (h : LY u) (k : zK u a = 7) : zK u (a + 8) = 3 := (h.o7 k).2.2.2.1
theorem lyR_7_2 {u : SG} {a : Nat} (h : LY u) (k : zK u a = 7) : zR u a 2 = some (a + 12) := (h.o7 k).2.2.2.2.1
theorem lyK_7_2 {u : SG} {a : Nat} (h : LY u) (k : zK u a = 7) : zK u (a + 12) = 2 := (h.o7 k).2.2.2.2.2
theorem LY.o8 {u : SG} {a : Nat} (h : LY u) (k : zK u a = 8) : LK8 u a := ((h a).2.2.2.2.2.2.2.1) k
theorem lyR_8_0 {u : SG} {a : Nat} (h : LY u) (k : zK u a = 8) : zR u a 0 = some (a + 1) := (h.o8 k).1
theorem lyK_8_0 {u : SG} {a : Nat} (h : LY u) (k : zK u a = 8) : zK u (a + 1) = 22 := (h.o8 k).2.1
theorem lyN_8_0 {u : SG} {a : Nat} (h : LY u) (k : zK u a = 8) : zN u (a + 1) = 5 := (h.o8 k).2.2.1
theorem lyR_8_1 {u : SG} {a : Nat} (h : LY u) (k : zK u a = 8) : zR u a 1 = some (a + 2) := (h.o8 k).2.2.2.1
theorem lyK_8_1 {u : SG} {a : Nat} (h : LY u) (k : zK u a = 8) : zK u (a + 2) = 22 := (h.o8 k).2.2.2.2.1
theorem lyN_8_1 {u : SG} {a : Nat} (h : LY u) (k : zK u a = 8) : zN u (a + 2) = 5 := (h.o8 k).2.2.2.2.2.1
theorem lyR_8_2 {u : SG} {a : Nat} (h : LY u) (k : zK u a = 8) : zR u a 2 = some (a + 3) := (h.o8 k).2.2.2.2.2.2.1
theorem lyK_8_2 {u : SG} {a : Nat} (h : LY u) (k : zK u a = 8) : zK u (a + 3) = 22 := (h.o8 k).2.2.2.2.2.2.2.1
theorem lyN_8_2 {u : SG} {a : Nat} (h : LY u) (k : zK u a = 8) : zN u (a + 3) = 5 := (h.o8 k).2.2.2.2.2.2.2.2.1
theorem lyR_8_3 {u : SG} {a : Nat} (h : LY u) (k : zK u a = 8) : zR u a 3 = some (a + 4) := (h.o8 k).2.2.2.2.2.2.2.2.2.1
theorem lyK_8_3 {u : SG} {a : Nat} (h : LY u) (k : zK u a = 8) : zK u (a + 4) = 22 := (h.o8 k).2.2.2.2.2.2.2.2.2.2.1
theorem lyN_8_3 {u : SG} {a : Nat} (h : LY u) (k : zK u a = 8) : zN u (a + 4) = 5 := (h.o8 k).2.2.2.2.2.2.2.2.2.2.2.1
theorem lyR_8_4 {u : SG} {a : Nat} (h : LY u) (k : zK u a = 8) : zR u a 4 = some (a + 5) := (h.o8 k).2.2.2.2.2.2.2.2.2.2.2.2.1
theorem lyK_8_4 {u : SG} {a : Nat} (h : LY u) (k : zK u a = 8) : zK u (a + 5) = 22 := (h.o8 k).2.2.2.2.2.2.2.2.2.2.2.2.2.1
theorem lyN_8_4 {u : SG} {a : Nat} (h : LY u) (k : zK u a = 8) : zN u (a + 5) = 10 := (h.o8 k).2.2.2.2.2.2.2.2.2.2.2.2.2.2.1
theorem lyR_8_5 {u : SG} {a : Nat} (h : LY u) (k : zK u a = 8) : zR u a 5 = some (a + 6) := (h.o8 k).2.2.2.2.2.2.2.2.2.2.2.2.2.2.2.1
theorem lyK_8_5 {u : SG} {a : Nat} (h : LY u) (k : zK u a = 8) : zK u (a + 6) = 22 := (h.o8 k).2.2.2.2.2.2.2.2.2.2.2.2.2.2.2.2.1
theorem lyN_8_5 {u : SG} {a : Nat} (h : LY u) (k : zK u a = 8) : zN u (a + 6) = 10 := (h.o8 k).2.2.2.2.2.2.2.2.2.2.2.2.2.2.2.2.2
theorem LY.o9 {u : SG} {a : Nat} (h : LY u) (k : zK u a = 9) : LK9 u a := ((h a).2.2.2.2.2.2.2.2.1) k
theorem lyR_9_0 {u : SG} {a : Nat} (h : LY u) (k : zK u a = 9) : zR u a 0 = some (a - 5) := (h.o9 k).1
theorem lyK_9_0 {u : SG} {a : Nat} (h : LY u) (k : zK u a = 9) : zK u (a - 5) = 10 := (h.o9 k).2
theorem LY.o10 {u : SG} {a : Nat} (h : LY u) (k : zK u a = 10) : LK10 u a := ((h a).2.2.2.2.2.2.2.2.2.1) k
theorem lyR_10_0 {u : SG} {a : Nat} (h : LY u) (k : zK u a = 10) : zR u a 0 = some (a + 1) := (h.o10 k).1
theorem lyK_10_0 {u : SG} {a : Nat} (h : LY u) (k : zK u a = 10) : zK u (a + 1) = 21 := (h.o10 k).2.1
theorem lyN_10_0 {u : SG} {a : Nat} (h : LY u) (k : zK u a = 10) : zN u (a + 1) = 400 := (h.o10 k).2.2.1
theorem lyR_10_3 {u : SG} {a : Nat} (h : LY u) (k : zK u a = 10) : zR u a 3 = some (a + 2) := (h.o10 k).2.2.2.1
theorem lyK_10_3 {u : SG} {a : Nat} (h : LY u) (k : zK u a = 10) : zK u (a + 2) = 22 := (h.o10 k).2.2.2.2.1
theorem lyN_10_3 {u : SG} {a : Nat} (h : LY u) (k : zK u a = 10) : zN u (a + 2) = 401 := (h.o10 k).2.2.2.2.2.1
theorem lyR_10_4 {u : SG} {a : Nat} (h : LY u) (k : zK u a = 10) : zR u a 4 = some (a + 3) := (h.o10 k).2.2.2.2.2.2.1
theorem lyK_10_4 {u : SG} {a : Nat} (h : LY u) (k : zK u a = 10) : zK u (a + 3) = 22 := (h.o10 k).2.2.2.2.2.2.2.1
theorem lyN_10_4 {u : SG} {a : Nat} (h : LY u) (k : zK u a = 10) : zN u (a + 3) = 401 := (h.o10 k).2.2.2.2.2.2.2.2.1
theorem lyR_10_5 {u : SG} {a : Nat} (h : LY u) (k : zK u a = 10) : zR u a 5 = some (a + 4) := (h.o10 k).2.2.2.2.2.2.2.2.2.1
theorem lyK_10_5 {u : SG} {a : Nat} (h : LY u) (k : zK u a = 10) : zK u (a + 4) = 22 := (h.o10 k).2.2.2.2.2.2.2.2.2.2.1
theorem lyN_10_5 {u : SG} {a : Nat} (h : LY u) (k : zK u a = 10) : zN u (a + 4) = 401 := (h.o10 k).2.2.2.2.2.2.2.2.2.2.2
theorem LY.o11 {u : SG} {a : Nat} (h : LY u) (k : zK u a = 11) : LK11 u a := ((h a).2.2.2.2.2.2.2.2.2.2.1) k
theorem lyR_11_0 {u : SG} {a : Nat} (h : LY u) (k : zK u a = 11) : zR u a 0 = some (a + 1) := (h.o11 k).1
theorem lyK_11_0 {u : SG} {a : Nat} (h : LY u) (k : zK u a = 11) : zK u (a + 1) = 10 := (h.o11 k).2.1
theorem lyR_11_1 {u : SG} {a : Nat} (h : LY u) (k : zK u a = 11) : zR u a 1 = some (a + 6) := (h.o11 k).2.2.1
theorem lyK_11_1 {u : SG} {a : Nat} (h : LY u) (k : zK u a = 11) : zK u (a + 6) = 9 := (h.o11 k).2.2.2.1
theorem lyR_11_2 {u : SG} {a : Nat} (h : LY u) (k : zK u a = 11) : zR u a 2 = some (a + 7) := (h.o11 k).2.2.2.2.1
theorem lyK_11_2 {u : SG} {a : Nat} (h : LY u) (k : zK u a = 11) : zK u (a + 7) = 6 := (h.o11 k).2.2.2.2.2.1
theorem lyR_11_3 {u : SG} {a : Nat} (h : LY u) (k : zK u a = 11) : zR u a 3 = some (a + 9) := (h.o11 k).2.2.2.2.2.2.1
theorem lyK_11_3 {u : SG} {a : Nat} (h : LY u) (k : zK u a = 11) : zK u (a + 9) = 8 := (h.o11 k).2.2.2.2.2.2.2.1
theorem lyR_11_4 {u : SG} {a : Nat} (h : LY u) (k : zK u a = 11) : zR u a 4 = some (a + 16) := (h.o11 k).2.2.2.2.2.2.2.2.1
theorem lyK_11_4 {u : SG} {a : Nat} (h : LY u) (k : zK u a = 11) : zK u (a + 16) = 26 := (h.o11 k).2.2.2.2.2.2.2.2.2.1
theorem lyN_11_4 {u : SG} {a : Nat} (h : LY u) (k : zK u a = 11) : zN u (a + 16) = 6 := (h.o11 k).2.2.2.2.2.2.2.2.2.2.1
theorem lyR_11_6 {u : SG} {a : Nat} (h : LY u) (k : zK u a = 11) : zR u a 6 = some (a + 17) := (h.o11 k).2.2.2.2.2.2.2.2.2.2.2.1
theorem lyK_11_6 {u : SG} {a : Nat} (h : LY u) (k : zK u a = 11) : zK u (a + 17) = 7 := (h.o11 k).2.2.2.2.2.2.2.2.2.2.2.2.1
theorem lyR_11_7 {u : SG} {a : Nat} (h : LY u) (k : zK u a = 11) : zR u a 7 = some (a + 34) := (h.o11 k).2.2.2.2.2.2.2.2.2.2.2.2.2.1
theorem lyK_11_7 {u : SG} {a : Nat} (h : LY u) (k : zK u a = 11) : zK u (a + 34) = 27 := (h.o11 k).2.2.2.2.2.2.2.2.2.2.2.2.2.2.1
theorem lyN_11_7 {u : SG} {a : Nat} (h : LY u) (k : zK u a = 11) : zN u (a + 34) = 4 := (h.o11 k).2.2.2.2.2.2.2.2.2.2.2.2.2.2.2.1
theorem lyR_11_8 {u : SG} {a : Nat} (h : LY u) (k : zK u a = 11) : zR u a 8 = some (a + 35) := (h.o11 k).2.2.2.2.2.2.2.2.2.2.2.2.2.2.2.2.1
theorem lyK_11_8 {u : SG} {a : Nat} (h : LY u) (k : zK u a = 11) : zK u (a + 35) = 1 := (h.o11 k).2.2.2.2.2.2.2.2.2.2.2.2.2.2.2.2.2.1
theorem lyR_11_9 {u : SG} {a : Nat} (h : LY u) (k : zK u a = 11) : zR u a 9 = some (a + 117) := (h.o11 k).2.2.2.2.2.2.2.2.2.2.2.2.2.2.2.2.2.2.1
theorem lyK_11_9 {u : SG} {a : Nat} (h : LY u) (k : zK u a = 11) : zK u (a + 117) = 4 := (h.o11 k).2.2.2.2.2.2.2.2.2.2.2.2.2.2.2.2.2.2.2.1
theorem lyR_11_10 {u : SG} {a : Nat} (h : LY u) (k : zK u a = 11) : zR u a 10 = some (a + 119) := (h.o11 k).2.2.2.2.2.2.2.2.2.2.2.2.2.2.2.2.2.2.2.2.1
theorem lyK_11_10 {u : SG} {a : Nat} (h : LY u) (k : zK u a = 11) : zK u (a + 119) = 3 := (h.o11 k).2.2.2.2.2.2.2.2.2.2.2.2.2.2.2.2.2.2.2.2.2.1
theorem lyR_11_11 {u : SG} {a : Nat} (h : LY u) (k : zK u a = 11) : zR u a 11 = some (a + 123) := (h.o11 k).2.2.2.2.2.2.2.2.2.2.2.2.2.2.2.2.2.2.2.2.2.2.1
theorem lyK_11_11 {u : SG} {a : Nat} (h : LY u) (k : zK u a = 11) : zK u (a + 123) = 22 := (h.o11 k).2.2.2.2.2.2.2.2.2.2.2.2.2.2.2.2.2.2.2.2.2.2.2.1
theorem lyN_11_11 {u : SG} {a : Nat} (h : LY u) (k : zK u a = 11) : zN u (a + 123) = 10 := (h.o11 k).2.2.2.2.2.2.2.2.2.2.2.2.2.2.2.2.2.2.2.2.2.2.2.2.1
theorem lyR_11_12 {u : SG} {a : Nat} (h : LY u) (k : zK u a = 11) : zR u a 12 = some (a + 124) := (h.o11 k).2.2.2.2.2.2.2.2.2.2.2.2.2.2.2.2.2.2.2.2.2.2.2.2.2.1
theorem lyK_11_12 {u : SG} {a : Nat} (h : LY u) (k : zK u a = 11) : zK u (a + 124) = 22 := (h.o11 k).2.2.2.2.2.2.2.2.2.2.2.2.2.2.2.2.2.2.2.2.2.2.2.2.2.2.1
theorem lyN_11_12 {u : SG} {a : Nat} (h : LY u) (k : zK u a = 11) : zN u (a + 124) = 11 := (h.o11 k).2.2.2.2.2.2.2.2.2.2.2.2.2.2.2.2.2.2.2.2.2.2.2.2.2.2.2.1
theorem lyE_11 {u : SG} {a : Nat} (h : LY u) (k : zK u a = 11) {i : Nat} (hi : i < 4) : zR u (a + 34) i = some (a + 125 + 17 * i) ∧ zK u (a + 125 + 17 * i) = 7 := (h.o11 k).2.2.2.2.2.2.2.2.2.2.2.2.2.2.2.2.2.2.2.2.2.2.2.2.2.2.2.2.1 i hi
theorem lyQ_11 {u : SG} {a : Nat} (h : LY u) (k : zK u a = 11) {i q : Nat} (hi : zR u (a + 16) i = some q) : zK u q = 5 := (h.o11 k).2.2.2.2.2.2.2.2.2.2.2.2.2.2.2.2.2.2.2.2.2.2.2.2.2.2.2.2.2 i q hi
theorem LY.o12 {u : SG} {a : Nat} (h : LY u) (k : zK u a = 12) : LK12 u a := ((h a).2.2.2.2.2.2.2.2.2.2.2) k
theorem lyR_12_0 {u : SG} {a : Nat} (h : LY u) (k : zK u a = 12) : zR u a 0 = some (a + 1) := (h.o12 k).1
theorem lyK_12_0 {u : SG} {a : Nat} (h : LY u) (k : zK u a = 12) : zK u (a + 1) = 21 := (h.o12 k).2.1
theorem lyN_12_0 {u : SG} {a : Nat} (h : LY u) (k : zK u a = 12) : zN u (a + 1) = 400 := (h.o12 k).2.2.1
theorem lyR_12_3 {u : SG} {a : Nat} (h : LY u) (k : zK u a = 12) : zR u a 3 = some (a + 2) := (h.o12 k).2.2.2.1
theorem lyK_12_3 {u : SG} {a : Nat} (h : LY u) (k : zK u a = 12) : zK u (a + 2) = 22 := (h.o12 k).2.2.2.2.1
theorem lyN_12_3 {u : SG} {a : Nat} (h : LY u) (k : zK u a = 12) : zN u (a + 2) = 2400 := (h.o12 k).2.2.2.2.2.1
theorem lyR_12_4 {u : SG} {a : Nat} (h : LY u) (k : zK u a = 12) : zR u a 4 = some (a + 3) := (h.o12 k).2.2.2.2.2.2.1
theorem lyK_12_4 {u : SG} {a : Nat} (h : LY u) (k : zK u a = 12) : zK u (a + 3) = 22 := (h.o12 k).2.2.2.2.2.2.2.1
theorem lyN_12_4 {u : SG} {a : Nat} (h : LY u) (k : zK u a = 12) : zN u (a + 3) = 7 := (h.o12 k).2.2.2.2.2.2.2.2.1
theorem lyR_12_5 {u : SG} {a : Nat} (h : LY u) (k : zK u a = 12) : zR u a 5 = some (a + 4) := (h.o12 k).2.2.2.2.2.2.2.2.2.1
theorem lyK_12_5 {u : SG} {a : Nat} (h : LY u) (k : zK u a = 12) : zK u (a + 4) = 22 := (h.o12 k).2.2.2.2.2.2.2.2.2.2.1
theorem lyN_12_5 {u : SG} {a : Nat} (h : LY u) (k : zK u a = 12) : zN u (a + 4) = 288 := (h.o12 k).2.2.2.2.2.2.2.2.2.2.2.1
theorem lyR_12_6 {u : SG} {a : Nat} (h : LY u) (k : zK u a = 12) : zR u a 6 = some (a + 5) := (h.o12 k).2.2.2.2.2.2.2.2.2.2.2.2.1
theorem lyK_12_6 {u : SG} {a : Nat} (h : LY u) (k : zK u a = 12) : zK u (a + 5) = 22 := (h.o12 k).2.2.2.2.2.2.2.2.2.2.2.2.2.1
theorem lyN_12_6 {u : SG} {a : Nat} (h : LY u) (k : zK u a = 12) : zN u (a + 5) = 6 := (h.o12 k).2.2.2.2.2.2.2.2.2.2.2.2.2.2.1
theorem lyR_12_7 {u : SG} {a : Nat} (h : LY u) (k : zK u a = 12) : zR u a 7 = some (a + 6) := (h.o12 k).2.2.2.2.2.2.2.2.2.2.2.2.2.2.2.1
theorem lyK_12_7 {u : SG} {a : Nat} (h : LY u) (k : zK u a = 12) : zK u (a + 6) = 22 := (h.o12 k).2.2.2.2.2.2.2.2.2.2.2.2.2.2.2.2.1
theorem lyN_12_7 {u : SG} {a : Nat} (h : LY u) (k : zK u a = 12) : zN u (a + 6) = 103 := (h.o12 k).2.2.2.2.2.2.2.2.2.2.2.2.2.2.2.2.2.1
theorem lyR_12_15 {u : SG} {a : Nat} (h : LY u) (k : zK u a = 12) : zR u a 15 = some (a + 7) := (h.o12 k).2.2.2.2.2.2.2.2.2.2.2.2.2.2.2.2.2.2.1
theorem lyK_12_15 {u : SG} {a : Nat} (h : LY u) (k : zK u a = 12) : zK u (a + 7) = 22 := (h.o12 k).2.2.2.2.2.2.2.2.2.2.2.2.2.2.2.2.2.2.2.1
theorem lyN_12_15 {u : SG} {a : Nat} (h : LY u) (k : zK u a = 12) : zN u (a + 7) = 400 := (h.o12 k).2.2.2.2.2.2.2.2.2.2.2.2.2.2.2.2.2.2.2.2.1
theorem lyR_12_17 {u : SG} {a : Nat} (h : LY u) (k : zK u a = 12) : zR u a 17 = some (a + 8) := (h.o12 k).2.2.2.2.2.2.2.2.2.2.2.2.2.2.2.2.2.2.2.2.2.1
theorem lyK_12_17 {u : SG} {a : Nat} (h : LY u) (k : zK u a = 12) : zK u (a + 8) = 23 := (h.o12 k).2.2.2.2.2.2.2.2.2.2.2.2.2.2.2.2.2.2.2.2.2.2.1
theorem lyN_12_17 {u : SG} {a : Nat} (h : LY u) (k : zK u a = 12) : zN u (a + 8) = 64 := (h.o12 k).2.2.2.2.2.2.2.2.2.2.2.2.2.2.2.2.2.2.2.2.2.2.2.1
theorem lyR_12_19 {u : SG} {a : Nat} (h : LY u) (k : zK u a = 12) : zR u a 19 = some (a + 9) := (h.o12 k).2.2.2.2.2.2.2.2.2.2.2.2.2.2.2.2.2.2.2.2.2.2.2.2.1
theorem lyK_12_19 {u : SG} {a : Nat} (h : LY u) (k : zK u a = 12) : zK u (a + 9) = 23 := (h.o12 k).2.2.2.2.2.2.2.2.2.2.2.2.2.2.2.2.2.2.2.2.2.2.2.2.2.1
theorem lyN_12_19 {u : SG} {a : Nat} (h : LY u) (k : zK u a = 12) : zN u (a + 9) = 13 := (h.o12 k).2.2.2.2.2.2.2.2.2.2.2.2.2.2.2.2.2.2.2.2.2.2.2.2.2.2.1
theorem lyR_12_20 {u : SG} {a : Nat} (h : LY u) (k : zK u a = 12) : zR u a 20 = some (a + 10) := (h.o12 k).2.2.2.2.2.2.2.2.2.2.2.2.2.2.2.2.2.2.2.2.2.2.2.2.2.2.2.1
theorem lyK_12_20 {u : SG} {a : Nat} (h : LY u) (k : zK u a = 12) : zK u (a + 10) = 22 := (h.o12 k).2.2.2.2.2.2.2.2.2.2.2.2.2.2.2.2.2.2.2.2.2.2.2.2.2.2.2.2.1
theorem lyN_12_20 {u : SG} {a : Nat} (h : LY u) (k : zK u a = 12) : zN u (a + 10) = 144 := (h.o12 k).2.2.2.2.2.2.2.2.2.2.2.2.2.2.2.2.2.2.2.2.2.2.2.2.2.2.2.2.2.1
theorem lyR_12_23 {u : SG} {a : Nat} (h : LY u) (k : zK u a = 12) : zR u a 23 = some (a + 11) := (h.o12 k).2.2.2.2.2.2.2.2.2.2.2.2.2.2.2.2.2.2.2.2.2.2.2.2.2.2.2.2.2.2.1
theorem lyK_12_23 {u : SG} {a : Nat} (h : LY u) (k : zK u a = 12) : zK u (a + 11) = 22 := (h.o12 k).2.2.2.2.2.2.2.2.2.2.2.2.2.2.2.2.2.2.2.2.2.2.2.2.2.2.2.2.2.2.2.1
theorem lyN_12_23 {u : SG} {a : Nat} (h : LY u) (k : zK u a = 12) : zN u (a + 11) = 5 := (h.o12 k).2.2.2.2.2.2.2.2.2.2.2.2.2.2.2.2.2.2.2.2.2.2.2.2.2.2.2.2.2.2.2.2.1
theorem lyR_12_24 {u : SG} {a : Nat} (h : LY u) (k : zK u a = 12) : zR u a 24 = some (a + 12) := (h.o12 k).2.2.2.2.2.2.2.2.2.2.2.2.2.2.2.2.2.2.2.2.2.2.2.2.2.2.2.2.2.2.2.2.2.1
theorem lyK_12_24 {u : SG} {a : Nat} (h : LY u) (k : zK u a = 12) : zK u (a + 12) = 22 := (h.o12 k).2.2.2.2.2.2.2.2.2.2.2.2.2.2.2.2.2.2.2.2.2.2.2.2.2.2.2.2.2.2.2.2.2.2.1
theorem lyN_12_24 {u : SG} {a : Nat} (h : LY u) (k : zK u a = 12) : zN u (a + 12) = 900 := (h.o12 k).2.2.2.2.2.2.2.2.2.2.2.2.2.2.2.2.2.2.2.2.2.2.2.2.2.2.2.2.2.2.2.2.2.2.2.1
theorem lyR_12_26 {u : SG} {a : Nat} (h : LY u) (k : zK u a = 12) : zR u a 26 = some (a + 13) := (h.o12 k).2.2.2.2.2.2.2.2.2.2.2.2.2.2.2.2.2.2.2.2.2.2.2.2.2.2.2.2.2.2.2.2.2.2.2.2.1
theorem lyK_12_26 {u : SG} {a : Nat} (h : LY u) (k : zK u a = 12) : zK u (a + 13) = 22 := (h.o12 k).2.2.2.2.2.2.2.2.2.2.2.2.2.2.2.2.2.2.2.2.2.2.2.2.2.2.2.2.2.2.2.2.2.2.2.2.2.1
theorem lyN_12_26 {u : SG} {a : Nat} (h : LY u) (k : zK u a = 12) : zN u (a + 13) = 45 := (h.o12 k).2.2.2.2.2.2.2.2.2.2.2.2.2.2.2.2.2.2.2.2.2.2.2.2.2.2.2.2.2.2.2.2.2.2.2.2.2.2.1
theorem lyR_12_29 {u : SG} {a : Nat} (h : LY u) (k : zK u a = 12) : zR u a 29 = some (a + 14) := (h.o12 k).2.2.2.2.2.2.2.2.2.2.2.2.2.2.2.2.2.2.2.2.2.2.2.2.2.2.2.2.2.2.2.2.2.2.2.2.2.2.2.1
theorem lyK_12_29 {u : SG} {a : Nat} (h : LY u) (k : zK u a = 12) : zK u (a + 14) = 22 := (h.o12 k).2.2.2.2.2.2.2.2.2.2.2.2.2.2.2.2.2.2.2.2.2.2.2.2.2.2.2.2.2.2.2.2.2.2.2.2.2.2.2.2.1
theorem lyN_12_29 {u : SG} {a : Nat} (h : LY u) (k : zK u a = 12) : zN u (a + 14) = 11 := (h.o12 k).2.2.2.2.2.2.2.2.2.2.2.2.2.2.2.2.2.2.2.2.2.2.2.2.2.2.2.2.2.2.2.2.2.2.2.2.2.2.2.2.2.1
theorem lyR_12_30 {u : SG} {a : Nat} (h : LY u) (k : zK u a = 12) : zR u a 30 = some (a + 15) := (h.o12 k).2.2.2.2.2.2.2.2.2.2.2.2.2.2.2.2.2.2.2.2.2.2.2.2.2.2.2.2.2.2.2.2.2.2.2.2.2.2.2.2.2.2.1
theorem lyK_12_30 {u : SG} {a : Nat} (h : LY u) (k : zK u a = 12) : zK u (a + 15) = 22 := (h.o12 k).2.2.2.2.2.2.2.2.2.2.2.2.2.2.2.2.2.2.2.2.2.2.2.2.2.2.2.2.2.2.2.2.2.2.2.2.2.2.2.2.2.2.2.1
theorem lyN_12_30 {u : SG} {a : Nat} (h : LY u) (k : zK u a = 12) : zN u (a + 15) = 729 := (h.o12 k).2.2.2.2.2.2.2.2.2.2.2.2.2.2.2.2.2.2.2.2.2.2.2.2.2.2.2.2.2.2.2.2.2.2.2.2.2.2.2.2.2.2.2.2.1
theorem lyR_12_32 {u : SG} {a : Nat} (h : LY u) (k : zK u a = 12) : zR u a 32 = some (a + 16) := (h.o12 k).2.2.2.2.2.2.2.2.2.2.2.2.2.2.2.2.2.2.2.2.2.2.2.2.2.2.2.2.2.2.2.2.2.2.2.2.2.2.2.2.2.2.2.2.2.1
theorem lyK_12_32 {u : SG} {a : Nat} (h : LY u) (k : zK u a = 12) : zK u (a + 16) = 22 := (h.o12 k).2.2.2.2.2.2.2.2.2.2.2.2.2.2.2.2.2.2.2.2.2.2.2.2.2.2.2.2.2.2.2.2.2.2.2.2.2.2.2.2.2.2.2.2.2.2.1
theorem lyN_12_32 {u : SG} {a : Nat} (h : LY u) (k : zK u a = 12) : zN u (a + 16) = 576 := (h.o12 k).2.2.2.2.2.2.2.2.2.2.2.2.2.2.2.2.2.2.2.2.2.2.2.2.2.2.2.2.2.2.2.2.2.2.2.2.2.2.2.2.2.2.2.2.2.2.2.1
theorem lyR_12_33 {u : SG} {a : Nat} (h : LY u) (k : zK u a = 12) : zR u a 33 = some (a + 17) := (h.o12 k).2.2.2.2.2.2.2.2.2.2.2.2.2.2.2.2.2.2.2.2.2.2.2.2.2.2.2.2.2.2.2.2.2.2.2.2.2.2.2.2.2.2.2.2.2.2.2.2.1
theorem lyK_12_33 {u : SG} {a : Nat} (h : LY u) (k : zK u a = 12) : zK u (a + 17) = 22 := (h.o12 k).2.2.2.2.2.2.2.2.2.2.2.2.2.2.2.2.2.2.2.2.2.2.2.2.2.2.2.2.2.2.2.2.2.2.2.2.2.2.2.2.2.2.2.2.2.2.2.2.2.1
theorem lyN_12_33 {u : SG} {a : Nat} (h : LY u) (k : zK u a = 12) : zN u (a + 17) = 4 := (h.o12 k).2.2.2.2.2.2.2.2.2.2.2.2.2.2.2.2.2.2.2.2.2.2.2.2.2.2.2.2.2.2.2.2.2.2.2.2.2.2.2.2.2.2.2.2.2.2.2.2.2.2.1
theorem lyR_12_34 {u : SG} {a : Nat} (h : LY u) (k : zK u a = 12) : zR u a 34 = some (a + 18) := (h.o12 k).2.2.2.2.2.2.2.2.2.2.2.2.2.2.2.2.2.2.2.2.2.2.2.2.2.2.2.2.2.2.2.2.2.2.2.2.2.2.2.2.2.2.2.2.2.2.2.2.2.2.2.1
theorem lyK_12_34 {u : SG} {a : Nat} (h : LY u) (k : zK u a = 12) : zK u (a + 18) = 22 := (h.o12 k).2.2.2.2.2.2.2.2.2.2.2.2.2.2.2.2.2.2.2.2.2.2.2.2.2.2.2.2.2.2.2.2.2.2.2.2.2.2.2.2.2.2.2.2.2.2.2.2.2.2.2.2.1
theorem lyN_12_34 {u : SG} {a : Nat} (h : LY u) (k : zK u a = 12) : zN u (a + 18) = 4 := (h.o12 k).2.2.2.2.2.2.2.2.2.2.2.2.2.2.2.2.2.2.2.2.2.2.2.2.2.2.2.2.2.2.2.2.2.2.2.2.2.2.2.2.2.2.2.2.2.2.2.2.2.2.2.2.2.1
theorem lyR_12_35 {u : SG} {a : Nat} (h : LY u) (k : zK u a = 12) : zR u a 35 = some (a + 19) := (h.o12 k).2.2.2.2.2.2.2.2.2.2.2.2.2.2.2.2.2.2.2.2.2.2.2.2.2.2.2.2.2.2.2.2.2.2.2.2.2.2.2.2.2.2.2.2.2.2.2.2.2.2.2.2.2.2.1
theorem lyK_12_35 {u : SG} {a : Nat} (h : LY u) (k : zK u a = 12) : zK u (a + 19) = 24 := (h.o12 k).2.2.2.2.2.2.2.2.2.2.2.2.2.2.2.2.2.2.2.2.2.2.2.2.2.2.2.2.2.2.2.2.2.2.2.2.2.2.2.2.2.2.2.2.2.2.2.2.2.2.2.2.2.2.2.1
theorem lyN_12_35 {u : SG} {a : Nat} (h : LY u) (k : zK u a = 12) : zN u (a + 19) = 4 := (h.o12 k).2.2.2.2.2.2.2.2.2.2.2.2.2.2.2.2.2.2.2.2.2.2.2.2.2.2.2.2.2.2.2.2.2.2.2.2.2.2.2.2.2.2.2.2.2.2.2.2.2.2.2.2.2.2.2.2
theorem LY.fr {P : Nat → Prop} {u v : SG} (h : LY u) (f : Fr P u v) : LY v := by
  intro a
  have h := h a
  unfold LK1 LK2 LK3 LK4 LK5 LK6 LK7 LK8 LK9 LK10 LK11 LK12 at h ⊢
  simp only [f.K, f.N, f.R]
  exact h
def HK (l : List (Option Nat × Nat)) (u : SG) : Prop := LY u ∧ ∀ (i : Nat) (o : Option Nat) (k : Nat), l[i]? = some (o, k) → ∀ a, o = some a → zK u a = k
theorem HK.fr {P : Nat → Prop} {l : List (Option Nat × Nat)} {u v : SG} (h : HK l u) (f : Fr P u v) : HK l v := ⟨h.1.fr f, fun i o k e a ea => by rw [f.K]; exact h.2 i o k e a ea⟩
theorem HK.g {l : List (Option Nat × Nat)} {u : SG} {a k : Nat} (h : HK l u) (i : Nat) (e : l[i]? = some (some a, k)) : zK u a = k := h.2 i _ k e a rfl
theorem HK.q {l : List (Option Nat × Nat)} {u : SG} {o : Option Nat} {a k : Nat} (h : HK l u) (i : Nat) (e : l[i]? = some (o, k)) (ea : o = some a) : zK u a = k := h.2 i _ k e a ea
theorem hk0 {u : SG} (h : LY u) : HK [] u := ⟨h, fun i o k e => by simp at e⟩
theorem hkc {l : List (Option Nat × Nat)} {u : SG} {a k : Nat} (h0 : zK u a = k) (h : HK l u) : HK ((some a, k) :: l) u := ⟨h.1, fun i o k2 e b eb => by
  cases i with
  | zero => simp at e; obtain ⟨rfl, rfl⟩ := e; cases eb; exact h0
  | succ i => exact h.2 i o k2 (by simpa using e) b eb⟩
theorem hkq {l : List (Option Nat × Nat)} {u : SG} {o : Option Nat} {k : Nat} (h0 : ∀ a, o = some a → zK u a = k) (h : HK l u) : HK ((o, k) :: l) u := ⟨h.1, fun i o2 k2 e b eb => by
  cases i with
  | zero => simp at e; obtain ⟨rfl, rfl⟩ := e; exact h0 b eb
  | succ i => exact h.2 i o2 k2 (by simpa using e) b eb⟩
section EQC
variable {α β : Type} {fx gx fy gy : Option β}
theorem eq_ixh {i : Int32} {a n j : Nat} (h : a = n) (e : ¬ (i < 0 ∨ n ≤ j) → fx = gx) : (if i < 0 ∨ a ≤ j then none else fx) = (if i < 0 ∨ n ≤ j then none else gx) := by
  subst h
  by_cases h : i < 0 ∨ a ≤ j
  · rw [if_pos h, if_pos h]
  · rw [if_neg h, if_neg h, e h]
theorem eq_bQ {x : Option Nat} {k k2 : Nat → Option β} (e : ∀ q, x = some q → k q = k2 q) : Option.bind x k = Option.bind x k2 := by
  cases x with
  | none => rfl
  | some q => exact e q rfl
theorem eq_sH {l : List (Option Nat × Nat)} {x : SG} {k k2 : SG → Option β} (h : HK l x) (e : ∀ u, HK l u → k u = k2 u) : bs x k = bs x k2 := e x h
theorem eq_cH {l : List (Option Nat × Nat)} {g g2 : Option (α × SG)} {k k2 : α → SG → Option β} (e : g = g2) (hf : ∀ r u, g = some (r, u) → HK l u) (h : ∀ r u, HK l u → k r u = k2 r u) : cl g k = cl g2 k2 := by
  subst e
  cases hg : g with
  | none => rfl
  | some o => exact h o.1 o.2 (hf o.1 o.2 (by rw [hg]))
theorem eq_cR {l : List (Option Nat × Nat)} {g g2 : Option (Option Nat × SG)} {k k2 : Option Nat → SG → Option β} (e : g = g2) (hf : ∀ r u, g = some (r, u) → HK l u ∧ ∀ q, r = some q → zK u q = 5) (h : ∀ r u, HK l u → (∀ q, r = some q → zK u q = 5) → k r u = k2 r u) : cl g k = cl g2 k2 := by
  subst e
  cases hg : g with
  | none => rfl
  | some o => exact h o.1 o.2 (hf o.1 o.2 (by rw [hg])).1 (hf o.1 o.2 (by rw [hg])).2
end EQC
