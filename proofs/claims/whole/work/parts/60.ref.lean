/-! THE REFERENCE: its layout and its leaves -/
def RfL (u : SG) (m : Nat) : Prop := zK u m = 12 ∧ zR u m 0 = some (m + 1) ∧ zK u (m + 1) = 21 ∧ zN u (m + 1) = 400 ∧ zR u m 3 = some (m + 2) ∧ zK u (m + 2) = 22 ∧ zN u (m + 2) = 2400 ∧ zR u m 4 = some (m + 3) ∧ zK u (m + 3) = 22 ∧ zN u (m + 3) = 7 ∧ zR u m 5 = some (m + 4) ∧ zK u (m + 4) = 22 ∧ zN u (m + 4) = 288 ∧ zR u m 6 = some (m + 5) ∧ zK u (m + 5) = 22 ∧ zN u (m + 5) = 6 ∧ zR u m 7 = some (m + 6) ∧ zK u (m + 6) = 22 ∧ zN u (m + 6) = 103 ∧ zR u m 15 = some (m + 7) ∧ zK u (m + 7) = 22 ∧ zN u (m + 7) = 400 ∧ zR u m 17 = some (m + 8) ∧ zK u (m + 8) = 23 ∧ zN u (m + 8) = 64 ∧ zR u m 19 = some (m + 9) ∧ zK u (m + 9) = 23 ∧ zN u (m + 9) = 13 ∧ zR u m 20 = some (m + 10) ∧ zK u (m + 10) = 22 ∧ zN u (m + 10) = 144 ∧ zR u m 23 = some (m + 11) ∧ zK u (m + 11) = 22 ∧ zN u (m + 11) = 5 ∧ zR u m 24 = some (m + 12) ∧ zK u (m + 12) = 22 ∧ zN u (m + 12) = 900 ∧ zR u m 26 = some (m + 13) ∧ zK u (m + 13) = 22 ∧ zN u (m + 13) = 45 ∧ zR u m 29 = some (m + 14) ∧ zK u (m + 14) = 22 ∧ zN u (m + 14) = 11 ∧ zR u m 30 = some (m + 15) ∧ zK u (m + 15) = 22 ∧ zN u (m + 15) = 729 ∧ zR u m 32 = some (m + 16) ∧ zK u (m + 16) = 22 ∧ zN u (m + 16) = 576 ∧ zR u m 33 = some (m + 17) ∧ zK u (m + 17) = 22 ∧ zN u (m + 17) = 4 ∧ zR u m 34 = some (m + 18) ∧ zK u (m + 18) = 22 ∧ zN u (m + 18) = 4 ∧ zR u m 35 = some (m + 19) ∧ zK u (m + 19) = 24 ∧ zN u (m + 19) = 4
theorem RfL.K {u : SG} {m : Nat} (h : RfL u m) : zK u m = 12 := h.1
theorem RfL.R0 {u : SG} {m : Nat} (h : RfL u m) : zR u m 0 = some (m + 1) := h.2.1
theorem RfL.K1 {u : SG} {m : Nat} (h : RfL u m) : zK u (m + 1) = 21 := h.2.2.1
theorem RfL.N1 {u : SG} {m : Nat} (h : RfL u m) : zN u (m + 1) = 400 := h.2.2.2.1
theorem RfL.R3 {u : SG} {m : Nat} (h : RfL u m) : zR u m 3 = some (m + 2) := h.2.2.2.2.1
theorem RfL.K2 {u : SG} {m : Nat} (h : RfL u m) : zK u (m + 2) = 22 := h.2.2.2.2.2.1
theorem RfL.N2 {u : SG} {m : Nat} (h : RfL u m) : zN u (m + 2) = 2400 := h.2.2.2.2.2.2.1
theorem RfL.R4 {u : SG} {m : Nat} (h : RfL u m) : zR u m 4 = some (m + 3) := h.2.2.2.2.2.2.2.1
theorem RfL.K3 {u : SG} {m : Nat} (h : RfL u m) : zK u (m + 3) = 22 := h.2.2.2.2.2.2.2.2.1
theorem RfL.N3 {u : SG} {m : Nat} (h : RfL u m) : zN u (m + 3) = 7 := h.2.2.2.2.2.2.2.2.2.1
theorem RfL.R5 {u : SG} {m : Nat} (h : RfL u m) : zR u m 5 = some (m + 4) := h.2.2.2.2.2.2.2.2.2.2.1
theorem RfL.K4 {u : SG} {m : Nat} (h : RfL u m) : zK u (m + 4) = 22 := h.2.2.2.2.2.2.2.2.2.2.2.1
theorem RfL.N4 {u : SG} {m : Nat} (h : RfL u m) : zN u (m + 4) = 288 := h.2.2.2.2.2.2.2.2.2.2.2.2.1
theorem RfL.R6 {u : SG} {m : Nat} (h : RfL u m) : zR u m 6 = some (m + 5) := h.2.2.2.2.2.2.2.2.2.2.2.2.2.1
theorem RfL.K5 {u : SG} {m : Nat} (h : RfL u m) : zK u (m + 5) = 22 := h.2.2.2.2.2.2.2.2.2.2.2.2.2.2.1
theorem RfL.N5 {u : SG} {m : Nat} (h : RfL u m) : zN u (m + 5) = 6 := h.2.2.2.2.2.2.2.2.2.2.2.2.2.2.2.1
theorem RfL.R7 {u : SG} {m : Nat} (h : RfL u m) : zR u m 7 = some (m + 6) := h.2.2.2.2.2.2.2.2.2.2.2.2.2.2.2.2.1
theorem RfL.K6 {u : SG} {m : Nat} (h : RfL u m) : zK u (m + 6) = 22 := h.2.2.2.2.2.2.2.2.2.2.2.2.2.2.2.2.2.1
theorem RfL.N6 {u : SG} {m : Nat} (h : RfL u m) : zN u (m + 6) = 103 := h.2.2.2.2.2.2.2.2.2.2.2.2.2.2.2.2.2.2.1
theorem RfL.R15 {u : SG} {m : Nat} (h : RfL u m) : zR u m 15 = some (m + 7) := h.2.2.2.2.2.2.2.2.2.2.2.2.2.2.2.2.2.2.2.1
theorem RfL.K7 {u : SG} {m : Nat} (h : RfL u m) : zK u (m + 7) = 22 := h.2.2.2.2.2.2.2.2.2.2.2.2.2.2.2.2.2.2.2.2.1
theorem RfL.N7 {u : SG} {m : Nat} (h : RfL u m) : zN u (m + 7) = 400 := h.2.2.2.2.2.2.2.2.2.2.2.2.2.2.2.2.2.2.2.2.2.1
theorem RfL.R17 {u : SG} {m : Nat} (h : RfL u m) : zR u m 17 = some (m + 8) := h.2.2.2.2.2.2.2.2.2.2.2.2.2.2.2.2.2.2.2.2.2.2.1
theorem RfL.K8 {u : SG} {m : Nat} (h : RfL u m) : zK u (m + 8) = 23 := h.2.2.2.2.2.2.2.2.2.2.2.2.2.2.2.2.2.2.2.2.2.2.2.1
theorem RfL.N8 {u : SG} {m : Nat} (h : RfL u m) : zN u (m + 8) = 64 := h.2.2.2.2.2.2.2.2.2.2.2.2.2.2.2.2.2.2.2.2.2.2.2.2.1
theorem RfL.R19 {u : SG} {m : Nat} (h : RfL u m) : zR u m 19 = some (m + 9) := h.2.2.2.2.2.2.2.2.2.2.2.2.2.2.2.2.2.2.2.2.2.2.2.2.2.1
theorem RfL.K9 {u : SG} {m : Nat} (h : RfL u m) : zK u (m + 9) = 23 := h.2.2.2.2.2.2.2.2.2.2.2.2.2.2.2.2.2.2.2.2.2.2.2.2.2.2.1
theorem RfL.N9 {u : SG} {m : Nat} (h : RfL u m) : zN u (m + 9) = 13 := h.2.2.2.2.2.2.2.2.2.2.2.2.2.2.2.2.2.2.2.2.2.2.2.2.2.2.2.1
theorem RfL.R20 {u : SG} {m : Nat} (h : RfL u m) : zR u m 20 = some (m + 10) := h.2.2.2.2.2.2.2.2.2.2.2.2.2.2.2.2.2.2.2.2.2.2.2.2.2.2.2.2.1
theorem RfL.K10 {u : SG} {m : Nat} (h : RfL u m) : zK u (m + 10) = 22 := h.2.2.2.2.2.2.2.2.2.2.2.2.2.2.2.2.2.2.2.2.2.2.2.2.2.2.2.2.2.1
theorem RfL.N10 {u : SG} {m : Nat} (h : RfL u m) : zN u (m + 10) = 144 := h.2.2.2.2.2.2.2.2.2.2.2.2.2.2.2.2.2.2.2.2.2.2.2.2.2.2.2.2.2.2.1
theorem RfL.R23 {u : SG} {m : Nat} (h : RfL u m) : zR u m 23 = some (m + 11) := h.2.2.2.2.2.2.2.2.2.2.2.2.2.2.2.2.2.2.2.2.2.2.2.2.2.2.2.2.2.2.2.1
theorem RfL.K11 {u : SG} {m : Nat} (h : RfL u m) : zK u (m + 11) = 22 := h.2.2.2.2.2.2.2.2.2.2.2.2.2.2.2.2.2.2.2.2.2.2.2.2.2.2.2.2.2.2.2.2.1
theorem RfL.N11 {u : SG} {m : Nat} (h : RfL u m) : zN u (m + 11) = 5 := h.2.2.2.2.2.2.2.2.2.2.2.2.2.2.2.2.2.2.2.2.2.2.2.2.2.2.2.2.2.2.2.2.2.1
theorem RfL.R24 {u : SG} {m : Nat} (h : RfL u m) : zR u m 24 = some (m + 12) := h.2.2.2.2.2.2.2.2.2.2.2.2.2.2.2.2.2.2.2.2.2.2.2.2.2.2.2.2.2.2.2.2.2.2.1
theorem RfL.K12 {u : SG} {m : Nat} (h : RfL u m) : zK u (m + 12) = 22 := h.2.2.2.2.2.2.2.2.2.2.2.2.2.2.2.2.2.2.2.2.2.2.2.2.2.2.2.2.2.2.2.2.2.2.2.1
theorem RfL.N12 {u : SG} {m : Nat} (h : RfL u m) : zN u (m + 12) = 900 := h.2.2.2.2.2.2.2.2.2.2.2.2.2.2.2.2.2.2.2.2.2.2.2.2.2.2.2.2.2.2.2.2.2.2.2.2.1
theorem RfL.R26 {u : SG} {m : Nat} (h : RfL u m) : zR u m 26 = some (m + 13) := h.2.2.2.2.2.2.2.2.2.2.2.2.2.2.2.2.2.2.2.2.2.2.2.2.2.2.2.2.2.2.2.2.2.2.2.2.2.1
theorem RfL.K13 {u : SG} {m : Nat} (h : RfL u m) : zK u (m + 13) = 22 := h.2.2.2.2.2.2.2.2.2.2.2.2.2.2.2.2.2.2.2.2.2.2.2.2.2.2.2.2.2.2.2.2.2.2.2.2.2.2.1
theorem RfL.N13 {u : SG} {m : Nat} (h : RfL u m) : zN u (m + 13) = 45 := h.2.2.2.2.2.2.2.2.2.2.2.2.2.2.2.2.2.2.2.2.2.2.2.2.2.2.2.2.2.2.2.2.2.2.2.2.2.2.2.1
theorem RfL.R29 {u : SG} {m : Nat} (h : RfL u m) : zR u m 29 = some (m + 14) := h.2.2.2.2.2.2.2.2.2.2.2.2.2.2.2.2.2.2.2.2.2.2.2.2.2.2.2.2.2.2.2.2.2.2.2.2.2.2.2.2.1
theorem RfL.K14 {u : SG} {m : Nat} (h : RfL u m) : zK u (m + 14) = 22 := h.2.2.2.2.2.2.2.2.2.2.2.2.2.2.2.2.2.2.2.2.2.2.2.2.2.2.2.2.2.2.2.2.2.2.2.2.2.2.2.2.2.1
theorem RfL.N14 {u : SG} {m : Nat} (h : RfL u m) : zN u (m + 14) = 11 := h.2.2.2.2.2.2.2.2.2.2.2.2.2.2.2.2.2.2.2.2.2.2.2.2.2.2.2.2.2.2.2.2.2.2.2.2.2.2.2.2.2.2.1
theorem RfL.R30 {u : SG} {m : Nat} (h : RfL u m) : zR u m 30 = some (m + 15) := h.2.2.2.2.2.2.2.2.2.2.2.2.2.2.2.2.2.2.2.2.2.2.2.2.2.2.2.2.2.2.2.2.2.2.2.2.2.2.2.2.2.2.2.1
theorem RfL.K15 {u : SG} {m : Nat} (h : RfL u m) : zK u (m + 15) = 22 := h.2.2.2.2.2.2.2.2.2.2.2.2.2.2.2.2.2.2.2.2.2.2.2.2.2.2.2.2.2.2.2.2.2.2.2.2.2.2.2.2.2.2.2.2.1
theorem RfL.N15 {u : SG} {m : Nat} (h : RfL u m) : zN u (m + 15) = 729 := h.2.2.2.2.2.2.2.2.2.2.2.2.2.2.2.2.2.2.2.2.2.2.2.2.2.2.2.2.2.2.2.2.2.2.2.2.2.2.2.2.2.2.2.2.2.1
theorem RfL.R32 {u : SG} {m : Nat} (h : RfL u m) : zR u m 32 = some (m + 16) := h.2.2.2.2.2.2.2.2.2.2.2.2.2.2.2.2.2.2.2.2.2.2.2.2.2.2.2.2.2.2.2.2.2.2.2.2.2.2.2.2.2.2.2.2.2.2.1
theorem RfL.K16 {u : SG} {m : Nat} (h : RfL u m) : zK u (m + 16) = 22 := h.2.2.2.2.2.2.2.2.2.2.2.2.2.2.2.2.2.2.2.2.2.2.2.2.2.2.2.2.2.2.2.2.2.2.2.2.2.2.2.2.2.2.2.2.2.2.2.1
theorem RfL.N16 {u : SG} {m : Nat} (h : RfL u m) : zN u (m + 16) = 576 := h.2.2.2.2.2.2.2.2.2.2.2.2.2.2.2.2.2.2.2.2.2.2.2.2.2.2.2.2.2.2.2.2.2.2.2.2.2.2.2.2.2.2.2.2.2.2.2.2.1
theorem RfL.R33 {u : SG} {m : Nat} (h : RfL u m) : zR u m 33 = some (m + 17) := h.2.2.2.2.2.2.2.2.2.2.2.2.2.2.2.2.2.2.2.2.2.2.2.2.2.2.2.2.2.2.2.2.2.2.2.2.2.2.2.2.2.2.2.2.2.2.2.2.2.1
theorem RfL.K17 {u : SG} {m : Nat} (h : RfL u m) : zK u (m + 17) = 22 := h.2.2.2.2.2.2.2.2.2.2.2.2.2.2.2.2.2.2.2.2.2.2.2.2.2.2.2.2.2.2.2.2.2.2.2.2.2.2.2.2.2.2.2.2.2.2.2.2.2.2.1
theorem RfL.N17 {u : SG} {m : Nat} (h : RfL u m) : zN u (m + 17) = 4 := h.2.2.2.2.2.2.2.2.2.2.2.2.2.2.2.2.2.2.2.2.2.2.2.2.2.2.2.2.2.2.2.2.2.2.2.2.2.2.2.2.2.2.2.2.2.2.2.2.2.2.2.1
theorem RfL.R34 {u : SG} {m : Nat} (h : RfL u m) : zR u m 34 = some (m + 18) := h.2.2.2.2.2.2.2.2.2.2.2.2.2.2.2.2.2.2.2.2.2.2.2.2.2.2.2.2.2.2.2.2.2.2.2.2.2.2.2.2.2.2.2.2.2.2.2.2.2.2.2.2.1
theorem RfL.K18 {u : SG} {m : Nat} (h : RfL u m) : zK u (m + 18) = 22 := h.2.2.2.2.2.2.2.2.2.2.2.2.2.2.2.2.2.2.2.2.2.2.2.2.2.2.2.2.2.2.2.2.2.2.2.2.2.2.2.2.2.2.2.2.2.2.2.2.2.2.2.2.2.1
theorem RfL.N18 {u : SG} {m : Nat} (h : RfL u m) : zN u (m + 18) = 4 := h.2.2.2.2.2.2.2.2.2.2.2.2.2.2.2.2.2.2.2.2.2.2.2.2.2.2.2.2.2.2.2.2.2.2.2.2.2.2.2.2.2.2.2.2.2.2.2.2.2.2.2.2.2.2.1
theorem RfL.R35 {u : SG} {m : Nat} (h : RfL u m) : zR u m 35 = some (m + 19) := h.2.2.2.2.2.2.2.2.2.2.2.2.2.2.2.2.2.2.2.2.2.2.2.2.2.2.2.2.2.2.2.2.2.2.2.2.2.2.2.2.2.2.2.2.2.2.2.2.2.2.2.2.2.2.2.1
theorem RfL.K19 {u : SG} {m : Nat} (h : RfL u m) : zK u (m + 19) = 24 := h.2.2.2.2.2.2.2.2.2.2.2.2.2.2.2.2.2.2.2.2.2.2.2.2.2.2.2.2.2.2.2.2.2.2.2.2.2.2.2.2.2.2.2.2.2.2.2.2.2.2.2.2.2.2.2.2.1
theorem RfL.N19 {u : SG} {m : Nat} (h : RfL u m) : zN u (m + 19) = 4 := h.2.2.2.2.2.2.2.2.2.2.2.2.2.2.2.2.2.2.2.2.2.2.2.2.2.2.2.2.2.2.2.2.2.2.2.2.2.2.2.2.2.2.2.2.2.2.2.2.2.2.2.2.2.2.2.2.2
theorem RfL.fr {P : Nat → Prop} {u v : SG} {m : Nat} (h : RfL u m) (f : Fr P u v) : RfL v m := by
  unfold RfL at h ⊢
  simp only [f.K, f.N, f.R]
  exact h
theorem lit_0 : (0 : Int32) = nI 0 := rfl
theorem lit_1 : (1 : Int32) = nI 1 := rfl
theorem lit_2 : (2 : Int32) = nI 2 := rfl
theorem lit_3 : (3 : Int32) = nI 3 := rfl
theorem lit_4 : (4 : Int32) = nI 4 := rfl
theorem lit_5 : (5 : Int32) = nI 5 := rfl
theorem lit_6 : (6 : Int32) = nI 6 := rfl
theorem lit_7 : (7 : Int32) = nI 7 := rfl
theorem lit_8 : (8 : Int32) = nI 8 := rfl
theorem lit_9 : (9 : Int32) = nI 9 := rfl
theorem lit_10 : (10 : Int32) = nI 10 := rfl
theorem lit_11 : (11 : Int32) = nI 11 := rfl
theorem lit_12 : (12 : Int32) = nI 12 := rfl
theorem lit_13 : (13 : Int32) = nI 13 := rfl
theorem lit_14 : (14 : Int32) = nI 14 := rfl
theorem lit_15 : (15 : Int32) = nI 15 := rfl
theorem lit_16 : (16 : Int32) = nI 16 := rfl
theorem lit_18 : (18 : Int32) = nI 18 := rfl
theorem lit_20 : (20 : Int32) = nI 20 := rfl
theorem lit_22 : (22 : Int32) = nI 22 := rfl
theorem lit_24 : (24 : Int32) = nI 24 := rfl
theorem lit_25 : (25 : Int32) = nI 25 := rfl
theorem lit_26 : (26 : Int32) = nI 26 := rfl
theorem lit_27 : (27 : Int32) = nI 27 := rfl
theorem lit_31 : (31 : Int32) = nI 31 := rfl
theorem lit_32 : (32 : Int32) = nI 32 := rfl
theorem lit_37 : (37 : Int32) = nI 37 := rfl
theorem lit_40 : (40 : Int32) = nI 40 := rfl
theorem lit_41 : (41 : Int32) = nI 41 := rfl
theorem lit_42 : (42 : Int32) = nI 42 := rfl
theorem lit_43 : (43 : Int32) = nI 43 := rfl
theorem lit_44 : (44 : Int32) = nI 44 := rfl
theorem lit_45 : (45 : Int32) = nI 45 := rfl
theorem lit_46 : (46 : Int32) = nI 46 := rfl
theorem lit_47 : (47 : Int32) = nI 47 := rfl
theorem lit_48 : (48 : Int32) = nI 48 := rfl
theorem lit_53 : (53 : Int32) = nI 53 := rfl
theorem lit_57 : (57 : Int32) = nI 57 := rfl
theorem lit_59 : (59 : Int32) = nI 59 := rfl
theorem lit_60 : (60 : Int32) = nI 60 := rfl
theorem lit_61 : (61 : Int32) = nI 61 := rfl
theorem lit_62 : (62 : Int32) = nI 62 := rfl
theorem lit_63 : (63 : Int32) = nI 63 := rfl
theorem lit_64 : (64 : Int32) = nI 64 := rfl
theorem lit_65 : (65 : Int32) = nI 65 := rfl
theorem lit_69 : (69 : Int32) = nI 69 := rfl
theorem lit_70 : (70 : Int32) = nI 70 := rfl
theorem lit_79 : (79 : Int32) = nI 79 := rfl
theorem lit_80 : (80 : Int32) = nI 80 := rfl
theorem lit_81 : (81 : Int32) = nI 81 := rfl
theorem lit_85 : (85 : Int32) = nI 85 := rfl
theorem lit_91 : (91 : Int32) = nI 91 := rfl
theorem lit_93 : (93 : Int32) = nI 93 := rfl
theorem lit_97 : (97 : Int32) = nI 97 := rfl
theorem lit_99 : (99 : Int32) = nI 99 := rfl
theorem lit_100 : (100 : Int32) = nI 100 := rfl
theorem lit_103 : (103 : Int32) = nI 103 := rfl
theorem lit_122 : (122 : Int32) = nI 122 := rfl
theorem lit_143 : (143 : Int32) = nI 143 := rfl
theorem lit_144 : (144 : Int32) = nI 144 := rfl
theorem lit_255 : (255 : Int32) = nI 255 := rfl
theorem lit_300 : (300 : Int32) = nI 300 := rfl
theorem lit_399 : (399 : Int32) = nI 399 := rfl
theorem lit_400 : (400 : Int32) = nI 400 := rfl
theorem lit_412 : (412 : Int32) = nI 412 := rfl
theorem lit_999 : (999 : Int32) = nI 999 := rfl
theorem lit_65536 : (65536 : Int32) = nI 65536 := rfl
theorem lit_99999 : (99999 : Int32) = nI 99999 := rfl
theorem cl_some {α β : Type} (r : α) (u : SG) (k : α → SG → Option β) : cl (some (r, u)) k = k r u := rfl
theorem bs_eq {α β : Type} (x : α) (k : α → Option β) : bs x k = k x := rfl
def b2 (b : Bool) : Int32 := if b then 1 else 0
theorem b2_01 (b : Bool) : b2 b = 0 ∨ b2 b = 1 := by cases b <;> simp [b2]
/-- costOf -/
theorem s_costOf {N m l : Nat} {u : SG} (h : RfL u m) (hl : l < 5) : fX11_costOf N m (nI l) u = some (zI u (m + 10) (70 + 2 * l), u) := by
  unfold fX11_costOf
  simp (disch := omega) only [lit_69, lit_2, lit_1, lit_0, h.K, h.R20, h.K10, h.N10, pk_mul, nI_add, nI_clamp, nI_ltI, if_true, Option.bind_some]
  rw [if_neg (by omega)]
  congr 3
  omega
