set_option maxRecDepth 20000 in
theorem fr_X0_clear {P : Nat → Prop} (N : Nat)   (a0 : Nat) (u : SG) : Cl P u → P a0 → FQ P u (fun _ => True) (fX0_clear N  a0 u) := by
  intro hP h_a0
  have h_u : Fr P u u := Fr.rf
  unfold fX0_clear
  refine fq_if (fq_sI h_u h_a0 (fun u1 h_u1 => ?_)) fq_none
  exact fq_ret h_u1 trivial
set_option maxRecDepth 20000 in
theorem fr_X2_copyOf {P : Nat → Prop} (N : Nat)   (a0 : Nat) (p1 : Nat) (u : SG) : Cl P u → P a0 → P p1 → FQ P u (fun _ => True) (fX2_copyOf N  a0 p1 u) := by
  intro hP h_a0 h_p1
  have h_u : Fr P u u := Fr.rf
  unfold fX2_copyOf
  refine fq_if ?_ fq_none
  refine fq_if (fq_sI h_u h_a0 (fun u1 h_u1 => ?_)) fq_none
  refine fq_if ?_ fq_none
  refine fq_if (fq_sI h_u1 h_a0 (fun u2 h_u2 => ?_)) fq_none
  refine fq_if ?_ fq_none
  refine fq_if (fq_sI h_u2 h_a0 (fun u3 h_u3 => ?_)) fq_none
  refine fq_if ?_ fq_none
  refine fq_if (fq_sI h_u3 h_a0 (fun u4 h_u4 => ?_)) fq_none
  refine fq_if ?_ fq_none
  refine fq_if (fq_sI h_u4 h_a0 (fun u5 h_u5 => ?_)) fq_none
  refine fq_if ?_ fq_none
  refine fq_bR h_u5 hP h_p1 (fun q6 h_q6 => ?_)
  refine fq_if ?_ fq_none
  refine fq_bR h_u5 hP h_a0 (fun q7 h_q7 => ?_)
  refine fq_if (fq_if (fq_if fq_none (fq_sIr h_u5 h_q7 (fun u8 h_u8 => ?_))) fq_none) fq_none
  refine fq_if ?_ fq_none
  refine fq_bR h_u8 hP h_p1 (fun q9 h_q9 => ?_)
  refine fq_if ?_ fq_none
  refine fq_bR h_u8 hP h_a0 (fun q10 h_q10 => ?_)
  refine fq_if (fq_if (fq_if fq_none (fq_sIr h_u8 h_q10 (fun u11 h_u11 => ?_))) fq_none) fq_none
  refine fq_if ?_ fq_none
  refine fq_bR h_u11 hP h_p1 (fun q12 h_q12 => ?_)
  refine fq_if ?_ fq_none
  refine fq_bR h_u11 hP h_a0 (fun q13 h_q13 => ?_)
  refine fq_if (fq_if (fq_if fq_none (fq_sLr h_u11 h_q13 (fun u14 h_u14 => ?_))) fq_none) fq_none
  exact fq_ret h_u14 trivial
set_option maxRecDepth 20000 in
theorem fr_J9_min_7cf53 {P : Nat → Prop} (N : Nat)   (p1 : Int32) (p2 : Int32) (u : SG) : Cl P u → FQ P u (fun _ => True) (fJ9_min_7cf53 N  p1 p2 u) := by
  intro hP
  have h_u : Fr P u u := Fr.rf
  unfold fJ9_min_7cf53
  refine fq_if ?_ ?_
  · exact fq_ret h_u trivial
  · exact fq_ret h_u trivial
set_option maxRecDepth 20000 in
theorem frgX0_keep_21 {P : Nat → Prop} (N : Nat)     (x0 : Nat) (x1 : Nat) (u : SG) : Cl P u → P x0 → P x1 → FQ P u (fun _ => True) (gX0_keep_21 N   x0 x1 u) := by
  intro hP h_x0 h_x1
  have h_u : Fr P u u := Fr.rf
  unfold gX0_keep_21
  refine fq_if ?_ fq_none
  refine fq_bR h_u hP h_x0 (fun q1 h_q1 => ?_)
  refine fq_if ?_ fq_none
  refine fq_if (fq_if fq_none ?_) fq_none
  refine fq_bR h_u hP h_q1 (fun q2 h_q2 => ?_)
  refine fq_if (fq_cl h_u (fr_X2_copyOf N q2 x1 u (hP.tr h_u) h_q2 h_x1) (fun r3 u4 h_u4 h_r3 => ?_)) fq_none
  refine fq_if ?_ fq_none
  refine fq_if fq_none ?_
  refine fq_if (fq_sI h_u4 h_x0 (fun u5 h_u5 => ?_)) fq_none
  refine fq_if ?_ fq_none
  refine fq_cl h_u5 (fr_J9_min_7cf53 N (20 : Int32) ((zI u5 x0 2) + (1 : Int32)) u5 (hP.tr h_u5) ) (fun r6 u7 h_u7 h_r6 => ?_)
  refine fq_if (fq_sI h_u7 h_x0 (fun u8 h_u8 => ?_)) fq_none
  exact fq_ret h_u8 trivial
set_option maxRecDepth 20000 in
theorem frgX0_keep_16 {P : Nat → Prop} (N : Nat)     (x0 : Nat) (x1 : Nat) (u : SG) : Cl P u → P x0 → P x1 → FQ P u (fun _ => True) (gX0_keep_16 N   x0 x1 u) := by
  intro hP h_x0 h_x1
  have h_u : Fr P u u := Fr.rf
  unfold gX0_keep_16
  refine fq_if (fq_sI h_u h_x0 (fun u1 h_u1 => ?_)) fq_none
  exact fq_tr h_u1 (frgX0_keep_21 N   x0 x1 u1 (hP.tr h_u1) h_x0 h_x1)
set_option maxRecDepth 20000 in
theorem fr_X0_keep {P : Nat → Prop} (N : Nat)   (a0 : Nat) (p1 : Nat) (u : SG) : Cl P u → P a0 → P p1 → FQ P u (fun _ => True) (fX0_keep N  a0 p1 u) := by
  intro hP h_a0 h_p1
  have h_u : Fr P u u := Fr.rf
  unfold fX0_keep
  refine fq_if ?_ fq_none
  refine fq_if ?_ ?_
  · exact fq_tr h_u (frgX0_keep_16 N   a0 p1 u (hP.tr h_u) h_a0 h_p1)
  · refine fq_if ?_ fq_none
    refine fq_if ?_ ?_
    · exact fq_tr h_u (frgX0_keep_21 N   a0 p1 u (hP.tr h_u) h_a0 h_p1)
    · exact fq_tr h_u (frgX0_keep_16 N   a0 p1 u (hP.tr h_u) h_a0 h_p1)
set_option maxRecDepth 20000 in
theorem fr_J9_floorMod_7cf53 {P : Nat → Prop} (N : Nat)   (p1 : Int32) (p2 : Int32) (u : SG) : Cl P u → FQ P u (fun _ => True) (fJ9_floorMod_7cf53 N  p1 p2 u) := by
  intro hP
  have h_u : Fr P u u := Fr.rf
  unfold fJ9_floorMod_7cf53
  refine fq_if fq_none ?_
  refine fq_bs (fun v1 => ?_)
  refine fq_if ?_ ?_
  · exact fq_ret h_u trivial
  · refine fq_if ?_ ?_
    · exact fq_ret h_u trivial
    · exact fq_ret h_u trivial
set_option maxRecDepth 20000 in
theorem fr_X0_takeBack {P : Nat → Prop} (N : Nat)   (a0 : Nat) (p1 : Nat) (u : SG) : Cl P u → P a0 → P p1 → FQ P u (fun _ => True) (fX0_takeBack N  a0 p1 u) := by
  intro hP h_a0 h_p1
  have h_u : Fr P u u := Fr.rf
  unfold fX0_takeBack
  refine fq_if ?_ fq_none
  refine fq_if ?_ ?_
  · refine fq_if ?_ fq_none
    refine fq_cl h_u (fr_J9_floorMod_7cf53 N ((zI u a0 1) - (1 : Int32)) (20 : Int32) u (hP.tr h_u) ) (fun r1 u2 h_u2 h_r1 => ?_)
    refine fq_if (fq_sI h_u2 h_a0 (fun u3 h_u3 => ?_)) fq_none
    refine fq_if ?_ fq_none
    refine fq_bR h_u3 hP h_a0 (fun q4 h_q4 => ?_)
    refine fq_if ?_ fq_none
    refine fq_if (fq_if fq_none ?_) fq_none
    refine fq_bR h_u3 hP h_q4 (fun q5 h_q5 => ?_)
    refine fq_if (fq_cl h_u3 (fr_X2_copyOf N p1 q5 u3 (hP.tr h_u3) h_p1 h_q5) (fun r6 u7 h_u7 h_r6 => ?_)) fq_none
    refine fq_if ?_ fq_none
    refine fq_if (fq_sI h_u7 h_a0 (fun u8 h_u8 => ?_)) fq_none
    exact fq_ret h_u8 trivial
  · exact fq_ret h_u trivial
set_option maxRecDepth 20000 in
theorem fr_X1_clear {P : Nat → Prop} (N : Nat)   (a0 : Nat) (u : SG) : Cl P u → P a0 → FQ P u (fun _ => True) (fX1_clear N  a0 u) := by
  intro hP h_a0
  have h_u : Fr P u u := Fr.rf
  unfold fX1_clear
  refine fq_if (fq_sI h_u h_a0 (fun u1 h_u1 => ?_)) fq_none
  exact fq_ret h_u1 trivial
set_option maxRecDepth 20000 in
theorem fr_X1_copyOf {P : Nat → Prop} (N : Nat)   (a0 : Nat) (p1 : Nat) (u : SG) : Cl P u → P a0 → P p1 → FQ P u (fun _ => True) (fX1_copyOf N  a0 p1 u) := by
  intro hP h_a0 h_p1
  have h_u : Fr P u u := Fr.rf
  unfold fX1_copyOf
  refine fq_if ?_ fq_none
  refine fq_if (fq_sI h_u h_a0 (fun u1 h_u1 => ?_)) fq_none
  refine fq_if ?_ fq_none
  refine fq_bR h_u1 hP h_p1 (fun q2 h_q2 => ?_)
  refine fq_if ?_ fq_none
  refine fq_bR h_u1 hP h_a0 (fun q3 h_q3 => ?_)
  refine fq_if (fq_if (fq_if fq_none (fq_sIr h_u1 h_q3 (fun u4 h_u4 => ?_))) fq_none) fq_none
  refine fq_if ?_ fq_none
  refine fq_bR h_u4 hP h_p1 (fun q5 h_q5 => ?_)
  refine fq_if ?_ fq_none
  refine fq_bR h_u4 hP h_a0 (fun q6 h_q6 => ?_)
  refine fq_if (fq_if (fq_if fq_none (fq_sIr h_u4 h_q6 (fun u7 h_u7 => ?_))) fq_none) fq_none
  refine fq_if ?_ fq_none
  refine fq_bR h_u7 hP h_p1 (fun q8 h_q8 => ?_)
  refine fq_if ?_ fq_none
  refine fq_bR h_u7 hP h_a0 (fun q9 h_q9 => ?_)
  refine fq_if (fq_if (fq_if fq_none (fq_sIr h_u7 h_q9 (fun u10 h_u10 => ?_))) fq_none) fq_none
  refine fq_if ?_ fq_none
  refine fq_bR h_u10 hP h_p1 (fun q11 h_q11 => ?_)
  refine fq_if ?_ fq_none
  refine fq_bR h_u10 hP h_a0 (fun q12 h_q12 => ?_)
  refine fq_if (fq_if (fq_if fq_none (fq_sIr h_u10 h_q12 (fun u13 h_u13 => ?_))) fq_none) fq_none
  exact fq_ret h_u13 trivial
set_option maxRecDepth 20000 in
theorem fr_X1_add {P : Nat → Prop} (N : Nat)   (a0 : Nat) (p1 : Int32) (p2 : Int32) (p3 : Int32) (p4 : Int32) (u : SG) : Cl P u → P a0 → FQ P u (fun _ => True) (fX1_add N  a0 p1 p2 p3 p4 u) := by
  intro hP h_a0
  have h_u : Fr P u u := Fr.rf
  unfold fX1_add
  refine fq_if ?_ fq_none
  refine fq_if ?_ ?_
  · exact fq_ret h_u trivial
  · refine fq_if ?_ fq_none
    refine fq_if ?_ ?_
    · refine fq_if ?_ fq_none
      refine fq_bR h_u hP h_a0 (fun q1 h_q1 => ?_)
      refine fq_if ?_ fq_none
      refine fq_if (fq_if fq_none (fq_sI h_u h_q1 (fun u2 h_u2 => ?_))) fq_none
      refine fq_if ?_ fq_none
      refine fq_bR h_u2 hP h_a0 (fun q3 h_q3 => ?_)
      refine fq_if ?_ fq_none
      refine fq_if (fq_if fq_none (fq_sI h_u2 h_q3 (fun u4 h_u4 => ?_))) fq_none
      refine fq_if ?_ fq_none
      refine fq_bR h_u4 hP h_a0 (fun q5 h_q5 => ?_)
      refine fq_if ?_ fq_none
      refine fq_if (fq_if fq_none (fq_sI h_u4 h_q5 (fun u6 h_u6 => ?_))) fq_none
      refine fq_if ?_ fq_none
      refine fq_bR h_u6 hP h_a0 (fun q7 h_q7 => ?_)
      refine fq_if ?_ fq_none
      refine fq_if (fq_if fq_none (fq_sI h_u6 h_q7 (fun u8 h_u8 => ?_))) fq_none
      refine fq_if ?_ fq_none
      refine fq_if (fq_sI h_u8 h_a0 (fun u9 h_u9 => ?_)) fq_none
      exact fq_ret h_u9 trivial
    · exact fq_ret h_u trivial
set_option maxRecDepth 20000 in
theorem fr_J6_bitCount_0f7a4 {P : Nat → Prop} (N : Nat)   (p1 : Int32) (u : SG) : Cl P u → FQ P u (fun _ => True) (fJ6_bitCount_0f7a4 N  p1 u) := by
  intro hP
  have h_u : Fr P u u := Fr.rf
  unfold fJ6_bitCount_0f7a4
  refine fq_bs (fun v1 => ?_)
  refine fq_bs (fun v2 => ?_)
  refine fq_bs (fun v3 => ?_)
  refine fq_bs (fun v4 => ?_)
  refine fq_bs (fun v5 => ?_)
  exact fq_ret h_u trivial
set_option maxRecDepth 20000 in
theorem fr_X10_bitOf {P : Nat → Prop} (N : Nat)   (p1 : Int32) (p2 : Int32) (u : SG) : Cl P u → FQ P u (fun _ => True) (fX10_bitOf N  p1 p2 u) := by
  intro hP
  have h_u : Fr P u u := Fr.rf
  unfold fX10_bitOf
  exact fq_ret h_u trivial
set_option maxRecDepth 20000 in
theorem frgX1_allows_24 {P : Nat → Prop} (N : Nat)     (x0 : Nat) (x1 : Int32) (x3 : Int32) (s0 : Int32) (u : SG) : Cl P u → P x0 → FQ P u (fun _ => True) (gX1_allows_24 N   x0 x1 x3 s0 u) := by
  intro hP h_x0
  have h_u : Fr P u u := Fr.rf
  unfold gX1_allows_24
  refine fq_if ?_ fq_none
  refine fq_bR h_u hP h_x0 (fun q1 h_q1 => ?_)
  refine fq_if (fq_if fq_none ?_) fq_none
  refine fq_bs (fun v2 => ?_)
  refine fq_if ?_ ?_
  · exact fq_if (fq_ret h_u trivial) fq_none
  refine fq_if ?_ ?_
  · refine fq_if ?_ ?_
    · exact fq_ret h_u trivial
    · exact fq_ret h_u trivial
  refine fq_if ?_ ?_
  · refine fq_if ?_ fq_none
    refine fq_bR h_u hP h_x0 (fun q3 h_q3 => ?_)
    refine fq_if (fq_if fq_none ?_) fq_none
    refine fq_if ?_ ?_
    · exact fq_ret h_u trivial
    · exact fq_ret h_u trivial
  refine fq_if ?_ ?_
  · refine fq_if ?_ fq_none
    refine fq_bR h_u hP h_x0 (fun q4 h_q4 => ?_)
    refine fq_if (fq_if fq_none ?_) fq_none
    refine fq_if ?_ ?_
    · exact fq_ret h_u trivial
    · exact fq_ret h_u trivial
  refine fq_if ?_ ?_
  · refine fq_if ?_ ?_
    · exact fq_ret h_u trivial
    · refine fq_if ?_ fq_none
      refine fq_bR h_u hP h_x0 (fun q5 h_q5 => ?_)
      refine fq_if (fq_if fq_none ?_) fq_none
      refine fq_if ?_ fq_none
      refine fq_bR h_u hP h_x0 (fun q6 h_q6 => ?_)
      refine fq_if (fq_if fq_none ?_) fq_none
      refine fq_if ?_ ?_
      · exact fq_ret h_u trivial
      · exact fq_ret h_u trivial
  refine fq_if ?_ ?_
  · exact fq_ret h_u trivial
  · refine fq_if ?_ fq_none
    refine fq_bR h_u hP h_x0 (fun q7 h_q7 => ?_)
    refine fq_if (fq_if fq_none ?_) fq_none
    refine fq_if ?_ fq_none
    refine fq_bR h_u hP h_x0 (fun q8 h_q8 => ?_)
    refine fq_if (fq_if fq_none ?_) fq_none
    refine fq_if ?_ ?_
    · exact fq_ret h_u trivial
    · exact fq_ret h_u trivial
set_option maxRecDepth 20000 in
theorem fr_X1_allows {P : Nat → Prop} (N : Nat)   (a0 : Nat) (p1 : Int32) (p2 : Int32) (u : SG) : Cl P u → P a0 → FQ P u (fun _ => True) (fX1_allows N  a0 p1 p2 u) := by
  intro hP h_a0
  have h_u : Fr P u u := Fr.rf
  unfold fX1_allows
  refine fq_cl h_u (fr_J6_bitCount_0f7a4 N p2 u (hP.tr h_u) ) (fun r1 u2 h_u2 h_r1 => ?_)
  refine fq_if ?_ fq_none
  refine fq_bR h_u2 hP h_a0 (fun q3 h_q3 => ?_)
  refine fq_if (fq_if fq_none ?_) fq_none
  refine fq_cl h_u2 (fr_X10_bitOf N p2 (zI u2 q3 p1.toNatClampNeg) u2 (hP.tr h_u2) ) (fun r4 u5 h_u5 h_r4 => ?_)
  refine fq_if ?_ ?_
  · exact fq_tr h_u5 (frgX1_allows_24 N   a0 p1 r1 (1 : Int32) u5 (hP.tr h_u5) h_a0)
  · exact fq_tr h_u5 (frgX1_allows_24 N   a0 p1 r1 (0 : Int32) u5 (hP.tr h_u5) h_a0)
set_option maxRecDepth 20000 in
theorem frgX1_allow_2 {P : Nat → Prop} (N : Nat)     : ∀ (n : Nat) (x0 : Nat) (x1 : Int32) (x2 : Int32) (u : SG), Cl P u → P x0 → FQ P u (fun _ => True) (gX1_allow_2 N   n x0 x1 x2 u) := by
  intro n
  induction n with
  | zero => intros; intro r u9 h9; exact absurd h9 (by simp [gX1_allow_2])
  | succ n ih =>
    intro x0 x1 x2 u hP h_x0
    have hrec2 := ih
    have h_u : Fr P u u := Fr.rf
    rw [gX1_allow_2]
    refine fq_if ?_ fq_none
    refine fq_if ?_ ?_
    · exact fq_ret h_u trivial
    · refine fq_if ?_ ?_
      · exact fq_ret h_u trivial
      · refine fq_if (fq_cl h_u (fr_X1_allows N x0 x2 x1 u (hP.tr h_u) h_x0 ) (fun r1 u2 h_u2 h_r1 => ?_)) fq_none
        refine fq_if ?_ ?_
        · exact fq_ret h_u2 trivial
        · exact fq_tr h_u2 (hrec2 x0 x1 (x2 + (1 : Int32)) u2 (hP.tr h_u2) h_x0)
set_option maxRecDepth 20000 in
theorem fr_X1_allow {P : Nat → Prop} (N : Nat)   (a0 : Nat) (p1 : Int32) (u : SG) : Cl P u → P a0 → FQ P u (fun _ => True) (fX1_allow N  a0 p1 u) := by
  intro hP h_a0
  have h_u : Fr P u u := Fr.rf
  unfold fX1_allow
  exact fq_tr h_u (frgX1_allow_2 N   N a0 p1 (0 : Int32) u (hP.tr h_u) h_a0)
set_option maxRecDepth 20000 in
theorem frgX2_clear_34 {P : Nat → Prop} (N : Nat)     : ∀ (n : Nat) (x0 : Nat) (x1 : Int32) (u : SG), Cl P u → P x0 → FQ P u (fun _ => True) (gX2_clear_34 N   n x0 x1 u) := by
  intro n
  induction n with
  | zero => intros; intro r u9 h9; exact absurd h9 (by simp [gX2_clear_34])
  | succ n ih =>
    intro x0 x1 u hP h_x0
    have hrec34 := ih
    have h_u : Fr P u u := Fr.rf
    rw [gX2_clear_34]
    refine fq_if ?_ ?_
    · exact fq_ret h_u trivial
    · refine fq_if ?_ fq_none
      refine fq_bR h_u hP h_x0 (fun q1 h_q1 => ?_)
      refine fq_if (fq_if fq_none (fq_sI h_u h_q1 (fun u2 h_u2 => ?_))) fq_none
      refine fq_if ?_ fq_none
      refine fq_bR h_u2 hP h_x0 (fun q3 h_q3 => ?_)
      refine fq_if (fq_if fq_none (fq_sI h_u2 h_q3 (fun u4 h_u4 => ?_))) fq_none
      refine fq_if ?_ fq_none
      refine fq_bR h_u4 hP h_x0 (fun q5 h_q5 => ?_)
      refine fq_if (fq_if fq_none (fq_sL h_u4 h_q5 (fun u6 h_u6 => ?_))) fq_none
      exact fq_tr h_u6 (hrec34 x0 (x1 + (1 : Int32)) u6 (hP.tr h_u6) h_x0)
set_option maxRecDepth 20000 in
theorem fr_X2_clear {P : Nat → Prop} (N : Nat)   (a0 : Nat) (u : SG) : Cl P u → P a0 → FQ P u (fun _ => True) (fX2_clear N  a0 u) := by
  intro hP h_a0
  have h_u : Fr P u u := Fr.rf
  unfold fX2_clear
  refine fq_if (fq_sI h_u h_a0 (fun u1 h_u1 => ?_)) fq_none
  refine fq_if (fq_sI h_u1 h_a0 (fun u2 h_u2 => ?_)) fq_none
  refine fq_if (fq_sI h_u2 h_a0 (fun u3 h_u3 => ?_)) fq_none
  refine fq_if (fq_sI h_u3 h_a0 (fun u4 h_u4 => ?_)) fq_none
  refine fq_if (fq_sI h_u4 h_a0 (fun u5 h_u5 => ?_)) fq_none
  refine fq_if ?_ fq_none
  refine fq_bR h_u5 hP h_a0 (fun q6 h_q6 => ?_)
  refine fq_if (fq_if fq_none (fq_sL h_u5 h_q6 (fun u7 h_u7 => ?_))) fq_none
  exact fq_tr h_u7 (frgX2_clear_34 N   N a0 (0 : Int32) u7 (hP.tr h_u7) h_a0)
set_option maxRecDepth 20000 in
theorem fr_X2_isLast {P : Nat → Prop} (N : Nat)   (a0 : Nat) (p1 : Nat) (u : SG) : Cl P u → P a0 → P p1 → FQ P u (fun _ => True) (fX2_isLast N  a0 p1 u) := by
  intro hP h_a0 h_p1
  have h_u : Fr P u u := Fr.rf
  unfold fX2_isLast
  refine fq_if ?_ fq_none
  refine fq_if ?_ ?_
  · exact fq_ret h_u trivial
  · refine fq_if ?_ fq_none
    refine fq_if ?_ fq_none
    refine fq_if ?_ ?_
    · exact fq_ret h_u trivial
    · exact fq_ret h_u trivial
set_option maxRecDepth 20000 in
theorem fr_X7_litAt {P : Nat → Prop} (N : Nat)   (a0 : Nat) (p1 : Int32) (u : SG) : Cl P u → P a0 → FQ P u (fun _ => True) (fX7_litAt N  a0 p1 u) := by
  intro hP h_a0
  have h_u : Fr P u u := Fr.rf
  unfold fX7_litAt
  refine fq_if ?_ ?_
  · exact fq_ret h_u trivial
  · refine fq_if ?_ ?_
    · exact fq_ret h_u trivial
    · refine fq_if ?_ fq_none
      refine fq_bR h_u hP h_a0 (fun q1 h_q1 => ?_)
      refine fq_if (fq_if fq_none ?_) fq_none
      exact fq_ret h_u trivial
set_option maxRecDepth 20000 in
theorem fr_X2_burningAt {P : Nat → Prop} (N : Nat)   (a0 : Nat) (p1 : Nat) (p2 : Int32) (u : SG) : Cl P u → P a0 → P p1 → FQ P u (fun _ => True) (fX2_burningAt N  a0 p1 p2 u) := by
  intro hP h_a0 h_p1
  have h_u : Fr P u u := Fr.rf
  unfold fX2_burningAt
  refine fq_if (fq_cl h_u (fr_X7_litAt N p1 p2 u (hP.tr h_u) h_p1 ) (fun r1 u2 h_u2 h_r1 => ?_)) fq_none
  refine fq_if ?_ fq_none
  refine fq_if ?_ fq_none
  exact fq_ret h_u2 trivial
set_option maxRecDepth 20000 in
theorem frgX2_setLamp_26 {P : Nat → Prop} (N : Nat)     (x0 : Nat) (x2 : Int32) (x3 : Int32) (s0 : Nat) (s1 : Int32) (u : SG) : Cl P u → P x0 → P s0 → FQ P u (fun _ => True) (gX2_setLamp_26 N   x0 x2 x3 s0 s1 u) := by
  intro hP h_x0 h_s0
  have h_u : Fr P u u := Fr.rf
  unfold gX2_setLamp_26
  refine fq_if (fq_sI h_u h_s0 (fun u1 h_u1 => ?_)) fq_none
  refine fq_if ?_ ?_
  · refine fq_if ?_ fq_none
    refine fq_if (fq_sI h_u1 h_x0 (fun u2 h_u2 => ?_)) fq_none
    exact fq_ret h_u2 trivial
  · refine fq_if ?_ fq_none
    refine fq_if (fq_sI h_u1 h_x0 (fun u3 h_u3 => ?_)) fq_none
    exact fq_ret h_u3 trivial
set_option maxRecDepth 20000 in
theorem fr_X2_setLamp {P : Nat → Prop} (N : Nat)   (a0 : Nat) (p1 : Int32) (p2 : Int32) (u : SG) : Cl P u → P a0 → FQ P u (fun _ => True) (fX2_setLamp N  a0 p1 p2 u) := by
  intro hP h_a0
  have h_u : Fr P u u := Fr.rf
  unfold fX2_setLamp
  refine fq_bs (fun v1 => ?_)
  refine fq_if ?_ ?_
  · refine fq_if ?_ fq_none
    exact fq_tr h_u (frgX2_setLamp_26 N   a0 p2 v1 a0 ((zI u a0 3) &&& (v1 ^^^ (-1 : Int32))) u (hP.tr h_u) h_a0 h_a0)
  · refine fq_if ?_ fq_none
    exact fq_tr h_u (frgX2_setLamp_26 N   a0 p2 v1 a0 ((zI u a0 3) ||| v1) u (hP.tr h_u) h_a0 h_a0)
set_option maxRecDepth 20000 in
theorem fr_J9_max_7cf53 {P : Nat → Prop} (N : Nat)   (p1 : Int32) (p2 : Int32) (u : SG) : Cl P u → FQ P u (fun _ => True) (fJ9_max_7cf53 N  p1 p2 u) := by
  intro hP
  have h_u : Fr P u u := Fr.rf
  unfold fJ9_max_7cf53
  refine fq_if ?_ ?_
  · exact fq_ret h_u trivial
  · exact fq_ret h_u trivial
set_option maxRecDepth 20000 in
theorem frgX2_goOn_60 {P : Nat → Prop} (N : Nat)     : ∀ (n : Nat) (x0 : Nat) (x1 : Nat) (x2 : Int32) (u : SG), Cl P u → P x0 → P x1 → FQ P u (fun _ => True) (gX2_goOn_60 N   n x0 x1 x2 u) := by
  intro n
  induction n with
  | zero => intros; intro r u9 h9; exact absurd h9 (by simp [gX2_goOn_60])
  | succ n ih =>
    intro x0 x1 x2 u hP h_x0 h_x1
    have hrec60 := ih
    have h_u : Fr P u u := Fr.rf
    rw [gX2_goOn_60]
    refine fq_if ?_ fq_none
    refine fq_if ?_ ?_
    · exact fq_ret h_u trivial
    · refine fq_if ?_ fq_none
      refine fq_bR h_u hP h_x0 (fun q1 h_q1 => ?_)
      refine fq_if (fq_if fq_none ?_) fq_none
      refine fq_if ?_ fq_none
      refine fq_bR h_u hP h_x1 (fun q2 h_q2 => ?_)
      refine fq_if (fq_if fq_none ?_) fq_none
      refine fq_if ?_ fq_none
      refine fq_bR h_u hP h_x0 (fun q3 h_q3 => ?_)
      refine fq_if (fq_if fq_none ?_) fq_none
      refine fq_bs (fun v4 => ?_)
      refine fq_if ?_ fq_none
      refine fq_bR h_u hP h_x0 (fun q5 h_q5 => ?_)
      refine fq_cl h_u (fr_J9_min_7cf53 N (999 : Int32) v4 u (hP.tr h_u) ) (fun r6 u7 h_u7 h_r6 => ?_)
      refine fq_cl h_u7 (fr_J9_max_7cf53 N (0 : Int32) r6 u7 (hP.tr h_u7) ) (fun r8 u9 h_u9 h_r8 => ?_)
      refine fq_if (fq_if fq_none (fq_sI h_u9 h_q5 (fun u10 h_u10 => ?_))) fq_none
      refine fq_if ?_ fq_none
      refine fq_bR h_u10 hP h_x0 (fun q11 h_q11 => ?_)
      refine fq_if (fq_if fq_none (fq_sI h_u10 h_q11 (fun u12 h_u12 => ?_))) fq_none
      exact fq_tr h_u12 (hrec60 x0 x1 (x2 + (1 : Int32)) u12 (hP.tr h_u12) h_x0 h_x1)
set_option maxRecDepth 20000 in
theorem fr_X2_goOn {P : Nat → Prop} (N : Nat)   (a0 : Nat) (p1 : Nat) (u : SG) : Cl P u → P a0 → P p1 → FQ P u (fun _ => True) (fX2_goOn N  a0 p1 u) := by
  intro hP h_a0 h_p1
  have h_u : Fr P u u := Fr.rf
  unfold fX2_goOn
  refine fq_if ?_ fq_none
  refine fq_if (fq_sI h_u h_a0 (fun u1 h_u1 => ?_)) fq_none
  refine fq_if ?_ fq_none
  refine fq_if ?_ fq_none
  refine fq_if ?_ ?_
  · refine fq_if (fq_sI h_u1 h_a0 (fun u2 h_u2 => ?_)) fq_none
    refine fq_if ?_ fq_none
    refine fq_cl h_u2 (fr_J9_min_7cf53 N (999 : Int32) ((zI u2 a0 1) + (1 : Int32)) u2 (hP.tr h_u2) ) (fun r3 u4 h_u4 h_r3 => ?_)
    refine fq_if (fq_sI h_u4 h_a0 (fun u5 h_u5 => ?_)) fq_none
    refine fq_if (fq_sI h_u5 h_a0 (fun u6 h_u6 => ?_)) fq_none
    refine fq_if (fq_sI h_u6 h_a0 (fun u7 h_u7 => ?_)) fq_none
    refine fq_if (fq_sI h_u7 h_a0 (fun u8 h_u8 => ?_)) fq_none
    exact fq_tr h_u8 (frgX2_goOn_60 N   N a0 p1 (0 : Int32) u8 (hP.tr h_u8) h_a0 h_p1)
  · exact fq_ret h_u1 trivial
set_option maxRecDepth 20000 in
theorem fr_X7_workersAt {P : Nat → Prop} (N : Nat)   (a0 : Nat) (p1 : Int32) (u : SG) : Cl P u → P a0 → FQ P u (fun _ => True) (fX7_workersAt N  a0 p1 u) := by
  intro hP h_a0
  have h_u : Fr P u u := Fr.rf
  unfold fX7_workersAt
  refine fq_if ?_ ?_
  · exact fq_ret h_u trivial
  · refine fq_if ?_ ?_
    · exact fq_ret h_u trivial
    · refine fq_if ?_ fq_none
      refine fq_bR h_u hP h_a0 (fun q1 h_q1 => ?_)
      refine fq_if (fq_if fq_none ?_) fq_none
      exact fq_ret h_u trivial
set_option maxRecDepth 20000 in
theorem fr_X3_push {P : Nat → Prop} (N : Nat)   (a0 : Nat) (p1 : Int64) (u : SG) : Cl P u → P a0 → FQ P u (fun _ => True) (fX3_push N  a0 p1 u) := by
  intro hP h_a0
  have h_u : Fr P u u := Fr.rf
  unfold fX3_push
  refine fq_if ?_ fq_none
  refine fq_if ?_ ?_
  · exact fq_ret h_u trivial
  · refine fq_if ?_ fq_none
    refine fq_if ?_ ?_
    · exact fq_ret h_u trivial
    · refine fq_if ?_ fq_none
      refine fq_bR h_u hP h_a0 (fun q1 h_q1 => ?_)
      refine fq_if ?_ fq_none
      refine fq_if (fq_if fq_none (fq_sL h_u h_q1 (fun u2 h_u2 => ?_))) fq_none
      refine fq_if ?_ fq_none
      refine fq_if (fq_sI h_u2 h_a0 (fun u3 h_u3 => ?_)) fq_none
      exact fq_ret h_u3 trivial
set_option maxRecDepth 20000 in
theorem frgX7_costOf_4 {P : Nat → Prop} (N : Nat)     : ∀ (n : Nat) (x0 : Nat) (x1 : Int32) (x2 : Int32) (x3 : Int32) (u : SG), Cl P u → P x0 → FQ P u (fun _ => True) (gX7_costOf_4 N   n x0 x1 x2 x3 u) := by
  intro n
  induction n with
  | zero => intros; intro r u9 h9; exact absurd h9 (by simp [gX7_costOf_4])
  | succ n ih =>
    intro x0 x1 x2 x3 u hP h_x0
    have hrec4 := ih
    have h_u : Fr P u u := Fr.rf
    rw [gX7_costOf_4]
    refine fq_if ?_ ?_
    · exact fq_ret h_u trivial
    · refine fq_cl h_u (fr_X10_bitOf N x1 x3 u (hP.tr h_u) ) (fun r1 u2 h_u2 h_r1 => ?_)
      refine fq_if ?_ ?_
      · refine fq_if ?_ fq_none
        refine fq_bR h_u2 hP h_x0 (fun q3 h_q3 => ?_)
        refine fq_if (fq_if fq_none ?_) fq_none
        refine fq_bs (fun v4 => ?_)
        exact fq_tr h_u2 (hrec4 x0 x1 v4 (x3 + (1 : Int32)) u2 (hP.tr h_u2) h_x0)
      · exact fq_tr h_u2 (hrec4 x0 x1 x2 (x3 + (1 : Int32)) u2 (hP.tr h_u2) h_x0)
set_option maxRecDepth 20000 in
theorem fr_X7_costOf {P : Nat → Prop} (N : Nat)   (a0 : Nat) (p1 : Int32) (u : SG) : Cl P u → P a0 → FQ P u (fun _ => True) (fX7_costOf N  a0 p1 u) := by
  intro hP h_a0
  have h_u : Fr P u u := Fr.rf
  unfold fX7_costOf
  exact fq_tr h_u (frgX7_costOf_4 N   N a0 p1 (0 : Int32) (0 : Int32) u (hP.tr h_u) h_a0)
set_option maxRecDepth 20000 in
theorem frgX7_lampsOf_4 {P : Nat → Prop} (N : Nat)     : ∀ (n : Nat) (x0 : Nat) (x1 : Int32) (x2 : Int32) (x3 : Int32) (u : SG), Cl P u → P x0 → FQ P u (fun _ => True) (gX7_lampsOf_4 N   n x0 x1 x2 x3 u) := by
  intro n
  induction n with
  | zero => intros; intro r u9 h9; exact absurd h9 (by simp [gX7_lampsOf_4])
  | succ n ih =>
    intro x0 x1 x2 x3 u hP h_x0
    have hrec4 := ih
    have h_u : Fr P u u := Fr.rf
    rw [gX7_lampsOf_4]
    refine fq_if ?_ fq_none
    refine fq_if ?_ ?_
    · exact fq_ret h_u trivial
    · refine fq_if ?_ fq_none
      refine fq_bR h_u hP h_x0 (fun q1 h_q1 => ?_)
      refine fq_if (fq_if fq_none ?_) fq_none
      refine fq_if ?_ ?_
      · refine fq_bs (fun v2 => ?_)
        exact fq_tr h_u (hrec4 x0 x1 v2 (x3 + (1 : Int32)) u (hP.tr h_u) h_x0)
      · exact fq_tr h_u (hrec4 x0 x1 x2 (x3 + (1 : Int32)) u (hP.tr h_u) h_x0)
set_option maxRecDepth 20000 in
theorem fr_X7_lampsOf {P : Nat → Prop} (N : Nat)   (a0 : Nat) (p1 : Int32) (u : SG) : Cl P u → P a0 → FQ P u (fun _ => True) (fX7_lampsOf N  a0 p1 u) := by
  intro hP h_a0
  have h_u : Fr P u u := Fr.rf
  unfold fX7_lampsOf
  exact fq_tr h_u (frgX7_lampsOf_4 N   N a0 p1 (0 : Int32) (0 : Int32) u (hP.tr h_u) h_a0)
set_option maxRecDepth 20000 in
theorem fr_X3_valueOf {P : Nat → Prop} (N : Nat)   (p1 : Int32) (p2 : Nat) (p3 : Nat) (p4 : Int32) (u : SG) : Cl P u → P p2 → P p3 → FQ P u (fun _ => True) (fX3_valueOf N  p1 p2 p3 p4 u) := by
  intro hP h_p2 h_p3
  have h_u : Fr P u u := Fr.rf
  unfold fX3_valueOf
  refine fq_if ?_ fq_none
  refine fq_if (fq_cl h_u (fr_X2_burningAt N p3 p2 (zI u p3 0) u (hP.tr h_u) h_p3 h_p2) (fun r1 u2 h_u2 h_r1 => ?_)) fq_none
  refine fq_if ?_ ?_
  · exact fq_ret h_u2 trivial
  refine fq_if ?_ ?_
  · refine fq_if ?_ fq_none
    exact fq_ret h_u2 trivial
  refine fq_if ?_ ?_
  · refine fq_if ?_ fq_none
    exact fq_ret h_u2 trivial
  refine fq_if ?_ ?_
  · refine fq_if ?_ fq_none
    refine fq_bR h_u2 hP h_p2 (fun q3 h_q3 => ?_)
    refine fq_if (fq_if fq_none ?_) fq_none
    exact fq_ret h_u2 trivial
  refine fq_if ?_ ?_
  · refine fq_if ?_ fq_none
    refine fq_bR h_u2 hP h_p2 (fun q4 h_q4 => ?_)
    refine fq_if (fq_if fq_none ?_) fq_none
    exact fq_ret h_u2 trivial
  refine fq_if ?_ ?_
  · refine fq_if ?_ fq_none
    refine fq_bR h_u2 hP h_p3 (fun q5 h_q5 => ?_)
    refine fq_if (fq_if fq_none ?_) fq_none
    exact fq_ret h_u2 trivial
  refine fq_if ?_ ?_
  · refine fq_if ?_ fq_none
    refine fq_if ?_ fq_none
    exact fq_ret h_u2 trivial
  refine fq_if ?_ ?_
  · refine fq_if (fq_cl h_u2 (fr_X7_costOf N p2 r1 u2 (hP.tr h_u2) h_p2 ) (fun r6 u7 h_u7 h_r6 => ?_)) fq_none
    exact fq_ret h_u7 trivial
  refine fq_if ?_ ?_
  · refine fq_if ?_ fq_none
    refine fq_cl h_u2 (fr_J6_bitCount_0f7a4 N ((zI u2 p3 2) &&& (((1 : Int32) <<< (p4 &&& 31)) ^^^ (-1 : Int32))) u2 (hP.tr h_u2) ) (fun r8 u9 h_u9 h_r8 => ?_)
    exact fq_ret h_u9 trivial
  refine fq_if ?_ ?_
  · refine fq_if ?_ fq_none
    refine fq_cl h_u2 (fr_X10_bitOf N (zI u2 p3 2) p4 u2 (hP.tr h_u2) ) (fun r10 u11 h_u11 h_r10 => ?_)
    exact fq_ret h_u11 trivial
  refine fq_if ?_ ?_
  · refine fq_if ?_ fq_none
    refine fq_bR h_u2 hP h_p3 (fun q12 h_q12 => ?_)
    refine fq_if (fq_if fq_none ?_) fq_none
    refine fq_if fq_none ?_
    exact fq_ret h_u2 trivial
  refine fq_if ?_ ?_
  · refine fq_if ?_ fq_none
    refine fq_bR h_u2 hP h_p3 (fun q13 h_q13 => ?_)
    refine fq_if (fq_if fq_none ?_) fq_none
    exact fq_ret h_u2 trivial
  refine fq_if ?_ ?_
  · refine fq_if (fq_cl h_u2 (fr_X7_lampsOf N p2 p4 u2 (hP.tr h_u2) h_p2 ) (fun r14 u15 h_u15 h_r14 => ?_)) fq_none
    refine fq_if (fq_cl h_u15 (fr_X7_costOf N p2 (r1 &&& r14) u15 (hP.tr h_u15) h_p2 ) (fun r16 u17 h_u17 h_r16 => ?_)) fq_none
    exact fq_ret h_u17 trivial
  exact fq_ret h_u2 trivial
set_option maxRecDepth 20000 in
theorem fr_X3_pop {P : Nat → Prop} (N : Nat)   (a0 : Nat) (u : SG) : Cl P u → P a0 → FQ P u (fun _ => True) (fX3_pop N  a0 u) := by
  intro hP h_a0
  have h_u : Fr P u u := Fr.rf
  unfold fX3_pop
  refine fq_if ?_ fq_none
  refine fq_if ?_ ?_
  · exact fq_ret h_u trivial
  · refine fq_if ?_ fq_none
    refine fq_if ?_ ?_
    · refine fq_if ?_ fq_none
      refine fq_if (fq_sI h_u h_a0 (fun u1 h_u1 => ?_)) fq_none
      refine fq_if ?_ fq_none
      refine fq_bR h_u1 hP h_a0 (fun q2 h_q2 => ?_)
      refine fq_if ?_ fq_none
      refine fq_if (fq_if fq_none ?_) fq_none
      exact fq_ret h_u1 trivial
    · exact fq_ret h_u trivial
set_option maxRecDepth 20000 in
theorem fr_X4_combine {P : Nat → Prop} (N : Nat)   (p1 : Int32) (p2 : Int64) (p3 : Int64) (u : SG) : Cl P u → FQ P u (fun _ => True) (fX4_combine N  p1 p2 p3 u) := by
  intro hP
  have h_u : Fr P u u := Fr.rf
  unfold fX4_combine
  refine fq_if ?_ ?_
  · exact fq_ret h_u trivial
  refine fq_if ?_ ?_
  · exact fq_ret h_u trivial
  refine fq_if ?_ ?_
  · refine fq_if ?_ ?_
    · exact fq_ret h_u trivial
    · exact fq_ret h_u trivial
  refine fq_if ?_ ?_
  · refine fq_if ?_ ?_
    · exact fq_ret h_u trivial
    · exact fq_ret h_u trivial
  refine fq_if ?_ ?_
  · refine fq_if ?_ ?_
    · exact fq_ret h_u trivial
    · exact fq_ret h_u trivial
  refine fq_if ?_ ?_
  · refine fq_if ?_ ?_
    · exact fq_ret h_u trivial
    · exact fq_ret h_u trivial
  refine fq_if ?_ ?_
  · refine fq_if ?_ ?_
    · exact fq_ret h_u trivial
    · exact fq_ret h_u trivial
  refine fq_if ?_ ?_
  · refine fq_if ?_ ?_
    · exact fq_ret h_u trivial
    · refine fq_if fq_none ?_
      exact fq_ret h_u trivial
  refine fq_if ?_ ?_
  · refine fq_if ?_ ?_
    · exact fq_ret h_u trivial
    · refine fq_if fq_none ?_
      exact fq_ret h_u trivial
  refine fq_if ?_ ?_
  · exact fq_ret h_u trivial
  refine fq_if ?_ ?_
  · exact fq_ret h_u trivial
  refine fq_if ?_ ?_
  · exact fq_ret h_u trivial
  exact fq_ret h_u trivial
set_option maxRecDepth 20000 in
theorem frgX3_answer_120 {P : Nat → Prop} (N : Nat)   (rec8 : Nat → Nat → Nat → Nat → Int32 → Int32 → SG → Option (Int64 × SG)) (hrec8 : ∀ (x0 : Nat) (x1 : Nat) (x2 : Nat) (x3 : Nat) (x4 : Int32) (x5 : Int32) (u : SG), Cl P u → P x0 → P x1 → P x2 → P x3 → FQ P u (fun _ => True) (rec8 x0 x1 x2 x3 x4 x5 u)) (x0 : Nat) (x1 : Nat) (x2 : Nat) (x3 : Nat) (x4 : Int32) (x5 : Int32) (s0 : Int32) (u : SG) : Cl P u → P x0 → P x1 → P x2 → P x3 → FQ P u (fun _ => True) (gX3_answer_120 N  rec8 x0 x1 x2 x3 x4 x5 s0 u) := by
  intro hP h_x0 h_x1 h_x2 h_x3
  have h_u : Fr P u u := Fr.rf
  unfold gX3_answer_120
  refine fq_if (fq_cl h_u (fr_X3_pop N x0  u (hP.tr h_u) h_x0 ) (fun r1 u2 h_u2 h_r1 => ?_)) fq_none
  refine fq_if ?_ ?_
  · exact fq_tr h_u2 (hrec8 x0 x1 x2 x3 x4 (x5 + (1 : Int32)) u2 (hP.tr h_u2) h_x0 h_x1 h_x2 h_x3)
  · exact fq_ret h_u2 trivial
set_option maxRecDepth 20000 in
theorem frgX3_answer_8 {P : Nat → Prop} (N : Nat)     : ∀ (n : Nat) (x0 : Nat) (x1 : Nat) (x2 : Nat) (x3 : Nat) (x4 : Int32) (x5 : Int32) (u : SG), Cl P u → P x0 → P x1 → P x2 → P x3 → FQ P u (fun _ => True) (gX3_answer_8 N   n x0 x1 x2 x3 x4 x5 u) := by
  intro n
  induction n with
  | zero => intros; intro r u9 h9; exact absurd h9 (by simp [gX3_answer_8])
  | succ n ih =>
    intro x0 x1 x2 x3 x4 x5 u hP h_x0 h_x1 h_x2 h_x3
    have hrec8 := ih
    have h_u : Fr P u u := Fr.rf
    rw [gX3_answer_8]
    refine fq_if ?_ fq_none
    refine fq_bR h_u hP h_x3 (fun q1 h_q1 => ?_)
    refine fq_if ?_ fq_none
    refine fq_if ?_ ?_
    · exact fq_ret h_u trivial
    · refine fq_if ?_ fq_none
      refine fq_bR h_u hP h_x3 (fun q2 h_q2 => ?_)
      refine fq_if (fq_if fq_none ?_) fq_none
      refine fq_bs (fun v3 => ?_)
      refine fq_if ?_ ?_
      · refine fq_if ?_ ?_
        · refine fq_if ?_ ?_
          · refine fq_if (fq_cl h_u (fr_X3_pop N x0  u (hP.tr h_u) h_x0 ) (fun r16 u17 h_u17 h_r16 => ?_)) fq_none
            refine fq_if (fq_cl h_u17 (fr_X3_push N x0 ((1 : Int64) - r16) u17 (hP.tr h_u17) h_x0 ) (fun r18 u19 h_u19 h_r18 => ?_)) fq_none
            exact fq_tr h_u19 (hrec8 x0 x1 x2 x3 x4 (x5 + (1 : Int32)) u19 (hP.tr h_u19) h_x0 h_x1 h_x2 h_x3)
          · refine fq_if ?_ ?_
            · refine fq_if (fq_cl h_u (fr_X3_pop N x0  u (hP.tr h_u) h_x0 ) (fun r14 u15 h_u15 h_r14 => ?_)) fq_none
              exact fq_ret h_u15 trivial
            · refine fq_if ?_ ?_
              · refine fq_if (fq_cl h_u (fr_X3_pop N x0  u (hP.tr h_u) h_x0 ) (fun r12 u13 h_u13 h_r12 => ?_)) fq_none
                refine fq_if ?_ ?_
                · exact fq_tr h_u13 (frgX3_answer_120 N  _ hrec8 x0 x1 x2 x3 x4 x5 (0 : Int32) u13 (hP.tr h_u13) h_x0 h_x1 h_x2 h_x3)
                · exact fq_tr h_u13 (frgX3_answer_120 N  _ hrec8 x0 x1 x2 x3 x4 x5 (1 : Int32) u13 (hP.tr h_u13) h_x0 h_x1 h_x2 h_x3)
              · refine fq_if (fq_cl h_u (fr_X3_pop N x0  u (hP.tr h_u) h_x0 ) (fun r4 u5 h_u5 h_r4 => ?_)) fq_none
                refine fq_if (fq_cl h_u5 (fr_X3_pop N x0  u5 (hP.tr h_u5) h_x0 ) (fun r6 u7 h_u7 h_r6 => ?_)) fq_none
                refine fq_cl h_u7 (fr_X4_combine N v3 r6 r4 u7 (hP.tr h_u7) ) (fun r8 u9 h_u9 h_r8 => ?_)
                refine fq_if (fq_cl h_u9 (fr_X3_push N x0 r8 u9 (hP.tr h_u9) h_x0 ) (fun r10 u11 h_u11 h_r10 => ?_)) fq_none
                exact fq_tr h_u11 (hrec8 x0 x1 x2 x3 x4 (x5 + (1 : Int32)) u11 (hP.tr h_u11) h_x0 h_x1 h_x2 h_x3)
        · refine fq_cl h_u (fr_X3_valueOf N ((-1 : Int32) - v3) x1 x2 x4 u (hP.tr h_u) h_x1 h_x2) (fun r20 u21 h_u21 h_r20 => ?_)
          refine fq_if (fq_cl h_u21 (fr_X3_push N x0 r20 u21 (hP.tr h_u21) h_x0 ) (fun r22 u23 h_u23 h_r22 => ?_)) fq_none
          exact fq_tr h_u23 (hrec8 x0 x1 x2 x3 x4 (x5 + (1 : Int32)) u23 (hP.tr h_u23) h_x0 h_x1 h_x2 h_x3)
      · refine fq_if (fq_cl h_u (fr_X3_push N x0 v3.toInt64 u (hP.tr h_u) h_x0 ) (fun r24 u25 h_u25 h_r24 => ?_)) fq_none
        exact fq_tr h_u25 (hrec8 x0 x1 x2 x3 x4 (x5 + (1 : Int32)) u25 (hP.tr h_u25) h_x0 h_x1 h_x2 h_x3)
set_option maxRecDepth 20000 in
theorem fr_X3_answer {P : Nat → Prop} (N : Nat)   (a0 : Nat) (p1 : Nat) (p2 : Nat) (p3 : Nat) (p4 : Int32) (u : SG) : Cl P u → P a0 → P p1 → P p2 → P p3 → FQ P u (fun _ => True) (fX3_answer N  a0 p1 p2 p3 p4 u) := by
  intro hP h_a0 h_p1 h_p2 h_p3
  have h_u : Fr P u u := Fr.rf
  unfold fX3_answer
  refine fq_if (fq_sI h_u h_a0 (fun u1 h_u1 => ?_)) fq_none
  exact fq_tr h_u1 (frgX3_answer_8 N   N a0 p1 p2 p3 p4 (0 : Int32) u1 (hP.tr h_u1) h_a0 h_p1 h_p2 h_p3)
set_option maxRecDepth 20000 in
theorem fr_X3_setAsleep {P : Nat → Prop} (N : Nat)   (p1 : Nat) (p2 : Int32) (p3 : Int32) (u : SG) : Cl P u → P p1 → FQ P u (fun _ => True) (fX3_setAsleep N  p1 p2 p3 u) := by
  intro hP h_p1
  have h_u : Fr P u u := Fr.rf
  unfold fX3_setAsleep
  refine fq_bs (fun v1 => ?_)
  refine fq_if ?_ ?_
  · refine fq_if ?_ fq_none
    refine fq_if (fq_sI h_u h_p1 (fun u2 h_u2 => ?_)) fq_none
    exact fq_ret h_u2 trivial
  · refine fq_if ?_ fq_none
    refine fq_if (fq_sI h_u h_p1 (fun u3 h_u3 => ?_)) fq_none
    exact fq_ret h_u3 trivial
set_option maxRecDepth 20000 in
theorem fr_X3_shareAmong {P : Nat → Prop} (N : Nat)   (a0 : Nat) (p1 : Int32) (p2 : Int32) (u : SG) : Cl P u → P a0 → FQ P u (fun _ => True) (fX3_shareAmong N  a0 p1 p2 u) := by
  intro hP h_a0
  have h_u : Fr P u u := Fr.rf
  unfold fX3_shareAmong
  refine fq_cl h_u (fr_J6_bitCount_0f7a4 N p1 u (hP.tr h_u) ) (fun r1 u2 h_u2 h_r1 => ?_)
  refine fq_if ?_ ?_
  · exact fq_ret h_u2 trivial
  · refine fq_cl h_u2 (fr_X10_bitOf N p1 p2 u2 (hP.tr h_u2) ) (fun r3 u4 h_u4 h_r3 => ?_)
    refine fq_if ?_ ?_
    · refine fq_if ?_ fq_none
      refine fq_if fq_none ?_
      exact fq_ret h_u4 trivial
    · exact fq_ret h_u4 trivial
set_option maxRecDepth 20000 in
theorem frgX3_share_23 {P : Nat → Prop} (N : Nat)     : ∀ (n : Nat) (x0 : Nat) (x1 : Nat) (x2 : Nat) (x3 : Int32) (u : SG), Cl P u → P x0 → P x1 → P x2 → FQ P u (fun _ => True) (gX3_share_23 N   n x0 x1 x2 x3 u) := by
  intro n
  induction n with
  | zero => intros; intro r u9 h9; exact absurd h9 (by simp [gX3_share_23])
  | succ n ih =>
    intro x0 x1 x2 x3 u hP h_x0 h_x1 h_x2
    have hrec23 := ih
    have h_u : Fr P u u := Fr.rf
    rw [gX3_share_23]
    refine fq_if ?_ fq_none
    refine fq_if ?_ ?_
    · exact fq_ret h_u trivial
    · refine fq_if ?_ fq_none
      refine fq_bR h_u hP h_x2 (fun q1 h_q1 => ?_)
      refine fq_if (fq_if fq_none ?_) fq_none
      refine fq_if ?_ fq_none
      refine fq_if (fq_cl h_u (fr_X3_shareAmong N x0 (zI u x0 2) x3 u (hP.tr h_u) h_x0 ) (fun r2 u3 h_u3 h_r2 => ?_)) fq_none
      refine fq_if (fq_if fq_none (fq_sL h_u3 h_q1 (fun u4 h_u4 => ?_))) fq_none
      exact fq_tr h_u4 (hrec23 x0 x1 x2 (x3 + (1 : Int32)) u4 (hP.tr h_u4) h_x0 h_x1 h_x2)
set_option maxRecDepth 20000 in
theorem fr_X3_share {P : Nat → Prop} (N : Nat)   (a0 : Nat) (p1 : Nat) (p2 : Nat) (u : SG) : Cl P u → P a0 → P p1 → P p2 → FQ P u (fun _ => True) (fX3_share N  a0 p1 p2 u) := by
  intro hP h_a0 h_p1 h_p2
  have h_u : Fr P u u := Fr.rf
  unfold fX3_share
  refine fq_if ?_ fq_none
  refine fq_if ?_ ?_
  · refine fq_if ?_ fq_none
    refine fq_bR h_u hP h_p2 (fun q1 h_q1 => ?_)
    refine fq_if (fq_if fq_none ?_) fq_none
    refine fq_if ?_ fq_none
    refine fq_if (fq_if fq_none (fq_sL h_u h_q1 (fun u2 h_u2 => ?_))) fq_none
    exact fq_ret h_u2 trivial
  · exact fq_tr h_u (frgX3_share_23 N   N a0 p1 p2 (0 : Int32) u (hP.tr h_u) h_a0 h_p1 h_p2)
set_option maxRecDepth 20000 in
theorem frgX3_play_119 {P : Nat → Prop} (N : Nat)     : ∀ (n : Nat) (x0 : Nat) (x1 : Nat) (x2 : Nat) (x5 : Int32) (u : SG), Cl P u → P x0 → P x1 → P x2 → FQ P u (fun _ => True) (gX3_play_119 N   n x0 x1 x2 x5 u) := by
  intro n
  induction n with
  | zero => intros; intro r u9 h9; exact absurd h9 (by simp [gX3_play_119])
  | succ n ih =>
    intro x0 x1 x2 x5 u hP h_x0 h_x1 h_x2
    have hrec119 := ih
    have h_u : Fr P u u := Fr.rf
    rw [gX3_play_119]
    refine fq_if ?_ fq_none
    refine fq_if ?_ ?_
    · refine fq_if (fq_cl h_u (fr_X2_goOn N x2 x1 u (hP.tr h_u) h_x2 h_x1) (fun r1 u2 h_u2 h_r1 => ?_)) fq_none
      refine fq_if ?_ fq_none
      refine fq_cl h_u2 (fr_J6_bitCount_0f7a4 N (zI u2 x0 2) u2 (hP.tr h_u2) ) (fun r3 u4 h_u4 h_r3 => ?_)
      exact fq_ret h_u4 trivial
    · refine fq_if ?_ fq_none
      refine fq_bR h_u hP h_x2 (fun q5 h_q5 => ?_)
      refine fq_if (fq_if fq_none ?_) fq_none
      refine fq_if ?_ fq_none
      refine fq_cl h_u (fr_X10_bitOf N (zI u x0 2) x5 u (hP.tr h_u) ) (fun r6 u7 h_u7 h_r6 => ?_)
      refine fq_if (fq_if fq_none (fq_sI h_u7 h_q5 (fun u8 h_u8 => ?_))) fq_none
      exact fq_tr h_u8 (hrec119 x0 x1 x2 (x5 + (1 : Int32)) u8 (hP.tr h_u8) h_x0 h_x1 h_x2)
set_option maxRecDepth 20000 in
theorem frgX3_play_80 {P : Nat → Prop} (N : Nat)     (x0 : Nat) (x1 : Nat) (x2 : Nat) (u : SG) : Cl P u → P x0 → P x1 → P x2 → FQ P u (fun _ => True) (gX3_play_80 N   x0 x1 x2 u) := by
  intro hP h_x0 h_x1 h_x2
  have h_u : Fr P u u := Fr.rf
  unfold gX3_play_80
  refine fq_if ?_ fq_none
  refine fq_if (fq_sI h_u h_x0 (fun u1 h_u1 => ?_)) fq_none
  refine fq_if ?_ fq_none
  refine fq_if (fq_cl h_u1 (fr_X2_burningAt N x2 x1 (zI u1 x2 0) u1 (hP.tr h_u1) h_x2 h_x1) (fun r2 u3 h_u3 h_r2 => ?_)) fq_none
  refine fq_if (fq_cl h_u3 (fr_X7_costOf N x1 r2 u3 (hP.tr h_u3) h_x1 ) (fun r4 u5 h_u5 h_r4 => ?_)) fq_none
  refine fq_if (fq_sL h_u5 h_x0 (fun u6 h_u6 => ?_)) fq_none
  refine fq_if (fq_cl h_u6 (fr_X3_share N x0 x1 x2 u6 (hP.tr h_u6) h_x0 h_x1 h_x2) (fun r7 u8 h_u8 h_r7 => ?_)) fq_none
  exact fq_tr h_u8 (frgX3_play_119 N   N x0 x1 x2 (0 : Int32) u8 (hP.tr h_u8) h_x0 h_x1 h_x2)
set_option maxRecDepth 20000 in
theorem frgX3_play_71 {P : Nat → Prop} (N : Nat)   (rec26 : Nat → Nat → Nat → Option Nat → Int32 → Int32 → SG → Option (Int32 × SG)) (hrec26 : ∀ (x0 : Nat) (x1 : Nat) (x2 : Nat) (x3 : Option Nat) (x4 : Int32) (x5 : Int32) (u : SG), Cl P u → P x0 → P x1 → P x2 → (∀ q, x3 = some q → P q) → FQ P u (fun _ => True) (rec26 x0 x1 x2 x3 x4 x5 u)) (x0 : Nat) (x1 : Nat) (x2 : Nat) (x3 : Option Nat) (x4 : Int32) (x5 : Int32) (s0 : Nat) (s1 : Int32) (s2 : Int32) (u : SG) : Cl P u → P x0 → P x1 → P x2 → (∀ q, x3 = some q → P q) → P s0 → FQ P u (fun _ => True) (gX3_play_71 N  rec26 x0 x1 x2 x3 x4 x5 s0 s1 s2 u) := by
  intro hP h_x0 h_x1 h_x2 h_x3 h_s0
  have h_u : Fr P u u := Fr.rf
  unfold gX3_play_71
  refine fq_cl h_u (fr_X3_setAsleep N s0 s1 s2 u (hP.tr h_u) h_s0) (fun r1 u2 h_u2 h_r1 => ?_)
  exact fq_tr h_u2 (hrec26 x0 x1 x2 x3 x4 (x5 + (1 : Int32)) u2 (hP.tr h_u2) h_x0 h_x1 h_x2 h_x3)
set_option maxRecDepth 20000 in
theorem frgX3_play_26 {P : Nat → Prop} (N : Nat)     : ∀ (n : Nat) (x0 : Nat) (x1 : Nat) (x2 : Nat) (x3 : Option Nat) (x4 : Int32) (x5 : Int32) (u : SG), Cl P u → P x0 → P x1 → P x2 → (∀ q, x3 = some q → P q) → FQ P u (fun _ => True) (gX3_play_26 N   n x0 x1 x2 x3 x4 x5 u) := by
  intro n
  induction n with
  | zero => intros; intro r u9 h9; exact absurd h9 (by simp [gX3_play_26])
  | succ n ih =>
    intro x0 x1 x2 x3 x4 x5 u hP h_x0 h_x1 h_x2 h_x3
    have hrec26 := ih
    have h_u : Fr P u u := Fr.rf
    rw [gX3_play_26]
    refine fq_if ?_ fq_none
    refine fq_if ?_ ?_
    · exact fq_tr h_u (frgX3_play_80 N   x0 x1 x2 u (hP.tr h_u) h_x0 h_x1 h_x2)
    · refine fq_if ?_ ?_
      · exact fq_tr h_u (frgX3_play_80 N   x0 x1 x2 u (hP.tr h_u) h_x0 h_x1 h_x2)
      · refine fq_cl h_u (fr_X10_bitOf N x4 x5 u (hP.tr h_u) ) (fun r1 u2 h_u2 h_r1 => ?_)
        refine fq_if ?_ ?_
        · refine fq_bQ h_x3 (fun q3 h_q3 => ?_)
          refine fq_if (fq_cl h_u2 (fr_X3_answer N x0 x1 x2 q3 x5 u2 (hP.tr h_u2) h_x0 h_x1 h_x2 h_q3) (fun r4 u5 h_u5 h_r4 => ?_)) fq_none
          refine fq_if ?_ ?_
          · exact fq_tr h_u5 (frgX3_play_71 N  _ hrec26 x0 x1 x2 x3 x4 x5 x2 x5 (0 : Int32) u5 (hP.tr h_u5) h_x0 h_x1 h_x2 h_x3 h_x2)
          · exact fq_tr h_u5 (frgX3_play_71 N  _ hrec26 x0 x1 x2 x3 x4 x5 x2 x5 (1 : Int32) u5 (hP.tr h_u5) h_x0 h_x1 h_x2 h_x3 h_x2)
        · exact fq_tr h_u2 (hrec26 x0 x1 x2 x3 x4 (x5 + (1 : Int32)) u2 (hP.tr h_u2) h_x0 h_x1 h_x2 h_x3)
set_option maxRecDepth 20000 in
theorem fr_X3_play {P : Nat → Prop} (N : Nat)   (a0 : Nat) (p1 : Nat) (p2 : Nat) (p3 : Option Nat) (u : SG) : Cl P u → P a0 → P p1 → P p2 → (∀ q, p3 = some q → P q) → FQ P u (fun _ => True) (fX3_play N  a0 p1 p2 p3 u) := by
  intro hP h_a0 h_p1 h_p2 h_p3
  have h_u : Fr P u u := Fr.rf
  unfold fX3_play
  refine fq_if ?_ fq_none
  refine fq_if (fq_cl h_u (fr_X7_workersAt N p1 (zI u p2 0) u (hP.tr h_u) h_p1 ) (fun r1 u2 h_u2 h_r1 => ?_)) fq_none
  refine fq_if ?_ fq_none
  refine fq_if (fq_sI h_u2 h_p2 (fun u3 h_u3 => ?_)) fq_none
  exact fq_tr h_u3 (frgX3_play_26 N   N a0 p1 p2 p3 r1 (0 : Int32) u3 (hP.tr h_u3) h_a0 h_p1 h_p2 h_p3)
set_option maxRecDepth 20000 in
theorem frgX3_draw_77 {P : Nat → Prop} (N : Nat)   (rec17 : Nat → Nat → Int32 → Int32 → Int64 → Int32 → SG → Option (Int32 × SG)) (hrec17 : ∀ (x1 : Nat) (x2 : Nat) (x4 : Int32) (x5 : Int32) (x6 : Int64) (x8 : Int32) (u : SG), Cl P u → P x1 → P x2 → FQ P u (fun _ => True) (rec17 x1 x2 x4 x5 x6 x8 u)) (x1 : Nat) (x2 : Nat) (x4 : Int32) (x5 : Int32) (x6 : Int64) (x8 : Int32) (s0 : Nat) (s1 : Int32) (s2 : Int32) (u : SG) : Cl P u → P x1 → P x2 → P s0 → FQ P u (fun _ => True) (gX3_draw_77 N  rec17 x1 x2 x4 x5 x6 x8 s0 s1 s2 u) := by
  intro hP h_x1 h_x2 h_s0
  have h_u : Fr P u u := Fr.rf
  unfold gX3_draw_77
  refine fq_cl h_u (fr_X3_setAsleep N s0 s1 s2 u (hP.tr h_u) h_s0) (fun r1 u2 h_u2 h_r1 => ?_)
  exact fq_tr h_u2 (hrec17 x1 x2 x4 x5 x6 (x8 + (1 : Int32)) u2 (hP.tr h_u2) h_x1 h_x2)
set_option maxRecDepth 20000 in
theorem frgX3_draw_17 {P : Nat → Prop} (N : Nat)     : ∀ (n : Nat) (x1 : Nat) (x2 : Nat) (x4 : Int32) (x5 : Int32) (x6 : Int64) (x8 : Int32) (u : SG), Cl P u → P x1 → P x2 → FQ P u (fun _ => True) (gX3_draw_17 N   n x1 x2 x4 x5 x6 x8 u) := by
  intro n
  induction n with
  | zero => intros; intro r u9 h9; exact absurd h9 (by simp [gX3_draw_17])
  | succ n ih =>
    intro x1 x2 x4 x5 x6 x8 u hP h_x1 h_x2
    have hrec17 := ih
    have h_u : Fr P u u := Fr.rf
    rw [gX3_draw_17]
    refine fq_if ?_ fq_none
    refine fq_if ?_ ?_
    · exact fq_ret h_u trivial
    · refine fq_cl h_u (fr_X10_bitOf N x5 x8 u (hP.tr h_u) ) (fun r1 u2 h_u2 h_r1 => ?_)
      refine fq_if ?_ ?_
      · refine fq_bs (fun v3 => ?_)
        refine fq_if fq_none ?_
        refine fq_if fq_none ?_
        refine fq_if ?_ ?_
        · exact fq_tr h_u2 (frgX3_draw_77 N  _ hrec17 x1 x2 x4 x5 v3 x8 x2 x8 (0 : Int32) u2 (hP.tr h_u2) h_x1 h_x2 h_x2)
        · exact fq_tr h_u2 (frgX3_draw_77 N  _ hrec17 x1 x2 x4 x5 v3 x8 x2 x8 (1 : Int32) u2 (hP.tr h_u2) h_x1 h_x2 h_x2)
      · exact fq_tr h_u2 (hrec17 x1 x2 x4 x5 x6 (x8 + (1 : Int32)) u2 (hP.tr h_u2) h_x1 h_x2)
set_option maxRecDepth 20000 in
theorem fr_X3_draw {P : Nat → Prop} (N : Nat)   (a0 : Nat) (p1 : Nat) (p2 : Nat) (p3 : Int32) (p4 : Int32) (u : SG) : Cl P u → P a0 → P p1 → P p2 → FQ P u (fun _ => True) (fX3_draw N  a0 p1 p2 p3 p4 u) := by
  intro hP h_a0 h_p1 h_p2
  have h_u : Fr P u u := Fr.rf
  unfold fX3_draw
  refine fq_if ?_ fq_none
  refine fq_if (fq_cl h_u (fr_X7_workersAt N p1 (zI u p2 0) u (hP.tr h_u) h_p1 ) (fun r1 u2 h_u2 h_r1 => ?_)) fq_none
  refine fq_bs (fun v3 => ?_)
  exact fq_tr h_u2 (frgX3_draw_17 N   N p1 p2 p4 r1 v3 (0 : Int32) u2 (hP.tr h_u2) h_p1 h_p2)
set_option maxRecDepth 20000 in
theorem fr_X7_everyone {P : Nat → Prop} (N : Nat)   (a0 : Nat) (u : SG) : Cl P u → P a0 → FQ P u (fun _ => True) (fX7_everyone N  a0 u) := by
  intro hP h_a0
  have h_u : Fr P u u := Fr.rf
  unfold fX7_everyone
  refine fq_if ?_ fq_none
  exact fq_ret h_u trivial
set_option maxRecDepth 20000 in
theorem fr_X3_shareIfWakingPaid {P : Nat → Prop} (N : Nat)   (a0 : Nat) (p1 : Nat) (p2 : Int32) (u : SG) : Cl P u → P a0 → P p1 → FQ P u (fun _ => True) (fX3_shareIfWakingPaid N  a0 p1 p2 u) := by
  intro hP h_a0 h_p1
  have h_u : Fr P u u := Fr.rf
  unfold fX3_shareIfWakingPaid
  refine fq_if (fq_cl h_u (fr_X7_everyone N p1  u (hP.tr h_u) h_p1 ) (fun r1 u2 h_u2 h_r1 => ?_)) fq_none
  refine fq_if ?_ fq_none
  refine fq_if (fq_cl h_u2 (fr_X3_shareAmong N a0 (r1 &&& ((zI u2 a0 2) ^^^ (-1 : Int32))) p2 u2 (hP.tr h_u2) h_a0 ) (fun r3 u4 h_u4 h_r3 => ?_)) fq_none
  exact fq_ret h_u4 trivial
set_option maxRecDepth 20000 in
theorem fr_X9_byteAt {P : Nat → Prop} (N : Nat)   (a0 : Nat) (p1 : Int32) (u : SG) : Cl P u → P a0 → FQ P u (fun _ => True) (fX9_byteAt N  a0 p1 u) := by
  intro hP h_a0
  have h_u : Fr P u u := Fr.rf
  unfold fX9_byteAt
  refine fq_if ?_ ?_
  · exact fq_ret h_u trivial
  · refine fq_if ?_ fq_none
    refine fq_if ?_ ?_
    · exact fq_ret h_u trivial
    · refine fq_if ?_ ?_
      · exact fq_ret h_u trivial
      · refine fq_if ?_ fq_none
        refine fq_bR h_u hP h_a0 (fun q1 h_q1 => ?_)
        refine fq_if (fq_if fq_none ?_) fq_none
        exact fq_ret h_u trivial
set_option maxRecDepth 20000 in
theorem fr_X9_isDigit {P : Nat → Prop} (N : Nat)   (p1 : Int32) (u : SG) : Cl P u → FQ P u (fun _ => True) (fX9_isDigit N  p1 u) := by
  intro hP
  have h_u : Fr P u u := Fr.rf
  unfold fX9_isDigit
  refine fq_if ?_ ?_
  · exact fq_ret h_u trivial
  · refine fq_if ?_ ?_
    · exact fq_ret h_u trivial
    · exact fq_ret h_u trivial
set_option maxRecDepth 20000 in
theorem fr_X9_add {P : Nat → Prop} (N : Nat)   (a0 : Nat) (p1 : Int32) (p2 : Int32) (p3 : Int32) (u : SG) : Cl P u → P a0 → FQ P u (fun _ => True) (fX9_add N  a0 p1 p2 p3 u) := by
  intro hP h_a0
  have h_u : Fr P u u := Fr.rf
  unfold fX9_add
  refine fq_if ?_ fq_none
  refine fq_if ?_ ?_
  · exact fq_ret h_u trivial
  · refine fq_if ?_ fq_none
    refine fq_if ?_ ?_
    · exact fq_ret h_u trivial
    · refine fq_if ?_ fq_none
      refine fq_bR h_u hP h_a0 (fun q1 h_q1 => ?_)
      refine fq_if ?_ fq_none
      refine fq_if (fq_if fq_none (fq_sI h_u h_q1 (fun u2 h_u2 => ?_))) fq_none
      refine fq_if ?_ fq_none
      refine fq_bR h_u2 hP h_a0 (fun q3 h_q3 => ?_)
      refine fq_if ?_ fq_none
      refine fq_if (fq_if fq_none (fq_sI h_u2 h_q3 (fun u4 h_u4 => ?_))) fq_none
      refine fq_if ?_ fq_none
      refine fq_bR h_u4 hP h_a0 (fun q5 h_q5 => ?_)
      refine fq_if ?_ fq_none
      refine fq_if (fq_if fq_none (fq_sI h_u4 h_q5 (fun u6 h_u6 => ?_))) fq_none
      refine fq_if ?_ fq_none
      refine fq_if (fq_sI h_u6 h_a0 (fun u7 h_u7 => ?_)) fq_none
      exact fq_ret h_u7 trivial
set_option maxRecDepth 20000 in
theorem frgX9_splitNumber_54 {P : Nat → Prop} (N : Nat)     (x0 : Nat) (x1 : Int32) (x2 : Int32) (x3 : Int32) (u : SG) : Cl P u → P x0 → FQ P u (fun _ => True) (gX9_splitNumber_54 N   x0 x1 x2 x3 u) := by
  intro hP h_x0
  have h_u : Fr P u u := Fr.rf
  unfold gX9_splitNumber_54
  refine fq_if (fq_cl h_u (fr_X9_add N x0 (1 : Int32) x2 x1 u (hP.tr h_u) h_x0 ) (fun r1 u2 h_u2 h_r1 => ?_)) fq_none
  exact fq_ret h_u2 trivial
set_option maxRecDepth 20000 in
theorem frgX9_splitNumber_4 {P : Nat → Prop} (N : Nat)     : ∀ (n : Nat) (x0 : Nat) (x1 : Int32) (x2 : Int32) (x3 : Int32) (u : SG), Cl P u → P x0 → FQ P u (fun _ => True) (gX9_splitNumber_4 N   n x0 x1 x2 x3 u) := by
  intro n
  induction n with
  | zero => intros; intro r u9 h9; exact absurd h9 (by simp [gX9_splitNumber_4])
  | succ n ih =>
    intro x0 x1 x2 x3 u hP h_x0
    have hrec4 := ih
    have h_u : Fr P u u := Fr.rf
    rw [gX9_splitNumber_4]
    refine fq_if ?_ fq_none
    refine fq_if ?_ ?_
    · exact fq_tr h_u (frgX9_splitNumber_54 N   x0 x1 x2 x3 u (hP.tr h_u) h_x0)
    · refine fq_if (fq_cl h_u (fr_X9_byteAt N x0 x3 u (hP.tr h_u) h_x0 ) (fun r1 u2 h_u2 h_r1 => ?_)) fq_none
      refine fq_cl h_u2 (fr_X9_isDigit N r1 u2 (hP.tr h_u2) ) (fun r3 u4 h_u4 h_r3 => ?_)
      refine fq_if ?_ ?_
      · exact fq_tr h_u4 (frgX9_splitNumber_54 N   x0 x1 x2 x3 u4 (hP.tr h_u4) h_x0)
      · refine fq_if ?_ ?_
        · exact fq_tr h_u4 (hrec4 x0 x1 (-1 : Int32) (x3 + (1 : Int32)) u4 (hP.tr h_u4) h_x0)
        · refine fq_if (fq_cl h_u4 (fr_X9_byteAt N x0 x3 u4 (hP.tr h_u4) h_x0 ) (fun r5 u6 h_u6 h_r5 => ?_)) fq_none
          refine fq_bs (fun v7 => ?_)
          exact fq_tr h_u6 (hrec4 x0 x1 v7 (x3 + (1 : Int32)) u6 (hP.tr h_u6) h_x0)
set_option maxRecDepth 20000 in
theorem fr_X9_splitNumber {P : Nat → Prop} (N : Nat)   (a0 : Nat) (p1 : Int32) (u : SG) : Cl P u → P a0 → FQ P u (fun _ => True) (fX9_splitNumber N  a0 p1 u) := by
  intro hP h_a0
  have h_u : Fr P u u := Fr.rf
  unfold fX9_splitNumber
  exact fq_tr h_u (frgX9_splitNumber_4 N   N a0 p1 (0 : Int32) p1 u (hP.tr h_u) h_a0)
set_option maxRecDepth 20000 in
theorem fr_X9_isSmall {P : Nat → Prop} (N : Nat)   (p1 : Int32) (u : SG) : Cl P u → FQ P u (fun _ => True) (fX9_isSmall N  p1 u) := by
  intro hP
  have h_u : Fr P u u := Fr.rf
  unfold fX9_isSmall
  refine fq_if ?_ ?_
  · exact fq_ret h_u trivial
  · refine fq_if ?_ ?_
    · exact fq_ret h_u trivial
    · exact fq_ret h_u trivial
set_option maxRecDepth 20000 in
theorem frgX9_isSame_3 {P : Nat → Prop} (N : Nat)     : ∀ (n : Nat) (x0 : Nat) (x1 : Int32) (x2 : Int32) (x3 : Int32) (x4 : Int32) (u : SG), Cl P u → P x0 → FQ P u (fun _ => True) (gX9_isSame_3 N   n x0 x1 x2 x3 x4 u) := by
  intro n
  induction n with
  | zero => intros; intro r u9 h9; exact absurd h9 (by simp [gX9_isSame_3])
  | succ n ih =>
    intro x0 x1 x2 x3 x4 u hP h_x0
    have hrec3 := ih
    have h_u : Fr P u u := Fr.rf
    rw [gX9_isSame_3]
    refine fq_if ?_ ?_
    · exact fq_ret h_u trivial
    · refine fq_cl h_u (fr_J0_length_8abf5 N  u) (fun r1 u2 h_u2 h_r1 => ?_)
      refine fq_if ?_ ?_
      · exact fq_ret h_u2 trivial
      · refine fq_cl h_u2 (fr_J0_charAt_5068e N x4 u2) (fun r3 u4 h_u4 h_r3 => ?_)
        refine fq_if (fq_cl h_u4 (fr_X9_byteAt N x0 ((x1 + x4) - x2) u4 (hP.tr h_u4) h_x0 ) (fun r5 u6 h_u6 h_r5 => ?_)) fq_none
        refine fq_if ?_ ?_
        · exact fq_tr h_u6 (hrec3 x0 x1 x2 x3 (x4 + (1 : Int32)) u6 (hP.tr h_u6) h_x0)
        · exact fq_ret h_u6 trivial
set_option maxRecDepth 20000 in
theorem fr_X9_isSame {P : Nat → Prop} (N : Nat)   (a0 : Nat) (p1 : Int32) (p2 : Int32) (p3 : Int32) (u : SG) : Cl P u → P a0 → FQ P u (fun _ => True) (fX9_isSame N  a0 p1 p2 p3 u) := by
  intro hP h_a0
  have h_u : Fr P u u := Fr.rf
  unfold fX9_isSame
  exact fq_tr h_u (frgX9_isSame_3 N   N a0 p1 p2 p3 p2 u (hP.tr h_u) h_a0)
set_option maxRecDepth 20000 in
theorem frgX9_wordBetween_40 {P : Nat → Prop} (N : Nat)   (rec8 : Nat → Int32 → Int32 → Int32 → Int32 → Int32 → SG → Option (Int32 × SG)) (hrec8 : ∀ (x0 : Nat) (x1 : Int32) (x2 : Int32) (x3 : Int32) (x4 : Int32) (x5 : Int32) (u : SG), Cl P u → P x0 → FQ P u (fun _ => True) (rec8 x0 x1 x2 x3 x4 x5 u)) (x0 : Nat) (x1 : Int32) (x2 : Int32) (x3 : Int32) (x4 : Int32) (x5 : Int32) (u : SG) : Cl P u → P x0 → FQ P u (fun _ => True) (gX9_wordBetween_40 N  rec8 x0 x1 x2 x3 x4 x5 u) := by
  intro hP h_x0
  have h_u : Fr P u u := Fr.rf
  unfold gX9_wordBetween_40
  refine fq_if ?_ ?_
  · refine fq_if (fq_cl h_u (fr_X9_isSame N x0 x1 x4 x5 u (hP.tr h_u) h_x0 ) (fun r2 u3 h_u3 h_r2 => ?_)) fq_none
    refine fq_if ?_ ?_
    · refine fq_bs (fun v4 => ?_)
      exact fq_tr h_u3 (hrec8 x0 x1 x2 (x3 + (1 : Int32)) v4 (x5 + (1 : Int32)) u3 (hP.tr h_u3) h_x0)
    · exact fq_ret h_u3 trivial
  · refine fq_bs (fun v1 => ?_)
    exact fq_tr h_u (hrec8 x0 x1 x2 (x3 + (1 : Int32)) v1 (x5 + (1 : Int32)) u (hP.tr h_u) h_x0)
set_option maxRecDepth 20000 in
theorem frgX9_wordBetween_8 {P : Nat → Prop} (N : Nat)     : ∀ (n : Nat) (x0 : Nat) (x1 : Int32) (x2 : Int32) (x3 : Int32) (x4 : Int32) (x5 : Int32) (u : SG), Cl P u → P x0 → FQ P u (fun _ => True) (gX9_wordBetween_8 N   n x0 x1 x2 x3 x4 x5 u) := by
  intro n
  induction n with
  | zero => intros; intro r u9 h9; exact absurd h9 (by simp [gX9_wordBetween_8])
  | succ n ih =>
    intro x0 x1 x2 x3 x4 x5 u hP h_x0
    have hrec8 := ih
    have h_u : Fr P u u := Fr.rf
    rw [gX9_wordBetween_8]
    refine fq_cl h_u (fr_J0_length_8abf5 N  u) (fun r1 u2 h_u2 h_r1 => ?_)
    refine fq_if ?_ ?_
    · exact fq_ret h_u2 trivial
    · refine fq_cl h_u2 (fr_J0_length_8abf5 N  u2) (fun r3 u4 h_u4 h_r3 => ?_)
      refine fq_if ?_ ?_
      · exact fq_tr h_u4 (frgX9_wordBetween_40 N  _ hrec8 x0 x1 x2 x3 x4 x5 u4 (hP.tr h_u4) h_x0)
      · refine fq_cl h_u4 (fr_J0_charAt_5068e N x5 u4) (fun r5 u6 h_u6 h_r5 => ?_)
        refine fq_if ?_ ?_
        · exact fq_tr h_u6 (frgX9_wordBetween_40 N  _ hrec8 x0 x1 x2 x3 x4 x5 u6 (hP.tr h_u6) h_x0)
        · exact fq_tr h_u6 (hrec8 x0 x1 x2 x3 x4 (x5 + (1 : Int32)) u6 (hP.tr h_u6) h_x0)
set_option maxRecDepth 20000 in
theorem fr_X9_wordBetween {P : Nat → Prop} (N : Nat)   (a0 : Nat) (p1 : Int32) (p2 : Int32) (u : SG) : Cl P u → P a0 → FQ P u (fun _ => True) (fX9_wordBetween N  a0 p1 p2 u) := by
  intro hP h_a0
  have h_u : Fr P u u := Fr.rf
  unfold fX9_wordBetween
  exact fq_tr h_u (frgX9_wordBetween_8 N   N a0 p1 p2 (0 : Int32) (0 : Int32) (0 : Int32) u (hP.tr h_u) h_a0)
set_option maxRecDepth 20000 in
theorem frgX9_splitWord_27 {P : Nat → Prop} (N : Nat)     (x0 : Nat) (x1 : Int32) (x2 : Int32) (u : SG) : Cl P u → P x0 → FQ P u (fun _ => True) (gX9_splitWord_27 N   x0 x1 x2 u) := by
  intro hP h_x0
  have h_u : Fr P u u := Fr.rf
  unfold gX9_splitWord_27
  refine fq_if (fq_cl h_u (fr_X9_wordBetween N x0 x1 x2 u (hP.tr h_u) h_x0 ) (fun r1 u2 h_u2 h_r1 => ?_)) fq_none
  refine fq_if (fq_cl h_u2 (fr_X9_add N x0 (2 : Int32) r1 x1 u2 (hP.tr h_u2) h_x0 ) (fun r3 u4 h_u4 h_r3 => ?_)) fq_none
  exact fq_ret h_u4 trivial
set_option maxRecDepth 20000 in
theorem frgX9_splitWord_2 {P : Nat → Prop} (N : Nat)     : ∀ (n : Nat) (x0 : Nat) (x1 : Int32) (x2 : Int32) (u : SG), Cl P u → P x0 → FQ P u (fun _ => True) (gX9_splitWord_2 N   n x0 x1 x2 u) := by
  intro n
  induction n with
  | zero => intros; intro r u9 h9; exact absurd h9 (by simp [gX9_splitWord_2])
  | succ n ih =>
    intro x0 x1 x2 u hP h_x0
    have hrec2 := ih
    have h_u : Fr P u u := Fr.rf
    rw [gX9_splitWord_2]
    refine fq_if ?_ fq_none
    refine fq_if ?_ ?_
    · exact fq_tr h_u (frgX9_splitWord_27 N   x0 x1 x2 u (hP.tr h_u) h_x0)
    · refine fq_if (fq_cl h_u (fr_X9_byteAt N x0 x2 u (hP.tr h_u) h_x0 ) (fun r1 u2 h_u2 h_r1 => ?_)) fq_none
      refine fq_cl h_u2 (fr_X9_isSmall N r1 u2 (hP.tr h_u2) ) (fun r3 u4 h_u4 h_r3 => ?_)
      refine fq_if ?_ ?_
      · exact fq_tr h_u4 (frgX9_splitWord_27 N   x0 x1 x2 u4 (hP.tr h_u4) h_x0)
      · exact fq_tr h_u4 (hrec2 x0 x1 (x2 + (1 : Int32)) u4 (hP.tr h_u4) h_x0)
set_option maxRecDepth 20000 in
theorem fr_X9_splitWord {P : Nat → Prop} (N : Nat)   (a0 : Nat) (p1 : Int32) (u : SG) : Cl P u → P a0 → FQ P u (fun _ => True) (fX9_splitWord N  a0 p1 u) := by
  intro hP h_a0
  have h_u : Fr P u u := Fr.rf
  unfold fX9_splitWord
  exact fq_tr h_u (frgX9_splitWord_2 N   N a0 p1 p1 u (hP.tr h_u) h_a0)
set_option maxRecDepth 20000 in
theorem frgX9_splitAt_87 {P : Nat → Prop} (N : Nat)     (x1 : Int32) (x3 : Int32) (s0 : Nat) (s1 : Int32) (s2 : Int32) (u : SG) : Cl P u → P s0 → FQ P u (fun _ => True) (gX9_splitAt_87 N   x1 x3 s0 s1 s2 u) := by
  intro hP h_s0
  have h_u : Fr P u u := Fr.rf
  unfold gX9_splitAt_87
  refine fq_if (fq_cl h_u (fr_X9_add N s0 s1 s2 x1 u (hP.tr h_u) h_s0 ) (fun r1 u2 h_u2 h_r1 => ?_)) fq_none
  refine fq_if ?_ ?_
  · exact fq_ret h_u2 trivial
  · exact fq_ret h_u2 trivial
set_option maxRecDepth 20000 in
theorem frgX9_splitAt_71 {P : Nat → Prop} (N : Nat)     (x0 : Nat) (x1 : Int32) (x2 : Int32) (s0 : Int32) (u : SG) : Cl P u → P x0 → FQ P u (fun _ => True) (gX9_splitAt_71 N   x0 x1 x2 s0 u) := by
  intro hP h_x0
  have h_u : Fr P u u := Fr.rf
  unfold gX9_splitAt_71
  refine fq_if ?_ ?_
  · exact fq_tr h_u (frgX9_splitAt_87 N   x1 s0 x0 (3 : Int32) x2 u (hP.tr h_u) h_x0)
  · exact fq_tr h_u (frgX9_splitAt_87 N   x1 s0 x0 (3 : Int32) (x2 + (256 : Int32)) u (hP.tr h_u) h_x0)
set_option maxRecDepth 20000 in
theorem frgX9_splitAt_70 {P : Nat → Prop} (N : Nat)     (x0 : Nat) (x1 : Int32) (x2 : Int32) (u : SG) : Cl P u → P x0 → FQ P u (fun _ => True) (gX9_splitAt_70 N   x0 x1 x2 u) := by
  intro hP h_x0
  have h_u : Fr P u u := Fr.rf
  unfold gX9_splitAt_70
  exact fq_tr h_u (frgX9_splitAt_71 N   x0 x1 x2 (0 : Int32) u (hP.tr h_u) h_x0)
set_option maxRecDepth 20000 in
theorem frgX9_splitAt_54 {P : Nat → Prop} (N : Nat)     (x0 : Nat) (x1 : Int32) (x2 : Int32) (u : SG) : Cl P u → P x0 → FQ P u (fun _ => True) (gX9_splitAt_54 N   x0 x1 x2 u) := by
  intro hP h_x0
  have h_u : Fr P u u := Fr.rf
  unfold gX9_splitAt_54
  refine fq_if (fq_cl h_u (fr_X9_byteAt N x0 (x1 + (1 : Int32)) u (hP.tr h_u) h_x0 ) (fun r1 u2 h_u2 h_r1 => ?_)) fq_none
  refine fq_if ?_ ?_
  · exact fq_tr h_u2 (frgX9_splitAt_71 N   x0 x1 x2 (1 : Int32) u2 (hP.tr h_u2) h_x0)
  · exact fq_tr h_u2 (frgX9_splitAt_70 N   x0 x1 x2 u2 (hP.tr h_u2) h_x0)
set_option maxRecDepth 20000 in
theorem fr_X9_splitAt {P : Nat → Prop} (N : Nat)   (a0 : Nat) (p1 : Int32) (u : SG) : Cl P u → P a0 → FQ P u (fun _ => True) (fX9_splitAt N  a0 p1 u) := by
  intro hP h_a0
  have h_u : Fr P u u := Fr.rf
  unfold fX9_splitAt
  refine fq_if (fq_cl h_u (fr_X9_byteAt N a0 p1 u (hP.tr h_u) h_a0 ) (fun r1 u2 h_u2 h_r1 => ?_)) fq_none
  refine fq_if ?_ ?_
  · exact fq_ret h_u2 trivial
  · refine fq_cl h_u2 (fr_X9_isDigit N r1 u2 (hP.tr h_u2) ) (fun r3 u4 h_u4 h_r3 => ?_)
    refine fq_if ?_ ?_
    · refine fq_cl h_u4 (fr_X9_isSmall N r1 u4 (hP.tr h_u4) ) (fun r5 u6 h_u6 h_r5 => ?_)
      refine fq_if ?_ ?_
      · refine fq_if ?_ ?_
        · exact fq_tr h_u6 (frgX9_splitAt_54 N   a0 p1 r1 u6 (hP.tr h_u6) h_a0)
        · refine fq_if ?_ ?_
          · exact fq_tr h_u6 (frgX9_splitAt_54 N   a0 p1 r1 u6 (hP.tr h_u6) h_a0)
          · exact fq_tr h_u6 (frgX9_splitAt_70 N   a0 p1 r1 u6 (hP.tr h_u6) h_a0)
      · refine fq_if (fq_cl h_u6 (fr_X9_splitWord N a0 p1 u6 (hP.tr h_u6) h_a0 ) (fun r7 u8 h_u8 h_r7 => ?_)) fq_none
        exact fq_ret h_u8 trivial
    · refine fq_if (fq_cl h_u4 (fr_X9_splitNumber N a0 p1 u4 (hP.tr h_u4) h_a0 ) (fun r9 u10 h_u10 h_r9 => ?_)) fq_none
      exact fq_ret h_u10 trivial
set_option maxRecDepth 20000 in
theorem frgX9_step_92 {P : Nat → Prop} (N : Nat)     (x0 : Nat) (s0 : Nat) (s1 : Int32) (u : SG) : Cl P u → P x0 → P s0 → FQ P u (fun _ => True) (gX9_step_92 N   x0 s0 s1 u) := by
  intro hP h_x0 h_s0
  have h_u : Fr P u u := Fr.rf
  unfold gX9_step_92
  refine fq_if (fq_sI h_u h_s0 (fun u1 h_u1 => ?_)) fq_none
  refine fq_if ?_ fq_none
  refine fq_if ?_ ?_
  · refine fq_if ?_ fq_none
    refine fq_bR h_u1 hP h_x0 (fun q3 h_q3 => ?_)
    refine fq_if ?_ fq_none
    refine fq_if (fq_if fq_none ?_) fq_none
    refine fq_if (fq_sI h_u1 h_x0 (fun u4 h_u4 => ?_)) fq_none
    exact fq_ret h_u4 trivial
  · refine fq_if (fq_sI h_u1 h_x0 (fun u2 h_u2 => ?_)) fq_none
    exact fq_ret h_u2 trivial
set_option maxRecDepth 20000 in
theorem frgX9_step_67 {P : Nat → Prop} (N : Nat)     (x0 : Nat) (s0 : Nat) (s1 : Int32) (u : SG) : Cl P u → P x0 → P s0 → FQ P u (fun _ => True) (gX9_step_67 N   x0 s0 s1 u) := by
  intro hP h_x0 h_s0
  have h_u : Fr P u u := Fr.rf
  unfold gX9_step_67
  refine fq_if (fq_sI h_u h_s0 (fun u1 h_u1 => ?_)) fq_none
  refine fq_if ?_ fq_none
  refine fq_if ?_ ?_
  · refine fq_if ?_ fq_none
    refine fq_bR h_u1 hP h_x0 (fun q2 h_q2 => ?_)
    refine fq_if ?_ fq_none
    refine fq_if (fq_if fq_none ?_) fq_none
    exact fq_tr h_u1 (frgX9_step_92 N   x0 x0 (zI u1 q2 (zI u1 x0 7).toNatClampNeg) u1 (hP.tr h_u1) h_x0 h_x0)
  · exact fq_tr h_u1 (frgX9_step_92 N   x0 x0 (-1 : Int32) u1 (hP.tr h_u1) h_x0 h_x0)
set_option maxRecDepth 20000 in
theorem fr_X9_step {P : Nat → Prop} (N : Nat)   (a0 : Nat) (u : SG) : Cl P u → P a0 → FQ P u (fun _ => True) (fX9_step N  a0 u) := by
  intro hP h_a0
  have h_u : Fr P u u := Fr.rf
  unfold fX9_step
  refine fq_if ?_ fq_none
  refine fq_bs (fun v1 => ?_)
  refine fq_if ?_ ?_
  · exact fq_ret h_u trivial
  · refine fq_if ?_ fq_none
    refine fq_if ?_ ?_
    · exact fq_ret h_u trivial
    · refine fq_if ?_ ?_
      · refine fq_if (fq_sI h_u h_a0 (fun u2 h_u2 => ?_)) fq_none
        refine fq_if ?_ fq_none
        refine fq_bR h_u2 hP h_a0 (fun q3 h_q3 => ?_)
        refine fq_if ?_ fq_none
        refine fq_if (fq_if fq_none ?_) fq_none
        refine fq_if (fq_sI h_u2 h_a0 (fun u4 h_u4 => ?_)) fq_none
        refine fq_if ?_ fq_none
        refine fq_if ?_ ?_
        · refine fq_if ?_ fq_none
          refine fq_bR h_u4 hP h_a0 (fun q5 h_q5 => ?_)
          refine fq_if ?_ fq_none
          refine fq_if (fq_if fq_none ?_) fq_none
          exact fq_tr h_u4 (frgX9_step_67 N   a0 a0 (zI u4 q5 (zI u4 a0 7).toNatClampNeg) u4 (hP.tr h_u4) h_a0 h_a0)
        · exact fq_tr h_u4 (frgX9_step_67 N   a0 a0 (-1 : Int32) u4 (hP.tr h_u4) h_a0 h_a0)
      · exact fq_ret h_u trivial
set_option maxRecDepth 20000 in
theorem frgX9_open_46 {P : Nat → Prop} (N : Nat)     (x0 : Nat) (u : SG) : Cl P u → P x0 → FQ P u (fun _ => True) (gX9_open_46 N   x0 u) := by
  intro hP h_x0
  have h_u : Fr P u u := Fr.rf
  unfold gX9_open_46
  refine fq_if ?_ fq_none
  refine fq_if (fq_cl h_u (fr_X9_add N x0 (0 : Int32) (0 : Int32) (zI u x0 1) u (hP.tr h_u) h_x0 ) (fun r1 u2 h_u2 h_r1 => ?_)) fq_none
  refine fq_if (fq_cl h_u2 (fr_X9_step N x0  u2 (hP.tr h_u2) h_x0 ) (fun r3 u4 h_u4 h_r3 => ?_)) fq_none
  exact fq_ret h_u4 trivial
set_option maxRecDepth 20000 in
theorem frgX9_open_19 {P : Nat → Prop} (N : Nat)     : ∀ (n : Nat) (x0 : Nat) (x1 : Int32) (x2 : Int32) (u : SG), Cl P u → P x0 → FQ P u (fun _ => True) (gX9_open_19 N   n x0 x1 x2 u) := by
  intro n
  induction n with
  | zero => intros; intro r u9 h9; exact absurd h9 (by simp [gX9_open_19])
  | succ n ih =>
    intro x0 x1 x2 u hP h_x0
    have hrec19 := ih
    have h_u : Fr P u u := Fr.rf
    rw [gX9_open_19]
    refine fq_if ?_ ?_
    · exact fq_tr h_u (frgX9_open_46 N   x0 u (hP.tr h_u) h_x0)
    · refine fq_if ?_ fq_none
      refine fq_if ?_ ?_
      · exact fq_tr h_u (frgX9_open_46 N   x0 u (hP.tr h_u) h_x0)
      · refine fq_if (fq_cl h_u (fr_X9_splitAt N x0 x1 u (hP.tr h_u) h_x0 ) (fun r1 u2 h_u2 h_r1 => ?_)) fq_none
        exact fq_tr h_u2 (hrec19 x0 r1 (x2 + (1 : Int32)) u2 (hP.tr h_u2) h_x0)
set_option maxRecDepth 20000 in
theorem fr_X9_open {P : Nat → Prop} (N : Nat)   (a0 : Nat) (u : SG) : Cl P u → P a0 → FQ P u (fun _ => True) (fX9_open N  a0 u) := by
  intro hP h_a0
  have h_u : Fr P u u := Fr.rf
  unfold fX9_open
  refine fq_if (fq_sI h_u h_a0 (fun u1 h_u1 => ?_)) fq_none
  refine fq_if (fq_sI h_u1 h_a0 (fun u2 h_u2 => ?_)) fq_none
  refine fq_if (fq_sI h_u2 h_a0 (fun u3 h_u3 => ?_)) fq_none
  exact fq_tr h_u3 (frgX9_open_19 N   N a0 (0 : Int32) (0 : Int32) u3 (hP.tr h_u3) h_a0)
set_option maxRecDepth 20000 in
theorem frgX9_refuse_30 {P : Nat → Prop} (N : Nat)     (x0 : Nat) (x1 : Int32) (s0 : Int32) (u : SG) : Cl P u → P x0 → FQ P u (fun _ => True) (gX9_refuse_30 N   x0 x1 s0 u) := by
  intro hP h_x0
  have h_u : Fr P u u := Fr.rf
  unfold gX9_refuse_30
  refine fq_if (fq_sI h_u h_x0 (fun u1 h_u1 => ?_)) fq_none
  exact fq_ret h_u1 trivial
set_option maxRecDepth 20000 in
theorem frgX9_refuse_29 {P : Nat → Prop} (N : Nat)     (x0 : Nat) (x1 : Int32) (u : SG) : Cl P u → P x0 → FQ P u (fun _ => True) (gX9_refuse_29 N   x0 x1 u) := by
  intro hP h_x0
  have h_u : Fr P u u := Fr.rf
  unfold gX9_refuse_29
  exact fq_tr h_u (frgX9_refuse_30 N   x0 x1 (0 : Int32) u (hP.tr h_u) h_x0)
set_option maxRecDepth 20000 in
theorem fr_X9_refuse {P : Nat → Prop} (N : Nat)   (a0 : Nat) (p1 : Int32) (u : SG) : Cl P u → P a0 → FQ P u (fun _ => True) (fX9_refuse N  a0 p1 u) := by
  intro hP h_a0
  have h_u : Fr P u u := Fr.rf
  unfold fX9_refuse
  refine fq_if ?_ fq_none
  refine fq_if ?_ ?_
  · exact fq_tr h_u (frgX9_refuse_29 N   a0 p1 u (hP.tr h_u) h_a0)
  · refine fq_if ?_ fq_none
    refine fq_if ?_ ?_
    · exact fq_tr h_u (frgX9_refuse_29 N   a0 p1 u (hP.tr h_u) h_a0)
    · refine fq_if ?_ fq_none
      refine fq_bR h_u hP h_a0 (fun q1 h_q1 => ?_)
      refine fq_if ?_ fq_none
      refine fq_if (fq_if fq_none ?_) fq_none
      exact fq_tr h_u (frgX9_refuse_30 N   a0 p1 (zI u q1 (zI u a0 7).toNatClampNeg) u (hP.tr h_u) h_a0)
set_option maxRecDepth 20000 in
theorem fr_X5_emit {P : Nat → Prop} (N : Nat)   (a0 : Nat) (p1 : Int32) (u : SG) : Cl P u → P a0 → FQ P u (fun _ => True) (fX5_emit N  a0 p1 u) := by
  intro hP h_a0
  have h_u : Fr P u u := Fr.rf
  unfold fX5_emit
  refine fq_if ?_ ?_
  · exact fq_ret h_u trivial
  · refine fq_if ?_ fq_none
    refine fq_if ?_ ?_
    · exact fq_ret h_u trivial
    · refine fq_if ?_ fq_none
      refine fq_if ?_ ?_
      · exact fq_ret h_u trivial
      · refine fq_if ?_ fq_none
        refine fq_bR h_u hP h_a0 (fun q1 h_q1 => ?_)
        refine fq_if ?_ fq_none
        refine fq_if (fq_if fq_none (fq_sI h_u h_q1 (fun u2 h_u2 => ?_))) fq_none
        refine fq_if ?_ fq_none
        refine fq_if (fq_sI h_u2 h_a0 (fun u3 h_u3 => ?_)) fq_none
        exact fq_ret h_u3 trivial
set_option maxRecDepth 20000 in
theorem frgX5_readValue_138 {P : Nat → Prop} (N : Nat)     (x0 : Nat) (s0 : Nat) (s1 : Int32) (u : SG) : Cl P u → P x0 → P s0 → FQ P u (fun _ => True) (gX5_readValue_138 N   x0 s0 s1 u) := by
  intro hP h_x0 h_s0
  have h_u : Fr P u u := Fr.rf
  unfold gX5_readValue_138
  refine fq_if (fq_cl h_u (fr_X5_emit N s0 s1 u (hP.tr h_u) h_s0 ) (fun r1 u2 h_u2 h_r1 => ?_)) fq_none
  refine fq_if ?_ fq_none
  refine fq_bR h_u2 hP h_x0 (fun q3 h_q3 => ?_)
  refine fq_if (fq_cl h_u2 (fr_X9_step N q3  u2 (hP.tr h_u2) h_q3 ) (fun r4 u5 h_u5 h_r4 => ?_)) fq_none
  exact fq_ret h_u5 trivial
set_option maxRecDepth 20000 in
theorem frgX5_readValue_86 {P : Nat → Prop} (N : Nat)     (x0 : Nat) (x1 : Int32) (u : SG) : Cl P u → P x0 → FQ P u (fun _ => True) (gX5_readValue_86 N   x0 x1 u) := by
  intro hP h_x0
  have h_u : Fr P u u := Fr.rf
  unfold gX5_readValue_86
  refine fq_if ?_ fq_none
  refine fq_if ?_ ?_
  · refine fq_if ?_ fq_none
    refine fq_if (fq_sI h_u h_x0 (fun u1 h_u1 => ?_)) fq_none
    refine fq_if ?_ ?_
    · refine fq_if ?_ fq_none
      refine fq_bR h_u1 hP h_x0 (fun q2 h_q2 => ?_)
      refine fq_if ?_ fq_none
      exact fq_tr h_u1 (frgX5_readValue_138 N   x0 x0 ((-1 : Int32) - (zI u1 q2 10)) u1 (hP.tr h_u1) h_x0 h_x0)
    · refine fq_if ?_ fq_none
      refine fq_bR h_u1 hP h_x0 (fun q3 h_q3 => ?_)
      refine fq_if ?_ fq_none
      exact fq_tr h_u1 (frgX5_readValue_138 N   x0 x0 (zI u1 q3 9) u1 (hP.tr h_u1) h_x0 h_x0)
  · refine fq_if ?_ fq_none
    refine fq_bR h_u hP h_x0 (fun q4 h_q4 => ?_)
    refine fq_if (fq_cl h_u (fr_X9_refuse N q4 (3 : Int32) u (hP.tr h_u) h_q4 ) (fun r5 u6 h_u6 h_r5 => ?_)) fq_none
    exact fq_if (fq_ret h_u6 trivial) fq_none
set_option maxRecDepth 20000 in
theorem frgX5_readValue_62 {P : Nat → Prop} (N : Nat)     (x0 : Nat) (x1 : Int32) (u : SG) : Cl P u → P x0 → FQ P u (fun _ => True) (gX5_readValue_62 N   x0 x1 u) := by
  intro hP h_x0
  have h_u : Fr P u u := Fr.rf
  unfold gX5_readValue_62
  refine fq_if ?_ ?_
  · exact fq_tr h_u (frgX5_readValue_86 N   x0 x1 u (hP.tr h_u) h_x0)
  · refine fq_if ?_ fq_none
    refine fq_bR h_u hP h_x0 (fun q1 h_q1 => ?_)
    refine fq_if ?_ fq_none
    refine fq_if ?_ ?_
    · refine fq_if ?_ fq_none
      refine fq_bR h_u hP h_x0 (fun q2 h_q2 => ?_)
      refine fq_if (fq_cl h_u (fr_X9_refuse N q2 (1 : Int32) u (hP.tr h_u) h_q2 ) (fun r3 u4 h_u4 h_r3 => ?_)) fq_none
      exact fq_if (fq_ret h_u4 trivial) fq_none
    · exact fq_tr h_u (frgX5_readValue_86 N   x0 x1 u (hP.tr h_u) h_x0)
set_option maxRecDepth 20000 in
theorem frgX5_readValue_44 {P : Nat → Prop} (N : Nat)     (x0 : Nat) (x1 : Int32) (s0 : Int32) (u : SG) : Cl P u → P x0 → FQ P u (fun _ => True) (gX5_readValue_44 N   x0 x1 s0 u) := by
  intro hP h_x0
  have h_u : Fr P u u := Fr.rf
  unfold gX5_readValue_44
  refine fq_if ?_ ?_
  · refine fq_if ?_ ?_
    · refine fq_if ?_ fq_none
      refine fq_bR h_u hP h_x0 (fun q1 h_q1 => ?_)
      refine fq_if (fq_cl h_u (fr_X9_refuse N q1 (0 : Int32) u (hP.tr h_u) h_q1 ) (fun r2 u3 h_u3 h_r2 => ?_)) fq_none
      exact fq_if (fq_ret h_u3 trivial) fq_none
    · exact fq_tr h_u (frgX5_readValue_62 N   x0 x1 u (hP.tr h_u) h_x0)
  · exact fq_tr h_u (frgX5_readValue_62 N   x0 x1 u (hP.tr h_u) h_x0)
set_option maxRecDepth 20000 in
theorem frgX5_readValue_43 {P : Nat → Prop} (N : Nat)     (x0 : Nat) (x1 : Int32) (u : SG) : Cl P u → P x0 → FQ P u (fun _ => True) (gX5_readValue_43 N   x0 x1 u) := by
  intro hP h_x0
  have h_u : Fr P u u := Fr.rf
  unfold gX5_readValue_43
  exact fq_tr h_u (frgX5_readValue_44 N   x0 x1 (0 : Int32) u (hP.tr h_u) h_x0)
set_option maxRecDepth 20000 in
theorem frgX5_readValue_16 {P : Nat → Prop} (N : Nat)     (x0 : Nat) (s0 : Int32) (u : SG) : Cl P u → P x0 → FQ P u (fun _ => True) (gX5_readValue_16 N   x0 s0 u) := by
  intro hP h_x0
  have h_u : Fr P u u := Fr.rf
  unfold gX5_readValue_16
  refine fq_if ?_ fq_none
  refine fq_bR h_u hP h_x0 (fun q1 h_q1 => ?_)
  refine fq_if ?_ fq_none
  refine fq_if ?_ ?_
  · exact fq_tr h_u (frgX5_readValue_43 N   x0 s0 u (hP.tr h_u) h_x0)
  · refine fq_if ?_ fq_none
    refine fq_bR h_u hP h_x0 (fun q2 h_q2 => ?_)
    refine fq_if ?_ fq_none
    refine fq_if ?_ ?_
    · exact fq_tr h_u (frgX5_readValue_43 N   x0 s0 u (hP.tr h_u) h_x0)
    · exact fq_tr h_u (frgX5_readValue_44 N   x0 s0 (1 : Int32) u (hP.tr h_u) h_x0)
set_option maxRecDepth 20000 in
theorem fr_X5_readValue {P : Nat → Prop} (N : Nat)   (a0 : Nat) (u : SG) : Cl P u → P a0 → FQ P u (fun _ => True) (fX5_readValue N  a0 u) := by
  intro hP h_a0
  have h_u : Fr P u u := Fr.rf
  unfold fX5_readValue
  refine fq_if ?_ fq_none
  refine fq_bR h_u hP h_a0 (fun q1 h_q1 => ?_)
  refine fq_if ?_ fq_none
  refine fq_if ?_ ?_
  · exact fq_tr h_u (frgX5_readValue_16 N   a0 (1 : Int32) u (hP.tr h_u) h_a0)
  · exact fq_tr h_u (frgX5_readValue_16 N   a0 (0 : Int32) u (hP.tr h_u) h_a0)
set_option maxRecDepth 20000 in
theorem fr_X5_factorOf {P : Nat → Prop} (N : Nat)   (p1 : Int32) (u : SG) : Cl P u → FQ P u (fun _ => True) (fX5_factorOf N  p1 u) := by
  intro hP
  have h_u : Fr P u u := Fr.rf
  unfold fX5_factorOf
  refine fq_if ?_ ?_
  · exact fq_ret h_u trivial
  refine fq_if ?_ ?_
  · exact fq_ret h_u trivial
  refine fq_if ?_ ?_
  · exact fq_ret h_u trivial
  exact fq_ret h_u trivial
set_option maxRecDepth 20000 in
theorem fr_X5_summandOf {P : Nat → Prop} (N : Nat)   (p1 : Int32) (u : SG) : Cl P u → FQ P u (fun _ => True) (fX5_summandOf N  p1 u) := by
  intro hP
  have h_u : Fr P u u := Fr.rf
  unfold fX5_summandOf
  refine fq_if ?_ ?_
  · exact fq_ret h_u trivial
  refine fq_if ?_ ?_
  · exact fq_ret h_u trivial
  exact fq_ret h_u trivial
set_option maxRecDepth 20000 in
theorem frgX5_readSum_72 {P : Nat → Prop} (N : Nat)   (rec8 : Nat → Int32 → Int32 → Int32 → SG → Option (Int32 × SG)) (hrec8 : ∀ (x0 : Nat) (x1 : Int32) (x2 : Int32) (x3 : Int32) (u : SG), Cl P u → P x0 → FQ P u (fun _ => True) (rec8 x0 x1 x2 x3 u)) (x0 : Nat) (x1 : Int32) (x2 : Int32) (x3 : Int32) (u : SG) : Cl P u → P x0 → FQ P u (fun _ => True) (gX5_readSum_72 N  rec8 x0 x1 x2 x3 u) := by
  intro hP h_x0
  have h_u : Fr P u u := Fr.rf
  unfold gX5_readSum_72
  refine fq_if ?_ fq_none
  refine fq_bR h_u hP h_x0 (fun q1 h_q1 => ?_)
  refine fq_if (fq_cl h_u (fr_X9_step N q1  u (hP.tr h_u) h_q1 ) (fun r2 u3 h_u3 h_r2 => ?_)) fq_none
  exact fq_tr h_u3 (hrec8 x0 x1 x2 (x3 + (1 : Int32)) u3 (hP.tr h_u3) h_x0)
set_option maxRecDepth 20000 in
theorem frgX5_readSum_8 {P : Nat → Prop} (N : Nat)     : ∀ (n : Nat) (x0 : Nat) (x1 : Int32) (x2 : Int32) (x3 : Int32) (u : SG), Cl P u → P x0 → FQ P u (fun _ => True) (gX5_readSum_8 N   n x0 x1 x2 x3 u) := by
  intro n
  induction n with
  | zero => intros; intro r u9 h9; exact absurd h9 (by simp [gX5_readSum_8])
  | succ n ih =>
    intro x0 x1 x2 x3 u hP h_x0
    have hrec8 := ih
    have h_u : Fr P u u := Fr.rf
    rw [gX5_readSum_8]
    refine fq_if ?_ ?_
    · refine fq_if ?_ fq_none
      refine fq_bR h_u hP h_x0 (fun q1 h_q1 => ?_)
      refine fq_if (fq_cl h_u (fr_X9_refuse N q1 (3 : Int32) u (hP.tr h_u) h_q1 ) (fun r2 u3 h_u3 h_r2 => ?_)) fq_none
      exact fq_if (fq_ret h_u3 trivial) fq_none
    · refine fq_if (fq_cl h_u (fr_X5_readValue N x0  u (hP.tr h_u) h_x0 ) (fun r4 u5 h_u5 h_r4 => ?_)) fq_none
      refine fq_if ?_ ?_
      · exact fq_ret h_u5 trivial
      · refine fq_if (fq_cl h_u5 (fr_X5_emit N x0 x2 u5 (hP.tr h_u5) h_x0 ) (fun r6 u7 h_u7 h_r6 => ?_)) fq_none
        refine fq_if ?_ fq_none
        refine fq_bR h_u7 hP h_x0 (fun q8 h_q8 => ?_)
        refine fq_if ?_ fq_none
        refine fq_cl h_u7 (fr_X5_factorOf N (zI u7 q8 11) u7 (hP.tr h_u7) ) (fun r9 u10 h_u10 h_r9 => ?_)
        refine fq_if ?_ ?_
        · refine fq_if (fq_cl h_u10 (fr_X5_emit N x0 x1 u10 (hP.tr h_u10) h_x0 ) (fun r11 u12 h_u12 h_r11 => ?_)) fq_none
          refine fq_if ?_ fq_none
          refine fq_bR h_u12 hP h_x0 (fun q13 h_q13 => ?_)
          refine fq_if ?_ fq_none
          refine fq_cl h_u12 (fr_X5_summandOf N (zI u12 q13 11) u12 (hP.tr h_u12) ) (fun r14 u15 h_u15 h_r14 => ?_)
          refine fq_if ?_ ?_
          · exact fq_ret h_u15 trivial
          · exact fq_tr h_u15 (frgX5_readSum_72 N  _ hrec8 x0 r14 r9 x3 u15 (hP.tr h_u15) h_x0)
        · exact fq_tr h_u10 (frgX5_readSum_72 N  _ hrec8 x0 x1 r9 x3 u10 (hP.tr h_u10) h_x0)
set_option maxRecDepth 20000 in
theorem fr_X5_readSum {P : Nat → Prop} (N : Nat)   (a0 : Nat) (u : SG) : Cl P u → P a0 → FQ P u (fun _ => True) (fX5_readSum N  a0 u) := by
  intro hP h_a0
  have h_u : Fr P u u := Fr.rf
  unfold fX5_readSum
  exact fq_tr h_u (frgX5_readSum_8 N   N a0 (-99 : Int32) (-99 : Int32) (0 : Int32) u (hP.tr h_u) h_a0)
set_option maxRecDepth 20000 in
theorem fr_X9_takeSign {P : Nat → Prop} (N : Nat)   (a0 : Nat) (p1 : Int32) (u : SG) : Cl P u → P a0 → FQ P u (fun _ => True) (fX9_takeSign N  a0 p1 u) := by
  intro hP h_a0
  have h_u : Fr P u u := Fr.rf
  unfold fX9_takeSign
  refine fq_if ?_ fq_none
  refine fq_if ?_ ?_
  · refine fq_if (fq_cl h_u (fr_X9_step N a0  u (hP.tr h_u) h_a0 ) (fun r1 u2 h_u2 h_r1 => ?_)) fq_none
    exact fq_ret h_u2 trivial
  · refine fq_if (fq_cl h_u (fr_X9_refuse N a0 (0 : Int32) u (hP.tr h_u) h_a0 ) (fun r3 u4 h_u4 h_r3 => ?_)) fq_none
    exact fq_if (fq_ret h_u4 trivial) fq_none
set_option maxRecDepth 20000 in
theorem fr_X5_comparisonOf {P : Nat → Prop} (N : Nat)   (p1 : Int32) (u : SG) : Cl P u → FQ P u (fun _ => True) (fX5_comparisonOf N  p1 u) := by
  intro hP
  have h_u : Fr P u u := Fr.rf
  unfold fX5_comparisonOf
  refine fq_if ?_ ?_
  · exact fq_ret h_u trivial
  refine fq_if ?_ ?_
  · exact fq_ret h_u trivial
  refine fq_if ?_ ?_
  · exact fq_ret h_u trivial
  refine fq_if ?_ ?_
  · exact fq_ret h_u trivial
  refine fq_if ?_ ?_
  · exact fq_ret h_u trivial
  exact fq_ret h_u trivial
set_option maxRecDepth 20000 in
theorem frgX5_readFact_49 {P : Nat → Prop} (N : Nat) (calreadFact : Nat → Int32 → SG → Option (Int32 × SG)) (calreadTest : Nat → Int32 → SG → Option (Int32 × SG)) (hfcalreadFact : ∀ a p u, Cl P u → P a → FQ P u (fun _ => True) (calreadFact a p u)) (hfcalreadTest : ∀ a p u, Cl P u → P a → FQ P u (fun _ => True) (calreadTest a p u))   (x0 : Nat) (x1 : Int32) (u : SG) : Cl P u → P x0 → FQ P u (fun _ => True) (gX5_readFact_49 N calreadFact calreadTest  x0 x1 u) := by
  intro hP h_x0
  have h_u : Fr P u u := Fr.rf
  unfold gX5_readFact_49
  refine fq_if ?_ fq_none
  refine fq_bR h_u hP h_x0 (fun q1 h_q1 => ?_)
  refine fq_if ?_ fq_none
  refine fq_if ?_ ?_
  · refine fq_if ?_ fq_none
    refine fq_bR h_u hP h_x0 (fun q30 h_q30 => ?_)
    refine fq_if (fq_cl h_u (fr_X9_step N q30  u (hP.tr h_u) h_q30 ) (fun r31 u32 h_u32 h_r31 => ?_)) fq_none
    refine fq_if (fq_cl h_u32 (hfcalreadFact x0 (x1 + (1 : Int32)) u32 (hP.tr h_u32) h_x0 ) (fun r33 u34 h_u34 h_r33 => ?_)) fq_none
    refine fq_if ?_ ?_
    · exact fq_ret h_u34 trivial
    · refine fq_if (fq_cl h_u34 (fr_X5_emit N x0 (-32 : Int32) u34 (hP.tr h_u34) h_x0 ) (fun r35 u36 h_u36 h_r35 => ?_)) fq_none
      refine fq_if ?_ ?_
      · exact fq_ret h_u36 trivial
      · exact fq_ret h_u36 trivial
  · refine fq_if ?_ fq_none
    refine fq_bR h_u hP h_x0 (fun q2 h_q2 => ?_)
    refine fq_if ?_ fq_none
    refine fq_if ?_ ?_
    · refine fq_if ?_ fq_none
      refine fq_bR h_u hP h_x0 (fun q22 h_q22 => ?_)
      refine fq_if (fq_cl h_u (fr_X9_step N q22  u (hP.tr h_u) h_q22 ) (fun r23 u24 h_u24 h_r23 => ?_)) fq_none
      refine fq_if (fq_cl h_u24 (hfcalreadTest x0 (x1 + (1 : Int32)) u24 (hP.tr h_u24) h_x0 ) (fun r25 u26 h_u26 h_r25 => ?_)) fq_none
      refine fq_if ?_ ?_
      · exact fq_ret h_u26 trivial
      · refine fq_if ?_ fq_none
        refine fq_bR h_u26 hP h_x0 (fun q27 h_q27 => ?_)
        refine fq_if (fq_cl h_u26 (fr_X9_takeSign N q27 (93 : Int32) u26 (hP.tr h_u26) h_q27 ) (fun r28 u29 h_u29 h_r28 => ?_)) fq_none
        refine fq_if ?_ ?_
        · exact fq_ret h_u29 trivial
        · exact fq_ret h_u29 trivial
    · refine fq_if (fq_cl h_u (fr_X5_readSum N x0  u (hP.tr h_u) h_x0 ) (fun r3 u4 h_u4 h_r3 => ?_)) fq_none
      refine fq_if ?_ ?_
      · exact fq_ret h_u4 trivial
      · refine fq_if ?_ fq_none
        refine fq_bR h_u4 hP h_x0 (fun q5 h_q5 => ?_)
        refine fq_if ?_ fq_none
        refine fq_cl h_u4 (fr_X5_comparisonOf N (zI u4 q5 11) u4 (hP.tr h_u4) ) (fun r6 u7 h_u7 h_r6 => ?_)
        refine fq_if ?_ ?_
        · refine fq_if ?_ fq_none
          refine fq_bR h_u7 hP h_x0 (fun q19 h_q19 => ?_)
          refine fq_if (fq_cl h_u7 (fr_X9_refuse N q19 (0 : Int32) u7 (hP.tr h_u7) h_q19 ) (fun r20 u21 h_u21 h_r20 => ?_)) fq_none
          exact fq_if (fq_ret h_u21 trivial) fq_none
        · refine fq_if ?_ fq_none
          refine fq_if ?_ ?_
          · refine fq_if ?_ fq_none
            refine fq_if (fq_sI h_u7 h_x0 (fun u8 h_u8 => ?_)) fq_none
            refine fq_if ?_ fq_none
            refine fq_bR h_u8 hP h_x0 (fun q9 h_q9 => ?_)
            refine fq_if (fq_cl h_u8 (fr_X9_step N q9  u8 (hP.tr h_u8) h_q9 ) (fun r10 u11 h_u11 h_r10 => ?_)) fq_none
            refine fq_if (fq_cl h_u11 (fr_X5_readSum N x0  u11 (hP.tr h_u11) h_x0 ) (fun r12 u13 h_u13 h_r12 => ?_)) fq_none
            refine fq_if ?_ ?_
            · exact fq_ret h_u13 trivial
            · refine fq_if (fq_cl h_u13 (fr_X5_emit N x0 r6 u13 (hP.tr h_u13) h_x0 ) (fun r14 u15 h_u15 h_r14 => ?_)) fq_none
              refine fq_if ?_ ?_
              · exact fq_ret h_u15 trivial
              · exact fq_ret h_u15 trivial
          · refine fq_if ?_ fq_none
            refine fq_bR h_u7 hP h_x0 (fun q16 h_q16 => ?_)
            refine fq_if (fq_cl h_u7 (fr_X9_refuse N q16 (3 : Int32) u7 (hP.tr h_u7) h_q16 ) (fun r17 u18 h_u18 h_r17 => ?_)) fq_none
            exact fq_if (fq_ret h_u18 trivial) fq_none
set_option maxRecDepth 20000 in
theorem frgX5_readFact_29 {P : Nat → Prop} (N : Nat) (calreadFact : Nat → Int32 → SG → Option (Int32 × SG)) (calreadTest : Nat → Int32 → SG → Option (Int32 × SG)) (hfcalreadFact : ∀ a p u, Cl P u → P a → FQ P u (fun _ => True) (calreadFact a p u)) (hfcalreadTest : ∀ a p u, Cl P u → P a → FQ P u (fun _ => True) (calreadTest a p u))   (x0 : Nat) (x1 : Int32) (s0 : Int32) (u : SG) : Cl P u → P x0 → FQ P u (fun _ => True) (gX5_readFact_29 N calreadFact calreadTest  x0 x1 s0 u) := by
  intro hP h_x0
  have h_u : Fr P u u := Fr.rf
  unfold gX5_readFact_29
  refine fq_if ?_ ?_
  · exact fq_tr h_u (frgX5_readFact_49 N calreadFact calreadTest hfcalreadFact hfcalreadTest  x0 x1 u (hP.tr h_u) h_x0)
  · refine fq_if ?_ ?_
    · exact fq_tr h_u (frgX5_readFact_49 N calreadFact calreadTest hfcalreadFact hfcalreadTest  x0 x1 u (hP.tr h_u) h_x0)
    · refine fq_if ?_ fq_none
      refine fq_bR h_u hP h_x0 (fun q1 h_q1 => ?_)
      refine fq_if (fq_cl h_u (fr_X9_refuse N q1 (2 : Int32) u (hP.tr h_u) h_q1 ) (fun r2 u3 h_u3 h_r2 => ?_)) fq_none
      exact fq_if (fq_ret h_u3 trivial) fq_none
set_option maxRecDepth 20000 in
theorem frgX5_readFact_24 {P : Nat → Prop} (N : Nat) (calreadFact : Nat → Int32 → SG → Option (Int32 × SG)) (calreadTest : Nat → Int32 → SG → Option (Int32 × SG)) (hfcalreadFact : ∀ a p u, Cl P u → P a → FQ P u (fun _ => True) (calreadFact a p u)) (hfcalreadTest : ∀ a p u, Cl P u → P a → FQ P u (fun _ => True) (calreadTest a p u))   (x0 : Nat) (x1 : Int32) (u : SG) : Cl P u → P x0 → FQ P u (fun _ => True) (gX5_readFact_24 N calreadFact calreadTest  x0 x1 u) := by
  intro hP h_x0
  have h_u : Fr P u u := Fr.rf
  unfold gX5_readFact_24
  exact fq_tr h_u (frgX5_readFact_29 N calreadFact calreadTest hfcalreadFact hfcalreadTest  x0 x1 (1 : Int32) u (hP.tr h_u) h_x0)
set_option maxRecDepth 20000 in
theorem frb_X5_readFact {P : Nat → Prop} (N : Nat) (calreadFact : Nat → Int32 → SG → Option (Int32 × SG)) (calreadTest : Nat → Int32 → SG → Option (Int32 × SG)) (hfcalreadFact : ∀ a p u, Cl P u → P a → FQ P u (fun _ => True) (calreadFact a p u)) (hfcalreadTest : ∀ a p u, Cl P u → P a → FQ P u (fun _ => True) (calreadTest a p u)) (a0 : Nat) (p1 : Int32) (u : SG) : Cl P u → P a0 → FQ P u (fun _ => True) (bX5_readFact N calreadFact calreadTest a0 p1 u) := by
  intro hP h_a0
  have h_u : Fr P u u := Fr.rf
  unfold bX5_readFact
  refine fq_if ?_ fq_none
  refine fq_bR h_u hP h_a0 (fun q1 h_q1 => ?_)
  refine fq_if ?_ fq_none
  refine fq_if ?_ ?_
  · exact fq_tr h_u (frgX5_readFact_24 N calreadFact calreadTest hfcalreadFact hfcalreadTest  a0 p1 u (hP.tr h_u) h_a0)
  · refine fq_if ?_ fq_none
    refine fq_bR h_u hP h_a0 (fun q2 h_q2 => ?_)
    refine fq_if ?_ fq_none
    refine fq_if ?_ ?_
    · exact fq_tr h_u (frgX5_readFact_24 N calreadFact calreadTest hfcalreadFact hfcalreadTest  a0 p1 u (hP.tr h_u) h_a0)
    · exact fq_tr h_u (frgX5_readFact_29 N calreadFact calreadTest hfcalreadFact hfcalreadTest  a0 p1 (0 : Int32) u (hP.tr h_u) h_a0)
set_option maxRecDepth 20000 in
theorem frgX5_readTest_93 {P : Nat → Prop} (N : Nat) (calreadFact : Nat → Int32 → SG → Option (Int32 × SG)) (hfcalreadFact : ∀ a p u, Cl P u → P a → FQ P u (fun _ => True) (calreadFact a p u)) (rec9 : Nat → Int32 → Int32 → Int32 → Int32 → SG → Option (Int32 × SG)) (hrec9 : ∀ (x0 : Nat) (x1 : Int32) (x2 : Int32) (x3 : Int32) (x4 : Int32) (u : SG), Cl P u → P x0 → FQ P u (fun _ => True) (rec9 x0 x1 x2 x3 x4 u)) (x0 : Nat) (x1 : Int32) (x2 : Int32) (x3 : Int32) (x4 : Int32) (u : SG) : Cl P u → P x0 → FQ P u (fun _ => True) (gX5_readTest_93 N calreadFact rec9 x0 x1 x2 x3 x4 u) := by
  intro hP h_x0
  have h_u : Fr P u u := Fr.rf
  unfold gX5_readTest_93
  refine fq_if ?_ fq_none
  refine fq_bR h_u hP h_x0 (fun q1 h_q1 => ?_)
  refine fq_if (fq_cl h_u (fr_X9_step N q1  u (hP.tr h_u) h_q1 ) (fun r2 u3 h_u3 h_r2 => ?_)) fq_none
  exact fq_tr h_u3 (hrec9 x0 x1 x2 x3 (x4 + (1 : Int32)) u3 (hP.tr h_u3) h_x0)
set_option maxRecDepth 20000 in
theorem frgX5_readTest_84 {P : Nat → Prop} (N : Nat) (calreadFact : Nat → Int32 → SG → Option (Int32 × SG)) (hfcalreadFact : ∀ a p u, Cl P u → P a → FQ P u (fun _ => True) (calreadFact a p u)) (rec9 : Nat → Int32 → Int32 → Int32 → Int32 → SG → Option (Int32 × SG)) (hrec9 : ∀ (x0 : Nat) (x1 : Int32) (x2 : Int32) (x3 : Int32) (x4 : Int32) (u : SG), Cl P u → P x0 → FQ P u (fun _ => True) (rec9 x0 x1 x2 x3 x4 u)) (x0 : Nat) (x1 : Int32) (x3 : Int32) (x4 : Int32) (s0 : Int32) (u : SG) : Cl P u → P x0 → FQ P u (fun _ => True) (gX5_readTest_84 N calreadFact rec9 x0 x1 x3 x4 s0 u) := by
  intro hP h_x0
  have h_u : Fr P u u := Fr.rf
  unfold gX5_readTest_84
  refine fq_if ?_ ?_
  · exact fq_ret h_u trivial
  · exact fq_tr h_u (frgX5_readTest_93 N calreadFact hfcalreadFact _ hrec9 x0 x1 s0 x3 x4 u (hP.tr h_u) h_x0)
set_option maxRecDepth 20000 in
theorem frgX5_readTest_52 {P : Nat → Prop} (N : Nat) (calreadFact : Nat → Int32 → SG → Option (Int32 × SG)) (hfcalreadFact : ∀ a p u, Cl P u → P a → FQ P u (fun _ => True) (calreadFact a p u)) (rec9 : Nat → Int32 → Int32 → Int32 → Int32 → SG → Option (Int32 × SG)) (hrec9 : ∀ (x0 : Nat) (x1 : Int32) (x2 : Int32) (x3 : Int32) (x4 : Int32) (u : SG), Cl P u → P x0 → FQ P u (fun _ => True) (rec9 x0 x1 x2 x3 x4 u)) (x0 : Nat) (x1 : Int32) (x2 : Int32) (x4 : Int32) (s0 : Int32) (u : SG) : Cl P u → P x0 → FQ P u (fun _ => True) (gX5_readTest_52 N calreadFact rec9 x0 x1 x2 x4 s0 u) := by
  intro hP h_x0
  have h_u : Fr P u u := Fr.rf
  unfold gX5_readTest_52
  refine fq_if ?_ ?_
  · refine fq_if (fq_cl h_u (fr_X5_emit N x0 x2 u (hP.tr h_u) h_x0 ) (fun r1 u2 h_u2 h_r1 => ?_)) fq_none
    refine fq_if ?_ fq_none
    refine fq_bR h_u2 hP h_x0 (fun q3 h_q3 => ?_)
    refine fq_if ?_ fq_none
    refine fq_if ?_ ?_
    · exact fq_tr h_u2 (frgX5_readTest_84 N calreadFact hfcalreadFact _ hrec9 x0 x1 s0 x4 (-31 : Int32) u2 (hP.tr h_u2) h_x0)
    · exact fq_tr h_u2 (frgX5_readTest_84 N calreadFact hfcalreadFact _ hrec9 x0 x1 s0 x4 (-99 : Int32) u2 (hP.tr h_u2) h_x0)
  · exact fq_tr h_u (frgX5_readTest_93 N calreadFact hfcalreadFact _ hrec9 x0 x1 x2 s0 x4 u (hP.tr h_u) h_x0)
set_option maxRecDepth 20000 in
theorem frgX5_readTest_9 {P : Nat → Prop} (N : Nat) (calreadFact : Nat → Int32 → SG → Option (Int32 × SG)) (hfcalreadFact : ∀ a p u, Cl P u → P a → FQ P u (fun _ => True) (calreadFact a p u))   : ∀ (n : Nat) (x0 : Nat) (x1 : Int32) (x2 : Int32) (x3 : Int32) (x4 : Int32) (u : SG), Cl P u → P x0 → FQ P u (fun _ => True) (gX5_readTest_9 N calreadFact  n x0 x1 x2 x3 x4 u) := by
  intro n
  induction n with
  | zero => intros; intro r u9 h9; exact absurd h9 (by simp [gX5_readTest_9])
  | succ n ih =>
    intro x0 x1 x2 x3 x4 u hP h_x0
    have hrec9 := ih
    have h_u : Fr P u u := Fr.rf
    rw [gX5_readTest_9]
    refine fq_if ?_ ?_
    · refine fq_if ?_ fq_none
      refine fq_bR h_u hP h_x0 (fun q1 h_q1 => ?_)
      refine fq_if (fq_cl h_u (fr_X9_refuse N q1 (3 : Int32) u (hP.tr h_u) h_q1 ) (fun r2 u3 h_u3 h_r2 => ?_)) fq_none
      exact fq_if (fq_ret h_u3 trivial) fq_none
    · refine fq_if (fq_cl h_u (hfcalreadFact x0 x1 u (hP.tr h_u) h_x0 ) (fun r4 u5 h_u5 h_r4 => ?_)) fq_none
      refine fq_if ?_ ?_
      · exact fq_ret h_u5 trivial
      · refine fq_if (fq_cl h_u5 (fr_X5_emit N x0 x3 u5 (hP.tr h_u5) h_x0 ) (fun r6 u7 h_u7 h_r6 => ?_)) fq_none
        refine fq_if ?_ fq_none
        refine fq_bR h_u7 hP h_x0 (fun q8 h_q8 => ?_)
        refine fq_if ?_ fq_none
        refine fq_if ?_ ?_
        · exact fq_tr h_u7 (frgX5_readTest_52 N calreadFact hfcalreadFact _ hrec9 x0 x1 x2 x4 (-30 : Int32) u7 (hP.tr h_u7) h_x0)
        · exact fq_tr h_u7 (frgX5_readTest_52 N calreadFact hfcalreadFact _ hrec9 x0 x1 x2 x4 (-99 : Int32) u7 (hP.tr h_u7) h_x0)
set_option maxRecDepth 20000 in
theorem frb_X5_readTest {P : Nat → Prop} (N : Nat) (calreadFact : Nat → Int32 → SG → Option (Int32 × SG)) (hfcalreadFact : ∀ a p u, Cl P u → P a → FQ P u (fun _ => True) (calreadFact a p u)) (a0 : Nat) (p1 : Int32) (u : SG) : Cl P u → P a0 → FQ P u (fun _ => True) (bX5_readTest N calreadFact a0 p1 u) := by
  intro hP h_a0
  have h_u : Fr P u u := Fr.rf
  unfold bX5_readTest
  exact fq_tr h_u (frgX5_readTest_9 N calreadFact hfcalreadFact  N a0 p1 (-99 : Int32) (-99 : Int32) (0 : Int32) u (hP.tr h_u) h_a0)
theorem frF5 {P : Nat → Prop} (N : Nat) : ∀ (e a0 : Nat) (p1 : Int32) (u : SG), Cl P u → P a0 → FQ P u (fun _ => True) (rF5 N e a0 p1 u) := by
  intro e
  induction e with
  | zero => intros; intro r u9 h9; exact absurd h9 (by simp [rF5])
  | succ e ih =>
    intro a0 p1 u hP h0
    rw [rF5]
    exact frb_X5_readFact N _ _ ih (fun a p w hw ha => frb_X5_readTest N _ ih a p w hw ha) a0 p1 u hP h0
theorem fr_X5_readTest {P : Nat → Prop} (N : Nat) (a0 : Nat) (p1 : Int32) (u : SG) : Cl P u → P a0 → FQ P u (fun _ => True) (fX5_readTest N a0 p1 u) := fun hP h0 => frb_X5_readTest N _ (frF5 N 12) a0 p1 u hP h0
set_option maxRecDepth 20000 in
theorem fr_X5_readClause {P : Nat → Prop} (N : Nat)   (a0 : Nat) (p1 : Int32) (u : SG) : Cl P u → P a0 → FQ P u (fun _ => True) (fX5_readClause N  a0 p1 u) := by
  intro hP h_a0
  have h_u : Fr P u u := Fr.rf
  unfold fX5_readClause
  refine fq_if ?_ fq_none
  refine fq_bR h_u hP h_a0 (fun q1 h_q1 => ?_)
  refine fq_if ?_ fq_none
  refine fq_if ?_ ?_
  · refine fq_if ?_ ?_
    · refine fq_if ?_ fq_none
      refine fq_bR h_u hP h_a0 (fun q2 h_q2 => ?_)
      refine fq_if (fq_cl h_u (fr_X9_step N q2  u (hP.tr h_u) h_q2 ) (fun r3 u4 h_u4 h_r3 => ?_)) fq_none
      refine fq_if (fq_cl h_u4 (fr_X5_readSum N a0  u4 (hP.tr h_u4) h_a0 ) (fun r5 u6 h_u6 h_r5 => ?_)) fq_none
      refine fq_if ?_ ?_
      · exact fq_ret h_u6 trivial
      · refine fq_if ?_ fq_none
        refine fq_bR h_u6 hP h_a0 (fun q7 h_q7 => ?_)
        refine fq_if ?_ fq_none
        refine fq_if ?_ ?_
        · refine fq_if ?_ fq_none
          refine fq_bR h_u6 hP h_a0 (fun q8 h_q8 => ?_)
          refine fq_if (fq_cl h_u6 (fr_X9_step N q8  u6 (hP.tr h_u6) h_q8 ) (fun r9 u10 h_u10 h_r9 => ?_)) fq_none
          refine fq_if (fq_cl h_u10 (fr_X5_readTest N a0 (0 : Int32) u10 (hP.tr h_u10) h_a0 ) (fun r11 u12 h_u12 h_r11 => ?_)) fq_none
          refine fq_if ?_ ?_
          · exact fq_ret h_u12 trivial
          · refine fq_if (fq_cl h_u12 (fr_X5_emit N a0 (-34 : Int32) u12 (hP.tr h_u12) h_a0 ) (fun r13 u14 h_u14 h_r13 => ?_)) fq_none
            refine fq_if ?_ ?_
            · exact fq_ret h_u14 trivial
            · exact fq_ret h_u14 trivial
        · refine fq_if (fq_cl h_u6 (fr_X5_emit N a0 (-33 : Int32) u6 (hP.tr h_u6) h_a0 ) (fun r15 u16 h_u16 h_r15 => ?_)) fq_none
          exact fq_if (fq_ret h_u16 trivial) fq_none
    · refine fq_if ?_ fq_none
      refine fq_bR h_u hP h_a0 (fun q17 h_q17 => ?_)
      refine fq_if (fq_cl h_u (fr_X9_refuse N q17 (4 : Int32) u (hP.tr h_u) h_q17 ) (fun r18 u19 h_u19 h_r18 => ?_)) fq_none
      exact fq_if (fq_ret h_u19 trivial) fq_none
  · refine fq_if ?_ fq_none
    refine fq_bR h_u hP h_a0 (fun q20 h_q20 => ?_)
    refine fq_if (fq_cl h_u (fr_X9_refuse N q20 (0 : Int32) u (hP.tr h_u) h_q20 ) (fun r21 u22 h_u22 h_r21 => ?_)) fq_none
    exact fq_if (fq_ret h_u22 trivial) fq_none
set_option maxRecDepth 20000 in
theorem frgX5_readText_19 {P : Nat → Prop} (N : Nat)     : ∀ (n : Nat) (x0 : Nat) (x1 : Int32) (u : SG), Cl P u → P x0 → FQ P u (fun _ => True) (gX5_readText_19 N   n x0 x1 u) := by
  intro n
  induction n with
  | zero => intros; intro r u9 h9; exact absurd h9 (by simp [gX5_readText_19])
  | succ n ih =>
    intro x0 x1 u hP h_x0
    have hrec19 := ih
    have h_u : Fr P u u := Fr.rf
    rw [gX5_readText_19]
    refine fq_if ?_ ?_
    · refine fq_if ?_ fq_none
      refine fq_bR h_u hP h_x0 (fun q1 h_q1 => ?_)
      refine fq_if ?_ fq_none
      exact fq_ret h_u trivial
    · refine fq_if (fq_cl h_u (fr_X5_readClause N x0 x1 u (hP.tr h_u) h_x0 ) (fun r2 u3 h_u3 h_r2 => ?_)) fq_none
      refine fq_if ?_ ?_
      · refine fq_if ?_ fq_none
        refine fq_bR h_u3 hP h_x0 (fun q9 h_q9 => ?_)
        refine fq_if ?_ fq_none
        exact fq_ret h_u3 trivial
      · refine fq_if ?_ fq_none
        refine fq_bR h_u3 hP h_x0 (fun q4 h_q4 => ?_)
        refine fq_if ?_ fq_none
        refine fq_if ?_ ?_
        · exact fq_ret h_u3 trivial
        · refine fq_if ?_ fq_none
          refine fq_bR h_u3 hP h_x0 (fun q5 h_q5 => ?_)
          refine fq_if (fq_cl h_u3 (fr_X9_takeSign N q5 (59 : Int32) u3 (hP.tr h_u3) h_q5 ) (fun r6 u7 h_u7 h_r6 => ?_)) fq_none
          refine fq_if ?_ ?_
          · refine fq_if ?_ fq_none
            refine fq_bR h_u7 hP h_x0 (fun q8 h_q8 => ?_)
            refine fq_if ?_ fq_none
            exact fq_ret h_u7 trivial
          · exact fq_tr h_u7 (hrec19 x0 (x1 + (1 : Int32)) u7 (hP.tr h_u7) h_x0)
set_option maxRecDepth 20000 in
theorem fr_X5_readText {P : Nat → Prop} (N : Nat)   (a0 : Nat) (u : SG) : Cl P u → P a0 → FQ P u (fun _ => True) (fX5_readText N  a0 u) := by
  intro hP h_a0
  have h_u : Fr P u u := Fr.rf
  unfold fX5_readText
  refine fq_if (fq_sI h_u h_a0 (fun u1 h_u1 => ?_)) fq_none
  refine fq_if (fq_sI h_u1 h_a0 (fun u2 h_u2 => ?_)) fq_none
  refine fq_if ?_ fq_none
  refine fq_bR h_u2 hP h_a0 (fun q3 h_q3 => ?_)
  refine fq_if (fq_cl h_u2 (fr_X9_open N q3  u2 (hP.tr h_u2) h_q3 ) (fun r4 u5 h_u5 h_r4 => ?_)) fq_none
  exact fq_tr h_u5 (frgX5_readText_19 N   N a0 (0 : Int32) u5 (hP.tr h_u5) h_a0)
set_option maxRecDepth 20000 in
theorem fr_X7_copyOf {P : Nat → Prop} (N : Nat)   (a0 : Nat) (p1 : Nat) (u : SG) : Cl P u → P a0 → P p1 → FQ P u (fun _ => True) (fX7_copyOf N  a0 p1 u) := by
  intro hP h_a0 h_p1
  have h_u : Fr P u u := Fr.rf
  unfold fX7_copyOf
  refine fq_if ?_ fq_none
  refine fq_if (fq_sI h_u h_a0 (fun u1 h_u1 => ?_)) fq_none
  refine fq_if ?_ fq_none
  refine fq_if (fq_sI h_u1 h_a0 (fun u2 h_u2 => ?_)) fq_none
  refine fq_if ?_ fq_none
  refine fq_if (fq_sI h_u2 h_a0 (fun u3 h_u3 => ?_)) fq_none
  refine fq_if ?_ fq_none
  refine fq_if (fq_sI h_u3 h_a0 (fun u4 h_u4 => ?_)) fq_none
  refine fq_if ?_ fq_none
  refine fq_if (fq_sI h_u4 h_a0 (fun u5 h_u5 => ?_)) fq_none
  refine fq_if ?_ fq_none
  refine fq_bR h_u5 hP h_p1 (fun q6 h_q6 => ?_)
  refine fq_if ?_ fq_none
  refine fq_bR h_u5 hP h_a0 (fun q7 h_q7 => ?_)
  refine fq_if (fq_if (fq_if fq_none (fq_sIr h_u5 h_q7 (fun u8 h_u8 => ?_))) fq_none) fq_none
  refine fq_if ?_ fq_none
  refine fq_bR h_u8 hP h_p1 (fun q9 h_q9 => ?_)
  refine fq_if ?_ fq_none
  refine fq_bR h_u8 hP h_a0 (fun q10 h_q10 => ?_)
  refine fq_if (fq_if (fq_if fq_none (fq_sIr h_u8 h_q10 (fun u11 h_u11 => ?_))) fq_none) fq_none
  refine fq_if ?_ fq_none
  refine fq_bR h_u11 hP h_p1 (fun q12 h_q12 => ?_)
  refine fq_if ?_ fq_none
  refine fq_bR h_u11 hP h_a0 (fun q13 h_q13 => ?_)
  refine fq_if (fq_if (fq_if fq_none (fq_sIr h_u11 h_q13 (fun u14 h_u14 => ?_))) fq_none) fq_none
  refine fq_if ?_ fq_none
  refine fq_bR h_u14 hP h_p1 (fun q15 h_q15 => ?_)
  refine fq_if ?_ fq_none
  refine fq_bR h_u14 hP h_a0 (fun q16 h_q16 => ?_)
  refine fq_if (fq_if (fq_if fq_none (fq_sIr h_u14 h_q16 (fun u17 h_u17 => ?_))) fq_none) fq_none
  refine fq_if ?_ fq_none
  refine fq_bR h_u17 hP h_p1 (fun q18 h_q18 => ?_)
  refine fq_if ?_ fq_none
  refine fq_bR h_u17 hP h_a0 (fun q19 h_q19 => ?_)
  refine fq_if (fq_if (fq_if fq_none (fq_sIr h_u17 h_q19 (fun u20 h_u20 => ?_))) fq_none) fq_none
  refine fq_if ?_ fq_none
  refine fq_bR h_u20 hP h_p1 (fun q21 h_q21 => ?_)
  refine fq_if ?_ fq_none
  refine fq_bR h_u20 hP h_a0 (fun q22 h_q22 => ?_)
  refine fq_if (fq_if (fq_if fq_none (fq_sIr h_u20 h_q22 (fun u23 h_u23 => ?_))) fq_none) fq_none
  exact fq_ret h_u23 trivial
set_option maxRecDepth 20000 in
theorem fr_X6_copyOf {P : Nat → Prop} (N : Nat)   (a0 : Nat) (p1 : Nat) (u : SG) : Cl P u → P a0 → P p1 → FQ P u (fun _ => True) (fX6_copyOf N  a0 p1 u) := by
  intro hP h_a0 h_p1
  have h_u : Fr P u u := Fr.rf
  unfold fX6_copyOf
  refine fq_if ?_ fq_none
  refine fq_bR h_u hP h_a0 (fun q1 h_q1 => ?_)
  refine fq_if ?_ fq_none
  refine fq_bR h_u hP h_p1 (fun q2 h_q2 => ?_)
  refine fq_if (fq_cl h_u (fr_X7_copyOf N q1 q2 u (hP.tr h_u) h_q1 h_q2) (fun r3 u4 h_u4 h_r3 => ?_)) fq_none
  refine fq_if ?_ fq_none
  refine fq_bR h_u4 hP h_a0 (fun q5 h_q5 => ?_)
  refine fq_if ?_ fq_none
  refine fq_bR h_u4 hP h_p1 (fun q6 h_q6 => ?_)
  refine fq_if (fq_cl h_u4 (fr_X2_copyOf N q5 q6 u4 (hP.tr h_u4) h_q5 h_q6) (fun r7 u8 h_u8 h_r7 => ?_)) fq_none
  refine fq_if ?_ fq_none
  refine fq_bR h_u8 hP h_a0 (fun q9 h_q9 => ?_)
  refine fq_if ?_ fq_none
  refine fq_bR h_u8 hP h_p1 (fun q10 h_q10 => ?_)
  refine fq_if (fq_cl h_u8 (fr_X1_copyOf N q9 q10 u8 (hP.tr h_u8) h_q9 h_q10) (fun r11 u12 h_u12 h_r11 => ?_)) fq_none
  refine fq_if ?_ fq_none
  refine fq_if (fq_sI h_u12 h_a0 (fun u13 h_u13 => ?_)) fq_none
  refine fq_if ?_ fq_none
  refine fq_if (fq_sI h_u13 h_a0 (fun u14 h_u14 => ?_)) fq_none
  exact fq_ret h_u14 trivial
set_option maxRecDepth 20000 in
theorem frgX7_clear_27 {P : Nat → Prop} (N : Nat)     : ∀ (n : Nat) (x0 : Nat) (x1 : Int32) (u : SG), Cl P u → P x0 → FQ P u (fun _ => True) (gX7_clear_27 N   n x0 x1 u) := by
  intro n
  induction n with
  | zero => intros; intro r u9 h9; exact absurd h9 (by simp [gX7_clear_27])
  | succ n ih =>
    intro x0 x1 u hP h_x0
    have hrec27 := ih
    have h_u : Fr P u u := Fr.rf
    rw [gX7_clear_27]
    refine fq_if ?_ ?_
    · exact fq_ret h_u trivial
    · refine fq_if ?_ fq_none
      refine fq_bR h_u hP h_x0 (fun q1 h_q1 => ?_)
      refine fq_if (fq_if fq_none (fq_sI h_u h_q1 (fun u2 h_u2 => ?_))) fq_none
      refine fq_if ?_ fq_none
      refine fq_bR h_u2 hP h_x0 (fun q3 h_q3 => ?_)
      refine fq_if (fq_if fq_none (fq_sI h_u2 h_q3 (fun u4 h_u4 => ?_))) fq_none
      exact fq_tr h_u4 (hrec27 x0 (x1 + (1 : Int32)) u4 (hP.tr h_u4) h_x0)
set_option maxRecDepth 20000 in
theorem fr_X7_clear {P : Nat → Prop} (N : Nat)   (a0 : Nat) (u : SG) : Cl P u → P a0 → FQ P u (fun _ => True) (fX7_clear N  a0 u) := by
  intro hP h_a0
  have h_u : Fr P u u := Fr.rf
  unfold fX7_clear
  refine fq_if (fq_sI h_u h_a0 (fun u1 h_u1 => ?_)) fq_none
  refine fq_if (fq_sI h_u1 h_a0 (fun u2 h_u2 => ?_)) fq_none
  refine fq_if (fq_sI h_u2 h_a0 (fun u3 h_u3 => ?_)) fq_none
  refine fq_if (fq_sI h_u3 h_a0 (fun u4 h_u4 => ?_)) fq_none
  refine fq_if (fq_sI h_u4 h_a0 (fun u5 h_u5 => ?_)) fq_none
  exact fq_tr h_u5 (frgX7_clear_27 N   N a0 (0 : Int32) u5 (hP.tr h_u5) h_a0)
set_option maxRecDepth 20000 in
theorem fr_X7_isTold {P : Nat → Prop} (N : Nat)   (a0 : Nat) (u : SG) : Cl P u → P a0 → FQ P u (fun _ => True) (fX7_isTold N  a0 u) := by
  intro hP h_a0
  have h_u : Fr P u u := Fr.rf
  unfold fX7_isTold
  refine fq_if ?_ fq_none
  refine fq_if ?_ ?_
  · exact fq_ret h_u trivial
  · exact fq_ret h_u trivial
set_option maxRecDepth 20000 in
theorem fr_X7_isPerson {P : Nat → Prop} (N : Nat)   (a0 : Nat) (p1 : Int32) (u : SG) : Cl P u → P a0 → FQ P u (fun _ => True) (fX7_isPerson N  a0 p1 u) := by
  intro hP h_a0
  have h_u : Fr P u u := Fr.rf
  unfold fX7_isPerson
  refine fq_if ?_ ?_
  · exact fq_ret h_u trivial
  · refine fq_if ?_ fq_none
    refine fq_if ?_ ?_
    · exact fq_ret h_u trivial
    · refine fq_if ?_ ?_
      · exact fq_ret h_u trivial
      · exact fq_ret h_u trivial
set_option maxRecDepth 20000 in
theorem fr_X7_isLamp {P : Nat → Prop} (N : Nat)   (a0 : Nat) (p1 : Int32) (u : SG) : Cl P u → P a0 → FQ P u (fun _ => True) (fX7_isLamp N  a0 p1 u) := by
  intro hP h_a0
  have h_u : Fr P u u := Fr.rf
  unfold fX7_isLamp
  refine fq_if ?_ ?_
  · exact fq_ret h_u trivial
  · refine fq_if ?_ fq_none
    refine fq_if ?_ ?_
    · exact fq_ret h_u trivial
    · refine fq_if ?_ ?_
      · exact fq_ret h_u trivial
      · exact fq_ret h_u trivial
set_option maxRecDepth 20000 in
theorem fr_X7_addPerson {P : Nat → Prop} (N : Nat)   (a0 : Nat) (p1 : Int32) (p2 : Int32) (u : SG) : Cl P u → P a0 → FQ P u (fun _ => True) (fX7_addPerson N  a0 p1 p2 u) := by
  intro hP h_a0
  have h_u : Fr P u u := Fr.rf
  unfold fX7_addPerson
  refine fq_if ?_ fq_none
  refine fq_if ?_ ?_
  · exact fq_ret h_u trivial
  · refine fq_if ?_ fq_none
    refine fq_if ?_ ?_
    · exact fq_ret h_u trivial
    · refine fq_if ?_ fq_none
      refine fq_bR h_u hP h_a0 (fun q1 h_q1 => ?_)
      refine fq_if ?_ fq_none
      refine fq_if (fq_if fq_none (fq_sI h_u h_q1 (fun u2 h_u2 => ?_))) fq_none
      refine fq_if ?_ fq_none
      refine fq_bR h_u2 hP h_a0 (fun q3 h_q3 => ?_)
      refine fq_if ?_ fq_none
      refine fq_if (fq_if fq_none (fq_sI h_u2 h_q3 (fun u4 h_u4 => ?_))) fq_none
      refine fq_if ?_ fq_none
      refine fq_if (fq_sI h_u4 h_a0 (fun u5 h_u5 => ?_)) fq_none
      exact fq_ret h_u5 trivial
set_option maxRecDepth 20000 in
theorem fr_X7_addLamp {P : Nat → Prop} (N : Nat)   (a0 : Nat) (p1 : Int32) (p2 : Int32) (u : SG) : Cl P u → P a0 → FQ P u (fun _ => True) (fX7_addLamp N  a0 p1 p2 u) := by
  intro hP h_a0
  have h_u : Fr P u u := Fr.rf
  unfold fX7_addLamp
  refine fq_if ?_ fq_none
  refine fq_if ?_ ?_
  · exact fq_ret h_u trivial
  · refine fq_if ?_ fq_none
    refine fq_if ?_ ?_
    · exact fq_ret h_u trivial
    · refine fq_if ?_ fq_none
      refine fq_bR h_u hP h_a0 (fun q1 h_q1 => ?_)
      refine fq_if ?_ fq_none
      refine fq_if (fq_if fq_none (fq_sI h_u h_q1 (fun u2 h_u2 => ?_))) fq_none
      refine fq_if ?_ fq_none
      refine fq_bR h_u2 hP h_a0 (fun q3 h_q3 => ?_)
      refine fq_if ?_ fq_none
      refine fq_if (fq_if fq_none (fq_sI h_u2 h_q3 (fun u4 h_u4 => ?_))) fq_none
      refine fq_if ?_ fq_none
      refine fq_if (fq_sI h_u4 h_a0 (fun u5 h_u5 => ?_)) fq_none
      exact fq_ret h_u5 trivial
set_option maxRecDepth 20000 in
theorem frgX7_addSpan_7 {P : Nat → Prop} (N : Nat)     : ∀ (n : Nat) (x0 : Nat) (x1 : Int32) (x3 : Int32) (x4 : Int32) (u : SG), Cl P u → P x0 → FQ P u (fun _ => True) (gX7_addSpan_7 N   n x0 x1 x3 x4 u) := by
  intro n
  induction n with
  | zero => intros; intro r u9 h9; exact absurd h9 (by simp [gX7_addSpan_7])
  | succ n ih =>
    intro x0 x1 x3 x4 u hP h_x0
    have hrec7 := ih
    have h_u : Fr P u u := Fr.rf
    rw [gX7_addSpan_7]
    refine fq_if ?_ ?_
    · exact fq_ret h_u trivial
    · refine fq_if ?_ fq_none
      refine fq_if ?_ ?_
      · exact fq_ret h_u trivial
      · refine fq_if (fq_if fq_none ?_) fq_none
        refine fq_if (fq_if fq_none (fq_sI h_u h_x0 (fun u1 h_u1 => ?_))) fq_none
        exact fq_tr h_u1 (hrec7 x0 x1 x3 (x4 + (1 : Int32)) u1 (hP.tr h_u1) h_x0)
set_option maxRecDepth 20000 in
theorem fr_X7_addSpan {P : Nat → Prop} (N : Nat)   (p1 : Nat) (p2 : Int32) (p3 : Int32) (p4 : Int32) (u : SG) : Cl P u → P p1 → FQ P u (fun _ => True) (fX7_addSpan N  p1 p2 p3 p4 u) := by
  intro hP h_p1
  have h_u : Fr P u u := Fr.rf
  unfold fX7_addSpan
  refine fq_cl h_u (fr_J9_max_7cf53 N (0 : Int32) p3 u (hP.tr h_u) ) (fun r1 u2 h_u2 h_r1 => ?_)
  exact fq_tr h_u2 (frgX7_addSpan_7 N   N p1 p2 p4 r1 u2 (hP.tr h_u2) h_p1)
set_option maxRecDepth 20000 in
theorem fr_X7_addWork {P : Nat → Prop} (N : Nat)   (a0 : Nat) (p1 : Int32) (p2 : Int32) (p3 : Int32) (u : SG) : Cl P u → P a0 → FQ P u (fun _ => True) (fX7_addWork N  a0 p1 p2 p3 u) := by
  intro hP h_a0
  have h_u : Fr P u u := Fr.rf
  unfold fX7_addWork
  refine fq_if ?_ fq_none
  refine fq_if (fq_sI h_u h_a0 (fun u1 h_u1 => ?_)) fq_none
  refine fq_if ?_ fq_none
  refine fq_bR h_u1 hP h_a0 (fun q2 h_q2 => ?_)
  refine fq_cl h_u1 (fr_X7_addSpan N q2 p1 p2 p3 u1 (hP.tr h_u1) h_q2) (fun r3 u4 h_u4 h_r3 => ?_)
  exact fq_ret h_u4 trivial
set_option maxRecDepth 20000 in
theorem fr_X7_addLit {P : Nat → Prop} (N : Nat)   (a0 : Nat) (p1 : Int32) (p2 : Int32) (p3 : Int32) (u : SG) : Cl P u → P a0 → FQ P u (fun _ => True) (fX7_addLit N  a0 p1 p2 p3 u) := by
  intro hP h_a0
  have h_u : Fr P u u := Fr.rf
  unfold fX7_addLit
  refine fq_if ?_ fq_none
  refine fq_if (fq_sI h_u h_a0 (fun u1 h_u1 => ?_)) fq_none
  refine fq_if ?_ fq_none
  refine fq_bR h_u1 hP h_a0 (fun q2 h_q2 => ?_)
  refine fq_cl h_u1 (fr_X7_addSpan N q2 p1 p2 p3 u1 (hP.tr h_u1) h_q2) (fun r3 u4 h_u4 h_r3 => ?_)
  exact fq_ret h_u4 trivial
set_option maxRecDepth 20000 in
theorem fr_X8_isClause {P : Nat → Prop} (N : Nat)   (p1 : Int32) (u : SG) : Cl P u → FQ P u (fun _ => True) (fX8_isClause N  p1 u) := by
  intro hP
  have h_u : Fr P u u := Fr.rf
  unfold fX8_isClause
  refine fq_if ?_ ?_
  · exact fq_ret h_u trivial
  · refine fq_if ?_ ?_
    · exact fq_ret h_u trivial
    · refine fq_if ?_ ?_
      · exact fq_ret h_u trivial
      · exact fq_ret h_u trivial
set_option maxRecDepth 20000 in
theorem fr_X8_isFull {P : Nat → Prop} (N : Nat)   (p1 : Nat) (p2 : Int32) (u : SG) : Cl P u → P p1 → FQ P u (fun _ => True) (fX8_isFull N  p1 p2 u) := by
  intro hP h_p1
  have h_u : Fr P u u := Fr.rf
  unfold fX8_isFull
  refine fq_if ?_ ?_
  · refine fq_if ?_ fq_none
    refine fq_if ?_ ?_
    · exact fq_ret h_u trivial
    · exact fq_ret h_u trivial
  refine fq_if ?_ ?_
  · refine fq_if ?_ fq_none
    refine fq_if ?_ ?_
    · exact fq_ret h_u trivial
    · exact fq_ret h_u trivial
  refine fq_if ?_ ?_
  · refine fq_if ?_ fq_none
    refine fq_if ?_ ?_
    · exact fq_ret h_u trivial
    · exact fq_ret h_u trivial
  refine fq_if ?_ ?_
  · refine fq_if ?_ fq_none
    refine fq_if ?_ ?_
    · exact fq_ret h_u trivial
    · exact fq_ret h_u trivial
  exact fq_ret h_u trivial
set_option maxRecDepth 20000 in
theorem frgX9_takeNumber_31 {P : Nat → Prop} (N : Nat)     (x0 : Nat) (u : SG) : Cl P u → P x0 → FQ P u (fun _ => True) (gX9_takeNumber_31 N   x0 u) := by
  intro hP h_x0
  have h_u : Fr P u u := Fr.rf
  unfold gX9_takeNumber_31
  refine fq_if (fq_cl h_u (fr_X9_refuse N x0 (1 : Int32) u (hP.tr h_u) h_x0 ) (fun r1 u2 h_u2 h_r1 => ?_)) fq_none
  exact fq_ret h_u2 trivial
set_option maxRecDepth 20000 in
theorem fr_X9_takeNumber {P : Nat → Prop} (N : Nat)   (a0 : Nat) (p1 : Int32) (p2 : Int32) (u : SG) : Cl P u → P a0 → FQ P u (fun _ => True) (fX9_takeNumber N  a0 p1 p2 u) := by
  intro hP h_a0
  have h_u : Fr P u u := Fr.rf
  unfold fX9_takeNumber
  refine fq_if ?_ fq_none
  refine fq_bs (fun v1 => ?_)
  refine fq_if ?_ fq_none
  refine fq_if ?_ ?_
  · refine fq_if ?_ ?_
    · exact fq_tr h_u (frgX9_takeNumber_31 N   a0 u (hP.tr h_u) h_a0)
    · refine fq_if ?_ ?_
      · refine fq_if (fq_cl h_u (fr_X9_step N a0  u (hP.tr h_u) h_a0 ) (fun r2 u3 h_u3 h_r2 => ?_)) fq_none
        exact fq_ret h_u3 trivial
      · exact fq_tr h_u (frgX9_takeNumber_31 N   a0 u (hP.tr h_u) h_a0)
  · refine fq_if (fq_cl h_u (fr_X9_refuse N a0 (0 : Int32) u (hP.tr h_u) h_a0 ) (fun r4 u5 h_u5 h_r4 => ?_)) fq_none
    exact fq_ret h_u5 trivial
set_option maxRecDepth 20000 in
theorem fr_X8_readHours {P : Nat → Prop} (N : Nat)   (a0 : Nat) (p1 : Nat) (u : SG) : Cl P u → P a0 → P p1 → FQ P u (fun _ => True) (fX8_readHours N  a0 p1 u) := by
  intro hP h_a0 h_p1
  have h_u : Fr P u u := Fr.rf
  unfold fX8_readHours
  refine fq_if ?_ fq_none
  refine fq_bR h_u hP h_a0 (fun q1 h_q1 => ?_)
  refine fq_if (fq_cl h_u (fr_X9_takeNumber N q1 (2 : Int32) (10 : Int32) u (hP.tr h_u) h_q1 ) (fun r2 u3 h_u3 h_r2 => ?_)) fq_none
  refine fq_if ?_ ?_
  · exact fq_ret h_u3 trivial
  · refine fq_if (fq_sI h_u3 h_p1 (fun u4 h_u4 => ?_)) fq_none
    exact fq_ret h_u4 trivial
set_option maxRecDepth 20000 in
theorem fr_X8_readPerson {P : Nat → Prop} (N : Nat)   (a0 : Nat) (p1 : Nat) (u : SG) : Cl P u → P a0 → P p1 → FQ P u (fun _ => True) (fX8_readPerson N  a0 p1 u) := by
  intro hP h_a0 h_p1
  have h_u : Fr P u u := Fr.rf
  unfold fX8_readPerson
  refine fq_if ?_ fq_none
  refine fq_bR h_u hP h_a0 (fun q1 h_q1 => ?_)
  refine fq_if ?_ fq_none
  refine fq_if (fq_cl h_u (fr_X9_takeNumber N q1 (0 : Int32) (zI u p1 6) u (hP.tr h_u) h_q1 ) (fun r2 u3 h_u3 h_r2 => ?_)) fq_none
  refine fq_if ?_ ?_
  · exact fq_ret h_u3 trivial
  · refine fq_if ?_ fq_none
    refine fq_bR h_u3 hP h_a0 (fun q4 h_q4 => ?_)
    refine fq_if (fq_cl h_u3 (fr_X9_takeNumber N q4 (0 : Int32) (60 : Int32) u3 (hP.tr h_u3) h_q4 ) (fun r5 u6 h_u6 h_r5 => ?_)) fq_none
    refine fq_if ?_ ?_
    · exact fq_ret h_u6 trivial
    · refine fq_if (fq_cl h_u6 (fr_X7_addPerson N p1 r2 r5 u6 (hP.tr h_u6) h_p1 ) (fun r7 u8 h_u8 h_r7 => ?_)) fq_none
      exact fq_ret h_u8 trivial
set_option maxRecDepth 20000 in
theorem frgX8_readLamp_23 {P : Nat → Prop} (N : Nat)     (x0 : Nat) (x1 : Nat) (s0 : Int32) (u : SG) : Cl P u → P x0 → P x1 → FQ P u (fun _ => True) (gX8_readLamp_23 N   x0 x1 s0 u) := by
  intro hP h_x0 h_x1
  have h_u : Fr P u u := Fr.rf
  unfold gX8_readLamp_23
  refine fq_if ?_ fq_none
  refine fq_bR h_u hP h_x0 (fun q1 h_q1 => ?_)
  refine fq_if (fq_cl h_u (fr_X9_takeNumber N q1 (0 : Int32) s0 u (hP.tr h_u) h_q1 ) (fun r2 u3 h_u3 h_r2 => ?_)) fq_none
  refine fq_if ?_ ?_
  · exact fq_ret h_u3 trivial
  · refine fq_if ?_ fq_none
    refine fq_bR h_u3 hP h_x0 (fun q4 h_q4 => ?_)
    refine fq_if (fq_cl h_u3 (fr_X9_takeNumber N q4 (1 : Int32) (60 : Int32) u3 (hP.tr h_u3) h_q4 ) (fun r5 u6 h_u6 h_r5 => ?_)) fq_none
    refine fq_if ?_ ?_
    · exact fq_ret h_u6 trivial
    · refine fq_if (fq_cl h_u6 (fr_X7_addLamp N x1 r2 r5 u6 (hP.tr h_u6) h_x1 ) (fun r7 u8 h_u8 h_r7 => ?_)) fq_none
      exact fq_ret h_u8 trivial
set_option maxRecDepth 20000 in
theorem fr_X8_readLamp {P : Nat → Prop} (N : Nat)   (a0 : Nat) (p1 : Nat) (u : SG) : Cl P u → P a0 → P p1 → FQ P u (fun _ => True) (fX8_readLamp N  a0 p1 u) := by
  intro hP h_a0 h_p1
  have h_u : Fr P u u := Fr.rf
  unfold fX8_readLamp
  refine fq_if ?_ fq_none
  refine fq_bR h_u hP h_a0 (fun q1 h_q1 => ?_)
  refine fq_if ?_ fq_none
  refine fq_if ?_ ?_
  · exact fq_tr h_u (frgX8_readLamp_23 N   a0 p1 (9 : Int32) u (hP.tr h_u) h_a0 h_p1)
  · refine fq_if ?_ fq_none
    exact fq_tr h_u (frgX8_readLamp_23 N   a0 p1 ((zI u p1 7) - (1 : Int32)) u (hP.tr h_u) h_a0 h_p1)
set_option maxRecDepth 20000 in
theorem frgX8_readSpan_17 {P : Nat → Prop} (N : Nat)     (x0 : Nat) (x1 : Nat) (x2 : Int32) (s0 : Int32) (u : SG) : Cl P u → P x0 → P x1 → FQ P u (fun _ => True) (gX8_readSpan_17 N   x0 x1 x2 s0 u) := by
  intro hP h_x0 h_x1
  have h_u : Fr P u u := Fr.rf
  unfold gX8_readSpan_17
  refine fq_if ?_ fq_none
  refine fq_bR h_u hP h_x0 (fun q1 h_q1 => ?_)
  refine fq_if (fq_cl h_u (fr_X9_takeNumber N q1 (0 : Int32) (s0 - (1 : Int32)) u (hP.tr h_u) h_q1 ) (fun r2 u3 h_u3 h_r2 => ?_)) fq_none
  refine fq_if ?_ ?_
  · exact fq_ret h_u3 trivial
  · refine fq_if ?_ fq_none
    refine fq_bR h_u3 hP h_x0 (fun q4 h_q4 => ?_)
    refine fq_if ?_ fq_none
    refine fq_if (fq_cl h_u3 (fr_X9_takeNumber N q4 (0 : Int32) ((zI u3 x1 6) - (1 : Int32)) u3 (hP.tr h_u3) h_q4 ) (fun r5 u6 h_u6 h_r5 => ?_)) fq_none
    refine fq_if ?_ ?_
    · exact fq_ret h_u6 trivial
    · refine fq_if ?_ fq_none
      refine fq_bR h_u6 hP h_x0 (fun q7 h_q7 => ?_)
      refine fq_if ?_ fq_none
      refine fq_if (fq_cl h_u6 (fr_X9_takeNumber N q7 r5 ((zI u6 x1 6) - (1 : Int32)) u6 (hP.tr h_u6) h_q7 ) (fun r8 u9 h_u9 h_r8 => ?_)) fq_none
      refine fq_if ?_ ?_
      · exact fq_ret h_u9 trivial
      · refine fq_if ?_ ?_
        · refine fq_if (fq_cl h_u9 (fr_X7_addWork N x1 r2 r5 r8 u9 (hP.tr h_u9) h_x1 ) (fun r12 u13 h_u13 h_r12 => ?_)) fq_none
          exact fq_ret h_u13 trivial
        · refine fq_if (fq_cl h_u9 (fr_X7_addLit N x1 r2 r5 r8 u9 (hP.tr h_u9) h_x1 ) (fun r10 u11 h_u11 h_r10 => ?_)) fq_none
          exact fq_ret h_u11 trivial
set_option maxRecDepth 20000 in
theorem fr_X8_readSpan {P : Nat → Prop} (N : Nat)   (a0 : Nat) (p1 : Nat) (p2 : Int32) (u : SG) : Cl P u → P a0 → P p1 → FQ P u (fun _ => True) (fX8_readSpan N  a0 p1 p2 u) := by
  intro hP h_a0 h_p1
  have h_u : Fr P u u := Fr.rf
  unfold fX8_readSpan
  refine fq_if ?_ ?_
  · refine fq_if ?_ fq_none
    exact fq_tr h_u (frgX8_readSpan_17 N   a0 p1 p2 (zI u p1 7) u (hP.tr h_u) h_a0 h_p1)
  · refine fq_if ?_ fq_none
    exact fq_tr h_u (frgX8_readSpan_17 N   a0 p1 p2 (zI u p1 9) u (hP.tr h_u) h_a0 h_p1)
set_option maxRecDepth 20000 in
theorem frgX8_readClause_73 {P : Nat → Prop} (N : Nat)     (x0 : Nat) (u : SG) : Cl P u → P x0 → FQ P u (fun _ => True) (gX8_readClause_73 N   x0 u) := by
  intro hP h_x0
  have h_u : Fr P u u := Fr.rf
  unfold gX8_readClause_73
  refine fq_if ?_ fq_none
  refine fq_bR h_u hP h_x0 (fun q1 h_q1 => ?_)
  refine fq_if (fq_cl h_u (fr_X9_refuse N q1 (4 : Int32) u (hP.tr h_u) h_q1 ) (fun r2 u3 h_u3 h_r2 => ?_)) fq_none
  exact fq_if (fq_ret h_u3 trivial) fq_none
set_option maxRecDepth 20000 in
theorem frgX8_readClause_52 {P : Nat → Prop} (N : Nat)     (x0 : Nat) (x1 : Nat) (x2 : Int32) (x3 : Int32) (s0 : Int32) (u : SG) : Cl P u → P x0 → P x1 → FQ P u (fun _ => True) (gX8_readClause_52 N   x0 x1 x2 x3 s0 u) := by
  intro hP h_x0 h_x1
  have h_u : Fr P u u := Fr.rf
  unfold gX8_readClause_52
  refine fq_if ?_ ?_
  · exact fq_tr h_u (frgX8_readClause_73 N   x0 u (hP.tr h_u) h_x0)
  · refine fq_if ?_ ?_
    · refine fq_cl h_u (fr_X8_isFull N x1 x3 u (hP.tr h_u) h_x1) (fun r1 u2 h_u2 h_r1 => ?_)
      refine fq_if ?_ ?_
      · refine fq_if ?_ fq_none
        refine fq_bR h_u2 hP h_x0 (fun q3 h_q3 => ?_)
        refine fq_if (fq_cl h_u2 (fr_X9_step N q3  u2 (hP.tr h_u2) h_q3 ) (fun r4 u5 h_u5 h_r4 => ?_)) fq_none
        refine fq_if ?_ ?_
        · refine fq_if (fq_cl h_u5 (fr_X8_readPerson N x0 x1 u5 (hP.tr h_u5) h_x0 h_x1) (fun r6 u7 h_u7 h_r6 => ?_)) fq_none
          exact fq_if (fq_ret h_u7 trivial) fq_none
        refine fq_if ?_ ?_
        · refine fq_if (fq_cl h_u5 (fr_X8_readHours N x0 x1 u5 (hP.tr h_u5) h_x0 h_x1) (fun r8 u9 h_u9 h_r8 => ?_)) fq_none
          exact fq_if (fq_ret h_u9 trivial) fq_none
        refine fq_if ?_ ?_
        · refine fq_if (fq_cl h_u5 (fr_X8_readLamp N x0 x1 u5 (hP.tr h_u5) h_x0 h_x1) (fun r10 u11 h_u11 h_r10 => ?_)) fq_none
          exact fq_if (fq_ret h_u11 trivial) fq_none
        refine fq_if (fq_cl h_u5 (fr_X8_readSpan N x0 x1 x3 u5 (hP.tr h_u5) h_x0 h_x1) (fun r12 u13 h_u13 h_r12 => ?_)) fq_none
        exact fq_if (fq_ret h_u13 trivial) fq_none
      · exact fq_tr h_u2 (frgX8_readClause_73 N   x0 u2 (hP.tr h_u2) h_x0)
    · exact fq_tr h_u (frgX8_readClause_73 N   x0 u (hP.tr h_u) h_x0)
set_option maxRecDepth 20000 in
theorem frgX8_readClause_44 {P : Nat → Prop} (N : Nat)     (x0 : Nat) (x1 : Nat) (x2 : Int32) (x3 : Int32) (s0 : Int32) (s1 : Int32) (u : SG) : Cl P u → P x0 → P x1 → FQ P u (fun _ => True) (gX8_readClause_44 N   x0 x1 x2 x3 s0 s1 u) := by
  intro hP h_x0 h_x1
  have h_u : Fr P u u := Fr.rf
  unfold gX8_readClause_44
  refine fq_if ?_ ?_
  · exact fq_tr h_u (frgX8_readClause_52 N   x0 x1 x2 x3 (0 : Int32) u (hP.tr h_u) h_x0 h_x1)
  · exact fq_tr h_u (frgX8_readClause_52 N   x0 x1 x2 x3 (1 : Int32) u (hP.tr h_u) h_x0 h_x1)
set_option maxRecDepth 20000 in
theorem frgX8_readClause_35 {P : Nat → Prop} (N : Nat)     (x0 : Nat) (x1 : Nat) (x2 : Int32) (x3 : Int32) (s0 : Int32) (u : SG) : Cl P u → P x0 → P x1 → FQ P u (fun _ => True) (gX8_readClause_35 N   x0 x1 x2 x3 s0 u) := by
  intro hP h_x0 h_x1
  have h_u : Fr P u u := Fr.rf
  unfold gX8_readClause_35
  refine fq_if ?_ ?_
  · exact fq_tr h_u (frgX8_readClause_44 N   x0 x1 x2 x3 s0 (1 : Int32) u (hP.tr h_u) h_x0 h_x1)
  · exact fq_tr h_u (frgX8_readClause_44 N   x0 x1 x2 x3 s0 (0 : Int32) u (hP.tr h_u) h_x0 h_x1)
set_option maxRecDepth 20000 in
theorem fr_X8_readClause {P : Nat → Prop} (N : Nat)   (a0 : Nat) (p1 : Nat) (p2 : Int32) (u : SG) : Cl P u → P a0 → P p1 → FQ P u (fun _ => True) (fX8_readClause N  a0 p1 p2 u) := by
  intro hP h_a0 h_p1
  have h_u : Fr P u u := Fr.rf
  unfold fX8_readClause
  refine fq_if ?_ fq_none
  refine fq_bR h_u hP h_a0 (fun q1 h_q1 => ?_)
  refine fq_if ?_ fq_none
  refine fq_bs (fun v2 => ?_)
  refine fq_cl h_u (fr_X8_isClause N v2 u (hP.tr h_u) ) (fun r3 u4 h_u4 h_r3 => ?_)
  refine fq_if ?_ ?_
  · refine fq_if ?_ fq_none
    refine fq_bR h_u4 hP h_a0 (fun q5 h_q5 => ?_)
    refine fq_if (fq_cl h_u4 (fr_X9_refuse N q5 (0 : Int32) u4 (hP.tr h_u4) h_q5 ) (fun r6 u7 h_u7 h_r6 => ?_)) fq_none
    exact fq_if (fq_ret h_u7 trivial) fq_none
  · refine fq_if ?_ ?_
    · exact fq_tr h_u4 (frgX8_readClause_35 N   a0 p1 p2 v2 (1 : Int32) u4 (hP.tr h_u4) h_a0 h_p1)
    · exact fq_tr h_u4 (frgX8_readClause_35 N   a0 p1 p2 v2 (0 : Int32) u4 (hP.tr h_u4) h_a0 h_p1)
set_option maxRecDepth 20000 in
theorem frgX8_readInto_13 {P : Nat → Prop} (N : Nat)     : ∀ (n : Nat) (x0 : Nat) (x1 : Nat) (x2 : Int32) (u : SG), Cl P u → P x0 → P x1 → FQ P u (fun _ => True) (gX8_readInto_13 N   n x0 x1 x2 u) := by
  intro n
  induction n with
  | zero => intros; intro r u9 h9; exact absurd h9 (by simp [gX8_readInto_13])
  | succ n ih =>
    intro x0 x1 x2 u hP h_x0 h_x1
    have hrec13 := ih
    have h_u : Fr P u u := Fr.rf
    rw [gX8_readInto_13]
    refine fq_if ?_ ?_
    · refine fq_if ?_ fq_none
      refine fq_bR h_u hP h_x0 (fun q1 h_q1 => ?_)
      refine fq_if ?_ fq_none
      exact fq_ret h_u trivial
    · refine fq_if (fq_cl h_u (fr_X8_readClause N x0 x1 x2 u (hP.tr h_u) h_x0 h_x1) (fun r2 u3 h_u3 h_r2 => ?_)) fq_none
      refine fq_if ?_ ?_
      · refine fq_if ?_ fq_none
        refine fq_bR h_u3 hP h_x0 (fun q9 h_q9 => ?_)
        refine fq_if ?_ fq_none
        exact fq_ret h_u3 trivial
      · refine fq_if ?_ fq_none
        refine fq_bR h_u3 hP h_x0 (fun q4 h_q4 => ?_)
        refine fq_if ?_ fq_none
        refine fq_if ?_ ?_
        · exact fq_ret h_u3 trivial
        · refine fq_if ?_ fq_none
          refine fq_bR h_u3 hP h_x0 (fun q5 h_q5 => ?_)
          refine fq_if (fq_cl h_u3 (fr_X9_takeSign N q5 (59 : Int32) u3 (hP.tr h_u3) h_q5 ) (fun r6 u7 h_u7 h_r6 => ?_)) fq_none
          refine fq_if ?_ ?_
          · refine fq_if ?_ fq_none
            refine fq_bR h_u7 hP h_x0 (fun q8 h_q8 => ?_)
            refine fq_if ?_ fq_none
            exact fq_ret h_u7 trivial
          · exact fq_tr h_u7 (hrec13 x0 x1 (x2 + (1 : Int32)) u7 (hP.tr h_u7) h_x0 h_x1)
set_option maxRecDepth 20000 in
theorem fr_X8_readInto {P : Nat → Prop} (N : Nat)   (a0 : Nat) (p1 : Nat) (u : SG) : Cl P u → P a0 → P p1 → FQ P u (fun _ => True) (fX8_readInto N  a0 p1 u) := by
  intro hP h_a0 h_p1
  have h_u : Fr P u u := Fr.rf
  unfold fX8_readInto
  refine fq_if (fq_cl h_u (fr_X7_clear N p1  u (hP.tr h_u) h_p1 ) (fun r1 u2 h_u2 h_r1 => ?_)) fq_none
  refine fq_if ?_ fq_none
  refine fq_bR h_u2 hP h_a0 (fun q3 h_q3 => ?_)
  refine fq_if (fq_cl h_u2 (fr_X9_open N q3  u2 (hP.tr h_u2) h_q3 ) (fun r4 u5 h_u5 h_r4 => ?_)) fq_none
  exact fq_tr h_u5 (frgX8_readInto_13 N   N a0 p1 (0 : Int32) u5 (hP.tr h_u5) h_a0 h_p1)
set_option maxRecDepth 20000 in
theorem fr_X9_hasRoom {P : Nat → Prop} (N : Nat)   (a0 : Nat) (p1 : Int32) (u : SG) : Cl P u → P a0 → FQ P u (fun _ => True) (fX9_hasRoom N  a0 p1 u) := by
  intro hP h_a0
  have h_u : Fr P u u := Fr.rf
  unfold fX9_hasRoom
  refine fq_if ?_ fq_none
  refine fq_if ?_ ?_
  · exact fq_ret h_u trivial
  · exact fq_ret h_u trivial
set_option maxRecDepth 20000 in
theorem frgX9_append_3 {P : Nat → Prop} (N : Nat)     : ∀ (n : Nat) (x0 : Nat) (x1 : Int32) (x2 : Int32) (u : SG), Cl P u → P x0 → FQ P u (fun _ => True) (gX9_append_3 N   n x0 x1 x2 u) := by
  intro n
  induction n with
  | zero => intros; intro r u9 h9; exact absurd h9 (by simp [gX9_append_3])
  | succ n ih =>
    intro x0 x1 x2 u hP h_x0
    have hrec3 := ih
    have h_u : Fr P u u := Fr.rf
    rw [gX9_append_3]
    refine fq_if ?_ ?_
    · exact fq_ret h_u trivial
    · refine fq_if ?_ fq_none
      refine fq_if ?_ ?_
      · exact fq_tr h_u (hrec3 x0 x1 (x2 + (-8 : Int32)) u (hP.tr h_u) h_x0)
      · refine fq_if ?_ fq_none
        refine fq_if ?_ ?_
        · exact fq_tr h_u (hrec3 x0 x1 (x2 + (-8 : Int32)) u (hP.tr h_u) h_x0)
        · refine fq_if ?_ fq_none
          refine fq_bR h_u hP h_x0 (fun q1 h_q1 => ?_)
          refine fq_if ?_ fq_none
          refine fq_if (fq_if fq_none (fq_sI h_u h_q1 (fun u2 h_u2 => ?_))) fq_none
          refine fq_if ?_ fq_none
          refine fq_if (fq_sI h_u2 h_x0 (fun u3 h_u3 => ?_)) fq_none
          exact fq_tr h_u3 (hrec3 x0 x1 (x2 + (-8 : Int32)) u3 (hP.tr h_u3) h_x0)
set_option maxRecDepth 20000 in
theorem fr_X9_append {P : Nat → Prop} (N : Nat)   (a0 : Nat) (p1 : Int32) (u : SG) : Cl P u → P a0 → FQ P u (fun _ => True) (fX9_append N  a0 p1 u) := by
  intro hP h_a0
  have h_u : Fr P u u := Fr.rf
  unfold fX9_append
  exact fq_tr h_u (frgX9_append_3 N   N a0 p1 (24 : Int32) u (hP.tr h_u) h_a0)
set_option maxRecDepth 20000 in
theorem fr_X10_feed {P : Nat → Prop} (N : Nat)   (a0 : Nat) (p1 : Int32) (p2 : Int32) (p3 : Int32) (p4 : Int32) (p5 : Int32) (u : SG) : Cl P u → P a0 → FQ P u (fun _ => True) (fX10_feed N  a0 p1 p2 p3 p4 p5 u) := by
  intro hP h_a0
  have h_u : Fr P u u := Fr.rf
  unfold fX10_feed
  refine fq_if ?_ fq_none
  refine fq_bR h_u hP h_a0 (fun q1 h_q1 => ?_)
  refine fq_if (fq_cl h_u (fr_X9_hasRoom N q1 (20 : Int32) u (hP.tr h_u) h_q1 ) (fun r2 u3 h_u3 h_r2 => ?_)) fq_none
  refine fq_if ?_ ?_
  · exact fq_ret h_u3 trivial
  · refine fq_if ?_ fq_none
    refine fq_bR h_u3 hP h_a0 (fun q4 h_q4 => ?_)
    refine fq_if (fq_cl h_u3 (fr_X9_append N q4 p1 u3 (hP.tr h_u3) h_q4 ) (fun r5 u6 h_u6 h_r5 => ?_)) fq_none
    refine fq_if ?_ fq_none
    refine fq_bR h_u6 hP h_a0 (fun q7 h_q7 => ?_)
    refine fq_if (fq_cl h_u6 (fr_X9_append N q7 p2 u6 (hP.tr h_u6) h_q7 ) (fun r8 u9 h_u9 h_r8 => ?_)) fq_none
    refine fq_if ?_ fq_none
    refine fq_bR h_u9 hP h_a0 (fun q10 h_q10 => ?_)
    refine fq_if (fq_cl h_u9 (fr_X9_append N q10 p3 u9 (hP.tr h_u9) h_q10 ) (fun r11 u12 h_u12 h_r11 => ?_)) fq_none
    refine fq_if ?_ fq_none
    refine fq_bR h_u12 hP h_a0 (fun q13 h_q13 => ?_)
    refine fq_if (fq_cl h_u12 (fr_X9_append N q13 p4 u12 (hP.tr h_u12) h_q13 ) (fun r14 u15 h_u15 h_r14 => ?_)) fq_none
    refine fq_if ?_ fq_none
    refine fq_bR h_u15 hP h_a0 (fun q16 h_q16 => ?_)
    refine fq_if (fq_cl h_u15 (fr_X9_append N q16 p5 u15 (hP.tr h_u15) h_q16 ) (fun r17 u18 h_u18 h_r17 => ?_)) fq_none
    refine fq_if ?_ fq_none
    refine fq_bR h_u18 hP h_a0 (fun q19 h_q19 => ?_)
    refine fq_if ?_ fq_none
    exact fq_ret h_u18 trivial
set_option maxRecDepth 20000 in
theorem fr_X10_end {P : Nat → Prop} (N : Nat)   (a0 : Nat) (p1 : Int32) (u : SG) : Cl P u → P a0 → FQ P u (fun _ => True) (fX10_end N  a0 p1 u) := by
  intro hP h_a0
  have h_u : Fr P u u := Fr.rf
  unfold fX10_end
  refine fq_if ?_ ?_
  · exact fq_ret h_u trivial
  · refine fq_if ?_ fq_none
    refine fq_bR h_u hP h_a0 (fun q1 h_q1 => ?_)
    refine fq_if ?_ fq_none
    refine fq_if ?_ ?_
    · refine fq_if ?_ fq_none
      refine fq_bR h_u hP h_a0 (fun q2 h_q2 => ?_)
      refine fq_if (fq_sI h_u h_q2 (fun u3 h_u3 => ?_)) fq_none
      exact fq_ret h_u3 trivial
    · exact fq_ret h_u trivial
set_option maxRecDepth 20000 in
theorem fr_X10_street {P : Nat → Prop} (N : Nat)   (a0 : Nat) (u : SG) : Cl P u → P a0 → FQ P u (fun _ => True) (fX10_street N  a0 u) := by
  intro hP h_a0
  have h_u : Fr P u u := Fr.rf
  unfold fX10_street
  refine fq_if ?_ fq_none
  refine fq_bR h_u hP h_a0 (fun q1 h_q1 => ?_)
  refine fq_if ?_ fq_none
  refine fq_bR h_u hP h_a0 (fun q2 h_q2 => ?_)
  refine fq_if (fq_cl h_u (fr_X8_readInto N q1 q2 u (hP.tr h_u) h_q1 h_q2) (fun r3 u4 h_u4 h_r3 => ?_)) fq_none
  refine fq_if ?_ fq_none
  refine fq_bR h_u4 hP h_a0 (fun q5 h_q5 => ?_)
  refine fq_if (fq_sI h_u4 h_q5 (fun u6 h_u6 => ?_)) fq_none
  refine fq_if ?_ ?_
  · refine fq_if ?_ fq_none
    refine fq_bR h_u6 hP h_a0 (fun q7 h_q7 => ?_)
    refine fq_if ?_ fq_none
    refine fq_bR h_u6 hP h_q7 (fun q8 h_q8 => ?_)
    refine fq_if ?_ fq_none
    refine fq_bR h_u6 hP h_a0 (fun q9 h_q9 => ?_)
    refine fq_if (fq_cl h_u6 (fr_X7_copyOf N q8 q9 u6 (hP.tr h_u6) h_q8 h_q9) (fun r10 u11 h_u11 h_r10 => ?_)) fq_none
    refine fq_if ?_ fq_none
    refine fq_bR h_u11 hP h_a0 (fun q12 h_q12 => ?_)
    refine fq_if ?_ fq_none
    refine fq_bR h_u11 hP h_q12 (fun q13 h_q13 => ?_)
    refine fq_if (fq_cl h_u11 (fr_X2_clear N q13  u11 (hP.tr h_u11) h_q13 ) (fun r14 u15 h_u15 h_r14 => ?_)) fq_none
    refine fq_if ?_ fq_none
    refine fq_bR h_u15 hP h_a0 (fun q16 h_q16 => ?_)
    refine fq_if ?_ fq_none
    refine fq_bR h_u15 hP h_q16 (fun q17 h_q17 => ?_)
    refine fq_if (fq_cl h_u15 (fr_X1_clear N q17  u15 (hP.tr h_u15) h_q17 ) (fun r18 u19 h_u19 h_r18 => ?_)) fq_none
    refine fq_if ?_ fq_none
    refine fq_bR h_u19 hP h_a0 (fun q20 h_q20 => ?_)
    refine fq_if (fq_cl h_u19 (fr_X0_clear N q20  u19 (hP.tr h_u19) h_q20 ) (fun r21 u22 h_u22 h_r21 => ?_)) fq_none
    refine fq_if ?_ fq_none
    refine fq_bR h_u22 hP h_a0 (fun q23 h_q23 => ?_)
    refine fq_if ?_ fq_none
    refine fq_bR h_u22 hP h_q23 (fun q24 h_q24 => ?_)
    refine fq_if ?_ fq_none
    exact fq_ret h_u22 trivial
  · exact fq_ret h_u6 trivial
set_option maxRecDepth 20000 in
theorem fr_X10_force {P : Nat → Prop} (N : Nat)   (a0 : Nat) (p1 : Int32) (u : SG) : Cl P u → P a0 → FQ P u (fun _ => True) (fX10_force N  a0 p1 u) := by
  intro hP h_a0
  have h_u : Fr P u u := Fr.rf
  unfold fX10_force
  refine fq_if ?_ ?_
  · exact fq_ret h_u trivial
  · refine fq_if ?_ fq_none
    refine fq_if ?_ ?_
    · refine fq_if ?_ fq_none
      refine fq_bR h_u hP h_a0 (fun q1 h_q1 => ?_)
      refine fq_if ?_ fq_none
      refine fq_bs (fun v2 => ?_)
      refine fq_if ?_ fq_none
      refine fq_bR h_u hP h_a0 (fun q3 h_q3 => ?_)
      refine fq_if (fq_sI h_u h_q3 (fun u4 h_u4 => ?_)) fq_none
      exact fq_ret h_u4 trivial
    · exact fq_ret h_u trivial
set_option maxRecDepth 20000 in
theorem fr_X10_workersNow {P : Nat → Prop} (N : Nat)   (a0 : Nat) (u : SG) : Cl P u → P a0 → FQ P u (fun _ => True) (fX10_workersNow N  a0 u) := by
  intro hP h_a0
  have h_u : Fr P u u := Fr.rf
  unfold fX10_workersNow
  refine fq_if ?_ fq_none
  refine fq_bR h_u hP h_a0 (fun q1 h_q1 => ?_)
  refine fq_if ?_ fq_none
  refine fq_bR h_u hP h_q1 (fun q2 h_q2 => ?_)
  refine fq_if ?_ fq_none
  refine fq_bR h_u hP h_a0 (fun q3 h_q3 => ?_)
  refine fq_if ?_ fq_none
  refine fq_bR h_u hP h_q3 (fun q4 h_q4 => ?_)
  refine fq_if ?_ fq_none
  refine fq_if (fq_cl h_u (fr_X7_workersAt N q2 (zI u q4 0) u (hP.tr h_u) h_q2 ) (fun r5 u6 h_u6 h_r5 => ?_)) fq_none
  exact fq_ret h_u6 trivial
set_option maxRecDepth 20000 in
theorem fr_X10_person {P : Nat → Prop} (N : Nat)   (a0 : Nat) (p1 : Int32) (p2 : Int32) (u : SG) : Cl P u → P a0 → FQ P u (fun _ => True) (fX10_person N  a0 p1 p2 u) := by
  intro hP h_a0
  have h_u : Fr P u u := Fr.rf
  unfold fX10_person
  refine fq_if ?_ fq_none
  refine fq_bR h_u hP h_a0 (fun q1 h_q1 => ?_)
  refine fq_if ?_ fq_none
  refine fq_bR h_u hP h_q1 (fun q2 h_q2 => ?_)
  refine fq_if (fq_cl h_u (fr_X7_isPerson N q2 p1 u (hP.tr h_u) h_q2 ) (fun r3 u4 h_u4 h_r3 => ?_)) fq_none
  refine fq_if ?_ ?_
  · exact fq_ret h_u4 trivial
  · refine fq_if ?_ ?_
    · refine fq_if ?_ fq_none
      refine fq_bR h_u4 hP h_a0 (fun q5 h_q5 => ?_)
      refine fq_if ?_ fq_none
      refine fq_bR h_u4 hP h_q5 (fun q6 h_q6 => ?_)
      refine fq_if ?_ fq_none
      refine fq_bR h_u4 hP h_q6 (fun q7 h_q7 => ?_)
      refine fq_if (fq_if fq_none ?_) fq_none
      exact fq_ret h_u4 trivial
    refine fq_if ?_ ?_
    · refine fq_if ?_ fq_none
      refine fq_bR h_u4 hP h_a0 (fun q8 h_q8 => ?_)
      refine fq_if ?_ fq_none
      refine fq_bR h_u4 hP h_q8 (fun q9 h_q9 => ?_)
      refine fq_if ?_ fq_none
      refine fq_bR h_u4 hP h_q9 (fun q10 h_q10 => ?_)
      refine fq_if (fq_if fq_none ?_) fq_none
      exact fq_ret h_u4 trivial
    refine fq_if ?_ ?_
    · refine fq_if ?_ fq_none
      refine fq_bR h_u4 hP h_a0 (fun q11 h_q11 => ?_)
      refine fq_if ?_ fq_none
      refine fq_bR h_u4 hP h_q11 (fun q12 h_q12 => ?_)
      refine fq_if ?_ fq_none
      refine fq_cl h_u4 (fr_X10_bitOf N (zI u4 q12 2) p1 u4 (hP.tr h_u4) ) (fun r13 u14 h_u14 h_r13 => ?_)
      exact fq_ret h_u14 trivial
    refine fq_if ?_ ?_
    · refine fq_if ?_ fq_none
      refine fq_bR h_u4 hP h_a0 (fun q15 h_q15 => ?_)
      refine fq_if ?_ fq_none
      refine fq_bR h_u4 hP h_q15 (fun q16 h_q16 => ?_)
      refine fq_if ?_ fq_none
      refine fq_bR h_u4 hP h_q16 (fun q17 h_q17 => ?_)
      refine fq_if (fq_if fq_none ?_) fq_none
      exact fq_ret h_u4 trivial
    refine fq_if ?_ ?_
    · refine fq_if ?_ fq_none
      refine fq_bR h_u4 hP h_a0 (fun q18 h_q18 => ?_)
      refine fq_if ?_ fq_none
      refine fq_bR h_u4 hP h_q18 (fun q19 h_q19 => ?_)
      refine fq_if ?_ fq_none
      refine fq_bR h_u4 hP h_q19 (fun q20 h_q20 => ?_)
      refine fq_if (fq_if fq_none ?_) fq_none
      exact fq_ret h_u4 trivial
    refine fq_if ?_ ?_
    · refine fq_if (fq_cl h_u4 (fr_X10_workersNow N a0  u4 (hP.tr h_u4) h_a0 ) (fun r21 u22 h_u22 h_r21 => ?_)) fq_none
      refine fq_cl h_u22 (fr_X10_bitOf N r21 p1 u22 (hP.tr h_u22) ) (fun r23 u24 h_u24 h_r23 => ?_)
      exact fq_ret h_u24 trivial
    exact fq_ret h_u4 trivial
set_option maxRecDepth 20000 in
theorem fr_X10_burningNow {P : Nat → Prop} (N : Nat)   (a0 : Nat) (u : SG) : Cl P u → P a0 → FQ P u (fun _ => True) (fX10_burningNow N  a0 u) := by
  intro hP h_a0
  have h_u : Fr P u u := Fr.rf
  unfold fX10_burningNow
  refine fq_if ?_ fq_none
  refine fq_bR h_u hP h_a0 (fun q1 h_q1 => ?_)
  refine fq_if ?_ fq_none
  refine fq_bR h_u hP h_q1 (fun q2 h_q2 => ?_)
  refine fq_if ?_ fq_none
  refine fq_bR h_u hP h_a0 (fun q3 h_q3 => ?_)
  refine fq_if ?_ fq_none
  refine fq_bR h_u hP h_q3 (fun q4 h_q4 => ?_)
  refine fq_if ?_ fq_none
  refine fq_bR h_u hP h_a0 (fun q5 h_q5 => ?_)
  refine fq_if ?_ fq_none
  refine fq_bR h_u hP h_q5 (fun q6 h_q6 => ?_)
  refine fq_if ?_ fq_none
  refine fq_if (fq_cl h_u (fr_X2_burningAt N q2 q4 (zI u q6 0) u (hP.tr h_u) h_q2 h_q4) (fun r7 u8 h_u8 h_r7 => ?_)) fq_none
  exact fq_ret h_u8 trivial
set_option maxRecDepth 20000 in
theorem fr_X10_lamp {P : Nat → Prop} (N : Nat)   (a0 : Nat) (p1 : Int32) (p2 : Int32) (u : SG) : Cl P u → P a0 → FQ P u (fun _ => True) (fX10_lamp N  a0 p1 p2 u) := by
  intro hP h_a0
  have h_u : Fr P u u := Fr.rf
  unfold fX10_lamp
  refine fq_if ?_ fq_none
  refine fq_bR h_u hP h_a0 (fun q1 h_q1 => ?_)
  refine fq_if ?_ fq_none
  refine fq_bR h_u hP h_q1 (fun q2 h_q2 => ?_)
  refine fq_if (fq_cl h_u (fr_X7_isLamp N q2 p1 u (hP.tr h_u) h_q2 ) (fun r3 u4 h_u4 h_r3 => ?_)) fq_none
  refine fq_if ?_ ?_
  · exact fq_ret h_u4 trivial
  · refine fq_if ?_ ?_
    · refine fq_if ?_ fq_none
      refine fq_bR h_u4 hP h_a0 (fun q5 h_q5 => ?_)
      refine fq_if ?_ fq_none
      refine fq_bR h_u4 hP h_q5 (fun q6 h_q6 => ?_)
      refine fq_if ?_ fq_none
      refine fq_bR h_u4 hP h_q6 (fun q7 h_q7 => ?_)
      refine fq_if (fq_if fq_none ?_) fq_none
      exact fq_ret h_u4 trivial
    refine fq_if ?_ ?_
    · refine fq_if ?_ fq_none
      refine fq_bR h_u4 hP h_a0 (fun q8 h_q8 => ?_)
      refine fq_if ?_ fq_none
      refine fq_bR h_u4 hP h_q8 (fun q9 h_q9 => ?_)
      refine fq_if ?_ fq_none
      refine fq_bR h_u4 hP h_q9 (fun q10 h_q10 => ?_)
      refine fq_if (fq_if fq_none ?_) fq_none
      exact fq_ret h_u4 trivial
    refine fq_if ?_ ?_
    · refine fq_if (fq_cl h_u4 (fr_X10_burningNow N a0  u4 (hP.tr h_u4) h_a0 ) (fun r11 u12 h_u12 h_r11 => ?_)) fq_none
      refine fq_cl h_u12 (fr_X10_bitOf N r11 p1 u12 (hP.tr h_u12) ) (fun r13 u14 h_u14 h_r13 => ?_)
      exact fq_ret h_u14 trivial
    exact fq_ret h_u4 trivial
set_option maxRecDepth 20000 in
theorem fr_X10_ruleNow {P : Nat → Prop} (N : Nat)   (a0 : Nat) (u : SG) : Cl P u → P a0 → FQ P u (fun r => ∀ q, r = some q → P q) (fX10_ruleNow N  a0 u) := by
  intro hP h_a0
  have h_u : Fr P u u := Fr.rf
  unfold fX10_ruleNow
  refine fq_if ?_ fq_none
  refine fq_bR h_u hP h_a0 (fun q1 h_q1 => ?_)
  refine fq_if ?_ fq_none
  refine fq_bs (fun v2 => ?_)
  refine fq_if ?_ ?_
  · exact fq_ret h_u fq_nn
  · refine fq_if ?_ fq_none
    refine fq_if ?_ ?_
    · exact fq_ret h_u fq_nn
    · refine fq_if ?_ fq_none
      refine fq_bR h_u hP h_a0 (fun q3 h_q3 => ?_)
      refine fq_if (fq_if fq_none ?_) fq_none
      exact fq_retR h_u hP h_q3
set_option maxRecDepth 20000 in
theorem fr_X10_hour {P : Nat → Prop} (N : Nat)   (a0 : Nat) (u : SG) : Cl P u → P a0 → FQ P u (fun _ => True) (fX10_hour N  a0 u) := by
  intro hP h_a0
  have h_u : Fr P u u := Fr.rf
  unfold fX10_hour
  refine fq_if ?_ fq_none
  refine fq_bR h_u hP h_a0 (fun q1 h_q1 => ?_)
  refine fq_if ?_ fq_none
  refine fq_bR h_u hP h_q1 (fun q2 h_q2 => ?_)
  refine fq_if (fq_cl h_u (fr_X7_isTold N q2  u (hP.tr h_u) h_q2 ) (fun r3 u4 h_u4 h_r3 => ?_)) fq_none
  refine fq_if ?_ ?_
  · exact fq_ret h_u4 trivial
  · refine fq_if ?_ fq_none
    refine fq_bR h_u4 hP h_a0 (fun q5 h_q5 => ?_)
    refine fq_if ?_ fq_none
    refine fq_bR h_u4 hP h_q5 (fun q6 h_q6 => ?_)
    refine fq_if ?_ fq_none
    refine fq_bR h_u4 hP h_a0 (fun q7 h_q7 => ?_)
    refine fq_if ?_ fq_none
    refine fq_bR h_u4 hP h_q7 (fun q8 h_q8 => ?_)
    refine fq_if (fq_cl h_u4 (fr_X2_isLast N q6 q8 u4 (hP.tr h_u4) h_q6 h_q8) (fun r9 u10 h_u10 h_r9 => ?_)) fq_none
    refine fq_if ?_ ?_
    · refine fq_if ?_ fq_none
      refine fq_bR h_u10 hP h_a0 (fun q11 h_q11 => ?_)
      refine fq_if ?_ fq_none
      refine fq_bR h_u10 hP h_a0 (fun q12 h_q12 => ?_)
      refine fq_if ?_ fq_none
      refine fq_bR h_u10 hP h_q12 (fun q13 h_q13 => ?_)
      refine fq_if (fq_cl h_u10 (fr_X0_keep N q11 q13 u10 (hP.tr h_u10) h_q11 h_q13) (fun r14 u15 h_u15 h_r14 => ?_)) fq_none
      refine fq_if ?_ fq_none
      refine fq_bR h_u15 hP h_a0 (fun q16 h_q16 => ?_)
      refine fq_if ?_ fq_none
      refine fq_bR h_u15 hP h_a0 (fun q17 h_q17 => ?_)
      refine fq_if ?_ fq_none
      refine fq_bR h_u15 hP h_q17 (fun q18 h_q18 => ?_)
      refine fq_if ?_ fq_none
      refine fq_bR h_u15 hP h_a0 (fun q19 h_q19 => ?_)
      refine fq_if ?_ fq_none
      refine fq_bR h_u15 hP h_q19 (fun q20 h_q20 => ?_)
      refine fq_if (fq_cl h_u15 (fr_X10_ruleNow N a0  u15 (hP.tr h_u15) h_a0 ) (fun r21 u22 h_u22 h_r21 => ?_)) fq_none
      refine fq_if (fq_cl h_u22 (fr_X3_play N q16 q18 q20 r21 u22 (hP.tr h_u22) h_q16 h_q18 h_q20 h_r21) (fun r23 u24 h_u24 h_r23 => ?_)) fq_none
      exact fq_ret h_u24 trivial
    · exact fq_ret h_u10 trivial
set_option maxRecDepth 20000 in
theorem frgX10_sleep_75 {P : Nat → Prop} (N : Nat)     (x0 : Nat) (x1 : Int32) (u : SG) : Cl P u → P x0 → FQ P u (fun _ => True) (gX10_sleep_75 N   x0 x1 u) := by
  intro hP h_x0
  have h_u : Fr P u u := Fr.rf
  unfold gX10_sleep_75
  refine fq_if ?_ fq_none
  refine fq_bR h_u hP h_x0 (fun q1 h_q1 => ?_)
  refine fq_if ?_ fq_none
  refine fq_bR h_u hP h_x0 (fun q2 h_q2 => ?_)
  refine fq_if ?_ fq_none
  refine fq_bR h_u hP h_q2 (fun q3 h_q3 => ?_)
  refine fq_if (fq_cl h_u (fr_X0_keep N q1 q3 u (hP.tr h_u) h_q1 h_q3) (fun r4 u5 h_u5 h_r4 => ?_)) fq_none
  refine fq_if ?_ fq_none
  refine fq_bR h_u5 hP h_x0 (fun q6 h_q6 => ?_)
  refine fq_if ?_ fq_none
  refine fq_bR h_u5 hP h_q6 (fun q7 h_q7 => ?_)
  refine fq_if ?_ fq_none
  refine fq_if (fq_sI h_u5 h_q7 (fun u8 h_u8 => ?_)) fq_none
  exact fq_ret h_u8 trivial
set_option maxRecDepth 20000 in
theorem frgX10_sleep_57 {P : Nat → Prop} (N : Nat)     (x0 : Nat) (x1 : Int32) (x2 : Int32) (x3 : Int32) (s0 : Int32) (u : SG) : Cl P u → P x0 → FQ P u (fun _ => True) (gX10_sleep_57 N   x0 x1 x2 x3 s0 u) := by
  intro hP h_x0
  have h_u : Fr P u u := Fr.rf
  unfold gX10_sleep_57
  refine fq_if ?_ ?_
  · exact fq_ret h_u trivial
  · refine fq_if ?_ ?_
    · exact fq_tr h_u (frgX10_sleep_75 N   x0 x1 u (hP.tr h_u) h_x0)
    · refine fq_if ?_ ?_
      · exact fq_tr h_u (frgX10_sleep_75 N   x0 x1 u (hP.tr h_u) h_x0)
      · exact fq_ret h_u trivial
set_option maxRecDepth 20000 in
theorem frgX10_sleep_39 {P : Nat → Prop} (N : Nat)     (x0 : Nat) (x1 : Int32) (x2 : Int32) (s0 : Int32) (u : SG) : Cl P u → P x0 → FQ P u (fun _ => True) (gX10_sleep_39 N   x0 x1 x2 s0 u) := by
  intro hP h_x0
  have h_u : Fr P u u := Fr.rf
  unfold gX10_sleep_39
  refine fq_if (fq_cl h_u (fr_X10_workersNow N x0  u (hP.tr h_u) h_x0 ) (fun r1 u2 h_u2 h_r1 => ?_)) fq_none
  refine fq_cl h_u2 (fr_X10_bitOf N r1 x1 u2 (hP.tr h_u2) ) (fun r3 u4 h_u4 h_r3 => ?_)
  refine fq_if ?_ ?_
  · exact fq_tr h_u4 (frgX10_sleep_57 N   x0 x1 x2 s0 (1 : Int32) u4 (hP.tr h_u4) h_x0)
  · exact fq_tr h_u4 (frgX10_sleep_57 N   x0 x1 x2 s0 (0 : Int32) u4 (hP.tr h_u4) h_x0)
set_option maxRecDepth 20000 in
theorem fr_X10_sleep {P : Nat → Prop} (N : Nat)   (a0 : Nat) (p1 : Int32) (p2 : Int32) (u : SG) : Cl P u → P a0 → FQ P u (fun _ => True) (fX10_sleep N  a0 p1 p2 u) := by
  intro hP h_a0
  have h_u : Fr P u u := Fr.rf
  unfold fX10_sleep
  refine fq_if ?_ fq_none
  refine fq_bR h_u hP h_a0 (fun q1 h_q1 => ?_)
  refine fq_if ?_ fq_none
  refine fq_bR h_u hP h_q1 (fun q2 h_q2 => ?_)
  refine fq_if (fq_cl h_u (fr_X7_isPerson N q2 p1 u (hP.tr h_u) h_q2 ) (fun r3 u4 h_u4 h_r3 => ?_)) fq_none
  refine fq_if ?_ ?_
  · exact fq_ret h_u4 trivial
  · refine fq_if ?_ fq_none
    refine fq_bR h_u4 hP h_a0 (fun q5 h_q5 => ?_)
    refine fq_if ?_ fq_none
    refine fq_bR h_u4 hP h_q5 (fun q6 h_q6 => ?_)
    refine fq_if ?_ fq_none
    refine fq_cl h_u4 (fr_X10_bitOf N (zI u4 q6 2) p1 u4 (hP.tr h_u4) ) (fun r7 u8 h_u8 h_r7 => ?_)
    refine fq_if ?_ ?_
    · exact fq_tr h_u8 (frgX10_sleep_39 N   a0 p1 p2 (1 : Int32) u8 (hP.tr h_u8) h_a0)
    · exact fq_tr h_u8 (frgX10_sleep_39 N   a0 p1 p2 (0 : Int32) u8 (hP.tr h_u8) h_a0)
set_option maxRecDepth 20000 in
theorem frgX10_light_33 {P : Nat → Prop} (N : Nat)     (x0 : Nat) (x1 : Int32) (x2 : Int32) (s0 : Int32) (u : SG) : Cl P u → P x0 → FQ P u (fun _ => True) (gX10_light_33 N   x0 x1 x2 s0 u) := by
  intro hP h_x0
  have h_u : Fr P u u := Fr.rf
  unfold gX10_light_33
  refine fq_if ?_ ?_
  · exact fq_ret h_u trivial
  · refine fq_if ?_ fq_none
    refine fq_bR h_u hP h_x0 (fun q1 h_q1 => ?_)
    refine fq_if ?_ fq_none
    refine fq_bR h_u hP h_x0 (fun q2 h_q2 => ?_)
    refine fq_if ?_ fq_none
    refine fq_bR h_u hP h_q2 (fun q3 h_q3 => ?_)
    refine fq_if (fq_cl h_u (fr_X0_keep N q1 q3 u (hP.tr h_u) h_q1 h_q3) (fun r4 u5 h_u5 h_r4 => ?_)) fq_none
    refine fq_if ?_ fq_none
    refine fq_bR h_u5 hP h_x0 (fun q6 h_q6 => ?_)
    refine fq_if ?_ fq_none
    refine fq_bR h_u5 hP h_q6 (fun q7 h_q7 => ?_)
    refine fq_if (fq_cl h_u5 (fr_X2_setLamp N q7 x1 x2 u5 (hP.tr h_u5) h_q7 ) (fun r8 u9 h_u9 h_r8 => ?_)) fq_none
    exact fq_ret h_u9 trivial
set_option maxRecDepth 20000 in
theorem fr_X10_light {P : Nat → Prop} (N : Nat)   (a0 : Nat) (p1 : Int32) (p2 : Int32) (u : SG) : Cl P u → P a0 → FQ P u (fun _ => True) (fX10_light N  a0 p1 p2 u) := by
  intro hP h_a0
  have h_u : Fr P u u := Fr.rf
  unfold fX10_light
  refine fq_if ?_ fq_none
  refine fq_bR h_u hP h_a0 (fun q1 h_q1 => ?_)
  refine fq_if ?_ fq_none
  refine fq_bR h_u hP h_q1 (fun q2 h_q2 => ?_)
  refine fq_if (fq_cl h_u (fr_X7_isLamp N q2 p1 u (hP.tr h_u) h_q2 ) (fun r3 u4 h_u4 h_r3 => ?_)) fq_none
  refine fq_if ?_ ?_
  · exact fq_ret h_u4 trivial
  · refine fq_if (fq_cl h_u4 (fr_X10_burningNow N a0  u4 (hP.tr h_u4) h_a0 ) (fun r5 u6 h_u6 h_r5 => ?_)) fq_none
    refine fq_cl h_u6 (fr_X10_bitOf N r5 p1 u6 (hP.tr h_u6) ) (fun r7 u8 h_u8 h_r7 => ?_)
    refine fq_if ?_ ?_
    · exact fq_tr h_u8 (frgX10_light_33 N   a0 p1 p2 (1 : Int32) u8 (hP.tr h_u8) h_a0)
    · exact fq_tr h_u8 (frgX10_light_33 N   a0 p1 p2 (0 : Int32) u8 (hP.tr h_u8) h_a0)
set_option maxRecDepth 20000 in
theorem fr_X10_undo {P : Nat → Prop} (N : Nat)   (a0 : Nat) (u : SG) : Cl P u → P a0 → FQ P u (fun _ => True) (fX10_undo N  a0 u) := by
  intro hP h_a0
  have h_u : Fr P u u := Fr.rf
  unfold fX10_undo
  refine fq_if ?_ fq_none
  refine fq_bR h_u hP h_a0 (fun q1 h_q1 => ?_)
  refine fq_if ?_ fq_none
  refine fq_bR h_u hP h_a0 (fun q2 h_q2 => ?_)
  refine fq_if ?_ fq_none
  refine fq_bR h_u hP h_q2 (fun q3 h_q3 => ?_)
  refine fq_if (fq_cl h_u (fr_X0_takeBack N q1 q3 u (hP.tr h_u) h_q1 h_q3) (fun r4 u5 h_u5 h_r4 => ?_)) fq_none
  refine fq_if ?_ ?_
  · exact fq_ret h_u5 trivial
  · refine fq_if ?_ fq_none
    refine fq_bR h_u5 hP h_a0 (fun q6 h_q6 => ?_)
    refine fq_if ?_ fq_none
    exact fq_ret h_u5 trivial
set_option maxRecDepth 20000 in
theorem fr_X10_isDebtor {P : Nat → Prop} (N : Nat)   (a0 : Nat) (p1 : Int32) (u : SG) : Cl P u → P a0 → FQ P u (fun _ => True) (fX10_isDebtor N  a0 p1 u) := by
  intro hP h_a0
  have h_u : Fr P u u := Fr.rf
  unfold fX10_isDebtor
  refine fq_if ?_ fq_none
  refine fq_bR h_u hP h_a0 (fun q1 h_q1 => ?_)
  refine fq_if ?_ fq_none
  refine fq_bR h_u hP h_q1 (fun q2 h_q2 => ?_)
  refine fq_if (fq_cl h_u (fr_X7_isTold N q2  u (hP.tr h_u) h_q2 ) (fun r3 u4 h_u4 h_r3 => ?_)) fq_none
  refine fq_if ?_ ?_
  · exact fq_ret h_u4 trivial
  · refine fq_if ?_ ?_
    · exact fq_ret h_u4 trivial
    · refine fq_if ?_ fq_none
      refine fq_bR h_u4 hP h_a0 (fun q5 h_q5 => ?_)
      refine fq_if ?_ fq_none
      refine fq_bR h_u4 hP h_q5 (fun q6 h_q6 => ?_)
      refine fq_if (fq_cl h_u4 (fr_X7_isPerson N q6 p1 u4 (hP.tr h_u4) h_q6 ) (fun r7 u8 h_u8 h_r7 => ?_)) fq_none
      refine fq_if ?_ ?_
      · exact fq_ret h_u8 trivial
      · exact fq_ret h_u8 trivial
set_option maxRecDepth 20000 in
theorem fr_X10_isPart {P : Nat → Prop} (N : Nat)   (p1 : Int32) (u : SG) : Cl P u → FQ P u (fun _ => True) (fX10_isPart N  p1 u) := by
  intro hP
  have h_u : Fr P u u := Fr.rf
  unfold fX10_isPart
  refine fq_if ?_ ?_
  · exact fq_ret h_u trivial
  · refine fq_if ?_ ?_
    · exact fq_ret h_u trivial
    · exact fq_ret h_u trivial
set_option maxRecDepth 20000 in
theorem fr_X10_debtorRow {P : Nat → Prop} (N : Nat)   (p1 : Int32) (u : SG) : Cl P u → FQ P u (fun _ => True) (fX10_debtorRow N  p1 u) := by
  intro hP
  have h_u : Fr P u u := Fr.rf
  unfold fX10_debtorRow
  refine fq_if ?_ ?_
  · exact fq_ret h_u trivial
  · exact fq_ret h_u trivial
set_option maxRecDepth 20000 in
theorem fr_J9_abs_067f4 {P : Nat → Prop} (N : Nat)   (p1 : Int64) (u : SG) : Cl P u → FQ P u (fun _ => True) (fJ9_abs_067f4 N  p1 u) := by
  intro hP
  have h_u : Fr P u u := Fr.rf
  unfold fJ9_abs_067f4
  refine fq_if ?_ ?_
  · exact fq_ret h_u trivial
  · exact fq_ret h_u trivial
set_option maxRecDepth 20000 in
theorem frgX10_fraction_48 {P : Nat → Prop} (N : Nat)     (x0 : Int64) (x2 : Int64) (x4 : Int32) (x5 : Int64) (u : SG) : Cl P u → FQ P u (fun _ => True) (gX10_fraction_48 N   x0 x2 x4 x5 u) := by
  intro hP
  have h_u : Fr P u u := Fr.rf
  unfold gX10_fraction_48
  refine fq_if ?_ ?_
  · exact fq_ret h_u trivial
  · refine fq_if ?_ ?_
    · refine fq_if fq_none ?_
      exact fq_ret h_u trivial
    · refine fq_if fq_none ?_
      exact fq_ret h_u trivial
set_option maxRecDepth 20000 in
theorem frgX10_fraction_12 {P : Nat → Prop} (N : Nat)     : ∀ (n : Nat) (x0 : Int64) (x2 : Int64) (x4 : Int32) (x5 : Int64) (x7 : Int64) (x9 : Int32) (u : SG), Cl P u → FQ P u (fun _ => True) (gX10_fraction_12 N   n x0 x2 x4 x5 x7 x9 u) := by
  intro n
  induction n with
  | zero => intros; intro r u9 h9; exact absurd h9 (by simp [gX10_fraction_12])
  | succ n ih =>
    intro x0 x2 x4 x5 x7 x9 u hP
    have hrec12 := ih
    have h_u : Fr P u u := Fr.rf
    rw [gX10_fraction_12]
    refine fq_if ?_ ?_
    · exact fq_tr h_u (frgX10_fraction_48 N   x0 x2 x4 x5 u (hP.tr h_u))
    · refine fq_if ?_ ?_
      · exact fq_tr h_u (frgX10_fraction_48 N   x0 x2 x4 x5 u (hP.tr h_u))
      · refine fq_if fq_none ?_
        refine fq_bs (fun v1 => ?_)
        exact fq_tr h_u (hrec12 x0 x2 x4 x7 v1 (x9 + (1 : Int32)) u (hP.tr h_u))
set_option maxRecDepth 20000 in
theorem fr_X10_fraction {P : Nat → Prop} (N : Nat)   (p1 : Int64) (p2 : Int64) (p3 : Int32) (u : SG) : Cl P u → FQ P u (fun _ => True) (fX10_fraction N  p1 p2 p3 u) := by
  intro hP
  have h_u : Fr P u u := Fr.rf
  unfold fX10_fraction
  refine fq_cl h_u (fr_J9_abs_067f4 N p1 u (hP.tr h_u) ) (fun r1 u2 h_u2 h_r1 => ?_)
  exact fq_tr h_u2 (frgX10_fraction_12 N   N p1 p2 p3 p2 r1 (0 : Int32) u2 (hP.tr h_u2))
set_option maxRecDepth 20000 in
theorem fr_X10_owed {P : Nat → Prop} (N : Nat)   (a0 : Nat) (p1 : Int32) (p2 : Int32) (u : SG) : Cl P u → P a0 → FQ P u (fun _ => True) (fX10_owed N  a0 p1 p2 u) := by
  intro hP h_a0
  have h_u : Fr P u u := Fr.rf
  unfold fX10_owed
  refine fq_if (fq_cl h_u (fr_X10_isDebtor N a0 p1 u (hP.tr h_u) h_a0 ) (fun r1 u2 h_u2 h_r1 => ?_)) fq_none
  refine fq_if ?_ ?_
  · exact fq_ret h_u2 trivial
  · refine fq_cl h_u2 (fr_X10_isPart N p2 u2 (hP.tr h_u2) ) (fun r3 u4 h_u4 h_r3 => ?_)
    refine fq_if ?_ ?_
    · exact fq_ret h_u4 trivial
    · refine fq_if ?_ fq_none
      refine fq_bR h_u4 hP h_a0 (fun q5 h_q5 => ?_)
      refine fq_if ?_ fq_none
      refine fq_bR h_u4 hP h_q5 (fun q6 h_q6 => ?_)
      refine fq_if ?_ fq_none
      refine fq_bR h_u4 hP h_q6 (fun q7 h_q7 => ?_)
      refine fq_cl h_u4 (fr_X10_debtorRow N p1 u4 (hP.tr h_u4) ) (fun r8 u9 h_u9 h_r8 => ?_)
      refine fq_if (fq_if fq_none ?_) fq_none
      refine fq_cl h_u9 (fr_X10_fraction N (zL u9 q7 r8.toNatClampNeg) (60 : Int64) p2 u9 (hP.tr h_u9) ) (fun r10 u11 h_u11 h_r10 => ?_)
      exact fq_ret h_u11 trivial
set_option maxRecDepth 20000 in
theorem frgX10_playTrial_2 {P : Nat → Prop} (N : Nat)     : ∀ (n : Nat) (x0 : Nat) (x1 : Int32) (x2 : Int32) (u : SG), Cl P u → P x0 → FQ P u (fun _ => True) (gX10_playTrial_2 N   n x0 x1 x2 u) := by
  intro n
  induction n with
  | zero => intros; intro r u9 h9; exact absurd h9 (by simp [gX10_playTrial_2])
  | succ n ih =>
    intro x0 x1 x2 u hP h_x0
    have hrec2 := ih
    have h_u : Fr P u u := Fr.rf
    rw [gX10_playTrial_2]
    refine fq_if ?_ ?_
    · exact fq_ret h_u trivial
    · refine fq_if ?_ fq_none
      refine fq_bR h_u hP h_x0 (fun q1 h_q1 => ?_)
      refine fq_if ?_ fq_none
      refine fq_bR h_u hP h_x0 (fun q2 h_q2 => ?_)
      refine fq_if ?_ fq_none
      refine fq_bR h_u hP h_q2 (fun q3 h_q3 => ?_)
      refine fq_if ?_ fq_none
      refine fq_bR h_u hP h_x0 (fun q4 h_q4 => ?_)
      refine fq_if (fq_cl h_u (fr_X10_ruleNow N x0  u (hP.tr h_u) h_x0 ) (fun r5 u6 h_u6 h_r5 => ?_)) fq_none
      refine fq_if (fq_cl h_u6 (fr_X3_play N q1 q3 q4 r5 u6 (hP.tr h_u6) h_q1 h_q3 h_q4 h_r5) (fun r7 u8 h_u8 h_r7 => ?_)) fq_none
      exact fq_tr h_u8 (hrec2 x0 x1 (x2 + (1 : Int32)) u8 (hP.tr h_u8) h_x0)
set_option maxRecDepth 20000 in
theorem fr_X10_playTrial {P : Nat → Prop} (N : Nat)   (a0 : Nat) (p1 : Int32) (u : SG) : Cl P u → P a0 → FQ P u (fun _ => True) (fX10_playTrial N  a0 p1 u) := by
  intro hP h_a0
  have h_u : Fr P u u := Fr.rf
  unfold fX10_playTrial
  exact fq_tr h_u (frgX10_playTrial_2 N   N a0 p1 (0 : Int32) u (hP.tr h_u) h_a0)
set_option maxRecDepth 20000 in
theorem fr_X10_ahead {P : Nat → Prop} (N : Nat)   (a0 : Nat) (p1 : Int32) (p2 : Int32) (p3 : Int32) (u : SG) : Cl P u → P a0 → FQ P u (fun _ => True) (fX10_ahead N  a0 p1 p2 p3 u) := by
  intro hP h_a0
  have h_u : Fr P u u := Fr.rf
  unfold fX10_ahead
  refine fq_if ?_ fq_none
  refine fq_bR h_u hP h_a0 (fun q1 h_q1 => ?_)
  refine fq_if ?_ fq_none
  refine fq_bR h_u hP h_q1 (fun q2 h_q2 => ?_)
  refine fq_if (fq_cl h_u (fr_X7_isPerson N q2 p1 u (hP.tr h_u) h_q2 ) (fun r3 u4 h_u4 h_r3 => ?_)) fq_none
  refine fq_if ?_ ?_
  · exact fq_ret h_u4 trivial
  · refine fq_if ?_ ?_
    · exact fq_ret h_u4 trivial
    · refine fq_if ?_ ?_
      · refine fq_if ?_ ?_
        · exact fq_ret h_u4 trivial
        · refine fq_if ?_ ?_
          · refine fq_if ?_ fq_none
            refine fq_bR h_u4 hP h_a0 (fun q5 h_q5 => ?_)
            refine fq_if ?_ fq_none
            refine fq_bR h_u4 hP h_a0 (fun q6 h_q6 => ?_)
            refine fq_if ?_ fq_none
            refine fq_bR h_u4 hP h_q6 (fun q7 h_q7 => ?_)
            refine fq_if (fq_cl h_u4 (fr_X2_copyOf N q5 q7 u4 (hP.tr h_u4) h_q5 h_q7) (fun r8 u9 h_u9 h_r8 => ?_)) fq_none
            refine fq_if (fq_cl h_u9 (fr_X10_playTrial N a0 p2 u9 (hP.tr h_u9) h_a0 ) (fun r10 u11 h_u11 h_r10 => ?_)) fq_none
            refine fq_if ?_ ?_
            · refine fq_if ?_ fq_none
              refine fq_bR h_u11 hP h_a0 (fun q16 h_q16 => ?_)
              refine fq_if ?_ fq_none
              refine fq_cl h_u11 (fr_X10_bitOf N (zI u11 q16 2) p1 u11 (hP.tr h_u11) ) (fun r17 u18 h_u18 h_r17 => ?_)
              exact fq_ret h_u18 trivial
            · refine fq_if ?_ ?_
              · refine fq_if ?_ fq_none
                refine fq_bR h_u11 hP h_a0 (fun q14 h_q14 => ?_)
                refine fq_if ?_ fq_none
                refine fq_bR h_u11 hP h_q14 (fun q15 h_q15 => ?_)
                refine fq_if (fq_if fq_none ?_) fq_none
                exact fq_ret h_u11 trivial
              · refine fq_if ?_ fq_none
                refine fq_bR h_u11 hP h_a0 (fun q12 h_q12 => ?_)
                refine fq_if ?_ fq_none
                refine fq_bR h_u11 hP h_q12 (fun q13 h_q13 => ?_)
                refine fq_if (fq_if fq_none ?_) fq_none
                exact fq_ret h_u11 trivial
          · exact fq_ret h_u4 trivial
      · exact fq_ret h_u4 trivial
set_option maxRecDepth 20000 in
theorem frgX10_cheapestHours_43 {P : Nat → Prop} (N : Nat)   (rec5 : Nat → Int32 → Int32 → Int32 → Int32 → SG → Option (Int32 × SG)) (rec17 : Nat → Int32 → Int32 → Int32 → Int32 → Int32 → Int32 → SG → Option (Int32 × SG)) (hrec5 : ∀ (x0 : Nat) (x1 : Int32) (x2 : Int32) (x3 : Int32) (x4 : Int32) (u : SG), Cl P u → P x0 → FQ P u (fun _ => True) (rec5 x0 x1 x2 x3 x4 u)) (hrec17 : ∀ (x0 : Nat) (x1 : Int32) (x2 : Int32) (x3 : Int32) (x4 : Int32) (x5 : Int32) (x6 : Int32) (u : SG), Cl P u → P x0 → FQ P u (fun _ => True) (rec17 x0 x1 x2 x3 x4 x5 x6 u)) (x0 : Nat) (x1 : Int32) (x2 : Int32) (x3 : Int32) (x4 : Int32) (x5 : Int32) (x6 : Int32) (s0 : Int32) (u : SG) : Cl P u → P x0 → FQ P u (fun _ => True) (gX10_cheapestHours_43 N  rec5 rec17 x0 x1 x2 x3 x4 x5 x6 s0 u) := by
  intro hP h_x0
  have h_u : Fr P u u := Fr.rf
  unfold gX10_cheapestHours_43
  refine fq_if ?_ ?_
  · exact fq_tr h_u (hrec17 x0 x1 x2 x3 x4 x5 (x6 + (1 : Int32)) u (hP.tr h_u) h_x0)
  · refine fq_if ?_ ?_
    · exact fq_tr h_u (hrec17 x0 x1 x2 x3 x4 x6 (x6 + (1 : Int32)) u (hP.tr h_u) h_x0)
    · refine fq_if ?_ fq_none
      refine fq_bR h_u hP h_x0 (fun q1 h_q1 => ?_)
      refine fq_if (fq_if fq_none ?_) fq_none
      refine fq_if ?_ fq_none
      refine fq_bR h_u hP h_x0 (fun q2 h_q2 => ?_)
      refine fq_if (fq_if fq_none ?_) fq_none
      refine fq_if ?_ ?_
      · exact fq_tr h_u (hrec17 x0 x1 x2 x3 x4 x5 (x6 + (1 : Int32)) u (hP.tr h_u) h_x0)
      · exact fq_tr h_u (hrec17 x0 x1 x2 x3 x4 x6 (x6 + (1 : Int32)) u (hP.tr h_u) h_x0)
set_option maxRecDepth 20000 in
theorem frgX10_cheapestHours_17 {P : Nat → Prop} (N : Nat)   (rec5 : Nat → Int32 → Int32 → Int32 → Int32 → SG → Option (Int32 × SG)) (hrec5 : ∀ (x0 : Nat) (x1 : Int32) (x2 : Int32) (x3 : Int32) (x4 : Int32) (u : SG), Cl P u → P x0 → FQ P u (fun _ => True) (rec5 x0 x1 x2 x3 x4 u)) : ∀ (n : Nat) (x0 : Nat) (x1 : Int32) (x2 : Int32) (x3 : Int32) (x4 : Int32) (x5 : Int32) (x6 : Int32) (u : SG), Cl P u → P x0 → FQ P u (fun _ => True) (gX10_cheapestHours_17 N  rec5 n x0 x1 x2 x3 x4 x5 x6 u) := by
  intro n
  induction n with
  | zero => intros; intro r u9 h9; exact absurd h9 (by simp [gX10_cheapestHours_17])
  | succ n ih =>
    intro x0 x1 x2 x3 x4 x5 x6 u hP h_x0
    have hrec17 := ih
    have h_u : Fr P u u := Fr.rf
    rw [gX10_cheapestHours_17]
    refine fq_if ?_ ?_
    · refine fq_if ?_ ?_
      · exact fq_tr h_u (hrec5 x0 x1 x2 x3 (x4 + (1 : Int32)) u (hP.tr h_u) h_x0)
      · refine fq_bs (fun v1 => ?_)
        exact fq_tr h_u (hrec5 x0 x1 x2 v1 (x4 + (1 : Int32)) u (hP.tr h_u) h_x0)
    · refine fq_cl h_u (fr_X10_bitOf N (x1 &&& (x3 ^^^ (-1 : Int32))) x6 u (hP.tr h_u) ) (fun r2 u3 h_u3 h_r2 => ?_)
      refine fq_if ?_ ?_
      · exact fq_tr h_u3 (frgX10_cheapestHours_43 N  _ _ hrec5 hrec17 x0 x1 x2 x3 x4 x5 x6 (1 : Int32) u3 (hP.tr h_u3) h_x0)
      · exact fq_tr h_u3 (frgX10_cheapestHours_43 N  _ _ hrec5 hrec17 x0 x1 x2 x3 x4 x5 x6 (0 : Int32) u3 (hP.tr h_u3) h_x0)
set_option maxRecDepth 20000 in
theorem frgX10_cheapestHours_5 {P : Nat → Prop} (N : Nat)     : ∀ (n : Nat) (x0 : Nat) (x1 : Int32) (x2 : Int32) (x3 : Int32) (x4 : Int32) (u : SG), Cl P u → P x0 → FQ P u (fun _ => True) (gX10_cheapestHours_5 N   n x0 x1 x2 x3 x4 u) := by
  intro n
  induction n with
  | zero => intros; intro r u9 h9; exact absurd h9 (by simp [gX10_cheapestHours_5])
  | succ n ih =>
    intro x0 x1 x2 x3 x4 u hP h_x0
    have hrec5 := ih
    have h_u : Fr P u u := Fr.rf
    rw [gX10_cheapestHours_5]
    refine fq_if ?_ ?_
    · exact fq_ret h_u trivial
    · exact fq_tr h_u (frgX10_cheapestHours_17 N  _ hrec5 N x0 x1 x2 x3 x4 (-1 : Int32) (0 : Int32) u (hP.tr h_u) h_x0)
set_option maxRecDepth 20000 in
theorem fr_X10_cheapestHours {P : Nat → Prop} (N : Nat)   (a0 : Nat) (p1 : Int32) (p2 : Int32) (u : SG) : Cl P u → P a0 → FQ P u (fun _ => True) (fX10_cheapestHours N  a0 p1 p2 u) := by
  intro hP h_a0
  have h_u : Fr P u u := Fr.rf
  unfold fX10_cheapestHours
  exact fq_tr h_u (frgX10_cheapestHours_5 N   N a0 p1 p2 (0 : Int32) (0 : Int32) u (hP.tr h_u) h_a0)
set_option maxRecDepth 20000 in
theorem frgX10_costOfHours_4 {P : Nat → Prop} (N : Nat)     : ∀ (n : Nat) (x0 : Nat) (x1 : Int32) (x2 : Int32) (x3 : Int32) (u : SG), Cl P u → P x0 → FQ P u (fun _ => True) (gX10_costOfHours_4 N   n x0 x1 x2 x3 u) := by
  intro n
  induction n with
  | zero => intros; intro r u9 h9; exact absurd h9 (by simp [gX10_costOfHours_4])
  | succ n ih =>
    intro x0 x1 x2 x3 u hP h_x0
    have hrec4 := ih
    have h_u : Fr P u u := Fr.rf
    rw [gX10_costOfHours_4]
    refine fq_if ?_ ?_
    · exact fq_ret h_u trivial
    · refine fq_cl h_u (fr_X10_bitOf N x1 x3 u (hP.tr h_u) ) (fun r1 u2 h_u2 h_r1 => ?_)
      refine fq_if ?_ ?_
      · refine fq_if ?_ fq_none
        refine fq_bR h_u2 hP h_x0 (fun q3 h_q3 => ?_)
        refine fq_if (fq_if fq_none ?_) fq_none
        refine fq_bs (fun v4 => ?_)
        exact fq_tr h_u2 (hrec4 x0 x1 v4 (x3 + (1 : Int32)) u2 (hP.tr h_u2) h_x0)
      · exact fq_tr h_u2 (hrec4 x0 x1 x2 (x3 + (1 : Int32)) u2 (hP.tr h_u2) h_x0)
set_option maxRecDepth 20000 in
theorem fr_X10_costOfHours {P : Nat → Prop} (N : Nat)   (a0 : Nat) (p1 : Int32) (u : SG) : Cl P u → P a0 → FQ P u (fun _ => True) (fX10_costOfHours N  a0 p1 u) := by
  intro hP h_a0
  have h_u : Fr P u u := Fr.rf
  unfold fX10_costOfHours
  exact fq_tr h_u (frgX10_costOfHours_4 N   N a0 p1 (0 : Int32) (0 : Int32) u (hP.tr h_u) h_a0)
set_option maxRecDepth 20000 in
theorem frgX10_sleepTogether_99 {P : Nat → Prop} (N : Nat)   (rec36 : Nat → Int32 → Int32 → Int32 → Nat → Int32 → Int32 → SG → Option (Int32 × SG)) (hrec36 : ∀ (x0 : Nat) (x1 : Int32) (x2 : Int32) (x3 : Int32) (x4 : Nat) (x5 : Int32) (x6 : Int32) (u : SG), Cl P u → P x0 → P x4 → FQ P u (fun _ => True) (rec36 x0 x1 x2 x3 x4 x5 x6 u)) (x0 : Nat) (x1 : Int32) (x2 : Int32) (x3 : Int32) (x4 : Nat) (x5 : Int32) (x6 : Int32) (s0 : Int32) (u : SG) : Cl P u → P x0 → P x4 → FQ P u (fun _ => True) (gX10_sleepTogether_99 N  rec36 x0 x1 x2 x3 x4 x5 x6 s0 u) := by
  intro hP h_x0 h_x4
  have h_u : Fr P u u := Fr.rf
  unfold gX10_sleepTogether_99
  refine fq_if ?_ ?_
  · exact fq_tr h_u (hrec36 x0 x1 x2 x3 x4 x5 (x6 + (1 : Int32)) u (hP.tr h_u) h_x0 h_x4)
  · refine fq_if (fq_cl h_u (fr_X7_workersAt N x4 x6 u (hP.tr h_u) h_x4 ) (fun r1 u2 h_u2 h_r1 => ?_)) fq_none
    refine fq_if ?_ ?_
    · refine fq_bs (fun v3 => ?_)
      exact fq_tr h_u2 (hrec36 x0 x1 x2 x3 x4 v3 (x6 + (1 : Int32)) u2 (hP.tr h_u2) h_x0 h_x4)
    · exact fq_tr h_u2 (hrec36 x0 x1 x2 x3 x4 x5 (x6 + (1 : Int32)) u2 (hP.tr h_u2) h_x0 h_x4)
set_option maxRecDepth 20000 in
theorem frgX10_sleepTogether_98 {P : Nat → Prop} (N : Nat)   (rec36 : Nat → Int32 → Int32 → Int32 → Nat → Int32 → Int32 → SG → Option (Int32 × SG)) (hrec36 : ∀ (x0 : Nat) (x1 : Int32) (x2 : Int32) (x3 : Int32) (x4 : Nat) (x5 : Int32) (x6 : Int32) (u : SG), Cl P u → P x0 → P x4 → FQ P u (fun _ => True) (rec36 x0 x1 x2 x3 x4 x5 x6 u)) (x0 : Nat) (x1 : Int32) (x2 : Int32) (x3 : Int32) (x4 : Nat) (x5 : Int32) (x6 : Int32) (u : SG) : Cl P u → P x0 → P x4 → FQ P u (fun _ => True) (gX10_sleepTogether_98 N  rec36 x0 x1 x2 x3 x4 x5 x6 u) := by
  intro hP h_x0 h_x4
  have h_u : Fr P u u := Fr.rf
  unfold gX10_sleepTogether_98
  exact fq_tr h_u (frgX10_sleepTogether_99 N  _ hrec36 x0 x1 x2 x3 x4 x5 x6 (0 : Int32) u (hP.tr h_u) h_x0 h_x4)
set_option maxRecDepth 20000 in
theorem frgX10_sleepTogether_36 {P : Nat → Prop} (N : Nat)     : ∀ (n : Nat) (x0 : Nat) (x1 : Int32) (x2 : Int32) (x3 : Int32) (x4 : Nat) (x5 : Int32) (x6 : Int32) (u : SG), Cl P u → P x0 → P x4 → FQ P u (fun _ => True) (gX10_sleepTogether_36 N   n x0 x1 x2 x3 x4 x5 x6 u) := by
  intro n
  induction n with
  | zero => intros; intro r u9 h9; exact absurd h9 (by simp [gX10_sleepTogether_36])
  | succ n ih =>
    intro x0 x1 x2 x3 x4 x5 x6 u hP h_x0 h_x4
    have hrec36 := ih
    have h_u : Fr P u u := Fr.rf
    rw [gX10_sleepTogether_36]
    refine fq_if ?_ ?_
    · refine fq_cl h_u (fr_J6_bitCount_0f7a4 N x5 u (hP.tr h_u) ) (fun r1 u2 h_u2 h_r1 => ?_)
      refine fq_if ?_ ?_
      · refine fq_if (fq_cl h_u2 (fr_X10_cheapestHours N x0 x5 x2 u2 (hP.tr h_u2) h_x0 ) (fun r3 u4 h_u4 h_r3 => ?_)) fq_none
        refine fq_if ?_ ?_
        · exact fq_ret h_u4 trivial
        · refine fq_if ?_ fq_none
          refine fq_bR h_u4 hP h_x0 (fun q5 h_q5 => ?_)
          refine fq_if ?_ fq_none
          refine fq_bR h_u4 hP h_q5 (fun q6 h_q6 => ?_)
          refine fq_if ?_ fq_none
          refine fq_cl h_u4 (fr_J6_bitCount_0f7a4 N ((zI u4 q6 2) ||| x1) u4 (hP.tr h_u4) ) (fun r7 u8 h_u8 h_r7 => ?_)
          refine fq_if (fq_cl h_u8 (fr_X10_costOfHours N x0 r3 u8 (hP.tr h_u8) h_x0 ) (fun r9 u10 h_u10 h_r9 => ?_)) fq_none
          refine fq_cl h_u10 (fr_J6_bitCount_0f7a4 N x1 u10 (hP.tr h_u10) ) (fun r11 u12 h_u12 h_r11 => ?_)
          refine fq_cl h_u12 (fr_X10_fraction N (r9.toInt64 * r11.toInt64) r7.toInt64 (x3 - (1 : Int32)) u12 (hP.tr h_u12) ) (fun r13 u14 h_u14 h_r13 => ?_)
          exact fq_ret h_u14 trivial
      · exact fq_ret h_u2 trivial
    · refine fq_if ?_ fq_none
      refine fq_bR h_u hP h_x0 (fun q15 h_q15 => ?_)
      refine fq_if ?_ fq_none
      refine fq_bR h_u hP h_x0 (fun q16 h_q16 => ?_)
      refine fq_if ?_ fq_none
      refine fq_bR h_u hP h_q16 (fun q17 h_q17 => ?_)
      refine fq_if (fq_cl h_u (fr_X2_burningAt N q17 x4 x6 u (hP.tr h_u) h_q17 h_x4) (fun r18 u19 h_u19 h_r18 => ?_)) fq_none
      refine fq_if (fq_cl h_u19 (fr_X7_costOf N x4 r18 u19 (hP.tr h_u19) h_x4 ) (fun r20 u21 h_u21 h_r20 => ?_)) fq_none
      refine fq_if (fq_if fq_none (fq_sI h_u21 h_q15 (fun u22 h_u22 => ?_))) fq_none
      refine fq_if ?_ fq_none
      refine fq_bR h_u22 hP h_x0 (fun q23 h_q23 => ?_)
      refine fq_if ?_ fq_none
      refine fq_bR h_u22 hP h_q23 (fun q24 h_q24 => ?_)
      refine fq_if ?_ fq_none
      refine fq_if ?_ ?_
      · exact fq_tr h_u22 (frgX10_sleepTogether_98 N  _ hrec36 x0 x1 x2 x3 x4 x5 x6 u22 (hP.tr h_u22) h_x0 h_x4)
      · refine fq_if ?_ fq_none
        refine fq_if ?_ ?_
        · exact fq_tr h_u22 (frgX10_sleepTogether_98 N  _ hrec36 x0 x1 x2 x3 x4 x5 x6 u22 (hP.tr h_u22) h_x0 h_x4)
        · exact fq_tr h_u22 (frgX10_sleepTogether_99 N  _ hrec36 x0 x1 x2 x3 x4 x5 x6 (1 : Int32) u22 (hP.tr h_u22) h_x0 h_x4)
set_option maxRecDepth 20000 in
theorem fr_X10_sleepTogether {P : Nat → Prop} (N : Nat)   (a0 : Nat) (p1 : Int32) (p2 : Int32) (p3 : Int32) (u : SG) : Cl P u → P a0 → FQ P u (fun _ => True) (fX10_sleepTogether N  a0 p1 p2 p3 u) := by
  intro hP h_a0
  have h_u : Fr P u u := Fr.rf
  unfold fX10_sleepTogether
  refine fq_if ?_ ?_
  · exact fq_ret h_u trivial
  · refine fq_if ?_ ?_
    · exact fq_ret h_u trivial
    · refine fq_if ?_ ?_
      · exact fq_ret h_u trivial
      · refine fq_if ?_ ?_
        · refine fq_if ?_ fq_none
          refine fq_bR h_u hP h_a0 (fun q1 h_q1 => ?_)
          refine fq_if ?_ fq_none
          refine fq_bR h_u hP h_q1 (fun q2 h_q2 => ?_)
          exact fq_tr h_u (frgX10_sleepTogether_36 N   N a0 p1 p2 p3 q2 (0 : Int32) (0 : Int32) u (hP.tr h_u) h_a0 h_q2)
        · exact fq_ret h_u trivial
set_option maxRecDepth 20000 in
theorem fr_X10_cheap {P : Nat → Prop} (N : Nat)   (a0 : Nat) (p1 : Int32) (p2 : Int32) (p3 : Int32) (u : SG) : Cl P u → P a0 → FQ P u (fun _ => True) (fX10_cheap N  a0 p1 p2 p3 u) := by
  intro hP h_a0
  have h_u : Fr P u u := Fr.rf
  unfold fX10_cheap
  refine fq_if ?_ fq_none
  refine fq_bR h_u hP h_a0 (fun q1 h_q1 => ?_)
  refine fq_if ?_ fq_none
  refine fq_bR h_u hP h_q1 (fun q2 h_q2 => ?_)
  refine fq_if (fq_cl h_u (fr_X7_isPerson N q2 p1 u (hP.tr h_u) h_q2 ) (fun r3 u4 h_u4 h_r3 => ?_)) fq_none
  refine fq_if ?_ ?_
  · exact fq_ret h_u4 trivial
  · refine fq_if (fq_cl h_u4 (fr_X10_sleepTogether N a0 ((1 : Int32) <<< (p1 &&& 31)) p2 p3 u4 (hP.tr h_u4) h_a0 ) (fun r5 u6 h_u6 h_r5 => ?_)) fq_none
    exact fq_ret h_u6 trivial
set_option maxRecDepth 20000 in
theorem frgX10_isAtRest_9 {P : Nat → Prop} (N : Nat)     : ∀ (n : Nat) (x0 : Nat) (x1 : Int32) (x2 : Int32) (x3 : Int32) (x4 : Int32) (x5 : Int32) (u : SG), Cl P u → P x0 → FQ P u (fun _ => True) (gX10_isAtRest_9 N   n x0 x1 x2 x3 x4 x5 u) := by
  intro n
  induction n with
  | zero => intros; intro r u9 h9; exact absurd h9 (by simp [gX10_isAtRest_9])
  | succ n ih =>
    intro x0 x1 x2 x3 x4 x5 u hP h_x0
    have hrec9 := ih
    have h_u : Fr P u u := Fr.rf
    rw [gX10_isAtRest_9]
    refine fq_if ?_ fq_none
    refine fq_bR h_u hP h_x0 (fun q1 h_q1 => ?_)
    refine fq_if ?_ fq_none
    refine fq_bR h_u hP h_q1 (fun q2 h_q2 => ?_)
    refine fq_if ?_ fq_none
    refine fq_if ?_ ?_
    · exact fq_ret h_u trivial
    · refine fq_if ?_ fq_none
      refine fq_bR h_u hP h_x0 (fun q3 h_q3 => ?_)
      refine fq_if ?_ fq_none
      refine fq_bR h_u hP h_q3 (fun q4 h_q4 => ?_)
      refine fq_if ?_ fq_none
      refine fq_bR h_u hP h_q4 (fun q5 h_q5 => ?_)
      refine fq_if (fq_if fq_none ?_) fq_none
      refine fq_bs (fun v6 => ?_)
      refine fq_cl h_u (fr_X10_bitOf N x1 x5 u (hP.tr h_u) ) (fun r7 u8 h_u8 h_r7 => ?_)
      refine fq_if ?_ ?_
      · refine fq_if ?_ ?_
        · exact fq_tr h_u8 (hrec9 x0 x1 x2 x3 x4 (x5 + (1 : Int32)) u8 (hP.tr h_u8) h_x0)
        · exact fq_ret h_u8 trivial
      · refine fq_cl h_u8 (fr_X10_bitOf N x2 x5 u8 (hP.tr h_u8) ) (fun r9 u10 h_u10 h_r9 => ?_)
        refine fq_if ?_ ?_
        · refine fq_if ?_ ?_
          · exact fq_tr h_u10 (hrec9 x0 x1 x2 x3 x4 (x5 + (1 : Int32)) u10 (hP.tr h_u10) h_x0)
          · exact fq_ret h_u10 trivial
        · exact fq_tr h_u10 (hrec9 x0 x1 x2 x3 x4 (x5 + (1 : Int32)) u10 (hP.tr h_u10) h_x0)
set_option maxRecDepth 20000 in
theorem fr_X10_isAtRest {P : Nat → Prop} (N : Nat)   (a0 : Nat) (p1 : Int32) (p2 : Int32) (p3 : Int32) (u : SG) : Cl P u → P a0 → FQ P u (fun _ => True) (fX10_isAtRest N  a0 p1 p2 p3 u) := by
  intro hP h_a0
  have h_u : Fr P u u := Fr.rf
  unfold fX10_isAtRest
  refine fq_cl h_u (fr_J6_bitCount_0f7a4 N p1 u (hP.tr h_u) ) (fun r1 u2 h_u2 h_r1 => ?_)
  exact fq_tr h_u2 (frgX10_isAtRest_9 N   N a0 p1 p2 p3 r1 (0 : Int32) u2 (hP.tr h_u2) h_a0)
set_option maxRecDepth 20000 in
theorem frgX10_rest_71 {P : Nat → Prop} (N : Nat)     : ∀ (n : Nat) (x0 : Nat) (x1 : Int32) (x2 : Int32) (x3 : Int32) (x4 : Int32) (x5 : Int32) (x6 : Int32) (x7 : Int32) (u : SG), Cl P u → P x0 → FQ P u (fun _ => True) (gX10_rest_71 N   n x0 x1 x2 x3 x4 x5 x6 x7 u) := by
  intro n
  induction n with
  | zero => intros; intro r u9 h9; exact absurd h9 (by simp [gX10_rest_71])
  | succ n ih =>
    intro x0 x1 x2 x3 x4 x5 x6 x7 u hP h_x0
    have hrec71 := ih
    have h_u : Fr P u u := Fr.rf
    rw [gX10_rest_71]
    refine fq_if ?_ ?_
    · refine fq_if ?_ ?_
      · exact fq_ret h_u trivial
      · refine fq_if ?_ ?_
        · exact fq_ret h_u trivial
        · exact fq_ret h_u trivial
    · refine fq_if ?_ ?_
      · refine fq_if (fq_cl h_u (fr_X10_isAtRest N x0 x7 x2 x3 u (hP.tr h_u) h_x0 ) (fun r1 u2 h_u2 h_r1 => ?_)) fq_none
        refine fq_if ?_ ?_
        · exact fq_tr h_u2 (hrec71 x0 x1 x2 x3 x4 x5 x6 (x7 + (1 : Int32)) u2 (hP.tr h_u2) h_x0)
        · refine fq_if ?_ ?_
          · exact fq_tr h_u2 (hrec71 x0 x1 x2 x3 (x4 + (1 : Int32)) x7 x7 (x7 + (1 : Int32)) u2 (hP.tr h_u2) h_x0)
          · exact fq_tr h_u2 (hrec71 x0 x1 x2 x3 (x4 + (1 : Int32)) x5 x7 (x7 + (1 : Int32)) u2 (hP.tr h_u2) h_x0)
      · exact fq_tr h_u (hrec71 x0 x1 x2 x3 x4 x5 x6 (x7 + (1 : Int32)) u (hP.tr h_u) h_x0)
set_option maxRecDepth 20000 in
theorem fr_X10_rest {P : Nat → Prop} (N : Nat)   (a0 : Nat) (p1 : Int32) (u : SG) : Cl P u → P a0 → FQ P u (fun _ => True) (fX10_rest N  a0 p1 u) := by
  intro hP h_a0
  have h_u : Fr P u u := Fr.rf
  unfold fX10_rest
  refine fq_if ?_ fq_none
  refine fq_bR h_u hP h_a0 (fun q1 h_q1 => ?_)
  refine fq_if ?_ fq_none
  refine fq_bR h_u hP h_q1 (fun q2 h_q2 => ?_)
  refine fq_if (fq_cl h_u (fr_X7_isTold N q2  u (hP.tr h_u) h_q2 ) (fun r3 u4 h_u4 h_r3 => ?_)) fq_none
  refine fq_if ?_ ?_
  · exact fq_ret h_u4 trivial
  · refine fq_if ?_ ?_
    · exact fq_ret h_u4 trivial
    · refine fq_if ?_ ?_
      · refine fq_if ?_ fq_none
        refine fq_bR h_u4 hP h_a0 (fun q5 h_q5 => ?_)
        refine fq_if ?_ fq_none
        refine fq_bR h_u4 hP h_q5 (fun q6 h_q6 => ?_)
        refine fq_if (fq_cl h_u4 (fr_X7_everyone N q6  u4 (hP.tr h_u4) h_q6 ) (fun r7 u8 h_u8 h_r7 => ?_)) fq_none
        refine fq_if (fq_cl h_u8 (fr_X10_workersNow N a0  u8 (hP.tr h_u8) h_a0 ) (fun r9 u10 h_u10 h_r9 => ?_)) fq_none
        refine fq_bs (fun v11 => ?_)
        refine fq_if ?_ fq_none
        refine fq_bR h_u10 hP h_a0 (fun q12 h_q12 => ?_)
        refine fq_if ?_ fq_none
        refine fq_bR h_u10 hP h_q12 (fun q13 h_q13 => ?_)
        refine fq_if (fq_cl h_u10 (fr_X10_burningNow N a0  u10 (hP.tr h_u10) h_a0 ) (fun r14 u15 h_u15 h_r14 => ?_)) fq_none
        refine fq_if (fq_cl h_u15 (fr_X7_costOf N q13 r14 u15 (hP.tr h_u15) h_q13 ) (fun r16 u17 h_u17 h_r16 => ?_)) fq_none
        exact fq_tr h_u17 (frgX10_rest_71 N   N a0 p1 v11 r16 (0 : Int32) (-2 : Int32) (-2 : Int32) (0 : Int32) u17 (hP.tr h_u17) h_a0)
      · exact fq_ret h_u4 trivial
set_option maxRecDepth 20000 in
theorem frgX10_allCouldSleep_63 {P : Nat → Prop} (N : Nat)   (rec33 : Nat → Int32 → Int32 → Int32 → SG → Option (Int32 × SG)) (hrec33 : ∀ (x0 : Nat) (x2 : Int32) (x3 : Int32) (x4 : Int32) (u : SG), Cl P u → P x0 → FQ P u (fun _ => True) (rec33 x0 x2 x3 x4 u)) (x0 : Nat) (x2 : Int32) (x3 : Int32) (x4 : Int32) (s0 : Int32) (u : SG) : Cl P u → P x0 → FQ P u (fun _ => True) (gX10_allCouldSleep_63 N  rec33 x0 x2 x3 x4 s0 u) := by
  intro hP h_x0
  have h_u : Fr P u u := Fr.rf
  unfold gX10_allCouldSleep_63
  refine fq_if ?_ ?_
  · exact fq_tr h_u (hrec33 x0 x2 x3 (x4 + (1 : Int32)) u (hP.tr h_u) h_x0)
  · refine fq_if ?_ fq_none
    refine fq_bR h_u hP h_x0 (fun q1 h_q1 => ?_)
    refine fq_if ?_ fq_none
    refine fq_bR h_u hP h_q1 (fun q2 h_q2 => ?_)
    refine fq_if ?_ fq_none
    refine fq_bR h_u hP h_q2 (fun q3 h_q3 => ?_)
    refine fq_if (fq_if fq_none ?_) fq_none
    refine fq_cl h_u (fr_J6_bitCount_0f7a4 N x2 u (hP.tr h_u) ) (fun r4 u5 h_u5 h_r4 => ?_)
    refine fq_if ?_ ?_
    · exact fq_tr h_u5 (hrec33 x0 x2 x3 (x4 + (1 : Int32)) u5 (hP.tr h_u5) h_x0)
    · exact fq_ret h_u5 trivial
set_option maxRecDepth 20000 in
theorem frgX10_allCouldSleep_33 {P : Nat → Prop} (N : Nat)     : ∀ (n : Nat) (x0 : Nat) (x2 : Int32) (x3 : Int32) (x4 : Int32) (u : SG), Cl P u → P x0 → FQ P u (fun _ => True) (gX10_allCouldSleep_33 N   n x0 x2 x3 x4 u) := by
  intro n
  induction n with
  | zero => intros; intro r u9 h9; exact absurd h9 (by simp [gX10_allCouldSleep_33])
  | succ n ih =>
    intro x0 x2 x3 x4 u hP h_x0
    have hrec33 := ih
    have h_u : Fr P u u := Fr.rf
    rw [gX10_allCouldSleep_33]
    refine fq_if ?_ fq_none
    refine fq_bR h_u hP h_x0 (fun q1 h_q1 => ?_)
    refine fq_if ?_ fq_none
    refine fq_bR h_u hP h_q1 (fun q2 h_q2 => ?_)
    refine fq_if ?_ fq_none
    refine fq_if ?_ ?_
    · exact fq_ret h_u trivial
    · refine fq_cl h_u (fr_X10_bitOf N x2 x4 u (hP.tr h_u) ) (fun r3 u4 h_u4 h_r3 => ?_)
      refine fq_if ?_ ?_
      · exact fq_tr h_u4 (frgX10_allCouldSleep_63 N  _ hrec33 x0 x2 x3 x4 (1 : Int32) u4 (hP.tr h_u4) h_x0)
      · exact fq_tr h_u4 (frgX10_allCouldSleep_63 N  _ hrec33 x0 x2 x3 x4 (0 : Int32) u4 (hP.tr h_u4) h_x0)
set_option maxRecDepth 20000 in
theorem fr_X10_allCouldSleep {P : Nat → Prop} (N : Nat)   (a0 : Nat) (p1 : Int32) (u : SG) : Cl P u → P a0 → FQ P u (fun _ => True) (fX10_allCouldSleep N  a0 p1 u) := by
  intro hP h_a0
  have h_u : Fr P u u := Fr.rf
  unfold fX10_allCouldSleep
  refine fq_if ?_ fq_none
  refine fq_bR h_u hP h_a0 (fun q1 h_q1 => ?_)
  refine fq_if ?_ fq_none
  refine fq_bR h_u hP h_q1 (fun q2 h_q2 => ?_)
  refine fq_if (fq_cl h_u (fr_X7_everyone N q2  u (hP.tr h_u) h_q2 ) (fun r3 u4 h_u4 h_r3 => ?_)) fq_none
  refine fq_if (fq_cl h_u4 (fr_X10_workersNow N a0  u4 (hP.tr h_u4) h_a0 ) (fun r5 u6 h_u6 h_r5 => ?_)) fq_none
  refine fq_bs (fun v7 => ?_)
  refine fq_if ?_ fq_none
  refine fq_bR h_u6 hP h_a0 (fun q8 h_q8 => ?_)
  refine fq_if ?_ fq_none
  refine fq_bR h_u6 hP h_q8 (fun q9 h_q9 => ?_)
  refine fq_if (fq_cl h_u6 (fr_X7_costOf N q9 p1 u6 (hP.tr h_u6) h_q9 ) (fun r10 u11 h_u11 h_r10 => ?_)) fq_none
  exact fq_tr h_u11 (frgX10_allCouldSleep_33 N   N a0 v7 r10 (0 : Int32) u11 (hP.tr h_u11) h_a0)
set_option maxRecDepth 20000 in
theorem frgX10_dark_57 {P : Nat → Prop} (N : Nat)   (rec34 : Nat → Int32 → Int32 → Int32 → Int32 → SG → Option (Int32 × SG)) (hrec34 : ∀ (x0 : Nat) (x1 : Int32) (x2 : Int32) (x3 : Int32) (x4 : Int32) (u : SG), Cl P u → P x0 → FQ P u (fun _ => True) (rec34 x0 x1 x2 x3 x4 u)) (x0 : Nat) (x1 : Int32) (x2 : Int32) (x3 : Int32) (x4 : Int32) (s0 : Int32) (u : SG) : Cl P u → P x0 → FQ P u (fun _ => True) (gX10_dark_57 N  rec34 x0 x1 x2 x3 x4 s0 u) := by
  intro hP h_x0
  have h_u : Fr P u u := Fr.rf
  unfold gX10_dark_57
  refine fq_if ?_ ?_
  · refine fq_if ?_ ?_
    · exact fq_tr h_u (hrec34 x0 x1 x2 x3 (x4 + (1 : Int32)) u (hP.tr h_u) h_x0)
    · refine fq_if (fq_cl h_u (fr_X10_allCouldSleep N x0 (x2 &&& (x4 ^^^ (-1 : Int32))) u (hP.tr h_u) h_x0 ) (fun r1 u2 h_u2 h_r1 => ?_)) fq_none
      refine fq_if ?_ ?_
      · exact fq_tr h_u2 (hrec34 x0 x1 x2 x3 (x4 + (1 : Int32)) u2 (hP.tr h_u2) h_x0)
      · exact fq_tr h_u2 (hrec34 x0 x1 x2 x4 (x4 + (1 : Int32)) u2 (hP.tr h_u2) h_x0)
  · exact fq_tr h_u (hrec34 x0 x1 x2 x3 (x4 + (1 : Int32)) u (hP.tr h_u) h_x0)
set_option maxRecDepth 20000 in
theorem frgX10_dark_34 {P : Nat → Prop} (N : Nat)     : ∀ (n : Nat) (x0 : Nat) (x1 : Int32) (x2 : Int32) (x3 : Int32) (x4 : Int32) (u : SG), Cl P u → P x0 → FQ P u (fun _ => True) (gX10_dark_34 N   n x0 x1 x2 x3 x4 u) := by
  intro n
  induction n with
  | zero => intros; intro r u9 h9; exact absurd h9 (by simp [gX10_dark_34])
  | succ n ih =>
    intro x0 x1 x2 x3 x4 u hP h_x0
    have hrec34 := ih
    have h_u : Fr P u u := Fr.rf
    rw [gX10_dark_34]
    refine fq_if ?_ ?_
    · refine fq_if ?_ ?_
      · refine fq_cl h_u (fr_J6_bitCount_0f7a4 N x3 u (hP.tr h_u) ) (fun r1 u2 h_u2 h_r1 => ?_)
        exact fq_ret h_u2 trivial
      · exact fq_ret h_u trivial
    · refine fq_cl h_u (fr_J6_bitCount_0f7a4 N x4 u (hP.tr h_u) ) (fun r3 u4 h_u4 h_r3 => ?_)
      refine fq_cl h_u4 (fr_J6_bitCount_0f7a4 N x3 u4 (hP.tr h_u4) ) (fun r5 u6 h_u6 h_r5 => ?_)
      refine fq_if ?_ ?_
      · exact fq_tr h_u6 (frgX10_dark_57 N  _ hrec34 x0 x1 x2 x3 x4 (0 : Int32) u6 (hP.tr h_u6) h_x0)
      · exact fq_tr h_u6 (frgX10_dark_57 N  _ hrec34 x0 x1 x2 x3 x4 (1 : Int32) u6 (hP.tr h_u6) h_x0)
set_option maxRecDepth 20000 in
theorem fr_X10_dark {P : Nat → Prop} (N : Nat)   (a0 : Nat) (p1 : Int32) (u : SG) : Cl P u → P a0 → FQ P u (fun _ => True) (fX10_dark N  a0 p1 u) := by
  intro hP h_a0
  have h_u : Fr P u u := Fr.rf
  unfold fX10_dark
  refine fq_if ?_ fq_none
  refine fq_bR h_u hP h_a0 (fun q1 h_q1 => ?_)
  refine fq_if ?_ fq_none
  refine fq_bR h_u hP h_q1 (fun q2 h_q2 => ?_)
  refine fq_if (fq_cl h_u (fr_X7_isTold N q2  u (hP.tr h_u) h_q2 ) (fun r3 u4 h_u4 h_r3 => ?_)) fq_none
  refine fq_if ?_ ?_
  · exact fq_ret h_u4 trivial
  · refine fq_if ?_ ?_
    · exact fq_ret h_u4 trivial
    · refine fq_if ?_ ?_
      · refine fq_if (fq_cl h_u4 (fr_X10_burningNow N a0  u4 (hP.tr h_u4) h_a0 ) (fun r5 u6 h_u6 h_r5 => ?_)) fq_none
        exact fq_tr h_u6 (frgX10_dark_34 N   N a0 p1 r5 r5 (0 : Int32) u6 (hP.tr h_u6) h_a0)
      · exact fq_ret h_u4 trivial
set_option maxRecDepth 20000 in
theorem fr_X10_guild {P : Nat → Prop} (N : Nat)   (a0 : Nat) (p1 : Int32) (p2 : Int32) (p3 : Int32) (u : SG) : Cl P u → P a0 → FQ P u (fun _ => True) (fX10_guild N  a0 p1 p2 p3 u) := by
  intro hP h_a0
  have h_u : Fr P u u := Fr.rf
  unfold fX10_guild
  refine fq_if ?_ fq_none
  refine fq_bR h_u hP h_a0 (fun q1 h_q1 => ?_)
  refine fq_if ?_ fq_none
  refine fq_bR h_u hP h_q1 (fun q2 h_q2 => ?_)
  refine fq_if (fq_cl h_u (fr_X7_isTold N q2  u (hP.tr h_u) h_q2 ) (fun r3 u4 h_u4 h_r3 => ?_)) fq_none
  refine fq_if ?_ ?_
  · exact fq_ret h_u4 trivial
  · refine fq_if ?_ ?_
    · exact fq_ret h_u4 trivial
    · refine fq_if ?_ fq_none
      refine fq_bR h_u4 hP h_a0 (fun q5 h_q5 => ?_)
      refine fq_if ?_ fq_none
      refine fq_bR h_u4 hP h_q5 (fun q6 h_q6 => ?_)
      refine fq_if (fq_cl h_u4 (fr_X7_everyone N q6  u4 (hP.tr h_u4) h_q6 ) (fun r7 u8 h_u8 h_r7 => ?_)) fq_none
      refine fq_if ?_ ?_
      · refine fq_if (fq_cl h_u8 (fr_X10_sleepTogether N a0 p1 p2 p3 u8 (hP.tr h_u8) h_a0 ) (fun r9 u10 h_u10 h_r9 => ?_)) fq_none
        exact fq_ret h_u10 trivial
      · exact fq_ret h_u8 trivial
set_option maxRecDepth 20000 in
theorem frgX10_isFact_40 {P : Nat → Prop} (N : Nat)     (x0 : Nat) (x2 : Int32) (u : SG) : Cl P u → P x0 → FQ P u (fun _ => True) (gX10_isFact_40 N   x0 x2 u) := by
  intro hP h_x0
  have h_u : Fr P u u := Fr.rf
  unfold gX10_isFact_40
  refine fq_if ?_ fq_none
  refine fq_bR h_u hP h_x0 (fun q1 h_q1 => ?_)
  refine fq_if ?_ fq_none
  refine fq_bR h_u hP h_q1 (fun q2 h_q2 => ?_)
  refine fq_if (fq_cl h_u (fr_X7_isPerson N q2 x2 u (hP.tr h_u) h_q2 ) (fun r3 u4 h_u4 h_r3 => ?_)) fq_none
  exact fq_if (fq_ret h_u4 trivial) fq_none
set_option maxRecDepth 20000 in
theorem frgX10_isFact_52 {P : Nat → Prop} (N : Nat)     (x2 : Int32) (u : SG) : Cl P u → FQ P u (fun _ => True) (gX10_isFact_52 N   x2 u) := by
  intro hP
  have h_u : Fr P u u := Fr.rf
  unfold gX10_isFact_52
  refine fq_if ?_ ?_
  · exact fq_ret h_u trivial
  · refine fq_if ?_ ?_
    · exact fq_ret h_u trivial
    · exact fq_ret h_u trivial
set_option maxRecDepth 20000 in
theorem frgX10_isFact_67 {P : Nat → Prop} (N : Nat)     (x0 : Nat) (x2 : Int32) (x3 : Int32) (x4 : Int32) (u : SG) : Cl P u → P x0 → FQ P u (fun _ => True) (gX10_isFact_67 N   x0 x2 x3 x4 u) := by
  intro hP h_x0
  have h_u : Fr P u u := Fr.rf
  unfold gX10_isFact_67
  refine fq_if ?_ fq_none
  refine fq_bR h_u hP h_x0 (fun q1 h_q1 => ?_)
  refine fq_if ?_ fq_none
  refine fq_bR h_u hP h_q1 (fun q2 h_q2 => ?_)
  refine fq_if (fq_cl h_u (fr_X7_isPerson N q2 x2 u (hP.tr h_u) h_q2 ) (fun r3 u4 h_u4 h_r3 => ?_)) fq_none
  refine fq_if ?_ ?_
  · exact fq_ret h_u4 trivial
  · refine fq_if ?_ ?_
    · exact fq_ret h_u4 trivial
    · refine fq_if ?_ ?_
      · exact fq_ret h_u4 trivial
      · refine fq_if ?_ ?_
        · exact fq_ret h_u4 trivial
        · refine fq_if ?_ ?_
          · exact fq_ret h_u4 trivial
          · exact fq_ret h_u4 trivial
set_option maxRecDepth 20000 in
theorem fr_X10_isFact {P : Nat → Prop} (N : Nat)   (a0 : Nat) (p1 : Int32) (p2 : Int32) (p3 : Int32) (p4 : Int32) (u : SG) : Cl P u → P a0 → FQ P u (fun _ => True) (fX10_isFact N  a0 p1 p2 p3 p4 u) := by
  intro hP h_a0
  have h_u : Fr P u u := Fr.rf
  unfold fX10_isFact
  refine fq_if ?_ ?_
  · exact fq_tr h_u (frgX10_isFact_40 N   a0 p2 u (hP.tr h_u) h_a0)
  refine fq_if ?_ ?_
  · exact fq_tr h_u (frgX10_isFact_40 N   a0 p2 u (hP.tr h_u) h_a0)
  refine fq_if ?_ ?_
  · exact fq_tr h_u (frgX10_isFact_52 N   p2 u (hP.tr h_u))
  refine fq_if ?_ ?_
  · exact fq_tr h_u (frgX10_isFact_52 N   p2 u (hP.tr h_u))
  refine fq_if ?_ ?_
  · exact fq_tr h_u (frgX10_isFact_67 N   a0 p2 p3 p4 u (hP.tr h_u) h_a0)
  refine fq_if ?_ ?_
  · exact fq_tr h_u (frgX10_isFact_67 N   a0 p2 p3 p4 u (hP.tr h_u) h_a0)
  exact fq_ret h_u trivial
set_option maxRecDepth 20000 in
theorem fr_X10_fact {P : Nat → Prop} (N : Nat)   (a0 : Nat) (p1 : Int32) (p2 : Int32) (p3 : Int32) (p4 : Int32) (u : SG) : Cl P u → P a0 → FQ P u (fun _ => True) (fX10_fact N  a0 p1 p2 p3 p4 u) := by
  intro hP h_a0
  have h_u : Fr P u u := Fr.rf
  unfold fX10_fact
  refine fq_if ?_ ?_
  · refine fq_if ?_ fq_none
    refine fq_bR h_u hP h_a0 (fun q13 h_q13 => ?_)
    refine fq_if ?_ fq_none
    refine fq_bR h_u hP h_q13 (fun q14 h_q14 => ?_)
    refine fq_if (fq_cl h_u (fr_X1_clear N q14  u (hP.tr h_u) h_q14 ) (fun r15 u16 h_u16 h_r15 => ?_)) fq_none
    exact fq_ret h_u16 trivial
  · refine fq_if ?_ fq_none
    refine fq_bR h_u hP h_a0 (fun q1 h_q1 => ?_)
    refine fq_if ?_ fq_none
    refine fq_bR h_u hP h_q1 (fun q2 h_q2 => ?_)
    refine fq_if (fq_cl h_u (fr_X7_isTold N q2  u (hP.tr h_u) h_q2 ) (fun r3 u4 h_u4 h_r3 => ?_)) fq_none
    refine fq_if ?_ ?_
    · exact fq_ret h_u4 trivial
    · refine fq_if (fq_cl h_u4 (fr_X10_isFact N a0 p1 p2 p3 p4 u4 (hP.tr h_u4) h_a0 ) (fun r5 u6 h_u6 h_r5 => ?_)) fq_none
      refine fq_if ?_ ?_
      · exact fq_ret h_u6 trivial
      · refine fq_if ?_ fq_none
        refine fq_bR h_u6 hP h_a0 (fun q7 h_q7 => ?_)
        refine fq_if ?_ fq_none
        refine fq_bR h_u6 hP h_q7 (fun q8 h_q8 => ?_)
        refine fq_if (fq_cl h_u6 (fr_X1_add N q8 p1 p2 p3 p4 u6 (hP.tr h_u6) h_q8 ) (fun r9 u10 h_u10 h_r9 => ?_)) fq_none
        refine fq_if ?_ ?_
        · exact fq_ret h_u10 trivial
        · refine fq_if ?_ fq_none
          refine fq_bR h_u10 hP h_a0 (fun q11 h_q11 => ?_)
          refine fq_if ?_ fq_none
          refine fq_bR h_u10 hP h_q11 (fun q12 h_q12 => ?_)
          refine fq_if ?_ fq_none
          exact fq_ret h_u10 trivial
set_option maxRecDepth 20000 in
theorem frgX10_setsWith_4 {P : Nat → Prop} (N : Nat)     : ∀ (n : Nat) (x0 : Nat) (x1 : Int32) (x2 : Int32) (x3 : Int32) (u : SG), Cl P u → P x0 → FQ P u (fun _ => True) (gX10_setsWith_4 N   n x0 x1 x2 x3 u) := by
  intro n
  induction n with
  | zero => intros; intro r u9 h9; exact absurd h9 (by simp [gX10_setsWith_4])
  | succ n ih =>
    intro x0 x1 x2 x3 u hP h_x0
    have hrec4 := ih
    have h_u : Fr P u u := Fr.rf
    rw [gX10_setsWith_4]
    refine fq_if ?_ fq_none
    refine fq_bR h_u hP h_x0 (fun q1 h_q1 => ?_)
    refine fq_if ?_ fq_none
    refine fq_bR h_u hP h_q1 (fun q2 h_q2 => ?_)
    refine fq_if (fq_cl h_u (fr_X7_everyone N q2  u (hP.tr h_u) h_q2 ) (fun r3 u4 h_u4 h_r3 => ?_)) fq_none
    refine fq_if ?_ ?_
    · exact fq_ret h_u4 trivial
    · refine fq_if ?_ ?_
      · refine fq_if ?_ fq_none
        refine fq_bR h_u4 hP h_x0 (fun q5 h_q5 => ?_)
        refine fq_if ?_ fq_none
        refine fq_bR h_u4 hP h_q5 (fun q6 h_q6 => ?_)
        refine fq_if (fq_cl h_u4 (fr_X1_allow N q6 x3 u4 (hP.tr h_u4) h_q6 ) (fun r7 u8 h_u8 h_r7 => ?_)) fq_none
        refine fq_if ?_ ?_
        · exact fq_tr h_u8 (hrec4 x0 x1 x2 (x3 + (1 : Int32)) u8 (hP.tr h_u8) h_x0)
        · exact fq_tr h_u8 (hrec4 x0 x1 (x2 + (1 : Int32)) (x3 + (1 : Int32)) u8 (hP.tr h_u8) h_x0)
      · exact fq_tr h_u4 (hrec4 x0 x1 x2 (x3 + (1 : Int32)) u4 (hP.tr h_u4) h_x0)
set_option maxRecDepth 20000 in
theorem fr_X10_setsWith {P : Nat → Prop} (N : Nat)   (a0 : Nat) (p1 : Int32) (u : SG) : Cl P u → P a0 → FQ P u (fun _ => True) (fX10_setsWith N  a0 p1 u) := by
  intro hP h_a0
  have h_u : Fr P u u := Fr.rf
  unfold fX10_setsWith
  exact fq_tr h_u (frgX10_setsWith_4 N   N a0 p1 (0 : Int32) (0 : Int32) u (hP.tr h_u) h_a0)
set_option maxRecDepth 20000 in
theorem frgX10_slept_80 {P : Nat → Prop} (N : Nat)   (rec47 : Nat → Int32 → Int32 → Int32 → Int32 → Int32 → Int32 → SG → Option (Int32 × SG)) (hrec47 : ∀ (x0 : Nat) (x1 : Int32) (x2 : Int32) (x3 : Int32) (x4 : Int32) (x5 : Int32) (x6 : Int32) (u : SG), Cl P u → P x0 → FQ P u (fun _ => True) (rec47 x0 x1 x2 x3 x4 x5 x6 u)) (x0 : Nat) (x1 : Int32) (x2 : Int32) (x4 : Int32) (x5 : Int32) (x6 : Int32) (s0 : Int32) (u : SG) : Cl P u → P x0 → FQ P u (fun _ => True) (gX10_slept_80 N  rec47 x0 x1 x2 x4 x5 x6 s0 u) := by
  intro hP h_x0
  have h_u : Fr P u u := Fr.rf
  unfold gX10_slept_80
  refine fq_bs (fun v1 => ?_)
  refine fq_bs (fun v2 => ?_)
  exact fq_tr h_u (hrec47 x0 x1 x2 s0 v1 v2 (x6 + (1 : Int32)) u (hP.tr h_u) h_x0)
set_option maxRecDepth 20000 in
theorem frgX10_slept_47 {P : Nat → Prop} (N : Nat)     : ∀ (n : Nat) (x0 : Nat) (x1 : Int32) (x2 : Int32) (x3 : Int32) (x4 : Int32) (x5 : Int32) (x6 : Int32) (u : SG), Cl P u → P x0 → FQ P u (fun _ => True) (gX10_slept_47 N   n x0 x1 x2 x3 x4 x5 x6 u) := by
  intro n
  induction n with
  | zero => intros; intro r u9 h9; exact absurd h9 (by simp [gX10_slept_47])
  | succ n ih =>
    intro x0 x1 x2 x3 x4 x5 x6 u hP h_x0
    have hrec47 := ih
    have h_u : Fr P u u := Fr.rf
    rw [gX10_slept_47]
    refine fq_if ?_ ?_
    · refine fq_if ?_ ?_
      · refine fq_if (fq_cl h_u (fr_X10_setsWith N x0 (0 : Int32) u (hP.tr h_u) h_x0 ) (fun r1 u2 h_u2 h_r1 => ?_)) fq_none
        exact fq_ret h_u2 trivial
      refine fq_if ?_ ?_
      · exact fq_ret h_u trivial
      refine fq_if ?_ ?_
      · refine fq_if ?_ ?_
        · exact fq_ret h_u trivial
        · exact fq_ret h_u trivial
      refine fq_if ?_ ?_
      · exact fq_ret h_u trivial
      · exact fq_ret h_u trivial
    · refine fq_if ?_ fq_none
      refine fq_bR h_u hP h_x0 (fun q3 h_q3 => ?_)
      refine fq_if ?_ fq_none
      refine fq_bR h_u hP h_q3 (fun q4 h_q4 => ?_)
      refine fq_if (fq_cl h_u (fr_X1_allow N q4 x6 u (hP.tr h_u) h_q4 ) (fun r5 u6 h_u6 h_r5 => ?_)) fq_none
      refine fq_if ?_ ?_
      · exact fq_tr h_u6 (hrec47 x0 x1 x2 x3 x4 x5 (x6 + (1 : Int32)) u6 (hP.tr h_u6) h_x0)
      · refine fq_if ?_ ?_
        · exact fq_tr h_u6 (frgX10_slept_80 N  _ hrec47 x0 x1 x2 x4 x5 x6 x6 u6 (hP.tr h_u6) h_x0)
        · exact fq_tr h_u6 (frgX10_slept_80 N  _ hrec47 x0 x1 x2 x4 x5 x6 x3 u6 (hP.tr h_u6) h_x0)
set_option maxRecDepth 20000 in
theorem fr_X10_slept {P : Nat → Prop} (N : Nat)   (a0 : Nat) (p1 : Int32) (u : SG) : Cl P u → P a0 → FQ P u (fun _ => True) (fX10_slept N  a0 p1 u) := by
  intro hP h_a0
  have h_u : Fr P u u := Fr.rf
  unfold fX10_slept
  refine fq_if ?_ fq_none
  refine fq_bR h_u hP h_a0 (fun q1 h_q1 => ?_)
  refine fq_if ?_ fq_none
  refine fq_bR h_u hP h_q1 (fun q2 h_q2 => ?_)
  refine fq_if (fq_cl h_u (fr_X7_isTold N q2  u (hP.tr h_u) h_q2 ) (fun r3 u4 h_u4 h_r3 => ?_)) fq_none
  refine fq_if ?_ ?_
  · exact fq_ret h_u4 trivial
  · refine fq_if ?_ ?_
    · exact fq_ret h_u4 trivial
    · refine fq_if ?_ ?_
      · refine fq_if ?_ fq_none
        refine fq_bR h_u4 hP h_a0 (fun q5 h_q5 => ?_)
        refine fq_if ?_ fq_none
        refine fq_bR h_u4 hP h_q5 (fun q6 h_q6 => ?_)
        refine fq_if (fq_cl h_u4 (fr_X7_everyone N q6  u4 (hP.tr h_u4) h_q6 ) (fun r7 u8 h_u8 h_r7 => ?_)) fq_none
        exact fq_tr h_u8 (frgX10_slept_47 N   N a0 p1 r7 (-2 : Int32) r7 (0 : Int32) (0 : Int32) u8 (hP.tr h_u8) h_a0)
      · exact fq_ret h_u4 trivial
set_option maxRecDepth 20000 in
theorem frgX10_ask_106 {P : Nat → Prop} (N : Nat)     (x1 : Int32) (x3 : Int32) (x4 : Int32) (u : SG) : Cl P u → FQ P u (fun _ => True) (gX10_ask_106 N   x1 x3 x4 u) := by
  intro hP
  have h_u : Fr P u u := Fr.rf
  unfold gX10_ask_106
  refine fq_if ?_ ?_
  · exact fq_ret h_u trivial
  · exact fq_ret h_u trivial
set_option maxRecDepth 20000 in
theorem frgX10_ask_40 {P : Nat → Prop} (N : Nat)     : ∀ (n : Nat) (x0 : Nat) (x1 : Int32) (x2 : Int32) (x3 : Int32) (x4 : Int32) (x5 : Int32) (u : SG), Cl P u → P x0 → FQ P u (fun _ => True) (gX10_ask_40 N   n x0 x1 x2 x3 x4 x5 u) := by
  intro n
  induction n with
  | zero => intros; intro r u9 h9; exact absurd h9 (by simp [gX10_ask_40])
  | succ n ih =>
    intro x0 x1 x2 x3 x4 x5 u hP h_x0
    have hrec40 := ih
    have h_u : Fr P u u := Fr.rf
    rw [gX10_ask_40]
    refine fq_if ?_ fq_none
    refine fq_bR h_u hP h_x0 (fun q1 h_q1 => ?_)
    refine fq_if ?_ fq_none
    refine fq_bR h_u hP h_q1 (fun q2 h_q2 => ?_)
    refine fq_if ?_ fq_none
    refine fq_if ?_ ?_
    · exact fq_tr h_u (frgX10_ask_106 N   x1 x3 x4 u (hP.tr h_u))
    · refine fq_if ?_ ?_
      · exact fq_tr h_u (frgX10_ask_106 N   x1 x3 x4 u (hP.tr h_u))
      · refine fq_if (fq_cl h_u (fr_X10_setsWith N x0 ((1 : Int32) <<< (x5 &&& 31)) u (hP.tr h_u) h_x0 ) (fun r3 u4 h_u4 h_r3 => ?_)) fq_none
        refine fq_cl h_u4 (fr_J9_max_7cf53 N r3 (x2 - r3) u4 (hP.tr h_u4) ) (fun r5 u6 h_u6 h_r5 => ?_)
        refine fq_if ?_ ?_
        · exact fq_tr h_u6 (hrec40 x0 x1 x2 x5 r5 (x5 + (1 : Int32)) u6 (hP.tr h_u6) h_x0)
        · refine fq_if ?_ ?_
          · exact fq_tr h_u6 (hrec40 x0 x1 x2 x3 x4 (x5 + (1 : Int32)) u6 (hP.tr h_u6) h_x0)
          · exact fq_tr h_u6 (hrec40 x0 x1 x2 x5 r5 (x5 + (1 : Int32)) u6 (hP.tr h_u6) h_x0)
set_option maxRecDepth 20000 in
theorem fr_X10_ask {P : Nat → Prop} (N : Nat)   (a0 : Nat) (p1 : Int32) (u : SG) : Cl P u → P a0 → FQ P u (fun _ => True) (fX10_ask N  a0 p1 u) := by
  intro hP h_a0
  have h_u : Fr P u u := Fr.rf
  unfold fX10_ask
  refine fq_if ?_ fq_none
  refine fq_bR h_u hP h_a0 (fun q1 h_q1 => ?_)
  refine fq_if ?_ fq_none
  refine fq_bR h_u hP h_q1 (fun q2 h_q2 => ?_)
  refine fq_if (fq_cl h_u (fr_X7_isTold N q2  u (hP.tr h_u) h_q2 ) (fun r3 u4 h_u4 h_r3 => ?_)) fq_none
  refine fq_if ?_ ?_
  · exact fq_ret h_u4 trivial
  · refine fq_if ?_ ?_
    · exact fq_ret h_u4 trivial
    · refine fq_if ?_ ?_
      · refine fq_if (fq_cl h_u4 (fr_X10_setsWith N a0 (0 : Int32) u4 (hP.tr h_u4) h_a0 ) (fun r5 u6 h_u6 h_r5 => ?_)) fq_none
        exact fq_tr h_u6 (frgX10_ask_40 N   N a0 p1 r5 (-2 : Int32) (-2 : Int32) (0 : Int32) u6 (hP.tr h_u6) h_a0)
      · exact fq_ret h_u4 trivial
set_option maxRecDepth 20000 in
theorem frgX10_priceNight_90 {P : Nat → Prop} (N : Nat)     : ∀ (n : Nat) (x0 : Nat) (x3 : Int32) (x4 : Int32) (x5 : Int32) (u : SG), Cl P u → P x0 → FQ P u (fun _ => True) (gX10_priceNight_90 N   n x0 x3 x4 x5 u) := by
  intro n
  induction n with
  | zero => intros; intro r u9 h9; exact absurd h9 (by simp [gX10_priceNight_90])
  | succ n ih =>
    intro x0 x3 x4 x5 u hP h_x0
    have hrec90 := ih
    have h_u : Fr P u u := Fr.rf
    rw [gX10_priceNight_90]
    refine fq_if ?_ ?_
    · exact fq_ret h_u trivial
    · refine fq_if ?_ fq_none
      refine fq_bR h_u hP h_x0 (fun q1 h_q1 => ?_)
      refine fq_cl h_u (fr_J9_min_7cf53 N x5 x4 u (hP.tr h_u) ) (fun r2 u3 h_u3 h_r2 => ?_)
      refine fq_if (fq_cl h_u3 (fr_X10_cheapestHours N x0 x3 r2 u3 (hP.tr h_u3) h_x0 ) (fun r4 u5 h_u5 h_r4 => ?_)) fq_none
      refine fq_if (fq_cl h_u5 (fr_X10_costOfHours N x0 r4 u5 (hP.tr h_u5) h_x0 ) (fun r6 u7 h_u7 h_r6 => ?_)) fq_none
      refine fq_if (fq_if fq_none (fq_sI h_u7 h_q1 (fun u8 h_u8 => ?_))) fq_none
      exact fq_tr h_u8 (hrec90 x0 x3 x4 (x5 + (1 : Int32)) u8 (hP.tr h_u8) h_x0)
set_option maxRecDepth 20000 in
theorem frgX10_priceNight_13 {P : Nat → Prop} (N : Nat)     : ∀ (n : Nat) (x0 : Nat) (x1 : Int32) (x2 : Nat) (x3 : Int32) (x4 : Int32) (u : SG), Cl P u → P x0 → P x2 → FQ P u (fun _ => True) (gX10_priceNight_13 N   n x0 x1 x2 x3 x4 u) := by
  intro n
  induction n with
  | zero => intros; intro r u9 h9; exact absurd h9 (by simp [gX10_priceNight_13])
  | succ n ih =>
    intro x0 x1 x2 x3 x4 u hP h_x0 h_x2
    have hrec13 := ih
    have h_u : Fr P u u := Fr.rf
    rw [gX10_priceNight_13]
    refine fq_if ?_ ?_
    · refine fq_if ?_ fq_none
      refine fq_bR h_u hP h_x2 (fun q1 h_q1 => ?_)
      refine fq_if (fq_if fq_none ?_) fq_none
      refine fq_cl h_u (fr_J6_bitCount_0f7a4 N x3 u (hP.tr h_u) ) (fun r2 u3 h_u3 h_r2 => ?_)
      refine fq_cl h_u3 (fr_J9_min_7cf53 N (zI u q1 x1.toNatClampNeg) r2 u3 (hP.tr h_u3) ) (fun r4 u5 h_u5 h_r4 => ?_)
      exact fq_tr h_u5 (frgX10_priceNight_90 N   N x0 x3 r4 (0 : Int32) u5 (hP.tr h_u5) h_x0)
    · refine fq_if ?_ fq_none
      refine fq_bR h_u hP h_x0 (fun q6 h_q6 => ?_)
      refine fq_if (fq_cl h_u (fr_X7_litAt N x2 x4 u (hP.tr h_u) h_x2 ) (fun r7 u8 h_u8 h_r7 => ?_)) fq_none
      refine fq_if (fq_cl h_u8 (fr_X7_costOf N x2 r7 u8 (hP.tr h_u8) h_x2 ) (fun r9 u10 h_u10 h_r9 => ?_)) fq_none
      refine fq_if (fq_if fq_none (fq_sI h_u10 h_q6 (fun u11 h_u11 => ?_))) fq_none
      refine fq_if ?_ fq_none
      refine fq_if ?_ ?_
      · exact fq_tr h_u11 (hrec13 x0 x1 x2 x3 (x4 + (1 : Int32)) u11 (hP.tr h_u11) h_x0 h_x2)
      · refine fq_if (fq_cl h_u11 (fr_X7_workersAt N x2 x4 u11 (hP.tr h_u11) h_x2 ) (fun r12 u13 h_u13 h_r12 => ?_)) fq_none
        refine fq_cl h_u13 (fr_X10_bitOf N r12 x1 u13 (hP.tr h_u13) ) (fun r14 u15 h_u15 h_r14 => ?_)
        refine fq_if ?_ ?_
        · refine fq_bs (fun v16 => ?_)
          exact fq_tr h_u15 (hrec13 x0 x1 x2 v16 (x4 + (1 : Int32)) u15 (hP.tr h_u15) h_x0 h_x2)
        · exact fq_tr h_u15 (hrec13 x0 x1 x2 x3 (x4 + (1 : Int32)) u15 (hP.tr h_u15) h_x0 h_x2)
set_option maxRecDepth 20000 in
theorem fr_X10_priceNight {P : Nat → Prop} (N : Nat)   (a0 : Nat) (p1 : Int32) (u : SG) : Cl P u → P a0 → FQ P u (fun _ => True) (fX10_priceNight N  a0 p1 u) := by
  intro hP h_a0
  have h_u : Fr P u u := Fr.rf
  unfold fX10_priceNight
  refine fq_if ?_ fq_none
  refine fq_bR h_u hP h_a0 (fun q1 h_q1 => ?_)
  refine fq_if ?_ fq_none
  refine fq_bR h_u hP h_q1 (fun q2 h_q2 => ?_)
  exact fq_tr h_u (frgX10_priceNight_13 N   N a0 p1 q2 (0 : Int32) (0 : Int32) u (hP.tr h_u) h_a0 h_q2)
set_option maxRecDepth 20000 in
theorem fr_X10_evenCost {P : Nat → Prop} (N : Nat)   (a0 : Nat) (p1 : Int32) (p2 : Int32) (u : SG) : Cl P u → P a0 → FQ P u (fun _ => True) (fX10_evenCost N  a0 p1 p2 u) := by
  intro hP h_a0
  have h_u : Fr P u u := Fr.rf
  unfold fX10_evenCost
  refine fq_if ?_ ?_
  · refine fq_if fq_none ?_
    refine fq_cl h_u (fr_J9_min_7cf53 N (p2 / p1) (10 : Int32) u (hP.tr h_u) ) (fun r1 u2 h_u2 h_r1 => ?_)
    refine fq_if fq_none ?_
    refine fq_bs (fun v3 => ?_)
    refine fq_cl h_u2 (fr_J9_min_7cf53 N (r1 + (1 : Int32)) (10 : Int32) u2 (hP.tr h_u2) ) (fun r4 u5 h_u5 h_r4 => ?_)
    refine fq_if ?_ fq_none
    refine fq_bR h_u5 hP h_a0 (fun q6 h_q6 => ?_)
    refine fq_if (fq_if fq_none ?_) fq_none
    refine fq_if ?_ fq_none
    refine fq_bR h_u5 hP h_a0 (fun q7 h_q7 => ?_)
    refine fq_if (fq_if fq_none ?_) fq_none
    exact fq_ret h_u5 trivial
  · exact fq_ret h_u trivial
set_option maxRecDepth 20000 in
theorem frgX10_sleepInNight_104 {P : Nat → Prop} (N : Nat)   (rec9 : Nat → Int32 → Int32 → Int32 → Int32 → Int32 → Int32 → SG → Option (Int32 × SG)) (hrec9 : ∀ (x0 : Nat) (x1 : Int32) (x3 : Int32) (x4 : Int32) (x5 : Int32) (x6 : Int32) (x7 : Int32) (u : SG), Cl P u → P x0 → FQ P u (fun _ => True) (rec9 x0 x1 x3 x4 x5 x6 x7 u)) (x0 : Nat) (x1 : Int32) (x3 : Int32) (x4 : Int32) (x5 : Int32) (x6 : Int32) (x7 : Int32) (u : SG) : Cl P u → P x0 → FQ P u (fun _ => True) (gX10_sleepInNight_104 N  rec9 x0 x1 x3 x4 x5 x6 x7 u) := by
  intro hP h_x0
  have h_u : Fr P u u := Fr.rf
  unfold gX10_sleepInNight_104
  refine fq_cl h_u (fr_J9_max_7cf53 N (0 : Int32) (x5 - x6) u (hP.tr h_u) ) (fun r1 u2 h_u2 h_r1 => ?_)
  exact fq_tr h_u2 (hrec9 x0 x1 x3 x4 r1 x6 (x7 + (1 : Int32)) u2 (hP.tr h_u2) h_x0)
set_option maxRecDepth 20000 in
theorem frgX10_sleepInNight_52 {P : Nat → Prop} (N : Nat)   (rec9 : Nat → Int32 → Int32 → Int32 → Int32 → Int32 → Int32 → SG → Option (Int32 × SG)) (hrec9 : ∀ (x0 : Nat) (x1 : Int32) (x3 : Int32) (x4 : Int32) (x5 : Int32) (x6 : Int32) (x7 : Int32) (u : SG), Cl P u → P x0 → FQ P u (fun _ => True) (rec9 x0 x1 x3 x4 x5 x6 x7 u)) : ∀ (n : Nat) (x0 : Nat) (x1 : Int32) (x3 : Int32) (x4 : Int32) (x5 : Int32) (x6 : Int32) (x7 : Int32) (x8 : Int32) (x9 : Int32) (x10 : Int32) (u : SG), Cl P u → P x0 → FQ P u (fun _ => True) (gX10_sleepInNight_52 N  rec9 n x0 x1 x3 x4 x5 x6 x7 x8 x9 x10 u) := by
  intro n
  induction n with
  | zero => intros; intro r u9 h9; exact absurd h9 (by simp [gX10_sleepInNight_52])
  | succ n ih =>
    intro x0 x1 x3 x4 x5 x6 x7 x8 x9 x10 u hP h_x0
    have hrec52 := ih
    have h_u : Fr P u u := Fr.rf
    rw [gX10_sleepInNight_52]
    refine fq_if ?_ ?_
    · exact fq_tr h_u (frgX10_sleepInNight_104 N  _ hrec9 x0 x1 x3 x4 x5 x6 x7 u (hP.tr h_u) h_x0)
    · refine fq_if ?_ ?_
      · exact fq_tr h_u (frgX10_sleepInNight_104 N  _ hrec9 x0 x1 x3 x4 x5 x6 x7 u (hP.tr h_u) h_x0)
      · refine fq_if ?_ fq_none
        refine fq_bR h_u hP h_x0 (fun q1 h_q1 => ?_)
        refine fq_if (fq_if fq_none ?_) fq_none
        refine fq_cl h_u (fr_J9_max_7cf53 N (0 : Int32) (x5 - x6) u (hP.tr h_u) ) (fun r2 u3 h_u3 h_r2 => ?_)
        refine fq_if (fq_cl h_u3 (fr_X10_evenCost N x0 x8 r2 u3 (hP.tr h_u3) h_x0 ) (fun r4 u5 h_u5 h_r4 => ?_)) fq_none
        refine fq_if ?_ ?_
        · exact fq_tr h_u5 (hrec52 x0 x1 x3 x4 x5 (x6 + (1 : Int32)) x7 x8 x9 (x10 + (1 : Int32)) u5 (hP.tr h_u5) h_x0)
        · exact fq_tr h_u5 (frgX10_sleepInNight_104 N  _ hrec9 x0 x1 x3 x4 x5 x6 x7 u5 (hP.tr h_u5) h_x0)
set_option maxRecDepth 20000 in
theorem frgX10_sleepInNight_9 {P : Nat → Prop} (N : Nat)     : ∀ (n : Nat) (x0 : Nat) (x1 : Int32) (x3 : Int32) (x4 : Int32) (x5 : Int32) (x6 : Int32) (x7 : Int32) (u : SG), Cl P u → P x0 → FQ P u (fun _ => True) (gX10_sleepInNight_9 N   n x0 x1 x3 x4 x5 x6 x7 u) := by
  intro n
  induction n with
  | zero => intros; intro r u9 h9; exact absurd h9 (by simp [gX10_sleepInNight_9])
  | succ n ih =>
    intro x0 x1 x3 x4 x5 x6 x7 u hP h_x0
    have hrec9 := ih
    have h_u : Fr P u u := Fr.rf
    rw [gX10_sleepInNight_9]
    refine fq_if ?_ ?_
    · exact fq_ret h_u trivial
    · refine fq_bs (fun v1 => ?_)
      refine fq_if (fq_cl h_u (fr_X10_evenCost N x0 (v1 + (1 : Int32)) x5 u (hP.tr h_u) h_x0 ) (fun r2 u3 h_u3 h_r2 => ?_)) fq_none
      refine fq_cl h_u3 (fr_J9_max_7cf53 N (0 : Int32) (x5 - (v1 * x3)) u3 (hP.tr h_u3) ) (fun r4 u5 h_u5 h_r4 => ?_)
      exact fq_tr h_u5 (frgX10_sleepInNight_52 N  _ hrec9 N x0 x1 x3 x4 x5 r4 x7 v1 r2 (0 : Int32) u5 (hP.tr h_u5) h_x0)
set_option maxRecDepth 20000 in
theorem fr_X10_sleepInNight {P : Nat → Prop} (N : Nat)   (a0 : Nat) (p1 : Int32) (p2 : Int32) (p3 : Int32) (p4 : Int32) (u : SG) : Cl P u → P a0 → FQ P u (fun _ => True) (fX10_sleepInNight N  a0 p1 p2 p3 p4 u) := by
  intro hP h_a0
  have h_u : Fr P u u := Fr.rf
  unfold fX10_sleepInNight
  exact fq_tr h_u (frgX10_sleepInNight_9 N   N a0 p1 p3 p4 p2 (0 : Int32) (0 : Int32) u (hP.tr h_u) h_a0)
set_option maxRecDepth 20000 in
theorem fr_X10_nights {P : Nat → Prop} (N : Nat)   (a0 : Nat) (p1 : Int32) (p2 : Int32) (p3 : Int32) (p4 : Int32) (u : SG) : Cl P u → P a0 → FQ P u (fun _ => True) (fX10_nights N  a0 p1 p2 p3 p4 u) := by
  intro hP h_a0
  have h_u : Fr P u u := Fr.rf
  unfold fX10_nights
  refine fq_if ?_ fq_none
  refine fq_bR h_u hP h_a0 (fun q1 h_q1 => ?_)
  refine fq_if ?_ fq_none
  refine fq_bR h_u hP h_q1 (fun q2 h_q2 => ?_)
  refine fq_if (fq_cl h_u (fr_X7_isPerson N q2 p1 u (hP.tr h_u) h_q2 ) (fun r3 u4 h_u4 h_r3 => ?_)) fq_none
  refine fq_if ?_ ?_
  · exact fq_ret h_u4 trivial
  · refine fq_if ?_ ?_
    · exact fq_ret h_u4 trivial
    · refine fq_if ?_ ?_
      · refine fq_if ?_ ?_
        · exact fq_ret h_u4 trivial
        · refine fq_if ?_ ?_
          · exact fq_ret h_u4 trivial
          · refine fq_if ?_ ?_
            · exact fq_ret h_u4 trivial
            · refine fq_if ?_ ?_
              · refine fq_if (fq_cl h_u4 (fr_X10_priceNight N a0 p1 u4 (hP.tr h_u4) h_a0 ) (fun r5 u6 h_u6 h_r5 => ?_)) fq_none
                refine fq_if ?_ fq_none
                refine fq_bR h_u6 hP h_a0 (fun q7 h_q7 => ?_)
                refine fq_if ?_ fq_none
                refine fq_bR h_u6 hP h_q7 (fun q8 h_q8 => ?_)
                refine fq_if ?_ fq_none
                refine fq_bR h_u6 hP h_q8 (fun q9 h_q9 => ?_)
                refine fq_if (fq_if fq_none ?_) fq_none
                refine fq_if ?_ fq_none
                refine fq_bR h_u6 hP h_a0 (fun q10 h_q10 => ?_)
                refine fq_if ?_ fq_none
                refine fq_bR h_u6 hP h_q10 (fun q11 h_q11 => ?_)
                refine fq_if ?_ fq_none
                refine fq_bR h_u6 hP h_q11 (fun q12 h_q12 => ?_)
                refine fq_if (fq_if fq_none ?_) fq_none
                refine fq_cl h_u6 (fr_J9_max_7cf53 N (0 : Int32) (((zI u6 q9 p1.toNatClampNeg) + (p2 * (zI u6 q12 p1.toNatClampNeg))) - p3) u6 (hP.tr h_u6) ) (fun r13 u14 h_u14 h_r13 => ?_)
                refine fq_if ?_ ?_
                · exact fq_ret h_u14 trivial
                · refine fq_if ?_ ?_
                  · refine fq_if ?_ ?_
                    · refine fq_if (fq_cl h_u14 (fr_X10_evenCost N a0 p2 r13 u14 (hP.tr h_u14) h_a0 ) (fun r17 u18 h_u18 h_r17 => ?_)) fq_none
                      exact fq_ret h_u18 trivial
                    · refine fq_if (fq_cl h_u14 (fr_X10_sleepInNight N a0 p2 r13 r5 p4 u14 (hP.tr h_u14) h_a0 ) (fun r15 u16 h_u16 h_r15 => ?_)) fq_none
                      exact fq_ret h_u16 trivial
                  · exact fq_ret h_u14 trivial
              · exact fq_ret h_u4 trivial
      · exact fq_ret h_u4 trivial
set_option maxRecDepth 20000 in
theorem fr_X10_isSpan {P : Nat → Prop} (N : Nat)   (p1 : Int32) (u : SG) : Cl P u → FQ P u (fun _ => True) (fX10_isSpan N  p1 u) := by
  intro hP
  have h_u : Fr P u u := Fr.rf
  unfold fX10_isSpan
  refine fq_if ?_ ?_
  · exact fq_ret h_u trivial
  · refine fq_if ?_ ?_
    · exact fq_ret h_u trivial
    · exact fq_ret h_u trivial
set_option maxRecDepth 20000 in
theorem frgX10_turned_52 {P : Nat → Prop} (N : Nat)     : ∀ (n : Nat) (x0 : Nat) (x1 : Int32) (x2 : Int32) (x3 : Int32) (x4 : Int64) (x6 : Int32) (u : SG), Cl P u → P x0 → FQ P u (fun _ => True) (gX10_turned_52 N   n x0 x1 x2 x3 x4 x6 u) := by
  intro n
  induction n with
  | zero => intros; intro r u9 h9; exact absurd h9 (by simp [gX10_turned_52])
  | succ n ih =>
    intro x0 x1 x2 x3 x4 x6 u hP h_x0
    have hrec52 := ih
    have h_u : Fr P u u := Fr.rf
    rw [gX10_turned_52]
    refine fq_if ?_ ?_
    · refine fq_if ?_ fq_none
      refine fq_bR h_u hP h_x0 (fun q1 h_q1 => ?_)
      refine fq_if ?_ fq_none
      refine fq_bR h_u hP h_q1 (fun q2 h_q2 => ?_)
      refine fq_if (fq_if fq_none ?_) fq_none
      refine fq_if ?_ fq_none
      refine fq_bR h_u hP h_x0 (fun q3 h_q3 => ?_)
      refine fq_if ?_ fq_none
      refine fq_bR h_u hP h_q3 (fun q4 h_q4 => ?_)
      refine fq_if ?_ fq_none
      refine fq_bR h_u hP h_q4 (fun q5 h_q5 => ?_)
      refine fq_if (fq_if fq_none ?_) fq_none
      refine fq_bs (fun v6 => ?_)
      refine fq_cl h_u (fr_X10_fraction N (x4 - v6) (60 : Int64) x3 u (hP.tr h_u) ) (fun r7 u8 h_u8 h_r7 => ?_)
      exact fq_ret h_u8 trivial
    · refine fq_if ?_ fq_none
      refine fq_bR h_u hP h_x0 (fun q9 h_q9 => ?_)
      refine fq_if ?_ fq_none
      refine fq_bR h_u hP h_x0 (fun q10 h_q10 => ?_)
      refine fq_if ?_ fq_none
      refine fq_bR h_u hP h_q10 (fun q11 h_q11 => ?_)
      refine fq_if ?_ fq_none
      refine fq_bR h_u hP h_x0 (fun q12 h_q12 => ?_)
      refine fq_if (fq_cl h_u (fr_X10_ruleNow N x0  u (hP.tr h_u) h_x0 ) (fun r13 u14 h_u14 h_r13 => ?_)) fq_none
      refine fq_if (fq_cl h_u14 (fr_X3_play N q9 q11 q12 r13 u14 (hP.tr h_u14) h_q9 h_q11 h_q12 h_r13) (fun r15 u16 h_u16 h_r15 => ?_)) fq_none
      refine fq_if ?_ fq_none
      refine fq_bR h_u16 hP h_x0 (fun q17 h_q17 => ?_)
      refine fq_if ?_ fq_none
      refine fq_bR h_u16 hP h_x0 (fun q18 h_q18 => ?_)
      refine fq_if ?_ fq_none
      refine fq_bR h_u16 hP h_q18 (fun q19 h_q19 => ?_)
      refine fq_if (fq_cl h_u16 (fr_X3_shareIfWakingPaid N q17 q19 x1 u16 (hP.tr h_u16) h_q17 h_q19) (fun r20 u21 h_u21 h_r20 => ?_)) fq_none
      refine fq_bs (fun v22 => ?_)
      exact fq_tr h_u21 (hrec52 x0 x1 x2 x3 v22 (x6 + (1 : Int32)) u21 (hP.tr h_u21) h_x0)
set_option maxRecDepth 20000 in
theorem fr_X10_turned {P : Nat → Prop} (N : Nat)   (a0 : Nat) (p1 : Int32) (p2 : Int32) (p3 : Int32) (u : SG) : Cl P u → P a0 → FQ P u (fun _ => True) (fX10_turned N  a0 p1 p2 p3 u) := by
  intro hP h_a0
  have h_u : Fr P u u := Fr.rf
  unfold fX10_turned
  refine fq_if ?_ fq_none
  refine fq_bR h_u hP h_a0 (fun q1 h_q1 => ?_)
  refine fq_if ?_ fq_none
  refine fq_bR h_u hP h_q1 (fun q2 h_q2 => ?_)
  refine fq_if (fq_cl h_u (fr_X7_isPerson N q2 p1 u (hP.tr h_u) h_q2 ) (fun r3 u4 h_u4 h_r3 => ?_)) fq_none
  refine fq_if ?_ ?_
  · exact fq_ret h_u4 trivial
  · refine fq_cl h_u4 (fr_X10_isSpan N p2 u4 (hP.tr h_u4) ) (fun r5 u6 h_u6 h_r5 => ?_)
    refine fq_if ?_ ?_
    · exact fq_ret h_u6 trivial
    · refine fq_cl h_u6 (fr_X10_isPart N p3 u6 (hP.tr h_u6) ) (fun r7 u8 h_u8 h_r7 => ?_)
      refine fq_if ?_ ?_
      · exact fq_ret h_u8 trivial
      · refine fq_if ?_ fq_none
        refine fq_bR h_u8 hP h_a0 (fun q9 h_q9 => ?_)
        refine fq_if ?_ fq_none
        refine fq_bR h_u8 hP h_a0 (fun q10 h_q10 => ?_)
        refine fq_if ?_ fq_none
        refine fq_bR h_u8 hP h_q10 (fun q11 h_q11 => ?_)
        refine fq_if (fq_cl h_u8 (fr_X2_copyOf N q9 q11 u8 (hP.tr h_u8) h_q9 h_q11) (fun r12 u13 h_u13 h_r12 => ?_)) fq_none
        exact fq_tr h_u13 (frgX10_turned_52 N   N a0 p1 p2 p3 (0 : Int64) (0 : Int32) u13 (hP.tr h_u13) h_a0)
set_option maxRecDepth 20000 in
theorem fr_X10_spite {P : Nat → Prop} (N : Nat)   (a0 : Nat) (p1 : Int32) (p2 : Int32) (p3 : Int32) (p4 : Int32) (u : SG) : Cl P u → P a0 → FQ P u (fun _ => True) (fX10_spite N  a0 p1 p2 p3 p4 u) := by
  intro hP h_a0
  have h_u : Fr P u u := Fr.rf
  unfold fX10_spite
  refine fq_if ?_ fq_none
  refine fq_bR h_u hP h_a0 (fun q1 h_q1 => ?_)
  refine fq_if ?_ fq_none
  refine fq_bR h_u hP h_q1 (fun q2 h_q2 => ?_)
  refine fq_if (fq_cl h_u (fr_X7_isLamp N q2 p1 u (hP.tr h_u) h_q2 ) (fun r3 u4 h_u4 h_r3 => ?_)) fq_none
  refine fq_if ?_ ?_
  · exact fq_ret h_u4 trivial
  · refine fq_if (fq_cl h_u4 (fr_X10_isDebtor N a0 p2 u4 (hP.tr h_u4) h_a0 ) (fun r5 u6 h_u6 h_r5 => ?_)) fq_none
    refine fq_if ?_ ?_
    · exact fq_ret h_u6 trivial
    · refine fq_cl h_u6 (fr_X10_isSpan N p3 u6 (hP.tr h_u6) ) (fun r7 u8 h_u8 h_r7 => ?_)
      refine fq_if ?_ ?_
      · exact fq_ret h_u8 trivial
      · refine fq_cl h_u8 (fr_X10_isPart N p4 u8 (hP.tr h_u8) ) (fun r9 u10 h_u10 h_r9 => ?_)
        refine fq_if ?_ ?_
        · exact fq_ret h_u10 trivial
        · refine fq_cl h_u10 (fr_X10_debtorRow N p2 u10 (hP.tr h_u10) ) (fun r11 u12 h_u12 h_r11 => ?_)
          refine fq_if ?_ fq_none
          refine fq_bR h_u12 hP h_a0 (fun q13 h_q13 => ?_)
          refine fq_if ?_ fq_none
          refine fq_bR h_u12 hP h_a0 (fun q14 h_q14 => ?_)
          refine fq_if ?_ fq_none
          refine fq_bR h_u12 hP h_q14 (fun q15 h_q15 => ?_)
          refine fq_if (fq_cl h_u12 (fr_X2_copyOf N q13 q15 u12 (hP.tr h_u12) h_q13 h_q15) (fun r16 u17 h_u17 h_r16 => ?_)) fq_none
          refine fq_if ?_ fq_none
          refine fq_bR h_u17 hP h_a0 (fun q18 h_q18 => ?_)
          refine fq_if (fq_cl h_u17 (fr_X2_setLamp N q18 p1 (1 : Int32) u17 (hP.tr h_u17) h_q18 ) (fun r19 u20 h_u20 h_r19 => ?_)) fq_none
          refine fq_if (fq_cl h_u20 (fr_X10_playTrial N a0 p3 u20 (hP.tr h_u20) h_a0 ) (fun r21 u22 h_u22 h_r21 => ?_)) fq_none
          refine fq_if ?_ fq_none
          refine fq_bR h_u22 hP h_a0 (fun q23 h_q23 => ?_)
          refine fq_if ?_ fq_none
          refine fq_bR h_u22 hP h_q23 (fun q24 h_q24 => ?_)
          refine fq_if (fq_if fq_none ?_) fq_none
          refine fq_bs (fun v25 => ?_)
          refine fq_if ?_ fq_none
          refine fq_bR h_u22 hP h_a0 (fun q26 h_q26 => ?_)
          refine fq_if ?_ fq_none
          refine fq_bR h_u22 hP h_a0 (fun q27 h_q27 => ?_)
          refine fq_if ?_ fq_none
          refine fq_bR h_u22 hP h_q27 (fun q28 h_q28 => ?_)
          refine fq_if (fq_cl h_u22 (fr_X2_copyOf N q26 q28 u22 (hP.tr h_u22) h_q26 h_q28) (fun r29 u30 h_u30 h_r29 => ?_)) fq_none
          refine fq_if ?_ fq_none
          refine fq_bR h_u30 hP h_a0 (fun q31 h_q31 => ?_)
          refine fq_if (fq_cl h_u30 (fr_X2_setLamp N q31 p1 (0 : Int32) u30 (hP.tr h_u30) h_q31 ) (fun r32 u33 h_u33 h_r32 => ?_)) fq_none
          refine fq_if (fq_cl h_u33 (fr_X10_playTrial N a0 p3 u33 (hP.tr h_u33) h_a0 ) (fun r34 u35 h_u35 h_r34 => ?_)) fq_none
          refine fq_if ?_ fq_none
          refine fq_bR h_u35 hP h_a0 (fun q36 h_q36 => ?_)
          refine fq_if ?_ fq_none
          refine fq_bR h_u35 hP h_q36 (fun q37 h_q37 => ?_)
          refine fq_if (fq_if fq_none ?_) fq_none
          refine fq_cl h_u35 (fr_X10_fraction N (v25 - (zL u35 q37 r11.toNatClampNeg)) (60 : Int64) p4 u35 (hP.tr h_u35) ) (fun r38 u39 h_u39 h_r38 => ?_)
          exact fq_ret h_u39 trivial
set_option maxRecDepth 20000 in
theorem fr_X10_seed {P : Nat → Prop} (N : Nat)   (a0 : Nat) (p1 : Int32) (u : SG) : Cl P u → P a0 → FQ P u (fun _ => True) (fX10_seed N  a0 p1 u) := by
  intro hP h_a0
  have h_u : Fr P u u := Fr.rf
  unfold fX10_seed
  refine fq_if ?_ ?_
  · refine fq_if ?_ fq_none
    refine fq_bR h_u hP h_a0 (fun q1 h_q1 => ?_)
    refine fq_if ?_ fq_none
    refine fq_bs (fun v2 => ?_)
    refine fq_if ?_ fq_none
    refine fq_bR h_u hP h_a0 (fun q3 h_q3 => ?_)
    refine fq_if (fq_sI h_u h_q3 (fun u4 h_u4 => ?_)) fq_none
    exact fq_ret h_u4 trivial
  · exact fq_ret h_u trivial
set_option maxRecDepth 20000 in
theorem frgX10_lives_97 {P : Nat → Prop} (N : Nat)   (rec74 : Nat → Int32 → Int32 → Int32 → Int32 → Int32 → Int32 → Int64 → Int32 → SG → Option (Int32 × SG)) (hrec74 : ∀ (x0 : Nat) (x1 : Int32) (x2 : Int32) (x3 : Int32) (x4 : Int32) (x5 : Int32) (x6 : Int32) (x7 : Int64) (x9 : Int32) (u : SG), Cl P u → P x0 → FQ P u (fun _ => True) (rec74 x0 x1 x2 x3 x4 x5 x6 x7 x9 u)) : ∀ (n : Nat) (x0 : Nat) (x1 : Int32) (x2 : Int32) (x3 : Int32) (x4 : Int32) (x5 : Int32) (x6 : Int32) (x7 : Int64) (x9 : Int32) (x10 : Int32) (u : SG), Cl P u → P x0 → FQ P u (fun _ => True) (gX10_lives_97 N  rec74 n x0 x1 x2 x3 x4 x5 x6 x7 x9 x10 u) := by
  intro n
  induction n with
  | zero => intros; intro r u9 h9; exact absurd h9 (by simp [gX10_lives_97])
  | succ n ih =>
    intro x0 x1 x2 x3 x4 x5 x6 x7 x9 x10 u hP h_x0
    have hrec97 := ih
    have h_u : Fr P u u := Fr.rf
    rw [gX10_lives_97]
    refine fq_if ?_ ?_
    · refine fq_if ?_ fq_none
      refine fq_bR h_u hP h_x0 (fun q1 h_q1 => ?_)
      refine fq_if ?_ fq_none
      refine fq_bR h_u hP h_q1 (fun q2 h_q2 => ?_)
      refine fq_if (fq_if fq_none ?_) fq_none
      refine fq_if ?_ fq_none
      refine fq_bR h_u hP h_x0 (fun q3 h_q3 => ?_)
      refine fq_if ?_ fq_none
      refine fq_bR h_u hP h_q3 (fun q4 h_q4 => ?_)
      refine fq_if ?_ fq_none
      refine fq_bR h_u hP h_q4 (fun q5 h_q5 => ?_)
      refine fq_if (fq_if fq_none ?_) fq_none
      refine fq_bs (fun v6 => ?_)
      exact fq_tr h_u (hrec74 x0 x1 x2 x3 x4 x5 x6 v6 (x9 + (1 : Int32)) u (hP.tr h_u) h_x0)
    · refine fq_if ?_ fq_none
      refine fq_bR h_u hP h_x0 (fun q7 h_q7 => ?_)
      refine fq_if ?_ fq_none
      refine fq_bR h_u hP h_x0 (fun q8 h_q8 => ?_)
      refine fq_if ?_ fq_none
      refine fq_bR h_u hP h_q8 (fun q9 h_q9 => ?_)
      refine fq_if ?_ fq_none
      refine fq_bR h_u hP h_x0 (fun q10 h_q10 => ?_)
      refine fq_if (fq_cl h_u (fr_X3_draw N q7 q9 q10 x5 x3 u (hP.tr h_u) h_q7 h_q9 h_q10) (fun r11 u12 h_u12 h_r11 => ?_)) fq_none
      refine fq_if ?_ fq_none
      refine fq_bR h_u12 hP h_x0 (fun q13 h_q13 => ?_)
      refine fq_if ?_ fq_none
      refine fq_bR h_u12 hP h_x0 (fun q14 h_q14 => ?_)
      refine fq_if ?_ fq_none
      refine fq_bR h_u12 hP h_q14 (fun q15 h_q15 => ?_)
      refine fq_if ?_ fq_none
      refine fq_bR h_u12 hP h_x0 (fun q16 h_q16 => ?_)
      refine fq_if (fq_cl h_u12 (fr_X3_play N q13 q15 q16 none u12 (hP.tr h_u12) h_q13 h_q15 h_q16 fq_nn) (fun r17 u18 h_u18 h_r17 => ?_)) fq_none
      refine fq_bs (fun v19 => ?_)
      exact fq_tr h_u18 (hrec97 x0 x1 x2 x3 x4 r11 v19 x7 x9 (x10 + (1 : Int32)) u18 (hP.tr h_u18) h_x0)
set_option maxRecDepth 20000 in
theorem frgX10_lives_74 {P : Nat → Prop} (N : Nat)     : ∀ (n : Nat) (x0 : Nat) (x1 : Int32) (x2 : Int32) (x3 : Int32) (x4 : Int32) (x5 : Int32) (x6 : Int32) (x7 : Int64) (x9 : Int32) (u : SG), Cl P u → P x0 → FQ P u (fun _ => True) (gX10_lives_74 N   n x0 x1 x2 x3 x4 x5 x6 x7 x9 u) := by
  intro n
  induction n with
  | zero => intros; intro r u9 h9; exact absurd h9 (by simp [gX10_lives_74])
  | succ n ih =>
    intro x0 x1 x2 x3 x4 x5 x6 x7 x9 u hP h_x0
    have hrec74 := ih
    have h_u : Fr P u u := Fr.rf
    rw [gX10_lives_74]
    refine fq_if ?_ ?_
    · refine fq_if ?_ ?_
      · exact fq_ret h_u trivial
      · refine fq_if fq_none ?_
        exact fq_ret h_u trivial
    · refine fq_if ?_ fq_none
      refine fq_bR h_u hP h_x0 (fun q1 h_q1 => ?_)
      refine fq_if ?_ fq_none
      refine fq_bR h_u hP h_x0 (fun q2 h_q2 => ?_)
      refine fq_if ?_ fq_none
      refine fq_bR h_u hP h_q2 (fun q3 h_q3 => ?_)
      refine fq_if (fq_cl h_u (fr_X2_copyOf N q1 q3 u (hP.tr h_u) h_q1 h_q3) (fun r4 u5 h_u5 h_r4 => ?_)) fq_none
      exact fq_tr h_u5 (frgX10_lives_97 N  _ hrec74 N x0 x1 x2 x3 x4 x5 x6 x7 x9 (0 : Int32) u5 (hP.tr h_u5) h_x0)
set_option maxRecDepth 20000 in
theorem fr_X10_lives {P : Nat → Prop} (N : Nat)   (a0 : Nat) (p1 : Int32) (p2 : Int32) (p3 : Int32) (p4 : Int32) (u : SG) : Cl P u → P a0 → FQ P u (fun _ => True) (fX10_lives N  a0 p1 p2 p3 p4 u) := by
  intro hP h_a0
  have h_u : Fr P u u := Fr.rf
  unfold fX10_lives
  refine fq_if ?_ fq_none
  refine fq_bR h_u hP h_a0 (fun q1 h_q1 => ?_)
  refine fq_if ?_ fq_none
  refine fq_bR h_u hP h_q1 (fun q2 h_q2 => ?_)
  refine fq_if (fq_cl h_u (fr_X7_isTold N q2  u (hP.tr h_u) h_q2 ) (fun r3 u4 h_u4 h_r3 => ?_)) fq_none
  refine fq_if ?_ ?_
  · exact fq_ret h_u4 trivial
  · refine fq_if ?_ ?_
    · exact fq_ret h_u4 trivial
    · refine fq_if ?_ ?_
      · exact fq_ret h_u4 trivial
      · refine fq_cl h_u4 (fr_X10_isSpan N p2 u4 (hP.tr h_u4) ) (fun r5 u6 h_u6 h_r5 => ?_)
        refine fq_if ?_ ?_
        · exact fq_ret h_u6 trivial
        · refine fq_if ?_ ?_
          · exact fq_ret h_u6 trivial
          · refine fq_if ?_ ?_
            · exact fq_ret h_u6 trivial
            · refine fq_if ?_ ?_
              · exact fq_ret h_u6 trivial
              · refine fq_if ?_ ?_
                · refine fq_if ?_ fq_none
                  refine fq_bR h_u6 hP h_a0 (fun q7 h_q7 => ?_)
                  refine fq_if ?_ fq_none
                  refine fq_bs (fun v8 => ?_)
                  exact fq_tr h_u6 (frgX10_lives_74 N   N a0 p1 p2 p3 p4 v8 (0 : Int32) (0 : Int64) (0 : Int32) u6 (hP.tr h_u6) h_a0)
                · exact fq_ret h_u6 trivial
set_option maxRecDepth 20000 in
theorem fr_X10_count {P : Nat → Prop} (N : Nat)   (a0 : Nat) (p1 : Int32) (u : SG) : Cl P u → P a0 → FQ P u (fun _ => True) (fX10_count N  a0 p1 u) := by
  intro hP h_a0
  have h_u : Fr P u u := Fr.rf
  unfold fX10_count
  refine fq_if ?_ ?_
  · refine fq_if ?_ fq_none
    refine fq_bR h_u hP h_a0 (fun q1 h_q1 => ?_)
    refine fq_if ?_ fq_none
    refine fq_bR h_u hP h_q1 (fun q2 h_q2 => ?_)
    refine fq_if ?_ fq_none
    exact fq_ret h_u trivial
  refine fq_if ?_ ?_
  · refine fq_if ?_ fq_none
    refine fq_bR h_u hP h_a0 (fun q3 h_q3 => ?_)
    refine fq_if ?_ fq_none
    refine fq_bR h_u hP h_q3 (fun q4 h_q4 => ?_)
    refine fq_if ?_ fq_none
    exact fq_ret h_u trivial
  refine fq_if ?_ ?_
  · refine fq_if ?_ fq_none
    refine fq_bR h_u hP h_a0 (fun q5 h_q5 => ?_)
    refine fq_if ?_ fq_none
    refine fq_bR h_u hP h_q5 (fun q6 h_q6 => ?_)
    refine fq_if ?_ fq_none
    exact fq_ret h_u trivial
  refine fq_if ?_ ?_
  · refine fq_if ?_ fq_none
    refine fq_bR h_u hP h_a0 (fun q7 h_q7 => ?_)
    refine fq_if ?_ fq_none
    refine fq_bR h_u hP h_q7 (fun q8 h_q8 => ?_)
    refine fq_if ?_ fq_none
    exact fq_ret h_u trivial
  refine fq_if ?_ ?_
  · refine fq_if ?_ fq_none
    refine fq_bR h_u hP h_a0 (fun q9 h_q9 => ?_)
    refine fq_if ?_ fq_none
    refine fq_bR h_u hP h_q9 (fun q10 h_q10 => ?_)
    refine fq_if ?_ fq_none
    exact fq_ret h_u trivial
  refine fq_if ?_ ?_
  · refine fq_if ?_ fq_none
    exact fq_ret h_u trivial
  refine fq_if ?_ ?_
  · refine fq_if ?_ fq_none
    refine fq_bR h_u hP h_a0 (fun q11 h_q11 => ?_)
    refine fq_if ?_ fq_none
    exact fq_ret h_u trivial
  refine fq_if ?_ ?_
  · refine fq_if ?_ fq_none
    refine fq_bR h_u hP h_a0 (fun q12 h_q12 => ?_)
    refine fq_if ?_ fq_none
    refine fq_bR h_u hP h_q12 (fun q13 h_q13 => ?_)
    refine fq_if ?_ fq_none
    exact fq_ret h_u trivial
  refine fq_if ?_ ?_
  · refine fq_if ?_ fq_none
    refine fq_bR h_u hP h_a0 (fun q14 h_q14 => ?_)
    refine fq_if ?_ fq_none
    refine fq_bR h_u hP h_q14 (fun q15 h_q15 => ?_)
    refine fq_if ?_ fq_none
    exact fq_ret h_u trivial
  refine fq_if ?_ ?_
  · refine fq_if ?_ fq_none
    refine fq_bR h_u hP h_a0 (fun q16 h_q16 => ?_)
    refine fq_if ?_ fq_none
    refine fq_bR h_u hP h_q16 (fun q17 h_q17 => ?_)
    refine fq_if ?_ fq_none
    exact fq_ret h_u trivial
  refine fq_if ?_ ?_
  · refine fq_if (fq_cl h_u (fr_X10_burningNow N a0  u (hP.tr h_u) h_a0 ) (fun r18 u19 h_u19 h_r18 => ?_)) fq_none
    exact fq_ret h_u19 trivial
  refine fq_if ?_ ?_
  · refine fq_if ?_ fq_none
    refine fq_bR h_u hP h_a0 (fun q20 h_q20 => ?_)
    refine fq_if ?_ fq_none
    refine fq_bR h_u hP h_q20 (fun q21 h_q21 => ?_)
    refine fq_if (fq_cl h_u (fr_X10_burningNow N a0  u (hP.tr h_u) h_a0 ) (fun r22 u23 h_u23 h_r22 => ?_)) fq_none
    refine fq_if (fq_cl h_u23 (fr_X7_costOf N q21 r22 u23 (hP.tr h_u23) h_q21 ) (fun r24 u25 h_u25 h_r24 => ?_)) fq_none
    exact fq_ret h_u25 trivial
  refine fq_if ?_ ?_
  · refine fq_if ?_ fq_none
    refine fq_bR h_u hP h_a0 (fun q26 h_q26 => ?_)
    refine fq_if ?_ fq_none
    refine fq_bR h_u hP h_q26 (fun q27 h_q27 => ?_)
    refine fq_if ?_ fq_none
    exact fq_ret h_u trivial
  refine fq_if ?_ ?_
  · refine fq_if ?_ fq_none
    refine fq_bR h_u hP h_a0 (fun q28 h_q28 => ?_)
    refine fq_if ?_ fq_none
    exact fq_ret h_u trivial
  refine fq_if ?_ ?_
  · refine fq_if ?_ fq_none
    refine fq_bR h_u hP h_a0 (fun q29 h_q29 => ?_)
    refine fq_if ?_ fq_none
    exact fq_ret h_u trivial
  refine fq_if ?_ ?_
  · refine fq_if ?_ fq_none
    refine fq_bR h_u hP h_a0 (fun q30 h_q30 => ?_)
    refine fq_if ?_ fq_none
    exact fq_ret h_u trivial
  exact fq_ret h_u trivial
set_option maxRecDepth 20000 in
theorem fr_X10_image {P : Nat → Prop} (N : Nat)   (a0 : Nat) (p1 : Int32) (u : SG) : Cl P u → P a0 → FQ P u (fun _ => True) (fX10_image N  a0 p1 u) := by
  intro hP h_a0
  have h_u : Fr P u u := Fr.rf
  unfold fX10_image
  refine fq_if ?_ ?_
  · exact fq_ret h_u trivial
  · refine fq_if ?_ ?_
    · refine fq_if ?_ fq_none
      refine fq_bR h_u hP h_a0 (fun q1 h_q1 => ?_)
      refine fq_if (fq_if fq_none ?_) fq_none
      refine fq_if ?_ fq_none
      refine fq_bR h_u hP h_a0 (fun q2 h_q2 => ?_)
      refine fq_bR h_u hP h_q1 (fun q3 h_q3 => ?_)
      refine fq_if (fq_cl h_u (fr_X6_copyOf N q3 q2 u (hP.tr h_u) h_q3 h_q2) (fun r4 u5 h_u5 h_r4 => ?_)) fq_none
      refine fq_if ?_ fq_none
      refine fq_bR h_u5 hP h_a0 (fun q6 h_q6 => ?_)
      refine fq_if (fq_if fq_none ?_) fq_none
      refine fq_bR h_u5 hP h_q6 (fun q7 h_q7 => ?_)
      refine fq_if (fq_if (fq_sI h_u5 h_q7 (fun u8 h_u8 => ?_)) fq_none) fq_none
      refine fq_if ?_ fq_none
      refine fq_bR h_u8 hP h_a0 (fun q9 h_q9 => ?_)
      refine fq_if ?_ fq_none
      refine fq_bR h_u8 hP h_q9 (fun q10 h_q10 => ?_)
      refine fq_if ?_ fq_none
      exact fq_ret h_u8 trivial
    · exact fq_ret h_u trivial
set_option maxRecDepth 20000 in
theorem fr_X10_back {P : Nat → Prop} (N : Nat)   (a0 : Nat) (p1 : Int32) (u : SG) : Cl P u → P a0 → FQ P u (fun _ => True) (fX10_back N  a0 p1 u) := by
  intro hP h_a0
  have h_u : Fr P u u := Fr.rf
  unfold fX10_back
  refine fq_if ?_ ?_
  · exact fq_ret h_u trivial
  · refine fq_if ?_ ?_
    · exact fq_ret h_u trivial
    · refine fq_if ?_ fq_none
      refine fq_bR h_u hP h_a0 (fun q1 h_q1 => ?_)
      refine fq_if (fq_if fq_none ?_) fq_none
      refine fq_bR h_u hP h_q1 (fun q2 h_q2 => ?_)
      refine fq_if ?_ fq_none
      refine fq_if ?_ ?_
      · exact fq_ret h_u trivial
      · refine fq_if ?_ fq_none
        refine fq_bR h_u hP h_a0 (fun q3 h_q3 => ?_)
        refine fq_if ?_ fq_none
        refine fq_bR h_u hP h_a0 (fun q4 h_q4 => ?_)
        refine fq_if (fq_if fq_none ?_) fq_none
        refine fq_bR h_u hP h_q4 (fun q5 h_q5 => ?_)
        refine fq_if (fq_cl h_u (fr_X6_copyOf N q3 q5 u (hP.tr h_u) h_q3 h_q5) (fun r6 u7 h_u7 h_r6 => ?_)) fq_none
        refine fq_if ?_ fq_none
        refine fq_bR h_u7 hP h_a0 (fun q8 h_q8 => ?_)
        refine fq_if (fq_cl h_u7 (fr_X0_clear N q8  u7 (hP.tr h_u7) h_q8 ) (fun r9 u10 h_u10 h_r9 => ?_)) fq_none
        refine fq_if ?_ fq_none
        refine fq_bR h_u10 hP h_a0 (fun q11 h_q11 => ?_)
        refine fq_if ?_ fq_none
        refine fq_bR h_u10 hP h_q11 (fun q12 h_q12 => ?_)
        refine fq_if ?_ fq_none
        exact fq_ret h_u10 trivial
