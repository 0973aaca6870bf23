set_option maxRecDepth 20000 in
theorem fr_X11_in {P : Nat → Prop} (N : Nat)   (p1 : Int64) (p2 : Int64) (p3 : Int64) (u : SG) : Cl P u → FQ P u (fun _ => True) (fX11_in N  p1 p2 p3 u) := by
  intro hP
  have h_u : Fr P u u := Fr.rf
  unfold fX11_in
  refine fq_if ?_ ?_
  · exact fq_ret h_u trivial
  · refine fq_if ?_ ?_
    · exact fq_ret h_u trivial
    · exact fq_ret h_u trivial
set_option maxRecDepth 20000 in
theorem fr_X11_isOf {P : Nat → Prop} (N : Nat)   (p1 : Int32) (p2 : Int32) (u : SG) : Cl P u → FQ P u (fun _ => True) (fX11_isOf N  p1 p2 u) := by
  intro hP
  have h_u : Fr P u u := Fr.rf
  unfold fX11_isOf
  refine fq_if ?_ ?_
  · exact fq_ret h_u trivial
  · exact fq_ret h_u trivial
set_option maxRecDepth 20000 in
theorem frgX11_bits_4 {P : Nat → Prop} (N : Nat)     : ∀ (n : Nat) (x1 : Int32) (x2 : Int32) (u : SG), Cl P u → FQ P u (fun _ => True) (gX11_bits_4 N   n x1 x2 u) := by
  intro n
  induction n with
  | zero => intros; intro r u9 h9; exact absurd h9 (by simp [gX11_bits_4])
  | succ n ih =>
    intro x1 x2 u hP
    have hrec4 := ih
    have h_u : Fr P u u := Fr.rf
    rw [gX11_bits_4]
    refine fq_if ?_ ?_
    · exact fq_ret h_u trivial
    · refine fq_bs (fun v1 => ?_)
      exact fq_tr h_u (hrec4 (x1 + (1 : Int32)) v1 u (hP.tr h_u))
set_option maxRecDepth 20000 in
theorem fr_X11_bits {P : Nat → Prop} (N : Nat)   (p1 : Int32) (u : SG) : Cl P u → FQ P u (fun _ => True) (fX11_bits N  p1 u) := by
  intro hP
  have h_u : Fr P u u := Fr.rf
  unfold fX11_bits
  exact fq_tr h_u (frgX11_bits_4 N   N (0 : Int32) p1 u (hP.tr h_u))
set_option maxRecDepth 20000 in
theorem frgX11_four_3 {P : Nat → Prop} (N : Nat)     : ∀ (n : Nat) (x0 : Nat) (x1 : Int32) (x2 : Int32) (u : SG), Cl P u → P x0 → FQ P u (fun _ => True) (gX11_four_3 N   n x0 x1 x2 u) := by
  intro n
  induction n with
  | zero => intros; intro r u9 h9; exact absurd h9 (by simp [gX11_four_3])
  | succ n ih =>
    intro x0 x1 x2 u hP h_x0
    have hrec3 := ih
    have h_u : Fr P u u := Fr.rf
    rw [gX11_four_3]
    refine fq_if ?_ ?_
    · exact fq_ret h_u trivial
    · refine fq_if ?_ fq_none
      refine fq_bR h_u hP h_x0 (fun q1 h_q1 => ?_)
      refine fq_if ?_ fq_none
      refine fq_if (fq_if fq_none (fq_sI h_u h_q1 (fun u2 h_u2 => ?_))) fq_none
      refine fq_if ?_ fq_none
      refine fq_if (fq_sI h_u2 h_x0 (fun u3 h_u3 => ?_)) fq_none
      exact fq_tr h_u3 (hrec3 x0 x1 (x2 + (-8 : Int32)) u3 (hP.tr h_u3) h_x0)
set_option maxRecDepth 20000 in
theorem fr_X11_four {P : Nat → Prop} (N : Nat)   (a0 : Nat) (p1 : Int32) (u : SG) : Cl P u → P a0 → FQ P u (fun _ => True) (fX11_four N  a0 p1 u) := by
  intro hP h_a0
  have h_u : Fr P u u := Fr.rf
  unfold fX11_four
  exact fq_tr h_u (frgX11_four_3 N   N a0 p1 (24 : Int32) u (hP.tr h_u) h_a0)
set_option maxRecDepth 20000 in
theorem fr_X11_feed {P : Nat → Prop} (N : Nat)   (a0 : Nat) (p1 : Int32) (p2 : Int32) (p3 : Int32) (p4 : Int32) (p5 : Int32) (u : SG) : Cl P u → P a0 → FQ P u (fun _ => True) (fX11_feed N  a0 p1 p2 p3 p4 p5 u) := by
  intro hP h_a0
  have h_u : Fr P u u := Fr.rf
  unfold fX11_feed
  refine fq_if ?_ fq_none
  refine fq_if ?_ ?_
  · refine fq_if (fq_cl h_u (fr_X11_four N a0 p1 u (hP.tr h_u) h_a0 ) (fun r1 u2 h_u2 h_r1 => ?_)) fq_none
    refine fq_if (fq_cl h_u2 (fr_X11_four N a0 p2 u2 (hP.tr h_u2) h_a0 ) (fun r3 u4 h_u4 h_r3 => ?_)) fq_none
    refine fq_if (fq_cl h_u4 (fr_X11_four N a0 p3 u4 (hP.tr h_u4) h_a0 ) (fun r5 u6 h_u6 h_r5 => ?_)) fq_none
    refine fq_if (fq_cl h_u6 (fr_X11_four N a0 p4 u6 (hP.tr h_u6) h_a0 ) (fun r7 u8 h_u8 h_r7 => ?_)) fq_none
    refine fq_if (fq_cl h_u8 (fr_X11_four N a0 p5 u8 (hP.tr h_u8) h_a0 ) (fun r9 u10 h_u10 h_r9 => ?_)) fq_none
    refine fq_if ?_ fq_none
    exact fq_ret h_u10 trivial
  · exact fq_ret h_u trivial
set_option maxRecDepth 20000 in
theorem fr_X11_end {P : Nat → Prop} (N : Nat)   (a0 : Nat) (p1 : Int32) (u : SG) : Cl P u → P a0 → FQ P u (fun _ => True) (fX11_end N  a0 p1 u) := by
  intro hP h_a0
  have h_u : Fr P u u := Fr.rf
  unfold fX11_end
  refine fq_if ?_ ?_
  · exact fq_ret h_u trivial
  · refine fq_if ?_ fq_none
    refine fq_if ?_ ?_
    · refine fq_if (fq_sI h_u h_a0 (fun u1 h_u1 => ?_)) fq_none
      exact fq_ret h_u1 trivial
    · exact fq_ret h_u trivial
set_option maxRecDepth 20000 in
theorem fr_X11_fails {P : Nat → Prop} (N : Nat)   (a0 : Nat) (p1 : Int32) (p2 : Int32) (u : SG) : Cl P u → P a0 → FQ P u (fun _ => True) (fX11_fails N  a0 p1 p2 u) := by
  intro hP h_a0
  have h_u : Fr P u u := Fr.rf
  unfold fX11_fails
  refine fq_if ?_ fq_none
  refine fq_if ?_ ?_
  · refine fq_if (fq_sI h_u h_a0 (fun u1 h_u1 => ?_)) fq_none
    exact fq_ret h_u1 trivial
  · exact fq_ret h_u trivial
set_option maxRecDepth 20000 in
theorem frgX11_see_38 {P : Nat → Prop} (N : Nat)     (x0 : Nat) (u : SG) : Cl P u → P x0 → FQ P u (fun _ => True) (gX11_see_38 N   x0 u) := by
  intro hP h_x0
  have h_u : Fr P u u := Fr.rf
  unfold gX11_see_38
  refine fq_if ?_ fq_none
  refine fq_if ?_ fq_none
  refine fq_if ?_ ?_
  · exact fq_ret h_u trivial
  · refine fq_if ?_ fq_none
    refine fq_bR h_u hP h_x0 (fun q1 h_q1 => ?_)
    refine fq_if ?_ fq_none
    refine fq_if (fq_if fq_none ?_) fq_none
    exact fq_ret h_u trivial
set_option maxRecDepth 20000 in
theorem frgX11_see_0 {P : Nat → Prop} (N : Nat)     : ∀ (n : Nat) (x0 : Nat) (u : SG), Cl P u → P x0 → FQ P u (fun _ => True) (gX11_see_0 N   n x0 u) := by
  intro n
  induction n with
  | zero => intros; intro r u9 h9; exact absurd h9 (by simp [gX11_see_0])
  | succ n ih =>
    intro x0 u hP h_x0
    have hrec0 := ih
    have h_u : Fr P u u := Fr.rf
    rw [gX11_see_0]
    refine fq_if ?_ fq_none
    refine fq_if ?_ fq_none
    refine fq_if ?_ ?_
    · exact fq_tr h_u (frgX11_see_38 N   x0 u (hP.tr h_u) h_x0)
    · refine fq_if ?_ fq_none
      refine fq_bR h_u hP h_x0 (fun q1 h_q1 => ?_)
      refine fq_if ?_ fq_none
      refine fq_if (fq_if fq_none ?_) fq_none
      refine fq_if ?_ ?_
      · refine fq_if ?_ fq_none
        refine fq_if (fq_sI h_u h_x0 (fun u2 h_u2 => ?_)) fq_none
        exact fq_tr h_u2 (hrec0 x0 u2 (hP.tr h_u2) h_x0)
      · exact fq_tr h_u (frgX11_see_38 N   x0 u (hP.tr h_u) h_x0)
set_option maxRecDepth 20000 in
theorem fr_X11_see {P : Nat → Prop} (N : Nat)   (a0 : Nat) (u : SG) : Cl P u → P a0 → FQ P u (fun _ => True) (fX11_see N  a0 u) := by
  intro hP h_a0
  have h_u : Fr P u u := Fr.rf
  unfold fX11_see
  exact fq_tr h_u (frgX11_see_0 N   N a0 u (hP.tr h_u) h_a0)
set_option maxRecDepth 20000 in
theorem fr_X11_isDigit {P : Nat → Prop} (N : Nat)   (a0 : Nat) (p1 : Int32) (u : SG) : Cl P u → P a0 → FQ P u (fun _ => True) (fX11_isDigit N  a0 p1 u) := by
  intro hP h_a0
  have h_u : Fr P u u := Fr.rf
  unfold fX11_isDigit
  refine fq_if ?_ fq_none
  refine fq_if ?_ ?_
  · exact fq_ret h_u trivial
  · refine fq_if ?_ fq_none
    refine fq_bR h_u hP h_a0 (fun q1 h_q1 => ?_)
    refine fq_if (fq_if fq_none ?_) fq_none
    refine fq_if ?_ ?_
    · exact fq_ret h_u trivial
    · refine fq_if ?_ fq_none
      refine fq_bR h_u hP h_a0 (fun q2 h_q2 => ?_)
      refine fq_if (fq_if fq_none ?_) fq_none
      refine fq_if ?_ ?_
      · exact fq_ret h_u trivial
      · exact fq_ret h_u trivial
set_option maxRecDepth 20000 in
theorem fr_X11_isLetter {P : Nat → Prop} (N : Nat)   (a0 : Nat) (p1 : Int32) (u : SG) : Cl P u → P a0 → FQ P u (fun _ => True) (fX11_isLetter N  a0 p1 u) := by
  intro hP h_a0
  have h_u : Fr P u u := Fr.rf
  unfold fX11_isLetter
  refine fq_if ?_ fq_none
  refine fq_if ?_ ?_
  · exact fq_ret h_u trivial
  · refine fq_if ?_ fq_none
    refine fq_bR h_u hP h_a0 (fun q1 h_q1 => ?_)
    refine fq_if (fq_if fq_none ?_) fq_none
    refine fq_if ?_ ?_
    · exact fq_ret h_u trivial
    · refine fq_if ?_ fq_none
      refine fq_bR h_u hP h_a0 (fun q2 h_q2 => ?_)
      refine fq_if (fq_if fq_none ?_) fq_none
      refine fq_if ?_ ?_
      · exact fq_ret h_u trivial
      · exact fq_ret h_u trivial
set_option maxRecDepth 20000 in
theorem frgX11_isWord_10 {P : Nat → Prop} (N : Nat)     : ∀ (n : Nat) (x0 : Nat) (x1 : Int64) (x3 : Int64) (x5 : Int32) (u : SG), Cl P u → P x0 → FQ P u (fun _ => True) (gX11_isWord_10 N   n x0 x1 x3 x5 u) := by
  intro n
  induction n with
  | zero => intros; intro r u9 h9; exact absurd h9 (by simp [gX11_isWord_10])
  | succ n ih =>
    intro x0 x1 x3 x5 u hP h_x0
    have hrec10 := ih
    have h_u : Fr P u u := Fr.rf
    rw [gX11_isWord_10]
    refine fq_if ?_ fq_none
    refine fq_if (fq_cl h_u (fr_X11_isLetter N x0 ((zI u x0 8) + x5) u (hP.tr h_u) h_x0 ) (fun r1 u2 h_u2 h_r1 => ?_)) fq_none
    refine fq_if ?_ ?_
    · refine fq_if ?_ ?_
      · exact fq_ret h_u2 trivial
      · refine fq_if ?_ ?_
        · exact fq_ret h_u2 trivial
        · refine fq_if ?_ ?_
          · exact fq_ret h_u2 trivial
          · exact fq_ret h_u2 trivial
    · refine fq_if ?_ ?_
      · exact fq_tr h_u2 (hrec10 x0 x1 x3 (x5 + (1 : Int32)) u2 (hP.tr h_u2) h_x0)
      · refine fq_if ?_ fq_none
        refine fq_bR h_u2 hP h_x0 (fun q3 h_q3 => ?_)
        refine fq_if ?_ fq_none
        refine fq_if (fq_if fq_none ?_) fq_none
        refine fq_bs (fun v4 => ?_)
        exact fq_tr h_u2 (hrec10 x0 x1 v4 (x5 + (1 : Int32)) u2 (hP.tr h_u2) h_x0)
set_option maxRecDepth 20000 in
theorem fr_X11_isWord {P : Nat → Prop} (N : Nat)   (a0 : Nat) (p1 : Int64) (u : SG) : Cl P u → P a0 → FQ P u (fun _ => True) (fX11_isWord N  a0 p1 u) := by
  intro hP h_a0
  have h_u : Fr P u u := Fr.rf
  unfold fX11_isWord
  refine fq_if (fq_cl h_u (fr_X11_see N a0  u (hP.tr h_u) h_a0 ) (fun r1 u2 h_u2 h_r1 => ?_)) fq_none
  exact fq_tr h_u2 (frgX11_isWord_10 N   N a0 p1 (0 : Int64) (0 : Int32) u2 (hP.tr h_u2) h_a0)
set_option maxRecDepth 20000 in
theorem frgX11_passWord_0 {P : Nat → Prop} (N : Nat)     : ∀ (n : Nat) (x0 : Nat) (u : SG), Cl P u → P x0 → FQ P u (fun _ => True) (gX11_passWord_0 N   n x0 u) := by
  intro n
  induction n with
  | zero => intros; intro r u9 h9; exact absurd h9 (by simp [gX11_passWord_0])
  | succ n ih =>
    intro x0 u hP h_x0
    have hrec0 := ih
    have h_u : Fr P u u := Fr.rf
    rw [gX11_passWord_0]
    refine fq_if ?_ fq_none
    refine fq_if (fq_cl h_u (fr_X11_isLetter N x0 (zI u x0 8) u (hP.tr h_u) h_x0 ) (fun r1 u2 h_u2 h_r1 => ?_)) fq_none
    refine fq_if ?_ ?_
    · exact fq_ret h_u2 trivial
    · refine fq_if ?_ fq_none
      refine fq_if (fq_sI h_u2 h_x0 (fun u3 h_u3 => ?_)) fq_none
      exact fq_tr h_u3 (hrec0 x0 u3 (hP.tr h_u3) h_x0)
set_option maxRecDepth 20000 in
theorem fr_X11_passWord {P : Nat → Prop} (N : Nat)   (a0 : Nat) (u : SG) : Cl P u → P a0 → FQ P u (fun _ => True) (fX11_passWord N  a0 u) := by
  intro hP h_a0
  have h_u : Fr P u u := Fr.rf
  unfold fX11_passWord
  exact fq_tr h_u (frgX11_passWord_0 N   N a0 u (hP.tr h_u) h_a0)
set_option maxRecDepth 20000 in
theorem fr_X11_takesWord {P : Nat → Prop} (N : Nat)   (a0 : Nat) (p1 : Int64) (u : SG) : Cl P u → P a0 → FQ P u (fun _ => True) (fX11_takesWord N  a0 p1 u) := by
  intro hP h_a0
  have h_u : Fr P u u := Fr.rf
  unfold fX11_takesWord
  refine fq_if (fq_cl h_u (fr_X11_isWord N a0 p1 u (hP.tr h_u) h_a0 ) (fun r1 u2 h_u2 h_r1 => ?_)) fq_none
  refine fq_if ?_ ?_
  · exact fq_ret h_u2 trivial
  · refine fq_if (fq_cl h_u2 (fr_X11_passWord N a0  u2 (hP.tr h_u2) h_a0 ) (fun r3 u4 h_u4 h_r3 => ?_)) fq_none
    exact fq_ret h_u4 trivial
set_option maxRecDepth 20000 in
theorem frgX11_numberHere_117 {P : Nat → Prop} (N : Nat)     (x0 : Nat) (x3 : Int32) (u : SG) : Cl P u → P x0 → FQ P u (fun _ => True) (gX11_numberHere_117 N   x0 x3 u) := by
  intro hP h_x0
  have h_u : Fr P u u := Fr.rf
  unfold gX11_numberHere_117
  refine fq_if (fq_cl h_u (fr_X11_fails N x0 (1 : Int32) x3 u (hP.tr h_u) h_x0 ) (fun r1 u2 h_u2 h_r1 => ?_)) fq_none
  refine fq_if ?_ ?_
  · exact fq_ret h_u2 trivial
  · exact fq_ret h_u2 trivial
set_option maxRecDepth 20000 in
theorem frgX11_numberHere_34 {P : Nat → Prop} (N : Nat)     : ∀ (n : Nat) (x0 : Nat) (x1 : Int32) (x2 : Int32) (x3 : Int32) (x4 : Int32) (u : SG), Cl P u → P x0 → FQ P u (fun _ => True) (gX11_numberHere_34 N   n x0 x1 x2 x3 x4 u) := by
  intro n
  induction n with
  | zero => intros; intro r u9 h9; exact absurd h9 (by simp [gX11_numberHere_34])
  | succ n ih =>
    intro x0 x1 x2 x3 x4 u hP h_x0
    have hrec34 := ih
    have h_u : Fr P u u := Fr.rf
    rw [gX11_numberHere_34]
    refine fq_if ?_ fq_none
    refine fq_if (fq_cl h_u (fr_X11_isDigit N x0 (zI u x0 8) u (hP.tr h_u) h_x0 ) (fun r1 u2 h_u2 h_r1 => ?_)) fq_none
    refine fq_if ?_ ?_
    · refine fq_if (fq_sI h_u2 h_x0 (fun u3 h_u3 => ?_)) fq_none
      refine fq_if ?_ fq_none
      refine fq_if ?_ ?_
      · exact fq_tr h_u3 (frgX11_numberHere_117 N   x0 x3 u3 (hP.tr h_u3) h_x0)
      · refine fq_cl h_u3 (fr_X11_in N x4.toInt64 x1.toInt64 x2.toInt64 u3 (hP.tr h_u3) ) (fun r4 u5 h_u5 h_r4 => ?_)
        refine fq_if ?_ ?_
        · exact fq_tr h_u5 (frgX11_numberHere_117 N   x0 x3 u5 (hP.tr h_u5) h_x0)
        · exact fq_ret h_u5 trivial
    · refine fq_if ?_ fq_none
      refine fq_if ?_ ?_
      · refine fq_if ?_ fq_none
        refine fq_if (fq_sI h_u2 h_x0 (fun u6 h_u6 => ?_)) fq_none
        exact fq_tr h_u6 (hrec34 x0 x1 x2 x3 x4 u6 (hP.tr h_u6) h_x0)
      · refine fq_if ?_ fq_none
        refine fq_bR h_u2 hP h_x0 (fun q7 h_q7 => ?_)
        refine fq_if ?_ fq_none
        refine fq_if (fq_if fq_none ?_) fq_none
        refine fq_bs (fun v8 => ?_)
        refine fq_if ?_ fq_none
        refine fq_if (fq_sI h_u2 h_x0 (fun u9 h_u9 => ?_)) fq_none
        exact fq_tr h_u9 (hrec34 x0 x1 x2 x3 v8 u9 (hP.tr h_u9) h_x0)
set_option maxRecDepth 20000 in
theorem fr_X11_numberHere {P : Nat → Prop} (N : Nat)   (a0 : Nat) (p1 : Int32) (p2 : Int32) (u : SG) : Cl P u → P a0 → FQ P u (fun _ => True) (fX11_numberHere N  a0 p1 p2 u) := by
  intro hP h_a0
  have h_u : Fr P u u := Fr.rf
  unfold fX11_numberHere
  refine fq_if (fq_cl h_u (fr_X11_see N a0  u (hP.tr h_u) h_a0 ) (fun r1 u2 h_u2 h_r1 => ?_)) fq_none
  refine fq_if ?_ fq_none
  refine fq_if (fq_cl h_u2 (fr_X11_isDigit N a0 (zI u2 a0 8) u2 (hP.tr h_u2) h_a0 ) (fun r3 u4 h_u4 h_r3 => ?_)) fq_none
  refine fq_if ?_ ?_
  · refine fq_if ?_ fq_none
    refine fq_if (fq_cl h_u4 (fr_X11_fails N a0 (0 : Int32) (zI u4 a0 8) u4 (hP.tr h_u4) h_a0 ) (fun r6 u7 h_u7 h_r6 => ?_)) fq_none
    exact fq_if (fq_ret h_u7 trivial) fq_none
  · refine fq_if ?_ fq_none
    refine fq_bs (fun v5 => ?_)
    exact fq_tr h_u4 (frgX11_numberHere_34 N   N a0 p1 p2 v5 (0 : Int32) u4 (hP.tr h_u4) h_a0)
set_option maxRecDepth 20000 in
theorem fr_X11_wordHere {P : Nat → Prop} (N : Nat)   (a0 : Nat) (u : SG) : Cl P u → P a0 → FQ P u (fun _ => True) (fX11_wordHere N  a0 u) := by
  intro hP h_a0
  have h_u : Fr P u u := Fr.rf
  unfold fX11_wordHere
  refine fq_if (fq_cl h_u (fr_X11_isWord N a0 (123581014175598 : Int64) u (hP.tr h_u) h_a0 ) (fun r1 u2 h_u2 h_r1 => ?_)) fq_none
  refine fq_if ?_ ?_
  · refine fq_if (fq_cl h_u2 (fr_X11_isWord N a0 (1752135026 : Int64) u2 (hP.tr h_u2) h_a0 ) (fun r3 u4 h_u4 h_r3 => ?_)) fq_none
    refine fq_if ?_ ?_
    · refine fq_if (fq_cl h_u4 (fr_X11_isWord N a0 (474214787188 : Int64) u4 (hP.tr h_u4) h_a0 ) (fun r5 u6 h_u6 h_r5 => ?_)) fq_none
      refine fq_if ?_ ?_
      · refine fq_if (fq_cl h_u6 (fr_X11_isWord N a0 (1852138852 : Int64) u6 (hP.tr h_u6) h_a0 ) (fun r7 u8 h_u8 h_r7 => ?_)) fq_none
        refine fq_if ?_ ?_
        · refine fq_if (fq_cl h_u8 (fr_X11_isWord N a0 (512970880104 : Int64) u8 (hP.tr h_u8) h_a0 ) (fun r9 u10 h_u10 h_r9 => ?_)) fq_none
          refine fq_if ?_ ?_
          · refine fq_if (fq_cl h_u10 (fr_X11_isWord N a0 (495739826292 : Int64) u10 (hP.tr h_u10) h_a0 ) (fun r11 u12 h_u12 h_r11 => ?_)) fq_none
            refine fq_if ?_ ?_
            · refine fq_if (fq_cl h_u12 (fr_X11_isWord N a0 (1818584692 : Int64) u12 (hP.tr h_u12) h_a0 ) (fun r13 u14 h_u14 h_r13 => ?_)) fq_none
              refine fq_if ?_ ?_
              · refine fq_if (fq_cl h_u14 (fr_X11_isWord N a0 (1668248436 : Int64) u14 (hP.tr h_u14) h_a0 ) (fun r15 u16 h_u16 h_r15 => ?_)) fq_none
                refine fq_if ?_ ?_
                · refine fq_if (fq_cl h_u16 (fr_X11_isWord N a0 (122545758368371 : Int64) u16 (hP.tr h_u16) h_a0 ) (fun r17 u18 h_u18 h_r17 => ?_)) fq_none
                  refine fq_if ?_ ?_
                  · refine fq_if (fq_cl h_u18 (fr_X11_isWord N a0 (107148367717744 : Int64) u18 (hP.tr h_u18) h_a0 ) (fun r19 u20 h_u20 h_r19 => ?_)) fq_none
                    refine fq_if ?_ ?_
                    · refine fq_if (fq_cl h_u20 (fr_X11_isWord N a0 (1870095716 : Int64) u20 (hP.tr h_u20) h_a0 ) (fun r21 u22 h_u22 h_r21 => ?_)) fq_none
                      refine fq_if ?_ ?_
                      · refine fq_if (fq_cl h_u22 (fr_X11_isWord N a0 (1684365940 : Int64) u22 (hP.tr h_u22) h_a0 ) (fun r23 u24 h_u24 h_r23 => ?_)) fq_none
                        refine fq_if ?_ ?_
                        · refine fq_if (fq_cl h_u24 (fr_X11_isWord N a0 (7305070 : Int64) u24 (hP.tr h_u24) h_a0 ) (fun r25 u26 h_u26 h_r25 => ?_)) fq_none
                          refine fq_if ?_ ?_
                          · exact fq_ret h_u26 trivial
                          · exact fq_ret h_u26 trivial
                        · exact fq_ret h_u24 trivial
                      · exact fq_ret h_u22 trivial
                    · exact fq_ret h_u20 trivial
                  · exact fq_ret h_u18 trivial
                · exact fq_ret h_u16 trivial
              · exact fq_ret h_u14 trivial
            · exact fq_ret h_u12 trivial
          · exact fq_ret h_u10 trivial
        · exact fq_ret h_u8 trivial
      · exact fq_ret h_u6 trivial
    · exact fq_ret h_u4 trivial
  · exact fq_ret h_u2 trivial
set_option maxRecDepth 20000 in
theorem fr_X11_puts {P : Nat → Prop} (N : Nat)   (a0 : Nat) (p1 : Int32) (p2 : Int32) (u : SG) : Cl P u → P a0 → FQ P u (fun _ => True) (fX11_puts N  a0 p1 p2 u) := by
  intro hP h_a0
  have h_u : Fr P u u := Fr.rf
  unfold fX11_puts
  refine fq_if ?_ fq_none
  refine fq_bR h_u hP h_a0 (fun q1 h_q1 => ?_)
  refine fq_if ?_ fq_none
  refine fq_if ?_ fq_none
  refine fq_bR h_u hP h_a0 (fun q2 h_q2 => ?_)
  refine fq_if ?_ fq_none
  refine fq_if (fq_if fq_none ?_) fq_none
  refine fq_if (fq_if fq_none (fq_sI h_u h_q1 (fun u3 h_u3 => ?_))) fq_none
  refine fq_if ?_ fq_none
  refine fq_bR h_u3 hP h_a0 (fun q4 h_q4 => ?_)
  refine fq_if ?_ fq_none
  refine fq_if (fq_if fq_none ?_) fq_none
  refine fq_if (fq_if fq_none (fq_sI h_u3 h_q4 (fun u5 h_u5 => ?_))) fq_none
  exact fq_ret h_u5 trivial
set_option maxRecDepth 20000 in
theorem fr_X11_makes {P : Nat → Prop} (N : Nat)   (a0 : Nat) (p1 : Int32) (u : SG) : Cl P u → P a0 → FQ P u (fun _ => True) (fX11_makes N  a0 p1 u) := by
  intro hP h_a0
  have h_u : Fr P u u := Fr.rf
  unfold fX11_makes
  refine fq_if ?_ fq_none
  refine fq_if ?_ ?_
  · refine fq_if (fq_cl h_u (fr_X11_fails N a0 (3 : Int32) p1 u (hP.tr h_u) h_a0 ) (fun r2 u3 h_u3 h_r2 => ?_)) fq_none
    exact fq_if (fq_ret h_u3 trivial) fq_none
  · refine fq_if ?_ fq_none
    refine fq_if (fq_sI h_u h_a0 (fun u1 h_u1 => ?_)) fq_none
    exact fq_ret h_u1 trivial
set_option maxRecDepth 20000 in
theorem fr_X11_opens {P : Nat → Prop} (N : Nat)   (a0 : Nat) (p1 : Int32) (u : SG) : Cl P u → P a0 → FQ P u (fun _ => True) (fX11_opens N  a0 p1 u) := by
  intro hP h_a0
  have h_u : Fr P u u := Fr.rf
  unfold fX11_opens
  refine fq_if ?_ fq_none
  refine fq_if ?_ ?_
  · refine fq_if ?_ fq_none
    refine fq_if (fq_cl h_u (fr_X11_fails N a0 (2 : Int32) (zI u a0 8) u (hP.tr h_u) h_a0 ) (fun r5 u6 h_u6 h_r5 => ?_)) fq_none
    exact fq_if (fq_ret h_u6 trivial) fq_none
  · refine fq_if ?_ fq_none
    refine fq_if (fq_sI h_u h_a0 (fun u1 h_u1 => ?_)) fq_none
    refine fq_if ?_ fq_none
    refine fq_bR h_u1 hP h_a0 (fun q2 h_q2 => ?_)
    refine fq_if ?_ fq_none
    refine fq_if (fq_if fq_none (fq_sI h_u1 h_q2 (fun u3 h_u3 => ?_))) fq_none
    refine fq_if ?_ fq_none
    refine fq_if (fq_sI h_u3 h_a0 (fun u4 h_u4 => ?_)) fq_none
    exact fq_ret h_u4 trivial
set_option maxRecDepth 20000 in
theorem fr_X11_strength {P : Nat → Prop} (N : Nat)   (p1 : Int32) (u : SG) : Cl P u → FQ P u (fun _ => True) (fX11_strength N  p1 u) := by
  intro hP
  have h_u : Fr P u u := Fr.rf
  unfold fX11_strength
  refine fq_if ?_ ?_
  · exact fq_ret h_u trivial
  · refine fq_if ?_ ?_
    · exact fq_ret h_u trivial
    · refine fq_if ?_ ?_
      · exact fq_ret h_u trivial
      · exact fq_ret h_u trivial
set_option maxRecDepth 20000 in
theorem frgX11_settles_0 {P : Nat → Prop} (N : Nat)     : ∀ (n : Nat) (x0 : Nat) (x1 : Int32) (u : SG), Cl P u → P x0 → FQ P u (fun _ => True) (gX11_settles_0 N   n x0 x1 u) := by
  intro n
  induction n with
  | zero => intros; intro r u9 h9; exact absurd h9 (by simp [gX11_settles_0])
  | succ n ih =>
    intro x0 x1 u hP h_x0
    have hrec0 := ih
    have h_u : Fr P u u := Fr.rf
    rw [gX11_settles_0]
    refine fq_if ?_ fq_none
    refine fq_if ?_ ?_
    · exact fq_ret h_u trivial
    · refine fq_if ?_ fq_none
      refine fq_bR h_u hP h_x0 (fun q1 h_q1 => ?_)
      refine fq_if ?_ fq_none
      refine fq_if (fq_if fq_none ?_) fq_none
      refine fq_cl h_u (fr_X11_strength N (zI u q1 ((zI u x0 16) - (1 : Int32)).toNatClampNeg) u (hP.tr h_u) ) (fun r2 u3 h_u3 h_r2 => ?_)
      refine fq_if ?_ ?_
      · exact fq_ret h_u3 trivial
      · refine fq_if ?_ fq_none
        refine fq_if (fq_sI h_u3 h_x0 (fun u4 h_u4 => ?_)) fq_none
        refine fq_if ?_ fq_none
        refine fq_bR h_u4 hP h_x0 (fun q5 h_q5 => ?_)
        refine fq_if ?_ fq_none
        refine fq_if (fq_if fq_none ?_) fq_none
        refine fq_if (fq_cl h_u4 (fr_X11_puts N x0 (zI u4 q5 (zI u4 x0 16).toNatClampNeg) (0 : Int32) u4 (hP.tr h_u4) h_x0 ) (fun r6 u7 h_u7 h_r6 => ?_)) fq_none
        refine fq_if ?_ fq_none
        refine fq_bR h_u7 hP h_x0 (fun q8 h_q8 => ?_)
        refine fq_if ?_ fq_none
        refine fq_if (fq_if fq_none ?_) fq_none
        refine fq_if ?_ ?_
        · refine fq_if ?_ fq_none
          refine fq_if (fq_sI h_u7 h_x0 (fun u9 h_u9 => ?_)) fq_none
          exact fq_tr h_u9 (hrec0 x0 x1 u9 (hP.tr h_u9) h_x0)
        · exact fq_tr h_u7 (hrec0 x0 x1 u7 (hP.tr h_u7) h_x0)
set_option maxRecDepth 20000 in
theorem fr_X11_settles {P : Nat → Prop} (N : Nat)   (a0 : Nat) (p1 : Int32) (u : SG) : Cl P u → P a0 → FQ P u (fun _ => True) (fX11_settles N  a0 p1 u) := by
  intro hP h_a0
  have h_u : Fr P u u := Fr.rf
  unfold fX11_settles
  exact fq_tr h_u (frgX11_settles_0 N   N a0 p1 u (hP.tr h_u) h_a0)
set_option maxRecDepth 20000 in
theorem fr_X11_value {P : Nat → Prop} (N : Nat)   (a0 : Nat) (u : SG) : Cl P u → P a0 → FQ P u (fun _ => True) (fX11_value N  a0 u) := by
  intro hP h_a0
  have h_u : Fr P u u := Fr.rf
  unfold fX11_value
  refine fq_if (fq_cl h_u (fr_X11_see N a0  u (hP.tr h_u) h_a0 ) (fun r1 u2 h_u2 h_r1 => ?_)) fq_none
  refine fq_if ?_ fq_none
  refine fq_bs (fun v3 => ?_)
  refine fq_if ?_ fq_none
  refine fq_if (fq_cl h_u2 (fr_X11_isDigit N a0 (zI u2 a0 8) u2 (hP.tr h_u2) h_a0 ) (fun r4 u5 h_u5 h_r4 => ?_)) fq_none
  refine fq_if ?_ ?_
  · refine fq_if (fq_cl h_u5 (fr_X11_wordHere N a0  u5 (hP.tr h_u5) h_a0 ) (fun r6 u7 h_u7 h_r6 => ?_)) fq_none
    refine fq_if ?_ ?_
    · refine fq_if (fq_cl h_u7 (fr_X11_makes N a0 v3 u7 (hP.tr h_u7) h_a0 ) (fun r8 u9 h_u9 h_r8 => ?_)) fq_none
      refine fq_if ?_ ?_
      · exact fq_ret h_u9 trivial
      · refine fq_if (fq_cl h_u9 (fr_X11_passWord N a0  u9 (hP.tr h_u9) h_a0 ) (fun r10 u11 h_u11 h_r10 => ?_)) fq_none
        refine fq_if (fq_cl h_u11 (fr_X11_puts N a0 (1 : Int32) r6 u11 (hP.tr h_u11) h_a0 ) (fun r12 u13 h_u13 h_r12 => ?_)) fq_none
        exact fq_ret h_u13 trivial
    · refine fq_if (fq_cl h_u7 (fr_X11_fails N a0 (0 : Int32) v3 u7 (hP.tr h_u7) h_a0 ) (fun r14 u15 h_u15 h_r14 => ?_)) fq_none
      exact fq_if (fq_ret h_u15 trivial) fq_none
  · refine fq_if (fq_cl h_u5 (fr_X11_numberHere N a0 (0 : Int32) (99999 : Int32) u5 (hP.tr h_u5) h_a0 ) (fun r16 u17 h_u17 h_r16 => ?_)) fq_none
    refine fq_if ?_ ?_
    · exact fq_ret h_u17 trivial
    · refine fq_if (fq_cl h_u17 (fr_X11_makes N a0 v3 u17 (hP.tr h_u17) h_a0 ) (fun r18 u19 h_u19 h_r18 => ?_)) fq_none
      refine fq_if ?_ ?_
      · exact fq_ret h_u19 trivial
      · refine fq_if ?_ fq_none
        refine fq_if (fq_cl h_u19 (fr_X11_puts N a0 (0 : Int32) (zI u19 a0 10) u19 (hP.tr h_u19) h_a0 ) (fun r20 u21 h_u21 h_r20 => ?_)) fq_none
        exact fq_ret h_u21 trivial
set_option maxRecDepth 20000 in
theorem frgX11_term_74 {P : Nat → Prop} (N : Nat)   (rec9 : Nat → SG → Option (Int32 × SG)) (hrec9 : ∀ (x0 : Nat) (u : SG), Cl P u → P x0 → FQ P u (fun _ => True) (rec9 x0 u)) (x0 : Nat) (s0 : Int32) (u : SG) : Cl P u → P x0 → FQ P u (fun _ => True) (gX11_term_74 N  rec9 x0 s0 u) := by
  intro hP h_x0
  have h_u : Fr P u u := Fr.rf
  unfold gX11_term_74
  refine fq_if ?_ fq_none
  refine fq_if (fq_sI h_u h_x0 (fun u1 h_u1 => ?_)) fq_none
  refine fq_if (fq_cl h_u1 (fr_X11_value N x0  u1 (hP.tr h_u1) h_x0 ) (fun r2 u3 h_u3 h_r2 => ?_)) fq_none
  refine fq_if ?_ ?_
  · exact fq_ret h_u3 trivial
  · refine fq_if (fq_cl h_u3 (fr_X11_puts N x0 s0 (0 : Int32) u3 (hP.tr h_u3) h_x0 ) (fun r4 u5 h_u5 h_r4 => ?_)) fq_none
    exact fq_tr h_u5 (hrec9 x0 u5 (hP.tr h_u5) h_x0)
set_option maxRecDepth 20000 in
theorem frgX11_term_36 {P : Nat → Prop} (N : Nat)   (rec9 : Nat → SG → Option (Int32 × SG)) (hrec9 : ∀ (x0 : Nat) (u : SG), Cl P u → P x0 → FQ P u (fun _ => True) (rec9 x0 u)) (x0 : Nat) (u : SG) : Cl P u → P x0 → FQ P u (fun _ => True) (gX11_term_36 N  rec9 x0 u) := by
  intro hP h_x0
  have h_u : Fr P u u := Fr.rf
  unfold gX11_term_36
  refine fq_if ?_ fq_none
  refine fq_bR h_u hP h_x0 (fun q1 h_q1 => ?_)
  refine fq_if ?_ fq_none
  refine fq_if (fq_if fq_none ?_) fq_none
  refine fq_if ?_ ?_
  · exact fq_tr h_u (frgX11_term_74 N  _ hrec9 x0 (4 : Int32) u (hP.tr h_u) h_x0)
  · refine fq_if ?_ fq_none
    refine fq_bR h_u hP h_x0 (fun q2 h_q2 => ?_)
    refine fq_if ?_ fq_none
    refine fq_if (fq_if fq_none ?_) fq_none
    refine fq_if ?_ ?_
    · exact fq_tr h_u (frgX11_term_74 N  _ hrec9 x0 (5 : Int32) u (hP.tr h_u) h_x0)
    · exact fq_tr h_u (frgX11_term_74 N  _ hrec9 x0 (14 : Int32) u (hP.tr h_u) h_x0)
set_option maxRecDepth 20000 in
theorem frgX11_term_9 {P : Nat → Prop} (N : Nat)     : ∀ (n : Nat) (x0 : Nat) (u : SG), Cl P u → P x0 → FQ P u (fun _ => True) (gX11_term_9 N   n x0 u) := by
  intro n
  induction n with
  | zero => intros; intro r u9 h9; exact absurd h9 (by simp [gX11_term_9])
  | succ n ih =>
    intro x0 u hP h_x0
    have hrec9 := ih
    have h_u : Fr P u u := Fr.rf
    rw [gX11_term_9]
    refine fq_if (fq_cl h_u (fr_X11_see N x0  u (hP.tr h_u) h_x0 ) (fun r1 u2 h_u2 h_r1 => ?_)) fq_none
    refine fq_if ?_ ?_
    · exact fq_tr h_u2 (frgX11_term_36 N  _ hrec9 x0 u2 (hP.tr h_u2) h_x0)
    · refine fq_if (fq_cl h_u2 (fr_X11_see N x0  u2 (hP.tr h_u2) h_x0 ) (fun r3 u4 h_u4 h_r3 => ?_)) fq_none
      refine fq_if ?_ ?_
      · exact fq_tr h_u4 (frgX11_term_36 N  _ hrec9 x0 u4 (hP.tr h_u4) h_x0)
      · refine fq_if (fq_cl h_u4 (fr_X11_see N x0  u4 (hP.tr h_u4) h_x0 ) (fun r5 u6 h_u6 h_r5 => ?_)) fq_none
        refine fq_if ?_ ?_
        · exact fq_tr h_u6 (frgX11_term_36 N  _ hrec9 x0 u6 (hP.tr h_u6) h_x0)
        · exact fq_ret h_u6 trivial
set_option maxRecDepth 20000 in
theorem fr_X11_term {P : Nat → Prop} (N : Nat)   (a0 : Nat) (u : SG) : Cl P u → P a0 → FQ P u (fun _ => True) (fX11_term N  a0 u) := by
  intro hP h_a0
  have h_u : Fr P u u := Fr.rf
  unfold fX11_term
  refine fq_if (fq_cl h_u (fr_X11_value N a0  u (hP.tr h_u) h_a0 ) (fun r1 u2 h_u2 h_r1 => ?_)) fq_none
  refine fq_if ?_ ?_
  · exact fq_ret h_u2 trivial
  · exact fq_tr h_u2 (frgX11_term_9 N   N a0 u2 (hP.tr h_u2) h_a0)
set_option maxRecDepth 20000 in
theorem frgX11_sum_46 {P : Nat → Prop} (N : Nat)   (rec9 : Nat → SG → Option (Int32 × SG)) (hrec9 : ∀ (x0 : Nat) (u : SG), Cl P u → P x0 → FQ P u (fun _ => True) (rec9 x0 u)) (x0 : Nat) (s0 : Int32) (u : SG) : Cl P u → P x0 → FQ P u (fun _ => True) (gX11_sum_46 N  rec9 x0 s0 u) := by
  intro hP h_x0
  have h_u : Fr P u u := Fr.rf
  unfold gX11_sum_46
  refine fq_if ?_ fq_none
  refine fq_if (fq_sI h_u h_x0 (fun u1 h_u1 => ?_)) fq_none
  refine fq_if (fq_cl h_u1 (fr_X11_term N x0  u1 (hP.tr h_u1) h_x0 ) (fun r2 u3 h_u3 h_r2 => ?_)) fq_none
  refine fq_if ?_ ?_
  · exact fq_ret h_u3 trivial
  · refine fq_if (fq_cl h_u3 (fr_X11_puts N x0 s0 (0 : Int32) u3 (hP.tr h_u3) h_x0 ) (fun r4 u5 h_u5 h_r4 => ?_)) fq_none
    exact fq_tr h_u5 (hrec9 x0 u5 (hP.tr h_u5) h_x0)
set_option maxRecDepth 20000 in
theorem frgX11_sum_27 {P : Nat → Prop} (N : Nat)   (rec9 : Nat → SG → Option (Int32 × SG)) (hrec9 : ∀ (x0 : Nat) (u : SG), Cl P u → P x0 → FQ P u (fun _ => True) (rec9 x0 u)) (x0 : Nat) (u : SG) : Cl P u → P x0 → FQ P u (fun _ => True) (gX11_sum_27 N  rec9 x0 u) := by
  intro hP h_x0
  have h_u : Fr P u u := Fr.rf
  unfold gX11_sum_27
  refine fq_if ?_ fq_none
  refine fq_bR h_u hP h_x0 (fun q1 h_q1 => ?_)
  refine fq_if ?_ fq_none
  refine fq_if (fq_if fq_none ?_) fq_none
  refine fq_if ?_ ?_
  · exact fq_tr h_u (frgX11_sum_46 N  _ hrec9 x0 (2 : Int32) u (hP.tr h_u) h_x0)
  · exact fq_tr h_u (frgX11_sum_46 N  _ hrec9 x0 (3 : Int32) u (hP.tr h_u) h_x0)
set_option maxRecDepth 20000 in
theorem frgX11_sum_9 {P : Nat → Prop} (N : Nat)     : ∀ (n : Nat) (x0 : Nat) (u : SG), Cl P u → P x0 → FQ P u (fun _ => True) (gX11_sum_9 N   n x0 u) := by
  intro n
  induction n with
  | zero => intros; intro r u9 h9; exact absurd h9 (by simp [gX11_sum_9])
  | succ n ih =>
    intro x0 u hP h_x0
    have hrec9 := ih
    have h_u : Fr P u u := Fr.rf
    rw [gX11_sum_9]
    refine fq_if (fq_cl h_u (fr_X11_see N x0  u (hP.tr h_u) h_x0 ) (fun r1 u2 h_u2 h_r1 => ?_)) fq_none
    refine fq_if ?_ ?_
    · exact fq_tr h_u2 (frgX11_sum_27 N  _ hrec9 x0 u2 (hP.tr h_u2) h_x0)
    · refine fq_if (fq_cl h_u2 (fr_X11_see N x0  u2 (hP.tr h_u2) h_x0 ) (fun r3 u4 h_u4 h_r3 => ?_)) fq_none
      refine fq_if ?_ ?_
      · exact fq_tr h_u4 (frgX11_sum_27 N  _ hrec9 x0 u4 (hP.tr h_u4) h_x0)
      · exact fq_ret h_u4 trivial
set_option maxRecDepth 20000 in
theorem fr_X11_sum {P : Nat → Prop} (N : Nat)   (a0 : Nat) (u : SG) : Cl P u → P a0 → FQ P u (fun _ => True) (fX11_sum N  a0 u) := by
  intro hP h_a0
  have h_u : Fr P u u := Fr.rf
  unfold fX11_sum
  refine fq_if (fq_cl h_u (fr_X11_term N a0  u (hP.tr h_u) h_a0 ) (fun r1 u2 h_u2 h_r1 => ?_)) fq_none
  refine fq_if ?_ ?_
  · exact fq_ret h_u2 trivial
  · exact fq_tr h_u2 (frgX11_sum_9 N   N a0 u2 (hP.tr h_u2) h_a0)
set_option maxRecDepth 20000 in
theorem frgX11_compare_152 {P : Nat → Prop} (N : Nat)     (x0 : Nat) (s0 : Int32) (u : SG) : Cl P u → P x0 → FQ P u (fun _ => True) (gX11_compare_152 N   x0 s0 u) := by
  intro hP h_x0
  have h_u : Fr P u u := Fr.rf
  unfold gX11_compare_152
  refine fq_if (fq_cl h_u (fr_X11_sum N x0  u (hP.tr h_u) h_x0 ) (fun r1 u2 h_u2 h_r1 => ?_)) fq_none
  refine fq_if ?_ ?_
  · exact fq_ret h_u2 trivial
  · refine fq_if (fq_cl h_u2 (fr_X11_puts N x0 ((6 : Int32) + s0) (0 : Int32) u2 (hP.tr h_u2) h_x0 ) (fun r3 u4 h_u4 h_r3 => ?_)) fq_none
    exact fq_ret h_u4 trivial
set_option maxRecDepth 20000 in
theorem frgX11_compare_105 {P : Nat → Prop} (N : Nat)     (x0 : Nat) (x1 : Int32) (x2 : Int32) (x3 : Int32) (u : SG) : Cl P u → P x0 → FQ P u (fun _ => True) (gX11_compare_105 N   x0 x1 x2 x3 u) := by
  intro hP h_x0
  have h_u : Fr P u u := Fr.rf
  unfold gX11_compare_105
  refine fq_if (fq_cl h_u (fr_X11_makes N x0 x2 u (hP.tr h_u) h_x0 ) (fun r1 u2 h_u2 h_r1 => ?_)) fq_none
  refine fq_if ?_ ?_
  · exact fq_ret h_u2 trivial
  · refine fq_if ?_ ?_
    · refine fq_if ?_ ?_
      · exact fq_tr h_u2 (frgX11_compare_152 N   x0 (0 : Int32) u2 (hP.tr h_u2) h_x0)
      · exact fq_tr h_u2 (frgX11_compare_152 N   x0 (1 : Int32) u2 (hP.tr h_u2) h_x0)
    · refine fq_if ?_ ?_
      · exact fq_tr h_u2 (frgX11_compare_152 N   x0 (2 : Int32) u2 (hP.tr h_u2) h_x0)
      · refine fq_if ?_ ?_
        · exact fq_tr h_u2 (frgX11_compare_152 N   x0 (4 : Int32) u2 (hP.tr h_u2) h_x0)
        · exact fq_tr h_u2 (frgX11_compare_152 N   x0 (3 : Int32) u2 (hP.tr h_u2) h_x0)
set_option maxRecDepth 20000 in
theorem frgX11_compare_90 {P : Nat → Prop} (N : Nat)     (x0 : Nat) (x1 : Int32) (x2 : Int32) (s0 : Int32) (u : SG) : Cl P u → P x0 → FQ P u (fun _ => True) (gX11_compare_90 N   x0 x1 x2 s0 u) := by
  intro hP h_x0
  have h_u : Fr P u u := Fr.rf
  unfold gX11_compare_90
  refine fq_if ?_ ?_
  · exact fq_tr h_u (frgX11_compare_105 N   x0 x1 x2 s0 u (hP.tr h_u) h_x0)
  · refine fq_if ?_ fq_none
    refine fq_if (fq_sI h_u h_x0 (fun u1 h_u1 => ?_)) fq_none
    exact fq_tr h_u1 (frgX11_compare_105 N   x0 x1 x2 s0 u1 (hP.tr h_u1) h_x0)
set_option maxRecDepth 20000 in
theorem frgX11_compare_89 {P : Nat → Prop} (N : Nat)     (x0 : Nat) (x1 : Int32) (x2 : Int32) (u : SG) : Cl P u → P x0 → FQ P u (fun _ => True) (gX11_compare_89 N   x0 x1 x2 u) := by
  intro hP h_x0
  have h_u : Fr P u u := Fr.rf
  unfold gX11_compare_89
  exact fq_tr h_u (frgX11_compare_90 N   x0 x1 x2 (0 : Int32) u (hP.tr h_u) h_x0)
set_option maxRecDepth 20000 in
theorem frgX11_compare_44 {P : Nat → Prop} (N : Nat)     (x0 : Nat) (x1 : Int32) (x2 : Int32) (u : SG) : Cl P u → P x0 → FQ P u (fun _ => True) (gX11_compare_44 N   x0 x1 x2 u) := by
  intro hP h_x0
  have h_u : Fr P u u := Fr.rf
  unfold gX11_compare_44
  refine fq_if ?_ fq_none
  refine fq_if (fq_sI h_u h_x0 (fun u1 h_u1 => ?_)) fq_none
  refine fq_if ?_ ?_
  · exact fq_tr h_u1 (frgX11_compare_89 N   x0 x1 x2 u1 (hP.tr h_u1) h_x0)
  · refine fq_if ?_ fq_none
    refine fq_if ?_ fq_none
    refine fq_if ?_ ?_
    · exact fq_tr h_u1 (frgX11_compare_89 N   x0 x1 x2 u1 (hP.tr h_u1) h_x0)
    · refine fq_if ?_ fq_none
      refine fq_bR h_u1 hP h_x0 (fun q2 h_q2 => ?_)
      refine fq_if ?_ fq_none
      refine fq_if (fq_if fq_none ?_) fq_none
      refine fq_if ?_ ?_
      · exact fq_tr h_u1 (frgX11_compare_90 N   x0 x1 x2 (1 : Int32) u1 (hP.tr h_u1) h_x0)
      · exact fq_tr h_u1 (frgX11_compare_89 N   x0 x1 x2 u1 (hP.tr h_u1) h_x0)
set_option maxRecDepth 20000 in
theorem fr_X11_compare {P : Nat → Prop} (N : Nat)   (a0 : Nat) (u : SG) : Cl P u → P a0 → FQ P u (fun _ => True) (fX11_compare N  a0 u) := by
  intro hP h_a0
  have h_u : Fr P u u := Fr.rf
  unfold fX11_compare
  refine fq_if (fq_cl h_u (fr_X11_sum N a0  u (hP.tr h_u) h_a0 ) (fun r1 u2 h_u2 h_r1 => ?_)) fq_none
  refine fq_if ?_ ?_
  · exact fq_ret h_u2 trivial
  · refine fq_if (fq_cl h_u2 (fr_X11_see N a0  u2 (hP.tr h_u2) h_a0 ) (fun r3 u4 h_u4 h_r3 => ?_)) fq_none
    refine fq_if ?_ fq_none
    refine fq_bs (fun v5 => ?_)
    refine fq_if ?_ ?_
    · exact fq_tr h_u4 (frgX11_compare_44 N   a0 r3 v5 u4 (hP.tr h_u4) h_a0)
    · refine fq_if ?_ ?_
      · exact fq_tr h_u4 (frgX11_compare_44 N   a0 r3 v5 u4 (hP.tr h_u4) h_a0)
      · refine fq_if ?_ ?_
        · exact fq_tr h_u4 (frgX11_compare_44 N   a0 r3 v5 u4 (hP.tr h_u4) h_a0)
        · refine fq_if (fq_cl h_u4 (fr_X11_fails N a0 (0 : Int32) v5 u4 (hP.tr h_u4) h_a0 ) (fun r6 u7 h_u7 h_r6 => ?_)) fq_none
          exact fq_if (fq_ret h_u7 trivial) fq_none
set_option maxRecDepth 20000 in
theorem frgX11_fact_2 {P : Nat → Prop} (N : Nat)     : ∀ (n : Nat) (x0 : Nat) (x1 : Int32) (u : SG), Cl P u → P x0 → FQ P u (fun _ => True) (gX11_fact_2 N   n x0 x1 u) := by
  intro n
  induction n with
  | zero => intros; intro r u9 h9; exact absurd h9 (by simp [gX11_fact_2])
  | succ n ih =>
    intro x0 x1 u hP h_x0
    have hrec2 := ih
    have h_u : Fr P u u := Fr.rf
    rw [gX11_fact_2]
    refine fq_if ?_ ?_
    · refine fq_if (fq_cl h_u (fr_X11_compare N x0  u (hP.tr h_u) h_x0 ) (fun r1 u2 h_u2 h_r1 => ?_)) fq_none
      exact fq_if (fq_ret h_u2 trivial) fq_none
    · refine fq_if (fq_cl h_u (fr_X11_see N x0  u (hP.tr h_u) h_x0 ) (fun r3 u4 h_u4 h_r3 => ?_)) fq_none
      refine fq_if (fq_cl h_u4 (fr_X11_isWord N x0 (7237492 : Int64) u4 (hP.tr h_u4) h_x0 ) (fun r5 u6 h_u6 h_r5 => ?_)) fq_none
      refine fq_if ?_ ?_
      · refine fq_if ?_ ?_
        · refine fq_if (fq_cl h_u6 (fr_X11_opens N x0 (91 : Int32) u6 (hP.tr h_u6) h_x0 ) (fun r7 u8 h_u8 h_r7 => ?_)) fq_none
          refine fq_if ?_ ?_
          · exact fq_ret h_u8 trivial
          · refine fq_if ?_ fq_none
            refine fq_if (fq_sI h_u8 h_x0 (fun u9 h_u9 => ?_)) fq_none
            exact fq_tr h_u9 (hrec2 x0 (1 : Int32) u9 (hP.tr h_u9) h_x0)
        · exact fq_tr h_u6 (hrec2 x0 (0 : Int32) u6 (hP.tr h_u6) h_x0)
      · refine fq_if (fq_cl h_u6 (fr_X11_opens N x0 (11 : Int32) u6 (hP.tr h_u6) h_x0 ) (fun r10 u11 h_u11 h_r10 => ?_)) fq_none
        refine fq_if ?_ ?_
        · exact fq_ret h_u11 trivial
        · refine fq_if (fq_cl h_u11 (fr_X11_passWord N x0  u11 (hP.tr h_u11) h_x0 ) (fun r12 u13 h_u13 h_r12 => ?_)) fq_none
          exact fq_tr h_u13 (hrec2 x0 (1 : Int32) u13 (hP.tr h_u13) h_x0)
set_option maxRecDepth 20000 in
theorem fr_X11_fact {P : Nat → Prop} (N : Nat)   (a0 : Nat) (u : SG) : Cl P u → P a0 → FQ P u (fun _ => True) (fX11_fact N  a0 u) := by
  intro hP h_a0
  have h_u : Fr P u u := Fr.rf
  unfold fX11_fact
  exact fq_tr h_u (frgX11_fact_2 N   N a0 (1 : Int32) u (hP.tr h_u) h_a0)
set_option maxRecDepth 20000 in
theorem frgX11_isInside_2 {P : Nat → Prop} (N : Nat)     : ∀ (n : Nat) (x0 : Nat) (x1 : Int32) (u : SG), Cl P u → P x0 → FQ P u (fun _ => True) (gX11_isInside_2 N   n x0 x1 u) := by
  intro n
  induction n with
  | zero => intros; intro r u9 h9; exact absurd h9 (by simp [gX11_isInside_2])
  | succ n ih =>
    intro x0 x1 u hP h_x0
    have hrec2 := ih
    have h_u : Fr P u u := Fr.rf
    rw [gX11_isInside_2]
    refine fq_if ?_ fq_none
    refine fq_if ?_ ?_
    · exact fq_ret h_u trivial
    · refine fq_if ?_ fq_none
      refine fq_bR h_u hP h_x0 (fun q1 h_q1 => ?_)
      refine fq_if (fq_if fq_none ?_) fq_none
      refine fq_if ?_ ?_
      · exact fq_ret h_u trivial
      · exact fq_tr h_u (hrec2 x0 (x1 + (1 : Int32)) u (hP.tr h_u) h_x0)
set_option maxRecDepth 20000 in
theorem fr_X11_isInside {P : Nat → Prop} (N : Nat)   (a0 : Nat) (u : SG) : Cl P u → P a0 → FQ P u (fun _ => True) (fX11_isInside N  a0 u) := by
  intro hP h_a0
  have h_u : Fr P u u := Fr.rf
  unfold fX11_isInside
  exact fq_tr h_u (frgX11_isInside_2 N   N a0 (0 : Int32) u (hP.tr h_u) h_a0)
set_option maxRecDepth 20000 in
theorem frgX11_closes_5 {P : Nat → Prop} (N : Nat)     : ∀ (n : Nat) (x0 : Nat) (u : SG), Cl P u → P x0 → FQ P u (fun _ => True) (gX11_closes_5 N   n x0 u) := by
  intro n
  induction n with
  | zero => intros; intro r u9 h9; exact absurd h9 (by simp [gX11_closes_5])
  | succ n ih =>
    intro x0 u hP h_x0
    have hrec5 := ih
    have h_u : Fr P u u := Fr.rf
    rw [gX11_closes_5]
    refine fq_if (fq_cl h_u (fr_X11_see N x0  u (hP.tr h_u) h_x0 ) (fun r1 u2 h_u2 h_r1 => ?_)) fq_none
    refine fq_if ?_ ?_
    · refine fq_if (fq_cl h_u2 (fr_X11_isInside N x0  u2 (hP.tr h_u2) h_x0 ) (fun r3 u4 h_u4 h_r3 => ?_)) fq_none
      refine fq_if ?_ ?_
      · exact fq_ret h_u4 trivial
      · refine fq_if (fq_cl h_u4 (fr_X11_settles N x0 (1 : Int32) u4 (hP.tr h_u4) h_x0 ) (fun r5 u6 h_u6 h_r5 => ?_)) fq_none
        refine fq_if ?_ fq_none
        refine fq_if (fq_sI h_u6 h_x0 (fun u7 h_u7 => ?_)) fq_none
        refine fq_if ?_ fq_none
        refine fq_if (fq_sI h_u7 h_x0 (fun u8 h_u8 => ?_)) fq_none
        refine fq_if ?_ fq_none
        refine fq_if (fq_sI h_u8 h_x0 (fun u9 h_u9 => ?_)) fq_none
        refine fq_if (fq_cl h_u9 (fr_X11_settles N x0 (3 : Int32) u9 (hP.tr h_u9) h_x0 ) (fun r10 u11 h_u11 h_r10 => ?_)) fq_none
        exact fq_tr h_u11 (hrec5 x0 u11 (hP.tr h_u11) h_x0)
    · exact fq_ret h_u2 trivial
set_option maxRecDepth 20000 in
theorem fr_X11_closes {P : Nat → Prop} (N : Nat)   (a0 : Nat) (u : SG) : Cl P u → P a0 → FQ P u (fun _ => True) (fX11_closes N  a0 u) := by
  intro hP h_a0
  have h_u : Fr P u u := Fr.rf
  unfold fX11_closes
  refine fq_if (fq_cl h_u (fr_X11_settles N a0 (3 : Int32) u (hP.tr h_u) h_a0 ) (fun r1 u2 h_u2 h_r1 => ?_)) fq_none
  exact fq_tr h_u2 (frgX11_closes_5 N   N a0 u2 (hP.tr h_u2) h_a0)
set_option maxRecDepth 20000 in
theorem frgX11_tested_76 {P : Nat → Prop} (N : Nat)   (rec12 : Nat → Int32 → SG → Option (Int32 × SG)) (hrec12 : ∀ (x0 : Nat) (x1 : Int32) (u : SG), Cl P u → P x0 → FQ P u (fun _ => True) (rec12 x0 x1 u)) (x0 : Nat) (x1 : Int32) (s0 : Int32) (u : SG) : Cl P u → P x0 → FQ P u (fun _ => True) (gX11_tested_76 N  rec12 x0 x1 s0 u) := by
  intro hP h_x0
  have h_u : Fr P u u := Fr.rf
  unfold gX11_tested_76
  refine fq_if (fq_cl h_u (fr_X11_passWord N x0  u (hP.tr h_u) h_x0 ) (fun r1 u2 h_u2 h_r1 => ?_)) fq_none
  refine fq_cl h_u2 (fr_X11_strength N s0 u2 (hP.tr h_u2) ) (fun r3 u4 h_u4 h_r3 => ?_)
  refine fq_if (fq_cl h_u4 (fr_X11_settles N x0 r3 u4 (hP.tr h_u4) h_x0 ) (fun r5 u6 h_u6 h_r5 => ?_)) fq_none
  refine fq_if ?_ fq_none
  refine fq_bR h_u6 hP h_x0 (fun q7 h_q7 => ?_)
  refine fq_if ?_ fq_none
  refine fq_if (fq_if fq_none (fq_sI h_u6 h_q7 (fun u8 h_u8 => ?_))) fq_none
  refine fq_if ?_ fq_none
  refine fq_if (fq_sI h_u8 h_x0 (fun u9 h_u9 => ?_)) fq_none
  exact fq_tr h_u9 (hrec12 x0 x1 u9 (hP.tr h_u9) h_x0)
set_option maxRecDepth 20000 in
theorem frgX11_tested_54 {P : Nat → Prop} (N : Nat)   (rec12 : Nat → Int32 → SG → Option (Int32 × SG)) (hrec12 : ∀ (x0 : Nat) (x1 : Int32) (u : SG), Cl P u → P x0 → FQ P u (fun _ => True) (rec12 x0 x1 u)) (x0 : Nat) (s0 : Int32) (u : SG) : Cl P u → P x0 → FQ P u (fun _ => True) (gX11_tested_54 N  rec12 x0 s0 u) := by
  intro hP h_x0
  have h_u : Fr P u u := Fr.rf
  unfold gX11_tested_54
  refine fq_if ?_ ?_
  · exact fq_tr h_u (hrec12 x0 s0 u (hP.tr h_u) h_x0)
  · refine fq_if (fq_cl h_u (fr_X11_isWord N x0 (6385252 : Int64) u (hP.tr h_u) h_x0 ) (fun r1 u2 h_u2 h_r1 => ?_)) fq_none
    refine fq_if ?_ ?_
    · exact fq_tr h_u2 (frgX11_tested_76 N  _ hrec12 x0 s0 (13 : Int32) u2 (hP.tr h_u2) h_x0)
    · exact fq_tr h_u2 (frgX11_tested_76 N  _ hrec12 x0 s0 (12 : Int32) u2 (hP.tr h_u2) h_x0)
set_option maxRecDepth 20000 in
theorem frgX11_tested_49 {P : Nat → Prop} (N : Nat)   (rec12 : Nat → Int32 → SG → Option (Int32 × SG)) (hrec12 : ∀ (x0 : Nat) (x1 : Int32) (u : SG), Cl P u → P x0 → FQ P u (fun _ => True) (rec12 x0 x1 u)) (x0 : Nat) (u : SG) : Cl P u → P x0 → FQ P u (fun _ => True) (gX11_tested_49 N  rec12 x0 u) := by
  intro hP h_x0
  have h_u : Fr P u u := Fr.rf
  unfold gX11_tested_49
  exact fq_tr h_u (frgX11_tested_54 N  _ hrec12 x0 (1 : Int32) u (hP.tr h_u) h_x0)
set_option maxRecDepth 20000 in
theorem frgX11_tested_12 {P : Nat → Prop} (N : Nat)     : ∀ (n : Nat) (x0 : Nat) (x1 : Int32) (u : SG), Cl P u → P x0 → FQ P u (fun _ => True) (gX11_tested_12 N   n x0 x1 u) := by
  intro n
  induction n with
  | zero => intros; intro r u9 h9; exact absurd h9 (by simp [gX11_tested_12])
  | succ n ih =>
    intro x0 x1 u hP h_x0
    have hrec12 := ih
    have h_u : Fr P u u := Fr.rf
    rw [gX11_tested_12]
    refine fq_if ?_ ?_
    · refine fq_if (fq_cl h_u (fr_X11_isInside N x0  u (hP.tr h_u) h_x0 ) (fun r1 u2 h_u2 h_r1 => ?_)) fq_none
      refine fq_if ?_ ?_
      · refine fq_if (fq_cl h_u2 (fr_X11_settles N x0 (1 : Int32) u2 (hP.tr h_u2) h_x0 ) (fun r3 u4 h_u4 h_r3 => ?_)) fq_none
        exact fq_ret h_u4 trivial
      · refine fq_if (fq_cl h_u2 (fr_X11_see N x0  u2 (hP.tr h_u2) h_x0 ) (fun r5 u6 h_u6 h_r5 => ?_)) fq_none
        refine fq_if ?_ fq_none
        refine fq_if (fq_cl h_u6 (fr_X11_fails N x0 (0 : Int32) (zI u6 x0 8) u6 (hP.tr h_u6) h_x0 ) (fun r7 u8 h_u8 h_r7 => ?_)) fq_none
        exact fq_if (fq_ret h_u8 trivial) fq_none
    · refine fq_if (fq_cl h_u (fr_X11_fact N x0  u (hP.tr h_u) h_x0 ) (fun r9 u10 h_u10 h_r9 => ?_)) fq_none
      refine fq_if ?_ ?_
      · exact fq_ret h_u10 trivial
      · refine fq_if (fq_cl h_u10 (fr_X11_closes N x0  u10 (hP.tr h_u10) h_x0 ) (fun r11 u12 h_u12 h_r11 => ?_)) fq_none
        refine fq_if (fq_cl h_u12 (fr_X11_isWord N x0 (6385252 : Int64) u12 (hP.tr h_u12) h_x0 ) (fun r13 u14 h_u14 h_r13 => ?_)) fq_none
        refine fq_if ?_ ?_
        · refine fq_if (fq_cl h_u14 (fr_X11_isWord N x0 (28530 : Int64) u14 (hP.tr h_u14) h_x0 ) (fun r15 u16 h_u16 h_r15 => ?_)) fq_none
          refine fq_if ?_ ?_
          · exact fq_tr h_u16 (frgX11_tested_54 N  _ hrec12 x0 (0 : Int32) u16 (hP.tr h_u16) h_x0)
          · exact fq_tr h_u16 (frgX11_tested_49 N  _ hrec12 x0 u16 (hP.tr h_u16) h_x0)
        · exact fq_tr h_u14 (frgX11_tested_49 N  _ hrec12 x0 u14 (hP.tr h_u14) h_x0)
set_option maxRecDepth 20000 in
theorem fr_X11_tested {P : Nat → Prop} (N : Nat)   (a0 : Nat) (u : SG) : Cl P u → P a0 → FQ P u (fun _ => True) (fX11_tested N  a0 u) := by
  intro hP h_a0
  have h_u : Fr P u u := Fr.rf
  unfold fX11_tested
  refine fq_if (fq_sI h_u h_a0 (fun u1 h_u1 => ?_)) fq_none
  refine fq_if (fq_sI h_u1 h_a0 (fun u2 h_u2 => ?_)) fq_none
  exact fq_tr h_u2 (frgX11_tested_12 N   N a0 (1 : Int32) u2 (hP.tr h_u2) h_a0)
set_option maxRecDepth 20000 in
theorem frgX11_isSleepHere_110 {P : Nat → Prop} (N : Nat)     (x0 : Nat) (x1 : Int32) (u : SG) : Cl P u → P x0 → FQ P u (fun _ => True) (gX11_isSleepHere_110 N   x0 x1 u) := by
  intro hP h_x0
  have h_u : Fr P u u := Fr.rf
  unfold gX11_isSleepHere_110
  refine fq_if ?_ fq_none
  refine fq_bR h_u hP h_x0 (fun q1 h_q1 => ?_)
  refine fq_if ?_ fq_none
  refine fq_bR h_u hP h_x0 (fun q2 h_q2 => ?_)
  refine fq_if ?_ fq_none
  refine fq_if (fq_if fq_none ?_) fq_none
  refine fq_if (fq_if fq_none (fq_sI h_u h_q1 (fun u3 h_u3 => ?_))) fq_none
  refine fq_if ?_ fq_none
  refine fq_bR h_u3 hP h_x0 (fun q4 h_q4 => ?_)
  refine fq_if ?_ fq_none
  refine fq_if (fq_if fq_none ?_) fq_none
  refine fq_if (fq_if fq_none (fq_sI h_u3 h_q4 (fun u5 h_u5 => ?_))) fq_none
  exact fq_ret h_u5 trivial
set_option maxRecDepth 20000 in
theorem fr_X11_isSleepHere {P : Nat → Prop} (N : Nat)   (a0 : Nat) (u : SG) : Cl P u → P a0 → FQ P u (fun _ => True) (fX11_isSleepHere N  a0 u) := by
  intro hP h_a0
  have h_u : Fr P u u := Fr.rf
  unfold fX11_isSleepHere
  refine fq_if (fq_cl h_u (fr_X11_passWord N a0  u (hP.tr h_u) h_a0 ) (fun r1 u2 h_u2 h_r1 => ?_)) fq_none
  refine fq_if ?_ fq_none
  refine fq_if ?_ fq_none
  refine fq_bR h_u2 hP h_a0 (fun q3 h_q3 => ?_)
  refine fq_if ?_ fq_none
  refine fq_if (fq_if fq_none ?_) fq_none
  refine fq_bs (fun v4 => ?_)
  refine fq_if ?_ fq_none
  refine fq_bR h_u2 hP h_a0 (fun q5 h_q5 => ?_)
  refine fq_if ?_ fq_none
  refine fq_bR h_u2 hP h_a0 (fun q6 h_q6 => ?_)
  refine fq_if ?_ fq_none
  refine fq_if (fq_if fq_none ?_) fq_none
  refine fq_if (fq_if fq_none (fq_sI h_u2 h_q5 (fun u7 h_u7 => ?_))) fq_none
  refine fq_if (fq_cl h_u7 (fr_X11_sum N a0  u7 (hP.tr h_u7) h_a0 ) (fun r8 u9 h_u9 h_r8 => ?_)) fq_none
  refine fq_if ?_ ?_
  · exact fq_ret h_u9 trivial
  · refine fq_if ?_ fq_none
    refine fq_bR h_u9 hP h_a0 (fun q10 h_q10 => ?_)
    refine fq_if ?_ fq_none
    refine fq_bR h_u9 hP h_a0 (fun q11 h_q11 => ?_)
    refine fq_if ?_ fq_none
    refine fq_if (fq_if fq_none ?_) fq_none
    refine fq_if (fq_if fq_none (fq_sI h_u9 h_q10 (fun u12 h_u12 => ?_))) fq_none
    refine fq_if ?_ fq_none
    refine fq_bR h_u12 hP h_a0 (fun q13 h_q13 => ?_)
    refine fq_if (fq_if fq_none (fq_sI h_u12 h_q13 (fun u14 h_u14 => ?_))) fq_none
    refine fq_if (fq_cl h_u14 (fr_X11_takesWord N a0 (26982 : Int64) u14 (hP.tr h_u14) h_a0 ) (fun r15 u16 h_u16 h_r15 => ?_)) fq_none
    refine fq_if ?_ ?_
    · exact fq_tr h_u16 (frgX11_isSleepHere_110 N   a0 v4 u16 (hP.tr h_u16) h_a0)
    · refine fq_if ?_ fq_none
      refine fq_bR h_u16 hP h_a0 (fun q17 h_q17 => ?_)
      refine fq_if ?_ fq_none
      refine fq_bR h_u16 hP h_a0 (fun q18 h_q18 => ?_)
      refine fq_if ?_ fq_none
      refine fq_if (fq_if fq_none ?_) fq_none
      refine fq_if (fq_if fq_none (fq_sI h_u16 h_q17 (fun u19 h_u19 => ?_))) fq_none
      refine fq_if (fq_cl h_u19 (fr_X11_tested N a0  u19 (hP.tr h_u19) h_a0 ) (fun r20 u21 h_u21 h_r20 => ?_)) fq_none
      refine fq_if ?_ ?_
      · exact fq_ret h_u21 trivial
      · exact fq_tr h_u21 (frgX11_isSleepHere_110 N   a0 v4 u21 (hP.tr h_u21) h_a0)
set_option maxRecDepth 20000 in
theorem fr_X11_cellHere {P : Nat → Prop} (N : Nat)   (a0 : Nat) (p1 : Int32) (p2 : Int32) (p3 : Int32) (u : SG) : Cl P u → P a0 → FQ P u (fun _ => True) (fX11_cellHere N  a0 p1 p2 p3 u) := by
  intro hP h_a0
  have h_u : Fr P u u := Fr.rf
  unfold fX11_cellHere
  refine fq_if (fq_cl h_u (fr_X11_numberHere N a0 p2 p3 u (hP.tr h_u) h_a0 ) (fun r1 u2 h_u2 h_r1 => ?_)) fq_none
  refine fq_if ?_ ?_
  · exact fq_ret h_u2 trivial
  · refine fq_if ?_ fq_none
    refine fq_bR h_u2 hP h_a0 (fun q3 h_q3 => ?_)
    refine fq_if ?_ fq_none
    refine fq_if (fq_if fq_none (fq_sI h_u2 h_q3 (fun u4 h_u4 => ?_))) fq_none
    exact fq_ret h_u4 trivial
set_option maxRecDepth 20000 in
theorem fr_X11_isStreetHere {P : Nat → Prop} (N : Nat)   (a0 : Nat) (p1 : Int32) (u : SG) : Cl P u → P a0 → FQ P u (fun _ => True) (fX11_isStreetHere N  a0 p1 u) := by
  intro hP h_a0
  have h_u : Fr P u u := Fr.rf
  unfold fX11_isStreetHere
  refine fq_if ?_ fq_none
  refine fq_bR h_u hP h_a0 (fun q1 h_q1 => ?_)
  refine fq_if (fq_if fq_none ?_) fq_none
  refine fq_if ?_ ?_
  · refine fq_if (fq_cl h_u (fr_X11_passWord N a0  u (hP.tr h_u) h_a0 ) (fun r2 u3 h_u3 h_r2 => ?_)) fq_none
    refine fq_if (fq_cl h_u3 (fr_X11_cellHere N a0 (0 : Int32) (2 : Int32) (10 : Int32) u3 (hP.tr h_u3) h_a0 ) (fun r4 u5 h_u5 h_r4 => ?_)) fq_none
    exact fq_if (fq_ret h_u5 trivial) fq_none
  · refine fq_if (fq_cl h_u (fr_X11_fails N a0 (4 : Int32) p1 u (hP.tr h_u) h_a0 ) (fun r6 u7 h_u7 h_r6 => ?_)) fq_none
    exact fq_if (fq_ret h_u7 trivial) fq_none
set_option maxRecDepth 20000 in
theorem frgX11_isPersonHere_66 {P : Nat → Prop} (N : Nat)     : ∀ (n : Nat) (x0 : Nat) (x2 : Int32) (x3 : Int32) (u : SG), Cl P u → P x0 → FQ P u (fun _ => True) (gX11_isPersonHere_66 N   n x0 x2 x3 u) := by
  intro n
  induction n with
  | zero => intros; intro r u9 h9; exact absurd h9 (by simp [gX11_isPersonHere_66])
  | succ n ih =>
    intro x0 x2 x3 u hP h_x0
    have hrec66 := ih
    have h_u : Fr P u u := Fr.rf
    rw [gX11_isPersonHere_66]
    refine fq_if ?_ ?_
    · refine fq_if ?_ fq_none
      refine fq_bR h_u hP h_x0 (fun q1 h_q1 => ?_)
      refine fq_if (fq_if fq_none ?_) fq_none
      refine fq_if (fq_if fq_none (fq_sI h_u h_q1 (fun u2 h_u2 => ?_))) fq_none
      exact fq_ret h_u2 trivial
    · refine fq_if ?_ fq_none
      refine fq_bR h_u hP h_x0 (fun q3 h_q3 => ?_)
      refine fq_if (fq_if fq_none (fq_sI h_u h_q3 (fun u4 h_u4 => ?_))) fq_none
      exact fq_tr h_u4 (hrec66 x0 x2 (x3 + (1 : Int32)) u4 (hP.tr h_u4) h_x0)
set_option maxRecDepth 20000 in
theorem fr_X11_isPersonHere {P : Nat → Prop} (N : Nat)   (a0 : Nat) (p1 : Int32) (u : SG) : Cl P u → P a0 → FQ P u (fun _ => True) (fX11_isPersonHere N  a0 p1 u) := by
  intro hP h_a0
  have h_u : Fr P u u := Fr.rf
  unfold fX11_isPersonHere
  refine fq_if ?_ fq_none
  refine fq_bR h_u hP h_a0 (fun q1 h_q1 => ?_)
  refine fq_if (fq_if fq_none ?_) fq_none
  refine fq_if ?_ ?_
  · refine fq_if (fq_cl h_u (fr_X11_fails N a0 (4 : Int32) p1 u (hP.tr h_u) h_a0 ) (fun r11 u12 h_u12 h_r11 => ?_)) fq_none
    exact fq_if (fq_ret h_u12 trivial) fq_none
  · refine fq_if (fq_cl h_u (fr_X11_passWord N a0  u (hP.tr h_u) h_a0 ) (fun r2 u3 h_u3 h_r2 => ?_)) fq_none
    refine fq_if ?_ fq_none
    refine fq_bR h_u3 hP h_a0 (fun q4 h_q4 => ?_)
    refine fq_if (fq_if fq_none ?_) fq_none
    refine fq_bs (fun v5 => ?_)
    refine fq_if ?_ fq_none
    refine fq_bR h_u3 hP h_a0 (fun q6 h_q6 => ?_)
    refine fq_if (fq_if fq_none ?_) fq_none
    refine fq_if (fq_cl h_u3 (fr_X11_cellHere N a0 v5 (0 : Int32) (zI u3 q6 0) u3 (hP.tr h_u3) h_a0 ) (fun r7 u8 h_u8 h_r7 => ?_)) fq_none
    refine fq_if ?_ ?_
    · exact fq_ret h_u8 trivial
    · refine fq_if (fq_cl h_u8 (fr_X11_cellHere N a0 (v5 + (1 : Int32)) (0 : Int32) (60 : Int32) u8 (hP.tr h_u8) h_a0 ) (fun r9 u10 h_u10 h_r9 => ?_)) fq_none
      refine fq_if ?_ ?_
      · exact fq_ret h_u10 trivial
      · exact fq_tr h_u10 (frgX11_isPersonHere_66 N   N a0 v5 (2 : Int32) u10 (hP.tr h_u10) h_a0)
set_option maxRecDepth 20000 in
theorem fr_X11_isSpanHere {P : Nat → Prop} (N : Nat)   (a0 : Nat) (p1 : Int32) (p2 : Int32) (u : SG) : Cl P u → P a0 → FQ P u (fun _ => True) (fX11_isSpanHere N  a0 p1 p2 u) := by
  intro hP h_a0
  have h_u : Fr P u u := Fr.rf
  unfold fX11_isSpanHere
  refine fq_if (fq_cl h_u (fr_X11_passWord N a0  u (hP.tr h_u) h_a0 ) (fun r1 u2 h_u2 h_r1 => ?_)) fq_none
  refine fq_if (fq_cl h_u2 (fr_X11_cellHere N a0 p1 (0 : Int32) (p2 - (1 : Int32)) u2 (hP.tr h_u2) h_a0 ) (fun r3 u4 h_u4 h_r3 => ?_)) fq_none
  refine fq_if ?_ ?_
  · exact fq_ret h_u4 trivial
  · refine fq_if ?_ fq_none
    refine fq_bR h_u4 hP h_a0 (fun q5 h_q5 => ?_)
    refine fq_if (fq_if fq_none ?_) fq_none
    refine fq_if (fq_cl h_u4 (fr_X11_cellHere N a0 (p1 + (1 : Int32)) (0 : Int32) ((zI u4 q5 0) - (1 : Int32)) u4 (hP.tr h_u4) h_a0 ) (fun r6 u7 h_u7 h_r6 => ?_)) fq_none
    refine fq_if ?_ ?_
    · exact fq_ret h_u7 trivial
    · refine fq_if ?_ fq_none
      refine fq_bR h_u7 hP h_a0 (fun q8 h_q8 => ?_)
      refine fq_if (fq_if fq_none ?_) fq_none
      refine fq_if ?_ fq_none
      refine fq_bR h_u7 hP h_a0 (fun q9 h_q9 => ?_)
      refine fq_if (fq_if fq_none ?_) fq_none
      refine fq_if (fq_cl h_u7 (fr_X11_cellHere N a0 (p1 + (2 : Int32)) (zI u7 q8 (p1 + (1 : Int32)).toNatClampNeg) ((zI u7 q9 0) - (1 : Int32)) u7 (hP.tr h_u7) h_a0 ) (fun r10 u11 h_u11 h_r10 => ?_)) fq_none
      refine fq_if ?_ ?_
      · exact fq_ret h_u11 trivial
      · exact fq_ret h_u11 trivial
set_option maxRecDepth 20000 in
theorem fr_X11_isWorkHere {P : Nat → Prop} (N : Nat)   (a0 : Nat) (p1 : Int32) (u : SG) : Cl P u → P a0 → FQ P u (fun _ => True) (fX11_isWorkHere N  a0 p1 u) := by
  intro hP h_a0
  have h_u : Fr P u u := Fr.rf
  unfold fX11_isWorkHere
  refine fq_if ?_ fq_none
  refine fq_bR h_u hP h_a0 (fun q1 h_q1 => ?_)
  refine fq_if (fq_if fq_none ?_) fq_none
  refine fq_if ?_ ?_
  · refine fq_if (fq_cl h_u (fr_X11_fails N a0 (4 : Int32) p1 u (hP.tr h_u) h_a0 ) (fun r8 u9 h_u9 h_r8 => ?_)) fq_none
    exact fq_if (fq_ret h_u9 trivial) fq_none
  · refine fq_if ?_ fq_none
    refine fq_bR h_u hP h_a0 (fun q2 h_q2 => ?_)
    refine fq_if (fq_if fq_none ?_) fq_none
    refine fq_if ?_ fq_none
    refine fq_bR h_u hP h_a0 (fun q3 h_q3 => ?_)
    refine fq_if (fq_if fq_none ?_) fq_none
    refine fq_if (fq_cl h_u (fr_X11_isSpanHere N a0 ((45 : Int32) + ((3 : Int32) * (zI u q2 2))) (zI u q3 1) u (hP.tr h_u) h_a0 ) (fun r4 u5 h_u5 h_r4 => ?_)) fq_none
    refine fq_if ?_ ?_
    · exact fq_ret h_u5 trivial
    · refine fq_if ?_ fq_none
      refine fq_bR h_u5 hP h_a0 (fun q6 h_q6 => ?_)
      refine fq_if (fq_if fq_none ?_) fq_none
      refine fq_if (fq_if fq_none (fq_sI h_u5 h_q6 (fun u7 h_u7 => ?_))) fq_none
      exact fq_ret h_u7 trivial
set_option maxRecDepth 20000 in
theorem frgX11_isLampHere_89 {P : Nat → Prop} (N : Nat)     (x0 : Nat) (x3 : Int32) (u : SG) : Cl P u → P x0 → FQ P u (fun _ => True) (gX11_isLampHere_89 N   x0 x3 u) := by
  intro hP h_x0
  have h_u : Fr P u u := Fr.rf
  unfold gX11_isLampHere_89
  refine fq_if (fq_cl h_u (fr_X11_cellHere N x0 (x3 + (1 : Int32)) (1 : Int32) (60 : Int32) u (hP.tr h_u) h_x0 ) (fun r1 u2 h_u2 h_r1 => ?_)) fq_none
  refine fq_if ?_ ?_
  · exact fq_ret h_u2 trivial
  · refine fq_if ?_ fq_none
    refine fq_bR h_u2 hP h_x0 (fun q3 h_q3 => ?_)
    refine fq_if (fq_if fq_none ?_) fq_none
    refine fq_if (fq_if fq_none (fq_sI h_u2 h_q3 (fun u4 h_u4 => ?_))) fq_none
    exact fq_ret h_u4 trivial
set_option maxRecDepth 20000 in
theorem fr_X11_isLampHere {P : Nat → Prop} (N : Nat)   (a0 : Nat) (p1 : Int32) (u : SG) : Cl P u → P a0 → FQ P u (fun _ => True) (fX11_isLampHere N  a0 p1 u) := by
  intro hP h_a0
  have h_u : Fr P u u := Fr.rf
  unfold fX11_isLampHere
  refine fq_if ?_ fq_none
  refine fq_bR h_u hP h_a0 (fun q1 h_q1 => ?_)
  refine fq_if (fq_if fq_none ?_) fq_none
  refine fq_if ?_ ?_
  · refine fq_if (fq_cl h_u (fr_X11_fails N a0 (4 : Int32) p1 u (hP.tr h_u) h_a0 ) (fun r16 u17 h_u17 h_r16 => ?_)) fq_none
    exact fq_if (fq_ret h_u17 trivial) fq_none
  · refine fq_if (fq_cl h_u (fr_X11_passWord N a0  u (hP.tr h_u) h_a0 ) (fun r2 u3 h_u3 h_r2 => ?_)) fq_none
    refine fq_if (fq_cl h_u3 (fr_X11_see N a0  u3 (hP.tr h_u3) h_a0 ) (fun r4 u5 h_u5 h_r4 => ?_)) fq_none
    refine fq_if ?_ fq_none
    refine fq_bs (fun v6 => ?_)
    refine fq_if ?_ fq_none
    refine fq_bR h_u5 hP h_a0 (fun q7 h_q7 => ?_)
    refine fq_if (fq_if fq_none ?_) fq_none
    refine fq_bs (fun v8 => ?_)
    refine fq_if (fq_cl h_u5 (fr_X11_cellHere N a0 v8 (0 : Int32) (9 : Int32) u5 (hP.tr h_u5) h_a0 ) (fun r9 u10 h_u10 h_r9 => ?_)) fq_none
    refine fq_if ?_ ?_
    · exact fq_ret h_u10 trivial
    · refine fq_if ?_ fq_none
      refine fq_bR h_u10 hP h_a0 (fun q11 h_q11 => ?_)
      refine fq_if (fq_if fq_none ?_) fq_none
      refine fq_if ?_ ?_
      · exact fq_tr h_u10 (frgX11_isLampHere_89 N   a0 v8 u10 (hP.tr h_u10) h_a0)
      · refine fq_if ?_ fq_none
        refine fq_bR h_u10 hP h_a0 (fun q12 h_q12 => ?_)
        refine fq_if (fq_if fq_none ?_) fq_none
        refine fq_if ?_ fq_none
        refine fq_bR h_u10 hP h_a0 (fun q13 h_q13 => ?_)
        refine fq_if (fq_if fq_none ?_) fq_none
        refine fq_if ?_ ?_
        · exact fq_tr h_u10 (frgX11_isLampHere_89 N   a0 v8 u10 (hP.tr h_u10) h_a0)
        · refine fq_if (fq_cl h_u10 (fr_X11_fails N a0 (1 : Int32) v6 u10 (hP.tr h_u10) h_a0 ) (fun r14 u15 h_u15 h_r14 => ?_)) fq_none
          exact fq_if (fq_ret h_u15 trivial) fq_none
set_option maxRecDepth 20000 in
theorem fr_X11_isLitHere {P : Nat → Prop} (N : Nat)   (a0 : Nat) (p1 : Int32) (u : SG) : Cl P u → P a0 → FQ P u (fun _ => True) (fX11_isLitHere N  a0 p1 u) := by
  intro hP h_a0
  have h_u : Fr P u u := Fr.rf
  unfold fX11_isLitHere
  refine fq_if ?_ fq_none
  refine fq_bR h_u hP h_a0 (fun q1 h_q1 => ?_)
  refine fq_if (fq_if fq_none ?_) fq_none
  refine fq_if ?_ ?_
  · refine fq_if (fq_cl h_u (fr_X11_fails N a0 (4 : Int32) p1 u (hP.tr h_u) h_a0 ) (fun r8 u9 h_u9 h_r8 => ?_)) fq_none
    exact fq_if (fq_ret h_u9 trivial) fq_none
  · refine fq_if ?_ fq_none
    refine fq_bR h_u hP h_a0 (fun q2 h_q2 => ?_)
    refine fq_if (fq_if fq_none ?_) fq_none
    refine fq_if ?_ fq_none
    refine fq_bR h_u hP h_a0 (fun q3 h_q3 => ?_)
    refine fq_if (fq_if fq_none ?_) fq_none
    refine fq_if (fq_cl h_u (fr_X11_isSpanHere N a0 ((79 : Int32) + ((3 : Int32) * (zI u q2 4))) (zI u q3 3) u (hP.tr h_u) h_a0 ) (fun r4 u5 h_u5 h_r4 => ?_)) fq_none
    refine fq_if ?_ ?_
    · exact fq_ret h_u5 trivial
    · refine fq_if ?_ fq_none
      refine fq_bR h_u5 hP h_a0 (fun q6 h_q6 => ?_)
      refine fq_if (fq_if fq_none ?_) fq_none
      refine fq_if (fq_if fq_none (fq_sI h_u5 h_q6 (fun u7 h_u7 => ?_))) fq_none
      exact fq_ret h_u7 trivial
set_option maxRecDepth 20000 in
theorem fr_X11_streetLineHere {P : Nat → Prop} (N : Nat)   (a0 : Nat) (p1 : Int32) (u : SG) : Cl P u → P a0 → FQ P u (fun _ => True) (fX11_streetLineHere N  a0 p1 u) := by
  intro hP h_a0
  have h_u : Fr P u u := Fr.rf
  unfold fX11_streetLineHere
  refine fq_if (fq_cl h_u (fr_X11_isWord N a0 (126943972648308 : Int64) u (hP.tr h_u) h_a0 ) (fun r1 u2 h_u2 h_r1 => ?_)) fq_none
  refine fq_if ?_ ?_
  · refine fq_if ?_ fq_none
    refine fq_bR h_u2 hP h_a0 (fun q3 h_q3 => ?_)
    refine fq_if (fq_if fq_none ?_) fq_none
    refine fq_if ?_ ?_
    · refine fq_if (fq_cl h_u2 (fr_X11_fails N a0 (4 : Int32) p1 u2 (hP.tr h_u2) h_a0 ) (fun r18 u19 h_u19 h_r18 => ?_)) fq_none
      exact fq_if (fq_ret h_u19 trivial) fq_none
    · refine fq_if (fq_cl h_u2 (fr_X11_isWord N a0 (123581014175598 : Int64) u2 (hP.tr h_u2) h_a0 ) (fun r4 u5 h_u5 h_r4 => ?_)) fq_none
      refine fq_if ?_ ?_
      · refine fq_if (fq_cl h_u5 (fr_X11_isWord N a0 (2003792491 : Int64) u5 (hP.tr h_u5) h_a0 ) (fun r6 u7 h_u7 h_r6 => ?_)) fq_none
        refine fq_if ?_ ?_
        · refine fq_if (fq_cl h_u7 (fr_X11_isWord N a0 (1818324336 : Int64) u7 (hP.tr h_u7) h_a0 ) (fun r8 u9 h_u9 h_r8 => ?_)) fq_none
          refine fq_if ?_ ?_
          · refine fq_if (fq_cl h_u9 (fr_X11_isLitHere N a0 p1 u9 (hP.tr h_u9) h_a0 ) (fun r10 u11 h_u11 h_r10 => ?_)) fq_none
            exact fq_if (fq_ret h_u11 trivial) fq_none
          · refine fq_if (fq_cl h_u9 (fr_X11_isLampHere N a0 p1 u9 (hP.tr h_u9) h_a0 ) (fun r12 u13 h_u13 h_r12 => ?_)) fq_none
            exact fq_if (fq_ret h_u13 trivial) fq_none
        · refine fq_if (fq_cl h_u7 (fr_X11_isWorkHere N a0 p1 u7 (hP.tr h_u7) h_a0 ) (fun r14 u15 h_u15 h_r14 => ?_)) fq_none
          exact fq_if (fq_ret h_u15 trivial) fq_none
      · refine fq_if (fq_cl h_u5 (fr_X11_isPersonHere N a0 p1 u5 (hP.tr h_u5) h_a0 ) (fun r16 u17 h_u17 h_r16 => ?_)) fq_none
        exact fq_if (fq_ret h_u17 trivial) fq_none
  · refine fq_if (fq_cl h_u2 (fr_X11_isStreetHere N a0 p1 u2 (hP.tr h_u2) h_a0 ) (fun r20 u21 h_u21 h_r20 => ?_)) fq_none
    exact fq_if (fq_ret h_u21 trivial) fq_none
set_option maxRecDepth 20000 in
theorem fr_X11_isStreetWord {P : Nat → Prop} (N : Nat)   (a0 : Nat) (u : SG) : Cl P u → P a0 → FQ P u (fun _ => True) (fX11_isStreetWord N  a0 u) := by
  intro hP h_a0
  have h_u : Fr P u u := Fr.rf
  unfold fX11_isStreetWord
  refine fq_if (fq_cl h_u (fr_X11_isWord N a0 (126943972648308 : Int64) u (hP.tr h_u) h_a0 ) (fun r1 u2 h_u2 h_r1 => ?_)) fq_none
  refine fq_if ?_ ?_
  · refine fq_if (fq_cl h_u2 (fr_X11_isWord N a0 (123581014175598 : Int64) u2 (hP.tr h_u2) h_a0 ) (fun r3 u4 h_u4 h_r3 => ?_)) fq_none
    refine fq_if ?_ ?_
    · refine fq_if (fq_cl h_u4 (fr_X11_isWord N a0 (2003792491 : Int64) u4 (hP.tr h_u4) h_a0 ) (fun r5 u6 h_u6 h_r5 => ?_)) fq_none
      refine fq_if ?_ ?_
      · refine fq_if (fq_cl h_u6 (fr_X11_isWord N a0 (1818324336 : Int64) u6 (hP.tr h_u6) h_a0 ) (fun r7 u8 h_u8 h_r7 => ?_)) fq_none
        refine fq_if ?_ ?_
        · refine fq_if (fq_cl h_u8 (fr_X11_isWord N a0 (7104884 : Int64) u8 (hP.tr h_u8) h_a0 ) (fun r9 u10 h_u10 h_r9 => ?_)) fq_none
          refine fq_if ?_ ?_
          · exact fq_ret h_u10 trivial
          · exact fq_ret h_u10 trivial
        · exact fq_ret h_u8 trivial
      · exact fq_ret h_u6 trivial
    · exact fq_ret h_u4 trivial
  · exact fq_ret h_u2 trivial
set_option maxRecDepth 20000 in
theorem frgX11_clauseHere_71 {P : Nat → Prop} (N : Nat)     (x0 : Nat) (x1 : Int32) (x2 : Int32) (s0 : Int32) (s1 : Int32) (u : SG) : Cl P u → P x0 → FQ P u (fun _ => True) (gX11_clauseHere_71 N   x0 x1 x2 s0 s1 u) := by
  intro hP h_x0
  have h_u : Fr P u u := Fr.rf
  unfold gX11_clauseHere_71
  refine fq_if ?_ ?_
  · refine fq_if (fq_cl h_u (fr_X11_fails N x0 (4 : Int32) x1 u (hP.tr h_u) h_x0 ) (fun r6 u7 h_u7 h_r6 => ?_)) fq_none
    exact fq_if (fq_ret h_u7 trivial) fq_none
  · refine fq_if ?_ fq_none
    refine fq_if (fq_sI h_u h_x0 (fun u1 h_u1 => ?_)) fq_none
    refine fq_if ?_ ?_
    · refine fq_if (fq_cl h_u1 (fr_X11_isSleepHere N x0  u1 (hP.tr h_u1) h_x0 ) (fun r2 u3 h_u3 h_r2 => ?_)) fq_none
      exact fq_if (fq_ret h_u3 trivial) fq_none
    · refine fq_if (fq_cl h_u1 (fr_X11_streetLineHere N x0 x1 u1 (hP.tr h_u1) h_x0 ) (fun r4 u5 h_u5 h_r4 => ?_)) fq_none
      exact fq_if (fq_ret h_u5 trivial) fq_none
set_option maxRecDepth 20000 in
theorem frgX11_clauseHere_56 {P : Nat → Prop} (N : Nat)     (x0 : Nat) (x1 : Int32) (x2 : Int32) (u : SG) : Cl P u → P x0 → FQ P u (fun _ => True) (gX11_clauseHere_56 N   x0 x1 x2 u) := by
  intro hP h_x0
  have h_u : Fr P u u := Fr.rf
  unfold gX11_clauseHere_56
  refine fq_if ?_ fq_none
  refine fq_if ?_ ?_
  · exact fq_tr h_u (frgX11_clauseHere_71 N   x0 x1 x2 (zI u x0 14) (12 : Int32) u (hP.tr h_u) h_x0)
  · exact fq_tr h_u (frgX11_clauseHere_71 N   x0 x1 x2 (zI u x0 14) (40 : Int32) u (hP.tr h_u) h_x0)
set_option maxRecDepth 20000 in
theorem frgX11_clauseHere_49 {P : Nat → Prop} (N : Nat)     (x0 : Nat) (x1 : Int32) (u : SG) : Cl P u → P x0 → FQ P u (fun _ => True) (gX11_clauseHere_49 N   x0 x1 u) := by
  intro hP h_x0
  have h_u : Fr P u u := Fr.rf
  unfold gX11_clauseHere_49
  refine fq_if (fq_cl h_u (fr_X11_fails N x0 (0 : Int32) x1 u (hP.tr h_u) h_x0 ) (fun r1 u2 h_u2 h_r1 => ?_)) fq_none
  exact fq_if (fq_ret h_u2 trivial) fq_none
set_option maxRecDepth 20000 in
theorem frgX11_clauseHere_24 {P : Nat → Prop} (N : Nat)     (x0 : Nat) (x1 : Int32) (s0 : Int32) (u : SG) : Cl P u → P x0 → FQ P u (fun _ => True) (gX11_clauseHere_24 N   x0 x1 s0 u) := by
  intro hP h_x0
  have h_u : Fr P u u := Fr.rf
  unfold gX11_clauseHere_24
  refine fq_if ?_ ?_
  · refine fq_if (fq_cl h_u (fr_X11_isWord N x0 (495739823472 : Int64) u (hP.tr h_u) h_x0 ) (fun r1 u2 h_u2 h_r1 => ?_)) fq_none
    refine fq_if ?_ ?_
    · exact fq_tr h_u2 (frgX11_clauseHere_49 N   x0 x1 u2 (hP.tr h_u2) h_x0)
    · exact fq_tr h_u2 (frgX11_clauseHere_56 N   x0 x1 s0 u2 (hP.tr h_u2) h_x0)
  · refine fq_if (fq_cl h_u (fr_X11_isStreetWord N x0  u (hP.tr h_u) h_x0 ) (fun r3 u4 h_u4 h_r3 => ?_)) fq_none
    refine fq_if ?_ ?_
    · exact fq_tr h_u4 (frgX11_clauseHere_49 N   x0 x1 u4 (hP.tr h_u4) h_x0)
    · exact fq_tr h_u4 (frgX11_clauseHere_56 N   x0 x1 s0 u4 (hP.tr h_u4) h_x0)
set_option maxRecDepth 20000 in
theorem fr_X11_clauseHere {P : Nat → Prop} (N : Nat)   (a0 : Nat) (u : SG) : Cl P u → P a0 → FQ P u (fun _ => True) (fX11_clauseHere N  a0 u) := by
  intro hP h_a0
  have h_u : Fr P u u := Fr.rf
  unfold fX11_clauseHere
  refine fq_if (fq_cl h_u (fr_X11_see N a0  u (hP.tr h_u) h_a0 ) (fun r1 u2 h_u2 h_r1 => ?_)) fq_none
  refine fq_if ?_ fq_none
  refine fq_bs (fun v3 => ?_)
  refine fq_if ?_ fq_none
  refine fq_if ?_ ?_
  · exact fq_tr h_u2 (frgX11_clauseHere_24 N   a0 v3 (1 : Int32) u2 (hP.tr h_u2) h_a0)
  · exact fq_tr h_u2 (frgX11_clauseHere_24 N   a0 v3 (0 : Int32) u2 (hP.tr h_u2) h_a0)
set_option maxRecDepth 20000 in
theorem frgX11_readsAll_88 {P : Nat → Prop} (N : Nat)     (x0 : Nat) (u : SG) : Cl P u → P x0 → FQ P u (fun _ => True) (gX11_readsAll_88 N   x0 u) := by
  intro hP h_x0
  have h_u : Fr P u u := Fr.rf
  unfold gX11_readsAll_88
  refine fq_if (fq_sI h_u h_x0 (fun u1 h_u1 => ?_)) fq_none
  refine fq_if ?_ fq_none
  refine fq_if ?_ ?_
  · exact fq_ret h_u1 trivial
  · exact fq_ret h_u1 trivial
set_option maxRecDepth 20000 in
theorem frgX11_readsAll_66 {P : Nat → Prop} (N : Nat)     (x0 : Nat) (x1 : Int32) (u : SG) : Cl P u → P x0 → FQ P u (fun _ => True) (gX11_readsAll_66 N   x0 x1 u) := by
  intro hP h_x0
  have h_u : Fr P u u := Fr.rf
  unfold gX11_readsAll_66
  refine fq_if ?_ ?_
  · exact fq_tr h_u (frgX11_readsAll_88 N   x0 u (hP.tr h_u) h_x0)
  · refine fq_if (fq_cl h_u (fr_X11_see N x0  u (hP.tr h_u) h_x0 ) (fun r1 u2 h_u2 h_r1 => ?_)) fq_none
    refine fq_if ?_ ?_
    · exact fq_tr h_u2 (frgX11_readsAll_88 N   x0 u2 (hP.tr h_u2) h_x0)
    · refine fq_if ?_ fq_none
      refine fq_if (fq_cl h_u2 (fr_X11_fails N x0 (0 : Int32) (zI u2 x0 8) u2 (hP.tr h_u2) h_x0 ) (fun r3 u4 h_u4 h_r3 => ?_)) fq_none
      exact fq_tr h_u4 (frgX11_readsAll_88 N   x0 u4 (hP.tr h_u4) h_x0)
set_option maxRecDepth 20000 in
theorem frgX11_readsAll_35 {P : Nat → Prop} (N : Nat)     : ∀ (n : Nat) (x0 : Nat) (x1 : Int32) (u : SG), Cl P u → P x0 → FQ P u (fun _ => True) (gX11_readsAll_35 N   n x0 x1 u) := by
  intro n
  induction n with
  | zero => intros; intro r u9 h9; exact absurd h9 (by simp [gX11_readsAll_35])
  | succ n ih =>
    intro x0 x1 u hP h_x0
    have hrec35 := ih
    have h_u : Fr P u u := Fr.rf
    rw [gX11_readsAll_35]
    refine fq_if ?_ ?_
    · exact fq_tr h_u (frgX11_readsAll_66 N   x0 x1 u (hP.tr h_u) h_x0)
    · refine fq_if (fq_cl h_u (fr_X11_see N x0  u (hP.tr h_u) h_x0 ) (fun r1 u2 h_u2 h_r1 => ?_)) fq_none
      refine fq_if ?_ ?_
      · refine fq_if ?_ fq_none
        refine fq_if (fq_sI h_u2 h_x0 (fun u3 h_u3 => ?_)) fq_none
        refine fq_if (fq_cl h_u3 (fr_X11_clauseHere N x0  u3 (hP.tr h_u3) h_x0 ) (fun r4 u5 h_u5 h_r4 => ?_)) fq_none
        exact fq_tr h_u5 (hrec35 x0 r4 u5 (hP.tr h_u5) h_x0)
      · exact fq_tr h_u2 (frgX11_readsAll_66 N   x0 x1 u2 (hP.tr h_u2) h_x0)
set_option maxRecDepth 20000 in
theorem fr_X11_readsAll {P : Nat → Prop} (N : Nat)   (a0 : Nat) (u : SG) : Cl P u → P a0 → FQ P u (fun _ => True) (fX11_readsAll N  a0 u) := by
  intro hP h_a0
  have h_u : Fr P u u := Fr.rf
  unfold fX11_readsAll
  refine fq_if ?_ fq_none
  refine fq_bR h_u hP h_a0 (fun q1 h_q1 => ?_)
  refine fq_if ?_ fq_none
  refine fq_if (fq_if fq_none (fq_sI h_u h_q1 (fun u2 h_u2 => ?_))) fq_none
  refine fq_if (fq_sI h_u2 h_a0 (fun u3 h_u3 => ?_)) fq_none
  refine fq_if (fq_sI h_u3 h_a0 (fun u4 h_u4 => ?_)) fq_none
  refine fq_if (fq_sI h_u4 h_a0 (fun u5 h_u5 => ?_)) fq_none
  refine fq_if (fq_sI h_u5 h_a0 (fun u6 h_u6 => ?_)) fq_none
  refine fq_if (fq_cl h_u6 (fr_X11_clauseHere N a0  u6 (hP.tr h_u6) h_a0 ) (fun r7 u8 h_u8 h_r7 => ?_)) fq_none
  exact fq_tr h_u8 (frgX11_readsAll_35 N   N a0 r7 u8 (hP.tr h_u8) h_a0)
set_option maxRecDepth 20000 in
theorem fr_X11_rule {P : Nat → Prop} (N : Nat)   (a0 : Nat) (u : SG) : Cl P u → P a0 → FQ P u (fun _ => True) (fX11_rule N  a0 u) := by
  intro hP h_a0
  have h_u : Fr P u u := Fr.rf
  unfold fX11_rule
  refine fq_if ?_ fq_none
  refine fq_if ?_ ?_
  · exact fq_ret h_u trivial
  · refine fq_if ?_ fq_none
    refine fq_if (fq_sI h_u h_a0 (fun u1 h_u1 => ?_)) fq_none
    refine fq_if ?_ fq_none
    refine fq_bR h_u1 hP h_a0 (fun q2 h_q2 => ?_)
    refine fq_if ?_ fq_none
    refine fq_if (fq_if fq_none (fq_sI h_u1 h_q2 (fun u3 h_u3 => ?_))) fq_none
    refine fq_if (fq_cl h_u3 (fr_X11_readsAll N a0  u3 (hP.tr h_u3) h_a0 ) (fun r4 u5 h_u5 h_r4 => ?_)) fq_none
    refine fq_if ?_ ?_
    · refine fq_if ?_ fq_none
      exact fq_ret h_u5 trivial
    · refine fq_if ?_ fq_none
      refine fq_if (fq_sI h_u5 h_a0 (fun u6 h_u6 => ?_)) fq_none
      refine fq_if ?_ fq_none
      exact fq_ret h_u6 trivial
set_option maxRecDepth 20000 in
theorem frgX11_street_81 {P : Nat → Prop} (N : Nat)     : ∀ (n : Nat) (x0 : Nat) (x1 : Int32) (u : SG), Cl P u → P x0 → FQ P u (fun _ => True) (gX11_street_81 N   n x0 x1 u) := by
  intro n
  induction n with
  | zero => intros; intro r u9 h9; exact absurd h9 (by simp [gX11_street_81])
  | succ n ih =>
    intro x0 x1 u hP h_x0
    have hrec81 := ih
    have h_u : Fr P u u := Fr.rf
    rw [gX11_street_81]
    refine fq_if ?_ ?_
    · refine fq_if (fq_sI h_u h_x0 (fun u1 h_u1 => ?_)) fq_none
      refine fq_if ?_ fq_none
      refine fq_bR h_u1 hP h_x0 (fun q2 h_q2 => ?_)
      refine fq_if (fq_if fq_none ?_) fq_none
      exact fq_ret h_u1 trivial
    · refine fq_if ?_ fq_none
      refine fq_bR h_u hP h_x0 (fun q3 h_q3 => ?_)
      refine fq_if (fq_if fq_none (fq_sI h_u h_q3 (fun u4 h_u4 => ?_))) fq_none
      exact fq_tr h_u4 (hrec81 x0 (x1 + (1 : Int32)) u4 (hP.tr h_u4) h_x0)
set_option maxRecDepth 20000 in
theorem frgX11_street_44 {P : Nat → Prop} (N : Nat)     : ∀ (n : Nat) (x0 : Nat) (x1 : Int32) (u : SG), Cl P u → P x0 → FQ P u (fun _ => True) (gX11_street_44 N   n x0 x1 u) := by
  intro n
  induction n with
  | zero => intros; intro r u9 h9; exact absurd h9 (by simp [gX11_street_44])
  | succ n ih =>
    intro x0 x1 u hP h_x0
    have hrec44 := ih
    have h_u : Fr P u u := Fr.rf
    rw [gX11_street_44]
    refine fq_if ?_ ?_
    · exact fq_tr h_u (frgX11_street_81 N   N x0 (0 : Int32) u (hP.tr h_u) h_x0)
    · refine fq_if ?_ fq_none
      refine fq_bR h_u hP h_x0 (fun q1 h_q1 => ?_)
      refine fq_if ?_ ?_
      · refine fq_if (fq_if fq_none (fq_sI h_u h_q1 (fun u2 h_u2 => ?_))) fq_none
        exact fq_tr h_u2 (hrec44 x0 (x1 + (1 : Int32)) u2 (hP.tr h_u2) h_x0)
      · refine fq_if ?_ fq_none
        refine fq_bR h_u hP h_x0 (fun q3 h_q3 => ?_)
        refine fq_if (fq_if fq_none ?_) fq_none
        refine fq_if (fq_if fq_none (fq_sI h_u h_q1 (fun u4 h_u4 => ?_))) fq_none
        exact fq_tr h_u4 (hrec44 x0 (x1 + (1 : Int32)) u4 (hP.tr h_u4) h_x0)
set_option maxRecDepth 20000 in
theorem frgX11_street_8 {P : Nat → Prop} (N : Nat)     : ∀ (n : Nat) (x0 : Nat) (x1 : Int32) (u : SG), Cl P u → P x0 → FQ P u (fun _ => True) (gX11_street_8 N   n x0 x1 u) := by
  intro n
  induction n with
  | zero => intros; intro r u9 h9; exact absurd h9 (by simp [gX11_street_8])
  | succ n ih =>
    intro x0 x1 u hP h_x0
    have hrec8 := ih
    have h_u : Fr P u u := Fr.rf
    rw [gX11_street_8]
    refine fq_if ?_ ?_
    · refine fq_if (fq_cl h_u (fr_X11_readsAll N x0  u (hP.tr h_u) h_x0 ) (fun r1 u2 h_u2 h_r1 => ?_)) fq_none
      refine fq_if ?_ ?_
      · refine fq_if ?_ fq_none
        exact fq_ret h_u2 trivial
      · exact fq_tr h_u2 (frgX11_street_44 N   N x0 (0 : Int32) u2 (hP.tr h_u2) h_x0)
    · refine fq_if ?_ fq_none
      refine fq_bR h_u hP h_x0 (fun q3 h_q3 => ?_)
      refine fq_if (fq_if fq_none (fq_sI h_u h_q3 (fun u4 h_u4 => ?_))) fq_none
      exact fq_tr h_u4 (hrec8 x0 (x1 + (1 : Int32)) u4 (hP.tr h_u4) h_x0)
set_option maxRecDepth 20000 in
theorem fr_X11_street {P : Nat → Prop} (N : Nat)   (a0 : Nat) (u : SG) : Cl P u → P a0 → FQ P u (fun _ => True) (fX11_street N  a0 u) := by
  intro hP h_a0
  have h_u : Fr P u u := Fr.rf
  unfold fX11_street
  refine fq_if (fq_sI h_u h_a0 (fun u1 h_u1 => ?_)) fq_none
  exact fq_tr h_u1 (frgX11_street_8 N   N a0 (0 : Int32) u1 (hP.tr h_u1) h_a0)
set_option maxRecDepth 20000 in
theorem fr_X11_isRule {P : Nat → Prop} (N : Nat)   (a0 : Nat) (p1 : Int32) (u : SG) : Cl P u → P a0 → FQ P u (fun _ => True) (fX11_isRule N  a0 p1 u) := by
  intro hP h_a0
  have h_u : Fr P u u := Fr.rf
  unfold fX11_isRule
  refine fq_if ?_ ?_
  · exact fq_ret h_u trivial
  · refine fq_if ?_ fq_none
    refine fq_if ?_ ?_
    · exact fq_ret h_u trivial
    · exact fq_ret h_u trivial
set_option maxRecDepth 20000 in
theorem fr_X11_push {P : Nat → Prop} (N : Nat)   (a0 : Nat) (p1 : Int64) (u : SG) : Cl P u → P a0 → FQ P u (fun _ => True) (fX11_push N  a0 p1 u) := by
  intro hP h_a0
  have h_u : Fr P u u := Fr.rf
  unfold fX11_push
  refine fq_if ?_ fq_none
  refine fq_bR h_u hP h_a0 (fun q1 h_q1 => ?_)
  refine fq_if ?_ fq_none
  refine fq_if (fq_if fq_none (fq_sL h_u h_q1 (fun u2 h_u2 => ?_))) fq_none
  refine fq_if ?_ fq_none
  refine fq_if (fq_sI h_u2 h_a0 (fun u3 h_u3 => ?_)) fq_none
  exact fq_ret h_u3 trivial
set_option maxRecDepth 20000 in
theorem fr_X11_pop {P : Nat → Prop} (N : Nat)   (a0 : Nat) (u : SG) : Cl P u → P a0 → FQ P u (fun _ => True) (fX11_pop N  a0 u) := by
  intro hP h_a0
  have h_u : Fr P u u := Fr.rf
  unfold fX11_pop
  refine fq_if ?_ fq_none
  refine fq_if (fq_sI h_u h_a0 (fun u1 h_u1 => ?_)) fq_none
  refine fq_if ?_ fq_none
  refine fq_bR h_u1 hP h_a0 (fun q2 h_q2 => ?_)
  refine fq_if ?_ fq_none
  refine fq_if (fq_if fq_none ?_) fq_none
  exact fq_ret h_u1 trivial
set_option maxRecDepth 20000 in
theorem fr_X11_one {P : Nat → Prop} (N : Nat)   (p1 : Int32) (p2 : Int64) (p3 : Int64) (u : SG) : Cl P u → FQ P u (fun _ => True) (fX11_one N  p1 p2 p3 u) := by
  intro hP
  have h_u : Fr P u u := Fr.rf
  unfold fX11_one
  refine fq_if ?_ ?_
  · exact fq_ret h_u trivial
  refine fq_if ?_ ?_
  · exact fq_ret h_u trivial
  refine fq_if ?_ ?_
  · exact fq_ret h_u trivial
  refine fq_if ?_ ?_
  · refine fq_if ?_ ?_
    · exact fq_ret h_u trivial
    · refine fq_if fq_none ?_
      exact fq_ret h_u trivial
  refine fq_if ?_ ?_
  · refine fq_if ?_ ?_
    · exact fq_ret h_u trivial
    · exact fq_ret h_u trivial
  refine fq_if ?_ ?_
  · refine fq_if ?_ ?_
    · exact fq_ret h_u trivial
    · exact fq_ret h_u trivial
  refine fq_if ?_ ?_
  · refine fq_if ?_ ?_
    · exact fq_ret h_u trivial
    · exact fq_ret h_u trivial
  refine fq_if ?_ ?_
  · refine fq_if ?_ ?_
    · exact fq_ret h_u trivial
    · exact fq_ret h_u trivial
  refine fq_if ?_ ?_
  · refine fq_if ?_ ?_
    · exact fq_ret h_u trivial
    · exact fq_ret h_u trivial
  refine fq_if ?_ ?_
  · exact fq_ret h_u trivial
  refine fq_if ?_ ?_
  · exact fq_ret h_u trivial
  refine fq_if ?_ ?_
  · exact fq_ret h_u trivial
  refine fq_if ?_ ?_
  · refine fq_if ?_ ?_
    · exact fq_ret h_u trivial
    · refine fq_if fq_none ?_
      exact fq_ret h_u trivial
  exact fq_ret h_u trivial
set_option maxRecDepth 20000 in
theorem frgX11_reckons_8 {P : Nat → Prop} (N : Nat)     : ∀ (n : Nat) (x0 : Nat) (x1 : Int32) (x3 : Int32) (x4 : Int32) (u : SG), Cl P u → P x0 → FQ P u (fun _ => True) (gX11_reckons_8 N   n x0 x1 x3 x4 u) := by
  intro n
  induction n with
  | zero => intros; intro r u9 h9; exact absurd h9 (by simp [gX11_reckons_8])
  | succ n ih =>
    intro x0 x1 x3 x4 u hP h_x0
    have hrec8 := ih
    have h_u : Fr P u u := Fr.rf
    rw [gX11_reckons_8]
    refine fq_if ?_ ?_
    · refine fq_if (fq_cl h_u (fr_X11_pop N x0  u (hP.tr h_u) h_x0 ) (fun r1 u2 h_u2 h_r1 => ?_)) fq_none
      exact fq_ret h_u2 trivial
    · refine fq_if ?_ fq_none
      refine fq_bR h_u hP h_x0 (fun q3 h_q3 => ?_)
      refine fq_if (fq_if fq_none ?_) fq_none
      refine fq_bs (fun v4 => ?_)
      refine fq_if ?_ fq_none
      refine fq_bR h_u hP h_x0 (fun q5 h_q5 => ?_)
      refine fq_if (fq_if fq_none ?_) fq_none
      refine fq_bs (fun v6 => ?_)
      refine fq_if ?_ ?_
      · refine fq_if (fq_cl h_u (fr_X11_push N x0 v6.toInt64 u (hP.tr h_u) h_x0 ) (fun r22 u23 h_u23 h_r22 => ?_)) fq_none
        exact fq_tr h_u23 (hrec8 x0 x1 x3 (x4 + (1 : Int32)) u23 (hP.tr h_u23) h_x0)
      · refine fq_if ?_ ?_
        · refine fq_if ?_ fq_none
          refine fq_bR h_u hP h_x0 (fun q19 h_q19 => ?_)
          refine fq_if (fq_if fq_none ?_) fq_none
          refine fq_if (fq_cl h_u (fr_X11_push N x0 (zL u q19 v6.toNatClampNeg) u (hP.tr h_u) h_x0 ) (fun r20 u21 h_u21 h_r20 => ?_)) fq_none
          exact fq_tr h_u21 (hrec8 x0 x1 x3 (x4 + (1 : Int32)) u21 (hP.tr h_u21) h_x0)
        · refine fq_if ?_ ?_
          · refine fq_if (fq_cl h_u (fr_X11_pop N x0  u (hP.tr h_u) h_x0 ) (fun r15 u16 h_u16 h_r15 => ?_)) fq_none
            refine fq_if (fq_cl h_u16 (fr_X11_push N x0 ((1 : Int64) - r15) u16 (hP.tr h_u16) h_x0 ) (fun r17 u18 h_u18 h_r17 => ?_)) fq_none
            exact fq_tr h_u18 (hrec8 x0 x1 x3 (x4 + (1 : Int32)) u18 (hP.tr h_u18) h_x0)
          · refine fq_if (fq_cl h_u (fr_X11_pop N x0  u (hP.tr h_u) h_x0 ) (fun r7 u8 h_u8 h_r7 => ?_)) fq_none
            refine fq_if (fq_cl h_u8 (fr_X11_pop N x0  u8 (hP.tr h_u8) h_x0 ) (fun r9 u10 h_u10 h_r9 => ?_)) fq_none
            refine fq_cl h_u10 (fr_X11_one N v4 r9 r7 u10 (hP.tr h_u10) ) (fun r11 u12 h_u12 h_r11 => ?_)
            refine fq_if (fq_cl h_u12 (fr_X11_push N x0 r11 u12 (hP.tr h_u12) h_x0 ) (fun r13 u14 h_u14 h_r13 => ?_)) fq_none
            exact fq_tr h_u14 (hrec8 x0 x1 x3 (x4 + (1 : Int32)) u14 (hP.tr h_u14) h_x0)
set_option maxRecDepth 20000 in
theorem fr_X11_reckons {P : Nat → Prop} (N : Nat)   (a0 : Nat) (p1 : Int32) (p2 : Int32) (p3 : Int32) (u : SG) : Cl P u → P a0 → FQ P u (fun _ => True) (fX11_reckons N  a0 p1 p2 p3 u) := by
  intro hP h_a0
  have h_u : Fr P u u := Fr.rf
  unfold fX11_reckons
  refine fq_if (fq_sI h_u h_a0 (fun u1 h_u1 => ?_)) fq_none
  exact fq_tr h_u1 (frgX11_reckons_8 N   N a0 p1 p3 p2 u1 (hP.tr h_u1) h_a0)
set_option maxRecDepth 20000 in
theorem fr_X11_isStreet {P : Nat → Prop} (N : Nat)   (a0 : Nat) (u : SG) : Cl P u → P a0 → FQ P u (fun _ => True) (fX11_isStreet N  a0 u) := by
  intro hP h_a0
  have h_u : Fr P u u := Fr.rf
  unfold fX11_isStreet
  refine fq_if ?_ fq_none
  refine fq_bR h_u hP h_a0 (fun q1 h_q1 => ?_)
  refine fq_if (fq_if fq_none ?_) fq_none
  refine fq_if ?_ ?_
  · exact fq_ret h_u trivial
  · exact fq_ret h_u trivial
set_option maxRecDepth 20000 in
theorem fr_X11_isPerson {P : Nat → Prop} (N : Nat)   (a0 : Nat) (p1 : Int32) (u : SG) : Cl P u → P a0 → FQ P u (fun _ => True) (fX11_isPerson N  a0 p1 u) := by
  intro hP h_a0
  have h_u : Fr P u u := Fr.rf
  unfold fX11_isPerson
  refine fq_if ?_ ?_
  · exact fq_ret h_u trivial
  · refine fq_if ?_ fq_none
    refine fq_bR h_u hP h_a0 (fun q1 h_q1 => ?_)
    refine fq_if (fq_if fq_none ?_) fq_none
    refine fq_if ?_ ?_
    · exact fq_ret h_u trivial
    · exact fq_ret h_u trivial
set_option maxRecDepth 20000 in
theorem fr_X11_isLamp {P : Nat → Prop} (N : Nat)   (a0 : Nat) (p1 : Int32) (u : SG) : Cl P u → P a0 → FQ P u (fun _ => True) (fX11_isLamp N  a0 p1 u) := by
  intro hP h_a0
  have h_u : Fr P u u := Fr.rf
  unfold fX11_isLamp
  refine fq_if ?_ ?_
  · exact fq_ret h_u trivial
  · refine fq_if ?_ fq_none
    refine fq_bR h_u hP h_a0 (fun q1 h_q1 => ?_)
    refine fq_if (fq_if fq_none ?_) fq_none
    refine fq_if ?_ ?_
    · exact fq_ret h_u trivial
    · exact fq_ret h_u trivial
set_option maxRecDepth 20000 in
theorem fr_X11_personOf {P : Nat → Prop} (N : Nat)   (a0 : Nat) (p1 : Int32) (p2 : Int32) (u : SG) : Cl P u → P a0 → FQ P u (fun _ => True) (fX11_personOf N  a0 p1 p2 u) := by
  intro hP h_a0
  have h_u : Fr P u u := Fr.rf
  unfold fX11_personOf
  refine fq_if ?_ fq_none
  refine fq_bR h_u hP h_a0 (fun q1 h_q1 => ?_)
  refine fq_if (fq_if fq_none ?_) fq_none
  exact fq_ret h_u trivial
set_option maxRecDepth 20000 in
theorem frgX11_worksIn_2 {P : Nat → Prop} (N : Nat)     : ∀ (n : Nat) (x0 : Nat) (x1 : Int32) (x2 : Int32) (x3 : Int32) (u : SG), Cl P u → P x0 → FQ P u (fun _ => True) (gX11_worksIn_2 N   n x0 x1 x2 x3 u) := by
  intro n
  induction n with
  | zero => intros; intro r u9 h9; exact absurd h9 (by simp [gX11_worksIn_2])
  | succ n ih =>
    intro x0 x1 x2 x3 u hP h_x0
    have hrec2 := ih
    have h_u : Fr P u u := Fr.rf
    rw [gX11_worksIn_2]
    refine fq_if ?_ fq_none
    refine fq_bR h_u hP h_x0 (fun q1 h_q1 => ?_)
    refine fq_if (fq_if fq_none ?_) fq_none
    refine fq_if ?_ ?_
    · exact fq_ret h_u trivial
    · refine fq_bs (fun v2 => ?_)
      refine fq_if ?_ fq_none
      refine fq_bR h_u hP h_x0 (fun q3 h_q3 => ?_)
      refine fq_if (fq_if fq_none ?_) fq_none
      refine fq_if ?_ ?_
      · refine fq_if ?_ fq_none
        refine fq_bR h_u hP h_x0 (fun q4 h_q4 => ?_)
        refine fq_if (fq_if fq_none ?_) fq_none
        refine fq_if ?_ ?_
        · exact fq_tr h_u (hrec2 x0 x1 x2 (x3 + (1 : Int32)) u (hP.tr h_u) h_x0)
        · refine fq_if ?_ fq_none
          refine fq_bR h_u hP h_x0 (fun q5 h_q5 => ?_)
          refine fq_if (fq_if fq_none ?_) fq_none
          refine fq_if ?_ ?_
          · exact fq_tr h_u (hrec2 x0 x1 x2 (x3 + (1 : Int32)) u (hP.tr h_u) h_x0)
          · exact fq_ret h_u trivial
      · exact fq_tr h_u (hrec2 x0 x1 x2 (x3 + (1 : Int32)) u (hP.tr h_u) h_x0)
set_option maxRecDepth 20000 in
theorem fr_X11_worksIn {P : Nat → Prop} (N : Nat)   (a0 : Nat) (p1 : Int32) (p2 : Int32) (u : SG) : Cl P u → P a0 → FQ P u (fun _ => True) (fX11_worksIn N  a0 p1 p2 u) := by
  intro hP h_a0
  have h_u : Fr P u u := Fr.rf
  unfold fX11_worksIn
  exact fq_tr h_u (frgX11_worksIn_2 N   N a0 p1 p2 (0 : Int32) u (hP.tr h_u) h_a0)
set_option maxRecDepth 20000 in
theorem frgX11_isLitIn_2 {P : Nat → Prop} (N : Nat)     : ∀ (n : Nat) (x0 : Nat) (x1 : Int32) (x2 : Int32) (x3 : Int32) (u : SG), Cl P u → P x0 → FQ P u (fun _ => True) (gX11_isLitIn_2 N   n x0 x1 x2 x3 u) := by
  intro n
  induction n with
  | zero => intros; intro r u9 h9; exact absurd h9 (by simp [gX11_isLitIn_2])
  | succ n ih =>
    intro x0 x1 x2 x3 u hP h_x0
    have hrec2 := ih
    have h_u : Fr P u u := Fr.rf
    rw [gX11_isLitIn_2]
    refine fq_if ?_ fq_none
    refine fq_bR h_u hP h_x0 (fun q1 h_q1 => ?_)
    refine fq_if (fq_if fq_none ?_) fq_none
    refine fq_if ?_ ?_
    · exact fq_ret h_u trivial
    · refine fq_bs (fun v2 => ?_)
      refine fq_if ?_ fq_none
      refine fq_bR h_u hP h_x0 (fun q3 h_q3 => ?_)
      refine fq_if (fq_if fq_none ?_) fq_none
      refine fq_if ?_ ?_
      · refine fq_if ?_ fq_none
        refine fq_bR h_u hP h_x0 (fun q4 h_q4 => ?_)
        refine fq_if (fq_if fq_none ?_) fq_none
        refine fq_if ?_ ?_
        · exact fq_tr h_u (hrec2 x0 x1 x2 (x3 + (1 : Int32)) u (hP.tr h_u) h_x0)
        · refine fq_if ?_ fq_none
          refine fq_bR h_u hP h_x0 (fun q5 h_q5 => ?_)
          refine fq_if (fq_if fq_none ?_) fq_none
          refine fq_if ?_ ?_
          · exact fq_tr h_u (hrec2 x0 x1 x2 (x3 + (1 : Int32)) u (hP.tr h_u) h_x0)
          · exact fq_ret h_u trivial
      · exact fq_tr h_u (hrec2 x0 x1 x2 (x3 + (1 : Int32)) u (hP.tr h_u) h_x0)
set_option maxRecDepth 20000 in
theorem fr_X11_isLitIn {P : Nat → Prop} (N : Nat)   (a0 : Nat) (p1 : Int32) (p2 : Int32) (u : SG) : Cl P u → P a0 → FQ P u (fun _ => True) (fX11_isLitIn N  a0 p1 p2 u) := by
  intro hP h_a0
  have h_u : Fr P u u := Fr.rf
  unfold fX11_isLitIn
  exact fq_tr h_u (frgX11_isLitIn_2 N   N a0 p1 p2 (0 : Int32) u (hP.tr h_u) h_a0)
set_option maxRecDepth 20000 in
theorem fr_X11_burnsIn {P : Nat → Prop} (N : Nat)   (a0 : Nat) (p1 : Int32) (p2 : Int32) (u : SG) : Cl P u → P a0 → FQ P u (fun _ => True) (fX11_burnsIn N  a0 p1 p2 u) := by
  intro hP h_a0
  have h_u : Fr P u u := Fr.rf
  unfold fX11_burnsIn
  refine fq_if ?_ fq_none
  refine fq_bR h_u hP h_a0 (fun q1 h_q1 => ?_)
  refine fq_if (fq_if fq_none ?_) fq_none
  refine fq_bs (fun v2 => ?_)
  refine fq_if ?_ ?_
  · exact fq_ret h_u trivial
  · refine fq_if ?_ ?_
    · refine fq_if (fq_cl h_u (fr_X11_isLitIn N a0 p1 p2 u (hP.tr h_u) h_a0 ) (fun r3 u4 h_u4 h_r3 => ?_)) fq_none
      refine fq_if ?_ ?_
      · exact fq_ret h_u4 trivial
      · exact fq_ret h_u4 trivial
    · exact fq_ret h_u trivial
set_option maxRecDepth 20000 in
theorem fr_X11_costOf {P : Nat → Prop} (N : Nat)   (a0 : Nat) (p1 : Int32) (u : SG) : Cl P u → P a0 → FQ P u (fun _ => True) (fX11_costOf N  a0 p1 u) := by
  intro hP h_a0
  have h_u : Fr P u u := Fr.rf
  unfold fX11_costOf
  refine fq_if ?_ fq_none
  refine fq_bR h_u hP h_a0 (fun q1 h_q1 => ?_)
  refine fq_if (fq_if fq_none ?_) fq_none
  exact fq_ret h_u trivial
set_option maxRecDepth 20000 in
theorem frgX11_costIn_4 {P : Nat → Prop} (N : Nat)     : ∀ (n : Nat) (x0 : Nat) (x1 : Int32) (x2 : Int32) (x3 : Int32) (u : SG), Cl P u → P x0 → FQ P u (fun _ => True) (gX11_costIn_4 N   n x0 x1 x2 x3 u) := by
  intro n
  induction n with
  | zero => intros; intro r u9 h9; exact absurd h9 (by simp [gX11_costIn_4])
  | succ n ih =>
    intro x0 x1 x2 x3 u hP h_x0
    have hrec4 := ih
    have h_u : Fr P u u := Fr.rf
    rw [gX11_costIn_4]
    refine fq_if ?_ fq_none
    refine fq_bR h_u hP h_x0 (fun q1 h_q1 => ?_)
    refine fq_if (fq_if fq_none ?_) fq_none
    refine fq_if ?_ ?_
    · exact fq_ret h_u trivial
    · refine fq_if (fq_cl h_u (fr_X11_burnsIn N x0 x3 x1 u (hP.tr h_u) h_x0 ) (fun r2 u3 h_u3 h_r2 => ?_)) fq_none
      refine fq_if ?_ ?_
      · refine fq_bs (fun v4 => ?_)
        exact fq_tr h_u3 (hrec4 x0 x1 v4 (x3 + (1 : Int32)) u3 (hP.tr h_u3) h_x0)
      · refine fq_if (fq_cl h_u3 (fr_X11_costOf N x0 x3 u3 (hP.tr h_u3) h_x0 ) (fun r5 u6 h_u6 h_r5 => ?_)) fq_none
        refine fq_bs (fun v7 => ?_)
        exact fq_tr h_u6 (hrec4 x0 x1 v7 (x3 + (1 : Int32)) u6 (hP.tr h_u6) h_x0)
set_option maxRecDepth 20000 in
theorem fr_X11_costIn {P : Nat → Prop} (N : Nat)   (a0 : Nat) (p1 : Int32) (u : SG) : Cl P u → P a0 → FQ P u (fun _ => True) (fX11_costIn N  a0 p1 u) := by
  intro hP h_a0
  have h_u : Fr P u u := Fr.rf
  unfold fX11_costIn
  exact fq_tr h_u (frgX11_costIn_4 N   N a0 p1 (0 : Int32) (0 : Int32) u (hP.tr h_u) h_a0)
set_option maxRecDepth 20000 in
theorem frgX11_sleepers_4 {P : Nat → Prop} (N : Nat)     : ∀ (n : Nat) (x0 : Nat) (x1 : Int32) (x2 : Int32) (u : SG), Cl P u → P x0 → FQ P u (fun _ => True) (gX11_sleepers_4 N   n x0 x1 x2 u) := by
  intro n
  induction n with
  | zero => intros; intro r u9 h9; exact absurd h9 (by simp [gX11_sleepers_4])
  | succ n ih =>
    intro x0 x1 x2 u hP h_x0
    have hrec4 := ih
    have h_u : Fr P u u := Fr.rf
    rw [gX11_sleepers_4]
    refine fq_if ?_ fq_none
    refine fq_bR h_u hP h_x0 (fun q1 h_q1 => ?_)
    refine fq_if (fq_if fq_none ?_) fq_none
    refine fq_if ?_ ?_
    · exact fq_ret h_u trivial
    · refine fq_if (fq_cl h_u (fr_X11_personOf N x0 x2 (2 : Int32) u (hP.tr h_u) h_x0 ) (fun r2 u3 h_u3 h_r2 => ?_)) fq_none
      refine fq_if ?_ ?_
      · refine fq_bs (fun v5 => ?_)
        exact fq_tr h_u3 (hrec4 x0 v5 (x2 + (1 : Int32)) u3 (hP.tr h_u3) h_x0)
      · refine fq_bs (fun v4 => ?_)
        exact fq_tr h_u3 (hrec4 x0 v4 (x2 + (1 : Int32)) u3 (hP.tr h_u3) h_x0)
set_option maxRecDepth 20000 in
theorem fr_X11_sleepers {P : Nat → Prop} (N : Nat)   (a0 : Nat) (u : SG) : Cl P u → P a0 → FQ P u (fun _ => True) (fX11_sleepers N  a0 u) := by
  intro hP h_a0
  have h_u : Fr P u u := Fr.rf
  unfold fX11_sleepers
  exact fq_tr h_u (frgX11_sleepers_4 N   N a0 (0 : Int32) (0 : Int32) u (hP.tr h_u) h_a0)
set_option maxRecDepth 20000 in
theorem frgX11_burning_4 {P : Nat → Prop} (N : Nat)     : ∀ (n : Nat) (x0 : Nat) (x1 : Int32) (x2 : Int32) (u : SG), Cl P u → P x0 → FQ P u (fun _ => True) (gX11_burning_4 N   n x0 x1 x2 u) := by
  intro n
  induction n with
  | zero => intros; intro r u9 h9; exact absurd h9 (by simp [gX11_burning_4])
  | succ n ih =>
    intro x0 x1 x2 u hP h_x0
    have hrec4 := ih
    have h_u : Fr P u u := Fr.rf
    rw [gX11_burning_4]
    refine fq_if ?_ fq_none
    refine fq_bR h_u hP h_x0 (fun q1 h_q1 => ?_)
    refine fq_if (fq_if fq_none ?_) fq_none
    refine fq_if ?_ ?_
    · exact fq_ret h_u trivial
    · refine fq_if ?_ fq_none
      refine fq_bR h_u hP h_x0 (fun q2 h_q2 => ?_)
      refine fq_if (fq_if fq_none ?_) fq_none
      refine fq_if (fq_cl h_u (fr_X11_burnsIn N x0 x2 (zI u q2 5) u (hP.tr h_u) h_x0 ) (fun r3 u4 h_u4 h_r3 => ?_)) fq_none
      refine fq_if ?_ ?_
      · refine fq_bs (fun v5 => ?_)
        exact fq_tr h_u4 (hrec4 x0 v5 (x2 + (1 : Int32)) u4 (hP.tr h_u4) h_x0)
      · refine fq_bs (fun v6 => ?_)
        exact fq_tr h_u4 (hrec4 x0 v6 (x2 + (1 : Int32)) u4 (hP.tr h_u4) h_x0)
set_option maxRecDepth 20000 in
theorem fr_X11_burning {P : Nat → Prop} (N : Nat)   (a0 : Nat) (u : SG) : Cl P u → P a0 → FQ P u (fun _ => True) (fX11_burning N  a0 u) := by
  intro hP h_a0
  have h_u : Fr P u u := Fr.rf
  unfold fX11_burning
  exact fq_tr h_u (frgX11_burning_4 N   N a0 (0 : Int32) (0 : Int32) u (hP.tr h_u) h_a0)
set_option maxRecDepth 20000 in
theorem frgX11_idle_4 {P : Nat → Prop} (N : Nat)     : ∀ (n : Nat) (x0 : Nat) (x1 : Int32) (x2 : Int32) (u : SG), Cl P u → P x0 → FQ P u (fun _ => True) (gX11_idle_4 N   n x0 x1 x2 u) := by
  intro n
  induction n with
  | zero => intros; intro r u9 h9; exact absurd h9 (by simp [gX11_idle_4])
  | succ n ih =>
    intro x0 x1 x2 u hP h_x0
    have hrec4 := ih
    have h_u : Fr P u u := Fr.rf
    rw [gX11_idle_4]
    refine fq_if ?_ fq_none
    refine fq_bR h_u hP h_x0 (fun q1 h_q1 => ?_)
    refine fq_if (fq_if fq_none ?_) fq_none
    refine fq_if ?_ ?_
    · exact fq_ret h_u trivial
    · refine fq_if ?_ fq_none
      refine fq_bR h_u hP h_x0 (fun q2 h_q2 => ?_)
      refine fq_if (fq_if fq_none ?_) fq_none
      refine fq_if (fq_cl h_u (fr_X11_worksIn N x0 x2 (zI u q2 5) u (hP.tr h_u) h_x0 ) (fun r3 u4 h_u4 h_r3 => ?_)) fq_none
      refine fq_if ?_ ?_
      · refine fq_bs (fun v5 => ?_)
        exact fq_tr h_u4 (hrec4 x0 v5 (x2 + (1 : Int32)) u4 (hP.tr h_u4) h_x0)
      · refine fq_bs (fun v6 => ?_)
        exact fq_tr h_u4 (hrec4 x0 v6 (x2 + (1 : Int32)) u4 (hP.tr h_u4) h_x0)
set_option maxRecDepth 20000 in
theorem fr_X11_idle {P : Nat → Prop} (N : Nat)   (a0 : Nat) (u : SG) : Cl P u → P a0 → FQ P u (fun _ => True) (fX11_idle N  a0 u) := by
  intro hP h_a0
  have h_u : Fr P u u := Fr.rf
  unfold fX11_idle
  exact fq_tr h_u (frgX11_idle_4 N   N a0 (0 : Int32) (0 : Int32) u (hP.tr h_u) h_a0)
set_option maxRecDepth 20000 in
theorem fr_X11_force {P : Nat → Prop} (N : Nat)   (a0 : Nat) (p1 : Int32) (u : SG) : Cl P u → P a0 → FQ P u (fun _ => True) (fX11_force N  a0 p1 u) := by
  intro hP h_a0
  have h_u : Fr P u u := Fr.rf
  unfold fX11_force
  refine fq_if ?_ ?_
  · refine fq_if ?_ fq_none
    refine fq_bs (fun v1 => ?_)
    refine fq_if (fq_sI h_u h_a0 (fun u2 h_u2 => ?_)) fq_none
    exact fq_ret h_u2 trivial
  · refine fq_if (fq_cl h_u (fr_X11_isRule N a0 p1 u (hP.tr h_u) h_a0 ) (fun r3 u4 h_u4 h_r3 => ?_)) fq_none
    refine fq_if ?_ ?_
    · exact fq_ret h_u4 trivial
    · refine fq_if ?_ fq_none
      refine fq_bs (fun v5 => ?_)
      refine fq_if (fq_sI h_u4 h_a0 (fun u6 h_u6 => ?_)) fq_none
      exact fq_ret h_u6 trivial
set_option maxRecDepth 20000 in
theorem fr_X11_person {P : Nat → Prop} (N : Nat)   (a0 : Nat) (p1 : Int32) (p2 : Int32) (u : SG) : Cl P u → P a0 → FQ P u (fun _ => True) (fX11_person N  a0 p1 p2 u) := by
  intro hP h_a0
  have h_u : Fr P u u := Fr.rf
  unfold fX11_person
  refine fq_if (fq_cl h_u (fr_X11_isPerson N a0 p1 u (hP.tr h_u) h_a0 ) (fun r1 u2 h_u2 h_r1 => ?_)) fq_none
  refine fq_if ?_ ?_
  · exact fq_ret h_u2 trivial
  · refine fq_cl h_u2 (fr_X11_in N p2.toInt64 (0 : Int64) (5 : Int64) u2 (hP.tr h_u2) ) (fun r3 u4 h_u4 h_r3 => ?_)
    refine fq_if ?_ ?_
    · exact fq_ret h_u4 trivial
    · refine fq_if ?_ ?_
      · refine fq_if ?_ fq_none
        refine fq_bR h_u4 hP h_a0 (fun q5 h_q5 => ?_)
        refine fq_if (fq_if fq_none ?_) fq_none
        refine fq_if (fq_cl h_u4 (fr_X11_worksIn N a0 p1 (zI u4 q5 5) u4 (hP.tr h_u4) h_a0 ) (fun r6 u7 h_u7 h_r6 => ?_)) fq_none
        refine fq_if ?_ ?_
        · exact fq_ret h_u7 trivial
        · exact fq_ret h_u7 trivial
      · refine fq_if (fq_cl h_u4 (fr_X11_personOf N a0 p1 p2 u4 (hP.tr h_u4) h_a0 ) (fun r8 u9 h_u9 h_r8 => ?_)) fq_none
        exact fq_ret h_u9 trivial
set_option maxRecDepth 20000 in
theorem fr_X11_lamp {P : Nat → Prop} (N : Nat)   (a0 : Nat) (p1 : Int32) (p2 : Int32) (u : SG) : Cl P u → P a0 → FQ P u (fun _ => True) (fX11_lamp N  a0 p1 p2 u) := by
  intro hP h_a0
  have h_u : Fr P u u := Fr.rf
  unfold fX11_lamp
  refine fq_if (fq_cl h_u (fr_X11_isLamp N a0 p1 u (hP.tr h_u) h_a0 ) (fun r1 u2 h_u2 h_r1 => ?_)) fq_none
  refine fq_if ?_ ?_
  · exact fq_ret h_u2 trivial
  · refine fq_cl h_u2 (fr_X11_in N p2.toInt64 (0 : Int64) (2 : Int64) u2 (hP.tr h_u2) ) (fun r3 u4 h_u4 h_r3 => ?_)
    refine fq_if ?_ ?_
    · exact fq_ret h_u4 trivial
    · refine fq_if ?_ ?_
      · refine fq_if ?_ fq_none
        refine fq_bR h_u4 hP h_a0 (fun q5 h_q5 => ?_)
        refine fq_if (fq_if fq_none ?_) fq_none
        refine fq_if (fq_cl h_u4 (fr_X11_burnsIn N a0 p1 (zI u4 q5 5) u4 (hP.tr h_u4) h_a0 ) (fun r6 u7 h_u7 h_r6 => ?_)) fq_none
        refine fq_if ?_ ?_
        · exact fq_ret h_u7 trivial
        · exact fq_ret h_u7 trivial
      · refine fq_if ?_ fq_none
        refine fq_bR h_u4 hP h_a0 (fun q8 h_q8 => ?_)
        refine fq_if (fq_if fq_none ?_) fq_none
        exact fq_ret h_u4 trivial
set_option maxRecDepth 20000 in
theorem frgX11_ownCost_4 {P : Nat → Prop} (N : Nat)     : ∀ (n : Nat) (x0 : Nat) (x1 : Int32) (x2 : Int32) (x3 : Int32) (u : SG), Cl P u → P x0 → FQ P u (fun _ => True) (gX11_ownCost_4 N   n x0 x1 x2 x3 u) := by
  intro n
  induction n with
  | zero => intros; intro r u9 h9; exact absurd h9 (by simp [gX11_ownCost_4])
  | succ n ih =>
    intro x0 x1 x2 x3 u hP h_x0
    have hrec4 := ih
    have h_u : Fr P u u := Fr.rf
    rw [gX11_ownCost_4]
    refine fq_if ?_ fq_none
    refine fq_bR h_u hP h_x0 (fun q1 h_q1 => ?_)
    refine fq_if (fq_if fq_none ?_) fq_none
    refine fq_if ?_ ?_
    · exact fq_ret h_u trivial
    · refine fq_if ?_ fq_none
      refine fq_bR h_u hP h_x0 (fun q2 h_q2 => ?_)
      refine fq_if (fq_if fq_none ?_) fq_none
      refine fq_if ?_ ?_
      · refine fq_if ?_ fq_none
        refine fq_bR h_u hP h_x0 (fun q4 h_q4 => ?_)
        refine fq_if (fq_if fq_none ?_) fq_none
        refine fq_if (fq_cl h_u (fr_X11_burnsIn N x0 x3 (zI u q4 5) u (hP.tr h_u) h_x0 ) (fun r5 u6 h_u6 h_r5 => ?_)) fq_none
        refine fq_if ?_ ?_
        · refine fq_bs (fun v7 => ?_)
          exact fq_tr h_u6 (hrec4 x0 x1 v7 (x3 + (1 : Int32)) u6 (hP.tr h_u6) h_x0)
        · refine fq_if (fq_cl h_u6 (fr_X11_costOf N x0 x3 u6 (hP.tr h_u6) h_x0 ) (fun r8 u9 h_u9 h_r8 => ?_)) fq_none
          refine fq_bs (fun v10 => ?_)
          exact fq_tr h_u9 (hrec4 x0 x1 v10 (x3 + (1 : Int32)) u9 (hP.tr h_u9) h_x0)
      · refine fq_bs (fun v3 => ?_)
        exact fq_tr h_u (hrec4 x0 x1 v3 (x3 + (1 : Int32)) u (hP.tr h_u) h_x0)
set_option maxRecDepth 20000 in
theorem fr_X11_ownCost {P : Nat → Prop} (N : Nat)   (a0 : Nat) (p1 : Int32) (u : SG) : Cl P u → P a0 → FQ P u (fun _ => True) (fX11_ownCost N  a0 p1 u) := by
  intro hP h_a0
  have h_u : Fr P u u := Fr.rf
  unfold fX11_ownCost
  exact fq_tr h_u (frgX11_ownCost_4 N   N a0 p1 (0 : Int32) (0 : Int32) u (hP.tr h_u) h_a0)
set_option maxRecDepth 20000 in
theorem fr_X11_words {P : Nat → Prop} (N : Nat)   (a0 : Nat) (p1 : Int32) (u : SG) : Cl P u → P a0 → FQ P u (fun _ => True) (fX11_words N  a0 p1 u) := by
  intro hP h_a0
  have h_u : Fr P u u := Fr.rf
  unfold fX11_words
  refine fq_if ?_ fq_none
  refine fq_bR h_u hP h_a0 (fun q1 h_q1 => ?_)
  refine fq_if (fq_if fq_none (fq_sL h_u h_q1 (fun u2 h_u2 => ?_))) fq_none
  refine fq_if ?_ fq_none
  refine fq_bR h_u2 hP h_a0 (fun q3 h_q3 => ?_)
  refine fq_if ?_ fq_none
  refine fq_bR h_u2 hP h_a0 (fun q4 h_q4 => ?_)
  refine fq_if (fq_if fq_none ?_) fq_none
  refine fq_if (fq_if fq_none (fq_sL h_u2 h_q3 (fun u5 h_u5 => ?_))) fq_none
  refine fq_if ?_ fq_none
  refine fq_bR h_u5 hP h_a0 (fun q6 h_q6 => ?_)
  refine fq_if ?_ fq_none
  refine fq_bR h_u5 hP h_a0 (fun q7 h_q7 => ?_)
  refine fq_if (fq_if fq_none ?_) fq_none
  refine fq_if (fq_if fq_none (fq_sL h_u5 h_q6 (fun u8 h_u8 => ?_))) fq_none
  refine fq_if ?_ fq_none
  refine fq_bR h_u8 hP h_a0 (fun q9 h_q9 => ?_)
  refine fq_if (fq_cl h_u8 (fr_X11_personOf N a0 p1 (0 : Int32) u8 (hP.tr h_u8) h_a0 ) (fun r10 u11 h_u11 h_r10 => ?_)) fq_none
  refine fq_if (fq_if fq_none (fq_sL h_u11 h_q9 (fun u12 h_u12 => ?_))) fq_none
  refine fq_if ?_ fq_none
  refine fq_bR h_u12 hP h_a0 (fun q13 h_q13 => ?_)
  refine fq_if (fq_cl h_u12 (fr_X11_personOf N a0 p1 (1 : Int32) u12 (hP.tr h_u12) h_a0 ) (fun r14 u15 h_u15 h_r14 => ?_)) fq_none
  refine fq_if (fq_if fq_none (fq_sL h_u15 h_q13 (fun u16 h_u16 => ?_))) fq_none
  refine fq_if ?_ fq_none
  refine fq_bR h_u16 hP h_a0 (fun q17 h_q17 => ?_)
  refine fq_if (fq_cl h_u16 (fr_X11_personOf N a0 p1 (3 : Int32) u16 (hP.tr h_u16) h_a0 ) (fun r18 u19 h_u19 h_r18 => ?_)) fq_none
  refine fq_if (fq_if fq_none (fq_sL h_u19 h_q17 (fun u20 h_u20 => ?_))) fq_none
  refine fq_if ?_ fq_none
  refine fq_bR h_u20 hP h_a0 (fun q21 h_q21 => ?_)
  refine fq_if ?_ fq_none
  refine fq_bR h_u20 hP h_a0 (fun q22 h_q22 => ?_)
  refine fq_if (fq_if fq_none ?_) fq_none
  refine fq_if ?_ fq_none
  refine fq_bR h_u20 hP h_a0 (fun q23 h_q23 => ?_)
  refine fq_if (fq_if fq_none ?_) fq_none
  refine fq_if (fq_if fq_none (fq_sL h_u20 h_q21 (fun u24 h_u24 => ?_))) fq_none
  refine fq_if ?_ fq_none
  refine fq_bR h_u24 hP h_a0 (fun q25 h_q25 => ?_)
  refine fq_if ?_ fq_none
  refine fq_bR h_u24 hP h_a0 (fun q26 h_q26 => ?_)
  refine fq_if (fq_if fq_none ?_) fq_none
  refine fq_if (fq_cl h_u24 (fr_X11_costIn N a0 (zI u24 q26 5) u24 (hP.tr h_u24) h_a0 ) (fun r27 u28 h_u28 h_r27 => ?_)) fq_none
  refine fq_if (fq_if fq_none (fq_sL h_u28 h_q25 (fun u29 h_u29 => ?_))) fq_none
  refine fq_if ?_ fq_none
  refine fq_bR h_u29 hP h_a0 (fun q30 h_q30 => ?_)
  refine fq_if (fq_cl h_u29 (fr_X11_sleepers N a0  u29 (hP.tr h_u29) h_a0 ) (fun r31 u32 h_u32 h_r31 => ?_)) fq_none
  refine fq_cl h_u32 (fr_X11_bits N (r31 &&& (((1 : Int32) <<< (p1 &&& 31)) ^^^ (-1 : Int32))) u32 (hP.tr h_u32) ) (fun r33 u34 h_u34 h_r33 => ?_)
  refine fq_if (fq_if fq_none (fq_sL h_u34 h_q30 (fun u35 h_u35 => ?_))) fq_none
  refine fq_if ?_ fq_none
  refine fq_bR h_u35 hP h_a0 (fun q36 h_q36 => ?_)
  refine fq_if (fq_cl h_u35 (fr_X11_personOf N a0 p1 (2 : Int32) u35 (hP.tr h_u35) h_a0 ) (fun r37 u38 h_u38 h_r37 => ?_)) fq_none
  refine fq_if (fq_if fq_none (fq_sL h_u38 h_q36 (fun u39 h_u39 => ?_))) fq_none
  refine fq_if ?_ fq_none
  refine fq_bR h_u39 hP h_a0 (fun q40 h_q40 => ?_)
  refine fq_if (fq_cl h_u39 (fr_X11_personOf N a0 p1 (5 : Int32) u39 (hP.tr h_u39) h_a0 ) (fun r41 u42 h_u42 h_r41 => ?_)) fq_none
  refine fq_if fq_none ?_
  refine fq_if (fq_if fq_none (fq_sL h_u42 h_q40 (fun u43 h_u43 => ?_))) fq_none
  refine fq_if ?_ fq_none
  refine fq_bR h_u43 hP h_a0 (fun q44 h_q44 => ?_)
  refine fq_if (fq_cl h_u43 (fr_X11_personOf N a0 p1 (4 : Int32) u43 (hP.tr h_u43) h_a0 ) (fun r45 u46 h_u46 h_r45 => ?_)) fq_none
  refine fq_if (fq_if fq_none (fq_sL h_u46 h_q44 (fun u47 h_u47 => ?_))) fq_none
  refine fq_if ?_ fq_none
  refine fq_bR h_u47 hP h_a0 (fun q48 h_q48 => ?_)
  refine fq_if (fq_cl h_u47 (fr_X11_ownCost N a0 p1 u47 (hP.tr h_u47) h_a0 ) (fun r49 u50 h_u50 h_r49 => ?_)) fq_none
  refine fq_if (fq_if fq_none (fq_sL h_u50 h_q48 (fun u51 h_u51 => ?_))) fq_none
  exact fq_ret h_u51 trivial
set_option maxRecDepth 20000 in
theorem frgX11_summedBy_58 {P : Nat → Prop} (N : Nat)     (x0 : Nat) (x1 : Int32) (x3 : Int32) (u : SG) : Cl P u → P x0 → FQ P u (fun _ => True) (gX11_summedBy_58 N   x0 x1 x3 u) := by
  intro hP h_x0
  have h_u : Fr P u u := Fr.rf
  unfold gX11_summedBy_58
  refine fq_if ?_ fq_none
  refine fq_bR h_u hP h_x0 (fun q1 h_q1 => ?_)
  refine fq_if (fq_if fq_none ?_) fq_none
  refine fq_if ?_ fq_none
  refine fq_bR h_u hP h_x0 (fun q2 h_q2 => ?_)
  refine fq_if (fq_if fq_none ?_) fq_none
  refine fq_if (fq_cl h_u (fr_X11_reckons N x0 x1 (zI u q1 x3.toNatClampNeg) (zI u q2 (x3 + (1 : Int32)).toNatClampNeg) u (hP.tr h_u) h_x0 ) (fun r3 u4 h_u4 h_r3 => ?_)) fq_none
  exact fq_ret h_u4 trivial
set_option maxRecDepth 20000 in
theorem frgX11_summedBy_2 {P : Nat → Prop} (N : Nat)     : ∀ (n : Nat) (x0 : Nat) (x1 : Int32) (x2 : Int32) (u : SG), Cl P u → P x0 → FQ P u (fun _ => True) (gX11_summedBy_2 N   n x0 x1 x2 u) := by
  intro n
  induction n with
  | zero => intros; intro r u9 h9; exact absurd h9 (by simp [gX11_summedBy_2])
  | succ n ih =>
    intro x0 x1 x2 u hP h_x0
    have hrec2 := ih
    have h_u : Fr P u u := Fr.rf
    rw [gX11_summedBy_2]
    refine fq_if ?_ fq_none
    refine fq_bR h_u hP h_x0 (fun q1 h_q1 => ?_)
    refine fq_if (fq_if fq_none ?_) fq_none
    refine fq_if ?_ ?_
    · exact fq_ret h_u trivial
    · refine fq_bs (fun v2 => ?_)
      refine fq_if ?_ fq_none
      refine fq_bR h_u hP h_x0 (fun q3 h_q3 => ?_)
      refine fq_if (fq_if fq_none ?_) fq_none
      refine fq_if ?_ ?_
      · exact fq_tr h_u (frgX11_summedBy_58 N   x0 x1 v2 u (hP.tr h_u) h_x0)
      · refine fq_if ?_ fq_none
        refine fq_bR h_u hP h_x0 (fun q4 h_q4 => ?_)
        refine fq_if (fq_if fq_none ?_) fq_none
        refine fq_if ?_ fq_none
        refine fq_bR h_u hP h_x0 (fun q5 h_q5 => ?_)
        refine fq_if (fq_if fq_none ?_) fq_none
        refine fq_if (fq_cl h_u (fr_X11_reckons N x0 x1 (zI u q4 (v2 + (2 : Int32)).toNatClampNeg) (zI u q5 (v2 + (3 : Int32)).toNatClampNeg) u (hP.tr h_u) h_x0 ) (fun r6 u7 h_u7 h_r6 => ?_)) fq_none
        refine fq_if ?_ ?_
        · exact fq_tr h_u7 (frgX11_summedBy_58 N   x0 x1 v2 u7 (hP.tr h_u7) h_x0)
        · exact fq_tr h_u7 (hrec2 x0 x1 (x2 + (1 : Int32)) u7 (hP.tr h_u7) h_x0)
set_option maxRecDepth 20000 in
theorem fr_X11_summedBy {P : Nat → Prop} (N : Nat)   (a0 : Nat) (p1 : Int32) (u : SG) : Cl P u → P a0 → FQ P u (fun _ => True) (fX11_summedBy N  a0 p1 u) := by
  intro hP h_a0
  have h_u : Fr P u u := Fr.rf
  unfold fX11_summedBy
  exact fq_tr h_u (frgX11_summedBy_2 N   N a0 p1 (0 : Int32) u (hP.tr h_u) h_a0)
set_option maxRecDepth 20000 in
theorem fr_X11_setsAsleep {P : Nat → Prop} (N : Nat)   (a0 : Nat) (p1 : Int32) (p2 : Int32) (u : SG) : Cl P u → P a0 → FQ P u (fun _ => True) (fX11_setsAsleep N  a0 p1 p2 u) := by
  intro hP h_a0
  have h_u : Fr P u u := Fr.rf
  unfold fX11_setsAsleep
  refine fq_if ?_ fq_none
  refine fq_bR h_u hP h_a0 (fun q1 h_q1 => ?_)
  refine fq_if ?_ ?_
  · refine fq_if (fq_if fq_none (fq_sI h_u h_q1 (fun u2 h_u2 => ?_))) fq_none
    exact fq_ret h_u2 trivial
  · refine fq_if (fq_if fq_none (fq_sI h_u h_q1 (fun u3 h_u3 => ?_))) fq_none
    exact fq_ret h_u3 trivial
set_option maxRecDepth 20000 in
theorem frgX11_wakesWorkers_2 {P : Nat → Prop} (N : Nat)     : ∀ (n : Nat) (x0 : Nat) (x1 : Int32) (u : SG), Cl P u → P x0 → FQ P u (fun _ => True) (gX11_wakesWorkers_2 N   n x0 x1 u) := by
  intro n
  induction n with
  | zero => intros; intro r u9 h9; exact absurd h9 (by simp [gX11_wakesWorkers_2])
  | succ n ih =>
    intro x0 x1 u hP h_x0
    have hrec2 := ih
    have h_u : Fr P u u := Fr.rf
    rw [gX11_wakesWorkers_2]
    refine fq_if ?_ fq_none
    refine fq_bR h_u hP h_x0 (fun q1 h_q1 => ?_)
    refine fq_if (fq_if fq_none ?_) fq_none
    refine fq_if ?_ ?_
    · exact fq_ret h_u trivial
    · refine fq_if ?_ fq_none
      refine fq_bR h_u hP h_x0 (fun q2 h_q2 => ?_)
      refine fq_if (fq_if fq_none ?_) fq_none
      refine fq_if (fq_cl h_u (fr_X11_worksIn N x0 x1 (zI u q2 5) u (hP.tr h_u) h_x0 ) (fun r3 u4 h_u4 h_r3 => ?_)) fq_none
      refine fq_if ?_ ?_
      · exact fq_tr h_u4 (hrec2 x0 (x1 + (1 : Int32)) u4 (hP.tr h_u4) h_x0)
      · refine fq_if (fq_cl h_u4 (fr_X11_setsAsleep N x0 x1 (0 : Int32) u4 (hP.tr h_u4) h_x0 ) (fun r5 u6 h_u6 h_r5 => ?_)) fq_none
        exact fq_tr h_u6 (hrec2 x0 (x1 + (1 : Int32)) u6 (hP.tr h_u6) h_x0)
set_option maxRecDepth 20000 in
theorem fr_X11_wakesWorkers {P : Nat → Prop} (N : Nat)   (a0 : Nat) (u : SG) : Cl P u → P a0 → FQ P u (fun _ => True) (fX11_wakesWorkers N  a0 u) := by
  intro hP h_a0
  have h_u : Fr P u u := Fr.rf
  unfold fX11_wakesWorkers
  exact fq_tr h_u (frgX11_wakesWorkers_2 N   N a0 (0 : Int32) u (hP.tr h_u) h_a0)
set_option maxRecDepth 20000 in
theorem frgX11_sleepsByRule_61 {P : Nat → Prop} (N : Nat)   (rec2 : Nat → Int32 → SG → Option (Unit × SG)) (hrec2 : ∀ (x0 : Nat) (x1 : Int32) (u : SG), Cl P u → P x0 → FQ P u (fun _ => True) (rec2 x0 x1 u)) (x0 : Nat) (x1 : Int32) (s0 : Nat) (s1 : Int32) (s2 : Int32) (u : SG) : Cl P u → P x0 → P s0 → FQ P u (fun _ => True) (gX11_sleepsByRule_61 N  rec2 x0 x1 s0 s1 s2 u) := by
  intro hP h_x0 h_s0
  have h_u : Fr P u u := Fr.rf
  unfold gX11_sleepsByRule_61
  refine fq_if (fq_cl h_u (fr_X11_setsAsleep N s0 s1 s2 u (hP.tr h_u) h_s0 ) (fun r1 u2 h_u2 h_r1 => ?_)) fq_none
  exact fq_tr h_u2 (hrec2 x0 (x1 + (1 : Int32)) u2 (hP.tr h_u2) h_x0)
set_option maxRecDepth 20000 in
theorem frgX11_sleepsByRule_2 {P : Nat → Prop} (N : Nat)     : ∀ (n : Nat) (x0 : Nat) (x1 : Int32) (u : SG), Cl P u → P x0 → FQ P u (fun _ => True) (gX11_sleepsByRule_2 N   n x0 x1 u) := by
  intro n
  induction n with
  | zero => intros; intro r u9 h9; exact absurd h9 (by simp [gX11_sleepsByRule_2])
  | succ n ih =>
    intro x0 x1 u hP h_x0
    have hrec2 := ih
    have h_u : Fr P u u := Fr.rf
    rw [gX11_sleepsByRule_2]
    refine fq_if ?_ fq_none
    refine fq_bR h_u hP h_x0 (fun q1 h_q1 => ?_)
    refine fq_if (fq_if fq_none ?_) fq_none
    refine fq_if ?_ ?_
    · exact fq_ret h_u trivial
    · refine fq_if ?_ fq_none
      refine fq_if ?_ ?_
      · exact fq_ret h_u trivial
      · refine fq_if ?_ fq_none
        refine fq_bR h_u hP h_x0 (fun q2 h_q2 => ?_)
        refine fq_if (fq_if fq_none ?_) fq_none
        refine fq_if (fq_cl h_u (fr_X11_worksIn N x0 x1 (zI u q2 5) u (hP.tr h_u) h_x0 ) (fun r3 u4 h_u4 h_r3 => ?_)) fq_none
        refine fq_if ?_ ?_
        · refine fq_if (fq_cl h_u4 (fr_X11_words N x0 x1 u4 (hP.tr h_u4) h_x0 ) (fun r5 u6 h_u6 h_r5 => ?_)) fq_none
          refine fq_if ?_ fq_none
          refine fq_if (fq_cl h_u6 (fr_X11_summedBy N x0 (zI u6 x0 21) u6 (hP.tr h_u6) h_x0 ) (fun r7 u8 h_u8 h_r7 => ?_)) fq_none
          refine fq_if ?_ ?_
          · exact fq_tr h_u8 (frgX11_sleepsByRule_61 N  _ hrec2 x0 x1 x0 x1 (0 : Int32) u8 (hP.tr h_u8) h_x0 h_x0)
          · exact fq_tr h_u8 (frgX11_sleepsByRule_61 N  _ hrec2 x0 x1 x0 x1 (1 : Int32) u8 (hP.tr h_u8) h_x0 h_x0)
        · exact fq_tr h_u4 (hrec2 x0 (x1 + (1 : Int32)) u4 (hP.tr h_u4) h_x0)
set_option maxRecDepth 20000 in
theorem fr_X11_sleepsByRule {P : Nat → Prop} (N : Nat)   (a0 : Nat) (u : SG) : Cl P u → P a0 → FQ P u (fun _ => True) (fX11_sleepsByRule N  a0 u) := by
  intro hP h_a0
  have h_u : Fr P u u := Fr.rf
  unfold fX11_sleepsByRule
  exact fq_tr h_u (frgX11_sleepsByRule_2 N   N a0 (0 : Int32) u (hP.tr h_u) h_a0)
set_option maxRecDepth 20000 in
theorem frgX11_endsNight_119 {P : Nat → Prop} (N : Nat)     : ∀ (n : Nat) (x0 : Nat) (x1 : Int32) (u : SG), Cl P u → P x0 → FQ P u (fun _ => True) (gX11_endsNight_119 N   n x0 x1 u) := by
  intro n
  induction n with
  | zero => intros; intro r u9 h9; exact absurd h9 (by simp [gX11_endsNight_119])
  | succ n ih =>
    intro x0 x1 u hP h_x0
    have hrec119 := ih
    have h_u : Fr P u u := Fr.rf
    rw [gX11_endsNight_119]
    refine fq_if ?_ ?_
    · exact fq_ret h_u trivial
    · refine fq_if ?_ fq_none
      refine fq_bR h_u hP h_x0 (fun q1 h_q1 => ?_)
      refine fq_if (fq_if fq_none (fq_sI h_u h_q1 (fun u2 h_u2 => ?_))) fq_none
      exact fq_tr h_u2 (hrec119 x0 (x1 + (1 : Int32)) u2 (hP.tr h_u2) h_x0)
set_option maxRecDepth 20000 in
theorem frgX11_endsNight_20 {P : Nat → Prop} (N : Nat)     : ∀ (n : Nat) (x0 : Nat) (x1 : Int32) (u : SG), Cl P u → P x0 → FQ P u (fun _ => True) (gX11_endsNight_20 N   n x0 x1 u) := by
  intro n
  induction n with
  | zero => intros; intro r u9 h9; exact absurd h9 (by simp [gX11_endsNight_20])
  | succ n ih =>
    intro x0 x1 u hP h_x0
    have hrec20 := ih
    have h_u : Fr P u u := Fr.rf
    rw [gX11_endsNight_20]
    refine fq_if ?_ fq_none
    refine fq_bR h_u hP h_x0 (fun q1 h_q1 => ?_)
    refine fq_if (fq_if fq_none ?_) fq_none
    refine fq_if ?_ ?_
    · exact fq_tr h_u (frgX11_endsNight_119 N   N x0 (0 : Int32) u (hP.tr h_u) h_x0)
    · refine fq_bs (fun v2 => ?_)
      refine fq_if ?_ fq_none
      refine fq_bR h_u hP h_x0 (fun q3 h_q3 => ?_)
      refine fq_if (fq_if fq_none ?_) fq_none
      refine fq_if ?_ fq_none
      refine fq_bR h_u hP h_x0 (fun q4 h_q4 => ?_)
      refine fq_if (fq_if fq_none ?_) fq_none
      refine fq_if ?_ fq_none
      refine fq_bR h_u hP h_x0 (fun q5 h_q5 => ?_)
      refine fq_if (fq_if fq_none ?_) fq_none
      refine fq_bs (fun v6 => ?_)
      refine fq_if ?_ fq_none
      refine fq_bR h_u hP h_x0 (fun q7 h_q7 => ?_)
      refine fq_if (fq_if fq_none (fq_sI h_u h_q7 (fun u8 h_u8 => ?_))) fq_none
      refine fq_if ?_ fq_none
      refine fq_bR h_u8 hP h_x0 (fun q9 h_q9 => ?_)
      refine fq_if (fq_if fq_none (fq_sI h_u8 h_q9 (fun u10 h_u10 => ?_))) fq_none
      refine fq_if ?_ fq_none
      refine fq_bR h_u10 hP h_x0 (fun q11 h_q11 => ?_)
      refine fq_if ?_ ?_
      · refine fq_if ?_ ?_
        · refine fq_if (fq_if fq_none (fq_sI h_u10 h_q11 (fun u12 h_u12 => ?_))) fq_none
          exact fq_tr h_u12 (hrec20 x0 (x1 + (1 : Int32)) u12 (hP.tr h_u12) h_x0)
        · refine fq_if (fq_if fq_none (fq_sI h_u10 h_q11 (fun u13 h_u13 => ?_))) fq_none
          exact fq_tr h_u13 (hrec20 x0 (x1 + (1 : Int32)) u13 (hP.tr h_u13) h_x0)
      · refine fq_if (fq_if fq_none (fq_sI h_u10 h_q11 (fun u14 h_u14 => ?_))) fq_none
        exact fq_tr h_u14 (hrec20 x0 (x1 + (1 : Int32)) u14 (hP.tr h_u14) h_x0)
set_option maxRecDepth 20000 in
theorem fr_X11_endsNight {P : Nat → Prop} (N : Nat)   (a0 : Nat) (u : SG) : Cl P u → P a0 → FQ P u (fun _ => True) (fX11_endsNight N  a0 u) := by
  intro hP h_a0
  have h_u : Fr P u u := Fr.rf
  unfold fX11_endsNight
  refine fq_if ?_ fq_none
  refine fq_bR h_u hP h_a0 (fun q1 h_q1 => ?_)
  refine fq_if (fq_if fq_none (fq_sI h_u h_q1 (fun u2 h_u2 => ?_))) fq_none
  refine fq_if ?_ fq_none
  refine fq_bR h_u2 hP h_a0 (fun q3 h_q3 => ?_)
  refine fq_if (fq_if fq_none ?_) fq_none
  refine fq_if (fq_if fq_none (fq_sI h_u2 h_q3 (fun u4 h_u4 => ?_))) fq_none
  exact fq_tr h_u4 (frgX11_endsNight_20 N   N a0 (0 : Int32) u4 (hP.tr h_u4) h_a0)
set_option maxRecDepth 20000 in
theorem frgX11_shares_126 {P : Nat → Prop} (N : Nat)     (x0 : Nat) (x2 : Int32) (u : SG) : Cl P u → P x0 → FQ P u (fun _ => True) (gX11_shares_126 N   x0 x2 u) := by
  intro hP h_x0
  have h_u : Fr P u u := Fr.rf
  unfold gX11_shares_126
  refine fq_if ?_ fq_none
  refine fq_bR h_u hP h_x0 (fun q1 h_q1 => ?_)
  refine fq_if (fq_if fq_none ?_) fq_none
  refine fq_if (fq_if fq_none (fq_sI h_u h_q1 (fun u2 h_u2 => ?_))) fq_none
  refine fq_if ?_ fq_none
  refine fq_bR h_u2 hP h_x0 (fun q3 h_q3 => ?_)
  refine fq_if (fq_if fq_none ?_) fq_none
  refine fq_if ?_ fq_none
  refine fq_bR h_u2 hP h_x0 (fun q4 h_q4 => ?_)
  refine fq_if (fq_if fq_none ?_) fq_none
  refine fq_if ?_ ?_
  · refine fq_if (fq_cl h_u2 (fr_X11_endsNight N x0  u2 (hP.tr h_u2) h_x0 ) (fun r5 u6 h_u6 h_r5 => ?_)) fq_none
    exact fq_ret h_u6 trivial
  · exact fq_ret h_u2 trivial
set_option maxRecDepth 20000 in
theorem frgX11_shares_24 {P : Nat → Prop} (N : Nat)     : ∀ (n : Nat) (x0 : Nat) (x1 : Int32) (x2 : Int32) (x3 : Int32) (u : SG), Cl P u → P x0 → FQ P u (fun _ => True) (gX11_shares_24 N   n x0 x1 x2 x3 u) := by
  intro n
  induction n with
  | zero => intros; intro r u9 h9; exact absurd h9 (by simp [gX11_shares_24])
  | succ n ih =>
    intro x0 x1 x2 x3 u hP h_x0
    have hrec24 := ih
    have h_u : Fr P u u := Fr.rf
    rw [gX11_shares_24]
    refine fq_if ?_ fq_none
    refine fq_bR h_u hP h_x0 (fun q1 h_q1 => ?_)
    refine fq_if (fq_if fq_none ?_) fq_none
    refine fq_if ?_ ?_
    · refine fq_if ?_ ?_
      · refine fq_if ?_ fq_none
        refine fq_bR h_u hP h_x0 (fun q2 h_q2 => ?_)
        refine fq_if (fq_if fq_none ?_) fq_none
        refine fq_if (fq_if fq_none (fq_sI h_u h_q2 (fun u3 h_u3 => ?_))) fq_none
        exact fq_tr h_u3 (frgX11_shares_126 N   x0 x2 u3 (hP.tr h_u3) h_x0)
      · exact fq_tr h_u (frgX11_shares_126 N   x0 x2 u (hP.tr h_u) h_x0)
    · refine fq_bs (fun v4 => ?_)
      refine fq_if ?_ fq_none
      refine fq_bR h_u hP h_x0 (fun q5 h_q5 => ?_)
      refine fq_if (fq_if fq_none ?_) fq_none
      refine fq_if ?_ ?_
      · refine fq_if ?_ fq_none
        refine fq_bR h_u hP h_x0 (fun q10 h_q10 => ?_)
        refine fq_if (fq_if fq_none ?_) fq_none
        refine fq_if ?_ fq_none
        refine fq_bR h_u hP h_x0 (fun q11 h_q11 => ?_)
        refine fq_if (fq_if fq_none ?_) fq_none
        refine fq_if fq_none ?_
        refine fq_if (fq_if fq_none (fq_sI h_u h_q10 (fun u12 h_u12 => ?_))) fq_none
        exact fq_tr h_u12 (hrec24 x0 x1 x2 (x3 + (1 : Int32)) u12 (hP.tr h_u12) h_x0)
      · refine fq_if ?_ fq_none
        refine fq_bR h_u hP h_x0 (fun q6 h_q6 => ?_)
        refine fq_if (fq_if fq_none ?_) fq_none
        refine fq_if fq_none ?_
        refine fq_if (fq_if fq_none (fq_sI h_u h_q6 (fun u7 h_u7 => ?_))) fq_none
        refine fq_if ?_ fq_none
        refine fq_bR h_u7 hP h_x0 (fun q8 h_q8 => ?_)
        refine fq_if (fq_if fq_none ?_) fq_none
        refine fq_if (fq_if fq_none (fq_sI h_u7 h_q8 (fun u9 h_u9 => ?_))) fq_none
        exact fq_tr h_u9 (hrec24 x0 x1 x2 (x3 + (1 : Int32)) u9 (hP.tr h_u9) h_x0)
set_option maxRecDepth 20000 in
theorem fr_X11_shares {P : Nat → Prop} (N : Nat)   (a0 : Nat) (u : SG) : Cl P u → P a0 → FQ P u (fun _ => True) (fX11_shares N  a0 u) := by
  intro hP h_a0
  have h_u : Fr P u u := Fr.rf
  unfold fX11_shares
  refine fq_if ?_ fq_none
  refine fq_bR h_u hP h_a0 (fun q1 h_q1 => ?_)
  refine fq_if (fq_if fq_none ?_) fq_none
  refine fq_if (fq_cl h_u (fr_X11_costIn N a0 (zI u q1 5) u (hP.tr h_u) h_a0 ) (fun r2 u3 h_u3 h_r2 => ?_)) fq_none
  refine fq_bs (fun v4 => ?_)
  refine fq_if (fq_cl h_u3 (fr_X11_sleepers N a0  u3 (hP.tr h_u3) h_a0 ) (fun r5 u6 h_u6 h_r5 => ?_)) fq_none
  refine fq_cl h_u6 (fr_X11_bits N r5 u6 (hP.tr h_u6) ) (fun r7 u8 h_u8 h_r7 => ?_)
  exact fq_tr h_u8 (frgX11_shares_24 N   N a0 v4 r7 (0 : Int32) u8 (hP.tr h_u8) h_a0)
set_option maxRecDepth 20000 in
theorem fr_X11_passes {P : Nat → Prop} (N : Nat)   (a0 : Nat) (u : SG) : Cl P u → P a0 → FQ P u (fun _ => True) (fX11_passes N  a0 u) := by
  intro hP h_a0
  have h_u : Fr P u u := Fr.rf
  unfold fX11_passes
  refine fq_if (fq_cl h_u (fr_X11_wakesWorkers N a0  u (hP.tr h_u) h_a0 ) (fun r1 u2 h_u2 h_r1 => ?_)) fq_none
  refine fq_if (fq_cl h_u2 (fr_X11_sleepsByRule N a0  u2 (hP.tr h_u2) h_a0 ) (fun r3 u4 h_u4 h_r3 => ?_)) fq_none
  refine fq_if (fq_cl h_u4 (fr_X11_shares N a0  u4 (hP.tr h_u4) h_a0 ) (fun r5 u6 h_u6 h_r5 => ?_)) fq_none
  exact fq_ret h_u6 trivial
set_option maxRecDepth 20000 in
theorem frgX11_keepsAct_52 {P : Nat → Prop} (N : Nat)     : ∀ (n : Nat) (x0 : Nat) (x1 : Int32) (u : SG), Cl P u → P x0 → FQ P u (fun _ => True) (gX11_keepsAct_52 N   n x0 x1 u) := by
  intro n
  induction n with
  | zero => intros; intro r u9 h9; exact absurd h9 (by simp [gX11_keepsAct_52])
  | succ n ih =>
    intro x0 x1 u hP h_x0
    have hrec52 := ih
    have h_u : Fr P u u := Fr.rf
    rw [gX11_keepsAct_52]
    refine fq_if ?_ ?_
    · refine fq_if ?_ fq_none
      refine fq_if (fq_sI h_u h_x0 (fun u1 h_u1 => ?_)) fq_none
      exact fq_ret h_u1 trivial
    · refine fq_if ?_ fq_none
      refine fq_bR h_u hP h_x0 (fun q2 h_q2 => ?_)
      refine fq_if ?_ fq_none
      refine fq_if ?_ fq_none
      refine fq_bR h_u hP h_x0 (fun q3 h_q3 => ?_)
      refine fq_if (fq_if fq_none ?_) fq_none
      refine fq_if (fq_if fq_none (fq_sI h_u h_q2 (fun u4 h_u4 => ?_))) fq_none
      exact fq_tr h_u4 (hrec52 x0 (x1 + (1 : Int32)) u4 (hP.tr h_u4) h_x0)
set_option maxRecDepth 20000 in
theorem frgX11_keepsAct_12 {P : Nat → Prop} (N : Nat)     : ∀ (n : Nat) (x0 : Nat) (x1 : Int32) (u : SG), Cl P u → P x0 → FQ P u (fun _ => True) (gX11_keepsAct_12 N   n x0 x1 u) := by
  intro n
  induction n with
  | zero => intros; intro r u9 h9; exact absurd h9 (by simp [gX11_keepsAct_12])
  | succ n ih =>
    intro x0 x1 u hP h_x0
    have hrec12 := ih
    have h_u : Fr P u u := Fr.rf
    rw [gX11_keepsAct_12]
    refine fq_if ?_ ?_
    · refine fq_if ?_ fq_none
      refine fq_if (fq_sI h_u h_x0 (fun u1 h_u1 => ?_)) fq_none
      exact fq_tr h_u1 (frgX11_keepsAct_52 N   N x0 (0 : Int32) u1 (hP.tr h_u1) h_x0)
    · refine fq_if ?_ fq_none
      refine fq_bR h_u hP h_x0 (fun q2 h_q2 => ?_)
      refine fq_if ?_ fq_none
      refine fq_bR h_u hP h_x0 (fun q3 h_q3 => ?_)
      refine fq_if (fq_if fq_none ?_) fq_none
      refine fq_if (fq_if fq_none (fq_sI h_u h_q2 (fun u4 h_u4 => ?_))) fq_none
      exact fq_tr h_u4 (hrec12 x0 (x1 + (1 : Int32)) u4 (hP.tr h_u4) h_x0)
set_option maxRecDepth 20000 in
theorem fr_X11_keepsAct {P : Nat → Prop} (N : Nat)   (a0 : Nat) (u : SG) : Cl P u → P a0 → FQ P u (fun _ => True) (fX11_keepsAct N  a0 u) := by
  intro hP h_a0
  have h_u : Fr P u u := Fr.rf
  unfold fX11_keepsAct
  refine fq_if ?_ fq_none
  refine fq_if ?_ ?_
  · exact fq_tr h_u (frgX11_keepsAct_12 N   N a0 (45 : Int32) u (hP.tr h_u) h_a0)
  · exact fq_tr h_u (frgX11_keepsAct_52 N   N a0 (0 : Int32) u (hP.tr h_u) h_a0)
set_option maxRecDepth 20000 in
theorem frgX11_undo_21 {P : Nat → Prop} (N : Nat)     : ∀ (n : Nat) (x0 : Nat) (x1 : Int32) (u : SG), Cl P u → P x0 → FQ P u (fun _ => True) (gX11_undo_21 N   n x0 x1 u) := by
  intro n
  induction n with
  | zero => intros; intro r u9 h9; exact absurd h9 (by simp [gX11_undo_21])
  | succ n ih =>
    intro x0 x1 u hP h_x0
    have hrec21 := ih
    have h_u : Fr P u u := Fr.rf
    rw [gX11_undo_21]
    refine fq_if ?_ ?_
    · refine fq_if ?_ fq_none
      exact fq_ret h_u trivial
    · refine fq_if ?_ fq_none
      refine fq_bR h_u hP h_x0 (fun q1 h_q1 => ?_)
      refine fq_if ?_ fq_none
      refine fq_bR h_u hP h_x0 (fun q2 h_q2 => ?_)
      refine fq_if ?_ fq_none
      refine fq_if (fq_if fq_none ?_) fq_none
      refine fq_if (fq_if fq_none (fq_sI h_u h_q1 (fun u3 h_u3 => ?_))) fq_none
      exact fq_tr h_u3 (hrec21 x0 (x1 + (1 : Int32)) u3 (hP.tr h_u3) h_x0)
set_option maxRecDepth 20000 in
theorem fr_X11_undo {P : Nat → Prop} (N : Nat)   (a0 : Nat) (u : SG) : Cl P u → P a0 → FQ P u (fun _ => True) (fX11_undo N  a0 u) := by
  intro hP h_a0
  have h_u : Fr P u u := Fr.rf
  unfold fX11_undo
  refine fq_if ?_ fq_none
  refine fq_if ?_ ?_
  · exact fq_ret h_u trivial
  · refine fq_if ?_ fq_none
    refine fq_if (fq_sI h_u h_a0 (fun u1 h_u1 => ?_)) fq_none
    exact fq_tr h_u1 (frgX11_undo_21 N   N a0 (0 : Int32) u1 (hP.tr h_u1) h_a0)
set_option maxRecDepth 20000 in
theorem frgX11_hour_39 {P : Nat → Prop} (N : Nat)     (x0 : Nat) (u : SG) : Cl P u → P x0 → FQ P u (fun _ => True) (gX11_hour_39 N   x0 u) := by
  intro hP h_x0
  have h_u : Fr P u u := Fr.rf
  unfold gX11_hour_39
  refine fq_if (fq_cl h_u (fr_X11_keepsAct N x0  u (hP.tr h_u) h_x0 ) (fun r1 u2 h_u2 h_r1 => ?_)) fq_none
  refine fq_if (fq_cl h_u2 (fr_X11_passes N x0  u2 (hP.tr h_u2) h_x0 ) (fun r3 u4 h_u4 h_r3 => ?_)) fq_none
  exact fq_ret h_u4 trivial
set_option maxRecDepth 20000 in
theorem fr_X11_hour {P : Nat → Prop} (N : Nat)   (a0 : Nat) (u : SG) : Cl P u → P a0 → FQ P u (fun _ => True) (fX11_hour N  a0 u) := by
  intro hP h_a0
  have h_u : Fr P u u := Fr.rf
  unfold fX11_hour
  refine fq_if (fq_cl h_u (fr_X11_isStreet N a0  u (hP.tr h_u) h_a0 ) (fun r1 u2 h_u2 h_r1 => ?_)) fq_none
  refine fq_if ?_ ?_
  · exact fq_ret h_u2 trivial
  · refine fq_if ?_ fq_none
    refine fq_bR h_u2 hP h_a0 (fun q3 h_q3 => ?_)
    refine fq_if (fq_if fq_none ?_) fq_none
    refine fq_if ?_ ?_
    · refine fq_if ?_ fq_none
      refine fq_bR h_u2 hP h_a0 (fun q4 h_q4 => ?_)
      refine fq_if (fq_if fq_none ?_) fq_none
      refine fq_if ?_ fq_none
      refine fq_bR h_u2 hP h_a0 (fun q5 h_q5 => ?_)
      refine fq_if (fq_if fq_none ?_) fq_none
      refine fq_if ?_ ?_
      · exact fq_ret h_u2 trivial
      · exact fq_tr h_u2 (frgX11_hour_39 N   a0 u2 (hP.tr h_u2) h_a0)
    · exact fq_tr h_u2 (frgX11_hour_39 N   a0 u2 (hP.tr h_u2) h_a0)
set_option maxRecDepth 20000 in
theorem frgX11_sleep_47 {P : Nat → Prop} (N : Nat)     (x0 : Nat) (x1 : Int32) (x2 : Int32) (u : SG) : Cl P u → P x0 → FQ P u (fun _ => True) (gX11_sleep_47 N   x0 x1 x2 u) := by
  intro hP h_x0
  have h_u : Fr P u u := Fr.rf
  unfold gX11_sleep_47
  refine fq_if (fq_cl h_u (fr_X11_keepsAct N x0  u (hP.tr h_u) h_x0 ) (fun r1 u2 h_u2 h_r1 => ?_)) fq_none
  refine fq_if (fq_cl h_u2 (fr_X11_setsAsleep N x0 x1 x2 u2 (hP.tr h_u2) h_x0 ) (fun r3 u4 h_u4 h_r3 => ?_)) fq_none
  exact fq_ret h_u4 trivial
set_option maxRecDepth 20000 in
theorem frgX11_sleep_23 {P : Nat → Prop} (N : Nat)     (x0 : Nat) (x1 : Int32) (x2 : Int32) (s0 : Int32) (u : SG) : Cl P u → P x0 → FQ P u (fun _ => True) (gX11_sleep_23 N   x0 x1 x2 s0 u) := by
  intro hP h_x0
  have h_u : Fr P u u := Fr.rf
  unfold gX11_sleep_23
  refine fq_if ?_ ?_
  · exact fq_ret h_u trivial
  · refine fq_if ?_ ?_
    · exact fq_tr h_u (frgX11_sleep_47 N   x0 x1 x2 u (hP.tr h_u) h_x0)
    · refine fq_if ?_ fq_none
      refine fq_bR h_u hP h_x0 (fun q1 h_q1 => ?_)
      refine fq_if (fq_if fq_none ?_) fq_none
      refine fq_if (fq_cl h_u (fr_X11_worksIn N x0 x1 (zI u q1 5) u (hP.tr h_u) h_x0 ) (fun r2 u3 h_u3 h_r2 => ?_)) fq_none
      refine fq_if ?_ ?_
      · exact fq_tr h_u3 (frgX11_sleep_47 N   x0 x1 x2 u3 (hP.tr h_u3) h_x0)
      · exact fq_ret h_u3 trivial
set_option maxRecDepth 20000 in
theorem fr_X11_sleep {P : Nat → Prop} (N : Nat)   (a0 : Nat) (p1 : Int32) (p2 : Int32) (u : SG) : Cl P u → P a0 → FQ P u (fun _ => True) (fX11_sleep N  a0 p1 p2 u) := by
  intro hP h_a0
  have h_u : Fr P u u := Fr.rf
  unfold fX11_sleep
  refine fq_if (fq_cl h_u (fr_X11_isPerson N a0 p1 u (hP.tr h_u) h_a0 ) (fun r1 u2 h_u2 h_r1 => ?_)) fq_none
  refine fq_if ?_ ?_
  · exact fq_ret h_u2 trivial
  · refine fq_if (fq_cl h_u2 (fr_X11_personOf N a0 p1 (2 : Int32) u2 (hP.tr h_u2) h_a0 ) (fun r3 u4 h_u4 h_r3 => ?_)) fq_none
    refine fq_if ?_ ?_
    · exact fq_tr h_u4 (frgX11_sleep_23 N   a0 p1 p2 (1 : Int32) u4 (hP.tr h_u4) h_a0)
    · exact fq_tr h_u4 (frgX11_sleep_23 N   a0 p1 p2 (0 : Int32) u4 (hP.tr h_u4) h_a0)
set_option maxRecDepth 20000 in
theorem fr_X11_light {P : Nat → Prop} (N : Nat)   (a0 : Nat) (p1 : Int32) (p2 : Int32) (u : SG) : Cl P u → P a0 → FQ P u (fun _ => True) (fX11_light N  a0 p1 p2 u) := by
  intro hP h_a0
  have h_u : Fr P u u := Fr.rf
  unfold fX11_light
  refine fq_if (fq_cl h_u (fr_X11_isLamp N a0 p1 u (hP.tr h_u) h_a0 ) (fun r1 u2 h_u2 h_r1 => ?_)) fq_none
  refine fq_if ?_ ?_
  · exact fq_ret h_u2 trivial
  · refine fq_if ?_ fq_none
    refine fq_bR h_u2 hP h_a0 (fun q3 h_q3 => ?_)
    refine fq_if (fq_if fq_none ?_) fq_none
    refine fq_if (fq_cl h_u2 (fr_X11_burnsIn N a0 p1 (zI u2 q3 5) u2 (hP.tr h_u2) h_a0 ) (fun r4 u5 h_u5 h_r4 => ?_)) fq_none
    refine fq_if ?_ ?_
    · exact fq_ret h_u5 trivial
    · refine fq_if (fq_cl h_u5 (fr_X11_keepsAct N a0  u5 (hP.tr h_u5) h_a0 ) (fun r6 u7 h_u7 h_r6 => ?_)) fq_none
      refine fq_if ?_ fq_none
      refine fq_bR h_u7 hP h_a0 (fun q8 h_q8 => ?_)
      refine fq_if ?_ ?_
      · refine fq_if (fq_if fq_none (fq_sI h_u7 h_q8 (fun u9 h_u9 => ?_))) fq_none
        exact fq_ret h_u9 trivial
      · refine fq_if (fq_if fq_none (fq_sI h_u7 h_q8 (fun u10 h_u10 => ?_))) fq_none
        exact fq_ret h_u10 trivial
set_option maxRecDepth 20000 in
theorem frgX11_divisor_4 {P : Nat → Prop} (N : Nat)     : ∀ (n : Nat) (x2 : Int32) (x3 : Int32) (u : SG), Cl P u → FQ P u (fun _ => True) (gX11_divisor_4 N   n x2 x3 u) := by
  intro n
  induction n with
  | zero => intros; intro r u9 h9; exact absurd h9 (by simp [gX11_divisor_4])
  | succ n ih =>
    intro x2 x3 u hP
    have hrec4 := ih
    have h_u : Fr P u u := Fr.rf
    rw [gX11_divisor_4]
    refine fq_if ?_ ?_
    · exact fq_ret h_u trivial
    · refine fq_if fq_none ?_
      refine fq_bs (fun v1 => ?_)
      exact fq_tr h_u (hrec4 x3 v1 u (hP.tr h_u))
set_option maxRecDepth 20000 in
theorem fr_X11_divisor {P : Nat → Prop} (N : Nat)   (p1 : Int32) (p2 : Int32) (u : SG) : Cl P u → FQ P u (fun _ => True) (fX11_divisor N  p1 p2 u) := by
  intro hP
  have h_u : Fr P u u := Fr.rf
  unfold fX11_divisor
  exact fq_tr h_u (frgX11_divisor_4 N   N p1 p2 u (hP.tr h_u))
set_option maxRecDepth 20000 in
theorem frgX11_fraction_11 {P : Nat → Prop} (N : Nat)     (x0 : Int32) (x1 : Int32) (x2 : Int32) (s0 : Int32) (s1 : Int32) (u : SG) : Cl P u → FQ P u (fun _ => True) (gX11_fraction_11 N   x0 x1 x2 s0 s1 u) := by
  intro hP
  have h_u : Fr P u u := Fr.rf
  unfold gX11_fraction_11
  refine fq_cl h_u (fr_X11_divisor N s0 s1 u (hP.tr h_u) ) (fun r1 u2 h_u2 h_r1 => ?_)
  refine fq_if ?_ ?_
  · refine fq_if fq_none ?_
    exact fq_ret h_u2 trivial
  · refine fq_if fq_none ?_
    exact fq_ret h_u2 trivial
set_option maxRecDepth 20000 in
theorem fr_X11_fraction {P : Nat → Prop} (N : Nat)   (p1 : Int32) (p2 : Int32) (p3 : Int32) (u : SG) : Cl P u → FQ P u (fun _ => True) (fX11_fraction N  p1 p2 p3 u) := by
  intro hP
  have h_u : Fr P u u := Fr.rf
  unfold fX11_fraction
  refine fq_if ?_ ?_
  · exact fq_tr h_u (frgX11_fraction_11 N   p1 p2 p3 p2 p1 u (hP.tr h_u))
  · exact fq_tr h_u (frgX11_fraction_11 N   p1 p2 p3 p2 (0 - p1) u (hP.tr h_u))
set_option maxRecDepth 20000 in
theorem frgX11_owed_53 {P : Nat → Prop} (N : Nat)     (x2 : Int32) (s0 : Int32) (u : SG) : Cl P u → FQ P u (fun _ => True) (gX11_owed_53 N   x2 s0 u) := by
  intro hP
  have h_u : Fr P u u := Fr.rf
  unfold gX11_owed_53
  refine fq_cl h_u (fr_X11_fraction N s0 (60 : Int32) x2 u (hP.tr h_u) ) (fun r1 u2 h_u2 h_r1 => ?_)
  exact fq_ret h_u2 trivial
set_option maxRecDepth 20000 in
theorem frgX11_owed_20 {P : Nat → Prop} (N : Nat)     (x0 : Nat) (x1 : Int32) (x2 : Int32) (u : SG) : Cl P u → P x0 → FQ P u (fun _ => True) (gX11_owed_20 N   x0 x1 x2 u) := by
  intro hP h_x0
  have h_u : Fr P u u := Fr.rf
  unfold gX11_owed_20
  refine fq_cl h_u (fr_X11_in N x2.toInt64 (0 : Int64) (1 : Int64) u (hP.tr h_u) ) (fun r1 u2 h_u2 h_r1 => ?_)
  refine fq_if ?_ ?_
  · exact fq_ret h_u2 trivial
  · refine fq_if ?_ ?_
    · refine fq_if ?_ fq_none
      refine fq_bR h_u2 hP h_x0 (fun q5 h_q5 => ?_)
      refine fq_if (fq_if fq_none ?_) fq_none
      exact fq_tr h_u2 (frgX11_owed_53 N   x2 (zI u2 q5 7) u2 (hP.tr h_u2))
    · refine fq_if (fq_cl h_u2 (fr_X11_personOf N x0 x1 (5 : Int32) u2 (hP.tr h_u2) h_x0 ) (fun r3 u4 h_u4 h_r3 => ?_)) fq_none
      exact fq_tr h_u4 (frgX11_owed_53 N   x2 r3 u4 (hP.tr h_u4))
set_option maxRecDepth 20000 in
theorem fr_X11_owed {P : Nat → Prop} (N : Nat)   (a0 : Nat) (p1 : Int32) (p2 : Int32) (u : SG) : Cl P u → P a0 → FQ P u (fun _ => True) (fX11_owed N  a0 p1 p2 u) := by
  intro hP h_a0
  have h_u : Fr P u u := Fr.rf
  unfold fX11_owed
  refine fq_if (fq_cl h_u (fr_X11_isStreet N a0  u (hP.tr h_u) h_a0 ) (fun r1 u2 h_u2 h_r1 => ?_)) fq_none
  refine fq_if ?_ ?_
  · exact fq_ret h_u2 trivial
  · refine fq_if ?_ ?_
    · exact fq_tr h_u2 (frgX11_owed_20 N   a0 p1 p2 u2 (hP.tr h_u2) h_a0)
    · refine fq_if (fq_cl h_u2 (fr_X11_isPerson N a0 p1 u2 (hP.tr h_u2) h_a0 ) (fun r3 u4 h_u4 h_r3 => ?_)) fq_none
      refine fq_if ?_ ?_
      · exact fq_ret h_u4 trivial
      · exact fq_tr h_u4 (frgX11_owed_20 N   a0 p1 p2 u4 (hP.tr h_u4) h_a0)
set_option maxRecDepth 20000 in
theorem frgX11_keeps_28 {P : Nat → Prop} (N : Nat)     : ∀ (n : Nat) (x0 : Nat) (x1 : Int32) (u : SG), Cl P u → P x0 → FQ P u (fun _ => True) (gX11_keeps_28 N   n x0 x1 u) := by
  intro n
  induction n with
  | zero => intros; intro r u9 h9; exact absurd h9 (by simp [gX11_keeps_28])
  | succ n ih =>
    intro x0 x1 u hP h_x0
    have hrec28 := ih
    have h_u : Fr P u u := Fr.rf
    rw [gX11_keeps_28]
    refine fq_if ?_ ?_
    · exact fq_ret h_u trivial
    · refine fq_if ?_ fq_none
      refine fq_bR h_u hP h_x0 (fun q1 h_q1 => ?_)
      refine fq_if (fq_if fq_none (fq_sI h_u h_q1 (fun u2 h_u2 => ?_))) fq_none
      exact fq_tr h_u2 (hrec28 x0 (x1 + (1 : Int32)) u2 (hP.tr h_u2) h_x0)
set_option maxRecDepth 20000 in
theorem frgX11_keeps_2 {P : Nat → Prop} (N : Nat)     : ∀ (n : Nat) (x0 : Nat) (x1 : Int32) (u : SG), Cl P u → P x0 → FQ P u (fun _ => True) (gX11_keeps_2 N   n x0 x1 u) := by
  intro n
  induction n with
  | zero => intros; intro r u9 h9; exact absurd h9 (by simp [gX11_keeps_2])
  | succ n ih =>
    intro x0 x1 u hP h_x0
    have hrec2 := ih
    have h_u : Fr P u u := Fr.rf
    rw [gX11_keeps_2]
    refine fq_if ?_ ?_
    · exact fq_tr h_u (frgX11_keeps_28 N   N x0 (0 : Int32) u (hP.tr h_u) h_x0)
    · refine fq_if ?_ fq_none
      refine fq_bR h_u hP h_x0 (fun q1 h_q1 => ?_)
      refine fq_if ?_ fq_none
      refine fq_bR h_u hP h_x0 (fun q2 h_q2 => ?_)
      refine fq_if (fq_if fq_none ?_) fq_none
      refine fq_if (fq_if fq_none (fq_sI h_u h_q1 (fun u3 h_u3 => ?_))) fq_none
      exact fq_tr h_u3 (hrec2 x0 (x1 + (1 : Int32)) u3 (hP.tr h_u3) h_x0)
set_option maxRecDepth 20000 in
theorem fr_X11_keeps {P : Nat → Prop} (N : Nat)   (a0 : Nat) (u : SG) : Cl P u → P a0 → FQ P u (fun _ => True) (fX11_keeps N  a0 u) := by
  intro hP h_a0
  have h_u : Fr P u u := Fr.rf
  unfold fX11_keeps
  exact fq_tr h_u (frgX11_keeps_2 N   N a0 (0 : Int32) u (hP.tr h_u) h_a0)
set_option maxRecDepth 20000 in
theorem frgX11_laysBack_2 {P : Nat → Prop} (N : Nat)     : ∀ (n : Nat) (x0 : Nat) (x1 : Int32) (u : SG), Cl P u → P x0 → FQ P u (fun _ => True) (gX11_laysBack_2 N   n x0 x1 u) := by
  intro n
  induction n with
  | zero => intros; intro r u9 h9; exact absurd h9 (by simp [gX11_laysBack_2])
  | succ n ih =>
    intro x0 x1 u hP h_x0
    have hrec2 := ih
    have h_u : Fr P u u := Fr.rf
    rw [gX11_laysBack_2]
    refine fq_if ?_ ?_
    · exact fq_ret h_u trivial
    · refine fq_if ?_ fq_none
      refine fq_bR h_u hP h_x0 (fun q1 h_q1 => ?_)
      refine fq_if ?_ fq_none
      refine fq_bR h_u hP h_x0 (fun q2 h_q2 => ?_)
      refine fq_if (fq_if fq_none ?_) fq_none
      refine fq_if (fq_if fq_none (fq_sI h_u h_q1 (fun u3 h_u3 => ?_))) fq_none
      exact fq_tr h_u3 (hrec2 x0 (x1 + (1 : Int32)) u3 (hP.tr h_u3) h_x0)
set_option maxRecDepth 20000 in
theorem fr_X11_laysBack {P : Nat → Prop} (N : Nat)   (a0 : Nat) (u : SG) : Cl P u → P a0 → FQ P u (fun _ => True) (fX11_laysBack N  a0 u) := by
  intro hP h_a0
  have h_u : Fr P u u := Fr.rf
  unfold fX11_laysBack
  exact fq_tr h_u (frgX11_laysBack_2 N   N a0 (0 : Int32) u (hP.tr h_u) h_a0)
set_option maxRecDepth 20000 in
theorem frgX11_ahead_41 {P : Nat → Prop} (N : Nat)     : ∀ (n : Nat) (x0 : Nat) (x1 : Int32) (x2 : Int32) (x3 : Int32) (x4 : Int32) (u : SG), Cl P u → P x0 → FQ P u (fun _ => True) (gX11_ahead_41 N   n x0 x1 x2 x3 x4 u) := by
  intro n
  induction n with
  | zero => intros; intro r u9 h9; exact absurd h9 (by simp [gX11_ahead_41])
  | succ n ih =>
    intro x0 x1 x2 x3 x4 u hP h_x0
    have hrec41 := ih
    have h_u : Fr P u u := Fr.rf
    rw [gX11_ahead_41]
    refine fq_if ?_ ?_
    · refine fq_if (fq_cl h_u (fr_X11_personOf N x0 x1 ((2 : Int32) + x3) u (hP.tr h_u) h_x0 ) (fun r1 u2 h_u2 h_r1 => ?_)) fq_none
      refine fq_if (fq_cl h_u2 (fr_X11_laysBack N x0  u2 (hP.tr h_u2) h_x0 ) (fun r3 u4 h_u4 h_r3 => ?_)) fq_none
      exact fq_ret h_u4 trivial
    · refine fq_if (fq_cl h_u (fr_X11_passes N x0  u (hP.tr h_u) h_x0 ) (fun r5 u6 h_u6 h_r5 => ?_)) fq_none
      exact fq_tr h_u6 (hrec41 x0 x1 x2 x3 (x4 + (1 : Int32)) u6 (hP.tr h_u6) h_x0)
set_option maxRecDepth 20000 in
theorem fr_X11_ahead {P : Nat → Prop} (N : Nat)   (a0 : Nat) (p1 : Int32) (p2 : Int32) (p3 : Int32) (u : SG) : Cl P u → P a0 → FQ P u (fun _ => True) (fX11_ahead N  a0 p1 p2 p3 u) := by
  intro hP h_a0
  have h_u : Fr P u u := Fr.rf
  unfold fX11_ahead
  refine fq_if (fq_cl h_u (fr_X11_isPerson N a0 p1 u (hP.tr h_u) h_a0 ) (fun r1 u2 h_u2 h_r1 => ?_)) fq_none
  refine fq_if ?_ ?_
  · exact fq_ret h_u2 trivial
  · refine fq_cl h_u2 (fr_X11_in N p2.toInt64 (0 : Int64) (100 : Int64) u2 (hP.tr h_u2) ) (fun r3 u4 h_u4 h_r3 => ?_)
    refine fq_if ?_ ?_
    · exact fq_ret h_u4 trivial
    · refine fq_cl h_u4 (fr_X11_in N p3.toInt64 (0 : Int64) (2 : Int64) u4 (hP.tr h_u4) ) (fun r5 u6 h_u6 h_r5 => ?_)
      refine fq_if ?_ ?_
      · exact fq_ret h_u6 trivial
      · refine fq_if (fq_cl h_u6 (fr_X11_keeps N a0  u6 (hP.tr h_u6) h_a0 ) (fun r7 u8 h_u8 h_r7 => ?_)) fq_none
        exact fq_tr h_u8 (frgX11_ahead_41 N   N a0 p1 p2 p3 (0 : Int32) u8 (hP.tr h_u8) h_a0)
set_option maxRecDepth 20000 in
theorem frgX11_worksOne_2 {P : Nat → Prop} (N : Nat)     : ∀ (n : Nat) (x0 : Nat) (x1 : Int32) (x2 : Int32) (x3 : Int32) (u : SG), Cl P u → P x0 → FQ P u (fun _ => True) (gX11_worksOne_2 N   n x0 x1 x2 x3 u) := by
  intro n
  induction n with
  | zero => intros; intro r u9 h9; exact absurd h9 (by simp [gX11_worksOne_2])
  | succ n ih =>
    intro x0 x1 x2 x3 u hP h_x0
    have hrec2 := ih
    have h_u : Fr P u u := Fr.rf
    rw [gX11_worksOne_2]
    refine fq_if ?_ fq_none
    refine fq_bR h_u hP h_x0 (fun q1 h_q1 => ?_)
    refine fq_if (fq_if fq_none ?_) fq_none
    refine fq_if ?_ ?_
    · exact fq_ret h_u trivial
    · refine fq_cl h_u (fr_X11_isOf N x1 x3 u (hP.tr h_u) ) (fun r2 u3 h_u3 h_r2 => ?_)
      refine fq_if ?_ ?_
      · exact fq_tr h_u3 (hrec2 x0 x1 x2 (x3 + (1 : Int32)) u3 (hP.tr h_u3) h_x0)
      · refine fq_if (fq_cl h_u3 (fr_X11_worksIn N x0 x3 x2 u3 (hP.tr h_u3) h_x0 ) (fun r4 u5 h_u5 h_r4 => ?_)) fq_none
        refine fq_if ?_ ?_
        · exact fq_tr h_u5 (hrec2 x0 x1 x2 (x3 + (1 : Int32)) u5 (hP.tr h_u5) h_x0)
        · exact fq_ret h_u5 trivial
set_option maxRecDepth 20000 in
theorem fr_X11_worksOne {P : Nat → Prop} (N : Nat)   (a0 : Nat) (p1 : Int32) (p2 : Int32) (u : SG) : Cl P u → P a0 → FQ P u (fun _ => True) (fX11_worksOne N  a0 p1 p2 u) := by
  intro hP h_a0
  have h_u : Fr P u u := Fr.rf
  unfold fX11_worksOne
  exact fq_tr h_u (frgX11_worksOne_2 N   N a0 p1 p2 (0 : Int32) u (hP.tr h_u) h_a0)
set_option maxRecDepth 20000 in
theorem frgX11_findsCheap_101 {P : Nat → Prop} (N : Nat)   (rec61 : Nat → Int32 → Int32 → Int32 → SG → Option (Unit × SG)) (hrec61 : ∀ (x0 : Nat) (x2 : Int32) (x3 : Int32) (x4 : Int32) (u : SG), Cl P u → P x0 → FQ P u (fun _ => True) (rec61 x0 x2 x3 x4 u)) : ∀ (n : Nat) (x0 : Nat) (x2 : Int32) (x3 : Int32) (x4 : Int32) (x5 : Int32) (x6 : Int32) (u : SG), Cl P u → P x0 → FQ P u (fun _ => True) (gX11_findsCheap_101 N  rec61 n x0 x2 x3 x4 x5 x6 u) := by
  intro n
  induction n with
  | zero => intros; intro r u9 h9; exact absurd h9 (by simp [gX11_findsCheap_101])
  | succ n ih =>
    intro x0 x2 x3 x4 x5 x6 u hP h_x0
    have hrec101 := ih
    have h_u : Fr P u u := Fr.rf
    rw [gX11_findsCheap_101]
    refine fq_if ?_ fq_none
    refine fq_bR h_u hP h_x0 (fun q1 h_q1 => ?_)
    refine fq_if (fq_if fq_none ?_) fq_none
    refine fq_if ?_ ?_
    · refine fq_if ?_ fq_none
      refine fq_if ?_ ?_
      · refine fq_if (fq_sI h_u h_x0 (fun u2 h_u2 => ?_)) fq_none
        refine fq_if (fq_sI h_u2 h_x0 (fun u3 h_u3 => ?_)) fq_none
        exact fq_tr h_u3 (hrec61 x0 x2 x3 (x4 + (1 : Int32)) u3 (hP.tr h_u3) h_x0)
      · refine fq_if ?_ fq_none
        refine fq_if ?_ ?_
        · refine fq_if (fq_sI h_u h_x0 (fun u4 h_u4 => ?_)) fq_none
          refine fq_if (fq_sI h_u4 h_x0 (fun u5 h_u5 => ?_)) fq_none
          exact fq_tr h_u5 (hrec61 x0 x2 x3 (x4 + (1 : Int32)) u5 (hP.tr h_u5) h_x0)
        · exact fq_tr h_u (hrec61 x0 x2 x3 (x4 + (1 : Int32)) u (hP.tr h_u) h_x0)
    · refine fq_cl h_u (fr_X11_isOf N x4 x6 u (hP.tr h_u) ) (fun r6 u7 h_u7 h_r6 => ?_)
      refine fq_if ?_ ?_
      · refine fq_bs (fun v8 => ?_)
        exact fq_tr h_u7 (hrec101 x0 x2 x3 x4 v8 (x6 + (1 : Int32)) u7 (hP.tr h_u7) h_x0)
      · refine fq_if (fq_cl h_u7 (fr_X11_costIn N x0 x6 u7 (hP.tr h_u7) h_x0 ) (fun r9 u10 h_u10 h_r9 => ?_)) fq_none
        refine fq_bs (fun v11 => ?_)
        exact fq_tr h_u10 (hrec101 x0 x2 x3 x4 v11 (x6 + (1 : Int32)) u10 (hP.tr h_u10) h_x0)
set_option maxRecDepth 20000 in
theorem frgX11_findsCheap_61 {P : Nat → Prop} (N : Nat)     : ∀ (n : Nat) (x0 : Nat) (x2 : Int32) (x3 : Int32) (x4 : Int32) (u : SG), Cl P u → P x0 → FQ P u (fun _ => True) (gX11_findsCheap_61 N   n x0 x2 x3 x4 u) := by
  intro n
  induction n with
  | zero => intros; intro r u9 h9; exact absurd h9 (by simp [gX11_findsCheap_61])
  | succ n ih =>
    intro x0 x2 x3 x4 u hP h_x0
    have hrec61 := ih
    have h_u : Fr P u u := Fr.rf
    rw [gX11_findsCheap_61]
    refine fq_if ?_ fq_none
    refine fq_bR h_u hP h_x0 (fun q1 h_q1 => ?_)
    refine fq_if (fq_if fq_none ?_) fq_none
    refine fq_if ?_ ?_
    · exact fq_ret h_u trivial
    · refine fq_if ?_ ?_
      · refine fq_cl h_u (fr_X11_bits N x4 u (hP.tr h_u) ) (fun r2 u3 h_u3 h_r2 => ?_)
        refine fq_if ?_ ?_
        · exact fq_tr h_u3 (frgX11_findsCheap_101 N  _ hrec61 N x0 x2 x3 x4 (0 : Int32) (0 : Int32) u3 (hP.tr h_u3) h_x0)
        · exact fq_tr h_u3 (hrec61 x0 x2 x3 (x4 + (1 : Int32)) u3 (hP.tr h_u3) h_x0)
      · exact fq_tr h_u (hrec61 x0 x2 x3 (x4 + (1 : Int32)) u (hP.tr h_u) h_x0)
set_option maxRecDepth 20000 in
theorem frgX11_findsCheap_10 {P : Nat → Prop} (N : Nat)     : ∀ (n : Nat) (x0 : Nat) (x1 : Int32) (x2 : Int32) (x3 : Int32) (x4 : Int32) (u : SG), Cl P u → P x0 → FQ P u (fun _ => True) (gX11_findsCheap_10 N   n x0 x1 x2 x3 x4 u) := by
  intro n
  induction n with
  | zero => intros; intro r u9 h9; exact absurd h9 (by simp [gX11_findsCheap_10])
  | succ n ih =>
    intro x0 x1 x2 x3 x4 u hP h_x0
    have hrec10 := ih
    have h_u : Fr P u u := Fr.rf
    rw [gX11_findsCheap_10]
    refine fq_if ?_ fq_none
    refine fq_bR h_u hP h_x0 (fun q1 h_q1 => ?_)
    refine fq_if (fq_if fq_none ?_) fq_none
    refine fq_if ?_ ?_
    · refine fq_if (fq_sI h_u h_x0 (fun u2 h_u2 => ?_)) fq_none
      refine fq_if (fq_sI h_u2 h_x0 (fun u3 h_u3 => ?_)) fq_none
      exact fq_tr h_u3 (frgX11_findsCheap_61 N   N x0 x2 x3 (0 : Int32) u3 (hP.tr h_u3) h_x0)
    · refine fq_if (fq_cl h_u (fr_X11_worksOne N x0 x1 x4 u (hP.tr h_u) h_x0 ) (fun r4 u5 h_u5 h_r4 => ?_)) fq_none
      refine fq_if ?_ ?_
      · refine fq_bs (fun v6 => ?_)
        exact fq_tr h_u5 (hrec10 x0 x1 x2 v6 (x4 + (1 : Int32)) u5 (hP.tr h_u5) h_x0)
      · refine fq_bs (fun v7 => ?_)
        exact fq_tr h_u5 (hrec10 x0 x1 x2 v7 (x4 + (1 : Int32)) u5 (hP.tr h_u5) h_x0)
set_option maxRecDepth 20000 in
theorem fr_X11_findsCheap {P : Nat → Prop} (N : Nat)   (a0 : Nat) (p1 : Int32) (p2 : Int32) (u : SG) : Cl P u → P a0 → FQ P u (fun _ => True) (fX11_findsCheap N  a0 p1 p2 u) := by
  intro hP h_a0
  have h_u : Fr P u u := Fr.rf
  unfold fX11_findsCheap
  refine fq_if ?_ fq_none
  refine fq_bR h_u hP h_a0 (fun q1 h_q1 => ?_)
  refine fq_if (fq_if fq_none ?_) fq_none
  refine fq_bs (fun v2 => ?_)
  exact fq_tr h_u (frgX11_findsCheap_10 N   N a0 p1 p2 (0 : Int32) v2 u (hP.tr h_u) h_a0)
set_option maxRecDepth 20000 in
theorem fr_X11_cheapest {P : Nat → Prop} (N : Nat)   (a0 : Nat) (p1 : Int32) (p2 : Int32) (p3 : Int32) (u : SG) : Cl P u → P a0 → FQ P u (fun _ => True) (fX11_cheapest N  a0 p1 p2 p3 u) := by
  intro hP h_a0
  have h_u : Fr P u u := Fr.rf
  unfold fX11_cheapest
  refine fq_cl h_u (fr_X11_bits N p1 u (hP.tr h_u) ) (fun r1 u2 h_u2 h_r1 => ?_)
  refine fq_if (fq_cl h_u2 (fr_X11_findsCheap N a0 p1 p2 u2 (hP.tr h_u2) h_a0 ) (fun r3 u4 h_u4 h_r3 => ?_)) fq_none
  refine fq_if ?_ fq_none
  refine fq_if ?_ ?_
  · refine fq_if ?_ ?_
    · refine fq_if ?_ fq_none
      exact fq_ret h_u4 trivial
    · refine fq_if ?_ fq_none
      refine fq_if (fq_cl h_u4 (fr_X11_sleepers N a0  u4 (hP.tr h_u4) h_a0 ) (fun r5 u6 h_u6 h_r5 => ?_)) fq_none
      refine fq_cl h_u6 (fr_X11_bits N (r5 &&& (p1 ^^^ (-1 : Int32))) u6 (hP.tr h_u6) ) (fun r7 u8 h_u8 h_r7 => ?_)
      refine fq_cl h_u8 (fr_X11_fraction N ((zI u4 a0 28) * r1) (r1 + r7) (p3 - (1 : Int32)) u8 (hP.tr h_u8) ) (fun r9 u10 h_u10 h_r9 => ?_)
      exact fq_ret h_u10 trivial
  · exact fq_ret h_u4 trivial
set_option maxRecDepth 20000 in
theorem fr_X11_cheap {P : Nat → Prop} (N : Nat)   (a0 : Nat) (p1 : Int32) (p2 : Int32) (p3 : Int32) (u : SG) : Cl P u → P a0 → FQ P u (fun _ => True) (fX11_cheap N  a0 p1 p2 p3 u) := by
  intro hP h_a0
  have h_u : Fr P u u := Fr.rf
  unfold fX11_cheap
  refine fq_if (fq_cl h_u (fr_X11_isPerson N a0 p1 u (hP.tr h_u) h_a0 ) (fun r1 u2 h_u2 h_r1 => ?_)) fq_none
  refine fq_if ?_ ?_
  · exact fq_ret h_u2 trivial
  · refine fq_cl h_u2 (fr_X11_in N p2.toInt64 (0 : Int64) (10 : Int64) u2 (hP.tr h_u2) ) (fun r3 u4 h_u4 h_r3 => ?_)
    refine fq_if ?_ ?_
    · exact fq_ret h_u4 trivial
    · refine fq_cl h_u4 (fr_X11_in N p3.toInt64 (0 : Int64) (2 : Int64) u4 (hP.tr h_u4) ) (fun r5 u6 h_u6 h_r5 => ?_)
      refine fq_if ?_ ?_
      · exact fq_ret h_u6 trivial
      · refine fq_if (fq_cl h_u6 (fr_X11_cheapest N a0 ((1 : Int32) <<< (p1 &&& 31)) p2 p3 u6 (hP.tr h_u6) h_a0 ) (fun r7 u8 h_u8 h_r7 => ?_)) fq_none
        exact fq_ret h_u8 trivial
set_option maxRecDepth 20000 in
theorem fr_X11_guild {P : Nat → Prop} (N : Nat)   (a0 : Nat) (p1 : Int32) (p2 : Int32) (p3 : Int32) (u : SG) : Cl P u → P a0 → FQ P u (fun _ => True) (fX11_guild N  a0 p1 p2 p3 u) := by
  intro hP h_a0
  have h_u : Fr P u u := Fr.rf
  unfold fX11_guild
  refine fq_if (fq_cl h_u (fr_X11_isStreet N a0  u (hP.tr h_u) h_a0 ) (fun r1 u2 h_u2 h_r1 => ?_)) fq_none
  refine fq_if ?_ ?_
  · exact fq_ret h_u2 trivial
  · refine fq_if ?_ ?_
    · exact fq_ret h_u2 trivial
    · refine fq_if ?_ fq_none
      refine fq_bR h_u2 hP h_a0 (fun q3 h_q3 => ?_)
      refine fq_if (fq_if fq_none ?_) fq_none
      refine fq_if ?_ ?_
      · exact fq_ret h_u2 trivial
      · refine fq_cl h_u2 (fr_X11_in N p2.toInt64 (0 : Int64) (10 : Int64) u2 (hP.tr h_u2) ) (fun r4 u5 h_u5 h_r4 => ?_)
        refine fq_if ?_ ?_
        · exact fq_ret h_u5 trivial
        · refine fq_cl h_u5 (fr_X11_in N p3.toInt64 (0 : Int64) (2 : Int64) u5 (hP.tr h_u5) ) (fun r6 u7 h_u7 h_r6 => ?_)
          refine fq_if ?_ ?_
          · exact fq_ret h_u7 trivial
          · refine fq_if (fq_cl h_u7 (fr_X11_cheapest N a0 p1 p2 p3 u7 (hP.tr h_u7) h_a0 ) (fun r8 u9 h_u9 h_r8 => ?_)) fq_none
            exact fq_ret h_u9 trivial
set_option maxRecDepth 20000 in
theorem frgX11_isRest_35 {P : Nat → Prop} (N : Nat)     : ∀ (n : Nat) (x0 : Nat) (x1 : Int32) (x2 : Int32) (x3 : Int32) (x4 : Int32) (x5 : Int32) (u : SG), Cl P u → P x0 → FQ P u (fun _ => True) (gX11_isRest_35 N   n x0 x1 x2 x3 x4 x5 u) := by
  intro n
  induction n with
  | zero => intros; intro r u9 h9; exact absurd h9 (by simp [gX11_isRest_35])
  | succ n ih =>
    intro x0 x1 x2 x3 x4 x5 u hP h_x0
    have hrec35 := ih
    have h_u : Fr P u u := Fr.rf
    rw [gX11_isRest_35]
    refine fq_if ?_ fq_none
    refine fq_bR h_u hP h_x0 (fun q1 h_q1 => ?_)
    refine fq_if (fq_if fq_none ?_) fq_none
    refine fq_if ?_ ?_
    · exact fq_ret h_u trivial
    · refine fq_cl h_u (fr_X11_isOf N x2 x5 u (hP.tr h_u) ) (fun r2 u3 h_u3 h_r2 => ?_)
      refine fq_if ?_ ?_
      · exact fq_tr h_u3 (hrec35 x0 x1 x2 x3 x4 (x5 + (1 : Int32)) u3 (hP.tr h_u3) h_x0)
      · refine fq_if (fq_cl h_u3 (fr_X11_personOf N x0 x5 (1 : Int32) u3 (hP.tr h_u3) h_x0 ) (fun r4 u5 h_u5 h_r4 => ?_)) fq_none
        refine fq_cl h_u5 (fr_X11_isOf N x1 x5 u5 (hP.tr h_u5) ) (fun r6 u7 h_u7 h_r6 => ?_)
        refine fq_if ?_ ?_
        · refine fq_if ?_ ?_
          · exact fq_tr h_u7 (hrec35 x0 x1 x2 x3 x4 (x5 + (1 : Int32)) u7 (hP.tr h_u7) h_x0)
          · exact fq_ret h_u7 trivial
        · refine fq_if ?_ ?_
          · exact fq_tr h_u7 (hrec35 x0 x1 x2 x3 x4 (x5 + (1 : Int32)) u7 (hP.tr h_u7) h_x0)
          · exact fq_ret h_u7 trivial
set_option maxRecDepth 20000 in
theorem fr_X11_isRest {P : Nat → Prop} (N : Nat)   (a0 : Nat) (p1 : Int32) (u : SG) : Cl P u → P a0 → FQ P u (fun _ => True) (fX11_isRest N  a0 p1 u) := by
  intro hP h_a0
  have h_u : Fr P u u := Fr.rf
  unfold fX11_isRest
  refine fq_if (fq_cl h_u (fr_X11_idle N a0  u (hP.tr h_u) h_a0 ) (fun r1 u2 h_u2 h_r1 => ?_)) fq_none
  refine fq_if ?_ fq_none
  refine fq_bR h_u2 hP h_a0 (fun q3 h_q3 => ?_)
  refine fq_if (fq_if fq_none ?_) fq_none
  refine fq_if (fq_cl h_u2 (fr_X11_costIn N a0 (zI u2 q3 5) u2 (hP.tr h_u2) h_a0 ) (fun r4 u5 h_u5 h_r4 => ?_)) fq_none
  refine fq_cl h_u5 (fr_X11_bits N p1 u5 (hP.tr h_u5) ) (fun r6 u7 h_u7 h_r6 => ?_)
  refine fq_if ?_ ?_
  · exact fq_tr h_u7 (frgX11_isRest_35 N   N a0 p1 r1 r4 r6 (0 : Int32) u7 (hP.tr h_u7) h_a0)
  · exact fq_ret h_u7 trivial
set_option maxRecDepth 20000 in
theorem frgX11_rest_33 {P : Nat → Prop} (N : Nat)     : ∀ (n : Nat) (x0 : Nat) (x1 : Int32) (x2 : Int32) (x3 : Int32) (x4 : Int32) (x5 : Int32) (u : SG), Cl P u → P x0 → FQ P u (fun _ => True) (gX11_rest_33 N   n x0 x1 x2 x3 x4 x5 u) := by
  intro n
  induction n with
  | zero => intros; intro r u9 h9; exact absurd h9 (by simp [gX11_rest_33])
  | succ n ih =>
    intro x0 x1 x2 x3 x4 x5 u hP h_x0
    have hrec33 := ih
    have h_u : Fr P u u := Fr.rf
    rw [gX11_rest_33]
    refine fq_if ?_ fq_none
    refine fq_bR h_u hP h_x0 (fun q1 h_q1 => ?_)
    refine fq_if (fq_if fq_none ?_) fq_none
    refine fq_if ?_ ?_
    · refine fq_if ?_ ?_
      · exact fq_ret h_u trivial
      · refine fq_if ?_ ?_
        · exact fq_ret h_u trivial
        · exact fq_ret h_u trivial
    · refine fq_if (fq_cl h_u (fr_X11_isRest N x0 x5 u (hP.tr h_u) h_x0 ) (fun r2 u3 h_u3 h_r2 => ?_)) fq_none
      refine fq_if ?_ ?_
      · exact fq_tr h_u3 (hrec33 x0 x1 x2 x3 x4 (x5 + (1 : Int32)) u3 (hP.tr h_u3) h_x0)
      · refine fq_if ?_ ?_
        · exact fq_tr h_u3 (hrec33 x0 x1 (x2 + (1 : Int32)) x5 x5 (x5 + (1 : Int32)) u3 (hP.tr h_u3) h_x0)
        · exact fq_tr h_u3 (hrec33 x0 x1 (x2 + (1 : Int32)) x3 x5 (x5 + (1 : Int32)) u3 (hP.tr h_u3) h_x0)
set_option maxRecDepth 20000 in
theorem fr_X11_rest {P : Nat → Prop} (N : Nat)   (a0 : Nat) (p1 : Int32) (u : SG) : Cl P u → P a0 → FQ P u (fun _ => True) (fX11_rest N  a0 p1 u) := by
  intro hP h_a0
  have h_u : Fr P u u := Fr.rf
  unfold fX11_rest
  refine fq_if (fq_cl h_u (fr_X11_isStreet N a0  u (hP.tr h_u) h_a0 ) (fun r1 u2 h_u2 h_r1 => ?_)) fq_none
  refine fq_if ?_ ?_
  · exact fq_ret h_u2 trivial
  · refine fq_cl h_u2 (fr_X11_in N p1.toInt64 (0 : Int64) (2 : Int64) u2 (hP.tr h_u2) ) (fun r3 u4 h_u4 h_r3 => ?_)
    refine fq_if ?_ ?_
    · exact fq_ret h_u4 trivial
    · exact fq_tr h_u4 (frgX11_rest_33 N   N a0 p1 (0 : Int32) (-2 : Int32) (-2 : Int32) (0 : Int32) u4 (hP.tr h_u4) h_a0)
set_option maxRecDepth 20000 in
theorem frgX11_isDarkEnough_67 {P : Nat → Prop} (N : Nat)     : ∀ (n : Nat) (x0 : Nat) (x2 : Int32) (x3 : Int32) (x4 : Int32) (u : SG), Cl P u → P x0 → FQ P u (fun _ => True) (gX11_isDarkEnough_67 N   n x0 x2 x3 x4 u) := by
  intro n
  induction n with
  | zero => intros; intro r u9 h9; exact absurd h9 (by simp [gX11_isDarkEnough_67])
  | succ n ih =>
    intro x0 x2 x3 x4 u hP h_x0
    have hrec67 := ih
    have h_u : Fr P u u := Fr.rf
    rw [gX11_isDarkEnough_67]
    refine fq_if ?_ fq_none
    refine fq_bR h_u hP h_x0 (fun q1 h_q1 => ?_)
    refine fq_if (fq_if fq_none ?_) fq_none
    refine fq_if ?_ ?_
    · exact fq_ret h_u trivial
    · refine fq_cl h_u (fr_X11_isOf N x2 x4 u (hP.tr h_u) ) (fun r2 u3 h_u3 h_r2 => ?_)
      refine fq_if ?_ ?_
      · exact fq_tr h_u3 (hrec67 x0 x2 x3 (x4 + (1 : Int32)) u3 (hP.tr h_u3) h_x0)
      · refine fq_if (fq_cl h_u3 (fr_X11_personOf N x0 x4 (1 : Int32) u3 (hP.tr h_u3) h_x0 ) (fun r4 u5 h_u5 h_r4 => ?_)) fq_none
        refine fq_cl h_u5 (fr_X11_bits N x2 u5 (hP.tr h_u5) ) (fun r6 u7 h_u7 h_r6 => ?_)
        refine fq_if ?_ ?_
        · exact fq_tr h_u7 (hrec67 x0 x2 x3 (x4 + (1 : Int32)) u7 (hP.tr h_u7) h_x0)
        · exact fq_ret h_u7 trivial
set_option maxRecDepth 20000 in
theorem frgX11_isDarkEnough_10 {P : Nat → Prop} (N : Nat)     : ∀ (n : Nat) (x0 : Nat) (x1 : Int32) (x2 : Int32) (x3 : Int32) (x4 : Int32) (u : SG), Cl P u → P x0 → FQ P u (fun _ => True) (gX11_isDarkEnough_10 N   n x0 x1 x2 x3 x4 u) := by
  intro n
  induction n with
  | zero => intros; intro r u9 h9; exact absurd h9 (by simp [gX11_isDarkEnough_10])
  | succ n ih =>
    intro x0 x1 x2 x3 x4 u hP h_x0
    have hrec10 := ih
    have h_u : Fr P u u := Fr.rf
    rw [gX11_isDarkEnough_10]
    refine fq_if ?_ fq_none
    refine fq_bR h_u hP h_x0 (fun q1 h_q1 => ?_)
    refine fq_if (fq_if fq_none ?_) fq_none
    refine fq_if ?_ ?_
    · exact fq_tr h_u (frgX11_isDarkEnough_67 N   N x0 x2 x3 (0 : Int32) u (hP.tr h_u) h_x0)
    · refine fq_if ?_ fq_none
      refine fq_bR h_u hP h_x0 (fun q2 h_q2 => ?_)
      refine fq_if (fq_if fq_none ?_) fq_none
      refine fq_if (fq_cl h_u (fr_X11_burnsIn N x0 x4 (zI u q2 5) u (hP.tr h_u) h_x0 ) (fun r3 u4 h_u4 h_r3 => ?_)) fq_none
      refine fq_if ?_ ?_
      · refine fq_bs (fun v5 => ?_)
        exact fq_tr h_u4 (hrec10 x0 x1 x2 v5 (x4 + (1 : Int32)) u4 (hP.tr h_u4) h_x0)
      · refine fq_cl h_u4 (fr_X11_isOf N x1 x4 u4 (hP.tr h_u4) ) (fun r6 u7 h_u7 h_r6 => ?_)
        refine fq_if ?_ ?_
        · refine fq_if (fq_cl h_u7 (fr_X11_costOf N x0 x4 u7 (hP.tr h_u7) h_x0 ) (fun r9 u10 h_u10 h_r9 => ?_)) fq_none
          refine fq_bs (fun v11 => ?_)
          exact fq_tr h_u10 (hrec10 x0 x1 x2 v11 (x4 + (1 : Int32)) u10 (hP.tr h_u10) h_x0)
        · refine fq_bs (fun v8 => ?_)
          exact fq_tr h_u7 (hrec10 x0 x1 x2 v8 (x4 + (1 : Int32)) u7 (hP.tr h_u7) h_x0)
set_option maxRecDepth 20000 in
theorem fr_X11_isDarkEnough {P : Nat → Prop} (N : Nat)   (a0 : Nat) (p1 : Int32) (u : SG) : Cl P u → P a0 → FQ P u (fun _ => True) (fX11_isDarkEnough N  a0 p1 u) := by
  intro hP h_a0
  have h_u : Fr P u u := Fr.rf
  unfold fX11_isDarkEnough
  refine fq_if (fq_cl h_u (fr_X11_idle N a0  u (hP.tr h_u) h_a0 ) (fun r1 u2 h_u2 h_r1 => ?_)) fq_none
  exact fq_tr h_u2 (frgX11_isDarkEnough_10 N   N a0 p1 r1 (0 : Int32) (0 : Int32) u2 (hP.tr h_u2) h_a0)
set_option maxRecDepth 20000 in
theorem frgX11_dark_63 {P : Nat → Prop} (N : Nat)   (rec29 : Nat → Int32 → Int32 → Int32 → Int32 → SG → Option (Int32 × SG)) (hrec29 : ∀ (x0 : Nat) (x1 : Int32) (x2 : Int32) (x3 : Int32) (x4 : Int32) (u : SG), Cl P u → P x0 → FQ P u (fun _ => True) (rec29 x0 x1 x2 x3 x4 u)) (x0 : Nat) (x1 : Int32) (x2 : Int32) (x3 : Int32) (x4 : Int32) (u : SG) : Cl P u → P x0 → FQ P u (fun _ => True) (gX11_dark_63 N  rec29 x0 x1 x2 x3 x4 u) := by
  intro hP h_x0
  have h_u : Fr P u u := Fr.rf
  unfold gX11_dark_63
  refine fq_if (fq_cl h_u (fr_X11_isDarkEnough N x0 x4 u (hP.tr h_u) h_x0 ) (fun r1 u2 h_u2 h_r1 => ?_)) fq_none
  refine fq_if ?_ ?_
  · exact fq_tr h_u2 (hrec29 x0 x1 x2 x3 (x4 + (1 : Int32)) u2 (hP.tr h_u2) h_x0)
  · exact fq_tr h_u2 (hrec29 x0 x1 x2 x4 (x4 + (1 : Int32)) u2 (hP.tr h_u2) h_x0)
set_option maxRecDepth 20000 in
theorem frgX11_dark_29 {P : Nat → Prop} (N : Nat)     : ∀ (n : Nat) (x0 : Nat) (x1 : Int32) (x2 : Int32) (x3 : Int32) (x4 : Int32) (u : SG), Cl P u → P x0 → FQ P u (fun _ => True) (gX11_dark_29 N   n x0 x1 x2 x3 x4 u) := by
  intro n
  induction n with
  | zero => intros; intro r u9 h9; exact absurd h9 (by simp [gX11_dark_29])
  | succ n ih =>
    intro x0 x1 x2 x3 x4 u hP h_x0
    have hrec29 := ih
    have h_u : Fr P u u := Fr.rf
    rw [gX11_dark_29]
    refine fq_if ?_ ?_
    · refine fq_if ?_ ?_
      · refine fq_cl h_u (fr_X11_bits N x3 u (hP.tr h_u) ) (fun r1 u2 h_u2 h_r1 => ?_)
        exact fq_ret h_u2 trivial
      · exact fq_ret h_u trivial
    · refine fq_if ?_ ?_
      · refine fq_if ?_ ?_
        · exact fq_tr h_u (frgX11_dark_63 N  _ hrec29 x0 x1 x2 x3 x4 u (hP.tr h_u) h_x0)
        · refine fq_cl h_u (fr_X11_bits N x4 u (hP.tr h_u) ) (fun r3 u4 h_u4 h_r3 => ?_)
          refine fq_cl h_u4 (fr_X11_bits N x3 u4 (hP.tr h_u4) ) (fun r5 u6 h_u6 h_r5 => ?_)
          refine fq_if ?_ ?_
          · exact fq_tr h_u6 (frgX11_dark_63 N  _ hrec29 x0 x1 x2 x3 x4 u6 (hP.tr h_u6) h_x0)
          · exact fq_tr h_u6 (hrec29 x0 x1 x2 x3 (x4 + (1 : Int32)) u6 (hP.tr h_u6) h_x0)
      · exact fq_tr h_u (hrec29 x0 x1 x2 x3 (x4 + (1 : Int32)) u (hP.tr h_u) h_x0)
set_option maxRecDepth 20000 in
theorem fr_X11_dark {P : Nat → Prop} (N : Nat)   (a0 : Nat) (p1 : Int32) (u : SG) : Cl P u → P a0 → FQ P u (fun _ => True) (fX11_dark N  a0 p1 u) := by
  intro hP h_a0
  have h_u : Fr P u u := Fr.rf
  unfold fX11_dark
  refine fq_if (fq_cl h_u (fr_X11_isStreet N a0  u (hP.tr h_u) h_a0 ) (fun r1 u2 h_u2 h_r1 => ?_)) fq_none
  refine fq_if ?_ ?_
  · exact fq_ret h_u2 trivial
  · refine fq_cl h_u2 (fr_X11_in N p1.toInt64 (0 : Int64) (1 : Int64) u2 (hP.tr h_u2) ) (fun r3 u4 h_u4 h_r3 => ?_)
    refine fq_if ?_ ?_
    · exact fq_ret h_u4 trivial
    · refine fq_if (fq_cl h_u4 (fr_X11_burning N a0  u4 (hP.tr h_u4) h_a0 ) (fun r5 u6 h_u6 h_r5 => ?_)) fq_none
      exact fq_tr h_u6 (frgX11_dark_29 N   N a0 p1 r5 (-1 : Int32) (0 : Int32) u6 (hP.tr h_u6) h_a0)
set_option maxRecDepth 20000 in
theorem frgX11_fact__132 {P : Nat → Prop} (N : Nat)     (x0 : Nat) (x1 : Int32) (x2 : Int32) (x3 : Int32) (x4 : Int32) (u : SG) : Cl P u → P x0 → FQ P u (fun _ => True) (gX11_fact__132 N   x0 x1 x2 x3 x4 u) := by
  intro hP h_x0
  have h_u : Fr P u u := Fr.rf
  unfold gX11_fact__132
  refine fq_if ?_ fq_none
  refine fq_bR h_u hP h_x0 (fun q1 h_q1 => ?_)
  refine fq_if (fq_if fq_none ?_) fq_none
  refine fq_bs (fun v2 => ?_)
  refine fq_if ?_ fq_none
  refine fq_bR h_u hP h_x0 (fun q3 h_q3 => ?_)
  refine fq_if (fq_if fq_none (fq_sI h_u h_q3 (fun u4 h_u4 => ?_))) fq_none
  refine fq_if ?_ fq_none
  refine fq_bR h_u4 hP h_x0 (fun q5 h_q5 => ?_)
  refine fq_if (fq_if fq_none (fq_sI h_u4 h_q5 (fun u6 h_u6 => ?_))) fq_none
  refine fq_if ?_ fq_none
  refine fq_bR h_u6 hP h_x0 (fun q7 h_q7 => ?_)
  refine fq_if (fq_if fq_none (fq_sI h_u6 h_q7 (fun u8 h_u8 => ?_))) fq_none
  refine fq_if ?_ fq_none
  refine fq_bR h_u8 hP h_x0 (fun q9 h_q9 => ?_)
  refine fq_if (fq_if fq_none (fq_sI h_u8 h_q9 (fun u10 h_u10 => ?_))) fq_none
  refine fq_if ?_ fq_none
  refine fq_bR h_u10 hP h_x0 (fun q11 h_q11 => ?_)
  refine fq_if (fq_if fq_none ?_) fq_none
  refine fq_if (fq_if fq_none (fq_sI h_u10 h_q11 (fun u12 h_u12 => ?_))) fq_none
  refine fq_if ?_ fq_none
  refine fq_bR h_u12 hP h_x0 (fun q13 h_q13 => ?_)
  refine fq_if (fq_if fq_none ?_) fq_none
  exact fq_ret h_u12 trivial
set_option maxRecDepth 20000 in
theorem frgX11_fact__99 {P : Nat → Prop} (N : Nat)     (x0 : Nat) (x1 : Int32) (x2 : Int32) (x3 : Int32) (x4 : Int32) (u : SG) : Cl P u → P x0 → FQ P u (fun _ => True) (gX11_fact__99 N   x0 x1 x2 x3 x4 u) := by
  intro hP h_x0
  have h_u : Fr P u u := Fr.rf
  unfold gX11_fact__99
  refine fq_if ?_ ?_
  · exact fq_tr h_u (frgX11_fact__132 N   x0 x1 x2 x3 x4 u (hP.tr h_u) h_x0)
  · refine fq_cl h_u (fr_X11_in N x3.toInt64 (0 : Int64) (300 : Int64) u (hP.tr h_u) ) (fun r1 u2 h_u2 h_r1 => ?_)
    refine fq_if ?_ ?_
    · exact fq_ret h_u2 trivial
    · refine fq_cl h_u2 (fr_X11_in N x4.toInt64 (0 : Int64) (300 : Int64) u2 (hP.tr h_u2) ) (fun r3 u4 h_u4 h_r3 => ?_)
      refine fq_if ?_ ?_
      · exact fq_ret h_u4 trivial
      · exact fq_tr h_u4 (frgX11_fact__132 N   x0 x1 x2 x3 x4 u4 (hP.tr h_u4) h_x0)
set_option maxRecDepth 20000 in
theorem frgX11_fact__66 {P : Nat → Prop} (N : Nat)     (x0 : Nat) (x1 : Int32) (x2 : Int32) (x3 : Int32) (x4 : Int32) (s0 : Int32) (u : SG) : Cl P u → P x0 → FQ P u (fun _ => True) (gX11_fact__66 N   x0 x1 x2 x3 x4 s0 u) := by
  intro hP h_x0
  have h_u : Fr P u u := Fr.rf
  unfold gX11_fact__66
  refine fq_if ?_ ?_
  · refine fq_if (fq_cl h_u (fr_X11_isPerson N x0 x2 u (hP.tr h_u) h_x0 ) (fun r1 u2 h_u2 h_r1 => ?_)) fq_none
    refine fq_if ?_ ?_
    · exact fq_ret h_u2 trivial
    · exact fq_tr h_u2 (frgX11_fact__99 N   x0 x1 x2 x3 x4 u2 (hP.tr h_u2) h_x0)
  · refine fq_cl h_u (fr_X11_in N x2.toInt64 (0 : Int64) (5 : Int64) u (hP.tr h_u) ) (fun r3 u4 h_u4 h_r3 => ?_)
    refine fq_if ?_ ?_
    · exact fq_ret h_u4 trivial
    · exact fq_tr h_u4 (frgX11_fact__99 N   x0 x1 x2 x3 x4 u4 (hP.tr h_u4) h_x0)
set_option maxRecDepth 20000 in
theorem frgX11_fact__61 {P : Nat → Prop} (N : Nat)     (x0 : Nat) (x1 : Int32) (x2 : Int32) (x3 : Int32) (x4 : Int32) (u : SG) : Cl P u → P x0 → FQ P u (fun _ => True) (gX11_fact__61 N   x0 x1 x2 x3 x4 u) := by
  intro hP h_x0
  have h_u : Fr P u u := Fr.rf
  unfold gX11_fact__61
  exact fq_tr h_u (frgX11_fact__66 N   x0 x1 x2 x3 x4 (1 : Int32) u (hP.tr h_u) h_x0)
set_option maxRecDepth 20000 in
theorem fr_X11_fact_ {P : Nat → Prop} (N : Nat)   (a0 : Nat) (p1 : Int32) (p2 : Int32) (p3 : Int32) (p4 : Int32) (u : SG) : Cl P u → P a0 → FQ P u (fun _ => True) (fX11_fact_ N  a0 p1 p2 p3 p4 u) := by
  intro hP h_a0
  have h_u : Fr P u u := Fr.rf
  unfold fX11_fact_
  refine fq_if ?_ ?_
  · refine fq_if ?_ fq_none
    refine fq_bR h_u hP h_a0 (fun q6 h_q6 => ?_)
    refine fq_if (fq_if fq_none (fq_sI h_u h_q6 (fun u7 h_u7 => ?_))) fq_none
    exact fq_ret h_u7 trivial
  · refine fq_if (fq_cl h_u (fr_X11_isStreet N a0  u (hP.tr h_u) h_a0 ) (fun r1 u2 h_u2 h_r1 => ?_)) fq_none
    refine fq_if ?_ ?_
    · exact fq_ret h_u2 trivial
    · refine fq_cl h_u2 (fr_X11_in N p1.toInt64 (0 : Int64) (5 : Int64) u2 (hP.tr h_u2) ) (fun r3 u4 h_u4 h_r3 => ?_)
      refine fq_if ?_ ?_
      · exact fq_ret h_u4 trivial
      · refine fq_if ?_ fq_none
        refine fq_bR h_u4 hP h_a0 (fun q5 h_q5 => ?_)
        refine fq_if (fq_if fq_none ?_) fq_none
        refine fq_if ?_ ?_
        · exact fq_ret h_u4 trivial
        · refine fq_if ?_ ?_
          · exact fq_tr h_u4 (frgX11_fact__61 N   a0 p1 p2 p3 p4 u4 (hP.tr h_u4) h_a0)
          · refine fq_if ?_ ?_
            · exact fq_tr h_u4 (frgX11_fact__61 N   a0 p1 p2 p3 p4 u4 (hP.tr h_u4) h_a0)
            · exact fq_tr h_u4 (frgX11_fact__66 N   a0 p1 p2 p3 p4 (0 : Int32) u4 (hP.tr h_u4) h_a0)
set_option maxRecDepth 20000 in
theorem fr_X11_isFactSo {P : Nat → Prop} (N : Nat)   (a0 : Nat) (p1 : Int32) (p2 : Int32) (u : SG) : Cl P u → P a0 → FQ P u (fun _ => True) (fX11_isFactSo N  a0 p1 p2 u) := by
  intro hP h_a0
  have h_u : Fr P u u := Fr.rf
  unfold fX11_isFactSo
  refine fq_cl h_u (fr_X11_bits N p2 u (hP.tr h_u) ) (fun r1 u2 h_u2 h_r1 => ?_)
  refine fq_if ?_ fq_none
  refine fq_bR h_u2 hP h_a0 (fun q3 h_q3 => ?_)
  refine fq_if (fq_if fq_none ?_) fq_none
  refine fq_bs (fun v4 => ?_)
  refine fq_if ?_ fq_none
  refine fq_bR h_u2 hP h_a0 (fun q5 h_q5 => ?_)
  refine fq_if (fq_if fq_none ?_) fq_none
  refine fq_bs (fun v6 => ?_)
  refine fq_if ?_ ?_
  · refine fq_cl h_u2 (fr_X11_isOf N p2 v4 u2 (hP.tr h_u2) ) (fun r7 u8 h_u8 h_r7 => ?_)
    exact fq_if (fq_ret h_u8 trivial) fq_none
  refine fq_if ?_ ?_
  · refine fq_cl h_u2 (fr_X11_isOf N p2 v4 u2 (hP.tr h_u2) ) (fun r9 u10 h_u10 h_r9 => ?_)
    refine fq_if ?_ ?_
    · exact fq_ret h_u10 trivial
    · exact fq_ret h_u10 trivial
  refine fq_if ?_ ?_
  · refine fq_if ?_ ?_
    · exact fq_ret h_u2 trivial
    · exact fq_ret h_u2 trivial
  refine fq_if ?_ ?_
  · refine fq_if ?_ ?_
    · exact fq_ret h_u2 trivial
    · exact fq_ret h_u2 trivial
  refine fq_if ?_ ?_
  · refine fq_cl h_u2 (fr_X11_isOf N p2 v4 u2 (hP.tr h_u2) ) (fun r11 u12 h_u12 h_r11 => ?_)
    refine fq_if ?_ ?_
    · exact fq_ret h_u12 trivial
    · refine fq_if ?_ fq_none
      refine fq_bR h_u12 hP h_a0 (fun q13 h_q13 => ?_)
      refine fq_if (fq_if fq_none ?_) fq_none
      refine fq_if ?_ fq_none
      refine fq_bR h_u12 hP h_a0 (fun q14 h_q14 => ?_)
      refine fq_if (fq_if fq_none ?_) fq_none
      refine fq_if ?_ ?_
      · exact fq_ret h_u12 trivial
      · exact fq_ret h_u12 trivial
  refine fq_cl h_u2 (fr_X11_isOf N p2 v4 u2 (hP.tr h_u2) ) (fun r15 u16 h_u16 h_r15 => ?_)
  refine fq_if ?_ ?_
  · exact fq_ret h_u16 trivial
  · refine fq_if ?_ fq_none
    refine fq_bR h_u16 hP h_a0 (fun q17 h_q17 => ?_)
    refine fq_if (fq_if fq_none ?_) fq_none
    refine fq_if ?_ fq_none
    refine fq_bR h_u16 hP h_a0 (fun q18 h_q18 => ?_)
    refine fq_if (fq_if fq_none ?_) fq_none
    refine fq_if ?_ ?_
    · exact fq_ret h_u16 trivial
    · exact fq_ret h_u16 trivial
set_option maxRecDepth 20000 in
theorem frgX11_fitsFacts_2 {P : Nat → Prop} (N : Nat)     : ∀ (n : Nat) (x0 : Nat) (x1 : Int32) (x2 : Int32) (u : SG), Cl P u → P x0 → FQ P u (fun _ => True) (gX11_fitsFacts_2 N   n x0 x1 x2 u) := by
  intro n
  induction n with
  | zero => intros; intro r u9 h9; exact absurd h9 (by simp [gX11_fitsFacts_2])
  | succ n ih =>
    intro x0 x1 x2 u hP h_x0
    have hrec2 := ih
    have h_u : Fr P u u := Fr.rf
    rw [gX11_fitsFacts_2]
    refine fq_if ?_ fq_none
    refine fq_bR h_u hP h_x0 (fun q1 h_q1 => ?_)
    refine fq_if (fq_if fq_none ?_) fq_none
    refine fq_if ?_ ?_
    · exact fq_ret h_u trivial
    · refine fq_if (fq_cl h_u (fr_X11_isFactSo N x0 ((103 : Int32) + ((4 : Int32) * x2)) x1 u (hP.tr h_u) h_x0 ) (fun r2 u3 h_u3 h_r2 => ?_)) fq_none
      refine fq_if ?_ ?_
      · exact fq_ret h_u3 trivial
      · exact fq_tr h_u3 (hrec2 x0 x1 (x2 + (1 : Int32)) u3 (hP.tr h_u3) h_x0)
set_option maxRecDepth 20000 in
theorem fr_X11_fitsFacts {P : Nat → Prop} (N : Nat)   (a0 : Nat) (p1 : Int32) (u : SG) : Cl P u → P a0 → FQ P u (fun _ => True) (fX11_fitsFacts N  a0 p1 u) := by
  intro hP h_a0
  have h_u : Fr P u u := Fr.rf
  unfold fX11_fitsFacts
  exact fq_tr h_u (frgX11_fitsFacts_2 N   N a0 p1 (0 : Int32) u (hP.tr h_u) h_a0)
set_option maxRecDepth 20000 in
theorem frgX11_slept_76 {P : Nat → Prop} (N : Nat)   (rec47 : Nat → Int32 → Int32 → Int32 → Int32 → Int32 → Int32 → Int32 → SG → Option (Int32 × SG)) (hrec47 : ∀ (x0 : Nat) (x1 : Int32) (x2 : Int32) (x3 : Int32) (x4 : Int32) (x5 : Int32) (x6 : Int32) (x7 : Int32) (u : SG), Cl P u → P x0 → FQ P u (fun _ => True) (rec47 x0 x1 x2 x3 x4 x5 x6 x7 u)) (x0 : Nat) (x1 : Int32) (x2 : Int32) (x3 : Int32) (x5 : Int32) (x6 : Int32) (x7 : Int32) (s0 : Int32) (u : SG) : Cl P u → P x0 → FQ P u (fun _ => True) (gX11_slept_76 N  rec47 x0 x1 x2 x3 x5 x6 x7 s0 u) := by
  intro hP h_x0
  have h_u : Fr P u u := Fr.rf
  unfold gX11_slept_76
  refine fq_bs (fun v1 => ?_)
  refine fq_bs (fun v2 => ?_)
  exact fq_tr h_u (hrec47 x0 x1 x2 (x3 + (1 : Int32)) s0 v1 v2 (x7 + (1 : Int32)) u (hP.tr h_u) h_x0)
set_option maxRecDepth 20000 in
theorem frgX11_slept_47 {P : Nat → Prop} (N : Nat)     : ∀ (n : Nat) (x0 : Nat) (x1 : Int32) (x2 : Int32) (x3 : Int32) (x4 : Int32) (x5 : Int32) (x6 : Int32) (x7 : Int32) (u : SG), Cl P u → P x0 → FQ P u (fun _ => True) (gX11_slept_47 N   n x0 x1 x2 x3 x4 x5 x6 x7 u) := by
  intro n
  induction n with
  | zero => intros; intro r u9 h9; exact absurd h9 (by simp [gX11_slept_47])
  | succ n ih =>
    intro x0 x1 x2 x3 x4 x5 x6 x7 u hP h_x0
    have hrec47 := ih
    have h_u : Fr P u u := Fr.rf
    rw [gX11_slept_47]
    refine fq_if ?_ ?_
    · refine fq_if ?_ ?_
      · refine fq_if ?_ ?_
        · exact fq_ret h_u trivial
        · refine fq_if ?_ ?_
          · exact fq_ret h_u trivial
          · exact fq_ret h_u trivial
      · refine fq_if ?_ ?_
        · exact fq_ret h_u trivial
        · exact fq_ret h_u trivial
    · refine fq_if (fq_cl h_u (fr_X11_fitsFacts N x0 x7 u (hP.tr h_u) h_x0 ) (fun r1 u2 h_u2 h_r1 => ?_)) fq_none
      refine fq_if ?_ ?_
      · exact fq_tr h_u2 (hrec47 x0 x1 x2 x3 x4 x5 x6 (x7 + (1 : Int32)) u2 (hP.tr h_u2) h_x0)
      · refine fq_if ?_ ?_
        · exact fq_tr h_u2 (frgX11_slept_76 N  _ hrec47 x0 x1 x2 x3 x5 x6 x7 x7 u2 (hP.tr h_u2) h_x0)
        · exact fq_tr h_u2 (frgX11_slept_76 N  _ hrec47 x0 x1 x2 x3 x5 x6 x7 x4 u2 (hP.tr h_u2) h_x0)
set_option maxRecDepth 20000 in
theorem fr_X11_slept {P : Nat → Prop} (N : Nat)   (a0 : Nat) (p1 : Int32) (u : SG) : Cl P u → P a0 → FQ P u (fun _ => True) (fX11_slept N  a0 p1 u) := by
  intro hP h_a0
  have h_u : Fr P u u := Fr.rf
  unfold fX11_slept
  refine fq_if (fq_cl h_u (fr_X11_isStreet N a0  u (hP.tr h_u) h_a0 ) (fun r1 u2 h_u2 h_r1 => ?_)) fq_none
  refine fq_if ?_ ?_
  · exact fq_ret h_u2 trivial
  · refine fq_cl h_u2 (fr_X11_in N p1.toInt64 (0 : Int64) (3 : Int64) u2 (hP.tr h_u2) ) (fun r3 u4 h_u4 h_r3 => ?_)
    refine fq_if ?_ ?_
    · exact fq_ret h_u4 trivial
    · refine fq_if ?_ fq_none
      refine fq_bR h_u4 hP h_a0 (fun q5 h_q5 => ?_)
      refine fq_if (fq_if fq_none ?_) fq_none
      refine fq_bs (fun v6 => ?_)
      exact fq_tr h_u4 (frgX11_slept_47 N   N a0 p1 v6 (0 : Int32) (-2 : Int32) v6 v6 (0 : Int32) u4 (hP.tr h_u4) h_a0)
set_option maxRecDepth 20000 in
theorem frgX11_ask_112 {P : Nat → Prop} (N : Nat)   (rec28 : Nat → Int32 → Int32 → Int32 → Int32 → SG → Option (Int32 × SG)) (hrec28 : ∀ (x0 : Nat) (x1 : Int32) (x2 : Int32) (x3 : Int32) (x4 : Int32) (u : SG), Cl P u → P x0 → FQ P u (fun _ => True) (rec28 x0 x1 x2 x3 x4 u)) (x0 : Nat) (x1 : Int32) (x2 : Int32) (x3 : Int32) (x4 : Int32) (s0 : Int32) (u : SG) : Cl P u → P x0 → FQ P u (fun _ => True) (gX11_ask_112 N  rec28 x0 x1 x2 x3 x4 s0 u) := by
  intro hP h_x0
  have h_u : Fr P u u := Fr.rf
  unfold gX11_ask_112
  refine fq_if ?_ ?_
  · exact fq_tr h_u (hrec28 x0 x1 x2 x3 (x4 + (1 : Int32)) u (hP.tr h_u) h_x0)
  · refine fq_if ?_ ?_
    · exact fq_tr h_u (hrec28 x0 x1 x4 s0 (x4 + (1 : Int32)) u (hP.tr h_u) h_x0)
    · refine fq_if ?_ ?_
      · exact fq_tr h_u (hrec28 x0 x1 x4 s0 (x4 + (1 : Int32)) u (hP.tr h_u) h_x0)
      · exact fq_tr h_u (hrec28 x0 x1 x2 x3 (x4 + (1 : Int32)) u (hP.tr h_u) h_x0)
set_option maxRecDepth 20000 in
theorem frgX11_ask_48 {P : Nat → Prop} (N : Nat)   (rec28 : Nat → Int32 → Int32 → Int32 → Int32 → SG → Option (Int32 × SG)) (hrec28 : ∀ (x0 : Nat) (x1 : Int32) (x2 : Int32) (x3 : Int32) (x4 : Int32) (u : SG), Cl P u → P x0 → FQ P u (fun _ => True) (rec28 x0 x1 x2 x3 x4 u)) : ∀ (n : Nat) (x0 : Nat) (x1 : Int32) (x2 : Int32) (x3 : Int32) (x4 : Int32) (x5 : Int32) (x6 : Int32) (x7 : Int32) (u : SG), Cl P u → P x0 → FQ P u (fun _ => True) (gX11_ask_48 N  rec28 n x0 x1 x2 x3 x4 x5 x6 x7 u) := by
  intro n
  induction n with
  | zero => intros; intro r u9 h9; exact absurd h9 (by simp [gX11_ask_48])
  | succ n ih =>
    intro x0 x1 x2 x3 x4 x5 x6 x7 u hP h_x0
    have hrec48 := ih
    have h_u : Fr P u u := Fr.rf
    rw [gX11_ask_48]
    refine fq_if ?_ fq_none
    refine fq_bR h_u hP h_x0 (fun q1 h_q1 => ?_)
    refine fq_if (fq_if fq_none ?_) fq_none
    refine fq_if ?_ ?_
    · refine fq_if ?_ ?_
      · exact fq_tr h_u (frgX11_ask_112 N  _ hrec28 x0 x1 x2 x3 x4 x6 u (hP.tr h_u) h_x0)
      · exact fq_tr h_u (frgX11_ask_112 N  _ hrec28 x0 x1 x2 x3 x4 x5 u (hP.tr h_u) h_x0)
    · refine fq_if (fq_cl h_u (fr_X11_fitsFacts N x0 x7 u (hP.tr h_u) h_x0 ) (fun r2 u3 h_u3 h_r2 => ?_)) fq_none
      refine fq_if ?_ ?_
      · exact fq_tr h_u3 (hrec48 x0 x1 x2 x3 x4 x5 x6 (x7 + (1 : Int32)) u3 (hP.tr h_u3) h_x0)
      · refine fq_cl h_u3 (fr_X11_isOf N x7 x4 u3 (hP.tr h_u3) ) (fun r4 u5 h_u5 h_r4 => ?_)
        refine fq_if ?_ ?_
        · exact fq_tr h_u5 (hrec48 x0 x1 x2 x3 x4 x5 (x6 + (1 : Int32)) (x7 + (1 : Int32)) u5 (hP.tr h_u5) h_x0)
        · exact fq_tr h_u5 (hrec48 x0 x1 x2 x3 x4 (x5 + (1 : Int32)) x6 (x7 + (1 : Int32)) u5 (hP.tr h_u5) h_x0)
set_option maxRecDepth 20000 in
theorem frgX11_ask_28 {P : Nat → Prop} (N : Nat)     : ∀ (n : Nat) (x0 : Nat) (x1 : Int32) (x2 : Int32) (x3 : Int32) (x4 : Int32) (u : SG), Cl P u → P x0 → FQ P u (fun _ => True) (gX11_ask_28 N   n x0 x1 x2 x3 x4 u) := by
  intro n
  induction n with
  | zero => intros; intro r u9 h9; exact absurd h9 (by simp [gX11_ask_28])
  | succ n ih =>
    intro x0 x1 x2 x3 x4 u hP h_x0
    have hrec28 := ih
    have h_u : Fr P u u := Fr.rf
    rw [gX11_ask_28]
    refine fq_if ?_ fq_none
    refine fq_bR h_u hP h_x0 (fun q1 h_q1 => ?_)
    refine fq_if (fq_if fq_none ?_) fq_none
    refine fq_if ?_ ?_
    · refine fq_if ?_ ?_
      · exact fq_ret h_u trivial
      · exact fq_ret h_u trivial
    · exact fq_tr h_u (frgX11_ask_48 N  _ hrec28 N x0 x1 x2 x3 x4 (0 : Int32) (0 : Int32) (0 : Int32) u (hP.tr h_u) h_x0)
set_option maxRecDepth 20000 in
theorem fr_X11_ask {P : Nat → Prop} (N : Nat)   (a0 : Nat) (p1 : Int32) (u : SG) : Cl P u → P a0 → FQ P u (fun _ => True) (fX11_ask N  a0 p1 u) := by
  intro hP h_a0
  have h_u : Fr P u u := Fr.rf
  unfold fX11_ask
  refine fq_if (fq_cl h_u (fr_X11_isStreet N a0  u (hP.tr h_u) h_a0 ) (fun r1 u2 h_u2 h_r1 => ?_)) fq_none
  refine fq_if ?_ ?_
  · exact fq_ret h_u2 trivial
  · refine fq_cl h_u2 (fr_X11_in N p1.toInt64 (0 : Int64) (1 : Int64) u2 (hP.tr h_u2) ) (fun r3 u4 h_u4 h_r3 => ?_)
    refine fq_if ?_ ?_
    · exact fq_ret h_u4 trivial
    · exact fq_tr h_u4 (frgX11_ask_28 N   N a0 p1 (-2 : Int32) (-2 : Int32) (0 : Int32) u4 (hP.tr h_u4) h_a0)
set_option maxRecDepth 20000 in
theorem frgX11_toldCost_4 {P : Nat → Prop} (N : Nat)     : ∀ (n : Nat) (x0 : Nat) (x1 : Int32) (x2 : Int32) (x3 : Int32) (u : SG), Cl P u → P x0 → FQ P u (fun _ => True) (gX11_toldCost_4 N   n x0 x1 x2 x3 u) := by
  intro n
  induction n with
  | zero => intros; intro r u9 h9; exact absurd h9 (by simp [gX11_toldCost_4])
  | succ n ih =>
    intro x0 x1 x2 x3 u hP h_x0
    have hrec4 := ih
    have h_u : Fr P u u := Fr.rf
    rw [gX11_toldCost_4]
    refine fq_if ?_ fq_none
    refine fq_bR h_u hP h_x0 (fun q1 h_q1 => ?_)
    refine fq_if (fq_if fq_none ?_) fq_none
    refine fq_if ?_ ?_
    · exact fq_ret h_u trivial
    · refine fq_if (fq_cl h_u (fr_X11_isLitIn N x0 x3 x1 u (hP.tr h_u) h_x0 ) (fun r2 u3 h_u3 h_r2 => ?_)) fq_none
      refine fq_if ?_ ?_
      · refine fq_bs (fun v4 => ?_)
        exact fq_tr h_u3 (hrec4 x0 x1 v4 (x3 + (1 : Int32)) u3 (hP.tr h_u3) h_x0)
      · refine fq_if (fq_cl h_u3 (fr_X11_costOf N x0 x3 u3 (hP.tr h_u3) h_x0 ) (fun r5 u6 h_u6 h_r5 => ?_)) fq_none
        refine fq_bs (fun v7 => ?_)
        exact fq_tr h_u6 (hrec4 x0 x1 v7 (x3 + (1 : Int32)) u6 (hP.tr h_u6) h_x0)
set_option maxRecDepth 20000 in
theorem fr_X11_toldCost {P : Nat → Prop} (N : Nat)   (a0 : Nat) (p1 : Int32) (u : SG) : Cl P u → P a0 → FQ P u (fun _ => True) (fX11_toldCost N  a0 p1 u) := by
  intro hP h_a0
  have h_u : Fr P u u := Fr.rf
  unfold fX11_toldCost
  exact fq_tr h_u (frgX11_toldCost_4 N   N a0 p1 (0 : Int32) (0 : Int32) u (hP.tr h_u) h_a0)
set_option maxRecDepth 20000 in
theorem frgX11_fillsNight_86 {P : Nat → Prop} (N : Nat)   (rec23 : Nat → Int32 → Int32 → SG → Option (Unit × SG)) (rec43 : Nat → Int32 → Int32 → Int32 → Int32 → Int32 → SG → Option (Unit × SG)) (hrec23 : ∀ (x0 : Nat) (x1 : Int32) (x2 : Int32) (u : SG), Cl P u → P x0 → FQ P u (fun _ => True) (rec23 x0 x1 x2 u)) (hrec43 : ∀ (x0 : Nat) (x1 : Int32) (x2 : Int32) (x3 : Int32) (x4 : Int32) (x5 : Int32) (u : SG), Cl P u → P x0 → FQ P u (fun _ => True) (rec43 x0 x1 x2 x3 x4 x5 u)) (x0 : Nat) (x1 : Int32) (x2 : Int32) (x3 : Int32) (x5 : Int32) (s0 : Int32) (u : SG) : Cl P u → P x0 → FQ P u (fun _ => True) (gX11_fillsNight_86 N  rec23 rec43 x0 x1 x2 x3 x5 s0 u) := by
  intro hP h_x0
  have h_u : Fr P u u := Fr.rf
  unfold gX11_fillsNight_86
  refine fq_if (fq_cl h_u (fr_X11_toldCost N x0 x5 u (hP.tr h_u) h_x0 ) (fun r1 u2 h_u2 h_r1 => ?_)) fq_none
  refine fq_bs (fun v3 => ?_)
  exact fq_tr h_u2 (hrec43 x0 x1 x2 v3 s0 (x5 + (1 : Int32)) u2 (hP.tr h_u2) h_x0)
set_option maxRecDepth 20000 in
theorem frgX11_fillsNight_85 {P : Nat → Prop} (N : Nat)   (rec23 : Nat → Int32 → Int32 → SG → Option (Unit × SG)) (rec43 : Nat → Int32 → Int32 → Int32 → Int32 → Int32 → SG → Option (Unit × SG)) (hrec23 : ∀ (x0 : Nat) (x1 : Int32) (x2 : Int32) (u : SG), Cl P u → P x0 → FQ P u (fun _ => True) (rec23 x0 x1 x2 u)) (hrec43 : ∀ (x0 : Nat) (x1 : Int32) (x2 : Int32) (x3 : Int32) (x4 : Int32) (x5 : Int32) (u : SG), Cl P u → P x0 → FQ P u (fun _ => True) (rec43 x0 x1 x2 x3 x4 x5 u)) (x0 : Nat) (x1 : Int32) (x2 : Int32) (x3 : Int32) (x5 : Int32) (u : SG) : Cl P u → P x0 → FQ P u (fun _ => True) (gX11_fillsNight_85 N  rec23 rec43 x0 x1 x2 x3 x5 u) := by
  intro hP h_x0
  have h_u : Fr P u u := Fr.rf
  unfold gX11_fillsNight_85
  exact fq_tr h_u (frgX11_fillsNight_86 N  _ _ hrec23 hrec43 x0 x1 x2 x3 x5 (0 : Int32) u (hP.tr h_u) h_x0)
set_option maxRecDepth 20000 in
theorem frgX11_fillsNight_43 {P : Nat → Prop} (N : Nat)   (rec23 : Nat → Int32 → Int32 → SG → Option (Unit × SG)) (hrec23 : ∀ (x0 : Nat) (x1 : Int32) (x2 : Int32) (u : SG), Cl P u → P x0 → FQ P u (fun _ => True) (rec23 x0 x1 x2 u)) : ∀ (n : Nat) (x0 : Nat) (x1 : Int32) (x2 : Int32) (x3 : Int32) (x4 : Int32) (x5 : Int32) (u : SG), Cl P u → P x0 → FQ P u (fun _ => True) (gX11_fillsNight_43 N  rec23 n x0 x1 x2 x3 x4 x5 u) := by
  intro n
  induction n with
  | zero => intros; intro r u9 h9; exact absurd h9 (by simp [gX11_fillsNight_43])
  | succ n ih =>
    intro x0 x1 x2 x3 x4 x5 u hP h_x0
    have hrec43 := ih
    have h_u : Fr P u u := Fr.rf
    rw [gX11_fillsNight_43]
    refine fq_if ?_ fq_none
    refine fq_bR h_u hP h_x0 (fun q1 h_q1 => ?_)
    refine fq_if (fq_if fq_none ?_) fq_none
    refine fq_if ?_ ?_
    · refine fq_cl h_u (fr_X11_bits N x2 u (hP.tr h_u) ) (fun r2 u3 h_u3 h_r2 => ?_)
      refine fq_if ?_ ?_
      · exact fq_tr h_u3 (hrec23 x0 x1 (x2 + (1 : Int32)) u3 (hP.tr h_u3) h_x0)
      · refine fq_if ?_ fq_none
        refine fq_bR h_u3 hP h_x0 (fun q4 h_q4 => ?_)
        refine fq_if (fq_if fq_none ?_) fq_none
        refine fq_if ?_ ?_
        · refine fq_if ?_ fq_none
          refine fq_bR h_u3 hP h_x0 (fun q5 h_q5 => ?_)
          refine fq_if (fq_if fq_none (fq_sI h_u3 h_q5 (fun u6 h_u6 => ?_))) fq_none
          exact fq_tr h_u6 (hrec23 x0 x1 (x2 + (1 : Int32)) u6 (hP.tr h_u6) h_x0)
        · refine fq_if ?_ fq_none
          refine fq_bR h_u3 hP h_x0 (fun q7 h_q7 => ?_)
          refine fq_if (fq_if fq_none ?_) fq_none
          refine fq_if ?_ ?_
          · exact fq_tr h_u3 (hrec23 x0 x1 (x2 + (1 : Int32)) u3 (hP.tr h_u3) h_x0)
          · refine fq_if ?_ fq_none
            refine fq_bR h_u3 hP h_x0 (fun q8 h_q8 => ?_)
            refine fq_if (fq_if fq_none (fq_sI h_u3 h_q8 (fun u9 h_u9 => ?_))) fq_none
            exact fq_tr h_u9 (hrec23 x0 x1 (x2 + (1 : Int32)) u9 (hP.tr h_u9) h_x0)
    · refine fq_cl h_u (fr_X11_isOf N x2 x5 u (hP.tr h_u) ) (fun r10 u11 h_u11 h_r10 => ?_)
      refine fq_if ?_ ?_
      · exact fq_tr h_u11 (hrec43 x0 x1 x2 x3 x4 (x5 + (1 : Int32)) u11 (hP.tr h_u11) h_x0)
      · refine fq_if ?_ ?_
        · exact fq_tr h_u11 (frgX11_fillsNight_85 N  _ _ hrec23 hrec43 x0 x1 x2 x3 x5 u11 (hP.tr h_u11) h_x0)
        · refine fq_if (fq_cl h_u11 (fr_X11_worksIn N x0 x1 x5 u11 (hP.tr h_u11) h_x0 ) (fun r12 u13 h_u13 h_r12 => ?_)) fq_none
          refine fq_if ?_ ?_
          · exact fq_tr h_u13 (frgX11_fillsNight_86 N  _ _ hrec23 hrec43 x0 x1 x2 x3 x5 (1 : Int32) u13 (hP.tr h_u13) h_x0)
          · exact fq_tr h_u13 (frgX11_fillsNight_85 N  _ _ hrec23 hrec43 x0 x1 x2 x3 x5 u13 (hP.tr h_u13) h_x0)
set_option maxRecDepth 20000 in
theorem frgX11_fillsNight_23 {P : Nat → Prop} (N : Nat)     : ∀ (n : Nat) (x0 : Nat) (x1 : Int32) (x2 : Int32) (u : SG), Cl P u → P x0 → FQ P u (fun _ => True) (gX11_fillsNight_23 N   n x0 x1 x2 u) := by
  intro n
  induction n with
  | zero => intros; intro r u9 h9; exact absurd h9 (by simp [gX11_fillsNight_23])
  | succ n ih =>
    intro x0 x1 x2 u hP h_x0
    have hrec23 := ih
    have h_u : Fr P u u := Fr.rf
    rw [gX11_fillsNight_23]
    refine fq_if ?_ fq_none
    refine fq_bR h_u hP h_x0 (fun q1 h_q1 => ?_)
    refine fq_if (fq_if fq_none ?_) fq_none
    refine fq_if ?_ ?_
    · exact fq_ret h_u trivial
    · exact fq_tr h_u (frgX11_fillsNight_43 N  _ hrec23 N x0 x1 x2 (0 : Int32) (1 : Int32) (0 : Int32) u (hP.tr h_u) h_x0)
set_option maxRecDepth 20000 in
theorem frgX11_fillsNight_2 {P : Nat → Prop} (N : Nat)     : ∀ (n : Nat) (x0 : Nat) (x1 : Int32) (x2 : Int32) (u : SG), Cl P u → P x0 → FQ P u (fun _ => True) (gX11_fillsNight_2 N   n x0 x1 x2 u) := by
  intro n
  induction n with
  | zero => intros; intro r u9 h9; exact absurd h9 (by simp [gX11_fillsNight_2])
  | succ n ih =>
    intro x0 x1 x2 u hP h_x0
    have hrec2 := ih
    have h_u : Fr P u u := Fr.rf
    rw [gX11_fillsNight_2]
    refine fq_if ?_ ?_
    · exact fq_tr h_u (frgX11_fillsNight_23 N   N x0 x1 (0 : Int32) u (hP.tr h_u) h_x0)
    · refine fq_if ?_ fq_none
      refine fq_bR h_u hP h_x0 (fun q1 h_q1 => ?_)
      refine fq_if (fq_if fq_none (fq_sI h_u h_q1 (fun u2 h_u2 => ?_))) fq_none
      exact fq_tr h_u2 (hrec2 x0 x1 (x2 + (1 : Int32)) u2 (hP.tr h_u2) h_x0)
set_option maxRecDepth 20000 in
theorem fr_X11_fillsNight {P : Nat → Prop} (N : Nat)   (a0 : Nat) (p1 : Int32) (u : SG) : Cl P u → P a0 → FQ P u (fun _ => True) (fX11_fillsNight N  a0 p1 u) := by
  intro hP h_a0
  have h_u : Fr P u u := Fr.rf
  unfold fX11_fillsNight
  exact fq_tr h_u (frgX11_fillsNight_2 N   N a0 p1 (0 : Int32) u (hP.tr h_u) h_a0)
set_option maxRecDepth 20000 in
theorem fr_X11_leastOf {P : Nat → Prop} (N : Nat)   (a0 : Nat) (p1 : Int32) (p2 : Int32) (u : SG) : Cl P u → P a0 → FQ P u (fun _ => True) (fX11_leastOf N  a0 p1 p2 u) := by
  intro hP h_a0
  have h_u : Fr P u u := Fr.rf
  unfold fX11_leastOf
  refine fq_if ?_ fq_none
  refine fq_bR h_u hP h_a0 (fun q1 h_q1 => ?_)
  refine fq_if ?_ ?_
  · refine fq_if (fq_if fq_none ?_) fq_none
    exact fq_ret h_u trivial
  · refine fq_if (fq_if fq_none ?_) fq_none
    exact fq_ret h_u trivial
set_option maxRecDepth 20000 in
theorem fr_X11_costBy {P : Nat → Prop} (N : Nat)   (a0 : Nat) (p1 : Int32) (p2 : Int32) (p3 : Int32) (p4 : Int32) (u : SG) : Cl P u → P a0 → FQ P u (fun _ => True) (fX11_costBy N  a0 p1 p2 p3 p4 u) := by
  intro hP h_a0
  have h_u : Fr P u u := Fr.rf
  unfold fX11_costBy
  refine fq_if (fq_cl h_u (fr_X11_personOf N a0 p1 (0 : Int32) u (hP.tr h_u) h_a0 ) (fun r1 u2 h_u2 h_r1 => ?_)) fq_none
  refine fq_if ?_ ?_
  · exact fq_ret h_u2 trivial
  · refine fq_if ?_ fq_none
    refine fq_bR h_u2 hP h_a0 (fun q3 h_q3 => ?_)
    refine fq_if (fq_if fq_none ?_) fq_none
    refine fq_if ?_ ?_
    · exact fq_ret h_u2 trivial
    · refine fq_if (fq_cl h_u2 (fr_X11_leastOf N a0 (p2 - (1 : Int32)) (p3 - p4) u2 (hP.tr h_u2) h_a0 ) (fun r4 u5 h_u5 h_r4 => ?_)) fq_none
      refine fq_if ?_ ?_
      · refine fq_if ?_ fq_none
        refine fq_bR h_u5 hP h_a0 (fun q6 h_q6 => ?_)
        refine fq_if (fq_if fq_none ?_) fq_none
        refine fq_if (fq_cl h_u5 (fr_X11_leastOf N a0 (p2 - (1 : Int32)) (p3 - p4) u5 (hP.tr h_u5) h_a0 ) (fun r7 u8 h_u8 h_r7 => ?_)) fq_none
        exact fq_ret h_u8 trivial
      · exact fq_ret h_u5 trivial
set_option maxRecDepth 20000 in
theorem frgX11_fillsLeast_52 {P : Nat → Prop} (N : Nat)   (rec31 : Nat → Int32 → Int32 → Int32 → SG → Option (Unit × SG)) (rec39 : Nat → Int32 → Int32 → Int32 → Int32 → SG → Option (Unit × SG)) (hrec31 : ∀ (x0 : Nat) (x1 : Int32) (x2 : Int32) (x3 : Int32) (u : SG), Cl P u → P x0 → FQ P u (fun _ => True) (rec31 x0 x1 x2 x3 u)) (hrec39 : ∀ (x0 : Nat) (x1 : Int32) (x2 : Int32) (x3 : Int32) (x4 : Int32) (u : SG), Cl P u → P x0 → FQ P u (fun _ => True) (rec39 x0 x1 x2 x3 x4 u)) : ∀ (n : Nat) (x0 : Nat) (x1 : Int32) (x2 : Int32) (x3 : Int32) (x4 : Int32) (x5 : Int32) (x6 : Int32) (u : SG), Cl P u → P x0 → FQ P u (fun _ => True) (gX11_fillsLeast_52 N  rec31 rec39 n x0 x1 x2 x3 x4 x5 x6 u) := by
  intro n
  induction n with
  | zero => intros; intro r u9 h9; exact absurd h9 (by simp [gX11_fillsLeast_52])
  | succ n ih =>
    intro x0 x1 x2 x3 x4 x5 x6 u hP h_x0
    have hrec52 := ih
    have h_u : Fr P u u := Fr.rf
    rw [gX11_fillsLeast_52]
    refine fq_if ?_ ?_
    · refine fq_if ?_ fq_none
      refine fq_bR h_u hP h_x0 (fun q1 h_q1 => ?_)
      refine fq_if (fq_if fq_none (fq_sI h_u h_q1 (fun u2 h_u2 => ?_))) fq_none
      exact fq_tr h_u2 (hrec39 x0 x1 x2 x3 (x4 + (1 : Int32)) u2 (hP.tr h_u2) h_x0)
    · refine fq_if (fq_cl h_u (fr_X11_costBy N x0 x1 x3 x4 x6 u (hP.tr h_u) h_x0 ) (fun r3 u4 h_u4 h_r3 => ?_)) fq_none
      refine fq_if ?_ ?_
      · exact fq_tr h_u4 (hrec52 x0 x1 x2 x3 x4 x5 (x6 + (1 : Int32)) u4 (hP.tr h_u4) h_x0)
      · refine fq_if ?_ ?_
        · exact fq_tr h_u4 (hrec52 x0 x1 x2 x3 x4 r3 (x6 + (1 : Int32)) u4 (hP.tr h_u4) h_x0)
        · refine fq_if ?_ ?_
          · exact fq_tr h_u4 (hrec52 x0 x1 x2 x3 x4 x5 (x6 + (1 : Int32)) u4 (hP.tr h_u4) h_x0)
          · exact fq_tr h_u4 (hrec52 x0 x1 x2 x3 x4 r3 (x6 + (1 : Int32)) u4 (hP.tr h_u4) h_x0)
set_option maxRecDepth 20000 in
theorem frgX11_fillsLeast_39 {P : Nat → Prop} (N : Nat)   (rec31 : Nat → Int32 → Int32 → Int32 → SG → Option (Unit × SG)) (hrec31 : ∀ (x0 : Nat) (x1 : Int32) (x2 : Int32) (x3 : Int32) (u : SG), Cl P u → P x0 → FQ P u (fun _ => True) (rec31 x0 x1 x2 x3 u)) : ∀ (n : Nat) (x0 : Nat) (x1 : Int32) (x2 : Int32) (x3 : Int32) (x4 : Int32) (u : SG), Cl P u → P x0 → FQ P u (fun _ => True) (gX11_fillsLeast_39 N  rec31 n x0 x1 x2 x3 x4 u) := by
  intro n
  induction n with
  | zero => intros; intro r u9 h9; exact absurd h9 (by simp [gX11_fillsLeast_39])
  | succ n ih =>
    intro x0 x1 x2 x3 x4 u hP h_x0
    have hrec39 := ih
    have h_u : Fr P u u := Fr.rf
    rw [gX11_fillsLeast_39]
    refine fq_if ?_ ?_
    · exact fq_tr h_u (hrec31 x0 x1 x2 (x3 + (1 : Int32)) u (hP.tr h_u) h_x0)
    · exact fq_tr h_u (frgX11_fillsLeast_52 N  _ _ hrec31 hrec39 N x0 x1 x2 x3 x4 (-1 : Int32) (0 : Int32) u (hP.tr h_u) h_x0)
set_option maxRecDepth 20000 in
theorem frgX11_fillsLeast_31 {P : Nat → Prop} (N : Nat)     : ∀ (n : Nat) (x0 : Nat) (x1 : Int32) (x2 : Int32) (x3 : Int32) (u : SG), Cl P u → P x0 → FQ P u (fun _ => True) (gX11_fillsLeast_31 N   n x0 x1 x2 x3 u) := by
  intro n
  induction n with
  | zero => intros; intro r u9 h9; exact absurd h9 (by simp [gX11_fillsLeast_31])
  | succ n ih =>
    intro x0 x1 x2 x3 u hP h_x0
    have hrec31 := ih
    have h_u : Fr P u u := Fr.rf
    rw [gX11_fillsLeast_31]
    refine fq_if ?_ ?_
    · exact fq_ret h_u trivial
    · exact fq_tr h_u (frgX11_fillsLeast_39 N  _ hrec31 N x0 x1 x2 x3 (0 : Int32) u (hP.tr h_u) h_x0)
set_option maxRecDepth 20000 in
theorem frgX11_fillsLeast_2 {P : Nat → Prop} (N : Nat)     : ∀ (n : Nat) (x0 : Nat) (x1 : Int32) (x2 : Int32) (x3 : Int32) (u : SG), Cl P u → P x0 → FQ P u (fun _ => True) (gX11_fillsLeast_2 N   n x0 x1 x2 x3 u) := by
  intro n
  induction n with
  | zero => intros; intro r u9 h9; exact absurd h9 (by simp [gX11_fillsLeast_2])
  | succ n ih =>
    intro x0 x1 x2 x3 u hP h_x0
    have hrec2 := ih
    have h_u : Fr P u u := Fr.rf
    rw [gX11_fillsLeast_2]
    refine fq_if ?_ ?_
    · exact fq_tr h_u (frgX11_fillsLeast_31 N   N x0 x1 x2 (1 : Int32) u (hP.tr h_u) h_x0)
    · refine fq_if ?_ fq_none
      refine fq_bR h_u hP h_x0 (fun q1 h_q1 => ?_)
      refine fq_if ?_ ?_
      · refine fq_if (fq_if fq_none (fq_sI h_u h_q1 (fun u3 h_u3 => ?_))) fq_none
        exact fq_tr h_u3 (hrec2 x0 x1 x2 (x3 + (1 : Int32)) u3 (hP.tr h_u3) h_x0)
      · refine fq_if (fq_if fq_none (fq_sI h_u h_q1 (fun u2 h_u2 => ?_))) fq_none
        exact fq_tr h_u2 (hrec2 x0 x1 x2 (x3 + (1 : Int32)) u2 (hP.tr h_u2) h_x0)
set_option maxRecDepth 20000 in
theorem fr_X11_fillsLeast {P : Nat → Prop} (N : Nat)   (a0 : Nat) (p1 : Int32) (p2 : Int32) (u : SG) : Cl P u → P a0 → FQ P u (fun _ => True) (fX11_fillsLeast N  a0 p1 p2 u) := by
  intro hP h_a0
  have h_u : Fr P u u := Fr.rf
  unfold fX11_fillsLeast
  exact fq_tr h_u (frgX11_fillsLeast_2 N   N a0 p1 p2 (0 : Int32) u (hP.tr h_u) h_a0)
set_option maxRecDepth 20000 in
theorem frgX11_nights_155 {P : Nat → Prop} (N : Nat)   (rec129 : Nat → Int32 → Int32 → Int32 → Int32 → Int32 → Int32 → SG → Option (Int32 × SG)) (hrec129 : ∀ (x0 : Nat) (x1 : Int32) (x2 : Int32) (x4 : Int32) (x5 : Int32) (x6 : Int32) (x7 : Int32) (u : SG), Cl P u → P x0 → FQ P u (fun _ => True) (rec129 x0 x1 x2 x4 x5 x6 x7 u)) : ∀ (n : Nat) (x0 : Nat) (x1 : Int32) (x2 : Int32) (x4 : Int32) (x5 : Int32) (x6 : Int32) (x7 : Int32) (u : SG), Cl P u → P x0 → FQ P u (fun _ => True) (gX11_nights_155 N  rec129 n x0 x1 x2 x4 x5 x6 x7 u) := by
  intro n
  induction n with
  | zero => intros; intro r u9 h9; exact absurd h9 (by simp [gX11_nights_155])
  | succ n ih =>
    intro x0 x1 x2 x4 x5 x6 x7 u hP h_x0
    have hrec155 := ih
    have h_u : Fr P u u := Fr.rf
    rw [gX11_nights_155]
    refine fq_if (fq_cl h_u (fr_X11_costBy N x0 x1 (x2 - x7) x5 x6 u (hP.tr h_u) h_x0 ) (fun r1 u2 h_u2 h_r1 => ?_)) fq_none
    refine fq_if (fq_cl h_u2 (fr_X11_leastOf N x0 (x2 - x7) x5 u2 (hP.tr h_u2) h_x0 ) (fun r3 u4 h_u4 h_r3 => ?_)) fq_none
    refine fq_if ?_ ?_
    · exact fq_tr h_u4 (hrec129 x0 x1 x2 x4 x5 x6 (x7 + (1 : Int32)) u4 (hP.tr h_u4) h_x0)
    · exact fq_tr h_u4 (hrec155 x0 x1 x2 x4 x5 (x6 + (1 : Int32)) x7 u4 (hP.tr h_u4) h_x0)
set_option maxRecDepth 20000 in
theorem frgX11_nights_129 {P : Nat → Prop} (N : Nat)     : ∀ (n : Nat) (x0 : Nat) (x1 : Int32) (x2 : Int32) (x4 : Int32) (x5 : Int32) (x6 : Int32) (x7 : Int32) (u : SG), Cl P u → P x0 → FQ P u (fun _ => True) (gX11_nights_129 N   n x0 x1 x2 x4 x5 x6 x7 u) := by
  intro n
  induction n with
  | zero => intros; intro r u9 h9; exact absurd h9 (by simp [gX11_nights_129])
  | succ n ih =>
    intro x0 x1 x2 x4 x5 x6 x7 u hP h_x0
    have hrec129 := ih
    have h_u : Fr P u u := Fr.rf
    rw [gX11_nights_129]
    refine fq_if ?_ ?_
    · exact fq_ret h_u trivial
    · refine fq_if ?_ ?_
      · refine fq_bs (fun v2 => ?_)
        exact fq_tr h_u (frgX11_nights_155 N  _ hrec129 N x0 x1 x2 x4 v2 (0 : Int32) x7 u (hP.tr h_u) h_x0)
      · refine fq_bs (fun v1 => ?_)
        exact fq_tr h_u (frgX11_nights_155 N  _ hrec129 N x0 x1 x2 x4 v1 (0 : Int32) x7 u (hP.tr h_u) h_x0)
set_option maxRecDepth 20000 in
theorem fr_X11_nights {P : Nat → Prop} (N : Nat)   (a0 : Nat) (p1 : Int32) (p2 : Int32) (p3 : Int32) (p4 : Int32) (u : SG) : Cl P u → P a0 → FQ P u (fun _ => True) (fX11_nights N  a0 p1 p2 p3 p4 u) := by
  intro hP h_a0
  have h_u : Fr P u u := Fr.rf
  unfold fX11_nights
  refine fq_if (fq_cl h_u (fr_X11_isPerson N a0 p1 u (hP.tr h_u) h_a0 ) (fun r1 u2 h_u2 h_r1 => ?_)) fq_none
  refine fq_if ?_ ?_
  · exact fq_ret h_u2 trivial
  · refine fq_cl h_u2 (fr_X11_in N p2.toInt64 (1 : Int64) (8 : Int64) u2 (hP.tr h_u2) ) (fun r3 u4 h_u4 h_r3 => ?_)
    refine fq_if ?_ ?_
    · exact fq_ret h_u4 trivial
    · refine fq_cl h_u4 (fr_X11_in N p3.toInt64 (0 : Int64) (99 : Int64) u4 (hP.tr h_u4) ) (fun r5 u6 h_u6 h_r5 => ?_)
      refine fq_if ?_ ?_
      · exact fq_ret h_u6 trivial
      · refine fq_cl h_u6 (fr_X11_in N p4.toInt64 (-1 : Int64) (7 : Int64) u6 (hP.tr h_u6) ) (fun r7 u8 h_u8 h_r7 => ?_)
        refine fq_if ?_ ?_
        · exact fq_ret h_u8 trivial
        · refine fq_if (fq_cl h_u8 (fr_X11_personOf N a0 p1 (4 : Int32) u8 (hP.tr h_u8) h_a0 ) (fun r9 u10 h_u10 h_r9 => ?_)) fq_none
          refine fq_if (fq_cl h_u10 (fr_X11_personOf N a0 p1 (0 : Int32) u10 (hP.tr h_u10) h_a0 ) (fun r11 u12 h_u12 h_r11 => ?_)) fq_none
          refine fq_bs (fun v13 => ?_)
          refine fq_if (fq_cl h_u12 (fr_X11_fillsNight N a0 p1 u12 (hP.tr h_u12) h_a0 ) (fun r14 u15 h_u15 h_r14 => ?_)) fq_none
          refine fq_if (fq_cl h_u15 (fr_X11_fillsLeast N a0 p1 p2 u15 (hP.tr h_u15) h_a0 ) (fun r16 u17 h_u17 h_r16 => ?_)) fq_none
          refine fq_if ?_ ?_
          · exact fq_ret h_u17 trivial
          · refine fq_if (fq_cl h_u17 (fr_X11_leastOf N a0 p2 v13 u17 (hP.tr h_u17) h_a0 ) (fun r18 u19 h_u19 h_r18 => ?_)) fq_none
            refine fq_if ?_ ?_
            · refine fq_if ?_ ?_
              · refine fq_if (fq_cl h_u19 (fr_X11_leastOf N a0 p2 v13 u19 (hP.tr h_u19) h_a0 ) (fun r20 u21 h_u21 h_r20 => ?_)) fq_none
                exact fq_ret h_u21 trivial
              · refine fq_if ?_ ?_
                · exact fq_tr h_u19 (frgX11_nights_129 N   N a0 p1 p2 p4 v13 (0 : Int32) (0 : Int32) u19 (hP.tr h_u19) h_a0)
                · exact fq_ret h_u19 trivial
            · exact fq_ret h_u19 trivial
set_option maxRecDepth 20000 in
theorem frgX11_turned_49 {P : Nat → Prop} (N : Nat)     : ∀ (n : Nat) (x0 : Nat) (x1 : Int32) (x2 : Int32) (x3 : Int32) (x4 : Int32) (x5 : Int32) (u : SG), Cl P u → P x0 → FQ P u (fun _ => True) (gX11_turned_49 N   n x0 x1 x2 x3 x4 x5 u) := by
  intro n
  induction n with
  | zero => intros; intro r u9 h9; exact absurd h9 (by simp [gX11_turned_49])
  | succ n ih =>
    intro x0 x1 x2 x3 x4 x5 u hP h_x0
    have hrec49 := ih
    have h_u : Fr P u u := Fr.rf
    rw [gX11_turned_49]
    refine fq_if ?_ ?_
    · refine fq_if ?_ fq_none
      refine fq_bR h_u hP h_x0 (fun q1 h_q1 => ?_)
      refine fq_if (fq_if fq_none ?_) fq_none
      refine fq_if (fq_cl h_u (fr_X11_personOf N x0 x1 (5 : Int32) u (hP.tr h_u) h_x0 ) (fun r2 u3 h_u3 h_r2 => ?_)) fq_none
      refine fq_bs (fun v4 => ?_)
      refine fq_if (fq_cl h_u3 (fr_X11_laysBack N x0  u3 (hP.tr h_u3) h_x0 ) (fun r5 u6 h_u6 h_r5 => ?_)) fq_none
      refine fq_cl h_u6 (fr_X11_fraction N v4 (60 : Int32) x3 u6 (hP.tr h_u6) ) (fun r7 u8 h_u8 h_r7 => ?_)
      exact fq_ret h_u8 trivial
    · refine fq_if (fq_cl h_u (fr_X11_passes N x0  u (hP.tr h_u) h_x0 ) (fun r9 u10 h_u10 h_r9 => ?_)) fq_none
      exact fq_tr h_u10 (hrec49 x0 x1 x2 x3 x4 (x5 + (1 : Int32)) u10 (hP.tr h_u10) h_x0)
set_option maxRecDepth 20000 in
theorem fr_X11_turned {P : Nat → Prop} (N : Nat)   (a0 : Nat) (p1 : Int32) (p2 : Int32) (p3 : Int32) (u : SG) : Cl P u → P a0 → FQ P u (fun _ => True) (fX11_turned N  a0 p1 p2 p3 u) := by
  intro hP h_a0
  have h_u : Fr P u u := Fr.rf
  unfold fX11_turned
  refine fq_if (fq_cl h_u (fr_X11_isPerson N a0 p1 u (hP.tr h_u) h_a0 ) (fun r1 u2 h_u2 h_r1 => ?_)) fq_none
  refine fq_if ?_ ?_
  · exact fq_ret h_u2 trivial
  · refine fq_cl h_u2 (fr_X11_in N p2.toInt64 (1 : Int64) (60 : Int64) u2 (hP.tr h_u2) ) (fun r3 u4 h_u4 h_r3 => ?_)
    refine fq_if ?_ ?_
    · exact fq_ret h_u4 trivial
    · refine fq_cl h_u4 (fr_X11_in N p3.toInt64 (0 : Int64) (1 : Int64) u4 (hP.tr h_u4) ) (fun r5 u6 h_u6 h_r5 => ?_)
      refine fq_if ?_ ?_
      · exact fq_ret h_u6 trivial
      · refine fq_if (fq_cl h_u6 (fr_X11_personOf N a0 p1 (5 : Int32) u6 (hP.tr h_u6) h_a0 ) (fun r7 u8 h_u8 h_r7 => ?_)) fq_none
        refine fq_if (fq_cl h_u8 (fr_X11_keeps N a0  u8 (hP.tr h_u8) h_a0 ) (fun r9 u10 h_u10 h_r9 => ?_)) fq_none
        exact fq_tr h_u10 (frgX11_turned_49 N   N a0 p1 p2 p3 r7 (0 : Int32) u10 (hP.tr h_u10) h_a0)
set_option maxRecDepth 20000 in
theorem frgX11_owedHeld_55 {P : Nat → Prop} (N : Nat)     (x0 : Nat) (s0 : Int32) (u : SG) : Cl P u → P x0 → FQ P u (fun _ => True) (gX11_owedHeld_55 N   x0 s0 u) := by
  intro hP h_x0
  have h_u : Fr P u u := Fr.rf
  unfold gX11_owedHeld_55
  refine fq_if (fq_cl h_u (fr_X11_laysBack N x0  u (hP.tr h_u) h_x0 ) (fun r1 u2 h_u2 h_r1 => ?_)) fq_none
  exact fq_ret h_u2 trivial
set_option maxRecDepth 20000 in
theorem frgX11_owedHeld_17 {P : Nat → Prop} (N : Nat)     : ∀ (n : Nat) (x0 : Nat) (x3 : Int32) (x4 : Int32) (x5 : Int32) (u : SG), Cl P u → P x0 → FQ P u (fun _ => True) (gX11_owedHeld_17 N   n x0 x3 x4 x5 u) := by
  intro n
  induction n with
  | zero => intros; intro r u9 h9; exact absurd h9 (by simp [gX11_owedHeld_17])
  | succ n ih =>
    intro x0 x3 x4 x5 u hP h_x0
    have hrec17 := ih
    have h_u : Fr P u u := Fr.rf
    rw [gX11_owedHeld_17]
    refine fq_if ?_ ?_
    · refine fq_if ?_ ?_
      · refine fq_if (fq_cl h_u (fr_X11_personOf N x0 x3 (5 : Int32) u (hP.tr h_u) h_x0 ) (fun r1 u2 h_u2 h_r1 => ?_)) fq_none
        exact fq_tr h_u2 (frgX11_owedHeld_55 N   x0 r1 u2 (hP.tr h_u2) h_x0)
      · refine fq_if ?_ fq_none
        refine fq_bR h_u hP h_x0 (fun q3 h_q3 => ?_)
        refine fq_if (fq_if fq_none ?_) fq_none
        exact fq_tr h_u (frgX11_owedHeld_55 N   x0 (zI u q3 7) u (hP.tr h_u) h_x0)
    · refine fq_if (fq_cl h_u (fr_X11_passes N x0  u (hP.tr h_u) h_x0 ) (fun r4 u5 h_u5 h_r4 => ?_)) fq_none
      exact fq_tr h_u5 (hrec17 x0 x3 x4 (x5 + (1 : Int32)) u5 (hP.tr h_u5) h_x0)
set_option maxRecDepth 20000 in
theorem fr_X11_owedHeld {P : Nat → Prop} (N : Nat)   (a0 : Nat) (p1 : Int32) (p2 : Int32) (p3 : Int32) (p4 : Int32) (u : SG) : Cl P u → P a0 → FQ P u (fun _ => True) (fX11_owedHeld N  a0 p1 p2 p3 p4 u) := by
  intro hP h_a0
  have h_u : Fr P u u := Fr.rf
  unfold fX11_owedHeld
  refine fq_if (fq_cl h_u (fr_X11_keeps N a0  u (hP.tr h_u) h_a0 ) (fun r1 u2 h_u2 h_r1 => ?_)) fq_none
  refine fq_if ?_ fq_none
  refine fq_bR h_u2 hP h_a0 (fun q3 h_q3 => ?_)
  refine fq_if (fq_if fq_none (fq_sI h_u2 h_q3 (fun u4 h_u4 => ?_))) fq_none
  exact fq_tr h_u4 (frgX11_owedHeld_17 N   N a0 p3 p4 (0 : Int32) u4 (hP.tr h_u4) h_a0)
set_option maxRecDepth 20000 in
theorem frgX11_spite_21 {P : Nat → Prop} (N : Nat)     (x0 : Nat) (x1 : Int32) (x2 : Int32) (x3 : Int32) (x4 : Int32) (u : SG) : Cl P u → P x0 → FQ P u (fun _ => True) (gX11_spite_21 N   x0 x1 x2 x3 x4 u) := by
  intro hP h_x0
  have h_u : Fr P u u := Fr.rf
  unfold gX11_spite_21
  refine fq_cl h_u (fr_X11_in N x3.toInt64 (1 : Int64) (60 : Int64) u (hP.tr h_u) ) (fun r1 u2 h_u2 h_r1 => ?_)
  refine fq_if ?_ ?_
  · exact fq_ret h_u2 trivial
  · refine fq_cl h_u2 (fr_X11_in N x4.toInt64 (0 : Int64) (1 : Int64) u2 (hP.tr h_u2) ) (fun r3 u4 h_u4 h_r3 => ?_)
    refine fq_if ?_ ?_
    · exact fq_ret h_u4 trivial
    · refine fq_if (fq_cl h_u4 (fr_X11_owedHeld N x0 x1 (1 : Int32) x2 x3 u4 (hP.tr h_u4) h_x0 ) (fun r5 u6 h_u6 h_r5 => ?_)) fq_none
      refine fq_if (fq_cl h_u6 (fr_X11_owedHeld N x0 x1 (2 : Int32) x2 x3 u6 (hP.tr h_u6) h_x0 ) (fun r7 u8 h_u8 h_r7 => ?_)) fq_none
      refine fq_cl h_u8 (fr_X11_fraction N (r5 - r7) (60 : Int32) x4 u8 (hP.tr h_u8) ) (fun r9 u10 h_u10 h_r9 => ?_)
      exact fq_ret h_u10 trivial
set_option maxRecDepth 20000 in
theorem fr_X11_spite {P : Nat → Prop} (N : Nat)   (a0 : Nat) (p1 : Int32) (p2 : Int32) (p3 : Int32) (p4 : Int32) (u : SG) : Cl P u → P a0 → FQ P u (fun _ => True) (fX11_spite N  a0 p1 p2 p3 p4 u) := by
  intro hP h_a0
  have h_u : Fr P u u := Fr.rf
  unfold fX11_spite
  refine fq_if (fq_cl h_u (fr_X11_isLamp N a0 p1 u (hP.tr h_u) h_a0 ) (fun r1 u2 h_u2 h_r1 => ?_)) fq_none
  refine fq_if ?_ ?_
  · exact fq_ret h_u2 trivial
  · refine fq_if ?_ ?_
    · exact fq_tr h_u2 (frgX11_spite_21 N   a0 p1 p2 p3 p4 u2 (hP.tr h_u2) h_a0)
    · refine fq_if (fq_cl h_u2 (fr_X11_isPerson N a0 p2 u2 (hP.tr h_u2) h_a0 ) (fun r3 u4 h_u4 h_r3 => ?_)) fq_none
      refine fq_if ?_ ?_
      · exact fq_ret h_u4 trivial
      · exact fq_tr h_u4 (frgX11_spite_21 N   a0 p1 p2 p3 p4 u4 (hP.tr h_u4) h_a0)
set_option maxRecDepth 20000 in
theorem fr_X11_seed {P : Nat → Prop} (N : Nat)   (a0 : Nat) (p1 : Int32) (u : SG) : Cl P u → P a0 → FQ P u (fun _ => True) (fX11_seed N  a0 p1 u) := by
  intro hP h_a0
  have h_u : Fr P u u := Fr.rf
  unfold fX11_seed
  refine fq_if ?_ ?_
  · refine fq_if ?_ fq_none
    refine fq_bs (fun v1 => ?_)
    refine fq_if (fq_sI h_u h_a0 (fun u2 h_u2 => ?_)) fq_none
    exact fq_ret h_u2 trivial
  · exact fq_ret h_u trivial
set_option maxRecDepth 20000 in
theorem fr_X11_draw {P : Nat → Prop} (N : Nat)   (a0 : Nat) (p1 : Int32) (u : SG) : Cl P u → P a0 → FQ P u (fun _ => True) (fX11_draw N  a0 p1 u) := by
  intro hP h_a0
  have h_u : Fr P u u := Fr.rf
  unfold fX11_draw
  refine fq_if ?_ fq_none
  refine fq_if fq_none ?_
  refine fq_if (fq_sL h_u h_a0 (fun u1 h_u1 => ?_)) fq_none
  refine fq_if ?_ fq_none
  refine fq_if fq_none ?_
  refine fq_if fq_none ?_
  exact fq_ret h_u1 trivial
set_option maxRecDepth 20000 in
theorem frgX11_lives_153 {P : Nat → Prop} (N : Nat)   (rec78 : Nat → Int32 → Int32 → Int32 → Int32 → Int32 → Int32 → Int32 → SG → Option (Int32 × SG)) (rec96 : Nat → Int32 → Int32 → Int32 → Int32 → Int32 → Int32 → Int32 → Int32 → Int32 → SG → Option (Int32 × SG)) (rec109 : Nat → Int32 → Int32 → Int32 → Int32 → Int32 → Int32 → Int32 → Int32 → Int32 → Int32 → SG → Option (Int32 × SG)) (hrec78 : ∀ (x0 : Nat) (x1 : Int32) (x2 : Int32) (x3 : Int32) (x4 : Int32) (x5 : Int32) (x6 : Int32) (x7 : Int32) (u : SG), Cl P u → P x0 → FQ P u (fun _ => True) (rec78 x0 x1 x2 x3 x4 x5 x6 x7 u)) (hrec96 : ∀ (x0 : Nat) (x1 : Int32) (x2 : Int32) (x3 : Int32) (x4 : Int32) (x5 : Int32) (x6 : Int32) (x7 : Int32) (x8 : Int32) (x9 : Int32) (u : SG), Cl P u → P x0 → FQ P u (fun _ => True) (rec96 x0 x1 x2 x3 x4 x5 x6 x7 x8 x9 u)) (hrec109 : ∀ (x0 : Nat) (x1 : Int32) (x2 : Int32) (x3 : Int32) (x4 : Int32) (x5 : Int32) (x6 : Int32) (x7 : Int32) (x8 : Int32) (x9 : Int32) (x10 : Int32) (u : SG), Cl P u → P x0 → FQ P u (fun _ => True) (rec109 x0 x1 x2 x3 x4 x5 x6 x7 x8 x9 x10 u)) (x0 : Nat) (x1 : Int32) (x2 : Int32) (x3 : Int32) (x4 : Int32) (x5 : Int32) (x6 : Int32) (x7 : Int32) (x8 : Int32) (x9 : Int32) (x10 : Int32) (s0 : Nat) (s1 : Int32) (s2 : Int32) (u : SG) : Cl P u → P x0 → P s0 → FQ P u (fun _ => True) (gX11_lives_153 N  rec78 rec96 rec109 x0 x1 x2 x3 x4 x5 x6 x7 x8 x9 x10 s0 s1 s2 u) := by
  intro hP h_x0 h_s0
  have h_u : Fr P u u := Fr.rf
  unfold gX11_lives_153
  refine fq_if (fq_cl h_u (fr_X11_setsAsleep N s0 s1 s2 u (hP.tr h_u) h_s0 ) (fun r1 u2 h_u2 h_r1 => ?_)) fq_none
  exact fq_tr h_u2 (hrec109 x0 x1 x2 x3 x4 x5 x6 x7 x8 x9 (x10 + (1 : Int32)) u2 (hP.tr h_u2) h_x0)
set_option maxRecDepth 20000 in
theorem frgX11_lives_109 {P : Nat → Prop} (N : Nat)   (rec78 : Nat → Int32 → Int32 → Int32 → Int32 → Int32 → Int32 → Int32 → SG → Option (Int32 × SG)) (rec96 : Nat → Int32 → Int32 → Int32 → Int32 → Int32 → Int32 → Int32 → Int32 → Int32 → SG → Option (Int32 × SG)) (hrec78 : ∀ (x0 : Nat) (x1 : Int32) (x2 : Int32) (x3 : Int32) (x4 : Int32) (x5 : Int32) (x6 : Int32) (x7 : Int32) (u : SG), Cl P u → P x0 → FQ P u (fun _ => True) (rec78 x0 x1 x2 x3 x4 x5 x6 x7 u)) (hrec96 : ∀ (x0 : Nat) (x1 : Int32) (x2 : Int32) (x3 : Int32) (x4 : Int32) (x5 : Int32) (x6 : Int32) (x7 : Int32) (x8 : Int32) (x9 : Int32) (u : SG), Cl P u → P x0 → FQ P u (fun _ => True) (rec96 x0 x1 x2 x3 x4 x5 x6 x7 x8 x9 u)) : ∀ (n : Nat) (x0 : Nat) (x1 : Int32) (x2 : Int32) (x3 : Int32) (x4 : Int32) (x5 : Int32) (x6 : Int32) (x7 : Int32) (x8 : Int32) (x9 : Int32) (x10 : Int32) (u : SG), Cl P u → P x0 → FQ P u (fun _ => True) (gX11_lives_109 N  rec78 rec96 n x0 x1 x2 x3 x4 x5 x6 x7 x8 x9 x10 u) := by
  intro n
  induction n with
  | zero => intros; intro r u9 h9; exact absurd h9 (by simp [gX11_lives_109])
  | succ n ih =>
    intro x0 x1 x2 x3 x4 x5 x6 x7 x8 x9 x10 u hP h_x0
    have hrec109 := ih
    have h_u : Fr P u u := Fr.rf
    rw [gX11_lives_109]
    refine fq_if ?_ fq_none
    refine fq_bR h_u hP h_x0 (fun q1 h_q1 => ?_)
    refine fq_if (fq_if fq_none ?_) fq_none
    refine fq_if ?_ ?_
    · refine fq_if (fq_cl h_u (fr_X11_shares N x0  u (hP.tr h_u) h_x0 ) (fun r2 u3 h_u3 h_r2 => ?_)) fq_none
      refine fq_bs (fun v4 => ?_)
      exact fq_tr h_u3 (hrec96 x0 x1 x2 x3 x4 v4 x6 x7 x8 (x9 + (1 : Int32)) u3 (hP.tr h_u3) h_x0)
    · refine fq_if ?_ fq_none
      refine fq_bR h_u hP h_x0 (fun q5 h_q5 => ?_)
      refine fq_if (fq_if fq_none ?_) fq_none
      refine fq_if (fq_cl h_u (fr_X11_worksIn N x0 x10 (zI u q5 5) u (hP.tr h_u) h_x0 ) (fun r6 u7 h_u7 h_r6 => ?_)) fq_none
      refine fq_if ?_ ?_
      · refine fq_if (fq_cl h_u7 (fr_X11_draw N x0 (100 : Int32) u7 (hP.tr h_u7) h_x0 ) (fun r8 u9 h_u9 h_r8 => ?_)) fq_none
        refine fq_if ?_ ?_
        · exact fq_tr h_u9 (frgX11_lives_153 N  _ _ _ hrec78 hrec96 hrec109 x0 x1 x2 x3 x4 x5 x6 x7 x8 x9 x10 x0 x10 (0 : Int32) u9 (hP.tr h_u9) h_x0 h_x0)
        · exact fq_tr h_u9 (frgX11_lives_153 N  _ _ _ hrec78 hrec96 hrec109 x0 x1 x2 x3 x4 x5 x6 x7 x8 x9 x10 x0 x10 (1 : Int32) u9 (hP.tr h_u9) h_x0 h_x0)
      · exact fq_tr h_u7 (hrec109 x0 x1 x2 x3 x4 x5 x6 x7 x8 x9 (x10 + (1 : Int32)) u7 (hP.tr h_u7) h_x0)
set_option maxRecDepth 20000 in
theorem frgX11_lives_96 {P : Nat → Prop} (N : Nat)   (rec78 : Nat → Int32 → Int32 → Int32 → Int32 → Int32 → Int32 → Int32 → SG → Option (Int32 × SG)) (hrec78 : ∀ (x0 : Nat) (x1 : Int32) (x2 : Int32) (x3 : Int32) (x4 : Int32) (x5 : Int32) (x6 : Int32) (x7 : Int32) (u : SG), Cl P u → P x0 → FQ P u (fun _ => True) (rec78 x0 x1 x2 x3 x4 x5 x6 x7 u)) : ∀ (n : Nat) (x0 : Nat) (x1 : Int32) (x2 : Int32) (x3 : Int32) (x4 : Int32) (x5 : Int32) (x6 : Int32) (x7 : Int32) (x8 : Int32) (x9 : Int32) (u : SG), Cl P u → P x0 → FQ P u (fun _ => True) (gX11_lives_96 N  rec78 n x0 x1 x2 x3 x4 x5 x6 x7 x8 x9 u) := by
  intro n
  induction n with
  | zero => intros; intro r u9 h9; exact absurd h9 (by simp [gX11_lives_96])
  | succ n ih =>
    intro x0 x1 x2 x3 x4 x5 x6 x7 x8 x9 u hP h_x0
    have hrec96 := ih
    have h_u : Fr P u u := Fr.rf
    rw [gX11_lives_96]
    refine fq_if ?_ ?_
    · refine fq_if ?_ fq_none
      refine fq_bR h_u hP h_x0 (fun q1 h_q1 => ?_)
      refine fq_if (fq_if fq_none ?_) fq_none
      refine fq_if fq_none ?_
      refine fq_bs (fun v2 => ?_)
      refine fq_if (fq_cl h_u (fr_X11_laysBack N x0  u (hP.tr h_u) h_x0 ) (fun r3 u4 h_u4 h_r3 => ?_)) fq_none
      exact fq_tr h_u4 (hrec78 x0 x1 x2 x3 x4 x5 v2 (x7 + (1 : Int32)) u4 (hP.tr h_u4) h_x0)
    · refine fq_if (fq_cl h_u (fr_X11_wakesWorkers N x0  u (hP.tr h_u) h_x0 ) (fun r5 u6 h_u6 h_r5 => ?_)) fq_none
      exact fq_tr h_u6 (frgX11_lives_109 N  _ _ hrec78 hrec96 N x0 x1 x2 x3 x4 x5 x6 x7 x8 x9 (0 : Int32) u6 (hP.tr h_u6) h_x0)
set_option maxRecDepth 20000 in
theorem frgX11_lives_78 {P : Nat → Prop} (N : Nat)     : ∀ (n : Nat) (x0 : Nat) (x1 : Int32) (x2 : Int32) (x3 : Int32) (x4 : Int32) (x5 : Int32) (x6 : Int32) (x7 : Int32) (u : SG), Cl P u → P x0 → FQ P u (fun _ => True) (gX11_lives_78 N   n x0 x1 x2 x3 x4 x5 x6 x7 u) := by
  intro n
  induction n with
  | zero => intros; intro r u9 h9; exact absurd h9 (by simp [gX11_lives_78])
  | succ n ih =>
    intro x0 x1 x2 x3 x4 x5 x6 x7 u hP h_x0
    have hrec78 := ih
    have h_u : Fr P u u := Fr.rf
    rw [gX11_lives_78]
    refine fq_if ?_ ?_
    · refine fq_if ?_ ?_
      · exact fq_ret h_u trivial
      · exact fq_ret h_u trivial
    · refine fq_if ?_ fq_none
      refine fq_bR h_u hP h_x0 (fun q1 h_q1 => ?_)
      refine fq_if (fq_if fq_none ?_) fq_none
      refine fq_bs (fun v2 => ?_)
      exact fq_tr h_u (frgX11_lives_96 N  _ hrec78 N x0 x1 x2 x3 x4 x5 x6 x7 v2 (0 : Int32) u (hP.tr h_u) h_x0)
set_option maxRecDepth 20000 in
theorem fr_X11_lives {P : Nat → Prop} (N : Nat)   (a0 : Nat) (p1 : Int32) (p2 : Int32) (p3 : Int32) (p4 : Int32) (u : SG) : Cl P u → P a0 → FQ P u (fun _ => True) (fX11_lives N  a0 p1 p2 p3 p4 u) := by
  intro hP h_a0
  have h_u : Fr P u u := Fr.rf
  unfold fX11_lives
  refine fq_if (fq_cl h_u (fr_X11_isStreet N a0  u (hP.tr h_u) h_a0 ) (fun r1 u2 h_u2 h_r1 => ?_)) fq_none
  refine fq_if ?_ ?_
  · exact fq_ret h_u2 trivial
  · refine fq_cl h_u2 (fr_X11_in N p1.toInt64 (1 : Int64) (10 : Int64) u2 (hP.tr h_u2) ) (fun r3 u4 h_u4 h_r3 => ?_)
    refine fq_if ?_ ?_
    · exact fq_ret h_u4 trivial
    · refine fq_cl h_u4 (fr_X11_in N p2.toInt64 (1 : Int64) (60 : Int64) u4 (hP.tr h_u4) ) (fun r5 u6 h_u6 h_r5 => ?_)
      refine fq_if ?_ ?_
      · exact fq_ret h_u6 trivial
      · refine fq_cl h_u6 (fr_X11_in N p3.toInt64 (0 : Int64) (100 : Int64) u6 (hP.tr h_u6) ) (fun r7 u8 h_u8 h_r7 => ?_)
        refine fq_if ?_ ?_
        · exact fq_ret h_u8 trivial
        · refine fq_cl h_u8 (fr_X11_in N p4.toInt64 (0 : Int64) (1 : Int64) u8 (hP.tr h_u8) ) (fun r9 u10 h_u10 h_r9 => ?_)
          refine fq_if ?_ ?_
          · exact fq_ret h_u10 trivial
          · refine fq_if ?_ fq_none
            refine fq_if (fq_sL h_u10 h_a0 (fun u11 h_u11 => ?_)) fq_none
            refine fq_if (fq_cl h_u11 (fr_X11_keeps N a0  u11 (hP.tr h_u11) h_a0 ) (fun r12 u13 h_u13 h_r12 => ?_)) fq_none
            exact fq_tr h_u13 (frgX11_lives_78 N   N a0 p1 p2 p3 p4 (0 : Int32) (0 : Int32) (0 : Int32) u13 (hP.tr h_u13) h_a0)
set_option maxRecDepth 20000 in
theorem fr_X11_count {P : Nat → Prop} (N : Nat)   (a0 : Nat) (p1 : Int32) (u : SG) : Cl P u → P a0 → FQ P u (fun _ => True) (fX11_count N  a0 p1 u) := by
  intro hP h_a0
  have h_u : Fr P u u := Fr.rf
  unfold fX11_count
  refine fq_if ?_ ?_
  · refine fq_if ?_ fq_none
    refine fq_bR h_u hP h_a0 (fun q1 h_q1 => ?_)
    refine fq_if (fq_if fq_none ?_) fq_none
    exact fq_ret h_u trivial
  refine fq_if ?_ ?_
  · refine fq_if ?_ fq_none
    refine fq_bR h_u hP h_a0 (fun q2 h_q2 => ?_)
    refine fq_if (fq_if fq_none ?_) fq_none
    exact fq_ret h_u trivial
  refine fq_if ?_ ?_
  · refine fq_if ?_ fq_none
    refine fq_bR h_u hP h_a0 (fun q3 h_q3 => ?_)
    refine fq_if (fq_if fq_none ?_) fq_none
    exact fq_ret h_u trivial
  refine fq_if ?_ ?_
  · refine fq_if ?_ fq_none
    refine fq_bR h_u hP h_a0 (fun q4 h_q4 => ?_)
    refine fq_if (fq_if fq_none ?_) fq_none
    exact fq_ret h_u trivial
  refine fq_if ?_ ?_
  · refine fq_if ?_ fq_none
    refine fq_bR h_u hP h_a0 (fun q5 h_q5 => ?_)
    refine fq_if (fq_if fq_none ?_) fq_none
    exact fq_ret h_u trivial
  refine fq_if ?_ ?_
  · refine fq_if ?_ fq_none
    exact fq_ret h_u trivial
  refine fq_if ?_ ?_
  · refine fq_if ?_ fq_none
    exact fq_ret h_u trivial
  refine fq_if ?_ ?_
  · refine fq_if ?_ fq_none
    refine fq_bR h_u hP h_a0 (fun q6 h_q6 => ?_)
    refine fq_if (fq_if fq_none ?_) fq_none
    exact fq_ret h_u trivial
  refine fq_if ?_ ?_
  · refine fq_if ?_ fq_none
    refine fq_bR h_u hP h_a0 (fun q7 h_q7 => ?_)
    refine fq_if (fq_if fq_none ?_) fq_none
    exact fq_ret h_u trivial
  refine fq_if ?_ ?_
  · refine fq_if (fq_cl h_u (fr_X11_sleepers N a0  u (hP.tr h_u) h_a0 ) (fun r8 u9 h_u9 h_r8 => ?_)) fq_none
    exact fq_ret h_u9 trivial
  refine fq_if ?_ ?_
  · refine fq_if (fq_cl h_u (fr_X11_burning N a0  u (hP.tr h_u) h_a0 ) (fun r10 u11 h_u11 h_r10 => ?_)) fq_none
    exact fq_ret h_u11 trivial
  refine fq_if ?_ ?_
  · refine fq_if ?_ fq_none
    refine fq_bR h_u hP h_a0 (fun q12 h_q12 => ?_)
    refine fq_if (fq_if fq_none ?_) fq_none
    refine fq_if (fq_cl h_u (fr_X11_costIn N a0 (zI u q12 5) u (hP.tr h_u) h_a0 ) (fun r13 u14 h_u14 h_r13 => ?_)) fq_none
    exact fq_ret h_u14 trivial
  refine fq_if ?_ ?_
  · refine fq_if ?_ fq_none
    refine fq_bR h_u hP h_a0 (fun q15 h_q15 => ?_)
    refine fq_if (fq_if fq_none ?_) fq_none
    exact fq_ret h_u trivial
  refine fq_if ?_ ?_
  · refine fq_if ?_ fq_none
    exact fq_ret h_u trivial
  refine fq_if ?_ ?_
  · refine fq_if ?_ fq_none
    exact fq_ret h_u trivial
  refine fq_if ?_ ?_
  · refine fq_if ?_ fq_none
    exact fq_ret h_u trivial
  exact fq_ret h_u trivial
set_option maxRecDepth 20000 in
theorem frgX11_image_43 {P : Nat → Prop} (N : Nat)     : ∀ (n : Nat) (x0 : Nat) (x1 : Int32) (x2 : Int32) (u : SG), Cl P u → P x0 → FQ P u (fun _ => True) (gX11_image_43 N   n x0 x1 x2 u) := by
  intro n
  induction n with
  | zero => intros; intro r u9 h9; exact absurd h9 (by simp [gX11_image_43])
  | succ n ih =>
    intro x0 x1 x2 u hP h_x0
    have hrec43 := ih
    have h_u : Fr P u u := Fr.rf
    rw [gX11_image_43]
    refine fq_if ?_ ?_
    · refine fq_if ?_ fq_none
      refine fq_bR h_u hP h_x0 (fun q1 h_q1 => ?_)
      refine fq_if (fq_if fq_none ?_) fq_none
      exact fq_ret h_u trivial
    · refine fq_if ?_ fq_none
      refine fq_bR h_u hP h_x0 (fun q2 h_q2 => ?_)
      refine fq_if ?_ fq_none
      refine fq_bR h_u hP h_x0 (fun q3 h_q3 => ?_)
      refine fq_if (fq_if fq_none ?_) fq_none
      refine fq_if (fq_if fq_none (fq_sI h_u h_q2 (fun u4 h_u4 => ?_))) fq_none
      exact fq_tr h_u4 (hrec43 x0 x1 (x2 + (1 : Int32)) u4 (hP.tr h_u4) h_x0)
set_option maxRecDepth 20000 in
theorem fr_X11_image {P : Nat → Prop} (N : Nat)   (a0 : Nat) (p1 : Int32) (u : SG) : Cl P u → P a0 → FQ P u (fun _ => True) (fX11_image N  a0 p1 u) := by
  intro hP h_a0
  have h_u : Fr P u u := Fr.rf
  unfold fX11_image
  refine fq_cl h_u (fr_X11_in N p1.toInt64 (0 : Int64) (3 : Int64) u (hP.tr h_u) ) (fun r1 u2 h_u2 h_r1 => ?_)
  refine fq_if ?_ ?_
  · exact fq_ret h_u2 trivial
  · refine fq_if ?_ fq_none
    refine fq_bR h_u2 hP h_a0 (fun q3 h_q3 => ?_)
    refine fq_if (fq_if fq_none (fq_sI h_u2 h_q3 (fun u4 h_u4 => ?_))) fq_none
    refine fq_if ?_ fq_none
    refine fq_bR h_u4 hP h_a0 (fun q5 h_q5 => ?_)
    refine fq_if ?_ fq_none
    refine fq_if (fq_if fq_none (fq_sI h_u4 h_q5 (fun u6 h_u6 => ?_))) fq_none
    refine fq_if ?_ fq_none
    refine fq_bR h_u6 hP h_a0 (fun q7 h_q7 => ?_)
    refine fq_if ?_ fq_none
    refine fq_if (fq_if fq_none (fq_sI h_u6 h_q7 (fun u8 h_u8 => ?_))) fq_none
    exact fq_tr h_u8 (frgX11_image_43 N   N a0 p1 (0 : Int32) u8 (hP.tr h_u8) h_a0)
set_option maxRecDepth 20000 in
theorem frgX11_back_50 {P : Nat → Prop} (N : Nat)     : ∀ (n : Nat) (x0 : Nat) (x1 : Int32) (x2 : Int32) (u : SG), Cl P u → P x0 → FQ P u (fun _ => True) (gX11_back_50 N   n x0 x1 x2 u) := by
  intro n
  induction n with
  | zero => intros; intro r u9 h9; exact absurd h9 (by simp [gX11_back_50])
  | succ n ih =>
    intro x0 x1 x2 u hP h_x0
    have hrec50 := ih
    have h_u : Fr P u u := Fr.rf
    rw [gX11_back_50]
    refine fq_if ?_ ?_
    · refine fq_if ?_ fq_none
      refine fq_bR h_u hP h_x0 (fun q1 h_q1 => ?_)
      refine fq_if (fq_if fq_none ?_) fq_none
      exact fq_ret h_u trivial
    · refine fq_if ?_ fq_none
      refine fq_bR h_u hP h_x0 (fun q2 h_q2 => ?_)
      refine fq_if ?_ fq_none
      refine fq_bR h_u hP h_x0 (fun q3 h_q3 => ?_)
      refine fq_if (fq_if fq_none ?_) fq_none
      refine fq_if (fq_if fq_none (fq_sI h_u h_q2 (fun u4 h_u4 => ?_))) fq_none
      exact fq_tr h_u4 (hrec50 x0 x1 (x2 + (1 : Int32)) u4 (hP.tr h_u4) h_x0)
set_option maxRecDepth 20000 in
theorem fr_X11_back {P : Nat → Prop} (N : Nat)   (a0 : Nat) (p1 : Int32) (u : SG) : Cl P u → P a0 → FQ P u (fun _ => True) (fX11_back N  a0 p1 u) := by
  intro hP h_a0
  have h_u : Fr P u u := Fr.rf
  unfold fX11_back
  refine fq_cl h_u (fr_X11_in N p1.toInt64 (0 : Int64) (3 : Int64) u (hP.tr h_u) ) (fun r1 u2 h_u2 h_r1 => ?_)
  refine fq_if ?_ ?_
  · exact fq_ret h_u2 trivial
  · refine fq_if ?_ fq_none
    refine fq_bR h_u2 hP h_a0 (fun q3 h_q3 => ?_)
    refine fq_if (fq_if fq_none ?_) fq_none
    refine fq_if ?_ ?_
    · exact fq_ret h_u2 trivial
    · refine fq_if ?_ fq_none
      refine fq_bR h_u2 hP h_a0 (fun q4 h_q4 => ?_)
      refine fq_if (fq_if fq_none ?_) fq_none
      refine fq_if (fq_sI h_u2 h_a0 (fun u5 h_u5 => ?_)) fq_none
      refine fq_if ?_ fq_none
      refine fq_bR h_u5 hP h_a0 (fun q6 h_q6 => ?_)
      refine fq_if (fq_if fq_none ?_) fq_none
      refine fq_if (fq_sI h_u5 h_a0 (fun u7 h_u7 => ?_)) fq_none
      refine fq_if (fq_sI h_u7 h_a0 (fun u8 h_u8 => ?_)) fq_none
      exact fq_tr h_u8 (frgX11_back_50 N   N a0 p1 (0 : Int32) u8 (hP.tr h_u8) h_a0)
