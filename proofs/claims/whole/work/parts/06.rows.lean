/-- a call's answer, used -/
def cl {α β : Type} (g : Option (α × SG)) (kf : α → SG → Option β) : Option β := g.bind fun o => kf o.1 o.2
def cla {α β : Type} (z : Nat) (g : Option (α × SG)) (kf : α → SG → Option β) : Option β := g.bind fun o => if z ≤ o.2.1 then kf o.1 o.2 else none

theorem istep {z lo : Int} (h : lo ≤ z) (hn : ¬ z = lo) : lo + 1 ≤ z := by omega
section ROWS2
variable {X : XT} {ex : Prop} {y : MethodName} {cc : ByteArray} {nL : Nat} {ret : Option FieldType} {d mc ms cs ss : Nat} {ρ : Type} {Qf : ρ → SG → State → Prop} {pc : Nat} {lv : List (Nat × Value)} {st : List Value} {u : SG} {fx fy : Option (ρ × SG)}
theorem jf_iald (hX : Cx X y cc nL ret d mc ms) {a : Nat} {i : Int32} (hd : decode cc pc = .ok (.iaload, 1)) (h : JF X ex nL cs ss Qf (pc + 1) lv (.int (zI u a i.toNatClampNeg) :: st) u fx) : JF X ex nL cs ss Qf pc lv (.int i :: .ref a :: st) u (if zK u a = 22 then (if i < 0 ∨ zN u a ≤ i.toNatClampNeg then none else fx) else none) := by
  obtain ⟨p, l, e, R, s, m, args, below, meth, c, D, cT, z0, ks⟩ := X
  obtain ⟨hx, hb, hml, hown, hts, hKk, hz0, hRf, hRl, hRc, hRs, hSF, hret, hlk, hnm⟩ := hX
  intro r u' hf ls H locs hl hH hP hw hex hS
  by_cases hc : zK u a = 22
  · rw [if_pos hc] at hf
    by_cases hi : i < 0 ∨ zN u a ≤ i.toNatClampNeg
    · rw [if_pos hi] at hf; cases hf
    · rw [if_neg hi] at hf
      obtain ⟨q, hq⟩ := zp_get (cT := cT) hw (a := a) (by omega)
      rw [zcell_arr hc (by omega)] at hq
      exact va_iald (D := D) hx hb hKk hP q 1 (f := zI u a) hq rfl hi hd (h r u' hf ls H locs hl hH hP hw hex hS)
  · rw [if_neg hc] at hf; cases hf
theorem jf_bald (hX : Cx X y cc nL ret d mc ms) {a : Nat} {i : Int32} (hd : decode cc pc = .ok (.baload, 1)) (h : JF X ex nL cs ss Qf (pc + 1) lv (.int (zI u a i.toNatClampNeg) :: st) u fx) : JF X ex nL cs ss Qf pc lv (.int i :: .ref a :: st) u (if zK u a = 21 then (if i < 0 ∨ zN u a ≤ i.toNatClampNeg then none else fx) else none) := by
  obtain ⟨p, l, e, R, s, m, args, below, meth, c, D, cT, z0, ks⟩ := X
  obtain ⟨hx, hb, hml, hown, hts, hKk, hz0, hRf, hRl, hRc, hRs, hSF, hret, hlk, hnm⟩ := hX
  intro r u' hf ls H locs hl hH hP hw hex hS
  by_cases hc : zK u a = 21
  · rw [if_pos hc] at hf
    by_cases hi : i < 0 ∨ zN u a ≤ i.toNatClampNeg
    · rw [if_pos hi] at hf; cases hf
    · rw [if_neg hi] at hf
      obtain ⟨q, hq⟩ := zp_get (cT := cT) hw (a := a) (by omega)
      rw [zcell_arr hc (by omega)] at hq
      exact va_bald (D := D) hx hb hKk hP q 0 (f := zI u a) hq rfl hi hd (h r u' hf ls H locs hl hH hP hw hex hS)
  · rw [if_neg hc] at hf; cases hf
theorem jf_zald (hX : Cx X y cc nL ret d mc ms) {a : Nat} {i : Int32} (hd : decode cc pc = .ok (.baload, 1)) (h : JF X ex nL cs ss Qf (pc + 1) lv (.int (zI u a i.toNatClampNeg) :: st) u fx) : JF X ex nL cs ss Qf pc lv (.int i :: .ref a :: st) u (if zK u a = 24 then (if i < 0 ∨ zN u a ≤ i.toNatClampNeg then none else fx) else none) := by
  obtain ⟨p, l, e, R, s, m, args, below, meth, c, D, cT, z0, ks⟩ := X
  obtain ⟨hx, hb, hml, hown, hts, hKk, hz0, hRf, hRl, hRc, hRs, hSF, hret, hlk, hnm⟩ := hX
  intro r u' hf ls H locs hl hH hP hw hex hS
  by_cases hc : zK u a = 24
  · rw [if_pos hc] at hf
    by_cases hi : i < 0 ∨ zN u a ≤ i.toNatClampNeg
    · rw [if_pos hi] at hf; cases hf
    · rw [if_neg hi] at hf
      obtain ⟨q, hq⟩ := zp_get (cT := cT) hw (a := a) (by omega)
      rw [zcell_arr hc (by omega)] at hq
      exact va_zald (D := D) hx hb hKk hP q 3 (f := zI u a) hq rfl hi hd (h r u' hf ls H locs hl hH hP hw hex hS)
  · rw [if_neg hc] at hf; cases hf
theorem jf_lald (hX : Cx X y cc nL ret d mc ms) {a : Nat} {i : Int32} (hd : decode cc pc = .ok (.laload, 1)) (h : JF X ex nL cs ss Qf (pc + 1) lv (.long (zL u a i.toNatClampNeg) :: st) u fx) : JF X ex nL cs ss Qf pc lv (.int i :: .ref a :: st) u (if zK u a = 23 then (if i < 0 ∨ zN u a ≤ i.toNatClampNeg then none else fx) else none) := by
  obtain ⟨p, l, e, R, s, m, args, below, meth, c, D, cT, z0, ks⟩ := X
  obtain ⟨hx, hb, hml, hown, hts, hKk, hz0, hRf, hRl, hRc, hRs, hSF, hret, hlk, hnm⟩ := hX
  intro r u' hf ls H locs hl hH hP hw hex hS
  by_cases hc : zK u a = 23
  · rw [if_pos hc] at hf
    by_cases hi : i < 0 ∨ zN u a ≤ i.toNatClampNeg
    · rw [if_pos hi] at hf; cases hf
    · rw [if_neg hi] at hf
      obtain ⟨q, hq⟩ := zp_get (cT := cT) hw (a := a) (by omega)
      rw [zcell_arr hc (by omega)] at hq
      exact va_lald (D := D) hx hb hKk hP q 2 (f := zL u a) hq rfl hi hd (h r u' hf ls H locs hl hH hP hw hex hS)
  · rw [if_neg hc] at hf; cases hf
theorem jf_aald25 (hX : Cx X y cc nL ret d mc ms) {a : Nat} {i : Int32} (hd : decode cc pc = .ok (.aaload, 1)) (h : JF X ex nL cs ss Qf (pc + 1) lv (va_rf (zR u a i.toNatClampNeg) :: st) u fx) : JF X ex nL cs ss Qf pc lv (.int i :: .ref a :: st) u (if zK u a = 25 then (if i < 0 ∨ zN u a ≤ i.toNatClampNeg then none else fx) else none) := by
  obtain ⟨p, l, e, R, s, m, args, below, meth, c, D, cT, z0, ks⟩ := X
  obtain ⟨hx, hb, hml, hown, hts, hKk, hz0, hRf, hRl, hRc, hRs, hSF, hret, hlk, hnm⟩ := hX
  intro r u' hf ls H locs hl hH hP hw hex hS
  by_cases hc : zK u a = 25
  · rw [if_pos hc] at hf
    by_cases hi : i < 0 ∨ zN u a ≤ i.toNatClampNeg
    · rw [if_pos hi] at hf; cases hf
    · rw [if_neg hi] at hf
      obtain ⟨q, hq⟩ := zp_get (cT := cT) hw (a := a) (by omega)
      rw [zcell_arr hc (by omega)] at hq
      exact va_aldq (D := D) hx hb hKk hP q 4 (f := zR u a) hq rfl hi hd (h r u' hf ls H locs hl hH hP hw hex hS)
  · rw [if_neg hc] at hf; cases hf
theorem jf_aald26 (hX : Cx X y cc nL ret d mc ms) {a : Nat} {i : Int32} (hd : decode cc pc = .ok (.aaload, 1)) (h : JF X ex nL cs ss Qf (pc + 1) lv (va_rf (zR u a i.toNatClampNeg) :: st) u fx) : JF X ex nL cs ss Qf pc lv (.int i :: .ref a :: st) u (if zK u a = 26 then (if i < 0 ∨ zN u a ≤ i.toNatClampNeg then none else fx) else none) := by
  obtain ⟨p, l, e, R, s, m, args, below, meth, c, D, cT, z0, ks⟩ := X
  obtain ⟨hx, hb, hml, hown, hts, hKk, hz0, hRf, hRl, hRc, hRs, hSF, hret, hlk, hnm⟩ := hX
  intro r u' hf ls H locs hl hH hP hw hex hS
  by_cases hc : zK u a = 26
  · rw [if_pos hc] at hf
    by_cases hi : i < 0 ∨ zN u a ≤ i.toNatClampNeg
    · rw [if_pos hi] at hf; cases hf
    · rw [if_neg hi] at hf
      obtain ⟨q, hq⟩ := zp_get (cT := cT) hw (a := a) (by omega)
      rw [zcell_arr hc (by omega)] at hq
      exact va_aldq (D := D) hx hb hKk hP q 5 (f := zR u a) hq rfl hi hd (h r u' hf ls H locs hl hH hP hw hex hS)
  · rw [if_neg hc] at hf; cases hf
theorem jf_aald27 (hX : Cx X y cc nL ret d mc ms) {a : Nat} {i : Int32} (hd : decode cc pc = .ok (.aaload, 1)) (h : JF X ex nL cs ss Qf (pc + 1) lv (va_rf (zR u a i.toNatClampNeg) :: st) u fx) : JF X ex nL cs ss Qf pc lv (.int i :: .ref a :: st) u (if zK u a = 27 then (if i < 0 ∨ zN u a ≤ i.toNatClampNeg then none else fx) else none) := by
  obtain ⟨p, l, e, R, s, m, args, below, meth, c, D, cT, z0, ks⟩ := X
  obtain ⟨hx, hb, hml, hown, hts, hKk, hz0, hRf, hRl, hRc, hRs, hSF, hret, hlk, hnm⟩ := hX
  intro r u' hf ls H locs hl hH hP hw hex hS
  by_cases hc : zK u a = 27
  · rw [if_pos hc] at hf
    by_cases hi : i < 0 ∨ zN u a ≤ i.toNatClampNeg
    · rw [if_pos hi] at hf; cases hf
    · rw [if_neg hi] at hf
      obtain ⟨q, hq⟩ := zp_get (cT := cT) hw (a := a) (by omega)
      rw [zcell_arr hc (by omega)] at hq
      exact va_aldq (D := D) hx hb hKk hP q 6 (f := zR u a) hq rfl hi hd (h r u' hf ls H locs hl hH hP hw hex hS)
  · rw [if_neg hc] at hf; cases hf
theorem jf_ialdc (k : Nat) (hX : Cx X y cc nL ret d mc ms) {a : Nat} {i : Int32} (hi0 : ¬ i < 0) (hik : i.toNatClampNeg = k) (hd : decode cc pc = .ok (.iaload, 1)) (h : JF X ex nL cs ss Qf (pc + 1) lv (.int (zI u a k) :: st) u fx) : JF X ex nL cs ss Qf pc lv (.int i :: .ref a :: st) u (if zK u a = 22 then (if zN u a ≤ k then none else fx) else none) := by
  subst hik
  have h9 := jf_iald (ex := ex) (lv := lv) (st := st) (u := u) (fx := fx) (cs := cs) (ss := ss) (Qf := Qf) (a := a) hX hd h
  have e9 : (i < 0 ∨ zN u a ≤ i.toNatClampNeg) = (zN u a ≤ i.toNatClampNeg) := by simp [hi0]
  simp only [e9] at h9
  exact h9
theorem jf_baldc (k : Nat) (hX : Cx X y cc nL ret d mc ms) {a : Nat} {i : Int32} (hi0 : ¬ i < 0) (hik : i.toNatClampNeg = k) (hd : decode cc pc = .ok (.baload, 1)) (h : JF X ex nL cs ss Qf (pc + 1) lv (.int (zI u a k) :: st) u fx) : JF X ex nL cs ss Qf pc lv (.int i :: .ref a :: st) u (if zK u a = 21 then (if zN u a ≤ k then none else fx) else none) := by
  subst hik
  have h9 := jf_bald (ex := ex) (lv := lv) (st := st) (u := u) (fx := fx) (cs := cs) (ss := ss) (Qf := Qf) (a := a) hX hd h
  have e9 : (i < 0 ∨ zN u a ≤ i.toNatClampNeg) = (zN u a ≤ i.toNatClampNeg) := by simp [hi0]
  simp only [e9] at h9
  exact h9
theorem jf_laldc (k : Nat) (hX : Cx X y cc nL ret d mc ms) {a : Nat} {i : Int32} (hi0 : ¬ i < 0) (hik : i.toNatClampNeg = k) (hd : decode cc pc = .ok (.laload, 1)) (h : JF X ex nL cs ss Qf (pc + 1) lv (.long (zL u a k) :: st) u fx) : JF X ex nL cs ss Qf pc lv (.int i :: .ref a :: st) u (if zK u a = 23 then (if zN u a ≤ k then none else fx) else none) := by
  subst hik
  have h9 := jf_lald (ex := ex) (lv := lv) (st := st) (u := u) (fx := fx) (cs := cs) (ss := ss) (Qf := Qf) (a := a) hX hd h
  have e9 : (i < 0 ∨ zN u a ≤ i.toNatClampNeg) = (zN u a ≤ i.toNatClampNeg) := by simp [hi0]
  simp only [e9] at h9
  exact h9
theorem jf_alen (hX : Cx X y cc nL ret d mc ms) (kd : Nat) (t0 : Nat) {a : Nat} (hkd : 20 < kd) (ht : ∀ cT : Nat → ClassId, (tyl cT)[t0]? = some (cT kd, zty kd)) (hd : decode cc pc = .ok (.arraylength, 1)) (h : JF X ex nL cs ss Qf (pc + 1) lv (.int (nI (zN u a)) :: st) u fx) : JF X ex nL cs ss Qf pc lv (.ref a :: st) u (if zK u a = kd then fx else none) := by
  obtain ⟨p, l, e, R, s, m, args, below, meth, c, D, cT, z0, ks⟩ := X
  obtain ⟨hx, hb, hml, hown, hts, hKk, hz0, hRf, hRl, hRc, hRs, hSF, hret, hlk, hnm⟩ := hX
  intro r u' hf ls H locs hl hH hP hw hex hS
  by_cases hc : zK u a = kd
  · rw [if_pos hc] at hf
    obtain ⟨q, hq⟩ := zp_get (cT := cT) hw (a := a) (by omega)
    rw [zcell_arr hc hkd] at hq
    exact va_alen (D := D) hx hb hKk hP q t0 hq (ht cT) rfl hd (h r u' hf ls H locs hl hH hP hw hex hS)
  · rw [if_neg hc] at hf; cases hf
theorem jf_iast (hX : Cx X y cc nL ret d mc ms) (he : ex) {a : Nat} {i : Int32} {v : Int32} {kf : SG → Option (ρ × SG)} (hd : decode cc pc = .ok (.iastore, 1)) (h : ∀ u1, JF X ex nL cs ss Qf (pc + 1) lv st u1 (kf u1)) : JF X ex nL cs ss Qf pc lv (.int v :: .int i :: .ref a :: st) u (if zK u a = 22 then (if i < 0 ∨ zN u a ≤ i.toNatClampNeg then none else bs (sI u a i.toNatClampNeg v) kf) else none) := by
  obtain ⟨p, l, e, R, s, m, args, below, meth, c, D, cT, z0, ks⟩ := X
  obtain ⟨hx, hb, hml, hown, hts, hKk, hz0, hRf, hRl, hRc, hRs, hSF, hret, hlk, hnm⟩ := hX
  intro r u' hf ls H locs hl hH hP hw hex hS
  by_cases hc : zK u a = 22
  · rw [if_pos hc] at hf
    by_cases hi : i < 0 ∨ zN u a ≤ i.toNatClampNeg
    · rw [if_pos hi] at hf; cases hf
    · rw [if_neg hi] at hf
      obtain ⟨q, hq0⟩ := zp_get (cT := cT) hw (a := a) (by omega)
      have hq := hq0
      rw [zcell_arr hc (by omega)] at hq
      have hset : (zp cT z0 u).set q (a, .inl (cT 22, zN u a, .inl (upd (zI u a) i.toNatClampNeg v))) = zp cT z0 (sI u a i.toNatClampNeg v) := by
        refine zp_set hw (by omega) hq0 rfl (zcell_up ?_ (fun b hb => sIr_o b hb))
        rw [zcell_arr (kd := 22) (u := sI u a i.toNatClampNeg v) hc (by omega)]
        unfold zarr
        have h9 : zI (sI u a i.toNatClampNeg v) a = upd (zI u a) i.toNatClampNeg v := by
          funext j
          rw [sI_I, if_pos rfl]
          rfl
        rw [h9]
        rfl
      refine va_iast (D := D) hx hb hKk hP zp_D hS q 1 (f := zI u a) hq rfl hi hd (fun H1 locs1 hP1 _ hS1 => ?_)
      rw [hset] at hP1
      intro T9 hT9 X9
      exact h (sI u a i.toNatClampNeg v) r u' hf ls H1 locs1 hl (zsize X9 hT9 hP1 hS1 hz0 (hex he)) hP1 (zwf_of hw rfl (fun _ => rfl)) hex hS1 T9 hT9 X9
  · rw [if_neg hc] at hf; cases hf
theorem jf_bast (hX : Cx X y cc nL ret d mc ms) (he : ex) {a : Nat} {i : Int32} {v : Int32} {kf : SG → Option (ρ × SG)} (hd : decode cc pc = .ok (.bastore, 1)) (h : ∀ u1, JF X ex nL cs ss Qf (pc + 1) lv st u1 (kf u1)) : JF X ex nL cs ss Qf pc lv (.int v :: .int i :: .ref a :: st) u (if zK u a = 21 then (if i < 0 ∨ zN u a ≤ i.toNatClampNeg then none else bs (sI u a i.toNatClampNeg (vp_nar .byte v)) kf) else none) := by
  obtain ⟨p, l, e, R, s, m, args, below, meth, c, D, cT, z0, ks⟩ := X
  obtain ⟨hx, hb, hml, hown, hts, hKk, hz0, hRf, hRl, hRc, hRs, hSF, hret, hlk, hnm⟩ := hX
  intro r u' hf ls H locs hl hH hP hw hex hS
  by_cases hc : zK u a = 21
  · rw [if_pos hc] at hf
    by_cases hi : i < 0 ∨ zN u a ≤ i.toNatClampNeg
    · rw [if_pos hi] at hf; cases hf
    · rw [if_neg hi] at hf
      obtain ⟨q, hq0⟩ := zp_get (cT := cT) hw (a := a) (by omega)
      have hq := hq0
      rw [zcell_arr hc (by omega)] at hq
      have hset : (zp cT z0 u).set q (a, .inl (cT 21, zN u a, .inl (upd (zI u a) i.toNatClampNeg (vp_nar .byte v)))) = zp cT z0 (sI u a i.toNatClampNeg (vp_nar .byte v)) := by
        refine zp_set hw (by omega) hq0 rfl (zcell_up ?_ (fun b hb => sIr_o b hb))
        rw [zcell_arr (kd := 21) (u := sI u a i.toNatClampNeg (vp_nar .byte v)) hc (by omega)]
        unfold zarr
        have h9 : zI (sI u a i.toNatClampNeg (vp_nar .byte v)) a = upd (zI u a) i.toNatClampNeg (vp_nar .byte v) := by
          funext j
          rw [sI_I, if_pos rfl]
          rfl
        rw [h9]
        rfl
      refine va_bast (D := D) hx hb hKk hP zp_D hS q 0 (f := zI u a) hq rfl hi hd (fun H1 locs1 hP1 _ hS1 => ?_)
      rw [hset] at hP1
      intro T9 hT9 X9
      exact h (sI u a i.toNatClampNeg (vp_nar .byte v)) r u' hf ls H1 locs1 hl (zsize X9 hT9 hP1 hS1 hz0 (hex he)) hP1 (zwf_of hw rfl (fun _ => rfl)) hex hS1 T9 hT9 X9
  · rw [if_neg hc] at hf; cases hf
theorem jf_zast (hX : Cx X y cc nL ret d mc ms) (he : ex) {a : Nat} {i : Int32} {v : Int32} {kf : SG → Option (ρ × SG)} (hd : decode cc pc = .ok (.bastore, 1)) (h : ∀ u1, JF X ex nL cs ss Qf (pc + 1) lv st u1 (kf u1)) : JF X ex nL cs ss Qf pc lv (.int v :: .int i :: .ref a :: st) u (if zK u a = 24 then (if i < 0 ∨ zN u a ≤ i.toNatClampNeg then none else bs (sI u a i.toNatClampNeg (vp_nar .boolean v)) kf) else none) := by
  obtain ⟨p, l, e, R, s, m, args, below, meth, c, D, cT, z0, ks⟩ := X
  obtain ⟨hx, hb, hml, hown, hts, hKk, hz0, hRf, hRl, hRc, hRs, hSF, hret, hlk, hnm⟩ := hX
  intro r u' hf ls H locs hl hH hP hw hex hS
  by_cases hc : zK u a = 24
  · rw [if_pos hc] at hf
    by_cases hi : i < 0 ∨ zN u a ≤ i.toNatClampNeg
    · rw [if_pos hi] at hf; cases hf
    · rw [if_neg hi] at hf
      obtain ⟨q, hq0⟩ := zp_get (cT := cT) hw (a := a) (by omega)
      have hq := hq0
      rw [zcell_arr hc (by omega)] at hq
      have hset : (zp cT z0 u).set q (a, .inl (cT 24, zN u a, .inl (upd (zI u a) i.toNatClampNeg (vp_nar .boolean v)))) = zp cT z0 (sI u a i.toNatClampNeg (vp_nar .boolean v)) := by
        refine zp_set hw (by omega) hq0 rfl (zcell_up ?_ (fun b hb => sIr_o b hb))
        rw [zcell_arr (kd := 24) (u := sI u a i.toNatClampNeg (vp_nar .boolean v)) hc (by omega)]
        unfold zarr
        have h9 : zI (sI u a i.toNatClampNeg (vp_nar .boolean v)) a = upd (zI u a) i.toNatClampNeg (vp_nar .boolean v) := by
          funext j
          rw [sI_I, if_pos rfl]
          rfl
        rw [h9]
        rfl
      refine va_zast (D := D) hx hb hKk hP zp_D hS q 3 (f := zI u a) hq rfl hi hd (fun H1 locs1 hP1 _ hS1 => ?_)
      rw [hset] at hP1
      intro T9 hT9 X9
      exact h (sI u a i.toNatClampNeg (vp_nar .boolean v)) r u' hf ls H1 locs1 hl (zsize X9 hT9 hP1 hS1 hz0 (hex he)) hP1 (zwf_of hw rfl (fun _ => rfl)) hex hS1 T9 hT9 X9
  · rw [if_neg hc] at hf; cases hf
theorem jf_last (hX : Cx X y cc nL ret d mc ms) (he : ex) {a : Nat} {i : Int32} {v : Int64} {kf : SG → Option (ρ × SG)} (hd : decode cc pc = .ok (.lastore, 1)) (h : ∀ u1, JF X ex nL cs ss Qf (pc + 1) lv st u1 (kf u1)) : JF X ex nL cs ss Qf pc lv (.long v :: .int i :: .ref a :: st) u (if zK u a = 23 then (if i < 0 ∨ zN u a ≤ i.toNatClampNeg then none else bs (sL u a i.toNatClampNeg v) kf) else none) := by
  obtain ⟨p, l, e, R, s, m, args, below, meth, c, D, cT, z0, ks⟩ := X
  obtain ⟨hx, hb, hml, hown, hts, hKk, hz0, hRf, hRl, hRc, hRs, hSF, hret, hlk, hnm⟩ := hX
  intro r u' hf ls H locs hl hH hP hw hex hS
  by_cases hc : zK u a = 23
  · rw [if_pos hc] at hf
    by_cases hi : i < 0 ∨ zN u a ≤ i.toNatClampNeg
    · rw [if_pos hi] at hf; cases hf
    · rw [if_neg hi] at hf
      obtain ⟨q, hq0⟩ := zp_get (cT := cT) hw (a := a) (by omega)
      have hq := hq0
      rw [zcell_arr hc (by omega)] at hq
      have hset : (zp cT z0 u).set q (a, .inl (cT 23, zN u a, .inr (.inl (vp_updL (zL u a) i.toNatClampNeg v)))) = zp cT z0 (sL u a i.toNatClampNeg v) := by
        refine zp_set hw (by omega) hq0 rfl (zcell_up ?_ (fun b hb => sLr_o b hb))
        rw [zcell_arr (kd := 23) (u := sL u a i.toNatClampNeg v) hc (by omega)]
        unfold zarr
        have h9 : zL (sL u a i.toNatClampNeg v) a = vp_updL (zL u a) i.toNatClampNeg v := by
          funext j
          rw [sL_L, if_pos rfl]
          rfl
        rw [h9]
        rfl
      refine va_last (D := D) hx hb hKk hP zp_D hS q 2 (f := zL u a) hq rfl hi hd (fun H1 locs1 hP1 _ hS1 => ?_)
      rw [hset] at hP1
      intro T9 hT9 X9
      exact h (sL u a i.toNatClampNeg v) r u' hf ls H1 locs1 hl (zsize X9 hT9 hP1 hS1 hz0 (hex he)) hP1 (zwf_of hw rfl (fun _ => rfl)) hex hS1 T9 hT9 X9
  · rw [if_neg hc] at hf; cases hf
theorem jf_iastc (k : Nat) (hX : Cx X y cc nL ret d mc ms) (he : ex) {a : Nat} {i : Int32} {v : Int32} {kf : SG → Option (ρ × SG)} (hi0 : ¬ i < 0) (hik : i.toNatClampNeg = k) (hd : decode cc pc = .ok (.iastore, 1)) (h : ∀ u1, JF X ex nL cs ss Qf (pc + 1) lv st u1 (kf u1)) : JF X ex nL cs ss Qf pc lv (.int v :: .int i :: .ref a :: st) u (if zK u a = 22 then (if zN u a ≤ k then none else bs (sI u a k v) kf) else none) := by
  subst hik
  have h9 := jf_iast (ex := ex) (lv := lv) (st := st) (u := u) (cs := cs) (ss := ss) (Qf := Qf) (a := a) (i := i) (v := v) hX he hd h
  have e9 : (i < 0 ∨ zN u a ≤ i.toNatClampNeg) = (zN u a ≤ i.toNatClampNeg) := by simp [hi0]
  simp only [e9] at h9
  exact h9
theorem jf_lastc (k : Nat) (hX : Cx X y cc nL ret d mc ms) (he : ex) {a : Nat} {i : Int32} {v : Int64} {kf : SG → Option (ρ × SG)} (hi0 : ¬ i < 0) (hik : i.toNatClampNeg = k) (hd : decode cc pc = .ok (.lastore, 1)) (h : ∀ u1, JF X ex nL cs ss Qf (pc + 1) lv st u1 (kf u1)) : JF X ex nL cs ss Qf pc lv (.long v :: .int i :: .ref a :: st) u (if zK u a = 23 then (if zN u a ≤ k then none else bs (sL u a k v) kf) else none) := by
  subst hik
  have h9 := jf_last (ex := ex) (lv := lv) (st := st) (u := u) (cs := cs) (ss := ss) (Qf := Qf) (a := a) (i := i) (v := v) hX he hd h
  have e9 : (i < 0 ∨ zN u a ≤ i.toNatClampNeg) = (zN u a ≤ i.toNatClampNeg) := by simp [hi0]
  simp only [e9] at h9
  exact h9
theorem jf_aast25 (hX : Cx X y cc nL ret d mc ms) (he : ex) {C : String} {T : u_T} {N : Nat} {ty : Nat → FieldType} (hC : ClsOK 2 C T N ty) {a v : Nat} {i : Int32} {kf : SG → Option (ρ × SG)} (hd : decode cc pc = .ok (.aastore, 1)) (h : ∀ u1, JF X ex nL cs ss Qf (pc + 1) lv st u1 (kf u1)) : JF X ex nL cs ss Qf pc lv (.ref v :: .int i :: .ref a :: st) u (if zK u a = 25 then (if i < 0 ∨ zN u a ≤ i.toNatClampNeg then none else if zK u v = 3 then bs (sR u a i.toNatClampNeg (some v)) kf else none) else none) := by
  obtain ⟨p, l, e, R, s, m, args, below, meth, c, D, cT, z0, ks⟩ := X
  obtain ⟨hx, hb, hml, hown, hts, hKk, hz0, hRf, hRl, hRc, hRs, hSF, hret, hlk, hnm⟩ := hX
  intro r u' hf ls H locs hl hH hP hw hex hS
  by_cases hc : zK u a = 25
  · rw [if_pos hc] at hf
    by_cases hi : i < 0 ∨ zN u a ≤ i.toNatClampNeg
    · rw [if_pos hi] at hf; cases hf
    · rw [if_neg hi] at hf
      by_cases hv : zK u v = 3
      · rw [if_pos hv] at hf
        obtain ⟨c1, c2, c3, c4, c5, c6⟩ := hC
        have hCR : C = RX2 := by
          have := c1
          simp only [vwCl] at this
          cases this
          rfl
        obtain ⟨q, hq0⟩ := zp_get (cT := cT) hw (a := a) (by omega)
        obtain ⟨qv, hqv⟩ := zp_get (cT := cT) hw (a := v) (by omega)
        have hq := hq0
        rw [zcell_arr hc (by omega)] at hq
        rw [zcell_obj (ci := 2) hv (by omega)] at hqv
        have hset : (zp cT z0 u).set q (a, .inl (cT 25, zN u a, .inr (.inr (.inr (.inr (va_up (zR u a) i.toNatClampNeg (some v))))))) = zp cT z0 (sR u a i.toNatClampNeg (some v)) := by
          refine zp_set hw (by omega) hq0 rfl (zcell_up ?_ (fun b hb => sRr_o b hb))
          rw [zcell_arr (kd := 25) (u := sR u a i.toNatClampNeg (some v)) hc (by omega)]
          unfold zarr
          have h9 : zR (sR u a i.toNatClampNeg (some v)) a = va_up (zR u a) i.toNatClampNeg (some v) := by
            funext j
            rw [sR_R, if_pos rfl]
            rfl
          rw [h9]
          rfl
        refine va_astq (D := D) (r := (C, T, N)) hx hb hKk hP zp_D hS q 4 qv 2 (f := zR u a) hq (by rw [hCR]; rfl) hqv c1 hi hd (fun H1 locs1 hP1 _ hS1 => ?_)
        rw [hset] at hP1
        intro T9 hT9 X9
        exact h (sR u a i.toNatClampNeg (some v)) r u' hf ls H1 locs1 hl (zsize X9 hT9 hP1 hS1 hz0 (hex he)) hP1 (zwf_of hw rfl (fun _ => rfl)) hex hS1 T9 hT9 X9
      · rw [if_neg hv] at hf; cases hf
  · rw [if_neg hc] at hf; cases hf
theorem jf_aast26 (hX : Cx X y cc nL ret d mc ms) (he : ex) {C : String} {T : u_T} {N : Nat} {ty : Nat → FieldType} (hC : ClsOK 4 C T N ty) {a v : Nat} {i : Int32} {kf : SG → Option (ρ × SG)} (hd : decode cc pc = .ok (.aastore, 1)) (h : ∀ u1, JF X ex nL cs ss Qf (pc + 1) lv st u1 (kf u1)) : JF X ex nL cs ss Qf pc lv (.ref v :: .int i :: .ref a :: st) u (if zK u a = 26 then (if i < 0 ∨ zN u a ≤ i.toNatClampNeg then none else if zK u v = 5 then bs (sR u a i.toNatClampNeg (some v)) kf else none) else none) := by
  obtain ⟨p, l, e, R, s, m, args, below, meth, c, D, cT, z0, ks⟩ := X
  obtain ⟨hx, hb, hml, hown, hts, hKk, hz0, hRf, hRl, hRc, hRs, hSF, hret, hlk, hnm⟩ := hX
  intro r u' hf ls H locs hl hH hP hw hex hS
  by_cases hc : zK u a = 26
  · rw [if_pos hc] at hf
    by_cases hi : i < 0 ∨ zN u a ≤ i.toNatClampNeg
    · rw [if_pos hi] at hf; cases hf
    · rw [if_neg hi] at hf
      by_cases hv : zK u v = 5
      · rw [if_pos hv] at hf
        obtain ⟨c1, c2, c3, c4, c5, c6⟩ := hC
        have hCR : C = RX4 := by
          have := c1
          simp only [vwCl] at this
          cases this
          rfl
        obtain ⟨q, hq0⟩ := zp_get (cT := cT) hw (a := a) (by omega)
        obtain ⟨qv, hqv⟩ := zp_get (cT := cT) hw (a := v) (by omega)
        have hq := hq0
        rw [zcell_arr hc (by omega)] at hq
        rw [zcell_obj (ci := 4) hv (by omega)] at hqv
        have hset : (zp cT z0 u).set q (a, .inl (cT 26, zN u a, .inr (.inr (.inr (.inr (va_up (zR u a) i.toNatClampNeg (some v))))))) = zp cT z0 (sR u a i.toNatClampNeg (some v)) := by
          refine zp_set hw (by omega) hq0 rfl (zcell_up ?_ (fun b hb => sRr_o b hb))
          rw [zcell_arr (kd := 26) (u := sR u a i.toNatClampNeg (some v)) hc (by omega)]
          unfold zarr
          have h9 : zR (sR u a i.toNatClampNeg (some v)) a = va_up (zR u a) i.toNatClampNeg (some v) := by
            funext j
            rw [sR_R, if_pos rfl]
            rfl
          rw [h9]
          rfl
        refine va_astq (D := D) (r := (C, T, N)) hx hb hKk hP zp_D hS q 5 qv 4 (f := zR u a) hq (by rw [hCR]; rfl) hqv c1 hi hd (fun H1 locs1 hP1 _ hS1 => ?_)
        rw [hset] at hP1
        intro T9 hT9 X9
        exact h (sR u a i.toNatClampNeg (some v)) r u' hf ls H1 locs1 hl (zsize X9 hT9 hP1 hS1 hz0 (hex he)) hP1 (zwf_of hw rfl (fun _ => rfl)) hex hS1 T9 hT9 X9
      · rw [if_neg hv] at hf; cases hf
  · rw [if_neg hc] at hf; cases hf
theorem jf_aast27 (hX : Cx X y cc nL ret d mc ms) (he : ex) {C : String} {T : u_T} {N : Nat} {ty : Nat → FieldType} (hC : ClsOK 6 C T N ty) {a v : Nat} {i : Int32} {kf : SG → Option (ρ × SG)} (hd : decode cc pc = .ok (.aastore, 1)) (h : ∀ u1, JF X ex nL cs ss Qf (pc + 1) lv st u1 (kf u1)) : JF X ex nL cs ss Qf pc lv (.ref v :: .int i :: .ref a :: st) u (if zK u a = 27 then (if i < 0 ∨ zN u a ≤ i.toNatClampNeg then none else if zK u v = 7 then bs (sR u a i.toNatClampNeg (some v)) kf else none) else none) := by
  obtain ⟨p, l, e, R, s, m, args, below, meth, c, D, cT, z0, ks⟩ := X
  obtain ⟨hx, hb, hml, hown, hts, hKk, hz0, hRf, hRl, hRc, hRs, hSF, hret, hlk, hnm⟩ := hX
  intro r u' hf ls H locs hl hH hP hw hex hS
  by_cases hc : zK u a = 27
  · rw [if_pos hc] at hf
    by_cases hi : i < 0 ∨ zN u a ≤ i.toNatClampNeg
    · rw [if_pos hi] at hf; cases hf
    · rw [if_neg hi] at hf
      by_cases hv : zK u v = 7
      · rw [if_pos hv] at hf
        obtain ⟨c1, c2, c3, c4, c5, c6⟩ := hC
        have hCR : C = RX6 := by
          have := c1
          simp only [vwCl] at this
          cases this
          rfl
        obtain ⟨q, hq0⟩ := zp_get (cT := cT) hw (a := a) (by omega)
        obtain ⟨qv, hqv⟩ := zp_get (cT := cT) hw (a := v) (by omega)
        have hq := hq0
        rw [zcell_arr hc (by omega)] at hq
        rw [zcell_obj (ci := 6) hv (by omega)] at hqv
        have hset : (zp cT z0 u).set q (a, .inl (cT 27, zN u a, .inr (.inr (.inr (.inr (va_up (zR u a) i.toNatClampNeg (some v))))))) = zp cT z0 (sR u a i.toNatClampNeg (some v)) := by
          refine zp_set hw (by omega) hq0 rfl (zcell_up ?_ (fun b hb => sRr_o b hb))
          rw [zcell_arr (kd := 27) (u := sR u a i.toNatClampNeg (some v)) hc (by omega)]
          unfold zarr
          have h9 : zR (sR u a i.toNatClampNeg (some v)) a = va_up (zR u a) i.toNatClampNeg (some v) := by
            funext j
            rw [sR_R, if_pos rfl]
            rfl
          rw [h9]
          rfl
        refine va_astq (D := D) (r := (C, T, N)) hx hb hKk hP zp_D hS q 6 qv 6 (f := zR u a) hq (by rw [hCR]; rfl) hqv c1 hi hd (fun H1 locs1 hP1 _ hS1 => ?_)
        rw [hset] at hP1
        intro T9 hT9 X9
        exact h (sR u a i.toNatClampNeg (some v)) r u' hf ls H1 locs1 hl (zsize X9 hT9 hP1 hS1 hz0 (hex he)) hP1 (zwf_of hw rfl (fun _ => rfl)) hex hS1 T9 hT9 X9
      · rw [if_neg hv] at hf; cases hf
  · rw [if_neg hc] at hf; cases hf
theorem jcpw {d0 r0 q0 : Nat} (h : 60 * d0 ≤ r0) (h1 : 1 ≤ d0) (h2 : q0 ≤ 8) : q0 + (nativeFrameWords "java/lang/System" "arraycopy" 5 + 11) ≤ r0 := by
  have h8 : nativeFrameWords "java/lang/System" "arraycopy" 5 + 11 + 8 ≤ 60 := by decide +kernel
  omega
theorem jf_cpyi (hX : Cx X y cc nL ret d mc ms) (he : ex) {idx a b : Nat} {sp dp n : Int32} {kf : SG → Option (ρ × SG)} (hlk0 : Cond.methodLink y.cls idx arraycopyName ∈ tb) (hna : Cond.native arraycopyName ∈ tb) (hsta : Cond.static arraycopyName ∈ tb) (hin0 : Cond.initialized "java/lang/System" ∈ tb) (hd1 : 1 ≤ d) (hst : (st.map fun v => v.category).sum ≤ 8) (hd : decode cc pc = .ok (.invokestatic idx, 3)) (h : ∀ u1, JF X ex nL cs ss Qf (pc + 3) lv st u1 (kf u1)) : JF X ex nL cs ss Qf pc lv (.int n :: .int dp :: .ref a :: .int sp :: .ref b :: st) u (if zK u b = 22 then (if zK u a = 22 then (if sp < 0 ∨ dp < 0 ∨ n < 0 ∨ zN u b < sp.toNatClampNeg + n.toNatClampNeg ∨ zN u a < dp.toNatClampNeg + n.toNatClampNeg then none else bs (sIr u a (va_cpy (zI u b) (zI u a) sp.toNatClampNeg dp.toNatClampNeg n.toNatClampNeg)) kf) else none) else none) := by
  obtain ⟨p, l, e, R, s, m, args, below, meth, c, D, cT, z0, ks⟩ := X
  obtain ⟨hx, hb, hml, hown, hts, hKk, hz0, hRf, hRl, hRc, hRs, hSF, hret, hlk, hnm⟩ := hX
  intro r u' hf ls H locs hl hH hP hw hex hS
  by_cases hcb : zK u b = 22
  · rw [if_pos hcb] at hf
    by_cases hc : zK u a = 22
    · rw [if_pos hc] at hf
      by_cases hi : sp < 0 ∨ dp < 0 ∨ n < 0 ∨ zN u b < sp.toNatClampNeg + n.toNatClampNeg ∨ zN u a < dp.toNatClampNeg + n.toNatClampNeg
      · rw [if_pos hi] at hf; cases hf
      · rw [if_neg hi] at hf
        obtain ⟨q, hq0⟩ := zp_get (cT := cT) hw (a := a) (by omega)
        obtain ⟨qb, hqb⟩ := zp_get (cT := cT) hw (a := b) (by omega)
        have hq := hq0
        rw [zcell_arr hc (by omega)] at hq
        rw [zcell_arr hcb (by omega)] at hqb
        have i1 : ¬ sp < 0 := fun z => hi (Or.inl z)
        have i2 : ¬ dp < 0 := fun z => hi (Or.inr (Or.inl z))
        have i3 : ¬ n < 0 := fun z => hi (Or.inr (Or.inr (Or.inl z)))
        have i4 : ¬ zN u b < sp.toNatClampNeg + n.toNatClampNeg := fun z => hi (Or.inr (Or.inr (Or.inr (Or.inl z))))
        have i5 : ¬ zN u a < dp.toNatClampNeg + n.toNatClampNeg := fun z => hi (Or.inr (Or.inr (Or.inr (Or.inr z))))
        have hset : (zp cT z0 u).set q (a, .inl (cT 22, zN u a, .inl (va_cpy (zI u b) (zI u a) sp.toNatClampNeg dp.toNatClampNeg n.toNatClampNeg))) = zp cT z0 (sIr u a (va_cpy (zI u b) (zI u a) sp.toNatClampNeg dp.toNatClampNeg n.toNatClampNeg)) := by
          refine zp_set hw (by omega) hq0 rfl (zcell_up ?_ (fun b hb => sIr_o b hb))
          rw [zcell_arr (kd := 22) (u := sIr u a (va_cpy (zI u b) (zI u a) sp.toNatClampNeg dp.toNatClampNeg n.toNatClampNeg)) hc (by omega)]
          unfold zarr
          have h9 : zI (sIr u a (va_cpy (zI u b) (zI u a) sp.toNatClampNeg dp.toNatClampNeg n.toNatClampNeg)) a = va_cpy (zI u b) (zI u a) sp.toNatClampNeg dp.toNatClampNeg n.toNatClampNeg := by
            funext j
            rw [sIr_I, if_pos rfl]
          rw [h9]
          rfl
        refine va_copyi (D := D) (ty := zty 22) hx hb (by rw [hml, hl.1]) hown (hts _ hlk0) (hts _ hna) (hts _ hsta) (hts _ hin0) hKk hP zp_D hS qb q 1 1 (f := zI u b) (g := zI u a) hqb hq rfl rfl rfl i1 i2 i3 (by omega) (by omega) (fun _ _ => rfl) (by omega) (jcpw hRl hd1 hst) hd (fun H1 locs1 hP1 _ hS1 => ?_)
        rw [hset] at hP1
        intro T9 hT9 X9
        exact h (sIr u a (va_cpy (zI u b) (zI u a) sp.toNatClampNeg dp.toNatClampNeg n.toNatClampNeg)) r u' hf ls H1 locs1 hl (zsize X9 hT9 hP1 hS1 hz0 (hex he)) hP1 (zwf_of hw rfl (fun _ => rfl)) hex hS1 T9 hT9 X9
    · rw [if_neg hc] at hf; cases hf
  · rw [if_neg hcb] at hf; cases hf
theorem jf_cpyl (hX : Cx X y cc nL ret d mc ms) (he : ex) {idx a b : Nat} {sp dp n : Int32} {kf : SG → Option (ρ × SG)} (hlk0 : Cond.methodLink y.cls idx arraycopyName ∈ tb) (hna : Cond.native arraycopyName ∈ tb) (hsta : Cond.static arraycopyName ∈ tb) (hin0 : Cond.initialized "java/lang/System" ∈ tb) (hd1 : 1 ≤ d) (hst : (st.map fun v => v.category).sum ≤ 8) (hd : decode cc pc = .ok (.invokestatic idx, 3)) (h : ∀ u1, JF X ex nL cs ss Qf (pc + 3) lv st u1 (kf u1)) : JF X ex nL cs ss Qf pc lv (.int n :: .int dp :: .ref a :: .int sp :: .ref b :: st) u (if zK u b = 23 then (if zK u a = 23 then (if sp < 0 ∨ dp < 0 ∨ n < 0 ∨ zN u b < sp.toNatClampNeg + n.toNatClampNeg ∨ zN u a < dp.toNatClampNeg + n.toNatClampNeg then none else bs (sLr u a (va_cpy (zL u b) (zL u a) sp.toNatClampNeg dp.toNatClampNeg n.toNatClampNeg)) kf) else none) else none) := by
  obtain ⟨p, l, e, R, s, m, args, below, meth, c, D, cT, z0, ks⟩ := X
  obtain ⟨hx, hb, hml, hown, hts, hKk, hz0, hRf, hRl, hRc, hRs, hSF, hret, hlk, hnm⟩ := hX
  intro r u' hf ls H locs hl hH hP hw hex hS
  by_cases hcb : zK u b = 23
  · rw [if_pos hcb] at hf
    by_cases hc : zK u a = 23
    · rw [if_pos hc] at hf
      by_cases hi : sp < 0 ∨ dp < 0 ∨ n < 0 ∨ zN u b < sp.toNatClampNeg + n.toNatClampNeg ∨ zN u a < dp.toNatClampNeg + n.toNatClampNeg
      · rw [if_pos hi] at hf; cases hf
      · rw [if_neg hi] at hf
        obtain ⟨q, hq0⟩ := zp_get (cT := cT) hw (a := a) (by omega)
        obtain ⟨qb, hqb⟩ := zp_get (cT := cT) hw (a := b) (by omega)
        have hq := hq0
        rw [zcell_arr hc (by omega)] at hq
        rw [zcell_arr hcb (by omega)] at hqb
        have i1 : ¬ sp < 0 := fun z => hi (Or.inl z)
        have i2 : ¬ dp < 0 := fun z => hi (Or.inr (Or.inl z))
        have i3 : ¬ n < 0 := fun z => hi (Or.inr (Or.inr (Or.inl z)))
        have i4 : ¬ zN u b < sp.toNatClampNeg + n.toNatClampNeg := fun z => hi (Or.inr (Or.inr (Or.inr (Or.inl z))))
        have i5 : ¬ zN u a < dp.toNatClampNeg + n.toNatClampNeg := fun z => hi (Or.inr (Or.inr (Or.inr (Or.inr z))))
        have hset : (zp cT z0 u).set q (a, .inl (cT 23, zN u a, .inr (.inl (va_cpy (zL u b) (zL u a) sp.toNatClampNeg dp.toNatClampNeg n.toNatClampNeg)))) = zp cT z0 (sLr u a (va_cpy (zL u b) (zL u a) sp.toNatClampNeg dp.toNatClampNeg n.toNatClampNeg)) := by
          refine zp_set hw (by omega) hq0 rfl (zcell_up ?_ (fun b hb => sLr_o b hb))
          rw [zcell_arr (kd := 23) (u := sLr u a (va_cpy (zL u b) (zL u a) sp.toNatClampNeg dp.toNatClampNeg n.toNatClampNeg)) hc (by omega)]
          unfold zarr
          have h9 : zL (sLr u a (va_cpy (zL u b) (zL u a) sp.toNatClampNeg dp.toNatClampNeg n.toNatClampNeg)) a = va_cpy (zL u b) (zL u a) sp.toNatClampNeg dp.toNatClampNeg n.toNatClampNeg := by
            funext j
            rw [sLr_L, if_pos rfl]
          rw [h9]
          rfl
        refine va_copyl (D := D) (ty := zty 23) hx hb (by rw [hml, hl.1]) hown (hts _ hlk0) (hts _ hna) (hts _ hsta) (hts _ hin0) hKk hP zp_D hS qb q 2 2 (f := zL u b) (g := zL u a) hqb hq rfl rfl rfl i1 i2 i3 (by omega) (by omega) (fun _ _ => rfl) (by omega) (jcpw hRl hd1 hst) hd (fun H1 locs1 hP1 _ hS1 => ?_)
        rw [hset] at hP1
        intro T9 hT9 X9
        exact h (sLr u a (va_cpy (zL u b) (zL u a) sp.toNatClampNeg dp.toNatClampNeg n.toNatClampNeg)) r u' hf ls H1 locs1 hl (zsize X9 hT9 hP1 hS1 hz0 (hex he)) hP1 (zwf_of hw rfl (fun _ => rfl)) hex hS1 T9 hT9 X9
    · rw [if_neg hc] at hf; cases hf
  · rw [if_neg hcb] at hf; cases hf
theorem jf_widen {cs' ss' : Nat} (h1 : cs ≤ cs') (h2 : ss ≤ ss') (hX : X.2.2.2.2.1.heap.size + cs' ≤ u.1 ∨ ¬ ex) (h : JF X ex nL cs' ss' Qf pc lv st u fx) : JF X ex nL cs ss Qf pc lv st u fx := by
  obtain ⟨p, l, e, R, s, m, args, below, meth, c, D, cT, z0, ks⟩ := X
  intro r u' hf ls H locs hl hH hP hw hex hS
  refine W.widen h1 h2 (h r u' hf ls H locs hl hH hP hw (fun z => ?_) hS)
  rcases hX with q | q
  · exact q
  · exact absurd z q
theorem jf_iret (hX : Cx X y cc nL ret d mc ms) (hr0 : ret = some .int) {v : Int32} (hcs : cs ≤ mc) (hss : ss ≤ ms) (hd : decode cc pc = .ok (.ireturn, 1)) : JF X ex nL cs ss (jQ X vI mc ms) pc lv [.int v] u (some (v, u)) := by
  obtain ⟨p, l, e, R, s, m, args, below, meth, c, D, cT, z0, ks⟩ := X
  obtain ⟨hx, hb, hml, hown, hts, hKk, hz0, hRf, hRl, hRc, hRs, hSF, hret, hlk, hnm⟩ := hX
  intro r u' hf ls H locs hl hH hP hw hex hS
  cases hf
  refine W.widen hcs hss ?_
  exact W.iret (hlocks := hlk) hx hb (hret.trans hr0) (fun t ht _ => ⟨⟨rfl, by rw [ht]; exact hH, by rw [ht]; exact hP, hw⟩, hS.F ht⟩) hS.2.2 hd
theorem jf_zret (hX : Cx X y cc nL ret d mc ms) (hr0 : ret = some .boolean) {v : Int32} (hcs : cs ≤ mc) (hss : ss ≤ ms) (hd : decode cc pc = .ok (.ireturn, 1)) : JF X ex nL cs ss (jQ X vI mc ms) pc lv [.int v] u (if v = 0 ∨ v = 1 then some (v, u) else none) := by
  obtain ⟨p, l, e, R, s, m, args, below, meth, c, D, cT, z0, ks⟩ := X
  obtain ⟨hx, hb, hml, hown, hts, hKk, hz0, hRf, hRl, hRc, hRs, hSF, hret, hlk, hnm⟩ := hX
  intro r u' hf ls H locs hl hH hP hw hex hS
  by_cases hg : v = 0 ∨ v = 1
  · rw [if_pos hg] at hf
    cases hf
    refine W.widen hcs hss ?_
    exact W.zret (hlocks := hlk) hx hb (hret.trans hr0) (by rcases hg with rfl | rfl <;> rfl) (fun t ht _ => ⟨⟨rfl, by rw [ht]; exact hH, by rw [ht]; exact hP, hw⟩, hS.F ht⟩) hS.2.2 hd
  · rw [if_neg hg] at hf; cases hf
theorem jf_zretc (hX : Cx X y cc nL ret d mc ms) (hr0 : ret = some .boolean) {v : Int32} (hv : v = 0 ∨ v = 1) (hcs : cs ≤ mc) (hss : ss ≤ ms) (hd : decode cc pc = .ok (.ireturn, 1)) : JF X ex nL cs ss (jQ X vI mc ms) pc lv [.int v] u (some (v, u)) := by
  have h := jf_zret (ex := ex) (lv := lv) (pc := pc) (u := u) (v := v) hX hr0 hcs hss hd
  rw [if_pos hv] at h
  exact h
theorem jf_lret (hX : Cx X y cc nL ret d mc ms) (hr0 : ret = some .long) {v : Int64} (hcs : cs ≤ mc) (hss : ss ≤ ms) (hd : decode cc pc = .ok (.lreturn, 1)) : JF X ex nL cs ss (jQ X vL mc ms) pc lv [.long v] u (some (v, u)) := by
  obtain ⟨p, l, e, R, s, m, args, below, meth, c, D, cT, z0, ks⟩ := X
  obtain ⟨hx, hb, hml, hown, hts, hKk, hz0, hRf, hRl, hRc, hRs, hSF, hret, hlk, hnm⟩ := hX
  intro r u' hf ls H locs hl hH hP hw hex hS
  cases hf
  refine W.widen hcs hss ?_
  exact W.lret (hlocks := hlk) hx hb (hret.trans hr0) (fun t ht _ => ⟨⟨rfl, by rw [ht]; exact hH, by rw [ht]; exact hP, hw⟩, hS.F ht⟩) hS.2.2 hd
theorem jf_vret (hX : Cx X y cc nL ret d mc ms) (hr0 : ret = none) (hcs : cs ≤ mc) (hss : ss ≤ ms) (hd : decode cc pc = .ok (.return_, 1)) : JF X ex nL cs ss (jQ X vU mc ms) pc lv [] u (some ((), u)) := by
  obtain ⟨p, l, e, R, s, m, args, below, meth, c, D, cT, z0, ks⟩ := X
  obtain ⟨hx, hb, hml, hown, hts, hKk, hz0, hRf, hRl, hRc, hRs, hSF, hret, hlk, hnm⟩ := hX
  intro r u' hf ls H locs hl hH hP hw hex hS
  cases hf
  refine W.widen hcs hss ?_
  exact W.vret (hlocks := hlk) hx hb (hret.trans hr0) (fun t ht _ => ⟨⟨rfl, by rw [ht]; exact hH, by rw [ht]; exact hP, hw⟩, hS.F ht⟩) hS.2.2 hd
theorem jf_aret (hX : Cx X y cc nL ret d mc ms) {n9 : String} (hr0 : ret = some (.object n9)) {v : Option Nat} (hcs : cs ≤ mc) (hss : ss ≤ ms) (hd : decode cc pc = .ok (.areturn, 1)) : JF X ex nL cs ss (jQ X vR mc ms) pc lv [va_rf v] u (some (v, u)) := by
  obtain ⟨p, l, e, R, s, m, args, below, meth, c, D, cT, z0, ks⟩ := X
  obtain ⟨hx, hb, hml, hown, hts, hKk, hz0, hRf, hRl, hRc, hRs, hSF, hret, hlk, hnm⟩ := hX
  intro r u' hf ls H locs hl hH hP hw hex hS
  cases hf
  refine W.widen hcs hss ?_
  exact W.aret (hlocks := hlk) hx hb (hret.trans hr0) (Or.inl ⟨n9, rfl⟩) (va_rf_or v) (fun t ht _ => ⟨⟨rfl, by rw [ht]; exact hH, by rw [ht]; exact hP, hw⟩, hS.F ht⟩) hS.2.2 hd
theorem jf_objInit (hX : Cx X y cc nL ret d mc ms) {idx a : Nat} (h1 : Cond.methodLink y.cls idx objectInit ∈ tb) (h2 : Cond.instanceMethod objectInit ∈ tb) (h3 : Cond.code objectInit ⟨#[0xb1]⟩ 1 none ∈ tb) (hd1 : 1 ≤ d) (hst : (st.map fun v => v.category).sum ≤ 8) (hd : decode cc pc = .ok (.invokespecial idx, 3)) (h : JF X ex nL cs ss Qf (pc + 3) lv st u fx) : JF X ex nL cs ss Qf pc lv (.ref a :: st) u fx := by
  obtain ⟨p, l, e, R, s, m, args, below, meth, c, D, cT, z0, ks⟩ := X
  obtain ⟨hx, hb, hml, hown, hts, hKk, hz0, hRf, hRl, hRc, hRs, hSF, hret, hlk, hnm⟩ := hX
  intro r u' hf ls H locs hl hH hP hw hex hS
  refine W.objInit hx hb hown (hts _ h1) (hts _ h2) (hts _ h3) rfl (by rw [hml]; exact hl.1) rfl hd (by omega) (by show 2 * 0 + _ + 12 ≤ _; omega) ?_
  exact h r u' hf ls H locs hl hH hP hw hex hS
theorem jcont {p : Program} {l : Launch} {e : Env} {R : Room} {s : State} {m : MethodId} {args : Array Value} {below : List Frame} {meth : Method} {c : Code} {D : va_G} {cT : Nat → ClassId} {z0 : Nat} {ks : Nat × Nat} {H : Heap} {locs : List Loc} {mc' ms' : Nat} {Q : State → Prop} {ls : Array Slot} {st0 : List Value} {a : Array Value} {v : Option Value} {u1 : SG}
    (hr : va_Run p l e R s m args below meth c H locs cs ss mc' ms' (F0 m pc ls st0) st (jQc D cT z0 v u1 a) (fun q => z0 ≤ q)) (hS : va_S (fun q => z0 ≤ q) s.heap H locs) (hH : H.size = u.1) (hl : lv_has ls nL lv) (hex : ex → s.heap.size + cs ≤ u.1) (hmc : ex → u.1 + mc' ≤ u1.1)
    (kk : J (p, l, e, R, s, m, args, below, meth, c, D, cT, z0, ks) ex nL (cs + mc') (ss + ms') Q (pc + 3) lv (v.toList ++ st) u1) : W p l e R s m args below meth c H locs cs ss Q (F0 m pc ls st0) := by
  intro T hT X
  obtain ⟨v2, st₀, t, T', L, h0, X', hL, e1, e2, ⟨⟨q1, q2, q3, q4⟩, hz, hk⟩, sp⟩ := hr T hT X
  cases q1
  rw [h0] at hz hk
  obtain ⟨t2, a1, b1⟩ := kk ls T'.heap (locs ++ L) hl (by rw [e1]; exact q2) (by rw [e1]; exact q3) q4 (fun z => by have := hex z; have := hmc z; omega)
    ⟨Nat.le_trans hS.1 (by rw [e1]; exact hz), fun q h1 h2 => by rw [e1, hk q (Nat.lt_of_lt_of_le h1 hS.1) h2]; exact hS.2.1 q h1 h2, fun q hq => by
      rcases List.mem_append.mp hq with h | h
      · exact hS.2.2 q h
      · exact hL q h⟩ T' rfl X'
  exact ⟨t2, sp t2 a1, b1⟩
/-- a method that can be called: its words are in the tables -/
def MO (y' : MethodName) (cc' : ByteArray) (nL' : Nat) (ret' : Option FieldType) (n : Nat) : Prop := Cond.code y' cc' nL' ret' ∈ tb ∧ Cond.initialized y'.cls ∈ tb ∧ (y'.cls ≠ "java/lang/invoke/MethodHandle" ∧ y'.cls ≠ "java/lang/invoke/VarHandle" ∧ (parseMethodDescriptor y'.desc).map (fun d => d.parameters.length) = some n)
theorem MO.gi {y' : MethodName} {cc' : ByteArray} {nL' n : Nat} {ret' : Option FieldType} (h : MO y' cc' nL' ret' n) : GoodIn tb (.code y' cc' nL' ret' :: tb) := tb_gi (fun w hw => (List.mem_cons.mp hw).elim (fun z => z ▸ h.1) (fun z => z))
variable {ρ' : Type} {toV : ρ' → Option Value} {y' : MethodName} {cc' : ByteArray} {nL' : Nat} {ret' : Option FieldType} {d' mc' ms' : Nat} {n idx : Nat} {As : List Value} {g : Option (ρ' × SG)} {kf : ρ' → SG → Option (ρ × SG)}
theorem jcont' {p : Program} {l : Launch} {e : Env} {R : Room} {s : State} {m : MethodId} {args : Array Value} {below : List Frame} {meth : Method} {c : Code} {D : va_G} {cT : Nat → ClassId} {z0 : Nat} {ks : Nat × Nat} {H : Heap} {locs : List Loc} {ms' : Nat} {Q : State → Prop} {ls : Array Slot} {st0 : List Value} {a : Array Value} {v : Option Value} {u1 : SG}
    (hr : va_Run p l e R s m args below meth c H locs cs ss 0 ms' (F0 m pc ls st0) st (jQc D cT z0 v u1 a) (fun q => z0 ≤ q)) (hS : va_S (fun q => z0 ≤ q) s.heap H locs) (hH : H.size = u.1) (hl : lv_has ls nL lv) (hex : ex → s.heap.size + cs ≤ u.1)
    (kk : J (p, l, e, R, s, m, args, below, meth, c, D, cT, z0, ks) ex nL (cs + 0) (ss + ms') Q (pc + 3) lv (v.toList ++ st) u1) : W p l e R s m args below meth c H locs cs ss Q (F0 m pc ls st0) := by
  by_cases hle : u.1 ≤ u1.1
  · exact jcont (ks := ks) hr hS hH hl hex (fun _ => hle) kk
  · intro T hT X
    obtain ⟨v2, st₀, t, T', L, h0, X', hL, e1, e2, ⟨⟨q1, q2, q3, q4⟩, hz, hk⟩, sp⟩ := hr T hT X
    rw [h0] at hz
    omega
theorem jf_callV (hX : Cx X y cc nL ret d mc ms) {a : Nat} (hM : MO y' cc' nL' ret' n) (hlk0 : Cond.methodLink y.cls idx y' ∈ tb) (hins : Cond.instanceMethod y' ∈ tb) (hsel : Cond.selects y'.cls y' y' ∈ tb) (ci : Nat) {T : u_T} {N : Nat} {ty : Nat → FieldType} (hCl : ClsOK ci y'.cls T N ty) (hn : As.length = n) (hC : ∀ l D cT z0 ks, Ct l D cT z0 ks y' cc' nL' ret' d' mc' ms' toV (.ref a :: As) u g) (hd1 : d' + 1 ≤ d) (hd2 : 19 + nL' + 60 * d' ≤ 60 * d) (hcs : cs + mc' ≤ mc) (hss : ss + ms' ≤ ms) (hst : (st.map fun v => v.category).sum ≤ 8) (hmc0 : mc' = 0) {st0 : List Value} (hst0 : st0 = As.reverse ++ .ref a :: st) (hd : decode cc pc = .ok (.invokevirtual idx, 3)) (h : ∀ r1 u1, JF X ex nL (cs + mc') (ss + ms') Qf (pc + 3) lv ((toV r1).toList ++ st) u1 (kf r1 u1)) : JF X ex nL cs ss Qf pc lv st0 u (if zK u a = ci + 1 then (cl g kf) else none) := by
  obtain ⟨p, l, e, R, s, m, args, below, meth, c, D, cT, z0, ks⟩ := X
  obtain ⟨hx, hb, hml, hown, hts, hKk, hz0, hRf, hRl, hRc, hRs, hSF, hret, hlk, hnm⟩ := hX
  intro r u' hf ls H locs hl hH hP hw hex hS
  subst hst0
  by_cases hc : zK u a = ci + 1
  · rw [if_pos hc] at hf
    cases hg : g with
    | none => rw [hg] at hf; exact absurd (show (none : Option (ρ × SG)) = some (r, u') from hf) (by simp)
    | some o =>
      obtain ⟨r1, u1⟩ := o
      rw [hg] at hf
      have hf : kf r1 u1 = some (r, u') := hf
      obtain ⟨c1, c2, c3, c4, c5, c6⟩ := hCl
      obtain ⟨qa, hqa⟩ := zp_get (cT := cT) hw (a := a) (by omega)
      rw [zcell_obj hc c3] at hqa
      subst hmc0
      have hrun := va_runV (p := p) (e := e) (R := R) (below := below) (meth := meth) (locs := locs) (cells := cs) (slots := ss) (As := As) (rest := st) (g := F0 m pc ls (As.reverse ++ .ref a :: st)) ⟨hx, hb, hml, hown, hts⟩ (hC l D cT z0 ks r1 u1 hg) ⟨callB_of (ws' := tb) n hts hM.gi rfl rfl rfl (hts _ hM.2.1) (hts _ hlk0) hM.2.2 ⟨by show d' + 1 ≤ _; omega, by show 8 + (nL' + 11) + 60 * d' ≤ _; omega⟩, hts _ hins, hts _ hsel⟩ ⟨jblind, va_recv hKk hP c1 hqa, fun U hU hW => ⟨rfl, by rw [hU]; exact hH, by rw [hU]; exact hP, va_K.moved hW.alike hKk, hw, jSF_to hSF hS hU hW⟩⟩ rfl hn hl.1 rfl (lv_room hst) hd ⟨by omega, by omega⟩
      refine jcont' hrun hS hH hl hex (h r1 u1 r u' hf)
  · rw [if_neg hc] at hf; cases hf
theorem jf_callS (hX : Cx X y cc nL ret d mc ms) (hM : MO y' cc' nL' ret' n) (hlk0 : Cond.methodLink y.cls idx y' ∈ tb) (hsta : Cond.static y' ∈ tb) (hn : As.length = n) (hC : ∀ l D cT z0 ks, Ct l D cT z0 ks y' cc' nL' ret' d' mc' ms' toV As u g) (hd1 : d' + 1 ≤ d) (hd2 : 19 + nL' + 60 * d' ≤ 60 * d) (hcs : cs + mc' ≤ mc) (hss : ss + ms' ≤ ms) (hst : (st.map fun v => v.category).sum ≤ 8) (hmc0 : mc' = 0) {st0 : List Value} (hst0 : st0 = As.reverse ++ st) (hd : decode cc pc = .ok (.invokestatic idx, 3)) (h : ∀ r1 u1, JF X ex nL (cs + mc') (ss + ms') Qf (pc + 3) lv ((toV r1).toList ++ st) u1 (kf r1 u1)) : JF X ex nL cs ss Qf pc lv st0 u (cl g kf) := by
  obtain ⟨p, l, e, R, s, m, args, below, meth, c, D, cT, z0, ks⟩ := X
  obtain ⟨hx, hb, hml, hown, hts, hKk, hz0, hRf, hRl, hRc, hRs, hSF, hret, hlk, hnm⟩ := hX
  intro r u' hf ls H locs hl hH hP hw hex hS
  subst hst0
  cases hg : g with
  | none => rw [hg] at hf; exact absurd (show (none : Option (ρ × SG)) = some (r, u') from hf) (by simp)
  | some o =>
    obtain ⟨r1, u1⟩ := o
    rw [hg] at hf
    have hf : kf r1 u1 = some (r, u') := hf
    subst hmc0
    have hrun := va_runS (p := p) (e := e) (R := R) (below := below) (meth := meth) (locs := locs) (cells := cs) (slots := ss) (As := As) (rest := st) (g := F0 m pc ls (As.reverse ++ st)) ⟨hx, hb, hml, hown, hts⟩ (hC l D cT z0 ks r1 u1 hg) ⟨callB_of (ws' := tb) n hts hM.gi rfl rfl rfl (hts _ hM.2.1) (hts _ hlk0) hM.2.2 ⟨by show d' + 1 ≤ _; omega, by show 8 + (nL' + 11) + 60 * d' ≤ _; omega⟩, hts _ hsta⟩ ⟨jblind, fun U hU hW => ⟨rfl, by rw [hU]; exact hH, by rw [hU]; exact hP, va_K.moved hW.alike hKk, hw, jSF_to hSF hS hU hW⟩⟩ rfl hn hl.1 rfl (lv_room hst) hd ⟨by omega, by omega⟩
    refine jcont' hrun hS hH hl hex (h r1 u1 r u' hf)
theorem jf_callSN (hX : Cx X y cc nL ret d mc ms) (hM : MO y' cc' nL' ret' n) {host : String} (hlk0 : Cond.methodLinkNest y.cls idx y' host ∈ lw_tbl) (hsta : Cond.static y' ∈ tb) (hn : As.length = n) (hC : ∀ l D cT z0 ks, Ct l D cT z0 ks y' cc' nL' ret' d' mc' ms' toV As u g) (hd1 : d' + 1 ≤ d) (hd2 : 19 + nL' + 60 * d' ≤ 60 * d) (hcs : cs + mc' ≤ mc) (hss : ss + ms' ≤ ms) (hst : (st.map fun v => v.category).sum ≤ 8) (hmc0 : mc' = 0) {st0 : List Value} (hst0 : st0 = As.reverse ++ st) (hd : decode cc pc = .ok (.invokestatic idx, 3)) (h : ∀ r1 u1, JF X ex nL (cs + mc') (ss + ms') Qf (pc + 3) lv ((toV r1).toList ++ st) u1 (kf r1 u1)) : JF X ex nL cs ss Qf pc lv st0 u (cl g kf) := by
  obtain ⟨p, l, e, R, s, m, args, below, meth, c, D, cT, z0, ks⟩ := X
  obtain ⟨hx, hb, hml, hown, hts, hKk, hz0, hRf, hRl, hRc, hRs, hSF, hret, hlk, hnm⟩ := hX
  intro r u' hf ls H locs hl hH hP hw hex hS
  subst hst0
  cases hg : g with
  | none => rw [hg] at hf; exact absurd (show (none : Option (ρ × SG)) = some (r, u') from hf) (by simp)
  | some o =>
    obtain ⟨r1, u1⟩ := o
    rw [hg] at hf
    have hf : kf r1 u1 = some (r, u') := hf
    subst hmc0
    have hrun := va_runSN (p := p) (e := e) (R := R) (below := below) (meth := meth) (locs := locs) (cells := cs) (slots := ss) (As := As) (rest := st) (g := F0 m pc ls (As.reverse ++ st)) ⟨hx, hb, hml, hown, hts⟩ (hC l D cT z0 ks r1 u1 hg) ⟨va_cnB (ws' := tb) n hts hM.gi rfl rfl rfl (hSF.1 _ _ _ _ hlk0) (hts _ hM.2.1) hM.2.2 ⟨by show d' + 1 ≤ _; omega, by show 8 + (nL' + 11) + 60 * d' ≤ _; omega⟩, hts _ hsta, trivial⟩ ⟨jblind, fun U hU hW => ⟨rfl, by rw [hU]; exact hH, by rw [hU]; exact hP, va_K.moved hW.alike hKk, hw, jSF_to hSF hS hU hW⟩⟩ rfl hn hl.1 rfl (lv_room hst) hd ⟨by omega, by omega⟩
    refine jcont' hrun hS hH hl hex (h r1 u1 r u' hf)
theorem jf_callI (hX : Cx X y cc nL ret d mc ms) {a : Nat} (hM : MO y' cc' nL' ret' n) (hlk0 : Cond.methodLink y.cls idx y' ∈ tb) (hins : Cond.instanceMethod y' ∈ tb) (hini : y'.name = "<init>") (hrn : ret' = none) (hn : As.length = n) (hC : ∀ l D cT z0 ks, Ct l D cT z0 ks y' cc' nL' ret' d' mc' ms' toV (.ref a :: As) u g) (hd1 : d' + 1 ≤ d) (hd2 : 19 + nL' + 60 * d' ≤ 60 * d) (hcs : cs + mc' ≤ mc) (hss : ss + ms' ≤ ms) (hst : (st.map fun v => v.category).sum ≤ 8) {st0 : List Value} (hst0 : st0 = As.reverse ++ .ref a :: st) (hd : decode cc pc = .ok (.invokespecial idx, 3)) (h : ∀ r1 u1, JF X ex nL (cs + mc') (ss + ms') Qf (pc + 3) lv ((toV r1).toList ++ st) u1 (kf r1 u1)) : JF X ex nL cs ss Qf pc lv st0 u (cla (u.1 + mc') g kf) := by
  obtain ⟨p, l, e, R, s, m, args, below, meth, c, D, cT, z0, ks⟩ := X
  obtain ⟨hx, hb, hml, hown, hts, hKk, hz0, hRf, hRl, hRc, hRs, hSF, hret, hlk, hnm⟩ := hX
  intro r u' hf ls H locs hl hH hP hw hex hS
  subst hst0
  cases hg : g with
  | none => rw [hg] at hf; exact absurd (show (none : Option (ρ × SG)) = some (r, u') from hf) (by simp)
  | some o =>
    obtain ⟨r1, u1⟩ := o
    rw [hg] at hf
    have hf : (if u.1 + mc' ≤ u1.1 then kf r1 u1 else none) = some (r, u') := hf
    by_cases hal : u.1 + mc' ≤ u1.1
    · rw [if_pos hal] at hf
      subst hrn
      have hrun := va_runI (p := p) (e := e) (R := R) (below := below) (meth := meth) (locs := locs) (cells := cs) (slots := ss) (As := As) (rest := st) (g := F0 m pc ls (As.reverse ++ .ref a :: st)) ⟨hx, hb, hml, hown, hts⟩ (hC l D cT z0 ks r1 u1 hg) ⟨callB_of (ws' := tb) n hts hM.gi rfl rfl rfl (hts _ hM.2.1) (hts _ hlk0) hM.2.2 ⟨by show d' + 1 ≤ _; omega, by show 8 + (nL' + 11) + 60 * d' ≤ _; omega⟩, hini, hts _ hins⟩ ⟨jblind, fun U hU hW => ⟨rfl, by rw [hU]; exact hH, by rw [hU]; exact hP, va_K.moved hW.alike hKk, hw, jSF_to hSF hS hU hW⟩⟩ rfl hn hl.1 rfl (lv_room hst) hd ⟨by omega, by omega⟩
      exact jcont (ks := ks) hrun hS hH hl hex (fun _ => hal) (h r1 u1 r u' hf)
    · rw [if_neg hal] at hf; cases hf
theorem jf_callIN (hX : Cx X y cc nL ret d mc ms) {a : Nat} (hM : MO y' cc' nL' ret' n) {host : String} (hlk0 : Cond.methodLinkNest y.cls idx y' host ∈ lw_tbl) (hins : Cond.instanceMethod y' ∈ tb) (hini : y'.name = "<init>") (hrn : ret' = none) (hn : As.length = n) (hC : ∀ l D cT z0 ks, Ct l D cT z0 ks y' cc' nL' ret' d' mc' ms' toV (.ref a :: As) u g) (hd1 : d' + 1 ≤ d) (hd2 : 19 + nL' + 60 * d' ≤ 60 * d) (hcs : cs + mc' ≤ mc) (hss : ss + ms' ≤ ms) (hst : (st.map fun v => v.category).sum ≤ 8) {st0 : List Value} (hst0 : st0 = As.reverse ++ .ref a :: st) (hd : decode cc pc = .ok (.invokespecial idx, 3)) (h : ∀ r1 u1, JF X ex nL (cs + mc') (ss + ms') Qf (pc + 3) lv ((toV r1).toList ++ st) u1 (kf r1 u1)) : JF X ex nL cs ss Qf pc lv st0 u (cla (u.1 + mc') g kf) := by
  obtain ⟨p, l, e, R, s, m, args, below, meth, c, D, cT, z0, ks⟩ := X
  obtain ⟨hx, hb, hml, hown, hts, hKk, hz0, hRf, hRl, hRc, hRs, hSF, hret, hlk, hnm⟩ := hX
  intro r u' hf ls H locs hl hH hP hw hex hS
  subst hst0
  cases hg : g with
  | none => rw [hg] at hf; exact absurd (show (none : Option (ρ × SG)) = some (r, u') from hf) (by simp)
  | some o =>
    obtain ⟨r1, u1⟩ := o
    rw [hg] at hf
    have hf : (if u.1 + mc' ≤ u1.1 then kf r1 u1 else none) = some (r, u') := hf
    by_cases hal : u.1 + mc' ≤ u1.1
    · rw [if_pos hal] at hf
      subst hrn
      have hrun := va_runIN (p := p) (e := e) (R := R) (below := below) (meth := meth) (locs := locs) (cells := cs) (slots := ss) (As := As) (rest := st) (g := F0 m pc ls (As.reverse ++ .ref a :: st)) ⟨hx, hb, hml, hown, hts⟩ (hC l D cT z0 ks r1 u1 hg) ⟨va_cnB (ws' := tb) n hts hM.gi rfl rfl rfl (hSF.1 _ _ _ _ hlk0) (hts _ hM.2.1) hM.2.2 ⟨by show d' + 1 ≤ _; omega, by show 8 + (nL' + 11) + 60 * d' ≤ _; omega⟩, hini, hts _ hins⟩ ⟨jblind, fun U hU hW => ⟨rfl, by rw [hU]; exact hH, by rw [hU]; exact hP, va_K.moved hW.alike hKk, hw, jSF_to hSF hS hU hW⟩⟩ rfl hn hl.1 rfl (lv_room hst) hd ⟨by omega, by omega⟩
      exact jcont (ks := ks) hrun hS hH hl hex (fun _ => hal) (h r1 u1 r u' hf)
    · rw [if_neg hal] at hf; cases hf
theorem jf_callI0 (hX : Cx X y cc nL ret d mc ms) {a : Nat} (hM : MO y' cc' nL' ret' n) (hlk0 : Cond.methodLink y.cls idx y' ∈ tb) (hins : Cond.instanceMethod y' ∈ tb) (hini : y'.name = "<init>") (hrn : ret' = none) (hn : As.length = n) (hC : ∀ l D cT z0 ks, Ct l D cT z0 ks y' cc' nL' ret' d' mc' ms' toV (.ref a :: As) u g) (hd1 : d' + 1 ≤ d) (hd2 : 19 + nL' + 60 * d' ≤ 60 * d) (hcs : cs + mc' ≤ mc) (hss : ss + ms' ≤ ms) (hst : (st.map fun v => v.category).sum ≤ 8) (hmc0 : mc' = 0) {st0 : List Value} (hst0 : st0 = As.reverse ++ .ref a :: st) (hd : decode cc pc = .ok (.invokespecial idx, 3)) (h : ∀ r1 u1, JF X ex nL (cs + mc') (ss + ms') Qf (pc + 3) lv ((toV r1).toList ++ st) u1 (kf r1 u1)) : JF X ex nL cs ss Qf pc lv st0 u (cl g kf) := by
  obtain ⟨p, l, e, R, s, m, args, below, meth, c, D, cT, z0, ks⟩ := X
  obtain ⟨hx, hb, hml, hown, hts, hKk, hz0, hRf, hRl, hRc, hRs, hSF, hret, hlk, hnm⟩ := hX
  intro r u' hf ls H locs hl hH hP hw hex hS
  subst hst0
  cases hg : g with
  | none => rw [hg] at hf; exact absurd (show (none : Option (ρ × SG)) = some (r, u') from hf) (by simp)
  | some o =>
    obtain ⟨r1, u1⟩ := o
    rw [hg] at hf
    have hf : kf r1 u1 = some (r, u') := hf
    subst hrn
    subst hmc0
    have hrun := va_runI (p := p) (e := e) (R := R) (below := below) (meth := meth) (locs := locs) (cells := cs) (slots := ss) (As := As) (rest := st) (g := F0 m pc ls (As.reverse ++ .ref a :: st)) ⟨hx, hb, hml, hown, hts⟩ (hC l D cT z0 ks r1 u1 hg) ⟨callB_of (ws' := tb) n hts hM.gi rfl rfl rfl (hts _ hM.2.1) (hts _ hlk0) hM.2.2 ⟨by show d' + 1 ≤ _; omega, by show 8 + (nL' + 11) + 60 * d' ≤ _; omega⟩, hini, hts _ hins⟩ ⟨jblind, fun U hU hW => ⟨rfl, by rw [hU]; exact hH, by rw [hU]; exact hP, va_K.moved hW.alike hKk, hw, jSF_to hSF hS hU hW⟩⟩ rfl hn hl.1 rfl (lv_room hst) hd ⟨by omega, by omega⟩
    refine jcont' hrun hS hH hl hex (h r1 u1 r u' hf)
theorem jf_callVa (hX : Cx X y cc nL ret d mc ms) {a : Nat} (hM : MO y' cc' nL' ret' n) (hlk0 : Cond.methodLink y.cls idx y' ∈ tb) (hins : Cond.instanceMethod y' ∈ tb) (hsel : Cond.selects y'.cls y' y' ∈ tb) (ci : Nat) {T : u_T} {N : Nat} {ty : Nat → FieldType} (hCl : ClsOK ci y'.cls T N ty) (hn : As.length = n) (hC : ∀ l D cT z0 ks, Ct l D cT z0 ks y' cc' nL' ret' d' mc' ms' toV (.ref a :: As) u g) (hd1 : d' + 1 ≤ d) (hd2 : 19 + nL' + 60 * d' ≤ 60 * d) (hcs : cs + mc' ≤ mc) (hss : ss + ms' ≤ ms) (hst : (st.map fun v => v.category).sum ≤ 8) {st0 : List Value} (hst0 : st0 = As.reverse ++ .ref a :: st) (hd : decode cc pc = .ok (.invokevirtual idx, 3)) (h : ∀ r1 u1, JF X ex nL (cs + mc') (ss + ms') Qf (pc + 3) lv ((toV r1).toList ++ st) u1 (kf r1 u1)) : JF X ex nL cs ss Qf pc lv st0 u (if zK u a = ci + 1 then (cla (u.1 + mc') g kf) else none) := by
  obtain ⟨p, l, e, R, s, m, args, below, meth, c, D, cT, z0, ks⟩ := X
  obtain ⟨hx, hb, hml, hown, hts, hKk, hz0, hRf, hRl, hRc, hRs, hSF, hret, hlk, hnm⟩ := hX
  intro r u' hf ls H locs hl hH hP hw hex hS
  subst hst0
  by_cases hc : zK u a = ci + 1
  · rw [if_pos hc] at hf
    cases hg : g with
    | none => rw [hg] at hf; exact absurd (show (none : Option (ρ × SG)) = some (r, u') from hf) (by simp)
    | some o =>
      obtain ⟨r1, u1⟩ := o
      rw [hg] at hf
      have hf : (if u.1 + mc' ≤ u1.1 then kf r1 u1 else none) = some (r, u') := hf
      by_cases hal : u.1 + mc' ≤ u1.1
      · rw [if_pos hal] at hf
        obtain ⟨c1, c2, c3, c4, c5, c6⟩ := hCl
        obtain ⟨qa, hqa⟩ := zp_get (cT := cT) hw (a := a) (by omega)
        rw [zcell_obj hc c3] at hqa
        have hrun := va_runV (p := p) (e := e) (R := R) (below := below) (meth := meth) (locs := locs) (cells := cs) (slots := ss) (As := As) (rest := st) (g := F0 m pc ls (As.reverse ++ .ref a :: st)) ⟨hx, hb, hml, hown, hts⟩ (hC l D cT z0 ks r1 u1 hg) ⟨callB_of (ws' := tb) n hts hM.gi rfl rfl rfl (hts _ hM.2.1) (hts _ hlk0) hM.2.2 ⟨by show d' + 1 ≤ _; omega, by show 8 + (nL' + 11) + 60 * d' ≤ _; omega⟩, hts _ hins, hts _ hsel⟩ ⟨jblind, va_recv hKk hP c1 hqa, fun U hU hW => ⟨rfl, by rw [hU]; exact hH, by rw [hU]; exact hP, va_K.moved hW.alike hKk, hw, jSF_to hSF hS hU hW⟩⟩ rfl hn hl.1 rfl (lv_room hst) hd ⟨by omega, by omega⟩
        exact jcont (ks := ks) hrun hS hH hl hex (fun _ => hal) (h r1 u1 r u' hf)
      · rw [if_neg hal] at hf; cases hf
  · rw [if_neg hc] at hf; cases hf
theorem jf_callVw (hX : Cx X y cc nL ret d mc ms) (hfree : ¬ ex) {a : Nat} (hM : MO y' cc' nL' ret' n) (hlk0 : Cond.methodLink y.cls idx y' ∈ tb) (hins : Cond.instanceMethod y' ∈ tb) (hsel : Cond.selects y'.cls y' y' ∈ tb) (ci : Nat) {T : u_T} {N : Nat} {ty : Nat → FieldType} (hCl : ClsOK ci y'.cls T N ty) (hn : As.length = n) (hC : ∀ l D cT z0 ks, Ct l D cT z0 ks y' cc' nL' ret' d' mc' ms' toV (.ref a :: As) u g) (hd1 : d' + 1 ≤ d) (hd2 : 19 + nL' + 60 * d' ≤ 60 * d) (hcs : cs + mc' ≤ mc) (hss : ss + ms' ≤ ms) (hst : (st.map fun v => v.category).sum ≤ 8) {st0 : List Value} (hst0 : st0 = As.reverse ++ .ref a :: st) (hd : decode cc pc = .ok (.invokevirtual idx, 3)) (h : ∀ r1 u1, JF X ex nL (cs + mc') (ss + ms') Qf (pc + 3) lv ((toV r1).toList ++ st) u1 (kf r1 u1)) : JF X ex nL cs ss Qf pc lv st0 u (if zK u a = ci + 1 then (cl g kf) else none) := by
  obtain ⟨p, l, e, R, s, m, args, below, meth, c, D, cT, z0, ks⟩ := X
  obtain ⟨hx, hb, hml, hown, hts, hKk, hz0, hRf, hRl, hRc, hRs, hSF, hret, hlk, hnm⟩ := hX
  intro r u' hf ls H locs hl hH hP hw hex hS
  subst hst0
  by_cases hc : zK u a = ci + 1
  · rw [if_pos hc] at hf
    cases hg : g with
    | none => rw [hg] at hf; exact absurd (show (none : Option (ρ × SG)) = some (r, u') from hf) (by simp)
    | some o =>
      obtain ⟨r1, u1⟩ := o
      rw [hg] at hf
      have hf : kf r1 u1 = some (r, u') := hf
      obtain ⟨c1, c2, c3, c4, c5, c6⟩ := hCl
      obtain ⟨qa, hqa⟩ := zp_get (cT := cT) hw (a := a) (by omega)
      rw [zcell_obj hc c3] at hqa
      have hrun := va_runV (p := p) (e := e) (R := R) (below := below) (meth := meth) (locs := locs) (cells := cs) (slots := ss) (As := As) (rest := st) (g := F0 m pc ls (As.reverse ++ .ref a :: st)) ⟨hx, hb, hml, hown, hts⟩ (hC l D cT z0 ks r1 u1 hg) ⟨callB_of (ws' := tb) n hts hM.gi rfl rfl rfl (hts _ hM.2.1) (hts _ hlk0) hM.2.2 ⟨by show d' + 1 ≤ _; omega, by show 8 + (nL' + 11) + 60 * d' ≤ _; omega⟩, hts _ hins, hts _ hsel⟩ ⟨jblind, va_recv hKk hP c1 hqa, fun U hU hW => ⟨rfl, by rw [hU]; exact hH, by rw [hU]; exact hP, va_K.moved hW.alike hKk, hw, jSF_to hSF hS hU hW⟩⟩ rfl hn hl.1 rfl (lv_room hst) hd ⟨by omega, by omega⟩
      exact jcont (ks := ks) hrun hS hH hl hex (fun z => absurd z hfree) (h r1 u1 r u' hf)
  · rw [if_neg hc] at hf; cases hf
end ROWS2
