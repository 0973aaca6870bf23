theorem sNew_K (u : SG) (kd n b : Nat) : zK (sNew u kd n) b = if b = u.1 then kd else zK u b := by unfold zK sNew va_up; rfl
theorem sNew_N (u : SG) (kd n b : Nat) : zN (sNew u kd n) b = if b = u.1 then n else zN u b := by unfold zN sNew va_up; rfl
theorem sNew_I (u : SG) (kd n b k : Nat) : zI (sNew u kd n) b k = if b = u.1 then 0 else zI u b k := by unfold zI sNew va_up; dsimp only; split <;> rfl
theorem sNew_L (u : SG) (kd n b k : Nat) : zL (sNew u kd n) b k = if b = u.1 then 0 else zL u b k := by unfold zL sNew va_up; dsimp only; split <;> rfl
theorem sNew_R (u : SG) (kd n b k : Nat) : zR (sNew u kd n) b k = if b = u.1 then none else zR u b k := by unfold zR sNew va_up; dsimp only; split <;> rfl
theorem sNew_o {u : SG} {kd n : Nat} {cT : Nat → ClassId} (b : Nat) (h : b ≠ u.1) : zcell cT (sNew u kd n) b = zcell cT u b := zcell_eq (by rw [sNew_K, if_neg h]) (by rw [sNew_N, if_neg h]) (by funext k; rw [sNew_I, if_neg h]) (by funext k; rw [sNew_L, if_neg h]) (by funext k; rw [sNew_R, if_neg h])
theorem sNew_wf {z0 : Nat} {u : SG} {kd n : Nat} (h : zwf z0 u) : zwf z0 (sNew u kd n) := by
  refine ⟨Nat.le_succ_of_le h.1, fun a ha => ?_⟩
  rw [sNew_K] at ha
  show z0 ≤ a ∧ a < u.1 + 1
  by_cases e : a = u.1
  · have := h.1; omega
  · rw [if_neg e] at ha
    have := h.2 a ha
    omega
/-- the place of a new cell -/
theorem znew {p : Program} {l : Launch} {e : Env} {R : Room} {s : State} {m : MethodId} {args : Array Value} {below : List Frame} {meth : Method} {c : Code} {T : State} {locs : List Loc} {cells slots : Nat} {D : va_G} {cT : Nat → ClassId} {z0 : Nat} {u : SG} {H : Heap} {q : Nat} {el : va_E} (X : Stand p l e R s m args below meth c T locs (cells + 1) slots) (hT : T.heap = H) (hP : va_P D vwCl (zp cT z0 u ++ [(q, el)]) H) (hD : va_D (fun q => z0 ≤ q) (zp cT z0 u ++ [(q, el)])) (hw : z0 ≤ u.1) (hx : s.heap.size + cells ≤ u.1) : q = u.1 ∧ H.size = u.1 + 1 := by
  have h1 : T.heap.size ≤ s.heap.size + (cells + 1) := X.same.2.2.1
  rw [hT] at h1
  have hlen : (zp cT z0 u).length = u.1 - z0 := by simp [zp, va_pl, zrng]
  have hq : (zp cT z0 u ++ [(q, el)])[u.1 - z0]? = some (q, el) := by
    rw [List.getElem?_append_right (by omega), hlen, Nat.sub_self]
    rfl
  have h2 : q < H.size := (hP _ _ hq).lt
  have h3 : z0 ≤ q := hD.2 _ _ hq
  by_cases h4 : q < u.1
  · exfalso
    have h5 : q ∈ zrng z0 u := by unfold zrng; rw [List.mem_range'_1]; omega
    obtain ⟨k, hk⟩ := va_pl_get (X := []) (f := zcell cT u) h5
    have hk : (zp cT z0 u)[k]? = some (q, zcell cT u q) := hk
    have hkl : k < (zp cT z0 u).length := (List.getElem?_eq_some_iff.mp hk).1
    have h6 := hD.1 k (u.1 - z0) (q, zcell cT u q) (q, el) (by rw [List.getElem?_append_left hkl]; exact hk) hq rfl
    omega
  · omega
/-- a new cell's place and the state behind it, used -/
def nw {β : Type} (u u2 : SG) (kf : Nat → SG → Option β) : Option β := kf u.1 u2
section ROWS3
variable {X : XT} {ex : Prop} {y : MethodName} {cc : ByteArray} {nL : Nat} {ret : Option FieldType} {d mc ms cs ss : Nat} {ρ : Type} {Qf : ρ → SG → State → Prop} {pc : Nat} {lv : List (Nat × Value)} {st : List Value} {u : SG} {fx fy : Option (ρ × SG)}
theorem jf_new (hX : Cx X y cc nL ret d mc ms) (he : ex) (ci : Nat) {idx : Nat} {C : String} {T : u_T} {N : Nat} {ty : Nat → FieldType} (hC : ClsOK ci C T N ty) (hdf : ∀ k, k < N → defaultValue (ty k) = if zft ci k = 0 then .int 0 else if zft ci k = 1 then .null else .long 0) (h1 : Cond.classLink y.cls idx C ∈ tb) (h2 : Cond.instantiable C N ∈ tb) (h3 : Cond.initialized C ∈ tb) (hcs : cs + 1 ≤ mc) (hss : ss + N ≤ ms) (hd : decode cc pc = .ok (.new idx, 3)) {kf : Nat → SG → Option (ρ × SG)} (h : ∀ a u1, JF X ex nL (cs + 1) (ss + N) Qf (pc + 3) lv (.ref a :: st) u1 (kf a u1)) : JF X ex nL cs ss Qf pc lv st u (nw u (sNew u (ci + 1) 0) kf) := by
  obtain ⟨p, l, e, R, s, m, args, below, meth, c, D, cT, z0, ks⟩ := X
  obtain ⟨hx, hb, hml, hown, hts, hKk, hz0, hRf, hRl, hRc, hRs, hSF, hret, hlk, hnm⟩ := hX
  intro r u' hf ls H locs hl hH hP hw hex hS
  obtain ⟨c1, c2, c3, c4, c5, c6⟩ := hC
  have hcell : zcell cT (sNew u (ci + 1) 0) u.1 = .inr (ci, zfs ci (sNew u (ci + 1) 0) u.1) := zcell_obj (by rw [sNew_K, if_pos rfl]) c3
  refine va_new (D := D) (fs := zfs ci (sNew u (ci + 1) 0) u.1) hx hb hts c4 ty c5 hown (hts _ h1) (hts _ h2) (hts _ h3) hKk hP zp_D hS (fun q hq => Nat.le_trans hz0 hq) c1 (fun j hj => ?_) (by omega) (by omega) hd (fun q H1 hP1 hD1 hS1 => ?_)
  · rw [hdf j hj]
    unfold vp_V
    rw [List.getD_eq_getElem?_getD, zfs_get (by omega), Option.getD_some]
    unfold zval
    rw [sNew_I, sNew_R, sNew_L, if_pos rfl, if_pos rfl, if_pos rfl]
    rfl
  · intro T9 hT9 X9
    obtain ⟨q1, q2⟩ := znew X9 hT9 hP1 hD1 hw.1 (hex he)
    subst q1
    rw [zp_push (u' := sNew u (ci + 1) 0) hw rfl (zcell_up hcell (fun b hb => sNew_o b hb))] at hP1
    exact h u.1 (sNew u (ci + 1) 0) r u' hf ls H1 locs hl q2 hP1 (sNew_wf hw) (fun z => by have := hex z; show _ ≤ u.1 + 1; omega) hS1 T9 hT9 X9
theorem jf_newaI (hX : Cx X y cc nL ret d mc ms) (he : ex) (h1 : Cond.arrayClass .int ∈ tb) (M : Nat) (hM : M < 100000) (hcs : cs + 1 ≤ mc) (hss : ss + M ≤ ms) {n : Int32} (hd : decode cc pc = .ok (.newarray .int, 2)) {kf : Nat → SG → Option (ρ × SG)} (h : ∀ a u1, JF X ex nL (cs + 1) (ss + M) Qf (pc + 2) lv (.ref a :: st) u1 (kf a u1)) : JF X ex nL cs ss Qf pc lv (.int n :: st) u (if n < 0 ∨ M < n.toNatClampNeg then none else nw u (sNew u 22 n.toNatClampNeg) kf) := by
  obtain ⟨p, l, e, R, s, m, args, below, meth, c, D, cT, z0, ks⟩ := X
  obtain ⟨hx, hb, hml, hown, hts, hKk, hz0, hRf, hRl, hRc, hRs, hSF, hret, hlk, hnm⟩ := hX
  intro r u' hf ls H locs hl hH hP hw hex hS
  by_cases hn : n < 0 ∨ M < n.toNatClampNeg
  · rw [if_pos hn] at hf; cases hf
  · rw [if_neg hn] at hf
    have hn1 : ¬ n < 0 := fun z => hn (Or.inl z)
    have hn2 : ¬ M < n.toNatClampNeg := fun z => hn (Or.inr z)
    have hcb : componentBytes .int ≤ 8 := by decide +kernel
    have hcell : ∀ cA : ClassId, cA = cT 22 → zcell cT (sNew u 22 n.toNatClampNeg) u.1 = .inl (cA, n.toNatClampNeg, .inl (fun _ => 0)) := by
      intro cA hcA
      rw [zcell_arr (kd := 22) (by rw [sNew_K, if_pos rfl]) (by omega), hcA]
      unfold zarr
      rw [sNew_N, if_pos rfl]
      have e1 : zI (sNew u 22 n.toNatClampNeg) u.1 = fun _ => 0 := by funext k; rw [sNew_I, if_pos rfl]
      have e2 : zL (sNew u 22 n.toNatClampNeg) u.1 = fun _ => 0 := by funext k; rw [sNew_L, if_pos rfl]
      rw [e1, e2]
      rfl
    refine va_newa (D := D) (atype := .int) (ty := .int) (a0 := (n.toNatClampNeg, .inl (fun _ => 0))) hx hb (hts _ h1) rfl hKk hP zp_D hS (fun q hq => Nat.le_trans hz0 hq) (fun _ => rfl) hn1 rfl (Nat.le_trans (Nat.mul_le_mul (show n.toNatClampNeg ≤ 100000 by omega) hcb) (by omega)) (by omega) (by omega) hd (fun q cA H1 hK1 hP1 hD1 hS1 => ?_)
    have hcA : cA = cT 22 := by
      have h8 : ((tyl cT) ++ [(cA, .int)])[7]? = some (cA, .int) := rfl
      have h9 := (hK1.2 7 _ h8).2
      have h7 := (hKk.2 1 (cT 22, .int) rfl).2
      exact Option.some.inj (h9.symm.trans h7)
    refine W.widen (k := cs + 1) (n := ss + M) (Nat.le_refl _) (by omega) ?_
    intro T9 hT9 X9
    obtain ⟨q1, q2⟩ := znew X9 hT9 hP1 hD1 hw.1 (hex he)
    subst q1
    rw [zp_push (u' := sNew u 22 n.toNatClampNeg) hw rfl (zcell_up (hcell cA hcA) (fun b hb => sNew_o b hb))] at hP1
    exact h u.1 (sNew u 22 n.toNatClampNeg) r u' hf ls H1 locs hl q2 hP1 (sNew_wf hw) (fun z => by have := hex z; show _ ≤ u.1 + 1; omega) hS1 T9 hT9 X9
theorem jf_newaB (hX : Cx X y cc nL ret d mc ms) (he : ex) (h1 : Cond.arrayClass .byte ∈ tb) (M : Nat) (hM : M < 100000) (hcs : cs + 1 ≤ mc) (hss : ss + M ≤ ms) {n : Int32} (hd : decode cc pc = .ok (.newarray .byte, 2)) {kf : Nat → SG → Option (ρ × SG)} (h : ∀ a u1, JF X ex nL (cs + 1) (ss + M) Qf (pc + 2) lv (.ref a :: st) u1 (kf a u1)) : JF X ex nL cs ss Qf pc lv (.int n :: st) u (if n < 0 ∨ M < n.toNatClampNeg then none else nw u (sNew u 21 n.toNatClampNeg) kf) := by
  obtain ⟨p, l, e, R, s, m, args, below, meth, c, D, cT, z0, ks⟩ := X
  obtain ⟨hx, hb, hml, hown, hts, hKk, hz0, hRf, hRl, hRc, hRs, hSF, hret, hlk, hnm⟩ := hX
  intro r u' hf ls H locs hl hH hP hw hex hS
  by_cases hn : n < 0 ∨ M < n.toNatClampNeg
  · rw [if_pos hn] at hf; cases hf
  · rw [if_neg hn] at hf
    have hn1 : ¬ n < 0 := fun z => hn (Or.inl z)
    have hn2 : ¬ M < n.toNatClampNeg := fun z => hn (Or.inr z)
    have hcb : componentBytes .byte ≤ 8 := by decide +kernel
    have hcell : ∀ cA : ClassId, cA = cT 21 → zcell cT (sNew u 21 n.toNatClampNeg) u.1 = .inl (cA, n.toNatClampNeg, .inl (fun _ => 0)) := by
      intro cA hcA
      rw [zcell_arr (kd := 21) (by rw [sNew_K, if_pos rfl]) (by omega), hcA]
      unfold zarr
      rw [sNew_N, if_pos rfl]
      have e1 : zI (sNew u 21 n.toNatClampNeg) u.1 = fun _ => 0 := by funext k; rw [sNew_I, if_pos rfl]
      have e2 : zL (sNew u 21 n.toNatClampNeg) u.1 = fun _ => 0 := by funext k; rw [sNew_L, if_pos rfl]
      rw [e1, e2]
      rfl
    refine va_newa (D := D) (atype := .byte) (ty := .byte) (a0 := (n.toNatClampNeg, .inl (fun _ => 0))) hx hb (hts _ h1) rfl hKk hP zp_D hS (fun q hq => Nat.le_trans hz0 hq) (fun _ => rfl) hn1 rfl (Nat.le_trans (Nat.mul_le_mul (show n.toNatClampNeg ≤ 100000 by omega) hcb) (by omega)) (by omega) (by omega) hd (fun q cA H1 hK1 hP1 hD1 hS1 => ?_)
    have hcA : cA = cT 21 := by
      have h8 : ((tyl cT) ++ [(cA, .byte)])[7]? = some (cA, .byte) := rfl
      have h9 := (hK1.2 7 _ h8).2
      have h7 := (hKk.2 0 (cT 21, .byte) rfl).2
      exact Option.some.inj (h9.symm.trans h7)
    refine W.widen (k := cs + 1) (n := ss + M) (Nat.le_refl _) (by omega) ?_
    intro T9 hT9 X9
    obtain ⟨q1, q2⟩ := znew X9 hT9 hP1 hD1 hw.1 (hex he)
    subst q1
    rw [zp_push (u' := sNew u 21 n.toNatClampNeg) hw rfl (zcell_up (hcell cA hcA) (fun b hb => sNew_o b hb))] at hP1
    exact h u.1 (sNew u 21 n.toNatClampNeg) r u' hf ls H1 locs hl q2 hP1 (sNew_wf hw) (fun z => by have := hex z; show _ ≤ u.1 + 1; omega) hS1 T9 hT9 X9
theorem jf_newaJ (hX : Cx X y cc nL ret d mc ms) (he : ex) (h1 : Cond.arrayClass .long ∈ tb) (M : Nat) (hM : M < 100000) (hcs : cs + 1 ≤ mc) (hss : ss + M ≤ ms) {n : Int32} (hd : decode cc pc = .ok (.newarray .long, 2)) {kf : Nat → SG → Option (ρ × SG)} (h : ∀ a u1, JF X ex nL (cs + 1) (ss + M) Qf (pc + 2) lv (.ref a :: st) u1 (kf a u1)) : JF X ex nL cs ss Qf pc lv (.int n :: st) u (if n < 0 ∨ M < n.toNatClampNeg then none else nw u (sNew u 23 n.toNatClampNeg) kf) := by
  obtain ⟨p, l, e, R, s, m, args, below, meth, c, D, cT, z0, ks⟩ := X
  obtain ⟨hx, hb, hml, hown, hts, hKk, hz0, hRf, hRl, hRc, hRs, hSF, hret, hlk, hnm⟩ := hX
  intro r u' hf ls H locs hl hH hP hw hex hS
  by_cases hn : n < 0 ∨ M < n.toNatClampNeg
  · rw [if_pos hn] at hf; cases hf
  · rw [if_neg hn] at hf
    have hn1 : ¬ n < 0 := fun z => hn (Or.inl z)
    have hn2 : ¬ M < n.toNatClampNeg := fun z => hn (Or.inr z)
    have hcb : componentBytes .long ≤ 8 := by decide +kernel
    have hcell : ∀ cA : ClassId, cA = cT 23 → zcell cT (sNew u 23 n.toNatClampNeg) u.1 = .inl (cA, n.toNatClampNeg, .inr (.inl (fun _ => 0))) := by
      intro cA hcA
      rw [zcell_arr (kd := 23) (by rw [sNew_K, if_pos rfl]) (by omega), hcA]
      unfold zarr
      rw [sNew_N, if_pos rfl]
      have e1 : zI (sNew u 23 n.toNatClampNeg) u.1 = fun _ => 0 := by funext k; rw [sNew_I, if_pos rfl]
      have e2 : zL (sNew u 23 n.toNatClampNeg) u.1 = fun _ => 0 := by funext k; rw [sNew_L, if_pos rfl]
      rw [e1, e2]
      rfl
    refine va_newa (D := D) (atype := .long) (ty := .long) (a0 := (n.toNatClampNeg, .inr (.inl (fun _ => 0)))) hx hb (hts _ h1) rfl hKk hP zp_D hS (fun q hq => Nat.le_trans hz0 hq) (fun _ => rfl) hn1 rfl (Nat.le_trans (Nat.mul_le_mul (show n.toNatClampNeg ≤ 100000 by omega) hcb) (by omega)) (by omega) (by omega) hd (fun q cA H1 hK1 hP1 hD1 hS1 => ?_)
    have hcA : cA = cT 23 := by
      have h8 : ((tyl cT) ++ [(cA, .long)])[7]? = some (cA, .long) := rfl
      have h9 := (hK1.2 7 _ h8).2
      have h7 := (hKk.2 2 (cT 23, .long) rfl).2
      exact Option.some.inj (h9.symm.trans h7)
    refine W.widen (k := cs + 1) (n := ss + M) (Nat.le_refl _) (by omega) ?_
    intro T9 hT9 X9
    obtain ⟨q1, q2⟩ := znew X9 hT9 hP1 hD1 hw.1 (hex he)
    subst q1
    rw [zp_push (u' := sNew u 23 n.toNatClampNeg) hw rfl (zcell_up (hcell cA hcA) (fun b hb => sNew_o b hb))] at hP1
    exact h u.1 (sNew u 23 n.toNatClampNeg) r u' hf ls H1 locs hl q2 hP1 (sNew_wf hw) (fun z => by have := hex z; show _ ≤ u.1 + 1; omega) hS1 T9 hT9 X9
theorem jf_newaZ (hX : Cx X y cc nL ret d mc ms) (he : ex) (h1 : Cond.arrayClass .boolean ∈ tb) (M : Nat) (hM : M < 100000) (hcs : cs + 1 ≤ mc) (hss : ss + M ≤ ms) {n : Int32} (hd : decode cc pc = .ok (.newarray .boolean, 2)) {kf : Nat → SG → Option (ρ × SG)} (h : ∀ a u1, JF X ex nL (cs + 1) (ss + M) Qf (pc + 2) lv (.ref a :: st) u1 (kf a u1)) : JF X ex nL cs ss Qf pc lv (.int n :: st) u (if n < 0 ∨ M < n.toNatClampNeg then none else nw u (sNew u 24 n.toNatClampNeg) kf) := by
  obtain ⟨p, l, e, R, s, m, args, below, meth, c, D, cT, z0, ks⟩ := X
  obtain ⟨hx, hb, hml, hown, hts, hKk, hz0, hRf, hRl, hRc, hRs, hSF, hret, hlk, hnm⟩ := hX
  intro r u' hf ls H locs hl hH hP hw hex hS
  by_cases hn : n < 0 ∨ M < n.toNatClampNeg
  · rw [if_pos hn] at hf; cases hf
  · rw [if_neg hn] at hf
    have hn1 : ¬ n < 0 := fun z => hn (Or.inl z)
    have hn2 : ¬ M < n.toNatClampNeg := fun z => hn (Or.inr z)
    have hcb : componentBytes .boolean ≤ 8 := by decide +kernel
    have hcell : ∀ cA : ClassId, cA = cT 24 → zcell cT (sNew u 24 n.toNatClampNeg) u.1 = .inl (cA, n.toNatClampNeg, .inl (fun _ => 0)) := by
      intro cA hcA
      rw [zcell_arr (kd := 24) (by rw [sNew_K, if_pos rfl]) (by omega), hcA]
      unfold zarr
      rw [sNew_N, if_pos rfl]
      have e1 : zI (sNew u 24 n.toNatClampNeg) u.1 = fun _ => 0 := by funext k; rw [sNew_I, if_pos rfl]
      have e2 : zL (sNew u 24 n.toNatClampNeg) u.1 = fun _ => 0 := by funext k; rw [sNew_L, if_pos rfl]
      rw [e1, e2]
      rfl
    refine va_newa (D := D) (atype := .boolean) (ty := .boolean) (a0 := (n.toNatClampNeg, .inl (fun _ => 0))) hx hb (hts _ h1) rfl hKk hP zp_D hS (fun q hq => Nat.le_trans hz0 hq) (fun _ => rfl) hn1 rfl (Nat.le_trans (Nat.mul_le_mul (show n.toNatClampNeg ≤ 100000 by omega) hcb) (by omega)) (by omega) (by omega) hd (fun q cA H1 hK1 hP1 hD1 hS1 => ?_)
    have hcA : cA = cT 24 := by
      have h8 : ((tyl cT) ++ [(cA, .boolean)])[7]? = some (cA, .boolean) := rfl
      have h9 := (hK1.2 7 _ h8).2
      have h7 := (hKk.2 3 (cT 24, .boolean) rfl).2
      exact Option.some.inj (h9.symm.trans h7)
    refine W.widen (k := cs + 1) (n := ss + M) (Nat.le_refl _) (by omega) ?_
    intro T9 hT9 X9
    obtain ⟨q1, q2⟩ := znew X9 hT9 hP1 hD1 hw.1 (hex he)
    subst q1
    rw [zp_push (u' := sNew u 24 n.toNatClampNeg) hw rfl (zcell_up (hcell cA hcA) (fun b hb => sNew_o b hb))] at hP1
    exact h u.1 (sNew u 24 n.toNatClampNeg) r u' hf ls H1 locs hl q2 hP1 (sNew_wf hw) (fun z => by have := hex z; show _ ≤ u.1 + 1; omega) hS1 T9 hT9 X9
theorem jf_newq25 (hX : Cx X y cc nL ret d mc ms) (he : ex) {idx : Nat} (h1 : Cond.classLink y.cls idx RX2 ∈ tb) (h2 : Cond.arrayOver (.object RX2) ∈ lw_tbl) (M : Nat) (hM : M < 100000) (hcs : cs + 1 ≤ mc) (hss : ss + M ≤ ms) {n : Int32} (hd : decode cc pc = .ok (.anewarray idx, 3)) {kf : Nat → SG → Option (ρ × SG)} (h : ∀ a u1, JF X ex nL (cs + 1) (ss + M) Qf (pc + 3) lv (.ref a :: st) u1 (kf a u1)) : JF X ex nL cs ss Qf pc lv (.int n :: st) u (if n < 0 ∨ M < n.toNatClampNeg then none else nw u (sNew u 25 n.toNatClampNeg) kf) := by
  obtain ⟨p, l, e, R, s, m, args, below, meth, c, D, cT, z0, ks⟩ := X
  obtain ⟨hx, hb, hml, hown, hts, hKk, hz0, hRf, hRl, hRc, hRs, hSF, hret, hlk, hnm⟩ := hX
  intro r u' hf ls H locs hl hH hP hw hex hS
  by_cases hn : n < 0 ∨ M < n.toNatClampNeg
  · rw [if_pos hn] at hf; cases hf
  · rw [if_neg hn] at hf
    have hn1 : ¬ n < 0 := fun z => hn (Or.inl z)
    have hn2 : ¬ M < n.toNatClampNeg := fun z => hn (Or.inr z)
    have hcell : ∀ cA : ClassId, cA = cT 25 → zcell cT (sNew u 25 n.toNatClampNeg) u.1 = .inl (cA, n.toNatClampNeg, .inr (.inr (.inr (.inr (fun _ => none))))) := by
      intro cA hcA
      rw [zcell_arr (kd := 25) (by rw [sNew_K, if_pos rfl]) (by omega), hcA]
      unfold zarr
      rw [sNew_N, if_pos rfl]
      have e1 : zR (sNew u 25 n.toNatClampNeg) u.1 = fun _ => none := by funext k; rw [sNew_R, if_pos rfl]
      rw [e1]
      rfl
    refine va_newq (D := D) (C := RX2) hx hb hown (hts _ h1) (hSF.2.1 _ h2) hKk hP zp_D hS (fun q hq => Nat.le_trans hz0 hq) hn1 rfl (by omega) (by omega) (by omega) hd (fun q cA H1 hK1 hP1 hD1 hS1 => ?_)
    have hcA : cA = cT 25 := by
      have h8 : ((tyl cT) ++ [(cA, .object RX2)])[7]? = some (cA, .object RX2) := rfl
      obtain ⟨_, _, _, _, _, h9⟩ := (hK1.2 7 _ h8).2
      obtain ⟨_, _, _, _, _, h7⟩ := (hKk.2 4 (cT 25, .object RX2) rfl).2
      exact Option.some.inj (h9.symm.trans h7)
    refine W.widen (k := cs + 1) (n := ss + M) (Nat.le_refl _) (by omega) ?_
    intro T9 hT9 X9
    obtain ⟨q1, q2⟩ := znew X9 hT9 hP1 hD1 hw.1 (hex he)
    subst q1
    rw [zp_push (u' := sNew u 25 n.toNatClampNeg) hw rfl (zcell_up (hcell cA hcA) (fun b hb => sNew_o b hb))] at hP1
    exact h u.1 (sNew u 25 n.toNatClampNeg) r u' hf ls H1 locs hl q2 hP1 (sNew_wf hw) (fun z => by have := hex z; show _ ≤ u.1 + 1; omega) hS1 T9 hT9 X9
theorem jf_newq26 (hX : Cx X y cc nL ret d mc ms) (he : ex) {idx : Nat} (h1 : Cond.classLink y.cls idx RX4 ∈ tb) (h2 : Cond.arrayOver (.object RX4) ∈ lw_tbl) (M : Nat) (hM : M < 100000) (hcs : cs + 1 ≤ mc) (hss : ss + M ≤ ms) {n : Int32} (hd : decode cc pc = .ok (.anewarray idx, 3)) {kf : Nat → SG → Option (ρ × SG)} (h : ∀ a u1, JF X ex nL (cs + 1) (ss + M) Qf (pc + 3) lv (.ref a :: st) u1 (kf a u1)) : JF X ex nL cs ss Qf pc lv (.int n :: st) u (if n < 0 ∨ M < n.toNatClampNeg then none else nw u (sNew u 26 n.toNatClampNeg) kf) := by
  obtain ⟨p, l, e, R, s, m, args, below, meth, c, D, cT, z0, ks⟩ := X
  obtain ⟨hx, hb, hml, hown, hts, hKk, hz0, hRf, hRl, hRc, hRs, hSF, hret, hlk, hnm⟩ := hX
  intro r u' hf ls H locs hl hH hP hw hex hS
  by_cases hn : n < 0 ∨ M < n.toNatClampNeg
  · rw [if_pos hn] at hf; cases hf
  · rw [if_neg hn] at hf
    have hn1 : ¬ n < 0 := fun z => hn (Or.inl z)
    have hn2 : ¬ M < n.toNatClampNeg := fun z => hn (Or.inr z)
    have hcell : ∀ cA : ClassId, cA = cT 26 → zcell cT (sNew u 26 n.toNatClampNeg) u.1 = .inl (cA, n.toNatClampNeg, .inr (.inr (.inr (.inr (fun _ => none))))) := by
      intro cA hcA
      rw [zcell_arr (kd := 26) (by rw [sNew_K, if_pos rfl]) (by omega), hcA]
      unfold zarr
      rw [sNew_N, if_pos rfl]
      have e1 : zR (sNew u 26 n.toNatClampNeg) u.1 = fun _ => none := by funext k; rw [sNew_R, if_pos rfl]
      rw [e1]
      rfl
    refine va_newq (D := D) (C := RX4) hx hb hown (hts _ h1) (hSF.2.1 _ h2) hKk hP zp_D hS (fun q hq => Nat.le_trans hz0 hq) hn1 rfl (by omega) (by omega) (by omega) hd (fun q cA H1 hK1 hP1 hD1 hS1 => ?_)
    have hcA : cA = cT 26 := by
      have h8 : ((tyl cT) ++ [(cA, .object RX4)])[7]? = some (cA, .object RX4) := rfl
      obtain ⟨_, _, _, _, _, h9⟩ := (hK1.2 7 _ h8).2
      obtain ⟨_, _, _, _, _, h7⟩ := (hKk.2 5 (cT 26, .object RX4) rfl).2
      exact Option.some.inj (h9.symm.trans h7)
    refine W.widen (k := cs + 1) (n := ss + M) (Nat.le_refl _) (by omega) ?_
    intro T9 hT9 X9
    obtain ⟨q1, q2⟩ := znew X9 hT9 hP1 hD1 hw.1 (hex he)
    subst q1
    rw [zp_push (u' := sNew u 26 n.toNatClampNeg) hw rfl (zcell_up (hcell cA hcA) (fun b hb => sNew_o b hb))] at hP1
    exact h u.1 (sNew u 26 n.toNatClampNeg) r u' hf ls H1 locs hl q2 hP1 (sNew_wf hw) (fun z => by have := hex z; show _ ≤ u.1 + 1; omega) hS1 T9 hT9 X9
theorem jf_newq27 (hX : Cx X y cc nL ret d mc ms) (he : ex) {idx : Nat} (h1 : Cond.classLink y.cls idx RX6 ∈ tb) (h2 : Cond.arrayOver (.object RX6) ∈ lw_tbl) (M : Nat) (hM : M < 100000) (hcs : cs + 1 ≤ mc) (hss : ss + M ≤ ms) {n : Int32} (hd : decode cc pc = .ok (.anewarray idx, 3)) {kf : Nat → SG → Option (ρ × SG)} (h : ∀ a u1, JF X ex nL (cs + 1) (ss + M) Qf (pc + 3) lv (.ref a :: st) u1 (kf a u1)) : JF X ex nL cs ss Qf pc lv (.int n :: st) u (if n < 0 ∨ M < n.toNatClampNeg then none else nw u (sNew u 27 n.toNatClampNeg) kf) := by
  obtain ⟨p, l, e, R, s, m, args, below, meth, c, D, cT, z0, ks⟩ := X
  obtain ⟨hx, hb, hml, hown, hts, hKk, hz0, hRf, hRl, hRc, hRs, hSF, hret, hlk, hnm⟩ := hX
  intro r u' hf ls H locs hl hH hP hw hex hS
  by_cases hn : n < 0 ∨ M < n.toNatClampNeg
  · rw [if_pos hn] at hf; cases hf
  · rw [if_neg hn] at hf
    have hn1 : ¬ n < 0 := fun z => hn (Or.inl z)
    have hn2 : ¬ M < n.toNatClampNeg := fun z => hn (Or.inr z)
    have hcell : ∀ cA : ClassId, cA = cT 27 → zcell cT (sNew u 27 n.toNatClampNeg) u.1 = .inl (cA, n.toNatClampNeg, .inr (.inr (.inr (.inr (fun _ => none))))) := by
      intro cA hcA
      rw [zcell_arr (kd := 27) (by rw [sNew_K, if_pos rfl]) (by omega), hcA]
      unfold zarr
      rw [sNew_N, if_pos rfl]
      have e1 : zR (sNew u 27 n.toNatClampNeg) u.1 = fun _ => none := by funext k; rw [sNew_R, if_pos rfl]
      rw [e1]
      rfl
    refine va_newq (D := D) (C := RX6) hx hb hown (hts _ h1) (hSF.2.1 _ h2) hKk hP zp_D hS (fun q hq => Nat.le_trans hz0 hq) hn1 rfl (by omega) (by omega) (by omega) hd (fun q cA H1 hK1 hP1 hD1 hS1 => ?_)
    have hcA : cA = cT 27 := by
      have h8 : ((tyl cT) ++ [(cA, .object RX6)])[7]? = some (cA, .object RX6) := rfl
      obtain ⟨_, _, _, _, _, h9⟩ := (hK1.2 7 _ h8).2
      obtain ⟨_, _, _, _, _, h7⟩ := (hKk.2 6 (cT 27, .object RX6) rfl).2
      exact Option.some.inj (h9.symm.trans h7)
    refine W.widen (k := cs + 1) (n := ss + M) (Nat.le_refl _) (by omega) ?_
    intro T9 hT9 X9
    obtain ⟨q1, q2⟩ := znew X9 hT9 hP1 hD1 hw.1 (hex he)
    subst q1
    rw [zp_push (u' := sNew u 27 n.toNatClampNeg) hw rfl (zcell_up (hcell cA hcA) (fun b hb => sNew_o b hb))] at hP1
    exact h u.1 (sNew u 27 n.toNatClampNeg) r u' hf ls H1 locs hl q2 hP1 (sNew_wf hw) (fun z => by have := hex z; show _ ≤ u.1 + 1; omega) hS1 T9 hT9 X9
end ROWS3
