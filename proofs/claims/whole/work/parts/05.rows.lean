def tb : List Cond := lw_tbl.filter goodWord
theorem tb_good : ∀ w ∈ tb, goodWord w = true := fun w h => (List.mem_filter.mp h).2
theorem tb_in {w : Cond} (h : w ∈ lw_tbl) (g : goodWord w = true) : w ∈ tb := List.mem_filter.mpr ⟨h, g⟩
theorem tb_gi {ws : List Cond} (h : ∀ w ∈ ws, w ∈ tb) : GoodIn tb ws := fun w hw => ⟨h w hw, good_of_word (tb_good w (h w hw))⟩
def jtx : String := "person hour night need worth slept left cost others asleep owed debt own street work lamp lit sleep if or and not"
def jby : List Int32 := [112, 101, 114, 115, 111, 110, 32, 104, 111, 117, 114, 32, 110, 105, 103, 104, 116, 32, 110, 101, 101, 100, 32, 119, 111, 114, 116, 104, 32, 115, 108, 101, 112, 116, 32, 108, 101, 102, 116, 32, 99, 111, 115, 116, 32, 111, 116, 104, 101, 114, 115, 32, 97, 115, 108, 101, 101, 112, 32, 111, 119, 101, 100, 32, 100, 101, 98, 116, 32, 111, 119, 110, 32, 115, 116, 114, 101, 101, 116, 32, 119, 111, 114, 107, 32, 108, 97, 109, 112, 32, 108, 105, 116, 32, 115, 108, 101, 101, 112, 32, 105, 102, 32, 111, 114, 32, 97, 110, 100, 32, 110, 111, 116]
def jln : Nat := 113
/-- what isn't in the tables' lasting words: nest mates' links, arrays of references, the text of WORDS -/
def jSF (z0 : Nat) (ks : Nat × Nat) (U : State) : Prop := (∀ a i x h, Cond.methodLinkNest a i x h ∈ lw_tbl → va_Nw (.methodLinkNest a i x h) U) ∧ (∀ C, Cond.arrayOver (.object C) ∈ lw_tbl → va_AO C U) ∧ ∃ adK adV : Nat → Nat, adK 0 = ks.1 ∧ adV 0 = ks.2 ∧ vk_S 1 [jln] [jby] adK adV (fun q => z0 ≤ q) U U.heap ∧ vk_R RX9 81 jtx ks.1 U ∧ va_Z "java/lang/String" "COMPACT_STRINGS" "Z" (.int 1) (fun q => z0 ≤ q) U U.heap ∧ va_Zq "jdk/internal/util/Preconditions" "SIOOBE_FORMATTER" "Ljava/util/function/BiFunction;" (fun q => z0 ≤ q) U U.heap
theorem jSF_to {z0 : Nat} {ks : Nat × Nat} {s U : State} {H : Heap} {locs : List Loc} (h : jSF z0 ks s) (hS : va_S (fun q => z0 ≤ q) s.heap H locs) (hU : U.heap = H) (hW : s.WarmedH U.vm) : jSF z0 ks U := by
  obtain ⟨h1, h2, adK, adV, h3, h3', h4, h5, h6, h7⟩ := h
  refine ⟨fun a i x h hm => (h1 a i x h hm).warmM hW, fun C hm => (h2 C hm).moved hW.alike, adK, adV, h3, h3', ?_, h5.warm hW, ?_, ?_⟩
  · exact (h4.kept (H1 := U.heap) (by rw [hU]; exact hS.2.1)).moved hW.alike
  · exact (h6.kept (H1 := U.heap) (by rw [hU]; exact hS.2.1)).moved hW.alike
  · exact (h7.kept (H1 := U.heap) (by rw [hU]; exact hS.2.1)).moved hW.alike
def jPc (D : va_G) (cT : Nat → ClassId) (z0 : Nat) (ks : Nat × Nat) (u : SG) (U : State) : Prop := U.heap.size = u.1 ∧ va_P D vwCl (zp cT z0 u) U.heap ∧ va_K D vwCl (tyl cT) U ∧ zwf z0 u ∧ jSF z0 ks U
def jQc (D : va_G) (cT : Nat → ClassId) (z0 : Nat) (v : Option Value) (u' : SG) : Array Value → State → Outcome → State → Prop := fun _ st o t => (o = .returned v ∧ t.heap.size = u'.1 ∧ va_P D vwCl (zp cT z0 u') t.heap ∧ zwf z0 u') ∧ va_F (fun q => z0 ≤ q) st t
abbrev XT : Type := Program × Launch × Env × Room × State × MethodId × Array Value × List Frame × Method × Code × va_G × (Nat → ClassId) × Nat × (Nat × Nat)
def Cx (X : XT) (y : MethodName) (cc : ByteArray) (nL : Nat) (ret : Option FieldType) (d mc ms : Nat) : Prop := match X with
  | (p, _, _, R, s, m, args, _, meth, c, D, cT, z0, ks) => p.tables.exec = Jvm.exec ∧ c.code = cc ∧ c.maxLocals = nL ∧ s.vm.findClass y.cls = some m.cls ∧ (∀ w ∈ tb, w.before args s = true) ∧ va_K D vwCl (tyl cT) s ∧ z0 ≤ s.heap.size ∧ d ≤ R.frames ∧ 60 * d ≤ R.locals ∧ mc ≤ R.cells ∧ ms ≤ R.slots ∧ jSF z0 ks s ∧ meth.sig.returnType = ret ∧ meth.locks = false ∧ (y.name = "<init>" → meth.name = y.name)
def Xks (X : XT) : Nat × Nat := X.2.2.2.2.2.2.2.2.2.2.2.2.2
def J (X : XT) (ex : Prop) (nL cells slots : Nat) (Q : State → Prop) (pc : Nat) (lv : List (Nat × Value)) (st : List Value) (u : SG) : Prop := match X with
  | (p, l, e, R, s, m, args, below, meth, c, D, cT, z0, _) => ∀ (ls : Array Slot) (H : Heap) (locs : List Loc), lv_has ls nL lv → H.size = u.1 → va_P D vwCl (zp cT z0 u) H → zwf z0 u → (ex → s.heap.size + cells ≤ u.1) → va_S (fun q => z0 ≤ q) s.heap H locs → W p l e R s m args below meth c H locs cells slots Q (F0 m pc ls st)
def JF (X : XT) (ex : Prop) (nL cells slots : Nat) {ρ : Type} (Qf : ρ → SG → State → Prop) (pc : Nat) (lv : List (Nat × Value)) (st : List Value) (u : SG) (fx : Option (ρ × SG)) : Prop := ∀ (r : ρ) (u' : SG), fx = some (r, u') → J X ex nL cells slots (Qf r u') pc lv st u
def jQ (X : XT) {ρ : Type} (toV : ρ → Option Value) (mc ms : Nat) : ρ → SG → State → Prop := match X with
  | (_, _, _, _, s, _, args, below, _, _, D, cT, z0, _) => fun r u' => MQ below (jQc D cT z0 (toV r) u') args s mc ms (fun q => z0 ≤ q)
def vI (r : Int32) : Option Value := some (.int r)
def vL (r : Int64) : Option Value := some (.long r)
def vR (r : Option Nat) : Option Value := some (va_rf r)
def vU (_ : Unit) : Option Value := none
def Ct (l : Launch) (D : va_G) (cT : Nat → ClassId) (z0 : Nat) (ks : Nat × Nat) (y : MethodName) (cc : ByteArray) (nL : Nat) (ret : Option FieldType) (d mc ms : Nat) {ρ : Type} (toV : ρ → Option Value) (av : List Value) (u : SG) (fx : Option (ρ × SG)) : Prop :=
  ∀ (r : ρ) (u' : SG), fx = some (r, u') → Met l y (.code y cc nL ret :: tb) { frames := d, cells := mc, slots := ms, locals := 60 * d } (va_Pc av (jPc D cT z0 ks u)) (jQc D cT z0 (toV r) u') mc ms (fun q => z0 ≤ q)
/-- a name for a value -/
def bs {α β : Type} (x : α) (k : α → Option β) : Option β := k x
theorem jblind {D : va_G} {cT : Nat → ClassId} {z0 : Nat} {ks : Nat × Nat} {u : SG} {av : List Value} : FrameBlind (va_Pc av (jPc D cT z0 ks u)) := by
  intro a U g mk h
  obtain ⟨h1, h2, h3, h4, h5, h6⟩ := h
  refine ⟨h1, h2, h3, va_K.moved (u := U) (U := U.calling g mk a) (Vm.Alike.refl U.vm) h4, h5, ?_⟩
  obtain ⟨g1, g2, adK, adV, g3, g3', g4, g5, g6, g7⟩ := h6
  exact ⟨fun a2 i x h hm => (g1 a2 i x h hm).same rfl (U := U.calling g mk a) rfl, fun C hm => (g2 C hm).moved (U := U.calling g mk a) (Vm.Alike.refl U.vm), adK, adV, g3, g3', g4.moved (U := U.calling g mk a) (Vm.Alike.refl U.vm), g5.same (U := U.calling g mk a) rfl, g6.moved (U := U.calling g mk a) (Vm.Alike.refl U.vm), g7.moved (U := U.calling g mk a) (Vm.Alike.refl U.vm)⟩
set_option maxHeartbeats 1000000 in
theorem ct_of {l : Launch} {D : va_G} {cT : Nat → ClassId} {z0 : Nat} {ks : Nat × Nat} {y : MethodName} {cc : ByteArray} {nL : Nat} {ret : Option FieldType} {d mc ms : Nat} {ρ : Type} {toV : ρ → Option Value} {av : List Value} {u : SG} {fx : Option (ρ × SG)} (hy : plainFor y = true) (hn : (lg_sl av).length ≤ nL)
    (body : ∀ p e R s m args below meth c, Cx (p, l, e, R, s, m, args, below, meth, c, D, cT, z0, ks) y cc nL ret d mc ms → JF (p, l, e, R, s, m, args, below, meth, c, D, cT, z0, ks) True nL 0 0 (jQ (p, l, e, R, s, m, args, below, meth, c, D, cT, z0, ks) toV mc ms) 0 (lv_args 0 av) [] u fx) : Ct l D cT z0 ks y cc nL ret d mc ms toV av u fx := by
  intro r u' hf
  refine va_MetF (cc := cc) (maxL := nL) (ret := ret) hy rfl ?_
  intro p e s m args below meth c s₁ B hml hv
  obtain ⟨rfl, hsz, hP, hK, hwf, hSF⟩ := hv
  have hts0 := atoms_spec (ws := .code y cc nL ret :: tb) B.pre
  have hbody := body p e (headSpec (.code y cc nL ret :: tb) { frames := d, cells := mc, slots := ms, locals := 60 * d }).room s m av.toArray below meth c
    ⟨B.exec, B.bytes, hml, findClass_of_methodNamed B.named, fun w hw => hts0 w (List.mem_cons_of_mem _ hw), hK, by rw [hsz]; exact hwf.1, Nat.le_refl _, Nat.le_refl _, Nat.le_refl _, Nat.le_refl _, hSF, B.returns, B.notSynchronized, fun _ => (name_of_methodNamed B.named B.method).1⟩
  rw [lg_entry_eq]
  exact hbody r u' hf _ s.heap [] (lv_entry av hn) hsz hP hwf (fun _ => by omega) va_S.rf

theorem zsize {p : Program} {l : Launch} {e : Env} {R : Room} {s : State} {m : MethodId} {args : Array Value} {below : List Frame} {meth : Method} {c : Code} {T : State} {locs locs1 : List Loc} {cells slots : Nat} {D : va_G} {cT : Nat → ClassId} {z0 : Nat} {u : SG} {H : Heap} (X : Stand p l e R s m args below meth c T locs cells slots) (hT : T.heap = H) (hP : va_P D vwCl (zp cT z0 u) H) (hS : va_S (fun q => z0 ≤ q) s.heap H locs1) (hz : z0 ≤ s.heap.size) (hx : s.heap.size + cells ≤ u.1) : H.size = u.1 := by
  have h1 : T.heap.size ≤ s.heap.size + cells := X.same.2.2.1
  rw [hT] at h1
  have h2 := hS.1
  by_cases h3 : u.1 = z0
  · omega
  · have h4 : (u.1 - 1) ∈ zrng z0 u := by unfold zrng; rw [List.mem_range'_1]; omega
    obtain ⟨k, hk⟩ := va_pl_get (X := []) (f := zcell cT u) h4
    have h5 : u.1 - 1 < H.size := (hP k _ hk).lt
    omega
section ROWS
variable {X : XT} {ex : Prop} {y : MethodName} {cc : ByteArray} {nL : Nat} {ret : Option FieldType} {d mc ms cs ss : Nat} {ρ : Type} {Qf : ρ → SG → State → Prop} {pc : Nat} {lv : List (Nat × Value)} {st : List Value} {u : SG} {fx fy : Option (ρ × SG)}
theorem jf_iconst (hX : Cx X y cc nL ret d mc ms) {n : Int} {v : Int32} (hd : decode cc pc = .ok (.iconst n, 1)) (hv : Int32.ofInt n = v) (h : JF X ex nL cs ss Qf (pc + 1) lv (.int v :: st) u fx) : JF X ex nL cs ss Qf pc lv (st) u fx := by
  obtain ⟨p, l, e, R, s, m, args, below, meth, c, D, cT, z0, ks⟩ := X
  obtain ⟨hx, hb, hml, hown, hts, hKk, hz0, hRf, hRl, hRc, hRs, hSF, hret, hlk, hnm⟩ := hX
  intro r u' hf ls H locs hl hH hP hw hex hS
  exact lv_iconst hx hb hd hv (h r u' hf ls H locs hl hH hP hw hex hS)
theorem jf_bipush (hX : Cx X y cc nL ret d mc ms) {n : Int} {v : Int32} (hd : decode cc pc = .ok (.bipush n, 2)) (hv : (Int8.ofInt n).toInt32 = v) (h : JF X ex nL cs ss Qf (pc + 2) lv (.int v :: st) u fx) : JF X ex nL cs ss Qf pc lv (st) u fx := by
  obtain ⟨p, l, e, R, s, m, args, below, meth, c, D, cT, z0, ks⟩ := X
  obtain ⟨hx, hb, hml, hown, hts, hKk, hz0, hRf, hRl, hRc, hRs, hSF, hret, hlk, hnm⟩ := hX
  intro r u' hf ls H locs hl hH hP hw hex hS
  exact lv_bipush hx hb hd hv (h r u' hf ls H locs hl hH hP hw hex hS)
theorem jf_sipush (hX : Cx X y cc nL ret d mc ms) {n : Int} {v : Int32} (hd : decode cc pc = .ok (.sipush n, 3)) (hv : (Int16.ofInt n).toInt32 = v) (h : JF X ex nL cs ss Qf (pc + 3) lv (.int v :: st) u fx) : JF X ex nL cs ss Qf pc lv (st) u fx := by
  obtain ⟨p, l, e, R, s, m, args, below, meth, c, D, cT, z0, ks⟩ := X
  obtain ⟨hx, hb, hml, hown, hts, hKk, hz0, hRf, hRl, hRc, hRs, hSF, hret, hlk, hnm⟩ := hX
  intro r u' hf ls H locs hl hH hP hw hex hS
  exact lv_sipush hx hb hd hv (h r u' hf ls H locs hl hH hP hw hex hS)
theorem jf_lconst (hX : Cx X y cc nL ret d mc ms) {n : Fin 2} {v : Int64} (hd : decode cc pc = .ok (.lconst n, 1)) (hv : Int64.ofNat (n : Nat) = v) (h : JF X ex nL cs ss Qf (pc + 1) lv (.long v :: st) u fx) : JF X ex nL cs ss Qf pc lv (st) u fx := by
  obtain ⟨p, l, e, R, s, m, args, below, meth, c, D, cT, z0, ks⟩ := X
  obtain ⟨hx, hb, hml, hown, hts, hKk, hz0, hRf, hRl, hRc, hRs, hSF, hret, hlk, hnm⟩ := hX
  intro r u' hf ls H locs hl hH hP hw hex hS
  exact lv_lconst hx hb hd hv (h r u' hf ls H locs hl hH hP hw hex hS)
theorem jf_ldc (hX : Cx X y cc nL ret d mc ms) {i : Nat} {v : Int32} (hd : decode cc pc = .ok (.ldc i, 2)) (hv : Cond.constant y.cls i v ∈ tb) (h : JF X ex nL cs ss Qf (pc + 2) lv (.int v :: st) u fx) : JF X ex nL cs ss Qf pc lv (st) u fx := by
  obtain ⟨p, l, e, R, s, m, args, below, meth, c, D, cT, z0, ks⟩ := X
  obtain ⟨hx, hb, hml, hown, hts, hKk, hz0, hRf, hRl, hRc, hRs, hSF, hret, hlk, hnm⟩ := hX
  intro r u' hf ls H locs hl hH hP hw hex hS
  exact lv_ldc hx hb hown (hts _ hv) hd (h r u' hf ls H locs hl hH hP hw hex hS)
theorem jf_ldcw (hX : Cx X y cc nL ret d mc ms) {i : Nat} {v : Int32} (hd : decode cc pc = .ok (.ldc_w i, 3)) (hv : Cond.constant y.cls i v ∈ tb) (h : JF X ex nL cs ss Qf (pc + 3) lv (.int v :: st) u fx) : JF X ex nL cs ss Qf pc lv (st) u fx := by
  obtain ⟨p, l, e, R, s, m, args, below, meth, c, D, cT, z0, ks⟩ := X
  obtain ⟨hx, hb, hml, hown, hts, hKk, hz0, hRf, hRl, hRc, hRs, hSF, hret, hlk, hnm⟩ := hX
  intro r u' hf ls H locs hl hH hP hw hex hS
  exact lv_ldcw hx hb hown (hts _ hv) hd (h r u' hf ls H locs hl hH hP hw hex hS)
theorem jf_ldc2 (hX : Cx X y cc nL ret d mc ms) {i : Nat} {v : Int64} (hd : decode cc pc = .ok (.ldc2_w i, 3)) (hv : Cond.constantLong y.cls i v ∈ tb) (h : JF X ex nL cs ss Qf (pc + 3) lv (.long v :: st) u fx) : JF X ex nL cs ss Qf pc lv (st) u fx := by
  obtain ⟨p, l, e, R, s, m, args, below, meth, c, D, cT, z0, ks⟩ := X
  obtain ⟨hx, hb, hml, hown, hts, hKk, hz0, hRf, hRl, hRc, hRs, hSF, hret, hlk, hnm⟩ := hX
  intro r u' hf ls H locs hl hH hP hw hex hS
  exact lv_ldc2 hx hb hown (hts _ hv) hd (h r u' hf ls H locs hl hH hP hw hex hS)
theorem jf_null (hX : Cx X y cc nL ret d mc ms) (hd : decode cc pc = .ok (.aconst_null, 1)) (h : JF X ex nL cs ss Qf (pc + 1) lv (.null :: st) u fx) : JF X ex nL cs ss Qf pc lv (st) u fx := by
  obtain ⟨p, l, e, R, s, m, args, below, meth, c, D, cT, z0, ks⟩ := X
  obtain ⟨hx, hb, hml, hown, hts, hKk, hz0, hRf, hRl, hRc, hRs, hSF, hret, hlk, hnm⟩ := hX
  intro r u' hf ls H locs hl hH hP hw hex hS
  exact lv_null hx hb hd (h r u' hf ls H locs hl hH hP hw hex hS)
theorem jf_iload_n (hX : Cx X y cc nL ret d mc ms) {k0 : Fin 4} (hd : decode cc pc = .ok (.iload_n k0, 1)) (k : Nat) {x : Int32} (hk : lv[k]? = some ((k0 : Nat), .int x)) (h : JF X ex nL cs ss Qf (pc + 1) lv (.int x :: st) u fx) : JF X ex nL cs ss Qf pc lv (st) u fx := by
  obtain ⟨p, l, e, R, s, m, args, below, meth, c, D, cT, z0, ks⟩ := X
  obtain ⟨hx, hb, hml, hown, hts, hKk, hz0, hRf, hRl, hRc, hRs, hSF, hret, hlk, hnm⟩ := hX
  intro r u' hf ls H locs hl hH hP hw hex hS
  exact lv_iload_n hx hb hd rfl (lv_at hl k hk) (h r u' hf ls H locs hl hH hP hw hex hS)
theorem jf_iload (hX : Cx X y cc nL ret d mc ms) {i : Nat} (hd : decode cc pc = .ok (.iload i, 2)) (k : Nat) {x : Int32} (hk : lv[k]? = some (i, .int x)) (h : JF X ex nL cs ss Qf (pc + 2) lv (.int x :: st) u fx) : JF X ex nL cs ss Qf pc lv (st) u fx := by
  obtain ⟨p, l, e, R, s, m, args, below, meth, c, D, cT, z0, ks⟩ := X
  obtain ⟨hx, hb, hml, hown, hts, hKk, hz0, hRf, hRl, hRc, hRs, hSF, hret, hlk, hnm⟩ := hX
  intro r u' hf ls H locs hl hH hP hw hex hS
  exact lv_iload hx hb hd (lv_at hl k hk) (h r u' hf ls H locs hl hH hP hw hex hS)
theorem jf_lload_n (hX : Cx X y cc nL ret d mc ms) {k0 : Fin 4} (hd : decode cc pc = .ok (.lload_n k0, 1)) (k : Nat) {x : Int64} (hk : lv[k]? = some ((k0 : Nat), .long x)) (h : JF X ex nL cs ss Qf (pc + 1) lv (.long x :: st) u fx) : JF X ex nL cs ss Qf pc lv (st) u fx := by
  obtain ⟨p, l, e, R, s, m, args, below, meth, c, D, cT, z0, ks⟩ := X
  obtain ⟨hx, hb, hml, hown, hts, hKk, hz0, hRf, hRl, hRc, hRs, hSF, hret, hlk, hnm⟩ := hX
  intro r u' hf ls H locs hl hH hP hw hex hS
  exact lv_lload_n hx hb hd rfl (lv_at hl k hk) (h r u' hf ls H locs hl hH hP hw hex hS)
theorem jf_lload (hX : Cx X y cc nL ret d mc ms) {i : Nat} (hd : decode cc pc = .ok (.lload i, 2)) (k : Nat) {x : Int64} (hk : lv[k]? = some (i, .long x)) (h : JF X ex nL cs ss Qf (pc + 2) lv (.long x :: st) u fx) : JF X ex nL cs ss Qf pc lv (st) u fx := by
  obtain ⟨p, l, e, R, s, m, args, below, meth, c, D, cT, z0, ks⟩ := X
  obtain ⟨hx, hb, hml, hown, hts, hKk, hz0, hRf, hRl, hRc, hRs, hSF, hret, hlk, hnm⟩ := hX
  intro r u' hf ls H locs hl hH hP hw hex hS
  exact lv_lload hx hb hd (lv_at hl k hk) (h r u' hf ls H locs hl hH hP hw hex hS)
theorem jf_aload_n (hX : Cx X y cc nL ret d mc ms) {k0 : Fin 4} (hd : decode cc pc = .ok (.aload_n k0, 1)) (k : Nat) {x : Nat} (hk : lv[k]? = some ((k0 : Nat), .ref x)) (h : JF X ex nL cs ss Qf (pc + 1) lv (.ref x :: st) u fx) : JF X ex nL cs ss Qf pc lv (st) u fx := by
  obtain ⟨p, l, e, R, s, m, args, below, meth, c, D, cT, z0, ks⟩ := X
  obtain ⟨hx, hb, hml, hown, hts, hKk, hz0, hRf, hRl, hRc, hRs, hSF, hret, hlk, hnm⟩ := hX
  intro r u' hf ls H locs hl hH hP hw hex hS
  exact lv_aload_n hx hb hd rfl (lv_at hl k hk) (h r u' hf ls H locs hl hH hP hw hex hS)
theorem jf_aload (hX : Cx X y cc nL ret d mc ms) {i : Nat} (hd : decode cc pc = .ok (.aload i, 2)) (k : Nat) {x : Nat} (hk : lv[k]? = some (i, .ref x)) (h : JF X ex nL cs ss Qf (pc + 2) lv (.ref x :: st) u fx) : JF X ex nL cs ss Qf pc lv (st) u fx := by
  obtain ⟨p, l, e, R, s, m, args, below, meth, c, D, cT, z0, ks⟩ := X
  obtain ⟨hx, hb, hml, hown, hts, hKk, hz0, hRf, hRl, hRc, hRs, hSF, hret, hlk, hnm⟩ := hX
  intro r u' hf ls H locs hl hH hP hw hex hS
  exact lv_aload hx hb hd (lv_at hl k hk) (h r u' hf ls H locs hl hH hP hw hex hS)
theorem jf_aload_nq (hX : Cx X y cc nL ret d mc ms) {k0 : Fin 4} (hd : decode cc pc = .ok (.aload_n k0, 1)) (k : Nat) {x : Option Nat} (hk : lv[k]? = some ((k0 : Nat), va_rf x)) (h : JF X ex nL cs ss Qf (pc + 1) lv (va_rf x :: st) u fx) : JF X ex nL cs ss Qf pc lv st u fx := by
  obtain ⟨p, l, e, R, s, m, args, below, meth, c, D, cT, z0, ks⟩ := X
  obtain ⟨hx, hb, hml, hown, hts, hKk, hz0, hRf, hRl, hRc, hRs, hSF, hret, hlk, hnm⟩ := hX
  intro r u' hf ls H locs hl hH hP hw hex hS
  have h9 := h r u' hf ls H locs hl hH hP hw hex hS
  cases x with
  | none => exact lv_aload_nN hx hb hd rfl (lv_at hl k hk) h9
  | some q => exact lv_aload_n hx hb hd rfl (lv_at hl k hk) h9
theorem jf_aload_q (hX : Cx X y cc nL ret d mc ms) {i : Nat} (hd : decode cc pc = .ok (.aload i, 2)) (k : Nat) {x : Option Nat} (hk : lv[k]? = some (i, va_rf x)) (h : JF X ex nL cs ss Qf (pc + 2) lv (va_rf x :: st) u fx) : JF X ex nL cs ss Qf pc lv st u fx := by
  obtain ⟨p, l, e, R, s, m, args, below, meth, c, D, cT, z0, ks⟩ := X
  obtain ⟨hx, hb, hml, hown, hts, hKk, hz0, hRf, hRl, hRc, hRs, hSF, hret, hlk, hnm⟩ := hX
  intro r u' hf ls H locs hl hH hP hw hex hS
  have h9 := h r u' hf ls H locs hl hH hP hw hex hS
  cases x with
  | none => exact lv_aloadN hx hb hd (lv_at hl k hk) h9
  | some q => exact lv_aload hx hb hd (lv_at hl k hk) h9
theorem jf_istore_n (hX : Cx X y cc nL ret d mc ms) {i : Nat} {lv' : List (Nat × Value)} {k0 : Fin 4} {x : Int32} (hd : decode cc pc = .ok (.istore_n k0, 1)) (hi : (k0 : Nat) = i) (hn : i < nL) (hlv : (i, Value.int x) :: lv.filter (fun q => !(q.1 == i) && !(q.1 + 1 == i && q.2.category == 2)) = lv') (h : JF X ex nL cs ss Qf (pc + 1) lv' st u fx) : JF X ex nL cs ss Qf pc lv (.int x :: st) u fx := by
  obtain ⟨p, l, e, R, s, m, args, below, meth, c, D, cT, z0, ks⟩ := X
  obtain ⟨hx, hb, hml, hown, hts, hKk, hz0, hRf, hRl, hRc, hRs, hSF, hret, hlk, hnm⟩ := hX
  intro r u' hf ls H locs hl hH hP hw hex hS
  exact lv_istore_n hx hb hd hi hl hn hlv (fun ls hl => h r u' hf ls H locs hl hH hP hw hex hS)
theorem jf_istore (hX : Cx X y cc nL ret d mc ms) {i : Nat} {lv' : List (Nat × Value)} {x : Int32} (hd : decode cc pc = .ok (.istore i, 2)) (hn : i < nL) (hlv : (i, Value.int x) :: lv.filter (fun q => !(q.1 == i) && !(q.1 + 1 == i && q.2.category == 2)) = lv') (h : JF X ex nL cs ss Qf (pc + 2) lv' st u fx) : JF X ex nL cs ss Qf pc lv (.int x :: st) u fx := by
  obtain ⟨p, l, e, R, s, m, args, below, meth, c, D, cT, z0, ks⟩ := X
  obtain ⟨hx, hb, hml, hown, hts, hKk, hz0, hRf, hRl, hRc, hRs, hSF, hret, hlk, hnm⟩ := hX
  intro r u' hf ls H locs hl hH hP hw hex hS
  exact lv_istore hx hb hd hl hn hlv (fun ls hl => h r u' hf ls H locs hl hH hP hw hex hS)
theorem jf_lstore_n (hX : Cx X y cc nL ret d mc ms) {i : Nat} {lv' : List (Nat × Value)} {k0 : Fin 4} {x : Int64} (hd : decode cc pc = .ok (.lstore_n k0, 1)) (hi : (k0 : Nat) = i) (hn : i + 1 < nL) (hlv : (i, Value.long x) :: lv.filter (fun q => !(q.1 == i) && (!(q.1 == i + 1) && !(q.1 + 1 == i && q.2.category == 2))) = lv') (h : JF X ex nL cs ss Qf (pc + 1) lv' st u fx) : JF X ex nL cs ss Qf pc lv (.long x :: st) u fx := by
  obtain ⟨p, l, e, R, s, m, args, below, meth, c, D, cT, z0, ks⟩ := X
  obtain ⟨hx, hb, hml, hown, hts, hKk, hz0, hRf, hRl, hRc, hRs, hSF, hret, hlk, hnm⟩ := hX
  intro r u' hf ls H locs hl hH hP hw hex hS
  exact lv_lstore_n hx hb hd hi hl hn hlv (fun ls hl => h r u' hf ls H locs hl hH hP hw hex hS)
theorem jf_lstore (hX : Cx X y cc nL ret d mc ms) {i : Nat} {lv' : List (Nat × Value)} {x : Int64} (hd : decode cc pc = .ok (.lstore i, 2)) (hn : i + 1 < nL) (hlv : (i, Value.long x) :: lv.filter (fun q => !(q.1 == i) && (!(q.1 == i + 1) && !(q.1 + 1 == i && q.2.category == 2))) = lv') (h : JF X ex nL cs ss Qf (pc + 2) lv' st u fx) : JF X ex nL cs ss Qf pc lv (.long x :: st) u fx := by
  obtain ⟨p, l, e, R, s, m, args, below, meth, c, D, cT, z0, ks⟩ := X
  obtain ⟨hx, hb, hml, hown, hts, hKk, hz0, hRf, hRl, hRc, hRs, hSF, hret, hlk, hnm⟩ := hX
  intro r u' hf ls H locs hl hH hP hw hex hS
  exact lv_lstore hx hb hd hl hn hlv (fun ls hl => h r u' hf ls H locs hl hH hP hw hex hS)
theorem jf_astore_n (hX : Cx X y cc nL ret d mc ms) {i : Nat} {lv' : List (Nat × Value)} {k0 : Fin 4} {x : Nat} (hd : decode cc pc = .ok (.astore_n k0, 1)) (hi : (k0 : Nat) = i) (hn : i < nL) (hlv : (i, Value.ref x) :: lv.filter (fun q => !(q.1 == i) && !(q.1 + 1 == i && q.2.category == 2)) = lv') (h : JF X ex nL cs ss Qf (pc + 1) lv' st u fx) : JF X ex nL cs ss Qf pc lv (.ref x :: st) u fx := by
  obtain ⟨p, l, e, R, s, m, args, below, meth, c, D, cT, z0, ks⟩ := X
  obtain ⟨hx, hb, hml, hown, hts, hKk, hz0, hRf, hRl, hRc, hRs, hSF, hret, hlk, hnm⟩ := hX
  intro r u' hf ls H locs hl hH hP hw hex hS
  exact lv_astore_n hx hb hd hi hl hn hlv (fun ls hl => h r u' hf ls H locs hl hH hP hw hex hS)
theorem jf_astore (hX : Cx X y cc nL ret d mc ms) {i : Nat} {lv' : List (Nat × Value)} {x : Nat} (hd : decode cc pc = .ok (.astore i, 2)) (hn : i < nL) (hlv : (i, Value.ref x) :: lv.filter (fun q => !(q.1 == i) && !(q.1 + 1 == i && q.2.category == 2)) = lv') (h : JF X ex nL cs ss Qf (pc + 2) lv' st u fx) : JF X ex nL cs ss Qf pc lv (.ref x :: st) u fx := by
  obtain ⟨p, l, e, R, s, m, args, below, meth, c, D, cT, z0, ks⟩ := X
  obtain ⟨hx, hb, hml, hown, hts, hKk, hz0, hRf, hRl, hRc, hRs, hSF, hret, hlk, hnm⟩ := hX
  intro r u' hf ls H locs hl hH hP hw hex hS
  exact lv_astore hx hb hd hl hn hlv (fun ls hl => h r u' hf ls H locs hl hH hP hw hex hS)
theorem jf_astore_nq (hX : Cx X y cc nL ret d mc ms) {i : Nat} {lv' : List (Nat × Value)} {k0 : Fin 4} {x : Option Nat} (hd : decode cc pc = .ok (.astore_n k0, 1)) (hi : (k0 : Nat) = i) (hn : i < nL) (hlv : (i, va_rf x) :: lv.filter (fun q => !(q.1 == i) && !(q.1 + 1 == i && q.2.category == 2)) = lv') (h : JF X ex nL cs ss Qf (pc + 1) lv' st u fx) : JF X ex nL cs ss Qf pc lv (va_rf x :: st) u fx := by
  obtain ⟨p, l, e, R, s, m, args, below, meth, c, D, cT, z0, ks⟩ := X
  obtain ⟨hx, hb, hml, hown, hts, hKk, hz0, hRf, hRl, hRc, hRs, hSF, hret, hlk, hnm⟩ := hX
  intro r u' hf ls H locs hl hH hP hw hex hS
  cases x with
  | none => exact lv_astore_nN hx hb hd hi hl hn hlv (fun ls hl => h r u' hf ls H locs hl hH hP hw hex hS)
  | some q => exact lv_astore_n hx hb hd hi hl hn hlv (fun ls hl => h r u' hf ls H locs hl hH hP hw hex hS)
theorem jf_astore_q (hX : Cx X y cc nL ret d mc ms) {i : Nat} {lv' : List (Nat × Value)} {x : Option Nat} (hd : decode cc pc = .ok (.astore i, 2)) (hn : i < nL) (hlv : (i, va_rf x) :: lv.filter (fun q => !(q.1 == i) && !(q.1 + 1 == i && q.2.category == 2)) = lv') (h : JF X ex nL cs ss Qf (pc + 2) lv' st u fx) : JF X ex nL cs ss Qf pc lv (va_rf x :: st) u fx := by
  obtain ⟨p, l, e, R, s, m, args, below, meth, c, D, cT, z0, ks⟩ := X
  obtain ⟨hx, hb, hml, hown, hts, hKk, hz0, hRf, hRl, hRc, hRs, hSF, hret, hlk, hnm⟩ := hX
  intro r u' hf ls H locs hl hH hP hw hex hS
  cases x with
  | none => exact lv_astoreN hx hb hd hl hn hlv (fun ls hl => h r u' hf ls H locs hl hH hP hw hex hS)
  | some q => exact lv_astore hx hb hd hl hn hlv (fun ls hl => h r u' hf ls H locs hl hH hP hw hex hS)
theorem jf_iinc (hX : Cx X y cc nL ret d mc ms) {i : Nat} {lv' : List (Nat × Value)} {n : Int} {x v : Int32} (hd : decode cc pc = .ok (.iinc i n, 3)) (k : Nat) (hk : lv[k]? = some (i, .int x)) (hv : Int32.ofInt n = v) (hn : i < nL) (hlv : (i, Value.int (x + v)) :: lv.filter (fun q => !(q.1 == i) && !(q.1 + 1 == i && q.2.category == 2)) = lv') (h : JF X ex nL cs ss Qf (pc + 3) lv' st u fx) : JF X ex nL cs ss Qf pc lv st u fx := by
  obtain ⟨p, l, e, R, s, m, args, below, meth, c, D, cT, z0, ks⟩ := X
  obtain ⟨hx, hb, hml, hown, hts, hKk, hz0, hRf, hRl, hRc, hRs, hSF, hret, hlk, hnm⟩ := hX
  intro r u' hf ls H locs hl hH hP hw hex hS
  exact lv_iinc hx hb hd hl hk (by rw [hv]) hn hlv (fun ls hl => h r u' hf ls H locs hl hH hP hw hex hS)
theorem jf_iadd (hX : Cx X y cc nL ret d mc ms) {x y1 : Int32} (hd : decode cc pc = .ok (.iadd, 1)) (h : JF X ex nL cs ss Qf (pc + 1) lv (.int (x + y1) :: st) u fx) : JF X ex nL cs ss Qf pc lv (.int y1 :: .int x :: st) u fx := by
  obtain ⟨p, l, e, R, s, m, args, below, meth, c, D, cT, z0, ks⟩ := X
  obtain ⟨hx, hb, hml, hown, hts, hKk, hz0, hRf, hRl, hRc, hRs, hSF, hret, hlk, hnm⟩ := hX
  intro r u' hf ls H locs hl hH hP hw hex hS
  exact lv_iadd hx hb hd (h r u' hf ls H locs hl hH hP hw hex hS)
theorem jf_isub (hX : Cx X y cc nL ret d mc ms) {x y1 : Int32} (hd : decode cc pc = .ok (.isub, 1)) (h : JF X ex nL cs ss Qf (pc + 1) lv (.int (x - y1) :: st) u fx) : JF X ex nL cs ss Qf pc lv (.int y1 :: .int x :: st) u fx := by
  obtain ⟨p, l, e, R, s, m, args, below, meth, c, D, cT, z0, ks⟩ := X
  obtain ⟨hx, hb, hml, hown, hts, hKk, hz0, hRf, hRl, hRc, hRs, hSF, hret, hlk, hnm⟩ := hX
  intro r u' hf ls H locs hl hH hP hw hex hS
  exact lv_isub hx hb hd (h r u' hf ls H locs hl hH hP hw hex hS)
theorem jf_imul (hX : Cx X y cc nL ret d mc ms) {x y1 : Int32} (hd : decode cc pc = .ok (.imul, 1)) (h : JF X ex nL cs ss Qf (pc + 1) lv (.int (x * y1) :: st) u fx) : JF X ex nL cs ss Qf pc lv (.int y1 :: .int x :: st) u fx := by
  obtain ⟨p, l, e, R, s, m, args, below, meth, c, D, cT, z0, ks⟩ := X
  obtain ⟨hx, hb, hml, hown, hts, hKk, hz0, hRf, hRl, hRc, hRs, hSF, hret, hlk, hnm⟩ := hX
  intro r u' hf ls H locs hl hH hP hw hex hS
  exact lv_imul hx hb hd (h r u' hf ls H locs hl hH hP hw hex hS)
theorem jf_iand (hX : Cx X y cc nL ret d mc ms) {x y1 : Int32} (hd : decode cc pc = .ok (.iand, 1)) (h : JF X ex nL cs ss Qf (pc + 1) lv (.int (x &&& y1) :: st) u fx) : JF X ex nL cs ss Qf pc lv (.int y1 :: .int x :: st) u fx := by
  obtain ⟨p, l, e, R, s, m, args, below, meth, c, D, cT, z0, ks⟩ := X
  obtain ⟨hx, hb, hml, hown, hts, hKk, hz0, hRf, hRl, hRc, hRs, hSF, hret, hlk, hnm⟩ := hX
  intro r u' hf ls H locs hl hH hP hw hex hS
  exact lv_iand hx hb hd (h r u' hf ls H locs hl hH hP hw hex hS)
theorem jf_ior (hX : Cx X y cc nL ret d mc ms) {x y1 : Int32} (hd : decode cc pc = .ok (.ior, 1)) (h : JF X ex nL cs ss Qf (pc + 1) lv (.int (x ||| y1) :: st) u fx) : JF X ex nL cs ss Qf pc lv (.int y1 :: .int x :: st) u fx := by
  obtain ⟨p, l, e, R, s, m, args, below, meth, c, D, cT, z0, ks⟩ := X
  obtain ⟨hx, hb, hml, hown, hts, hKk, hz0, hRf, hRl, hRc, hRs, hSF, hret, hlk, hnm⟩ := hX
  intro r u' hf ls H locs hl hH hP hw hex hS
  exact lv_ior hx hb hd (h r u' hf ls H locs hl hH hP hw hex hS)
theorem jf_ixor (hX : Cx X y cc nL ret d mc ms) {x y1 : Int32} (hd : decode cc pc = .ok (.ixor, 1)) (h : JF X ex nL cs ss Qf (pc + 1) lv (.int (x ^^^ y1) :: st) u fx) : JF X ex nL cs ss Qf pc lv (.int y1 :: .int x :: st) u fx := by
  obtain ⟨p, l, e, R, s, m, args, below, meth, c, D, cT, z0, ks⟩ := X
  obtain ⟨hx, hb, hml, hown, hts, hKk, hz0, hRf, hRl, hRc, hRs, hSF, hret, hlk, hnm⟩ := hX
  intro r u' hf ls H locs hl hH hP hw hex hS
  exact lv_ixor hx hb hd (h r u' hf ls H locs hl hH hP hw hex hS)
theorem jf_ishl (hX : Cx X y cc nL ret d mc ms) {x y1 : Int32} (hd : decode cc pc = .ok (.ishl, 1)) (h : JF X ex nL cs ss Qf (pc + 1) lv (.int (x <<< (y1 &&& 31)) :: st) u fx) : JF X ex nL cs ss Qf pc lv (.int y1 :: .int x :: st) u fx := by
  obtain ⟨p, l, e, R, s, m, args, below, meth, c, D, cT, z0, ks⟩ := X
  obtain ⟨hx, hb, hml, hown, hts, hKk, hz0, hRf, hRl, hRc, hRs, hSF, hret, hlk, hnm⟩ := hX
  intro r u' hf ls H locs hl hH hP hw hex hS
  exact lv_ishl hx hb hd (h r u' hf ls H locs hl hH hP hw hex hS)
theorem jf_ishr (hX : Cx X y cc nL ret d mc ms) {x y1 : Int32} (hd : decode cc pc = .ok (.ishr, 1)) (h : JF X ex nL cs ss Qf (pc + 1) lv (.int (x >>> (y1 &&& 31)) :: st) u fx) : JF X ex nL cs ss Qf pc lv (.int y1 :: .int x :: st) u fx := by
  obtain ⟨p, l, e, R, s, m, args, below, meth, c, D, cT, z0, ks⟩ := X
  obtain ⟨hx, hb, hml, hown, hts, hKk, hz0, hRf, hRl, hRc, hRs, hSF, hret, hlk, hnm⟩ := hX
  intro r u' hf ls H locs hl hH hP hw hex hS
  exact lv_ishr hx hb hd (h r u' hf ls H locs hl hH hP hw hex hS)
theorem jf_ladd (hX : Cx X y cc nL ret d mc ms) {x y1 : Int64} (hd : decode cc pc = .ok (.ladd, 1)) (h : JF X ex nL cs ss Qf (pc + 1) lv (.long (x + y1) :: st) u fx) : JF X ex nL cs ss Qf pc lv (.long y1 :: .long x :: st) u fx := by
  obtain ⟨p, l, e, R, s, m, args, below, meth, c, D, cT, z0, ks⟩ := X
  obtain ⟨hx, hb, hml, hown, hts, hKk, hz0, hRf, hRl, hRc, hRs, hSF, hret, hlk, hnm⟩ := hX
  intro r u' hf ls H locs hl hH hP hw hex hS
  exact lv_ladd hx hb hd (h r u' hf ls H locs hl hH hP hw hex hS)
theorem jf_lsub (hX : Cx X y cc nL ret d mc ms) {x y1 : Int64} (hd : decode cc pc = .ok (.lsub, 1)) (h : JF X ex nL cs ss Qf (pc + 1) lv (.long (x - y1) :: st) u fx) : JF X ex nL cs ss Qf pc lv (.long y1 :: .long x :: st) u fx := by
  obtain ⟨p, l, e, R, s, m, args, below, meth, c, D, cT, z0, ks⟩ := X
  obtain ⟨hx, hb, hml, hown, hts, hKk, hz0, hRf, hRl, hRc, hRs, hSF, hret, hlk, hnm⟩ := hX
  intro r u' hf ls H locs hl hH hP hw hex hS
  exact lv_lsub hx hb hd (h r u' hf ls H locs hl hH hP hw hex hS)
theorem jf_lmul (hX : Cx X y cc nL ret d mc ms) {x y1 : Int64} (hd : decode cc pc = .ok (.lmul, 1)) (h : JF X ex nL cs ss Qf (pc + 1) lv (.long (x * y1) :: st) u fx) : JF X ex nL cs ss Qf pc lv (.long y1 :: .long x :: st) u fx := by
  obtain ⟨p, l, e, R, s, m, args, below, meth, c, D, cT, z0, ks⟩ := X
  obtain ⟨hx, hb, hml, hown, hts, hKk, hz0, hRf, hRl, hRc, hRs, hSF, hret, hlk, hnm⟩ := hX
  intro r u' hf ls H locs hl hH hP hw hex hS
  exact lv_lmul hx hb hd (h r u' hf ls H locs hl hH hP hw hex hS)
theorem jf_land (hX : Cx X y cc nL ret d mc ms) {x y1 : Int64} (hd : decode cc pc = .ok (.land, 1)) (h : JF X ex nL cs ss Qf (pc + 1) lv (.long (x &&& y1) :: st) u fx) : JF X ex nL cs ss Qf pc lv (.long y1 :: .long x :: st) u fx := by
  obtain ⟨p, l, e, R, s, m, args, below, meth, c, D, cT, z0, ks⟩ := X
  obtain ⟨hx, hb, hml, hown, hts, hKk, hz0, hRf, hRl, hRc, hRs, hSF, hret, hlk, hnm⟩ := hX
  intro r u' hf ls H locs hl hH hP hw hex hS
  exact lv_land hx hb hd (h r u' hf ls H locs hl hH hP hw hex hS)
theorem jf_lor (hX : Cx X y cc nL ret d mc ms) {x y1 : Int64} (hd : decode cc pc = .ok (.lor, 1)) (h : JF X ex nL cs ss Qf (pc + 1) lv (.long (x ||| y1) :: st) u fx) : JF X ex nL cs ss Qf pc lv (.long y1 :: .long x :: st) u fx := by
  obtain ⟨p, l, e, R, s, m, args, below, meth, c, D, cT, z0, ks⟩ := X
  obtain ⟨hx, hb, hml, hown, hts, hKk, hz0, hRf, hRl, hRc, hRs, hSF, hret, hlk, hnm⟩ := hX
  intro r u' hf ls H locs hl hH hP hw hex hS
  exact lv_lor hx hb hd (h r u' hf ls H locs hl hH hP hw hex hS)
theorem jf_ineg (hX : Cx X y cc nL ret d mc ms) {x : Int32} (hd : decode cc pc = .ok (.ineg, 1)) (h : JF X ex nL cs ss Qf (pc + 1) lv (.int (0 - x) :: st) u fx) : JF X ex nL cs ss Qf pc lv (.int x :: st) u fx := by
  obtain ⟨p, l, e, R, s, m, args, below, meth, c, D, cT, z0, ks⟩ := X
  obtain ⟨hx, hb, hml, hown, hts, hKk, hz0, hRf, hRl, hRc, hRs, hSF, hret, hlk, hnm⟩ := hX
  intro r u' hf ls H locs hl hH hP hw hex hS
  exact lv_ineg hx hb hd (h r u' hf ls H locs hl hH hP hw hex hS)
theorem jf_lneg (hX : Cx X y cc nL ret d mc ms) {x : Int64} (hd : decode cc pc = .ok (.lneg, 1)) (h : JF X ex nL cs ss Qf (pc + 1) lv (.long (0 - x) :: st) u fx) : JF X ex nL cs ss Qf pc lv (.long x :: st) u fx := by
  obtain ⟨p, l, e, R, s, m, args, below, meth, c, D, cT, z0, ks⟩ := X
  obtain ⟨hx, hb, hml, hown, hts, hKk, hz0, hRf, hRl, hRc, hRs, hSF, hret, hlk, hnm⟩ := hX
  intro r u' hf ls H locs hl hH hP hw hex hS
  exact lv_lneg hx hb hd (h r u' hf ls H locs hl hH hP hw hex hS)
theorem jf_i2l (hX : Cx X y cc nL ret d mc ms) {x : Int32} (hd : decode cc pc = .ok (.i2l, 1)) (h : JF X ex nL cs ss Qf (pc + 1) lv (.long x.toInt64 :: st) u fx) : JF X ex nL cs ss Qf pc lv (.int x :: st) u fx := by
  obtain ⟨p, l, e, R, s, m, args, below, meth, c, D, cT, z0, ks⟩ := X
  obtain ⟨hx, hb, hml, hown, hts, hKk, hz0, hRf, hRl, hRc, hRs, hSF, hret, hlk, hnm⟩ := hX
  intro r u' hf ls H locs hl hH hP hw hex hS
  exact lv_i2l hx hb hd rfl (h r u' hf ls H locs hl hH hP hw hex hS)
theorem jf_l2i (hX : Cx X y cc nL ret d mc ms) {x : Int64} (hd : decode cc pc = .ok (.l2i, 1)) (h : JF X ex nL cs ss Qf (pc + 1) lv (.int x.toInt32 :: st) u fx) : JF X ex nL cs ss Qf pc lv (.long x :: st) u fx := by
  obtain ⟨p, l, e, R, s, m, args, below, meth, c, D, cT, z0, ks⟩ := X
  obtain ⟨hx, hb, hml, hown, hts, hKk, hz0, hRf, hRl, hRc, hRs, hSF, hret, hlk, hnm⟩ := hX
  intro r u' hf ls H locs hl hH hP hw hex hS
  exact lv_l2i hx hb hd rfl (h r u' hf ls H locs hl hH hP hw hex hS)
theorem jf_i2b (hX : Cx X y cc nL ret d mc ms) {x : Int32} (hd : decode cc pc = .ok (.i2b, 1)) (h : JF X ex nL cs ss Qf (pc + 1) lv (.int x.toInt8.toInt32 :: st) u fx) : JF X ex nL cs ss Qf pc lv (.int x :: st) u fx := by
  obtain ⟨p, l, e, R, s, m, args, below, meth, c, D, cT, z0, ks⟩ := X
  obtain ⟨hx, hb, hml, hown, hts, hKk, hz0, hRf, hRl, hRc, hRs, hSF, hret, hlk, hnm⟩ := hX
  intro r u' hf ls H locs hl hH hP hw hex hS
  exact lv_i2b hx hb hd rfl (h r u' hf ls H locs hl hH hP hw hex hS)
theorem jf_iushr (hX : Cx X y cc nL ret d mc ms) {x y1 : Int32} (hd : decode cc pc = .ok (.iushr, 1)) (h : JF X ex nL cs ss Qf (pc + 1) lv (.int (x.toUInt32 >>> (y1.toUInt32 &&& Int32.toUInt32 31)).toInt32 :: st) u fx) : JF X ex nL cs ss Qf pc lv (.int y1 :: .int x :: st) u fx := by
  obtain ⟨p, l, e, R, s, m, args, below, meth, c, D, cT, z0, ks⟩ := X
  obtain ⟨hx, hb, hml, hown, hts, hKk, hz0, hRf, hRl, hRc, hRs, hSF, hret, hlk, hnm⟩ := hX
  intro r u' hf ls H locs hl hH hP hw hex hS
  exact lv_iushr hx hb hd rfl (h r u' hf ls H locs hl hH hP hw hex hS)
theorem jf_lshl (hX : Cx X y cc nL ret d mc ms) {x : Int64} {y1 : Int32} (hd : decode cc pc = .ok (.lshl, 1)) (h : JF X ex nL cs ss Qf (pc + 1) lv (.long (x <<< (y1.toInt64 &&& 63)) :: st) u fx) : JF X ex nL cs ss Qf pc lv (.int y1 :: .long x :: st) u fx := by
  obtain ⟨p, l, e, R, s, m, args, below, meth, c, D, cT, z0, ks⟩ := X
  obtain ⟨hx, hb, hml, hown, hts, hKk, hz0, hRf, hRl, hRc, hRs, hSF, hret, hlk, hnm⟩ := hX
  intro r u' hf ls H locs hl hH hP hw hex hS
  exact lv_lshl hx hb hd rfl (h r u' hf ls H locs hl hH hP hw hex hS)
theorem jf_lcmp (hX : Cx X y cc nL ret d mc ms) {x y1 : Int64} (hd : decode cc pc = .ok (.lcmp, 1)) (h : JF X ex nL cs ss Qf (pc + 1) lv (.int (lg_cmp x y1) :: st) u fx) : JF X ex nL cs ss Qf pc lv (.long y1 :: .long x :: st) u fx := by
  obtain ⟨p, l, e, R, s, m, args, below, meth, c, D, cT, z0, ks⟩ := X
  obtain ⟨hx, hb, hml, hown, hts, hKk, hz0, hRf, hRl, hRc, hRs, hSF, hret, hlk, hnm⟩ := hX
  intro r u' hf ls H locs hl hH hP hw hex hS
  exact W.lcmp hx hb hd (h r u' hf ls H locs hl hH hP hw hex hS)
theorem jf_dup (hX : Cx X y cc nL ret d mc ms) {v : Value} (hd : decode cc pc = .ok (.dup, 1)) (hv : v.category = 1) (h : JF X ex nL cs ss Qf (pc + 1) lv (v :: v :: st) u fx) : JF X ex nL cs ss Qf pc lv (v :: st) u fx := by
  obtain ⟨p, l, e, R, s, m, args, below, meth, c, D, cT, z0, ks⟩ := X
  obtain ⟨hx, hb, hml, hown, hts, hKk, hz0, hRf, hRl, hRc, hRs, hSF, hret, hlk, hnm⟩ := hX
  intro r u' hf ls H locs hl hH hP hw hex hS
  exact lv_dup hx hb hd hv (h r u' hf ls H locs hl hH hP hw hex hS)
theorem jf_pop (hX : Cx X y cc nL ret d mc ms) {v : Value} (hd : decode cc pc = .ok (.pop, 1)) (hv : v.category = 1) (h : JF X ex nL cs ss Qf (pc + 1) lv (st) u fx) : JF X ex nL cs ss Qf pc lv (v :: st) u fx := by
  obtain ⟨p, l, e, R, s, m, args, below, meth, c, D, cT, z0, ks⟩ := X
  obtain ⟨hx, hb, hml, hown, hts, hKk, hz0, hRf, hRl, hRc, hRs, hSF, hret, hlk, hnm⟩ := hX
  intro r u' hf ls H locs hl hH hP hw hex hS
  exact lv_pop hx hb hd hv (h r u' hf ls H locs hl hH hP hw hex hS)
theorem jf_dup2_11 (hX : Cx X y cc nL ret d mc ms) {v v2 : Value} (hd : decode cc pc = .ok (.dup2, 1)) (hv : v.category = 1) (hv2 : v2.category = 1) (h : JF X ex nL cs ss Qf (pc + 1) lv (v :: v2 :: v :: v2 :: st) u fx) : JF X ex nL cs ss Qf pc lv (v :: v2 :: st) u fx := by
  obtain ⟨p, l, e, R, s, m, args, below, meth, c, D, cT, z0, ks⟩ := X
  obtain ⟨hx, hb, hml, hown, hts, hKk, hz0, hRf, hRl, hRc, hRs, hSF, hret, hlk, hnm⟩ := hX
  intro r u' hf ls H locs hl hH hP hw hex hS
  exact lv_dup2_11 hx hb hd hv hv2 (h r u' hf ls H locs hl hH hP hw hex hS)
theorem jf_dup2_2 (hX : Cx X y cc nL ret d mc ms) {v : Value} (hd : decode cc pc = .ok (.dup2, 1)) (hv : v.category = 2) (h : JF X ex nL cs ss Qf (pc + 1) lv (v :: v :: st) u fx) : JF X ex nL cs ss Qf pc lv (v :: st) u fx := by
  obtain ⟨p, l, e, R, s, m, args, below, meth, c, D, cT, z0, ks⟩ := X
  obtain ⟨hx, hb, hml, hown, hts, hKk, hz0, hRf, hRl, hRc, hRs, hSF, hret, hlk, hnm⟩ := hX
  intro r u' hf ls H locs hl hH hP hw hex hS
  exact lv_dup2_2 hx hb hd hv (h r u' hf ls H locs hl hH hP hw hex hS)
theorem jf_idiv (hX : Cx X y cc nL ret d mc ms) {x y1 : Int32} (hd : decode cc pc = .ok (.idiv, 1)) (h : JF X ex nL cs ss Qf (pc + 1) lv (.int (x / y1) :: st) u fx) : JF X ex nL cs ss Qf pc lv (.int y1 :: .int x :: st) u (if y1 = 0 then none else fx) := by
  obtain ⟨p, l, e, R, s, m, args, below, meth, c, D, cT, z0, ks⟩ := X
  obtain ⟨hx, hb, hml, hown, hts, hKk, hz0, hRf, hRl, hRc, hRs, hSF, hret, hlk, hnm⟩ := hX
  intro r u' hf ls H locs hl hH hP hw hex hS
  by_cases hc : y1 = 0
  · rw [if_pos hc] at hf; cases hf
  · rw [if_neg hc] at hf
    exact lv_idiv hx hb hd hc (h r u' hf ls H locs hl hH hP hw hex hS)
theorem jf_irem (hX : Cx X y cc nL ret d mc ms) {x y1 : Int32} (hd : decode cc pc = .ok (.irem, 1)) (h : JF X ex nL cs ss Qf (pc + 1) lv (.int (x - x / y1 * y1) :: st) u fx) : JF X ex nL cs ss Qf pc lv (.int y1 :: .int x :: st) u (if y1 = 0 then none else fx) := by
  obtain ⟨p, l, e, R, s, m, args, below, meth, c, D, cT, z0, ks⟩ := X
  obtain ⟨hx, hb, hml, hown, hts, hKk, hz0, hRf, hRl, hRc, hRs, hSF, hret, hlk, hnm⟩ := hX
  intro r u' hf ls H locs hl hH hP hw hex hS
  by_cases hc : y1 = 0
  · rw [if_pos hc] at hf; cases hf
  · rw [if_neg hc] at hf
    exact lv_irem hx hb hd hc (h r u' hf ls H locs hl hH hP hw hex hS)
theorem jf_ldiv (hX : Cx X y cc nL ret d mc ms) {x y1 : Int64} (hd : decode cc pc = .ok (.ldiv, 1)) (h : JF X ex nL cs ss Qf (pc + 1) lv (.long (x / y1) :: st) u fx) : JF X ex nL cs ss Qf pc lv (.long y1 :: .long x :: st) u (if y1 = 0 then none else fx) := by
  obtain ⟨p, l, e, R, s, m, args, below, meth, c, D, cT, z0, ks⟩ := X
  obtain ⟨hx, hb, hml, hown, hts, hKk, hz0, hRf, hRl, hRc, hRs, hSF, hret, hlk, hnm⟩ := hX
  intro r u' hf ls H locs hl hH hP hw hex hS
  by_cases hc : y1 = 0
  · rw [if_pos hc] at hf; cases hf
  · rw [if_neg hc] at hf
    exact lv_ldiv hx hb hd hc (h r u' hf ls H locs hl hH hP hw hex hS)
theorem jf_lrem (hX : Cx X y cc nL ret d mc ms) {x y1 : Int64} (hd : decode cc pc = .ok (.lrem, 1)) (h : JF X ex nL cs ss Qf (pc + 1) lv (.long (x - x / y1 * y1) :: st) u fx) : JF X ex nL cs ss Qf pc lv (.long y1 :: .long x :: st) u (if y1 = 0 then none else fx) := by
  obtain ⟨p, l, e, R, s, m, args, below, meth, c, D, cT, z0, ks⟩ := X
  obtain ⟨hx, hb, hml, hown, hts, hKk, hz0, hRf, hRl, hRc, hRs, hSF, hret, hlk, hnm⟩ := hX
  intro r u' hf ls H locs hl hH hP hw hex hS
  by_cases hc : y1 = 0
  · rw [if_pos hc] at hf; cases hf
  · rw [if_neg hc] at hf
    exact lv_lrem hx hb hd hc (h r u' hf ls H locs hl hH hP hw hex hS)
theorem jf_if_eq (hX : Cx X y cc nL ret d mc ms) {x : Int32} {off : Int} {tgt : Nat} (hd : decode cc pc = .ok (.ifCond .eq off, 3)) (ht : (pc : Int) + off = (tgt : Int)) (h1 : JF X ex nL cs ss Qf tgt lv st u fx) (h2 : JF X ex nL cs ss Qf (pc + 3) lv st u fy) : JF X ex nL cs ss Qf pc lv (.int x :: st) u (if x = 0 then fx else fy) := by
  obtain ⟨p, l, e, R, s, m, args, below, meth, c, D, cT, z0, ks⟩ := X
  obtain ⟨hx, hb, hml, hown, hts, hKk, hz0, hRf, hRl, hRc, hRs, hSF, hret, hlk, hnm⟩ := hX
  intro r u' hf ls H locs hl hH hP hw hex hS
  exact lv_if_eq hx hb hd ht (fun hc => h1 r u' (by rw [if_pos hc] at hf; exact hf) ls H locs hl hH hP hw hex hS) (fun hc => h2 r u' (by rw [if_neg hc] at hf; exact hf) ls H locs hl hH hP hw hex hS)
theorem jf_if_ne (hX : Cx X y cc nL ret d mc ms) {x : Int32} {off : Int} {tgt : Nat} (hd : decode cc pc = .ok (.ifCond .ne off, 3)) (ht : (pc : Int) + off = (tgt : Int)) (h1 : JF X ex nL cs ss Qf tgt lv st u fx) (h2 : JF X ex nL cs ss Qf (pc + 3) lv st u fy) : JF X ex nL cs ss Qf pc lv (.int x :: st) u (if x = 0 then fy else fx) := by
  obtain ⟨p, l, e, R, s, m, args, below, meth, c, D, cT, z0, ks⟩ := X
  obtain ⟨hx, hb, hml, hown, hts, hKk, hz0, hRf, hRl, hRc, hRs, hSF, hret, hlk, hnm⟩ := hX
  intro r u' hf ls H locs hl hH hP hw hex hS
  exact lv_if_ne hx hb hd ht (fun hc => h1 r u' (by rw [if_neg hc] at hf; exact hf) ls H locs hl hH hP hw hex hS) (fun hc => h2 r u' (by rw [if_pos hc] at hf; exact hf) ls H locs hl hH hP hw hex hS)
theorem jf_if_lt (hX : Cx X y cc nL ret d mc ms) {x : Int32} {off : Int} {tgt : Nat} (hd : decode cc pc = .ok (.ifCond .lt off, 3)) (ht : (pc : Int) + off = (tgt : Int)) (h1 : JF X ex nL cs ss Qf tgt lv st u fx) (h2 : JF X ex nL cs ss Qf (pc + 3) lv st u fy) : JF X ex nL cs ss Qf pc lv (.int x :: st) u (if x < 0 then fx else fy) := by
  obtain ⟨p, l, e, R, s, m, args, below, meth, c, D, cT, z0, ks⟩ := X
  obtain ⟨hx, hb, hml, hown, hts, hKk, hz0, hRf, hRl, hRc, hRs, hSF, hret, hlk, hnm⟩ := hX
  intro r u' hf ls H locs hl hH hP hw hex hS
  exact lv_if_lt hx hb hd ht (fun hc => h1 r u' (by rw [if_pos hc] at hf; exact hf) ls H locs hl hH hP hw hex hS) (fun hc => h2 r u' (by rw [if_neg hc] at hf; exact hf) ls H locs hl hH hP hw hex hS)
theorem jf_if_ge (hX : Cx X y cc nL ret d mc ms) {x : Int32} {off : Int} {tgt : Nat} (hd : decode cc pc = .ok (.ifCond .ge off, 3)) (ht : (pc : Int) + off = (tgt : Int)) (h1 : JF X ex nL cs ss Qf tgt lv st u fx) (h2 : JF X ex nL cs ss Qf (pc + 3) lv st u fy) : JF X ex nL cs ss Qf pc lv (.int x :: st) u (if 0 ≤ x then fx else fy) := by
  obtain ⟨p, l, e, R, s, m, args, below, meth, c, D, cT, z0, ks⟩ := X
  obtain ⟨hx, hb, hml, hown, hts, hKk, hz0, hRf, hRl, hRc, hRs, hSF, hret, hlk, hnm⟩ := hX
  intro r u' hf ls H locs hl hH hP hw hex hS
  exact lv_if_ge hx hb hd ht (fun hc => h1 r u' (by rw [if_pos hc] at hf; exact hf) ls H locs hl hH hP hw hex hS) (fun hc => h2 r u' (by rw [if_neg hc] at hf; exact hf) ls H locs hl hH hP hw hex hS)
theorem jf_if_gt (hX : Cx X y cc nL ret d mc ms) {x : Int32} {off : Int} {tgt : Nat} (hd : decode cc pc = .ok (.ifCond .gt off, 3)) (ht : (pc : Int) + off = (tgt : Int)) (h1 : JF X ex nL cs ss Qf tgt lv st u fx) (h2 : JF X ex nL cs ss Qf (pc + 3) lv st u fy) : JF X ex nL cs ss Qf pc lv (.int x :: st) u (if 0 < x then fx else fy) := by
  obtain ⟨p, l, e, R, s, m, args, below, meth, c, D, cT, z0, ks⟩ := X
  obtain ⟨hx, hb, hml, hown, hts, hKk, hz0, hRf, hRl, hRc, hRs, hSF, hret, hlk, hnm⟩ := hX
  intro r u' hf ls H locs hl hH hP hw hex hS
  exact lv_if_gt hx hb hd ht (fun hc => h1 r u' (by rw [if_pos hc] at hf; exact hf) ls H locs hl hH hP hw hex hS) (fun hc => h2 r u' (by rw [if_neg hc] at hf; exact hf) ls H locs hl hH hP hw hex hS)
theorem jf_if_le (hX : Cx X y cc nL ret d mc ms) {x : Int32} {off : Int} {tgt : Nat} (hd : decode cc pc = .ok (.ifCond .le off, 3)) (ht : (pc : Int) + off = (tgt : Int)) (h1 : JF X ex nL cs ss Qf tgt lv st u fx) (h2 : JF X ex nL cs ss Qf (pc + 3) lv st u fy) : JF X ex nL cs ss Qf pc lv (.int x :: st) u (if x ≤ 0 then fx else fy) := by
  obtain ⟨p, l, e, R, s, m, args, below, meth, c, D, cT, z0, ks⟩ := X
  obtain ⟨hx, hb, hml, hown, hts, hKk, hz0, hRf, hRl, hRc, hRs, hSF, hret, hlk, hnm⟩ := hX
  intro r u' hf ls H locs hl hH hP hw hex hS
  exact lv_if_le hx hb hd ht (fun hc => h1 r u' (by rw [if_pos hc] at hf; exact hf) ls H locs hl hH hP hw hex hS) (fun hc => h2 r u' (by rw [if_neg hc] at hf; exact hf) ls H locs hl hH hP hw hex hS)
theorem jf_icmp_eq (hX : Cx X y cc nL ret d mc ms) {x y1 : Int32} {off : Int} {tgt : Nat} (hd : decode cc pc = .ok (.if_icmp .eq off, 3)) (ht : (pc : Int) + off = (tgt : Int)) (h1 : JF X ex nL cs ss Qf tgt lv st u fx) (h2 : JF X ex nL cs ss Qf (pc + 3) lv st u fy) : JF X ex nL cs ss Qf pc lv (.int y1 :: .int x :: st) u (if x = y1 then fx else fy) := by
  obtain ⟨p, l, e, R, s, m, args, below, meth, c, D, cT, z0, ks⟩ := X
  obtain ⟨hx, hb, hml, hown, hts, hKk, hz0, hRf, hRl, hRc, hRs, hSF, hret, hlk, hnm⟩ := hX
  intro r u' hf ls H locs hl hH hP hw hex hS
  exact lv_icmp_eq hx hb hd ht (fun hc => h1 r u' (by rw [if_pos hc] at hf; exact hf) ls H locs hl hH hP hw hex hS) (fun hc => h2 r u' (by rw [if_neg hc] at hf; exact hf) ls H locs hl hH hP hw hex hS)
theorem jf_icmp_ne (hX : Cx X y cc nL ret d mc ms) {x y1 : Int32} {off : Int} {tgt : Nat} (hd : decode cc pc = .ok (.if_icmp .ne off, 3)) (ht : (pc : Int) + off = (tgt : Int)) (h1 : JF X ex nL cs ss Qf tgt lv st u fx) (h2 : JF X ex nL cs ss Qf (pc + 3) lv st u fy) : JF X ex nL cs ss Qf pc lv (.int y1 :: .int x :: st) u (if x = y1 then fy else fx) := by
  obtain ⟨p, l, e, R, s, m, args, below, meth, c, D, cT, z0, ks⟩ := X
  obtain ⟨hx, hb, hml, hown, hts, hKk, hz0, hRf, hRl, hRc, hRs, hSF, hret, hlk, hnm⟩ := hX
  intro r u' hf ls H locs hl hH hP hw hex hS
  exact lv_icmp_ne hx hb hd ht (fun hc => h1 r u' (by rw [if_neg hc] at hf; exact hf) ls H locs hl hH hP hw hex hS) (fun hc => h2 r u' (by rw [if_pos hc] at hf; exact hf) ls H locs hl hH hP hw hex hS)
theorem jf_icmp_lt (hX : Cx X y cc nL ret d mc ms) {x y1 : Int32} {off : Int} {tgt : Nat} (hd : decode cc pc = .ok (.if_icmp .lt off, 3)) (ht : (pc : Int) + off = (tgt : Int)) (h1 : JF X ex nL cs ss Qf tgt lv st u fx) (h2 : JF X ex nL cs ss Qf (pc + 3) lv st u fy) : JF X ex nL cs ss Qf pc lv (.int y1 :: .int x :: st) u (if x < y1 then fx else fy) := by
  obtain ⟨p, l, e, R, s, m, args, below, meth, c, D, cT, z0, ks⟩ := X
  obtain ⟨hx, hb, hml, hown, hts, hKk, hz0, hRf, hRl, hRc, hRs, hSF, hret, hlk, hnm⟩ := hX
  intro r u' hf ls H locs hl hH hP hw hex hS
  exact lv_icmp_lt hx hb hd ht (fun hc => h1 r u' (by rw [if_pos hc] at hf; exact hf) ls H locs hl hH hP hw hex hS) (fun hc => h2 r u' (by rw [if_neg hc] at hf; exact hf) ls H locs hl hH hP hw hex hS)
theorem jf_icmp_ge (hX : Cx X y cc nL ret d mc ms) {x y1 : Int32} {off : Int} {tgt : Nat} (hd : decode cc pc = .ok (.if_icmp .ge off, 3)) (ht : (pc : Int) + off = (tgt : Int)) (h1 : JF X ex nL cs ss Qf tgt lv st u fx) (h2 : JF X ex nL cs ss Qf (pc + 3) lv st u fy) : JF X ex nL cs ss Qf pc lv (.int y1 :: .int x :: st) u (if y1 ≤ x then fx else fy) := by
  obtain ⟨p, l, e, R, s, m, args, below, meth, c, D, cT, z0, ks⟩ := X
  obtain ⟨hx, hb, hml, hown, hts, hKk, hz0, hRf, hRl, hRc, hRs, hSF, hret, hlk, hnm⟩ := hX
  intro r u' hf ls H locs hl hH hP hw hex hS
  exact lv_icmp_ge hx hb hd ht (fun hc => h1 r u' (by rw [if_pos hc] at hf; exact hf) ls H locs hl hH hP hw hex hS) (fun hc => h2 r u' (by rw [if_neg hc] at hf; exact hf) ls H locs hl hH hP hw hex hS)
theorem jf_icmp_gt (hX : Cx X y cc nL ret d mc ms) {x y1 : Int32} {off : Int} {tgt : Nat} (hd : decode cc pc = .ok (.if_icmp .gt off, 3)) (ht : (pc : Int) + off = (tgt : Int)) (h1 : JF X ex nL cs ss Qf tgt lv st u fx) (h2 : JF X ex nL cs ss Qf (pc + 3) lv st u fy) : JF X ex nL cs ss Qf pc lv (.int y1 :: .int x :: st) u (if y1 < x then fx else fy) := by
  obtain ⟨p, l, e, R, s, m, args, below, meth, c, D, cT, z0, ks⟩ := X
  obtain ⟨hx, hb, hml, hown, hts, hKk, hz0, hRf, hRl, hRc, hRs, hSF, hret, hlk, hnm⟩ := hX
  intro r u' hf ls H locs hl hH hP hw hex hS
  exact lv_icmp_gt hx hb hd ht (fun hc => h1 r u' (by rw [if_pos hc] at hf; exact hf) ls H locs hl hH hP hw hex hS) (fun hc => h2 r u' (by rw [if_neg hc] at hf; exact hf) ls H locs hl hH hP hw hex hS)
theorem jf_icmp_le (hX : Cx X y cc nL ret d mc ms) {x y1 : Int32} {off : Int} {tgt : Nat} (hd : decode cc pc = .ok (.if_icmp .le off, 3)) (ht : (pc : Int) + off = (tgt : Int)) (h1 : JF X ex nL cs ss Qf tgt lv st u fx) (h2 : JF X ex nL cs ss Qf (pc + 3) lv st u fy) : JF X ex nL cs ss Qf pc lv (.int y1 :: .int x :: st) u (if x ≤ y1 then fx else fy) := by
  obtain ⟨p, l, e, R, s, m, args, below, meth, c, D, cT, z0, ks⟩ := X
  obtain ⟨hx, hb, hml, hown, hts, hKk, hz0, hRf, hRl, hRc, hRs, hSF, hret, hlk, hnm⟩ := hX
  intro r u' hf ls H locs hl hH hP hw hex hS
  exact lv_icmp_le hx hb hd ht (fun hc => h1 r u' (by rw [if_pos hc] at hf; exact hf) ls H locs hl hH hP hw hex hS) (fun hc => h2 r u' (by rw [if_neg hc] at hf; exact hf) ls H locs hl hH hP hw hex hS)
theorem jf_goto (hX : Cx X y cc nL ret d mc ms) {off : Int} {tgt : Nat} (hd : decode cc pc = .ok (.goto off, 3)) (ht : (pc : Int) + off = (tgt : Int)) (h : JF X ex nL cs ss Qf tgt lv st u fx) : JF X ex nL cs ss Qf pc lv st u fx := by
  obtain ⟨p, l, e, R, s, m, args, below, meth, c, D, cT, z0, ks⟩ := X
  obtain ⟨hx, hb, hml, hown, hts, hKk, hz0, hRf, hRl, hRc, hRs, hSF, hret, hlk, hnm⟩ := hX
  intro r u' hf ls H locs hl hH hP hw hex hS
  exact lv_goto hx hb hd ht (h r u' hf ls H locs hl hH hP hw hex hS)
theorem jf_ifnull (hX : Cx X y cc nL ret d mc ms) {x : Option Nat} {off : Int} {tgt : Nat} (hd : decode cc pc = .ok (.ifnull off, 3)) (ht : (pc : Int) + off = (tgt : Int)) (h1 : JF X ex nL cs ss Qf tgt lv st u fx) (h2 : JF X ex nL cs ss Qf (pc + 3) lv st u fy) : JF X ex nL cs ss Qf pc lv (va_rf x :: st) u (if x = none then fx else fy) := by
  obtain ⟨p, l, e, R, s, m, args, below, meth, c, D, cT, z0, ks⟩ := X
  obtain ⟨hx, hb, hml, hown, hts, hKk, hz0, hRf, hRl, hRc, hRs, hSF, hret, hlk, hnm⟩ := hX
  intro r u' hf ls H locs hl hH hP hw hex hS
  cases x with
  | none => exact lv_ifnullN hx hb hd ht (h1 r u' (by rw [if_pos rfl] at hf; exact hf) ls H locs hl hH hP hw hex hS)
  | some q => exact lv_ifnull hx hb hd (h2 r u' (by rw [if_neg (by simp)] at hf; exact hf) ls H locs hl hH hP hw hex hS)
theorem jf_tcase (hX : Cx X y cc nL ret d mc ms) {x k : Int32} {kv dflt lo hi off : Int} {offs : Array Int} {len tgt : Nat} (hd : decode cc pc = .ok (.tableswitch dflt lo hi offs, len)) (hk : k.toInt = kv) (h1 : ¬ kv < lo) (h2 : ¬ hi < kv) (ho : offs[(kv - lo).toNat]? = some off) (ht : (pc : Int) + off = (tgt : Int)) (g1 : JF X ex nL cs ss Qf tgt lv st u fx) (g2 : ¬ x = k → JF X ex nL cs ss Qf pc lv (.int x :: st) u fy) : JF X ex nL cs ss Qf pc lv (.int x :: st) u (if x = k then fx else fy) := by
  obtain ⟨p, l, e, R, s, m, args, below, meth, c, D, cT, z0, ks⟩ := X
  obtain ⟨hx, hb, hml, hown, hts, hKk, hz0, hRf, hRl, hRc, hRs, hSF, hret, hlk, hnm⟩ := hX
  intro r u' hf ls H locs hl hH hP hw hex hS
  by_cases hc : x = k
  · rw [if_pos hc] at hf
    exact lv_tableIn hx hb hd (by rw [hc, hk]; exact h1) (by rw [hc, hk]; exact h2) (by rw [hc, hk]; exact ho) ht (g1 r u' hf ls H locs hl hH hP hw hex hS)
  · rw [if_neg hc] at hf
    exact g2 hc r u' hf ls H locs hl hH hP hw hex hS
theorem jf_tdef (hX : Cx X y cc nL ret d mc ms) {x : Int32} {dflt lo hi : Int} {offs : Array Int} {len tgt : Nat} (hd : decode cc pc = .ok (.tableswitch dflt lo hi offs, len)) (hno : x.toInt < lo ∨ hi < x.toInt) (ht : (pc : Int) + dflt = (tgt : Int)) (g1 : JF X ex nL cs ss Qf tgt lv st u fx) : JF X ex nL cs ss Qf pc lv (.int x :: st) u fx := by
  obtain ⟨p, l, e, R, s, m, args, below, meth, c, D, cT, z0, ks⟩ := X
  obtain ⟨hx, hb, hml, hown, hts, hKk, hz0, hRf, hRl, hRc, hRs, hSF, hret, hlk, hnm⟩ := hX
  intro r u' hf ls H locs hl hH hP hw hex hS
  exact lv_tableOut hx hb hd hno ht (g1 r u' hf ls H locs hl hH hP hw hex hS)
theorem jf_lcase (hX : Cx X y cc nL ret d mc ms) {x k : Int32} {kv dflt off : Int} {ps : Array (Int × Int)} {len tgt : Nat} (hd : decode cc pc = .ok (.lookupswitch dflt ps, len)) (hp : (ps.toList.zip (ps.toList.drop 1)).all (fun (a, next) => a.1 < next.1) = true) (hk : k.toInt = kv) (ho : Op.lookupswitch.offset ps.toList dflt kv = off) (ht : (pc : Int) + off = (tgt : Int)) (g1 : JF X ex nL cs ss Qf tgt lv st u fx) (g2 : ¬ x = k → JF X ex nL cs ss Qf pc lv (.int x :: st) u fy) : JF X ex nL cs ss Qf pc lv (.int x :: st) u (if x = k then fx else fy) := by
  obtain ⟨p, l, e, R, s, m, args, below, meth, c, D, cT, z0, ks⟩ := X
  obtain ⟨hx, hb, hml, hown, hts, hKk, hz0, hRf, hRl, hRc, hRs, hSF, hret, hlk, hnm⟩ := hX
  intro r u' hf ls H locs hl hH hP hw hex hS
  by_cases hc : x = k
  · rw [if_pos hc] at hf
    exact lv_lookup hx hb hd hp (by rw [hc, hk]; exact ho) ht (g1 r u' hf ls H locs hl hH hP hw hex hS)
  · rw [if_neg hc] at hf
    exact g2 hc r u' hf ls H locs hl hH hP hw hex hS
theorem jf_ldef (hX : Cx X y cc nL ret d mc ms) {x : Int32} {dflt : Int} {ps : Array (Int × Int)} {len tgt : Nat} (hd : decode cc pc = .ok (.lookupswitch dflt ps, len)) (hp : (ps.toList.zip (ps.toList.drop 1)).all (fun (a, next) => a.1 < next.1) = true) (ho : Op.lookupswitch.offset ps.toList dflt x.toInt = dflt) (ht : (pc : Int) + dflt = (tgt : Int)) (g1 : JF X ex nL cs ss Qf tgt lv st u fx) : JF X ex nL cs ss Qf pc lv (.int x :: st) u fx := by
  obtain ⟨p, l, e, R, s, m, args, below, meth, c, D, cT, z0, ks⟩ := X
  obtain ⟨hx, hb, hml, hown, hts, hKk, hz0, hRf, hRl, hRc, hRs, hSF, hret, hlk, hnm⟩ := hX
  intro r u' hf ls H locs hl hH hP hw hex hS
  exact lv_lookup hx hb hd hp ho ht (g1 r u' hf ls H locs hl hH hP hw hex hS)
theorem jf_nmI {x : Int32} {kf : Int32 → Option (ρ × SG)} (h : ∀ x : Int32, JF X ex nL cs ss Qf pc lv (.int x :: st) u (kf x)) : JF X ex nL cs ss Qf pc lv (.int x :: st) u (bs x kf) := h x
theorem jf_nmL {x : Int64} {kf : Int64 → Option (ρ × SG)} (h : ∀ x : Int64, JF X ex nL cs ss Qf pc lv (.long x :: st) u (kf x)) : JF X ex nL cs ss Qf pc lv (.long x :: st) u (bs x kf) := h x
theorem jf_nmR {x : Option Nat} {kf : Option Nat → Option (ρ × SG)} (h : ∀ x : Option Nat, JF X ex nL cs ss Qf pc lv (va_rf x :: st) u (kf x)) : JF X ex nL cs ss Qf pc lv (va_rf x :: st) u (bs x kf) := h x
theorem jf_nn {x : Option Nat} {kf : Nat → Option (ρ × SG)} (h : ∀ a : Nat, JF X ex nL cs ss Qf pc lv (.ref a :: st) u (kf a)) : JF X ex nL cs ss Qf pc lv (va_rf x :: st) u (x.bind kf) := by
  intro r u' hf
  cases x with
  | none => cases hf
  | some a => exact h a r u' hf
theorem jf_nn1 {x : Option Nat} {v1 : Value} {kf : Nat → Option (ρ × SG)} (h : ∀ a : Nat, JF X ex nL cs ss Qf pc lv (v1 :: .ref a :: st) u (kf a)) : JF X ex nL cs ss Qf pc lv (v1 :: va_rf x :: st) u (x.bind kf) := by
  intro r u' hf
  cases x with
  | none => cases hf
  | some a => exact h a r u' hf
theorem jf_nn2 {x : Option Nat} {v1 v2 : Value} {kf : Nat → Option (ρ × SG)} (h : ∀ a : Nat, JF X ex nL cs ss Qf pc lv (v1 :: v2 :: .ref a :: st) u (kf a)) : JF X ex nL cs ss Qf pc lv (v1 :: v2 :: va_rf x :: st) u (x.bind kf) := by
  intro r u' hf
  cases x with
  | none => cases hf
  | some a => exact h a r u' hf
theorem jf_nn3 {x : Option Nat} {v1 v2 v3 : Value} {kf : Nat → Option (ρ × SG)} (h : ∀ a : Nat, JF X ex nL cs ss Qf pc lv (v1 :: v2 :: v3 :: .ref a :: st) u (kf a)) : JF X ex nL cs ss Qf pc lv (v1 :: v2 :: v3 :: va_rf x :: st) u (x.bind kf) := by
  intro r u' hf
  cases x with
  | none => cases hf
  | some a => exact h a r u' hf
theorem jf_nn4 {x : Option Nat} {v1 v2 v3 v4 : Value} {kf : Nat → Option (ρ × SG)} (h : ∀ a : Nat, JF X ex nL cs ss Qf pc lv (v1 :: v2 :: v3 :: v4 :: .ref a :: st) u (kf a)) : JF X ex nL cs ss Qf pc lv (v1 :: v2 :: v3 :: v4 :: va_rf x :: st) u (x.bind kf) := by
  intro r u' hf
  cases x with
  | none => cases hf
  | some a => exact h a r u' hf
/-- fewer locals, in another order -/
theorem jf_lv {lv' : List (Nat × Value)} (ks : List Nat) (hk : lv_pick lv ks = lv') (h : JF X ex nL cs ss Qf pc lv' st u fx) : JF X ex nL cs ss Qf pc lv st u fx := by
  obtain ⟨p, l, e, R, s, m, args, below, meth, c, D, cT, z0, ks0⟩ := X
  intro r u' hf ls H locs hl hH hP hw hex hS
  exact h r u' hf ls H locs (lv_sub hl ks hk) hH hP hw hex hS
def ClsOK (ci : Nat) (C : String) (T : u_T) (N : Nat) (ty : Nat → FieldType) : Prop := vwCl[ci]? = some (C, T, N) ∧ N = znf ci ∧ ci < 20 ∧ (∀ w ∈ u_ws C T N, w ∈ tb) ∧ (∀ k, k < N → parseFieldDescriptor (T k).2.2.1 = some (ty k)) ∧ (∀ a, a < N → ∀ b, b < N → a ≠ b → (T a).2.1 ≠ (T b).2.1)
theorem jf_getI (hX : Cx X y cc nL ret d mc ms) {ci idx a : Nat} {C : String} {T : u_T} {N : Nat} {ty : Nat → FieldType} (hC : ClsOK ci C T N ty) (k : Nat) (hl0 : Cond.fieldLink y.cls idx (T k).1 (T k).2.1 (T k).2.2.1 ∈ tb) (hk : k < N) (hft : zft ci k = 0) (hd : decode cc pc = .ok (.getfield idx, 3)) (h : JF X ex nL cs ss Qf (pc + 3) lv (.int (zI u a k) :: st) u fx) : JF X ex nL cs ss Qf pc lv (.ref a :: st) u (if zK u a = ci + 1 then fx else none) := by
  obtain ⟨p, l, e, R, s, m, args, below, meth, c, D, cT, z0, ks⟩ := X
  obtain ⟨hx, hb, hml, hown, hts, hKk, hz0, hRf, hRl, hRc, hRs, hSF, hret, hlk, hnm⟩ := hX
  intro r u' hf ls H locs hl hH hP hw hex hS
  by_cases hc : zK u a = ci + 1
  · rw [if_pos hc] at hf
    obtain ⟨c1, c2, c3, c4, c5, c6⟩ := hC
    obtain ⟨q, hq⟩ := zp_get (cT := cT) hw (a := a) (by omega)
    rw [zcell_obj hc c3] at hq
    exact va_get (D := D) hx hb hts c4 hown hKk hP q hq c1 k hk (hts _ hl0) (fun _ h9 => h9) (v := .int (zI u a k)) (by rw [zfs_get (by omega), hft]; rfl) hd (h r u' hf ls H locs hl hH hP hw hex hS)
  · rw [if_neg hc] at hf; cases hf
theorem jf_getR (hX : Cx X y cc nL ret d mc ms) {ci idx a : Nat} {C : String} {T : u_T} {N : Nat} {ty : Nat → FieldType} (hC : ClsOK ci C T N ty) (k : Nat) (hl0 : Cond.fieldLink y.cls idx (T k).1 (T k).2.1 (T k).2.2.1 ∈ tb) (hk : k < N) (hft : zft ci k = 1) (hd : decode cc pc = .ok (.getfield idx, 3)) (h : JF X ex nL cs ss Qf (pc + 3) lv (va_rf (zR u a k) :: st) u fx) : JF X ex nL cs ss Qf pc lv (.ref a :: st) u (if zK u a = ci + 1 then fx else none) := by
  obtain ⟨p, l, e, R, s, m, args, below, meth, c, D, cT, z0, ks⟩ := X
  obtain ⟨hx, hb, hml, hown, hts, hKk, hz0, hRf, hRl, hRc, hRs, hSF, hret, hlk, hnm⟩ := hX
  intro r u' hf ls H locs hl hH hP hw hex hS
  by_cases hc : zK u a = ci + 1
  · rw [if_pos hc] at hf
    obtain ⟨c1, c2, c3, c4, c5, c6⟩ := hC
    obtain ⟨q, hq⟩ := zp_get (cT := cT) hw (a := a) (by omega)
    rw [zcell_obj hc c3] at hq
    exact va_get (D := D) hx hb hts c4 hown hKk hP q hq c1 k hk (hts _ hl0) (fun _ h9 => h9) (v := va_rf (zR u a k)) (by rw [zfs_get (by omega), hft]; rfl) hd (h r u' hf ls H locs hl hH hP hw hex hS)
  · rw [if_neg hc] at hf; cases hf
theorem jf_getL (hX : Cx X y cc nL ret d mc ms) {ci idx a : Nat} {C : String} {T : u_T} {N : Nat} {ty : Nat → FieldType} (hC : ClsOK ci C T N ty) (k : Nat) (hl0 : Cond.fieldLink y.cls idx (T k).1 (T k).2.1 (T k).2.2.1 ∈ tb) (hk : k < N) (hft : zft ci k = 2) (hd : decode cc pc = .ok (.getfield idx, 3)) (h : JF X ex nL cs ss Qf (pc + 3) lv (.long (zL u a k) :: st) u fx) : JF X ex nL cs ss Qf pc lv (.ref a :: st) u (if zK u a = ci + 1 then fx else none) := by
  obtain ⟨p, l, e, R, s, m, args, below, meth, c, D, cT, z0, ks⟩ := X
  obtain ⟨hx, hb, hml, hown, hts, hKk, hz0, hRf, hRl, hRc, hRs, hSF, hret, hlk, hnm⟩ := hX
  intro r u' hf ls H locs hl hH hP hw hex hS
  by_cases hc : zK u a = ci + 1
  · rw [if_pos hc] at hf
    obtain ⟨c1, c2, c3, c4, c5, c6⟩ := hC
    obtain ⟨q, hq⟩ := zp_get (cT := cT) hw (a := a) (by omega)
    rw [zcell_obj hc c3] at hq
    exact va_get (D := D) hx hb hts c4 hown hKk hP q hq c1 k hk (hts _ hl0) (fun _ h9 => h9) (v := .long (zL u a k)) (by rw [zfs_get (by omega), hft]; rfl) hd (h r u' hf ls H locs hl hH hP hw hex hS)
  · rw [if_neg hc] at hf; cases hf
theorem jf_putI (hX : Cx X y cc nL ret d mc ms) (he : ex) {ci idx a : Nat} {C : String} {T : u_T} {N : Nat} {ty : Nat → FieldType} (hC : ClsOK ci C T N ty) (k : Nat) (hl0 : Cond.fieldLink y.cls idx (T k).1 (T k).2.1 (T k).2.2.1 ∈ tb) (hk : k < N) (hft : zft ci k = 0) (hty : ty k = .int) (hfin : (T k).2.2.2 = false) (hd : decode cc pc = .ok (.putfield idx, 3)) {v : Int32} {kf : SG → Option (ρ × SG)} (h : ∀ u1, JF X ex nL cs ss Qf (pc + 3) lv st u1 (kf u1)) : JF X ex nL cs ss Qf pc lv (.int v :: .ref a :: st) u (if zK u a = ci + 1 then bs (sI u a k v) kf else none) := by
  obtain ⟨p, l, e, R, s, m, args, below, meth, c, D, cT, z0, ks⟩ := X
  obtain ⟨hx, hb, hml, hown, hts, hKk, hz0, hRf, hRl, hRc, hRs, hSF, hret, hlk, hnm⟩ := hX
  intro r u' hf ls H locs hl hH hP hw hex hS
  by_cases hc : zK u a = ci + 1
  · rw [if_pos hc] at hf
    obtain ⟨c1, c2, c3, c4, c5, c6⟩ := hC
    obtain ⟨q, hq0⟩ := zp_get (cT := cT) hw (a := a) (by omega)
    have hq := hq0
    rw [zcell_obj hc c3] at hq
    have hset : (zp cT z0 u).set q (a, .inr (ci, (zfs ci u a).set k (.int v))) = zp cT z0 (sI u a k v) := by
      refine zp_set hw (by omega) hq0 rfl (zcell_up ?_ (fun b hb => sIr_o b hb))
      rw [zcell_obj (ci := ci) (u := sI u a k v) hc c3]
      refine congrArg (fun z => Sum.inr (ci, z)) (zfs_set (by omega) ?_ (fun j hj => ?_)).symm
      · rw [hft]
        show (Value.int (zI (sI u a k v) a k)) = _
        rw [sI_I, if_pos rfl, if_pos rfl]
      · unfold zval
        rw [sI_I, if_pos rfl, if_neg hj]
        rfl
    refine va_put (D := D) (v := .int v) hx hb hts c4 ty c5 c6 hown hKk hP zp_D hS q hq c1 k hk (hts _ hl0) (fun _ h9 => h9) hfin (c5 k hk) (by rw [hty]; rfl) (by rw [hty]; rfl) (by rw [zfs_len]; omega) hd (fun H1 locs1 hP1 _ hS1 => ?_)
    rw [hset] at hP1
    intro T9 hT9 X9
    exact h (sI u a k v) r u' hf ls H1 locs1 hl (zsize X9 hT9 hP1 hS1 hz0 (hex he)) hP1 (zwf_of hw rfl (fun _ => rfl)) hex hS1 T9 hT9 X9
  · rw [if_neg hc] at hf; cases hf
theorem jf_putIF (hX : Cx X y cc nL ret d mc ms) (he : ex) {ci idx a : Nat} {C : String} {T : u_T} {N : Nat} {ty : Nat → FieldType} (hC : ClsOK ci C T N ty) (k : Nat) (hl0 : Cond.fieldLink y.cls idx (T k).1 (T k).2.1 (T k).2.2.1 ∈ tb) (hk : k < N) (hft : zft ci k = 0) (hty : ty k = .int) (hfin : (T k).2.2.2 = true) (hini : y.name = "<init>") (hdecl : (T k).1 = y.cls) (hd : decode cc pc = .ok (.putfield idx, 3)) {v : Int32} {kf : SG → Option (ρ × SG)} (h : ∀ u1, JF X ex nL cs ss Qf (pc + 3) lv st u1 (kf u1)) : JF X ex nL cs ss Qf pc lv (.int v :: .ref a :: st) u (if zK u a = ci + 1 then bs (sI u a k v) kf else none) := by
  obtain ⟨p, l, e, R, s, m, args, below, meth, c, D, cT, z0, ks⟩ := X
  obtain ⟨hx, hb, hml, hown, hts, hKk, hz0, hRf, hRl, hRc, hRs, hSF, hret, hlk, hnm⟩ := hX
  intro r u' hf ls H locs hl hH hP hw hex hS
  by_cases hc : zK u a = ci + 1
  · rw [if_pos hc] at hf
    obtain ⟨c1, c2, c3, c4, c5, c6⟩ := hC
    obtain ⟨q, hq0⟩ := zp_get (cT := cT) hw (a := a) (by omega)
    have hq := hq0
    rw [zcell_obj hc c3] at hq
    have hset : (zp cT z0 u).set q (a, .inr (ci, (zfs ci u a).set k (.int v))) = zp cT z0 (sI u a k v) := by
      refine zp_set hw (by omega) hq0 rfl (zcell_up ?_ (fun b hb => sIr_o b hb))
      rw [zcell_obj (ci := ci) (u := sI u a k v) hc c3]
      refine congrArg (fun z => Sum.inr (ci, z)) (zfs_set (by omega) ?_ (fun j hj => ?_)).symm
      · rw [hft]
        show (Value.int (zI (sI u a k v) a k)) = _
        rw [sI_I, if_pos rfl, if_pos rfl]
      · unfold zval
        rw [sI_I, if_pos rfl, if_neg hj]
        rfl
    refine va_putF (D := D) (v := .int v) hx hb hts c4 ty c5 c6 hown hKk hP zp_D hS q hq c1 k hk (hts _ hl0) (fun _ h9 => h9) hfin ((hnm hini).trans hini) hdecl (c5 k hk) (by rw [hty]; rfl) (by rw [hty]; rfl) (by rw [zfs_len]; omega) hd (fun H1 locs1 hP1 _ hS1 => ?_)
    rw [hset] at hP1
    intro T9 hT9 X9
    exact h (sI u a k v) r u' hf ls H1 locs1 hl (zsize X9 hT9 hP1 hS1 hz0 (hex he)) hP1 (zwf_of hw rfl (fun _ => rfl)) hex hS1 T9 hT9 X9
  · rw [if_neg hc] at hf; cases hf
theorem jf_putL (hX : Cx X y cc nL ret d mc ms) (he : ex) {ci idx a : Nat} {C : String} {T : u_T} {N : Nat} {ty : Nat → FieldType} (hC : ClsOK ci C T N ty) (k : Nat) (hl0 : Cond.fieldLink y.cls idx (T k).1 (T k).2.1 (T k).2.2.1 ∈ tb) (hk : k < N) (hft : zft ci k = 2) (hty : ty k = .long) (hfin : (T k).2.2.2 = false) (hd : decode cc pc = .ok (.putfield idx, 3)) {v : Int64} {kf : SG → Option (ρ × SG)} (h : ∀ u1, JF X ex nL cs ss Qf (pc + 3) lv st u1 (kf u1)) : JF X ex nL cs ss Qf pc lv (.long v :: .ref a :: st) u (if zK u a = ci + 1 then bs (sL u a k v) kf else none) := by
  obtain ⟨p, l, e, R, s, m, args, below, meth, c, D, cT, z0, ks⟩ := X
  obtain ⟨hx, hb, hml, hown, hts, hKk, hz0, hRf, hRl, hRc, hRs, hSF, hret, hlk, hnm⟩ := hX
  intro r u' hf ls H locs hl hH hP hw hex hS
  by_cases hc : zK u a = ci + 1
  · rw [if_pos hc] at hf
    obtain ⟨c1, c2, c3, c4, c5, c6⟩ := hC
    obtain ⟨q, hq0⟩ := zp_get (cT := cT) hw (a := a) (by omega)
    have hq := hq0
    rw [zcell_obj hc c3] at hq
    have hset : (zp cT z0 u).set q (a, .inr (ci, (zfs ci u a).set k (.long v))) = zp cT z0 (sL u a k v) := by
      refine zp_set hw (by omega) hq0 rfl (zcell_up ?_ (fun b hb => sLr_o b hb))
      rw [zcell_obj (ci := ci) (u := sL u a k v) hc c3]
      refine congrArg (fun z => Sum.inr (ci, z)) (zfs_set (by omega) ?_ (fun j hj => ?_)).symm
      · rw [hft]
        show (Value.long (zL (sL u a k v) a k)) = _
        rw [sL_L, if_pos rfl, if_pos rfl]
      · unfold zval
        rw [sL_L, if_pos rfl, if_neg hj]
        rfl
    refine va_put (D := D) (v := .long v) hx hb hts c4 ty c5 c6 hown hKk hP zp_D hS q hq c1 k hk (hts _ hl0) (fun _ h9 => h9) hfin (c5 k hk) (by rw [hty]; rfl) (by rw [hty]; rfl) (by rw [zfs_len]; omega) hd (fun H1 locs1 hP1 _ hS1 => ?_)
    rw [hset] at hP1
    intro T9 hT9 X9
    exact h (sL u a k v) r u' hf ls H1 locs1 hl (zsize X9 hT9 hP1 hS1 hz0 (hex he)) hP1 (zwf_of hw rfl (fun _ => rfl)) hex hS1 T9 hT9 X9
  · rw [if_neg hc] at hf; cases hf
theorem jf_putLF (hX : Cx X y cc nL ret d mc ms) (he : ex) {ci idx a : Nat} {C : String} {T : u_T} {N : Nat} {ty : Nat → FieldType} (hC : ClsOK ci C T N ty) (k : Nat) (hl0 : Cond.fieldLink y.cls idx (T k).1 (T k).2.1 (T k).2.2.1 ∈ tb) (hk : k < N) (hft : zft ci k = 2) (hty : ty k = .long) (hfin : (T k).2.2.2 = true) (hini : y.name = "<init>") (hdecl : (T k).1 = y.cls) (hd : decode cc pc = .ok (.putfield idx, 3)) {v : Int64} {kf : SG → Option (ρ × SG)} (h : ∀ u1, JF X ex nL cs ss Qf (pc + 3) lv st u1 (kf u1)) : JF X ex nL cs ss Qf pc lv (.long v :: .ref a :: st) u (if zK u a = ci + 1 then bs (sL u a k v) kf else none) := by
  obtain ⟨p, l, e, R, s, m, args, below, meth, c, D, cT, z0, ks⟩ := X
  obtain ⟨hx, hb, hml, hown, hts, hKk, hz0, hRf, hRl, hRc, hRs, hSF, hret, hlk, hnm⟩ := hX
  intro r u' hf ls H locs hl hH hP hw hex hS
  by_cases hc : zK u a = ci + 1
  · rw [if_pos hc] at hf
    obtain ⟨c1, c2, c3, c4, c5, c6⟩ := hC
    obtain ⟨q, hq0⟩ := zp_get (cT := cT) hw (a := a) (by omega)
    have hq := hq0
    rw [zcell_obj hc c3] at hq
    have hset : (zp cT z0 u).set q (a, .inr (ci, (zfs ci u a).set k (.long v))) = zp cT z0 (sL u a k v) := by
      refine zp_set hw (by omega) hq0 rfl (zcell_up ?_ (fun b hb => sLr_o b hb))
      rw [zcell_obj (ci := ci) (u := sL u a k v) hc c3]
      refine congrArg (fun z => Sum.inr (ci, z)) (zfs_set (by omega) ?_ (fun j hj => ?_)).symm
      · rw [hft]
        show (Value.long (zL (sL u a k v) a k)) = _
        rw [sL_L, if_pos rfl, if_pos rfl]
      · unfold zval
        rw [sL_L, if_pos rfl, if_neg hj]
        rfl
    refine va_putF (D := D) (v := .long v) hx hb hts c4 ty c5 c6 hown hKk hP zp_D hS q hq c1 k hk (hts _ hl0) (fun _ h9 => h9) hfin ((hnm hini).trans hini) hdecl (c5 k hk) (by rw [hty]; rfl) (by rw [hty]; rfl) (by rw [zfs_len]; omega) hd (fun H1 locs1 hP1 _ hS1 => ?_)
    rw [hset] at hP1
    intro T9 hT9 X9
    exact h (sL u a k v) r u' hf ls H1 locs1 hl (zsize X9 hT9 hP1 hS1 hz0 (hex he)) hP1 (zwf_of hw rfl (fun _ => rfl)) hex hS1 T9 hT9 X9
  · rw [if_neg hc] at hf; cases hf
theorem jf_putR (hX : Cx X y cc nL ret d mc ms) (he : ex) {ci idx a : Nat} {C : String} {T : u_T} {N : Nat} {ty : Nat → FieldType} (hC : ClsOK ci C T N ty) (k : Nat) (hl0 : Cond.fieldLink y.cls idx (T k).1 (T k).2.1 (T k).2.2.1 ∈ tb) (hk : k < N) (hft : zft ci k = 1) (hty : refKind (ty k) = true) (hfin : (T k).2.2.2 = false) (hd : decode cc pc = .ok (.putfield idx, 3)) {v : Option Nat} {kf : SG → Option (ρ × SG)} (h : ∀ u1, JF X ex nL cs ss Qf (pc + 3) lv st u1 (kf u1)) : JF X ex nL cs ss Qf pc lv (va_rf v :: .ref a :: st) u (if zK u a = ci + 1 then bs (sR u a k v) kf else none) := by
  obtain ⟨p, l, e, R, s, m, args, below, meth, c, D, cT, z0, ks⟩ := X
  obtain ⟨hx, hb, hml, hown, hts, hKk, hz0, hRf, hRl, hRc, hRs, hSF, hret, hlk, hnm⟩ := hX
  intro r u' hf ls H locs hl hH hP hw hex hS
  by_cases hc : zK u a = ci + 1
  · rw [if_pos hc] at hf
    obtain ⟨c1, c2, c3, c4, c5, c6⟩ := hC
    obtain ⟨q, hq0⟩ := zp_get (cT := cT) hw (a := a) (by omega)
    have hq := hq0
    rw [zcell_obj hc c3] at hq
    have hset : (zp cT z0 u).set q (a, .inr (ci, (zfs ci u a).set k (va_rf v))) = zp cT z0 (sR u a k v) := by
      refine zp_set hw (by omega) hq0 rfl (zcell_up ?_ (fun b hb => sRr_o b hb))
      rw [zcell_obj (ci := ci) (u := sR u a k v) hc c3]
      refine congrArg (fun z => Sum.inr (ci, z)) (zfs_set (by omega) ?_ (fun j hj => ?_)).symm
      · rw [hft]
        show (va_rf (zR (sR u a k v) a k)) = _
        rw [sR_R, if_pos rfl, if_pos rfl]
      · unfold zval
        rw [sR_R, if_pos rfl, if_neg hj]
        rfl
    refine va_put (D := D) (v := va_rf v) hx hb hts c4 ty c5 c6 hown hKk hP zp_D hS q hq c1 k hk (hts _ hl0) (fun _ h9 => h9) hfin (c5 k hk) (by revert hty; cases ty k <;> cases v <;> first | (intro; rfl) | (intro h; cases h)) (by revert hty; cases ty k <;> cases v <;> first | (intro; rfl) | (intro h; cases h)) (by rw [zfs_len]; omega) hd (fun H1 locs1 hP1 _ hS1 => ?_)
    rw [hset] at hP1
    intro T9 hT9 X9
    exact h (sR u a k v) r u' hf ls H1 locs1 hl (zsize X9 hT9 hP1 hS1 hz0 (hex he)) hP1 (zwf_of hw rfl (fun _ => rfl)) hex hS1 T9 hT9 X9
  · rw [if_neg hc] at hf; cases hf
theorem jf_putRF (hX : Cx X y cc nL ret d mc ms) (he : ex) {ci idx a : Nat} {C : String} {T : u_T} {N : Nat} {ty : Nat → FieldType} (hC : ClsOK ci C T N ty) (k : Nat) (hl0 : Cond.fieldLink y.cls idx (T k).1 (T k).2.1 (T k).2.2.1 ∈ tb) (hk : k < N) (hft : zft ci k = 1) (hty : refKind (ty k) = true) (hfin : (T k).2.2.2 = true) (hini : y.name = "<init>") (hdecl : (T k).1 = y.cls) (hd : decode cc pc = .ok (.putfield idx, 3)) {v : Option Nat} {kf : SG → Option (ρ × SG)} (h : ∀ u1, JF X ex nL cs ss Qf (pc + 3) lv st u1 (kf u1)) : JF X ex nL cs ss Qf pc lv (va_rf v :: .ref a :: st) u (if zK u a = ci + 1 then bs (sR u a k v) kf else none) := by
  obtain ⟨p, l, e, R, s, m, args, below, meth, c, D, cT, z0, ks⟩ := X
  obtain ⟨hx, hb, hml, hown, hts, hKk, hz0, hRf, hRl, hRc, hRs, hSF, hret, hlk, hnm⟩ := hX
  intro r u' hf ls H locs hl hH hP hw hex hS
  by_cases hc : zK u a = ci + 1
  · rw [if_pos hc] at hf
    obtain ⟨c1, c2, c3, c4, c5, c6⟩ := hC
    obtain ⟨q, hq0⟩ := zp_get (cT := cT) hw (a := a) (by omega)
    have hq := hq0
    rw [zcell_obj hc c3] at hq
    have hset : (zp cT z0 u).set q (a, .inr (ci, (zfs ci u a).set k (va_rf v))) = zp cT z0 (sR u a k v) := by
      refine zp_set hw (by omega) hq0 rfl (zcell_up ?_ (fun b hb => sRr_o b hb))
      rw [zcell_obj (ci := ci) (u := sR u a k v) hc c3]
      refine congrArg (fun z => Sum.inr (ci, z)) (zfs_set (by omega) ?_ (fun j hj => ?_)).symm
      · rw [hft]
        show (va_rf (zR (sR u a k v) a k)) = _
        rw [sR_R, if_pos rfl, if_pos rfl]
      · unfold zval
        rw [sR_R, if_pos rfl, if_neg hj]
        rfl
    refine va_putF (D := D) (v := va_rf v) hx hb hts c4 ty c5 c6 hown hKk hP zp_D hS q hq c1 k hk (hts _ hl0) (fun _ h9 => h9) hfin ((hnm hini).trans hini) hdecl (c5 k hk) (by revert hty; cases ty k <;> cases v <;> first | (intro; rfl) | (intro h; cases h)) (by revert hty; cases ty k <;> cases v <;> first | (intro; rfl) | (intro h; cases h)) (by rw [zfs_len]; omega) hd (fun H1 locs1 hP1 _ hS1 => ?_)
    rw [hset] at hP1
    intro T9 hT9 X9
    exact h (sR u a k v) r u' hf ls H1 locs1 hl (zsize X9 hT9 hP1 hS1 hz0 (hex he)) hP1 (zwf_of hw rfl (fun _ => rfl)) hex hS1 T9 hT9 X9
  · rw [if_neg hc] at hf; cases hf
theorem jf_putZ (hX : Cx X y cc nL ret d mc ms) (he : ex) {ci idx a : Nat} {C : String} {T : u_T} {N : Nat} {ty : Nat → FieldType} (hC : ClsOK ci C T N ty) (k : Nat) (hl0 : Cond.fieldLink y.cls idx (T k).1 (T k).2.1 (T k).2.2.1 ∈ tb) (hk : k < N) (hft : zft ci k = 0) (hty : ty k = .boolean) (hfin : (T k).2.2.2 = false) (hd : decode cc pc = .ok (.putfield idx, 3)) {v : Int32} {kf : SG → Option (ρ × SG)} (h : ∀ u1, JF X ex nL cs ss Qf (pc + 3) lv st u1 (kf u1)) : JF X ex nL cs ss Qf pc lv (.int v :: .ref a :: st) u (if zK u a = ci + 1 then (if v = 0 ∨ v = 1 then bs (sI u a k v) kf else none) else none) := by
  obtain ⟨p, l, e, R, s, m, args, below, meth, c, D, cT, z0, ks⟩ := X
  obtain ⟨hx, hb, hml, hown, hts, hKk, hz0, hRf, hRl, hRc, hRs, hSF, hret, hlk, hnm⟩ := hX
  intro r u' hf ls H locs hl hH hP hw hex hS
  by_cases hc : zK u a = ci + 1
  · rw [if_pos hc] at hf
    by_cases hv : v = 0 ∨ v = 1
    · rw [if_pos hv] at hf
      obtain ⟨c1, c2, c3, c4, c5, c6⟩ := hC
      obtain ⟨q, hq0⟩ := zp_get (cT := cT) hw (a := a) (by omega)
      have hq := hq0
      rw [zcell_obj hc c3] at hq
      have hset : (zp cT z0 u).set q (a, .inr (ci, (zfs ci u a).set k (.int v))) = zp cT z0 (sI u a k v) := by
        refine zp_set hw (by omega) hq0 rfl (zcell_up ?_ (fun b hb => sIr_o b hb))
        rw [zcell_obj (ci := ci) (u := sI u a k v) hc c3]
        refine congrArg (fun z => Sum.inr (ci, z)) (zfs_set (by omega) ?_ (fun j hj => ?_)).symm
        · rw [hft]
          show (Value.int (zI (sI u a k v) a k)) = _
          rw [sI_I, if_pos rfl, if_pos rfl]
        · unfold zval
          rw [sI_I, if_pos rfl, if_neg hj]
          rfl
      refine va_put (D := D) (v := .int v) hx hb hts c4 ty c5 c6 hown hKk hP zp_D hS q hq c1 k hk (hts _ hl0) (fun _ h9 => h9) hfin (c5 k hk) (by rw [hty]; rcases hv with rfl | rfl <;> rfl) (by rw [hty]; rcases hv with rfl | rfl <;> rfl) (by rw [zfs_len]; omega) hd (fun H1 locs1 hP1 _ hS1 => ?_)
      rw [hset] at hP1
      intro T9 hT9 X9
      exact h (sI u a k v) r u' hf ls H1 locs1 hl (zsize X9 hT9 hP1 hS1 hz0 (hex he)) hP1 (zwf_of hw rfl (fun _ => rfl)) hex hS1 T9 hT9 X9
    · rw [if_neg hv] at hf; cases hf
  · rw [if_neg hc] at hf; cases hf
theorem jf_none : JF X ex nL cs ss Qf pc lv st u (none : Option (ρ × SG)) := fun _ _ hf => by cases hf
end ROWS
