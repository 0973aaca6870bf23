/-! THE LAW'S START: what the tables and the statement's premises give -/
def uz (z : Nat) : SG := (z, fun _ => 0, fun _ => 0, fun _ _ => 0, fun _ _ => 0, fun _ _ => none)
theorem uz_wf (z : Nat) : zwf z (uz z) := ⟨Nat.le_refl _, fun _ h => absurd rfl h⟩
theorem uz_P (D : va_G) (cT : Nat → ClassId) (z : Nat) (H : Heap) : va_P D vwCl (zp cT z (uz z)) H := by
  intro k q h
  unfold zp zrng uz va_pl at h
  simp at h
theorem ar_prim {args : Array Value} {s : State} {ty : FieldType} (hp : ∀ C, ty ≠ .object C) (h : (Cond.arrayClass ty).before args s = true) : ∃ cA : ClassId, ArrOfT s cA ty ∧ va_RA s cA ty := by
  obtain ⟨cA, kA, comp, h1, h2, h3⟩ := Cond.arrayClass_spec h
  refine ⟨cA, fun n z => ⟨fun k h => (by cases h), kA, h2, comp, h3⟩, ?_⟩
  cases ty with
  | object C => exact absurd rfl (hp C)
  | _ => exact h1
theorem ar_obj {args : Array Value} {s : State} {C : String} (h : (Cond.arrayOver (.object C)).before args s = true) : ∃ cA : ClassId, ArrOfT s cA (.object C) ∧ va_RA s cA (.object C) := by
  obtain ⟨comp, cA, kA, h1, _, h2, h3, h4⟩ := Cond.arrayOver_spec h
  exact ⟨cA, fun n z => ⟨fun k h => (by cases h), kA, h2, comp, h3⟩, kA, comp, h2, h3, h1, h4⟩
def jtm : Term := .string "SleepersPay$Text" 81
def jtv : Term := .field jtm "java/lang/String" "value" "[B"
def jgn : List Cond := flatC (Jvm.Cond.and given_1 narrow_1)
theorem jg_ex : Cond.exactly jtm "java/lang/String" ∈ jgn := by decide +kernel
theorem jg_co : Cond.eq (.field jtm "java/lang/String" "coder" "B") (.int 0) ∈ jgn := by decide +kernel
theorem jg_ar : Cond.arrayOf jtv .byte ∈ jgn := by decide +kernel
theorem jg_le : Cond.eq (.length jtv) (.int (Int32.ofNat jln)) ∈ jgn := by decide +kernel
theorem jg_el : ∀ j, j < jln → Cond.eq (.elem jtv (.int (Int32.ofNat j))) (.int (jby.getD j 0)) ∈ jgn := by decide +kernel
theorem jg_cs : Cond.eq (.static "java/lang/String" "COMPACT_STRINGS" "Z") (.int 1) ∈ jgn := by decide +kernel
theorem jg_fm : Cond.isRef (.static "jdk/internal/util/Preconditions" "SIOOBE_FORMATTER" "Ljava/util/function/BiFunction;") ∈ jgn := by decide +kernel
theorem jw_sr : Cond.stringRef "SleepersPay$Text" 81 jtx ∈ lw_tbl := by decide +kernel
theorem jw_l1 : Cond.laysStatic "java/lang/String" "COMPACT_STRINGS" "Z" ∈ lw_tbl := by decide +kernel
theorem jw_l2 : Cond.laysStatic "jdk/internal/util/Preconditions" "SIOOBE_FORMATTER" "Ljava/util/function/BiFunction;" ∈ lw_tbl := by decide +kernel
theorem jw_i1 : Cond.initialized "java/lang/String" ∈ lw_tbl := by decide +kernel
theorem jw_i2 : Cond.initialized "jdk/internal/util/Preconditions" ∈ lw_tbl := by decide +kernel
theorem jSF_start {s : State} {b : Nat} (hts : ∀ w ∈ lw_tbl, w.before #[Value.ref b] s = true) (hgv : (Jvm.Cond.and given_1 narrow_1).before #[Value.ref b] s = true) : ∃ ks, jSF s.heap.size ks s := by
  have hg : ∀ c ∈ jgn, c.before #[Value.ref b] s = true := flat_of_before _ hgv
  have hA : ∀ a : Nat, a < s.heap.size → ¬ (fun q => s.heap.size ≤ q) a := fun a h => Nat.not_le.mpr h
  obtain ⟨adK, adV, h1, h2⟩ := vk_Sof (args := #[Value.ref b]) (s := s) (N := 1) (tm := fun _ => jtm) (len := [jln]) (byt := [jby]) (A := fun q => s.heap.size ≤ q)
    (fun i hi => by cases (show i = 0 by omega); decide)
    (fun i hi => hg _ jg_ex) (fun i hi => hg _ jg_co) (fun i hi => hg _ jg_ar)
    (fun i hi => by cases (show i = 0 by omega); exact hg _ jg_le)
    (fun i hi j hj => by cases (show i = 0 by omega); exact hg _ (jg_el j hj))
    (fun i j hi hj hij => absurd (show i = j by omega) hij) hA
  exact ⟨(adK 0, adV 0), fun a i x h hm => va_Nw.of rfl (hts _ hm), fun C hm => va_AO.of (hts _ hm), adK, adV, rfl, rfl, h1, vk_R.of (hts _ jw_sr) (h2 0 (by decide)), va_Zof (hts _ jw_l1) (hts _ jw_i1) (va_eqi (hg _ jg_cs)) hA, va_Zqof (hts _ jw_l2) (hts _ jw_i2) (hg _ jg_fm) hA⟩
theorem jK_start {s : State} {b : Nat} (hts : ∀ w ∈ lw_tbl, w.before #[Value.ref b] s = true) : ∃ (D : va_G) (cT : Nat → ClassId), va_K D vwCl (tyl cT) s := by
  have htb : ∀ w ∈ tb, w.before #[Value.ref b] s = true := fun w h => hts w (List.mem_filter.mp h).1
  obtain ⟨c0, i0, k0⟩ := u_known (C := RX0) (T := TX0) (N := 3) (n := 3) htb uw_X0 (hts (.instantiable RX0 3) (by decide +kernel))
  obtain ⟨c1, i1, k1⟩ := u_known (C := RX1) (T := TX1) (N := 5) (n := 5) htb uw_X1 (hts (.instantiable RX1 5) (by decide +kernel))
  obtain ⟨c2, i2, k2⟩ := u_known (C := RX2) (T := TX2) (N := 8) (n := 8) htb uw_X2 (hts (.instantiable RX2 8) (by decide +kernel))
  obtain ⟨c3, i3, k3⟩ := u_known (C := RX3) (T := TX3) (N := 4) (n := 4) htb uw_X3 (hts (.instantiable RX3 4) (by decide +kernel))
  obtain ⟨c4, i4, k4⟩ := u_known (C := RX4) (T := TX4) (N := 1) (n := 1) htb uw_X4 (hts (.instantiable RX4 1) (by decide +kernel))
  obtain ⟨c5, i5, k5⟩ := u_known (C := RX5) (T := TX5) (N := 4) (n := 4) htb uw_X5 (hts (.instantiable RX5 4) (by decide +kernel))
  obtain ⟨c6, i6, k6⟩ := u_known (C := RX6) (T := TX6) (N := 6) (n := 6) htb uw_X6 (hts (.instantiable RX6 6) (by decide +kernel))
  obtain ⟨c7, i7, k7⟩ := u_known (C := RX7) (T := TX7) (N := 11) (n := 11) htb uw_X7 (hts (.instantiable RX7 11) (by decide +kernel))
  obtain ⟨c8, i8, k8⟩ := u_known (C := RX8) (T := TX8) (N := 1) (n := 1) htb uw_X8 (hts (.instantiable RX8 1) (by decide +kernel))
  obtain ⟨c9, i9, k9⟩ := u_known (C := RX9) (T := TX9) (N := 12) (n := 12) htb uw_X9 (hts (.instantiable RX9 12) (by decide +kernel))
  obtain ⟨c10, i10, k10⟩ := u_known (C := RX10) (T := TX10) (N := 13) (n := 13) htb uw_X10 (hts (.instantiable RX10 13) (by decide +kernel))
  obtain ⟨c11, i11, k11⟩ := u_known (C := RX11) (T := TX11) (N := 36) (n := 36) htb uw_X11 (hts (.instantiable RX11 36) (by decide +kernel))
  obtain ⟨a0, p0, q0⟩ := ar_prim (ty := .byte) (fun _ h => by cases h) (hts (.arrayClass .byte) (by decide +kernel))
  obtain ⟨a1, p1, q1⟩ := ar_prim (ty := .int) (fun _ h => by cases h) (hts (.arrayClass .int) (by decide +kernel))
  obtain ⟨a2, p2, q2⟩ := ar_prim (ty := .long) (fun _ h => by cases h) (hts (.arrayClass .long) (by decide +kernel))
  obtain ⟨a3, p3, q3⟩ := ar_prim (ty := .boolean) (fun _ h => by cases h) (hts (.arrayClass .boolean) (by decide +kernel))
  obtain ⟨a4, p4, q4⟩ := ar_obj (C := RX2) (hts (.arrayOver (.object RX2)) (by decide +kernel))
  obtain ⟨a5, p5, q5⟩ := ar_obj (C := RX4) (hts (.arrayOver (.object RX4)) (by decide +kernel))
  obtain ⟨a6, p6, q6⟩ := ar_obj (C := RX6) (hts (.arrayOver (.object RX6)) (by decide +kernel))
  refine ⟨(fun k => match k with
    | 0 => c0
    | 1 => c1
    | 2 => c2
    | 3 => c3
    | 4 => c4
    | 5 => c5
    | 6 => c6
    | 7 => c7
    | 8 => c8
    | 9 => c9
    | 10 => c10
    | 11 => c11
    | _ => c0, fun k => match k with
    | 0 => i0
    | 1 => i1
    | 2 => i2
    | 3 => i3
    | 4 => i4
    | 5 => i5
    | 6 => i6
    | 7 => i7
    | 8 => i8
    | 9 => i9
    | 10 => i10
    | 11 => i11
    | _ => i0), (fun k => match k with
    | 21 => a0
    | 22 => a1
    | 23 => a2
    | 24 => a3
    | 25 => a4
    | 26 => a5
    | _ => a6), ?_, ?_⟩
  · intro k q hq
    match k, hq with
    | 0, hq => cases hq; exact k0
    | 1, hq => cases hq; exact k1
    | 2, hq => cases hq; exact k2
    | 3, hq => cases hq; exact k3
    | 4, hq => cases hq; exact k4
    | 5, hq => cases hq; exact k5
    | 6, hq => cases hq; exact k6
    | 7, hq => cases hq; exact k7
    | 8, hq => cases hq; exact k8
    | 9, hq => cases hq; exact k9
    | 10, hq => cases hq; exact k10
    | 11, hq => cases hq; exact k11
    | k + 12, hq => simp [vwCl] at hq
  · intro k q hq
    match k, hq with
    | 0, hq => cases hq; exact ⟨p0, q0⟩
    | 1, hq => cases hq; exact ⟨p1, q1⟩
    | 2, hq => cases hq; exact ⟨p2, q2⟩
    | 3, hq => cases hq; exact ⟨p3, q3⟩
    | 4, hq => cases hq; exact ⟨p4, q4⟩
    | 5, hq => cases hq; exact ⟨p5, q5⟩
    | 6, hq => cases hq; exact ⟨p6, q6⟩
    | k + 7, hq => simp [tyl] at hq
set_option maxHeartbeats 4000000 in
/-- from a pure fact on the law's function: the law -/
theorem law_start {p : Program} {e : Env} {s : State} {m : MethodId} {below : List Frame} {meth : Method} {c : Code} (l : Launch) {b L : Nat} {xs : Nat → Int32} (C0 : lw_At p s m meth c b L xs) (N : Nat) (hN : N ≤ 15000) (u' : SG) (hf : fL_law N L xs (uz s.heap.size) = some (1, u')) : W p l e room_1 s m #[Value.ref b] below meth c s.heap [] 0 0 (lw_Z below #[Value.ref b] s) (entryFrame m ([Value.ref b] : List Value).toArray 4) := by
  obtain ⟨hx, hb, hr, hml, hown, hts, hX, hbl, hlocks, hgv⟩ := C0
  obtain ⟨ks, hSF⟩ := jSF_start hts hgv
  obtain ⟨D, cT, hK⟩ := jK_start hts
  have hCx : Cx (p, l, e, room_1, s, m, #[Value.ref b], below, meth, c, D, cT, s.heap.size, ks) yL_law code 4 ret 1400 600000 7302250 :=
    ⟨hx, hb, hml, hown, fun w h => hts w (List.mem_filter.mp h).1, hK, Nat.le_refl _, by decide, by decide, by decide, by decide, hSF, hr, hlocks, fun h => absurd h (by decide)⟩
  have h1 := jL_law (L := L) (xs := xs) hCx ⟨hX, hbl, rfl⟩ rfl N (by omega) (by omega) (uz s.heap.size) 1 u' hf
  rw [lg_entry_eq]
  exact h1 _ s.heap [] (lv_entry [Value.ref b] (Nat.le_of_ble_eq_true rfl)) rfl (uz_P D cT _ _) (uz_wf _) (fun _ => Nat.le_refl _) va_S.rf
