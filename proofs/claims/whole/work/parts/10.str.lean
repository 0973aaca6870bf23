theorem dJ0_length_8abf5_0 : decode cJ0_length_8abf5 0 = .ok (.aload_n 0, 1) := by decide +kernel
theorem dJ0_length_8abf5_1 : decode cJ0_length_8abf5 1 = .ok (.getfield 9, 3) := by decide +kernel
theorem dJ0_length_8abf5_4 : decode cJ0_length_8abf5 4 = .ok (.arraylength, 1) := by decide +kernel
theorem dJ0_length_8abf5_5 : decode cJ0_length_8abf5 5 = .ok (.aload_n 0, 1) := by decide +kernel
theorem dJ0_length_8abf5_6 : decode cJ0_length_8abf5 6 = .ok (.invokevirtual 335, 3) := by decide +kernel
theorem dJ0_length_8abf5_9 : decode cJ0_length_8abf5 9 = .ok (.ishr, 1) := by decide +kernel
theorem dJ0_length_8abf5_10 : decode cJ0_length_8abf5 10 = .ok (.ireturn, 1) := by decide +kernel
theorem dJ0_charAt_5068e_0 : decode cJ0_charAt_5068e 0 = .ok (.aload_n 0, 1) := by decide +kernel
theorem dJ0_charAt_5068e_1 : decode cJ0_charAt_5068e 1 = .ok (.invokevirtual 492, 3) := by decide +kernel
theorem dJ0_charAt_5068e_4 : decode cJ0_charAt_5068e 4 = .ok (.ifCond .eq 12, 3) := by decide +kernel
theorem dJ0_charAt_5068e_7 : decode cJ0_charAt_5068e 7 = .ok (.aload_n 0, 1) := by decide +kernel
theorem dJ0_charAt_5068e_8 : decode cJ0_charAt_5068e 8 = .ok (.getfield 9, 3) := by decide +kernel
theorem dJ0_charAt_5068e_11 : decode cJ0_charAt_5068e 11 = .ok (.iload_n 1, 1) := by decide +kernel
theorem dJ0_charAt_5068e_12 : decode cJ0_charAt_5068e 12 = .ok (.invokestatic 495, 3) := by decide +kernel
theorem dJ0_charAt_5068e_15 : decode cJ0_charAt_5068e 15 = .ok (.ireturn, 1) := by decide +kernel
theorem dJ0_charAt_5068e_16 : decode cJ0_charAt_5068e 16 = .ok (.aload_n 0, 1) := by decide +kernel
theorem dJ0_charAt_5068e_17 : decode cJ0_charAt_5068e 17 = .ok (.getfield 9, 3) := by decide +kernel
theorem dJ0_charAt_5068e_20 : decode cJ0_charAt_5068e 20 = .ok (.iload_n 1, 1) := by decide +kernel
theorem dJ0_charAt_5068e_21 : decode cJ0_charAt_5068e 21 = .ok (.invokestatic 498, 3) := by decide +kernel
theorem dJ0_charAt_5068e_24 : decode cJ0_charAt_5068e 24 = .ok (.ireturn, 1) := by decide +kernel
theorem dJ0_coder_7d493_0 : decode cJ0_coder_7d493 0 = .ok (.getstatic 38, 3) := by decide +kernel
theorem dJ0_coder_7d493_3 : decode cJ0_coder_7d493 3 = .ok (.ifCond .eq 10, 3) := by decide +kernel
theorem dJ0_coder_7d493_6 : decode cJ0_coder_7d493 6 = .ok (.aload_n 0, 1) := by decide +kernel
theorem dJ0_coder_7d493_7 : decode cJ0_coder_7d493 7 = .ok (.getfield 15, 3) := by decide +kernel
theorem dJ0_coder_7d493_10 : decode cJ0_coder_7d493 10 = .ok (.goto 4, 3) := by decide +kernel
theorem dJ0_coder_7d493_13 : decode cJ0_coder_7d493 13 = .ok (.iconst 1, 1) := by decide +kernel
theorem dJ0_coder_7d493_14 : decode cJ0_coder_7d493 14 = .ok (.ireturn, 1) := by decide +kernel
theorem dJ0_isLatin1_aae02_0 : decode cJ0_isLatin1_aae02 0 = .ok (.getstatic 38, 3) := by decide +kernel
theorem dJ0_isLatin1_aae02_3 : decode cJ0_isLatin1_aae02 3 = .ok (.ifCond .eq 14, 3) := by decide +kernel
theorem dJ0_isLatin1_aae02_6 : decode cJ0_isLatin1_aae02 6 = .ok (.aload_n 0, 1) := by decide +kernel
theorem dJ0_isLatin1_aae02_7 : decode cJ0_isLatin1_aae02 7 = .ok (.getfield 15, 3) := by decide +kernel
theorem dJ0_isLatin1_aae02_10 : decode cJ0_isLatin1_aae02 10 = .ok (.ifCond .ne 7, 3) := by decide +kernel
theorem dJ0_isLatin1_aae02_13 : decode cJ0_isLatin1_aae02 13 = .ok (.iconst 1, 1) := by decide +kernel
theorem dJ0_isLatin1_aae02_14 : decode cJ0_isLatin1_aae02 14 = .ok (.goto 4, 3) := by decide +kernel
theorem dJ0_isLatin1_aae02_17 : decode cJ0_isLatin1_aae02 17 = .ok (.iconst 0, 1) := by decide +kernel
theorem dJ0_isLatin1_aae02_18 : decode cJ0_isLatin1_aae02 18 = .ok (.ireturn, 1) := by decide +kernel
theorem dJ1_charAt_3b067_0 : decode cJ1_charAt_3b067 0 = .ok (.iload_n 1, 1) := by decide +kernel
theorem dJ1_charAt_3b067_1 : decode cJ1_charAt_3b067 1 = .ok (.aload_n 0, 1) := by decide +kernel
theorem dJ1_charAt_3b067_2 : decode cJ1_charAt_3b067 2 = .ok (.arraylength, 1) := by decide +kernel
theorem dJ1_charAt_3b067_3 : decode cJ1_charAt_3b067 3 = .ok (.invokestatic 9, 3) := by decide +kernel
theorem dJ1_charAt_3b067_6 : decode cJ1_charAt_3b067 6 = .ok (.aload_n 0, 1) := by decide +kernel
theorem dJ1_charAt_3b067_7 : decode cJ1_charAt_3b067 7 = .ok (.iload_n 1, 1) := by decide +kernel
theorem dJ1_charAt_3b067_8 : decode cJ1_charAt_3b067 8 = .ok (.baload, 1) := by decide +kernel
theorem dJ1_charAt_3b067_9 : decode cJ1_charAt_3b067 9 = .ok (.sipush 255, 3) := by decide +kernel
theorem dJ1_charAt_3b067_12 : decode cJ1_charAt_3b067 12 = .ok (.iand, 1) := by decide +kernel
theorem dJ1_charAt_3b067_13 : decode cJ1_charAt_3b067 13 = .ok (.i2c, 1) := by decide +kernel
theorem dJ1_charAt_3b067_14 : decode cJ1_charAt_3b067 14 = .ok (.ireturn, 1) := by decide +kernel
theorem dJ0_checkIndex_df160_0 : decode cJ0_checkIndex_df160 0 = .ok (.iload_n 0, 1) := by decide +kernel
theorem dJ0_checkIndex_df160_1 : decode cJ0_checkIndex_df160 1 = .ok (.iload_n 1, 1) := by decide +kernel
theorem dJ0_checkIndex_df160_2 : decode cJ0_checkIndex_df160 2 = .ok (.getstatic 1053, 3) := by decide +kernel
theorem dJ0_checkIndex_df160_5 : decode cJ0_checkIndex_df160 5 = .ok (.invokestatic 1059, 3) := by decide +kernel
theorem dJ0_checkIndex_df160_8 : decode cJ0_checkIndex_df160 8 = .ok (.pop, 1) := by decide +kernel
theorem dJ0_checkIndex_df160_9 : decode cJ0_checkIndex_df160 9 = .ok (.return_, 1) := by decide +kernel
theorem dJ3_checkIndex_8e157_0 : decode cJ3_checkIndex_8e157 0 = .ok (.iload_n 0, 1) := by decide +kernel
theorem dJ3_checkIndex_8e157_1 : decode cJ3_checkIndex_8e157 1 = .ok (.ifCond .lt 8, 3) := by decide +kernel
theorem dJ3_checkIndex_8e157_4 : decode cJ3_checkIndex_8e157 4 = .ok (.iload_n 0, 1) := by decide +kernel
theorem dJ3_checkIndex_8e157_5 : decode cJ3_checkIndex_8e157 5 = .ok (.iload_n 1, 1) := by decide +kernel
theorem dJ3_checkIndex_8e157_6 : decode cJ3_checkIndex_8e157 6 = .ok (.if_icmp .lt 10, 3) := by decide +kernel
theorem dJ3_checkIndex_8e157_9 : decode cJ3_checkIndex_8e157 9 = .ok (.aload_n 2, 1) := by decide +kernel
theorem dJ3_checkIndex_8e157_10 : decode cJ3_checkIndex_8e157 10 = .ok (.iload_n 0, 1) := by decide +kernel
theorem dJ3_checkIndex_8e157_11 : decode cJ3_checkIndex_8e157 11 = .ok (.iload_n 1, 1) := by decide +kernel
theorem dJ3_checkIndex_8e157_12 : decode cJ3_checkIndex_8e157 12 = .ok (.invokestatic 95, 3) := by decide +kernel
theorem dJ3_checkIndex_8e157_15 : decode cJ3_checkIndex_8e157 15 = .ok (.athrow, 1) := by decide +kernel
theorem dJ3_checkIndex_8e157_16 : decode cJ3_checkIndex_8e157 16 = .ok (.iload_n 0, 1) := by decide +kernel
theorem dJ3_checkIndex_8e157_17 : decode cJ3_checkIndex_8e157 17 = .ok (.ireturn, 1) := by decide +kernel
theorem wdS : ∀ j, j < jln → ((jby.getD j 0).toInt8.toInt32 = jby.getD j 0) := by decide +kernel
section STR
variable {X : XT} {ex : Prop} {y : MethodName} {cc : ByteArray} {nL : Nat} {ret : Option FieldType} {d mc ms cs ss : Nat} {ρ : Type} {Qf : ρ → SG → State → Prop} {pc : Nat} {lv : List (Nat × Value)} {st : List Value} {u : SG} {fx fy : Option (ρ × SG)}
theorem jf_ldcS (hX : Cx X y cc nL ret d mc ms) (hy : y.cls = RX9) (hd : decode cc pc = .ok (.ldc 81, 2)) (h : JF X ex nL cs ss Qf (pc + 2) lv (.ref (Xks X).1 :: st) u fx) : JF X ex nL cs ss Qf pc lv st u fx := by
  obtain ⟨p, l, e, R, s, m, args, below, meth, c, D, cT, z0, ks⟩ := X
  obtain ⟨hx, hb, hml, hown, hts, hKk, hz0, hRf, hRl, hRc, hRs, hSF, hret, hlk, hnm⟩ := hX
  intro r u' hf ls H locs hl hH hP hw hex hS
  obtain ⟨hN, hO, adK, adV, e1, e2, hE, hV, hZ, hZq⟩ := id hSF
  exact va_ldcS hx hb (by rw [← hy]; exact hown) hV hd (h r u' hf ls H locs hl hH hP hw hex hS)
theorem jf_gets (hX : Cx X y cc nL ret d mc ms) {i : Nat} (hl0 : Cond.fieldLink y.cls i "java/lang/String" "COMPACT_STRINGS" "Z" ∈ tb) (hd : decode cc pc = .ok (.getstatic i, 3)) (h : JF X ex nL cs ss Qf (pc + 3) lv (.int 1 :: st) u fx) : JF X ex nL cs ss Qf pc lv st u fx := by
  obtain ⟨p, l, e, R, s, m, args, below, meth, c, D, cT, z0, ks⟩ := X
  obtain ⟨hx, hb, hml, hown, hts, hKk, hz0, hRf, hRl, hRc, hRs, hSF, hret, hlk, hnm⟩ := hX
  intro r u' hf ls H locs hl hH hP hw hex hS
  obtain ⟨hN, hO, adK, adV, e1, e2, hE, hV, hZ, hZq⟩ := id hSF
  exact va_gets hx hb hZ hS hown (hts _ hl0) (fun _ h9 => h9) hd (h r u' hf ls H locs hl hH hP hw hex hS)
theorem jf_getsq (hX : Cx X y cc nL ret d mc ms) {i : Nat} (hl0 : Cond.fieldLink y.cls i "jdk/internal/util/Preconditions" "SIOOBE_FORMATTER" "Ljava/util/function/BiFunction;" ∈ tb) (hd : decode cc pc = .ok (.getstatic i, 3)) (h : ∀ q : Option Nat, JF X ex nL cs ss Qf (pc + 3) lv (va_rf q :: st) u fx) : JF X ex nL cs ss Qf pc lv st u fx := by
  obtain ⟨p, l, e, R, s, m, args, below, meth, c, D, cT, z0, ks⟩ := X
  obtain ⟨hx, hb, hml, hown, hts, hKk, hz0, hRf, hRl, hRc, hRs, hSF, hret, hlk, hnm⟩ := hX
  intro r u' hf ls H locs hl hH hP hw hex hS
  obtain ⟨hN, hO, adK, adV, e1, e2, hE, hV, hZ, hZq⟩ := id hSF
  rcases hZq with hq | ⟨t, hq⟩
  · exact va_gets hx hb hq hS hown (hts _ hl0) (fun _ h9 => h9) hd (h none r u' hf ls H locs hl hH hP hw hex hS)
  · exact va_gets hx hb hq hS hown (hts _ hl0) (fun _ h9 => h9) hd (h (some t) r u' hf ls H locs hl hH hP hw hex hS)
theorem jf_scod (hX : Cx X y cc nL ret d mc ms) {i : Nat} (hl0 : Cond.fieldLink y.cls i "java/lang/String" "coder" "B" ∈ tb) (hd : decode cc pc = .ok (.getfield i, 3)) (h : JF X ex nL cs ss Qf (pc + 3) lv (.int 0 :: st) u fx) : JF X ex nL cs ss Qf pc lv (.ref (Xks X).1 :: st) u fx := by
  obtain ⟨p, l, e, R, s, m, args, below, meth, c, D, cT, z0, ks⟩ := X
  obtain ⟨hx, hb, hml, hown, hts, hKk, hz0, hRf, hRl, hRc, hRs, hSF, hret, hlk, hnm⟩ := hX
  intro r u' hf ls H locs hl hH hP hw hex hS
  obtain ⟨hN, hO, adK, adV, e1, e2, hE, hV, hZ, hZq⟩ := id hSF
  have h0 := (hE.1 0 (by decide)).2.1
  rw [e1] at h0
  exact vk_getf hx hb h0 hS hown (hts _ hl0) (fun _ h9 => h9) hd (h r u' hf ls H locs hl hH hP hw hex hS)
theorem jf_sval (hX : Cx X y cc nL ret d mc ms) {i : Nat} (hl0 : Cond.fieldLink y.cls i "java/lang/String" "value" "[B" ∈ tb) (hd : decode cc pc = .ok (.getfield i, 3)) (h : JF X ex nL cs ss Qf (pc + 3) lv (.ref (Xks X).2 :: st) u fx) : JF X ex nL cs ss Qf pc lv (.ref (Xks X).1 :: st) u fx := by
  obtain ⟨p, l, e, R, s, m, args, below, meth, c, D, cT, z0, ks⟩ := X
  obtain ⟨hx, hb, hml, hown, hts, hKk, hz0, hRf, hRl, hRc, hRs, hSF, hret, hlk, hnm⟩ := hX
  intro r u' hf ls H locs hl hH hP hw hex hS
  obtain ⟨hN, hO, adK, adV, e1, e2, hE, hV, hZ, hZq⟩ := id hSF
  have h0 := (hE.1 0 (by decide)).2.2.1
  rw [e1, e2] at h0
  exact vk_getf hx hb h0 hS hown (hts _ hl0) (fun _ h9 => h9) hd (h r u' hf ls H locs hl hH hP hw hex hS)
theorem jf_slen (hX : Cx X y cc nL ret d mc ms) (hd : decode cc pc = .ok (.arraylength, 1)) (h : JF X ex nL cs ss Qf (pc + 1) lv (.int (nI jln) :: st) u fx) : JF X ex nL cs ss Qf pc lv (.ref (Xks X).2 :: st) u fx := by
  obtain ⟨p, l, e, R, s, m, args, below, meth, c, D, cT, z0, ks⟩ := X
  obtain ⟨hx, hb, hml, hown, hts, hKk, hz0, hRf, hRl, hRc, hRs, hSF, hret, hlk, hnm⟩ := hX
  intro r u' hf ls H locs hl hH hP hw hex hS
  obtain ⟨hN, hO, adK, adV, e1, e2, hE, hV, hZ, hZq⟩ := id hSF
  have h0 := (hE.1 0 (by decide)).2.2.2
  rw [e2] at h0
  exact va_tlen hx hb h0 hS rfl hd (h r u' hf ls H locs hl hH hP hw hex hS)
theorem jf_sbald (hX : Cx X y cc nL ret d mc ms) {i : Int32} (hd : decode cc pc = .ok (.baload, 1)) (h : JF X ex nL cs ss Qf (pc + 1) lv (.int (jby.getD i.toNatClampNeg 0) :: st) u fx) : JF X ex nL cs ss Qf pc lv (.int i :: .ref (Xks X).2 :: st) u (if i < 0 ∨ jln ≤ i.toNatClampNeg then none else fx) := by
  obtain ⟨p, l, e, R, s, m, args, below, meth, c, D, cT, z0, ks⟩ := X
  obtain ⟨hx, hb, hml, hown, hts, hKk, hz0, hRf, hRl, hRc, hRs, hSF, hret, hlk, hnm⟩ := hX
  intro r u' hf ls H locs hl hH hP hw hex hS
  obtain ⟨hN, hO, adK, adV, e1, e2, hE, hV, hZ, hZq⟩ := id hSF
  by_cases hi : i < 0 ∨ jln ≤ i.toNatClampNeg
  · rw [if_pos hi] at hf; cases hf
  · rw [if_neg hi] at hf
    have h0 := (hE.1 0 (by decide)).2.2.2
    rw [e2] at h0
    exact va_tb hx hb h0 hS hi rfl hd (h r u' hf ls H locs hl hH hP hw hex hS)
theorem jf_i2c (hX : Cx X y cc nL ret d mc ms) {b : Int32} (hd : decode cc pc = .ok (.i2c, 1)) (h : JF X ex nL cs ss Qf (pc + 1) lv (.int (b &&& 255) :: st) u fx) : JF X ex nL cs ss Qf pc lv (.int (b &&& 255) :: st) u fx := by
  obtain ⟨p, l, e, R, s, m, args, below, meth, c, D, cT, z0, ks⟩ := X
  obtain ⟨hx, hb, hml, hown, hts, hKk, hz0, hRf, hRl, hRc, hRs, hSF, hret, hlk, hnm⟩ := hX
  intro r u' hf ls H locs hl hH hP hw hex hS
  obtain ⟨hN, hO, adK, adV, e1, e2, hE, hV, hZ, hZq⟩ := id hSF
  exact lv_i2c hx hb hd (sc_c2 b) (h r u' hf ls H locs hl hH hP hw hex hS)
theorem jf_cret (hX : Cx X y cc nL ret d mc ms) (hr0 : ret = some .char) {v : Int32} (hcs : cs ≤ mc) (hss : ss ≤ ms) (hd : decode cc pc = .ok (.ireturn, 1)) : JF X ex nL cs ss (jQ X vI mc ms) pc lv [.int v] u (if v &&& 255 = v then some (v, u) else none) := by
  obtain ⟨p, l, e, R, s, m, args, below, meth, c, D, cT, z0, ks⟩ := X
  obtain ⟨hx, hb, hml, hown, hts, hKk, hz0, hRf, hRl, hRc, hRs, hSF, hret, hlk, hnm⟩ := hX
  intro r u' hf ls H locs hl hH hP hw hex hS
  obtain ⟨hN, hO, adK, adV, e1, e2, hE, hV, hZ, hZq⟩ := id hSF
  by_cases hg : v &&& 255 = v
  · rw [if_pos hg] at hf
    cases hf
    refine W.widen hcs hss ?_
    exact W.zret (hlocks := hlk) hx hb (hret.trans hr0) (by rw [← hg]; exact sc_nar v) (fun t ht _ => ⟨⟨rfl, by rw [ht]; exact hH, by rw [ht]; exact hP, hw⟩, hS.F ht⟩) hS.2.2 hd
  · rw [if_neg hg] at hf; cases hf
theorem jf_bret (hX : Cx X y cc nL ret d mc ms) (hr0 : ret = some .byte) {v : Int32} (hcs : cs ≤ mc) (hss : ss ≤ ms) (hd : decode cc pc = .ok (.ireturn, 1)) : JF X ex nL cs ss (jQ X vI mc ms) pc lv [.int v] u (if v = 0 then some (v, u) else none) := by
  obtain ⟨p, l, e, R, s, m, args, below, meth, c, D, cT, z0, ks⟩ := X
  obtain ⟨hx, hb, hml, hown, hts, hKk, hz0, hRf, hRl, hRc, hRs, hSF, hret, hlk, hnm⟩ := hX
  intro r u' hf ls H locs hl hH hP hw hex hS
  obtain ⟨hN, hO, adK, adV, e1, e2, hE, hV, hZ, hZq⟩ := id hSF
  by_cases hg : v = 0
  · rw [if_pos hg] at hf
    cases hf
    refine W.widen hcs hss ?_
    exact W.zret (hlocks := hlk) hx hb (hret.trans hr0) (by rw [hg]; rfl) (fun t ht _ => ⟨⟨rfl, by rw [ht]; exact hH, by rw [ht]; exact hP, hw⟩, hS.F ht⟩) hS.2.2 hd
  · rw [if_neg hg] at hf; cases hf
variable {ρ' : Type} {toV : ρ' → Option Value} {y' : MethodName} {cc' : ByteArray} {nL' : Nat} {ret' : Option FieldType} {d' mc' ms' : Nat} {n idx : Nat} {As : List Value} {g : Option (ρ' × SG)} {kf : ρ' → SG → Option (ρ × SG)}
theorem jf_callVs (hX : Cx X y cc nL ret d mc ms) (hM : MO y' cc' nL' ret' n) (hlk0 : Cond.methodLink y.cls idx y' ∈ tb) (hins : Cond.instanceMethod y' ∈ tb) (hsel : Cond.selects y'.cls y' y' ∈ tb) (hyc : y'.cls = "java/lang/String") (hn : As.length = n) (hC : ∀ l D cT z0 ks, Ct l D cT z0 ks y' cc' nL' ret' d' mc' ms' toV (.ref ks.1 :: As) u g) (hd1 : d' + 1 ≤ d) (hd2 : 19 + nL' + 60 * d' ≤ 60 * d) (hcs : cs + mc' ≤ mc) (hss : ss + ms' ≤ ms) (hst : (st.map fun v => v.category).sum ≤ 8) (hmc0 : mc' = 0) {st0 : List Value} (hst0 : st0 = As.reverse ++ .ref (Xks X).1 :: st) (hd : decode cc pc = .ok (.invokevirtual idx, 3)) (h : ∀ r1 u1, JF X ex nL (cs + mc') (ss + ms') Qf (pc + 3) lv ((toV r1).toList ++ st) u1 (kf r1 u1)) : JF X ex nL cs ss Qf pc lv st0 u (cl g kf) := by
  obtain ⟨p, l, e, R, s, m, args, below, meth, c, D, cT, z0, ks⟩ := X
  obtain ⟨hx, hb, hml, hown, hts, hKk, hz0, hRf, hRl, hRc, hRs, hSF, hret, hlk, hnm⟩ := hX
  intro r u' hf ls H locs hl hH hP hw hex hS
  obtain ⟨hN, hO, adK, adV, e1, e2, hE, hV, hZ, hZq⟩ := id hSF
  subst hst0
  cases hg : g with
  | none => rw [hg] at hf; exact absurd (show (none : Option (ρ × SG)) = some (r, u') from hf) (by simp)
  | some o =>
    obtain ⟨r1, u1⟩ := o
    rw [hg] at hf
    have hf : kf r1 u1 = some (r, u') := hf
    subst hmc0
    have hrv := vk_recv hE (i := 0) (by decide) hS
    rw [e1, ← hyc] at hrv
    have hrun := va_runV (p := p) (e := e) (R := R) (below := below) (meth := meth) (locs := locs) (cells := cs) (slots := ss) (As := As) (rest := st) (g := F0 m pc ls (As.reverse ++ .ref ks.1 :: st)) ⟨hx, hb, hml, hown, hts⟩ (hC l D cT z0 ks r1 u1 hg) ⟨callB_of (ws' := tb) n hts hM.gi rfl rfl rfl (hts _ hM.2.1) (hts _ hlk0) hM.2.2 ⟨by show d' + 1 ≤ _; omega, by show 8 + (nL' + 11) + 60 * d' ≤ _; omega⟩, hts _ hins, hts _ hsel⟩ ⟨jblind, hrv, fun U hU hW => ⟨rfl, by rw [hU]; exact hH, by rw [hU]; exact hP, va_K.moved hW.alike hKk, hw, jSF_to hSF hS hU hW⟩⟩ rfl hn hl.1 rfl (lv_room hst) hd ⟨by omega, by omega⟩
    exact jcont' hrun hS hH hl hex (h r1 u1 r u' hf)
theorem jf_callSs (hX : Cx X y cc nL ret d mc ms) (hM : MO y' cc' nL' ret' n) (hlk0 : Cond.methodLink y.cls idx y' ∈ tb) (hsta : Cond.static y' ∈ tb) (hn : As.length = n) (hC : ∀ l D cT z0 ks, Xks X = ks → Ct l D cT z0 ks y' cc' nL' ret' d' mc' ms' toV As u g) (hd1 : d' + 1 ≤ d) (hd2 : 19 + nL' + 60 * d' ≤ 60 * d) (hcs : cs + mc' ≤ mc) (hss : ss + ms' ≤ ms) (hst : (st.map fun v => v.category).sum ≤ 8) (hmc0 : mc' = 0) {st0 : List Value} (hst0 : st0 = As.reverse ++ st) (hd : decode cc pc = .ok (.invokestatic idx, 3)) (h : ∀ r1 u1, JF X ex nL (cs + mc') (ss + ms') Qf (pc + 3) lv ((toV r1).toList ++ st) u1 (kf r1 u1)) : JF X ex nL cs ss Qf pc lv st0 u (cl g kf) := by
  obtain ⟨p, l, e, R, s, m, args, below, meth, c, D, cT, z0, ks⟩ := X
  obtain ⟨hx, hb, hml, hown, hts, hKk, hz0, hRf, hRl, hRc, hRs, hSF, hret, hlk, hnm⟩ := hX
  intro r u' hf ls H locs hl hH hP hw hex hS
  obtain ⟨hN, hO, adK, adV, e1, e2, hE, hV, hZ, hZq⟩ := id hSF
  subst hst0
  cases hg : g with
  | none => rw [hg] at hf; exact absurd (show (none : Option (ρ × SG)) = some (r, u') from hf) (by simp)
  | some o =>
    obtain ⟨r1, u1⟩ := o
    rw [hg] at hf
    have hf : kf r1 u1 = some (r, u') := hf
    subst hmc0
    have hrun := va_runS (p := p) (e := e) (R := R) (below := below) (meth := meth) (locs := locs) (cells := cs) (slots := ss) (As := As) (rest := st) (g := F0 m pc ls (As.reverse ++ st)) ⟨hx, hb, hml, hown, hts⟩ (hC l D cT z0 ks rfl r1 u1 hg) ⟨callB_of (ws' := tb) n hts hM.gi rfl rfl rfl (hts _ hM.2.1) (hts _ hlk0) hM.2.2 ⟨by show d' + 1 ≤ _; omega, by show 8 + (nL' + 11) + 60 * d' ≤ _; omega⟩, hts _ hsta⟩ ⟨jblind, fun U hU hW => ⟨rfl, by rw [hU]; exact hH, by rw [hU]; exact hP, va_K.moved hW.alike hKk, hw, jSF_to hSF hS hU hW⟩⟩ rfl hn hl.1 rfl (lv_room hst) hd ⟨by omega, by omega⟩
    exact jcont' hrun hS hH hl hex (h r1 u1 r u' hf)
end STR
set_option maxRecDepth 20000 in
set_option maxHeartbeats 4000000 in
theorem kJ0_coder_7d493 (N : Nat) (l : Launch) (D : va_G) (cT : Nat → ClassId) (z0 : Nat) (ks : Nat × Nat) (u : SG) : Ct l D cT z0 ks yJ0_coder_7d493 cJ0_coder_7d493 1 (some .byte) 1 0 0 vI [.ref ks.1] u (some (0, u)) := by
  refine ct_of (by decide +kernel) (Nat.le_of_ble_eq_true rfl) (fun p e R s m args below meth c hX => ?_)
  show JF _ True 1 0 0 _ 0 [(0, .ref ks.1)] [] u _
  have e9 : (some ((0 : Int32), u)) = (if (1 : Int32) = 0 then none else if (0 : Int32) = 0 then some ((0 : Int32), u) else none) := rfl
  rw [e9]
  refine jf_gets hX wfl2_0 dJ0_coder_7d493_0 ?_
  refine jf_if_eq (tgt := 13) hX dJ0_coder_7d493_3 (by decide) jf_none ?_
  refine jf_aload_n hX dJ0_coder_7d493_6 0 rfl ?_
  refine jf_scod hX wfl2_1 dJ0_coder_7d493_7 ?_
  refine jf_goto (tgt := 14) hX dJ0_coder_7d493_10 (by decide) ?_
  exact jf_bret hX rfl (by decide) (by decide) dJ0_coder_7d493_14
set_option maxRecDepth 20000 in
set_option maxHeartbeats 4000000 in
theorem kJ0_isLatin1_aae02 (N : Nat) (l : Launch) (D : va_G) (cT : Nat → ClassId) (z0 : Nat) (ks : Nat × Nat) (u : SG) : Ct l D cT z0 ks yJ0_isLatin1_aae02 cJ0_isLatin1_aae02 1 (some .boolean) 1 0 0 vI [.ref ks.1] u (some (1, u)) := by
  refine ct_of (by decide +kernel) (Nat.le_of_ble_eq_true rfl) (fun p e R s m args below meth c hX => ?_)
  show JF _ True 1 0 0 _ 0 [(0, .ref ks.1)] [] u _
  have e9 : (some ((1 : Int32), u)) = (if (1 : Int32) = 0 then none else if (0 : Int32) = 0 then some ((1 : Int32), u) else none) := rfl
  rw [e9]
  refine jf_gets hX wfl2_0 dJ0_isLatin1_aae02_0 ?_
  refine jf_if_eq (tgt := 17) hX dJ0_isLatin1_aae02_3 (by decide) jf_none ?_
  refine jf_aload_n hX dJ0_isLatin1_aae02_6 0 rfl ?_
  refine jf_scod hX wfl2_1 dJ0_isLatin1_aae02_7 ?_
  refine jf_if_ne (tgt := 17) hX dJ0_isLatin1_aae02_10 (by decide) jf_none ?_
  refine jf_iconst (v := 1) hX dJ0_isLatin1_aae02_13 (by decide) ?_
  refine jf_goto (tgt := 18) hX dJ0_isLatin1_aae02_14 (by decide) ?_
  exact jf_zretc hX rfl (by decide) (by decide) (by decide) dJ0_isLatin1_aae02_18
def fJ0_length_8abf5 (_ : Nat) (u : SG) : Option (Int32 × SG) := some (nI jln, u)
set_option maxRecDepth 20000 in
set_option maxHeartbeats 4000000 in
theorem kJ0_length_8abf5 (N : Nat) (l : Launch) (D : va_G) (cT : Nat → ClassId) (z0 : Nat) (ks : Nat × Nat) (u : SG) : Ct l D cT z0 ks yJ0_length_8abf5 cJ0_length_8abf5 1 (some .int) 3 0 0 vI [.ref ks.1] u (fJ0_length_8abf5 N u) := by
  refine ct_of (by decide +kernel) (Nat.le_of_ble_eq_true rfl) (fun p e R s m args below meth c hX => ?_)
  show JF _ True 1 0 0 _ 0 [(0, .ref ks.1)] [] u _
  have e9 : fJ0_length_8abf5 N u = cl (some ((0 : Int32), u)) (fun r1 u1 => some (nI jln >>> (r1 &&& 31), u1)) := by show some (nI jln, u) = some (nI jln >>> ((0 : Int32) &&& 31), u); rw [sb_shr0]
  rw [e9]
  refine jf_aload_n hX dJ0_length_8abf5_0 0 rfl ?_
  refine jf_sval hX wfl2_2 dJ0_length_8abf5_1 ?_
  refine jf_slen hX dJ0_length_8abf5_4 ?_
  refine jf_aload_n hX dJ0_length_8abf5_5 0 rfl ?_
  refine jf_callVs (As := []) (st := [.int (nI jln)]) hX mo_J0_coder_7d493 wml_3 winst_4 wsel_5 rfl rfl (fun l D cT z0 ks => kJ0_coder_7d493 N l D cT z0 ks u) (by decide) (by decide) (by decide) (by decide) (Nat.le_of_ble_eq_true rfl) rfl rfl dJ0_length_8abf5_6 (fun r1 u1 => ?_)
  refine jf_ishr hX dJ0_length_8abf5_9 ?_
  exact jf_iret hX rfl (by decide) (by decide) dJ0_length_8abf5_10
def fJ3_checkIndex_8e157 (i n : Int32) (u : SG) : Option (Int32 × SG) := if i < 0 then none else if i < n then some (i, u) else none
set_option maxRecDepth 20000 in
set_option maxHeartbeats 4000000 in
theorem kJ3_checkIndex_8e157 (N : Nat) (l : Launch) (D : va_G) (cT : Nat → ClassId) (z0 : Nat) (ks : Nat × Nat) (i n : Int32) (q : Option Nat) (u : SG) : Ct l D cT z0 ks yJ3_checkIndex_8e157 cJ3_checkIndex_8e157 3 (some .int) 1 0 0 vI [.int i, .int n, va_rf q] u (fJ3_checkIndex_8e157 i n u) := by
  refine ct_of (by decide +kernel) (by cases q <;> exact Nat.le_of_ble_eq_true rfl) (fun p e R s m args below meth c hX => ?_)
  rw [show lv_args 0 [.int i, .int n, va_rf q] = [(0, .int i), (1, .int n), (2, va_rf q)] from by cases q <;> rfl]
  unfold fJ3_checkIndex_8e157
  refine jf_iload_n hX dJ3_checkIndex_8e157_0 0 rfl ?_
  refine jf_if_lt (tgt := 9) hX dJ3_checkIndex_8e157_1 (by decide) jf_none ?_
  refine jf_iload_n hX dJ3_checkIndex_8e157_4 0 rfl ?_
  refine jf_iload_n hX dJ3_checkIndex_8e157_5 1 rfl ?_
  refine jf_icmp_lt (tgt := 16) hX dJ3_checkIndex_8e157_6 (by decide) ?_ jf_none
  refine jf_iload_n hX dJ3_checkIndex_8e157_16 0 rfl ?_
  exact jf_iret hX rfl (by decide) (by decide) dJ3_checkIndex_8e157_17
def fJ0_checkIndex_df160 (i n : Int32) (u : SG) : Option (Unit × SG) := cl (fJ3_checkIndex_8e157 i n u) fun _ u1 => some ((), u1)
set_option maxRecDepth 20000 in
set_option maxHeartbeats 4000000 in
theorem kJ0_checkIndex_df160 (N : Nat) (l : Launch) (D : va_G) (cT : Nat → ClassId) (z0 : Nat) (ks : Nat × Nat) (i n : Int32) (u : SG) : Ct l D cT z0 ks yJ0_checkIndex_df160 cJ0_checkIndex_df160 2 none 2 0 0 vU [.int i, .int n] u (fJ0_checkIndex_df160 i n u) := by
  refine ct_of (by decide +kernel) (Nat.le_of_ble_eq_true rfl) (fun p e R s m args below meth c hX => ?_)
  show JF _ True 2 0 0 _ 0 [(0, .int i), (1, .int n)] [] u _
  unfold fJ0_checkIndex_df160
  refine jf_iload_n hX dJ0_checkIndex_df160_0 0 rfl ?_
  refine jf_iload_n hX dJ0_checkIndex_df160_1 1 rfl ?_
  refine jf_getsq hX wfl2_6 dJ0_checkIndex_df160_2 (fun q => ?_)
  refine jf_callS (As := [.int i, .int n, va_rf q]) (st := []) hX mo_J3_checkIndex_8e157 wml_7 wstat_8 rfl (fun l D cT z0 ks => kJ3_checkIndex_8e157 N l D cT z0 ks i n q u) (by decide) (by decide) (by decide) (by decide) (Nat.le_of_ble_eq_true rfl) rfl rfl dJ0_checkIndex_df160_5 (fun r1 u1 => ?_)
  refine jf_pop hX dJ0_checkIndex_df160_8 rfl ?_
  exact jf_vret hX rfl (by decide) (by decide) dJ0_checkIndex_df160_9
def fJ1_charAt_3b067 (i : Int32) (u : SG) : Option (Int32 × SG) := cl (fJ0_checkIndex_df160 i (nI jln) u) fun _ u1 => if i < 0 ∨ jln ≤ i.toNatClampNeg then none else if (jby.getD i.toNatClampNeg 0 &&& 255) &&& 255 = jby.getD i.toNatClampNeg 0 &&& 255 then some (jby.getD i.toNatClampNeg 0 &&& 255, u1) else none
set_option maxRecDepth 20000 in
set_option maxHeartbeats 4000000 in
theorem kJ1_charAt_3b067 (N : Nat) (l : Launch) (D : va_G) (cT : Nat → ClassId) (z0 : Nat) (ks : Nat × Nat) (i : Int32) (u : SG) : Ct l D cT z0 ks yJ1_charAt_3b067 cJ1_charAt_3b067 2 (some .char) 3 0 0 vI [.ref ks.2, .int i] u (fJ1_charAt_3b067 i u) := by
  refine ct_of (by decide +kernel) (Nat.le_of_ble_eq_true rfl) (fun p e R s m args below meth c hX => ?_)
  show JF _ True 2 0 0 _ 0 [(0, .ref ks.2), (1, .int i)] [] u _
  unfold fJ1_charAt_3b067
  refine jf_iload_n hX dJ1_charAt_3b067_0 1 rfl ?_
  refine jf_aload_n hX dJ1_charAt_3b067_1 0 rfl ?_
  refine jf_slen hX dJ1_charAt_3b067_2 ?_
  refine jf_callS (As := [.int i, .int (nI jln)]) (st := []) hX mo_J0_checkIndex_df160 wml_9 wstat_10 rfl (fun l D cT z0 ks => kJ0_checkIndex_df160 N l D cT z0 ks i (nI jln) u) (by decide) (by decide) (by decide) (by decide) (Nat.le_of_ble_eq_true rfl) rfl rfl dJ1_charAt_3b067_3 (fun r1 u1 => ?_)
  refine jf_aload_n hX dJ1_charAt_3b067_6 0 rfl ?_
  refine jf_iload_n hX dJ1_charAt_3b067_7 1 rfl ?_
  refine jf_sbald hX dJ1_charAt_3b067_8 ?_
  refine jf_sipush (v := 255) hX dJ1_charAt_3b067_9 (by decide) ?_
  refine jf_iand hX dJ1_charAt_3b067_12 ?_
  refine jf_i2c hX dJ1_charAt_3b067_13 ?_
  exact jf_cret hX rfl (by decide) (by decide) dJ1_charAt_3b067_14
def fJ0_charAt_5068e (_ : Nat) (i : Int32) (u : SG) : Option (Int32 × SG) := cl (fJ1_charAt_3b067 i u) fun r u1 => if r &&& 255 = r then some (r, u1) else none
set_option maxRecDepth 20000 in
set_option maxHeartbeats 4000000 in
theorem kJ0_charAt_5068e (N : Nat) (l : Launch) (D : va_G) (cT : Nat → ClassId) (z0 : Nat) (ks : Nat × Nat) (i : Int32) (u : SG) : Ct l D cT z0 ks yJ0_charAt_5068e cJ0_charAt_5068e 2 (some .char) 5 0 0 vI [.ref ks.1, .int i] u (fJ0_charAt_5068e N i u) := by
  refine ct_of (by decide +kernel) (Nat.le_of_ble_eq_true rfl) (fun p e R s m args below meth c hX => ?_)
  show JF _ True 2 0 0 _ 0 [(0, .ref ks.1), (1, .int i)] [] u _
  have e9 : fJ0_charAt_5068e N i u = cl (some ((1 : Int32), u)) (fun r1 u1 => if r1 = 0 then none else cl (fJ1_charAt_3b067 i u1) fun r u2 => if r &&& 255 = r then some (r, u2) else none) := by unfold fJ0_charAt_5068e; rfl
  rw [e9]
  refine jf_aload_n hX dJ0_charAt_5068e_0 0 rfl ?_
  refine jf_callVs (As := []) (st := []) hX mo_J0_isLatin1_aae02 wml_11 winst_12 wsel_13 rfl rfl (fun l D cT z0 ks => kJ0_isLatin1_aae02 N l D cT z0 ks u) (by decide) (by decide) (by decide) (by decide) (Nat.le_of_ble_eq_true rfl) rfl rfl dJ0_charAt_5068e_1 (fun r1 u1 => ?_)
  refine jf_if_eq (tgt := 16) hX dJ0_charAt_5068e_4 (by decide) jf_none ?_
  refine jf_aload_n hX dJ0_charAt_5068e_7 0 rfl ?_
  refine jf_sval hX wfl2_2 dJ0_charAt_5068e_8 ?_
  refine jf_iload_n hX dJ0_charAt_5068e_11 1 rfl ?_
  refine jf_callSs (As := [.ref ks.2, .int i]) (st := []) hX mo_J1_charAt_3b067 wml_14 wstat_15 rfl (fun l D cT z0 ks2 h9 => by cases (show ks = ks2 from h9); exact kJ1_charAt_3b067 N l D cT z0 ks i u1) (by decide) (by decide) (by decide) (by decide) (Nat.le_of_ble_eq_true rfl) rfl rfl dJ0_charAt_5068e_12 (fun r2 u2 => ?_)
  exact jf_cret hX rfl (by decide) (by decide) dJ0_charAt_5068e_15
