theorem dX11_in_0 : decode cX11_in 0 = .ok (.lload_n 0, 1) := by decide +kernel
theorem dX11_in_1 : decode cX11_in 1 = .ok (.lload_n 2, 1) := by decide +kernel
theorem dX11_in_2 : decode cX11_in 2 = .ok (.lcmp, 1) := by decide +kernel
theorem dX11_in_3 : decode cX11_in 3 = .ok (.ifCond .lt 14, 3) := by decide +kernel
theorem dX11_in_6 : decode cX11_in 6 = .ok (.lload_n 0, 1) := by decide +kernel
theorem dX11_in_7 : decode cX11_in 7 = .ok (.lload 4, 2) := by decide +kernel
theorem dX11_in_9 : decode cX11_in 9 = .ok (.lcmp, 1) := by decide +kernel
theorem dX11_in_10 : decode cX11_in 10 = .ok (.ifCond .gt 7, 3) := by decide +kernel
theorem dX11_in_13 : decode cX11_in 13 = .ok (.iconst 1, 1) := by decide +kernel
theorem dX11_in_14 : decode cX11_in 14 = .ok (.goto 4, 3) := by decide +kernel
theorem dX11_in_17 : decode cX11_in 17 = .ok (.iconst 0, 1) := by decide +kernel
theorem dX11_in_18 : decode cX11_in 18 = .ok (.ireturn, 1) := by decide +kernel
theorem dX11_isOf_0 : decode cX11_isOf 0 = .ok (.iload_n 0, 1) := by decide +kernel
theorem dX11_isOf_1 : decode cX11_isOf 1 = .ok (.iload_n 1, 1) := by decide +kernel
theorem dX11_isOf_2 : decode cX11_isOf 2 = .ok (.ishr, 1) := by decide +kernel
theorem dX11_isOf_3 : decode cX11_isOf 3 = .ok (.iconst 1, 1) := by decide +kernel
theorem dX11_isOf_4 : decode cX11_isOf 4 = .ok (.iand, 1) := by decide +kernel
theorem dX11_isOf_5 : decode cX11_isOf 5 = .ok (.iconst 1, 1) := by decide +kernel
theorem dX11_isOf_6 : decode cX11_isOf 6 = .ok (.if_icmp .ne 7, 3) := by decide +kernel
theorem dX11_isOf_9 : decode cX11_isOf 9 = .ok (.iconst 1, 1) := by decide +kernel
theorem dX11_isOf_10 : decode cX11_isOf 10 = .ok (.goto 4, 3) := by decide +kernel
theorem dX11_isOf_13 : decode cX11_isOf 13 = .ok (.iconst 0, 1) := by decide +kernel
theorem dX11_isOf_14 : decode cX11_isOf 14 = .ok (.ireturn, 1) := by decide +kernel
theorem dX11_bits_0 : decode cX11_bits 0 = .ok (.iconst 0, 1) := by decide +kernel
theorem dX11_bits_1 : decode cX11_bits 1 = .ok (.istore_n 1, 1) := by decide +kernel
theorem dX11_bits_2 : decode cX11_bits 2 = .ok (.iload_n 0, 1) := by decide +kernel
theorem dX11_bits_3 : decode cX11_bits 3 = .ok (.istore_n 2, 1) := by decide +kernel
theorem dX11_bits_4 : decode cX11_bits 4 = .ok (.iload_n 2, 1) := by decide +kernel
theorem dX11_bits_5 : decode cX11_bits 5 = .ok (.ifCond .eq 15, 3) := by decide +kernel
theorem dX11_bits_8 : decode cX11_bits 8 = .ok (.iinc 1 1, 3) := by decide +kernel
theorem dX11_bits_11 : decode cX11_bits 11 = .ok (.iload_n 2, 1) := by decide +kernel
theorem dX11_bits_12 : decode cX11_bits 12 = .ok (.iload_n 2, 1) := by decide +kernel
theorem dX11_bits_13 : decode cX11_bits 13 = .ok (.iconst 1, 1) := by decide +kernel
theorem dX11_bits_14 : decode cX11_bits 14 = .ok (.isub, 1) := by decide +kernel
theorem dX11_bits_15 : decode cX11_bits 15 = .ok (.iand, 1) := by decide +kernel
theorem dX11_bits_16 : decode cX11_bits 16 = .ok (.istore_n 2, 1) := by decide +kernel
theorem dX11_bits_17 : decode cX11_bits 17 = .ok (.goto (-13), 3) := by decide +kernel
theorem dX11_bits_20 : decode cX11_bits 20 = .ok (.iload_n 1, 1) := by decide +kernel
theorem dX11_bits_21 : decode cX11_bits 21 = .ok (.ireturn, 1) := by decide +kernel
theorem dX11_costOf_0 : decode cX11_costOf 0 = .ok (.aload_n 0, 1) := by decide +kernel
theorem dX11_costOf_1 : decode cX11_costOf 1 = .ok (.getfield 39, 3) := by decide +kernel
theorem dX11_costOf_4 : decode cX11_costOf 4 = .ok (.bipush 69, 2) := by decide +kernel
theorem dX11_costOf_6 : decode cX11_costOf 6 = .ok (.iconst 2, 1) := by decide +kernel
theorem dX11_costOf_7 : decode cX11_costOf 7 = .ok (.iload_n 1, 1) := by decide +kernel
theorem dX11_costOf_8 : decode cX11_costOf 8 = .ok (.imul, 1) := by decide +kernel
theorem dX11_costOf_9 : decode cX11_costOf 9 = .ok (.iadd, 1) := by decide +kernel
theorem dX11_costOf_10 : decode cX11_costOf 10 = .ok (.iconst 1, 1) := by decide +kernel
theorem dX11_costOf_11 : decode cX11_costOf 11 = .ok (.iadd, 1) := by decide +kernel
theorem dX11_costOf_12 : decode cX11_costOf 12 = .ok (.iaload, 1) := by decide +kernel
theorem dX11_costOf_13 : decode cX11_costOf 13 = .ok (.ireturn, 1) := by decide +kernel
theorem dX11_worksIn_0 : decode cX11_worksIn 0 = .ok (.iconst 0, 1) := by decide +kernel
theorem dX11_worksIn_1 : decode cX11_worksIn 1 = .ok (.istore_n 3, 1) := by decide +kernel
theorem dX11_worksIn_2 : decode cX11_worksIn 2 = .ok (.iload_n 3, 1) := by decide +kernel
theorem dX11_worksIn_3 : decode cX11_worksIn 3 = .ok (.aload_n 0, 1) := by decide +kernel
theorem dX11_worksIn_4 : decode cX11_worksIn 4 = .ok (.getfield 39, 3) := by decide +kernel
theorem dX11_worksIn_7 : decode cX11_worksIn 7 = .ok (.iconst 2, 1) := by decide +kernel
theorem dX11_worksIn_8 : decode cX11_worksIn 8 = .ok (.iaload, 1) := by decide +kernel
theorem dX11_worksIn_9 : decode cX11_worksIn 9 = .ok (.if_icmp .ge 56, 3) := by decide +kernel
theorem dX11_worksIn_12 : decode cX11_worksIn 12 = .ok (.bipush 45, 2) := by decide +kernel
theorem dX11_worksIn_14 : decode cX11_worksIn 14 = .ok (.iconst 3, 1) := by decide +kernel
theorem dX11_worksIn_15 : decode cX11_worksIn 15 = .ok (.iload_n 3, 1) := by decide +kernel
theorem dX11_worksIn_16 : decode cX11_worksIn 16 = .ok (.imul, 1) := by decide +kernel
theorem dX11_worksIn_17 : decode cX11_worksIn 17 = .ok (.iadd, 1) := by decide +kernel
theorem dX11_worksIn_18 : decode cX11_worksIn 18 = .ok (.istore 4, 2) := by decide +kernel
theorem dX11_worksIn_20 : decode cX11_worksIn 20 = .ok (.aload_n 0, 1) := by decide +kernel
theorem dX11_worksIn_21 : decode cX11_worksIn 21 = .ok (.getfield 39, 3) := by decide +kernel
theorem dX11_worksIn_24 : decode cX11_worksIn 24 = .ok (.iload 4, 2) := by decide +kernel
theorem dX11_worksIn_26 : decode cX11_worksIn 26 = .ok (.iaload, 1) := by decide +kernel
theorem dX11_worksIn_27 : decode cX11_worksIn 27 = .ok (.iload_n 1, 1) := by decide +kernel
theorem dX11_worksIn_28 : decode cX11_worksIn 28 = .ok (.if_icmp .ne 31, 3) := by decide +kernel
theorem dX11_worksIn_31 : decode cX11_worksIn 31 = .ok (.iload_n 2, 1) := by decide +kernel
theorem dX11_worksIn_32 : decode cX11_worksIn 32 = .ok (.aload_n 0, 1) := by decide +kernel
theorem dX11_worksIn_33 : decode cX11_worksIn 33 = .ok (.getfield 39, 3) := by decide +kernel
theorem dX11_worksIn_36 : decode cX11_worksIn 36 = .ok (.iload 4, 2) := by decide +kernel
theorem dX11_worksIn_38 : decode cX11_worksIn 38 = .ok (.iconst 1, 1) := by decide +kernel
theorem dX11_worksIn_39 : decode cX11_worksIn 39 = .ok (.iadd, 1) := by decide +kernel
theorem dX11_worksIn_40 : decode cX11_worksIn 40 = .ok (.iaload, 1) := by decide +kernel
theorem dX11_worksIn_41 : decode cX11_worksIn 41 = .ok (.if_icmp .lt 18, 3) := by decide +kernel
theorem dX11_worksIn_44 : decode cX11_worksIn 44 = .ok (.iload_n 2, 1) := by decide +kernel
theorem dX11_worksIn_45 : decode cX11_worksIn 45 = .ok (.aload_n 0, 1) := by decide +kernel
theorem dX11_worksIn_46 : decode cX11_worksIn 46 = .ok (.getfield 39, 3) := by decide +kernel
theorem dX11_worksIn_49 : decode cX11_worksIn 49 = .ok (.iload 4, 2) := by decide +kernel
theorem dX11_worksIn_51 : decode cX11_worksIn 51 = .ok (.iconst 2, 1) := by decide +kernel
theorem dX11_worksIn_52 : decode cX11_worksIn 52 = .ok (.iadd, 1) := by decide +kernel
theorem dX11_worksIn_53 : decode cX11_worksIn 53 = .ok (.iaload, 1) := by decide +kernel
theorem dX11_worksIn_54 : decode cX11_worksIn 54 = .ok (.if_icmp .gt 5, 3) := by decide +kernel
theorem dX11_worksIn_57 : decode cX11_worksIn 57 = .ok (.iconst 1, 1) := by decide +kernel
theorem dX11_worksIn_58 : decode cX11_worksIn 58 = .ok (.ireturn, 1) := by decide +kernel
theorem dX11_worksIn_59 : decode cX11_worksIn 59 = .ok (.iinc 3 1, 3) := by decide +kernel
theorem dX11_worksIn_62 : decode cX11_worksIn 62 = .ok (.goto (-60), 3) := by decide +kernel
theorem dX11_worksIn_65 : decode cX11_worksIn 65 = .ok (.iconst 0, 1) := by decide +kernel
theorem dX11_worksIn_66 : decode cX11_worksIn 66 = .ok (.ireturn, 1) := by decide +kernel
theorem dX11_four_0 : decode cX11_four 0 = .ok (.bipush 24, 2) := by decide +kernel
theorem dX11_four_2 : decode cX11_four 2 = .ok (.istore_n 2, 1) := by decide +kernel
theorem dX11_four_3 : decode cX11_four 3 = .ok (.iload_n 2, 1) := by decide +kernel
theorem dX11_four_4 : decode cX11_four 4 = .ok (.ifCond .lt 32, 3) := by decide +kernel
theorem dX11_four_7 : decode cX11_four 7 = .ok (.aload_n 0, 1) := by decide +kernel
theorem dX11_four_8 : decode cX11_four 8 = .ok (.getfield 7, 3) := by decide +kernel
theorem dX11_four_11 : decode cX11_four 11 = .ok (.aload_n 0, 1) := by decide +kernel
theorem dX11_four_12 : decode cX11_four 12 = .ok (.getfield 74, 3) := by decide +kernel
theorem dX11_four_15 : decode cX11_four 15 = .ok (.iload_n 1, 1) := by decide +kernel
theorem dX11_four_16 : decode cX11_four 16 = .ok (.iload_n 2, 1) := by decide +kernel
theorem dX11_four_17 : decode cX11_four 17 = .ok (.ishr, 1) := by decide +kernel
theorem dX11_four_18 : decode cX11_four 18 = .ok (.i2b, 1) := by decide +kernel
theorem dX11_four_19 : decode cX11_four 19 = .ok (.bastore, 1) := by decide +kernel
theorem dX11_four_20 : decode cX11_four 20 = .ok (.aload_n 0, 1) := by decide +kernel
theorem dX11_four_21 : decode cX11_four 21 = .ok (.dup, 1) := by decide +kernel
theorem dX11_four_22 : decode cX11_four 22 = .ok (.getfield 74, 3) := by decide +kernel
theorem dX11_four_25 : decode cX11_four 25 = .ok (.iconst 1, 1) := by decide +kernel
theorem dX11_four_26 : decode cX11_four 26 = .ok (.iadd, 1) := by decide +kernel
theorem dX11_four_27 : decode cX11_four 27 = .ok (.putfield 74, 3) := by decide +kernel
theorem dX11_four_30 : decode cX11_four 30 = .ok (.iinc 2 (-8), 3) := by decide +kernel
theorem dX11_four_33 : decode cX11_four 33 = .ok (.goto (-30), 3) := by decide +kernel
theorem dX11_four_36 : decode cX11_four 36 = .ok (.return_, 1) := by decide +kernel
theorem dX11_feed_0 : decode cX11_feed 0 = .ok (.aload_n 0, 1) := by decide +kernel
theorem dX11_feed_1 : decode cX11_feed 1 = .ok (.getfield 74, 3) := by decide +kernel
theorem dX11_feed_4 : decode cX11_feed 4 = .ok (.bipush 20, 2) := by decide +kernel
theorem dX11_feed_6 : decode cX11_feed 6 = .ok (.iadd, 1) := by decide +kernel
theorem dX11_feed_7 : decode cX11_feed 7 = .ok (.sipush 400, 3) := by decide +kernel
theorem dX11_feed_10 : decode cX11_feed 10 = .ok (.if_icmp .le 5, 3) := by decide +kernel
theorem dX11_feed_13 : decode cX11_feed 13 = .ok (.iconst (-1), 1) := by decide +kernel
theorem dX11_feed_14 : decode cX11_feed 14 = .ok (.ireturn, 1) := by decide +kernel
theorem dX11_feed_15 : decode cX11_feed 15 = .ok (.aload_n 0, 1) := by decide +kernel
theorem dX11_feed_16 : decode cX11_feed 16 = .ok (.iload_n 1, 1) := by decide +kernel
theorem dX11_feed_17 : decode cX11_feed 17 = .ok (.invokevirtual 77, 3) := by decide +kernel
theorem dX11_feed_20 : decode cX11_feed 20 = .ok (.aload_n 0, 1) := by decide +kernel
theorem dX11_feed_21 : decode cX11_feed 21 = .ok (.iload_n 2, 1) := by decide +kernel
theorem dX11_feed_22 : decode cX11_feed 22 = .ok (.invokevirtual 77, 3) := by decide +kernel
theorem dX11_feed_25 : decode cX11_feed 25 = .ok (.aload_n 0, 1) := by decide +kernel
theorem dX11_feed_26 : decode cX11_feed 26 = .ok (.iload_n 3, 1) := by decide +kernel
theorem dX11_feed_27 : decode cX11_feed 27 = .ok (.invokevirtual 77, 3) := by decide +kernel
theorem dX11_feed_30 : decode cX11_feed 30 = .ok (.aload_n 0, 1) := by decide +kernel
theorem dX11_feed_31 : decode cX11_feed 31 = .ok (.iload 4, 2) := by decide +kernel
theorem dX11_feed_33 : decode cX11_feed 33 = .ok (.invokevirtual 77, 3) := by decide +kernel
theorem dX11_feed_36 : decode cX11_feed 36 = .ok (.aload_n 0, 1) := by decide +kernel
theorem dX11_feed_37 : decode cX11_feed 37 = .ok (.iload 5, 2) := by decide +kernel
theorem dX11_feed_39 : decode cX11_feed 39 = .ok (.invokevirtual 77, 3) := by decide +kernel
theorem dX11_feed_42 : decode cX11_feed 42 = .ok (.aload_n 0, 1) := by decide +kernel
theorem dX11_feed_43 : decode cX11_feed 43 = .ok (.getfield 74, 3) := by decide +kernel
theorem dX11_feed_46 : decode cX11_feed 46 = .ok (.ireturn, 1) := by decide +kernel
theorem dX11_end_0 : decode cX11_end 0 = .ok (.iload_n 1, 1) := by decide +kernel
theorem dX11_end_1 : decode cX11_end 1 = .ok (.ifCond .lt 11, 3) := by decide +kernel
theorem dX11_end_4 : decode cX11_end 4 = .ok (.iload_n 1, 1) := by decide +kernel
theorem dX11_end_5 : decode cX11_end 5 = .ok (.aload_n 0, 1) := by decide +kernel
theorem dX11_end_6 : decode cX11_end 6 = .ok (.getfield 74, 3) := by decide +kernel
theorem dX11_end_9 : decode cX11_end 9 = .ok (.if_icmp .le 5, 3) := by decide +kernel
theorem dX11_end_12 : decode cX11_end 12 = .ok (.iconst (-1), 1) := by decide +kernel
theorem dX11_end_13 : decode cX11_end 13 = .ok (.ireturn, 1) := by decide +kernel
theorem dX11_end_14 : decode cX11_end 14 = .ok (.aload_n 0, 1) := by decide +kernel
theorem dX11_end_15 : decode cX11_end 15 = .ok (.iload_n 1, 1) := by decide +kernel
theorem dX11_end_16 : decode cX11_end 16 = .ok (.putfield 74, 3) := by decide +kernel
theorem dX11_end_19 : decode cX11_end 19 = .ok (.iload_n 1, 1) := by decide +kernel
theorem dX11_end_20 : decode cX11_end 20 = .ok (.ireturn, 1) := by decide +kernel
theorem wfl_0 : Cond.fieldLink RX11 39 (TX11 20).1 (TX11 20).2.1 (TX11 20).2.2.1 ∈ tb := tb_in (tj_5 _ (List.mem_of_getElem? (i := 14) rfl)) rfl
theorem wfl_1 : Cond.fieldLink RX11 7 (TX11 0).1 (TX11 0).2.1 (TX11 0).2.2.1 ∈ tb := tb_in (tj_4 _ (List.mem_of_getElem? (i := 234) rfl)) rfl
theorem wfl_2 : Cond.fieldLink RX11 74 (TX11 1).1 (TX11 1).2.1 (TX11 1).2.2.1 ∈ tb := tb_in (tj_4 _ (List.mem_of_getElem? (i := 235) rfl)) rfl
theorem wml_3 : Cond.methodLink RX11 77 yX11_four ∈ tb := tb_in (tj_5 _ (List.mem_of_getElem? (i := 108) rfl)) rfl
theorem winst_4 : Cond.instanceMethod yX11_four ∈ tb := tb_in (tj_5 _ (List.mem_of_getElem? (i := 110) rfl)) rfl
theorem wsel_5 : Cond.selects yX11_four.cls yX11_four yX11_four ∈ tb := tb_in (sel_3 _ (List.mem_of_getElem? (i := 8) rfl)) rfl
theorem wcode_6 : Cond.code yX11_four cX11_four 3 none ∈ tb := tb_in (tj_5 _ (List.mem_of_getElem? (i := 111) rfl)) rfl
theorem wini_7 : Cond.initialized "SleepersPayModel" ∈ tb := tb_in (tj_1 _ (List.mem_of_getElem? (i := 11) rfl)) rfl
theorem mo_X11_four : MO yX11_four cX11_four 3 none 1 := ⟨wcode_6, wini_7, by decide +kernel⟩
def fX11_in (N : Nat) (p1 : Int64) (p2 : Int64) (p3 : Int64) (u : SG) : Option (Int32 × SG) := if (lg_cmp p1 p2) < 0 then (some ((0 : Int32), u))
  else (if 0 < (lg_cmp p1 p3) then (some ((0 : Int32), u))
  else (some ((1 : Int32), u)))
set_option maxRecDepth 20000 in
set_option maxHeartbeats 4000000 in
theorem kX11_in (N : Nat) (l : Launch) (D : va_G) (cT : Nat → ClassId) (z0 ks : Nat) (p1 : Int64) (p2 : Int64) (p3 : Int64) (u : SG) : Ct l D cT z0 ks yX11_in cX11_in 6 (some .boolean) 1 0 0 vI [.long p1, .long p2, .long p3] u (fX11_in N p1 p2 p3 u) := by
  unfold fX11_in
  refine ct_of (by decide) (Nat.le_of_ble_eq_true rfl) (fun p e R s m args below meth c hX => ?_)
  show JF _ True 6 0 0 _ 0 [(0, .long p1), (2, .long p2), (4, .long p3)] [] u _
  refine jf_lload_n hX dX11_in_0 0 rfl ?_
  refine jf_lload_n hX dX11_in_1 1 rfl ?_
  refine jf_lcmp hX dX11_in_2 ?_
  refine jf_if_lt (tgt := 17) hX dX11_in_3 (by decide) ?_ ?_
  · refine jf_iconst (v := 0) hX dX11_in_17 (by decide) ?_
    exact jf_zretc hX rfl (by decide) (by decide) (by decide) dX11_in_18
  · refine jf_lload_n hX dX11_in_6 0 rfl ?_
    refine jf_lload hX dX11_in_7 2 rfl ?_
    refine jf_lcmp hX dX11_in_9 ?_
    refine jf_if_gt (tgt := 17) hX dX11_in_10 (by decide) ?_ ?_
    · refine jf_iconst (v := 0) hX dX11_in_17 (by decide) ?_
      exact jf_zretc hX rfl (by decide) (by decide) (by decide) dX11_in_18
    · refine jf_iconst (v := 1) hX dX11_in_13 (by decide) ?_
      refine jf_goto (tgt := 18) hX dX11_in_14 (by decide) ?_
      exact jf_zretc hX rfl (by decide) (by decide) (by decide) dX11_in_18
def fX11_isOf (N : Nat) (p1 : Int32) (p2 : Int32) (u : SG) : Option (Int32 × SG) := if ((p1 >>> (p2 &&& 31)) &&& (1 : Int32)) = (1 : Int32) then (some ((1 : Int32), u))
  else (some ((0 : Int32), u))
set_option maxRecDepth 20000 in
set_option maxHeartbeats 4000000 in
theorem kX11_isOf (N : Nat) (l : Launch) (D : va_G) (cT : Nat → ClassId) (z0 ks : Nat) (p1 : Int32) (p2 : Int32) (u : SG) : Ct l D cT z0 ks yX11_isOf cX11_isOf 2 (some .boolean) 1 0 0 vI [.int p1, .int p2] u (fX11_isOf N p1 p2 u) := by
  unfold fX11_isOf
  refine ct_of (by decide) (Nat.le_of_ble_eq_true rfl) (fun p e R s m args below meth c hX => ?_)
  show JF _ True 2 0 0 _ 0 [(0, .int p1), (1, .int p2)] [] u _
  refine jf_iload_n hX dX11_isOf_0 0 rfl ?_
  refine jf_iload_n hX dX11_isOf_1 1 rfl ?_
  refine jf_ishr hX dX11_isOf_2 ?_
  refine jf_iconst (v := 1) hX dX11_isOf_3 (by decide) ?_
  refine jf_iand hX dX11_isOf_4 ?_
  refine jf_iconst (v := 1) hX dX11_isOf_5 (by decide) ?_
  refine jf_icmp_ne (tgt := 13) hX dX11_isOf_6 (by decide) ?_ ?_
  · refine jf_iconst (v := 0) hX dX11_isOf_13 (by decide) ?_
    exact jf_zretc hX rfl (by decide) (by decide) (by decide) dX11_isOf_14
  · refine jf_iconst (v := 1) hX dX11_isOf_9 (by decide) ?_
    refine jf_goto (tgt := 14) hX dX11_isOf_10 (by decide) ?_
    exact jf_zretc hX rfl (by decide) (by decide) (by decide) dX11_isOf_14
def gX11_bits_4 (N : Nat)  : Nat → Int32 → Int32 → SG → Option (Int32 × SG)
  | 0, _, _, _ => none
  | n + 1, x1, x2, u => if x2 = 0 then (some (x1, u))
  else (bs (x2 &&& (x2 - (1 : Int32))) fun v1 => ((gX11_bits_4 N n) (x1 + (1 : Int32)) v1 u))
set_option maxRecDepth 20000 in
set_option maxHeartbeats 4000000 in
theorem jgX11_bits_4  {X : XT} (hX : Cx X yX11_bits cX11_bits 3 (some .int) 1 0 0) (N : Nat)  : ∀ (n : Nat) (x1 : Int32) (x2 : Int32) (u : SG), JF X True 3 0 0 (jQ X vI 0 0) 4 [(1, .int x1), (2, .int x2)] [] u (gX11_bits_4 N  n x1 x2 u) := by
  intro n
  induction n with
  | zero => intros; intro r u9 h9; exact absurd h9 (by simp [gX11_bits_4])
  | succ n ih =>
    intro x1 x2 u
    have hrec4 := ih
    rw [gX11_bits_4]
    refine jf_iload_n hX dX11_bits_4 1 rfl ?_
    refine jf_if_eq (tgt := 20) hX dX11_bits_5 (by decide) ?_ ?_
    · refine jf_iload_n hX dX11_bits_20 0 rfl ?_
      exact jf_iret hX rfl (by decide) (by decide) dX11_bits_21
    · refine jf_iinc (v := 1) (lv' := [(1, .int (x1 + (1 : Int32))), (2, .int x2)]) hX dX11_bits_8 0 rfl (by decide) (by decide) rfl ?_
      refine jf_iload_n hX dX11_bits_11 1 rfl ?_
      refine jf_iload_n hX dX11_bits_12 1 rfl ?_
      refine jf_iconst (v := 1) hX dX11_bits_13 (by decide) ?_
      refine jf_isub hX dX11_bits_14 ?_
      refine jf_iand hX dX11_bits_15 ?_
      refine jf_nmI (fun v1 => ?_)
      refine jf_istore_n (lv' := [(2, .int v1), (1, .int (x1 + (1 : Int32)))]) hX dX11_bits_16 rfl (by decide) rfl ?_
      refine jf_goto (tgt := 4) hX dX11_bits_17 (by decide) ?_
      refine jf_lv [1, 0] rfl ?_
      exact hrec4 (x1 + (1 : Int32)) v1 u
def fX11_bits (N : Nat) (p1 : Int32) (u : SG) : Option (Int32 × SG) := gX11_bits_4 N N (0 : Int32) p1 u
set_option maxRecDepth 20000 in
set_option maxHeartbeats 4000000 in
theorem kX11_bits (N : Nat) (l : Launch) (D : va_G) (cT : Nat → ClassId) (z0 ks : Nat) (p1 : Int32) (u : SG) : Ct l D cT z0 ks yX11_bits cX11_bits 3 (some .int) 1 0 0 vI [.int p1] u (fX11_bits N p1 u) := by
  unfold fX11_bits
  refine ct_of (by decide) (Nat.le_of_ble_eq_true rfl) (fun p e R s m args below meth c hX => ?_)
  show JF _ True 3 0 0 _ 0 [(0, .int p1)] [] u _
  refine jf_iconst (v := 0) hX dX11_bits_0 (by decide) ?_
  refine jf_istore_n (lv' := [(1, .int (0 : Int32)), (0, .int p1)]) hX dX11_bits_1 rfl (by decide) rfl ?_
  refine jf_iload_n hX dX11_bits_2 1 rfl ?_
  refine jf_istore_n (lv' := [(2, .int p1), (1, .int (0 : Int32)), (0, .int p1)]) hX dX11_bits_3 rfl (by decide) rfl ?_
  refine jf_lv [1, 0] rfl ?_
  exact jgX11_bits_4 hX N N (0 : Int32) p1 u
def fX11_costOf (N : Nat) (a0 : Nat) (p1 : Int32) (u : SG) : Option (Int32 × SG) := if zK u a0 = 12 then (Option.bind (zR u a0 20) fun q1 => (if zK u q1 = 22 then if (((69 : Int32) + ((2 : Int32) * p1)) + (1 : Int32)) < 0 ∨ zN u q1 ≤ (((69 : Int32) + ((2 : Int32) * p1)) + (1 : Int32)).toNatClampNeg then none else (some (zI u q1 (((69 : Int32) + ((2 : Int32) * p1)) + (1 : Int32)).toNatClampNeg, u)) else none)) else none
set_option maxRecDepth 20000 in
set_option maxHeartbeats 4000000 in
theorem kX11_costOf (N : Nat) (l : Launch) (D : va_G) (cT : Nat → ClassId) (z0 ks : Nat) (a0 : Nat) (p1 : Int32) (u : SG) : Ct l D cT z0 ks yX11_costOf cX11_costOf 2 (some .int) 1 0 0 vI [.ref a0, .int p1] u (fX11_costOf N a0 p1 u) := by
  unfold fX11_costOf
  refine ct_of (by decide) (Nat.le_of_ble_eq_true rfl) (fun p e R s m args below meth c hX => ?_)
  show JF _ True 2 0 0 _ 0 [(0, .ref a0), (1, .int p1)] [] u _
  refine jf_aload_n hX dX11_costOf_0 0 rfl ?_
  refine jf_getR hX ck_X11 20 wfl_0 (by decide) rfl dX11_costOf_1 ?_
  refine jf_nn (fun q1 => ?_)
  refine jf_bipush (v := 69) hX dX11_costOf_4 (by decide) ?_
  refine jf_iconst (v := 2) hX dX11_costOf_6 (by decide) ?_
  refine jf_iload_n hX dX11_costOf_7 1 rfl ?_
  refine jf_imul hX dX11_costOf_8 ?_
  refine jf_iadd hX dX11_costOf_9 ?_
  refine jf_iconst (v := 1) hX dX11_costOf_10 (by decide) ?_
  refine jf_iadd hX dX11_costOf_11 ?_
  refine jf_iald hX dX11_costOf_12 ?_
  exact jf_iret hX rfl (by decide) (by decide) dX11_costOf_13
def gX11_worksIn_2 (N : Nat)  : Nat → Nat → Int32 → Int32 → Int32 → SG → Option (Int32 × SG)
  | 0, _, _, _, _, _ => none
  | n + 1, x0, x1, x2, x3, u => if zK u x0 = 12 then (Option.bind (zR u x0 20) fun q1 => (if zK u q1 = 22 then if zN u q1 ≤ 2 then none else (if (zI u q1 2) ≤ x3 then (some ((0 : Int32), u))
  else (bs ((45 : Int32) + ((3 : Int32) * x3)) fun v2 => (if zK u x0 = 12 then (Option.bind (zR u x0 20) fun q3 => (if zK u q3 = 22 then if v2 < 0 ∨ zN u q3 ≤ v2.toNatClampNeg then none else (if (zI u q3 v2.toNatClampNeg) = x1 then (if zK u x0 = 12 then (Option.bind (zR u x0 20) fun q4 => (if zK u q4 = 22 then if (v2 + (1 : Int32)) < 0 ∨ zN u q4 ≤ (v2 + (1 : Int32)).toNatClampNeg then none else (if x2 < (zI u q4 (v2 + (1 : Int32)).toNatClampNeg) then ((gX11_worksIn_2 N n) x0 x1 x2 (x3 + (1 : Int32)) u)
  else (if zK u x0 = 12 then (Option.bind (zR u x0 20) fun q5 => (if zK u q5 = 22 then if (v2 + (2 : Int32)) < 0 ∨ zN u q5 ≤ (v2 + (2 : Int32)).toNatClampNeg then none else (if (zI u q5 (v2 + (2 : Int32)).toNatClampNeg) < x2 then ((gX11_worksIn_2 N n) x0 x1 x2 (x3 + (1 : Int32)) u)
  else (some ((1 : Int32), u))) else none)) else none)) else none)) else none)
  else ((gX11_worksIn_2 N n) x0 x1 x2 (x3 + (1 : Int32)) u)) else none)) else none))) else none)) else none
set_option maxRecDepth 20000 in
set_option maxHeartbeats 4000000 in
theorem jgX11_worksIn_2  {X : XT} (hX : Cx X yX11_worksIn cX11_worksIn 5 (some .boolean) 1 0 0) (N : Nat)  : ∀ (n : Nat) (x0 : Nat) (x1 : Int32) (x2 : Int32) (x3 : Int32) (u : SG), JF X True 5 0 0 (jQ X vI 0 0) 2 [(0, .ref x0), (1, .int x1), (2, .int x2), (3, .int x3)] [] u (gX11_worksIn_2 N  n x0 x1 x2 x3 u) := by
  intro n
  induction n with
  | zero => intros; intro r u9 h9; exact absurd h9 (by simp [gX11_worksIn_2])
  | succ n ih =>
    intro x0 x1 x2 x3 u
    have hrec2 := ih
    rw [gX11_worksIn_2]
    refine jf_iload_n hX dX11_worksIn_2 3 rfl ?_
    refine jf_aload_n hX dX11_worksIn_3 0 rfl ?_
    refine jf_getR hX ck_X11 20 wfl_0 (by decide) rfl dX11_worksIn_4 ?_
    refine jf_nn (fun q1 => ?_)
    refine jf_iconst (v := 2) hX dX11_worksIn_7 (by decide) ?_
    refine jf_ialdc 2 hX (by decide) (by decide) dX11_worksIn_8 ?_
    refine jf_icmp_ge (tgt := 65) hX dX11_worksIn_9 (by decide) ?_ ?_
    · refine jf_iconst (v := 0) hX dX11_worksIn_65 (by decide) ?_
      exact jf_zretc hX rfl (by decide) (by decide) (by decide) dX11_worksIn_66
    · refine jf_bipush (v := 45) hX dX11_worksIn_12 (by decide) ?_
      refine jf_iconst (v := 3) hX dX11_worksIn_14 (by decide) ?_
      refine jf_iload_n hX dX11_worksIn_15 3 rfl ?_
      refine jf_imul hX dX11_worksIn_16 ?_
      refine jf_iadd hX dX11_worksIn_17 ?_
      refine jf_nmI (fun v2 => ?_)
      refine jf_istore (lv' := [(4, .int v2), (0, .ref x0), (1, .int x1), (2, .int x2), (3, .int x3)]) hX dX11_worksIn_18 (by decide) rfl ?_
      refine jf_aload_n hX dX11_worksIn_20 1 rfl ?_
      refine jf_getR hX ck_X11 20 wfl_0 (by decide) rfl dX11_worksIn_21 ?_
      refine jf_nn (fun q3 => ?_)
      refine jf_iload hX dX11_worksIn_24 0 rfl ?_
      refine jf_iald hX dX11_worksIn_26 ?_
      refine jf_iload_n hX dX11_worksIn_27 2 rfl ?_
      refine jf_icmp_ne (tgt := 59) hX dX11_worksIn_28 (by decide) ?_ ?_
      · refine jf_iinc (v := 1) (lv' := [(3, .int (x3 + (1 : Int32))), (4, .int v2), (0, .ref x0), (1, .int x1), (2, .int x2)]) hX dX11_worksIn_59 4 rfl (by decide) (by decide) rfl ?_
        refine jf_goto (tgt := 2) hX dX11_worksIn_62 (by decide) ?_
        refine jf_lv [2, 3, 4, 0] rfl ?_
        exact hrec2 x0 x1 x2 (x3 + (1 : Int32)) u
      · refine jf_iload_n hX dX11_worksIn_31 3 rfl ?_
        refine jf_aload_n hX dX11_worksIn_32 1 rfl ?_
        refine jf_getR hX ck_X11 20 wfl_0 (by decide) rfl dX11_worksIn_33 ?_
        refine jf_nn (fun q4 => ?_)
        refine jf_iload hX dX11_worksIn_36 0 rfl ?_
        refine jf_iconst (v := 1) hX dX11_worksIn_38 (by decide) ?_
        refine jf_iadd hX dX11_worksIn_39 ?_
        refine jf_iald hX dX11_worksIn_40 ?_
        refine jf_icmp_lt (tgt := 59) hX dX11_worksIn_41 (by decide) ?_ ?_
        · refine jf_iinc (v := 1) (lv' := [(3, .int (x3 + (1 : Int32))), (4, .int v2), (0, .ref x0), (1, .int x1), (2, .int x2)]) hX dX11_worksIn_59 4 rfl (by decide) (by decide) rfl ?_
          refine jf_goto (tgt := 2) hX dX11_worksIn_62 (by decide) ?_
          refine jf_lv [2, 3, 4, 0] rfl ?_
          exact hrec2 x0 x1 x2 (x3 + (1 : Int32)) u
        · refine jf_iload_n hX dX11_worksIn_44 3 rfl ?_
          refine jf_aload_n hX dX11_worksIn_45 1 rfl ?_
          refine jf_getR hX ck_X11 20 wfl_0 (by decide) rfl dX11_worksIn_46 ?_
          refine jf_nn (fun q5 => ?_)
          refine jf_iload hX dX11_worksIn_49 0 rfl ?_
          refine jf_iconst (v := 2) hX dX11_worksIn_51 (by decide) ?_
          refine jf_iadd hX dX11_worksIn_52 ?_
          refine jf_iald hX dX11_worksIn_53 ?_
          refine jf_icmp_gt (tgt := 59) hX dX11_worksIn_54 (by decide) ?_ ?_
          · refine jf_iinc (v := 1) (lv' := [(3, .int (x3 + (1 : Int32))), (4, .int v2), (0, .ref x0), (1, .int x1), (2, .int x2)]) hX dX11_worksIn_59 4 rfl (by decide) (by decide) rfl ?_
            refine jf_goto (tgt := 2) hX dX11_worksIn_62 (by decide) ?_
            refine jf_lv [2, 3, 4, 0] rfl ?_
            exact hrec2 x0 x1 x2 (x3 + (1 : Int32)) u
          · refine jf_iconst (v := 1) hX dX11_worksIn_57 (by decide) ?_
            exact jf_zretc hX rfl (by decide) (by decide) (by decide) dX11_worksIn_58
def fX11_worksIn (N : Nat) (a0 : Nat) (p1 : Int32) (p2 : Int32) (u : SG) : Option (Int32 × SG) := gX11_worksIn_2 N N a0 p1 p2 (0 : Int32) u
set_option maxRecDepth 20000 in
set_option maxHeartbeats 4000000 in
theorem kX11_worksIn (N : Nat) (l : Launch) (D : va_G) (cT : Nat → ClassId) (z0 ks : Nat) (a0 : Nat) (p1 : Int32) (p2 : Int32) (u : SG) : Ct l D cT z0 ks yX11_worksIn cX11_worksIn 5 (some .boolean) 1 0 0 vI [.ref a0, .int p1, .int p2] u (fX11_worksIn N a0 p1 p2 u) := by
  unfold fX11_worksIn
  refine ct_of (by decide) (Nat.le_of_ble_eq_true rfl) (fun p e R s m args below meth c hX => ?_)
  show JF _ True 5 0 0 _ 0 [(0, .ref a0), (1, .int p1), (2, .int p2)] [] u _
  refine jf_iconst (v := 0) hX dX11_worksIn_0 (by decide) ?_
  refine jf_istore_n (lv' := [(3, .int (0 : Int32)), (0, .ref a0), (1, .int p1), (2, .int p2)]) hX dX11_worksIn_1 rfl (by decide) rfl ?_
  refine jf_lv [1, 2, 3, 0] rfl ?_
  exact jgX11_worksIn_2 hX N N a0 p1 p2 (0 : Int32) u
def gX11_four_3 (N : Nat)  : Nat → Nat → Int32 → Int32 → SG → Option (Unit × SG)
  | 0, _, _, _, _ => none
  | n + 1, x0, x1, x2, u => if x2 < 0 then (some ((), u))
  else (if zK u x0 = 12 then (Option.bind (zR u x0 0) fun q1 => (if zK u x0 = 12 then (if zK u q1 = 21 then if (zI u x0 1) < 0 ∨ zN u q1 ≤ (zI u x0 1).toNatClampNeg then none else bs (sI u q1 (zI u x0 1).toNatClampNeg (vp_nar .byte ((x1 >>> (x2 &&& 31)).toInt8.toInt32))) fun u2 => (if zK u2 x0 = 12 then (if zK u2 x0 = 12 then bs (sI u2 x0 1 ((zI u2 x0 1) + (1 : Int32))) fun u3 => ((gX11_four_3 N n) x0 x1 (x2 + (-8 : Int32)) u3) else none) else none) else none) else none)) else none)
set_option maxRecDepth 20000 in
set_option maxHeartbeats 4000000 in
theorem jgX11_four_3  {X : XT} (hX : Cx X yX11_four cX11_four 3 none 1 0 0) (N : Nat)  : ∀ (n : Nat) (x0 : Nat) (x1 : Int32) (x2 : Int32) (u : SG), JF X True 3 0 0 (jQ X vU 0 0) 3 [(0, .ref x0), (1, .int x1), (2, .int x2)] [] u (gX11_four_3 N  n x0 x1 x2 u) := by
  intro n
  induction n with
  | zero => intros; intro r u9 h9; exact absurd h9 (by simp [gX11_four_3])
  | succ n ih =>
    intro x0 x1 x2 u
    have hrec3 := ih
    rw [gX11_four_3]
    refine jf_iload_n hX dX11_four_3 2 rfl ?_
    refine jf_if_lt (tgt := 36) hX dX11_four_4 (by decide) ?_ ?_
    · exact jf_vret hX rfl (by decide) (by decide) dX11_four_36
    · refine jf_aload_n hX dX11_four_7 0 rfl ?_
      refine jf_getR hX ck_X11 0 wfl_1 (by decide) rfl dX11_four_8 ?_
      refine jf_nn (fun q1 => ?_)
      refine jf_aload_n hX dX11_four_11 0 rfl ?_
      refine jf_getI hX ck_X11 1 wfl_2 (by decide) rfl dX11_four_12 ?_
      refine jf_iload_n hX dX11_four_15 1 rfl ?_
      refine jf_iload_n hX dX11_four_16 2 rfl ?_
      refine jf_ishr hX dX11_four_17 ?_
      refine jf_i2b hX dX11_four_18 ?_
      refine jf_bast hX trivial dX11_four_19 (fun u2 => ?_)
      refine jf_aload_n hX dX11_four_20 0 rfl ?_
      refine jf_dup hX dX11_four_21 rfl ?_
      refine jf_getI hX ck_X11 1 wfl_2 (by decide) rfl dX11_four_22 ?_
      refine jf_iconst (v := 1) hX dX11_four_25 (by decide) ?_
      refine jf_iadd hX dX11_four_26 ?_
      refine jf_putI hX trivial ck_X11 1 wfl_2 (by decide) rfl rfl rfl dX11_four_27 (fun u3 => ?_)
      refine jf_iinc (v := -8) (lv' := [(2, .int (x2 + (-8 : Int32))), (0, .ref x0), (1, .int x1)]) hX dX11_four_30 2 rfl (by decide) (by decide) rfl ?_
      refine jf_goto (tgt := 3) hX dX11_four_33 (by decide) ?_
      refine jf_lv [1, 2, 0] rfl ?_
      exact hrec3 x0 x1 (x2 + (-8 : Int32)) u3
def fX11_four (N : Nat) (a0 : Nat) (p1 : Int32) (u : SG) : Option (Unit × SG) := gX11_four_3 N N a0 p1 (24 : Int32) u
set_option maxRecDepth 20000 in
set_option maxHeartbeats 4000000 in
theorem kX11_four (N : Nat) (l : Launch) (D : va_G) (cT : Nat → ClassId) (z0 ks : Nat) (a0 : Nat) (p1 : Int32) (u : SG) : Ct l D cT z0 ks yX11_four cX11_four 3 none 1 0 0 vU [.ref a0, .int p1] u (fX11_four N a0 p1 u) := by
  unfold fX11_four
  refine ct_of (by decide) (Nat.le_of_ble_eq_true rfl) (fun p e R s m args below meth c hX => ?_)
  show JF _ True 3 0 0 _ 0 [(0, .ref a0), (1, .int p1)] [] u _
  refine jf_bipush (v := 24) hX dX11_four_0 (by decide) ?_
  refine jf_istore_n (lv' := [(2, .int (24 : Int32)), (0, .ref a0), (1, .int p1)]) hX dX11_four_2 rfl (by decide) rfl ?_
  refine jf_lv [1, 2, 0] rfl ?_
  exact jgX11_four_3 hX N N a0 p1 (24 : Int32) u
def fX11_feed (N : Nat) (a0 : Nat) (p1 : Int32) (p2 : Int32) (p3 : Int32) (p4 : Int32) (p5 : Int32) (u : SG) : Option (Int32 × SG) := if zK u a0 = 12 then (if ((zI u a0 1) + (20 : Int32)) ≤ (400 : Int32) then (if zK u a0 = 12 then cl (fX11_four N a0 p1 u) fun r1 u2 => (if zK u2 a0 = 12 then cl (fX11_four N a0 p2 u2) fun r3 u4 => (if zK u4 a0 = 12 then cl (fX11_four N a0 p3 u4) fun r5 u6 => (if zK u6 a0 = 12 then cl (fX11_four N a0 p4 u6) fun r7 u8 => (if zK u8 a0 = 12 then cl (fX11_four N a0 p5 u8) fun r9 u10 => (if zK u10 a0 = 12 then (some (zI u10 a0 1, u10)) else none) else none) else none) else none) else none) else none)
  else (some ((-1 : Int32), u))) else none
set_option maxRecDepth 20000 in
set_option maxHeartbeats 4000000 in
theorem kX11_feed (N : Nat) (l : Launch) (D : va_G) (cT : Nat → ClassId) (z0 ks : Nat) (a0 : Nat) (p1 : Int32) (p2 : Int32) (p3 : Int32) (p4 : Int32) (p5 : Int32) (u : SG) : Ct l D cT z0 ks yX11_feed cX11_feed 6 (some .int) 2 0 0 vI [.ref a0, .int p1, .int p2, .int p3, .int p4, .int p5] u (fX11_feed N a0 p1 p2 p3 p4 p5 u) := by
  unfold fX11_feed
  refine ct_of (by decide) (Nat.le_of_ble_eq_true rfl) (fun p e R s m args below meth c hX => ?_)
  show JF _ True 6 0 0 _ 0 [(0, .ref a0), (1, .int p1), (2, .int p2), (3, .int p3), (4, .int p4), (5, .int p5)] [] u _
  refine jf_aload_n hX dX11_feed_0 0 rfl ?_
  refine jf_getI hX ck_X11 1 wfl_2 (by decide) rfl dX11_feed_1 ?_
  refine jf_bipush (v := 20) hX dX11_feed_4 (by decide) ?_
  refine jf_iadd hX dX11_feed_6 ?_
  refine jf_sipush (v := 400) hX dX11_feed_7 (by decide) ?_
  refine jf_icmp_le (tgt := 15) hX dX11_feed_10 (by decide) ?_ ?_
  · refine jf_aload_n hX dX11_feed_15 0 rfl ?_
    refine jf_iload_n hX dX11_feed_16 1 rfl ?_
    refine jf_callV (As := [.int p1]) (st := []) hX mo_X11_four wml_3 winst_4 wsel_5 11 ck_X11 rfl (fun l D cT z0 ks => kX11_four N l D cT z0 ks a0 p1 u) (by decide) (by decide) (by decide) (by decide) (Nat.le_of_ble_eq_true rfl) rfl rfl dX11_feed_17 (fun r1 u2 => ?_)
    refine jf_aload_n hX dX11_feed_20 0 rfl ?_
    refine jf_iload_n hX dX11_feed_21 2 rfl ?_
    refine jf_callV (As := [.int p2]) (st := []) hX mo_X11_four wml_3 winst_4 wsel_5 11 ck_X11 rfl (fun l D cT z0 ks => kX11_four N l D cT z0 ks a0 p2 u2) (by decide) (by decide) (by decide) (by decide) (Nat.le_of_ble_eq_true rfl) rfl rfl dX11_feed_22 (fun r3 u4 => ?_)
    refine jf_aload_n hX dX11_feed_25 0 rfl ?_
    refine jf_iload_n hX dX11_feed_26 3 rfl ?_
    refine jf_callV (As := [.int p3]) (st := []) hX mo_X11_four wml_3 winst_4 wsel_5 11 ck_X11 rfl (fun l D cT z0 ks => kX11_four N l D cT z0 ks a0 p3 u4) (by decide) (by decide) (by decide) (by decide) (Nat.le_of_ble_eq_true rfl) rfl rfl dX11_feed_27 (fun r5 u6 => ?_)
    refine jf_aload_n hX dX11_feed_30 0 rfl ?_
    refine jf_iload hX dX11_feed_31 4 rfl ?_
    refine jf_callV (As := [.int p4]) (st := []) hX mo_X11_four wml_3 winst_4 wsel_5 11 ck_X11 rfl (fun l D cT z0 ks => kX11_four N l D cT z0 ks a0 p4 u6) (by decide) (by decide) (by decide) (by decide) (Nat.le_of_ble_eq_true rfl) rfl rfl dX11_feed_33 (fun r7 u8 => ?_)
    refine jf_aload_n hX dX11_feed_36 0 rfl ?_
    refine jf_iload hX dX11_feed_37 5 rfl ?_
    refine jf_callV (As := [.int p5]) (st := []) hX mo_X11_four wml_3 winst_4 wsel_5 11 ck_X11 rfl (fun l D cT z0 ks => kX11_four N l D cT z0 ks a0 p5 u8) (by decide) (by decide) (by decide) (by decide) (Nat.le_of_ble_eq_true rfl) rfl rfl dX11_feed_39 (fun r9 u10 => ?_)
    refine jf_aload_n hX dX11_feed_42 0 rfl ?_
    refine jf_getI hX ck_X11 1 wfl_2 (by decide) rfl dX11_feed_43 ?_
    exact jf_iret hX rfl (by decide) (by decide) dX11_feed_46
  · refine jf_iconst (v := -1) hX dX11_feed_13 (by decide) ?_
    exact jf_iret hX rfl (by decide) (by decide) dX11_feed_14
def fX11_end (N : Nat) (a0 : Nat) (p1 : Int32) (u : SG) : Option (Int32 × SG) := if p1 < 0 then (some ((-1 : Int32), u))
  else (if zK u a0 = 12 then (if p1 ≤ (zI u a0 1) then (if zK u a0 = 12 then bs (sI u a0 1 p1) fun u1 => (some (p1, u1)) else none)
  else (some ((-1 : Int32), u))) else none)
set_option maxRecDepth 20000 in
set_option maxHeartbeats 4000000 in
theorem kX11_end (N : Nat) (l : Launch) (D : va_G) (cT : Nat → ClassId) (z0 ks : Nat) (a0 : Nat) (p1 : Int32) (u : SG) : Ct l D cT z0 ks yX11_end cX11_end 2 (some .int) 1 0 0 vI [.ref a0, .int p1] u (fX11_end N a0 p1 u) := by
  unfold fX11_end
  refine ct_of (by decide) (Nat.le_of_ble_eq_true rfl) (fun p e R s m args below meth c hX => ?_)
  show JF _ True 2 0 0 _ 0 [(0, .ref a0), (1, .int p1)] [] u _
  refine jf_iload_n hX dX11_end_0 1 rfl ?_
  refine jf_if_lt (tgt := 12) hX dX11_end_1 (by decide) ?_ ?_
  · refine jf_iconst (v := -1) hX dX11_end_12 (by decide) ?_
    exact jf_iret hX rfl (by decide) (by decide) dX11_end_13
  · refine jf_iload_n hX dX11_end_4 1 rfl ?_
    refine jf_aload_n hX dX11_end_5 0 rfl ?_
    refine jf_getI hX ck_X11 1 wfl_2 (by decide) rfl dX11_end_6 ?_
    refine jf_icmp_le (tgt := 14) hX dX11_end_9 (by decide) ?_ ?_
    · refine jf_aload_n hX dX11_end_14 0 rfl ?_
      refine jf_iload_n hX dX11_end_15 1 rfl ?_
      refine jf_putI hX trivial ck_X11 1 wfl_2 (by decide) rfl rfl rfl dX11_end_16 (fun u1 => ?_)
      refine jf_iload_n hX dX11_end_19 1 rfl ?_
      exact jf_iret hX rfl (by decide) (by decide) dX11_end_20
    · refine jf_iconst (v := -1) hX dX11_end_12 (by decide) ?_
      exact jf_iret hX rfl (by decide) (by decide) dX11_end_13
