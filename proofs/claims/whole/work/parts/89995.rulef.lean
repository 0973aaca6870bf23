/-! RULE: the reference's facts, tests -/
section RULF
variable {N m T τ : Nat} {u : SG} {t : Nat → Nat}
theorem RK.f8 {v : SG} {L : List Nat} {k p q : Nat} {st : List Nat} (h : RK u m t T τ L k p st) (f : Fz (F8 m) u v) (hq : RP v m t T q) : RK v m t T τ L k q st := ⟨h.1.to8 f hq, h.2.f8 f⟩
theorem r_open {L : List Nat} {k p s : Nat} {st : List Nat} (h : RK u m t T τ L k p st) (hx : RX u m t T p) (hs : s = 11 ∨ s = 91) (hd : dp st ≤ 10) (hl : st.length < 400) : (10 ≤ dp st → ∃ u', hX11_opens N m (nI s) u = some (0, u') ∧ zI u' m 9 = nI (1 + 8 * p + 2) ∧ Fz (FRs m τ) u u') ∧ (dp st < 10 → ∃ u', hX11_opens N m (nI s) u = some (1, u') ∧ RK u' m t T τ L k p (s :: st) ∧ RX u' m t T p ∧ Fz (FRs m τ) u u') := by
  obtain ⟨hr, h16, hst, h13⟩ := h
  unfold hX11_opens
  rw [h13, lit_10, ifeq (by omega) (by decide), hx.2.2.1]
  refine ⟨fun z => ?_, fun z => ?_⟩
  · rw [if_pos (by omega)]
    obtain ⟨w, w1, w2, w3⟩ := r_badR (N := N) (t := t) (T := T) (τ := τ) (L := L) hr.2.1 2 p
    exact ⟨w, w1, w2, fr_s w3⟩
  · rw [if_neg (by omega), bs_eq, lit_1, nI_add, sI_n (by omega), h16, ixI (by omega) (by decide), bs_eq, nI_clamp (by omega), sI_n (by omega), sI_n (by omega), h16, bs_eq, nI_add]
    have f : Fz (fun a j => (a = m ∧ (j = 13 ∨ j = 16)) ∨ a = m + 7) u (sI (sI (sI u m 13 (nI (dp st + 1))) (m + 7) st.length (nI s)) m 16 (nI (st.length + 1))) := ((Fz.sI (Or.inl ⟨rfl, Or.inl rfl⟩)).tr (Fz.sI (Or.inr rfl))).tr (Fz.sI (Or.inl ⟨rfl, Or.inr rfl⟩))
    refine ⟨_, rfl, ⟨hr.s f, by rw [sI_s]; rfl, ⟨by rw [sI_n (by omega), sI_s], StN_ext hst (fun k hk => by rw [sI_n (by omega), sI_n (by omega), sI_n (by omega)])⟩, ?_⟩, hx.z f (by omega) (fun k => by omega) (by omega), f.w (fun a j z => Or.inr z)⟩
    rw [sI_n (by omega), sI_n (by omega), sI_s, dp, if_pos hs, Nat.add_comm]
theorem sg_91 (hT : TP t T) (p : Nat) : (sgO t p = some 91 ↔ t p = 91) ∧ (t p = 91 → tE t p = p + 1) := sg_c (p := p) hT (show 91 < 256 by decide) rfl rfl (by decide) (by decide)
theorem sg_93 (hT : TP t T) (p : Nat) : (sgO t p = some 93 ↔ t p = 93) ∧ (t p = 93 → tE t p = p + 1) := sg_c (p := p) hT (show 93 < 256 by decide) rfl rfl (by decide) (by decide)
/-- behind a test: neither and nor or -/
theorem r_noop (hT : TP t T) (hN : 2000 ≤ N) {L : List Nat} {k p n : Nat} {st : List Nat} (h : RK u m t T τ L k p st) (hn : Nop t 1 p) : ∃ u', RSd N m n u = hgX11_tested_12 N n m (0 : Int32) u' ∧ RK u' m t T τ L k p st ∧ Fz (F8 m) u u' := by
  have np := (h.1.1.le hT).2.1
  obtain ⟨u1, a1, a2, a3⟩ := r_isWord (N := N) (j := 20) h.1.1 hT (by decide) hN
  have h1 := h.f8 a3 (a2.rp hT np)
  obtain ⟨u2, b1, b2, b3⟩ := r_isWord (N := N) (j := 19) h1.1.1 hT (by decide) hN
  have e20 : (wrO t p == some 20) = false := by simpa using hn.1 (by omega)
  have e19 : (wrO t p == some 19) = false := by simpa using hn.2 (by omega)
  refine ⟨u2, ?_, h1.f8 b3 (b2.rp hT np), a3.tr b3⟩
  unfold RSd hgX11_tested_54
  rw [wl_20, a1, cl_some, e20, if_pos (show nI (b2n false) = 0 from rfl), wl_19, b1, cl_some, e19, if_pos (show nI (b2n false) = 0 from rfl), if_pos rfl]
theorem r_fact (hT : TP t T) (hτ : τ < 6) (hN : 2000 ≤ N) : ∀ e d, 11 ≤ d + e → d ≤ 10 → FJ N m t T τ d (facS t e d) := by
  have h4 := hT.1
  intro e
  induction e with
  | zero => intro d h1 h2; omega
  | succ e ih =>
    intro d hd hd2 u L k p st j n hr hdp hv hp hl hk hj hn
    have np := (hr.1.1.le hT).2.1
    obtain ⟨j, rfl⟩ : ∃ i, j = i + 2 := ⟨j - 2, by omega⟩
    obtain ⟨u1, a1, a2, a3, a4⟩ := r_seeR (N := N) hr.1 hT hN
    have hr1 : RK u1 m t T τ L k p st := ⟨a3, hr.2.f8 a4⟩
    obtain ⟨u2, b1, b2, b3⟩ := r_isWord (N := N) (j := 21) a3.1 hT (by decide) hN
    have hr2 := hr1.f8 b3 (b2.rp hT np)
    have f2 : Fz (FRs m τ) u u2 := f8_ss (a4.tr b3)
    have head : hgX11_fact_2 N (j + 2) m (1 : Int32) u = (if (wrO t p == some 21) = true then (cl (hX11_opens N m (11 : Int32) u2) fun r10 u11 => (if r10 = 0 then (some ((0 : Int32), u11)) else (cl (hX11_passWord N m u11) fun r12 u13 => (hgX11_fact_2 N (j + 1) m (1 : Int32) u13)))) else if t p = 91 then (cl (hX11_opens N m (91 : Int32) u2) fun r7 u8 => (if r7 = 0 then (some ((0 : Int32), u8)) else (bs (sI u8 m 8 ((zI u8 m 8) + (1 : Int32))) fun u9 => (hgX11_fact_2 N (j + 1) m (1 : Int32) u9)))) else hgX11_fact_2 N (j + 1) m (0 : Int32) u2) := by
      rw [hgX11_fact_2, if_neg (by decide), a1, cl_some, wl_21, b1, cl_some]
      cases ew : wrO t p == some 21 with
      | true => rw [if_neg (show ¬ nI (b2n true) = 0 by decide), if_pos rfl]
      | false =>
        rw [if_pos (show nI (b2n false) = 0 from rfl), if_neg (show ¬ false = true by decide)]
        by_cases q : t p = 91
        · rw [if_pos q, if_pos (show btI (t p) = (91 : Int32) from (btI_eq (t_le hT p) (by decide)).mpr q)]
        · rw [if_neg q, if_neg (show ¬ btI (t p) = (91 : Int32) from fun z => q ((btI_eq (t_le hT p) (show 91 < 256 by decide)).mp z))]
    rw [facS]
    by_cases q21 : wrO t p = some 21
    · -- not
      have lt := wr_T hT q21
      obtain ⟨n1, n2⟩ := nx_ok hT lt
      have hs : isS (t p) = true := ((wrO_iff (wrO_lt q21)).mp q21).1
      have hd11 : hgX11_fact_2 N (j + 2) m (1 : Int32) u = (cl (hX11_opens N m (nI 11) u2) fun r10 u11 => (if r10 = 0 then (some ((0 : Int32), u11)) else (cl (hX11_passWord N m u11) fun r12 u13 => (hgX11_fact_2 N (j + 1) m (1 : Int32) u13)))) := by rw [head, q21, some_beq, if_pos (by decide)]; rfl
      obtain ⟨o1, o2⟩ := r_open (N := N) (s := 11) hr2 b2 (Or.inl rfl) (by omega) (by omega)
      rw [if_pos q21]
      by_cases q10 : 10 ≤ d
      · rw [if_pos q10]
        obtain ⟨w, w1, w2, w3⟩ := o1 (by omega)
        refine ⟨fun er h => ?_, fun cs p' k' h => (by cases h)⟩
        cases h
        refine ⟨w, ?_, w2, f2.tr w3⟩
        unfold Ad
        rw [hd11, w1, cl_some, if_pos rfl, cl_some, if_pos rfl]
      · rw [if_neg q10]
        obtain ⟨u3, w1, w2, w3, w4⟩ := o2 (by omega)
        obtain ⟨u4, c1, c2, c3⟩ := r_passW (N := N) w3 hT hs hN
        have hr4 := w2.f8 c3 c2
        have f4 := (f2.tr w4).tr (f8_ss c3)
        have eA : Ad N m (j + 2) n u = Ad N m (j + 1) n u4 := by
          unfold Ad
          rw [hd11, w1, cl_some, if_neg (by decide), c1, cl_some]
        obtain ⟨i1, i2⟩ := ih (d + 1) (by omega) (by omega) u4 L k (nx t p) (11 :: st) (j + 1) n hr4 (by rw [dp, if_pos (Or.inl rfl)]; omega) (fun a ha => by
          rcases List.mem_cons.mp ha with z | z
          · omega
          · exact hv a z) n2 (by simp; omega) hk (by omega) (by omega)
        rw [eA]
        cases ef : facS t e (d + 1) k (nx t p) with
        | error er =>
          obtain ⟨w, y1, y2, y3⟩ := i1 er ef
          refine ⟨fun er' h => ?_, fun cs p' k' h => (by cases h)⟩
          cases h
          exact ⟨w, y1, y2, f4.tr y3⟩
        | ok r =>
          obtain ⟨cs, q, k1⟩ := r
          obtain ⟨w, f5, n', y1, y2, y3, y4, y5⟩ := i2 cs q k1 ef
          refine ⟨fun er' h => (by cases h), fun cs' p' k' h => ?_⟩
          cases h
          refine ⟨w, f5, n', y1, ?_, y3, y4, f4.tr y5⟩
          have : fl 3 (11 :: st) (L ++ cs) = fl 3 st (L ++ (cs ++ [11])) := by
            rw [fl, if_pos (show 3 ≤ str 11 by decide), List.append_assoc]
          rw [this] at y2
          exact y2
    · rw [if_neg q21]
      have e21 : (wrO t p == some 21) = false := by simpa using q21
      obtain ⟨s91, t91⟩ := sg_91 hT p
      by_cases q91 : t p = 91
      · -- a bracket
        have lt := t_lt hT (p := p) (by omega)
        obtain ⟨n1, n2⟩ := nx_ok hT lt
        have hd91 : hgX11_fact_2 N (j + 2) m (1 : Int32) u = (cl (hX11_opens N m (nI 91) u2) fun r7 u8 => (if r7 = 0 then (some ((0 : Int32), u8)) else (bs (sI u8 m 8 ((zI u8 m 8) + (1 : Int32))) fun u9 => (hgX11_fact_2 N (j + 1) m (1 : Int32) u9)))) := by rw [head, e21, if_neg (by decide), if_pos q91]; rfl
        obtain ⟨o1, o2⟩ := r_open (N := N) (s := 91) hr2 b2 (Or.inr rfl) (by omega) (by omega)
        rw [if_pos (s91.mpr q91)]
        by_cases q10 : 10 ≤ d
        · rw [if_pos q10]
          obtain ⟨w, w1, w2, w3⟩ := o1 (by omega)
          refine ⟨fun er h => ?_, fun cs p' k' h => (by cases h)⟩
          cases h
          refine ⟨w, ?_, w2, f2.tr w3⟩
          unfold Ad
          rw [hd91, w1, cl_some, if_pos rfl, cl_some, if_pos rfl]
        · rw [if_neg q10]
          obtain ⟨u3, w1, w2, w3, w4⟩ := o2 (by omega)
          obtain ⟨c1, c2, c3⟩ := r_on w2.1 w3 lt
          have enx : sk t (p + 1) = nx t p := by unfold nx; rw [t91 q91]
          rw [enx] at c1
          have hr4 : RK (sI u3 m 8 (nI (p + 1))) m t T τ L k (nx t p) (91 :: st) := ⟨c1, w2.2.f8 c3⟩
          have f4 := (f2.tr w4).tr (f8_ss c3)
          have eA : Ad N m (j + 2) n u = Ad N m (j + 1) n (sI u3 m 8 (nI (p + 1))) := by
            unfold Ad
            rw [hd91, w1, cl_some, if_neg (by decide), bs_eq, w3.2.2.1, lit_1, nI_add]
          have pf := facS_ok hT e (d + 1) (by omega) (by omega)
          have l3 := (ih (d + 1) (by omega) (by omega)).lj
          have l2 : LJ N m t T τ 2 (d + 1) (lev t (opN t) (facS t e (d + 1))) := LJ.up hT hτ hN (Or.inl ⟨rfl, rfl, rfl⟩) l3 pf
          have l1 : LJ N m t T τ 1 (d + 1) (tesS t (facS t e (d + 1))) := LJ.up hT hτ hN (Or.inr ⟨rfl, rfl, rfl⟩) l2 (lev_ok hT pf (opN_ok hT))
          have pt := tesS_ok hT pf
          have sv1 : SV (91 :: st) := fun a ha => by
            rcases List.mem_cons.mp ha with z | z
            · omega
            · exact hv a z
          have tp1 : top0 1 (91 :: st) := fun a r z => by cases z; decide
          obtain ⟨i1, i2⟩ := l1 (sI u3 m 8 (nI (p + 1))) L k (nx t p) (91 :: st) (j + 1) n hr4 (by rw [dp, if_pos (Or.inr rfl)]; omega) sv1 tp1 n2 (by simp; omega) hk (by omega) (by omega)
          rw [eA]
          cases ef : tesS t (facS t e (d + 1)) k (nx t p) with
          | error er =>
            obtain ⟨w, y1, y2, y3⟩ := i1 er ef
            refine ⟨fun er' h => ?_, fun cs p' k' h => (by cases h)⟩
            cases h
            exact ⟨w, y1, y2, f4.tr y3⟩
          | ok r =>
            obtain ⟨cs, q, k1⟩ := r
            obtain ⟨u5, f5, n', L', pe, y1, y2, y3, y4, y5, y6, y7, y8⟩ := i2 cs q k1 ef
            obtain ⟨z1, z2, z3, z4, z5, z6⟩ := pt.1 k (nx t p) cs q k1 n2 ef
            have f5' := f4.tr y8
            have svp : SV (pe ++ 91 :: st) := fun a ha => by
              rcases List.mem_append.mp ha with z | z
              · have := (y3 a z).1; omega
              · exact sv1 a z
            have len : L'.length + pe.length = L.length + cs.length := by
              have := congrArg List.length y4
              simp at this
              omega
            have tot : L'.length + (pe ++ 91 :: st).length ≤ q := by simp; omega
            have in91 : 91 ∈ pe ++ 91 :: st := by simp
            rw [y1]
            dsimp only
            obtain ⟨s93, t93⟩ := sg_93 hT q
            have npq := (y2.1.1.le hT).2.1
            obtain ⟨u6, g1, g2, g3, g4⟩ := r_seeR (N := N) y2.1 hT hN
            have k6 := y2.2.f8 g4
            by_cases q93 : t q = 93
            · rw [if_pos (s93.mpr q93)]
              have ltq := t_lt hT (p := q) (by omega)
              obtain ⟨m1, m2⟩ := nx_ok hT ltq
              obtain ⟨f5, rfl⟩ : ∃ i, f5 = i + 1 := ⟨f5 - 1, by omega⟩
              refine ⟨fun er' h => (by cases h), fun cs' p' k' h => ?_⟩
              cases h
              obtain ⟨u7, x1, x2, x3⟩ := r_settle (N := N) (b := 1) hT hτ (by omega) (pe ++ 91 :: st) N u6 L' (by omega) ⟨g3, k6⟩ svp (by omega)
              rw [fl_pe tp1 pe L' (fun a ha => (y3 a ha).2), y4] at x2
              obtain ⟨x2r, x216, x2st, x213⟩ := x2
              have x216 : zI u7 m 16 = nI (st.length + 1) := x216
              have x213 : zI u7 m 13 = nI (1 + dp st) := x213
              generalize e8 : sI (sI u7 m 16 (nI st.length)) m 13 (nI (dp st)) = u8
              have f8' : Fz (fun a j => (a = m ∧ (j = 13 ∨ j = 16)) ∨ a = m + 7) u7 u8 := by rw [← e8]; exact (Fz.sI (Or.inl ⟨rfl, Or.inr rfl⟩)).tr (Fz.sI (Or.inl ⟨rfl, Or.inl rfl⟩))
              have r8 := x2r.s f8'
              have x7 : RX u7 m t T q := by
                have e88 : zI u7 m 8 = nI q := by rw [x3.I (by unfold FRq; omega)]; exact g2.2.2.1
                exact ⟨by rw [x3.I (by unfold FRq; omega)]; exact g2.1, fun k hk => by rw [x3.I (by unfold FRq; omega)]; exact g2.2.1 k hk, e88, g2.2.2.2⟩
              have x8 : RX u8 m t T q := x7.z f8' (by omega) (fun k => by omega) (by omega)
              have k8 : SK u8 m st := ⟨by rw [← e8, sI_n (by omega), sI_s], StN_ext x2st.2 (fun k _ => by rw [← e8, sI_n (by omega), sI_n (by omega)]), by rw [← e8, sI_s]⟩
              obtain ⟨v1, v2, v3⟩ := r_on r8 x8 ltq
              have enq : sk t (q + 1) = nx t q := by unfold nx; rw [t93 q93]
              rw [enq] at v1
              obtain ⟨u9, o1', o2', o3'⟩ := r_settle (N := N) (b := 3) hT hτ (by omega) st N (sI u8 m 8 (nI (q + 1))) (L ++ cs) (by omega) ⟨v1, k8.f8 v3⟩ hv (by simp; omega)
              refine ⟨u9, f5, n', ?_, o2', by omega, by omega, (((f5'.tr (f8_ss g4)).tr (fq_s x3)).tr (f8'.w (fun a j z => Or.inr z))).tr ((f8_ss v3).tr (fq_s o3'))⟩
              unfold Cd
              have : hgX11_closes_5 N (f5 + 1) m u5 = hgX11_closes_5 N f5 m u9 := by
                rw [hgX11_closes_5, g1, cl_some, show (93 : Int32) = nI 93 from rfl, if_pos ((btI_eq (t_le hT q) (by decide)).mpr q93), r_inside k6 svp (by omega) hN, cl_some, decide_eq_true in91, if_neg (show ¬ nI (b2n true) = 0 by decide)]
                unfold hX11_settles
                rw [show (1 : Int32) = nI 1 from rfl, x1, cl_some, bs_eq, x216, pk_sub (by omega), show st.length + 1 - 1 = st.length by omega, bs_eq, sI_n (by omega), x213, pk_sub (by omega), show 1 + dp st - 1 = dp st by omega, e8, bs_eq, x8.2.2.1, nI_add, show (3 : Int32) = nI 3 from rfl, o1', cl_some]
              rw [this]
            · rw [if_neg (fun z => q93 (s93.mp z))]
              refine ⟨fun er' h => ?_, fun cs' p' k' h => (by cases h)⟩
              cases h
              obtain ⟨f5, rfl⟩ : ∃ i, f5 = i + 1 := ⟨f5 - 1, by omega⟩
              obtain ⟨n', rfl⟩ : ∃ i, n' = i + 1 := ⟨n' - 1, by omega⟩
              have ec : hgX11_closes_5 N (f5 + 1) m u5 = some ((), u6) := by
                rw [hgX11_closes_5, g1, cl_some, show (93 : Int32) = nI 93 from rfl, if_neg (fun z => q93 ((btI_eq (t_le hT q) (by decide)).mp z))]
              obtain ⟨u7, x1, x2, x3⟩ := r_noop (N := N) (n := n' + 1) hT hN ⟨g3, k6⟩ y5
              obtain ⟨u8, v1, v2, v3, v4⟩ := r_seeR (N := N) x2.1 hT hN
              obtain ⟨w, w1, w2, w3⟩ := r_badR (N := N) (t := t) (T := T) (τ := τ) (L := L) v3.2.1 0 q
              refine ⟨w, ?_, w2, ((f5'.tr (f8_ss g4)).tr (f8_ss (x3.tr v4))).tr (fr_s w3)⟩
              unfold Cd
              rw [ec, cl_some, x1, hgX11_tested_12, if_pos rfl, r_inside x2.2 svp (by omega) hN, cl_some, decide_eq_true in91, if_neg (show ¬ nI (b2n true) = 0 by decide), v1, cl_some, v2.2.2.1]
              exact w1
      · -- a comparison
        rw [if_neg (fun z => q91 (s91.mp z))]
        have hd0 : hgX11_fact_2 N (j + 2) m (1 : Int32) u = cl (hX11_compare N m u2) fun r1 u2 => (if r1 = 0 ∨ r1 = 1 then (some (r1, u2)) else (none)) := by
          rw [head, e21, if_neg (by decide), if_neg q91, hgX11_fact_2, if_pos rfl]
        have hc := r_cmp (m := m) (τ := τ) hT hτ hN u2 L k p hr2.1 hp (by omega) hk
        have pc' := cmpS_ok hT
        cases ef : cmpS t k p with
        | error er =>
          rw [ef] at hc
          obtain ⟨w, w1, w2, w3⟩ := hc
          refine ⟨fun er' h => ?_, fun cs p' k' h => (by cases h)⟩
          cases h
          refine ⟨w, ?_, w2, f2.tr (fr_s w3)⟩
          unfold Ad
          rw [hd0, w1, cl_some, if_pos (Or.inl rfl), cl_some, if_pos rfl]
        | ok r =>
          obtain ⟨cs, q, k1⟩ := r
          rw [ef] at hc
          obtain ⟨u3, w1, w2, w3⟩ := hc
          obtain ⟨z1, z2, z3, z4, z5, z6⟩ := pc'.1 k p cs q k1 hp ef
          refine ⟨fun er' h => (by cases h), fun cs' p' k' h => ?_⟩
          cases h
          obtain ⟨u4, x1, x2, x3⟩ := r_settle (N := N) (b := 3) hT hτ (by omega) st N u3 (L ++ cs) (by omega) ⟨w2, hr2.2.R w3⟩ hv (by simp; omega)
          refine ⟨u4, N, n, ?_, x2, by omega, by omega, (f2.tr (fr_s w3)).tr (fq_s x3)⟩
          unfold Ad Cd hX11_closes hX11_settles
          rw [hd0, w1, cl_some, if_pos (Or.inr rfl), cl_some, if_neg (by decide), show (3 : Int32) = nI 3 from rfl, x1, cl_some]
end RULF
