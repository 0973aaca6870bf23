/-! RULE: the class's sums, tests, clauses -/
section RULD
variable {N x T c : Nat} {u : SG} {t : Nat → Nat}
theorem x_facO (hT : TP t T) (p : Nat) : fX5_factorOf N (foI (sgO t p)) u = some (clO (opF t p), u) := by
  unfold fX5_factorOf opF
  rw [show (37 : Int32) = nI 37 from rfl, show (42 : Int32) = nI 42 from rfl, show (47 : Int32) = nI 47 from rfl]
  simp only [sg_eq hT (show 37 < 2 ^ 31 by decide), sg_eq hT (show 42 < 2 ^ 31 by decide), sg_eq hT (show 47 < 2 ^ 31 by decide)]
  by_cases q1 : sgO t p = some 42
  · rw [if_neg (by rw [q1]; simp), if_pos q1, if_pos q1]; rfl
  · rw [if_neg q1, if_neg q1]
    by_cases q2 : sgO t p = some 47
    · rw [if_neg (by rw [q2]; simp), if_pos q2, if_pos q2]; rfl
    · rw [if_neg q2, if_neg q2]
      by_cases q3 : sgO t p = some 37
      · rw [if_pos q3, if_pos q3]; rfl
      · rw [if_neg q3, if_neg q3] <;> rfl
theorem x_suO (hT : TP t T) (p : Nat) : fX5_summandOf N (foI (sgO t p)) u = some (clO (opA t p), u) := by
  unfold fX5_summandOf opA
  rw [show (43 : Int32) = nI 43 from rfl, show (45 : Int32) = nI 45 from rfl]
  simp only [sg_eq hT (show 43 < 2 ^ 31 by decide), sg_eq hT (show 45 < 2 ^ 31 by decide)]
  by_cases q1 : sgO t p = some 43
  · rw [if_pos q1, if_pos q1] <;> rfl
  · rw [if_neg q1, if_neg q1]
    by_cases q2 : sgO t p = some 45
    · rw [if_pos q2, if_pos q2] <;> rfl
    · rw [if_neg q2, if_neg q2] <;> rfl
theorem clO_n : clO none = -99 := rfl
theorem nI_s (i : Nat) : nI i + (1 : Int32) = nI (i + 1) := by rw [lit_1, nI_add]
theorem c_sum (hT : TP t T) (hc : c ≤ 11) (hN : 2000 ≤ N) : CJ x t T c (sumS t) (hX5_readSum N (x + 7)) := by
  have h4 := hT.1
  intro u L k p hs hp hl hk
  have e : sumS t k p = rst t (opF t) (opA t) (valS t) [] [] k p := rst_two (op1 := opF t) (op2 := opA t) (F := valS t) k p
  rw [e]
  show cR x t T u L (hgX5_readSum_8 N N (x + 7) (clO none) (clO none) (nI 0) u) (rst t (opF t) (opA t) (valS t) (none : Option Nat).toList (none : Option Nat).toList k p)
  refine cj_fus (N := N) (x := x) (c := c) (f := hX5_readValue N (x + 7)) (g := fun n a d i u => hgX5_readSum_8 N n (x + 7) (clO a) (clO d) (nI i) u) (G := fun n a i u => cl (fX5_factorOf N (zI u (x + 1) 11) u) fun r9 u10 => (if r9 = (-99 : Int32) then (cl (hX5_emit N (x + 7) (clO a) u10) fun _ u12 => (cl (fX5_summandOf N (zI u12 (x + 1) 11) u12) fun r14 u15 => (if r14 = (-99 : Int32) then (some ((1 : Int32), u15)) else (hgX5_readSum_72 N (hgX5_readSum_8 N n) (x + 7) r14 r9 (nI i) u15)))) else (hgX5_readSum_72 N (hgX5_readSum_8 N n) (x + 7) (clO a) r9 (nI i) u10))) (G2 := fun n i u12 => cl (fX5_summandOf N (zI u12 (x + 1) 11) u12) fun r14 u15 => (if r14 = (-99 : Int32) then (some ((1 : Int32), u15)) else (hgX5_readSum_72 N (hgX5_readSum_8 N n) (x + 7) r14 (-99) (nI i) u15))) hT hc (c_value hT hc) (valS_ok hT) (opF_ok hT) (opA_ok hT) ?_ ?_ ?_ 401 N 0 u L k p none none (by omega) (by omega) (by omega) hs hp (show L.length + 0 + 0 ≤ p + c by omega) hk (fun s h => by cases h) (fun s h => by cases h)
  · intro n i u a d hi
    show hgX5_readSum_8 N (n + 1) (x + 7) (clO a) (clO d) (nI i) u = _
    rw [hgX5_readSum_8, lit_400, if_neg (nI_ge hi (by decide))] <;> rfl
  · intro n i u L k p a hs
    show cl (fX5_factorOf N (zI u (x + 1) 11) u) _ = _
    rw [hs.1.at.2.2.2, x_facO hT, cl_some]
    cases e1 : opF t p with
    | none => rw [if_pos clO_n] <;> rfl
    | some s =>
      rw [if_neg (show ¬ clO (some s) = -99 from clS_ne (opF_ok hT p s e1).2.2)]
      unfold hgX5_readSum_72
      rw [nI_s] <;> rfl
  · intro n i u L k p hs
    show cl (fX5_summandOf N (zI u (x + 1) 11) u) _ = _
    rw [hs.1.at.2.2.2, x_suO hT, cl_some]
    cases e1 : opA t p with
    | none => rw [if_pos clO_n] <;> rfl
    | some s =>
      rw [if_neg (show ¬ clO (some s) = -99 from clS_ne (opA_ok hT p s e1).2.2)]
      unfold hgX5_readSum_72
      rw [nI_s] <;> rfl
theorem x_cmO (hT : TP t T) (p : Nat) : fX5_comparisonOf N (foI (sgO t p)) u = some ((match cmO t p with
    | none => -99
    | some s => clS s), u) := by
  unfold fX5_comparisonOf cmO
  rw [show (60 : Int32) = nI 60 from rfl, show (61 : Int32) = nI 61 from rfl, show (62 : Int32) = nI 62 from rfl, show (316 : Int32) = nI 316 from rfl, show (318 : Int32) = nI 318 from rfl]
  simp only [sg_eq hT (show 60 < 2 ^ 31 by decide), sg_eq hT (show 61 < 2 ^ 31 by decide), sg_eq hT (show 62 < 2 ^ 31 by decide), sg_eq hT (show 316 < 2 ^ 31 by decide), sg_eq hT (show 318 < 2 ^ 31 by decide)]
  by_cases q1 : sgO t p = some 60
  · rw [if_pos q1, if_pos q1]; rfl
  · rw [if_neg q1, if_neg q1]
    by_cases q2 : sgO t p = some 316
    · rw [if_neg (by rw [q2]; simp), if_neg (by rw [q2]; simp), if_pos q2, if_pos q2]; rfl
    · rw [if_neg q2, if_neg q2]
      by_cases q3 : sgO t p = some 61
      · rw [if_pos q3, if_pos q3]; rfl
      · rw [if_neg q3, if_neg q3]
        by_cases q4 : sgO t p = some 318
        · rw [if_neg (by rw [q4]; simp), if_pos q4, if_pos q4]; rfl
        · rw [if_neg q4, if_neg q4]
          by_cases q5 : sgO t p = some 62
          · rw [if_pos q5, if_pos q5]; rfl
          · rw [if_neg q5, if_neg q5]
def cmH (N x : Nat) (u : SG) : Option (Int32 × SG) := cl (hX5_readSum N (x + 7) u) fun r3 u4 => (if r3 = 0 then (some ((0 : Int32), u4))
  else (cl (fX5_comparisonOf N (zI u4 (x + 7 - 6) 11) u4) fun r6 u7 => (if r6 = (-99 : Int32) then (cl (hX9_refuse N (x + 7 - 6) (0 : Int32) u7) fun r20 u21 => (if r20 = 0 ∨ r20 = 1 then (some (r20, u21))
  else (none)))
  else (if (zI u7 (x + 7) 3) < (60 : Int32) then (bs (sI u7 (x + 7) 3 ((zI u7 (x + 7) 3) + (1 : Int32))) fun u8 => (cl (hX9_step N (x + 7 - 6) u8) fun r10 u11 => (cl (hX5_readSum N (x + 7) u11) fun r12 u13 => (if r12 = 0 then (some ((0 : Int32), u13))
  else (cl (hX5_emit N (x + 7) r6 u13) fun r14 u15 => (if r14 = 0 then (some ((0 : Int32), u15))
  else (some ((1 : Int32), u15))))))))
  else (cl (hX9_refuse N (x + 7 - 6) (3 : Int32) u7) fun r17 u18 => (if r17 = 0 ∨ r17 = 1 then (some (r17, u18))
  else (none)))))))
theorem c_cmp (hT : TP t T) (hc : c ≤ 11) (hN : 2000 ≤ N) : CJ x t T c (cmpS t) (cmH N x) := by
  have h4 := hT.1
  intro u L k p hs hp hl hk
  have hsum := c_sum (x := x) (c := c) hT hc hN
  have pf := sumS_ok hT
  have hf := hsum u L k p hs hp hl hk
  unfold cmH cmpS
  cases ef : sumS t k p with
  | error e =>
    rw [ef] at hf
    obtain ⟨u', a1, a2, a3⟩ := hf
    exact ⟨u', by rw [a1, cl_some, if_pos rfl], a2, a3⟩
  | ok r =>
    obtain ⟨cs, q, k1⟩ := r
    rw [ef] at hf
    obtain ⟨u2, a1, a2, a3⟩ := hf
    obtain ⟨b1, b2, b3, b4, b5, b6⟩ := pf.1 k p cs q k1 hp ef
    have k60 := b6 hk
    rw [a1, cl_some, if_neg (by decide), show x + 7 - 6 = x + 1 from rfl, a2.1.at.2.2.2, x_cmO hT, cl_some]
    dsimp only
    have lift : ∀ {R : PRs} {r : Option (Int32 × SG)}, cR x t T u2 (L ++ cs.map clS) r R → (∀ ds q k, R ≠ .ok (ds, q, k)) → cR x t T u L r R := by
      intro R r h hn
      match R, h with
      | .error e, ⟨w, w1, w2, w3⟩ => exact ⟨w, w1, w2, a3.tr w3⟩
      | .ok (ds, q2, k2), _ => exact absurd rfl (hn ds q2 k2)
    cases ec : cmO t q with
    | none =>
      rw [if_pos rfl]
      exact lift (c_bad a2 0) (fun _ _ _ h => by cases h)
    | some s =>
      obtain ⟨c1, c2, c3⟩ := cmO_ok hT ec
      obtain ⟨n1, n2⟩ := nx_ok hT c1
      have ns : ¬ clS s = -99 := by
        unfold cmO at ec
        split at ec
        · cases ec; decide
        · split at ec
          · cases ec; decide
          · split at ec
            · cases ec; decide
            · split at ec
              · cases ec; decide
              · split at ec
                · cases ec; decide
                · cases ec
      dsimp only
      rw [if_neg ns, a2.2.2.2, show (60 : Int32) = nI 60 from rfl, iflt (by omega) (by decide)]
      by_cases q60 : 60 ≤ k1
      · rw [if_neg (by omega), if_pos q60]
        exact lift (c_bad a2 3) (fun _ _ _ h => by cases h)
      · rw [if_pos (by omega), if_neg q60, bs_eq, lit_1, nI_add]
        have f1 : Fz (fun a j => a = x + 7 ∧ j = 3) u2 (sI u2 (x + 7) 3 (nI (k1 + 1))) := Fz.sI ⟨rfl, rfl⟩
        have s1 : CSt (sI u2 (x + 7) 3 (nI (k1 + 1))) x t T (L ++ cs.map clS) (k1 + 1) q := ⟨a2.1.z f1 (fun b k q1 q2 => by omega) (fun k q1 q2 => by omega), by rw [f1.I (by omega)]; exact a2.2.1, fun j d hd => by rw [f1.I (by omega)]; exact a2.2.2.1 j d hd, by rw [sI_s]⟩
        obtain ⟨u3, d1, d2, d3⟩ := c_stepR (N := N) hT s1
        have fz := (a3.tr (f1.w (fun a j q => by unfold Cw; omega))).tr d3
        have hg := hsum u3 (L ++ cs.map clS) (k1 + 1) (nx t q) d2 n2 (by simp; omega) (by omega)
        rw [d1, cl_some]
        cases eg : sumS t (k1 + 1) (nx t q) with
        | error e =>
          rw [eg] at hg
          obtain ⟨u', g1, g2, g3⟩ := hg
          exact ⟨u', by rw [g1, cl_some, if_pos rfl], g2, fz.tr g3⟩
        | ok r2 =>
          obtain ⟨ds, q2, k2⟩ := r2
          rw [eg] at hg
          obtain ⟨u4, g1, g2, g3⟩ := hg
          obtain ⟨m1, m2, m3, m4, m5, m6⟩ := pf.1 (k1 + 1) (nx t q) ds q2 k2 n2 eg
          obtain ⟨u5, o1, o2, o3⟩ := c_emit (N := N) g2 (by simp; omega) (clS s) ns
          exact ⟨u5, by rw [g1, cl_some, if_neg (show ¬ (1 : Int32) = 0 by decide), o1, cl_some, if_neg (show ¬ (1 : Int32) = 0 by decide)]; rfl, by simpa using o2, (fz.tr g3).tr o3⟩
theorem c_test {F : Nat → Nat → PRs} {f : Nat → Int32 → SG → Option (Int32 × SG)} {d : Int32} (hT : TP t T) (hc : c ≤ 11) (hF : CJ x t T c F (f (x + 7) d)) (pf : PF T true F) (hN : 2000 ≤ N) : CJ x t T c (tesS t F) (hbX5_readTest N f (x + 7) d) := by
  have h4 := hT.1
  have w19 := fun p => wr_eq (t := t) (p := p) (show 19 < 2 ^ 31 by decide)
  have w20 := fun p => wr_eq (t := t) (p := p) (show 20 < 2 ^ 31 by decide)
  intro u L k p hs hp hl hk
  have e : tesS t F k p = rst t (opN t) (opO t) F [] [] k p := rst_two (op1 := opN t) (op2 := opO t) (F := F) k p
  rw [e]
  show cR x t T u L (hgX5_readTest_9 N f N (x + 7) d (clO none) (clO none) (nI 0) u) (rst t (opN t) (opO t) F (none : Option Nat).toList (none : Option Nat).toList k p)
  refine cj_fus (N := N) (x := x) (c := c) (f := f (x + 7) d) (g := fun n a b i u => hgX5_readTest_9 N f n (x + 7) d (clO a) (clO b) (nI i) u) (G := fun n a i u => if (zI u (x + 1) 10) = (20 : Int32) then (hgX5_readTest_52 N f (hgX5_readTest_9 N f n) (x + 7) d (clO a) (nI i) (-30 : Int32) u) else (hgX5_readTest_52 N f (hgX5_readTest_9 N f n) (x + 7) d (clO a) (nI i) (-99 : Int32) u)) (G2 := fun n i u => if (zI u (x + 1) 10) = (19 : Int32) then (hgX5_readTest_84 N f (hgX5_readTest_9 N f n) (x + 7) d (-99) (nI i) (-31 : Int32) u) else (hgX5_readTest_84 N f (hgX5_readTest_9 N f n) (x + 7) d (-99) (nI i) (-99 : Int32) u)) hT hc hF pf (opN_ok hT) (opO_ok hT) ?_ ?_ ?_ 401 N 0 u L k p none none (by omega) (by omega) (by omega) hs hp (show L.length + 0 + 0 ≤ p + c by omega) hk (fun s h => by cases h) (fun s h => by cases h)
  · intro n i u a b hi
    show hgX5_readTest_9 N f (n + 1) (x + 7) d (clO a) (clO b) (nI i) u = _
    rw [hgX5_readTest_9, lit_400, if_neg (nI_ge hi (by decide))] <;> rfl
  · intro n i u L k p a hs
    show (if (zI u (x + 1) 10) = (20 : Int32) then _ else _) = _
    rw [hs.1.at.2.2.1, show (20 : Int32) = nI 20 from rfl]
    unfold opN
    by_cases q : wrO t p = some 20
    · rw [if_pos ((w20 p).mpr q), if_pos q]
      unfold hgX5_readTest_52
      rw [if_neg (show ¬ (-30 : Int32) = -99 by decide)]
      unfold hgX5_readTest_93
      rw [nI_s] <;> rfl
    · rw [if_neg (fun z => q ((w20 p).mp z)), if_neg q]
      unfold hgX5_readTest_52
      rw [if_pos (show (-99 : Int32) = -99 from rfl)] <;> rfl
  · intro n i u L k p hs
    show (if (zI u (x + 1) 10) = (19 : Int32) then _ else _) = _
    rw [hs.1.at.2.2.1, show (19 : Int32) = nI 19 from rfl]
    unfold opO
    by_cases q : wrO t p = some 19
    · rw [if_pos ((w19 p).mpr q), if_pos q]
      unfold hgX5_readTest_84
      rw [if_neg (show ¬ (-31 : Int32) = -99 by decide)]
      unfold hgX5_readTest_93
      rw [nI_s] <;> rfl
    · rw [if_neg (fun z => q ((w19 p).mp z)), if_neg q]
      unfold hgX5_readTest_84
      rw [if_pos (show (-99 : Int32) = -99 from rfl)] <;> rfl
theorem c_fact (hT : TP t T) (hc : c ≤ 11) (hN : 2000 ≤ N) : ∀ e d, 11 ≤ d + e → d ≤ 10 → CJ x t T c (facS t e d) (hF5 N e (x + 7) (nI d)) := by
  have h4 := hT.1
  intro e
  induction e with
  | zero => intro d h1 h2; omega
  | succ e ih =>
    intro d hd hd2 u L k p hs hp hl hk
    obtain ⟨t8, t9, t10, t11⟩ := hs.1.at
    show cR x t T u L (hbX5_readFact N (hF5 N e) (fun a p w => hbX5_readTest N (hF5 N e) a p w) (x + 7) (nI d) u) _
    rw [facS]
    unfold hbX5_readFact hgX5_readFact_24 hgX5_readFact_29
    rw [show x + 7 - 6 = x + 1 from rfl, t10, t11, show (21 : Int32) = nI 21 from rfl, show (91 : Int32) = nI 91 from rfl]
    have w21 := wr_eq (t := t) (p := p) (show 21 < 2 ^ 31 by decide)
    have s91 := sg_eq (p := p) hT (show 91 < 2 ^ 31 by decide)
    by_cases q21 : wrO t p = some 21
    · rw [if_pos (w21.mpr q21), if_pos q21, if_neg (show ¬ (1 : Int32) = 0 by decide), lit_10, iflt (by omega) (by decide)]
      by_cases q10 : 10 ≤ d
      · rw [if_neg (by omega), if_pos q10]
        exact c_bad hs 2
      · obtain ⟨n1, n2⟩ := nx_ok hT (wr_T hT q21)
        obtain ⟨u1, e1, e2, e3⟩ := c_stepR (N := N) hT hs
        have hf := ih (d + 1) (by omega) (by omega) u1 L k (nx t p) e2 n2 (by omega) hk
        have pf := facS_ok hT e (d + 1) (by omega) (by omega)
        rw [if_pos (by omega), if_neg q10]
        unfold hgX5_readFact_49
        rw [show x + 7 - 6 = x + 1 from rfl, t10, show (21 : Int32) = nI 21 from rfl, if_pos (w21.mpr q21), e1, cl_some, nI_s]
        cases ef : facS t e (d + 1) k (nx t p) with
        | error er =>
          rw [ef] at hf
          obtain ⟨u', a1, a2, a3⟩ := hf
          exact ⟨u', by rw [a1, cl_some, if_pos rfl], a2, e3.tr a3⟩
        | ok r =>
          obtain ⟨cs, q, k1⟩ := r
          rw [ef] at hf
          obtain ⟨u2, a1, a2, a3⟩ := hf
          obtain ⟨b1, b2, b3, b4, b5, b6⟩ := pf.1 k (nx t p) cs q k1 n2 ef
          obtain ⟨u3, o1, o2, o3⟩ := c_emit (N := N) a2 (by simp; omega) (clS 11) (by decide)
          exact ⟨u3, by rw [a1, cl_some, if_neg (show ¬ (1 : Int32) = 0 by decide), show (-32 : Int32) = clS 11 from rfl, o1, cl_some, if_neg (show ¬ (1 : Int32) = 0 by decide)], by simpa using o2, (e3.tr a3).tr o3⟩
    · rw [if_neg (fun z => q21 (w21.mp z)), if_neg q21]
      by_cases q91 : sgO t p = some 91
      · rw [if_pos (s91.mpr q91), if_pos q91, if_neg (show ¬ (1 : Int32) = 0 by decide), lit_10, iflt (by omega) (by decide)]
        by_cases q10 : 10 ≤ d
        · rw [if_neg (by omega), if_pos q10]
          exact c_bad hs 2
        · obtain ⟨n1, n2⟩ := nx_ok hT (sg_T hT q91)
          obtain ⟨u1, e1, e2, e3⟩ := c_stepR (N := N) hT hs
          have pf := facS_ok hT e (d + 1) (by omega) (by omega)
          have hte := c_test (N := N) (f := hF5 N e) (d := nI (d + 1)) hT hc (ih (d + 1) (by omega) (by omega)) pf hN
          have hf := hte u1 L k (nx t p) e2 n2 (by omega) hk
          have pt := tesS_ok hT pf
          rw [if_pos (by omega), if_neg q10]
          unfold hgX5_readFact_49
          rw [show x + 7 - 6 = x + 1 from rfl, t10, t11, show (21 : Int32) = nI 21 from rfl, show (91 : Int32) = nI 91 from rfl, if_neg (fun z => q21 (w21.mp z)), if_pos (s91.mpr q91), e1, cl_some, nI_s]
          show cR x t T u L (cl (hbX5_readTest N (hF5 N e) (x + 7) (nI (d + 1)) u1) _) _
          cases ef : tesS t (facS t e (d + 1)) k (nx t p) with
          | error er =>
            rw [ef] at hf
            obtain ⟨u', a1, a2, a3⟩ := hf
            exact ⟨u', by rw [a1, cl_some, if_pos rfl], a2, e3.tr a3⟩
          | ok r =>
            obtain ⟨cs, q, k1⟩ := r
            rw [ef] at hf
            obtain ⟨u2, a1, a2, a3⟩ := hf
            rw [a1, cl_some, if_neg (show ¬ (1 : Int32) = 0 by decide)]
            dsimp only
            obtain ⟨z1, z2⟩ := c_sign (N := N) a2.1 hT (show 93 < 2 ^ 31 by decide)
            by_cases q93 : sgO t q = some 93
            · obtain ⟨u3, o1, o2, o3⟩ := z1 q93
              rw [if_pos q93]
              exact ⟨u3, by rw [show (93 : Int32) = nI 93 from rfl, o1, cl_some, if_neg (show ¬ (1 : Int32) = 0 by decide)], a2.st o3 o2, (e3.tr a3).tr (fst_cw o3)⟩
            · rw [if_neg q93]
              exact ⟨_, by rw [show (93 : Int32) = nI 93 from rfl, z2 q93, cl_some, if_pos rfl], by rw [sI_s], (e3.tr a3).tr sI2_cw⟩
      · rw [if_neg (fun z => q91 (s91.mp z)), if_neg q91, if_pos (show (0 : Int32) = 0 from rfl)]
        have := c_cmp (x := x) (c := c) hT hc hN u L k p hs hp hl hk
        unfold hgX5_readFact_49
        rw [show zI u (x + 7 - 6) 10 = foI (wrO t p) from t10, show zI u (x + 7 - 6) 11 = foI (sgO t p) from t11, show (21 : Int32) = nI 21 from rfl, show (91 : Int32) = nI 91 from rfl, if_neg (fun z => q21 (w21.mp z)), if_neg (fun z => q91 (s91.mp z))]
        exact this
/-- a rule: its clauses -/
def cluS (t : Nat → Nat) (c k p : Nat) : Except Nat ((List Nat × Option (List Nat)) × Nat × Nat) := if wrO t p = some 17 then (if 12 ≤ c then .error (1 + 8 * p + 4) else match sumS t k (nx t p) with
  | .error e => .error e
  | .ok (cs, p', k') => if wrO t p' = some 18 then (match tesS t (facS t 12 0) k' (nx t p') with
    | .error e => .error e
    | .ok (ds, p'', k'') => .ok ((cs, some ds), p'', k'')) else .ok ((cs, none), p', k')) else .error (1 + 8 * p + 0)
def rulS (t : Nat → Nat) : Nat → Nat → Nat → Nat → Except Nat RT
  | 0, _, _, _ => .error 0
  | n + 1, c, k, p => match cluS t c k p with
    | .error e => .error e
    | .ok (cl, p', k') => if t p' = 256 then .ok [cl] else if sgO t p' = some 59 then (match rulS t n (c + 1) k' (nx t p') with
      | .error e => .error e
      | .ok R => .ok (cl :: R)) else .error (1 + 8 * p' + 0)
theorem cluS_ok (hT : TP t T) {c k p : Nat} (hp : p ≤ T) (hk : k ≤ 60) : (∀ cl p' k', cluS t c k p = .ok (cl, p', k') → c < 12 ∧ p < p' ∧ p' ≤ T ∧ (flCl cl).length + p ≤ p' + 1 ∧ cl.1.length + (cl.2.getD []).length + p ≤ p' ∧ clOK cl ∧ k ≤ k' ∧ k' ≤ 60) ∧ ∀ e, cluS t c k p = .error e → 1 ≤ e ∧ e ≤ 4000 := by
  have h4 := hT.1
  have ps := sumS_ok hT
  have pt := tesS_ok hT (facS_ok hT 12 0 (by omega) (by omega))
  unfold cluS
  by_cases q17 : wrO t p = some 17
  · rw [if_pos q17]
    by_cases q12 : 12 ≤ c
    · rw [if_pos q12]
      exact ⟨fun cl p' k' h => (by cases h), fun e h => by cases h; omega⟩
    · rw [if_neg q12]
      obtain ⟨n1, n2⟩ := nx_ok hT (wr_T hT q17)
      cases es : sumS t k (nx t p) with
      | error e =>
        refine ⟨fun cl p' k' h => (by cases h), fun e' h => ?_⟩
        cases h
        exact ps.2 _ _ _ n2 es
      | ok r =>
        obtain ⟨cs, q, k1⟩ := r
        obtain ⟨a1, a2, a3, a4, a5, a6⟩ := ps.1 k (nx t p) cs q k1 n2 es
        have k160 := a6 hk
        dsimp only
        by_cases q18 : wrO t q = some 18
        · rw [if_pos q18]
          obtain ⟨m1, m2⟩ := nx_ok hT (wr_T hT q18)
          cases et : tesS t (facS t 12 0) k1 (nx t q) with
          | error e =>
            refine ⟨fun cl p' k' h => (by cases h), fun e' h => ?_⟩
            cases h
            exact pt.2 _ _ _ m2 et
          | ok r2 =>
            obtain ⟨ds, q2, k2⟩ := r2
            obtain ⟨b1, b2, b3, b4, b5, b6⟩ := pt.1 k1 (nx t q) ds q2 k2 m2 et
            have k260 := b6 k160
            refine ⟨fun cl p' k' h => ?_, fun e h => (by cases h)⟩
            cases h
            refine ⟨by omega, by omega, b2, ?_, ?_, ⟨a4 [], by show vls cs ≤ 60; omega, fun t ht => ?_⟩, by omega, k260⟩
            · show (cs.map clS ++ (ds.map clS ++ [-34])).length + p ≤ q2 + 1
              simp
              omega
            · show cs.length + ds.length + p ≤ q2
              omega
            · cases ht
              exact ⟨b4 [], by show vls cs + vls ds ≤ 60; omega⟩
        · rw [if_neg q18]
          refine ⟨fun cl p' k' h => ?_, fun e h => (by cases h)⟩
          cases h
          refine ⟨by omega, by omega, a2, ?_, ?_, ⟨a4 [], by show vls cs ≤ 60; omega, fun t ht => (by cases ht)⟩, by omega, k160⟩
          · show (cs.map clS ++ [-33]).length + p ≤ q + 1
            simp
            omega
          · show cs.length + 0 + p ≤ q
            omega
  · rw [if_neg q17]
    exact ⟨fun cl p' k' h => (by cases h), fun e h => by cases h; omega⟩
theorem rulS_ok (hT : TP t T) : ∀ n c k p, c + n = 13 → 0 < n → p ≤ T → k ≤ 60 → (∀ R, rulS t n c k p = .ok R → c + R.length ≤ 12 ∧ (flRl R).length + p ≤ T + R.length ∧ ∀ cl ∈ R, clOK cl) ∧ ∀ e, rulS t n c k p = .error e → 1 ≤ e ∧ e ≤ 4000 := by
  have h4 := hT.1
  intro n
  induction n with
  | zero => intro c k p _ h; omega
  | succ n ih =>
    intro c k p hc _ hp hk
    obtain ⟨o1, o2⟩ := cluS_ok hT (c := c) hp hk
    rw [rulS]
    cases ec : cluS t c k p with
    | error e =>
      refine ⟨fun R h => (by cases h), fun e' h => ?_⟩
      cases h
      exact o2 e ec
    | ok r =>
      obtain ⟨cl, q, k1⟩ := r
      obtain ⟨a0, a1, a2, a3, a3', a4, a5, a6⟩ := o1 cl q k1 ec
      dsimp only
      by_cases q256 : t q = 256
      · rw [if_pos q256]
        refine ⟨fun R h => ?_, fun e h => (by cases h)⟩
        cases h
        refine ⟨by simp; omega, ?_, fun cl' h => ?_⟩
        · show (flCl cl ++ []).length + p ≤ T + 1
          simp
          omega
        · simp at h; subst h; exact a4
      · rw [if_neg q256]
        by_cases q59 : sgO t q = some 59
        · rw [if_pos q59]
          obtain ⟨m1, m2⟩ := nx_ok hT (sg_T hT q59)
          obtain ⟨i1, i2⟩ := ih (c + 1) k1 (nx t q) (by omega) (by omega) m2 a6
          cases er : rulS t n (c + 1) k1 (nx t q) with
          | error e =>
            refine ⟨fun R h => (by cases h), fun e' h => ?_⟩
            cases h
            exact i2 e er
          | ok R' =>
            obtain ⟨b1, b2, b3⟩ := i1 R' er
            refine ⟨fun R h => ?_, fun e h => (by cases h)⟩
            cases h
            refine ⟨by simp; omega, ?_, fun cl' h => ?_⟩
            · show (flCl cl ++ flRl R').length + p ≤ T + (R'.length + 1)
              simp
              omega
            · rcases List.mem_cons.mp h with h | h
              · subst h; exact a4
              · exact b3 cl' h
        · rw [if_neg q59]
          exact ⟨fun R h => (by cases h), fun e h => by cases h; omega⟩
theorem c_clu {L : List Int32} {k p : Nat} (hT : TP t T) (hs : CSt u x t T L k p) (hp : p ≤ T) (hc : c ≤ 12) (hl : L.length ≤ p + c) (hk : k ≤ 60) (hN : 2000 ≤ N) : (∀ e, cluS t c k p = .error e → ∃ u', hX5_readClause N (x + 7) (nI c) u = some (0, u') ∧ zI u' (x + 1) 2 = nI e ∧ Fz (Cw x) u u') ∧ ∀ cl p' k', cluS t c k p = .ok (cl, p', k') → ∃ u', hX5_readClause N (x + 7) (nI c) u = some (1, u') ∧ CSt u' x t T (L ++ flCl cl) k' p' ∧ Fz (Cw x) u u' := by
  have h4 := hT.1
  have bad : ∀ w, ∃ u', (cl (hX9_refuse N (x + 1) (nI w) u) fun r6 u7 => (if r6 = 0 ∨ r6 = 1 then some (r6, u7) else none)) = some (0, u') ∧ zI u' (x + 1) 2 = nI (1 + 8 * p + w) ∧ Fz (Cw x) u u' := fun w => c_bad (N := N) hs w
  have w17 := wr_eq (t := t) (p := p) (show 17 < 2 ^ 31 by decide)
  unfold hX5_readClause cluS
  rw [show x + 7 - 6 = x + 1 from rfl, hs.1.at.2.2.1, show (17 : Int32) = nI 17 from rfl, show (12 : Int32) = nI 12 from rfl, iflt (by omega) (by decide)]
  by_cases q17 : wrO t p = some 17
  · rw [if_pos (w17.mpr q17), if_pos q17]
    by_cases q12 : 12 ≤ c
    · rw [if_neg (show ¬ c < 12 by omega), if_pos q12]
      refine ⟨fun e h => ?_, fun cl p' k' h => (by cases h)⟩
      cases h
      exact bad 4
    · have hc11 : c ≤ 11 := by omega
      obtain ⟨n1, n2⟩ := nx_ok hT (wr_T hT q17)
      obtain ⟨u1, e1, e2, e3⟩ := c_stepR (N := N) hT hs
      have hf := c_sum (N := N) hT hc11 hN u1 L k (nx t p) e2 n2 (by omega) hk
      rw [if_pos (show c < 12 by omega), if_neg q12, e1, cl_some]
      cases es : sumS t k (nx t p) with
      | error e =>
        rw [es] at hf
        obtain ⟨u', a1, a2, a3⟩ := hf
        refine ⟨fun e' h => ?_, fun cl p' k' h => (by cases h)⟩
        cases h
        exact ⟨u', by rw [a1, cl_some, if_pos rfl], a2, e3.tr a3⟩
      | ok r =>
        obtain ⟨cs, q, k1⟩ := r
        rw [es] at hf
        obtain ⟨u2, a1, a2, a3⟩ := hf
        obtain ⟨b1, b2, b3, b4, b5, b6⟩ := (sumS_ok hT).1 k (nx t p) cs q k1 n2 es
        have w18 := wr_eq (t := t) (p := q) (show 18 < 2 ^ 31 by decide)
        rw [a1, cl_some, if_neg (by decide), a2.1.at.2.2.1, show (18 : Int32) = nI 18 from rfl]
        dsimp only
        by_cases q18 : wrO t q = some 18
        · obtain ⟨m1, m2⟩ := nx_ok hT (wr_T hT q18)
          obtain ⟨u3, d1, d2, d3⟩ := c_stepR (N := N) hT a2
          have pf := facS_ok hT 12 0 (by omega) (by omega)
          have hte := c_test (N := N) (x := x) (f := hF5 N 12) (d := nI 0) hT hc11 (c_fact hT hc11 hN 12 0 (by omega) (by omega)) pf hN
          have hg : cR x t T u3 (L ++ cs.map clS) (hX5_readTest N (x + 7) (0 : Int32) u3) (tesS t (facS t 12 0) k1 (nx t q)) := hte u3 (L ++ cs.map clS) k1 (nx t q) d2 m2 (by simp; omega) (b6 hk)
          have fz := (e3.tr a3).tr d3
          rw [if_pos (w18.mpr q18), if_pos q18, d1, cl_some]
          cases et : tesS t (facS t 12 0) k1 (nx t q) with
          | error e =>
            rw [et] at hg
            obtain ⟨u', g1, g2, g3⟩ := hg
            refine ⟨fun e' h => ?_, fun cl p' k' h => (by cases h)⟩
            cases h
            exact ⟨u', by rw [g1, cl_some, if_pos rfl], g2, fz.tr g3⟩
          | ok r2 =>
            obtain ⟨ds, q2, k2⟩ := r2
            rw [et] at hg
            obtain ⟨u4, g1, g2, g3⟩ := hg
            obtain ⟨y1, y2, y3, y4, y5, y6⟩ := (tesS_ok hT pf).1 k1 (nx t q) ds q2 k2 m2 et
            obtain ⟨u5, o1, o2, o3⟩ := c_emit (N := N) g2 (by simp; omega) (-34) (by decide)
            refine ⟨fun e h => (by cases h), fun cl p' k' h => ?_⟩
            cases h
            refine ⟨u5, by rw [g1, cl_some, if_neg (show ¬ (1 : Int32) = 0 by decide), o1, cl_some, if_neg (show ¬ (1 : Int32) = 0 by decide)], ?_, (fz.tr g3).tr o3⟩
            have : L ++ flCl (cs, some ds) = L ++ cs.map clS ++ ds.map clS ++ [-34] := by simp [flCl]
            rw [this]
            exact o2
        · rw [if_neg (fun z => q18 (w18.mp z)), if_neg q18]
          obtain ⟨u5, o1, o2, o3⟩ := c_emit (N := N) a2 (by simp; omega) (-33) (by decide)
          refine ⟨fun e h => (by cases h), fun cl p' k' h => ?_⟩
          cases h
          refine ⟨u5, by rw [o1, cl_some, if_pos (Or.inr rfl)], ?_, (e3.tr a3).tr o3⟩
          have : L ++ flCl (cs, none) = L ++ cs.map clS ++ [-33] := by simp [flCl]
          rw [this]
          exact o2
  · rw [if_neg (fun z => q17 (w17.mp z)), if_neg q17]
    refine ⟨fun e h => ?_, fun cl p' k' h => (by cases h)⟩
    cases h
    exact bad 0
theorem c_text (hT : TP t T) (hN : 2000 ≤ N) : ∀ n c k p f u L, c + n = 13 → 0 < n → n ≤ f → CSt u x t T L k p → p ≤ T → L.length ≤ p + c → k ≤ 60 → (∀ e, rulS t n c k p = .error e → ∃ u', hgX5_readText_19 N f (x + 7) (nI c) u = some (nI e, u') ∧ Fz (Cw x) u u') ∧ ∀ R, rulS t n c k p = .ok R → ∃ u' k' p', hgX5_readText_19 N f (x + 7) (nI c) u = some (0, u') ∧ CSt u' x t T (L ++ flRl R) k' p' ∧ Fz (Cw x) u u' := by
  have h4 := hT.1
  intro n
  induction n with
  | zero => intro c k p f u L _ h; omega
  | succ n ih =>
    intro c k p f u L hc _ hf hs hp hl hk
    obtain ⟨f, rfl⟩ : ∃ f', f = f' + 1 := ⟨f - 1, by omega⟩
    obtain ⟨o1, o2⟩ := c_clu (N := N) hT hs hp (by omega) hl hk hN
    obtain ⟨v1, v2⟩ := cluS_ok hT (c := c) hp hk
    rw [hgX5_readText_19, rulS, show x + 7 - 6 = x + 1 from rfl, show (12 : Int32) = nI 12 from rfl, if_neg (nI_nlt (by omega) (by decide))]
    cases ec : cluS t c k p with
    | error e =>
      obtain ⟨u', a1, a2, a3⟩ := o1 e ec
      refine ⟨fun e' h => ?_, fun R h => (by cases h)⟩
      cases h
      exact ⟨u', by rw [a1, cl_some, if_pos rfl, a2], a3⟩
    | ok r =>
      obtain ⟨cl', q, k1⟩ := r
      obtain ⟨u1, a1, a2, a3⟩ := o2 cl' q k1 ec
      obtain ⟨b0, b1, b2, b3, b3', b4, b5, b6⟩ := v1 cl' q k1 ec
      rw [a1, cl_some, if_neg (by decide), a2.1.at.1]
      dsimp only
      by_cases q256 : t q = 256
      · rw [if_pos ((tk_0 hT).mpr q256), if_pos q256]
        refine ⟨fun e h => (by cases h), fun R h => ?_⟩
        cases h
        exact ⟨u1, k1, q, rfl, by simpa [flRl] using a2, a3⟩
      · rw [if_neg (fun z => q256 ((tk_0 hT).mp z)), if_neg q256]
        obtain ⟨z1, z2⟩ := c_sign (N := N) a2.1 hT (show 59 < 2 ^ 31 by decide)
        rw [show (59 : Int32) = nI 59 from rfl]
        by_cases q59 : sgO t q = some 59
        · obtain ⟨u2, y1, y2, y3⟩ := z1 q59
          obtain ⟨m1, m2⟩ := nx_ok hT (sg_T hT q59)
          obtain ⟨i1, i2⟩ := ih (c + 1) k1 (nx t q) f u2 (L ++ flCl cl') (by omega) (by omega) (by omega) (a2.st y3 y2) m2 (by simp; omega) b6
          have fz := a3.tr (fst_cw y3)
          rw [if_pos q59, y1, cl_some, if_neg (by decide), lit_1, nI_add]
          cases er : rulS t n (c + 1) k1 (nx t q) with
          | error e =>
            obtain ⟨u', w1, w2⟩ := i1 e er
            refine ⟨fun e' h => ?_, fun R h => (by cases h)⟩
            cases h
            exact ⟨u', w1, fz.tr w2⟩
          | ok R' =>
            obtain ⟨u', k', p', w1, w2, w3⟩ := i2 R' er
            refine ⟨fun e h => (by cases h), fun R h => ?_⟩
            cases h
            exact ⟨u', k', p', w1, by simpa [flRl] using w2, fz.tr w3⟩
        · rw [if_neg q59, z2 q59, cl_some, if_pos rfl]
          refine ⟨fun e h => ?_, fun R h => (by cases h)⟩
          cases h
          exact ⟨_, by rw [sI_s], a3.tr sI2_cw⟩
end RULD
