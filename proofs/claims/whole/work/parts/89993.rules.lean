/-! RULE: the reference's levels -/
section RULS
variable {N m T τ : Nat} {u : SG} {t : Nat → Nat}
theorem rj_it (hT : TP t T) (hτ : τ < 6) {b : Bool} {op : Nat → Option Nat} {F : Nat → Nat → PRs} {f : SG → Option (Int32 × SG)} (hF : RJ m t T τ F f) (pf : PF T b F) (ho : OPt T b op) {g : Nat → SG → Option (Int32 × SG)} (h0 : ∀ n u L k p, RSt u m t T τ L k p → op p = none → ∃ u', g (n + 1) u = some (1, u') ∧ RSt u' m t T τ L k p ∧ Fz (FR m τ) u u') (h1 : ∀ n u L k p s, RSt u m t T τ L k p → op p = some s → ∃ u1, RSt u1 m t T τ L k (nx t p) ∧ Fz (FR m τ) u u1 ∧ g (n + 1) u = cl (f u1) fun r u2 => (if r = 0 then some (0, u2) else cl (hX11_puts N m (nI s) (nI 0) u2) fun _ u3 => g n u3)) : ∀ n n' u L k p, T - p < n → n ≤ n' → RSt u m t T τ L k p → p ≤ T → L.length ≤ p → k ≤ 60 → rR m t T τ u L (g n' u) (itL t op F n k p) := by
  have h4 := hT.1
  intro n
  induction n with
  | zero => intro n' u L k p h; omega
  | succ n ih =>
    intro n' u L k p hn hn' hs hp hl hk
    obtain ⟨n', rfl⟩ : ∃ m, n' = m + 1 := ⟨n' - 1, by omega⟩
    rw [itL]
    cases eo : op p with
    | none =>
      obtain ⟨u', a1, a2, a3⟩ := h0 n' u L k p hs eo
      exact ⟨u', a1, by simpa using a2, a3⟩
    | some s =>
      obtain ⟨p1, p2, p3⟩ := ho p s eo
      obtain ⟨n1, n2⟩ := nx_ok hT p1
      obtain ⟨u1, s1, f1, e1⟩ := h1 n' u L k p s hs eo
      dsimp only
      rw [e1]
      have hf := hF u1 L k (nx t p) s1 n2 (by omega) hk
      cases ef : F k (nx t p) with
      | error e =>
        rw [ef] at hf
        obtain ⟨u', a1, a2, a3⟩ := hf
        exact ⟨u', by rw [a1, cl_some, if_pos rfl], a2, f1.tr a3⟩
      | ok r =>
        obtain ⟨cs, q, k1⟩ := r
        rw [ef] at hf
        obtain ⟨u2, a1, a2, a3⟩ := hf
        obtain ⟨b1, b2, b3, b4, b5, b6⟩ := pf.1 k (nx t p) cs q k1 n2 ef
        have ll : (L ++ cs).length < 400 := by rw [List.length_append]; omega
        obtain ⟨u3, d1, d2, d3⟩ := r_puts (N := N) (s := s) (v := 0) a2 hτ ll
        have := ih n' u3 (L ++ cs ++ [s + 16 * 0]) k1 q (by omega) (by omega) d2 b2 (by simp; omega) (b6 hk)
        rw [a1, cl_some, if_neg (by decide), d1, cl_some]
        dsimp only
        have fz := (f1.tr a3).tr (fp_R ll d3)
        match itL t op F n k1 q, this with
        | .error e, ⟨w, w1, w2, w3⟩ => exact ⟨w, w1, w2, fz.tr w3⟩
        | .ok (ds, q2, k2), ⟨w, w1, w2, w3⟩ => exact ⟨w, w1, by simpa using w2, fz.tr w3⟩
theorem rj_lev (hT : TP t T) (hτ : τ < 6) {b : Bool} {op : Nat → Option Nat} {F : Nat → Nat → PRs} {f f' : SG → Option (Int32 × SG)} (hF : RJ m t T τ F f) (pf : PF T b F) (ho : OPt T b op) {g : Nat → SG → Option (Int32 × SG)} (h0 : ∀ n u L k p, RSt u m t T τ L k p → op p = none → ∃ u', g (n + 1) u = some (1, u') ∧ RSt u' m t T τ L k p ∧ Fz (FR m τ) u u') (h1 : ∀ n u L k p s, RSt u m t T τ L k p → op p = some s → ∃ u1, RSt u1 m t T τ L k (nx t p) ∧ Fz (FR m τ) u u1 ∧ g (n + 1) u = cl (f u1) fun r u2 => (if r = 0 then some (0, u2) else cl (hX11_puts N m (nI s) (nI 0) u2) fun _ u3 => g n u3)) (hf' : ∀ u, f' u = cl (f u) fun r u2 => (if r = 0 then some (0, u2) else g N u2)) (hN : 2000 ≤ N) : RJ m t T τ (lev t op F) f' := by
  have h4 := hT.1
  intro u L k p hs hp hl hk
  rw [hf']
  have hf := hF u L k p hs hp hl hk
  unfold lev
  cases ef : F k p with
  | error e =>
    rw [ef] at hf
    obtain ⟨u', a1, a2, a3⟩ := hf
    exact ⟨u', by rw [a1, cl_some, if_pos rfl], a2, a3⟩
  | ok r =>
    obtain ⟨cs, q, k1⟩ := r
    rw [ef] at hf
    obtain ⟨u2, a1, a2, a3⟩ := hf
    obtain ⟨b1, b2, b3, b4, b5, b6⟩ := pf.1 k p cs q k1 hp ef
    have := rj_it (N := N) hT hτ hF pf ho h0 h1 401 N u2 (L ++ cs) k1 q (by omega) (by omega) a2 b2 (by simp; omega) (b6 hk)
    rw [a1, cl_some, if_neg (by decide)]
    dsimp only
    match itL t op F 401 k1 q, this with
    | .error e, ⟨w, w1, w2, w3⟩ => exact ⟨w, w1, w2, a3.tr w3⟩
    | .ok (ds, q2, k2), ⟨w, w1, w2, w3⟩ => exact ⟨w, w1, by simpa using w2, a3.tr w3⟩
/-- the sign that stands at p -/
theorem sg_42 (hT : TP t T) (p : Nat) : (sgO t p = some 42 ↔ t p = 42) ∧ (t p = 42 → tE t p = p + 1) := sg_c (p := p) hT (show 42 < 256 by decide) rfl rfl (by decide) (by decide)
theorem sg_47 (hT : TP t T) (p : Nat) : (sgO t p = some 47 ↔ t p = 47) ∧ (t p = 47 → tE t p = p + 1) := sg_c (p := p) hT (show 47 < 256 by decide) rfl rfl (by decide) (by decide)
theorem sg_37 (hT : TP t T) (p : Nat) : (sgO t p = some 37 ↔ t p = 37) ∧ (t p = 37 → tE t p = p + 1) := sg_c (p := p) hT (show 37 < 256 by decide) rfl rfl (by decide) (by decide)
theorem sg_43 (hT : TP t T) (p : Nat) : (sgO t p = some 43 ↔ t p = 43) ∧ (t p = 43 → tE t p = p + 1) := sg_c (p := p) hT (show 43 < 256 by decide) rfl rfl (by decide) (by decide)
theorem sg_45 (hT : TP t T) (p : Nat) : (sgO t p = some 45 ↔ t p = 45) ∧ (t p = 45 → tE t p = p + 1) := sg_c (p := p) hT (show 45 < 256 by decide) rfl rfl (by decide) (by decide)
theorem r_term (hT : TP t T) (hτ : τ < 6) (hN : 2000 ≤ N) : RJ m t T τ (terS t) (hX11_term N m) := by
  have h4 := hT.1
  have b42 := fun p => btI_eq (b := t p) (c := 42) (t_le hT p) (by decide)
  have b47 := fun p => btI_eq (b := t p) (c := 47) (t_le hT p) (by decide)
  have b37 := fun p => btI_eq (b := t p) (c := 37) (t_le hT p) (by decide)
  refine rj_lev (N := N) (f := hX11_value N m) (g := fun n u => hgX11_term_9 N n m u) hT hτ (r_value hT hτ hN) (valS_ok hT) (opF_ok hT) ?_ ?_ (fun u => rfl) hN
  · intro n u L k p hs ho
    obtain ⟨u1, a1, a2, a3, a4⟩ := r_seeR (N := N) hs hT hN
    obtain ⟨u2, c1, c2, c3, c4⟩ := r_seeR (N := N) a3 hT hN
    obtain ⟨u3, d1, d2, d3, d4⟩ := r_seeR (N := N) c3 hT hN
    unfold opF at ho
    have q1 : ¬ t p = 42 := fun z => by rw [if_pos ((sg_42 hT p).1.mpr z)] at ho; cases ho
    rw [if_neg (fun z => q1 ((sg_42 hT p).1.mp z))] at ho
    have q2 : ¬ t p = 47 := fun z => by rw [if_pos ((sg_47 hT p).1.mpr z)] at ho; cases ho
    rw [if_neg (fun z => q2 ((sg_47 hT p).1.mp z))] at ho
    have q3 : ¬ t p = 37 := fun z => by rw [if_pos ((sg_37 hT p).1.mpr z)] at ho; cases ho
    refine ⟨u3, ?_, d3, f8_R ((a4.tr c4).tr d4)⟩
    show hgX11_term_9 N (n + 1) m u = _
    rw [hgX11_term_9, a1, cl_some, show (42 : Int32) = nI 42 from rfl, if_neg (fun z => q1 ((b42 p).mp z)), c1, cl_some, show (47 : Int32) = nI 47 from rfl, if_neg (fun z => q2 ((b47 p).mp z)), d1, cl_some, show (37 : Int32) = nI 37 from rfl, if_neg (fun z => q3 ((b37 p).mp z))]
  · intro n u L k p s hs ho
    obtain ⟨u1, a1, a2, a3, a4⟩ := r_seeR (N := N) hs hT hN
    obtain ⟨u2, c1, c2, c3, c4⟩ := r_seeR (N := N) a3 hT hN
    obtain ⟨u3, d1, d2, d3, d4⟩ := r_seeR (N := N) c3 hT hN
    have lt := (opF_ok hT p s ho).1
    have tb := hT.2.1 p lt
    have key : ∀ v, RX v m t T p → RSt v m t T τ L k p → Fz (F8 m) u v → ∃ u1, RSt u1 m t T τ L k (nx t p) ∧ Fz (FR m τ) u u1 ∧ hgX11_term_36 N (hgX11_term_9 N n) m v = cl (hX11_value N m u1) fun r u2 => (if r = 0 then some (0, u2) else cl (hX11_puts N m (nI s) (nI 0) u2) fun _ u3 => hgX11_term_9 N n m u3) := by
      intro v x r f
      obtain ⟨o1, o2, o3⟩ := r_on r x lt
      refine ⟨_, ?_, f8_R (f.tr o3), ?_⟩
      · unfold opF at ho
        have e1 : tE t p = p + 1 := by
          split at ho
          · next z => exact (sg_42 hT p).2 ((sg_42 hT p).1.mp z)
          · split at ho
            · next z => exact (sg_47 hT p).2 ((sg_47 hT p).1.mp z)
            · split at ho
              · next z => exact (sg_37 hT p).2 ((sg_37 hT p).1.mp z)
              · cases ho
        unfold nx
        rw [e1]
        exact o1
      · unfold hgX11_term_36 hgX11_term_74
        rw [x.2.2.1, ixI (by omega) (by decide), ixI (by omega) (by decide), nI_clamp (by omega), x.2.1 p lt, bs_eq, bs_eq, bs_eq, show nI p + (1 : Int32) = nI (p + 1) by rw [lit_1, nI_add]]
        unfold opF at ho
        by_cases z1 : t p = 42
        · rw [if_pos ((sg_42 hT p).1.mpr z1)] at ho; cases ho
          rw [if_pos (by rw [z1]; decide)]; rfl
        · rw [if_neg (fun z => z1 ((sg_42 hT p).1.mp z))] at ho
          have n1 : ¬ byI (t p) = 42 := by
            have : ∀ n, n < 256 → (byI n = 42 → n = 42) := by decide +kernel
            exact fun z => z1 (this _ tb z)
          rw [if_neg n1]
          by_cases z2 : t p = 47
          · rw [if_pos ((sg_47 hT p).1.mpr z2)] at ho; cases ho
            rw [if_pos (by rw [z2]; decide)]; rfl
          · rw [if_neg (fun z => z2 ((sg_47 hT p).1.mp z))] at ho
            have n2 : ¬ byI (t p) = 47 := by
              have : ∀ n, n < 256 → (byI n = 47 → n = 47) := by decide +kernel
              exact fun z => z2 (this _ tb z)
            rw [if_neg n2]
            split at ho
            · cases ho; rfl
            · cases ho
    by_cases z1 : t p = 42
    · obtain ⟨w, w1, w2, w3⟩ := key u1 a2 a3 a4
      refine ⟨w, w1, w2, ?_⟩
      show hgX11_term_9 N (n + 1) m u = _
      rw [hgX11_term_9, a1, cl_some, show (42 : Int32) = nI 42 from rfl, if_pos ((b42 p).mpr z1), w3]
    · by_cases z2 : t p = 47
      · obtain ⟨w, w1, w2, w3⟩ := key u2 c2 c3 (a4.tr c4)
        refine ⟨w, w1, w2, ?_⟩
        show hgX11_term_9 N (n + 1) m u = _
        rw [hgX11_term_9, a1, cl_some, show (42 : Int32) = nI 42 from rfl, if_neg (fun z => z1 ((b42 p).mp z)), c1, cl_some, show (47 : Int32) = nI 47 from rfl, if_pos ((b47 p).mpr z2), w3]
      · have z3 : t p = 37 := by
          unfold opF at ho
          rw [if_neg (fun z => z1 ((sg_42 hT p).1.mp z)), if_neg (fun z => z2 ((sg_47 hT p).1.mp z))] at ho
          split at ho
          · next z => exact (sg_37 hT p).1.mp z
          · cases ho
        obtain ⟨w, w1, w2, w3⟩ := key u3 d2 d3 ((a4.tr c4).tr d4)
        refine ⟨w, w1, w2, ?_⟩
        show hgX11_term_9 N (n + 1) m u = _
        rw [hgX11_term_9, a1, cl_some, show (42 : Int32) = nI 42 from rfl, if_neg (fun z => z1 ((b42 p).mp z)), c1, cl_some, show (47 : Int32) = nI 47 from rfl, if_neg (fun z => z2 ((b47 p).mp z)), d1, cl_some, show (37 : Int32) = nI 37 from rfl, if_pos ((b37 p).mpr z3), w3]
theorem r_sum (hT : TP t T) (hτ : τ < 6) (hN : 2000 ≤ N) : RJ m t T τ (sumS t) (hX11_sum N m) := by
  have h4 := hT.1
  have b43 := fun p => btI_eq (b := t p) (c := 43) (t_le hT p) (by decide)
  have b45 := fun p => btI_eq (b := t p) (c := 45) (t_le hT p) (by decide)
  refine rj_lev (N := N) (f := hX11_term N m) (g := fun n u => hgX11_sum_9 N n m u) hT hτ (r_term hT hτ hN) (terS_ok hT) (opA_ok hT) ?_ ?_ (fun u => rfl) hN
  · intro n u L k p hs ho
    obtain ⟨u1, a1, a2, a3, a4⟩ := r_seeR (N := N) hs hT hN
    obtain ⟨u2, c1, c2, c3, c4⟩ := r_seeR (N := N) a3 hT hN
    unfold opA at ho
    have q1 : ¬ t p = 43 := fun z => by rw [if_pos ((sg_43 hT p).1.mpr z)] at ho; cases ho
    rw [if_neg (fun z => q1 ((sg_43 hT p).1.mp z))] at ho
    have q2 : ¬ t p = 45 := fun z => by rw [if_pos ((sg_45 hT p).1.mpr z)] at ho; cases ho
    refine ⟨u2, ?_, c3, f8_R (a4.tr c4)⟩
    show hgX11_sum_9 N (n + 1) m u = _
    rw [hgX11_sum_9, a1, cl_some, show (43 : Int32) = nI 43 from rfl, if_neg (fun z => q1 ((b43 p).mp z)), c1, cl_some, show (45 : Int32) = nI 45 from rfl, if_neg (fun z => q2 ((b45 p).mp z))]
  · intro n u L k p s hs ho
    obtain ⟨u1, a1, a2, a3, a4⟩ := r_seeR (N := N) hs hT hN
    obtain ⟨u2, c1, c2, c3, c4⟩ := r_seeR (N := N) a3 hT hN
    have lt := (opA_ok hT p s ho).1
    have tb := hT.2.1 p lt
    have key : ∀ v, RX v m t T p → RSt v m t T τ L k p → Fz (F8 m) u v → ∃ u1, RSt u1 m t T τ L k (nx t p) ∧ Fz (FR m τ) u u1 ∧ hgX11_sum_27 N (hgX11_sum_9 N n) m v = cl (hX11_term N m u1) fun r u2 => (if r = 0 then some (0, u2) else cl (hX11_puts N m (nI s) (nI 0) u2) fun _ u3 => hgX11_sum_9 N n m u3) := by
      intro v x r f
      obtain ⟨o1, o2, o3⟩ := r_on r x lt
      refine ⟨_, ?_, f8_R (f.tr o3), ?_⟩
      · unfold opA at ho
        have e1 : tE t p = p + 1 := by
          split at ho
          · next z => exact (sg_43 hT p).2 ((sg_43 hT p).1.mp z)
          · split at ho
            · next z => exact (sg_45 hT p).2 ((sg_45 hT p).1.mp z)
            · cases ho
        unfold nx
        rw [e1]
        exact o1
      · unfold hgX11_sum_27 hgX11_sum_46
        rw [x.2.2.1, ixI (by omega) (by decide), nI_clamp (by omega), x.2.1 p lt, bs_eq, bs_eq, show nI p + (1 : Int32) = nI (p + 1) by rw [lit_1, nI_add]]
        unfold opA at ho
        by_cases z1 : t p = 43
        · rw [if_pos ((sg_43 hT p).1.mpr z1)] at ho; cases ho
          rw [if_pos (by rw [z1]; decide)]; rfl
        · rw [if_neg (fun z => z1 ((sg_43 hT p).1.mp z))] at ho
          have n1 : ¬ byI (t p) = 43 := by
            have : ∀ n, n < 256 → (byI n = 43 → n = 43) := by decide +kernel
            exact fun z => z1 (this _ tb z)
          rw [if_neg n1]
          split at ho
          · cases ho; rfl
          · cases ho
    by_cases z1 : t p = 43
    · obtain ⟨w, w1, w2, w3⟩ := key u1 a2 a3 a4
      refine ⟨w, w1, w2, ?_⟩
      show hgX11_sum_9 N (n + 1) m u = _
      rw [hgX11_sum_9, a1, cl_some, show (43 : Int32) = nI 43 from rfl, if_pos ((b43 p).mpr z1), w3]
    · have z2 : t p = 45 := by
        unfold opA at ho
        rw [if_neg (fun z => z1 ((sg_43 hT p).1.mp z))] at ho
        split at ho
        · next z => exact (sg_45 hT p).1.mp z
        · cases ho
      obtain ⟨w, w1, w2, w3⟩ := key u2 c2 c3 (a4.tr c4)
      refine ⟨w, w1, w2, ?_⟩
      show hgX11_sum_9 N (n + 1) m u = _
      rw [hgX11_sum_9, a1, cl_some, show (43 : Int32) = nI 43 from rfl, if_neg (fun z => z1 ((b43 p).mp z)), c1, cl_some, show (45 : Int32) = nI 45 from rfl, if_pos ((b45 p).mpr z2), w3]
/-- a sign of comparison -/
theorem cm_at (hT : TP t T) (p : Nat) : (¬ t p = 60 ∧ ¬ t p = 61 ∧ ¬ t p = 62 ∧ cmO t p = none) ∨ (t p = 60 ∧ cmO t p = some (if two t p then 7 else 6) ∧ tE t p = if two t p then p + 2 else p + 1) ∨ (t p = 61 ∧ cmO t p = some 8 ∧ tE t p = p + 1) ∨ (t p = 62 ∧ cmO t p = some (if two t p then 9 else 10) ∧ tE t p = if two t p then p + 2 else p + 1) := by
  have tb := t_le hT p
  by_cases q60 : t p = 60
  · refine Or.inr (Or.inl ⟨q60, ?_, ?_⟩)
    · have : sgO t p = some (if two t p then 316 else 60) := by unfold sgO; rw [q60]; simp [isD, isS]
      unfold cmO
      rw [this]
      cases two t p <;> rfl
    · unfold tE; rw [q60]; simp [isD, isS]
  by_cases q61 : t p = 61
  · obtain ⟨s1, s2⟩ := sg_c (p := p) hT (show 61 < 256 by decide) rfl rfl (by decide) (by decide)
    refine Or.inr (Or.inr (Or.inl ⟨q61, ?_, s2 q61⟩))
    unfold cmO
    rw [s1.mpr q61]
    rfl
  by_cases q62 : t p = 62
  · refine Or.inr (Or.inr (Or.inr ⟨q62, ?_, ?_⟩))
    · have : sgO t p = some (if two t p then 318 else 62) := by unfold sgO; rw [q62]; simp [isD, isS]
      unfold cmO
      rw [this]
      cases two t p <;> rfl
    · unfold tE; rw [q62]; simp [isD, isS]
  · refine Or.inl ⟨q60, q61, q62, ?_⟩
    have e2 : two t p = false := by unfold two; rw [show (t p == 60) = false by simpa using q60, show (t p == 62) = false by simpa using q62]; rfl
    have : ∀ c, c = 60 ∨ c = 61 ∨ c = 62 ∨ c = 316 ∨ c = 318 → ¬ sgO t p = some c := by
      intro c hc h
      unfold sgO at h
      rw [e2] at h
      split at h
      · cases h
      · have h := Option.some.inj h
        rw [if_neg (by decide)] at h
        omega
    unfold cmO
    rw [if_neg (this 60 (by omega)), if_neg (this 316 (by omega)), if_neg (this 61 (by omega)), if_neg (this 318 (by omega)), if_neg (this 62 (by omega))]
theorem r_cmp (hT : TP t T) (hτ : τ < 6) (hN : 2000 ≤ N) : RJ m t T τ (cmpS t) (hX11_compare N m) := by
  have h4 := hT.1
  intro u L k p hs hp hl hk
  have hsum := r_sum (m := m) (τ := τ) hT hτ hN
  have pf := sumS_ok hT
  have hf := hsum u L k p hs hp hl hk
  unfold hX11_compare cmpS
  cases ef : sumS t k p with
  | error e =>
    rw [ef] at hf
    obtain ⟨u', a1, a2, a3⟩ := hf
    exact ⟨u', by rw [a1, cl_some, if_pos rfl], a2, a3⟩
  | ok r =>
    obtain ⟨cs, q, k1⟩ := r
    rw [ef] at hf
    obtain ⟨u2, a1, a2, a3⟩ := hf
    obtain ⟨b1, b2, b3, b4, b5, b6⟩ := pf.1 k p cs q k1 hp ef
    have k60 := b6 hk
    obtain ⟨u3, s1, s2, s3, s4⟩ := r_seeR (N := N) a2 hT hN
    have fz3 := a3.tr (f8_R (τ := τ) s4)
    have tb := t_le hT q
    rw [a1, cl_some, if_neg (by decide), s1, cl_some, bs_eq, s2.2.2.1, show (60 : Int32) = nI 60 from rfl, show (61 : Int32) = nI 61 from rfl, show (62 : Int32) = nI 62 from rfl]
    dsimp only
    have b60 := btI_eq (b := t q) (c := 60) tb (by decide)
    have b61 := btI_eq (b := t q) (c := 61) tb (by decide)
    have b62 := btI_eq (b := t q) (c := 62) tb (by decide)
    -- behind the sign
    have tail : ∀ (v : SG) (s : Nat) (al : Bool), RSt v m t T τ (L ++ cs) k1 (nx t q) → Fz (FR m τ) u v → q < T → cmO t q = some s → (t q = 60 ∧ s = (if al then 7 else 6) ∨ t q = 61 ∧ s = 8 ∧ al = false ∨ t q = 62 ∧ s = (if al then 9 else 10)) → rR m t T τ u L (hgX11_compare_105 N m (btI (t q)) (nI q) (nI (b2n al)) v) (if 60 ≤ k1 then .error (1 + 8 * q + 3) else match sumS t (k1 + 1) (nx t q) with
      | .error e => .error e
      | .ok (ds, p'', k'') => .ok (cs ++ (ds ++ [s]), p'', k'')) := by
      intro v s al rv fv lt ec hsel
      obtain ⟨n1, n2⟩ := nx_ok hT lt
      obtain ⟨m1, m2⟩ := r_makes (N := N) (p := q) rv k60
      unfold hgX11_compare_105
      by_cases q60 : 60 ≤ k1
      · rw [if_pos q60]
        obtain ⟨w, w1, w2, w3⟩ := m1 q60
        exact ⟨w, by rw [w1, cl_some, if_pos rfl], w2, fv.tr w3⟩
      · rw [if_neg q60]
        obtain ⟨w1, w2, w3⟩ := m2 (by omega)
        have hg := hsum _ (L ++ cs) (k1 + 1) (nx t q) w2 n2 (by simp; omega) (by omega)
        have e152 : ∀ s0 : Nat, 6 + s0 = s → rR m t T τ u L (hgX11_compare_152 N m (nI s0) (sI v m 12 (nI (k1 + 1)))) (match sumS t (k1 + 1) (nx t q) with
          | .error e => .error e
          | .ok (ds, p'', k'') => .ok (cs ++ (ds ++ [s]), p'', k'')) := by
          intro s0 es
          unfold hgX11_compare_152
          cases eg : sumS t (k1 + 1) (nx t q) with
          | error e =>
            rw [eg] at hg
            obtain ⟨u', g1, g2, g3⟩ := hg
            exact ⟨u', by rw [g1, cl_some, if_pos rfl], g2, (fv.tr w3).tr g3⟩
          | ok r2 =>
            obtain ⟨ds, q2, k2⟩ := r2
            rw [eg] at hg
            obtain ⟨u4, g1, g2, g3⟩ := hg
            obtain ⟨y1, y2, y3, y4, y5, y6⟩ := pf.1 (k1 + 1) (nx t q) ds q2 k2 n2 eg
            have ll : (L ++ cs ++ ds).length < 400 := by simp; omega
            obtain ⟨u5, o1, o2, o3⟩ := r_puts (N := N) (s := 6 + s0) (v := 0) g2 hτ ll
            refine ⟨u5, ?_, ?_, ((fv.tr w3).tr g3).tr (fp_R ll o3)⟩
            · rw [g1, cl_some, if_neg (by decide), lit_6, nI_add, show (0 : Int32) = nI 0 from rfl, o1, cl_some]
            · rw [es] at o2
              simpa using o2
        rw [w1, cl_some, if_neg (by decide), show (60 : Int32) = nI 60 from rfl, show (61 : Int32) = nI 61 from rfl]
        rcases hsel with ⟨z, es⟩ | ⟨z, es, ea⟩ | ⟨z, es⟩
        · rw [if_pos (b60.mpr z)]
          cases al with
          | false => rw [if_pos (show nI (b2n false) = 0 from rfl)]; exact e152 0 (by rw [es]; rfl)
          | true => rw [if_neg (show ¬ nI (b2n true) = 0 by decide)]; exact e152 1 (by rw [es]; rfl)
        · rw [if_neg (fun y => by have := b60.mp y; omega), if_pos (b61.mpr z)]
          exact e152 2 (by rw [es])
        · rw [if_neg (fun y => by have := b60.mp y; omega), if_neg (fun y => by have := b61.mp y; omega)]
          cases al with
          | false => rw [if_pos (show nI (b2n false) = 0 from rfl)]; exact e152 4 (by rw [es]; rfl)
          | true => rw [if_neg (show ¬ nI (b2n true) = 0 by decide)]; exact e152 3 (by rw [es]; rfl)
    -- the sign passed
    have e44 : ∀ s, cmO t q = some s → q < T → (t q = 60 ∨ t q = 61 ∨ t q = 62) → rR m t T τ u L (hgX11_compare_44 N m (btI (t q)) (nI q) u3) (if 60 ≤ k1 then .error (1 + 8 * q + 3) else match sumS t (k1 + 1) (nx t q) with
      | .error e => .error e
      | .ok (ds, p'', k'') => .ok (cs ++ (ds ++ [s]), p'', k'')) := by
      intro s ec lt hq
      obtain ⟨o1, o2, o3⟩ := r_on s3 s2 lt
      have f3 := fz3.tr (f8_R (τ := τ) o3)
      unfold hgX11_compare_44 hgX11_compare_89 hgX11_compare_90
      rw [s2.2.2.1, bs_eq, show nI q + (1 : Int32) = nI (q + 1) by rw [lit_1, nI_add], o2.1, o2.2.2.1, ifle (by omega) (by omega), show (61 : Int32) = nI 61 from rfl, if_pos (show (0 : Int32) = 0 from rfl), if_neg (show ¬ (1 : Int32) = 0 by decide), bs_eq]
      rcases cm_at hT q with ⟨z1, z2, z3, -⟩ | ⟨z, ec', eE⟩ | ⟨z, ec', eE⟩ | ⟨z, ec', eE⟩
      · omega
      all_goals (rw [ec] at ec'; have es := Option.some.inj ec')
      · rw [if_neg (fun y => by have := b61.mp y; omega)]
        by_cases q61 : t (q + 1) = 61
        · have e2 : two t q = true := by unfold two; rw [z, q61]; rfl
          have lt2 := t_lt hT (p := q + 1) (by omega)
          rw [if_neg (by omega), ixI (by omega) (by decide), nI_clamp (by omega), o2.2.1 (q + 1) lt2, q61, if_pos (by decide), show nI (q + 1) + (1 : Int32) = nI (q + 2) by rw [lit_1, nI_add]]
          obtain ⟨v1, v2, v3⟩ := r_on o1 o2 lt2
          rw [e2, if_pos rfl] at eE es
          have : sk t (q + 1 + 1) = nx t q := by unfold nx; rw [eE]
          rw [this] at v1
          exact tail _ s true v1 (f3.tr (f8_R v3)) lt ec (Or.inl ⟨z, es⟩)
        · have e2 : two t q = false := by unfold two; rw [show (t (q + 1) == 61) = false by simpa using q61, Bool.and_false]
          rw [e2, if_neg (by decide)] at eE es
          have : sk t (q + 1) = nx t q := by unfold nx; rw [eE]
          rw [this] at o1
          have fin := tail _ s false o1 f3 lt ec (Or.inl ⟨z, es⟩)
          by_cases qT : T ≤ q + 1
          · rw [if_pos qT]; exact fin
          · rw [if_neg qT, ixI (by omega) (by decide), nI_clamp (by omega), o2.2.1 (q + 1) (by omega), if_neg (by
              have : ∀ n, n < 256 → (byI n = nI 61 → n = 61) := by decide +kernel
              exact fun y => q61 (this _ (hT.2.1 _ (by omega)) y))]
            exact fin
      · rw [if_pos (b61.mpr z)]
        have : sk t (q + 1) = nx t q := by unfold nx; rw [eE]
        rw [this] at o1
        exact tail _ s false o1 f3 lt ec (Or.inr (Or.inl ⟨z, es, rfl⟩))
      · rw [if_neg (fun y => by have := b61.mp y; omega)]
        by_cases q61 : t (q + 1) = 61
        · have e2 : two t q = true := by unfold two; rw [z, q61]; rfl
          have lt2 := t_lt hT (p := q + 1) (by omega)
          rw [if_neg (by omega), ixI (by omega) (by decide), nI_clamp (by omega), o2.2.1 (q + 1) lt2, q61, if_pos (by decide), show nI (q + 1) + (1 : Int32) = nI (q + 2) by rw [lit_1, nI_add]]
          obtain ⟨v1, v2, v3⟩ := r_on o1 o2 lt2
          rw [e2, if_pos rfl] at eE es
          have : sk t (q + 1 + 1) = nx t q := by unfold nx; rw [eE]
          rw [this] at v1
          exact tail _ s true v1 (f3.tr (f8_R v3)) lt ec (Or.inr (Or.inr ⟨z, es⟩))
        · have e2 : two t q = false := by unfold two; rw [show (t (q + 1) == 61) = false by simpa using q61, Bool.and_false]
          rw [e2, if_neg (by decide)] at eE es
          have : sk t (q + 1) = nx t q := by unfold nx; rw [eE]
          rw [this] at o1
          have fin := tail _ s false o1 f3 lt ec (Or.inr (Or.inr ⟨z, es⟩))
          by_cases qT : T ≤ q + 1
          · rw [if_pos qT]; exact fin
          · rw [if_neg qT, ixI (by omega) (by decide), nI_clamp (by omega), o2.2.1 (q + 1) (by omega), if_neg (by
              have : ∀ n, n < 256 → (byI n = nI 61 → n = 61) := by decide +kernel
              exact fun y => q61 (this _ (hT.2.1 _ (by omega)) y))]
            exact fin
    cases ec : cmO t q with
    | none =>
      rcases cm_at hT q with ⟨z1, z2, z3, -⟩ | ⟨z, ec', eE⟩ | ⟨z, ec', eE⟩ | ⟨z, ec', eE⟩
      · rw [if_neg (fun y => z1 (b60.mp y)), if_neg (fun y => z2 (b61.mp y)), if_neg (fun y => z3 (b62.mp y))]
        obtain ⟨w, w1, w2, w3⟩ := r_badR (N := N) (t := t) (T := T) (τ := τ) (L := L) s3.2.1 0 q
        exact ⟨w, w1, w2, fz3.tr w3⟩
      all_goals (rw [ec] at ec'; cases ec')
    | some s =>
      have lt := (cmO_ok hT ec).1
      rcases cm_at hT q with ⟨z1, z2, z3, ec'⟩ | ⟨z, -, -⟩ | ⟨z, -, -⟩ | ⟨z, -, -⟩
      · rw [ec] at ec'; cases ec'
      · rw [if_pos (b60.mpr z)]
        exact e44 s ec lt (Or.inl z)
      · rw [if_neg (fun y => by have := b60.mp y; omega), if_pos (b61.mpr z)]
        exact e44 s ec lt (Or.inr (Or.inl z))
      · rw [if_neg (fun y => by have := b60.mp y; omega), if_neg (fun y => by have := b61.mp y; omega), if_pos (b62.mpr z)]
        exact e44 s ec lt (Or.inr (Or.inr z))
end RULS
