/-! STREET: the class -/
section STC
variable {N x T : Nat} {u : SG} {t : Nat → Nat}
theorem fst_cw {v w : SG} (f : Fz (Fst (x + 1)) v w) : Fz (Cw x) v w := f.w (fun a k z => by unfold Fst at z; unfold Cw; omega)
theorem sI2_cw {v : SG} {y : Int32} : Fz (Cw x) v (sI v (x + 1) 2 y) := Fz.sI (by unfold Cw; omega)
theorem c_num {a p l : Nat} {hi : Int32} (h : TX u a t T p) (hT : TP t T) (hl : l < 2 ^ 31) : (∀ e, numS t p l hi = .error e → hX9_takeNumber N a (nI l) hi u = some (-1, sI u a 2 (nI e))) ∧ ∀ v, numS t p l hi = .ok v → v < 2 ^ 31 ∧ ¬ nI v < nI l ∧ ¬ hi < nI v ∧ ∃ u', hX9_takeNumber N a (nI l) hi u = some (nI v, u') ∧ TX u' a t T (nx t p) ∧ Fz (Fst a) u u' := by
  obtain ⟨h8, h9, h10, h11⟩ := h.at
  have bad : hgX9_takeNumber_31 N a u = some (-1, sI u a 2 (nI (1 + 8 * p + 1))) := by
    unfold hgX9_takeNumber_31
    rw [show (1 : Int32) = nI 1 from rfl, c_refuse h, cl_some]
  have nm1 : ∀ v, nmO t p = some v → v < 10 ^ 5 ∧ isD (t p) = true := by
    intro v e
    unfold nmO at e
    cases ed : isD (t p) with
    | false => rw [ed] at e; cases e
    | true =>
      rw [ed, if_pos rfl] at e
      split at e
      · next q =>
        cases e
        obtain ⟨r1, r2, r3, r4⟩ := ru_ok hT (f := isD) rfl p
        rw [← tE_D ed] at r1 r2 r3 r4
        exact ⟨Nat.lt_of_lt_of_le (dv_lt hT (p := p) (tE t p - p) (fun i hi => r4 (p + i) (by omega) (by omega))) (Nat.pow_le_pow_right (by decide) q), rfl⟩
      · cases e
  have tk1 : isD (t p) = true → tK t p = 1 := fun e => by
    unfold tK
    have := isD_lt e
    rw [if_neg (by omega), if_pos e]
  have tk0 : isD (t p) = false → ¬ tK t p = 1 := fun e => by
    unfold tK
    rw [e]
    split
    · omega
    · rw [if_neg (by decide)]
      split <;> omega
  have tk4 : tK t p ≤ 3 := by unfold tK; split <;> (try split) <;> (try split) <;> omega
  unfold hX9_takeNumber numS
  rw [bs_eq, h8, h9, show (1 : Int32) = nI 1 from rfl, ifeq (by omega) (by decide), bad]
  cases en : nmO t p with
  | none =>
    refine ⟨fun e he => ?_, fun v hv => by cases hv⟩
    cases he
    cases ed : isD (t p) with
    | false =>
      rw [if_neg (tk0 ed), show (0 : Int32) = nI 0 from rfl, c_refuse h, cl_some]
      rfl
    | true =>
      rw [if_pos (tk1 ed), if_pos (show foI none < nI l from Int32.lt_of_lt_of_le (b := 0) (by decide) (nI_pos' hl))]
      rfl
  | some v =>
    obtain ⟨v5, vd⟩ := nm1 v en
    rw [if_pos (tk1 vd), show foI (some v) = nI v from rfl]
    dsimp only
    by_cases q1 : nI v < nI l
    · rw [if_pos q1, if_pos (Or.inl q1)]
      exact ⟨fun e he => by cases he; rfl, fun v hv => by cases hv⟩
    · rw [if_neg q1]
      by_cases q2 : nI v ≤ hi
      · have q3 : ¬ hi < nI v := fun z => by rw [Int32.le_iff_toInt_le] at q2; rw [Int32.lt_iff_toInt_lt] at z; omega
        rw [if_pos q2, if_neg (fun z => z.elim q1 q3)]
        refine ⟨fun e he => (by cases he), fun v' hv => ?_⟩
        cases hv
        obtain ⟨u', e1, e2, e3⟩ := c_step (N := N) hT h
        exact ⟨by omega, q1, q3, u', by rw [e1, cl_some], e2, e3⟩
      · have q3 : hi < nI v := by rw [Int32.le_iff_toInt_le] at q2; rw [Int32.lt_iff_toInt_lt]; omega
        rw [if_neg q2, if_pos (Or.inr q3)]
        exact ⟨fun e he => by cases he; rfl, fun v hv => by cases hv⟩
theorem le_of_nlt {v G : Nat} (hv : v < 2 ^ 31) (hG : G < 2 ^ 31) (h : ¬ nI G < nI v) : v ≤ G := by
  rcases Nat.lt_or_ge G v with q | q
  · exact absurd (nI_lt q hv) h
  · exact q
theorem lt_of_nlt1 {v G : Nat} (hv : v < 2 ^ 31) (hG : G < 2 ^ 31) (h : ¬ nI G - 1 < nI v) : v < G := by
  rcases Nat.eq_zero_or_pos G with q | q
  · subst q
    exact absurd (Int32.lt_of_lt_of_le (b := 0) (by decide) (nI_pos' hv)) h
  · rw [lit_1, pk_sub q] at h
    have := le_of_nlt hv (by omega) h
    omega
def cQ (x : Nat) (t : Nat → Nat) (T c : Nat) (u : SG) (r : Option (Int32 × SG)) : SR → Prop
  | .error e => ∃ u', r = some (0, u') ∧ zI u' (x + 1) 2 = nI e ∧ Fz (Cw x) u u' ∧ 1 ≤ e ∧ e ≤ 4000
  | .ok (G', p') => ∃ u', r = some (1, u') ∧ TX u' (x + 1) t T p' ∧ Str u' (x + 9) G' ∧ GI c G' ∧ p' ≤ T ∧ Fz (Cw x) u u'
theorem Str.z' {v : SG} {P : Nat → Nat → Prop} {a : Nat} {G : Nat → Nat} (h : Str u a G) (f : Fz P u v) (hP : ∀ b k, a ≤ b → b ≤ a + 6 → ¬ P b k) : Str v a G := h.z f hP
theorem num_er {p l e : Nat} {hi : Int32} (h : numS t p l hi = .error e) (hp : p ≤ 400) : 1 ≤ e ∧ e ≤ 4000 := by
  unfold numS at h
  split at h
  · cases h; split <;> omega
  · split at h <;> cases h; omega
theorem hou_gb {G : Nat → Nat} {v : Nat} (g : GI 0 G) (h2 : 2 ≤ v) (h10 : v ≤ 10) : GI 1 (seG G 0 v) := by
  obtain ⟨g1, g2, -⟩ := g
  obtain ⟨z0, z1, z2, z3, z4⟩ := g2 rfl
  have n1 : seG G 0 v 1 = 0 := by rw [seG_n (by omega)]; exact z1
  have n2 : seG G 0 v 2 = 0 := by rw [seG_n (by omega)]; exact z2
  have n3 : seG G 0 v 3 = 0 := by rw [seG_n (by omega)]; exact z3
  have n4 : seG G 0 v 4 = 0 := by rw [seG_n (by omega)]; exact z4
  exact ⟨⟨by rw [seG_s]; exact h10, by omega, by omega, by omega, by omega, fun z => ⟨n1, n3⟩, fun p hp => by omega, fun k hk => by omega, fun l hl => by omega, fun k hk => by omega⟩, fun z => by omega, fun _ => by rw [seG_s]; exact h2⟩
theorem c_hours {G : Nat → Nat} {p : Nat} (h : TX u (x + 1) t T p) (hT : TP t T) (hp : p ≤ T) (hs : Str u (x + 9) G) (g : GI 0 G) : cQ x t T 1 u (hX8_readHours N (x + 6) (x + 9) u) (houS t G p) := by
  have h4 := hT.1
  obtain ⟨c1, c2⟩ := c_num (N := N) (l := 2) (hi := nI 10) h hT (by decide)
  unfold hX8_readHours houS
  rw [show x + 6 - 5 = x + 1 from rfl, show (2 : Int32) = nI 2 from rfl, show (10 : Int32) = nI 10 from rfl]
  cases e : numS t p 2 (nI 10) with
  | error e' =>
    obtain ⟨b1, b2⟩ := num_er e (by omega)
    exact ⟨_, by rw [c1 e' e, cl_some, if_pos rfl], by rw [sI_s], sI2_cw, b1, b2⟩
  | ok v =>
    obtain ⟨v1, v2, v3, u', e1, e2, e3⟩ := c2 v e
    have v4 := le_of_nlt (by decide) v1 v2
    have v5 := le_of_nlt v1 (by decide) v3
    have gi := hou_gb g v4 v5
    have hs' := hs.z e3 (fun b k q1 q2 q => by unfold Fst at q; omega)
    obtain ⟨z0, z1, z2, z3, z4⟩ := g.2.1 rfl
    obtain ⟨s0, s1, s2, s3, s4, s5, s6, s7⟩ := hs'
    refine ⟨sI u' (x + 9) 6 (nI v), by rw [e1, cl_some, if_neg (show ¬ nI v = (-1 : Int32) from foI_ne (by omega)), bs_eq], e2.z (Fz.sI (S := fun a k => a = x + 9) rfl) (fun b k q1 q2 q => by omega) (fun k q1 q2 q => by omega), ⟨by rw [sI_s, seG_s], by rw [sI_n (by omega), seG_n (by omega)]; exact s1, by rw [sI_n (by omega), seG_n (by omega)]; exact s2, by rw [sI_n (by omega), seG_n (by omega)]; exact s3, by rw [sI_n (by omega), seG_n (by omega)]; exact s4, fun p hp => by rw [seG_n (by omega)] at hp; omega, fun l hl => by rw [seG_n (by omega)] at hl; omega, fun h hh => ?_⟩, gi, (nx_le hT hp).2, (fst_cw e3).tr (Fz.sI (by unfold Cw; omega))⟩
    rw [sI_n (by omega), sI_n (by omega), seG_n (by omega), seG_n (by omega), z1, z3]
    have := s7 h hh
    rw [z1, z3] at this
    exact this
theorem c_addP {G : Nat → Nat} {a n w : Nat} (hs : Str u a G) (g : Gb G) (h5 : G 1 < 5) : ∃ u', hX7_addPerson N a (nI n) (nI w) u = some ((), u') ∧ Str u' a (perG G n w) ∧ Fz (fun b _ => a ≤ b ∧ b ≤ a + 6) u u' := by
  obtain ⟨s0, s1, s2, s3, s4, s5, s6, s7⟩ := hs
  have g2 := g.2.2.1
  have g4 := g.2.2.2.2.1
  have g3 := g.2.2.2.1
  have e1 : zI (sI u (a + 1) (G 1) (nI n)) a 7 = nI (G 1) := by rw [sI_n (by omega)]; exact s1
  have e2 : zI (sI (sI u (a + 1) (G 1) (nI n)) (a + 2) (G 1) (nI w)) a 7 = nI (G 1) := by rw [sI_n (by omega)]; exact e1
  refine ⟨sI (sI (sI u (a + 1) (G 1) (nI n)) (a + 2) (G 1) (nI w)) a 7 (nI (G 1 + 1)), ?_, ⟨?_, ?_, ?_, ?_, ?_, fun p hp => ?_, fun l hl => ?_, fun h hh => ?_⟩, ((Fz.sI ⟨by omega, by omega⟩).tr (Fz.sI ⟨by omega, by omega⟩)).tr (Fz.sI ⟨by omega, by omega⟩)⟩
  · unfold hX7_addPerson
    rw [s1, if_neg (nI_pos (by omega)), lit_5, if_neg (nI_ge h5 (by decide)), ixI h5 (by decide), bs_eq, nI_clamp (by omega), e1, ixI h5 (by decide), bs_eq, nI_clamp (by omega), e2, bs_eq, lit_1, nI_add]
  · rw [sI_n (by omega), sI_n (by omega), sI_n (by omega), per_o (by omega) (by omega)]; exact s0
  · rw [sI_s, per_1]
  · rw [sI_n (by omega), sI_n (by omega), sI_n (by omega), per_o (by omega) (by omega)]; exact s2
  · rw [sI_n (by omega), sI_n (by omega), sI_n (by omega), per_o (by omega) (by omega)]; exact s3
  · rw [sI_n (by omega), sI_n (by omega), sI_n (by omega), per_o (by omega) (by omega)]; exact s4
  · rw [per_1] at hp
    by_cases q : p = G 1
    · subst q
      rw [per_a, per_b]
      exact ⟨by rw [sI_n (by omega), sI_n (by omega), sI_s], by rw [sI_n (by omega), sI_s]⟩
    · rw [per_o (by omega) (by omega), per_o (by omega) (by omega), sI_n (by omega), sI_n (by omega), sI_n (by omega), sI_n (by omega), sI_n (by omega), sI_n (by omega)]
      exact s5 p (by omega)
  · rw [per_o (by omega) (by omega)] at hl
    rw [per_o (by omega) (by omega), per_o (by omega) (by omega), sI_n (by omega), sI_n (by omega), sI_n (by omega), sI_n (by omega), sI_n (by omega), sI_n (by omega)]
    exact s6 l hl
  · rw [sI_n (by omega), sI_n (by omega), sI_n (by omega), sI_n (by omega), sI_n (by omega), sI_n (by omega), per_1, per_o (j := 3) (by omega) (by omega)]
    have k1 : bset (fun p => wk (perG G n w) p h) (G 1 + 1) = bset (fun p => wk G p h) (G 1) := by
      rw [bset, wk_cg (G := G) (per_o (by omega) (by omega)) g2 (fun k q1 q2 => per_o (by omega) (by omega)), wk_no g h (Nat.le_refl _)]
      show bset _ _ + 0 = _
      rw [Nat.add_zero]
      exact bset_ext (fun i hi => wk_cg (per_o (by omega) (by omega)) g2 (fun k q1 q2 => per_o (by omega) (by omega)) _ _)
    have k2 : bset (fun l => li (perG G n w) l h) (G 3) = bset (fun l => li G l h) (G 3) := bset_ext (fun i hi => li_cg (per_o (by omega) (by omega)) g4 (fun k q1 q2 => per_o (by omega) (by omega)) _ _)
    rw [k1, k2]
    exact s7 h hh
theorem c_addL {G : Nat → Nat} {a n w : Nat} (hs : Str u a G) (g : Gb G) (h5 : G 3 < 5) : ∃ u', hX7_addLamp N a (nI n) (nI w) u = some ((), u') ∧ Str u' a (lamG G n w) ∧ Fz (fun b _ => a ≤ b ∧ b ≤ a + 6) u u' := by
  obtain ⟨s0, s1, s2, s3, s4, s5, s6, s7⟩ := hs
  have g1 := g.2.1
  have g2 := g.2.2.1
  have g4 := g.2.2.2.2.1
  have e1 : zI (sI u (a + 3) (G 3) (nI n)) a 9 = nI (G 3) := by rw [sI_n (by omega)]; exact s3
  have e2 : zI (sI (sI u (a + 3) (G 3) (nI n)) (a + 4) (G 3) (nI w)) a 9 = nI (G 3) := by rw [sI_n (by omega)]; exact e1
  refine ⟨sI (sI (sI u (a + 3) (G 3) (nI n)) (a + 4) (G 3) (nI w)) a 9 (nI (G 3 + 1)), ?_, ⟨?_, ?_, ?_, ?_, ?_, fun p hp => ?_, fun l hl => ?_, fun h hh => ?_⟩, ((Fz.sI ⟨by omega, by omega⟩).tr (Fz.sI ⟨by omega, by omega⟩)).tr (Fz.sI ⟨by omega, by omega⟩)⟩
  · unfold hX7_addLamp
    rw [s3, if_neg (nI_pos (by omega)), lit_5, if_neg (nI_ge h5 (by decide)), ixI h5 (by decide), bs_eq, nI_clamp (by omega), e1, ixI h5 (by decide), bs_eq, nI_clamp (by omega), e2, bs_eq, lit_1, nI_add]
  · rw [sI_n (by omega), sI_n (by omega), sI_n (by omega), lam_o (by omega) (by omega)]; exact s0
  · rw [sI_n (by omega), sI_n (by omega), sI_n (by omega), lam_o (by omega) (by omega)]; exact s1
  · rw [sI_n (by omega), sI_n (by omega), sI_n (by omega), lam_o (by omega) (by omega)]; exact s2
  · rw [sI_s, lam_3]
  · rw [sI_n (by omega), sI_n (by omega), sI_n (by omega), lam_o (by omega) (by omega)]; exact s4
  · rw [lam_o (by omega) (by omega)] at hp
    rw [lam_o (by omega) (by omega), lam_o (by omega) (by omega), sI_n (by omega), sI_n (by omega), sI_n (by omega), sI_n (by omega), sI_n (by omega), sI_n (by omega)]
    exact s5 p hp
  · rw [lam_3] at hl
    by_cases q : l = G 3
    · subst q
      rw [lam_a, show 70 + 2 * G 3 = 69 + 2 * G 3 + 1 by omega, lam_b]
      exact ⟨by rw [sI_n (by omega), sI_n (by omega), sI_s], by rw [sI_n (by omega), sI_s]⟩
    · rw [lam_o (by omega) (by omega), lam_o (by omega) (by omega), sI_n (by omega), sI_n (by omega), sI_n (by omega), sI_n (by omega), sI_n (by omega), sI_n (by omega)]
      exact s6 l (by omega)
  · rw [sI_n (by omega), sI_n (by omega), sI_n (by omega), sI_n (by omega), sI_n (by omega), sI_n (by omega), lam_3, lam_o (j := 1) (by omega) (by omega)]
    have k1 : bset (fun p => li (lamG G n w) p h) (G 3 + 1) = bset (fun p => li G p h) (G 3) := by
      rw [bset, li_cg (G := G) (lam_o (by omega) (by omega)) g4 (fun k q1 q2 => lam_o (by omega) (by omega)), li_no g h (Nat.le_refl _)]
      show bset _ _ + 0 = _
      rw [Nat.add_zero]
      exact bset_ext (fun i hi => li_cg (lam_o (by omega) (by omega)) g4 (fun k q1 q2 => lam_o (by omega) (by omega)) _ _)
    have k2 : bset (fun l => wk (lamG G n w) l h) (G 1) = bset (fun l => wk G l h) (G 1) := bset_ext (fun i hi => wk_cg (lam_o (by omega) (by omega)) g2 (fun k q1 q2 => lam_o (by omega) (by omega)) _ _)
    rw [k1, k2]
    exact s7 h hh
/-- hours y to z of a row of sets -/
theorem c_span {b X y z : Nat} (hN10 : zN u b = 10) (hX : X < 10) (hy : y ≤ z) (hz : z < 10) {f : Nat → Nat} (hf : ∀ h, h < 10 → zI u b h = nI (f h)) (hN : 2000 ≤ N) : ∃ u', hX7_addSpan N b (nI X) (nI y) (nI z) u = some ((), u') ∧ (∀ h, h < 10 → zI u' b h = nI (f h ||| if decide (y ≤ h) && decide (h ≤ z) then 2 ^ X else 0)) ∧ Fz (fun c _ => c = b) u u' := by
  unfold hX7_addSpan
  have e0 : fJ9_max_7cf53 N (0 : Int32) (nI y) u = some (nI y, u) := by
    have := x_max0 (N := N) (u := u) (a := y) (b := 0) (by omega) (by decide)
    rw [pk_sub (by omega)] at this
    exact this
  rw [e0, cl_some]
  refine lps (fun n k v => hgX7_addSpan_7 N n b (nI X) (nI z) (nI k) v) (z + 1) (fun k v => y ≤ k ∧ Fz (fun c _ => c = b) u v ∧ ∀ h, h < 10 → zI v b h = nI (f h ||| if decide (y ≤ h) && decide (h < k) then 2 ^ X else 0)) (fun r => ∃ u', r = some ((), u') ∧ (∀ h, h < 10 → zI u' b h = nI (f h ||| if decide (y ≤ h) && decide (h ≤ z) then 2 ^ X else 0)) ∧ Fz (fun c _ => c = b) u u') ?_ ?_ N y u (by omega) (by omega) ⟨Nat.le_refl _, Fz.rf, fun h hh => ?_⟩
  · rintro n v ⟨-, h1, h2⟩
    refine ⟨v, by rw [hgX7_addSpan_7, if_pos (nI_lt (by omega) (by omega))], fun h hh => ?_, h1⟩
    rw [h2 h hh]
    by_cases q : h ≤ z
    · rw [decide_eq_true q, decide_eq_true (show h < z + 1 by omega)]
    · rw [decide_eq_false q, decide_eq_false (show ¬ h < z + 1 by omega)]
  · rintro n k v hk ⟨h0, h1, h2⟩
    have n10 : zN v b = 10 := by rw [h1.N]; exact hN10
    refine ⟨sI v b k (nI (f k ||| 2 ^ X)), ⟨by omega, h1.tr (Fz.sI rfl), fun h hh => ?_⟩, ?_⟩
    · by_cases q : h = k
      · subst q
        rw [sI_s, decide_eq_true h0, decide_eq_true (show h < h + 1 by omega)]
        rfl
      · rw [sI_n (by omega), h2 h hh]
        by_cases q2 : h < k
        · rw [decide_eq_true q2, decide_eq_true (show h < k + 1 by omega)]
        · rw [decide_eq_false q2, decide_eq_false (show ¬ h < k + 1 by omega)]
    · rw [hgX7_addSpan_7, if_neg (nI_nlt (by omega) (by omega)), n10, if_neg (nI_ge (by omega) (by decide)), if_neg (nI_in (by omega) (by decide)), if_neg (nI_in (by omega) (by decide)), bs_eq, nI_clamp (by omega), h2 k (by omega), nI_shl X (by omega), decide_eq_false (show ¬ k < k by omega), Bool.and_false, if_neg (by decide), Nat.or_zero, nI_or, lit_1, nI_add]
  · rw [show (decide (y ≤ h) && decide (h < y)) = false by
      by_cases q : h < y
      · rw [decide_eq_false (show ¬ y ≤ h by omega)]; rfl
      · rw [decide_eq_false q, Bool.and_false], if_neg (by decide), Nat.or_zero]
    exact hf h hh
theorem bset_add {f : Nat → Bool} {n X : Nat} (c : Bool) (hX : X < n) : bset f n ||| (if c then 2 ^ X else 0) = bset (fun p => f p || (X == p && c)) n := by
  apply Nat.eq_of_testBit_eq
  intro i
  rw [Nat.testBit_or, bset_tb, bset_tb]
  cases c with
  | false => simp
  | true =>
    rw [if_pos rfl, Nat.testBit_two_pow]
    by_cases q : X = i
    · subst q; simp [hX]
    · have : (X == i) = false := by simpa using q
      simp [q, this]
theorem c_addW {G : Nat → Nat} {a X y z : Nat} (hs : Str u a G) (g : Gb G) (h8 : G 2 < 8) (h0 : 2 ≤ G 0) (hX : X < G 1) (hy : y ≤ z) (hz : z < G 0) (n10 : zN u (a + 5) = 10) (hN : 2000 ≤ N) : ∃ u', hX7_addWork N a (nI X) (nI y) (nI z) u = some ((), u') ∧ Str u' a (spaG G 45 2 X y z) ∧ Fz (fun b _ => a ≤ b ∧ b ≤ a + 6) u u' := by
  obtain ⟨s0, s1, s2, s3, s4, s5, s6, s7⟩ := hs
  have g0 := g.1
  have g1 := g.2.1
  have g3 := g.2.2.2.1
  have g4 := g.2.2.2.2.1
  have f1 : Fz (fun b _ => a ≤ b ∧ b ≤ a + 6) u (sI u a 8 (nI (G 2 + 1))) := Fz.sI ⟨by omega, by omega⟩
  obtain ⟨u', e1, e2, e3⟩ := c_span (N := N) (u := sI u a 8 (nI (G 2 + 1))) (b := a + 5) (X := X) (y := y) (z := z) (f := fun h => bset (fun p => wk G p h) (G 1)) n10 (by omega) hy (by omega) (fun h hh => by rw [sI_n (by omega)]; exact (s7 h hh).1) hN
  have z5 : ∀ b k, ¬ b = a + 5 → zI u' b k = zI (sI u a 8 (nI (G 2 + 1))) b k := fun b k hb => e3.I hb
  refine ⟨u', ?_, ⟨?_, ?_, ?_, ?_, ?_, fun p hp => ?_, fun l hl => ?_, fun h hh => ?_⟩, f1.tr (e3.w (fun b k q => by omega))⟩
  · unfold hX7_addWork
    rw [bs_eq, s2, lit_1, nI_add, e1, cl_some]
  · rw [z5 _ _ (by omega), sI_n (by omega), spa_o (by omega) (by omega)]; exact s0
  · rw [z5 _ _ (by omega), sI_n (by omega), spa_o (by omega) (by omega)]; exact s1
  · rw [z5 _ _ (by omega), sI_s, spa_c]
  · rw [z5 _ _ (by omega), sI_n (by omega), spa_o (by omega) (by omega)]; exact s3
  · rw [z5 _ _ (by omega), sI_n (by omega), spa_o (by omega) (by omega)]; exact s4
  · rw [spa_o (by omega) (by omega)] at hp
    rw [z5 _ _ (by omega), z5 _ _ (by omega), sI_n (by omega), sI_n (by omega), spa_o (by omega) (by omega), spa_o (by omega) (by omega)]
    exact s5 p hp
  · rw [spa_o (by omega) (by omega)] at hl
    rw [z5 _ _ (by omega), z5 _ _ (by omega), sI_n (by omega), sI_n (by omega), spa_o (by omega) (by omega), spa_o (by omega) (by omega)]
    exact s6 l hl
  · rw [spa_o (j := 1) (by omega) (by omega), spa_o (j := 3) (by omega) (by omega)]
    refine ⟨?_, ?_⟩
    · rw [e2 h hh, bset_add _ hX]
      congr 1
      exact bset_ext (fun i hi => (wk_new g h8 i h).symm)
    · rw [z5 _ _ (by omega), sI_n (by omega), (s7 h hh).2]
      congr 1
      exact (bset_ext (fun i hi => li_cg (spa_o (by omega) (by omega)) g4 (fun k q1 q2 => spa_o (by omega) (by omega)) _ _)).symm
theorem c_addT {G : Nat → Nat} {a X y z : Nat} (hs : Str u a G) (g : Gb G) (h8 : G 4 < 8) (h0 : 2 ≤ G 0) (hX : X < G 3) (hy : y ≤ z) (hz : z < G 0) (n10 : zN u (a + 6) = 10) (hN : 2000 ≤ N) : ∃ u', hX7_addLit N a (nI X) (nI y) (nI z) u = some ((), u') ∧ Str u' a (spaG G 79 4 X y z) ∧ Fz (fun b _ => a ≤ b ∧ b ≤ a + 6) u u' := by
  obtain ⟨s0, s1, s2, s3, s4, s5, s6, s7⟩ := hs
  have g0 := g.1
  have g1 := g.2.1
  have g2 := g.2.2.1
  have g3 := g.2.2.2.1
  have f1 : Fz (fun b _ => a ≤ b ∧ b ≤ a + 6) u (sI u a 10 (nI (G 4 + 1))) := Fz.sI ⟨by omega, by omega⟩
  obtain ⟨u', e1, e2, e3⟩ := c_span (N := N) (u := sI u a 10 (nI (G 4 + 1))) (b := a + 6) (X := X) (y := y) (z := z) (f := fun h => bset (fun p => li G p h) (G 3)) n10 (by omega) hy (by omega) (fun h hh => by rw [sI_n (by omega)]; exact (s7 h hh).2) hN
  have z5 : ∀ b k, ¬ b = a + 6 → zI u' b k = zI (sI u a 10 (nI (G 4 + 1))) b k := fun b k hb => e3.I hb
  refine ⟨u', ?_, ⟨?_, ?_, ?_, ?_, ?_, fun p hp => ?_, fun l hl => ?_, fun h hh => ?_⟩, f1.tr (e3.w (fun b k q => by omega))⟩
  · unfold hX7_addLit
    rw [bs_eq, s4, lit_1, nI_add, e1, cl_some]
  · rw [z5 _ _ (by omega), sI_n (by omega), spa_o (by omega) (by omega)]; exact s0
  · rw [z5 _ _ (by omega), sI_n (by omega), spa_o (by omega) (by omega)]; exact s1
  · rw [z5 _ _ (by omega), sI_n (by omega), spa_o (by omega) (by omega)]; exact s2
  · rw [z5 _ _ (by omega), sI_n (by omega), spa_o (by omega) (by omega)]; exact s3
  · rw [z5 _ _ (by omega), sI_s, spa_c]
  · rw [spa_o (by omega) (by omega)] at hp
    rw [z5 _ _ (by omega), z5 _ _ (by omega), sI_n (by omega), sI_n (by omega), spa_o (by omega) (by omega), spa_o (by omega) (by omega)]
    exact s5 p hp
  · rw [spa_o (by omega) (by omega)] at hl
    rw [z5 _ _ (by omega), z5 _ _ (by omega), sI_n (by omega), sI_n (by omega), spa_o (by omega) (by omega), spa_o (by omega) (by omega)]
    exact s6 l hl
  · rw [spa_o (j := 1) (by omega) (by omega), spa_o (j := 3) (by omega) (by omega)]
    refine ⟨?_, ?_⟩
    · rw [z5 _ _ (by omega), sI_n (by omega), (s7 h hh).1]
      congr 1
      exact (bset_ext (fun i hi => wk_cg (spa_o (by omega) (by omega)) g2 (fun k q1 q2 => spa_o (by omega) (by omega)) _ _)).symm
    · rw [e2 h hh, bset_add _ hX]
      congr 1
      exact bset_ext (fun i hi => (li_new g h8 i h).symm)
end STC
