/-! STREET: the reference -/
def RG (u : SG) (m : Nat) (G : Nat → Nat) : Prop := ∀ k, k < 103 → zI u (m + 6) k = nI (G k)
def Fs (m : Nat) : Nat → Nat → Prop := fun a k => (a = m ∧ (k = 8 ∨ k = 9 ∨ k = 10)) ∨ a = m + 6
def rQ (m : Nat) (t : Nat → Nat) (T : Nat) (u : SG) (r : Option (Int32 × SG)) : SR → Prop
  | .error e => ∃ u', r = some (0, u') ∧ zI u' m 9 = nI e ∧ Fz (Fs m) u u'
  | .ok (G', p') => ∃ u', r = some (1, u') ∧ RP u' m t T p' ∧ RG u' m G' ∧ zI u' m 9 = 0 ∧ Fz (Fs m) u u'
section STR
variable {N m T : Nat} {u : SG} {t : Nat → Nat}
theorem RG.se {G : Nat → Nat} (h : RG u m G) (k v : Nat) : RG (sI u (m + 6) k (nI v)) m (seG G k v) := by
  intro j hj
  by_cases q : j = k
  · subst q; rw [sI_s, seG_s]
  · rw [sI_n (by omega), seG_n q]; exact h j hj
theorem RG.z {v : SG} {P : Nat → Nat → Prop} {G : Nat → Nat} (h : RG u m G) (f : Fz P u v) (hP : ∀ k, ¬ P (m + 6) k) : RG v m G := fun k hk => by rw [f.I (hP k)]; exact h k hk
theorem f89_s {v w : SG} (f : Fz (F89 m) v w) : Fz (Fs m) v w := f.w (fun a k z => by unfold F89 at z; unfold Fs; omega)
theorem f8_s {v w : SG} (f : Fz (F8 m) v w) : Fz (Fs m) v w := f.w (fun a k z => by unfold F8 at z; unfold Fs; omega)
theorem se_s {v : SG} {k : Nat} {y : Int32} : Fz (Fs m) v (sI v (m + 6) k y) := Fz.sI (Or.inr rfl)
theorem RP.se {p k : Nat} {y : Int32} (h : RP u m t T p) : RP (sI u (m + 6) k y) m t T p := h.z (Fz.sI (S := fun a _ => a = m + 6) rfl) (by omega) (fun k => by omega) (by omega)
theorem r_cell {p l k : Nat} {hi : Int32} {G : Nat → Nat} (h : RP u m t T p) (hT : TP t T) (h9 : zI u m 9 = 0) (hg : RG u m G) (hk : k < 103) (hN : 2000 ≤ N) : (∀ e, numS t p l hi = .error e → ∃ u', hX11_cellHere N m (nI k) (nI l) hi u = some (0, u') ∧ zI u' m 9 = nI e ∧ Fz (Fs m) u u') ∧ ∀ v, numS t p l hi = .ok v → ∃ u', hX11_cellHere N m (nI k) (nI l) hi u = some (1, u') ∧ RP u' m t T (nx t p) ∧ RG u' m (seG G k v) ∧ zI u' m 9 = 0 ∧ Fz (Fs m) u u' := by
  have hn := r_num (N := N) (l := l) (hi := hi) h hT h9 hN
  unfold hX11_cellHere
  refine ⟨fun e he => ?_, fun v hv => ?_⟩
  · rw [he] at hn
    obtain ⟨u', a1, a2, a3⟩ := hn
    exact ⟨u', by rw [a1, cl_some, if_pos rfl], a2, f89_s a3⟩
  · rw [hv] at hn
    obtain ⟨u', a1, a2, a3, a4, a5, a6⟩ := hn
    have hg' := hg.z a5 (fun k q => by unfold F89 at q; omega)
    exact ⟨sI u' (m + 6) k (nI v), by rw [a1, cl_some, if_neg (by decide), ixI hk (by decide), bs_eq, nI_clamp (by omega), a3], a2.se, hg'.se k v, by rw [sI_n (by omega)]; exact a4, (f89_s a5).tr se_s⟩
theorem rQ.wrap {r : Option (Int32 × SG)} {S : SR} {v : SG} (h : rQ m t T v r S) (f : Fz (Fs m) u v) : rQ m t T u (cl r fun r6 u7 => (if r6 = 0 ∨ r6 = 1 then some (r6, u7) else none)) S := by
  match S, h with
  | .error e, ⟨u', h1, h2, h3⟩ => exact ⟨u', by rw [h1, cl_some, if_pos (Or.inl rfl)], h2, f.tr h3⟩
  | .ok (G', p'), ⟨u', h1, h2, h3, h4, h5⟩ => exact ⟨u', by rw [h1, cl_some, if_pos (Or.inr rfl)], h2, h3, h4, f.tr h5⟩
theorem rQ.fr {r : Option (Int32 × SG)} {S : SR} {v : SG} (h : rQ m t T v r S) (f : Fz (Fs m) u v) : rQ m t T u r S := by
  match S, h with
  | .error e, ⟨u', h1, h2, h3⟩ => exact ⟨u', h1, h2, f.tr h3⟩
  | .ok (G', p'), ⟨u', h1, h2, h3, h4, h5⟩ => exact ⟨u', h1, h2, h3, h4, f.tr h5⟩
theorem r_bad (h9 : zI u m 9 = 0) (k p : Nat) : rQ m t T u (cl (hX11_fails N m (nI k) (nI p) u) fun r6 u7 => (if r6 = 0 ∨ r6 = 1 then some (r6, u7) else none)) (.error (1 + 8 * p + k)) := ⟨_, by rw [r_fails0 h9, cl_some, if_pos (Or.inl rfl)], by rw [sI_s], Fz.sI (Or.inl ⟨rfl, Or.inr (Or.inl rfl)⟩)⟩
theorem r_hours {G : Nat → Nat} {p : Nat} (h : RX u m t T p) (hT : TP t T) (hs : isS (t p) = true) (h9 : zI u m 9 = 0) (hg : RG u m G) (g0 : G 0 = 0) (hN : 2000 ≤ N) : rQ m t T u (hX11_isStreetHere N m (nI p) u) (houS t G (nx t p)) := by
  obtain ⟨u1, e1, e2, e3⟩ := r_passW (N := N) h hT hs hN
  have h9' : zI u1 m 9 = 0 := by rw [e3.I (by unfold F8; omega)]; exact h9
  have hg' := hg.z e3 (fun k q => by unfold F8 at q; omega)
  obtain ⟨c1, c2⟩ := r_cell (N := N) (l := 2) (hi := nI 10) (k := 0) e2 hT h9' hg' (by decide) hN
  unfold hX11_isStreetHere houS
  rw [hg 0 (by decide), g0, if_pos (by decide), e1, cl_some]
  cases e : numS t (nx t p) 2 (nI 10) with
  | error e' =>
    obtain ⟨u', a1, a2, a3⟩ := c1 e' e
    exact ⟨u', by rw [show hX11_cellHere N m 0 2 10 u1 = some (0, u') from a1, cl_some, if_pos (Or.inl rfl)], a2, (f8_s e3).tr a3⟩
  | ok v =>
    obtain ⟨u', a1, a2, a3, a4, a5⟩ := c2 v e
    exact ⟨u', by rw [show hX11_cellHere N m 0 2 10 u1 = some (1, u') from a1, cl_some, if_pos (Or.inr rfl)], a2, a3, a4, (f8_s e3).tr a5⟩
theorem r_person {G : Nat → Nat} {p : Nat} (h : RX u m t T p) (hT : TP t T) (hs : isS (t p) = true) (h9 : zI u m 9 = 0) (hg : RG u m G) (h5 : G 1 < 5) (hN : 2000 ≤ N) : rQ m t T u (hX11_isPersonHere N m (nI p) u) (perS t G (nx t p)) := by
  obtain ⟨u1, e1, e2, e3⟩ := r_passW (N := N) h hT hs hN
  have h9' : zI u1 m 9 = 0 := by rw [e3.I (by unfold F8; omega)]; exact h9
  have hg' := hg.z e3 (fun k q => by unfold F8 at q; omega)
  obtain ⟨c1, c2⟩ := r_cell (N := N) (l := 0) (hi := nI (G 0)) (k := 10 + 6 * G 1) e2 hT h9' hg' (by omega) hN
  unfold hX11_isPersonHere perS
  rw [hg 1 (by decide), if_neg (by rw [lit_5, nI_eq (by omega) (by decide)]; omega), e1, cl_some, bs_eq, hg' 1 (by decide), hg' 0 (by decide), lit_10, lit_6, pk_mul, nI_add]
  cases e : numS t (nx t p) 0 (nI (G 0)) with
  | error e' =>
    obtain ⟨u', a1, a2, a3⟩ := c1 e' e
    exact ⟨u', by rw [show hX11_cellHere N m (nI (10 + 6 * G 1)) 0 (nI (G 0)) u1 = some (0, u') from a1, cl_some, if_pos rfl], a2, (f8_s e3).tr a3⟩
  | ok v =>
    obtain ⟨u2, a1, a2, a3, a4, a5⟩ := c2 v e
    obtain ⟨d1, d2⟩ := r_cell (N := N) (l := 0) (hi := nI 60) (k := 10 + 6 * G 1 + 1) a2 hT a4 a3 (by omega) hN
    rw [show hX11_cellHere N m (nI (10 + 6 * G 1)) 0 (nI (G 0)) u1 = some (1, u2) from a1, cl_some, if_neg (by decide), lit_1, nI_add]
    dsimp only
    cases e' : numS t (nx t (nx t p)) 0 (nI 60) with
    | error e'' =>
      obtain ⟨u', b1, b2, b3⟩ := d1 e'' e'
      exact ⟨u', by rw [show hX11_cellHere N m (nI (10 + 6 * G 1 + 1)) 0 60 u2 = some (0, u') from b1, cl_some, if_pos rfl], b2, ((f8_s e3).tr a5).tr b3⟩
    | ok w =>
      obtain ⟨u3, b1, b2, b3, b4, b5⟩ := d2 w e'
      have fz := ((f8_s e3).tr a5).tr b5
      rw [show hX11_cellHere N m (nI (10 + 6 * G 1 + 1)) 0 60 u2 = some (1, u3) from b1, cl_some, if_neg (by decide)]
      have st : ∀ n k v, k < 6 → hgX11_isPersonHere_66 N (n + 1) m (nI (10 + 6 * G 1)) (nI k) v = hgX11_isPersonHere_66 N n m (nI (10 + 6 * G 1)) (nI (k + 1)) (sI v (m + 6) (10 + 6 * G 1 + k) (nI 0)) := by
        intro n k v hk
        rw [hgX11_isPersonHere_66, lit_6, if_neg (nI_ge hk (by decide)), nI_add, ixI (by omega) (by decide), bs_eq, nI_clamp (by omega), lit_1, nI_add]
        rfl
      obtain ⟨N', rfl⟩ : ∃ N', N = N' + 5 := ⟨N - 5, by omega⟩
      have g1 : RG _ m _ := (((b3.se (10 + 6 * G 1 + 2) 0).se (10 + 6 * G 1 + 3) 0).se (10 + 6 * G 1 + 4) 0).se (10 + 6 * G 1 + 5) 0
      have v1 : zI (sI (sI (sI (sI u3 (m + 6) (10 + 6 * G 1 + 2) (nI 0)) (m + 6) (10 + 6 * G 1 + 3) (nI 0)) (m + 6) (10 + 6 * G 1 + 4) (nI 0)) (m + 6) (10 + 6 * G 1 + 5) (nI 0)) (m + 6) 1 = nI (G 1) := by
        rw [g1 1 (by decide), seG_n (by omega), seG_n (by omega), seG_n (by omega), seG_n (by omega), seG_n (by omega), seG_n (by omega)]
      refine ⟨sI (sI (sI (sI (sI u3 (m + 6) (10 + 6 * G 1 + 2) (nI 0)) (m + 6) (10 + 6 * G 1 + 3) (nI 0)) (m + 6) (10 + 6 * G 1 + 4) (nI 0)) (m + 6) (10 + 6 * G 1 + 5) (nI 0)) (m + 6) 1 (nI (G 1 + 1)), ?_, b2.se.se.se.se.se, g1.se 1 (G 1 + 1), by rw [sI_n (by omega), sI_n (by omega), sI_n (by omega), sI_n (by omega), sI_n (by omega)]; exact b4, ((((fz.tr se_s).tr se_s).tr se_s).tr se_s).tr se_s⟩
      rw [show (2 : Int32) = nI 2 from rfl, st (N' + 4) 2 _ (by decide), st (N' + 3) 3 _ (by decide), st (N' + 2) 4 _ (by decide), st (N' + 1) 5 _ (by decide), hgX11_isPersonHere_66, lit_6, if_pos (nI_le (by omega) (by decide)), bs_eq, v1, lit_1, nI_add]
theorem nm_lt {p v : Nat} (hT : TP t T) (en : nmO t p = some v) : v < 10 ^ 5 := by
  unfold nmO at en
  split at en
  · next q =>
    split at en
    · next q5 =>
      cases en
      obtain ⟨r1, r2, r3, r4⟩ := ru_ok hT (f := isD) rfl p
      rw [← tE_D q] at r1 r2 r3 r4
      exact Nat.lt_of_lt_of_le (dv_lt hT (p := p) (tE t p - p) (fun i hi => r4 (p + i) (by omega) (by omega))) (Nat.pow_le_pow_right (by decide) q5)
    · cases en
  · cases en
theorem num9 {p g : Nat} (hT : TP t T) (hg : g ≤ 5) : (∀ e, numS t p 0 (nI 9) = .error e → numS t p 0 (if nmO t p = some 9 then nI 9 else nI g - 1) = .error e) ∧ ∀ v, numS t p 0 (nI 9) = .ok v → v ≤ 9 ∧ numS t p 0 (if nmO t p = some 9 then nI 9 else nI g - 1) = if v = 9 ∨ v < g then .ok v else .error (1 + 8 * p + 1) := by
  unfold numS
  cases en : nmO t p with
  | none => exact ⟨fun e h => h, fun v h => by cases h⟩
  | some w =>
    have wl := nm_lt hT en
    dsimp only
    have n0 : ¬ nI w < nI 0 := nI_nlt (by omega) (by omega)
    by_cases w9 : w = 9
    · subst w9
      rw [if_pos rfl]
      refine ⟨fun e h => h, fun v h => ?_⟩
      rw [if_neg (fun z => z.elim n0 (nI_nlt (by omega) (by omega)))] at h ⊢
      cases h
      exact ⟨by omega, by rw [if_pos (Or.inl rfl)]⟩
    · rw [if_neg (show ¬ some w = some 9 by simpa using w9)]
      by_cases q9 : nI 9 < nI w
      · rw [if_pos (Or.inr q9), if_pos (Or.inr (Int32.lt_of_le_of_lt (b := nI 9) (by rw [Int32.le_iff_toInt_le, show nI g - 1 = nI g - nI 1 from rfl, pk_sub_toInt (by omega) (by decide), nI_toInt (by decide)]; omega) q9))]
        exact ⟨fun e h => h, fun v h => by cases h⟩
      · have l9 := le_of_nlt (by omega) (by decide) q9
        rw [if_neg (fun z => z.elim n0 q9)]
        refine ⟨fun e h => (by cases h), fun v h => ?_⟩
        cases h
        refine ⟨l9, ?_⟩
        by_cases eg : w < g
        · rw [if_pos (Or.inr eg), if_neg (fun z => z.elim n0 (fun y => by
            rw [lit_1, pk_sub (by omega)] at y
            exact absurd y (nI_nlt (by omega) (by omega))))]
        · rw [if_neg (show ¬ (w = 9 ∨ w < g) by omega), if_pos (Or.inr (by
            rw [Int32.lt_iff_toInt_lt, show nI g - 1 = nI g - nI 1 from rfl, pk_sub_toInt (by omega) (by decide), nI_toInt (by omega)]
            omega))]
theorem r_lamp {G : Nat → Nat} {p : Nat} (h : RX u m t T p) (hT : TP t T) (hs : isS (t p) = true) (h9 : zI u m 9 = 0) (hg : RG u m G) (h5 : G 3 < 5) (g1 : G 1 ≤ 5) (hN : 2000 ≤ N) : rQ m t T u (hX11_isLampHere N m (nI p) u) (lamS t G (nx t p)) := by
  have h4 := hT.1
  obtain ⟨u1, e1, e2, e3⟩ := r_passW (N := N) h hT hs hN
  obtain ⟨u1', s1, s2, s3⟩ := r_see (N := N) e2 hT hN
  have f1 : Fz (F8 m) u u1' := e3.tr s3
  have h9' : zI u1' m 9 = 0 := by rw [f1.I (by unfold F8; omega)]; exact h9
  have hg' := hg.z f1 (fun k q => by unfold F8 at q; omega)
  have rp1 : RP u1' m t T (nx t p) := s2.rp hT (e2.le hT).2.1
  have np := (e2.le hT).1
  obtain ⟨c1, c2⟩ := r_cell (N := N) (l := 0) (hi := nI 9) (k := 69 + 2 * G 3) rp1 hT h9' hg' (by omega) hN
  unfold hX11_isLampHere lamS
  rw [hg 3 (by decide), if_neg (by rw [lit_5, nI_eq (by omega) (by decide)]; omega), e1, cl_some, s1, cl_some, bs_eq, bs_eq, s2.2.2.1, hg' 3 (by decide), lit_69, lit_2, pk_mul, nI_add]
  have fin : ∀ v u2, RP u2 m t T (nx t (nx t p)) → RG u2 m (seG G (69 + 2 * G 3) v) → zI u2 m 9 = 0 → Fz (Fs m) u u2 → rQ m t T u (hgX11_isLampHere_89 N m (nI (69 + 2 * G 3)) u2) (match numS t (nx t (nx t p)) 1 (nI 60) with
    | .error e => .error e
    | .ok b => .ok (lamG G v b, nx t (nx t (nx t p)))) := by
    intro v u2 a2 a3 a4 a5
    obtain ⟨d1, d2⟩ := r_cell (N := N) (l := 1) (hi := nI 60) (k := 69 + 2 * G 3 + 1) a2 hT a4 a3 (by omega) hN
    unfold hgX11_isLampHere_89
    cases e' : numS t (nx t (nx t p)) 1 (nI 60) with
    | error e'' =>
      obtain ⟨u', b1, b2, b3⟩ := d1 e'' e'
      exact ⟨u', by rw [show nI (69 + 2 * G 3) + (1 : Int32) = nI (69 + 2 * G 3 + 1) by rw [lit_1, nI_add], show hX11_cellHere N m (nI (69 + 2 * G 3 + 1)) 1 60 u2 = some (0, u') from b1, cl_some, if_pos rfl], b2, a5.tr b3⟩
    | ok w =>
      obtain ⟨u3, b1, b2, b3, b4, b5⟩ := d2 w e'
      have v1 : zI u3 (m + 6) 3 = nI (G 3) := by rw [b3 3 (by decide), seG_n (by omega), seG_n (by omega)]
      exact ⟨sI u3 (m + 6) 3 (nI (G 3 + 1)), by rw [show nI (69 + 2 * G 3) + (1 : Int32) = nI (69 + 2 * G 3 + 1) by rw [lit_1, nI_add], show hX11_cellHere N m (nI (69 + 2 * G 3 + 1)) 1 60 u2 = some (1, u3) from b1, cl_some, if_neg (by decide), bs_eq, v1, lit_1, nI_add], b2.se, b3.se 3 (G 3 + 1), by rw [sI_n (by omega)]; exact b4, (a5.tr b5).tr se_s⟩
  obtain ⟨n1, n2⟩ := num9 (p := nx t p) hT g1
  cases e : numS t (nx t p) 0 (nI 9) with
  | error e' =>
    obtain ⟨u', a1, a2, a3⟩ := c1 e' e
    rw [n1 e' e]
    exact ⟨u', by rw [show hX11_cellHere N m (nI (69 + 2 * G 3)) 0 9 u1' = some (0, u') from a1, cl_some, if_pos rfl], a2, (f8_s f1).tr a3⟩
  | ok v =>
    obtain ⟨u2, a1, a2, a3, a4, a5⟩ := c2 v e
    obtain ⟨v9, n3⟩ := n2 v e
    rw [n3, show hX11_cellHere N m (nI (69 + 2 * G 3)) 0 9 u1' = some (1, u2) from a1, cl_some, if_neg (by decide), ixI (by omega) (by decide), ixI (by omega) (by decide), nI_clamp (by omega), a3 (69 + 2 * G 3) (by omega), seG_s, a3 1 (by decide), seG_n (by omega), lit_9, ifeq (by omega) (by decide), iflt (by omega) (by omega)]
    by_cases e9 : v = 9
    · rw [if_pos e9, if_pos (Or.inl e9)]
      exact fin v u2 a2 a3 a4 ((f8_s f1).tr a5)
    · rw [if_neg e9]
      by_cases eg : v < G 1
      · rw [if_pos eg, if_pos (Or.inr eg)]
        exact fin v u2 a2 a3 a4 ((f8_s f1).tr a5)
      · rw [if_neg eg, if_neg (by omega)]
        exact (r_bad a4 1 (nx t p)).fr ((f8_s f1).tr a5)
theorem r_spanH {G : Nat → Nat} {p B cc dd : Nat} (h : RX u m t T p) (hT : TP t T) (hs : isS (t p) = true) (h9 : zI u m 9 = 0) (hg : RG u m G) (hB : B = 45 ∧ cc = 2 ∧ dd = 1 ∨ B = 79 ∧ cc = 4 ∧ dd = 3) (h8 : G cc < 8) (hN : 2000 ≤ N) : (∀ e, spaS t G B cc dd (nx t p) = .error e → ∃ u', hX11_isSpanHere N m (nI (B + 3 * G cc)) (nI (G dd)) u = some (0, u') ∧ zI u' m 9 = nI e ∧ Fz (Fs m) u u') ∧ ∀ G' p', spaS t G B cc dd (nx t p) = .ok (G', p') → ∃ u', hX11_isSpanHere N m (nI (B + 3 * G cc)) (nI (G dd)) u = some (1, u') ∧ RP u' m t T p' ∧ RG (sI u' (m + 6) cc (nI (G cc + 1))) m G' ∧ zI u' (m + 6) cc = nI (G cc) ∧ zI u' m 9 = 0 ∧ Fz (Fs m) u u' := by
  obtain ⟨u1, e1, e2, e3⟩ := r_passW (N := N) h hT hs hN
  have h9' : zI u1 m 9 = 0 := by rw [e3.I (by unfold F8; omega)]; exact h9
  have hg' := hg.z e3 (fun k q => by unfold F8 at q; omega)
  obtain ⟨c1, c2⟩ := r_cell (N := N) (l := 0) (hi := nI (G dd) - 1) (k := B + 3 * G cc) e2 hT h9' hg' (by omega) hN
  unfold hX11_isSpanHere spaS
  rw [e1, cl_some]
  cases e : numS t (nx t p) 0 (nI (G dd) - 1) with
  | error e' =>
    refine ⟨fun e0 h0 => ?_, fun _ _ h0 => by cases h0⟩
    cases h0
    obtain ⟨u', a1, a2, a3⟩ := c1 e' e
    exact ⟨u', by rw [show hX11_cellHere N m (nI (B + 3 * G cc)) 0 (nI (G dd) - 1) u1 = some (0, u') from a1, cl_some, if_pos rfl], a2, (f8_s e3).tr a3⟩
  | ok X =>
    obtain ⟨u2, a1, a2, a3, a4, a5⟩ := c2 X e
    obtain ⟨d1, d2⟩ := r_cell (N := N) (l := 0) (hi := nI (G 0) - 1) (k := B + 3 * G cc + 1) a2 hT a4 a3 (by omega) hN
    rw [show hX11_cellHere N m (nI (B + 3 * G cc)) 0 (nI (G dd) - 1) u1 = some (1, u2) from a1, cl_some, if_neg (by decide), show nI (B + 3 * G cc) + (1 : Int32) = nI (B + 3 * G cc + 1) by rw [lit_1, nI_add], show nI (B + 3 * G cc) + (2 : Int32) = nI (B + 3 * G cc + 2) by rw [lit_2, nI_add], a3 0 (by decide), seG_n (by omega)]
    dsimp only
    cases e' : numS t (nx t (nx t p)) 0 (nI (G 0) - 1) with
    | error e'' =>
      refine ⟨fun e0 h0 => ?_, fun _ _ h0 => by cases h0⟩
      cases h0
      obtain ⟨u', b1, b2, b3⟩ := d1 e'' e'
      exact ⟨u', by rw [show hX11_cellHere N m (nI (B + 3 * G cc + 1)) 0 (nI (G 0) - 1) u2 = some (0, u') from b1, cl_some, if_pos rfl], b2, ((f8_s e3).tr a5).tr b3⟩
    | ok y =>
      obtain ⟨u3, b1, b2, b3, b4, b5⟩ := d2 y e'
      obtain ⟨q1, q2⟩ := r_cell (N := N) (l := y) (hi := nI (G 0) - 1) (k := B + 3 * G cc + 2) b2 hT b4 b3 (by omega) hN
      rw [show hX11_cellHere N m (nI (B + 3 * G cc + 1)) 0 (nI (G 0) - 1) u2 = some (1, u3) from b1, cl_some, if_neg (by decide), ixI (by omega) (by decide), nI_clamp (by omega), b3 (B + 3 * G cc + 1) (by omega), seG_s, b3 0 (by decide), seG_n (by omega), seG_n (by omega)]
      dsimp only
      cases e'' : numS t (nx t (nx t (nx t p))) y (nI (G 0) - 1) with
      | error e3' =>
        refine ⟨fun e0 h0 => ?_, fun _ _ h0 => by cases h0⟩
        cases h0
        obtain ⟨u', k1, k2, k3⟩ := q1 e3' e''
        exact ⟨u', by rw [k1, cl_some, if_pos rfl], k2, (((f8_s e3).tr a5).tr b5).tr k3⟩
      | ok z =>
        refine ⟨fun e0 h0 => (by cases h0), fun G' p' h0 => ?_⟩
        cases h0
        obtain ⟨u4, k1, k2, k3, k4, k5⟩ := q2 z e''
        exact ⟨u4, by rw [k1, cl_some, if_neg (by decide)], k2, k3.se cc (G cc + 1), by rw [k3 cc (by omega), seG_n (by omega), seG_n (by omega), seG_n (by omega)], k4, (((f8_s e3).tr a5).tr b5).tr k5⟩
theorem r_work {G : Nat → Nat} {p : Nat} (h : RX u m t T p) (hT : TP t T) (hs : isS (t p) = true) (h9 : zI u m 9 = 0) (hg : RG u m G) (h8 : G 2 < 8) (hN : 2000 ≤ N) : rQ m t T u (hX11_isWorkHere N m (nI p) u) (spaS t G 45 2 1 (nx t p)) := by
  obtain ⟨s1, s2⟩ := r_spanH (N := N) (B := 45) (cc := 2) (dd := 1) h hT hs h9 hg (Or.inl ⟨rfl, rfl, rfl⟩) h8 hN
  unfold hX11_isWorkHere
  rw [hg 2 (by decide), if_neg (by rw [lit_8, nI_eq (by omega) (by decide)]; omega), hg 1 (by decide), lit_45, lit_3, pk_mul, nI_add]
  cases e : spaS t G 45 2 1 (nx t p) with
  | error e' =>
    obtain ⟨u', a1, a2, a3⟩ := s1 e' e
    exact ⟨u', by rw [a1, cl_some, if_pos rfl], a2, a3⟩
  | ok r =>
    obtain ⟨G', p'⟩ := r
    obtain ⟨u', a1, a2, a3, a4, a5, a6⟩ := s2 G' p' e
    exact ⟨sI u' (m + 6) 2 (nI (G 2 + 1)), by rw [a1, cl_some, if_neg (by decide), bs_eq, a4, lit_1, nI_add], a2.se, a3, by rw [sI_n (by omega)]; exact a5, a6.tr se_s⟩
theorem r_lit {G : Nat → Nat} {p : Nat} (h : RX u m t T p) (hT : TP t T) (hs : isS (t p) = true) (h9 : zI u m 9 = 0) (hg : RG u m G) (h8 : G 4 < 8) (hN : 2000 ≤ N) : rQ m t T u (hX11_isLitHere N m (nI p) u) (spaS t G 79 4 3 (nx t p)) := by
  obtain ⟨s1, s2⟩ := r_spanH (N := N) (B := 79) (cc := 4) (dd := 3) h hT hs h9 hg (Or.inr ⟨rfl, rfl, rfl⟩) h8 hN
  unfold hX11_isLitHere
  rw [hg 4 (by decide), if_neg (by rw [lit_8, nI_eq (by omega) (by decide)]; omega), hg 3 (by decide), lit_79, lit_3, pk_mul, nI_add]
  cases e : spaS t G 79 4 3 (nx t p) with
  | error e' =>
    obtain ⟨u', a1, a2, a3⟩ := s1 e' e
    exact ⟨u', by rw [a1, cl_some, if_pos rfl], a2, a3⟩
  | ok r =>
    obtain ⟨G', p'⟩ := r
    obtain ⟨u', a1, a2, a3, a4, a5, a6⟩ := s2 G' p' e
    exact ⟨sI u' (m + 6) 4 (nI (G 4 + 1)), by rw [a1, cl_some, if_neg (by decide), bs_eq, a4, lit_1, nI_add], a2.se, a3, by rw [sI_n (by omega)]; exact a5, a6.tr se_s⟩
end STR
