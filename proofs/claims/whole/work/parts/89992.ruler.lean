/-! RULE: the reference's values, sums, comparisons -/
def FR (m τ : Nat) : Nat → Nat → Prop := fun a k => (a = m ∧ (k = 8 ∨ k = 9 ∨ k = 10 ∨ k = 12)) ∨ (a = m + 2 ∧ 400 * τ ≤ k ∧ k < 400 * τ + 400) ∨ (a = m + 3 ∧ k = τ)
def RSt (u : SG) (m : Nat) (t : Nat → Nat) (T τ : Nat) (L : List Nat) (k p : Nat) : Prop := RP u m t T p ∧ zI u m 9 = 0 ∧ zI u m 11 = nI τ ∧ zI u m 12 = nI k ∧ zI u (m + 3) τ = nI L.length ∧ ∀ (j d : Nat), L[j]? = some d → zI u (m + 2) (400 * τ + j) = nI d
def rR (m : Nat) (t : Nat → Nat) (T τ : Nat) (u : SG) (L : List Nat) (r : Option (Int32 × SG)) : PRs → Prop
  | .error e => ∃ u', r = some (0, u') ∧ zI u' m 9 = nI e ∧ Fz (FR m τ) u u'
  | .ok (cs, p', k') => ∃ u', r = some (1, u') ∧ RSt u' m t T τ (L ++ cs) k' p' ∧ Fz (FR m τ) u u'
def RJ (m : Nat) (t : Nat → Nat) (T τ : Nat) (F : Nat → Nat → PRs) (f : SG → Option (Int32 × SG)) : Prop := ∀ u L k p, RSt u m t T τ L k p → p ≤ T → L.length ≤ p → k ≤ 60 → rR m t T τ u L (f u) (F k p)
theorem wl_1 : (1752135026 : Int64) = lN (WC 1) := by decide
theorem wl_2 : (474214787188 : Int64) = lN (WC 2) := by decide
theorem wl_3 : (1852138852 : Int64) = lN (WC 3) := by decide
theorem wl_4 : (512970880104 : Int64) = lN (WC 4) := by decide
theorem wl_5 : (495739826292 : Int64) = lN (WC 5) := by decide
theorem wl_6 : (1818584692 : Int64) = lN (WC 6) := by decide
theorem wl_7 : (1668248436 : Int64) = lN (WC 7) := by decide
theorem wl_8 : (122545758368371 : Int64) = lN (WC 8) := by decide
theorem wl_9 : (107148367717744 : Int64) = lN (WC 9) := by decide
theorem wl_10 : (1870095716 : Int64) = lN (WC 10) := by decide
theorem wl_11 : (1684365940 : Int64) = lN (WC 11) := by decide
theorem wl_12 : (7305070 : Int64) = lN (WC 12) := by decide
theorem wl_17 : (495739823472 : Int64) = lN (WC 17) := by decide
theorem wl_18 : (26982 : Int64) = lN (WC 18) := by decide
theorem wl_19 : (28530 : Int64) = lN (WC 19) := by decide
theorem wl_20 : (6385252 : Int64) = lN (WC 20) := by decide
theorem wl_21 : (7237492 : Int64) = lN (WC 21) := by decide
section RULR
variable {N m T τ : Nat} {u : SG} {t : Nat → Nat}
theorem f8_R {v w : SG} (f : Fz (F8 m) v w) : Fz (FR m τ) v w := f.w (fun a k z => by unfold F8 at z; unfold FR; omega)
theorem RSt.to8 {v : SG} {L : List Nat} {k p q : Nat} (h : RSt u m t T τ L k p) (f : Fz (F8 m) u v) (hq : RP v m t T q) : RSt v m t T τ L k q := ⟨hq, by rw [f.I (by unfold F8; omega)]; exact h.2.1, by rw [f.I (by unfold F8; omega)]; exact h.2.2.1, by rw [f.I (by unfold F8; omega)]; exact h.2.2.2.1, by rw [f.I (by unfold F8; omega)]; exact h.2.2.2.2.1, fun j d hd => by rw [f.I (by unfold F8; omega)]; exact h.2.2.2.2.2 j d hd⟩
theorem r_seeR {L : List Nat} {k p : Nat} (h : RSt u m t T τ L k p) (hT : TP t T) (hN : 2000 ≤ N) : ∃ u', hX11_see N m u = some (btI (t p), u') ∧ RX u' m t T p ∧ RSt u' m t T τ L k p ∧ Fz (F8 m) u u' := by
  obtain ⟨u', e1, e2, e3⟩ := r_see (N := N) h.1 hT hN
  exact ⟨u', e1, e2, h.to8 e3 (e2.rp hT (h.1.le hT).2.1), e3⟩
/-- one byte on -/
theorem r_on {L : List Nat} {k p q : Nat} (h : RSt u m t T τ L k p) (hx : RX u m t T q) (hq : q + 1 ≤ T) : RSt (sI u m 8 (nI (q + 1))) m t T τ L k (sk t (q + 1)) ∧ RX (sI u m 8 (nI (q + 1))) m t T (q + 1) ∧ Fz (F8 m) u (sI u m 8 (nI (q + 1))) := by
  have f : Fz (F8 m) u (sI u m 8 (nI (q + 1))) := Fz.sI ⟨rfl, rfl⟩
  exact ⟨h.to8 f ⟨_, hx.to hq, rfl⟩, hx.to hq, f⟩
theorem r_puts {L : List Nat} {k p s v : Nat} (h : RSt u m t T τ L k p) (hτ : τ < 6) (hl : L.length < 400) : ∃ u', hX11_puts N m (nI s) (nI v) u = some ((), u') ∧ RSt u' m t T τ (L ++ [s + 16 * v]) k p ∧ Fz (fun a k => (a = m + 2 ∧ k = 400 * τ + L.length) ∨ (a = m + 3 ∧ k = τ)) u u' := by
  obtain ⟨h1, h2, h3, h4, h5, h6⟩ := h
  have f : Fz (fun a k => (a = m + 2 ∧ k = 400 * τ + L.length) ∨ (a = m + 3 ∧ k = τ)) u (sI (sI u (m + 2) (400 * τ + L.length) (nI (s + 16 * v))) (m + 3) τ (nI (L.length + 1))) := (Fz.sI (Or.inl ⟨rfl, rfl⟩)).tr (Fz.sI (Or.inr ⟨rfl, rfl⟩))
  refine ⟨_, ?_, ⟨h1.z f (by omega) (fun k => by omega) (by omega), by rw [f.I (by omega)]; exact h2, by rw [f.I (by omega)]; exact h3, by rw [f.I (by omega)]; exact h4, by rw [sI_s]; simp, fun j d hd => ?_⟩, f⟩
  · unfold hX11_puts
    rw [h3, ixI (by omega) (by decide), nI_clamp (by omega), h5, lit_400, pk_mul, nI_add, ixI (by omega) (by decide), bs_eq, nI_clamp (by omega), sI_n (by omega), h3, if_neg (nI_in (by omega) (by decide)), if_neg (nI_in (by omega) (by decide)), bs_eq, nI_clamp (by omega), sI_n (by omega), h5, lit_16, pk_mul, nI_add, lit_1, nI_add]
  · rw [sI_n (by omega)]
    by_cases q : j = L.length
    · subst q
      rw [List.getElem?_append_right (Nat.le_refl _), Nat.sub_self] at hd
      rw [sI_s]
      congr 1
      exact Option.some.inj hd
    · have hj : j < L.length := by
        have := (List.getElem?_eq_some_iff.mp hd).1
        rw [List.length_append] at this
        simp at this
        omega
      rw [List.getElem?_append_left hj] at hd
      rw [sI_n (by omega)]
      exact h6 j d hd
theorem fp_R {v w : SG} {l : Nat} (hl : l < 400) (f : Fz (fun a k => (a = m + 2 ∧ k = 400 * τ + l) ∨ (a = m + 3 ∧ k = τ)) v w) : Fz (FR m τ) v w := f.w (fun a k z => by unfold FR; omega)
theorem r_badR (h9 : zI u m 9 = 0) (k p : Nat) {L : List Nat} : rR m t T τ u L (cl (hX11_fails N m (nI k) (nI p) u) fun r6 u7 => (if r6 = 0 ∨ r6 = 1 then some (r6, u7) else none)) (.error (1 + 8 * p + k)) := ⟨_, by rw [r_fails0 h9, cl_some, if_pos (Or.inl rfl)], by rw [sI_s], Fz.sI (Or.inl ⟨rfl, Or.inr (Or.inl rfl)⟩)⟩
theorem sg_c (hT : TP t T) {p c : Nat} (hc : c < 256) (h1 : isD c = false) (h2 : isS c = false) (h3 : ¬ c = 60) (h4 : ¬ c = 62) : (sgO t p = some c ↔ t p = c) ∧ (t p = c → tE t p = p + 1) := by
  have tw : t p = c → two t p = false := fun e => by unfold two; rw [e, show (c == 60) = false by simpa using h3, show (c == 62) = false by simpa using h4]; rfl
  constructor
  · unfold sgO
    constructor
    · intro h
      split at h
      · cases h
      · split at h
        · have := Option.some.inj h; omega
        · exact Option.some.inj h
    · intro h
      rw [tw h, h, h1, h2, show (c == 256) = false by simp; omega]
      rfl
  · intro h
    unfold tE
    rw [tw h, h, h1, h2]
    simp
    omega
theorem r_makes {L : List Nat} {k p q : Nat} (h : RSt u m t T τ L k q) (hk : k ≤ 60) : (60 ≤ k → ∃ u', hX11_makes N m (nI p) u = some (0, u') ∧ zI u' m 9 = nI (1 + 8 * p + 3) ∧ Fz (FR m τ) u u') ∧ (k < 60 → hX11_makes N m (nI p) u = some (1, sI u m 12 (nI (k + 1))) ∧ RSt (sI u m 12 (nI (k + 1))) m t T τ L (k + 1) q ∧ Fz (FR m τ) u (sI u m 12 (nI (k + 1)))) := by
  unfold hX11_makes
  rw [h.2.2.2.1, show (60 : Int32) = nI 60 from rfl, ifeq (by omega) (by decide)]
  refine ⟨fun z => ?_, fun z => ?_⟩
  · rw [if_pos (by omega)]
    exact r_badR (t := t) (T := T) (L := []) h.2.1 3 p
  · have f : Fz (fun a k => a = m ∧ k = 12) u (sI u m 12 (nI (k + 1))) := Fz.sI ⟨rfl, rfl⟩
    refine ⟨by rw [if_neg (by omega), bs_eq, lit_1, nI_add], ⟨h.1.z f (by omega) (fun k => by omega) (by omega), by rw [f.I (by omega)]; exact h.2.1, by rw [f.I (by omega)]; exact h.2.2.1, by rw [sI_s], by rw [f.I (by omega)]; exact h.2.2.2.2.1, fun j d hd => by rw [f.I (by omega)]; exact h.2.2.2.2.2 j d hd⟩, f.w (fun a k q => by unfold FR; omega)⟩
def wlo (o : Option Nat) : Int32 := match o with
  | none => -1
  | some w => if w ≤ 12 then nI w else -1
theorem r_word {p : Nat} (h : RX u m t T p) (hT : TP t T) (hp : ¬ t p = 32) (hN : 2000 ≤ N) : ∃ u', hX11_wordHere N m u = some (wlo (wrO t p), u') ∧ RX u' m t T p ∧ Fz (F8 m) u u' := by
  have t1 : ¬ nI (b2n true) = 0 := by decide
  have t0 : nI (b2n false) = 0 := rfl
  have tt : ∀ j, wrO t p = some j → (wrO t p == some j) = true := fun j e => by rw [e, some_beq]; simp
  have tf : ∀ j, ¬ wrO t p = some j → (wrO t p == some j) = false := fun j e => by simpa using e
  obtain ⟨u0, e0, x0, f0⟩ := r_isWord (N := N) (j := 0) (h.rp hT hp) hT (by decide) hN
  obtain ⟨u1, e1, x1, f1⟩ := r_isWord (N := N) (j := 1) (x0.rp hT hp) hT (by decide) hN
  obtain ⟨u2, e2, x2, f2⟩ := r_isWord (N := N) (j := 2) (x1.rp hT hp) hT (by decide) hN
  obtain ⟨u3, e3, x3, f3⟩ := r_isWord (N := N) (j := 3) (x2.rp hT hp) hT (by decide) hN
  obtain ⟨u4, e4, x4, f4⟩ := r_isWord (N := N) (j := 4) (x3.rp hT hp) hT (by decide) hN
  obtain ⟨u5, e5, x5, f5⟩ := r_isWord (N := N) (j := 5) (x4.rp hT hp) hT (by decide) hN
  obtain ⟨u6, e6, x6, f6⟩ := r_isWord (N := N) (j := 6) (x5.rp hT hp) hT (by decide) hN
  obtain ⟨u7, e7, x7, f7⟩ := r_isWord (N := N) (j := 7) (x6.rp hT hp) hT (by decide) hN
  obtain ⟨u8, e8, x8, f8⟩ := r_isWord (N := N) (j := 8) (x7.rp hT hp) hT (by decide) hN
  obtain ⟨u9, e9, x9, f9⟩ := r_isWord (N := N) (j := 9) (x8.rp hT hp) hT (by decide) hN
  obtain ⟨u10, e10, x10, f10⟩ := r_isWord (N := N) (j := 10) (x9.rp hT hp) hT (by decide) hN
  obtain ⟨u11, e11, x11, f11⟩ := r_isWord (N := N) (j := 11) (x10.rp hT hp) hT (by decide) hN
  obtain ⟨u12, e12, x12, f12⟩ := r_isWord (N := N) (j := 12) (x11.rp hT hp) hT (by decide) hN
  unfold hX11_wordHere
  rw [wl_0, wl_1, wl_2, wl_3, wl_4, wl_5, wl_6, wl_7, wl_8, wl_9, wl_10, wl_11, wl_12, e0, cl_some]
  by_cases q0 : wrO t p = some 0
  · exact ⟨u0, by rw [tt 0 q0, if_neg t1, q0]; rfl, x0, f0⟩
  rw [tf 0 q0, if_pos t0, e1, cl_some]
  by_cases q1 : wrO t p = some 1
  · exact ⟨u1, by rw [tt 1 q1, if_neg t1, q1]; rfl, x1, (f0.tr f1)⟩
  rw [tf 1 q1, if_pos t0, e2, cl_some]
  by_cases q2 : wrO t p = some 2
  · exact ⟨u2, by rw [tt 2 q2, if_neg t1, q2]; rfl, x2, ((f0.tr f1).tr f2)⟩
  rw [tf 2 q2, if_pos t0, e3, cl_some]
  by_cases q3 : wrO t p = some 3
  · exact ⟨u3, by rw [tt 3 q3, if_neg t1, q3]; rfl, x3, (((f0.tr f1).tr f2).tr f3)⟩
  rw [tf 3 q3, if_pos t0, e4, cl_some]
  by_cases q4 : wrO t p = some 4
  · exact ⟨u4, by rw [tt 4 q4, if_neg t1, q4]; rfl, x4, ((((f0.tr f1).tr f2).tr f3).tr f4)⟩
  rw [tf 4 q4, if_pos t0, e5, cl_some]
  by_cases q5 : wrO t p = some 5
  · exact ⟨u5, by rw [tt 5 q5, if_neg t1, q5]; rfl, x5, (((((f0.tr f1).tr f2).tr f3).tr f4).tr f5)⟩
  rw [tf 5 q5, if_pos t0, e6, cl_some]
  by_cases q6 : wrO t p = some 6
  · exact ⟨u6, by rw [tt 6 q6, if_neg t1, q6]; rfl, x6, ((((((f0.tr f1).tr f2).tr f3).tr f4).tr f5).tr f6)⟩
  rw [tf 6 q6, if_pos t0, e7, cl_some]
  by_cases q7 : wrO t p = some 7
  · exact ⟨u7, by rw [tt 7 q7, if_neg t1, q7]; rfl, x7, (((((((f0.tr f1).tr f2).tr f3).tr f4).tr f5).tr f6).tr f7)⟩
  rw [tf 7 q7, if_pos t0, e8, cl_some]
  by_cases q8 : wrO t p = some 8
  · exact ⟨u8, by rw [tt 8 q8, if_neg t1, q8]; rfl, x8, ((((((((f0.tr f1).tr f2).tr f3).tr f4).tr f5).tr f6).tr f7).tr f8)⟩
  rw [tf 8 q8, if_pos t0, e9, cl_some]
  by_cases q9 : wrO t p = some 9
  · exact ⟨u9, by rw [tt 9 q9, if_neg t1, q9]; rfl, x9, (((((((((f0.tr f1).tr f2).tr f3).tr f4).tr f5).tr f6).tr f7).tr f8).tr f9)⟩
  rw [tf 9 q9, if_pos t0, e10, cl_some]
  by_cases q10 : wrO t p = some 10
  · exact ⟨u10, by rw [tt 10 q10, if_neg t1, q10]; rfl, x10, ((((((((((f0.tr f1).tr f2).tr f3).tr f4).tr f5).tr f6).tr f7).tr f8).tr f9).tr f10)⟩
  rw [tf 10 q10, if_pos t0, e11, cl_some]
  by_cases q11 : wrO t p = some 11
  · exact ⟨u11, by rw [tt 11 q11, if_neg t1, q11]; rfl, x11, (((((((((((f0.tr f1).tr f2).tr f3).tr f4).tr f5).tr f6).tr f7).tr f8).tr f9).tr f10).tr f11)⟩
  rw [tf 11 q11, if_pos t0, e12, cl_some]
  by_cases q12 : wrO t p = some 12
  · exact ⟨u12, by rw [tt 12 q12, if_neg t1, q12]; rfl, x12, ((((((((((((f0.tr f1).tr f2).tr f3).tr f4).tr f5).tr f6).tr f7).tr f8).tr f9).tr f10).tr f11).tr f12)⟩
  refine ⟨u12, ?_, x12, ((((((((((((f0.tr f1).tr f2).tr f3).tr f4).tr f5).tr f6).tr f7).tr f8).tr f9).tr f10).tr f11).tr f12)⟩
  rw [tf 12 q12, if_pos t0]
  congr 2
  cases ew : wrO t p with
  | none => rfl
  | some w =>
    rw [ew] at q0 q1 q2 q3 q4 q5 q6 q7 q8 q9 q10 q11 q12
    simp at q0 q1 q2 q3 q4 q5 q6 q7 q8 q9 q10 q11 q12
    show (-1 : Int32) = if w ≤ 12 then nI w else -1
    rw [if_neg (by omega)]
theorem r_value (hT : TP t T) (hτ : τ < 6) (hN : 2000 ≤ N) : RJ m t T τ (valS t) (hX11_value N m) := by
  have h4 := hT.1
  intro u L k p hs hp hl hk
  obtain ⟨u1, s1, x1, r1, f1⟩ := r_seeR (N := N) hs hT hN
  have np := (hs.1.le hT).2.1
  unfold hX11_value valS
  rw [s1, cl_some, bs_eq, x1.2.2.1, r_isDig x1 hT (by omega), cl_some]
  cases ed : isD (t p) with
  | true =>
    have dl := isD_lt ed
    have lt := t_lt hT (p := p) (by omega)
    rw [if_neg (show ¬ nI (b2n true) = 0 by decide), if_pos rfl]
    have hn := r_num (N := N) (l := 0) (hi := nI 99999) r1.1 hT r1.2.1 hN
    have w89 : ∀ {v w : SG}, Fz (F89 m) v w → Fz (FR m τ) v w := fun f => f.w (fun a k z => by unfold F89 at z; unfold FR; omega)
    unfold numS at hn
    cases en : nmO t p with
    | none =>
      rw [en, ed] at hn
      obtain ⟨u2, a1, a2, a3⟩ := hn
      exact ⟨u2, by rw [show hX11_numberHere N m 0 99999 u1 = some (0, u2) from a1, cl_some, if_pos rfl], a2, (f8_R f1).tr (w89 a3)⟩
    | some v =>
      have vl := nm_lt hT en
      rw [en] at hn
      dsimp only at hn
      rw [if_neg (fun z => by rcases z with z | z; exact nI_nlt (by omega) (by omega) z; exact nI_nlt (by omega) (by decide) z)] at hn
      obtain ⟨u2, a1, a2, a3, a4, a5, a6⟩ := hn
      have r2 : RSt u2 m t T τ L k (nx t p) := ⟨a2, a4, by rw [a5.I (by unfold F89; omega)]; exact r1.2.2.1, by rw [a5.I (by unfold F89; omega)]; exact r1.2.2.2.1, by rw [a5.I (by unfold F89; omega)]; exact r1.2.2.2.2.1, fun j d hd => by rw [a5.I (by unfold F89; omega)]; exact r1.2.2.2.2.2 j d hd⟩
      have fz := (f8_R (τ := τ) f1).tr (w89 a5)
      obtain ⟨m1, m2⟩ := r_makes (N := N) (p := p) r2 hk
      rw [show hX11_numberHere N m 0 99999 u1 = some (1, u2) from a1, cl_some, if_neg (by decide)]
      dsimp only
      by_cases q60 : 60 ≤ k
      · rw [if_pos q60]
        obtain ⟨u3, b1, b2, b3⟩ := m1 q60
        exact ⟨u3, by rw [b1, cl_some, if_pos rfl], b2, fz.tr b3⟩
      · rw [if_neg q60]
        obtain ⟨b1, b2, b3⟩ := m2 (by omega)
        obtain ⟨u4, d1, d2, d3⟩ := r_puts (N := N) (s := 0) (v := v) b2 hτ (by omega)
        refine ⟨u4, ?_, by rw [Nat.zero_add] at d2; exact d2, (fz.tr b3).tr (fp_R (by omega) d3)⟩
        rw [b1, cl_some, if_neg (by decide), sI_n (by omega), a3, show (0 : Int32) = nI 0 from rfl, d1, cl_some]
  | false =>
    rw [if_pos (show nI (b2n false) = 0 from rfl), if_neg (by decide)]
    obtain ⟨u2, e1, x2, f2⟩ := r_word (N := N) x1 hT np hN
    have r2 := r1.to8 f2 (x2.rp hT np)
    have fz := (f8_R (τ := τ) f1).tr (f8_R f2)
    rw [e1, cl_some]
    have bad : rR m t T τ u L (cl (hX11_fails N m (nI 0) (nI p) u2) fun r6 u7 => (if r6 = 0 ∨ r6 = 1 then some (r6, u7) else none)) (.error (1 + 8 * p + 0)) := by
      obtain ⟨w, w1, w2, w3⟩ := r_badR (N := N) (t := t) (T := T) (τ := τ) (L := L) r2.2.1 0 p
      exact ⟨w, w1, w2, fz.tr w3⟩
    cases ew : wrO t p with
    | none =>
      rw [if_neg (show ¬ 0 ≤ wlo none by decide)]
      exact bad
    | some w =>
      have w22 := wrO_lt ew
      dsimp only
      by_cases q12 : 12 < w
      · rw [if_pos q12, show wlo (some w) = -1 from if_neg (by omega), if_neg (by decide)]
        exact bad
      · rw [if_neg q12, show wlo (some w) = nI w from if_pos (by omega), if_pos (nI_pos' (by omega))]
        have hs' : isS (t p) = true := ((wrO_iff w22).mp ew).1
        obtain ⟨m1, m2⟩ := r_makes (N := N) (p := p) r2 hk
        by_cases q60 : 60 ≤ k
        · rw [if_pos q60]
          obtain ⟨u3, b1, b2, b3⟩ := m1 q60
          exact ⟨u3, by rw [b1, cl_some, if_pos rfl], b2, fz.tr b3⟩
        · rw [if_neg q60]
          obtain ⟨b1, b2, b3⟩ := m2 (by omega)
          have x3 : RX (sI u2 m 12 (nI (k + 1))) m t T p := x2.z (Fz.sI (S := fun a k => a = m ∧ k = 12) ⟨rfl, rfl⟩) (by omega) (fun k => by omega) (by omega)
          obtain ⟨u3, c1, c2, c3⟩ := r_passW (N := N) x3 hT hs' hN
          obtain ⟨u4, d1, d2, d3⟩ := r_puts (N := N) (s := 1) (v := w) (b2.to8 c3 c2) hτ (by have := (hs.1.le hT).1; have := wr_T hT ew; omega)
          refine ⟨u4, ?_, d2, ((fz.tr b3).tr (f8_R c3)).tr (fp_R (by have := wr_T hT ew; omega) d3)⟩
          rw [b1, cl_some, if_neg (by decide), c1, cl_some, show (1 : Int32) = nI 1 from rfl, d1, cl_some]
end RULR
