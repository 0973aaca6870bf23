/-! STREET: the reference's clauses -/
theorem wl_13 : (126943972648308 : Int64) = lN (WC 13) := by decide
theorem wl_0 : (123581014175598 : Int64) = lN (WC 0) := by decide
theorem wl_14 : (2003792491 : Int64) = lN (WC 14) := by decide
theorem wl_15 : (1818324336 : Int64) = lN (WC 15) := by decide
theorem wl_16 : (7104884 : Int64) = lN (WC 16) := by decide
theorem num_ok {t : Nat → Nat} {T p l v : Nat} {hi : Int32} (hT : TP t T) (h : numS t p l hi = .ok v) : v < 10 ^ 5 ∧ ¬ nI v < nI l ∧ ¬ hi < nI v := by
  unfold numS at h
  split at h
  · cases h
  · next w en =>
    split at h
    · cases h
    · next q =>
      cases h
      exact ⟨nm_lt hT en, fun z => q (Or.inl z), fun z => q (Or.inr z)⟩
def GZ (G : Nat → Nat) : Prop := (∀ k, 5 ≤ k → k < 10 → G k = 0) ∧ ∀ p, p < G 1 → ∀ j, 2 ≤ j → j < 6 → G (10 + 6 * p + j) = 0
section STQP
variable {t : Nat → Nat} {T : Nat}
theorem per_z {G : Nat → Nat} {a b j : Nat} (h1 : 2 ≤ j) (h2 : j < 6) : perG G a b (10 + 6 * G 1 + j) = 0 := by
  unfold perG
  rcases (by omega : j = 2 ∨ j = 3 ∨ j = 4 ∨ j = 5) with rfl | rfl | rfl | rfl
  · rw [seG_n (by omega), seG_n (by omega), seG_n (by omega), seG_n (by omega), seG_s]
  · rw [seG_n (by omega), seG_n (by omega), seG_n (by omega), seG_s]
  · rw [seG_n (by omega), seG_n (by omega), seG_s]
  · rw [seG_n (by omega), seG_s]
theorem spa_gz {G : Nat → Nat} {B c x y z : Nat} (g : GZ G) (hB : B = 45 ∧ c = 2 ∨ B = 79 ∧ c = 4) (g1 : G 1 ≤ 5) : GZ (spaG G B c x y z) := by
  refine ⟨fun k h1 h2 => by rw [spa_o (by omega) (by omega)]; exact g.1 k h1 h2, fun p hp j h1 h2 => ?_⟩
  rw [spa_o (by omega) (by omega)] at hp
  rw [spa_o (by omega) (by omega)]
  exact g.2 p hp j h1 h2
theorem cls_gi (hT : TP t T) {c p p' : Nat} {G G' : Nat → Nat} (h : clsS t c G p = .ok (G', p')) (g : GI c G) (gz : GZ G) : GI (c + 1) G' ∧ GZ G' := by
  have c40 := cls_ok h
  have g0 := g.1.1
  have g1 := g.1.2.1
  have g2 := g.1.2.2.1
  have g3 := g.1.2.2.2.1
  have g4 := g.1.2.2.2.2.1
  unfold clsS at h
  split at h
  · cases h
  · next w ew =>
    split at h
    · cases h
    · next q1 =>
      split at h
      · cases h
      · next q2 =>
        have qm : (w = 13 ↔ c = 0) := Decidable.byContradiction (fun z => q2 (Or.inr (Or.inl z)))
        have qf : fulS G w = false := by
          cases e : fulS G w
          · rfl
          · exact absurd (Or.inr (Or.inr e)) q2
        unfold fulS at qf
        split at h
        · next e13 =>
          have c0 := qm.mp e13
          subst c0
          unfold houS at h
          split at h
          · cases h
          · next v ev =>
            cases h
            obtain ⟨v1, v2, v3⟩ := num_ok hT ev
            have v4 := le_of_nlt (by decide) (by omega) v2
            have v5 := le_of_nlt (by omega) (by decide) v3
            have z1 := (g.2.1 rfl).2.1
            exact ⟨hou_gb g v4 v5, fun k h1 h2 => by rw [seG_n (by omega)]; exact gz.1 k h1 h2, fun p hp => by rw [seG_n (by omega)] at hp; omega⟩
        · next e13 =>
          have cp : 0 < c := by
            rcases Nat.eq_zero_or_pos c with z | z
            · exact absurd (qm.mpr z) e13
            · exact z
          have h0 := g.2.2 cp
          split at h
          · next e0 =>
            have h5 : G 1 < 5 := by rw [e0] at qf; simp at qf; omega
            unfold perS at h
            split at h
            · cases h
            · next a ea =>
              split at h
              · cases h
              · next b eb =>
                cases h
                obtain ⟨v1, v2, v3⟩ := num_ok hT ea
                obtain ⟨w1, w2, w3⟩ := num_ok hT eb
                have v5 := le_of_nlt (by omega) (by omega) v3
                have w5 := le_of_nlt (by omega) (by decide) w3
                refine ⟨⟨per_gb g.1 h5 h0 v5 w5, fun z => by omega, fun _ => by rw [per_o (by omega) (by omega)]; exact h0⟩, fun k h1 h2 => by rw [per_o (by omega) (by omega)]; exact gz.1 k h1 h2, fun p hp j h1 h2 => ?_⟩
                rw [per_1] at hp
                by_cases q : p = G 1
                · subst q; exact per_z h1 h2
                · rw [per_o (by omega) (by omega)]; exact gz.2 p (by omega) j h1 h2
          · next e0 =>
            split at h
            · next e15 =>
              have h5 : G 3 < 5 := by rw [e15] at qf; simp at qf; omega
              unfold lamS at h
              split at h
              · cases h
              · next a ea =>
                split at h
                · cases h
                · next b eb =>
                  cases h
                  obtain ⟨v1, v2, v3⟩ := num_ok hT ea
                  obtain ⟨w1, w2, w3⟩ := num_ok hT eb
                  have v5 : a ≤ 9 := by
                    split at v3
                    · exact le_of_nlt (by omega) (by decide) v3
                    · have := lt_of_nlt1 (by omega) (by omega) v3; omega
                  have w5 := le_of_nlt (by omega) (by decide) w3
                  refine ⟨⟨lam_gb g.1 h5 h0 v5 w5, fun z => by omega, fun _ => by rw [lam_o (by omega) (by omega)]; exact h0⟩, fun k h1 h2 => by rw [lam_o (by omega) (by omega)]; exact gz.1 k h1 h2, fun p hp j h1 h2 => ?_⟩
                  rw [lam_o (by omega) (by omega)] at hp
                  rw [lam_o (by omega) (by omega)]
                  exact gz.2 p hp j h1 h2
            · next e15 =>
              have spx : ∀ {B cc dd p : Nat} {G' : Nat → Nat} {p' : Nat}, G dd ≤ 5 → spaS t G B cc dd p = .ok (G', p') → ∃ x y z, G' = spaG G B cc x y z ∧ x < G dd ∧ y ≤ z ∧ z < G 0 := by
                intro B cc dd p G' p' hd h
                unfold spaS at h
                split at h
                · cases h
                · next a ea =>
                  split at h
                  · cases h
                  · next b eb =>
                    split at h
                    · cases h
                    · next z ez =>
                      cases h
                      obtain ⟨v1, v2, v3⟩ := num_ok hT ea
                      obtain ⟨w1, w2, w3⟩ := num_ok hT eb
                      obtain ⟨z1, z2, z3⟩ := num_ok hT ez
                      exact ⟨a, b, z, rfl, lt_of_nlt1 (by omega) (by omega) v3, le_of_nlt (by omega) (by omega) z2, lt_of_nlt1 (by omega) (by omega) z3⟩
              split at h
              · next e14 =>
                have h8 : G 2 < 8 := by rw [e14] at qf; simp at qf; omega
                obtain ⟨x, y, z, rfl, hx, hy, hz⟩ := spx g1 h
                exact ⟨⟨spw_gb g.1 h8 h0 hx hy hz, fun z => by omega, fun _ => by rw [spa_o (by omega) (by omega)]; exact h0⟩, spa_gz gz (Or.inl ⟨rfl, rfl⟩) g1⟩
              · next e14 =>
                have h8 : G 4 < 8 := by
                  have : w = 16 := by omega
                  rw [this] at qf; simp at qf; omega
                obtain ⟨x, y, z, rfl, hx, hy, hz⟩ := spx g3 h
                exact ⟨⟨spl_gb g.1 h8 h0 hx hy hz, fun z => by omega, fun _ => by rw [spa_o (by omega) (by omega)]; exact h0⟩, spa_gz gz (Or.inr ⟨rfl, rfl⟩) g1⟩
end STQP
def Fs4 (m : Nat) : Nat → Nat → Prop := fun a k => (a = m ∧ (k = 8 ∨ k = 9 ∨ k = 10 ∨ k = 14)) ∨ a = m + 6
def qQ (m : Nat) (t : Nat → Nat) (T c : Nat) (u : SG) (r : Option (Int32 × SG)) : SR → Prop
  | .error e => ∃ u', r = some (0, u') ∧ zI u' m 9 = nI e ∧ Fz (Fs4 m) u u'
  | .ok (G', p') => ∃ u', r = some (1, u') ∧ RP u' m t T p' ∧ RG u' m G' ∧ zI u' m 9 = 0 ∧ zI u' m 14 = nI c ∧ Fz (Fs4 m) u u'
section STQ
variable {N m T : Nat} {u : SG} {t : Nat → Nat}
theorem some_beq (i j : Nat) : (some i == some j) = decide (i = j) := by
  by_cases q : i = j
  · subst q; simp
  · rw [decide_eq_false q]; simpa using q
theorem r_line {G : Nat → Nat} {p c w : Nat} (h : RX u m t T p) (hT : TP t T) (hp : ¬ t p = 32) (ew : wrO t p = some w) (hw : w = 0 ∨ 13 ≤ w ∧ w ≤ 16) (h9 : zI u m 9 = 0) (hg : RG u m G) (g : GI c G) (hN : 2000 ≤ N) : rQ m t T u (hX11_streetLineHere N m (nI p) u) (if ¬ (w = 13 ↔ c = 0) ∨ fulS G w = true then .error (1 + 8 * p + 4) else if w = 13 then houS t G (nx t p) else if w = 0 then perS t G (nx t p) else if w = 15 then lamS t G (nx t p) else if w = 14 then spaS t G 45 2 1 (nx t p) else spaS t G 79 4 3 (nx t p)) := by
  have g0 := g.1.1
  have g1 := g.1.2.1
  have g2 := g.1.2.2.1
  have g3 := g.1.2.2.2.1
  have g4 := g.1.2.2.2.2.1
  have hs : isS (t p) = true := ((wrO_iff (wrO_lt ew)).mp ew).1
  obtain ⟨u1, e1, x1, f1⟩ := r_isWord (N := N) (j := 13) (h.rp hT hp) hT (by decide) hN
  rw [ew, some_beq] at e1
  have hg1 := hg.z f1 (fun k q => by unfold F8 at q; omega)
  have h91 : zI u1 m 9 = 0 := by rw [f1.I (by unfold F8; omega)]; exact h9
  unfold hX11_streetLineHere
  rw [wl_13, e1, cl_some]
  by_cases q13 : w = 13
  · subst q13
    rw [if_neg (show ¬ nI (b2n (decide (13 = 13))) = 0 by decide)]
    by_cases c0 : c = 0
    · subst c0
      rw [if_neg (fun z => by rcases z with z | z; exact z ⟨fun _ => rfl, fun _ => rfl⟩; simp [fulS] at z), if_pos rfl]
      exact (r_hours x1 hT hs h91 hg1 (g.2.1 rfl).1 hN).wrap (f8_s f1)
    · rw [if_pos (Or.inl (fun z => c0 (z.mp rfl)))]
      have : rQ m t T u1 (hX11_isStreetHere N m (nI p) u1) (.error (1 + 8 * p + 4)) := by
        unfold hX11_isStreetHere
        have := g.2.2 (by omega)
        rw [hg1 0 (by decide), if_neg (nI_nle (by omega) (by omega))]
        exact r_bad h91 4 p
      exact this.wrap (f8_s f1)
  · rw [decide_eq_false q13, if_pos (show nI (b2n false) = 0 from rfl), hg1 0 (by decide)]
    by_cases c0 : c = 0
    · have := (g.2.1 c0).1
      rw [this, if_pos (show nI 0 = 0 from rfl), if_pos (Or.inl (fun z => q13 (z.mpr c0)))]
      exact (r_bad h91 4 p).fr (f8_s f1)
    · have hG0 := g.2.2 (by omega)
      have qm : (w = 13 ↔ c = 0) := ⟨fun z => absurd z q13, fun z => absurd z c0⟩
      rw [if_neg (nI_ne0 (by omega) (by omega))]
      obtain ⟨u2, e2, x2, f2⟩ := r_isWord (N := N) (j := 0) (x1.rp hT hp) hT (by decide) hN
      rw [ew, some_beq] at e2
      have hg2 := hg1.z f2 (fun k q => by unfold F8 at q; omega)
      have h92 : zI u2 m 9 = 0 := by rw [f2.I (by unfold F8; omega)]; exact h91
      rw [wl_0, e2, cl_some]
      by_cases q0 : w = 0
      · subst q0
        rw [if_neg (show ¬ nI (b2n (decide (0 = 0))) = 0 by decide)]
        by_cases h5 : G 1 < 5
        · rw [if_neg (fun z => by rcases z with z | z; exact z qm; simp [fulS] at z; omega), if_neg q13, if_pos rfl]
          exact (r_person x2 hT hs h92 hg2 h5 hN).wrap (f8_s (f1.tr f2))
        · rw [if_pos (Or.inr (by simp [fulS]; omega))]
          have : rQ m t T u2 (hX11_isPersonHere N m (nI p) u2) (.error (1 + 8 * p + 4)) := by
            unfold hX11_isPersonHere
            rw [hg2 1 (by decide), if_pos (by rw [show G 1 = 5 by omega]; rfl)]
            exact r_bad h92 4 p
          exact this.wrap (f8_s (f1.tr f2))
      · rw [decide_eq_false q0, if_pos (show nI (b2n false) = 0 from rfl)]
        obtain ⟨u3, e3, x3, f3⟩ := r_isWord (N := N) (j := 14) (x2.rp hT hp) hT (by decide) hN
        rw [ew, some_beq] at e3
        have hg3 := hg2.z f3 (fun k q => by unfold F8 at q; omega)
        have h93 : zI u3 m 9 = 0 := by rw [f3.I (by unfold F8; omega)]; exact h92
        rw [wl_14, e3, cl_some]
        by_cases q14 : w = 14
        · subst q14
          rw [if_neg (show ¬ nI (b2n (decide (14 = 14))) = 0 by decide)]
          by_cases h8 : G 2 < 8
          · rw [if_neg (fun z => by rcases z with z | z; exact z qm; simp [fulS] at z; omega), if_neg q13, if_neg q0, if_neg (by decide), if_pos rfl]
            exact (r_work x3 hT hs h93 hg3 h8 hN).wrap (f8_s ((f1.tr f2).tr f3))
          · rw [if_pos (Or.inr (by simp [fulS]; omega))]
            have : rQ m t T u3 (hX11_isWorkHere N m (nI p) u3) (.error (1 + 8 * p + 4)) := by
              unfold hX11_isWorkHere
              rw [hg3 2 (by decide), if_pos (by rw [show G 2 = 8 by omega]; rfl)]
              exact r_bad h93 4 p
            exact this.wrap (f8_s ((f1.tr f2).tr f3))
        · rw [decide_eq_false q14, if_pos (show nI (b2n false) = 0 from rfl)]
          obtain ⟨u4, e4, x4, f4⟩ := r_isWord (N := N) (j := 15) (x3.rp hT hp) hT (by decide) hN
          rw [ew, some_beq] at e4
          have hg4 := hg3.z f4 (fun k q => by unfold F8 at q; omega)
          have h94 : zI u4 m 9 = 0 := by rw [f4.I (by unfold F8; omega)]; exact h93
          have f14 := ((f1.tr f2).tr f3).tr f4
          rw [wl_15, e4, cl_some]
          by_cases q15 : w = 15
          · subst q15
            rw [if_neg (show ¬ nI (b2n (decide (15 = 15))) = 0 by decide)]
            by_cases h5 : G 3 < 5
            · rw [if_neg (fun z => by rcases z with z | z; exact z qm; simp [fulS] at z; omega), if_neg q13, if_neg q0, if_pos rfl]
              exact (r_lamp x4 hT hs h94 hg4 h5 g1 hN).wrap (f8_s f14)
            · rw [if_pos (Or.inr (by simp [fulS]; omega))]
              have : rQ m t T u4 (hX11_isLampHere N m (nI p) u4) (.error (1 + 8 * p + 4)) := by
                unfold hX11_isLampHere
                rw [hg4 3 (by decide), if_pos (by rw [show G 3 = 5 by omega]; rfl)]
                exact r_bad h94 4 p
              exact this.wrap (f8_s f14)
          · have q16 : w = 16 := by omega
            subst q16
            rw [decide_eq_false q15, if_pos (show nI (b2n false) = 0 from rfl)]
            by_cases h8 : G 4 < 8
            · rw [if_neg (fun z => by rcases z with z | z; exact z qm; simp [fulS] at z; omega), if_neg q13, if_neg q0, if_neg q15, if_neg q14]
              exact (r_lit x4 hT hs h94 hg4 h8 hN).wrap (f8_s f14)
            · rw [if_pos (Or.inr (by simp [fulS]; omega))]
              have : rQ m t T u4 (hX11_isLitHere N m (nI p) u4) (.error (1 + 8 * p + 4)) := by
                unfold hX11_isLitHere
                rw [hg4 4 (by decide), if_pos (by rw [show G 4 = 8 by omega]; rfl)]
                exact r_bad h94 4 p
              exact this.wrap (f8_s f14)
end STQ
