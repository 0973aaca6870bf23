/-! STREET: the class, the whole -/
def tpA (A : AT) : Nat → Nat := fun p => if p < aT A then aB A p else 256
theorem tpA_ok {c : Nat} {A : AT} (hA : Aok c A) : TP (tpA A) (aT A) := ⟨hA.1, fun p hp => by unfold tpA; rw [if_pos hp]; exact hA.2.1 p, fun p hp => by unfold tpA; rw [if_neg (by omega)]⟩
def M0 : MT := (0, 0, 0, fun _ => false, fun _ => 0, fun _ => 0, fun _ => 0, fun _ => 0)
theorem bset_f (n : Nat) : bset (fun _ => false) n = 0 := by
  induction n with
  | zero => rfl
  | succ n ih => rw [bset, ih]; rfl
def aT0 (A : AT) : AT := (0, aB A, aR A, aS A, aV A, aI A)
def aSt (A : AT) (G : Nat → Nat) : AT := (0, aB A, aR A, (G, M0, sF (aS A), 0, sf (aS A), sx (aS A)), [], aI A)
theorem cls_ok {t : Nat → Nat} {c p : Nat} {G : Nat → Nat} {r : (Nat → Nat) × Nat} (h : clsS t c G p = .ok r) : c < 40 := by
  unfold clsS at h
  split at h
  · cases h
  · split at h
    · cases h
    · split at h
      · cases h
      · next q => exact Nat.lt_of_not_le (fun z => q (Or.inl z))
theorem sg_lt {t : Nat → Nat} {T p v : Nat} (hT : TP t T) (h : sgO t p = some v) : v < 512 := by
  have := t_le hT p
  unfold sgO at h
  split at h
  · cases h
  · next q =>
    simp at q
    cases h
    split <;> omega
theorem sg_eq {t : Nat → Nat} {T p c : Nat} (hT : TP t T) (hc : c < 2 ^ 31) : foI (sgO t p) = nI c ↔ sgO t p = some c := by
  cases e : sgO t p with
  | none => exact ⟨fun z => absurd z.symm (foI_ne hc), fun z => by cases z⟩
  | some v =>
    have := sg_lt hT e
    show nI v = nI c ↔ _
    rw [nI_eq (by omega) hc]
    simp
section STE
variable {N x T : Nat} {u : SG} {t : Nat → Nat}
theorem c_sign {p c : Nat} (h : TX u (x + 1) t T p) (hT : TP t T) (hc : c < 2 ^ 31) : (sgO t p = some c → ∃ u', hX9_takeSign N (x + 1) (nI c) u = some (1, u') ∧ TX u' (x + 1) t T (nx t p) ∧ Fz (Fst (x + 1)) u u') ∧ (¬ sgO t p = some c → hX9_takeSign N (x + 1) (nI c) u = some (0, sI u (x + 1) 2 (nI (1 + 8 * p + 0)))) := by
  obtain ⟨-, -, -, t11⟩ := h.at
  unfold hX9_takeSign
  rw [t11]
  refine ⟨fun e => ?_, fun e => ?_⟩
  · obtain ⟨u', e1, e2, e3⟩ := c_step (N := N) hT h
    exact ⟨u', by rw [if_pos ((sg_eq hT hc).mpr e), e1, cl_some], e2, e3⟩
  · rw [if_neg (fun z => e ((sg_eq hT hc).mp z)), show (0 : Int32) = nI 0 from rfl, c_refuse h, cl_some]
    exact if_pos (Or.inl rfl)
def iQ (x : Nat) (u : SG) (r : Option (Int32 × SG)) : Except Nat (Nat → Nat) → Prop
  | .error e => ∃ u', r = some (nI e, u') ∧ Fz (Cw x) u u' ∧ 1 ≤ e ∧ e ≤ 4000
  | .ok G' => ∃ u', r = some (0, u') ∧ Str u' (x + 9) G' ∧ Gb G' ∧ 2 ≤ G' 0 ∧ Fz (Cw x) u u'
theorem tk_0 (hT : TP t T) {p : Nat} : nI (tK t p) = 0 ↔ t p = 256 := by
  unfold tK
  by_cases q : t p = 256
  · rw [if_pos q]; exact ⟨fun _ => q, fun _ => rfl⟩
  · rw [if_neg q]
    refine ⟨fun z => ?_, fun z => absurd z q⟩
    split at z
    · exact absurd z (by decide)
    · split at z <;> exact absurd z (by decide)
theorem c_into (hT : TP t T) (hN : 2000 ≤ N) : ∀ n c G p f u, c + n = 41 → n ≤ f → TX u (x + 1) t T p → p ≤ T → Str u (x + 9) G → GI c G → zN u (x + 9 + 5) = 10 → zN u (x + 9 + 6) = 10 → 0 < n → iQ x u (hgX8_readInto_13 N f (x + 6) (x + 9) (nI c) u) (strS t n c G p) := by
  have h4 := hT.1
  intro n
  induction n with
  | zero => intro c G p f u _ _ _ _ _ _ _ _ h; omega
  | succ n ih =>
    intro c G p f u hc hf h hp hs g n5 n6 _
    obtain ⟨f, rfl⟩ : ∃ f', f = f' + 1 := ⟨f - 1, by omega⟩
    have hcl := c_clause (N := N) h hT hp hs g (by omega) n5 n6 hN
    rw [hgX8_readInto_13, strS, show x + 6 - 5 = x + 1 from rfl, show (40 : Int32) = nI 40 from rfl, if_neg (nI_nlt (by omega) (by decide))]
    cases e : clsS t c G p with
    | error e' =>
      rw [e] at hcl
      obtain ⟨u', h1, h2, h3, h4', h5⟩ := hcl
      exact ⟨u', by rw [h1, cl_some, if_pos rfl, h2], h3, h4', h5⟩
    | ok r =>
      obtain ⟨G', p'⟩ := r
      have c40 := cls_ok e
      rw [e] at hcl
      obtain ⟨u', h1, h2, h3, h4', h5, h6⟩ := hcl
      rw [h1, cl_some, if_neg (by decide), h2.at.1]
      dsimp only
      by_cases q : t p' = 256
      · rw [if_pos ((tk_0 hT).mpr q), if_pos q]
        exact ⟨u', rfl, h3, h4'.1, h4'.2.2 (by omega), h6⟩
      · rw [if_neg (fun z => q ((tk_0 hT).mp z)), if_neg q]
        obtain ⟨s1, s2⟩ := c_sign (N := N) h2 hT (show 59 < 2 ^ 31 by decide)
        rw [show (59 : Int32) = nI 59 from rfl]
        by_cases q2 : sgO t p' = some 59
        · obtain ⟨u2, k1, k2, k3⟩ := s1 q2
          rw [if_pos q2, k1, cl_some, if_neg (by decide), lit_1, nI_add]
          have := ih (c + 1) G' (nx t p') f u2 (by omega) (by omega) k2 (nx_le hT h5).2 (h3.st k3) h4' (by rw [k3.N, h6.N]; exact n5) (by rw [k3.N, h6.N]; exact n6) (by omega)
          have fz := h6.tr (fst_cw k3)
          match strS t n (c + 1) G' (nx t p'), this with
          | .error e, ⟨w, w1, w2, w3⟩ => exact ⟨w, w1, fz.tr w2, w3⟩
          | .ok G2, ⟨w, w1, w2, w3, w4, w5⟩ => exact ⟨w, w1, w2, w3, w4, fz.tr w5⟩
        · rw [if_neg q2, s2 q2, cl_some, if_pos rfl]
          exact ⟨_, by rw [sI_s], h6.tr sI2_cw, by omega, by omega⟩
theorem c_clr {G : Nat → Nat} (a : Nat) (g1 : G 1 ≤ 5) (hN : 2000 ≤ N) : ∃ u', hX2_clear N a u = some ((), u') ∧ Mom u' a G M0 ∧ Fz (fun b _ => a ≤ b ∧ b ≤ a + 3) u u' := by
  unfold hX2_clear
  simp only [bs_eq]
  generalize e1 : sL (sI (sI (sI (sI (sI u a 0 0) a 1 0) a 2 0) a 3 0) a 4 0) (a + 3) 5 0 = v
  have f1 : Fz (fun b _ => a ≤ b ∧ b ≤ a + 3) u v := by
    rw [← e1]
    exact (((((Fz.sI ⟨by omega, by omega⟩).tr (Fz.sI ⟨by omega, by omega⟩)).tr (Fz.sI ⟨by omega, by omega⟩)).tr (Fz.sI ⟨by omega, by omega⟩)).tr (Fz.sI ⟨by omega, by omega⟩)).tr (Fz.sL ⟨by omega, by omega⟩)
  have z0 : zI v a 0 = 0 := by rw [← e1, sL_I, sI_n (by omega), sI_n (by omega), sI_n (by omega), sI_n (by omega), sI_s]
  have z1 : zI v a 1 = 0 := by rw [← e1, sL_I, sI_n (by omega), sI_n (by omega), sI_n (by omega), sI_s]
  have z2 : zI v a 2 = 0 := by rw [← e1, sL_I, sI_n (by omega), sI_n (by omega), sI_s]
  have z3 : zI v a 3 = 0 := by rw [← e1, sL_I, sI_n (by omega), sI_s]
  have z4 : zI v a 4 = 0 := by rw [← e1, sL_I, sI_s]
  have z5 : zL v (a + 3) 5 = 0 := by rw [← e1, sL_s]
  refine lps (fun n k w => hgX2_clear_34 N n a (nI k) w) 5 (fun k w => Fz (fun b _ => a ≤ b ∧ b ≤ a + 3) u w ∧ (∀ j, j < 5 → zI w a j = 0) ∧ zL w (a + 3) 5 = 0 ∧ ∀ j, j < k → zI w (a + 1) j = 0 ∧ zI w (a + 2) j = 0 ∧ zL w (a + 3) j = 0) (fun r => ∃ u', r = some ((), u') ∧ Mom u' a G M0 ∧ Fz (fun b _ => a ≤ b ∧ b ≤ a + 3) u u') ?_ ?_ N 0 v (by omega) (by omega) ⟨f1, fun j hj => ?_, z5, fun j hj => by omega⟩
  · rintro n w ⟨h1, h2, h3, h4⟩
    refine ⟨w, by rw [hgX2_clear_34, lit_5, if_pos (nI_le (by omega) (by decide))], ⟨h2 0 (by omega), h2 1 (by omega), ?_, ?_, ?_, fun p hp => ?_, h3⟩, h1⟩
    · rw [h2 2 (by omega)]
      show (0 : Int32) = nI (bset (fun _ => false) (G 1))
      rw [bset_f]
      rfl
    · rw [h2 3 (by omega)]
      show (0 : Int32) = nI (bset (fun _ => false) (G 3))
      rw [bset_f]
      rfl
    · rw [h2 4 (by omega)]
      show (0 : Int32) = nI (bset (fun _ => false) (G 3))
      rw [bset_f]
      rfl
    · exact h4 p (by omega)
  · rintro n k w hk ⟨h1, h2, h3, h4⟩
    refine ⟨sL (sI (sI w (a + 1) k 0) (a + 2) k 0) (a + 3) k 0, ⟨((h1.tr (Fz.sI ⟨by omega, by omega⟩)).tr (Fz.sI ⟨by omega, by omega⟩)).tr (Fz.sL ⟨by omega, by omega⟩), fun j hj => by rw [sL_I, sI_n (by omega), sI_n (by omega)]; exact h2 j hj, by rw [sL_n (by omega), sI_L, sI_L]; exact h3, fun j hj => ?_⟩, ?_⟩
    · by_cases q : j = k
      · subst q
        exact ⟨by rw [sL_I, sI_n (by omega), sI_s], by rw [sL_I, sI_s], by rw [sL_s]⟩
      · obtain ⟨y1, y2, y3⟩ := h4 j (by omega)
        exact ⟨by rw [sL_I, sI_n (by omega), sI_n (by omega)]; exact y1, by rw [sL_I, sI_n (by omega), sI_n (by omega)]; exact y2, by rw [sL_n (by omega), sI_L, sI_L]; exact y3⟩
    · rw [hgX2_clear_34, lit_5, if_neg (nI_ge hk (by decide)), ixI hk (by decide), bs_eq, nI_clamp (by omega), if_neg (fun z => z.elim (nI_pos (by omega)) (by omega)), bs_eq, if_neg (fun z => z.elim (nI_pos (by omega)) (by omega)), bs_eq, lit_1, nI_add]
  · rcases (by omega : j = 0 ∨ j = 1 ∨ j = 2 ∨ j = 3 ∨ j = 4) with rfl | rfl | rfl | rfl | rfl <;> assumption
theorem c_sclr {G : Nat → Nat} (a : Nat) (g0 : G 0 = 0) (g1 : G 1 = 0) (g2 : G 2 = 0) (g3 : G 3 = 0) (g4 : G 4 = 0) (hN : 2000 ≤ N) : ∃ u', hX7_clear N a u = some ((), u') ∧ Str u' a G ∧ Fz (fun b _ => a ≤ b ∧ b ≤ a + 6) u u' := by
  unfold hX7_clear
  simp only [bs_eq]
  generalize e1 : sI (sI (sI (sI (sI u a 6 0) a 7 0) a 8 0) a 9 0) a 10 0 = v
  have f1 : Fz (fun b _ => a ≤ b ∧ b ≤ a + 6) u v := by
    rw [← e1]
    exact ((((Fz.sI ⟨by omega, by omega⟩).tr (Fz.sI ⟨by omega, by omega⟩)).tr (Fz.sI ⟨by omega, by omega⟩)).tr (Fz.sI ⟨by omega, by omega⟩)).tr (Fz.sI ⟨by omega, by omega⟩)
  have z6 : zI v a 6 = 0 := by rw [← e1, sI_n (by omega), sI_n (by omega), sI_n (by omega), sI_n (by omega), sI_s]
  have z7 : zI v a 7 = 0 := by rw [← e1, sI_n (by omega), sI_n (by omega), sI_n (by omega), sI_s]
  have z8 : zI v a 8 = 0 := by rw [← e1, sI_n (by omega), sI_n (by omega), sI_s]
  have z9 : zI v a 9 = 0 := by rw [← e1, sI_n (by omega), sI_s]
  have z10 : zI v a 10 = 0 := by rw [← e1, sI_s]
  refine lps (fun n k w => hgX7_clear_27 N n a (nI k) w) 10 (fun k w => Fz (fun b _ => a ≤ b ∧ b ≤ a + 6) u w ∧ (∀ j, 6 ≤ j → j ≤ 10 → zI w a j = 0) ∧ ∀ j, j < k → zI w (a + 5) j = 0 ∧ zI w (a + 6) j = 0) (fun r => ∃ u', r = some ((), u') ∧ Str u' a G ∧ Fz (fun b _ => a ≤ b ∧ b ≤ a + 6) u u') ?_ ?_ N 0 v (by omega) (by omega) ⟨f1, fun j h1 h2 => ?_, fun j hj => by omega⟩
  · rintro n w ⟨h1, h2, h3⟩
    refine ⟨w, by rw [hgX7_clear_27, lit_10, if_pos (nI_le (by omega) (by decide))], ⟨by rw [h2 6 (by omega) (by omega), g0]; rfl, by rw [h2 7 (by omega) (by omega), g1]; rfl, by rw [h2 8 (by omega) (by omega), g2]; rfl, by rw [h2 9 (by omega) (by omega), g3]; rfl, by rw [h2 10 (by omega) (by omega), g4]; rfl, fun p hp => by omega, fun l hl => by omega, fun h hh => ?_⟩, h1⟩
    rw [g1, g3]
    exact h3 h hh
  · rintro n k w hk ⟨h1, h2, h3⟩
    refine ⟨sI (sI w (a + 5) k 0) (a + 6) k 0, ⟨(h1.tr (Fz.sI ⟨by omega, by omega⟩)).tr (Fz.sI ⟨by omega, by omega⟩), fun j q1 q2 => by rw [sI_n (by omega), sI_n (by omega)]; exact h2 j q1 q2, fun j hj => ?_⟩, ?_⟩
    · by_cases q : j = k
      · subst q
        exact ⟨by rw [sI_n (by omega), sI_s], by rw [sI_s]⟩
      · rw [sI_n (by omega), sI_n (by omega), sI_n (by omega), sI_n (by omega)]
        exact h3 j (by omega)
    · rw [hgX7_clear_27, lit_10, if_neg (nI_ge hk (by decide)), ixI hk (by decide), bs_eq, nI_clamp (by omega), if_neg (fun z => z.elim (nI_pos (by omega)) (by omega)), bs_eq, lit_1, nI_add]
  · rcases (by omega : j = 6 ∨ j = 7 ∨ j = 8 ∨ j = 9 ∨ j = 10) with rfl | rfl | rfl | rfl | rfl <;> assumption
theorem tail0 {c : Nat} {A : AT} (hA : Aok c A) : Aok (c + 1) (aT0 A) := by
  obtain ⟨h1, h2, h3, h4, h5, h6, h7, h8⟩ := hA.mono (d := c + 1) (by omega)
  exact ⟨Nat.zero_le _, h2, h3, h4, h5, h6, h7, h8⟩
theorem c_tape0 {A : AT} (h : InvC u x A) : InvC (sI u (x + 1) 1 0) x (aT0 A) := by
  have f : Fz (fun a k => a = x + 1 ∧ k = 1) u (sI u (x + 1) 1 0) := Fz.sI ⟨rfl, rfl⟩
  exact invC ⟨by rw [sI_s]; rfl, fun k hk => by omega⟩ (h.rl.z f (by omega) (fun a k q => by omega)) (h.sn.z f (fun b k q1 q2 => by omega)) (h.ac.z f (fun k => by omega) (fun a k q1 q2 => by omega)) (h.im.z f (fun a k q1 q2 => by omega))
theorem c_street {A : AT} {c : Nat} {G0 : Nat → Nat} (hl : LY u) (k1 : zK u x = 11) (iC : InvC u x A) (hA : Aok c A) (g : GI 0 G0) (hN : 2000 ≤ N) : match strS (tpA A) 41 0 G0 (sk (tpA A) 0) with
    | .error e => 1 ≤ e ∧ ∃ u', hX10_street N x u = some (-2 - nI e, u') ∧ InvC u' x (aT0 A) ∧ Fz (Sc x) u u'
    | .ok G' => Gb G' ∧ 2 ≤ G' 0 ∧ ∃ u', hX10_street N x u = some (nI (G' 1), u') ∧ InvC u' x (aSt A G') ∧ Fz (Sc x) u u' := by
  have hT := tpA_ok hA
  have k9 : zK u (x + 9) = 8 := (hl.o11 k1).2.2.2.2.2.2.2.1
  have l8 := hl.o8 k9
  have n5 : zN u (x + 9 + 5) = 10 := l8.2.2.2.2.2.2.2.2.2.2.2.2.2.2.1
  have n6 : zN u (x + 9 + 6) = 10 := l8.2.2.2.2.2.2.2.2.2.2.2.2.2.2.2.2.2
  obtain ⟨z0, z1, z2, z3, z4⟩ := g.2.1 rfl
  obtain ⟨u1, e1, e2, e3⟩ := c_sclr (N := N) (u := u) (x + 9) z0 z1 z2 z3 z4 hN
  have f1 : Fz (Cw x) u u1 := dr_cw e3
  have i1 := iC.z f1 (fun a k q => Or.inr q)
  have cb : CB u1 (x + 1) (tpA A) (aT A) := ⟨i1.tp.1, fun k hk => by rw [show x + 1 + 1 = x + 2 from rfl, i1.tp.2 k hk]; unfold tpA; rw [if_pos hk]⟩
  obtain ⟨u2, o1, o2, o3, o4⟩ := c_open (N := N) cb hT hN
  have f2 : Fz (Cw x) u1 u2 := o4.w (fun a k q => by unfold Fop at q; unfold Cw; omega)
  have s2 : Str u2 (x + 9) G0 := e2.z o4 (fun b k q1 q2 q => by unfold Fop at q; omega)
  have sl := (sk_ok hT 0).2.1 (Nat.zero_le _)
  have hi := c_into (x := x) hT hN 41 0 G0 (sk (tpA A) 0) N u2 rfl (by omega) o2 sl s2 g (by rw [f2.N, f1.N]; exact n5) (by rw [f2.N, f1.N]; exact n6) (by omega)
  have hd : ∀ {β : Type} (F : Int32 → SG → Option β), cl (hX8_readInto N (x + 6) (x + 9) u) F = cl (hgX8_readInto_13 N N (x + 6) (x + 9) (nI 0) u2) F := by
    intro β F
    unfold hX8_readInto
    rw [e1, cl_some, show x + 6 - 5 = x + 1 from rfl, o1, cl_some]
    rfl
  unfold hX10_street
  rw [hd]
  have f12 := f1.tr f2
  match strS (tpA A) 41 0 G0 (sk (tpA A) 0), hi with
  | .error e, ⟨u3, h1, h2, h3, h4⟩ =>
    refine ⟨h3, sI u3 (x + 1) 1 0, by rw [h1, cl_some, bs_eq, if_neg (nI_ne0 (by omega) (by omega))], ?_, ?_⟩
    · exact c_tape0 (iC.z (f12.tr h2) (fun a k q => Or.inr q))
    · exact ((f12.tr h2).w (fun a k q => by unfold Cw at q; unfold Sc; omega)).tr (Fz.sI (by unfold Sc; omega))
  | .ok G', ⟨u3, h1, h2, h3, h4, h5⟩ =>
    have i3 := c_tape0 (iC.z (f12.tr h5) (fun a k q => Or.inr q))
    have g1 := h3.2.1
    generalize eu : sI u3 (x + 1) 1 0 = u4 at i3
    have f4 : Fz (Sc x) u u4 := by rw [← eu]; exact ((f12.tr h5).w (fun a k q => by unfold Cw at q; unfold Sc; omega)).tr (Fz.sI (by unfold Sc; omega))
    have s4 : Str u4 (x + 9) G' := by rw [← eu]; exact h2.z (Fz.sI (S := fun a k => a = x + 1) rfl) (fun b k q1 q2 q => by omega)
    obtain ⟨u5, p1, p2, p3⟩ := c_strCopy (N := N) (a0 := x + 18) (p1 := x + 9) h3 s4 (by omega)
    obtain ⟨u6, q1, q2, q3⟩ := c_clr (N := N) (u := u5) (G := G') (x + 25) g1 hN
    have s6 : Str u6 (x + 18) G' := p2.z q3 (fun b k a1 a2 a => by omega)
    refine ⟨h3, h4, sI (sI u6 (x + 29) 4 0) (x + 35) 2 0, ?_, ?_, ?_⟩
    · rw [h1, cl_some, bs_eq, eu, if_pos rfl, p1, cl_some, q1, cl_some]
      unfold hX1_clear hX0_clear
      rw [bs_eq, cl_some, bs_eq, cl_some, sI_n (by omega), sI_n (by omega), s6.2.1]
    · generalize ev : sI (sI u6 (x + 29) 4 0) (x + 35) 2 0 = v
      have fv : Fz (fun a k => (x + 18 ≤ a ∧ a ≤ x + 24) ∨ (x + 25 ≤ a ∧ a ≤ x + 28) ∨ (a = x + 29 ∧ k = 4) ∨ (a = x + 35 ∧ k = 2)) u4 v := by
        rw [← ev]
        exact ((p3.w (fun a k q => Or.inl (by omega))).tr (q3.w (fun a k q => Or.inr (Or.inl (by omega))))).tr ((Fz.sI (Or.inr (Or.inr (Or.inl ⟨rfl, rfl⟩)))).tr (Fz.sI (Or.inr (Or.inr (Or.inr ⟨rfl, rfl⟩)))))
      have fv6 : Fz (fun a k => (a = x + 29 ∧ k = 4) ∨ (a = x + 35 ∧ k = 2)) u6 v := by
        rw [← ev]
        exact (Fz.sI (Or.inl ⟨rfl, rfl⟩)).tr (Fz.sI (Or.inr ⟨rfl, rfl⟩))
      obtain ⟨c1, c2, c3, c4, c5, c6⟩ := i3.sn
      obtain ⟨a1, nx', a2, a3, a4⟩ := i3.ac
      refine invC (i3.tp.z fv (by omega) (fun k => by omega)) (i3.rl.z fv (by omega) (fun a k q => by omega)) ⟨s6.z fv6 (fun b k b1 b2 => by omega), q2.z fv6 (fun b k b1 b2 => by omega), ?_, fun j hj => absurd hj (Nat.not_lt_zero _), ?_, ?_⟩ ⟨?_, nx', a2, ?_, fun j M hM => by simp at hM⟩ (i3.im.z fv (fun a k b1 b2 => by omega))
      · rw [← ev, sI_n (by omega), show x + 17 + 12 = x + 29 by omega, sI_s]; rfl
      · rw [fv.I (by omega)]; exact c5
      · rw [fv.I (by omega)]; exact c6
      · rw [← ev, sI_s]; rfl
      · rw [fv.I (by omega)]; exact a3
    · exact ((f4.tr (p3.w (fun a k q => by unfold Sc; omega))).tr (q3.w (fun a k q => by unfold Sc; omega))).tr ((Fz.sI (by unfold Sc; omega)).tr (Fz.sI (by unfold Sc; omega)))
end STE
