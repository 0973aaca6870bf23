/-! AN HOUR PASSES: the class -/
def SC (a mo : Nat) : Nat → Nat → Prop := fun q _ => (mo ≤ q ∧ q ≤ mo + 3) ∨ q = a ∨ q = a + 1
def SM (mo : Nat) : Nat → Nat → Prop := fun q _ => mo ≤ q ∧ q ≤ mo + 3
/-- the rule in force, in the class -/
def CFo (u : SG) (b : Nat) (o' : Option Nat) (o : Option RT) : Prop := (o' = none ∧ o = none) ∨ ∃ q R, o' = some q ∧ o = some R ∧ CRul u q R ∧ rOK R ∧ b < q
section CPLAY
variable {N a s mo b : Nat} {u : SG} {G : Nat → Nat} {M : MT}
theorem CFo.z {S : Nat → Nat → Prop} {v : SG} {o' : Option Nat} {o : Option RT} (h : CFo u b o' o) (f : Fz S u v) (hS : ∀ q k, b < q → ¬ S q k) : CFo v b o' o := by
  rcases h with h | ⟨q, R, h1, h2, h3, h4, h5⟩
  · exact Or.inl h
  · exact Or.inr ⟨q, R, h1, h2, ⟨by rw [f.N]; exact h3.1, h3.2.1, fun j d hd => by rw [f.I (hS _ _ (by omega))]; exact h3.2.2 j d hd⟩, h4, h5⟩
theorem wake_bits (G : Nat → Nat) (M : MT) : dif (slS G M) (bset (fun p => wk G p (mH M)) (G 1)) = slS G (wakeM G M) := by
  apply eq_bset
  intro i
  rw [dif_tb]
  unfold slS
  rw [bset_tb, bset_tb]
  show _ = (decide (i < G 1) && (mA M i && !wk G i (mH M)))
  cases decide (i < G 1) <;> cases mA M i <;> cases wk G i (mH M) <;> rfl
theorem Mom.asl {v : Int32} {f : Nat → Bool} (h : Mom u mo G M) (hv : v = nI (slS G (mWA M f))) : Mom (sI u mo 2 v) mo G (mWA M f) := by
  obtain ⟨h1, h2, h3, h4, h5, h6, h7⟩ := h
  refine ⟨by rw [sI_n (by omega)]; exact h1, by rw [sI_n (by omega)]; exact h2, by rw [sI_s, hv], by rw [sI_n (by omega)]; exact h4, by rw [sI_n (by omega)]; exact h5, fun q hq => ?_, h7⟩
  obtain ⟨q1, q2, q3⟩ := h6 q hq
  exact ⟨by rw [sI_n (by omega)]; exact q1, by rw [sI_n (by omega)]; exact q2, q3⟩
theorem c_setAsleep (hM : Mom u mo G M) (g : Gb G) {p : Nat} (hp : p < G 1) (b : Bool) : ∃ u', hX3_setAsleep N mo (nI p) (nI (b2n b)) u = some ((), u') ∧ Mom u' mo G (setA M p b) ∧ Fz (fun q j => q = mo ∧ j = 2) u u' := by
  have g1 := g.2.1
  unfold hX3_setAsleep
  rw [bs_eq, nI_shl p (by omega), hM.2.2.1, nI_dif, nI_or, bs_eq, bs_eq]
  cases b with
  | false => exact ⟨_, by rw [if_pos (by decide)], hM.setA hp (by rw [slS_set hp]; rfl), Fz.sI ⟨rfl, rfl⟩⟩
  | true => exact ⟨_, by rw [if_neg (by decide)], hM.setA hp (by rw [slS_set hp]; rfl), Fz.sI ⟨rfl, rfl⟩⟩
theorem c_play26 (h : Str u s G) (hM : Mom u mo G M) (g : Gb G) {c : Nat} (hb : Mb c G M) (hc : c < 10000) (d1 : s + 6 < mo) (d2 : s + 6 < a) (d3 : mo + 3 < a ∨ a + 1 < mo) {o' : Option Nat} {o : Option RT} (ho : CFo u b o' o) (d4 : a + 1 ≤ b) (d5 : mo + 3 ≤ b) (hN : 2000 ≤ N) : ∃ u', hgX3_play_26 N N a s mo o' (nI (bset (fun p => wk G p (mH M)) (G 1))) 0 u = hgX3_play_80 N a s mo u' ∧ Mom u' mo G (ruM G o M) ∧ Fz (SC a mo) u u' := by
  have g1 := g.2.1
  have h9 := hb.h9 g
  rcases ho with ⟨rfl, rfl⟩ | ⟨q, R, rfl, rfl, hR, hok, hqb⟩
  · obtain ⟨n, hn⟩ : ∃ j, N = j + 1 := ⟨N - 1, by omega⟩
    refine ⟨u, ?_, hM, Fz.rf⟩
    conv => lhs; arg 2; rw [hn]
    rw [hgX3_play_26]
    split
    · rfl
    · rw [if_pos rfl]
  · have wl := bset_lt (fun p => wk G p (mH M)) (G 1)
    have wl5 := p5 g1 wl
    refine lps (fun n k v => hgX3_play_26 N n a s mo (some q) (nI (bset (fun p => wk G p (mH M)) (G 1))) (nI k) v) (G 1) (fun k v => Mom v mo G (ruleK G R M k) ∧ Fz (SC a mo) u v) (fun r => ∃ u', r = hgX3_play_80 N a s mo u' ∧ Mom u' mo G (ruleK G R M (G 1)) ∧ Fz (SC a mo) u u') ?_ ?_ N 0 u (by omega) (by omega) ⟨hM, Fz.rf⟩
    · intro n v ⟨h1, h2⟩
      have hs1 := h.z h2 (fun b k q1 q2 => by unfold SC; omega)
      exact ⟨v, by rw [hgX3_play_26, hs1.2.1, if_pos (nI_le (by omega) (by omega))], h1, h2⟩
    · intro n k v hk ⟨h1, h2⟩
      have hs1 := h.z h2 (fun b k q1 q2 => by unfold SC; omega)
      obtain ⟨fm, em⟩ := ruleK_r G R M k
      have hmH : mH (ruleK G R M k) = mH M := by rw [em]; rfl
      have hbk : Mb c G (ruleK G R M k) := by rw [em]; exact hb
      rw [hgX3_play_26, hs1.2.1, if_neg (nI_ge hk (by omega)), if_neg (by simp), x_bitOf (by omega) (by omega), cl_some, bset_tb, ruleK]
      rw [show (decide (k < G 1) && wk G k (mH M)) = wk G k (mH M) from by simp [hk]]
      cases e : wk G k (mH M) with
      | true =>
        rw [if_pos rfl, if_neg (by decide), lit_1, nI_add]
        exact ⟨v, ⟨h1, h2⟩, rfl⟩
      | false =>
        rw [if_neg (by decide), if_pos (by decide)]
        obtain ⟨v1, b1, b2⟩ := c_answer (N := N) (w := wdV G (ruleK G R M k) k) (a := a) (x1 := s) (x2 := mo) (p := k) hok ((show CRul v q R from ⟨by rw [h2.N]; exact hR.1, hR.2.1, fun j d hd => by rw [h2.I (by unfold SC; omega)]; exact hR.2.2 j d hd⟩)) (by omega) (by omega) (fun w hw j hj => c_valueOf (hs1.z hw (fun b k q1 q2 => by unfold SS; omega)) (h1.z hw (fun b k q1 q2 => by unfold SS; omega)) g hbk hc hk hj hN) hN
        have b2' : Fz (SC a mo) v v1 := b2.w (fun a k hq => by unfold SS at hq; unfold SC; omega)
        have h12 := h1.z b2 (fun b k q1 q2 => by unfold SS; omega)
        show ∃ s', _ ∧ Option.bind (some q) _ = _
        rw [Option.bind_some, b1, cl_some]
        by_cases z : ansR (wdV G (ruleK G R M k) k) R ≤ 0
        · rw [if_pos ((lg_cmp_le _ _).mpr z), decide_eq_true z]
          obtain ⟨v3, c1, c2, c3⟩ := c_setAsleep (N := N) h12 g hk false
          refine ⟨v3, ⟨c2, (h2.tr b2').tr (c3.w (fun a k hq => by unfold SC; omega))⟩, ?_⟩
          unfold hgX3_play_71
          rw [show (0 : Int32) = nI (b2n false) from rfl, c1, cl_some, lit_1, nI_add]
        · rw [if_neg (fun y => z ((lg_cmp_le _ _).mp y)), decide_eq_false z]
          obtain ⟨v3, c1, c2, c3⟩ := c_setAsleep (N := N) h12 g hk true
          refine ⟨v3, ⟨c2, (h2.tr b2').tr (c3.w (fun a k hq => by unfold SC; omega))⟩, ?_⟩
          unfold hgX3_play_71
          have c1' : hX3_setAsleep N mo (nI k) 1 v1 = some ((), v3) := c1
          rw [c1', cl_some, lit_1, nI_add]
theorem c_shareAmong {t p x : Nat} (ht : t < 1024) (hp : p < 32) (hx : zL u a 3 = lN x) (hx2 : x < 2 ^ 31) : hX3_shareAmong N a (nI t) (nI p) u = some (lN (if pc t = 0 then 0 else if t.testBit p then x / pc t else 0), u) := by
  have hpl := pc_le t
  unfold hX3_shareAmong
  rw [x_bitCount ht, cl_some, lit_0, ifle (by omega) (by omega)]
  by_cases e : pc t = 0
  · rw [if_pos (by omega), if_pos e]; rfl
  · rw [if_neg (by omega), if_neg e, x_bitOf (by omega) hp, cl_some]
    cases t.testBit p with
    | false => rw [if_neg (by decide)]; rfl
    | true =>
      rw [if_pos (by decide), nI_l (by omega), if_neg (by rw [show (0 : Int64) = lN 0 from rfl, lN_eq (by omega) (by omega)]; exact e), hx, pk_lDiv (by omega) (by omega) (by omega)]
      rfl
/-- owed is shared -/
def shO (G : Nat → Nat) (M : MT) : MT := (mH M, mN M, mT M + (if manyM G M = 0 then costM G M else 0), mA M, mS M, mD M, fun p => mO M p + (if mA M p then costM G M / manyM G M else 0), mL M)
theorem sl_tb {p : Nat} (hp : p < G 1) : (slS G M).testBit p = mA M p := by unfold slS; rw [bset_tb]; simp [hp]
theorem many0 (g : Gb G) : slS G M = 0 ↔ manyM G M = 0 := by
  have s5 := p5 g.2.1 (slS_lt G M)
  rw [← manyM_pc g M]
  constructor
  · intro e; rw [e]; rfl
  · intro e; exact pc_zero _ (by omega) e
theorem c_share (h : Str u s G) (hM : Mom u mo G M) (g : Gb G) {c : Nat} (hb : Mb c G M) (hc : c < 10000) (d1 : s + 6 < mo) (d3 : mo + 3 < a ∨ a + 1 < mo) (k1 : zI u a 2 = nI (slS G M)) (k2 : zL u a 3 = lN (costM G M)) (hN : 2000 ≤ N) : ∃ u', hX3_share N a s mo u = some ((), u') ∧ Mom u' mo G (shO G M) ∧ Fz (fun q _ => q = mo + 3) u u' := by
  have g1 := g.2.1
  have s5 := p5 g1 (slS_lt G M)
  have cl1 := costM_le g M
  unfold hX3_share
  rw [k1, lit_0, ifeq (by omega) (by omega)]
  by_cases e : slS G M = 0
  · have e0 := (many0 g).mp e
    rw [if_pos e, bs_eq, hM.2.2.2.2.2.2, k2, lN_add]
    refine ⟨_, rfl, ?_, Fz.sL rfl⟩
    obtain ⟨h1, h2, h3, h4, h5, h6, h7⟩ := hM
    refine ⟨h1, h2, h3, h4, h5, fun p hp => ?_, by rw [sL_s]; show _ = lN (mT M + (if manyM G M = 0 then costM G M else 0)); rw [if_pos e0]⟩
    obtain ⟨q1, q2, q3⟩ := h6 p hp
    refine ⟨q1, q2, ?_⟩
    rw [sL_n (by omega), q3]
    have := cntB_zero e0 p hp
    show _ = lN (mO M p + (if mA M p then costM G M / manyM G M else 0))
    rw [this, if_neg (by decide), Nat.add_zero]
  · have e0 : ¬ manyM G M = 0 := fun z => e ((many0 g).mpr z)
    rw [if_neg e]
    refine lps (fun n k v => hgX3_share_23 N n a s mo (nI k) v) (G 1) (fun k v => Mom v mo G (mH M, mN M, mT M, mA M, mS M, mD M, fun p => if p < k then mO M p + (if mA M p then costM G M / manyM G M else 0) else mO M p, mL M) ∧ Fz (fun q _ => q = mo + 3) u v) (fun r => ∃ u', r = some ((), u') ∧ Mom u' mo G (shO G M) ∧ Fz (fun q _ => q = mo + 3) u u') ?_ ?_ N 0 u (by omega) (by omega) ⟨hM, Fz.rf⟩
    · intro n v ⟨h1, h2⟩
      have hs1 := h.z h2 (fun b k q1 q2 => by omega)
      refine ⟨v, by rw [hgX3_share_23, hs1.2.1, if_pos (nI_le (by omega) (by omega))], ?_, h2⟩
      refine h1.congr g ⟨rfl, rfl, ?_, fun p hp => ⟨rfl, rfl, rfl, ?_⟩, fun _ _ => rfl⟩
      · show mT M + (if manyM G M = 0 then costM G M else 0) = mT M
        rw [if_neg e0, Nat.add_zero]
      · show _ = (if p < G 1 then _ else _)
        rw [if_pos hp]
        rfl
    · intro n k v hk ⟨h1, h2⟩
      have hs1 := h.z h2 (fun b k q1 q2 => by omega)
      have hk3 : zL v (mo + 3) k = lN (mO M k) := by
        rw [(h1.2.2.2.2.2.1 k hk).2.2]
        show lN (if k < k then _ else _) = _
        rw [ifk0]
      rw [hgX3_share_23, hs1.2.1, if_neg (nI_ge hk (by omega)), ixI (by omega) (by decide), h2.I (by omega), k1, c_shareAmong (by omega) (by omega) (by rw [h2.L (by omega)]; exact k2) (by omega), cl_some, ixI (by omega) (by decide), bs_eq, nI_clamp (by omega), hk3, lN_add, lit_1, nI_add, manyM_pc g, if_neg e0, sl_tb hk]
      refine ⟨_, ⟨?_, h2.tr (Fz.sL rfl)⟩, rfl⟩
      obtain ⟨j1, j2, j3, j4, j5, j6, j7⟩ := h1
      refine ⟨j1, j2, j3, j4, j5, fun p hp => ?_, by rw [sL_n (by omega)]; exact j7⟩
      obtain ⟨q1, q2, q3⟩ := j6 p hp
      refine ⟨q1, q2, ?_⟩
      show _ = lN (if p < k + 1 then _ else _)
      by_cases hpk : p = k
      · subst hpk
        rw [sL_s, ifk1]
      · rw [sL_n (by omega), q3]
        show lN (if p < k then _ else _) = _
        rw [ifk hpk]
theorem c_min {x : Nat} (hx : x < 999) : fJ9_min_7cf53 N 999 (nI x) u = some (nI x, u) := by
  unfold fJ9_min_7cf53
  rw [lit_999, if_pos (nI_lt hx (by decide))]
theorem c_mm {x y : Nat} (hx : x < 2 ^ 20) (hy : y < 2 ^ 20) {β : Type} (f : Int32 → SG → Option β) : (cl (fJ9_min_7cf53 N 999 (nI x - nI y) u) fun r v => cl (fJ9_max_7cf53 N 0 r v) f) = f (nI (min 999 (x - y))) u := by
  unfold fJ9_min_7cf53 fJ9_max_7cf53
  rw [lit_999]
  by_cases h : y ≤ x
  · rw [pk_sub h]
    by_cases q : x - y < 999
    · rw [if_pos (nI_lt q (by decide)), cl_some, Nat.min_eq_right (by omega)]
      by_cases z : x - y = 0
      · rw [z, if_neg (by decide)]; rfl
      · rw [if_pos (by rw [lit_0]; exact nI_lt (by omega) (by omega))]; rfl
    · rw [if_neg (nI_nlt (by omega) (by omega)), cl_some, if_pos (by decide), Nat.min_eq_left (by omega)]; rfl
  · have := pk_sneg (a := x) (b := y) (by omega) (by omega)
    rw [if_pos (Int32.lt_trans this (by decide)), cl_some, if_neg (fun z => absurd (Int32.lt_trans z this) (by decide)), show x - y = 0 by omega]
    rfl
theorem c_goOn (h : Str u s G) (hM : Mom u mo G M) (g : Gb G) (hs : ∀ p, p < G 1 → mS M p ≤ 20 ∧ mD M p ≤ 999) (hn : mN M + 1 < 999) (hH : mH M < G 0) (d1 : s + 6 < mo) (hN : 2000 ≤ N) : ∃ u', hX2_goOn N mo s u = some ((), u') ∧ Mom u' mo G (goM G M) ∧ Fz (SM mo) u u' := by
  have g0 := g.1
  have g1 := g.2.1
  have smo : ∀ k, SM mo mo k := fun k => by unfold SM; omega
  have sm1 : ∀ k, SM mo (mo + 1) k := fun k => by unfold SM; omega
  have sm2 : ∀ k, SM mo (mo + 2) k := fun k => by unfold SM; omega
  have z0 : Fz (SM mo) u (sI u mo 0 (nI (mH M + 1))) := Fz.sI (smo _)
  have hs0 := h.z z0 (fun b k q1 q2 => by unfold SM; omega)
  unfold hX2_goOn
  rw [bs_eq, hM.1, lit_1, nI_add, hs0.1, sI_s, ifle (by omega) (by omega)]
  obtain ⟨h1, h2, h3, h4, h5, h6, h7⟩ := hM
  unfold goM
  by_cases e : mH M + 1 = G 0
  · rw [if_pos (by omega), if_pos e, bs_eq, sI_n (by omega), sI_n (by omega), h2, nI_add, c_min hn, cl_some, bs_eq, bs_eq, bs_eq, bs_eq]
    refine lps (fun n k v => hgX2_goOn_60 N n mo s (nI k) v) (G 1) (fun k v => Mom v mo G (0, mN M + 1, mT M, fun _ => false, fun p => if p < k then 0 else mS M p, fun p => if p < k then min 999 (mD M p + G (10 + 6 * p) - mS M p) else mD M p, mO M, fun _ => 0) ∧ Fz (SM mo) u v) (fun r => ∃ u', r = some ((), u') ∧ Mom u' mo G (0, mN M + 1, mT M, fun _ => false, fun _ => 0, fun p => min 999 (mD M p + G (10 + 6 * p) - mS M p), mO M, fun _ => 0) ∧ Fz (SM mo) u u') ?_ ?_ N 0 _ (by omega) (by omega) ⟨?_, ((((z0.tr (Fz.sI (smo _))).tr (Fz.sI (smo _))).tr (Fz.sI (smo _))).tr (Fz.sI (smo _))).tr (Fz.sI (smo _))⟩
    · intro n v ⟨i1, i2⟩
      have hs1 := h.z i2 (fun b k q1 q2 => by unfold SM; omega)
      refine ⟨v, by rw [hgX2_goOn_60, hs1.2.1, if_pos (nI_le (by omega) (by omega))], ?_, i2⟩
      refine i1.congr g ⟨rfl, rfl, rfl, fun p hp => ⟨rfl, ?_, ?_, rfl⟩, fun _ _ => rfl⟩
      · show 0 = (if p < G 1 then _ else _); rw [if_pos hp]
      · show _ = (if p < G 1 then _ else _); rw [if_pos hp]; rfl
    · intro n k v hk ⟨i1, i2⟩
      have hs1 := h.z i2 (fun b k q1 q2 => by unfold SM; omega)
      have hsk := hs k hk
      have gk := g.2.2.2.2.2.2.1 k hk
      obtain ⟨p1, p2, p3⟩ := i1.2.2.2.2.2.1 k hk
      have p1 : zI v (mo + 1) k = nI (mS M k) := by
        rw [p1]
        show nI (if k < k then _ else _) = _
        rw [ifk0]
      have p2 : zI v (mo + 2) k = nI (mD M k) := by
        rw [p2]
        show nI (if k < k then _ else _) = _
        rw [ifk0]
      rw [hgX2_goOn_60, hs1.2.1, if_neg (nI_ge hk (by omega)), ixI (n := k) (by omega) (by decide), ixI (n := k) (by omega) (by decide), ixI (n := k) (by omega) (by decide), nI_clamp (n := k) (by omega), bs_eq, p1, p2, (hs1.2.2.2.2.2.1 k hk).1, nI_add]
      rw [c_mm (by omega) (by omega) (fun r8 u9 => if nI k < 0 ∨ 5 ≤ k then none else bs (sI u9 (mo + 2) k r8) fun u10 => if nI k < 0 ∨ 5 ≤ k then none else bs (sI u10 (mo + 1) k 0) fun u12 => hgX2_goOn_60 N n mo s (nI k + 1) u12)]
      rw [ixJ (by omega) (by decide), bs_eq, ixJ (by omega) (by decide), bs_eq, lit_1, nI_add]
      refine ⟨_, ⟨?_, i2.tr ((Fz.sI (sm2 _)).tr (Fz.sI (sm1 _)))⟩, rfl⟩
      obtain ⟨j1, j2, j3, j4, j5, j6, j7⟩ := i1
      refine ⟨by rw [sI_n (by omega), sI_n (by omega)]; exact j1, by rw [sI_n (by omega), sI_n (by omega)]; exact j2, by rw [sI_n (by omega), sI_n (by omega)]; exact j3, by rw [sI_n (by omega), sI_n (by omega)]; exact j4, by rw [sI_n (by omega), sI_n (by omega)]; exact j5, fun p hp => ?_, j7⟩
      obtain ⟨q1, q2, q3⟩ := j6 p hp
      refine ⟨?_, ?_, q3⟩
      · show _ = nI (if p < k + 1 then _ else _)
        by_cases hpk : p = k
        · subst hpk; rw [sI_s, ifk1]; rfl
        · rw [sI_n (by omega), sI_n (by omega), q1]
          show nI (if p < k then _ else _) = _
          rw [ifk hpk]
      · show _ = nI (if p < k + 1 then _ else _)
        by_cases hpk : p = k
        · subst hpk; rw [sI_n (by omega), sI_s, ifk1]
        · rw [sI_n (by omega), sI_n (by omega), q2]
          show nI (if p < k then _ else _) = _
          rw [ifk hpk]
    · have bz : ∀ n, bset (fun _ => false) n = 0 := by
        intro n
        induction n with
        | zero => rfl
        | succ n ih => rw [bset, ih]; rfl
      refine ⟨?_, ?_, ?_, ?_, ?_, fun p hp => ?_, h7⟩
      · rw [sI_n (by omega), sI_n (by omega), sI_n (by omega), sI_n (by omega), sI_s]; rfl
      · rw [sI_n (by omega), sI_n (by omega), sI_n (by omega), sI_s]; rfl
      · rw [sI_n (by omega), sI_n (by omega), sI_s]
        show _ = nI (bset (fun _ => false) (G 1))
        rw [bz]; rfl
      · rw [sI_n (by omega), sI_s]
        show _ = nI (bset (fun _ => false) (G 3))
        rw [bz]; rfl
      · rw [sI_s]
        show _ = nI (bset (fun _ => false) (G 3))
        rw [bz]; rfl
      · obtain ⟨q1, q2, q3⟩ := h6 p hp
        refine ⟨?_, ?_, q3⟩
        · rw [sI_n (by omega), sI_n (by omega), sI_n (by omega), sI_n (by omega), sI_n (by omega), sI_n (by omega)]; exact q1
        · rw [sI_n (by omega), sI_n (by omega), sI_n (by omega), sI_n (by omega), sI_n (by omega), sI_n (by omega)]; exact q2
  · rw [if_neg (by omega), if_neg e]
    refine ⟨_, rfl, ⟨by rw [sI_s]; rfl, by rw [sI_n (by omega)]; exact h2, by rw [sI_n (by omega)]; exact h3, by rw [sI_n (by omega)]; exact h4, by rw [sI_n (by omega)]; exact h5, fun p hp => ?_, h7⟩, z0⟩
    obtain ⟨q1, q2, q3⟩ := h6 p hp
    exact ⟨by rw [sI_n (by omega)]; exact q1, by rw [sI_n (by omega)]; exact q2, q3⟩
theorem c_play80 (h : Str u s G) (hM : Mom u mo G M) (g : Gb G) {c : Nat} (hb : Mb c G M) (hc : c < 998) (h0 : 0 < G 0) (d1 : s + 6 < mo) (d2 : s + 6 < a) (d3 : mo + 3 < a ∨ a + 1 < mo) (hN : 2000 ≤ N) : ∃ u', hgX3_play_80 N a s mo u = some (nI (manyM G M), u') ∧ Mom u' mo G (nxM G M) ∧ zI u' a 2 = nI (slS G M) ∧ zL u' a 3 = lN (costM G M) ∧ Fz (SC a mo) u u' := by
  have g1 := g.2.1
  have h9 := hb.h9 g
  have s5 := p5 g1 (slS_lt G M)
  have cl1 := costM_le g M
  have co := coI_le (M := M) g (mH M)
  have hH : mH M < G 0 := by rcases hb.1 with q | q <;> omega
  have z1 : Fz (SC a mo) u (sI u a 2 (nI (slS G M))) := Fz.sI (by unfold SC; omega)
  have hM1 : Mom (sI u a 2 (nI (slS G M))) mo G M := hM.z (Fz.sI (S := fun q j => q = a ∧ j = 2) ⟨rfl, rfl⟩) (fun b k q1 q2 => by omega)
  have hs1 := h.z z1 (fun b k q1 q2 => by unfold SC; omega)
  unfold hgX3_play_80
  rw [bs_eq, hM.2.2.1, hM1.1, c_burningAt hs1 hM1 g hb.2.2.2.2 (by omega), cl_some, c_costBu hs1 g _ hN, cl_some, bs_eq, nI_l (by omega), show (60 : Int64) = lN 60 from rfl, lN_mul]
  have z2 : Fz (SC a mo) u (sL (sI u a 2 (nI (slS G M))) a 3 (lN (60 * coI G M (mH M)))) := z1.tr (Fz.sL (by unfold SC; omega))
  have hM2 : Mom (sL (sI u a 2 (nI (slS G M))) a 3 (lN (60 * coI G M (mH M)))) mo G M := hM1.z (Fz.sL (S := fun q j => q = a ∧ j = 3) ⟨rfl, rfl⟩) (fun b k q1 q2 => by omega)
  have hs2 := h.z z2 (fun b k q1 q2 => by unfold SC; omega)
  obtain ⟨u3, e1, e2, e3⟩ := c_share (N := N) hs2 hM2 g hb (by omega) d1 d3 (by rw [sL_I, sI_s]) (by rw [sL_s]; rfl) hN
  have z3 : Fz (SC a mo) u u3 := z2.tr (e3.w (fun q k hq => by unfold SC; omega))
  have k2 : zI u3 a 2 = nI (slS G M) := by rw [e3.I (by omega), sL_I, sI_s]
  have k3 : zL u3 a 3 = lN (costM G M) := by rw [e3.L (by omega), sL_s]; rfl
  rw [e1, cl_some]
  refine lps (fun n k v => hgX3_play_119 N n a s mo (nI k) v) (G 1) (fun k v => Mom v mo G (mH M, mN M, mT (shO G M), mA M, fun p => if p < k then mS M p + b2n (mA M p) else mS M p, mD M, mO (shO G M), mL M) ∧ zI v a 2 = nI (slS G M) ∧ zL v a 3 = lN (costM G M) ∧ Fz (SC a mo) u v) (fun r => ∃ u', r = some (nI (manyM G M), u') ∧ Mom u' mo G (nxM G M) ∧ zI u' a 2 = nI (slS G M) ∧ zL u' a 3 = lN (costM G M) ∧ Fz (SC a mo) u u') ?_ ?_ N 0 u3 (by omega) (by omega) ⟨e2, k2, k3, z3⟩
  · intro n v ⟨i1, i2, i3, i4⟩
    have hs3 := h.z i4 (fun b k q1 q2 => by unfold SC; omega)
    have i1' : Mom v mo G (shM G M) := i1.congr g ⟨rfl, rfl, rfl, fun p hp => ⟨rfl, (by show _ = (if p < G 1 then _ else _); rw [if_pos hp]; rfl), rfl, rfl⟩, fun _ _ => rfl⟩
    obtain ⟨u4, f1, f2, f3⟩ := c_goOn (N := N) hs3 i1' g (fun p hp => by
      have hq := hb.2.2.2.1 p hp
      have := b2n_lt (mA M p)
      exact ⟨by show mS M p + b2n (mA M p) ≤ 20; omega, hq.2.1⟩) (by have := hb.2.1; show mN M + 1 < 999; omega) hH d1 hN
    have k4 : zI u4 a 2 = nI (slS G M) := by rw [f3.I (by unfold SM; omega)]; exact i2
    refine ⟨u4, ?_, f2, k4, by rw [f3.L (by unfold SM; omega)]; exact i3, i4.tr (f3.w (fun q k hq => by unfold SM at hq; unfold SC; omega))⟩
    rw [hgX3_play_119, hs3.2.1, if_pos (nI_le (by omega) (by omega)), f1, cl_some, k4, x_bitCount (by omega), cl_some, manyM_pc g]
  · intro n k v hk ⟨i1, i2, i3, i4⟩
    have hs3 := h.z i4 (fun b k q1 q2 => by unfold SC; omega)
    have p1 : zI v (mo + 1) k = nI (mS M k) := by
      rw [(i1.2.2.2.2.2.1 k hk).1]
      show nI (if k < k then _ else _) = _
      rw [ifk0]
    rw [hgX3_play_119, hs3.2.1, if_neg (nI_ge hk (by omega)), ixI (by omega) (by decide), i2, x_bitOf (by omega) (by omega), cl_some, ixI (by omega) (by decide), bs_eq, nI_clamp (by omega), p1, sl_tb hk, nI_add, lit_1, nI_add]
    refine ⟨sI v (mo + 1) k (nI (mS M k + b2n (mA M k))), ⟨?_, by rw [sI_n (by omega)]; exact i2, i3, i4.tr (Fz.sI (by unfold SC; omega))⟩, rfl⟩
    obtain ⟨j1, j2, j3, j4, j5, j6, j7⟩ := i1
    refine ⟨by rw [sI_n (by omega)]; exact j1, by rw [sI_n (by omega)]; exact j2, by rw [sI_n (by omega)]; exact j3, by rw [sI_n (by omega)]; exact j4, by rw [sI_n (by omega)]; exact j5, fun p hp => ?_, j7⟩
    obtain ⟨q1, q2, q3⟩ := j6 p hp
    refine ⟨?_, by rw [sI_n (by omega)]; exact q2, q3⟩
    show _ = nI (if p < k + 1 then _ else _)
    by_cases hpk : p = k
    · subst hpk; rw [sI_s, ifk1]
    · rw [sI_n (by omega), q1]
      show nI (if p < k then _ else _) = _
      rw [ifk hpk]
/-- an hour of the class -/
theorem c_play (h : Str u s G) (hM : Mom u mo G M) (g : Gb G) {c : Nat} (hb : Mb c G M) (hc : c < 998) (h0 : 0 < G 0) (d1 : s + 6 < mo) (d2 : s + 6 < a) (d3 : mo + 3 < a ∨ a + 1 < mo) {o' : Option Nat} {o : Option RT} (ho : CFo u b o' o) (d4 : a + 1 ≤ b) (d5 : mo + 3 ≤ b) (hN : 2000 ≤ N) : ∃ u', hX3_play N a s mo o' u = some (nI (manyM G (ruM G o (wakeM G M))), u') ∧ Mom u' mo G (hrM G o M) ∧ zI u' a 2 = nI (slS G (ruM G o (wakeM G M))) ∧ zL u' a 3 = lN (costM G (ruM G o (wakeM G M))) ∧ Fz (SC a mo) u u' := by
  have h9 := hb.h9 g
  have z1 : Fz (SC a mo) u (sI u mo 2 (nI (slS G (wakeM G M)))) := Fz.sI (by unfold SC; omega)
  have hM1 : Mom (sI u mo 2 (nI (slS G (wakeM G M)))) mo G (wakeM G M) := hM.asl rfl
  have hs1 := h.z z1 (fun b k q1 q2 => by unfold SC; omega)
  have hb1 : Mb c G (wakeM G M) := hb
  obtain ⟨u2, e1, e2, e3⟩ := c_play26 (N := N) hs1 hM1 g hb1 (by omega) d1 d2 d3 (ho.z z1 (fun q k hq => by unfold SC; omega)) d4 d5 hN
  obtain ⟨fm, em⟩ := ruM_r G o (wakeM G M)
  have hb2 : Mb c G (ruM G o (wakeM G M)) := by rw [em]; exact hb1
  obtain ⟨u3, f1, f2, f3, f4, f5⟩ := c_play80 (N := N) (hs1.z e3 (fun b k q1 q2 => by unfold SC; omega)) e2 g hb2 hc h0 d1 d2 d3 hN
  refine ⟨u3, ?_, f2, f3, f4, (z1.tr e3).tr f5⟩
  unfold hX3_play
  rw [hM.1, c_workersAt h (by omega), cl_some, bs_eq, hM.2.2.1, nI_dif, wake_bits]
  exact e1.trans f1
end CPLAY
