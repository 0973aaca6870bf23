/-! AN HOUR PASSES: the reference -/
def mWA (M : MT) (f : Nat → Bool) : MT := (M.1, M.2.1, M.2.2.1, f, M.2.2.2.2)
def wakeM (G : Nat → Nat) (M : MT) : MT := mWA M (fun q => mA M q && !wk G q (mH M))
def ruleK (G : Nat → Nat) (R : RT) (M : MT) : Nat → MT
  | 0 => M
  | k + 1 => if wk G k (mH M) then ruleK G R M k else setA (ruleK G R M k) k (!decide (ansR (wdV G (ruleK G R M k) k) R ≤ 0))
def ruM (G : Nat → Nat) (o : Option RT) (M : MT) : MT := match o with
  | none => M
  | some R => ruleK G R M (G 1)
def manyM (G : Nat → Nat) (M : MT) : Nat := cntB (mA M) (G 1)
def costM (G : Nat → Nat) (M : MT) : Nat := 60 * coI G M (mH M)
def shK (G : Nat → Nat) (M : MT) (k : Nat) : MT := (mH M, mN M, mT M, mA M, fun p => if p < k then mS M p + b2n (mA M p) else mS M p, mD M, fun p => if p < k then mO M p + (if mA M p then costM G M / manyM G M else 0) else mO M p, mL M)
def shM (G : Nat → Nat) (M : MT) : MT := (mH M, mN M, mT M + (if manyM G M = 0 then costM G M else 0), mA M, fun p => mS M p + b2n (mA M p), mD M, fun p => mO M p + (if mA M p then costM G M / manyM G M else 0), mL M)
def goM (G : Nat → Nat) (M : MT) : MT := if mH M + 1 = G 0 then (0, mN M + 1, mT M, fun _ => false, fun _ => 0, fun p => min 999 (mD M p + G (10 + 6 * p) - mS M p), mO M, fun _ => 0) else (mH M + 1, M.2)
def nxM (G : Nat → Nat) (M : MT) : MT := goM G (shM G M)
def hrM (G : Nat → Nat) (o : Option RT) (M : MT) : MT := nxM G (ruM G o (wakeM G M))
theorem ruleK_r (G : Nat → Nat) (R : RT) (M : MT) : ∀ k, ∃ f, ruleK G R M k = mWA M f := by
  intro k
  induction k with
  | zero => exact ⟨mA M, rfl⟩
  | succ k ih =>
    obtain ⟨f, e⟩ := ih
    rw [ruleK]
    split
    · exact ⟨f, e⟩
    · rw [e]
      exact ⟨_, rfl⟩
theorem ruM_r (G : Nat → Nat) (o : Option RT) (M : MT) : ∃ f, ruM G o M = mWA M f := by
  cases o with
  | none => exact ⟨mA M, rfl⟩
  | some R => exact ruleK_r G R M _
theorem Mb.mWA {c : Nat} {G : Nat → Nat} {M : MT} (h : Mb c G M) (f : Nat → Bool) : Mb c G (mWA M f) := h
theorem manyM_pc {G : Nat → Nat} (g : Gb G) (M : MT) : pc (slS G M) = manyM G M := cntB_bset _ _ (by have := g.2.1; omega)
theorem manyM_le (G : Nat → Nat) (M : MT) : manyM G M ≤ G 1 := cntB_le _ _
theorem costM_le {G : Nat → Nat} (g : Gb G) (M : MT) : costM G M ≤ 18000 := by
  have := coI_le (M := M) g (mH M)
  unfold costM
  omega
theorem Mb.nx {c : Nat} {G : Nat → Nat} {M : MT} (g : Gb G) (h : Mb c G M) (h0 : 0 < G 0) : Mb (c + 1) G (nxM G M) := by
  have hc := costM_le g M
  have hd : costM G M / manyM G M ≤ 18000 := Nat.le_trans (Nat.div_le_self _ _) hc
  obtain ⟨h1, h2, h3, h4, h5⟩ := h
  have h1 : mH M < G 0 := by rcases h1 with q | q <;> omega
  unfold nxM goM
  by_cases e : mH (shM G M) + 1 = G 0
  · rw [if_pos e]
    refine ⟨Or.inl h0, Nat.succ_le_succ h2, ?_, fun p hp => ⟨Nat.le_refl 0, ?_, ?_⟩, fun l hl => (by decide : (0 : Nat) ≤ 2)⟩
    · show mT M + (if manyM G M = 0 then costM G M else 0) ≤ _
      split <;> omega
    · exact Nat.min_le_left _ _
    · have := (h4 p hp).2.2
      show mO M p + (if mA M p then costM G M / manyM G M else 0) ≤ _
      split <;> omega
  · rw [if_neg e]
    have e : ¬ mH M + 1 = G 0 := e
    refine ⟨Or.inl (by show mH M + 1 < G 0; omega), Nat.le_succ_of_le h2, ?_, fun p hp => ⟨?_, (h4 p hp).2.1, ?_⟩, h5⟩
    · show mT M + (if manyM G M = 0 then costM G M else 0) ≤ _
      split <;> omega
    · have := (h4 p hp).1
      have := b2n_lt (mA M p)
      show mS M p + b2n (mA M p) ≤ mH M + 1
      omega
    · have := (h4 p hp).2.2
      show mO M p + (if mA M p then costM G M / manyM G M else 0) ≤ _
      split <;> omega
/-- what changes of one person -/
theorem RA.pers {f f' : Nat → Int32} {G : Nat → Nat} {M M' : MT} (g : Gb G) (h : RA f G M) {p : Nat} (hp : p < G 1) (hc : ∀ j, j < 10 + 6 * p + 2 ∨ 10 + 6 * p + 5 < j → f' j = f j) (e1 : mH M' = mH M) (e2 : mN M' = mN M) (e3 : mT M' = mT M) (e5 : mL M' = mL M) (e4 : ∀ q, q < G 1 → q ≠ p → mA M' q = mA M q ∧ mS M' q = mS M q ∧ mD M' q = mD M q ∧ mO M' q = mO M q) (k : f' (10 + 6 * p + 2) = nI (b2n (mA M' p)) ∧ f' (10 + 6 * p + 3) = nI (mS M' p) ∧ f' (10 + 6 * p + 4) = nI (mD M' p) ∧ f' (10 + 6 * p + 5) = nI (mO M' p)) : RA f' G M' := by
  have g1 := g.2.1
  obtain ⟨k1, k2, k3, k4, k5, k6⟩ := h
  refine ⟨fun k hk => by rw [hc _ (by omega)]; exact k1 k hk, by rw [hc _ (by omega), e1]; exact k2, by rw [hc _ (by omega), e2]; exact k3, by rw [hc _ (by omega), e3]; exact k4, fun q hq => ?_, fun l hl => by rw [hc _ (by omega), e5]; exact k6 l hl⟩
  by_cases e : q = p
  · subst e
    obtain ⟨q1, q2, -⟩ := k5 q hq
    exact ⟨by rw [hc _ (by omega)]; exact q1, by rw [hc _ (by omega)]; exact q2, k⟩
  · obtain ⟨q1, q2, q3, q4, q5, q6⟩ := k5 q hq
    obtain ⟨r1, r2, r3, r4⟩ := e4 q hq e
    rw [r1, r2, r3, r4]
    exact ⟨by rw [hc _ (by omega)]; exact q1, by rw [hc _ (by omega)]; exact q2, by rw [hc _ (by omega)]; exact q3, by rw [hc _ (by omega)]; exact q4, by rw [hc _ (by omega)]; exact q5, by rw [hc _ (by omega)]; exact q6⟩
def S10 (m : Nat) : Nat → Nat → Prop := fun a k => a = m + 10 ∧ k < 45
def SP (m : Nat) : Nat → Nat → Prop := fun a k => (a = m + 10 ∧ k < 45) ∨ a = m + 8 ∨ a = m + 9 ∨ a = m + 11 ∨ (a = m ∧ k = 18)
section RPASS
variable {N m : Nat} {u : SG} {G : Nat → Nat} {M : MT}
theorem rb_z {S : Nat → Nat → Prop} {v : SG} (hr : RB (zI u (m + 10)) G) (f : Fz S u v) (hS : ∀ k, 45 ≤ k → ¬ S (m + 10) k) : RB (zI v (m + 10)) G := hr.z (fun j hj => f.I (hS j hj))
theorem ra_z {S : Nat → Nat → Prop} {v : SG} (h : RA (zI u (m + 10)) G M) (f : Fz S u v) (hS : ∀ k, ¬ S (m + 10) k) : RA (zI v (m + 10)) G M := by
  have e : zI v (m + 10) = zI u (m + 10) := funext (fun k => f.I (hS k))
  rw [e]
  exact h
theorem r_setsAsleep (h : RA (zI u (m + 10)) G M) (g : Gb G) {p : Nat} (hp : p < G 1) (b : Bool) : ∃ u', hX11_setsAsleep N m (nI p) (nI (b2n b)) u = some ((), u') ∧ RA (zI u' (m + 10)) G (setA M p b) ∧ Fz (S10 m) u u' := by
  have g1 := g.2.1
  have key : ∀ v : Int32, v = nI (b2n b) → RA (zI (sI u (m + 10) (10 + 6 * p + 2) v) (m + 10)) G (setA M p b) ∧ Fz (S10 m) u (sI u (m + 10) (10 + 6 * p + 2) v) := fun v hv =>
    ⟨h.setA g hp (by rw [sI_s, hv]) (fun j hj => by rw [sI_n (by omega)]), Fz.sI ⟨rfl, by omega⟩⟩
  unfold hX11_setsAsleep
  simp only [lit_10, lit_6, lit_2, pk_mul, nI_add]
  rw [ixI (by omega) (by decide), ixI (by omega) (by decide), nI_clamp (by omega), bs_eq, bs_eq]
  cases b with
  | false => exact ⟨_, by rw [if_pos (by decide)], key 0 rfl⟩
  | true => exact ⟨_, by rw [if_neg (by decide)], key 1 rfl⟩
theorem r_wakes (h : RA (zI u (m + 10)) G M) (hr : RB (zI u (m + 10)) G) (g : Gb G) (ht : mH M < 2 ^ 30) (hN : 2000 ≤ N) : ∃ u', hX11_wakesWorkers N m u = some ((), u') ∧ RA (zI u' (m + 10)) G (wakeM G M) ∧ Fz (S10 m) u u' := by
  have g1 := g.2.1
  refine lps (fun n k v => hgX11_wakesWorkers_2 N n m (nI k) v) (G 1) (fun k v => RA (zI v (m + 10)) G (mWA M (fun q => if q < k then mA M q && !wk G q (mH M) else mA M q)) ∧ Fz (S10 m) u v) (fun r => ∃ u', r = some ((), u') ∧ RA (zI u' (m + 10)) G (wakeM G M) ∧ Fz (S10 m) u u') ?_ ?_ N 0 u (by omega) (by omega) ⟨h, Fz.rf⟩
  · intro n v ⟨h1, h2⟩
    refine ⟨v, ?_, h1.congr ⟨rfl, rfl, rfl, fun p hp => ⟨?_, rfl, rfl, rfl⟩, fun _ _ => rfl⟩, h2⟩
    · rw [hgX11_wakesWorkers_2, h1.1 1 (by omega), if_pos (nI_le (by omega) (by omega))]
    · show _ = (if p < G 1 then _ else _)
      rw [if_pos hp]
      rfl
  · intro n k v hk ⟨h1, h2⟩
    have hh : zI v (m + 10) 5 = nI (mH M) := h1.2.1
    rw [hgX11_wakesWorkers_2, h1.1 1 (by omega), if_neg (nI_ge hk (by omega)), hh, r_worksIn h1 (rb_z hr h2 (fun k hk => by unfold S10; omega)) g (by omega) ht hN, cl_some, lit_1, nI_add]
    cases e : wk G k (mH M) with
    | false =>
      rw [if_pos (by decide)]
      refine ⟨v, ⟨h1.congr ⟨rfl, rfl, rfl, fun p hp => ⟨?_, rfl, rfl, rfl⟩, fun _ _ => rfl⟩, h2⟩, rfl⟩
      show (if p < k + 1 then _ else _) = (if p < k then _ else _)
      by_cases hpk : p = k
      · subst hpk; rw [if_pos (by omega), if_neg (by omega), e]; simp
      · by_cases q : p < k
        · rw [if_pos (by omega), if_pos q]
        · rw [if_neg (by omega), if_neg q]
    | true =>
      rw [if_neg (by decide)]
      obtain ⟨v2, e1, e2, e3⟩ := r_setsAsleep (N := N) h1 g hk false
      refine ⟨v2, ⟨e2.congr ⟨rfl, rfl, rfl, fun p hp => ⟨?_, rfl, rfl, rfl⟩, fun _ _ => rfl⟩, h2.tr e3⟩, ?_⟩
      · show (if p < k + 1 then _ else _) = (if p = k then false else if p < k then _ else _)
        by_cases hpk : p = k
        · subst hpk; rw [if_pos (by omega), if_pos rfl, e]; simp
        · rw [if_neg hpk]
          by_cases q : p < k
          · rw [if_pos (by omega), if_pos q]
          · rw [if_neg (by omega), if_neg q]
      · rw [show (0 : Int32) = nI (b2n false) from rfl, e1, cl_some]
/-- the rule in force, in the reference -/
def RFo (u : SG) (m : Nat) (o : Option RT) : Prop := (o = none ∧ zI u m 21 < 0) ∨ ∃ t R, o = some R ∧ t < 6 ∧ zI u m 21 = nI t ∧ RRul u m t R ∧ rOK R
theorem RFo.z {v : SG} {o : Option RT} (h : RFo u m o) (f : Fz (SP m) u v) : RFo v m o := by
  rcases h with ⟨h1, h2⟩ | ⟨t, R, h1, h2, h3, h4, h5⟩
  · exact Or.inl ⟨h1, by rw [f.I (by unfold SP; omega)]; exact h2⟩
  · exact Or.inr ⟨t, R, h1, h2, by rw [f.I (by unfold SP; omega)]; exact h3, h4.z (f.w (fun a k hq => by unfold SP at hq; omega)), h5⟩
theorem r_byRule (h : RA (zI u (m + 10)) G M) (hr : RB (zI u (m + 10)) G) (g : Gb G) {c : Nat} (hb : Mb c G M) (hc : c < 10000) {o : Option RT} (ho : RFo u m o) (hN : 2000 ≤ N) : ∃ u', hX11_sleepsByRule N m u = some ((), u') ∧ RA (zI u' (m + 10)) G (ruM G o M) ∧ Fz (SP m) u u' ∧ ∀ k, zI u' (m + 11) k = zI u (m + 11) k := by
  have g1 := g.2.1
  have h9 := hb.h9 g
  rcases ho with ⟨rfl, hf⟩ | ⟨t, R, rfl, ht, hf, hR, hok⟩
  · obtain ⟨n, hn⟩ : ∃ j, N = j + 1 := ⟨N - 1, by omega⟩
    refine ⟨u, ?_, h, Fz.rf, fun _ => rfl⟩
    show hgX11_sleepsByRule_2 N N m 0 u = _
    conv => lhs; arg 2; rw [hn]
    rw [hgX11_sleepsByRule_2]
    split
    · rfl
    · first | rfl | rw [if_pos hf]
  · refine lps (fun n k v => hgX11_sleepsByRule_2 N n m (nI k) v) (G 1) (fun k v => RA (zI v (m + 10)) G (ruleK G R M k) ∧ Fz (SP m) u v ∧ ∀ k, zI v (m + 11) k = zI u (m + 11) k) (fun r => ∃ u', r = some ((), u') ∧ RA (zI u' (m + 10)) G (ruleK G R M (G 1)) ∧ Fz (SP m) u u' ∧ ∀ k, zI u' (m + 11) k = zI u (m + 11) k) ?_ ?_ N 0 u (by omega) (by omega) ⟨h, Fz.rf, fun _ => rfl⟩
    · intro n v ⟨h1, h2, h3⟩
      refine ⟨v, ?_, h1, h2, h3⟩
      rw [hgX11_sleepsByRule_2, h1.1 1 (by omega), if_pos (nI_le (by omega) (by omega))]
    · intro n k v hk ⟨h1, h2, h3⟩
      obtain ⟨fm, em⟩ := ruleK_r G R M k
      have hmH : mH (ruleK G R M k) = mH M := by rw [em]; rfl
      have hbk : Mb c G (ruleK G R M k) := by rw [em]; exact hb
      have hr1 := rb_z hr h2 (fun k hk => by unfold SP; omega)
      have hfv : zI v m 21 = nI t := by rw [h2.I (by unfold SP; omega)]; exact hf
      rw [hgX11_sleepsByRule_2, h1.1 1 (by omega), if_neg (nI_ge hk (by omega)), hfv, if_neg (nI_pos (by omega)), h1.2.1, r_worksIn h1 hr1 g (by omega) (by omega) hN, cl_some, lit_1, nI_add]
      rw [ruleK, hmH]
      cases e : wk G k (mH M) with
      | true =>
        rw [if_pos rfl, if_neg (by decide)]
        exact ⟨v, ⟨h1, h2, h3⟩, rfl⟩
      | false =>
        rw [if_neg (by decide), if_pos (by decide)]
        obtain ⟨v1, a1, a2, a3⟩ := r_words (N := N) h1 hr1 g hbk hc hk hN
        have a3' : Fz (SP m) v v1 := a3.w (fun a k hq => by unfold SP; omega)
        obtain ⟨v2, b1, b2⟩ := r_summedBy (N := N) (w := wdV G (ruleK G R M k) k) ht hok (hR.z ((h2.tr a3').w (fun a k hq => by unfold SP at hq; omega))) a2 hN
        have b2' : Fz (SP m) v1 v2 := b2.w (fun a k hq => by unfold SS at hq; unfold SP; omega)
        have h12 : RA (zI v2 (m + 10)) G (ruleK G R M k) := ra_z (ra_z h1 a3 (fun k => by omega)) b2 (fun k => by unfold SS; omega)
        have k11 : ∀ k, zI v2 (m + 11) k = zI u (m + 11) k := fun k => by rw [b2.I (by unfold SS; omega), a3.I (by omega)]; exact h3 k
        rw [a1, cl_some, show zI v1 m 21 = nI t from by rw [a3.I (by omega)]; exact hfv, b1, cl_some]
        by_cases q : ansR (wdV G (ruleK G R M k) k) R ≤ 0
        · rw [if_pos ((lg_cmp_le _ _).mpr q), decide_eq_true q]
          obtain ⟨v3, c1, c2, c3⟩ := r_setsAsleep (N := N) h12 g hk false
          refine ⟨v3, ⟨c2, ((h2.tr a3').tr b2').tr (c3.w (fun a k hq => by unfold S10 at hq; unfold SP; omega)), fun k => by rw [c3.I (by unfold S10; omega)]; exact k11 k⟩, ?_⟩
          unfold hgX11_sleepsByRule_61
          rw [show (0 : Int32) = nI (b2n false) from rfl, c1, cl_some, lit_1, nI_add]
        · rw [if_neg (fun z => q ((lg_cmp_le _ _).mp z)), decide_eq_false q]
          obtain ⟨v3, c1, c2, c3⟩ := r_setsAsleep (N := N) h12 g hk true
          refine ⟨v3, ⟨c2, ((h2.tr a3').tr b2').tr (c3.w (fun a k hq => by unfold S10 at hq; unfold SP; omega)), fun k => by rw [c3.I (by unfold S10; omega)]; exact k11 k⟩, ?_⟩
          unfold hgX11_sleepsByRule_61
          have c1' : hX11_setsAsleep N m (nI k) (nI 1) v2 = some ((), v3) := c1
          rw [c1', cl_some, lit_1, nI_add]
end RPASS
