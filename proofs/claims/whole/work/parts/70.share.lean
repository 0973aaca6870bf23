/-! AN HOUR PASSES: who pays, the night's end; the reference -/
theorem ifk {α : Type} {p k : Nat} {x y : α} (h : p ≠ k) : (if p < k + 1 then x else y) = (if p < k then x else y) := by
  by_cases q : p < k
  · rw [if_pos (by omega), if_pos q]
  · rw [if_neg (by omega), if_neg q]
theorem ifk1 {α : Type} {k : Nat} {x y : α} : (if k < k + 1 then x else y) = x := if_pos (by omega)
theorem ifk0 {α : Type} {k : Nat} {x y : α} : (if k < k then x else y) = y := if_neg (by omega)
theorem ixJ {β : Type} {n B : Nat} {x : Option β} (h : n < B) (hB : B < 2 ^ 31) : (if nI n < 0 ∨ B ≤ n then none else x) = x := by rw [if_neg (by rintro (h1 | h1); exact nI_pos (by omega) h1; omega)]
section RSHARE
variable {N m : Nat} {u : SG} {G : Nat → Nat} {M : MT}
/-- what the waking would owe -/
def twM (G : Nat → Nat) (M : MT) (W : Nat → Nat) (p : Nat) : Nat := W p + (if mA M p then 0 else costM G M / (G 1 - manyM G M))
theorem many_lt (G : Nat → Nat) (M : MT) {p : Nat} (hp : p < G 1) (h : mA M p = false) : manyM G M < G 1 := by
  have key : ∀ n, p < n → cntB (mA M) n < n := by
    intro n
    induction n with
    | zero => intro h; omega
    | succ n ih =>
      intro hn
      rw [cntB]
      by_cases e : p = n
      · subst e
        have := cntB_le (mA M) p
        rw [h]
        simp [b2n]
        omega
      · have := ih (by omega)
        have := b2n_lt (mA M n)
        omega
  exact key _ hp
theorem many_pos (G : Nat → Nat) (M : MT) {p : Nat} (hp : p < G 1) (h : mA M p = true) : 0 < manyM G M := cntB_pos hp h
theorem r_shares_l (h : RA (zI u (m + 10)) G M) (g : Gb G) {c : Nat} (hb : Mb c G M) (hc : c < 10000) {W : Nat → Nat} (hW : ∀ p, p < G 1 → zI u (m + 11) p = nI (W p)) (Q : Option (Int32 × SG) → Prop) (hQ : ∀ v, RA (zI v (m + 10)) G (shK G M (G 1)) → (∀ p, p < G 1 → zI v (m + 11) p = nI (twM G M W p)) → Fz (SP m) u v → Q (if manyM G M = 0 then bs (sI v (m + 10) 7 (zI v (m + 10) 7 + nI (costM G M))) fun u3 => hgX11_shares_126 N m (nI (manyM G M)) u3 else hgX11_shares_126 N m (nI (manyM G M)) v)) (hN : 2000 ≤ N) : Q (hgX11_shares_24 N N m (nI (costM G M)) (nI (manyM G M)) 0 u) := by
  have g1 := g.2.1
  have hml := manyM_le G M
  have hcl := costM_le g M
  refine lps (fun n k v => hgX11_shares_24 N n m (nI (costM G M)) (nI (manyM G M)) (nI k) v) (G 1) (fun k v => RA (zI v (m + 10)) G (shK G M k) ∧ (∀ p, p < G 1 → zI v (m + 11) p = nI (if p < k then twM G M W p else W p)) ∧ Fz (SP m) u v) Q ?_ ?_ N 0 u (by omega) (by omega) ⟨h.congr ⟨rfl, rfl, rfl, fun p hp => ⟨rfl, rfl, rfl, rfl⟩, fun _ _ => rfl⟩, hW, Fz.rf⟩
  · intro n v ⟨h1, h2, h3⟩
    have := hQ v h1 (fun p hp => by rw [h2 p hp, if_pos hp]) h3
    rw [hgX11_shares_24, h1.1 1 (by omega), if_pos (nI_le (by omega) (by omega)), lit_0, ifeq (by omega) (by omega)]
    exact this
  · intro n k v hk ⟨h1, h2, h3⟩
    obtain ⟨-, -, p3, p4, p5', p6⟩ := h1.2.2.2.2.1 k hk
    have p3 : zI v (m + 10) (10 + 6 * k + 2) = nI (b2n (mA M k)) := p3
    have p4 : zI v (m + 10) (10 + 6 * k + 3) = nI (mS M k) := by
      rw [p4]
      show nI (if k < k then _ else _) = _
      rw [if_neg (by omega)]
    have p6 : zI v (m + 10) (10 + 6 * k + 5) = nI (mO M k) := by
      rw [p6]
      show nI (if k < k then _ else _) = _
      rw [if_neg (by omega)]
    have p5' : zI v (m + 10) (10 + 6 * k + 4) = nI (mD M k) := p5'
    have hk11 := h2 k hk
    rw [if_neg (by omega)] at hk11
    rw [hgX11_shares_24, h1.1 1 (by omega), if_neg (nI_ge hk (by omega)), bs_eq]
    simp only [lit_10, lit_6, lit_2, lit_5, lit_3, lit_1, pk_mul, nI_add]
    rw [ixI (n := 10 + 6 * k + 2) (by omega) (by decide), nI_clamp (n := 10 + 6 * k + 2) (by omega), p3]
    cases e : mA M k with
    | false =>
      have hlt := many_lt G M hk e
      rw [if_pos (by decide), ixI (n := k) (by omega) (by decide), pk_sub (by omega), if_neg (nI_ne0 (by omega) (by omega)), ixI (n := k) (by omega) (by decide), nI_clamp (n := k) (by omega), bs_eq, hk11, pk_div (by omega) (by omega) (by omega), nI_add]
      refine ⟨_, ⟨?_, ?_, h3.tr (Fz.sI (by unfold SP; omega))⟩, rfl⟩
      · have e10 : zI (sI v (m + 11) k (nI (W k + costM G M / (G 1 - manyM G M)))) (m + 10) = zI v (m + 10) := funext (fun j => sI_n (by omega))
        rw [e10]
        refine h1.congr ⟨rfl, rfl, rfl, fun p hp => ⟨rfl, ?_, rfl, ?_⟩, fun _ _ => rfl⟩
        · show (if p < k + 1 then _ else _) = (if p < k then _ else _)
          by_cases hpk : p = k
          · subst hpk; rw [ifk1, ifk0, e]; rfl
          · rw [ifk hpk]
        · show (if p < k + 1 then _ else _) = (if p < k then _ else _)
          by_cases hpk : p = k
          · subst hpk; rw [ifk1, ifk0, e]; rfl
          · rw [ifk hpk]
      · intro p hp
        by_cases hpk : p = k
        · subst hpk
          rw [sI_s, if_pos (by omega)]
          unfold twM
          rw [e, if_neg (by decide)]
        · rw [sI_n (by omega), h2 p hp]
          rw [ifk hpk]
    | true =>
      have hpos := many_pos G M hk e
      rw [if_neg (by decide), ixI (n := 10 + 6 * k + 5) (by omega) (by decide), if_neg (nI_ne0 hpos (by omega)), ixI (n := 10 + 6 * k + 5) (by omega) (by decide), nI_clamp (n := 10 + 6 * k + 5) (by omega), bs_eq, p6, pk_div (by omega) hpos (by omega), nI_add, ixI (n := 10 + 6 * k + 3) (by omega) (by decide), ixI (n := 10 + 6 * k + 3) (by omega) (by decide), nI_clamp (n := 10 + 6 * k + 3) (by omega), bs_eq, sI_n (by omega), p4, nI_add]
      refine ⟨_, ⟨?_, ?_, h3.tr ((Fz.sI (by unfold SP; omega)).tr (Fz.sI (by unfold SP; omega)))⟩, rfl⟩
      · refine h1.pers g hk (fun j hj => by rw [sI_n (by omega), sI_n (by omega)]) rfl rfl rfl rfl (fun q hq hqk => ⟨rfl, ?_, rfl, ?_⟩) ⟨?_, ?_, ?_, ?_⟩
        · show (if q < k + 1 then _ else _) = (if q < k then _ else _)
          exact ifk hqk
        · show (if q < k + 1 then _ else _) = (if q < k then _ else _)
          exact ifk hqk
        · rw [sI_n (by omega), sI_n (by omega), p3]; rfl
        · rw [sI_s]
          show _ = nI (if k < k + 1 then _ else _)
          rw [if_pos (by omega), e]
          rfl
        · rw [sI_n (by omega), sI_n (by omega), p5']; rfl
        · rw [sI_n (by omega), sI_s]
          show _ = nI (if k < k + 1 then _ else _)
          rw [if_pos (by omega), e, if_pos rfl]
      · intro p hp
        rw [sI_n (by omega), sI_n (by omega), h2 p hp]
        by_cases hpk : p = k
        · subst hpk
          rw [ifk0, ifk1]
          unfold twM
          rw [e, if_pos rfl, Nat.add_zero]
        · rw [ifk hpk]
/-- the night's end -/
def enK (G : Nat → Nat) (M : MT) (k : Nat) : MT := (0, mN M + 1, mT M, fun p => if p < k then false else mA M p, fun p => if p < k then 0 else mS M p, fun p => if p < k then min 999 (mD M p + G (10 + 6 * p) - mS M p) else mD M p, mO M, mL M)
def enM (G : Nat → Nat) (M : MT) : MT := (0, mN M + 1, mT M, fun _ => false, fun _ => 0, fun p => min 999 (mD M p + G (10 + 6 * p) - mS M p), mO M, fun _ => 0)
theorem debt3 {a b : Nat} (ha : a < 2 ^ 20) (hb : b < 2 ^ 20) {β : Type} (f : Int32 → β) : (if nI 0 ≤ nI a - nI b then (if nI a - nI b ≤ nI 999 then f (nI a - nI b) else f (nI 999)) else f (nI 0)) = f (nI (min 999 (a - b))) := by
  by_cases h : b ≤ a
  · rw [pk_sub h, if_pos (nI_le (by omega) (by omega)), ifle (by omega) (by omega)]
    by_cases q : a - b ≤ 999
    · rw [if_pos q, Nat.min_eq_right q]
    · rw [if_neg q, Nat.min_eq_left (by omega)]
  · rw [if_neg (by have := pk_sneg (a := a) (b := b) (by omega) (by omega); rw [nI_0]; exact fun z => absurd z (by simpa using this)), show a - b = 0 by omega]
    rfl
theorem r_endsNight (h : RA (zI u (m + 10)) G M) (g : Gb G) {c : Nat} (hs : ∀ p, p < G 1 → mS M p ≤ 20 ∧ mD M p ≤ 999) (hn : mN M < 10000) (hN : 2000 ≤ N) : ∃ u', hX11_endsNight N m u = some ((), u') ∧ RA (zI u' (m + 10)) G (enM G M) ∧ Fz (S10 m) u u' := by
  have g1 := g.2.1
  unfold hX11_endsNight
  rw [bs_eq, bs_eq, sI_n (by omega), h.2.2.1, lit_1, nI_add]
  have f0 : Fz (S10 m) u (sI (sI u (m + 10) 5 0) (m + 10) 6 (nI (mN M + 1))) := (Fz.sI (by unfold S10; omega)).tr (Fz.sI (by unfold S10; omega))
  have h0 : RA (zI (sI (sI u (m + 10) 5 0) (m + 10) 6 (nI (mN M + 1))) (m + 10)) G (enK G M 0) := by
    obtain ⟨k1, k2, k3, k4, k5, k6⟩ := h
    refine ⟨fun k hk => by rw [sI_n (by omega), sI_n (by omega)]; exact k1 k hk, by rw [sI_n (by omega), sI_s]; rfl, by rw [sI_s]; rfl, by rw [sI_n (by omega), sI_n (by omega)]; exact k4, fun q hq => ?_, fun l hl => by rw [sI_n (by omega), sI_n (by omega)]; exact k6 l hl⟩
    obtain ⟨q1, q2, q3, q4, q5, q6⟩ := k5 q hq
    exact ⟨by rw [sI_n (by omega), sI_n (by omega)]; exact q1, by rw [sI_n (by omega), sI_n (by omega)]; exact q2, by rw [sI_n (by omega), sI_n (by omega)]; exact q3, by rw [sI_n (by omega), sI_n (by omega)]; exact q4, by rw [sI_n (by omega), sI_n (by omega)]; exact q5, by rw [sI_n (by omega), sI_n (by omega)]; exact q6⟩
  refine lps (fun n k v => hgX11_endsNight_20 N n m (nI k) v) (G 1) (fun k v => RA (zI v (m + 10)) G (enK G M k) ∧ Fz (S10 m) u v) (fun r => ∃ u', r = some ((), u') ∧ RA (zI u' (m + 10)) G (enM G M) ∧ Fz (S10 m) u u') ?_ ?_ N 0 _ (by omega) (by omega) ⟨h0, f0⟩
  · intro n v ⟨h1, h2⟩
    rw [hgX11_endsNight_20, h1.1 1 (by omega), if_pos (nI_le (by omega) (by omega))]
    refine lps (fun n k w => hgX11_endsNight_119 N n m (nI k) w) 5 (fun k w => (RA (zI w (m + 10)) G (0, mN M + 1, mT M, fun _ => false, fun _ => 0, fun p => min 999 (mD M p + G (10 + 6 * p) - mS M p), mO M, fun l => if l < k then 0 else mL M l)) ∧ Fz (S10 m) u w) (fun r => ∃ u', r = some ((), u') ∧ RA (zI u' (m + 10)) G (enM G M) ∧ Fz (S10 m) u u') ?_ ?_ N 0 v (by omega) (by omega) ⟨?_, h2⟩
    · intro n w ⟨i1, i2⟩
      refine ⟨w, ?_, i1.congr ⟨rfl, rfl, rfl, fun p hp => ⟨rfl, rfl, rfl, rfl⟩, fun l hl => ?_⟩, i2⟩
      · rw [hgX11_endsNight_119, lit_5, if_pos (nI_le (by omega) (by omega))]
      · show 0 = (if l < 5 then 0 else _)
        rw [if_pos hl]
    · intro n k w hk ⟨i1, i2⟩
      rw [hgX11_endsNight_119, lit_5, if_neg (nI_ge hk (by omega))]
      simp only [lit_40, nI_add, lit_1]
      rw [ixI (by omega) (by decide), nI_clamp (by omega), bs_eq]
      refine ⟨_, ⟨?_, i2.tr (Fz.sI (by unfold S10; omega))⟩, rfl⟩
      obtain ⟨k1, k2, k3, k4, k5, k6⟩ := i1
      refine ⟨fun k hk => by rw [sI_n (by omega)]; exact k1 k hk, by rw [sI_n (by omega)]; exact k2, by rw [sI_n (by omega)]; exact k3, by rw [sI_n (by omega)]; exact k4, fun q hq => ?_, fun l hl => ?_⟩
      · obtain ⟨q1, q2, q3, q4, q5, q6⟩ := k5 q hq
        exact ⟨by rw [sI_n (by omega)]; exact q1, by rw [sI_n (by omega)]; exact q2, by rw [sI_n (by omega)]; exact q3, by rw [sI_n (by omega)]; exact q4, by rw [sI_n (by omega)]; exact q5, by rw [sI_n (by omega)]; exact q6⟩
      · show _ = nI (if l < k + 1 then 0 else mL M l)
        by_cases e : l = k
        · subst e; rw [sI_s, if_pos (by omega)]; rfl
        · rw [sI_n (by omega), k6 l hl]
          show nI (if l < k then 0 else mL M l) = _
          by_cases q : l < k
          · rw [if_pos q, if_pos (by omega)]
          · rw [if_neg q, if_neg (by omega)]
    · refine h1.congr ⟨rfl, rfl, rfl, fun p hp => ⟨?_, ?_, ?_, rfl⟩, fun _ _ => rfl⟩
      · show false = (if p < G 1 then false else _); rw [if_pos hp]
      · show 0 = (if p < G 1 then 0 else _); rw [if_pos hp]
      · show _ = (if p < G 1 then _ else _); rw [if_pos hp]; rfl
  · intro n k v hk ⟨h1, h2⟩
    have hsk := hs k hk
    have gk := g.2.2.2.2.2.2.1 k hk
    obtain ⟨p1, -, p3, p4, p5', p6⟩ := h1.2.2.2.2.1 k hk
    have p4 : zI v (m + 10) (10 + 6 * k + 3) = nI (mS M k) := by
      rw [p4]
      show nI (if k < k then _ else _) = _
      rw [if_neg (by omega)]
    have p5' : zI v (m + 10) (10 + 6 * k + 4) = nI (mD M k) := by
      rw [p5']
      show nI (if k < k then _ else _) = _
      rw [if_neg (by omega)]
    have p6 : zI v (m + 10) (10 + 6 * k + 5) = nI (mO M k) := p6
    rw [hgX11_endsNight_20, h1.1 1 (by omega), if_neg (nI_ge hk (by omega)), bs_eq]
    simp only [lit_10, lit_6, lit_2, lit_4, lit_3, lit_1, pk_mul, nI_add]
    rw [ixI (n := 10 + 6 * k + 4) (by omega) (by decide), ixI (n := 10 + 6 * k) (by omega) (by decide), ixI (n := 10 + 6 * k + 3) (by omega) (by decide), bs_eq, nI_clamp (n := 10 + 6 * k + 4) (by omega), nI_clamp (n := 10 + 6 * k) (by omega), nI_clamp (n := 10 + 6 * k + 3) (by omega), p1, p4, p5', nI_add, ixI (n := 10 + 6 * k + 2) (by omega) (by decide), nI_clamp (n := 10 + 6 * k + 2) (by omega), bs_eq, ixJ (n := 10 + 6 * k + 3) (by omega) (by decide), bs_eq, ixJ (n := 10 + 6 * k + 4) (by omega) (by decide), ixJ (n := 10 + 6 * k + 4) (by omega) (by decide), ixJ (n := 10 + 6 * k + 4) (by omega) (by decide), bs_eq, bs_eq, bs_eq]
    rw [lit_999, lit_0, debt3 (by omega) (by omega) (fun x => hgX11_endsNight_20 N n m (nI (k + 1)) (sI (sI (sI v (m + 10) (10 + 6 * k + 2) (nI 0)) (m + 10) (10 + 6 * k + 3) (nI 0)) (m + 10) (10 + 6 * k + 4) x))]
    refine ⟨_, ⟨?_, h2.tr (((Fz.sI (by unfold S10; omega)).tr (Fz.sI (by unfold S10; omega))).tr (Fz.sI (by unfold S10; omega)))⟩, rfl⟩
    refine h1.pers g hk (fun j hj => by rw [sI_n (by omega), sI_n (by omega), sI_n (by omega)]) rfl rfl rfl rfl (fun q hq hqk => ⟨?_, ?_, ?_, rfl⟩) ⟨?_, ?_, ?_, ?_⟩
    · show (if q < k + 1 then _ else _) = (if q < k then _ else _)
      exact ifk hqk
    · show (if q < k + 1 then _ else _) = (if q < k then _ else _)
      exact ifk hqk
    · show (if q < k + 1 then _ else _) = (if q < k then _ else _)
      exact ifk hqk
    · rw [sI_n (by omega), sI_n (by omega), sI_s]
      show _ = nI (b2n (if k < k + 1 then _ else _))
      rw [if_pos (by omega)]
      rfl
    · rw [sI_n (by omega), sI_s]
      show _ = nI (if k < k + 1 then _ else _)
      rw [if_pos (by omega)]
    · rw [sI_s]
      show _ = nI (if k < k + 1 then _ else _)
      rw [if_pos (by omega)]
    · rw [sI_n (by omega), sI_n (by omega), sI_n (by omega), p6]; rfl
theorem r_126 (h : RA (zI u (m + 10)) G M) (g : Gb G) (hs : ∀ p, p < G 1 → mS M p ≤ 20 ∧ mD M p ≤ 999) (hn : mN M < 10000) (hH : mH M < 100) (x : Int32) (hN : 2000 ≤ N) : ∃ u', hgX11_shares_126 N m x u = some (x, u') ∧ RA (zI u' (m + 10)) G (goM G M) ∧ Fz (S10 m) u u' := by
  have g0 := g.1
  have h5 : RA (zI (sI u (m + 10) 5 (nI (mH M + 1))) (m + 10)) G (mH M + 1, M.2) := by
    obtain ⟨k1, k2, k3, k4, k5, k6⟩ := h
    refine ⟨fun k hk => by rw [sI_n (by omega)]; exact k1 k hk, by rw [sI_s]; rfl, by rw [sI_n (by omega)]; exact k3, by rw [sI_n (by omega)]; exact k4, fun q hq => ?_, fun l hl => by rw [sI_n (by omega)]; exact k6 l hl⟩
    obtain ⟨q1, q2, q3, q4, q5, q6⟩ := k5 q hq
    exact ⟨by rw [sI_n (by omega)]; exact q1, by rw [sI_n (by omega)]; exact q2, by rw [sI_n (by omega)]; exact q3, by rw [sI_n (by omega)]; exact q4, by rw [sI_n (by omega)]; exact q5, by rw [sI_n (by omega)]; exact q6⟩
  have f5 : Fz (S10 m) u (sI u (m + 10) 5 (nI (mH M + 1))) := Fz.sI (by unfold S10; omega)
  unfold hgX11_shares_126
  rw [bs_eq, h.2.1, lit_1, nI_add, h5.1 0 (by omega), sI_s, ifeq (by omega) (by omega)]
  unfold goM
  by_cases e : mH M + 1 = G 0
  · rw [if_pos e, if_pos e]
    obtain ⟨u', e1, e2, e3⟩ := r_endsNight (N := N) (c := 0) h5 g hs hn hN
    exact ⟨u', by rw [e1, cl_some], e2, f5.tr e3⟩
  · rw [if_neg e, if_neg e]
    exact ⟨_, rfl, h5, f5⟩
theorem r_shares (h : RA (zI u (m + 10)) G M) (hr : RB (zI u (m + 10)) G) (g : Gb G) {c : Nat} (hb : Mb c G M) (hc : c < 10000) {W : Nat → Nat} (hW : ∀ p, p < G 1 → zI u (m + 11) p = nI (W p)) (hN : 2000 ≤ N) : ∃ u', hX11_shares N m u = some (nI (manyM G M), u') ∧ RA (zI u' (m + 10)) G (nxM G M) ∧ Fz (SP m) u u' ∧ ∀ p, p < G 1 → zI u' (m + 11) p = nI (twM G M W p) := by
  have h9 := hb.h9 g
  have hs5 := p5 g.2.1 (slS_lt G M)
  have hs : ∀ p, p < G 1 → mS (shK G M (G 1)) p ≤ 20 ∧ mD (shK G M (G 1)) p ≤ 999 := by
    intro p hp
    have hq := hb.2.2.2.1 p hp
    have := b2n_lt (mA M p)
    refine ⟨?_, hq.2.1⟩
    show (if p < G 1 then _ else _) ≤ _
    rw [if_pos hp]
    omega
  have hn : mN M < 10000 := by have := hb.2.1; omega
  have w10 : ∀ a k, S10 m a k → SP m a k := fun a k hq => by unfold S10 at hq; unfold SP; omega
  unfold hX11_shares
  rw [h.2.1, r_costIn h hr g hb.2.2.2.2 (by omega) hN, cl_some, bs_eq, lit_60, pk_mul, r_sleepers h g hN, cl_some, x_bits (by omega) (by omega), cl_some, manyM_pc g]
  refine r_shares_l h g hb hc hW (fun r => ∃ u', r = some (nI (manyM G M), u') ∧ RA (zI u' (m + 10)) G (nxM G M) ∧ Fz (SP m) u u' ∧ ∀ p, p < G 1 → zI u' (m + 11) p = nI (twM G M W p)) ?_ hN
  intro v h1 h2 h3
  by_cases e : manyM G M = 0
  · rw [if_pos e, bs_eq, show zI v (m + 10) 7 = nI (mT M) from h1.2.2.2.1, nI_add]
    have h7 : RA (zI (sI v (m + 10) 7 (nI (mT M + costM G M))) (m + 10)) G (shM G M) := by
      obtain ⟨k1, k2, k3, k4, k5, k6⟩ := h1
      refine ⟨fun k hk => by rw [sI_n (by omega)]; exact k1 k hk, by rw [sI_n (by omega)]; exact k2, by rw [sI_n (by omega)]; exact k3, by rw [sI_s]; show _ = nI (mT M + (if manyM G M = 0 then costM G M else 0)); rw [if_pos e], fun q hq => ?_, fun l hl => by rw [sI_n (by have := g.2.1; omega)]; exact k6 l hl⟩
      obtain ⟨q1, q2, q3, q4, q5, q6⟩ := k5 q hq
      refine ⟨by rw [sI_n (by omega)]; exact q1, by rw [sI_n (by omega)]; exact q2, by rw [sI_n (by omega)]; exact q3, ?_, by rw [sI_n (by omega)]; exact q5, ?_⟩
      · rw [sI_n (by omega), q4]
        show nI (if q < G 1 then _ else _) = _
        rw [if_pos hq]
        rfl
      · rw [sI_n (by omega), q6]
        show nI (if q < G 1 then _ else _) = _
        rw [if_pos hq]
        rfl
    obtain ⟨u', e1, e2, e3⟩ := r_126 (N := N) h7 g (fun p hp => by have := hs p hp; have e9 : mS (shK G M (G 1)) p = mS (shM G M) p := (by show (if p < G 1 then _ else _) = _; rw [if_pos hp]; rfl); rw [← e9]; exact this) hn (by show mH M < 100; omega) (nI (manyM G M)) hN
    refine ⟨u', e1, e2, (h3.tr (Fz.sI (by unfold SP; omega))).tr (e3.w w10), fun p hp => ?_⟩
    rw [e3.I (by unfold S10; omega), sI_n (by omega)]
    exact h2 p hp
  · rw [if_neg e]
    have h7 : RA (zI v (m + 10)) G (shM G M) := by
      refine h1.congr ⟨rfl, rfl, ?_, fun q hq => ⟨rfl, ?_, rfl, ?_⟩, fun _ _ => rfl⟩
      · show mT M + (if manyM G M = 0 then costM G M else 0) = mT M
        rw [if_neg e, Nat.add_zero]
      · show _ = (if q < G 1 then _ else _)
        rw [if_pos hq]
        rfl
      · show _ = (if q < G 1 then _ else _)
        rw [if_pos hq]
        rfl
    obtain ⟨u', e1, e2, e3⟩ := r_126 (N := N) h7 g (fun p hp => by have := hs p hp; have e9 : mS (shK G M (G 1)) p = mS (shM G M) p := (by show (if p < G 1 then _ else _) = _; rw [if_pos hp]; rfl); rw [← e9]; exact this) hn (by show mH M < 100; omega) (nI (manyM G M)) hN
    refine ⟨u', e1, e2, h3.tr (e3.w w10), fun p hp => ?_⟩
    rw [e3.I (by unfold S10; omega)]
    exact h2 p hp
/-- an hour of the reference -/
theorem r_passes (h : RA (zI u (m + 10)) G M) (hr : RB (zI u (m + 10)) G) (g : Gb G) {c : Nat} (hb : Mb c G M) (hc : c < 10000) {o : Option RT} (ho : RFo u m o) {W : Nat → Nat} (hW : ∀ p, p < G 1 → zI u (m + 11) p = nI (W p)) (hN : 2000 ≤ N) : ∃ u', hX11_passes N m u = some (nI (manyM G (ruM G o (wakeM G M))), u') ∧ RA (zI u' (m + 10)) G (hrM G o M) ∧ Fz (SP m) u u' ∧ ∀ p, p < G 1 → zI u' (m + 11) p = nI (twM G (ruM G o (wakeM G M)) W p) := by
  have h9 := hb.h9 g
  have w10 : ∀ a k, S10 m a k → SP m a k := fun a k hq => by unfold S10 at hq; unfold SP; omega
  obtain ⟨u1, a1, a2, a3⟩ := r_wakes (N := N) h hr g (by omega) hN
  have f1 := a3.w w10
  have hb1 : Mb c G (wakeM G M) := hb
  have hr1 := rb_z hr f1 (fun k hk => by unfold SP; omega)
  obtain ⟨u2, b1, b2, b3, b4⟩ := r_byRule (N := N) a2 hr1 g hb1 hc (ho.z f1) hN
  obtain ⟨fm, em⟩ := ruM_r G o (wakeM G M)
  have hb2 : Mb c G (ruM G o (wakeM G M)) := by rw [em]; exact hb1
  obtain ⟨u3, c1, c2, c3, c4⟩ := r_shares (N := N) b2 (rb_z hr1 b3 (fun k hk => by unfold SP; omega)) g hb2 hc (W := W) (fun p hp => by rw [b4, a3.I (by unfold S10; omega)]; exact hW p hp) hN
  refine ⟨u3, ?_, c2, (f1.tr b3).tr c3, c4⟩
  unfold hX11_passes
  rw [a1, cl_some, b1, cl_some, c1, cl_some]
end RSHARE
