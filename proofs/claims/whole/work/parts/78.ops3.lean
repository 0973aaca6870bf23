/-! OPERATIONS, 3: turned, spite -/
def setL (M : MT) (l v : Nat) : MT := (M.1, M.2.1, M.2.2.1, M.2.2.2.1, M.2.2.2.2.1, M.2.2.2.2.2.1, M.2.2.2.2.2.2.1, fun q => if q = l then v else M.2.2.2.2.2.2.2 q)
theorem cnt_not (f : Nat → Bool) : ∀ n, cntB (fun p => !f p) n + cntB f n = n := by
  intro n
  induction n with
  | zero => rfl
  | succ n ih =>
    rw [cntB, cntB]
    cases f n <;> simp [b2n] <;> omega
theorem RA.setL {f f' : Nat → Int32} {G : Nat → Nat} {M : MT} (g : Gb G) (h : RA f G M) {l v : Nat} (hl : l < 5) (h1 : f' (40 + l) = nI v) (h2 : ∀ j, j ≠ 40 + l → f' j = f j) : RA f' G (setL M l v) := by
  have g1 := g.2.1
  obtain ⟨k1, k2, k3, k4, k5, k6⟩ := h
  refine ⟨fun k hk => by rw [h2 _ (by omega)]; exact k1 k hk, by rw [h2 _ (by omega)]; exact k2, by rw [h2 _ (by omega)]; exact k3, by rw [h2 _ (by omega)]; exact k4, fun q hq => ?_, fun j hj => ?_⟩
  · obtain ⟨q1, q2, q3, q4, q5, q6⟩ := k5 q hq
    exact ⟨by rw [h2 _ (by omega)]; exact q1, by rw [h2 _ (by omega)]; exact q2, by rw [h2 _ (by omega)]; exact q3, by rw [h2 _ (by omega)]; exact q4, by rw [h2 _ (by omega)]; exact q5, by rw [h2 _ (by omega)]; exact q6⟩
  · show _ = nI (if j = l then v else mL M j)
    by_cases e : j = l
    · subst e; rw [if_pos rfl, h1]
    · rw [if_neg e, h2 _ (by omega)]; exact k6 j hj
theorem Mb.setL {c : Nat} {G : Nat → Nat} {M : MT} (h : Mb c G M) (l : Nat) {v : Nat} (hv : v ≤ 2) : Mb c G (setL M l v) := by
  obtain ⟨b1, b2, b3, b4, b5⟩ := h
  refine ⟨b1, b2, b3, b4, fun j hj => ?_⟩
  show (if j = l then v else mL M j) ≤ 2
  split
  · exact hv
  · exact b5 j hj
theorem held_bits {G : Nat → Nat} {M : MT} {l v w : Nat} (hl : l < G 3) : bset (fun j => mL (setL M l v) j == w) (G 3) = if v = w then bset (fun j => mL M j == w) (G 3) ||| 2 ^ l else dif (bset (fun j => mL M j == w) (G 3)) (2 ^ l) := by
  symm
  apply eq_bset
  intro i
  have e : mL (setL M l v) i = if i = l then v else mL M i := rfl
  rw [e]
  by_cases q : v = w
  · rw [if_pos q, Nat.testBit_or, Nat.testBit_two_pow, bset_tb]
    by_cases h : i = l
    · subst h; simp [hl, q]
    · rw [if_neg h]
      have : decide (l = i) = false := by simp; omega
      rw [this, Bool.or_false]
  · rw [if_neg q, dif_tb, Nat.testBit_two_pow, bset_tb]
    by_cases h : i = l
    · subst h; simp [q]
    · rw [if_neg h]
      have : decide (l = i) = false := by simp; omega
      rw [this]; simp
theorem c_setLamp {N mo : Nat} {u : SG} {G : Nat → Nat} {M : MT} (hM : Mom u mo G M) (g : Gb G) {l : Nat} (hl : l < G 3) (b : Bool) : ∃ u', hX2_setLamp N mo (nI l) (nI (b2n b)) u = some ((), u') ∧ Mom u' mo G (setL M l (if b then 1 else 2)) ∧ Fz (SM mo) u u' := by
  have g3 := g.2.2.2.1
  have key : ∀ v1 v2 : Int32, v1 = nI (bset (fun j => mL (setL M l (if b then 1 else 2)) j == 1) (G 3)) → v2 = nI (bset (fun j => mL (setL M l (if b then 1 else 2)) j == 2) (G 3)) → Mom (sI (sI u mo 3 v1) mo 4 v2) mo G (setL M l (if b then 1 else 2)) ∧ Fz (SM mo) u (sI (sI u mo 3 v1) mo 4 v2) := by
    intro v1 v2 e1 e2
    obtain ⟨h1, h2, h3, h4, h5, h6, h7⟩ := hM
    refine ⟨⟨by rw [sI_n (by omega), sI_n (by omega)]; exact h1, by rw [sI_n (by omega), sI_n (by omega)]; exact h2, by rw [sI_n (by omega), sI_n (by omega)]; exact h3, by rw [sI_n (by omega), sI_s, e1], by rw [sI_s, e2], fun p hp => ?_, h7⟩, (Fz.sI (by unfold SM; omega)).tr (Fz.sI (by unfold SM; omega))⟩
    obtain ⟨q1, q2, q3⟩ := h6 p hp
    exact ⟨by rw [sI_n (by omega), sI_n (by omega)]; exact q1, by rw [sI_n (by omega), sI_n (by omega)]; exact q2, q3⟩
  unfold hX2_setLamp hgX2_setLamp_26
  rw [bs_eq, nI_shl l (by omega), hM.2.2.2.1]
  cases b with
  | false =>
    rw [if_pos (by decide), bs_eq, if_pos (by decide), sI_n (by omega), hM.2.2.2.2.1, nI_dif, nI_or, bs_eq]
    exact ⟨_, rfl, key _ _ (by rw [held_bits hl]; rfl) (by rw [held_bits hl]; rfl)⟩
  | true =>
    rw [if_neg (by decide), bs_eq, if_neg (by decide), sI_n (by omega), hM.2.2.2.2.1, nI_dif, nI_or, bs_eq]
    exact ⟨_, rfl, key _ _ (by rw [held_bits hl]; rfl) (by rw [held_bits hl]; rfl)⟩
theorem c_sIW {N a s : Nat} {u : SG} {G : Nat → Nat} {M : MT} (h : Str u s G) (g : Gb G) (k1 : zI u a 2 = nI (slS G M)) (k2 : zL u a 3 = lN (costM G M)) {p : Nat} (hp : p < G 1) : hX3_shareIfWakingPaid N a s (nI p) u = some (lN (if mA M p then 0 else costM G M / (G 1 - manyM G M)), u) := by
  have g1 := g.2.1
  have cl1 := costM_le g M
  have eb : dif (2 ^ G 1 - 1) (slS G M) = bset (fun q => !mA M q) (G 1) := by
    apply eq_bset
    intro i
    rw [dif_tb, Nat.testBit_two_pow_sub_one]
    unfold slS
    rw [bset_tb]
    cases decide (i < G 1) <;> simp
  have hb := bset_lt (fun q => !mA M q) (G 1)
  have hb5 := p5 g1 hb
  have hc := cnt_not (mA M) (G 1)
  have epc : pc (bset (fun q => !mA M q) (G 1)) = G 1 - manyM G M := by
    rw [cntB_bset _ _ (by omega)]
    unfold manyM
    omega
  unfold hX3_shareIfWakingPaid
  rw [c_everyone h g, cl_some, k1, nI_dif, eb, c_shareAmong (by omega) (by omega) k2 (by omega), cl_some, epc, bset_tb]
  cases e : mA M p with
  | true => simp
  | false =>
    have := many_lt G M hp e
    rw [if_neg (by omega), if_pos (by simp [hp]), if_neg (by decide)]
section OPS3
variable {N : Nat}
theorem op_turned (p1 p2 p3 : Int32) (hN : 2000 ≤ N) : OpOK (fun x u => fX10_turned N x p1 p2 p3 u) (fun m u => fX11_turned N m p1 p2 p3 u) := by
  refine op_ask (fun x u h => eX10_turned N x p1 p2 p3 u h) (fun m u h => eX11_turned N m p1 p2 p3 u h) (fun c x A hc hA => ?_)
  obtain ⟨g, hb, -⟩ := hA.2.2.2.2.1
  have g1 := g.2.1
  have nop : ∀ (H : p1 < 0 ∨ nI (sG (aS A) 1) ≤ p1), ∃ r, (∀ u, LY u → zK u x = 11 → InvC u x A → ∃ u1, hX10_turned N x p1 p2 p3 u = some (r, u1) ∧ Fz (Cw x) u u1) ∧ ∀ (m : Nat) (u : SG), InvR u m A → ∃ u1, hX11_turned N m p1 p2 p3 u = some (r, u1) ∧ InvR u1 m A ∧ Fz (Sr m) u u1 := by
    intro H
    refine ⟨-1000000, fun u _ _ iC => ⟨u, ?_, Fz.rf⟩, fun m u iR => ⟨u, ?_, iR, Fz.rf⟩⟩
    · unfold hX10_turned; rw [c_isP0 iC.sn.1 g H, cl_some, if_pos rfl]
    · unfold hX11_turned; rw [r_isP0 iR.sn.1.1 g H, cl_some, if_pos rfl]
  rcases pk_ix p1 (n := sG (aS A) 1) (by omega) with h | h | ⟨p, hp, rfl⟩
  · exact nop (Or.inl h)
  · exact nop (Or.inr h)
  have h0 : 0 < sG (aS A) 0 := by
    rcases Nat.eq_zero_or_pos (sG (aS A) 0) with e | e
    · have := (g.2.2.2.2.2.1 e).1; omega
    · exact e
  rcases span_cases p2 with ho | ⟨n, hn1, hn2, rfl⟩
  · refine ⟨-1000000, fun u _ _ iC => ⟨u, ?_, Fz.rf⟩, fun m u iR => ⟨u, ?_, iR, Fz.rf⟩⟩
    · unfold hX10_turned; rw [c_isP1 iC.sn.1 g hp, cl_some, if_neg (by decide), c_isSpan0 ho, cl_some, if_pos rfl]
    · unfold hX11_turned; rw [r_isP1 iR.sn.1.1 g hp, cl_some, if_neg (by decide), x_inB0 (b := 60) (q := 60) (by decide) rfl ho, cl_some, if_pos rfl]
  rcases part_cases p3 with ho | ⟨j, hj, rfl⟩
  · refine ⟨-1000000, fun u _ _ iC => ⟨u, ?_, Fz.rf⟩, fun m u iR => ⟨u, ?_, iR, Fz.rf⟩⟩
    · unfold hX10_turned; rw [c_isP1 iC.sn.1 g hp, cl_some, if_neg (by decide), c_isSpan1 hn1 hn2, cl_some, if_neg (by decide), c_isPart0 ho, cl_some, if_pos rfl]
    · unfold hX11_turned; rw [r_isP1 iR.sn.1.1 g hp, cl_some, if_neg (by decide), x_inB1 (b := 60) (q := 60) (by decide) rfl hn1 hn2, cl_some, if_neg (by decide), x_in0 (b := 1) (q := 1) ho (by decide) rfl, cl_some, if_pos rfl]
  have mono := mO_hrN (sG (aS A)) (oR A) (sM (aS A)) p n
  have hO := (hb.2.2.2.1 p hp).2.2
  have hbn := ((hb.hrN g h0 (oR A) n).2.2.2.1 p hp).2.2
  have twl := tw_le g (oR A) (sM (aS A)) p n
  refine ⟨frV (decide (twN (sG (aS A)) (oR A) (sM (aS A)) n p < mO (hrN (sG (aS A)) (oR A) (sM (aS A)) n) p - mO (sM (aS A)) p)) (twN (sG (aS A)) (oR A) (sM (aS A)) n p - (mO (hrN (sG (aS A)) (oR A) (sM (aS A)) n) p - mO (sM (aS A)) p) + (mO (hrN (sG (aS A)) (oR A) (sM (aS A)) n) p - mO (sM (aS A)) p - twN (sG (aS A)) (oR A) (sM (aS A)) n p)) 60 j, fun u _ _ iC => ?_, fun m u iR => ?_⟩
  · obtain ⟨u1, e1, e2, e3⟩ := c_momCopy (N := N) (a0 := x + 119) (p1 := x + 25) g iC.sn.2.1 (by omega)
    have f1 : Fz (Cw x) u u1 := e3.w (fun a k q => by unfold SM at q; unfold Cw; omega)
    unfold hX10_turned
    rw [c_isP1 iC.sn.1 g hp, cl_some, if_neg (by decide), c_isSpan1 hn1 hn2, cl_some, if_neg (by decide), c_isPart1 hj, cl_some, if_neg (by decide), e1, cl_some]
    refine lps (fun f k (s : Nat × SG) => hgX10_turned_52 N f x (nI p) (nI n) (nI j) (lN s.1) (nI k) s.2) n (fun k s => s.1 = twN (sG (aS A)) (oR A) (sM (aS A)) k p ∧ Mom s.2 (x + 119) (sG (aS A)) (hrN (sG (aS A)) (oR A) (sM (aS A)) k) ∧ Fz (Cw x) u s.2) (fun r => ∃ u9, r = some (_, u9) ∧ Fz (Cw x) u u9) ?_ ?_ N 0 (0, u1) (by omega) (by omega) ⟨rfl, e2, f1⟩
    · intro f s ⟨i1, i2, i3⟩
      refine ⟨s.2, ?_, i3⟩
      have iC2 := iC.z i3 (fun a k q => Or.inr q)
      rw [hgX10_turned_52, if_pos (nI_le (by omega) (by omega)), ixI (by omega) (by decide), ixI (by omega) (by decide), nI_clamp (by omega), bs_eq, show zL s.2 (x + 122) p = lN (mO (hrN (sG (aS A)) (oR A) (sM (aS A)) n) p) from (i2.2.2.2.2.2.1 p hp).2.2, show zL s.2 (x + 28) p = lN (mO (sM (aS A)) p) from (iC2.sn.2.1.2.2.2.2.2.1 p hp).2.2, lN_sub mono, i1, sub_sgL, c_frS (by omega) hj hN, cl_some]
    · intro f k s hk ⟨i1, i2, i3⟩
      have iC2 := iC.z i3 (fun a k q => Or.inr q)
      obtain ⟨o', w, a1, a2, a3, a4, a5, a6⟩ := c_trial1 (N := N) iC2 hA i2 (hb.hrN g h0 (oR A) k) (by omega) h0 hN
      have iC3 := iC2.z a6 (fun a k q => Or.inr q)
      refine ⟨(twN (sG (aS A)) (oR A) (sM (aS A)) (k + 1) p, w), ⟨rfl, a3, i3.tr a6⟩, ?_⟩
      rw [hgX10_turned_52, if_neg (nI_ge hk (by omega)), a1, cl_some, a2, cl_some, c_sIW iC3.sn.1 g a4 a5 hp, cl_some, bs_eq, lN_add, lit_1, nI_add, i1]
      rfl
  · obtain ⟨u1, e1, e2, e3, e4⟩ := r_keeps (N := N) u m hN
    have h10 : zI u1 (m + 10) = zI u (m + 10) := funext fun k => e4.I (by omega)
    have hO0 := (iR.sn.1.1.2.2.2.2.1 p hp).2.2.2.2.2
    unfold hX11_turned
    rw [r_isP1 iR.sn.1.1 g hp, cl_some, if_neg (by decide), x_inB1 (b := 60) (q := 60) (by decide) rfl hn1 hn2, cl_some, if_neg (by decide), x_in1 (b := 1) (q := 1) hj (by decide) rfl, cl_some, if_neg (by decide), r_pOf5 (by omega), cl_some, hO0, e1, cl_some]
    refine r_loop (o := oR A) (G := sG (aS A)) (M := sM (aS A)) (d := c) (u := u1) (m := m) (fun f k v => hgX11_turned_49 N f m (nI p) (nI n) (nI j) (nI (mO (sM (aS A)) p)) (nI k) v) n (by omega) (fun r => ∃ u9, r = some (_, u9) ∧ InvR u9 m A ∧ Fz (Sr m) u u9) (by rw [h10]; exact iR.sn.1.1) (by rw [h10]; exact iR.sn.1.2.1) g hb (by omega) h0 ((r_fo iR hA).zz e4 (fun a k q => by omega) (by omega)) (fun p hp => e3 p (by omega)) ?_ ?_ hN
    · intro f k v hk
      rw [hgX11_turned_49, if_neg (nI_ge hk (by omega)), lit_1, nI_add]
    · intro f v i1 i2 i3
      obtain ⟨u3, l1, l2, l3⟩ := r_laysBack (N := N) v m hN
      have f3 : Fz (SP m) u1 u3 := i3.tr (l3.w (fun a k q => by unfold S10 at q; unfold SP; omega))
      have hkk : ∀ k, k < 45 → zI u3 (m + 10) k = zI u (m + 10) k := fun k hk => by rw [l2 k hk, i3.I (by unfold SP; omega), e2 k hk]
      refine ⟨u3, ?_, r_back (P := fun a k => SP m a k ∨ a = m + 13 ∨ a = m + 11) iR hkk ((e4.w (fun a k q => by omega)).tr (f3.w (fun a k q => Or.inl q))) (fun a k q1 q2 q => by rcases q with q | q; exact SP_rw a k q1 q2 q; unfold Rw; omega), (e4.w (fun a k q => by unfold Sr; omega)).tr (f3.w SP_sr)⟩
      rw [hgX11_turned_49, if_pos (nI_le (by omega) (by omega)), ixI (by omega) (by decide), r_pOf5 (by omega), cl_some, nI_clamp (by omega), bs_eq, i2 p hp, (i1.2.2.2.2.1 p hp).2.2.2.2.2, pk_sub mono, l1, cl_some, sub_sgI, r_frS (by omega) hj hN, cl_some]
/-- what is owed behind n hours with a lamp held -/
def owH (A : AT) (l v n : Nat) (p : Option Nat) : Nat := match p with
  | none => mT (hrN (sG (aS A)) (oR A) (setL (sM (aS A)) l v) n)
  | some q => mO (hrN (sG (aS A)) (oR A) (setL (sM (aS A)) l v) n) q
theorem r_owedHeld {m c l v n : Nat} {u : SG} {A : AT} (iR : InvR u m A) (hA : Aok c A) (hc : c < 600) (hl : l < sG (aS A) 3) (hv : v = 1 ∨ v = 2) (hn : n ≤ 60) (p : Option Nat) (hp : ∀ q, p = some q → q < sG (aS A) 1) (h0 : 0 < sG (aS A) 0) (hN : 2000 ≤ N) : ∃ u', hX11_owedHeld N m (nI l) (nI v) (foI p) (nI n) u = some (nI (owH A l v n p), u') ∧ InvR u' m A ∧ Fz (Sr m) u u' := by
  obtain ⟨g, hb, -⟩ := hA.2.2.2.2.1
  have g1 := g.2.1
  have g3 := g.2.2.2.1
  obtain ⟨u1, e1, e2, e3, e4⟩ := r_keeps (N := N) u m hN
  have z2 : Fz (fun a k => a = m + 10 ∧ k = 40 + l) u1 (sI u1 (m + 10) (40 + l) (nI v)) := Fz.sI ⟨rfl, rfl⟩
  have h10 : zI u1 (m + 10) = zI u (m + 10) := funext fun k => e4.I (by omega)
  have hra : RA (zI (sI u1 (m + 10) (40 + l) (nI v)) (m + 10)) (sG (aS A)) (setL (sM (aS A)) l v) := RA.setL (f := zI u (m + 10)) g iR.sn.1.1 (by omega) (sI_s _ _ _ _) (fun j hj => by rw [z2.I (by omega), h10])
  have hrb : RB (zI (sI u1 (m + 10) (40 + l) (nI v)) (m + 10)) (sG (aS A)) := RB.z iR.sn.1.2.1 (fun j hj => by rw [z2.I (by omega), h10])
  unfold hX11_owedHeld
  rw [e1, cl_some]
  simp only [lit_40, nI_add]
  rw [ixI (by omega) (by decide), nI_clamp (by omega), bs_eq]
  refine r_loop (o := oR A) (G := sG (aS A)) (M := setL (sM (aS A)) l v) (d := c) (m := m) (fun f k w => hgX11_owedHeld_17 N f m (foI p) (nI n) (nI k) w) n (by omega) (fun r => ∃ u9, r = some (_, u9) ∧ InvR u9 m A ∧ Fz (Sr m) u u9) hra hrb g (hb.setL l (by omega)) (by omega) h0 (((r_fo iR hA).zz e4 (fun a k q => by omega) (by omega)).zz z2 (fun a k q => by omega) (by omega)) (fun p hp => by rw [z2.I (by omega)]; exact e3 p (by omega)) ?_ ?_ hN
  · intro f k w hk
    rw [hgX11_owedHeld_17, if_neg (nI_ge hk (by omega)), lit_1, nI_add]
  · intro f w i1 i2 i3
    obtain ⟨u3, l1, l2, l3⟩ := r_laysBack (N := N) w m hN
    have f3 : Fz (SP m) u1 u3 := ((z2.w (fun a k q => by unfold SP; omega)).tr i3).tr (l3.w (fun a k q => by unfold S10 at q; unfold SP; omega))
    have hkk : ∀ k, k < 45 → zI u3 (m + 10) k = zI u (m + 10) k := fun k hk => by rw [l2 k hk, i3.I (by unfold SP; omega), z2.I (by omega), e2 k hk]
    refine ⟨u3, ?_, r_back (P := fun a k => SP m a k ∨ a = m + 13 ∨ a = m + 11) iR hkk ((e4.w (fun a k q => by omega)).tr (f3.w (fun a k q => Or.inl q))) (fun a k q1 q2 q => by rcases q with q | q; exact SP_rw a k q1 q2 q; unfold Rw; omega), (e4.w (fun a k q => by unfold Sr; omega)).tr (f3.w SP_sr)⟩
    rw [hgX11_owedHeld_17, if_pos (nI_le (by omega) (by omega))]
    unfold hgX11_owedHeld_55
    cases p with
    | none =>
      rw [if_neg (show ¬ 0 ≤ foI none by decide), l1, cl_some, i1.2.2.2.1]
      rfl
    | some q =>
      have hq := hp q rfl
      show (if 0 ≤ nI q then cl (hX11_personOf N m (nI q) 5 w) _ else _) = _
      rw [if_pos (nI_pos' (by omega)), r_pOf5 (by omega), cl_some, l1, cl_some, (i1.2.2.2.2.1 q hq).2.2.2.2.2]
      rfl
theorem c_owedHeld {x c l n : Nat} {u : SG} {A : AT} (iC : InvC u x A) (hA : Aok c A) (hc : c < 600) (hl : l < sG (aS A) 3) (b : Bool) (hn : n ≤ 60) (h0 : 0 < sG (aS A) 0) (hN : 2000 ≤ N) : ∃ u1 u2 u3, hX2_copyOf N (x + 119) (x + 25) u = some ((), u1) ∧ hX2_setLamp N (x + 119) (nI l) (nI (b2n b)) u1 = some ((), u2) ∧ hX10_playTrial N x (nI n) u2 = some ((), u3) ∧ Mom u3 (x + 119) (sG (aS A)) (hrN (sG (aS A)) (oR A) (setL (sM (aS A)) l (if b then 1 else 2)) n) ∧ Fz (Cw x) u u3 := by
  obtain ⟨g, hb, -⟩ := hA.2.2.2.2.1
  obtain ⟨u1, e1, e2, e3⟩ := c_momCopy (N := N) (a0 := x + 119) (p1 := x + 25) g iC.sn.2.1 (by omega)
  obtain ⟨u2, f1, f2, f3⟩ := c_setLamp (N := N) e2 g hl b
  have w : ∀ a k, SM (x + 119) a k → Cw x a k := fun a k q => by unfold SM at q; unfold Cw; omega
  have z : Fz (Cw x) u u2 := (e3.w w).tr (f3.w w)
  obtain ⟨u3, a1, a2, a3⟩ := c_playTrial (N := N) (n := n) (iC.z z (fun a k q => Or.inr q)) hA f2 (hb.setL l (by cases b <;> decide)) h0 (by omega) (by omega) hN
  exact ⟨u1, u2, u3, e1, f1, a1, a2, z.tr a3⟩
theorem owH_le {c l v n : Nat} {A : AT} (hA : Aok c A) (h0 : 0 < sG (aS A) 0) (hv : v ≤ 2) (p : Option Nat) (hp : ∀ q, p = some q → q < sG (aS A) 1) : owH A l v n p ≤ 18000 * (c + n) := by
  obtain ⟨g, hb, -⟩ := hA.2.2.2.2.1
  have h := (hb.setL l hv).hrN g h0 (oR A) n
  cases p with
  | none => exact h.2.2.1
  | some q => exact (h.2.2.2.1 q (hp q rfl)).2.2
theorem op_spite (p1 p2 p3 p4 : Int32) (hN : 2000 ≤ N) : OpOK (fun x u => fX10_spite N x p1 p2 p3 p4 u) (fun m u => fX11_spite N m p1 p2 p3 p4 u) := by
  refine op_ask (fun x u h => eX10_spite N x p1 p2 p3 p4 u h) (fun m u h => eX11_spite N m p1 p2 p3 p4 u h) (fun c x A hc hA => ?_)
  obtain ⟨g, hb, -⟩ := hA.2.2.2.2.1
  have g1 := g.2.1
  have g3 := g.2.2.2.1
  have nop : ∀ (H : p1 < 0 ∨ nI (sG (aS A) 3) ≤ p1), ∃ r, (∀ u, LY u → zK u x = 11 → InvC u x A → ∃ u1, hX10_spite N x p1 p2 p3 p4 u = some (r, u1) ∧ Fz (Cw x) u u1) ∧ ∀ (m : Nat) (u : SG), InvR u m A → ∃ u1, hX11_spite N m p1 p2 p3 p4 u = some (r, u1) ∧ InvR u1 m A ∧ Fz (Sr m) u u1 := by
    intro H
    refine ⟨-1000000, fun u _ _ iC => ⟨u, ?_, Fz.rf⟩, fun m u iR => ⟨u, ?_, iR, Fz.rf⟩⟩
    · unfold hX10_spite; rw [c_isL0 iC.sn.1 g H, cl_some, if_pos rfl]
    · unfold hX11_spite; rw [r_isL0 iR.sn.1.1 g H, cl_some, if_pos rfl]
  rcases pk_ix p1 (n := sG (aS A) 3) (by omega) with h | h | ⟨l, hl, rfl⟩
  · exact nop (Or.inl h)
  · exact nop (Or.inr h)
  have h0 : 0 < sG (aS A) 0 := by
    rcases Nat.eq_zero_or_pos (sG (aS A) 0) with e | e
    · have := (g.2.2.2.2.2.1 e).2; omega
    · exact e
  -- who
  have main : ∀ (o : Option Nat), (∀ q, o = some q → q < sG (aS A) 1) → p2 = foI o → ∃ r, (∀ u, LY u → zK u x = 11 → InvC u x A → ∃ u1, hX10_spite N x (nI l) p2 p3 p4 u = some (r, u1) ∧ Fz (Cw x) u u1) ∧ ∀ (m : Nat) (u : SG), InvR u m A → ∃ u1, hX11_spite N m (nI l) p2 p3 p4 u = some (r, u1) ∧ InvR u1 m A ∧ Fz (Sr m) u u1 := by
    intro o hq eo
    have cd : ∀ u, InvC u x A → hX10_isDebtor N x p2 u = some (1, u) := fun u iC => by
      rw [eo]
      cases o with
      | none => exact c_debT iC g h0
      | some q => exact c_debP iC g h0 (hq q rfl)
    have rd : ∀ m u, InvR u m A → hX11_spite N m (nI l) p2 p3 p4 u = hgX11_spite_21 N m (nI l) p2 p3 p4 u := fun m u iR => by
      unfold hX11_spite
      rw [r_isL1 iR.sn.1.1 g hl, cl_some, if_neg (by decide), eo]
      cases o with
      | none => rw [if_pos (show foI none = -1 from rfl)]
      | some q =>
        have hq := hq q rfl
        show (if nI q = -1 then _ else cl (hX11_isPerson N m (nI q) u) _) = _
        rw [if_neg (nI_ne1 (by omega)), r_isP1 iR.sn.1.1 g hq, cl_some, if_neg (by decide)]
    rcases span_cases p3 with ho | ⟨n, hn1, hn2, rfl⟩
    · refine ⟨-1000000, fun u _ _ iC => ⟨u, ?_, Fz.rf⟩, fun m u iR => ⟨u, ?_, iR, Fz.rf⟩⟩
      · unfold hX10_spite; rw [c_isL1 iC.sn.1 g hl, cl_some, if_neg (by decide), cd u iC, cl_some, if_neg (by decide), c_isSpan0 ho, cl_some, if_pos rfl]
      · rw [rd m u iR]; unfold hgX11_spite_21; rw [x_inB0 (b := 60) (q := 60) (by decide) rfl ho, cl_some, if_pos rfl]
    rcases part_cases p4 with ho | ⟨j, hj, rfl⟩
    · refine ⟨-1000000, fun u _ _ iC => ⟨u, ?_, Fz.rf⟩, fun m u iR => ⟨u, ?_, iR, Fz.rf⟩⟩
      · unfold hX10_spite; rw [c_isL1 iC.sn.1 g hl, cl_some, if_neg (by decide), cd u iC, cl_some, if_neg (by decide), c_isSpan1 hn1 hn2, cl_some, if_neg (by decide), c_isPart0 ho, cl_some, if_pos rfl]
      · rw [rd m u iR]; unfold hgX11_spite_21; rw [x_inB1 (b := 60) (q := 60) (by decide) rfl hn1 hn2, cl_some, if_neg (by decide), x_in0 (b := 1) (q := 1) ho (by decide) rfl, cl_some, if_pos rfl]
    have L1 := owH_le (l := l) (v := 1) (n := n) hA h0 (by decide) o hq
    have L2 := owH_le (l := l) (v := 2) (n := n) hA h0 (by decide) o hq
    refine ⟨frV (decide (owH A l 1 n o < owH A l 2 n o)) (owH A l 1 n o - owH A l 2 n o + (owH A l 2 n o - owH A l 1 n o)) 60 j, fun u _ _ iC => ?_, fun m u iR => ?_⟩
    · obtain ⟨u1, u2, u3, a1, a2, a3, a4, a5⟩ := c_owedHeld (N := N) iC hA hc hl true hn2 h0 hN
      obtain ⟨v1, v2, v3, b1, b2, b3, b4, b5⟩ := c_owedHeld (N := N) (iC.z a5 (fun a k q => Or.inr q)) hA hc hl false hn2 h0 hN
      refine ⟨v3, ?_, a5.tr b5⟩
      have a2' : hX2_setLamp N (x + 119) (nI l) 1 u1 = some ((), u2) := a2
      have b2' : hX2_setLamp N (x + 119) (nI l) 0 v1 = some ((), v2) := b2
      have row : ∃ t, t < 6 ∧ fX10_debtorRow N p2 u = some (nI t, u) ∧ zL u3 (x + 122) t = lN (owH A l 1 n o) ∧ zL v3 (x + 122) t = lN (owH A l 2 n o) := by
        rw [eo]
        cases o with
        | none => exact ⟨5, by decide, by unfold fX10_debtorRow; rw [if_pos (show foI none = -1 from rfl)]; rfl, a4.2.2.2.2.2.2, b4.2.2.2.2.2.2⟩
        | some q =>
          have hq := hq q rfl
          refine ⟨q, by omega, ?_, (a4.2.2.2.2.2.1 q hq).2.2, (b4.2.2.2.2.2.1 q hq).2.2⟩
          show fX10_debtorRow N (nI q) u = _
          unfold fX10_debtorRow
          rw [if_neg (nI_ne1 (by omega))]
      obtain ⟨t, t1, t2, t3, t4⟩ := row
      unfold hX10_spite
      rw [c_isL1 iC.sn.1 g hl, cl_some, if_neg (by decide), cd u iC, cl_some, if_neg (by decide), c_isSpan1 hn1 hn2, cl_some, if_neg (by decide), c_isPart1 hj, cl_some, if_neg (by decide), t2, cl_some, a1, cl_some, a2', cl_some, a3, cl_some, ixI t1 (by decide), nI_clamp (by omega), bs_eq, t3, b1, cl_some, b2', cl_some, b3, cl_some, ixJ t1 (by decide), t4, sub_sgL, c_frS (by omega) hj hN, cl_some]
    · obtain ⟨u1, a1, a2, a3⟩ := r_owedHeld (N := N) (v := 1) iR hA hc hl (Or.inl rfl) hn2 o hq h0 hN
      obtain ⟨u2, b1, b2, b3⟩ := r_owedHeld (N := N) (v := 2) a2 hA hc hl (Or.inr rfl) hn2 o hq h0 hN
      refine ⟨u2, ?_, b2, a3.tr b3⟩
      have a1' : hX11_owedHeld N m (nI l) 1 p2 (nI n) u = some (nI (owH A l 1 n o), u1) := by rw [eo]; exact a1
      have b1' : hX11_owedHeld N m (nI l) 2 p2 (nI n) u1 = some (nI (owH A l 2 n o), u2) := by rw [eo]; exact b1
      rw [rd m u iR]
      unfold hgX11_spite_21
      rw [x_inB1 (b := 60) (q := 60) (by decide) rfl hn1 hn2, cl_some, if_neg (by decide), x_in1 (b := 1) (q := 1) hj (by decide) rfl, cl_some, if_neg (by decide), a1', cl_some, b1', cl_some, sub_sgI, r_frS (by omega) hj hN, cl_some]
  by_cases e1 : p2 = -1
  · exact main none (fun q h => by cases h) e1
  · have no : ∀ (H : p2 < 0 ∨ nI (sG (aS A) 1) ≤ p2), ∃ r, (∀ u, LY u → zK u x = 11 → InvC u x A → ∃ u1, hX10_spite N x (nI l) p2 p3 p4 u = some (r, u1) ∧ Fz (Cw x) u u1) ∧ ∀ (m : Nat) (u : SG), InvR u m A → ∃ u1, hX11_spite N m (nI l) p2 p3 p4 u = some (r, u1) ∧ InvR u1 m A ∧ Fz (Sr m) u u1 := by
      intro H
      refine ⟨-1000000, fun u _ _ iC => ⟨u, ?_, Fz.rf⟩, fun m u iR => ⟨u, ?_, iR, Fz.rf⟩⟩
      · unfold hX10_spite; rw [c_isL1 iC.sn.1 g hl, cl_some, if_neg (by decide), c_deb0 iC g e1 H, cl_some, if_pos rfl]
      · unfold hX11_spite; rw [r_isL1 iR.sn.1.1 g hl, cl_some, if_neg (by decide), if_neg e1, r_isP0 iR.sn.1.1 g H, cl_some, if_pos rfl]
    rcases pk_ix p2 (n := sG (aS A) 1) (by omega) with h | h | ⟨p, hp, rfl⟩
    · exact no (Or.inl h)
    · exact no (Or.inr h)
    · exact main (some p) (fun q h => by cases h; exact hp) rfl
end OPS3
