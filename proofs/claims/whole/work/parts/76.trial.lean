/-! TRIALS OF HOURS -/
theorem InvR.zi {u v : SG} {m : Nat} {A : AT} (h : InvR u m A) (z : ∀ a k, m ≤ a → a ≤ m + 19 → ¬ Rw m a k → zI v a k = zI u a k) : InvR v m A := by
  have e10 : zI v (m + 10) = zI u (m + 10) := funext fun k => z _ _ (by omega) (by omega) (by unfold Rw; omega)
  obtain ⟨⟨h1, h2⟩, ⟨h3, h4⟩, ⟨h5, h6, h7⟩, ⟨h8, h9⟩, h10⟩ := h
  refine ⟨⟨by rw [z _ _ (by omega) (by omega) (by unfold Rw; omega)]; exact h1, fun k hk => by rw [z _ _ (by omega) (by omega) (by unfold Rw; omega)]; exact h2 k hk⟩, ⟨by rw [z _ _ (by omega) (by omega) (by unfold Rw; omega)]; exact h3, fun t R hR => ?_⟩, ⟨by rw [e10]; exact h5, by rw [z _ _ (by omega) (by omega) (by unfold Rw; omega)]; exact h6, by rw [z _ _ (by omega) (by omega) (by unfold Rw; omega)]; exact h7⟩, ⟨by rw [z _ _ (by omega) (by omega) (by unfold Rw; omega)]; exact h8, fun j M hM => ?_⟩, fun k hk => ?_⟩
  · have h4 := h4 t R hR
    refine ⟨by rw [z _ _ (by omega) (by omega) (by unfold Rw; omega)]; exact h4.1, fun i c hc => ?_⟩
    obtain ⟨p, g1, g2, g3, g4, g5, g6⟩ := h4.2 i c hc
    refine ⟨p, g1, by rw [z _ _ (by omega) (by omega) (by unfold Rw; omega)]; exact g2, by rw [z _ _ (by omega) (by omega) (by unfold Rw; omega)]; exact g3, fun j d hd => by rw [z _ _ (by omega) (by omega) (by unfold Rw; omega)]; exact g4 j d hd, fun hn => by rw [z _ _ (by omega) (by omega) (by unfold Rw; omega)]; exact g5 hn, fun cs hcs => ?_⟩
    obtain ⟨q, l1, l2, l3, l4⟩ := g6 cs hcs
    exact ⟨q, l1, by rw [z _ _ (by omega) (by omega) (by unfold Rw; omega)]; exact l2, by rw [z _ _ (by omega) (by omega) (by unfold Rw; omega)]; exact l3, fun j d hd => by rw [z _ _ (by omega) (by omega) (by unfold Rw; omega)]; exact l4 j d hd⟩
  · have e : (fun k => zI v (m + 12) (45 * j + k)) = (fun k => zI u (m + 12) (45 * j + k)) := funext fun k => z _ _ (by omega) (by omega) (by unfold Rw; omega)
    rw [e]
    exact h9 j M hM
  · have h10 := h10 k hk
    refine ⟨by rw [z _ _ (by omega) (by omega) (by unfold Rw; omega)]; exact h10.1, fun S hS => ?_⟩
    have e : (fun j => zI v (m + 16) (144 * k + j)) = (fun j => zI u (m + 16) (144 * k + j)) := funext fun j => z _ _ (by omega) (by omega) (by unfold Rw; omega)
    rw [e, z _ _ (by omega) (by omega) (by unfold Rw; omega), z _ _ (by omega) (by omega) (by unfold Rw; omega)]
    exact h10.2 S hS
def oR (A : AT) : Option RT := match sf (aS A) with
  | none => none
  | some t => (aR A)[t]?
def hrN (G : Nat → Nat) (o : Option RT) (M : MT) : Nat → MT
  | 0 => M
  | n + 1 => hrM G o (hrN G o M n)
def twN (G : Nat → Nat) (o : Option RT) (M : MT) : Nat → Nat → Nat
  | 0 => fun _ => 0
  | n + 1 => twM G (ruM G o (wakeM G (hrN G o M n))) (twN G o M n)
theorem Mb.hr {c : Nat} {G : Nat → Nat} {M : MT} (g : Gb G) (h : Mb c G M) (h0 : 0 < G 0) (o : Option RT) : Mb (c + 1) G (hrM G o M) := by
  obtain ⟨f, e⟩ := ruM_r G o (wakeM G M)
  unfold hrM
  rw [e]
  exact Mb.nx g (by exact h) h0
theorem Mb.hrN {c : Nat} {G : Nat → Nat} {M : MT} (g : Gb G) (h : Mb c G M) (h0 : 0 < G 0) (o : Option RT) : ∀ n, Mb (c + n) G (hrN G o M n) := by
  intro n
  induction n with
  | zero => exact h
  | succ n ih => exact ih.hr g h0 o
theorem mO_hr (G : Nat → Nat) (o : Option RT) (M : MT) (p : Nat) : mO M p ≤ mO (hrM G o M) p := by
  obtain ⟨f, e⟩ := ruM_r G o (wakeM G M)
  unfold hrM nxM goM
  rw [e]
  split
  · exact Nat.le_add_right _ _
  · exact Nat.le_add_right _ _
theorem mO_hrN (G : Nat → Nat) (o : Option RT) (M : MT) (p : Nat) : ∀ n, mO M p ≤ mO (hrN G o M n) p := by
  intro n
  induction n with
  | zero => exact Nat.le_refl _
  | succ n ih => exact Nat.le_trans ih (mO_hr G o _ p)
theorem tw_le {G : Nat → Nat} (g : Gb G) (o : Option RT) (M : MT) (p : Nat) : ∀ n, twN G o M n p ≤ 18000 * n := by
  intro n
  induction n with
  | zero => exact Nat.le_refl _
  | succ n ih =>
    rw [twN, twM]
    have h1 := costM_le g (ruM G o (wakeM G (hrN G o M n)))
    have h2 := Nat.div_le_self (costM G (ruM G o (wakeM G (hrN G o M n)))) (G 1 - manyM G (ruM G o (wakeM G (hrN G o M n))))
    split <;> omega
theorem c_ruleNow {N x c : Nat} {u : SG} {A : AT} (iC : InvC u x A) (hA : Aok c A) : ∃ o', hX10_ruleNow N x u = some (o', u) ∧ CFo u (x + 212) o' (oR A) := by
  have hr := hA.2.2.1
  have hf := iC.sn.2.2.2.2.1
  unfold hX10_ruleNow
  rw [bs_eq, hf]
  cases e : sf (aS A) with
  | none =>
    refine ⟨none, ?_, Or.inl ⟨rfl, by unfold oR; rw [e]⟩⟩
    rw [if_pos (show foI none < 0 by decide)]
  | some t =>
    have ht := hA.2.2.2.2.1.2.2.2.2.1 t e
    obtain ⟨R, hR⟩ : ∃ R, (aR A)[t]? = some R := ⟨_, List.getElem?_eq_getElem ht⟩
    obtain ⟨q, q1, q2, q3⟩ := iC.rl.2 t R hR
    refine ⟨some q, ?_, Or.inr ⟨q, R, rfl, by unfold oR; rw [e]; exact hR, q2, hA.2.2.2.1 R (List.mem_of_getElem? hR), q3⟩⟩
    show (if nI t < 0 then _ else _) = _
    rw [if_neg (nI_pos (by omega)), iC.rl.1]
    show (if nI (aR A).length ≤ nI t then _ else _) = _
    rw [if_neg (nI_ge ht (by omega))]
    show (if nI t < 0 ∨ 6 ≤ (nI t).toNatClampNeg then none else some (zR u (x + 16) (nI t).toNatClampNeg, u)) = _
    rw [ixI (by omega) (by decide), nI_clamp (by omega), q1]
theorem r_fo {m c : Nat} {u : SG} {A : AT} (iR : InvR u m A) (hA : Aok c A) : RFo u m (oR A) := by
  have hr := hA.2.2.1
  have hf := iR.sn.2.1
  unfold oR
  cases e : sf (aS A) with
  | none => exact Or.inl ⟨rfl, by rw [hf, e]; decide⟩
  | some t =>
    have ht := hA.2.2.2.2.1.2.2.2.2.1 t e
    obtain ⟨R, hR⟩ : ∃ R, (aR A)[t]? = some R := ⟨_, List.getElem?_eq_getElem ht⟩
    exact Or.inr ⟨t, R, hR, by omega, by rw [hf, e]; rfl, iR.rl.2 t R hR, hA.2.2.2.1 R (List.mem_of_getElem? hR)⟩
section TRY
variable {N x m c d : Nat} {u : SG} {A : AT} {M : MT}
/-- one hour of the trial -/
theorem c_trial1 (iC : InvC u x A) (hA : Aok c A) (hM : Mom u (x + 119) (sG (aS A)) M) (hb : Mb d (sG (aS A)) M) (hd : d < 998) (h0 : 0 < sG (aS A) 0) (hN : 2000 ≤ N) : ∃ o' u', hX10_ruleNow N x u = some (o', u) ∧ hX3_play N (x + 117) (x + 18) (x + 119) o' u = some (nI (manyM (sG (aS A)) (ruM (sG (aS A)) (oR A) (wakeM (sG (aS A)) M))), u') ∧ Mom u' (x + 119) (sG (aS A)) (hrM (sG (aS A)) (oR A) M) ∧ zI u' (x + 117) 2 = nI (slS (sG (aS A)) (ruM (sG (aS A)) (oR A) (wakeM (sG (aS A)) M))) ∧ zL u' (x + 117) 3 = lN (costM (sG (aS A)) (ruM (sG (aS A)) (oR A) (wakeM (sG (aS A)) M))) ∧ Fz (Cw x) u u' := by
  obtain ⟨o', e1, e2⟩ := c_ruleNow (N := N) iC hA
  have g := hA.2.2.2.2.1.1
  obtain ⟨u', f1, f2, f3, f4, f5⟩ := c_play (N := N) (a := x + 117) (s := x + 18) (mo := x + 119) (b := x + 212) iC.sn.1 hM g hb hd h0 (by omega) (by omega) (Or.inr (by omega)) e2 (by omega) (by omega) hN
  exact ⟨o', u', e1, f1, f2, f3, f4, f5.w (fun a k q => by unfold SC at q; unfold Cw; omega)⟩
theorem c_playTrial (iC : InvC u x A) (hA : Aok c A) (hM : Mom u (x + 119) (sG (aS A)) M) (hb : Mb d (sG (aS A)) M) (h0 : 0 < sG (aS A) 0) {n : Nat} (hn : n ≤ 100) (hd : d + n < 998) (hN : 2000 ≤ N) : ∃ u', hX10_playTrial N x (nI n) u = some ((), u') ∧ Mom u' (x + 119) (sG (aS A)) (hrN (sG (aS A)) (oR A) M n) ∧ Fz (Cw x) u u' := by
  have g := hA.2.2.2.2.1.1
  refine lps (fun f k v => hgX10_playTrial_2 N f x (nI n) (nI k) v) n (fun k v => Mom v (x + 119) (sG (aS A)) (hrN (sG (aS A)) (oR A) M k) ∧ Fz (Cw x) u v) (fun r => ∃ u', r = some ((), u') ∧ Mom u' (x + 119) (sG (aS A)) (hrN (sG (aS A)) (oR A) M n) ∧ Fz (Cw x) u u') ?_ ?_ N 0 u (by omega) (by omega) ⟨hM, Fz.rf⟩
  · intro f v ⟨h1, h2⟩
    exact ⟨v, by rw [hgX10_playTrial_2, if_pos (nI_le (by omega) (by omega))], h1, h2⟩
  · intro f k v hk ⟨h1, h2⟩
    obtain ⟨o', w, e1, e2, e3, -, -, e4⟩ := c_trial1 (N := N) (iC.z h2 (fun a k q => Or.inr q)) hA h1 (hb.hrN g h0 (oR A) k) (by omega) h0 hN
    exact ⟨w, ⟨e3, h2.tr e4⟩, by rw [hgX10_playTrial_2, if_neg (nI_ge hk (by omega)), e1, cl_some, e2, cl_some, lit_1, nI_add]⟩
theorem r_keeps (u : SG) (m : Nat) (hN : 2000 ≤ N) : ∃ u', hX11_keeps N m u = some ((), u') ∧ (∀ k, k < 45 → zI u' (m + 13) k = zI u (m + 10) k) ∧ (∀ p, p < 5 → zI u' (m + 11) p = nI 0) ∧ Fz (fun a _ => a = m + 13 ∨ a = m + 11) u u' := by
  refine lps (fun f k v => hgX11_keeps_2 N f m (nI k) v) 45 (fun k v => (∀ j, j < k → zI v (m + 13) j = zI u (m + 10) j) ∧ Fz (fun a _ => a = m + 13 ∨ a = m + 11) u v) (fun r => ∃ u', r = some ((), u') ∧ (∀ k, k < 45 → zI u' (m + 13) k = zI u (m + 10) k) ∧ (∀ p, p < 5 → zI u' (m + 11) p = nI 0) ∧ Fz (fun a _ => a = m + 13 ∨ a = m + 11) u u') ?_ ?_ N 0 u (by omega) (by omega) ⟨fun j hj => by omega, Fz.rf⟩
  · intro f v ⟨h1, h2⟩
    rw [hgX11_keeps_2, lit_45, if_pos (nI_le (by omega) (by omega))]
    refine lps (fun f k w => hgX11_keeps_28 N f m (nI k) w) 5 (fun k w => (∀ j, j < k → zI w (m + 11) j = nI 0) ∧ (∀ k, k < 45 → zI w (m + 13) k = zI u (m + 10) k) ∧ Fz (fun a _ => a = m + 13 ∨ a = m + 11) u w) (fun r => ∃ u', r = some ((), u') ∧ (∀ k, k < 45 → zI u' (m + 13) k = zI u (m + 10) k) ∧ (∀ p, p < 5 → zI u' (m + 11) p = nI 0) ∧ Fz (fun a _ => a = m + 13 ∨ a = m + 11) u u') ?_ ?_ N 0 v (by omega) (by omega) ⟨fun j hj => by omega, h1, h2⟩
    · intro f w ⟨i1, i2, i3⟩
      exact ⟨w, by rw [hgX11_keeps_28, lit_5, if_pos (nI_le (by omega) (by omega))], i2, i1, i3⟩
    · intro f k w hk ⟨i1, i2, i3⟩
      rw [hgX11_keeps_28, lit_5, if_neg (nI_ge hk (by omega)), ixI hk (by decide), nI_clamp (by omega), bs_eq, lit_1, nI_add]
      refine ⟨_, ⟨fun j hj => ?_, fun j hj => by rw [sI_n (by omega)]; exact i2 j hj, i3.tr (Fz.sI (Or.inr rfl))⟩, rfl⟩
      by_cases e : j = k
      · subst e; rw [sI_s]; rfl
      · rw [sI_n (by omega)]; exact i1 j (by omega)
  · intro f k v hk ⟨h1, h2⟩
    rw [hgX11_keeps_2, lit_45, if_neg (nI_ge hk (by omega)), ixI (by omega) (by decide), ixI (by omega) (by decide), nI_clamp (by omega), bs_eq, lit_1, nI_add]
    refine ⟨_, ⟨fun j hj => ?_, h2.tr (Fz.sI (Or.inl rfl))⟩, rfl⟩
    by_cases e : j = k
    · subst e; rw [sI_s, h2.I (by omega)]
    · rw [sI_n (by omega)]; exact h1 j (by omega)
theorem r_laysBack (u : SG) (m : Nat) (hN : 2000 ≤ N) : ∃ u', hX11_laysBack N m u = some ((), u') ∧ (∀ k, k < 45 → zI u' (m + 10) k = zI u (m + 13) k) ∧ Fz (S10 m) u u' := by
  refine lps (fun f k v => hgX11_laysBack_2 N f m (nI k) v) 45 (fun k v => (∀ j, j < k → zI v (m + 10) j = zI u (m + 13) j) ∧ Fz (S10 m) u v) (fun r => ∃ u', r = some ((), u') ∧ (∀ k, k < 45 → zI u' (m + 10) k = zI u (m + 13) k) ∧ Fz (S10 m) u u') ?_ ?_ N 0 u (by omega) (by omega) ⟨fun j hj => by omega, Fz.rf⟩
  · intro f v ⟨h1, h2⟩
    exact ⟨v, by rw [hgX11_laysBack_2, lit_45, if_pos (nI_le (by omega) (by omega))], h1, h2⟩
  · intro f k v hk ⟨h1, h2⟩
    rw [hgX11_laysBack_2, lit_45, if_neg (nI_ge hk (by omega)), ixI hk (by decide), ixI (by omega) (by decide), nI_clamp (by omega), bs_eq, lit_1, nI_add]
    refine ⟨_, ⟨fun j hj => ?_, h2.tr (Fz.sI (by unfold S10; omega))⟩, rfl⟩
    by_cases e : j = k
    · subst e; rw [sI_s, h2.I (by unfold S10; omega)]
    · rw [sI_n (by omega)]; exact h1 j (by omega)
/-- a loop of hours in the reference -/
theorem r_loop {G : Nat → Nat} {o : Option RT} {β : Type} (g9 : Nat → Nat → SG → Option β) (B : Nat) (hB : B ≤ 100) (Q : Option β → Prop) (h : RA (zI u (m + 10)) G M) (hr : RB (zI u (m + 10)) G) (g : Gb G) (hb : Mb d G M) (hd : d + B < 998) (h0 : 0 < G 0) (ho : RFo u m o) (hW : ∀ p, p < G 1 → zI u (m + 11) p = nI 0) (hs : ∀ n k v, k < B → g9 (n + 1) k v = cl (hX11_passes N m v) (fun _ w => g9 n (k + 1) w)) (hx : ∀ n v, RA (zI v (m + 10)) G (hrN G o M B) → (∀ p, p < G 1 → zI v (m + 11) p = nI (twN G o M B p)) → Fz (SP m) u v → Q (g9 (n + 1) B v)) (hN : 2000 ≤ N) : Q (g9 N 0 u) := by
  refine lps g9 B (fun k v => RA (zI v (m + 10)) G (hrN G o M k) ∧ (∀ p, p < G 1 → zI v (m + 11) p = nI (twN G o M k p)) ∧ Fz (SP m) u v) Q (fun n v hI => hx n v hI.1 hI.2.1 hI.2.2) ?_ N 0 u (by omega) (by omega) ⟨h, hW, Fz.rf⟩
  intro n k v hk ⟨h1, h2, h3⟩
  obtain ⟨w, e1, e2, e3, e4⟩ := r_passes (N := N) h1 (rb_z hr h3 (fun k hk => by unfold SP; omega)) g (hb.hrN g h0 o k) (by omega) (ho.z h3) h2 hN
  exact ⟨w, ⟨e2, e4, h3.tr e3⟩, by rw [hs n k v hk, e1, cl_some]⟩
/-- behind a trial all is as it was -/
theorem r_back {v : SG} (iR : InvR u m A) (hk : ∀ k, k < 45 → zI v (m + 10) k = zI u (m + 10) k) {P : Nat → Nat → Prop} (f : Fz P u v) (hP : ∀ a k, m ≤ a → a ≤ m + 19 → P a k → Rw m a k ∨ (a = m + 10 ∧ k < 45)) : InvR v m A := iR.zi (fun a k q1 q2 q3 => by
  by_cases e : P a k
  · rcases hP a k q1 q2 e with z | ⟨z1, z2⟩
    · exact absurd z q3
    · subst z1; exact hk k z2
  · exact f.I e)
end TRY
