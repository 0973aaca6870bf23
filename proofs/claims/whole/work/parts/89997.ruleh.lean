/-! RULE: the reference, the whole -/
section RULH
variable {N m T τ : Nat} {u : SG} {t : Nat → Nat}
theorem f8_c {v w : SG} (f : Fz (F8 m) v w) : Fz (FC m τ) v w := frs_c (f8_ss f)
theorem RC.f {v : SG} {R : RT} {L : List Nat} {P : Nat → Nat → Prop} (h : RC u m τ R L) (f : Fz P u v) (h1 : ∀ k, ¬ P (m + 5) k) (h2 : ∀ k, ¬ P (m + 4) k) : RC v m τ R L := by
  have := (h.z (M := []) f (h1 τ) (fun i k _ _ _ => h2 k)).2
  rw [List.append_nil] at this
  exact this
theorem r_cluR (hT : TP t T) (hτ : τ < 6) (hN : 2000 ≤ N) {L : List Nat} {R : RT} {k p : Nat} (h : RSt u m t T τ L k p) (hc : RC u m τ R L) (h14 : zI u m 14 = nI R.length) (hr : R.length ≤ 12) (hp : p ≤ T) (hl : L.length ≤ p) (hk : k ≤ 60) : (∀ e, cluS t R.length k p = .error e → ∃ u', hX11_clauseHere N m u = some (0, u') ∧ zI u' m 9 = nI e ∧ Fz (FC m τ) u u') ∧ ∀ cl p' k', cluS t R.length k p = .ok (cl, p', k') → ∃ u', hX11_clauseHere N m u = some (1, u') ∧ RSt u' m t T τ (L ++ rcL cl) k' p' ∧ RC u' m τ (R ++ [cl]) (L ++ rcL cl) ∧ Fz (FC m τ) u u' ∧ zI u' m 14 = nI (R.length + 1) := by
  have np := (h.1.le hT).2.1
  obtain ⟨u1, a1, a2, a3, a4⟩ := r_seeR (N := N) h hT hN
  obtain ⟨u2, b1, b2, b3⟩ := r_isWord (N := N) (j := 17) a3.1 hT (by decide) hN
  have r2 := a3.to8 b3 (b2.rp hT np)
  have f2 := a4.tr b3
  have rc2 := hc.f f2 (fun k => by unfold F8; omega) (fun k => by unfold F8; omega)
  have l2 : zI u2 m 14 = nI R.length := by rw [f2.I (by unfold F8; omega)]; exact h14
  have bad : ∀ k, ∃ u', (cl (hX11_fails N m (nI k) (nI p) u2) fun r6 u7 => (if r6 = 0 ∨ r6 = 1 then some (r6, u7) else none)) = some (0, u') ∧ zI u' m 9 = nI (1 + 8 * p + k) ∧ Fz (FC m τ) u u' := fun k => by
    obtain ⟨w, w1, w2, w3⟩ := r_badR (N := N) (t := t) (T := T) (τ := τ) (L := L) r2.2.1 k p
    exact ⟨w, w1, w2, (f8_c f2).tr (frs_c (fr_s w3))⟩
  have head : hX11_clauseHere N m u = if wrO t p = some 17 then (if R.length = 12 then (cl (hX11_fails N m (nI 4) (nI p) u2) fun r6 u7 => (if r6 = 0 ∨ r6 = 1 then some (r6, u7) else none)) else (cl (hX11_isSleepHere N m (sI u2 m 14 (nI (R.length + 1)))) fun r2 u3 => (if r2 = 0 ∨ r2 = 1 then (some (r2, u3)) else (none)))) else (cl (hX11_fails N m (nI 0) (nI p) u2) fun r6 u7 => (if r6 = 0 ∨ r6 = 1 then some (r6, u7) else none)) := by
    unfold hX11_clauseHere hgX11_clauseHere_24 hgX11_clauseHere_49 hgX11_clauseHere_56 hgX11_clauseHere_71
    rw [a1, cl_some, bs_eq, a2.2.2.1, a3.2.2.1, show (6 : Int32) = nI 6 from rfl, if_neg (by rw [nI_eq (by omega) (by decide)]; omega), if_pos rfl, wl_17, b1, cl_some, l2, show (12 : Int32) = nI 12 from rfl]
    by_cases q : wrO t p = some 17
    · rw [q, some_beq, if_neg (show ¬ nI (b2n (decide (17 = 17))) = 0 by decide), if_pos rfl, if_pos rfl, ifeq (by omega) (by decide)]
      by_cases q2 : R.length = 12
      · rw [if_pos q2, if_pos q2]; rfl
      · rw [if_neg q2, if_neg q2, bs_eq, lit_1, nI_add, if_pos rfl]
    · rw [show (wrO t p == some 17) = false by simpa using q, if_pos (show nI (b2n false) = 0 from rfl), if_neg q]
      rfl
  rw [head]
  by_cases q : wrO t p = some 17
  · rw [if_pos q]
    by_cases q2 : R.length = 12
    · rw [if_pos q2]
      unfold cluS
      rw [if_pos q, if_pos (show 12 ≤ R.length by omega)]
      refine ⟨fun e h => ?_, fun cl p' k' h => (by cases h)⟩
      cases h
      exact bad 4
    · rw [if_neg q2]
      have f3 : Fz (fun a j => a = m ∧ j = 14) u2 (sI u2 m 14 (nI (R.length + 1))) := Fz.sI ⟨rfl, rfl⟩
      have r3 := r2.c4 (f3.w (fun a j z => Or.inr (Or.inr z)))
      have x3 := b2.z f3 (by omega) (fun k => by omega) (by omega)
      obtain ⟨o1, o2⟩ := r_sleep (N := N) (c := R.length) hT hτ hN r3 x3 (rc2.f f3 (fun k => by omega) (fun k => by omega)) q (by omega) (by omega) hp hl hk
      have fz : Fz (FC m τ) u (sI u2 m 14 (nI (R.length + 1))) := (f8_c f2).tr (f3.w (fun a j z => by unfold FC; omega))
      refine ⟨fun e he => ?_, fun cl' p' k' he => ?_⟩
      · obtain ⟨w, w1, w2, w3⟩ := o1 e he
        exact ⟨w, by rw [w1, cl_some, if_pos (Or.inl rfl)], w2, fz.tr w3⟩
      · obtain ⟨w, w1, w2, w3, w4, w5⟩ := o2 cl' p' k' he
        exact ⟨w, by rw [w1, cl_some, if_pos (Or.inr rfl)], w2, w3, fz.tr w4, by rw [w5, sI_s]⟩
  · rw [if_neg q]
    unfold cluS
    rw [if_neg q]
    refine ⟨fun e h => ?_, fun cl p' k' h => (by cases h)⟩
    cases h
    exact bad 0
theorem r_allR (hT : TP t T) (hτ : τ < 6) (hN : 2000 ≤ N) : ∀ n k p f u L R, R.length + n = 13 → 0 < n → n ≤ f → RSt u m t T τ L k p → RC u m τ R L → zI u m 14 = nI R.length → p ≤ T → L.length ≤ p → k ≤ 60 → (∀ e, rulS t n R.length k p = .error e → ∃ u', (cl (hX11_clauseHere N m u) fun r u' => hgX11_readsAll_35 N f m r u') = some (0, u') ∧ zI u' m 9 = nI e ∧ zI u' m 1 = 0 ∧ Fz (FC m τ) u u') ∧ ∀ R', rulS t n R.length k p = .ok R' → ∃ u' L', (cl (hX11_clauseHere N m u) fun r u' => hgX11_readsAll_35 N f m r u') = some (1, u') ∧ RC u' m τ (R ++ R') L' ∧ (∀ (j d : Nat), L'[j]? = some d → zI u' (m + 2) (400 * τ + j) = nI d) ∧ L'.length ≤ 400 ∧ zI u' m 1 = 0 ∧ Fz (FC m τ) u u' := by
  have h4 := hT.1
  intro n
  induction n with
  | zero => intro k p f u L R _ h; omega
  | succ n ih =>
    intro k p f u L R hR _ hf h hc h14 hp hl hk
    obtain ⟨f, rfl⟩ : ∃ f', f = f' + 1 := ⟨f - 1, by omega⟩
    obtain ⟨o1, o2⟩ := r_cluR (N := N) hT hτ hN h hc h14 (by omega) hp hl hk
    obtain ⟨v1, v2⟩ := cluS_ok hT (c := R.length) hp hk
    have s1 : ∀ {v : SG}, Fz (FC m τ) v (sI v m 1 0) := fun {v} => Fz.sI (Or.inr (Or.inl ⟨rfl, Or.inl rfl⟩))
    rw [rulS]
    cases ec : cluS t R.length k p with
    | error e =>
      obtain ⟨w, w1, w2, w3⟩ := o1 e ec
      obtain ⟨b1, b2⟩ := v2 e ec
      refine ⟨fun e' h => ?_, fun R' h => (by cases h)⟩
      cases h
      refine ⟨sI w m 1 0, ?_, by rw [sI_n (by omega)]; exact w2, by rw [sI_s], w3.tr s1⟩
      rw [w1, cl_some, hgX11_readsAll_35, if_pos rfl]
      unfold hgX11_readsAll_66 hgX11_readsAll_88
      rw [if_pos rfl, bs_eq, sI_n (by omega), w2, if_neg (nI_ne0 (by omega) (by omega))]
    | ok r =>
      obtain ⟨cl', q, k1⟩ := r
      obtain ⟨u1, w1, w2, w3, w4, w5⟩ := o2 cl' q k1 ec
      obtain ⟨b0, b1, b2, b3, b3', b4, b5, b6⟩ := v1 cl' q k1 ec
      have ll : (L ++ rcL cl').length ≤ q := by unfold rcL; simp; omega
      have npq := (w2.1.le hT).2.1
      obtain ⟨u2, s1', s2, s3, s4⟩ := r_seeR (N := N) w2 hT hN
      have rc2 := w3.f s4 (fun k => by unfold F8; omega) (fun k => by unfold F8; omega)
      obtain ⟨g1, g2⟩ := sg_59 hT b2
      rw [w1, cl_some, hgX11_readsAll_35, if_neg (by decide), s1', cl_some, show (59 : Int32) = nI 59 from rfl]
      dsimp only
      by_cases q59 : t q = 59
      · have lt := t_lt hT (p := q) (by omega)
        obtain ⟨m1, m2⟩ := nx_ok hT lt
        obtain ⟨x1, x2, x3⟩ := r_on s3 s2 lt
        have enx : sk t (q + 1) = nx t q := by unfold nx; rw [g2 q59]
        rw [enx] at x1
        have rc3 := rc2.f x3 (fun k => by unfold F8; omega) (fun k => by unfold F8; omega)
        have el : (R ++ [cl']).length = R.length + 1 := by simp
        obtain ⟨i1, i2⟩ := ih k1 (nx t q) f (sI u2 m 8 (nI (q + 1))) (L ++ rcL cl') (R ++ [cl']) (by rw [el]; omega) (by omega) (by omega) x1 rc3 (by rw [el, sI_n (by omega), s4.I (by unfold F8; omega)]; exact w5) m2 (by omega) b6
        rw [el] at i1 i2
        have fz := w4.tr (f8_c (s4.tr x3))
        rw [if_pos ((btI_eq (t_le hT q) (by decide)).mpr q59), bs_eq, s2.2.2.1, lit_1, nI_add, if_neg (show ¬ t q = 256 by omega), if_pos (g1.mpr q59)]
        cases er : rulS t n (R.length + 1) k1 (nx t q) with
        | error e =>
          obtain ⟨w, y1, y2, y3, y4⟩ := i1 e er
          refine ⟨fun e' h => ?_, fun R' h => (by cases h)⟩
          cases h
          exact ⟨w, y1, y2, y3, fz.tr y4⟩
        | ok R2 =>
          obtain ⟨w, L', y1, y2, y3, y4, y5, y6⟩ := i2 R2 er
          refine ⟨fun e' h => (by cases h), fun R' h => ?_⟩
          cases h
          exact ⟨w, L', y1, by simpa using y2, y3, y4, y5, fz.tr y6⟩
      · rw [if_neg (fun z => q59 ((btI_eq (t_le hT q) (by decide)).mp z)), if_neg (fun z => q59 (g1.mp z))]
        unfold hgX11_readsAll_66 hgX11_readsAll_88
        obtain ⟨u3, k1', k2, k3, k4⟩ := r_seeR (N := N) s3 hT hN
        have fz := w4.tr (f8_c (s4.tr k4))
        rw [if_neg (show ¬ (1 : Int32) = 0 by decide), k1', cl_some]
        by_cases q256 : t q = 256
        · rw [if_pos q256, if_pos (show btI (t q) = -1 by unfold btI; rw [if_pos q256]), bs_eq, sI_n (by omega), k3.2.1, if_pos rfl]
          refine ⟨fun e' h => (by cases h), fun R' h => ?_⟩
          cases h
          have f1 : Fz (fun a j => a = m ∧ j = 1) u3 (sI u3 m 1 0) := Fz.sI ⟨rfl, rfl⟩
          exact ⟨_, L ++ rcL cl', rfl, (rc2.f k4 (fun k => by unfold F8; omega) (fun k => by unfold F8; omega)).f f1 (fun k => by omega) (fun k => by omega), fun j d hd => by rw [f1.I (by omega)]; exact k3.2.2.2.2.2 j d hd, by omega, by rw [sI_s], fz.tr s1⟩
        · have tb := t_le hT q
          rw [if_neg q256, if_neg (show ¬ btI (t q) = -1 by unfold btI; rw [if_neg q256]; exact foI_ne (show t q < 2 ^ 31 by omega)), k2.2.2.1, show (0 : Int32) = nI 0 from rfl, r_fails0 k3.2.1, cl_some, bs_eq, sI_n (by omega), sI_s, if_neg (by rw [show nI 0 = (0 : Int32) from rfl]; exact nI_ne0 (by omega) (by omega))]
          refine ⟨fun e' h => ?_, fun R' h => (by cases h)⟩
          cases h
          exact ⟨_, rfl, by rw [sI_n (by omega), sI_s], by rw [sI_s], (fz.tr (Fz.sI (Or.inl (Or.inl (Or.inl ⟨rfl, Or.inr (Or.inl rfl)⟩))))).tr s1⟩
theorem RC.rul {R : RT} {L : List Nat} (h : RC u m τ R L) (hl : L.length ≤ 400) (hc : ∀ (j d : Nat), L[j]? = some d → zI u (m + 2) (400 * τ + j) = nI d) : RRul u m τ R := by
  refine ⟨h.1, fun i c hi => ?_⟩
  obtain ⟨q, a1, a2, a3, a4, a5, a6⟩ := h.2 i c hi
  refine ⟨q, by omega, a2, a3, fun j d hd => hc _ _ (a4 j d hd), a5, fun cs hcs => ?_⟩
  obtain ⟨q2, b1, b2, b3, b4⟩ := a6 cs hcs
  exact ⟨q2, by omega, b2, b3, fun j d hd => hc _ _ (b4 j d hd)⟩
theorem r_ruleT (hT : TP t T) (hτ : τ < 6) (h1 : zI u m 1 = nI T) (hb : ∀ k, k < T → zI u (m + 1) k = byI (t k)) (h2 : zI u m 2 = nI τ) (hN : 2000 ≤ N) : (∀ e, rulS t 13 0 0 (sk t 0) = .error e → ∃ u', hX11_rule N m u = some (-2 - nI e, u') ∧ zI u' m 1 = 0 ∧ Fz (fun a k => FC m τ a k ∨ (a = m ∧ k = 11)) u u') ∧ ∀ R, rulS t 13 0 0 (sk t 0) = .ok R → ∃ u', hX11_rule N m u = some (nI τ, u') ∧ RRul u' m τ R ∧ zI u' m 1 = 0 ∧ zI u' m 2 = nI (τ + 1) ∧ Fz (fun a k => FC m τ a k ∨ (a = m ∧ (k = 2 ∨ k = 11))) u u' := by
  have h4 := hT.1
  unfold hX11_rule hX11_readsAll
  rw [h2, show (6 : Int32) = nI 6 from rfl, if_neg (by rw [nI_eq (by omega) (by decide)]; omega), bs_eq, sI_s, ixI (by omega) (by decide), bs_eq, nI_clamp (by omega), sI_n (by omega), sI_s, ixI (by omega) (by decide), nI_clamp (by omega)]
  simp only [bs_eq]
  generalize ew : sI (sI (sI (sI (sI (sI (sI u m 11 (nI τ)) (m + 5) τ 0) (m + 3) τ 0) m 14 0) m 8 0) m 9 0) m 12 0 = w
  have fw : Fz (fun a k => FC m τ a k ∨ (a = m ∧ k = 11)) u w := by
    rw [← ew]
    exact ((((((Fz.sI (Or.inr ⟨rfl, rfl⟩)).tr (Fz.sI (Or.inl (Or.inr (Or.inr (Or.inr ⟨rfl, rfl⟩)))))).tr (Fz.sI (Or.inl (Or.inl (Or.inl (Or.inr (Or.inr ⟨rfl, rfl⟩))))))).tr (Fz.sI (Or.inl (Or.inr (Or.inl ⟨rfl, Or.inr rfl⟩))))).tr (Fz.sI (Or.inl (Or.inl (Or.inl (Or.inl ⟨rfl, Or.inl rfl⟩)))))).tr (Fz.sI (Or.inl (Or.inl (Or.inl (Or.inl ⟨rfl, Or.inr (Or.inl rfl)⟩)))))).tr (Fz.sI (Or.inl (Or.inl (Or.inl (Or.inl ⟨rfl, Or.inr (Or.inr (Or.inr rfl))⟩)))))
  have x0 : RX w m t T 0 := ⟨by rw [← ew, sI_n (by omega), sI_n (by omega), sI_n (by omega), sI_n (by omega), sI_n (by omega), sI_n (by omega), sI_n (by omega)]; exact h1, fun k hk => by rw [← ew, sI_n (by omega), sI_n (by omega), sI_n (by omega), sI_n (by omega), sI_n (by omega), sI_n (by omega), sI_n (by omega)]; exact hb k hk, by rw [← ew, sI_n (by omega), sI_n (by omega), sI_s]; rfl, Nat.zero_le _⟩
  have r0 : RSt w m t T τ [] 0 (sk t 0) := ⟨⟨0, x0, rfl⟩, by rw [← ew, sI_n (by omega), sI_s], by rw [← ew, sI_n (by omega), sI_n (by omega), sI_n (by omega), sI_n (by omega), sI_n (by omega), sI_n (by omega), sI_s], by rw [← ew, sI_s]; rfl, by rw [← ew, sI_n (by omega), sI_n (by omega), sI_n (by omega), sI_n (by omega), sI_s]; rfl, fun j d hd => by simp at hd⟩
  have c0 : RC w m τ [] [] := ⟨by rw [← ew, sI_n (by omega), sI_n (by omega), sI_n (by omega), sI_n (by omega), sI_n (by omega), sI_s]; rfl, fun i c hc => by simp at hc⟩
  have l0 : zI w m 14 = nI 0 := by rw [← ew, sI_n (by omega), sI_n (by omega), sI_n (by omega), sI_s]; rfl
  obtain ⟨i1, i2⟩ := r_allR (N := N) hT hτ hN 13 0 (sk t 0) N w [] [] rfl (by omega) (by omega) r0 c0 l0 ((sk_ok hT 0).2.1 (Nat.zero_le _)) (Nat.zero_le _) (by omega)
  refine ⟨fun e he => ?_, fun R he => ?_⟩
  · obtain ⟨v, a1, a2, a3, a4⟩ := i1 e he
    exact ⟨v, by rw [a1, cl_some, if_pos rfl, a2], a3, fw.tr (a4.w (fun a k z => Or.inl z))⟩
  · obtain ⟨v, L', a1, a2, a3, a4, a5, a6⟩ := i2 R he
    have v2 : zI v m 2 = nI τ := by
      rw [a6.I (by unfold FC FRs FR; omega), ← ew, sI_n (by omega), sI_n (by omega), sI_n (by omega), sI_n (by omega), sI_n (by omega), sI_n (by omega), sI_n (by omega)]; exact h2
    have f2 : Fz (fun a k => a = m ∧ k = 2) v (sI v m 2 (nI (τ + 1))) := Fz.sI ⟨rfl, rfl⟩
    refine ⟨sI v m 2 (nI (τ + 1)), ?_, ?_, by rw [sI_n (by omega)]; exact a5, by rw [sI_s], ((fw.w (fun a k z => by rcases z with z | z; exact Or.inl z; exact Or.inr (by omega))).tr (a6.w (fun a k z => Or.inl z))).tr (f2.w (fun a k z => Or.inr (by omega)))⟩
    · rw [a1, cl_some, if_neg (by decide), v2, lit_1, nI_add, sI_s, pk_sub (by omega)]
      rfl
    · exact (a2.f f2 (fun k => by omega) (fun k => by omega)).rul a4 (fun j d hd => by rw [f2.I (by omega)]; exact a3 j d hd)
end RULH
