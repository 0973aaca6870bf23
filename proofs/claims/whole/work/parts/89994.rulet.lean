/-! RULE: the reference's tests, by a stack -/
def dp : List Nat → Nat
  | [] => 0
  | s :: st => (if s = 11 ∨ s = 91 then 1 else 0) + dp st
def StN (f : Nat → Int32) : List Nat → Prop
  | [] => True
  | s :: st => f st.length = nI s ∧ StN f st
def SV (st : List Nat) : Prop := ∀ s ∈ st, s = 11 ∨ s = 12 ∨ s = 13 ∨ s = 91
def str (s : Nat) : Nat := if s = 13 then 1 else if s = 12 then 2 else if s = 11 then 3 else 0
def fl (b : Nat) : List Nat → List Nat → List Nat × List Nat
  | [], L => ([], L)
  | s :: st, L => if b ≤ str s then fl b st (L ++ [s]) else (s :: st, L)
def SK (u : SG) (m : Nat) (st : List Nat) : Prop := zI u m 16 = nI st.length ∧ StN (zI u (m + 7)) st ∧ zI u m 13 = nI (dp st)
def RK (u : SG) (m : Nat) (t : Nat → Nat) (T τ : Nat) (L : List Nat) (k p : Nat) (st : List Nat) : Prop := RSt u m t T τ L k p ∧ SK u m st
def FRs (m τ : Nat) : Nat → Nat → Prop := fun a k => FR m τ a k ∨ (a = m ∧ (k = 13 ∨ k = 16)) ∨ a = m + 7
def FRq (m τ : Nat) : Nat → Nat → Prop := fun a k => (a = m ∧ (k = 13 ∨ k = 16)) ∨ a = m + 7 ∨ (a = m + 2 ∧ 400 * τ ≤ k ∧ k < 400 * τ + 400) ∨ (a = m + 3 ∧ k = τ)
theorem StN_ext {f g : Nat → Int32} : ∀ {st : List Nat}, StN f st → (∀ k, k < st.length → g k = f k) → StN g st := by
  intro st
  induction st with
  | nil => intros; trivial
  | cons s st ih =>
    intro h hg
    exact ⟨(hg _ (by simp)).trans h.1, ih h.2 (fun k hk => hg k (by simp; omega))⟩
theorem StN_mem {f : Nat → Int32} : ∀ {st : List Nat} {s : Nat}, StN f st → s ∈ st → ∃ j, j < st.length ∧ f j = nI s := by
  intro st
  induction st with
  | nil => intro s _ h; simp at h
  | cons a st ih =>
    intro s h hs
    rcases List.mem_cons.mp hs with e | e
    · subst e; exact ⟨st.length, by simp, h.1⟩
    · obtain ⟨j, j1, j2⟩ := ih h.2 e
      exact ⟨j, by simp; omega, j2⟩
theorem StN_idx {f : Nat → Int32} : ∀ {st : List Nat} {j : Nat}, StN f st → j < st.length → ∃ s ∈ st, f j = nI s := by
  intro st
  induction st with
  | nil => intro j _ h; simp at h
  | cons a st ih =>
    intro j h hj
    by_cases q : j = st.length
    · subst q; exact ⟨a, by simp, h.1⟩
    · obtain ⟨s, s1, s2⟩ := ih (j := j) h.2 (by simp at hj; omega)
      exact ⟨s, by simp [s1], s2⟩
theorem dp_le : ∀ st, dp st ≤ st.length := by
  intro st
  induction st with
  | nil => exact Nat.le_refl _
  | cons s st ih => rw [dp]; simp; split <;> omega
theorem fl_len (b : Nat) : ∀ st L, (fl b st L).1.length + (fl b st L).2.length = st.length + L.length := by
  intro st
  induction st with
  | nil => intro L; rfl
  | cons s st ih =>
    intro L
    rw [fl]
    split
    · rw [ih]; simp; omega
    · rfl
theorem fl_pe {b : Nat} {st : List Nat} (h0 : ∀ s r, st = s :: r → str s < b) : ∀ pe L, (∀ s ∈ pe, b ≤ str s) → fl b (pe ++ st) L = (st, L ++ pe) := by
  intro pe
  induction pe with
  | nil =>
    intro L _
    cases st with
    | nil => simp [fl]
    | cons s r =>
      have := h0 s r rfl
      show fl b (s :: r) L = _
      rw [fl, if_neg (by omega)]
      simp
  | cons a pe ih =>
    intro L h
    show fl b (a :: (pe ++ st)) L = _
    rw [fl, if_pos (h a (by simp)), ih _ (fun s hs => h s (by simp [hs]))]
    simp
section RULT
variable {N m T τ : Nat} {u : SG} {t : Nat → Nat}
theorem fr_s {v w : SG} (f : Fz (FR m τ) v w) : Fz (FRs m τ) v w := f.w (fun a k z => Or.inl z)
theorem f8_ss {v w : SG} (f : Fz (F8 m) v w) : Fz (FRs m τ) v w := fr_s (f8_R f)
theorem SK.z {v : SG} {P : Nat → Nat → Prop} {st : List Nat} (h : SK u m st) (f : Fz P u v) (h1 : ¬ P m 16) (h2 : ¬ P m 13) (h3 : ∀ k, ¬ P (m + 7) k) : SK v m st := ⟨by rw [f.I h1]; exact h.1, StN_ext h.2.1 (fun k _ => f.I (h3 k)), by rw [f.I h2]; exact h.2.2⟩
theorem SK.R {v : SG} {st : List Nat} (h : SK u m st) (f : Fz (FR m τ) u v) : SK v m st := h.z f (by unfold FR; omega) (by unfold FR; omega) (fun k => by unfold FR; omega)
theorem SK.f8 {v : SG} {st : List Nat} (h : SK u m st) (f : Fz (F8 m) u v) : SK v m st := h.z f (by unfold F8; omega) (by unfold F8; omega) (fun k => by unfold F8; omega)
theorem RSt.s {v : SG} {L : List Nat} {k p : Nat} (h : RSt u m t T τ L k p) (f : Fz (fun a j => (a = m ∧ (j = 13 ∨ j = 16)) ∨ a = m + 7) u v) : RSt v m t T τ L k p := ⟨h.1.z f (by omega) (fun k => by omega) (by omega), by rw [f.I (by omega)]; exact h.2.1, by rw [f.I (by omega)]; exact h.2.2.1, by rw [f.I (by omega)]; exact h.2.2.2.1, by rw [f.I (by omega)]; exact h.2.2.2.2.1, fun j d hd => by rw [f.I (by omega)]; exact h.2.2.2.2.2 j d hd⟩
theorem x_str {s : Nat} (hs : s = 11 ∨ s = 12 ∨ s = 13 ∨ s = 91) : fX11_strength N (nI s) u = some (nI (str s), u) := by
  rcases hs with rfl | rfl | rfl | rfl <;> rfl
theorem fq_s {v w : SG} (f : Fz (FRq m τ) v w) : Fz (FRs m τ) v w := f.w (fun a k z => by unfold FRq at z; unfold FRs FR; omega)
theorem r_settle (hT : TP t T) (hτ : τ < 6) {b k p : Nat} (hb : 1 ≤ b ∧ b ≤ 3) : ∀ st n u L, st.length < n → RK u m t T τ L k p st → SV st → L.length + st.length ≤ 400 → ∃ u', hgX11_settles_0 N n m (nI b) u = some ((), u') ∧ RK u' m t T τ (fl b st L).2 k p (fl b st L).1 ∧ Fz (FRq m τ) u u' := by
  intro st
  induction st with
  | nil =>
    intro n u L hn h _ _
    obtain ⟨n, rfl⟩ : ∃ j, n = j + 1 := ⟨n - 1, by simp at hn; omega⟩
    refine ⟨u, ?_, h, Fz.rf⟩
    rw [hgX11_settles_0, h.2.1, if_pos (show nI ([] : List Nat).length ≤ 0 by decide)]
  | cons s st ih =>
    intro n u L hn h hv hl
    obtain ⟨n, rfl⟩ : ∃ j, n = j + 1 := ⟨n - 1, by omega⟩
    have sv := hv s (by simp)
    obtain ⟨hr, h16, hst, h13⟩ := h
    have h16 : zI u m 16 = nI (st.length + 1) := h16
    have l2 : L.length + (st.length + 1) ≤ 400 := hl
    have sl : str s ≤ 3 := by unfold str; split <;> (try split) <;> (try split) <;> omega
    rw [hgX11_settles_0, h16, if_neg (nI_nle (by omega) (by omega)), lit_1, pk_sub (by omega), show st.length + 1 - 1 = st.length by omega, ixI (by omega) (by decide), nI_clamp (by omega), hst.1, x_str sv, cl_some, iflt (by omega) (by omega), fl]
    by_cases q : b ≤ str s
    · rw [if_neg (by omega), if_pos q, bs_eq, h16, pk_sub (by omega), show st.length + 1 - 1 = st.length by omega]
      generalize e1 : sI u m 16 (nI st.length) = u1
      have f1 : Fz (fun a j => (a = m ∧ (j = 13 ∨ j = 16)) ∨ a = m + 7) u u1 := by rw [← e1]; exact Fz.sI (Or.inl ⟨rfl, Or.inr rfl⟩)
      have r1 := hr.s f1
      have k16 : zI u1 m 16 = nI st.length := by rw [← e1, sI_s]
      have st1 : StN (zI u1 (m + 7)) (s :: st) := StN_ext hst (fun k _ => by rw [← e1, sI_n (by omega)])
      have k13 : zI u1 m 13 = nI (dp (s :: st)) := by rw [← e1, sI_n (by omega)]; exact h13
      obtain ⟨u2, p1, p2, p3⟩ := r_puts (N := N) (s := s) (v := 0) r1 hτ (by omega)
      have l16 : zI u2 m 16 = nI st.length := by rw [p3.I (by omega)]; exact k16
      have st2 : StN (zI u2 (m + 7)) (s :: st) := StN_ext st1 (fun k _ => p3.I (by omega))
      have l13 : zI u2 m 13 = nI (dp (s :: st)) := by rw [p3.I (by omega)]; exact k13
      have fz : Fz (FRq m τ) u u2 := (f1.w (fun a j z => by unfold FRq; omega)).tr (p3.w (fun a j z => by unfold FRq; omega))
      rw [k16, ixI (by omega) (by decide), nI_clamp (by omega), st1.1, show (0 : Int32) = nI 0 from rfl, p1, cl_some, l16, show nI 0 = (0 : Int32) from rfl, ixI (by omega) (by decide), nI_clamp (by omega), st2.1, l13, show (11 : Int32) = nI 11 from rfl, ifeq (by omega) (by decide)]
      rw [Nat.mul_zero, Nat.add_zero] at p2
      by_cases q11 : s = 11
      · rw [if_pos q11, bs_eq]
        generalize e3 : sI u2 m 13 (nI (dp (s :: st)) - nI 1) = u3
        have f3 : Fz (fun a j => (a = m ∧ (j = 13 ∨ j = 16)) ∨ a = m + 7) u2 u3 := by rw [← e3]; exact Fz.sI (Or.inl ⟨rfl, Or.inl rfl⟩)
        have d1 : dp (s :: st) = 1 + dp st := by rw [dp, if_pos (Or.inl q11)]
        obtain ⟨u4, g1, g2, g3⟩ := ih n u3 (L ++ [s]) (by simp at hn; omega) ⟨p2.s f3, by rw [← e3, sI_n (by omega)]; exact l16, StN_ext st2.2 (fun k _ => by rw [← e3, sI_n (by omega)]), by rw [← e3, sI_s, d1, pk_sub (by omega)]; congr 1; omega⟩ (fun a ha => hv a (by simp [ha])) (by simp; omega)
        exact ⟨u4, g1, g2, (fz.tr (f3.w (fun a j z => by unfold FRq; omega))).tr g3⟩
      · rw [if_neg q11]
        have n91 : ¬ s = 91 := fun z => by rw [z] at q; have : str 91 = 0 := rfl; omega
        have d1 : dp (s :: st) = dp st := by rw [dp, if_neg (by omega), Nat.zero_add]
        obtain ⟨u4, g1, g2, g3⟩ := ih n u2 (L ++ [s]) (by simp at hn; omega) ⟨p2, l16, st2.2, by rw [l13, d1]⟩ (fun a ha => hv a (by simp [ha])) (by simp; omega)
        exact ⟨u4, g1, g2, fz.tr g3⟩
    · rw [if_pos (by omega), if_neg q]
      exact ⟨u, rfl, ⟨hr, h16, hst, h13⟩, Fz.rf⟩
theorem r_inside {st : List Nat} (h : SK u m st) (hv : SV st) (hl : st.length ≤ 400) (hN : 2000 ≤ N) : hX11_isInside N m u = some (nI (b2n (decide (91 ∈ st))), u) := by
  unfold hX11_isInside
  refine lpq (fun n k (_ : Unit) => hgX11_isInside_2 N n m (nI k) u) st.length (fun k _ => ∀ j, j < k → ¬ zI u (m + 7) j = nI 91) (fun r => r = some (nI (b2n (decide (91 ∈ st))), u)) ?_ ?_ N 0 () (by omega) (by omega) (fun j hj => by omega)
  · intro n _ hI
    have : ¬ 91 ∈ st := fun z => by
      obtain ⟨j, j1, j2⟩ := StN_mem h.2.1 z
      exact hI j j1 j2
    rw [hgX11_isInside_2, h.1, if_pos (nI_le (by omega) (by omega)), decide_eq_false this]
    rfl
  · intro n k _ hk hI
    obtain ⟨s, s1, s2⟩ := StN_idx h.2.1 hk
    have sv := hv s s1
    by_cases q : s = 91
    · left
      subst q
      rw [hgX11_isInside_2, h.1, if_neg (nI_ge hk (by omega)), ixI (by omega) (by decide), nI_clamp (by omega), s2, if_pos (show nI 91 = (91 : Int32) from rfl), decide_eq_true s1]
      rfl
    · right
      refine ⟨(), fun j hj => ?_, ?_⟩
      · by_cases e : j = k
        · subst e; rw [s2]; exact fun z => q ((nI_eq (by omega) (by decide)).mp z)
        · exact hI j (by omega)
      · rw [hgX11_isInside_2, h.1, if_neg (nI_ge hk (by omega)), ixI (by omega) (by decide), nI_clamp (by omega), s2, show (91 : Int32) = nI 91 from rfl, if_neg (fun z => q ((nI_eq (by omega) (by decide)).mp z)), lit_1, nI_add]
/-- what comes behind the brackets' ends -/
def RSd (N m n : Nat) (u : SG) : Option (Int32 × SG) := cl (hX11_isWord N m (6385252 : Int64) u) fun r13 u14 => (if r13 = 0 then (cl (hX11_isWord N m (28530 : Int64) u14) fun r15 u16 => (if r15 = 0 then (hgX11_tested_54 N (hgX11_tested_12 N n) m (0 : Int32) u16) else (hgX11_tested_49 N (hgX11_tested_12 N n) m u16))) else (hgX11_tested_49 N (hgX11_tested_12 N n) m u14))
def Cd (N m f5 n : Nat) (u : SG) : Option (Int32 × SG) := cl (hgX11_closes_5 N f5 m u) fun _ u12 => RSd N m n u12
def Ad (N m j n : Nat) (u : SG) : Option (Int32 × SG) := cl (hgX11_fact_2 N j m (1 : Int32) u) fun r9 u10 => (if r9 = 0 then some ((0 : Int32), u10) else cl (hX11_closes N m u10) fun _ u12 => RSd N m n u12)
theorem tested_A (n : Nat) (u : SG) : hgX11_tested_12 N (n + 1) m (1 : Int32) u = Ad N m N n u := by
  rw [hgX11_tested_12, if_neg (by decide)]
  rfl
def Nop (t : Nat → Nat) (b p : Nat) : Prop := (b ≤ 2 → ¬ wrO t p = some 20) ∧ (b ≤ 1 → ¬ wrO t p = some 19)
def top0 (b : Nat) (st : List Nat) : Prop := ∀ s r, st = s :: r → str s < b
/-- the judgement of a level -/
def LJ (N m : Nat) (t : Nat → Nat) (T τ b d : Nat) (F : Nat → Nat → PRs) : Prop := ∀ u L k p st j n, RK u m t T τ L k p st → dp st = d → SV st → top0 b st → p ≤ T → L.length + st.length ≤ p → k ≤ 60 → 2000 ≤ j + p → 2000 ≤ n + p → (∀ e, F k p = .error e → ∃ u', Ad N m j n u = some (0, u') ∧ zI u' m 9 = nI e ∧ Fz (FRs m τ) u u') ∧ ∀ cs p' k', F k p = .ok (cs, p', k') → ∃ u' f5 n' L' pe, Ad N m j n u = Cd N m f5 n' u' ∧ RK u' m t T τ L' k' p' (pe ++ st) ∧ (∀ s ∈ pe, (s = 12 ∨ s = 13) ∧ b ≤ str s) ∧ L' ++ pe = L ++ cs ∧ Nop t b p' ∧ 2000 ≤ f5 + p' ∧ 2000 ≤ n' + p' ∧ Fz (FRs m τ) u u'
/-- the judgement of a fact -/
def FJ (N m : Nat) (t : Nat → Nat) (T τ d : Nat) (F : Nat → Nat → PRs) : Prop := ∀ u L k p st j n, RK u m t T τ L k p st → dp st = d → SV st → p ≤ T → L.length + st.length ≤ p → k ≤ 60 → 2000 ≤ j + p → 2000 ≤ n + p → (∀ e, F k p = .error e → ∃ u', Ad N m j n u = some (0, u') ∧ zI u' m 9 = nI e ∧ Fz (FRs m τ) u u') ∧ ∀ cs p' k', F k p = .ok (cs, p', k') → ∃ u' f5 n', Ad N m j n u = Cd N m f5 n' u' ∧ RK u' m t T τ (fl 3 st (L ++ cs)).2 k' p' (fl 3 st (L ++ cs)).1 ∧ 2000 ≤ f5 + p' ∧ 2000 ≤ n' + p' ∧ Fz (FRs m τ) u u'
theorem FJ.lj {d : Nat} {F : Nat → Nat → PRs} (h : FJ N m t T τ d F) : LJ N m t T τ 3 d F := by
  intro u L k p st j n h1 h2 h3 h4 h5 h6 h7 h8 h9
  obtain ⟨o1, o2⟩ := h u L k p st j n h1 h2 h3 h5 h6 h7 h8 h9
  refine ⟨o1, fun cs p' k' e => ?_⟩
  obtain ⟨u', f5, n', a1, a2, a3, a4, a5⟩ := o2 cs p' k' e
  have := fl_pe h4 [] (L ++ cs) (fun s hs => by simp at hs)
  rw [List.nil_append, List.append_nil] at this
  rw [this] at a2
  exact ⟨u', f5, n', L ++ cs, [], a1, a2, fun s hs => by simp at hs, by simp, ⟨fun z => by omega, fun z => by omega⟩, a3, a4, a5⟩
/-- an operation pushed -/
theorem r_pushS (hT : TP t T) (hτ : τ < 6) (hN : 2000 ≤ N) {w s b : Nat} (hw : w = 20 ∧ s = 12 ∧ b = 2 ∨ w = 19 ∧ s = 13 ∧ b = 1) {L' : List Nat} {k p f5 n : Nat} {pe st : List Nat} (h : RK u m t T τ L' k p (pe ++ st)) (hv : SV (pe ++ st)) (ht : top0 b st) (hpe : ∀ a ∈ pe, b ≤ str a) (hl : L'.length + (pe ++ st).length ≤ p) (hp : p ≤ T) (ew : wrO t p = some w) (h5 : 0 < f5) : ∃ u', Cd N m f5 (n + 1) u = Ad N m N n u' ∧ RK u' m t T τ (L' ++ pe) k (nx t p) (s :: st) ∧ Fz (FRs m τ) u u' := by
  have h4 := hT.1
  have hs : isS (t p) = true := ((wrO_iff (wrO_lt ew)).mp ew).1
  have sl := isS_lt hs
  have np : ¬ t p = 32 := by omega
  have lt := wr_T hT ew
  obtain ⟨f5, rfl⟩ : ∃ j, f5 = j + 1 := ⟨f5 - 1, by omega⟩
  obtain ⟨u1, a1, a2, a3, a4⟩ := r_seeR (N := N) h.1 hT hN
  have k1 := h.2.f8 a4
  -- no bracket ends here
  have ec : hgX11_closes_5 N (f5 + 1) m u = some ((), u1) := by
    rw [hgX11_closes_5, a1, cl_some, show (93 : Int32) = nI 93 from rfl, if_neg (fun z => by have := (btI_eq (t_le hT p) (by decide)).mp z; omega)]
  obtain ⟨u2, b1, b2, b3⟩ := r_isWord (N := N) (j := 20) a3.1 hT (by decide) hN
  have r2 := a3.to8 b3 (b2.rp hT np)
  have k2 := k1.f8 b3
  rw [ew, some_beq] at b1
  -- the operation's word passed, what binds as much put
  have e76 : ∀ v, RX v m t T p → RSt v m t T τ L' k p → SK v m (pe ++ st) → Fz (F8 m) u v → ∃ u', hgX11_tested_76 N (hgX11_tested_12 N (n + 1)) m (1 : Int32) (nI s) v = Ad N m N n u' ∧ RK u' m t T τ (L' ++ pe) k (nx t p) (s :: st) ∧ Fz (FRs m τ) u u' := by
    intro v xv rv kv fv
    obtain ⟨v1, c1, c2, c3⟩ := r_passW (N := N) xv hT hs hN
    have rv1 := rv.to8 c3 c2
    have kv1 := kv.f8 c3
    have ss : s = 11 ∨ s = 12 ∨ s = 13 ∨ s = 91 := by omega
    have sb : str s = b := by rcases hw with ⟨-, rfl, rfl⟩ | ⟨-, rfl, rfl⟩ <;> rfl
    obtain ⟨v2, d1, d2, d3⟩ := r_settle (N := N) hT hτ (b := b) (by omega) (pe ++ st) N v1 L' (by omega) ⟨rv1, kv1⟩ hv (by omega)
    rw [fl_pe ht pe L' hpe] at d2
    obtain ⟨rv2, k16, kst, k13⟩ := d2
    have k16 : zI v2 m 16 = nI st.length := k16
    have stl : st.length ≤ 399 := by
      simp at hl
      omega
    have n91 : ¬ (s = 11 ∨ s = 91) := by omega
    refine ⟨sI (sI v2 (m + 7) st.length (nI s)) m 16 (nI (st.length + 1)), ?_, ?_, ?_⟩
    · unfold hgX11_tested_76
      rw [c1, cl_some, x_str ss, cl_some, sb]
      unfold hX11_settles
      rw [d1, cl_some, k16, ixI (by omega) (by decide), bs_eq, nI_clamp (by omega), sI_n (by omega), k16, bs_eq, lit_1, nI_add]
      exact tested_A n _
    · have f : Fz (fun a j => (a = m ∧ (j = 13 ∨ j = 16)) ∨ a = m + 7) v2 (sI (sI v2 (m + 7) st.length (nI s)) m 16 (nI (st.length + 1))) := (Fz.sI (Or.inr rfl)).tr (Fz.sI (Or.inl ⟨rfl, Or.inr rfl⟩))
      refine ⟨rv2.s f, by rw [sI_s]; rfl, ⟨by rw [sI_n (by omega), sI_s], StN_ext kst (fun k hk => by rw [sI_n (by omega), sI_n (by omega)])⟩, ?_⟩
      rw [sI_n (by omega), sI_n (by omega), k13, dp, if_neg n91, Nat.zero_add]
    · exact ((f8_ss (fv.tr c3)).tr (fq_s d3)).tr ((Fz.sI (Or.inr (Or.inr rfl))).tr (Fz.sI (Or.inr (Or.inl ⟨rfl, Or.inr rfl⟩))))
  unfold Cd RSd hgX11_tested_49 hgX11_tested_54
  rw [ec, cl_some, wl_20, wl_19, b1, cl_some, if_neg (show ¬ (1 : Int32) = 0 by decide)]
  rcases hw with ⟨rfl, rfl, rfl⟩ | ⟨rfl, rfl, rfl⟩
  · obtain ⟨u3, c1, c2, c3⟩ := r_isWord (N := N) (j := 20) r2.1 hT (by decide) hN
    rw [ew, some_beq] at c1
    obtain ⟨w', w1, w2, w3⟩ := e76 u3 c2 (r2.to8 c3 (c2.rp hT np)) (k2.f8 c3) ((a4.tr b3).tr c3)
    refine ⟨w', ?_, w2, w3⟩
    rw [if_neg (show ¬ nI (b2n (decide (20 = 20))) = 0 by decide), c1, cl_some, if_neg (show ¬ nI (b2n (decide (20 = 20))) = 0 by decide)]
    exact w1
  · obtain ⟨u3, c1, c2, c3⟩ := r_isWord (N := N) (j := 19) r2.1 hT (by decide) hN
    rw [ew, some_beq] at c1
    have r3 := r2.to8 c3 (c2.rp hT np)
    obtain ⟨u4, d1, d2, d3⟩ := r_isWord (N := N) (j := 20) r3.1 hT (by decide) hN
    rw [ew, some_beq] at d1
    obtain ⟨w', w1, w2, w3⟩ := e76 u4 d2 (r3.to8 d3 (d2.rp hT np)) ((k2.f8 c3).f8 d3) (((a4.tr b3).tr c3).tr d3)
    refine ⟨w', ?_, w2, w3⟩
    rw [if_pos (show nI (b2n (decide (19 = 20))) = 0 from rfl), c1, cl_some, if_neg (show ¬ nI (b2n (decide (19 = 19))) = 0 by decide), d1, cl_some, if_pos (show nI (b2n (decide (19 = 20))) = 0 from rfl)]
    exact w1
/-- a level above a level -/
theorem LJ.up (hT : TP t T) (hτ : τ < 6) (hN : 2000 ≤ N) {w s b d : Nat} (hw : w = 20 ∧ s = 12 ∧ b = 2 ∨ w = 19 ∧ s = 13 ∧ b = 1) {F : Nat → Nat → PRs} (hF : LJ N m t T τ (b + 1) d F) (pf : PF T true F) : LJ N m t T τ b d (lev t (fun p => if wrO t p = some w then some s else none) F) := by
  have h4 := hT.1
  have ho : OPt T true (fun p => if wrO t p = some w then some s else none) := by
    rcases hw with ⟨rfl, rfl, rfl⟩ | ⟨rfl, rfl, rfl⟩
    · exact opN_ok hT
    · exact opO_ok hT
  have sb : str s = b := by rcases hw with ⟨-, rfl, rfl⟩ | ⟨-, rfl, rfl⟩ <;> rfl
  have loop : ∀ nn u L' k p st pe f5 n, RK u m t T τ L' k p (pe ++ st) → dp st = d → SV st → top0 b st → (∀ a ∈ pe, (a = 12 ∨ a = 13) ∧ b ≤ str a) → p ≤ T → L'.length + (pe ++ st).length ≤ p → k ≤ 60 → T - p < nn → Nop t (b + 1) p → 2000 ≤ f5 + p → 2000 ≤ n + p → (∀ e, itL t (fun p => if wrO t p = some w then some s else none) F nn k p = .error e → ∃ u', Cd N m f5 n u = some (0, u') ∧ zI u' m 9 = nI e ∧ Fz (FRs m τ) u u') ∧ ∀ ds p' k', itL t (fun p => if wrO t p = some w then some s else none) F nn k p = .ok (ds, p', k') → ∃ u' f5' n' L'' pe', Cd N m f5 n u = Cd N m f5' n' u' ∧ RK u' m t T τ L'' k' p' (pe' ++ st) ∧ (∀ a ∈ pe', (a = 12 ∨ a = 13) ∧ b ≤ str a) ∧ L'' ++ pe' = L' ++ pe ++ ds ∧ Nop t b p' ∧ 2000 ≤ f5' + p' ∧ 2000 ≤ n' + p' ∧ Fz (FRs m τ) u u' := by
    intro nn
    induction nn with
    | zero => intro u L' k p st pe f5 n _ _ _ _ _ _ _ _ h; omega
    | succ nn ih =>
      intro u L' k p st pe f5 n hr hd hv htp hpe hp hl hk hn hnop h5 hn2
      rw [itL]
      by_cases ew : wrO t p = some w
      · rw [if_pos ew]
        dsimp only
        have lt := wr_T hT ew
        obtain ⟨n1, n2⟩ := nx_ok hT lt
        obtain ⟨n, rfl⟩ : ∃ j, n = j + 1 := ⟨n - 1, by omega⟩
        have svp : SV (pe ++ st) := fun a ha => by
          rcases List.mem_append.mp ha with z | z
          · have := (hpe a z).1; omega
          · exact hv a z
        obtain ⟨u1, a1, a2, a3⟩ := r_pushS (N := N) (n := n) hT hτ hN hw hr svp htp (fun a ha => (hpe a ha).2) hl hp ew (show 0 < f5 by omega)
        have d1 : dp (s :: st) = d := by rw [dp, if_neg (by omega), Nat.zero_add]; exact hd
        have sv1 : SV (s :: st) := fun a ha => by
          rcases List.mem_cons.mp ha with z | z
          · omega
          · exact hv a z
        simp at hl
        obtain ⟨i1, i2⟩ := hF u1 (L' ++ pe) k (nx t p) (s :: st) N n a2 d1 sv1 (fun a r z => by cases z; omega) n2 (by simp; omega) hk (by omega) (by omega)
        cases ef : F k (nx t p) with
        | error e =>
          obtain ⟨u', c1, c2, c3⟩ := i1 e ef
          refine ⟨fun e' h => ?_, fun ds p' k' h => (by cases h)⟩
          cases h
          exact ⟨u', by rw [a1, c1], c2, a3.tr c3⟩
        | ok r =>
          obtain ⟨cs, q, k1⟩ := r
          obtain ⟨u2, g5, n', L2, pe2, c1, c2, c3, c4, c5, c6, c7, c8⟩ := i2 cs q k1 ef
          obtain ⟨y1, y2, y3, y4, y5, y6⟩ := pf.1 k (nx t p) cs q k1 n2 ef
          have c2' : RK u2 m t T τ L2 k1 q ((pe2 ++ [s]) ++ st) := by
            have : (pe2 ++ [s]) ++ st = pe2 ++ s :: st := by simp
            rw [this]; exact c2
          have len : L2.length + pe2.length = L'.length + pe.length + cs.length := by
            have := congrArg List.length c4
            simp at this
            omega
          obtain ⟨j1, j2⟩ := ih u2 L2 k1 q st (pe2 ++ [s]) g5 n' c2' hd hv htp (fun a ha => by
            rcases List.mem_append.mp ha with z | z
            · have := c3 a z; exact ⟨this.1, by omega⟩
            · simp at z; subst z; exact ⟨by omega, by omega⟩) y2 (by simp; omega) (y6 hk) (by omega) c5 c6 c7
          dsimp only
          have fz := a3.tr c8
          cases ei : itL t (fun p => if wrO t p = some w then some s else none) F nn k1 q with
          | error e =>
            obtain ⟨u', x1, x2, x3⟩ := j1 e ei
            refine ⟨fun e' h => ?_, fun ds p' k' h => (by cases h)⟩
            cases h
            exact ⟨u', by rw [a1, c1, x1], x2, fz.tr x3⟩
          | ok r2 =>
            obtain ⟨ds, q2, k2⟩ := r2
            obtain ⟨u', f', n'', L3, pe3, x1, x2, x3, x4, x5, x6, x7, x8⟩ := j2 ds q2 k2 ei
            refine ⟨fun e h => (by cases h), fun ds' p' k' h => ?_⟩
            cases h
            refine ⟨u', f', n'', L3, pe3, by rw [a1, c1, x1], x2, x3, ?_, x5, x6, x7, fz.tr x8⟩
            rw [x4, ← List.append_assoc L2 pe2 [s], c4]
            simp
      · rw [if_neg ew]
        refine ⟨fun e h => (by cases h), fun ds p' k' h => ?_⟩
        cases h
        refine ⟨u, f5, n, L', pe, rfl, hr, hpe, by simp, ?_, h5, hn2, Fz.rf⟩
        rcases hw with ⟨rfl, rfl, rfl⟩ | ⟨rfl, rfl, rfl⟩
        · exact ⟨fun _ => ew, fun z => by omega⟩
        · exact ⟨fun _ => hnop.1 (by omega), fun _ => ew⟩
  intro u L k p st j n h1 h2 h3 h4' h5 h6 h7 h8 h9
  obtain ⟨i1, i2⟩ := hF u L k p st j n h1 h2 h3 (fun s' r z => by have := h4' s' r z; omega) h5 h6 h7 h8 h9
  unfold lev
  cases ef : F k p with
  | error e =>
    refine ⟨fun e' h => ?_, fun cs p' k' h => (by cases h)⟩
    cases h
    exact i1 e ef
  | ok r =>
    obtain ⟨cs, q, k1⟩ := r
    obtain ⟨u2, g5, n', L2, pe2, c1, c2, c3, c4, c5, c6, c7, c8⟩ := i2 cs q k1 ef
    obtain ⟨y1, y2, y3, y4, y5, y6⟩ := pf.1 k p cs q k1 h5 ef
    have len : L2.length + pe2.length = L.length + cs.length := by
      have := congrArg List.length c4
      simp at this
      omega
    obtain ⟨j1, j2⟩ := loop 401 u2 L2 k1 q st pe2 g5 n' c2 h2 h3 h4' (fun a ha => ⟨(c3 a ha).1, by have := (c3 a ha).2; omega⟩) y2 (by simp; omega) (y6 h7) (by omega) c5 c6 c7
    dsimp only
    cases ei : itL t (fun p => if wrO t p = some w then some s else none) F 401 k1 q with
    | error e =>
      obtain ⟨u', x1, x2, x3⟩ := j1 e ei
      refine ⟨fun e' h => ?_, fun ds p' k' h => (by cases h)⟩
      cases h
      exact ⟨u', by rw [c1, x1], x2, c8.tr x3⟩
    | ok r2 =>
      obtain ⟨ds, q2, k2⟩ := r2
      obtain ⟨u', f', n'', L3, pe3, x1, x2, x3, x4, x5, x6, x7, x8⟩ := j2 ds q2 k2 ei
      refine ⟨fun e h => (by cases h), fun ds' p' k' h => ?_⟩
      cases h
      exact ⟨u', f', n'', L3, pe3, by rw [c1, x1], x2, x3, by rw [x4, c4]; simp, x5, x6, x7, c8.tr x8⟩
end RULT
