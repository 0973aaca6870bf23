/-! RULE: the class -/
def CSt (u : SG) (x : Nat) (t : Nat → Nat) (T : Nat) (L : List Int32) (k p : Nat) : Prop := TX u (x + 1) t T p ∧ zI u (x + 7) 2 = nI L.length ∧ (∀ (j : Nat) (d : Int32), L[j]? = some d → zI u (x + 8) j = d) ∧ zI u (x + 7) 3 = nI k
def cR (x : Nat) (t : Nat → Nat) (T : Nat) (u : SG) (L : List Int32) (r : Option (Int32 × SG)) : PRs → Prop
  | .error e => ∃ u', r = some (0, u') ∧ zI u' (x + 1) 2 = nI e ∧ Fz (Cw x) u u'
  | .ok (cs, p', k') => ∃ u', r = some (1, u') ∧ CSt u' x t T (L ++ cs.map clS) k' p' ∧ Fz (Cw x) u u'
def CJ (x : Nat) (t : Nat → Nat) (T c : Nat) (F : Nat → Nat → PRs) (f : SG → Option (Int32 × SG)) : Prop := ∀ u L k p, CSt u x t T L k p → p ≤ T → L.length ≤ p + c → k ≤ 60 → cR x t T u L (f u) (F k p)
section RULC
variable {N x T c : Nat} {u : SG} {t : Nat → Nat}
theorem CSt.st {v : SG} {L : List Int32} {k p q : Nat} (h : CSt u x t T L k p) (f : Fz (Fst (x + 1)) u v) (hx : TX v (x + 1) t T q) : CSt v x t T L k q := ⟨hx, by rw [f.I (by unfold Fst; omega)]; exact h.2.1, fun j d hd => by rw [f.I (by unfold Fst; omega)]; exact h.2.2.1 j d hd, by rw [f.I (by unfold Fst; omega)]; exact h.2.2.2⟩
theorem c_stepR (hT : TP t T) {L : List Int32} {k p : Nat} (h : CSt u x t T L k p) : ∃ u', hX9_step N (x + 1) u = some ((), u') ∧ CSt u' x t T L k (nx t p) ∧ Fz (Cw x) u u' := by
  obtain ⟨u', e1, e2, e3⟩ := c_step (N := N) hT h.1
  exact ⟨u', e1, h.st e3 e2, fst_cw e3⟩
theorem c_emit {L : List Int32} {k p : Nat} (h : CSt u x t T L k p) (hl : L.length < 412) (y : Int32) : ∃ u', hX5_emit N (x + 7) y u = some ((), u') ∧ CSt u' x t T (L ++ [y]) k p ∧ Fz (Cw x) u u' := by
  obtain ⟨h1, h2, h3, h4⟩ := h
  have f : Fz (fun a k => a = x + 8 ∨ (a = x + 7 ∧ k = 2)) u (sI (sI u (x + 8) L.length y) (x + 7) 2 (nI (L.length + 1))) := (Fz.sI (Or.inl rfl)).tr (Fz.sI (Or.inr ⟨rfl, rfl⟩))
  refine ⟨sI (sI u (x + 8) L.length y) (x + 7) 2 (nI (L.length + 1)), ?_, ⟨h1.z f (fun b k q1 q2 => by omega) (fun k q1 q2 => by omega), by rw [sI_s]; simp, fun j d hd => ?_, by rw [f.I (by omega)]; exact h4⟩, f.w (fun a k q => by unfold Cw; omega)⟩
  · unfold hX5_emit
    rw [h2, if_neg (nI_pos (by omega)), lit_412, if_neg (nI_ge hl (by decide)), ixI hl (by decide), bs_eq, nI_clamp (by omega), show x + 7 + 1 = x + 8 from rfl, sI_n (by omega), h2, bs_eq, lit_1, nI_add]
  · rw [sI_n (by omega)]
    by_cases q : j = L.length
    · subst q
      rw [List.getElem?_append_right (Nat.le_refl _), Nat.sub_self] at hd
      rw [sI_s]
      exact Option.some.inj hd
    · have hj : j < L.length := by
        have := (List.getElem?_eq_some_iff.mp hd).1
        rw [List.length_append] at this
        simp at this
        omega
      rw [List.getElem?_append_left hj] at hd
      rw [sI_n (by omega)]
      exact h3 j d hd
theorem c_bad {L : List Int32} {k p : Nat} (h : CSt u x t T L k p) (w : Nat) : cR x t T u L (cl (hX9_refuse N (x + 1) (nI w) u) fun r6 u7 => (if r6 = 0 ∨ r6 = 1 then some (r6, u7) else none)) (.error (1 + 8 * p + w)) := ⟨_, by rw [c_refuse h.1, cl_some, if_pos (Or.inl rfl)], by rw [sI_s], sI2_cw⟩
/-- one level of operations -/
theorem cj_it (hT : TP t T) (hc : c ≤ 11) {b : Bool} {op : Nat → Option Nat} {F : Nat → Nat → PRs} {f : SG → Option (Int32 × SG)} (hF : CJ x t T c F f) (pf : PF T b F) (ho : OPt T b op) {g : Nat → Nat → SG → Option (Int32 × SG)} (hx : ∀ n u, g (n + 1) 400 u = some (1, u)) (h0 : ∀ n i u L k p, i < 400 → CSt u x t T L k p → op p = none → g (n + 1) i u = some (1, u)) (h1 : ∀ n i u L k p s, i < 400 → CSt u x t T L k p → op p = some s → ∃ u1, CSt u1 x t T L k (nx t p) ∧ Fz (Cw x) u u1 ∧ g (n + 1) i u = cl (f u1) fun r u2 => (if r = 0 then some (0, u2) else cl (hX5_emit N (x + 7) (clS s) u2) fun _ u3 => g n (i + 1) u3)) : ∀ n n' i u L k p, T - p < n → n ≤ n' → i ≤ p → CSt u x t T L k p → p ≤ T → L.length ≤ p + c → k ≤ 60 → cR x t T u L (g n' i u) (itL t op F n k p) := by
  have h4 := hT.1
  intro n
  induction n with
  | zero => intro n' i u L k p h; omega
  | succ n ih =>
    intro n' i u L k p hn hn' hi hs hp hl hk
    obtain ⟨n', rfl⟩ : ∃ m, n' = m + 1 := ⟨n' - 1, by omega⟩
    rw [itL]
    cases eo : op p with
    | none =>
      refine ⟨u, ?_, by simpa using hs, Fz.rf⟩
      by_cases q : 400 ≤ i
      · rw [show i = 400 by omega]; exact hx n' u
      · exact h0 n' i u L k p (by omega) hs eo
    | some s =>
      obtain ⟨p1, p2, p3⟩ := ho p s eo
      obtain ⟨n1, n2⟩ := nx_ok hT p1
      obtain ⟨u1, s1, f1, e1⟩ := h1 n' i u L k p s (by omega) hs eo
      dsimp only
      rw [e1]
      have hf := hF u1 L k (nx t p) s1 n2 (by omega) hk
      cases ef : F k (nx t p) with
      | error e =>
        rw [ef] at hf
        obtain ⟨u', a1, a2, a3⟩ := hf
        exact ⟨u', by rw [a1, cl_some, if_pos rfl], a2, f1.tr a3⟩
      | ok r =>
        obtain ⟨cs, q, k1⟩ := r
        rw [ef] at hf
        obtain ⟨u2, a1, a2, a3⟩ := hf
        obtain ⟨b1, b2, b3, b4, b5, b6⟩ := pf.1 k (nx t p) cs q k1 n2 ef
        obtain ⟨u3, d1, d2, d3⟩ := c_emit (N := N) a2 (by rw [List.length_append, List.length_map]; omega) (clS s)
        have := ih n' (i + 1) u3 (L ++ cs.map clS ++ [clS s]) k1 q (by omega) (by omega) (by omega) d2 b2 (by simp; omega) (b6 hk)
        rw [a1, cl_some, if_neg (by decide), d1, cl_some]
        dsimp only
        have fz := (f1.tr a3).tr d3
        match itL t op F n k1 q, this with
        | .error e, ⟨w, w1, w2, w3⟩ => exact ⟨w, w1, w2, fz.tr w3⟩
        | .ok (ds, q2, k2), ⟨w, w1, w2, w3⟩ => exact ⟨w, w1, by simpa using w2, fz.tr w3⟩
theorem cj_lev (hT : TP t T) (hc : c ≤ 11) {b : Bool} {op : Nat → Option Nat} {F : Nat → Nat → PRs} {f f' : SG → Option (Int32 × SG)} (hF : CJ x t T c F f) (pf : PF T b F) (ho : OPt T b op) {g : Nat → Nat → SG → Option (Int32 × SG)} (hx : ∀ n u, g (n + 1) 400 u = some (1, u)) (h0 : ∀ n i u L k p, i < 400 → CSt u x t T L k p → op p = none → g (n + 1) i u = some (1, u)) (h1 : ∀ n i u L k p s, i < 400 → CSt u x t T L k p → op p = some s → ∃ u1, CSt u1 x t T L k (nx t p) ∧ Fz (Cw x) u u1 ∧ g (n + 1) i u = cl (f u1) fun r u2 => (if r = 0 then some (0, u2) else cl (hX5_emit N (x + 7) (clS s) u2) fun _ u3 => g n (i + 1) u3)) (hf' : ∀ u, f' u = cl (f u) fun r u2 => (if r = 0 then some (0, u2) else g N 0 u2)) (hN : 2000 ≤ N) : CJ x t T c (lev t op F) f' := by
  have h4 := hT.1
  intro u L k p hs hp hl hk
  rw [hf']
  have hf := hF u L k p hs hp hl hk
  unfold lev
  cases ef : F k p with
  | error e =>
    rw [ef] at hf
    obtain ⟨u', a1, a2, a3⟩ := hf
    exact ⟨u', by rw [a1, cl_some, if_pos rfl], a2, a3⟩
  | ok r =>
    obtain ⟨cs, q, k1⟩ := r
    rw [ef] at hf
    obtain ⟨u2, a1, a2, a3⟩ := hf
    obtain ⟨b1, b2, b3, b4, b5, b6⟩ := pf.1 k p cs q k1 hp ef
    have := cj_it (N := N) hT hc hF pf ho hx h0 h1 401 N 0 u2 (L ++ cs.map clS) k1 q (by omega) (by omega) (by omega) a2 b2 (by simp; omega) (b6 hk)
    rw [a1, cl_some, if_neg (by decide)]
    dsimp only
    match itL t op F 401 k1 q, this with
    | .error e, ⟨w, w1, w2, w3⟩ => exact ⟨w, w1, w2, a3.tr w3⟩
    | .ok (ds, q2, k2), ⟨w, w1, w2, w3⟩ => exact ⟨w, w1, by simpa using w2, a3.tr w3⟩
theorem wr_eq {p w : Nat} (hw : w < 2 ^ 31) : foI (wrO t p) = nI w ↔ wrO t p = some w := by
  cases e : wrO t p with
  | none => exact ⟨fun z => absurd z.symm (foI_ne hw), fun z => by cases z⟩
  | some v =>
    have := wrO_lt e
    show nI v = nI w ↔ _
    rw [nI_eq (by omega) hw]
    simp
theorem c_value (hT : TP t T) (hc : c ≤ 11) : CJ x t T c (valS t) (hX5_readValue N (x + 7)) := by
  have h4 := hT.1
  intro u L k p hs hp hl hk
  obtain ⟨t8, t9, t10, t11⟩ := hs.1.at
  have k3 := hs.2.2.2
  have put : ∀ (y : Int32) (code : Nat), clS code = y → p < T → ∃ u', hgX5_readValue_138 N (x + 7) (x + 7) y (sI u (x + 7) 3 (nI (k + 1))) = some (1, u') ∧ CSt u' x t T (L ++ [code].map clS) (k + 1) (nx t p) ∧ Fz (Cw x) u u' := by
    intro y code hy lt
    have f1 : Fz (fun a j => a = x + 7 ∧ j = 3) u (sI u (x + 7) 3 (nI (k + 1))) := Fz.sI ⟨rfl, rfl⟩
    have s1 : CSt (sI u (x + 7) 3 (nI (k + 1))) x t T L (k + 1) p := ⟨hs.1.z f1 (fun b k q1 q2 => by omega) (fun k q1 q2 => by omega), by rw [f1.I (by omega)]; exact hs.2.1, fun j d hd => by rw [f1.I (by omega)]; exact hs.2.2.1 j d hd, by rw [sI_s]⟩
    obtain ⟨u2, e1, e2, e3⟩ := c_emit (N := N) s1 (by omega) y
    obtain ⟨u3, d1, d2, d3⟩ := c_stepR (N := N) hT e2
    refine ⟨u3, ?_, by rw [← hy] at d2; exact d2, ((f1.w (fun a j q => by unfold Cw; omega)).tr e3).tr d3⟩
    unfold hgX5_readValue_138
    rw [e1, cl_some, show x + 7 - 6 = x + 1 from rfl, d1, cl_some]
  have e86 : ∀ (s1 : Int32) (code : Nat), p < T → clS code = (if s1 = 0 then (-1 : Int32) - foI (wrO t p) else foI (nmO t p)) → cR x t T u L (hgX5_readValue_86 N (x + 7) s1 u) (if 60 ≤ k then .error (1 + 8 * p + 3) else .ok ([code], nx t p, k + 1)) := by
    intro s1 code lt hcode
    unfold hgX5_readValue_86
    rw [k3, show (60 : Int32) = nI 60 from rfl, iflt (by omega) (by decide), show x + 7 - 6 = x + 1 from rfl]
    by_cases q : 60 ≤ k
    · rw [if_neg (by omega), if_pos q]
      exact c_bad hs 3
    · rw [if_pos (by omega), if_neg q, bs_eq, lit_1, nI_add, sI_n (by omega), sI_n (by omega), t9, t10]
      obtain ⟨u', a1, a2, a3⟩ := put _ code hcode lt
      refine ⟨u', ?_, a2, a3⟩
      rw [← a1]
      by_cases z : s1 = 0
      · rw [if_pos z, if_pos z]; rfl
      · rw [if_neg z, if_neg z]
  unfold hX5_readValue hgX5_readValue_16 hgX5_readValue_43 hgX5_readValue_44 hgX5_readValue_62 valS
  rw [show x + 7 - 6 = x + 1 from rfl, t8, t9, t10]
  cases ed : isD (t p) with
  | true =>
    have dl := isD_lt ed
    have lt := t_lt hT (p := p) (by omega)
    have tk : tK t p = 1 := by unfold tK; rw [if_neg (by omega), if_pos ed]
    have ws : wrO t p = none := by
      unfold wrO
      have : isS (t p) = false := by unfold isS; rw [decide_eq_false (show ¬ 97 ≤ t p by omega)]; rfl
      rw [this]; rfl
    rw [tk, if_pos (show nI 1 = 1 from rfl), ws, if_pos (show foI none < 0 by decide), if_neg (show ¬ (1 : Int32) = 0 by decide), if_neg (show ¬ (1 : Int32) = 0 by decide), if_pos rfl]
    cases en : nmO t p with
    | none =>
      rw [if_pos (show foI none = -1 from rfl)]
      exact c_bad hs 1
    | some v =>
      have vl := nm_lt hT en
      rw [if_neg (foI_ne (show v < 2 ^ 31 by omega))]
      refine e86 1 (16 * v) lt ?_
      rw [if_neg (by decide), en]
      unfold clS
      rw [if_pos (by omega), show 16 * v / 16 = v by omega]
      rfl
  | false =>
    have tk : ¬ nI (tK t p) = 1 := by
      unfold tK
      rw [ed]
      split
      · decide
      · rw [if_neg (by decide)]
        split <;> decide
    rw [if_neg tk, if_pos (show (0 : Int32) = 0 from rfl), if_pos (show (0 : Int32) = 0 from rfl), if_pos (show (0 : Int32) = 0 from rfl), if_pos (show (0 : Int32) = 0 from rfl), if_neg (show ¬ (1 : Int32) = 0 by decide), if_neg (show ¬ false = true by decide)]
    cases ew : wrO t p with
    | none =>
      rw [if_pos (show foI none < 0 by decide)]
      exact c_bad hs 0
    | some w =>
      have w22 := wrO_lt ew
      rw [show foI (some w) = nI w from rfl, if_neg (nI_pos (by omega)), show (12 : Int32) = nI 12 from rfl, iflt (by decide) (by omega)]
      dsimp only
      by_cases q12 : 12 < w
      · rw [if_pos q12, if_pos q12]
        exact c_bad hs 0
      · rw [if_neg q12, if_neg q12]
        refine e86 0 (1 + 16 * w) (wr_T hT ew) ?_
        rw [if_pos rfl, ew]
        unfold clS
        rw [if_neg (by omega), if_pos (by omega), show (1 + 16 * w) / 16 = w by omega]
        rfl
end RULC
