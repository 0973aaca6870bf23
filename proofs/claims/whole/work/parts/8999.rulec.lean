/-! RULE: the class -/
def CSt (u : SG) (x : Nat) (t : Nat → Nat) (T : Nat) (L : List Int32) (k p : Nat) : Prop := TX u (x + 1) t T p ∧ zI u (x + 7) 2 = nI L.length ∧ (∀ (j : Nat) (d : Int32), L[j]? = some d → zI u (x + 8) j = d) ∧ zI u (x + 7) 3 = nI k
def cR (x : Nat) (t : Nat → Nat) (T : Nat) (u : SG) (L : List Int32) (r : Option (Int32 × SG)) : PRs → Prop
  | .error e => ∃ u', r = some (0, u') ∧ zI u' (x + 1) 2 = nI e ∧ Fz (Cw x) u u'
  | .ok (cs, p', k') => ∃ u', r = some (1, u') ∧ CSt u' x t T (L ++ cs.map clS) k' p' ∧ Fz (Cw x) u u'
def CJ (x : Nat) (t : Nat → Nat) (T c : Nat) (F : Nat → Nat → PRs) (f : SG → Option (Int32 × SG)) : Prop := ∀ u L k p, CSt u x t T L k p → p ≤ T → L.length ≤ p + c → k ≤ 60 → cR x t T u L (f u) (F k p)
section RULC
variable {N x T c : Nat} {u : SG} {t : Nat → Nat}
theorem CSt.st {v : SG} {L : List Int32} {k p q : Nat} (h : CSt u x t T L k p) (f : Fz (Fst (x + 1)) u v) (hx : TX v (x + 1) t T q) : CSt v x t T L k q := ⟨hx, by rw [f.I (by unfold Fst; omega)]; exact h.2.1, fun j d hd => by rw [f.I (by unfold Fst; omega)]; exact h.2.2.1 j d hd, by rw [f.I (by unfold Fst; omega)]; exact h.2.2.2⟩
theorem c_stepR (hT : TP t T) {L : List Int32} {k p : Nat} (h : CSt u x t T L k p) : ∃ u', hX9_step N (x + 1) u = some ((), u') ∧ CSt u' x t T L k (nx t p) ∧ Fz (Cw x) u u' := by
  obtain ⟨u', e1, e2, e3⟩ := c_step (N := N) hT h.1
  exact ⟨u', e1, h.st e3 e2, fst_cw e3⟩
theorem c_emit {L : List Int32} {k p : Nat} (h : CSt u x t T L k p) (hl : L.length < 412) (y : Int32) (hy : ¬ y = -99) : ∃ u', hX5_emit N (x + 7) y u = some (1, u') ∧ CSt u' x t T (L ++ [y]) k p ∧ Fz (Cw x) u u' := by
  obtain ⟨h1, h2, h3, h4⟩ := h
  have f : Fz (fun a k => a = x + 8 ∨ (a = x + 7 ∧ k = 2)) u (sI (sI u (x + 8) L.length y) (x + 7) 2 (nI (L.length + 1))) := (Fz.sI (Or.inl rfl)).tr (Fz.sI (Or.inr ⟨rfl, rfl⟩))
  refine ⟨sI (sI u (x + 8) L.length y) (x + 7) 2 (nI (L.length + 1)), ?_, ⟨h1.z f (fun b k q1 q2 => by omega) (fun k q1 q2 => by omega), by rw [sI_s]; simp, fun j d hd => ?_, by rw [f.I (by omega)]; exact h4⟩, f.w (fun a k q => by unfold Cw; omega)⟩
  · unfold hX5_emit
    rw [if_neg hy, h2, if_neg (nI_pos (by omega)), lit_412, if_neg (nI_ge hl (by decide)), ixI hl (by decide), bs_eq, nI_clamp (by omega), show x + 7 + 1 = x + 8 from rfl, sI_n (by omega), h2, bs_eq, lit_1, nI_add]
  · rw [sI_n (by omega)]
    by_cases q : j = L.length
    · subst q
      rw [List.getElem?_append_right (Nat.le_refl _), Nat.sub_self] at hd
      rw [sI_s]
      exact Option.some.inj hd
    · have hj : j < L.length := by
        have := (List.getElem?_eq_some_iff.mp hd).1
        rw [List.length_append] at this
        simp at this
        omega
      rw [List.getElem?_append_left hj] at hd
      rw [sI_n (by omega)]
      exact h3 j d hd
theorem c_bad {L : List Int32} {k p : Nat} (h : CSt u x t T L k p) (w : Nat) : cR x t T u L (cl (hX9_refuse N (x + 1) (nI w) u) fun r6 u7 => (if r6 = 0 ∨ r6 = 1 then some (r6, u7) else none)) (.error (1 + 8 * p + w)) := ⟨_, by rw [c_refuse h.1, cl_some, if_pos (Or.inl rfl)], by rw [sI_s], sI2_cw⟩
theorem clS_ne {s : Nat} (h : 1 < s % 16) : ¬ clS s = -99 := by
  unfold clS
  rw [if_neg (by omega), if_neg (by omega)]
  repeat' split
  all_goals decide
/-- a step that waits, or none -/
def clO : Option Nat → Int32
  | none => -99
  | some s => clS s
theorem c_emitO {L : List Int32} {k p : Nat} (h : CSt u x t T L k p) (o : Option Nat) (hl : L.length + o.toList.length ≤ 412) (ho : ∀ s, o = some s → 1 < s % 16) : ∃ u', hX5_emit N (x + 7) (clO o) u = some (1, u') ∧ CSt u' x t T (L ++ o.toList.map clS) k p ∧ Fz (Cw x) u u' := by
  cases o with
  | none =>
    refine ⟨u, ?_, ?_, Fz.rf⟩
    · unfold hX5_emit
      rw [if_pos (show clO none = -99 from rfl)]
    · show CSt u x t T (L ++ []) k p
      rw [List.append_nil]
      exact h
  | some s =>
    have q : (some s : Option Nat).toList.length = 1 := rfl
    exact c_emit h (by omega) (clS s) (clS_ne (ho s rfl))
def preL (cs : List Nat) : PRs → PRs
  | .error e => .error e
  | .ok (ds, p, k) => .ok (cs ++ ds, p, k)
theorem preL_preL (as bs : List Nat) (R : PRs) : preL as (preL bs R) = preL (as ++ bs) R := by
  cases R with
  | error e => rfl
  | ok r => obtain ⟨ds, p, k⟩ := r; simp [preL]
theorem cR_pre {v : SG} {L : List Int32} {cs : List Nat} {r : Option (Int32 × SG)} {R : PRs} (h : cR x t T v (L ++ cs.map clS) r R) (f : Fz (Cw x) u v) : cR x t T u L r (preL cs R) := by
  match R, h with
  | .error e, ⟨w, w1, w2, w3⟩ => exact ⟨w, w1, w2, f.tr w3⟩
  | .ok (ds, q, k), ⟨w, w1, w2, w3⟩ => exact ⟨w, w1, by simpa using w2, f.tr w3⟩
section FUS
variable {b : Bool} {op op1 op2 : Nat → Option Nat} {F : Nat → Nat → PRs}
theorem itL_n {m n k p : Nat} (hm : m = n + 1) (h : op p = none) : itL t op F m k p = .ok ([], p, k) := by rw [hm, itL, h]
theorem itL_e {m n k p s e : Nat} (hm : m = n + 1) (h : op p = some s) (ef : F k (nx t p) = .error e) : itL t op F m k p = .error e := by
  rw [hm, itL, h]
  dsimp only
  rw [ef]
theorem itL_k {m n k p s q k1 : Nat} {cs : List Nat} (hm : m = n + 1) (h : op p = some s) (ef : F k (nx t p) = .ok (cs, q, k1)) : itL t op F m k p = preL (cs ++ [s]) (itL t op F n k1 q) := by
  rw [hm, itL, h]
  dsimp only
  rw [ef]
  dsimp only
  cases itL t op F n k1 q with
  | error e => rfl
  | ok r => obtain ⟨ds, q2, k2⟩ := r; simp [preL]
theorem itL_fuel (hT : TP t T) (pf : PF T b F) (ho : OPt T b op) : ∀ n m k p, p ≤ T → T - p < n → T - p < m → itL t op F n k p = itL t op F m k p := by
  intro n
  induction n with
  | zero => intro m k p _ h; omega
  | succ n ih =>
    intro m k p hp hn hm
    obtain ⟨m, rfl⟩ : ∃ m', m = m' + 1 := ⟨m - 1, by omega⟩
    cases eo : op p with
    | none => rw [itL_n (m := n + 1) rfl eo, itL_n (m := m + 1) rfl eo]
    | some s =>
      obtain ⟨p1, p2, p3⟩ := ho p s eo
      obtain ⟨n1, n2⟩ := nx_ok hT p1
      cases ef : F k (nx t p) with
      | error e => rw [itL_e (m := n + 1) rfl eo ef, itL_e (m := m + 1) rfl eo ef]
      | ok r =>
        obtain ⟨cs, q, k1⟩ := r
        obtain ⟨a1, a2, a3, a4, a5, a6⟩ := pf.1 k (nx t p) cs q k1 n2 ef
        rw [itL_k (m := n + 1) rfl eo ef, itL_k (m := m + 1) rfl eo ef, ih m k1 q a2 (by omega) (by omega)]
/-- two levels read in one loop: what is left, with the steps that wait -/
def rs2 (t : Nat → Nat) (op1 op2 : Nat → Option Nat) (F : Nat → Nat → PRs) (a : List Nat) : PRs → PRs
  | .error e => .error e
  | .ok (ds, p, k) => preL (ds ++ a) (itL t op2 (lev t op1 F) 401 k p)
def rs1 (t : Nat → Nat) (op1 op2 : Nat → Option Nat) (F : Nat → Nat → PRs) (a b : List Nat) : PRs → PRs
  | .error e => .error e
  | .ok (cs, p, k) => preL (cs ++ b) (rs2 t op1 op2 F a (itL t op1 F 401 k p))
def rst (t : Nat → Nat) (op1 op2 : Nat → Option Nat) (F : Nat → Nat → PRs) (a b : List Nat) (k p : Nat) : PRs := rs1 t op1 op2 F a b (F k p)
theorem rs2_pre (a cs : List Nat) (R : PRs) : rs2 t op1 op2 F a (preL cs R) = preL cs (rs2 t op1 op2 F a R) := by
  cases R with
  | error e => rfl
  | ok r =>
    obtain ⟨ds, p, k⟩ := r
    show preL (cs ++ ds ++ a) _ = preL cs (preL (ds ++ a) _)
    rw [preL_preL, List.append_assoc]
theorem lev_pre {k p q k1 : Nat} {cs : List Nat} (ef : F k p = .ok (cs, q, k1)) : lev t op F k p = preL cs (itL t op F 401 k1 q) := by
  unfold lev
  rw [ef]
  dsimp only
  cases itL t op F 401 k1 q with
  | error e => rfl
  | ok r => obtain ⟨ds, q2, k2⟩ := r; rfl
theorem lev_er {k p e : Nat} (ef : F k p = .error e) : lev t op F k p = .error e := by
  unfold lev
  rw [ef]
theorem rst_lev (a : List Nat) (k p : Nat) : rst t op1 op2 F a [] k p = rs2 t op1 op2 F a (lev t op1 F k p) := by
  unfold rst
  cases ef : F k p with
  | error e => rw [lev_er ef] <;> rfl
  | ok r =>
    obtain ⟨cs, q, k1⟩ := r
    rw [lev_pre ef, rs2_pre]
    show preL (cs ++ []) _ = _
    rw [List.append_nil]
theorem rst_two (k p : Nat) : lev t op2 (lev t op1 F) k p = rst t op1 op2 F [] [] k p := by
  rw [rst_lev]
  cases ef : lev t op1 F k p with
  | error e => rw [lev_er ef] <;> rfl
  | ok r =>
    obtain ⟨cs, q, k1⟩ := r
    rw [lev_pre ef]
    show _ = preL (cs ++ []) _
    rw [List.append_nil]
theorem rst_0 {k p e : Nat} {a b : List Nat} (ef : F k p = .error e) : rst t op1 op2 F a b k p = .error e := by
  unfold rst
  rw [ef] <;> rfl
theorem rst_ok {k p q k1 : Nat} {a b cs : List Nat} (ef : F k p = .ok (cs, q, k1)) : rst t op1 op2 F a b k p = preL (cs ++ b) (rs2 t op1 op2 F a (itL t op1 F 401 k1 q)) := by
  unfold rst
  rw [ef] <;> rfl
theorem rst_1 (hT : TP t T) (pf : PF T b F) (ho : OPt T b op1) {k p q k1 s : Nat} {a b cs : List Nat} (hp : p ≤ T) (ef : F k p = .ok (cs, q, k1)) (e1 : op1 q = some s) : rst t op1 op2 F a b k p = preL (cs ++ b) (rst t op1 op2 F a [s] k1 (nx t q)) := by
  have h4 := hT.1
  obtain ⟨p1, p2, p3⟩ := ho q s e1
  obtain ⟨n1, n2⟩ := nx_ok hT p1
  rw [rst_ok ef]
  cases eg : F k1 (nx t q) with
  | error e =>
    rw [itL_e (m := 401) (n := 400) rfl e1 eg, rst_0 eg] <;> rfl
  | ok r =>
    obtain ⟨ds, q2, k2⟩ := r
    obtain ⟨b1, b2, b3, b4, b5, b6⟩ := pf.1 k1 (nx t q) ds q2 k2 n2 eg
    rw [itL_k (m := 401) (n := 400) rfl e1 eg, rst_ok eg, rs2_pre, itL_fuel hT pf ho 400 401 k2 q2 b2 (by omega) (by omega)]
theorem rst_2 {k p q k1 : Nat} {a b cs : List Nat} (ef : F k p = .ok (cs, q, k1)) (e1 : op1 q = none) (e2 : op2 q = none) : rst t op1 op2 F a b k p = .ok (cs ++ b ++ a, q, k1) := by
  rw [rst_ok ef, itL_n (m := 401) (n := 400) rfl e1]
  show preL (cs ++ b) (preL ([] ++ a) _) = _
  rw [itL_n (m := 401) (n := 400) rfl e2]
  simp [preL]
theorem rst_3 (hT : TP t T) (pf : PF T b F) (ho1 : OPt T b op1) (ho : OPt T b op2) {k p q k1 s : Nat} {a b cs : List Nat} (hp : p ≤ T) (ef : F k p = .ok (cs, q, k1)) (e1 : op1 q = none) (e2 : op2 q = some s) : rst t op1 op2 F a b k p = preL (cs ++ b ++ a) (rst t op1 op2 F [s] [] k1 (nx t q)) := by
  have h4 := hT.1
  obtain ⟨p1, p2, p3⟩ := ho q s e2
  obtain ⟨n1, n2⟩ := nx_ok hT p1
  have pl := lev_ok hT pf ho1
  rw [rst_ok ef, itL_n (m := 401) (n := 400) rfl e1, rst_lev]
  show preL (cs ++ b) (preL ([] ++ a) _) = _
  rw [preL_preL, List.nil_append]
  cases eg : lev t op1 F k1 (nx t q) with
  | error e =>
    rw [itL_e (m := 401) (n := 400) rfl e2 eg] <;> rfl
  | ok r =>
    obtain ⟨ds, q2, k2⟩ := r
    obtain ⟨b1, b2, b3, b4, b5, b6⟩ := pl.1 k1 (nx t q) ds q2 k2 n2 eg
    rw [itL_k (m := 401) (n := 400) rfl e2 eg, itL_fuel hT pl ho 400 401 k2 q2 b2 (by omega) (by omega)] <;> rfl
theorem cj_fus (hT : TP t T) (hc : c ≤ 11) {f : SG → Option (Int32 × SG)} (hF : CJ x t T c F f) (pf : PF T b F) (ho1 : OPt T b op1) (ho2 : OPt T b op2) {g : Nat → Option Nat → Option Nat → Nat → SG → Option (Int32 × SG)} {G : Nat → Option Nat → Nat → SG → Option (Int32 × SG)} {G2 : Nat → Nat → SG → Option (Int32 × SG)} (hg : ∀ n i u a d, i < 400 → g (n + 1) a d i u = cl (f u) fun r u2 => (if r = 0 then some (0, u2) else cl (hX5_emit N (x + 7) (clO d) u2) fun _ u3 => G n a i u3)) (hG : ∀ n i u L k p a, CSt u x t T L k p → G n a i u = (match op1 p with
    | some s => cl (hX9_step N (x + 1) u) fun _ u2 => g n a (some s) (i + 1) u2
    | none => cl (hX5_emit N (x + 7) (clO a) u) fun _ u2 => G2 n i u2)) (hG2 : ∀ n i u L k p, CSt u x t T L k p → G2 n i u = (match op2 p with
    | some s => cl (hX9_step N (x + 1) u) fun _ u2 => g n (some s) none (i + 1) u2
    | none => some (1, u))) : ∀ m n i u L k p a d, T - p < m → m ≤ n → 2 * i ≤ p → CSt u x t T L k p → p ≤ T → L.length + a.toList.length + d.toList.length ≤ p + c → k ≤ 60 → (∀ s, a = some s → 1 < s % 16) → (∀ s, d = some s → 1 < s % 16) → cR x t T u L (g n a d i u) (rst t op1 op2 F a.toList d.toList k p) := by
  have h4 := hT.1
  intro m
  induction m with
  | zero => intro n i u L k p a d h; omega
  | succ m ih =>
    intro n i u L k p a d hm hn hi hs hp hl hk ha hd
    obtain ⟨n, rfl⟩ : ∃ n', n = n' + 1 := ⟨n - 1, by omega⟩
    rw [hg n i u a d (by omega)]
    have hf := hF u L k p hs hp (by omega) hk
    cases ef : F k p with
    | error e =>
      rw [ef] at hf
      obtain ⟨u', a1, a2, a3⟩ := hf
      rw [rst_0 ef]
      exact ⟨u', by rw [a1, cl_some, if_pos rfl], a2, a3⟩
    | ok r =>
      obtain ⟨cs, q, k1⟩ := r
      rw [ef] at hf
      obtain ⟨u2, a1, a2, a3⟩ := hf
      obtain ⟨b1, b2, b3, b4, b5, b6⟩ := pf.1 k p cs q k1 hp ef
      obtain ⟨u3, d1, d2, d3⟩ := c_emitO (N := N) a2 d (by rw [List.length_append, List.length_map]; omega) hd
      have f3 := a3.tr d3
      rw [a1, cl_some, if_neg (show ¬ (1 : Int32) = 0 by decide), d1, cl_some, hG n i u3 _ _ _ a d2]
      have m3 : L ++ cs.map clS ++ d.toList.map clS = L ++ (cs ++ d.toList).map clS := by simp only [List.map_append, List.append_assoc]
      have l3 : (L ++ (cs ++ d.toList).map clS).length = L.length + (cs.length + d.toList.length) := by rw [List.length_append, List.length_map, List.length_append]
      rw [m3] at d2
      cases e1 : op1 q with
      | some s =>
        obtain ⟨p1, p2, p3⟩ := ho1 q s e1
        obtain ⟨n1, n2⟩ := nx_ok hT p1
        obtain ⟨u4, s1, s2, s3⟩ := c_stepR (N := N) hT d2
        have ls : (some s : Option Nat).toList.length = 1 := rfl
        dsimp only
        rw [s1, cl_some, rst_1 hT pf ho1 hp ef e1]
        exact cR_pre (ih n (i + 1) u4 _ k1 (nx t q) a (some s) (by omega) (by omega) (by omega) s2 n2 (by rw [l3]; omega) (b6 hk) ha (fun s' h => by cases h; exact p3)) (f3.tr s3)
      | none =>
        dsimp only
        obtain ⟨u4, s1, s2, s3⟩ := c_emitO (N := N) d2 a (by rw [l3]; omega) ha
        have f4 := f3.tr s3
        rw [s1, cl_some, hG2 n i u4 _ _ _ s2]
        have m4 : L ++ (cs ++ d.toList).map clS ++ a.toList.map clS = L ++ (cs ++ d.toList ++ a.toList).map clS := by simp only [List.map_append, List.append_assoc]
        have l4 : (L ++ (cs ++ d.toList ++ a.toList).map clS).length = L.length + (cs.length + d.toList.length + a.toList.length) := by rw [List.length_append, List.length_map, List.length_append, List.length_append]
        rw [m4] at s2
        cases e2 : op2 q with
        | none =>
          rw [rst_2 ef e1 e2]
          exact ⟨u4, rfl, s2, f4⟩
        | some s =>
          obtain ⟨p1, p2, p3⟩ := ho2 q s e2
          obtain ⟨n1, n2⟩ := nx_ok hT p1
          obtain ⟨u5, z1, z2, z3⟩ := c_stepR (N := N) hT s2
          have ls : (some s : Option Nat).toList.length = 1 := rfl
          have ln : (none : Option Nat).toList.length = 0 := rfl
          dsimp only
          rw [z1, cl_some, rst_3 hT pf ho1 ho2 hp ef e1 e2]
          exact cR_pre (ih n (i + 1) u5 _ k1 (nx t q) (some s) none (by omega) (by omega) (by omega) z2 n2 (by rw [l4]; omega) (b6 hk) (fun s' h => by cases h; exact p3) (fun s' h => by cases h)) (f4.tr z3)
end FUS
theorem wr_eq {p w : Nat} (hw : w < 2 ^ 31) : foI (wrO t p) = nI w ↔ wrO t p = some w := by
  cases e : wrO t p with
  | none => exact ⟨fun z => absurd z.symm (foI_ne hw), fun z => by cases z⟩
  | some v =>
    have := wrO_lt e
    show nI v = nI w ↔ _
    rw [nI_eq (by omega) hw]
    simp
theorem c_value (hT : TP t T) (hc : c ≤ 11) : CJ x t T c (valS t) (hX5_readValue N (x + 7)) := by
  have h4 := hT.1
  intro u L k p hs hp hl hk
  obtain ⟨t8, t9, t10, t11⟩ := hs.1.at
  have k3 := hs.2.2.2
  have put : ∀ (y : Int32) (code : Nat), clS code = y → ¬ y = -99 → p < T → ∃ u', hgX5_readValue_138 N (x + 7) (x + 7) y (sI u (x + 7) 3 (nI (k + 1))) = some (1, u') ∧ CSt u' x t T (L ++ [code].map clS) (k + 1) (nx t p) ∧ Fz (Cw x) u u' := by
    intro y code hy hne lt
    have f1 : Fz (fun a j => a = x + 7 ∧ j = 3) u (sI u (x + 7) 3 (nI (k + 1))) := Fz.sI ⟨rfl, rfl⟩
    have s1 : CSt (sI u (x + 7) 3 (nI (k + 1))) x t T L (k + 1) p := ⟨hs.1.z f1 (fun b k q1 q2 => by omega) (fun k q1 q2 => by omega), by rw [f1.I (by omega)]; exact hs.2.1, fun j d hd => by rw [f1.I (by omega)]; exact hs.2.2.1 j d hd, by rw [sI_s]⟩
    obtain ⟨u2, e1, e2, e3⟩ := c_emit (N := N) s1 (by omega) y hne
    obtain ⟨u3, d1, d2, d3⟩ := c_stepR (N := N) hT e2
    refine ⟨u3, ?_, by rw [← hy] at d2; exact d2, ((f1.w (fun a j q => by unfold Cw; omega)).tr e3).tr d3⟩
    unfold hgX5_readValue_138
    rw [e1, cl_some, show x + 7 - 6 = x + 1 from rfl, d1, cl_some]
  have e86 : ∀ (s1 : Int32) (code : Nat), p < T → clS code = (if s1 = 0 then (-1 : Int32) - foI (wrO t p) else foI (nmO t p)) → ¬ clS code = -99 → cR x t T u L (hgX5_readValue_86 N (x + 7) s1 u) (if 60 ≤ k then .error (1 + 8 * p + 3) else .ok ([code], nx t p, k + 1)) := by
    intro s1 code lt hcode hne
    unfold hgX5_readValue_86
    rw [k3, show (60 : Int32) = nI 60 from rfl, iflt (by omega) (by decide), show x + 7 - 6 = x + 1 from rfl]
    by_cases q : 60 ≤ k
    · rw [if_neg (by omega), if_pos q]
      exact c_bad hs 3
    · rw [if_pos (by omega), if_neg q, bs_eq, lit_1, nI_add, sI_n (by omega), sI_n (by omega), t9, t10]
      obtain ⟨u', a1, a2, a3⟩ := put _ code hcode (by rw [← hcode]; exact hne) lt
      refine ⟨u', ?_, a2, a3⟩
      rw [← a1]
      by_cases z : s1 = 0
      · rw [if_pos z, if_pos z]; rfl
      · rw [if_neg z, if_neg z]
  unfold hX5_readValue hgX5_readValue_16 hgX5_readValue_43 hgX5_readValue_44 hgX5_readValue_62 valS
  rw [show x + 7 - 6 = x + 1 from rfl, t8, t9, t10]
  cases ed : isD (t p) with
  | true =>
    have dl := isD_lt ed
    have lt := t_lt hT (p := p) (by omega)
    have tk : tK t p = 1 := by unfold tK; rw [if_neg (by omega), if_pos ed]
    have ws : wrO t p = none := by
      unfold wrO
      have : isS (t p) = false := by unfold isS; rw [decide_eq_false (show ¬ 97 ≤ t p by omega)]; rfl
      rw [this]; rfl
    rw [tk, if_pos (show nI 1 = 1 from rfl), ws, if_pos (show foI none < 0 by decide), if_neg (show ¬ (1 : Int32) = 0 by decide), if_neg (show ¬ (1 : Int32) = 0 by decide), if_pos rfl]
    cases en : nmO t p with
    | none =>
      rw [if_pos (show foI none = -1 from rfl)]
      exact c_bad hs 1
    | some v =>
      have vl := nm_lt hT en
      rw [if_neg (foI_ne (show v < 2 ^ 31 by omega))]
      have cv : clS (16 * v) = nI v := by
        unfold clS
        rw [if_pos (by omega), show 16 * v / 16 = v by omega]
      refine e86 1 (16 * v) lt ?_ ?_
      · rw [if_neg (by decide), en, cv]
        rfl
      · rw [cv]
        exact fun z => nI_pos (show v < 2 ^ 31 by omega) (by rw [z]; decide)
  | false =>
    have tk : ¬ nI (tK t p) = 1 := by
      unfold tK
      rw [ed]
      split
      · decide
      · rw [if_neg (by decide)]
        split <;> decide
    rw [if_neg tk, if_pos (show (0 : Int32) = 0 from rfl), if_pos (show (0 : Int32) = 0 from rfl), if_pos (show (0 : Int32) = 0 from rfl), if_pos (show (0 : Int32) = 0 from rfl), if_neg (show ¬ (1 : Int32) = 0 by decide), if_neg (show ¬ false = true by decide)]
    cases ew : wrO t p with
    | none =>
      rw [if_pos (show foI none < 0 by decide)]
      exact c_bad hs 0
    | some w =>
      have w22 := wrO_lt ew
      rw [show foI (some w) = nI w from rfl, if_neg (nI_pos (by omega)), show (12 : Int32) = nI 12 from rfl, iflt (by decide) (by omega)]
      dsimp only
      by_cases q12 : 12 < w
      · rw [if_pos q12, if_pos q12]
        exact c_bad hs 0
      · rw [if_neg q12, if_neg q12]
        refine e86 0 (1 + 16 * w) (wr_T hT ew) ?_ ((show ∀ w, w < 13 → ¬ clS (1 + 16 * w) = -99 by decide) w (by omega))
        rw [if_pos rfl, ew]
        unfold clS
        rw [if_neg (by omega), if_pos (by omega), show (1 + 16 * w) / 16 = w by omega]
        rfl
end RULC
