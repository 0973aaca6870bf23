/-! STREET: the class's clauses -/
section STD
variable {N x T : Nat} {u : SG} {t : Nat → Nat}
theorem dr_cw {v w : SG} (f : Fz (fun b _ => x + 9 ≤ b ∧ b ≤ x + 9 + 6) v w) : Fz (Cw x) v w := f.w (fun a k z => by unfold Cw; omega)
theorem TX.dr {v w : SG} {p : Nat} (h : TX v (x + 1) t T p) (f : Fz (fun b _ => x + 9 ≤ b ∧ b ≤ x + 9 + 6) v w) : TX w (x + 1) t T p := h.z f (fun b k q1 q2 q => by omega) (fun k q1 q2 q => by omega)
theorem Str.st {v w : SG} {G : Nat → Nat} (h : Str v (x + 9) G) (f : Fz (Fst (x + 1)) v w) : Str w (x + 9) G := h.z f (fun b k q1 q2 q => by unfold Fst at q; omega)
theorem c_person {G : Nat → Nat} {p c : Nat} (h : TX u (x + 1) t T p) (hT : TP t T) (hp : p ≤ T) (hs : Str u (x + 9) G) (g : GI (c + 1) G) (h5 : G 1 < 5) : cQ x t T (c + 2) u (hX8_readPerson N (x + 6) (x + 9) u) (perS t G p) := by
  have h4 := hT.1
  have h0 := g.2.2 (by omega)
  have g0 := g.1.1
  obtain ⟨c1, c2⟩ := c_num (N := N) (l := 0) (hi := nI (G 0)) h hT (by decide)
  unfold hX8_readPerson perS
  rw [show x + 6 - 5 = x + 1 from rfl, show (0 : Int32) = nI 0 from rfl, show (60 : Int32) = nI 60 from rfl, hs.1]
  cases e : numS t p 0 (nI (G 0)) with
  | error e' =>
    obtain ⟨b1, b2⟩ := num_er e (by omega)
    exact ⟨_, by rw [c1 e' e, cl_some, if_pos rfl]; rfl, by rw [sI_s], sI2_cw, b1, b2⟩
  | ok v =>
    obtain ⟨v1, v2, v3, u', e1, e2, e3⟩ := c2 v e
    have v5 := le_of_nlt v1 (by omega) v3
    have hs' := hs.st e3
    have n1 := nx_le hT hp
    obtain ⟨d1, d2⟩ := c_num (N := N) (l := 0) (hi := nI 60) e2 hT (by decide)
    rw [e1, cl_some, if_neg (show ¬ nI v = (-1 : Int32) from foI_ne (by omega))]
    dsimp only
    cases e' : numS t (nx t p) 0 (nI 60) with
    | error e'' =>
      obtain ⟨b1, b2⟩ := num_er e' (by omega)
      exact ⟨_, by rw [d1 e'' e', cl_some, if_pos rfl]; rfl, by rw [sI_s], (fst_cw e3).tr sI2_cw, b1, b2⟩
    | ok w =>
      obtain ⟨w1, w2, w3, u2, k1, k2, k3⟩ := d2 w e'
      have w5 := le_of_nlt w1 (by decide) w3
      have n2 := nx_le hT n1.2
      obtain ⟨u3, l1, l2, l3⟩ := c_addP (N := N) (n := v) (w := w) (hs'.st k3) g.1 h5
      refine ⟨u3, by rw [k1, cl_some, if_neg (show ¬ nI w = (-1 : Int32) from foI_ne (by omega)), l1, cl_some], k2.dr l3, l2, ⟨per_gb g.1 h5 h0 v5 w5, fun z => by omega, fun _ => by rw [per_o (by omega) (by omega)]; exact h0⟩, n2.2, ((fst_cw e3).tr (fst_cw k3)).tr (dr_cw l3)⟩
theorem c_lamp {G : Nat → Nat} {p c : Nat} (h : TX u (x + 1) t T p) (hT : TP t T) (hp : p ≤ T) (hs : Str u (x + 9) G) (g : GI (c + 1) G) (h5 : G 3 < 5) : cQ x t T (c + 2) u (hX8_readLamp N (x + 6) (x + 9) u) (lamS t G p) := by
  have h4 := hT.1
  have h0 := g.2.2 (by omega)
  have g1 := g.1.2.1
  obtain ⟨-, t9, -⟩ := h.at
  have key : ∀ hi : Int32, (∀ v, v < 2 ^ 31 → ¬ hi < nI v → v ≤ 9) → cQ x t T (c + 2) u (hgX8_readLamp_23 N (x + 6) (x + 9) hi u) (match numS t p 0 hi with
    | .error e => .error e
    | .ok a => match numS t (nx t p) 1 (nI 60) with
      | .error e => .error e
      | .ok b => .ok (lamG G a b, nx t (nx t p))) := by
    intro hi hh
    obtain ⟨c1, c2⟩ := c_num (N := N) (l := 0) (hi := hi) h hT (by decide)
    unfold hgX8_readLamp_23
    rw [show x + 6 - 5 = x + 1 from rfl, show (0 : Int32) = nI 0 from rfl, show (60 : Int32) = nI 60 from rfl]
    cases e : numS t p 0 hi with
    | error e' =>
      obtain ⟨b1, b2⟩ := num_er e (by omega)
      exact ⟨_, by rw [c1 e' e, cl_some, if_pos rfl]; rfl, by rw [sI_s], sI2_cw, b1, b2⟩
    | ok v =>
      obtain ⟨v1, v2, v3, u', e1, e2, e3⟩ := c2 v e
      have v5 := hh v v1 v3
      have hs' := hs.st e3
      have n1 := nx_le hT hp
      obtain ⟨d1, d2⟩ := c_num (N := N) (l := 1) (hi := nI 60) e2 hT (by decide)
      rw [e1, cl_some, if_neg (show ¬ nI v = (-1 : Int32) from foI_ne (by omega))]
      dsimp only
      rw [show (1 : Int32) = nI 1 from rfl]
      cases e' : numS t (nx t p) 1 (nI 60) with
      | error e'' =>
        obtain ⟨b1, b2⟩ := num_er e' (by omega)
        exact ⟨_, by rw [d1 e'' e', cl_some]; exact if_pos rfl, by rw [sI_s], (fst_cw e3).tr sI2_cw, b1, b2⟩
      | ok w =>
        obtain ⟨w1, w2, w3, u2, k1, k2, k3⟩ := d2 w e'
        have w5 := le_of_nlt w1 (by decide) w3
        have n2 := nx_le hT n1.2
        obtain ⟨u3, l1, l2, l3⟩ := c_addL (N := N) (n := v) (w := w) (hs'.st k3) g.1 h5
        refine ⟨u3, by rw [k1, cl_some, if_neg (show ¬ nI w = -nI 1 from foI_ne (show w < 2 ^ 31 by omega)), l1, cl_some]; rfl, k2.dr l3, l2, ⟨lam_gb g.1 h5 h0 v5 w5, fun z => by omega, fun _ => by rw [lam_o (by omega) (by omega)]; exact h0⟩, n2.2, ((fst_cw e3).tr (fst_cw k3)).tr (dr_cw l3)⟩
  unfold hX8_readLamp lamS
  rw [show x + 6 - 5 = x + 1 from rfl, t9, show (9 : Int32) = nI 9 from rfl, hs.2.1]
  have e9 : (foI (nmO t p) = nI 9) ↔ nmO t p = some 9 := by
    cases en : nmO t p with
    | none => simp [foI]; decide
    | some v =>
      have : v < 10 ^ 5 := by
        unfold nmO at en
        split at en
        · next q =>
          split at en
          · next q5 =>
            cases en
            obtain ⟨r1, r2, r3, r4⟩ := ru_ok hT (f := isD) rfl p
            rw [← tE_D q] at r1 r2 r3 r4
            exact Nat.lt_of_lt_of_le (dv_lt hT (p := p) (tE t p - p) (fun i hi => r4 (p + i) (by omega) (by omega))) (Nat.pow_le_pow_right (by decide) q5)
          · cases en
        · cases en
      show nI v = nI 9 ↔ _
      rw [nI_eq (by omega) (by decide)]
      simp
  by_cases q : nmO t p = some 9
  · rw [if_pos (e9.mpr q), if_pos q]
    exact key _ (fun v hv z => le_of_nlt hv (by decide) z)
  · rw [if_neg (fun z => q (e9.mp z)), if_neg q]
    exact key _ (fun v hv z => by have := lt_of_nlt1 hv (by omega) z; omega)
theorem c_rspan {G : Nat → Nat} {p c w : Nat} (h : TX u (x + 1) t T p) (hT : TP t T) (hp : p ≤ T) (hs : Str u (x + 9) G) (g : GI (c + 1) G) (hw : w = 14 ∧ G 2 < 8 ∨ w = 16 ∧ G 4 < 8) (n5 : zN u (x + 9 + 5) = 10) (n6 : zN u (x + 9 + 6) = 10) (hN : 2000 ≤ N) : cQ x t T (c + 2) u (hX8_readSpan N (x + 6) (x + 9) (nI w) u) (if w = 14 then spaS t G 45 2 1 p else spaS t G 79 4 3 p) := by
  have h4 := hT.1
  have h0 := g.2.2 (by omega)
  have g0 := g.1.1
  have g1 := g.1.2.1
  have g3 := g.1.2.2.2.1
  have key : ∀ (B cc dd : Nat), (w = 14 ∧ B = 45 ∧ cc = 2 ∧ dd = 1 ∨ w = 16 ∧ B = 79 ∧ cc = 4 ∧ dd = 3) → cQ x t T (c + 2) u (hgX8_readSpan_17 N (x + 6) (x + 9) (nI w) (nI (G dd)) u) (spaS t G B cc dd p) := by
    intro B cc dd hB
    have gd : G dd ≤ 5 := by rcases hB with ⟨-, -, -, rfl⟩ | ⟨-, -, -, rfl⟩ <;> assumption
    obtain ⟨c1, c2⟩ := c_num (N := N) (l := 0) (hi := nI (G dd) - 1) h hT (by decide)
    unfold hgX8_readSpan_17 spaS
    rw [show x + 6 - 5 = x + 1 from rfl]
    cases e : numS t p 0 (nI (G dd) - 1) with
    | error e' =>
      obtain ⟨b1, b2⟩ := num_er e (by omega)
      exact ⟨_, by rw [show (0 : Int32) = nI 0 from rfl, c1 e' e, cl_some]; exact if_pos rfl, by rw [sI_s], sI2_cw, b1, b2⟩
    | ok X =>
      obtain ⟨v1, v2, v3, u1, e1, e2, e3⟩ := c2 X e
      have v5 := lt_of_nlt1 v1 (by omega) v3
      have hs1 := hs.st e3
      have n1 := nx_le hT hp
      obtain ⟨d1, d2⟩ := c_num (N := N) (l := 0) (hi := nI (G 0) - 1) e2 hT (by decide)
      rw [show (0 : Int32) = nI 0 from rfl, e1, cl_some, if_neg (show ¬ nI X = (-1 : Int32) from foI_ne (by omega)), hs1.1]
      dsimp only
      cases e' : numS t (nx t p) 0 (nI (G 0) - 1) with
      | error e'' =>
        obtain ⟨b1, b2⟩ := num_er e' (by omega)
        exact ⟨_, by rw [d1 e'' e', cl_some]; exact if_pos rfl, by rw [sI_s], (fst_cw e3).tr sI2_cw, b1, b2⟩
      | ok y =>
        obtain ⟨w1, w2, w3, u2, k1, k2, k3⟩ := d2 y e'
        have w5 := lt_of_nlt1 w1 (by omega) w3
        have hs2 := hs1.st k3
        have n2 := nx_le hT n1.2
        obtain ⟨q1, q2⟩ := c_num (N := N) (l := y) (hi := nI (G 0) - 1) k2 hT w1
        rw [k1, cl_some, if_neg (show ¬ nI y = (-1 : Int32) from foI_ne (by omega)), hs2.1]
        dsimp only
        cases e'' : numS t (nx t (nx t p)) y (nI (G 0) - 1) with
        | error e3' =>
          obtain ⟨b1, b2⟩ := num_er e'' (by omega)
          exact ⟨_, by rw [q1 e3' e'', cl_some]; exact if_pos rfl, by rw [sI_s], ((fst_cw e3).tr (fst_cw k3)).tr sI2_cw, b1, b2⟩
        | ok z =>
          obtain ⟨z1, z2, z3, u3, j1, j2, j3⟩ := q2 z e''
          have z5 := lt_of_nlt1 z1 (by omega) z3
          have z6 := le_of_nlt w1 z1 z2
          have hs3 := hs2.st j3
          have n3 := nx_le hT n2.2
          have fall := (e3.tr k3).tr j3
          rw [j1, cl_some, if_neg (show ¬ nI z = (-1 : Int32) from foI_ne (by omega))]
          rcases hB with ⟨rfl, rfl, rfl, rfl⟩ | ⟨rfl, rfl, rfl, rfl⟩
          · have h8 : G 2 < 8 := by rcases hw with hw | hw; exact hw.2; omega
            obtain ⟨u4, l1, l2, l3⟩ := c_addW (N := N) (X := X) (y := y) (z := z) hs3 g.1 h8 h0 v5 z6 z5 (by rw [fall.N]; exact n5) hN
            exact ⟨u4, by rw [if_pos (show nI 14 = (14 : Int32) from rfl), l1, cl_some], j2.dr l3, l2, ⟨spw_gb g.1 h8 h0 v5 z6 z5, fun z => by omega, fun _ => by rw [spa_o (by omega) (by omega)]; exact h0⟩, n3.2, (fst_cw fall).tr (dr_cw l3)⟩
          · have h8 : G 4 < 8 := by rcases hw with hw | hw; omega; exact hw.2
            obtain ⟨u4, l1, l2, l3⟩ := c_addT (N := N) (X := X) (y := y) (z := z) hs3 g.1 h8 h0 v5 z6 z5 (by rw [fall.N]; exact n6) hN
            exact ⟨u4, by rw [if_neg (by decide), l1, cl_some], j2.dr l3, l2, ⟨spl_gb g.1 h8 h0 v5 z6 z5, fun z => by omega, fun _ => by rw [spa_o (by omega) (by omega)]; exact h0⟩, n3.2, (fst_cw fall).tr (dr_cw l3)⟩
  unfold hX8_readSpan
  rcases hw with ⟨rfl, h8⟩ | ⟨rfl, h8⟩
  · rw [if_pos (show nI 14 = (14 : Int32) from rfl), if_pos rfl, hs.2.1]
    exact key 45 2 1 (Or.inl ⟨rfl, rfl, rfl, rfl⟩)
  · rw [if_neg (by decide), if_neg (by decide), hs.2.2.2.1]
    exact key 79 4 3 (Or.inr ⟨rfl, rfl, rfl, rfl⟩)
def isCl : Option Nat → Bool
  | none => false
  | some w => w == 0 || (decide (13 ≤ w) && decide (w ≤ 16))
theorem x_isCl {o : Option Nat} (ho : ∀ w, o = some w → w < 22) : fX8_isClause N (foI o) u = some (nI (b2n (isCl o)), u) := by
  unfold fX8_isClause isCl
  cases o with
  | none => rw [if_neg (by decide), if_pos (by decide)]; rfl
  | some w =>
    have := ho w rfl
    show (if nI w = 0 then _ else if nI w < 13 then _ else if 16 < nI w then _ else _) = _
    rw [lit_0, lit_13, lit_16, ifeq (by omega) (by decide), iflt (by omega) (by decide), iflt (by decide) (by omega)]
    by_cases q : w = 0
    · subst q; rfl
    · rw [if_neg q]
      dsimp only
      rw [show (w == 0) = false by simpa using q, Bool.false_or]
      by_cases q1 : w < 13
      · rw [if_pos q1, decide_eq_false (by omega)]; rfl
      · rw [if_neg q1, decide_eq_true (show 13 ≤ w by omega)]
        by_cases q2 : 16 < w
        · rw [if_pos q2, decide_eq_false (by omega)]; rfl
        · rw [if_neg q2, decide_eq_true (show w ≤ 16 by omega)]; rfl
theorem x_full {G : Nat → Nat} {a w : Nat} (hs : Str u a G) (g : Gb G) (hw : w = 0 ∨ 13 ≤ w ∧ w ≤ 16) : hX8_isFull N a (nI w) u = some (nI (b2n (fulS G w)), u) := by
  have g1 := g.2.1
  have g2 := g.2.2.1
  have g3 := g.2.2.2.1
  have g4 := g.2.2.2.2.1
  unfold hX8_isFull fulS
  rw [hs.2.1, hs.2.2.1, hs.2.2.2.1, hs.2.2.2.2.1]
  have red : ∀ {k b : Nat}, k ≤ 8 → b ≤ 8 → (if nI k < nI b then some ((0 : Int32), u) else some ((1 : Int32), u)) = some (nI (b2n (decide (b ≤ k))), u) := by
    intro k b hk hb
    rw [iflt (by omega) (by omega)]
    by_cases q : k < b
    · rw [if_pos q, decide_eq_false (by omega)]; rfl
    · rw [if_neg q, decide_eq_true (by omega)]; rfl
  rw [show (5 : Int32) = nI 5 from rfl, show (8 : Int32) = nI 8 from rfl, red (by omega) (by omega), red (by omega) (by omega), red (by omega) (by omega), red (by omega) (by omega)]
  rcases (by omega : w = 0 ∨ w = 13 ∨ w = 14 ∨ w = 15 ∨ w = 16) with rfl | rfl | rfl | rfl | rfl
  · rw [if_pos (by decide)]; simp
  · rw [if_neg (by decide), if_neg (by decide), if_neg (by decide), if_neg (by decide)]; rfl
  · rw [if_neg (by decide), if_pos (by decide)]; simp
  · rw [if_neg (by decide), if_neg (by decide), if_pos (by decide)]; simp
  · rw [if_neg (by decide), if_neg (by decide), if_neg (by decide), if_pos (by decide)]; simp
theorem cQ.wrap {c : Nat} {r : Option (Int32 × SG)} {S : SR} {v : SG} (h : cQ x t T c v r S) (f : Fz (Cw x) u v) : cQ x t T c u (cl r fun r6 u7 => (if r6 = 0 ∨ r6 = 1 then some (r6, u7) else none)) S := by
  match S, h with
  | .error e, ⟨u', h1, h2, h3, h4⟩ => exact ⟨u', by rw [h1, cl_some, if_pos (Or.inl rfl)], h2, f.tr h3, h4⟩
  | .ok (G', p'), ⟨u', h1, h2, h3, h4, h5, h6⟩ => exact ⟨u', by rw [h1, cl_some, if_pos (Or.inr rfl)], h2, h3, h4, h5, f.tr h6⟩
theorem c_clause {G : Nat → Nat} {p c : Nat} (h : TX u (x + 1) t T p) (hT : TP t T) (hp : p ≤ T) (hs : Str u (x + 9) G) (g : GI c G) (hc : c ≤ 40) (n5 : zN u (x + 9 + 5) = 10) (n6 : zN u (x + 9 + 6) = 10) (hN : 2000 ≤ N) : cQ x t T (c + 1) u (hX8_readClause N (x + 6) (x + 9) (nI c) u) (clsS t c G p) := by
  have h4 := hT.1
  obtain ⟨-, -, t10, -⟩ := h.at
  have bad : ∀ w : Nat, w ≤ 4 → cQ x t T (c + 1) u (cl (hX9_refuse N (x + 1) (nI w) u) fun r6 u7 => (if r6 = 0 ∨ r6 = 1 then some (r6, u7) else none)) (.error (1 + 8 * p + w)) := by
    intro w hw
    exact ⟨_, by rw [c_refuse h, cl_some, if_pos (Or.inl rfl)], by rw [sI_s], sI2_cw, by omega, by omega⟩
  unfold hX8_readClause clsS
  rw [show x + 6 - 5 = x + 1 from rfl, bs_eq, t10, x_isCl (fun w hw => wrO_lt hw), cl_some]
  cases ew : wrO t p with
  | none =>
    rw [if_pos (show nI (b2n (isCl none)) = 0 from rfl)]
    exact bad 0 (by omega)
  | some w =>
    have w22 := wrO_lt ew
    rw [show isCl (some w) = (w == 0 || (decide (13 ≤ w) && decide (w ≤ 16))) from rfl]
    dsimp only
    by_cases qc : ¬ w = 0 ∧ (w < 13 ∨ 16 < w)
    · have : (w == 0 || (decide (13 ≤ w) && decide (w ≤ 16))) = false := by
        rw [show (w == 0) = false by simpa using qc.1, Bool.false_or]
        rcases qc.2 with z | z
        · rw [decide_eq_false (by omega)]; rfl
        · rw [decide_eq_false (show ¬ w ≤ 16 by omega), Bool.and_false]
      rw [this, if_pos (show nI (b2n false) = 0 from rfl), if_pos qc]
      exact bad 0 (by omega)
    · have hw : w = 0 ∨ 13 ≤ w ∧ w ≤ 16 := by omega
      have : (w == 0 || (decide (13 ≤ w) && decide (w ≤ 16))) = true := by
        rcases hw with rfl | ⟨z1, z2⟩
        · rfl
        · rw [decide_eq_true z1, decide_eq_true z2]; simp
      rw [this, if_neg (show ¬ nI (b2n true) = 0 by decide), if_neg qc, show foI (some w) = nI w from rfl]
      have e73 : ∀ v, TX v (x + 1) t T p → Fz (Cw x) u v → cQ x t T (c + 1) u (hgX8_readClause_73 N (x + 6) v) (.error (1 + 8 * p + 4)) := by
        intro v hv f
        unfold hgX8_readClause_73
        rw [show x + 6 - 5 = x + 1 from rfl, show (4 : Int32) = nI 4 from rfl]
        exact ⟨_, by rw [c_refuse hv, cl_some, if_pos (Or.inl rfl)], by rw [sI_s], f.tr sI2_cw, by omega, by omega⟩
      have main : ∀ s0 : Int32, (s0 = 0 ↔ (w = 13 ↔ c = 0)) → cQ x t T (c + 1) u (hgX8_readClause_52 N (x + 6) (x + 9) (nI c) (nI w) s0 u) (if 40 ≤ c ∨ ¬ (w = 13 ↔ c = 0) ∨ fulS G w = true then .error (1 + 8 * p + 4) else if w = 13 then houS t G (nx t p) else if w = 0 then perS t G (nx t p) else if w = 15 then lamS t G (nx t p) else if w = 14 then spaS t G 45 2 1 (nx t p) else spaS t G 79 4 3 (nx t p)) := by
        intro s0 hs0
        unfold hgX8_readClause_52
        rw [show x + 6 - 5 = x + 1 from rfl, show (40 : Int32) = nI 40 from rfl, ifle (by decide) (by omega)]
        by_cases q40 : 40 ≤ c
        · rw [if_pos q40, if_pos (Or.inl q40)]
          exact e73 u h Fz.rf
        · rw [if_neg q40]
          by_cases qm : (w = 13 ↔ c = 0)
          · rw [if_pos (hs0.mpr qm), x_full hs g.1 hw, cl_some]
            cases ef : fulS G w with
            | true =>
              rw [if_neg (show ¬ nI (b2n true) = 0 by decide), if_pos (Or.inr (Or.inr rfl))]
              exact e73 u h Fz.rf
            | false =>
              rw [if_pos (show nI (b2n false) = 0 from rfl), if_neg (fun z => by rcases z with z | z | z; exact q40 z; exact z qm; cases z)]
              obtain ⟨u1, e1, e2, e3⟩ := c_step (N := N) hT h
              have hs1 := hs.st e3
              have n1 := nx_le hT hp
              rw [e1, cl_some]
              unfold fulS at ef
              rcases (by omega : w = 13 ∨ w = 0 ∨ w = 15 ∨ w = 14 ∨ w = 16) with rfl | rfl | rfl | rfl | rfl
              · have c0 : c = 0 := qm.mp rfl
                subst c0
                rw [if_neg (by decide), if_pos (by decide), if_pos rfl]
                exact (c_hours e2 hT n1.2 hs1 g).wrap (fst_cw e3)
              · obtain ⟨c', rfl⟩ : ∃ c', c = c' + 1 := ⟨c - 1, by omega⟩
                have h5 : G 1 < 5 := by simp at ef; omega
                rw [if_pos (by decide), if_neg (by decide), if_pos rfl]
                exact (c_person e2 hT n1.2 hs1 g h5).wrap (fst_cw e3)
              · obtain ⟨c', rfl⟩ : ∃ c', c = c' + 1 := ⟨c - 1, by omega⟩
                have h5 : G 3 < 5 := by simp at ef; omega
                rw [if_neg (by decide), if_neg (by decide), if_pos (by decide), if_neg (by decide), if_neg (by decide), if_pos rfl]
                exact (c_lamp e2 hT n1.2 hs1 g h5).wrap (fst_cw e3)
              · obtain ⟨c', rfl⟩ : ∃ c', c = c' + 1 := ⟨c - 1, by omega⟩
                have h8 : G 2 < 8 := by simp at ef; omega
                rw [if_neg (by decide), if_neg (by decide), if_neg (by decide), if_neg (by decide), if_neg (by decide), if_neg (by decide)]
                exact (c_rspan e2 hT n1.2 hs1 g (Or.inl ⟨rfl, h8⟩) (by rw [e3.N]; exact n5) (by rw [e3.N]; exact n6) hN).wrap (fst_cw e3)
              · obtain ⟨c', rfl⟩ : ∃ c', c = c' + 1 := ⟨c - 1, by omega⟩
                have h8 : G 4 < 8 := by simp at ef; omega
                rw [if_neg (by decide), if_neg (by decide), if_neg (by decide), if_neg (by decide), if_neg (by decide), if_neg (by decide)]
                exact (c_rspan e2 hT n1.2 hs1 g (Or.inr ⟨rfl, h8⟩) (by rw [e3.N]; exact n5) (by rw [e3.N]; exact n6) hN).wrap (fst_cw e3)
          · rw [if_neg (fun z => qm (hs0.mp z)), if_pos (Or.inr (Or.inl qm))]
            exact e73 u h Fz.rf
      have c0 : (nI c = 0) ↔ c = 0 := by rw [lit_0]; exact nI_eq (by omega) (by decide)
      have w13 : (nI w = (13 : Int32)) ↔ w = 13 := by rw [lit_13]; exact nI_eq (by omega) (by decide)
      unfold hgX8_readClause_35 hgX8_readClause_44
      by_cases q13 : w = 13
      · rw [if_pos (w13.mpr q13)]
        by_cases q0 : c = 0
        · rw [if_pos (c0.mpr q0), if_pos rfl]
          exact main 0 ⟨fun _ => ⟨fun _ => q0, fun _ => q13⟩, fun _ => rfl⟩
        · rw [if_neg (fun z => q0 (c0.mp z)), if_neg (by decide)]
          exact main 1 ⟨fun z => absurd z (by decide), fun z => absurd (z.mp q13) q0⟩
      · rw [if_neg (fun z => q13 (w13.mp z))]
        by_cases q0 : c = 0
        · rw [if_pos (c0.mpr q0), if_neg (by decide)]
          exact main 1 ⟨fun z => absurd z (by decide), fun z => absurd (z.mpr q0) q13⟩
        · rw [if_neg (fun z => q0 (c0.mp z)), if_pos rfl]
          exact main 0 ⟨fun _ => ⟨fun z => absurd z q13, fun z => absurd z q0⟩, fun _ => rfl⟩
end STD
