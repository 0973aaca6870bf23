/-! OPERATIONS, 12: nights, the reference -/
def F14 (m : Nat) : Nat → Nat → Prop := fun a _ => a = m + 14 ∨ a = m + 15
section NIGHTR
variable {N m c : Nat} {u : SG} {A : AT}
theorem F14.ir {v : SG} (iR : InvR u m A) (f : Fz (F14 m) u v) : InvR v m A := iR.z f (fun a k q1 q2 q => by unfold F14 at q; unfold Rw; omega)
theorem r_told (iR : InvR u m A) (hA : Aok c A) {t : Nat} (ht : t < 2 ^ 30) (hN : 2000 ≤ N) : hX11_toldCost N m (nI t) u = some (nI (tw (sG (aS A)) t), u) := by
  have g := hA.2.2.2.2.1.1
  have g3 := g.2.2.2.1
  refine lps (fun n k s => hgX11_toldCost_4 N n m (nI t) (nI s) (nI k) u) (sG (aS A) 3) (fun k s => s = sumB (fun l => if li (sG (aS A)) l t then sG (aS A) (70 + 2 * l) else 0) k) (fun r => r = some (nI (tw (sG (aS A)) t), u)) ?_ ?_ N 0 0 (by omega) (by omega) rfl
  · intro n s hI
    rw [hgX11_toldCost_4, iR.sn.1.1.1 3 (by omega), if_pos (nI_le (by omega) (by omega)), hI]
    rfl
  · intro n k s hk hI
    refine ⟨_, rfl, ?_⟩
    rw [hgX11_toldCost_4, iR.sn.1.1.1 3 (by omega), if_neg (nI_ge hk (by omega)), r_isLitIn iR.sn.1.1 iR.sn.1.2.1 g (by omega) ht hN, cl_some, r_costOf iR.sn.1.2.1 (by omega), cl_some, bs_eq, bs_eq, lit_0, nI_add, nI_add, lit_1, nI_add, sumB, hI]
    cases li (sG (aS A)) k t <;> rfl
/-- the least cost of j hours in a night -/
def nCo (w : Nat → Nat) (op j : Nat) : Int32 := if j ≤ pc op then nI (cst w (gr w op j).testBit 10) else -1
theorem r_fill43 (iR : InvR u m A) (hA : Aok c A) {p s : Nat} (hp : p < sG (aS A) 1) (hs : s < 2 ^ sG (aS A) 0) (rc : Nat → Int32 → Int32 → SG → Option (Unit × SG)) (hN : 2000 ≤ N) : hgX11_fillsNight_43 N rc N m (nI p) (nI s) (0 : Int32) (1 : Int32) (0 : Int32) u = if dif s (nOp (sG (aS A)) p) = 0 then (if zI u (m + 14) (pc s) < 0 then rc m (nI p) (nI (s + 1)) (sI u (m + 14) (pc s) (nI (cst (tw (sG (aS A))) s.testBit 10))) else if zI u (m + 14) (pc s) ≤ nI (cst (tw (sG (aS A))) s.testBit 10) then rc m (nI p) (nI (s + 1)) u else rc m (nI p) (nI (s + 1)) (sI u (m + 14) (pc s) (nI (cst (tw (sG (aS A))) s.testBit 10)))) else rc m (nI p) (nI (s + 1)) u := by
  have g := hA.2.2.2.2.1.1
  have g0 := g.1
  have g1 := g.2.1
  have sl : s < 1024 := Nat.lt_of_lt_of_le hs (Nat.pow_le_pow_right (n := 2) (by decide) g0)
  have pl := pc_le s
  refine lps (fun f h (z : Nat × Bool) => hgX11_fillsNight_43 N rc f m (nI p) (nI s) (nI z.1) (nI (b2n z.2)) (nI h) u) (sG (aS A) 0) (fun h z => z.1 = cst (tw (sG (aS A))) s.testBit h ∧ z.2 = !anyB (fun i => s.testBit i && wk (sG (aS A)) p i) h) (fun r => r = _) ?_ ?_ N 0 (0, true) (by omega) (by omega) ⟨rfl, rfl⟩
  · rintro f ⟨a, b⟩ ⟨h1, h2⟩
    dsimp only at h1 h2 ⊢
    have e0 : (b = true) ↔ dif s (nOp (sG (aS A)) p) = 0 := by
      rw [h2]
      constructor
      · intro e
        have e : anyB (fun i => s.testBit i && wk (sG (aS A)) p i) (sG (aS A) 0) = false := by simpa using e
        rw [anyB_false] at e
        apply Nat.eq_of_testBit_eq
        intro i
        unfold nOp
        rw [dif_tb, bset_tb, Nat.zero_testBit]
        by_cases q : i < sG (aS A) 0
        · have := e i q
          rw [decide_eq_true q, decide_eq_true (show i < 10 by omega)]
          revert this
          cases s.testBit i <;> cases wk (sG (aS A)) p i <;> simp
        · rw [Nat.testBit_lt_two_pow (Nat.lt_of_lt_of_le hs (Nat.pow_le_pow_right (by decide) (by omega)))]
          rfl
      · intro e
        have : anyB (fun i => s.testBit i && wk (sG (aS A)) p i) (sG (aS A) 0) = false := by
          rw [anyB_false]
          intro i hi
          have z : (dif s (nOp (sG (aS A)) p)).testBit i = false := by rw [e]; simp
          unfold nOp at z
          rw [dif_tb, bset_tb, decide_eq_true hi, decide_eq_true (show i < 10 by omega)] at z
          revert z
          cases s.testBit i <;> cases wk (sG (aS A)) p i <;> simp
        rw [this]
        rfl
    rw [hgX11_fillsNight_43, iR.sn.1.1.1 0 (by decide), if_pos (nI_le (by omega) (by omega)), x_bits sl (by omega), cl_some]
    simp only [ixI (show pc s < 11 by omega) (show 11 < 2 ^ 31 by decide), bs_eq]
    rw [nI_clamp (by omega), h1, cst_G hs g0, lit_1, nI_add]
    cases b with
    | false => rw [if_pos (show nI (b2n false) = 0 by decide), if_neg (fun z => by have := e0.mpr z; cases this)]
    | true => rw [if_neg (show ¬ nI (b2n true) = 0 by decide), if_pos (e0.mp rfl)]
  · rintro f h ⟨a, b⟩ hh ⟨h1, h2⟩
    dsimp only at h1 h2 ⊢
    refine ⟨(cst (tw (sG (aS A))) s.testBit (h + 1), !anyB (fun i => s.testBit i && wk (sG (aS A)) p i) (h + 1)), ⟨rfl, rfl⟩, ?_⟩
    dsimp only
    rw [hgX11_fillsNight_43, iR.sn.1.1.1 0 (by decide), if_neg (nI_ge hh (by omega)), x_isOf (by omega) (by omega), cl_some, r_worksIn iR.sn.1.1 iR.sn.1.2.1 g (by omega) (by omega) hN, cl_some]
    unfold hgX11_fillsNight_85 hgX11_fillsNight_86
    simp only [r_told iR hA (show h < 2 ^ 30 by omega) hN, cl_some, bs_eq, lit_1, nI_add]
    rw [anyB, Bool.not_or, ← h2, h1]
    unfold cst
    rw [sumB]
    cases s.testBit h <;> cases wk (sG (aS A)) p h <;> cases b <;> rfl
theorem r_fillN (iR : InvR u m A) (hA : Aok c A) {p : Nat} (hp : p < sG (aS A) 1) (hN : 2000 ≤ N) : ∃ v, hX11_fillsNight N m (nI p) u = some ((), v) ∧ Fz (F14 m) u v ∧ ∀ j, j ≤ 10 → zI v (m + 14) j = nCo (tw (sG (aS A))) (nOp (sG (aS A)) p) j := by
  have g := hA.2.2.2.2.1.1
  have g0 := g.1
  have g1 := g.2.1
  have pw : 2 ^ sG (aS A) 0 ≤ 1024 := Nat.pow_le_pow_right (n := 2) (by decide) g0
  have ol := nOp_lt (G := sG (aS A)) (p := p)
  have opl : nOp (sG (aS A)) p < 2 ^ sG (aS A) 0 := by
    refine Nat.lt_of_le_of_lt (Nat.le_of_testBit (fun i hi => ?_)) (bset_lt (fun h => true) (sG (aS A) 0))
    unfold nOp at hi
    rw [bset_tb] at hi
    simp at hi
    rw [bset_tb]
    simp [hi.2.1]
  unfold hX11_fillsNight
  refine lps (fun f k v => hgX11_fillsNight_2 N f m (nI p) (nI k) v) 11 (fun k v => Fz (F14 m) u v ∧ ∀ j, j < k → zI v (m + 14) j = -1) (fun r => ∃ v, r = some ((), v) ∧ Fz (F14 m) u v ∧ ∀ j, j ≤ 10 → zI v (m + 14) j = nCo (tw (sG (aS A))) (nOp (sG (aS A)) p) j) ?_ ?_ N 0 u (by omega) (by omega) ⟨Fz.rf, fun j hj => by omega⟩
  · rintro f v ⟨h1, h2⟩
    rw [hgX11_fillsNight_2, lit_10, if_pos (nI_lt (by omega) (by decide))]
    generalize eo : nOp (sG (aS A)) p = op at ol opl ⊢
    generalize ew : tw (sG (aS A)) = w
    have cl3 : ∀ t, cst w t 10 ≤ 3000 := fun t => cst_le300 (fun i => by rw [← ew]; exact tcw_le g i)
    refine lps (fun f s v => hgX11_fillsNight_23 N f m (nI p) (nI s) v) (2 ^ sG (aS A) 0) (fun s v => Fz (F14 m) u v ∧ ∀ j, j ≤ 10 → ∃ o : Option Nat, (∀ t, o = some t → t < s ∧ dif t op = 0 ∧ pc t = j) ∧ zI v (m + 14) j = (match o with
      | none => -1
      | some t => nI (cst w t.testBit 10)) ∧ (j ≤ pc op → gr w op j < s → ∃ t, o = some t ∧ cst w t.testBit 10 = cst w (gr w op j).testBit 10)) (fun r => ∃ v, r = some ((), v) ∧ Fz (F14 m) u v ∧ ∀ j, j ≤ 10 → zI v (m + 14) j = nCo w op j) ?_ ?_ N 0 v (Nat.zero_le _) (by omega) ⟨h1, fun j hj => ⟨none, (fun t ht => by cases ht), h2 j (by omega), (fun _ z => by omega)⟩⟩
    · rintro f v ⟨k1, k2⟩
      have iv := F14.ir iR k1
      refine ⟨v, ?_, k1, fun j hj => ?_⟩
      · rw [hgX11_fillsNight_23, iv.sn.1.1.1 0 (by decide), nI_shl _ (by omega), if_pos (nI_le (by omega) (by omega))]
      · obtain ⟨o, o1, o2, o3⟩ := k2 j hj
        unfold nCo
        by_cases q : j ≤ pc op
        · have hlt : gr w op j < 2 ^ sG (aS A) 0 := by
            have hs := gr_sub (w := w) (i := j) q
            refine Nat.lt_of_le_of_lt (Nat.le_of_testBit (fun i hi => ?_)) opl
            have z : (dif (gr w op j) op).testBit i = false := by rw [hs]; simp
            rw [dif_tb, hi] at z
            simpa using z
          obtain ⟨t, e, ec⟩ := o3 q hlt
          rw [if_pos q, o2, e]
          show nI _ = nI _
          rw [ec]
        · rw [if_neg q, o2]
          cases o with
          | none => rfl
          | some t =>
            obtain ⟨-, d2, d3⟩ := o1 t rfl
            have := sub_pcle d2
            omega
    · rintro f s v hs ⟨k1, k2⟩
      have iv := F14.ir iR k1
      have pl := pc_le s
      rw [hgX11_fillsNight_23, iv.sn.1.1.1 0 (by decide), nI_shl _ (by omega), if_neg (nI_ge hs (by omega)), r_fill43 iv hA hp hs _ hN, eo, ew]
      have keep : (dif s op = 0 → ∃ t, t < s ∧ dif t op = 0 ∧ pc t = pc s ∧ zI v (m + 14) (pc s) = nI (cst w t.testBit 10) ∧ cst w t.testBit 10 ≤ cst w s.testBit 10) → ∃ s', (Fz (F14 m) u s' ∧ ∀ j, j ≤ 10 → ∃ o : Option Nat, (∀ t, o = some t → t < s + 1 ∧ dif t op = 0 ∧ pc t = j) ∧ zI s' (m + 14) j = (match o with
          | none => -1
          | some t => nI (cst w t.testBit 10)) ∧ (j ≤ pc op → gr w op j < s + 1 → ∃ t, o = some t ∧ cst w t.testBit 10 = cst w (gr w op j).testBit 10)) ∧ hgX11_fillsNight_23 N f m (nI p) (nI (s + 1)) v = hgX11_fillsNight_23 N f m (nI p) (nI (s + 1)) s' := by
        intro hk
        refine ⟨v, ⟨k1, fun j hj => ?_⟩, rfl⟩
        obtain ⟨o, o1, o2, o3⟩ := k2 j hj
        by_cases q : dif s op = 0 ∧ pc s = j ∧ gr w op j = s
        · obtain ⟨q1, q2, q3⟩ := q
          obtain ⟨t, t1, t2, t3, t4, t5⟩ := hk q1
          refine ⟨some t, fun t' ht' => ?_, by rw [← q2]; exact t4, fun z1 z2 => ⟨t, rfl, ?_⟩⟩
          · cases ht'; exact ⟨by omega, t2, by omega⟩
          · have := (gr_opt (w := w) z1 (t := t) (by omega) t2 (by omega)).1
            rw [q3] at this ⊢
            omega
        · refine ⟨o, fun t ht => ?_, o2, fun z1 z2 => o3 z1 ?_⟩
          · obtain ⟨y1, y2⟩ := o1 t ht
            exact ⟨by omega, y2⟩
          · by_cases e : gr w op j = s
            · exact absurd ⟨by rw [← e]; exact gr_sub z1, by rw [← e]; exact (grd_ok w op j z1).1, e⟩ q
            · omega
      have set : dif s op = 0 → (∀ t, t < s → dif t op = 0 → pc t = pc s → zI v (m + 14) (pc s) = nI (cst w t.testBit 10) → cst w s.testBit 10 < cst w t.testBit 10) → ∃ s', (Fz (F14 m) u s' ∧ ∀ j, j ≤ 10 → ∃ o : Option Nat, (∀ t, o = some t → t < s + 1 ∧ dif t op = 0 ∧ pc t = j) ∧ zI s' (m + 14) j = (match o with
          | none => -1
          | some t => nI (cst w t.testBit 10)) ∧ (j ≤ pc op → gr w op j < s + 1 → ∃ t, o = some t ∧ cst w t.testBit 10 = cst w (gr w op j).testBit 10)) ∧ hgX11_fillsNight_23 N f m (nI p) (nI (s + 1)) (sI v (m + 14) (pc s) (nI (cst w s.testBit 10))) = hgX11_fillsNight_23 N f m (nI p) (nI (s + 1)) s' := by
        intro d0 hk
        refine ⟨sI v (m + 14) (pc s) (nI (cst w s.testBit 10)), ⟨k1.tr (Fz.sI (Or.inl rfl)), fun j hj => ?_⟩, rfl⟩
        obtain ⟨o, o1, o2, o3⟩ := k2 j hj
        by_cases q : j = pc s
        · subst q
          refine ⟨some s, fun t ht => ?_, by rw [sI_s], fun z1 z2 => ⟨s, rfl, ?_⟩⟩
          · cases ht; exact ⟨by omega, d0, rfl⟩
          · by_cases e : gr w op (pc s) = s
            · rw [e]
            · obtain ⟨t, e1, e2⟩ := o3 z1 (by omega)
              obtain ⟨y1, y2, y3⟩ := o1 t e1
              have := hk t y1 y2 y3 (by rw [o2, e1])
              have := (gr_opt (w := w) z1 (t := s) (by omega) d0 rfl).1
              omega
        · refine ⟨o, fun t ht => ?_, by rw [sI_n (by omega)]; exact o2, fun z1 z2 => o3 z1 ?_⟩
          · obtain ⟨y1, y2⟩ := o1 t ht
            exact ⟨by omega, y2⟩
          · by_cases e : gr w op j = s
            · exact absurd (by rw [← e]; exact (grd_ok w op j z1).1.symm) q
            · omega
      by_cases q : dif s op = 0
      · rw [if_pos q]
        obtain ⟨o, o1, o2, o3⟩ := k2 (pc s) (by omega)
        cases o with
        | none =>
          rw [if_pos (by rw [o2]; show (-1 : Int32) < 0; decide)]
          refine set q (fun t y1 y2 y3 y4 => ?_)
          rw [o2] at y4
          have := cl3 t.testBit
          exact absurd y4.symm (foI_ne (by omega))
        | some t =>
          obtain ⟨y1, y2, y3⟩ := o1 t rfl
          have o2 : zI v (m + 14) (pc s) = nI (cst w t.testBit 10) := o2
          have c1 := cl3 t.testBit
          have c2 := cl3 s.testBit
          rw [o2, if_neg (nI_pos (by omega)), ifle (by omega) (by omega)]
          by_cases q3 : cst w t.testBit 10 ≤ cst w s.testBit 10
          · rw [if_pos q3]
            exact keep (fun _ => ⟨t, y1, y2, y3, o2, q3⟩)
          · rw [if_neg q3]
            refine set q (fun t' z1 z2 z3 z4 => ?_)
            rw [o2] at z4
            have c3 := cl3 t'.testBit
            rw [nI_eq (by omega) (by omega)] at z4
            omega
      · rw [if_neg q]
        exact keep (fun z => absurd z q)
  · rintro f k v hk ⟨h1, h2⟩
    refine ⟨sI v (m + 14) k (-1), ⟨h1.tr (Fz.sI (Or.inl rfl)), fun j hj => ?_⟩, ?_⟩
    · by_cases q : j = k
      · subst q; rw [sI_s]
      · rw [sI_n (by omega)]; exact h2 j (by omega)
    · rw [hgX11_fillsNight_2, lit_10, if_neg (nI_nlt (by omega) (by decide)), ixI hk (by decide), bs_eq, nI_clamp (by omega), lit_1, nI_add]
/-- a number of hours, which may be below 0 -/
def hV (V : Int32) (z : Int) : Prop := V.toInt = z ∧ -1000 ≤ z ∧ z ≤ 2000
theorem hV_nI {n : Nat} (h : n ≤ 2000) : hV (nI n) n := ⟨nI_toInt (by omega), by omega, by omega⟩
theorem hV_sub {V : Int32} {z : Int} {k : Nat} (h : hV V z) (hk : k ≤ 99) (hz : -900 ≤ z) : hV (V - nI k) (z - k) := by
  obtain ⟨h1, h2, h3⟩ := h
  refine ⟨?_, by omega, by omega⟩
  rw [Int32.toInt_sub, h1, nI_toInt (by omega), Int.bmod_eq_of_le (by omega) (by omega)]
theorem hV_pos {V : Int32} {z : Int} (h : hV V z) (hz : 0 ≤ z) : V = nI z.toNat := by
  apply Int32.toInt_inj.mp
  rw [h.1, nI_toInt (by have := h.2.2; omega)]
  omega
def Nr (v : SG) (m : Nat) (G : Nat → Nat) (p : Nat) : Prop := ∀ j, j ≤ 10 → zI v (m + 14) j = nCo (tw G) (nOp G p) j
def nV (G : Nat → Nat) (p d h : Nat) : Int32 := if h ≤ d * nMo G p then nI (nE G p d h) else -1
def Lr (v : SG) (m : Nat) (G : Nat → Nat) (p d : Nat) : Prop := ∀ h, h ≤ 80 → zI v (m + 15) (81 * d + h) = nV G p d h
theorem r_least {G : Nat → Nat} {p d : Nat} (hL : Lr u m G p d) (hd : d ≤ 8) {V : Int32} {z : Int} (hv : hV V z) (hz : z ≤ 80) : hX11_leastOf N m (nI d) V u = some (nV G p d z.toNat, u) := by
  unfold hX11_leastOf
  by_cases q : 0 ≤ z
  · have e := hV_pos hv q
    rw [e, if_pos (nI_pos' (by omega)), lit_81, pk_mul, nI_add, ixI (by omega) (by decide), nI_clamp (by omega), hL _ (by omega)]
  · rw [if_neg (by rw [Int32.le_iff_toInt_le, hv.1]; show ¬ (0 : Int) ≤ z; exact q)]
    rw [lit_81, pk_mul, show (0 : Int32) = nI 0 from rfl, nI_add]
    rw [show nI 0 = (0 : Int32) from rfl, ixI (by omega) (by decide), nI_clamp (by omega), hL 0 (by omega), show z.toNat = 0 by omega]
theorem r_costBy (iR : InvR u m A) (hA : Aok c A) {p d : Nat} (hp : p < sG (aS A) 1) (hr : Nr u m (sG (aS A)) p) (hL : Lr u m (sG (aS A)) p d) (hd : d + 1 ≤ 8) {V : Int32} {z : Int} (hv : hV V z) (hz : z ≤ 80) (hz2 : -900 ≤ z) {k : Nat} (hk : k ≤ 10) : hX11_costBy N m (nI p) (nI (d + 1)) V (nI k) u = some (if k ≤ nMo (sG (aS A)) p ∧ z.toNat - k ≤ d * nMo (sG (aS A)) p then nI (nP (sG (aS A)) p k + nE (sG (aS A)) p d (z.toNat - k)) else -1, u) := by
  have g := hA.2.2.2.2.1.1
  have g1 := g.2.1
  have gp := g.2.2.2.2.2.2.1 p hp
  have e1 : zI u (m + 10) (10 + 6 * p + 0) = nI (sG (aS A) (10 + 6 * p)) := (iR.sn.1.1.2.2.2.2.1 p hp).1
  have hs := hV_sub hv (show k ≤ 99 by omega) hz2
  have et : (z - k).toNat = z.toNat - k := by omega
  unfold hX11_costBy
  rw [r_pOf0 (by omega), cl_some, e1, iflt (by omega) (by omega), ixI (by omega) (by decide), show nI (d + 1) - (1 : Int32) = nI d by rw [lit_1, pk_sub (by omega)]; rfl, r_least hL (by omega) hs (by omega), cl_some, ixI (by omega) (by decide), r_least hL (by omega) hs (by omega), cl_some, nI_clamp (by omega), hr k hk, et]
  have hm : nMo (sG (aS A)) p = min (sG (aS A) (10 + 6 * p)) (pc (nOp (sG (aS A)) p)) := rfl
  by_cases q1 : sG (aS A) (10 + 6 * p) < k
  · rw [if_pos q1, if_neg (by omega)]
  · rw [if_neg q1]
    unfold nCo
    by_cases q2 : k ≤ pc (nOp (sG (aS A)) p)
    · have c3 := cst_le300 (w := tw (sG (aS A))) (S := (gr (tw (sG (aS A))) (nOp (sG (aS A)) p) k).testBit) (fun t => tcw_le g t)
      rw [if_pos q2, if_neg (nI_pos (by omega))]
      unfold nV
      by_cases q3 : z.toNat - k ≤ d * nMo (sG (aS A)) p
      · have := nE_le (p := p) g (show d ≤ 8 by omega) q3
        rw [if_pos q3, if_pos (nI_pos' (by omega)), nI_add, if_pos ⟨by omega, q3⟩, nP_eq k (by omega)]
      · rw [if_neg q3, if_neg (by decide), if_neg (fun z => q3 z.2)]
    · rw [if_neg q2, if_pos (by decide), if_neg (by omega)]
theorem r_fillL (iR : InvR u m A) (hA : Aok c A) {p n : Nat} (hp : p < sG (aS A) 1) (hn : n ≤ 8) (hr : Nr u m (sG (aS A)) p) (hN : 2000 ≤ N) : ∃ v, hX11_fillsLeast N m (nI p) (nI n) u = some ((), v) ∧ Fz (F14 m) u v ∧ Nr v m (sG (aS A)) p ∧ ∀ d, d ≤ n → Lr v m (sG (aS A)) p d := by
  have g := hA.2.2.2.2.1.1
  have g1 := g.2.1
  have m10 := nMo_10 (G := sG (aS A)) (p := p)
  unfold hX11_fillsLeast
  refine lps (fun f h v => hgX11_fillsLeast_2 N f m (nI p) (nI n) (nI h) v) 81 (fun h v => Fz (F14 m) u v ∧ Nr v m (sG (aS A)) p ∧ ∀ j, j < h → zI v (m + 15) j = nV (sG (aS A)) p 0 j) (fun r => ∃ v, r = some ((), v) ∧ Fz (F14 m) u v ∧ Nr v m (sG (aS A)) p ∧ ∀ d, d ≤ n → Lr v m (sG (aS A)) p d) ?_ ?_ N 0 u (by omega) (by omega) ⟨Fz.rf, hr, fun j hj => by omega⟩
  · rintro f v ⟨h1, h2, h3⟩
    rw [hgX11_fillsLeast_2, lit_80, if_pos (nI_lt (by omega) (by decide))]
    refine lps (fun f d v => hgX11_fillsLeast_31 N f m (nI p) (nI n) (nI d) v) (n + 1) (fun d v => 1 ≤ d ∧ Fz (F14 m) u v ∧ Nr v m (sG (aS A)) p ∧ ∀ e, e < d → Lr v m (sG (aS A)) p e) (fun r => ∃ v, r = some ((), v) ∧ Fz (F14 m) u v ∧ Nr v m (sG (aS A)) p ∧ ∀ d, d ≤ n → Lr v m (sG (aS A)) p d) ?_ ?_ N 1 v (by omega) (by omega) ⟨Nat.le_refl _, h1, h2, fun e he j hj => by have := h3 j (by omega); rw [show e = 0 by omega, show 81 * 0 + j = j by omega]; exact this⟩
    · rintro f v ⟨-, k1, k2, k3⟩
      exact ⟨v, by rw [hgX11_fillsLeast_31, if_pos (nI_lt (by omega) (by omega))], k1, k2, fun d hd => k3 d (by omega)⟩
    · rintro f d1 v hd ⟨hd1, k1, k2, k3⟩
      obtain ⟨d, rfl⟩ : ∃ d, d1 = d + 1 := ⟨d1 - 1, by omega⟩
      rw [hgX11_fillsLeast_31, if_neg (nI_nlt (by omega) (by omega))]
      have row : ∃ v', (Fz (F14 m) u v' ∧ Nr v' m (sG (aS A)) p ∧ ∀ e, e < d + 2 → Lr v' m (sG (aS A)) p e) ∧ hgX11_fillsLeast_39 N (hgX11_fillsLeast_31 N f) N m (nI p) (nI n) (nI (d + 1)) (0 : Int32) v = hgX11_fillsLeast_31 N f m (nI p) (nI n) (nI (d + 2)) v' := by
        refine lps (fun f' h v => hgX11_fillsLeast_39 N (hgX11_fillsLeast_31 N f) f' m (nI p) (nI n) (nI (d + 1)) (nI h) v) 81 (fun h v => Fz (F14 m) u v ∧ Nr v m (sG (aS A)) p ∧ (∀ e, e < d + 1 → Lr v m (sG (aS A)) p e) ∧ ∀ j, j < h → zI v (m + 15) (81 * (d + 1) + j) = nV (sG (aS A)) p (d + 1) j) (fun r => ∃ v', (Fz (F14 m) u v' ∧ Nr v' m (sG (aS A)) p ∧ ∀ e, e < d + 2 → Lr v' m (sG (aS A)) p e) ∧ r = hgX11_fillsLeast_31 N f m (nI p) (nI n) (nI (d + 2)) v') ?_ ?_ N 0 v (by omega) (by omega) ⟨k1, k2, k3, fun j hj => by omega⟩
        · rintro f' w ⟨l1, l2, l3, l4⟩
          refine ⟨w, ⟨l1, l2, fun e he => ?_⟩, ?_⟩
          · by_cases q : e = d + 1
            · subst q; exact fun j hj => l4 j (by omega)
            · exact l3 e (by omega)
          · rw [hgX11_fillsLeast_39, lit_80, if_pos (nI_lt (by omega) (by decide)), lit_1, nI_add]
        · rintro f' h w hh ⟨l1, l2, l3, l4⟩
          have iw := F14.ir iR l1
          refine ⟨sI w (m + 15) (81 * (d + 1) + h) (nV (sG (aS A)) p (d + 1) h), ⟨l1.tr (Fz.sI (Or.inr rfl)), fun j hj => by rw [sI_n (by omega)]; exact l2 j hj, fun e he j hj => by rw [sI_n (by omega)]; exact l3 e he j hj, fun j hj => ?_⟩, ?_⟩
          · by_cases q : j = h
            · subst q; rw [sI_s]
            · rw [sI_n (by omega)]; exact l4 j (by omega)
          · rw [hgX11_fillsLeast_39, lit_80, if_neg (nI_nlt (by omega) (by decide))]
            refine lps (fun f'' k (o : Option Nat) => hgX11_fillsLeast_52 N (hgX11_fillsLeast_31 N f) (hgX11_fillsLeast_39 N (hgX11_fillsLeast_31 N f) f') f'' m (nI p) (nI n) (nI (d + 1)) (nI h) (foI o) (nI k) w) 11 (fun k o => match o with
              | none => ∀ j, j < k → ¬ fea (sG (aS A)) p d h j
              | some b => (∃ j, j < k ∧ fea (sG (aS A)) p d h j ∧ b = nP (sG (aS A)) p j + nE (sG (aS A)) p d (h - j)) ∧ ∀ j, j < k → fea (sG (aS A)) p d h j → b ≤ nP (sG (aS A)) p j + nE (sG (aS A)) p d (h - j)) (fun r => r = hgX11_fillsLeast_39 N (hgX11_fillsLeast_31 N f) f' m (nI p) (nI n) (nI (d + 1)) (nI (h + 1)) (sI w (m + 15) (81 * (d + 1) + h) (nV (sG (aS A)) p (d + 1) h))) ?_ ?_ N 0 none (by omega) (by omega) (fun j hj => by omega)
            · intro f'' o ho
              have eo : foI o = nV (sG (aS A)) p (d + 1) h := by
                unfold nV
                cases o with
                | none =>
                  rw [if_neg]
                  · rfl
                  · intro hh2
                    have := (nE_at hh2).1
                    exact ho (h / (d + 1)) (by have := this.1; omega) this
                | some b =>
                  obtain ⟨⟨j, j1, j2, j3⟩, ho2⟩ := ho
                  have hh2 := fea_le j2
                  rw [if_pos hh2]
                  have a1 := nE_min g j2
                  obtain ⟨a2, a3⟩ := nE_at hh2
                  have a4 := ho2 _ (by have := a2.1; omega) a2
                  show nI b = nI _
                  congr 1
                  omega
              rw [hgX11_fillsLeast_52, lit_10, if_pos (nI_lt (by omega) (by decide)), lit_81, pk_mul, nI_add, ixI (by omega) (by decide), bs_eq, nI_clamp (by omega), lit_1, nI_add, eo]
            · intro f'' k o hk ho
              have hvz := hV_nI (n := h) (by omega)
              rw [hgX11_fillsLeast_52, lit_10, if_neg (nI_nlt (by omega) (by decide)), r_costBy iw hA hp l2 (l3 d (by omega)) (by omega) hvz (by omega) (by omega) (by omega), cl_some, show (h : Int).toNat = h from rfl, lit_1, nI_add]
              by_cases q : k ≤ nMo (sG (aS A)) p ∧ h - k ≤ d * nMo (sG (aS A)) p
              · have b1 := nP_le (p := p) g k
                have b2 := nE_le (p := p) g (show d ≤ 8 by omega) q.2
                rw [if_pos q, if_neg (nI_pos (by omega))]
                cases o with
                | none =>
                  refine ⟨some (nP (sG (aS A)) p k + nE (sG (aS A)) p d (h - k)), ⟨⟨k, by omega, q, rfl⟩, fun j hj fj => ?_⟩, by rw [if_pos (show foI none < 0 by decide)]; rfl⟩
                  by_cases e : j = k
                  · subst e; exact Nat.le_refl _
                  · exact absurd fj (ho j (by omega))
                | some b =>
                  obtain ⟨⟨j, j1, j2, j3⟩, ho2⟩ := ho
                  have b3 := nP_le (p := p) g j
                  have b4 := nE_le (p := p) g (show d ≤ 8 by omega) j2.2
                  rw [show foI (some b) = nI b from rfl, if_neg (nI_pos (by omega)), ifle (by omega) (by omega)]
                  by_cases q4 : b ≤ nP (sG (aS A)) p k + nE (sG (aS A)) p d (h - k)
                  · refine ⟨some b, ⟨⟨j, by omega, j2, j3⟩, fun i hi fi => ?_⟩, by rw [if_pos q4]; rfl⟩
                    by_cases e : i = k
                    · subst e; exact q4
                    · exact ho2 i (by omega) fi
                  · refine ⟨some (nP (sG (aS A)) p k + nE (sG (aS A)) p d (h - k)), ⟨⟨k, by omega, q, rfl⟩, fun i hi fi => ?_⟩, by rw [if_neg q4]; rfl⟩
                    by_cases e : i = k
                    · subst e; exact Nat.le_refl _
                    · have := ho2 i (by omega) fi
                      omega
              · rw [if_neg q, if_pos (by decide)]
                refine ⟨o, ?_, rfl⟩
                cases o with
                | none =>
                  intro j hj
                  by_cases e : j = k
                  · subst e; exact q
                  · exact ho j (by omega)
                | some b =>
                  obtain ⟨⟨j, j1, j2, j3⟩, ho2⟩ := ho
                  refine ⟨⟨j, by omega, j2, j3⟩, fun i hi fi => ?_⟩
                  by_cases e : i = k
                  · subst e; exact absurd fi q
                  · exact ho2 i (by omega) fi
      obtain ⟨v', ⟨r1, r2, r3⟩, r4⟩ := row
      exact ⟨v', ⟨by omega, r1, r2, r3⟩, r4⟩
  · rintro f h v hh ⟨h1, h2, h3⟩
    refine ⟨sI v (m + 15) h (nV (sG (aS A)) p 0 h), ⟨h1.tr (Fz.sI (Or.inr rfl)), fun j hj => by rw [sI_n (by omega)]; exact h2 j hj, fun j hj => ?_⟩, ?_⟩
    · by_cases q : j = h
      · subst q; rw [sI_s]
      · rw [sI_n (by omega)]; exact h3 j (by omega)
    · rw [hgX11_fillsLeast_2, lit_80, if_neg (nI_nlt (by omega) (by decide)), ixI (by omega) (by decide), ixI (by omega) (by decide), bs_eq, bs_eq, nI_clamp (by omega), lit_1, nI_add]
      unfold nV
      by_cases q : h = 0
      · subst q
        rw [if_pos (show nI 0 = 0 from rfl), if_pos (Nat.zero_le _)]
        rfl
      · rw [if_neg (nI_ne0 (by omega) (by omega)), if_neg (by omega)]
        rfl
end NIGHTR
section NIGHTS
variable {N m c : Nat} {u : SG} {A : AT}
/-- the first number of hours that costs least, found by the reference -/
theorem r_look (iR : InvR u m A) (hA : Aok c A) {p d : Nat} (hp : p < sG (aS A) 1) (hr : Nr u m (sG (aS A)) p) (hL : Lr u m (sG (aS A)) p d) (hL1 : Lr u m (sG (aS A)) p (d + 1)) (hd : d + 1 ≤ 8) {V : Int32} {z : Int} (hv : hV V z) (hz : z ≤ 80) (hz2 : -900 ≤ z) (hh : z.toNat ≤ (d + 1) * nMo (sG (aS A)) p) {X2 X7 : Int32} (hX : X2 - X7 = nI (d + 1)) (X4 : Int32) (rc : Nat → Int32 → Int32 → Int32 → Int32 → Int32 → Int32 → SG → Option (Int32 × SG)) (hN : 2000 ≤ N) : hgX11_nights_155 N rc N m (nI p) X2 X4 V (0 : Int32) X7 u = rc m (nI p) X2 X4 V (nI (kx (sG (aS A)) p d z.toNat)) (X7 + 1) u := by
  have g := hA.2.2.2.2.1.1
  have m10 := nMo_10 (G := sG (aS A)) (p := p)
  obtain ⟨k1, k2, k3⟩ := kx_ok hh
  have kl := k1.1
  have ee := nE_le (p := p) g hd hh
  have st : ∀ f k, k ≤ 10 → hgX11_nights_155 N rc (f + 1) m (nI p) X2 X4 V (nI k) X7 u = if kf (sG (aS A)) p d z.toNat k then rc m (nI p) X2 X4 V (nI k) (X7 + 1) u else hgX11_nights_155 N rc f m (nI p) X2 X4 V (nI (k + 1)) X7 u := by
    intro f k hk
    rw [hgX11_nights_155, hX, r_costBy iR hA hp hr hL hd hv hz hz2 hk, cl_some, r_least hL1 hd hv hz, cl_some]
    unfold nV kf
    rw [if_pos hh, show nI k + (1 : Int32) = nI (k + 1) by rw [lit_1, nI_add]]
    by_cases q : k ≤ nMo (sG (aS A)) p ∧ z.toNat - k ≤ d * nMo (sG (aS A)) p
    · have e2 := nE_le (p := p) g (show d ≤ 8 by omega) q.2
      have e3 := nP_le (p := p) g k
      rw [if_pos q, ifeq (by omega) (by omega), decide_eq_true q.1, decide_eq_true q.2]
      by_cases q2 : nP (sG (aS A)) p k + nE (sG (aS A)) p d (z.toNat - k) = nE (sG (aS A)) p (d + 1) z.toNat
      · rw [if_pos q2, decide_eq_true q2]; rfl
      · rw [if_neg q2, decide_eq_false q2]; rfl
    · rw [if_neg q, if_neg (fun z => foI_ne (show nE (sG (aS A)) p (d + 1) _ < 2 ^ 31 by omega) z.symm)]
      by_cases q1 : k ≤ nMo (sG (aS A)) p
      · rw [decide_eq_true q1, decide_eq_false (fun z => q ⟨q1, z⟩)]; rfl
      · rw [decide_eq_false q1]; rfl
  refine lps (fun f k (_ : Unit) => hgX11_nights_155 N rc f m (nI p) X2 X4 V (nI k) X7 u) (kx (sG (aS A)) p d z.toNat) (fun _ _ => True) (fun r => r = _) ?_ ?_ N 0 () (Nat.zero_le _) (by omega) trivial
  · intro f _ _
    rw [st f _ (by omega), show kf (sG (aS A)) p d z.toNat (kx (sG (aS A)) p d z.toNat) = true from by unfold kf; rw [decide_eq_true k1.1, decide_eq_true k1.2, decide_eq_true k2]; rfl]
    rfl
  · intro f k _ hk _
    exact ⟨(), trivial, by rw [st f k (by omega), k3 k hk]; rfl⟩
theorem r_inNight (iR : InvR u m A) (hA : Aok c A) {p n w : Nat} (hp : p < sG (aS A) 1) (hr' : Nr u m (sG (aS A)) p) (hn : n ≤ 8) (hL : ∀ d, d ≤ n → Lr u m (sG (aS A)) p d) (hw : w < n) {V : Int32} {z : Int} (hv : hV V z) (hz : z ≤ 80) (hz2 : -99 ≤ z) (hh : z.toNat ≤ n * nMo (sG (aS A)) p) (hN : 2000 ≤ N) : hgX11_nights_129 N N m (nI p) (nI n) (nI w) V (0 : Int32) (0 : Int32) u = some (nI (kx (sG (aS A)) p (n - w - 1) (lf (sG (aS A)) p n z.toNat w)), u) := by
  have m10 := nMo_10 (G := sG (aS A)) (p := p)
  have key : ∀ i, i < n → ∀ (y : Int) (W : Int32), hV W y → y ≤ 80 → -900 ≤ y → y.toNat = lf (sG (aS A)) p n z.toNat i → ∀ f X7, X7 = nI i → hgX11_nights_155 N (hgX11_nights_129 N f) N m (nI p) (nI n) (nI w) W (0 : Int32) X7 u = hgX11_nights_129 N f m (nI p) (nI n) (nI w) W (nI (hr (sG (aS A)) p n z.toNat (i + 1))) (nI (i + 1)) u := by
    intro i hi y W hW y1 y2 y3 f X7 hX
    have ll := lf_le hh i (by omega)
    have ex : nI n - nI i = nI (n - i - 1 + 1) := by rw [pk_sub (by omega)]; congr 1; omega
    rw [r_look iR hA hp hr' (hL (n - i - 1) (by omega)) (hL (n - i - 1 + 1) (by omega)) (by omega) hW y1 (by omega) (by rw [y3, show n - i - 1 + 1 = n - i by omega]; exact ll) (by rw [hX]; exact ex) (nI w) _ hN, y3, hX, lit_1, nI_add]
    rfl
  refine lps (fun f i (s : Int × Int32 × Nat) => hgX11_nights_129 N f m (nI p) (nI n) (nI w) s.2.1 (nI s.2.2) (nI i) u) (w + 1) (fun i s => hV s.2.1 s.1 ∧ s.1 ≤ 80 ∧ -99 - 10 * (i : Int) ≤ s.1 ∧ s.2.2 = hr (sG (aS A)) p n z.toNat i ∧ s.2.2 ≤ 10 ∧ (if i = 0 then s.1 = z else (s.1 - s.2.2).toNat = lf (sG (aS A)) p n z.toNat i)) (fun r => r = _) ?_ ?_ N 0 (z, V, 0) (by omega) (by omega) ⟨hv, hz, by dsimp only; omega, rfl, Nat.zero_le _, by rw [if_pos rfl]⟩
  · rintro f ⟨y, W, b⟩ ⟨h1, h2, h3, h4, h5, h6⟩
    dsimp only at h4 ⊢
    rw [hgX11_nights_129, if_pos (nI_lt (by omega) (by omega)), h4]
    rfl
  · rintro f i ⟨y, W, b⟩ hi ⟨h1, h2, h3, h4, h5, h6⟩
    dsimp only at h1 h2 h3 h4 h5 h6 ⊢
    rw [hgX11_nights_129, if_neg (nI_nlt (by omega) (by omega)), bs_eq, bs_eq]
    have kb : hr (sG (aS A)) p n z.toNat (i + 1) ≤ 10 := by
      have ll := lf_le hh i (by omega)
      rw [show n - i = n - i - 1 + 1 by omega] at ll
      have := (kx_ok ll).1.1
      show kx _ _ _ _ ≤ 10
      omega
    by_cases i0 : i = 0
    · subst i0
      rw [if_pos rfl] at h6
      subst h6
      rw [if_pos (show nI 0 = 0 from rfl), show W - (0 : Int32) = W from Int32.sub_zero W, key 0 (by omega) y W h1 h2 (by omega) rfl f _ rfl]
      refine ⟨(y, W, hr (sG (aS A)) p n y.toNat 1), ⟨h1, h2, ?_, rfl, kb, ?_⟩, rfl⟩
      · dsimp only; omega
      · rw [if_neg (by omega)]
        show (y - (kx _ _ _ _ : Nat)).toNat = y.toNat - kx _ _ _ _
        omega
    · rw [if_neg i0] at h6
      have hs := hV_sub h1 (show b ≤ 99 by omega) (by omega)
      rw [if_neg (nI_ne0 (by omega) (by omega)), key i (by omega) (y - b) (W - nI b) hs (by omega) ?_ h6 f _ rfl]
      · refine ⟨(y - b, W - nI b, hr (sG (aS A)) p n z.toNat (i + 1)), ⟨hs, by dsimp only; omega, by dsimp only; omega, rfl, kb, ?_⟩, rfl⟩
        rw [if_neg (by omega)]
        show (y - b - (kx (sG (aS A)) p (n - i - 1) (lf (sG (aS A)) p n z.toNat i) : Nat)).toNat = lf (sG (aS A)) p n z.toNat i - kx (sG (aS A)) p (n - i - 1) (lf (sG (aS A)) p n z.toNat i)
        omega
      · omega
end NIGHTS
