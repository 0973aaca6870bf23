/-! AN HOUR: words, who sleeps -/
section WORDS
variable {N m : Nat} {u : SG} {G : Nat → Nat} {M : MT}
theorem r_pOf0 {p : Nat} (hp : p < 5) : hX11_personOf N m (nI p) (0 : Int32) u = some (zI u (m + 10) (10 + 6 * p + 0), u) := r_personOf (w := 0) hp (by decide)
theorem r_pOf1 {p : Nat} (hp : p < 5) : hX11_personOf N m (nI p) (1 : Int32) u = some (zI u (m + 10) (10 + 6 * p + 1), u) := r_personOf (w := 1) hp (by decide)
theorem r_pOf2 {p : Nat} (hp : p < 5) : hX11_personOf N m (nI p) (2 : Int32) u = some (zI u (m + 10) (10 + 6 * p + 2), u) := r_personOf (w := 2) hp (by decide)
theorem r_pOf3 {p : Nat} (hp : p < 5) : hX11_personOf N m (nI p) (3 : Int32) u = some (zI u (m + 10) (10 + 6 * p + 3), u) := r_personOf (w := 3) hp (by decide)
theorem r_pOf4 {p : Nat} (hp : p < 5) : hX11_personOf N m (nI p) (4 : Int32) u = some (zI u (m + 10) (10 + 6 * p + 4), u) := r_personOf (w := 4) hp (by decide)
theorem r_pOf5 {p : Nat} (hp : p < 5) : hX11_personOf N m (nI p) (5 : Int32) u = some (zI u (m + 10) (10 + 6 * p + 5), u) := r_personOf (w := 5) hp (by decide)
theorem pcd_lt (g : Gb G) (s : Nat) : dif (slS G M) s < 1024 := by
  have h1 := dif_le (slS G M) s
  have h2 := p5 g.2.1 (slS_lt G M)
  omega
theorem coI_le (g : Gb G) (t : Nat) : coI G M t ≤ 300 := by
  have h := sumB_le (f := fun l => if bu G M l t then G (70 + 2 * l) else 0) (c := 60) (n := G 3) (fun i hi => by
    have := (g.2.2.2.2.2.2.2.2.1 i hi).2
    split <;> omega)
  have := g.2.2.2.1
  unfold coI
  omega
theorem owC_le (g : Gb G) (p : Nat) : owC G M p ≤ 300 := by
  have h := sumB_le (f := fun l => if (G (69 + 2 * l) == p && bu G M l (mH M)) then G (70 + 2 * l) else 0) (c := 60) (n := G 3) (fun i hi => by
    have := (g.2.2.2.2.2.2.2.2.1 i hi).2
    split <;> omega)
  have := g.2.2.2.1
  unfold owC
  omega
theorem bs_sL {u : SG} {a k : Nat} {v : Int64} {f : SG → Option (Unit × SG)} {P : SG → Prop} (h : ∀ u2, zI u2 = zI u → Fz (fun b _ => b = a) u u2 → (∀ j, zL u2 a j = if j = k then v else zL u a j) → ∃ u', f u2 = some ((), u') ∧ P u') : ∃ u', bs (sL u a k v) f = some ((), u') ∧ P u' := h _ rfl (Fz.sL rfl) (fun j => by rw [sL_L, if_pos rfl])
set_option maxHeartbeats 1000000 in
theorem r_words (h : RA (zI u (m + 10)) G M) (hr : RB (zI u (m + 10)) G) (g : Gb G) {c : Nat} (hb : Mb c G M) (hc : c < 10000) {p : Nat} (hp : p < G 1) (hN : 2000 ≤ N) : ∃ u', hX11_words N m (nI p) u = some ((), u') ∧ (∀ k, k < 13 → zL u' (m + 9) k = wdV G M p k) ∧ Fz (fun a _ => a = m + 9) u u' := by
  have h9 := hb.h9 g
  have g0 := g.1
  have g1 := g.2.1
  have hm := hb.2.2.2.2
  have co := coI_le (M := M) g (mH M)
  have ow := owC_le (M := M) g p
  have hpp := hb.2.2.2.1 p hp
  have gp := g.2.2.2.2.2.2.1 p hp
  have mn := hb.2.1
  have hH : mH M ≤ G 0 := by rcases hb.1 with q | q <;> omega
  have bl := b2n_lt (mA M p)
  have pl := pc_le (dif (slS G M) (2 ^ p))
  have hp5 : p < 5 := by omega
  have hp31 : p < 2 ^ 30 := by omega
  have ht : mH M < 2 ^ 30 := by omega
  obtain ⟨e0, e1, e2, e3, e4, e5⟩ := h.2.2.2.2.1 p hp
  have e0 : zI u (m + 10) (10 + 6 * p + 0) = nI (G (10 + 6 * p)) := e0
  unfold hX11_words
  rw [nI_l (by omega)]
  refine bs_sL (fun w1 j1 f1 l1 => ?_)
  have i1 : zI w1 = zI u := j1
  rw [i1]
  rw [h.2.1, nI_l (by omega)]
  refine bs_sL (fun w2 j2 f2 l2 => ?_)
  have i2 : zI w2 = zI u := j2.trans i1
  rw [i2]
  rw [h.2.2.1, nI_l (by omega)]
  refine bs_sL (fun w3 j3 f3 l3 => ?_)
  have i3 : zI w3 = zI u := j3.trans i2
  rw [r_pOf0 hp5, cl_some, i3]
  rw [e0, nI_l (by omega)]
  refine bs_sL (fun w4 j4 f4 l4 => ?_)
  have i4 : zI w4 = zI u := j4.trans i3
  rw [r_pOf1 hp5, cl_some, i4]
  rw [e1, nI_l (by omega)]
  refine bs_sL (fun w5 j5 f5 l5 => ?_)
  have i5 : zI w5 = zI u := j5.trans i4
  rw [r_pOf3 hp5, cl_some, i5]
  rw [e3, nI_l (by omega)]
  refine bs_sL (fun w6 j6 f6 l6 => ?_)
  have i6 : zI w6 = zI u := j6.trans i5
  rw [i6]
  rw [h.1 0 (by omega), h.2.1, pk_sub hH, nI_l (by omega)]
  refine bs_sL (fun w7 j7 f7 l7 => ?_)
  have i7 : zI w7 = zI u := j7.trans i6
  rw [i7, h.2.1, r_costIn (by rw [i7]; exact h) (by rw [i7]; exact hr) g hm ht hN, cl_some]
  rw [nI_l (by omega)]
  refine bs_sL (fun w8 j8 f8 l8 => ?_)
  have i8 : zI w8 = zI u := j8.trans i7
  rw [r_sleepers (M := M) (G := G) (by rw [i8]; exact h) g hN, cl_some, nI_shl p (by omega), nI_dif, x_bits (pcd_lt g _) (by omega), cl_some]
  rw [nI_l (by omega)]
  refine bs_sL (fun w9 j9 f9 l9 => ?_)
  have i9 : zI w9 = zI u := j9.trans i8
  rw [r_pOf2 hp5, cl_some, i9]
  rw [e2, nI_l (by omega)]
  refine bs_sL (fun w10 j10 f10 l10 => ?_)
  have i10 : zI w10 = zI u := j10.trans i9
  rw [r_pOf5 hp5, cl_some, i10, if_neg (by decide)]
  rw [e5, lit_60, pk_div (by omega) (by decide) (by decide), nI_l (by omega)]
  refine bs_sL (fun w11 j11 f11 l11 => ?_)
  have i11 : zI w11 = zI u := j11.trans i10
  rw [r_pOf4 hp5, cl_some, i11]
  rw [e4, nI_l (by omega)]
  refine bs_sL (fun w12 j12 f12 l12 => ?_)
  have i12 : zI w12 = zI u := j12.trans i11
  rw [r_ownCost (M := M) (G := G) (by rw [i12]; exact h) (by rw [i12]; exact hr) g hm ht hp31 hN, cl_some]
  rw [nI_l (by omega)]
  refine bs_sL (fun w13 j13 f13 l13 => ?_)
  have i13 : zI w13 = zI u := j13.trans i12
  refine ⟨w13, rfl, ?_, ?_⟩
  · intro k hk
    rcases (by omega : k = 0 ∨ k = 1 ∨ k = 2 ∨ k = 3 ∨ k = 4 ∨ k = 5 ∨ k = 6 ∨ k = 7 ∨ k = 8 ∨ k = 9 ∨ k = 10 ∨ k = 11 ∨ k = 12) with rfl | rfl | rfl | rfl | rfl | rfl | rfl | rfl | rfl | rfl | rfl | rfl | rfl <;> simp only [l13, l12, l11, l10, l9, l8, l7, l6, l5, l4, l3, l2, l1] <;> rfl
  · exact ((((((((((((f1.tr f2).tr f3).tr f4).tr f5).tr f6).tr f7).tr f8).tr f9).tr f10).tr f11).tr f12).tr f13)
set_option maxHeartbeats 1000000 in
theorem c_valueOf {a b : Nat} (h : Str u b G) (hM : Mom u a G M) (g : Gb G) {c : Nat} (hb : Mb c G M) (hc : c < 10000) {p : Nat} (hp : p < G 1) {k : Nat} (hk : k < 13) (hN : 2000 ≤ N) : hX3_valueOf N (nI k) b a (nI p) u = some (wdV G M p k, u) := by
  have h9 := hb.h9 g
  have g0 := g.1
  have g1 := g.2.1
  have hm := hb.2.2.2.2
  have co := coI_le (M := M) g (mH M)
  have ow := owC_le (M := M) g p
  have hpp := hb.2.2.2.1 p hp
  have gp := g.2.2.2.2.2.2.1 p hp
  have mn := hb.2.1
  have hH : mH M ≤ G 0 := by rcases hb.1 with q | q <;> omega
  have bl := b2n_lt (mA M p)
  have pl := pc_le (dif (slS G M) (2 ^ p))
  have tb : (slS G M).testBit p = mA M p := by unfold slS; rw [bset_tb]; simp [hp]
  have s5 := p5 g1 (slS_lt G M)
  unfold hX3_valueOf
  rw [hM.1, c_burningAt h hM g hm (by omega), cl_some]
  rcases (by omega : k = 0 ∨ k = 1 ∨ k = 2 ∨ k = 3 ∨ k = 4 ∨ k = 5 ∨ k = 6 ∨ k = 7 ∨ k = 8 ∨ k = 9 ∨ k = 10 ∨ k = 11 ∨ k = 12) with rfl | rfl | rfl | rfl | rfl | rfl | rfl | rfl | rfl | rfl | rfl | rfl | rfl
  · rw [if_pos (by decide)]; rw [nI_l (n := p) (by omega)]; rfl
  · rw [if_neg (by decide), if_pos (by decide)]; rw [hM.1, nI_l (n := mH M) (by omega)]; rfl
  · rw [if_neg (by decide), if_neg (by decide), if_pos (by decide)]; rw [hM.2.1, nI_l (n := mN M) (by omega)]; rfl
  · rw [if_neg (by decide), if_neg (by decide), if_neg (by decide), if_pos (by decide)]; rw [ixI (by omega) (by decide), nI_clamp (by omega), (h.2.2.2.2.2.1 p hp).1, nI_l (by omega)]; rfl
  · rw [if_neg (by decide), if_neg (by decide), if_neg (by decide), if_neg (by decide), if_pos (by decide)]; rw [ixI (by omega) (by decide), nI_clamp (by omega), (h.2.2.2.2.2.1 p hp).2, nI_l (by omega)]; rfl
  · rw [if_neg (by decide), if_neg (by decide), if_neg (by decide), if_neg (by decide), if_neg (by decide), if_pos (by decide)]; rw [ixI (by omega) (by decide), nI_clamp (by omega), (hM.2.2.2.2.2.1 p hp).1, nI_l (by omega)]; rfl
  · rw [if_neg (by decide), if_neg (by decide), if_neg (by decide), if_neg (by decide), if_neg (by decide), if_neg (by decide), if_pos (by decide)]; rw [h.1, hM.1, pk_sub hH, nI_l (by omega)]; rfl
  · rw [if_neg (by decide), if_neg (by decide), if_neg (by decide), if_neg (by decide), if_neg (by decide), if_neg (by decide), if_neg (by decide), if_pos (by decide)]; rw [c_costBu h g _ hN, cl_some, nI_l (by omega)]; rfl
  · rw [if_neg (by decide), if_neg (by decide), if_neg (by decide), if_neg (by decide), if_neg (by decide), if_neg (by decide), if_neg (by decide), if_neg (by decide), if_pos (by decide)]; rw [hM.2.2.1, nI_shl p (by omega), nI_dif, x_bitCount (pcd_lt g _), cl_some, nI_l (by omega)]; rfl
  · rw [if_neg (by decide), if_neg (by decide), if_neg (by decide), if_neg (by decide), if_neg (by decide), if_neg (by decide), if_neg (by decide), if_neg (by decide), if_neg (by decide), if_pos (by decide)]; rw [hM.2.2.1, x_bitOf (by omega) (by omega), cl_some, tb, nI_l (by omega)]; rfl
  · rw [if_neg (by decide), if_neg (by decide), if_neg (by decide), if_neg (by decide), if_neg (by decide), if_neg (by decide), if_neg (by decide), if_neg (by decide), if_neg (by decide), if_neg (by decide), if_pos (by decide)]; rw [ixI (by omega) (by decide), nI_clamp (by omega), (hM.2.2.2.2.2.1 p hp).2.2, if_neg (by decide), show (60 : Int64) = lN 60 from rfl, pk_lDiv (by omega) (by decide) (by decide)]; rfl
  · rw [if_neg (by decide), if_neg (by decide), if_neg (by decide), if_neg (by decide), if_neg (by decide), if_neg (by decide), if_neg (by decide), if_neg (by decide), if_neg (by decide), if_neg (by decide), if_neg (by decide), if_pos (by decide)]; rw [ixI (by omega) (by decide), nI_clamp (by omega), (hM.2.2.2.2.2.1 p hp).2.1, nI_l (by omega)]; rfl
  · rw [if_neg (by decide), if_neg (by decide), if_neg (by decide), if_neg (by decide), if_neg (by decide), if_neg (by decide), if_neg (by decide), if_neg (by decide), if_neg (by decide), if_neg (by decide), if_neg (by decide), if_neg (by decide), if_pos (by decide)]; rw [c_lampsOf h g (by omega) hN, cl_some, nI_and, c_own h g hN, cl_some, nI_l (by omega)]; rfl
end WORDS
/-- who sleeps is set -/
def setA (M : MT) (p : Nat) (b : Bool) : MT := (M.1, M.2.1, M.2.2.1, fun q => if q = p then b else M.2.2.2.1 q, M.2.2.2.2)
def Meq (G : Nat → Nat) (M M' : MT) : Prop := mH M' = mH M ∧ mN M' = mN M ∧ mT M' = mT M ∧ (∀ p, p < G 1 → mA M' p = mA M p ∧ mS M' p = mS M p ∧ mD M' p = mD M p ∧ mO M' p = mO M p) ∧ ∀ l, l < 5 → mL M' l = mL M l
theorem RA.congr {f : Nat → Int32} {G : Nat → Nat} {M M' : MT} (h : RA f G M) (e : Meq G M M') : RA f G M' := by
  obtain ⟨e1, e2, e3, e4, e5⟩ := e
  obtain ⟨h1, h2, h3, h4, h5, h6⟩ := h
  refine ⟨h1, by rw [e1]; exact h2, by rw [e2]; exact h3, by rw [e3]; exact h4, fun p hp => ?_, fun l hl => by rw [e5 l hl]; exact h6 l hl⟩
  obtain ⟨q1, q2, q3, q4⟩ := e4 p hp
  rw [q1, q2, q3, q4]
  exact h5 p hp
theorem slS_congr {G : Nat → Nat} {M M' : MT} (e : Meq G M M') : slS G M' = slS G M := bset_ext (fun p hp => (e.2.2.2.1 p hp).1)
theorem Mom.congr {u : SG} {a : Nat} {G : Nat → Nat} {M M' : MT} (g : Gb G) (h : Mom u a G M) (e : Meq G M M') : Mom u a G M' := by
  have e0 := slS_congr e
  obtain ⟨e1, e2, e3, e4, e5⟩ := e
  obtain ⟨h1, h2, h3, h4, h5, h6, h7⟩ := h
  have g3 := g.2.2.2.1
  refine ⟨by rw [e1]; exact h1, by rw [e2]; exact h2, by rw [e0]; exact h3, ?_, ?_, fun p hp => ?_, by rw [e3]; exact h7⟩
  · rw [h4]; congr 1; apply bset_ext; intro l hl; rw [e5 l (by omega)]
  · rw [h5]; congr 1; apply bset_ext; intro l hl; rw [e5 l (by omega)]
  · obtain ⟨q1, q2, q3, q4⟩ := e4 p hp
    rw [q2, q3, q4]
    exact h6 p hp
theorem Mb.congr {c : Nat} {G : Nat → Nat} {M M' : MT} (h : Mb c G M) (e : Meq G M M') : Mb c G M' := by
  obtain ⟨e1, e2, e3, e4, e5⟩ := e
  obtain ⟨h1, h2, h3, h4, h5⟩ := h
  refine ⟨by rw [e1]; exact h1, by rw [e2]; exact h2, by rw [e3]; exact h3, fun p hp => ?_, fun l hl => by rw [e5 l hl]; exact h5 l hl⟩
  obtain ⟨q1, q2, q3, q4⟩ := e4 p hp
  rw [q2, q3, q4, e1]
  exact h4 p hp
theorem RA.setA {f f' : Nat → Int32} {G : Nat → Nat} {M : MT} (g : Gb G) (h : RA f G M) {p : Nat} (hp : p < G 1) {b : Bool} (h1 : f' (10 + 6 * p + 2) = nI (b2n b)) (h2 : ∀ j, j ≠ 10 + 6 * p + 2 → f' j = f j) : RA f' G (setA M p b) := by
  have g1 := g.2.1
  obtain ⟨k1, k2, k3, k4, k5, k6⟩ := h
  refine ⟨fun k hk => by rw [h2 _ (by omega)]; exact k1 k hk, by rw [h2 _ (by omega)]; exact k2, by rw [h2 _ (by omega)]; exact k3, by rw [h2 _ (by omega)]; exact k4, fun q hq => ?_, fun l hl => by rw [h2 _ (by omega)]; exact k6 l hl⟩
  obtain ⟨q1, q2, q3, q4, q5, q6⟩ := k5 q hq
  refine ⟨by rw [h2 _ (by omega)]; exact q1, by rw [h2 _ (by omega)]; exact q2, ?_, by rw [h2 _ (by omega)]; exact q4, by rw [h2 _ (by omega)]; exact q5, by rw [h2 _ (by omega)]; exact q6⟩
  by_cases e : q = p
  · subst e
    rw [h1]
    show _ = nI (b2n (if q = q then b else _))
    rw [if_pos rfl]
  · rw [h2 _ (by omega), q3]
    show _ = nI (b2n (if q = p then b else _))
    rw [if_neg e]
    rfl
theorem RB.z {f f' : Nat → Int32} {G : Nat → Nat} (h : RB f G) (h2 : ∀ j, 45 ≤ j → f' j = f j) : RB f' G := fun k h1 h3 => by rw [h2 k h1]; exact h k h1 h3
theorem slS_set {G : Nat → Nat} {M : MT} {p : Nat} (hp : p < G 1) (b : Bool) : slS G (setA M p b) = if b then slS G M ||| 2 ^ p else dif (slS G M) (2 ^ p) := by
  symm
  apply eq_bset
  intro i
  have e : mA (setA M p b) i = if i = p then b else mA M i := rfl
  rw [e]
  cases b with
  | true =>
    rw [if_pos rfl, Nat.testBit_or, Nat.testBit_two_pow]
    unfold slS
    rw [bset_tb]
    by_cases h : i = p
    · subst h; simp [hp]
    · rw [if_neg h]; have : decide (p = i) = false := by simp; omega
      rw [this, Bool.or_false]
  | false =>
    rw [if_neg (by decide), dif_tb, Nat.testBit_two_pow]
    unfold slS
    rw [bset_tb]
    by_cases h : i = p
    · subst h; simp
    · rw [if_neg h]; have : decide (p = i) = false := by simp; omega
      rw [this]; simp
theorem Mb.setA {c : Nat} {G : Nat → Nat} {M : MT} (h : Mb c G M) (p : Nat) (b : Bool) : Mb c G (setA M p b) := h
theorem Mom.setA {u : SG} {a : Nat} {G : Nat → Nat} {M : MT} (h : Mom u a G M) {p : Nat} (hp : p < G 1) {b : Bool} {v : Int32} (hv : v = nI (slS G (setA M p b))) : Mom (sI u a 2 v) a G (setA M p b) := by
  obtain ⟨h1, h2, h3, h4, h5, h6, h7⟩ := h
  refine ⟨by rw [sI_n (by omega)]; exact h1, by rw [sI_n (by omega)]; exact h2, by rw [sI_s, hv], by rw [sI_n (by omega)]; exact h4, by rw [sI_n (by omega)]; exact h5, fun q hq => ?_, h7⟩
  obtain ⟨q1, q2, q3⟩ := h6 q hq
  exact ⟨by rw [sI_n (by omega)]; exact q1, by rw [sI_n (by omega)]; exact q2, q3⟩
theorem Str.z {S : Nat → Nat → Prop} {u v : SG} {a : Nat} {G : Nat → Nat} (h : Str u a G) (f : Fz S u v) (hS : ∀ b k, a ≤ b → b ≤ a + 6 → ¬ S b k) : Str v a G := by
  obtain ⟨h1, h2, h3, h4, h5, h6, h7, h8⟩ := h
  have z : ∀ b k, a ≤ b → b ≤ a + 6 → zI v b k = zI u b k := fun b k q1 q2 => f.I (hS b k q1 q2)
  refine ⟨by rw [z _ _ (by omega) (by omega)]; exact h1, by rw [z _ _ (by omega) (by omega)]; exact h2, by rw [z _ _ (by omega) (by omega)]; exact h3, by rw [z _ _ (by omega) (by omega)]; exact h4, by rw [z _ _ (by omega) (by omega)]; exact h5, fun p hp => ?_, fun p hp => ?_, fun p hp => ?_⟩
  · rw [z _ _ (by omega) (by omega), z _ _ (by omega) (by omega)]; exact h6 p hp
  · rw [z _ _ (by omega) (by omega), z _ _ (by omega) (by omega)]; exact h7 p hp
  · rw [z _ _ (by omega) (by omega), z _ _ (by omega) (by omega)]; exact h8 p hp
theorem Mom.z {S : Nat → Nat → Prop} {u v : SG} {a : Nat} {G : Nat → Nat} {M : MT} (h : Mom u a G M) (f : Fz S u v) (hS : ∀ b k, a ≤ b → b ≤ a + 3 → ¬ S b k) : Mom v a G M := by
  obtain ⟨h1, h2, h3, h4, h5, h6, h7⟩ := h
  have z : ∀ b k, a ≤ b → b ≤ a + 3 → zI v b k = zI u b k := fun b k q1 q2 => f.I (hS b k q1 q2)
  have zl : ∀ b k, a ≤ b → b ≤ a + 3 → zL v b k = zL u b k := fun b k q1 q2 => f.L (hS b k q1 q2)
  refine ⟨by rw [z _ _ (by omega) (by omega)]; exact h1, by rw [z _ _ (by omega) (by omega)]; exact h2, by rw [z _ _ (by omega) (by omega)]; exact h3, by rw [z _ _ (by omega) (by omega)]; exact h4, by rw [z _ _ (by omega) (by omega)]; exact h5, fun p hp => ?_, by rw [zl _ _ (by omega) (by omega)]; exact h7⟩
  rw [z _ _ (by omega) (by omega), z _ _ (by omega) (by omega), zl _ _ (by omega) (by omega)]
  exact h6 p hp
