/-! OPERATIONS, 1: those that ask or set one thing -/
theorem out_ne {x : Int32} {n k : Nat} (h : x < 0 ∨ nI n ≤ x) (hk : k < n) (hn : n < 2 ^ 31) : x ≠ nI k := by
  rintro rfl
  rcases h with h | h
  · exact nI_pos (by omega) h
  · exact nI_ge hk hn h
theorem x64_lt (x : Int32) (k : Nat) (hk : k < 2 ^ 31) : x.toInt64 < lN k ↔ x < nI k := by
  rw [Int64.lt_iff_toInt_lt, Int32.lt_iff_toInt_lt, Int32.toInt_toInt64, nI_toInt hk, lN_toInt hk]
theorem x64_gt (x : Int32) (k : Nat) (hk : k < 2 ^ 31) : lN k < x.toInt64 ↔ nI k < x := by
  rw [Int64.lt_iff_toInt_lt, Int32.lt_iff_toInt_lt, Int32.toInt_toInt64, nI_toInt hk, lN_toInt hk]
theorem x64_lt0 (x : Int32) : x.toInt64 < (0 : Int64) ↔ x < 0 := x64_lt x 0 (by decide)
theorem nI_lt_of {x : Int32} {n : Nat} (hn : n + 1 < 2 ^ 31) (h : nI (n + 1) ≤ x) : nI n < x := by
  rw [Int32.le_iff_toInt_le, nI_toInt hn] at h
  rw [Int32.lt_iff_toInt_lt, nI_toInt (by omega)]
  omega
theorem le_of_out {x : Int32} {n k : Nat} (hn : n < 2 ^ 31) (hk : k ≤ n) (h : nI n ≤ x) : nI k ≤ x := by
  rw [Int32.le_iff_toInt_le, nI_toInt hn] at h
  rw [Int32.le_iff_toInt_le, nI_toInt (by omega)]
  omega
theorem not_lt0 {x : Int32} {n : Nat} (hn : n < 2 ^ 31) (h : nI n ≤ x) : ¬ x < 0 := by
  rw [Int32.le_iff_toInt_le, nI_toInt hn] at h
  rw [Int32.lt_iff_toInt_lt]
  have : (0 : Int32).toInt = 0 := rfl
  omega
section XIN
variable {N : Nat} {u : SG}
theorem x_in0 {x : Int32} {b : Nat} (h : x < 0 ∨ nI (b + 1) ≤ x) (hb : b + 1 < 2 ^ 31) {q : Int64} (hq : q = lN b) : fX11_in N x.toInt64 (0 : Int64) q u = some (0, u) := by
  unfold fX11_in
  rcases h with h | h
  · rw [if_pos ((lg_cmp_lt _ _).mpr ((x64_lt0 x).mpr h))]
  · rw [if_neg (fun z => not_lt0 hb h ((x64_lt0 x).mp ((lg_cmp_lt _ _).mp z))), if_pos (by rw [lg_cmp_gt, hq]; exact (x64_gt x b (by omega)).mpr (nI_lt_of hb h))]
theorem x_in1 {j b : Nat} (hj : j ≤ b) (hb : b < 2 ^ 31) {q : Int64} (hq : q = lN b) : fX11_in N (nI j).toInt64 (0 : Int64) q u = some (1, u) := by
  unfold fX11_in
  rw [if_neg (fun z => nI_pos (by omega) ((x64_lt0 (nI j)).mp ((lg_cmp_lt _ _).mp z))), if_neg (by rw [lg_cmp_gt, hq, x64_gt _ _ hb]; exact nI_nlt hj hb)]
/-- a number of 1 to b -/
theorem x_in1b {x : Int32} {b : Nat} (hb : b + 1 < 2 ^ 31) {q : Int64} (hq : q = lN b) : (x < nI 1 ∨ nI (b + 1) ≤ x) ∧ fX11_in N x.toInt64 (1 : Int64) q u = some (0, u) ∨ ∃ j, 1 ≤ j ∧ j ≤ b ∧ x = nI j ∧ fX11_in N x.toInt64 (1 : Int64) q u = some (1, u) := by
  unfold fX11_in
  have e1 : (1 : Int64) = lN 1 := rfl
  rcases pk_ix x (n := b + 1) hb with h | h | ⟨j, hj, rfl⟩
  · refine Or.inl ⟨Or.inl (Int32.lt_trans h (by decide)), ?_⟩
    rw [if_pos (by rw [lg_cmp_lt, e1, x64_lt _ _ (by decide)]; exact Int32.lt_trans h (by decide))]
  · refine Or.inl ⟨Or.inr h, ?_⟩
    split
    · rfl
    · rw [if_pos (by rw [lg_cmp_gt, hq]; exact (x64_gt x b (by omega)).mpr (nI_lt_of hb h))]
  · by_cases j0 : j = 0
    · subst j0
      refine Or.inl ⟨Or.inl (by decide), ?_⟩
      rw [if_pos (by rw [lg_cmp_lt, e1, x64_lt _ _ (by decide)]; decide)]
    · refine Or.inr ⟨j, by omega, by omega, rfl, ?_⟩
      rw [if_neg (by rw [lg_cmp_lt, e1, x64_lt _ _ (by decide)]; exact nI_nlt (by omega) (by omega)), if_neg (by rw [lg_cmp_gt, hq, x64_gt _ _ (by omega)]; exact nI_nlt (by omega) (by omega))]
end XIN
section ISP
variable {N a m : Nat} {u : SG} {G : Nat → Nat} {M : MT}
theorem c_isP0 (h : Str u a G) (g : Gb G) {x : Int32} (ho : x < 0 ∨ nI (G 1) ≤ x) : hX7_isPerson N a x u = some (0, u) := by
  rcases c_isPerson (N := N) h g x with ⟨_, e⟩ | ⟨p, hp, e, _⟩
  · exact e
  · exact absurd e (out_ne ho hp (by have := g.2.1; omega))
theorem c_isP1 (h : Str u a G) (g : Gb G) {p : Nat} (hp : p < G 1) : hX7_isPerson N a (nI p) u = some (1, u) := by
  rcases c_isPerson (N := N) h g (nI p) with ⟨e, _⟩ | ⟨q, hq, _, e⟩
  · exact absurd rfl (out_ne e hp (by have := g.2.1; omega))
  · exact e
theorem c_isL0 (h : Str u a G) (g : Gb G) {x : Int32} (ho : x < 0 ∨ nI (G 3) ≤ x) : hX7_isLamp N a x u = some (0, u) := by
  rcases c_isLamp (N := N) h g x with ⟨_, e⟩ | ⟨p, hp, e, _⟩
  · exact e
  · exact absurd e (out_ne ho hp (by have := g.2.2.2.1; omega))
theorem c_isL1 (h : Str u a G) (g : Gb G) {p : Nat} (hp : p < G 3) : hX7_isLamp N a (nI p) u = some (1, u) := by
  rcases c_isLamp (N := N) h g (nI p) with ⟨e, _⟩ | ⟨q, hq, _, e⟩
  · exact absurd rfl (out_ne e hp (by have := g.2.2.2.1; omega))
  · exact e
theorem r_isP0 (h : RA (zI u (m + 10)) G M) (g : Gb G) {x : Int32} (ho : x < 0 ∨ nI (G 1) ≤ x) : hX11_isPerson N m x u = some (0, u) := by
  rcases r_isPerson (N := N) h g x with ⟨_, e⟩ | ⟨p, hp, e, _⟩
  · exact e
  · exact absurd e (out_ne ho hp (by have := g.2.1; omega))
theorem r_isP1 (h : RA (zI u (m + 10)) G M) (g : Gb G) {p : Nat} (hp : p < G 1) : hX11_isPerson N m (nI p) u = some (1, u) := by
  rcases r_isPerson (N := N) h g (nI p) with ⟨e, _⟩ | ⟨q, hq, _, e⟩
  · exact absurd rfl (out_ne e hp (by have := g.2.1; omega))
  · exact e
theorem r_isL0 (h : RA (zI u (m + 10)) G M) (g : Gb G) {x : Int32} (ho : x < 0 ∨ nI (G 3) ≤ x) : hX11_isLamp N m x u = some (0, u) := by
  rcases r_isLamp (N := N) h g x with ⟨_, e⟩ | ⟨p, hp, e, _⟩
  · exact e
  · exact absurd e (out_ne ho hp (by have := g.2.2.2.1; omega))
theorem r_isL1 (h : RA (zI u (m + 10)) G M) (g : Gb G) {p : Nat} (hp : p < G 3) : hX11_isLamp N m (nI p) u = some (1, u) := by
  rcases r_isLamp (N := N) h g (nI p) with ⟨e, _⟩ | ⟨q, hq, _, e⟩
  · exact absurd rfl (out_ne e hp (by have := g.2.2.2.1; omega))
  · exact e
end ISP
section CN
variable {N x : Nat} {u : SG} {S : SCT}
theorem c_workersNow (h : CSc u (x + 17) S) (g : Gb (sG S)) {c : Nat} (hb : Mb c (sG S) (sM S)) : hX10_workersNow N x u = some (nI (bset (fun p => wk (sG S) p (mH (sM S))) (sG S 1)), u) := by
  have h9 := hb.h9 g
  unfold hX10_workersNow
  rw [show zI u (x + 25) 0 = nI (mH (sM S)) from h.2.1.1, c_workersAt h.1 (by omega), cl_some]
theorem c_burningNow (h : CSc u (x + 17) S) (g : Gb (sG S)) {c : Nat} (hb : Mb c (sG S) (sM S)) : hX10_burningNow N x u = some (nI (buS (sG S) (sM S) (mH (sM S))), u) := by
  have h9 := hb.h9 g
  unfold hX10_burningNow
  rw [show zI u (x + 25) 0 = nI (mH (sM S)) from h.2.1.1, c_burningAt h.1 h.2.1 g hb.2.2.2.2 (by omega), cl_some]
end CN
/-! pieces of the invariants -/
def CTp (u : SG) (x T : Nat) (B : Nat → Nat) : Prop := zI u (x + 1) 1 = nI T ∧ ∀ k, k < T → zI u (x + 2) k = byI (B k)
def CRl (u : SG) (x : Nat) (Rs : List RT) : Prop := zI u x 5 = nI Rs.length ∧ ∀ (t : Nat) (R : RT), Rs[t]? = some R → ∃ q, zR u (x + 16) t = some q ∧ CRul u q R ∧ x + 212 < q
def CAc (u : SG) (x : Nat) (G : Nat → Nat) (V : List MT) : Prop := zI u (x + 35) 2 = nI V.length ∧ ∃ nx : Nat, nx < 20 ∧ zI u (x + 35) 1 = nI nx ∧ ∀ (j : Nat) (M : MT), V[j]? = some M → Mom u (x + 35 + 2 + 4 * ((nx + 20 - V.length + j) % 20)) G M
def CIm (u : SG) (x : Nat) (I : Nat → Option SCT) : Prop := ∀ k, k < 4 → zI u (x + 125 + 17 * k) 5 = b2i (I k).isSome ∧ ∀ S, I k = some S → CSc u (x + 125 + 17 * k) S
def RTp (u : SG) (m T : Nat) (B : Nat → Nat) : Prop := zI u m 1 = nI T ∧ ∀ k, k < T → zI u (m + 1) k = byI (B k)
def RRl (u : SG) (m : Nat) (Rs : List RT) : Prop := zI u m 2 = nI Rs.length ∧ ∀ (t : Nat) (R : RT), Rs[t]? = some R → RRul u m t R
def RSn (u : SG) (m : Nat) (S : SCT) : Prop := RSc (zI u (m + 10)) S ∧ zI u m 21 = foI (sf S) ∧ zI u m 22 = sx S
def RAc (u : SG) (m : Nat) (G : Nat → Nat) (V : List MT) : Prop := zI u m 25 = nI V.length ∧ ∀ (j : Nat) (M : MT), V[j]? = some M → RA (fun k => zI u (m + 12) (45 * j + k)) G M
def RIm (u : SG) (m : Nat) (I : Nat → Option SCT) : Prop := ∀ k, k < 4 → zI u (m + 19) k = b2i (I k).isSome ∧ ∀ S, I k = some S → RSc (fun j => zI u (m + 16) (144 * k + j)) S ∧ zI u (m + 17) k = foI (sf S) ∧ zI u (m + 18) k = sx S
theorem InvC.tp {u : SG} {x : Nat} {A : AT} (h : InvC u x A) : CTp u x (aT A) (aB A) := h.1
theorem InvC.rl {u : SG} {x : Nat} {A : AT} (h : InvC u x A) : CRl u x (aR A) := h.2.1
theorem InvC.sn {u : SG} {x : Nat} {A : AT} (h : InvC u x A) : CSc u (x + 17) (aS A) := h.2.2.1
theorem InvC.ac {u : SG} {x : Nat} {A : AT} (h : InvC u x A) : CAc u x (sG (aS A)) (aV A) := h.2.2.2.1
theorem InvC.im {u : SG} {x : Nat} {A : AT} (h : InvC u x A) : CIm u x (aI A) := h.2.2.2.2
theorem InvR.tp {u : SG} {m : Nat} {A : AT} (h : InvR u m A) : RTp u m (aT A) (aB A) := h.1
theorem InvR.rl {u : SG} {m : Nat} {A : AT} (h : InvR u m A) : RRl u m (aR A) := h.2.1
theorem InvR.sn {u : SG} {m : Nat} {A : AT} (h : InvR u m A) : RSn u m (aS A) := h.2.2.1
theorem InvR.ac {u : SG} {m : Nat} {A : AT} (h : InvR u m A) : RAc u m (sG (aS A)) (aV A) := h.2.2.2.1
theorem InvR.im {u : SG} {m : Nat} {A : AT} (h : InvR u m A) : RIm u m (aI A) := h.2.2.2.2
section PCS
variable {u v : SG} {m x T : Nat} {B : Nat → Nat} {Rs : List RT} {G : Nat → Nat} {V : List MT} {I : Nat → Option SCT} {S : SCT} {P : Nat → Nat → Prop}
theorem invC (h1 : CTp u x T B) (h2 : CRl u x Rs) (h3 : CSc u (x + 17) S) (h4 : CAc u x (sG S) V) (h5 : CIm u x I) : InvC u x (T, B, Rs, S, V, I) := ⟨h1, h2, h3, h4, h5⟩
theorem invR (h1 : RTp u m T B) (h2 : RRl u m Rs) (h3 : RSn u m S) (h4 : RAc u m (sG S) V) (h5 : RIm u m I) : InvR u m (T, B, Rs, S, V, I) := ⟨h1, h2, h3, h4, h5⟩
theorem CTp.z (h : CTp u x T B) (f : Fz P u v) (h1 : ¬ P (x + 1) 1) (h2 : ∀ k, ¬ P (x + 2) k) : CTp v x T B := ⟨by rw [f.I h1]; exact h.1, fun k hk => by rw [f.I (h2 k)]; exact h.2 k hk⟩
theorem CRl.z (h : CRl u x Rs) (f : Fz P u v) (h1 : ¬ P x 5) (h2 : ∀ a k, x + 212 < a → ¬ P a k) : CRl v x Rs := ⟨by rw [f.I h1]; exact h.1, fun t R hR => by
  obtain ⟨q, q1, q2, q3⟩ := h.2 t R hR
  exact ⟨q, by rw [f.R]; exact q1, ⟨by rw [f.N]; exact q2.1, q2.2.1, fun j d hd => by rw [f.I (h2 _ _ (by omega))]; exact q2.2.2 j d hd⟩, q3⟩⟩
theorem CAc.z (h : CAc u x G V) (f : Fz P u v) (h1 : ∀ k, ¬ P (x + 35) k) (h2 : ∀ a k, x + 37 ≤ a → a ≤ x + 116 → ¬ P a k) : CAc v x G V := by
  obtain ⟨h8, nx, h9, h10, h11⟩ := h
  exact ⟨by rw [f.I (h1 _)]; exact h8, nx, h9, by rw [f.I (h1 _)]; exact h10, fun j M hM => (h11 j M hM).z f (fun b k q1 q2 => h2 b k (by omega) (by omega))⟩
theorem CIm.z (h : CIm u x I) (f : Fz P u v) (h2 : ∀ a k, x + 125 ≤ a → a ≤ x + 192 → ¬ P a k) : CIm v x I := fun k hk => ⟨by rw [f.I (h2 _ _ (by omega) (by omega))]; exact (h k hk).1, fun S hS => ((h k hk).2 S hS).z f (fun b j q1 q2 => h2 b j (by omega) (by omega))⟩
theorem RTp.z (h : RTp u m T B) (f : Fz P u v) (h1 : ¬ P m 1) (h2 : ∀ k, ¬ P (m + 1) k) : RTp v m T B := ⟨by rw [f.I h1]; exact h.1, fun k hk => by rw [f.I (h2 k)]; exact h.2 k hk⟩
theorem RRl.z (h : RRl u m Rs) (f : Fz P u v) (h1 : ¬ P m 2) (h2 : ∀ a k, a = m + 2 ∨ a = m + 4 ∨ a = m + 5 → ¬ P a k) : RRl v m Rs := ⟨by rw [f.I h1]; exact h.1, fun t R hR => (h.2 t R hR).z (f.w (fun a k q => by
  refine ⟨?_, ?_, ?_⟩ <;> rintro rfl
  · exact h2 _ _ (by omega) q
  · exact h2 _ _ (by omega) q
  · exact h2 _ _ (by omega) q))⟩
theorem RSn.z (h : RSn u m S) (f : Fz P u v) (h0 : ∀ k, ¬ P (m + 10) k) (h1 : ¬ P m 21) (h2 : ¬ P m 22) : RSn v m S := by
  have e : zI v (m + 10) = zI u (m + 10) := funext fun k => f.I (h0 k)
  exact ⟨by rw [e]; exact h.1, by rw [f.I h1]; exact h.2.1, by rw [f.I h2]; exact h.2.2⟩
theorem RAc.z (h : RAc u m G V) (f : Fz P u v) (h1 : ¬ P m 25) (h2 : ∀ k, ¬ P (m + 12) k) : RAc v m G V := ⟨by rw [f.I h1]; exact h.1, fun j M hM => by
  have e : (fun k => zI v (m + 12) (45 * j + k)) = (fun k => zI u (m + 12) (45 * j + k)) := funext fun k => f.I (h2 _)
  rw [e]
  exact h.2 j M hM⟩
theorem RIm.z (h : RIm u m I) (f : Fz P u v) (h2 : ∀ a k, m + 16 ≤ a → a ≤ m + 19 → ¬ P a k) : RIm v m I := fun k hk => ⟨by rw [f.I (h2 _ _ (by omega) (by omega))]; exact (h k hk).1, fun S hS => by
  have e : (fun j => zI v (m + 16) (144 * k + j)) = (fun j => zI u (m + 16) (144 * k + j)) := funext fun j => f.I (h2 _ _ (by omega) (by omega))
  rw [e, f.I (h2 _ _ (by omega) (by omega)), f.I (h2 _ _ (by omega) (by omega))]
  exact (h k hk).2 S hS⟩
end PCS
section OPS1
variable {N : Nat}
theorem op_end (p1 : Int32) : OpOK (fun x u => fX10_end N x p1 u) (fun m u => fX11_end N m p1 u) := by
  refine op_of (fun x u h => eX10_end N x p1 u h) (fun m u h => eX11_end N m p1 u h) (fun c x A hc hA => ?_)
  have hT := hA.1
  rcases pk_ix p1 (n := aT A + 1) (by omega) with h | h | ⟨j, hj, rfl⟩
  · refine ⟨-1, A, hA.mono (by omega), fun u hl k1 iC => ⟨u, ?_, iC, Fz.rf⟩, fun m u iR => ⟨u, ?_, iR, Fz.rf⟩⟩
    · unfold hX10_end; rw [if_pos h]
    · unfold hX11_end; rw [if_pos h]
  · have hl := nI_lt_of (by omega) h
    have hnl : ¬ p1 ≤ nI (aT A) := fun z => by
      rw [Int32.le_iff_toInt_le] at z
      rw [Int32.lt_iff_toInt_lt] at hl
      omega
    refine ⟨-1, A, hA.mono (by omega), fun u hl k1 iC => ⟨u, ?_, iC, Fz.rf⟩, fun m u iR => ⟨u, ?_, iR, Fz.rf⟩⟩
    · unfold hX10_end; rw [if_neg (not_lt0 (by omega) h), iC.1.1, if_neg hnl]
    · unfold hX11_end; rw [if_neg (not_lt0 (by omega) h), iR.1.1, if_neg hnl]
  · refine ⟨nI j, (j, A.2), ?_, fun u hl k1 iC => ⟨sI u (x + 1) 1 (nI j), ?_, ?_, Fz.sI (by unfold Sc; omega)⟩, fun m u iR => ⟨sI u m 1 (nI j), ?_, ?_, Fz.sI (by unfold Sr; omega)⟩⟩
    · have := hA.mono (d := c + 1) (by omega)
      exact ⟨by show j ≤ 400; omega, this.2⟩
    · unfold hX10_end; rw [if_neg (nI_pos (by omega)), iC.1.1, if_pos (nI_le (by omega) (by omega)), bs_eq]
    · have z : Fz (fun a k => a = x + 1 ∧ k = 1) u (sI u (x + 1) 1 (nI j)) := Fz.sI ⟨rfl, rfl⟩
      exact invC ⟨sI_s _ _ _ _, fun k hk => by rw [z.I (by omega)]; exact iC.tp.2 k (by omega)⟩ (iC.rl.z z (by omega) (fun a k q => by omega)) (iC.sn.z z (fun b k q1 q2 => by omega)) (iC.ac.z z (fun k => by omega) (fun a k q1 q2 => by omega)) (iC.im.z z (fun a k q1 q2 => by omega))
    · unfold hX11_end; rw [if_neg (nI_pos (by omega)), iR.1.1, if_pos (nI_le (by omega) (by omega)), bs_eq]
    · have z : Fz (fun a k => a = m ∧ k = 1) u (sI u m 1 (nI j)) := Fz.sI ⟨rfl, rfl⟩
      exact invR ⟨sI_s _ _ _ _, fun k hk => by rw [z.I (by omega)]; exact iR.tp.2 k (by omega)⟩ (iR.rl.z z (by omega) (fun a k q => by omega)) (iR.sn.z z (fun k => by omega) (by omega) (by omega)) (iR.ac.z z (by omega) (fun k => by omega)) (iR.im.z z (fun a k q1 q2 => by omega))
/-- the scene's rule or x is set: what follows for the invariants -/
theorem csF {u : SG} {x : Nat} {A : AT} (iC : InvC u x A) (o : Option Nat) (p : Int32) (hp : p = foI o) : InvC (sI u (x + 17) 3 p) x (aT A, aB A, aR A, (sG (aS A), sM (aS A), sF (aS A), sn (aS A), o, sx (aS A)), aV A, aI A) := by
  have z : Fz (fun a k => a = x + 17 ∧ k = 3) u (sI u (x + 17) 3 p) := Fz.sI ⟨rfl, rfl⟩
  obtain ⟨s1, s2, s3, s4, s5, s6⟩ := iC.sn
  refine invC (iC.tp.z z (by omega) (fun k => by omega)) (iC.rl.z z (by omega) (fun a k q => by omega)) ⟨s1.z z (fun b k q1 q2 => by omega), s2.z z (fun b k q1 q2 => by omega), by rw [z.I (by omega)]; exact s3, fun j hj => ?_, by rw [sI_s, hp]; rfl, by rw [z.I (by omega)]; exact s6⟩ (iC.ac.z z (fun k => by omega) (fun a k q1 q2 => by omega)) (iC.im.z z (fun a k q1 q2 => by omega))
  rw [z.I (by omega), z.I (by omega), z.I (by omega), z.I (by omega)]
  exact s4 j hj
theorem csX {u : SG} {x : Nat} {A : AT} (iC : InvC u x A) (p : Int32) : InvC (sI u (x + 17) 4 p) x (aT A, aB A, aR A, (sG (aS A), sM (aS A), sF (aS A), sn (aS A), sf (aS A), p), aV A, aI A) := by
  have z : Fz (fun a k => a = x + 17 ∧ k = 4) u (sI u (x + 17) 4 p) := Fz.sI ⟨rfl, rfl⟩
  obtain ⟨s1, s2, s3, s4, s5, s6⟩ := iC.sn
  refine invC (iC.tp.z z (by omega) (fun k => by omega)) (iC.rl.z z (by omega) (fun a k q => by omega)) ⟨s1.z z (fun b k q1 q2 => by omega), s2.z z (fun b k q1 q2 => by omega), by rw [z.I (by omega)]; exact s3, fun j hj => ?_, by rw [z.I (by omega)]; exact s5, by rw [sI_s]; rfl⟩ (iC.ac.z z (fun k => by omega) (fun a k q1 q2 => by omega)) (iC.im.z z (fun a k q1 q2 => by omega))
  rw [z.I (by omega), z.I (by omega), z.I (by omega), z.I (by omega)]
  exact s4 j hj
theorem rsF {u : SG} {m : Nat} {A : AT} (iR : InvR u m A) (o : Option Nat) (p : Int32) (hp : p = foI o) : InvR (sI u m 21 p) m (aT A, aB A, aR A, (sG (aS A), sM (aS A), sF (aS A), sn (aS A), o, sx (aS A)), aV A, aI A) := by
  have z : Fz (fun a k => a = m ∧ k = 21) u (sI u m 21 p) := Fz.sI ⟨rfl, rfl⟩
  have e : zI (sI u m 21 p) (m + 10) = zI u (m + 10) := funext fun k => z.I (by omega)
  exact invR (iR.tp.z z (by omega) (fun k => by omega)) (iR.rl.z z (by omega) (fun a k q => by omega)) ⟨by rw [e]; exact iR.sn.1, by rw [sI_s, hp]; rfl, by rw [z.I (by omega)]; exact iR.sn.2.2⟩ (iR.ac.z z (by omega) (fun k => by omega)) (iR.im.z z (fun a k q1 q2 => by omega))
theorem rsX {u : SG} {m : Nat} {A : AT} (iR : InvR u m A) (p : Int32) : InvR (sI u m 22 p) m (aT A, aB A, aR A, (sG (aS A), sM (aS A), sF (aS A), sn (aS A), sf (aS A), p), aV A, aI A) := by
  have z : Fz (fun a k => a = m ∧ k = 22) u (sI u m 22 p) := Fz.sI ⟨rfl, rfl⟩
  have e : zI (sI u m 22 p) (m + 10) = zI u (m + 10) := funext fun k => z.I (by omega)
  exact invR (iR.tp.z z (by omega) (fun k => by omega)) (iR.rl.z z (by omega) (fun a k q => by omega)) ⟨by rw [e]; exact iR.sn.1, by rw [z.I (by omega)]; exact iR.sn.2.1, by rw [sI_s]; rfl⟩ (iR.ac.z z (by omega) (fun k => by omega)) (iR.im.z z (fun a k q1 q2 => by omega))
theorem aokF {c : Nat} {A : AT} (hA : Aok c A) (o : Option Nat) (ho : ∀ t, o = some t → t < (aR A).length) : Aok (c + 1) (aT A, aB A, aR A, (sG (aS A), sM (aS A), sF (aS A), sn (aS A), o, sx (aS A)), aV A, aI A) := by
  obtain ⟨h1, h2, h3, h4, ⟨s1, s2, s3, s4, s5, s6⟩, h6, h7, h8⟩ := hA.mono (d := c + 1) (by omega)
  exact ⟨h1, h2, h3, h4, ⟨s1, s2, s3, s4, ho, s6⟩, h6, h7, h8⟩
theorem aokX {c : Nat} {A : AT} (hA : Aok c A) (p : Int32) (ho : ∃ y : Nat, y < 2 ^ 31 ∧ p = nI y) : Aok (c + 1) (aT A, aB A, aR A, (sG (aS A), sM (aS A), sF (aS A), sn (aS A), sf (aS A), p), aV A, aI A) := by
  obtain ⟨h1, h2, h3, h4, ⟨s1, s2, s3, s4, s5, s6⟩, h6, h7, h8⟩ := hA.mono (d := c + 1) (by omega)
  exact ⟨h1, h2, h3, h4, ⟨s1, s2, s3, s4, s5, ho⟩, h6, h7, h8⟩
theorem op_seed (p1 : Int32) : OpOK (fun x u => fX10_seed N x p1 u) (fun m u => fX11_seed N m p1 u) := by
  refine op_of (fun x u h => eX10_seed N x p1 u h) (fun m u h => eX11_seed N m p1 u h) (fun c x A hc hA => ?_)
  by_cases h : 0 ≤ p1
  · have hp : ∃ y : Nat, y < 2 ^ 31 ∧ p1 = nI y := nI_of (by rw [Int32.lt_iff_toInt_lt]; rw [Int32.le_iff_toInt_le] at h; omega)
    refine ⟨sx (aS A), _, aokX hA p1 hp, fun u hl k1 iC => ⟨_, ?_, csX iC p1, Fz.sI (by unfold Sc; omega)⟩, fun m u iR => ⟨_, ?_, rsX iR p1, Fz.sI (by unfold Sr; omega)⟩⟩
    · unfold hX10_seed; rw [if_pos h, bs_eq, bs_eq, iC.sn.2.2.2.2.2]
    · unfold hX11_seed; rw [if_pos h, bs_eq, bs_eq, iR.sn.2.2]
  · refine ⟨-1, A, hA.mono (by omega), fun u hl k1 iC => ⟨u, ?_, iC, Fz.rf⟩, fun m u iR => ⟨u, ?_, iR, Fz.rf⟩⟩
    · unfold hX10_seed; rw [if_neg h]
    · unfold hX11_seed; rw [if_neg h]
theorem op_force (p1 : Int32) : OpOK (fun x u => fX10_force N x p1 u) (fun m u => fX11_force N m p1 u) := by
  refine op_of (fun x u h => eX10_force N x p1 u h) (fun m u h => eX11_force N m p1 u h) (fun c x A hc hA => ?_)
  have hr := hA.2.2.1
  by_cases h1 : p1 = -1
  · subst h1
    refine ⟨foI (sf (aS A)), _, aokF hA none (fun t h => by cases h), fun u hl k1 iC => ⟨_, ?_, csF iC none (-1) rfl, Fz.sI (by unfold Sc; omega)⟩, fun m u iR => ⟨_, ?_, rsF iR none (-1) rfl, Fz.sI (by unfold Sr; omega)⟩⟩
    · unfold hX10_force
      rw [if_neg (by decide), iC.rl.1, if_pos (Int32.lt_of_lt_of_le (by decide : (-1 : Int32) < 0) (nI_pos' (by omega))), bs_eq, bs_eq, iC.sn.2.2.2.2.1]
    · unfold hX11_force
      rw [if_pos rfl, bs_eq, bs_eq, iR.sn.2.1]
  · rcases pk_ix p1 (n := (aR A).length) (by omega) with h | h | ⟨j, hj, rfl⟩
    · have hm : p1 < -1 := by
        rw [Int32.lt_iff_toInt_lt] at h ⊢
        have e0 : (0 : Int32).toInt = 0 := rfl
        have e1 : (-1 : Int32).toInt = -1 := rfl
        have : p1.toInt ≠ (-1 : Int32).toInt := fun z => h1 (Int32.toInt_inj.mp z)
        omega
      refine ⟨-2, A, hA.mono (by omega), fun u hl k1 iC => ⟨u, ?_, iC, Fz.rf⟩, fun m u iR => ⟨u, ?_, iR, Fz.rf⟩⟩
      · unfold hX10_force; rw [if_pos hm]
      · unfold hX11_force hX11_isRule; rw [if_neg h1, if_pos h, cl_some, if_pos rfl]
    · refine ⟨-2, A, hA.mono (by omega), fun u hl k1 iC => ⟨u, ?_, iC, Fz.rf⟩, fun m u iR => ⟨u, ?_, iR, Fz.rf⟩⟩
      · unfold hX10_force
        rw [iC.rl.1]
        split
        · rfl
        · rw [if_neg (fun z => absurd h (by rw [Int32.not_le]; exact z))]
      · unfold hX11_force hX11_isRule; rw [if_neg h1, if_neg (not_lt0 (by omega) h), iR.rl.1, if_pos h, cl_some, if_pos rfl]
    · refine ⟨foI (sf (aS A)), _, aokF hA (some j) (fun t h => by cases h; exact hj), fun u hl k1 iC => ⟨_, ?_, csF iC (some j) (nI j) rfl, Fz.sI (by unfold Sc; omega)⟩, fun m u iR => ⟨_, ?_, rsF iR (some j) (nI j) rfl, Fz.sI (by unfold Sr; omega)⟩⟩
      · unfold hX10_force
        rw [if_neg (fun z => nI_pos (n := j) (by omega) (Int32.lt_trans z (by decide))), iC.rl.1, if_pos (nI_lt hj (by omega)), bs_eq, bs_eq, iC.sn.2.2.2.2.1]
      · unfold hX11_force hX11_isRule
        rw [if_neg h1, if_neg (nI_pos (by omega)), iR.rl.1, if_neg (nI_ge hj (by omega)), cl_some, if_neg (by decide), bs_eq, bs_eq, iR.sn.2.1]
/-- nothing changes at all -/
theorem op_pure {fc fr hc hr : Nat → SG → Option (Int32 × SG)} (ec : ∀ x u, HK [(some x, 11)] u → fc x u = hc x u) (er : ∀ m u, HK [(some m, 12)] u → fr m u = hr m u) (h : ∀ (c x : Nat) (A : AT), c < 600 → Aok c A → ∃ r, (∀ u, InvC u x A → hc x u = some (r, u)) ∧ ∀ (m : Nat) (u : SG), InvR u m A → hr m u = some (r, u)) : OpOK fc fr := by
  refine op_of ec er (fun c x A h6 hA => ?_)
  obtain ⟨r, oc, or⟩ := h c x A h6 hA
  exact ⟨r, A, hA.mono (by omega), fun u hl k1 iC => ⟨u, oc u iC, iC, Fz.rf⟩, fun m u iR => ⟨u, or m u iR, iR, Fz.rf⟩⟩
theorem op_person (p1 p2 : Int32) (hN : 2000 ≤ N) : OpOK (fun x u => fX10_person N x p1 p2 u) (fun m u => fX11_person N m p1 p2 u) := by
  refine op_pure (fun x u h => eX10_person N x p1 p2 u h) (fun m u h => eX11_person N m p1 p2 u h) (fun c x A hc hA => ?_)
  obtain ⟨g, hb, -⟩ := hA.2.2.2.2.1
  have g1 := g.2.1
  have h9 := hb.h9 g
  have s5 := p5 g1 (slS_lt (sG (aS A)) (sM (aS A)))
  rcases pk_ix p1 (n := sG (aS A) 1) (by omega) with h | h | ⟨p, hp, rfl⟩
  · exact ⟨-1, fun u iC => by unfold hX10_person; rw [c_isP0 iC.sn.1 g (Or.inl h), cl_some, if_pos rfl], fun m u iR => by unfold hX11_person; rw [r_isP0 iR.sn.1.1 g (Or.inl h), cl_some, if_pos rfl]⟩
  · exact ⟨-1, fun u iC => by unfold hX10_person; rw [c_isP0 iC.sn.1 g (Or.inr h), cl_some, if_pos rfl], fun m u iR => by unfold hX11_person; rw [r_isP0 iR.sn.1.1 g (Or.inr h), cl_some, if_pos rfl]⟩
  · by_cases ho : p2 < 0 ∨ nI 6 ≤ p2
    · refine ⟨-1, fun u iC => ?_, fun m u iR => ?_⟩
      · unfold hX10_person
        rw [c_isP1 iC.sn.1 g hp, cl_some, if_neg (by decide)]
        rw [if_neg (show ¬ p2 = (0 : Int32) from out_ne ho (k := 0) (by decide) (by decide)), if_neg (show ¬ p2 = (1 : Int32) from out_ne ho (k := 1) (by decide) (by decide)), if_neg (show ¬ p2 = (2 : Int32) from out_ne ho (k := 2) (by decide) (by decide)), if_neg (show ¬ p2 = (3 : Int32) from out_ne ho (k := 3) (by decide) (by decide)), if_neg (show ¬ p2 = (4 : Int32) from out_ne ho (k := 4) (by decide) (by decide)), if_neg (show ¬ p2 = (5 : Int32) from out_ne ho (k := 5) (by decide) (by decide))]
      · unfold hX11_person
        rw [r_isP1 iR.sn.1.1 g hp, cl_some, if_neg (by decide), x_in0 (b := 5) (q := 5) ho (by decide) rfl, cl_some, if_pos rfl]
    · obtain ⟨j, hj, rfl⟩ : ∃ j, j < 6 ∧ p2 = nI j := by
        rcases pk_ix p2 (n := 6) (by decide) with h | h | h
        · exact absurd (Or.inl h) ho
        · exact absurd (Or.inr h) ho
        · exact h
      have ec : ∀ u, InvC u x A → hX10_person N x (nI p) (nI j) u = (if j = 0 then some (nI (sG (aS A) (10 + 6 * p)), u) else if j = 1 then some (nI (sG (aS A) (10 + 6 * p + 1)), u) else if j = 2 then some (nI (b2n (mA (sM (aS A)) p)), u) else if j = 3 then some (nI (mS (sM (aS A)) p), u) else if j = 4 then some (nI (mD (sM (aS A)) p), u) else some (nI (b2n (wk (sG (aS A)) p (mH (sM (aS A))))), u)) := by
        intro u iC
        have hS := iC.sn.1
        have hM := iC.sn.2.1
        unfold hX10_person
        rw [c_isP1 hS g hp, cl_some, if_neg (by decide)]
        rcases (by omega : j = 0 ∨ j = 1 ∨ j = 2 ∨ j = 3 ∨ j = 4 ∨ j = 5) with rfl | rfl | rfl | rfl | rfl | rfl
        · rw [if_pos (by decide), ixI (by omega) (by decide), nI_clamp (by omega)]
          exact congrArg (fun z => some (z, u)) (hS.2.2.2.2.2.1 p hp).1
        · rw [if_neg (by decide), if_pos (by decide), ixI (by omega) (by decide), nI_clamp (by omega)]
          exact congrArg (fun z => some (z, u)) (hS.2.2.2.2.2.1 p hp).2
        · rw [if_neg (by decide), if_neg (by decide), if_pos (by decide), show zI u (x + 25) 2 = nI (slS (sG (aS A)) (sM (aS A))) from hM.2.2.1, x_bitOf (by omega) (by omega), cl_some, sl_tb hp]
          rfl
        · rw [if_neg (by decide), if_neg (by decide), if_neg (by decide), if_pos (by decide), ixI (by omega) (by decide), nI_clamp (by omega)]
          exact congrArg (fun z => some (z, u)) (hM.2.2.2.2.2.1 p hp).1
        · rw [if_neg (by decide), if_neg (by decide), if_neg (by decide), if_neg (by decide), if_pos (by decide), ixI (by omega) (by decide), nI_clamp (by omega)]
          exact congrArg (fun z => some (z, u)) (hM.2.2.2.2.2.1 p hp).2.1
        · have wl := p5 g1 (bset_lt (fun p => wk (sG (aS A)) p (mH (sM (aS A)))) (sG (aS A) 1))
          rw [if_neg (by decide), if_neg (by decide), if_neg (by decide), if_neg (by decide), if_neg (by decide), if_pos (by decide), c_workersNow iC.sn g hb, cl_some, x_bitOf (by omega) (by omega), cl_some, bset_tb]
          simp [hp]
      have er : ∀ m u, InvR u m A → hX11_person N m (nI p) (nI j) u = (if j = 0 then some (nI (sG (aS A) (10 + 6 * p)), u) else if j = 1 then some (nI (sG (aS A) (10 + 6 * p + 1)), u) else if j = 2 then some (nI (b2n (mA (sM (aS A)) p)), u) else if j = 3 then some (nI (mS (sM (aS A)) p), u) else if j = 4 then some (nI (mD (sM (aS A)) p), u) else some (nI (b2n (wk (sG (aS A)) p (mH (sM (aS A))))), u)) := by
        intro m u iR
        have hR := iR.sn.1.1
        have hR2 := iR.sn.1.2.1
        obtain ⟨e0, e1, e2, e3, e4, e5⟩ := hR.2.2.2.2.1 p hp
        unfold hX11_person
        rw [r_isP1 hR g hp, cl_some, if_neg (by decide), x_in1 (b := 5) (q := 5) (by omega) (by decide) rfl, cl_some, if_neg (by decide), lit_5, ifle (by decide) (by omega)]
        rcases (by omega : j = 0 ∨ j = 1 ∨ j = 2 ∨ j = 3 ∨ j = 4 ∨ j = 5) with rfl | rfl | rfl | rfl | rfl | rfl
        · rw [if_neg (by decide), r_personOf (by omega) (by decide), cl_some]
          exact congrArg (fun z => some (z, u)) e0
        · rw [if_neg (by decide), r_personOf (by omega) (by decide), cl_some]
          exact congrArg (fun z => some (z, u)) e1
        · rw [if_neg (by decide), r_personOf (by omega) (by decide), cl_some]
          exact congrArg (fun z => some (z, u)) e2
        · rw [if_neg (by decide), r_personOf (by omega) (by decide), cl_some]
          exact congrArg (fun z => some (z, u)) e3
        · rw [if_neg (by decide), r_personOf (by omega) (by decide), cl_some]
          exact congrArg (fun z => some (z, u)) e4
        · rw [if_pos (by decide), hR.2.1, r_worksIn hR hR2 g (by omega) (by omega) hN, cl_some]
          cases wk (sG (aS A)) p (mH (sM (aS A))) <;> rfl
      rcases (by omega : j = 0 ∨ j = 1 ∨ j = 2 ∨ j = 3 ∨ j = 4 ∨ j = 5) with rfl | rfl | rfl | rfl | rfl | rfl <;> exact ⟨_, ec, er⟩
theorem op_lamp (p1 p2 : Int32) (hN : 2000 ≤ N) : OpOK (fun x u => fX10_lamp N x p1 p2 u) (fun m u => fX11_lamp N m p1 p2 u) := by
  refine op_pure (fun x u h => eX10_lamp N x p1 p2 u h) (fun m u h => eX11_lamp N m p1 p2 u h) (fun c x A hc hA => ?_)
  obtain ⟨g, hb, -⟩ := hA.2.2.2.2.1
  have g1 := g.2.2.2.1
  have h9 := hb.h9 g
  have b5 := p5 g1 (buS_lt (sG (aS A)) (sM (aS A)) (mH (sM (aS A))))
  rcases pk_ix p1 (n := sG (aS A) 3) (by omega) with h | h | ⟨p, hp, rfl⟩
  · exact ⟨-1, fun u iC => by unfold hX10_lamp; rw [c_isL0 iC.sn.1 g (Or.inl h), cl_some, if_pos rfl], fun m u iR => by unfold hX11_lamp; rw [r_isL0 iR.sn.1.1 g (Or.inl h), cl_some, if_pos rfl]⟩
  · exact ⟨-1, fun u iC => by unfold hX10_lamp; rw [c_isL0 iC.sn.1 g (Or.inr h), cl_some, if_pos rfl], fun m u iR => by unfold hX11_lamp; rw [r_isL0 iR.sn.1.1 g (Or.inr h), cl_some, if_pos rfl]⟩
  · by_cases ho : p2 < 0 ∨ nI 3 ≤ p2
    · refine ⟨-1, fun u iC => ?_, fun m u iR => ?_⟩
      · unfold hX10_lamp
        rw [c_isL1 iC.sn.1 g hp, cl_some, if_neg (by decide)]
        rw [if_neg (show ¬ p2 = (0 : Int32) from out_ne ho (k := 0) (by decide) (by decide)), if_neg (show ¬ p2 = (1 : Int32) from out_ne ho (k := 1) (by decide) (by decide)), if_neg (show ¬ p2 = (2 : Int32) from out_ne ho (k := 2) (by decide) (by decide))]
      · unfold hX11_lamp
        rw [r_isL1 iR.sn.1.1 g hp, cl_some, if_neg (by decide), x_in0 (b := 2) (q := 2) ho (by decide) rfl, cl_some, if_pos rfl]
    · obtain ⟨j, hj, rfl⟩ : ∃ j, j < 3 ∧ p2 = nI j := by
        rcases pk_ix p2 (n := 3) (by decide) with h | h | h
        · exact absurd (Or.inl h) ho
        · exact absurd (Or.inr h) ho
        · exact h
      have ec : ∀ u, InvC u x A → hX10_lamp N x (nI p) (nI j) u = (if j = 0 then some (nI (sG (aS A) (69 + 2 * p)), u) else if j = 1 then some (nI (sG (aS A) (70 + 2 * p)), u) else some (nI (b2n (bu (sG (aS A)) (sM (aS A)) p (mH (sM (aS A))))), u)) := by
        intro u iC
        have hS := iC.sn.1
        unfold hX10_lamp
        rw [c_isL1 hS g hp, cl_some, if_neg (by decide)]
        rcases (by omega : j = 0 ∨ j = 1 ∨ j = 2) with rfl | rfl | rfl
        · rw [if_pos (by decide), ixI (by omega) (by decide), nI_clamp (by omega)]
          exact congrArg (fun z => some (z, u)) (hS.2.2.2.2.2.2.1 p hp).1
        · rw [if_neg (by decide), if_pos (by decide), ixI (by omega) (by decide), nI_clamp (by omega)]
          exact congrArg (fun z => some (z, u)) (hS.2.2.2.2.2.2.1 p hp).2
        · rw [if_neg (by decide), if_neg (by decide), if_pos (by decide), c_burningNow iC.sn g hb, cl_some, x_bitOf (by omega) (by omega), cl_some]
          unfold buS
          rw [bset_tb]
          simp [hp]
      have er : ∀ m u, InvR u m A → hX11_lamp N m (nI p) (nI j) u = (if j = 0 then some (nI (sG (aS A) (69 + 2 * p)), u) else if j = 1 then some (nI (sG (aS A) (70 + 2 * p)), u) else some (nI (b2n (bu (sG (aS A)) (sM (aS A)) p (mH (sM (aS A))))), u)) := by
        intro m u iR
        have hR := iR.sn.1.1
        have hR2 := iR.sn.1.2.1
        unfold hX11_lamp
        rw [r_isL1 hR g hp, cl_some, if_neg (by decide), x_in1 (b := 2) (q := 2) (by omega) (by decide) rfl, cl_some, if_neg (by decide)]
        rcases (by omega : j = 0 ∨ j = 1 ∨ j = 2) with rfl | rfl | rfl
        · rw [if_neg (by decide)]
          simp only [lit_69, lit_2, pk_mul, nI_add]
          rw [ixI (by omega) (by decide), nI_clamp (by omega), hR2 _ (by omega) (by omega)]
          rfl
        · rw [if_neg (by decide)]
          simp only [lit_69, lit_2, pk_mul, nI_add]
          rw [ixI (by omega) (by decide), nI_clamp (by omega), hR2 _ (by omega) (by omega), show 69 + 2 * p + 1 = 70 + 2 * p by omega]
          rfl
        · rw [if_pos (by decide), hR.2.1, r_burnsIn hR hR2 g hb.2.2.2.2 (by omega) (by omega) hN, cl_some]
          cases bu (sG (aS A)) (sM (aS A)) p (mH (sM (aS A))) <;> rfl
      rcases (by omega : j = 0 ∨ j = 1 ∨ j = 2) with rfl | rfl | rfl <;> exact ⟨_, ec, er⟩
theorem op_count (p1 : Int32) (hN : 2000 ≤ N) : OpOK (fun x u => fX10_count N x p1 u) (fun m u => fX11_count N m p1 u) := by
  refine op_pure (fun x u h => eX10_count N x p1 u h) (fun m u h => eX11_count N m p1 u h) (fun c x A hc hA => ?_)
  obtain ⟨g, hb, -⟩ := hA.2.2.2.2.1
  have h9 := hb.h9 g
  by_cases ho : p1 < 0 ∨ nI 16 ≤ p1
  · refine ⟨-1, fun u iC => ?_, fun m u iR => ?_⟩
    · unfold hX10_count
      rw [if_neg (show ¬ p1 = (0 : Int32) from out_ne ho (k := 0) (by decide) (by decide)), if_neg (show ¬ p1 = (1 : Int32) from out_ne ho (k := 1) (by decide) (by decide)), if_neg (show ¬ p1 = (2 : Int32) from out_ne ho (k := 2) (by decide) (by decide)), if_neg (show ¬ p1 = (3 : Int32) from out_ne ho (k := 3) (by decide) (by decide)), if_neg (show ¬ p1 = (4 : Int32) from out_ne ho (k := 4) (by decide) (by decide)), if_neg (show ¬ p1 = (5 : Int32) from out_ne ho (k := 5) (by decide) (by decide)), if_neg (show ¬ p1 = (6 : Int32) from out_ne ho (k := 6) (by decide) (by decide)), if_neg (show ¬ p1 = (7 : Int32) from out_ne ho (k := 7) (by decide) (by decide)), if_neg (show ¬ p1 = (8 : Int32) from out_ne ho (k := 8) (by decide) (by decide)), if_neg (show ¬ p1 = (9 : Int32) from out_ne ho (k := 9) (by decide) (by decide)), if_neg (show ¬ p1 = (10 : Int32) from out_ne ho (k := 10) (by decide) (by decide)), if_neg (show ¬ p1 = (11 : Int32) from out_ne ho (k := 11) (by decide) (by decide)), if_neg (show ¬ p1 = (12 : Int32) from out_ne ho (k := 12) (by decide) (by decide)), if_neg (show ¬ p1 = (13 : Int32) from out_ne ho (k := 13) (by decide) (by decide)), if_neg (show ¬ p1 = (14 : Int32) from out_ne ho (k := 14) (by decide) (by decide)), if_neg (show ¬ p1 = (15 : Int32) from out_ne ho (k := 15) (by decide) (by decide))]
    · unfold hX11_count
      rw [if_neg (show ¬ p1 = (0 : Int32) from out_ne ho (k := 0) (by decide) (by decide)), if_neg (show ¬ p1 = (1 : Int32) from out_ne ho (k := 1) (by decide) (by decide)), if_neg (show ¬ p1 = (2 : Int32) from out_ne ho (k := 2) (by decide) (by decide)), if_neg (show ¬ p1 = (3 : Int32) from out_ne ho (k := 3) (by decide) (by decide)), if_neg (show ¬ p1 = (4 : Int32) from out_ne ho (k := 4) (by decide) (by decide)), if_neg (show ¬ p1 = (5 : Int32) from out_ne ho (k := 5) (by decide) (by decide)), if_neg (show ¬ p1 = (6 : Int32) from out_ne ho (k := 6) (by decide) (by decide)), if_neg (show ¬ p1 = (7 : Int32) from out_ne ho (k := 7) (by decide) (by decide)), if_neg (show ¬ p1 = (8 : Int32) from out_ne ho (k := 8) (by decide) (by decide)), if_neg (show ¬ p1 = (9 : Int32) from out_ne ho (k := 9) (by decide) (by decide)), if_neg (show ¬ p1 = (10 : Int32) from out_ne ho (k := 10) (by decide) (by decide)), if_neg (show ¬ p1 = (11 : Int32) from out_ne ho (k := 11) (by decide) (by decide)), if_neg (show ¬ p1 = (12 : Int32) from out_ne ho (k := 12) (by decide) (by decide)), if_neg (show ¬ p1 = (13 : Int32) from out_ne ho (k := 13) (by decide) (by decide)), if_neg (show ¬ p1 = (14 : Int32) from out_ne ho (k := 14) (by decide) (by decide)), if_neg (show ¬ p1 = (15 : Int32) from out_ne ho (k := 15) (by decide) (by decide))]
  · obtain ⟨j, hj, rfl⟩ : ∃ j, j < 16 ∧ p1 = nI j := by
      rcases pk_ix p1 (n := 16) (by decide) with h | h | h
      · exact absurd (Or.inl h) ho
      · exact absurd (Or.inr h) ho
      · exact h
    rcases (by omega : j = 0 ∨ j = 1 ∨ j = 2 ∨ j = 3 ∨ j = 4 ∨ j = 5 ∨ j = 6 ∨ j = 7 ∨ j = 8 ∨ j = 9 ∨ j = 10 ∨ j = 11 ∨ j = 12 ∨ j = 13 ∨ j = 14 ∨ j = 15) with rfl | rfl | rfl | rfl | rfl | rfl | rfl | rfl | rfl | rfl | rfl | rfl | rfl | rfl | rfl | rfl
    · refine ⟨nI (sG (aS A) 0), fun u iC => ?_, fun m u iR => ?_⟩
      · unfold hX10_count
        rw [if_pos (by decide)]
        exact congrArg (fun z => some (z, u)) (iC.sn.1.1)
      · unfold hX11_count
        rw [if_pos (by decide)]
        rw [ixI (by decide) (by decide), nI_clamp (by decide)]
        exact congrArg (fun z => some (z, u)) (iR.sn.1.1.1 0 (by decide))
    · refine ⟨nI (sG (aS A) 1), fun u iC => ?_, fun m u iR => ?_⟩
      · unfold hX10_count
        rw [if_neg (by decide), if_pos (by decide)]
        exact congrArg (fun z => some (z, u)) (iC.sn.1.2.1)
      · unfold hX11_count
        rw [if_neg (by decide), if_pos (by decide)]
        rw [ixI (by decide) (by decide), nI_clamp (by decide)]
        exact congrArg (fun z => some (z, u)) (iR.sn.1.1.1 1 (by decide))
    · refine ⟨nI (sG (aS A) 2), fun u iC => ?_, fun m u iR => ?_⟩
      · unfold hX10_count
        rw [if_neg (by decide), if_neg (by decide), if_pos (by decide)]
        exact congrArg (fun z => some (z, u)) (iC.sn.1.2.2.1)
      · unfold hX11_count
        rw [if_neg (by decide), if_neg (by decide), if_pos (by decide)]
        rw [ixI (by decide) (by decide), nI_clamp (by decide)]
        exact congrArg (fun z => some (z, u)) (iR.sn.1.1.1 2 (by decide))
    · refine ⟨nI (sG (aS A) 3), fun u iC => ?_, fun m u iR => ?_⟩
      · unfold hX10_count
        rw [if_neg (by decide), if_neg (by decide), if_neg (by decide), if_pos (by decide)]
        exact congrArg (fun z => some (z, u)) (iC.sn.1.2.2.2.1)
      · unfold hX11_count
        rw [if_neg (by decide), if_neg (by decide), if_neg (by decide), if_pos (by decide)]
        rw [ixI (by decide) (by decide), nI_clamp (by decide)]
        exact congrArg (fun z => some (z, u)) (iR.sn.1.1.1 3 (by decide))
    · refine ⟨nI (sG (aS A) 4), fun u iC => ?_, fun m u iR => ?_⟩
      · unfold hX10_count
        rw [if_neg (by decide), if_neg (by decide), if_neg (by decide), if_neg (by decide), if_pos (by decide)]
        exact congrArg (fun z => some (z, u)) (iC.sn.1.2.2.2.2.1)
      · unfold hX11_count
        rw [if_neg (by decide), if_neg (by decide), if_neg (by decide), if_neg (by decide), if_pos (by decide)]
        rw [ixI (by decide) (by decide), nI_clamp (by decide)]
        exact congrArg (fun z => some (z, u)) (iR.sn.1.1.1 4 (by decide))
    · refine ⟨nI (aR A).length, fun u iC => ?_, fun m u iR => ?_⟩
      · unfold hX10_count
        rw [if_neg (by decide), if_neg (by decide), if_neg (by decide), if_neg (by decide), if_neg (by decide), if_pos (by decide)]
        exact congrArg (fun z => some (z, u)) (iC.rl.1)
      · unfold hX11_count
        rw [if_neg (by decide), if_neg (by decide), if_neg (by decide), if_neg (by decide), if_neg (by decide), if_pos (by decide)]
        exact congrArg (fun z => some (z, u)) (iR.rl.1)
    · refine ⟨foI (sf (aS A)), fun u iC => ?_, fun m u iR => ?_⟩
      · unfold hX10_count
        rw [if_neg (by decide), if_neg (by decide), if_neg (by decide), if_neg (by decide), if_neg (by decide), if_neg (by decide), if_pos (by decide)]
        exact congrArg (fun z => some (z, u)) (iC.sn.2.2.2.2.1)
      · unfold hX11_count
        rw [if_neg (by decide), if_neg (by decide), if_neg (by decide), if_neg (by decide), if_neg (by decide), if_neg (by decide), if_pos (by decide)]
        exact congrArg (fun z => some (z, u)) (iR.sn.2.1)
    · refine ⟨nI (mH (sM (aS A))), fun u iC => ?_, fun m u iR => ?_⟩
      · unfold hX10_count
        rw [if_neg (by decide), if_neg (by decide), if_neg (by decide), if_neg (by decide), if_neg (by decide), if_neg (by decide), if_neg (by decide), if_pos (by decide)]
        exact congrArg (fun z => some (z, u)) (iC.sn.2.1.1)
      · unfold hX11_count
        rw [if_neg (by decide), if_neg (by decide), if_neg (by decide), if_neg (by decide), if_neg (by decide), if_neg (by decide), if_neg (by decide), if_pos (by decide)]
        exact congrArg (fun z => some (z, u)) (iR.sn.1.1.2.1)
    · refine ⟨nI (mN (sM (aS A))), fun u iC => ?_, fun m u iR => ?_⟩
      · unfold hX10_count
        rw [if_neg (by decide), if_neg (by decide), if_neg (by decide), if_neg (by decide), if_neg (by decide), if_neg (by decide), if_neg (by decide), if_neg (by decide), if_pos (by decide)]
        exact congrArg (fun z => some (z, u)) (iC.sn.2.1.2.1)
      · unfold hX11_count
        rw [if_neg (by decide), if_neg (by decide), if_neg (by decide), if_neg (by decide), if_neg (by decide), if_neg (by decide), if_neg (by decide), if_neg (by decide), if_pos (by decide)]
        exact congrArg (fun z => some (z, u)) (iR.sn.1.1.2.2.1)
    · refine ⟨nI (slS (sG (aS A)) (sM (aS A))), fun u iC => ?_, fun m u iR => ?_⟩
      · unfold hX10_count
        rw [if_neg (by decide), if_neg (by decide), if_neg (by decide), if_neg (by decide), if_neg (by decide), if_neg (by decide), if_neg (by decide), if_neg (by decide), if_neg (by decide), if_pos (by decide)]
        exact congrArg (fun z => some (z, u)) (iC.sn.2.1.2.2.1)
      · unfold hX11_count
        rw [if_neg (by decide), if_neg (by decide), if_neg (by decide), if_neg (by decide), if_neg (by decide), if_neg (by decide), if_neg (by decide), if_neg (by decide), if_neg (by decide), if_pos (by decide)]
        rw [r_sleepers iR.sn.1.1 g hN, cl_some]
    · refine ⟨nI (buS (sG (aS A)) (sM (aS A)) (mH (sM (aS A)))), fun u iC => ?_, fun m u iR => ?_⟩
      · unfold hX10_count
        rw [if_neg (by decide), if_neg (by decide), if_neg (by decide), if_neg (by decide), if_neg (by decide), if_neg (by decide), if_neg (by decide), if_neg (by decide), if_neg (by decide), if_neg (by decide), if_pos (by decide)]
        rw [c_burningNow iC.sn g hb, cl_some]
      · unfold hX11_count
        rw [if_neg (by decide), if_neg (by decide), if_neg (by decide), if_neg (by decide), if_neg (by decide), if_neg (by decide), if_neg (by decide), if_neg (by decide), if_neg (by decide), if_neg (by decide), if_pos (by decide)]
        rw [r_burning iR.sn.1.1 iR.sn.1.2.1 g hb.2.2.2.2 (by omega) hN, cl_some]
    · refine ⟨nI (coI (sG (aS A)) (sM (aS A)) (mH (sM (aS A)))), fun u iC => ?_, fun m u iR => ?_⟩
      · unfold hX10_count
        rw [if_neg (by decide), if_neg (by decide), if_neg (by decide), if_neg (by decide), if_neg (by decide), if_neg (by decide), if_neg (by decide), if_neg (by decide), if_neg (by decide), if_neg (by decide), if_neg (by decide), if_pos (by decide)]
        rw [c_burningNow iC.sn g hb, cl_some, c_costBu iC.sn.1 g _ hN, cl_some]
      · unfold hX11_count
        rw [if_neg (by decide), if_neg (by decide), if_neg (by decide), if_neg (by decide), if_neg (by decide), if_neg (by decide), if_neg (by decide), if_neg (by decide), if_neg (by decide), if_neg (by decide), if_neg (by decide), if_pos (by decide)]
        rw [iR.sn.1.1.2.1, r_costIn iR.sn.1.1 iR.sn.1.2.1 g hb.2.2.2.2 (by omega) hN, cl_some]
    · refine ⟨nI (sn (aS A)), fun u iC => ?_, fun m u iR => ?_⟩
      · unfold hX10_count
        rw [if_neg (by decide), if_neg (by decide), if_neg (by decide), if_neg (by decide), if_neg (by decide), if_neg (by decide), if_neg (by decide), if_neg (by decide), if_neg (by decide), if_neg (by decide), if_neg (by decide), if_neg (by decide), if_pos (by decide)]
        exact congrArg (fun z => some (z, u)) (iC.sn.2.2.1)
      · unfold hX11_count
        rw [if_neg (by decide), if_neg (by decide), if_neg (by decide), if_neg (by decide), if_neg (by decide), if_neg (by decide), if_neg (by decide), if_neg (by decide), if_neg (by decide), if_neg (by decide), if_neg (by decide), if_neg (by decide), if_pos (by decide)]
        exact congrArg (fun z => some (z, u)) (iR.sn.1.2.2.1)
    · refine ⟨nI (aV A).length, fun u iC => ?_, fun m u iR => ?_⟩
      · unfold hX10_count
        rw [if_neg (by decide), if_neg (by decide), if_neg (by decide), if_neg (by decide), if_neg (by decide), if_neg (by decide), if_neg (by decide), if_neg (by decide), if_neg (by decide), if_neg (by decide), if_neg (by decide), if_neg (by decide), if_neg (by decide), if_pos (by decide)]
        exact congrArg (fun z => some (z, u)) (iC.ac.1)
      · unfold hX11_count
        rw [if_neg (by decide), if_neg (by decide), if_neg (by decide), if_neg (by decide), if_neg (by decide), if_neg (by decide), if_neg (by decide), if_neg (by decide), if_neg (by decide), if_neg (by decide), if_neg (by decide), if_neg (by decide), if_neg (by decide), if_pos (by decide)]
        exact congrArg (fun z => some (z, u)) (iR.ac.1)
    · refine ⟨sx (aS A), fun u iC => ?_, fun m u iR => ?_⟩
      · unfold hX10_count
        rw [if_neg (by decide), if_neg (by decide), if_neg (by decide), if_neg (by decide), if_neg (by decide), if_neg (by decide), if_neg (by decide), if_neg (by decide), if_neg (by decide), if_neg (by decide), if_neg (by decide), if_neg (by decide), if_neg (by decide), if_neg (by decide), if_pos (by decide)]
        exact congrArg (fun z => some (z, u)) (iC.sn.2.2.2.2.2)
      · unfold hX11_count
        rw [if_neg (by decide), if_neg (by decide), if_neg (by decide), if_neg (by decide), if_neg (by decide), if_neg (by decide), if_neg (by decide), if_neg (by decide), if_neg (by decide), if_neg (by decide), if_neg (by decide), if_neg (by decide), if_neg (by decide), if_neg (by decide), if_pos (by decide)]
        exact congrArg (fun z => some (z, u)) (iR.sn.2.2)
    · refine ⟨nI (aT A), fun u iC => ?_, fun m u iR => ?_⟩
      · unfold hX10_count
        rw [if_neg (by decide), if_neg (by decide), if_neg (by decide), if_neg (by decide), if_neg (by decide), if_neg (by decide), if_neg (by decide), if_neg (by decide), if_neg (by decide), if_neg (by decide), if_neg (by decide), if_neg (by decide), if_neg (by decide), if_neg (by decide), if_neg (by decide), if_pos (by decide)]
        exact congrArg (fun z => some (z, u)) (iC.tp.1)
      · unfold hX11_count
        rw [if_neg (by decide), if_neg (by decide), if_neg (by decide), if_neg (by decide), if_neg (by decide), if_neg (by decide), if_neg (by decide), if_neg (by decide), if_neg (by decide), if_neg (by decide), if_neg (by decide), if_neg (by decide), if_neg (by decide), if_neg (by decide), if_neg (by decide), if_pos (by decide)]
        exact congrArg (fun z => some (z, u)) (iR.tp.1)
end OPS1
