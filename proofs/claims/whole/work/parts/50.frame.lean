/-! FRAMES: what a function over the small state leaves alone -/
def Fr (P : Nat → Prop) (u u1 : SG) : Prop := u1.1 = u.1 ∧ u1.2.1 = u.2.1 ∧ u1.2.2.1 = u.2.2.1 ∧ u1.2.2.2.2.2 = u.2.2.2.2.2 ∧ ∀ a, ¬ P a → zI u1 a = zI u a ∧ zL u1 a = zL u a
def Cl (P : Nat → Prop) (u : SG) : Prop := ∀ a k b, P a → zR u a k = some b → P b
theorem Fr.rf {P : Nat → Prop} {u : SG} : Fr P u u := ⟨rfl, rfl, rfl, rfl, fun _ _ => ⟨rfl, rfl⟩⟩
theorem Fr.tr {P : Nat → Prop} {u v w : SG} (h : Fr P u v) (g : Fr P v w) : Fr P u w := by
  obtain ⟨h1, h2, h3, h4, h5⟩ := h
  obtain ⟨g1, g2, g3, g4, g5⟩ := g
  exact ⟨g1.trans h1, g2.trans h2, g3.trans h3, g4.trans h4, fun a ha => ⟨(g5 a ha).1.trans (h5 a ha).1, (g5 a ha).2.trans (h5 a ha).2⟩⟩
theorem Fr.R {P : Nat → Prop} {u v : SG} (h : Fr P u v) (a k : Nat) : zR v a k = zR u a k := by unfold zR; rw [h.2.2.2.1]
theorem Fr.K {P : Nat → Prop} {u v : SG} (h : Fr P u v) (a : Nat) : zK v a = zK u a := by unfold zK; rw [h.2.1]
theorem Fr.N {P : Nat → Prop} {u v : SG} (h : Fr P u v) (a : Nat) : zN v a = zN u a := by unfold zN; rw [h.2.2.1]
theorem Fr.I {P : Nat → Prop} {u v : SG} (h : Fr P u v) {a : Nat} (ha : ¬ P a) (k : Nat) : zI v a k = zI u a k := by rw [(h.2.2.2.2 a ha).1]
theorem Fr.L {P : Nat → Prop} {u v : SG} (h : Fr P u v) {a : Nat} (ha : ¬ P a) (k : Nat) : zL v a k = zL u a k := by rw [(h.2.2.2.2 a ha).2]
theorem Fr.w {P Q : Nat → Prop} {u v : SG} (h : Fr P u v) (hq : ∀ a, P a → Q a) : Fr Q u v := ⟨h.1, h.2.1, h.2.2.1, h.2.2.2.1, fun a ha => h.2.2.2.2 a (fun z => ha (hq a z))⟩
theorem Cl.tr {P : Nat → Prop} {u v : SG} (h : Cl P u) (g : Fr P u v) : Cl P v := fun a k b ha hb => h a k b ha (by rw [← g.R a k]; exact hb)
theorem Fr.sIr {P : Nat → Prop} {u : SG} {a : Nat} {f : Nat → Int32} (ha : P a) : Fr P u (sIr u a f) := ⟨rfl, rfl, rfl, rfl, fun b hb => ⟨by funext k; rw [sIr_I, if_neg (fun z : b = a => hb (by rw [z]; exact ha))], rfl⟩⟩
theorem Fr.sLr {P : Nat → Prop} {u : SG} {a : Nat} {f : Nat → Int64} (ha : P a) : Fr P u (sLr u a f) := ⟨rfl, rfl, rfl, rfl, fun b hb => ⟨rfl, by funext k; rw [sLr_L, if_neg (fun z : b = a => hb (by rw [z]; exact ha))]⟩⟩
def FQ (P : Nat → Prop) (u0 : SG) {ρ : Type} (G : ρ → Prop) (fx : Option (ρ × SG)) : Prop := ∀ r u1, fx = some (r, u1) → Fr P u0 u1 ∧ G r
section FQS
variable {P : Nat → Prop} {u0 u : SG} {ρ α : Type} {G : ρ → Prop} {fx fy : Option (ρ × SG)}
theorem fq_none : FQ P u0 G (none : Option (ρ × SG)) := fun _ _ h => by cases h
theorem fq_ret {r : ρ} (h : Fr P u0 u) (g : G r) : FQ P u0 G (some (r, u)) := fun _ _ e => by cases e; exact ⟨h, g⟩
theorem fq_if {c : Prop} [Decidable c] (h1 : FQ P u0 G fx) (h2 : FQ P u0 G fy) : FQ P u0 G (if c then fx else fy) := by
  intro r u1 e
  split at e
  · exact h1 r u1 e
  · exact h2 r u1 e
theorem fq_bs {x : α} {k : α → Option (ρ × SG)} (h : ∀ x, FQ P u0 G (k x)) : FQ P u0 G (bs x k) := h x
theorem fq_bR {a j : Nat} {k : Nat → Option (ρ × SG)} (hu : Fr P u0 u) (hP : Cl P u0) (ha : P a) (h : ∀ q, P q → FQ P u0 G (k q)) : FQ P u0 G (Option.bind (zR u a j) k) := by
  intro r u1 e
  cases hq : zR u a j with
  | none => rw [hq] at e; cases e
  | some q => rw [hq] at e; exact h q (hP a j q ha (by rw [← hu.R a j]; exact hq)) r u1 e
theorem fq_bQ {x : Option Nat} {k : Nat → Option (ρ × SG)} (hx : ∀ q, x = some q → P q) (h : ∀ q, P q → FQ P u0 G (k q)) : FQ P u0 G (Option.bind x k) := by
  intro r u1 e
  cases hq : x with
  | none => rw [hq] at e; cases e
  | some q => rw [hq] at e; exact h q (hx q hq) r u1 e
theorem fq_so {a : Nat} (h : P a) : ∀ q, some a = some q → P q := fun q e => by cases e; exact h
theorem fq_nn : ∀ q, (none : Option Nat) = some q → P q := fun q e => by cases e
theorem fq_sI {a k : Nat} {v : Int32} {kf : SG → Option (ρ × SG)} (hu : Fr P u0 u) (ha : P a) (h : ∀ u2, Fr P u0 u2 → FQ P u0 G (kf u2)) : FQ P u0 G (bs (sI u a k v) kf) := h _ (hu.tr (Fr.sIr ha))
theorem fq_sL {a k : Nat} {v : Int64} {kf : SG → Option (ρ × SG)} (hu : Fr P u0 u) (ha : P a) (h : ∀ u2, Fr P u0 u2 → FQ P u0 G (kf u2)) : FQ P u0 G (bs (sL u a k v) kf) := h _ (hu.tr (Fr.sLr ha))
theorem fq_sIr {a : Nat} {f : Nat → Int32} {kf : SG → Option (ρ × SG)} (hu : Fr P u0 u) (ha : P a) (h : ∀ u2, Fr P u0 u2 → FQ P u0 G (kf u2)) : FQ P u0 G (bs (sIr u a f) kf) := h _ (hu.tr (Fr.sIr ha))
theorem fq_sLr {a : Nat} {f : Nat → Int64} {kf : SG → Option (ρ × SG)} (hu : Fr P u0 u) (ha : P a) (h : ∀ u2, Fr P u0 u2 → FQ P u0 G (kf u2)) : FQ P u0 G (bs (sLr u a f) kf) := h _ (hu.tr (Fr.sLr ha))
theorem fq_cl {g : Option (α × SG)} {G2 : α → Prop} {kf : α → SG → Option (ρ × SG)} (hu : Fr P u0 u) (hg : FQ P u G2 g) (h : ∀ r u2, Fr P u0 u2 → G2 r → FQ P u0 G (kf r u2)) : FQ P u0 G (cl g kf) := by
  intro r u1 e
  cases hq : g with
  | none => rw [hq] at e; exact absurd (show (none : Option (ρ × SG)) = some (r, u1) from e) (by simp)
  | some o =>
    obtain ⟨r2, u2⟩ := o
    rw [hq] at e
    obtain ⟨h1, h2⟩ := hg r2 u2 hq
    exact h r2 u2 (hu.tr h1) h2 r u1 e
theorem fq_tr (hu : Fr P u0 u) (h : FQ P u G fx) : FQ P u0 G fx := fun r u1 e => ⟨hu.tr (h r u1 e).1, (h r u1 e).2⟩
theorem fq_retR {a j : Nat} (hu : Fr P u0 u) (hP : Cl P u0) (ha : P a) : FQ P u0 (fun r : Option Nat => ∀ q, r = some q → P q) (some (zR u a j, u)) := fun _ _ e => by
  cases e
  exact ⟨hu, fun q hq => hP a j q ha (by rw [← hu.R a j]; exact hq)⟩
end FQS
theorem fr_J0_length_8abf5 {P : Nat → Prop} (N : Nat) (u : SG) : FQ P u (fun _ => True) (fJ0_length_8abf5 N u) := fq_ret Fr.rf trivial
theorem fr_J0_charAt_5068e {P : Nat → Prop} (N : Nat) (i : Int32) (u : SG) : FQ P u (fun _ => True) (fJ0_charAt_5068e N i u) := by
  unfold fJ0_charAt_5068e fJ1_charAt_3b067 fJ0_checkIndex_df160 fJ3_checkIndex_8e157
  exact fq_cl (G2 := fun _ => True) Fr.rf (fq_cl (G2 := fun _ => True) Fr.rf (fq_cl (G2 := fun _ => True) Fr.rf (fq_if fq_none (fq_if (fq_ret Fr.rf trivial) fq_none)) (fun r u2 h2 _ => fq_ret h2 trivial)) (fun r u2 h2 _ => fq_if fq_none (fq_if (fq_ret h2 trivial) fq_none))) (fun r u2 h2 _ => fq_if (fq_ret h2 trivial) fq_none)
