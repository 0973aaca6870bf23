/-! THE WHOLE STATE: what is meant, how each side holds it -/
abbrev SCT : Type := (Nat → Nat) × MT × (Nat → Int32) × Nat × Option Nat × Int32
def sG (S : SCT) : Nat → Nat := S.1
def sM (S : SCT) : MT := S.2.1
def sF (S : SCT) : Nat → Int32 := S.2.2.1
def sn (S : SCT) : Nat := S.2.2.2.1
def sf (S : SCT) : Option Nat := S.2.2.2.2.1
def sx (S : SCT) : Int32 := S.2.2.2.2.2
abbrev AT : Type := Nat × (Nat → Nat) × List RT × SCT × List MT × (Nat → Option SCT)
def aT (A : AT) : Nat := A.1
def aB (A : AT) : Nat → Nat := A.2.1
def aR (A : AT) : List RT := A.2.2.1
def aS (A : AT) : SCT := A.2.2.2.1
def aV (A : AT) : List MT := A.2.2.2.2.1
def aI (A : AT) : Nat → Option SCT := A.2.2.2.2.2
def foI (o : Option Nat) : Int32 := match o with
  | none => -1
  | some t => nI t
def byI (n : Nat) : Int32 := if n < 128 then nI n else nI n - 256
def b2i (b : Bool) : Int32 := nI (b2n b)
def fOK (F : Nat → Int32) (j : Nat) : Prop := ∃ w o : Nat, w ≤ 5 ∧ o ≤ 5 ∧ F (4 * j) = nI w ∧ F (4 * j + 1) = nI o ∧ (4 ≤ w → ∃ a b : Nat, a ≤ 300 ∧ b ≤ 300 ∧ F (4 * j + 2) = nI a ∧ F (4 * j + 3) = nI b)
def Sok (c n : Nat) (S : SCT) : Prop := Gb (sG S) ∧ Mb c (sG S) (sM S) ∧ sn S ≤ 10 ∧ (∀ j, j < sn S → fOK (sF S) j) ∧ (∀ t, sf S = some t → t < n) ∧ ∃ y : Nat, y < 2 ^ 31 ∧ sx S = nI y
def Aok (c : Nat) (A : AT) : Prop := aT A ≤ 400 ∧ (∀ k, aB A k < 256) ∧ (aR A).length ≤ 6 ∧ (∀ R ∈ aR A, rOK R) ∧ Sok c (aR A).length (aS A) ∧ (aV A).length ≤ 20 ∧ (∀ M ∈ aV A, Mb c (sG (aS A)) M) ∧ ∀ k S, k < 4 → aI A k = some S → Sok c (aR A).length S
/-- a scene in the reference: 144 cells -/
def RSc (f : Nat → Int32) (S : SCT) : Prop := RA f (sG S) (sM S) ∧ RB f (sG S) ∧ f 143 = nI (sn S) ∧ ∀ k, k < 4 * sn S → f (103 + k) = sF S k
def CSc (u : SG) (a : Nat) (S : SCT) : Prop := Str u (a + 1) (sG S) ∧ Mom u (a + 8) (sG S) (sM S) ∧ zI u (a + 12) 4 = nI (sn S) ∧ (∀ j, j < sn S → zI u (a + 13) j = sF S (4 * j) ∧ zI u (a + 14) j = sF S (4 * j + 1) ∧ zI u (a + 15) j = sF S (4 * j + 2) ∧ zI u (a + 16) j = sF S (4 * j + 3)) ∧ zI u a 3 = foI (sf S) ∧ zI u a 4 = sx S
def InvR (u : SG) (m : Nat) (A : AT) : Prop := (zI u m 1 = nI (aT A) ∧ ∀ k, k < aT A → zI u (m + 1) k = byI (aB A k)) ∧ (zI u m 2 = nI (aR A).length ∧ ∀ (t : Nat) (R : RT), (aR A)[t]? = some R → RRul u m t R) ∧ (RSc (zI u (m + 10)) (aS A) ∧ zI u m 21 = foI (sf (aS A)) ∧ zI u m 22 = sx (aS A)) ∧ (zI u m 25 = nI (aV A).length ∧ ∀ (j : Nat) (M : MT), (aV A)[j]? = some M → RA (fun k => zI u (m + 12) (45 * j + k)) (sG (aS A)) M) ∧ ∀ k, k < 4 → zI u (m + 19) k = b2i (aI A k).isSome ∧ ∀ S, aI A k = some S → RSc (fun j => zI u (m + 16) (144 * k + j)) S ∧ zI u (m + 17) k = foI (sf S) ∧ zI u (m + 18) k = sx S
def InvC (u : SG) (x : Nat) (A : AT) : Prop := (zI u (x + 1) 1 = nI (aT A) ∧ ∀ k, k < aT A → zI u (x + 2) k = byI (aB A k)) ∧ (zI u x 5 = nI (aR A).length ∧ ∀ (t : Nat) (R : RT), (aR A)[t]? = some R → ∃ q, zR u (x + 16) t = some q ∧ CRul u q R ∧ x + 212 < q) ∧ CSc u (x + 17) (aS A) ∧ (zI u (x + 35) 2 = nI (aV A).length ∧ ∃ nx : Nat, nx < 20 ∧ zI u (x + 35) 1 = nI nx ∧ ∀ (j : Nat) (M : MT), (aV A)[j]? = some M → Mom u (x + 35 + 2 + 4 * ((nx + 20 - (aV A).length + j) % 20)) (sG (aS A)) M) ∧ ∀ k, k < 4 → zI u (x + 125 + 17 * k) 5 = b2i (aI A k).isSome ∧ ∀ S, aI A k = some S → CSc u (x + 125 + 17 * k) S
/-- what each side may change -/
def Sr (m : Nat) : Nat → Nat → Prop := fun a _ => m ≤ a ∧ a ≤ m + 19
def Sc (x : Nat) : Nat → Nat → Prop := fun a _ => x ≤ a ∧ a ≤ x + 192
/-- what is not kept -/
def Rw (m : Nat) : Nat → Nat → Prop := fun a k => (a = m ∧ k ≠ 1 ∧ k ≠ 2 ∧ k ≠ 21 ∧ k ≠ 22 ∧ k ≠ 25) ∨ a = m + 3 ∨ a = m + 6 ∨ a = m + 7 ∨ a = m + 8 ∨ a = m + 9 ∨ a = m + 11 ∨ a = m + 13 ∨ a = m + 14 ∨ a = m + 15
def Cw (x : Nat) : Nat → Nat → Prop := fun a k => (a = x + 1 ∧ k ≠ 1) ∨ (x + 3 ≤ a ∧ a ≤ x + 15) ∨ (x + 117 ≤ a ∧ a ≤ x + 124)
section INVZ
variable {u v : SG} {m x : Nat} {A : AT} {P : Nat → Nat → Prop}
theorem RSc.congr {f f' : Nat → Int32} {S : SCT} (h : RSc f S) (e : ∀ k, k < 144 → f' k = f k) (hn : sn S ≤ 10) (g : Gb (sG S)) : RSc f' S := by
  have g1 := g.2.1
  obtain ⟨⟨k1, k2, k3, k4, k5, k6⟩, h2, h3, h4⟩ := h
  refine ⟨⟨fun k hk => by rw [e _ (by omega)]; exact k1 k hk, by rw [e _ (by omega)]; exact k2, by rw [e _ (by omega)]; exact k3, by rw [e _ (by omega)]; exact k4, fun q hq => ?_, fun l hl => by rw [e _ (by omega)]; exact k6 l hl⟩, fun k q1 q2 => by rw [e _ (by omega)]; exact h2 k q1 q2, by rw [e _ (by omega)]; exact h3, fun k hk => by rw [e _ (by omega)]; exact h4 k hk⟩
  obtain ⟨q1, q2, q3, q4, q5, q6⟩ := k5 q hq
  exact ⟨by rw [e _ (by omega)]; exact q1, by rw [e _ (by omega)]; exact q2, by rw [e _ (by omega)]; exact q3, by rw [e _ (by omega)]; exact q4, by rw [e _ (by omega)]; exact q5, by rw [e _ (by omega)]; exact q6⟩
theorem RA.cg {f f' : Nat → Int32} {G : Nat → Nat} {M : MT} (h : RA f G M) (e : ∀ k, k < 45 → f' k = f k) (g : Gb G) : RA f' G M := by
  have g1 := g.2.1
  obtain ⟨k1, k2, k3, k4, k5, k6⟩ := h
  refine ⟨fun k hk => by rw [e _ (by omega)]; exact k1 k hk, by rw [e _ (by omega)]; exact k2, by rw [e _ (by omega)]; exact k3, by rw [e _ (by omega)]; exact k4, fun q hq => ?_, fun l hl => by rw [e _ (by omega)]; exact k6 l hl⟩
  obtain ⟨q1, q2, q3, q4, q5, q6⟩ := k5 q hq
  exact ⟨by rw [e _ (by omega)]; exact q1, by rw [e _ (by omega)]; exact q2, by rw [e _ (by omega)]; exact q3, by rw [e _ (by omega)]; exact q4, by rw [e _ (by omega)]; exact q5, by rw [e _ (by omega)]; exact q6⟩
theorem CSc.z {a : Nat} {S : SCT} (h : CSc u a S) (f : Fz P u v) (hP : ∀ b k, a ≤ b → b ≤ a + 16 → ¬ P b k) : CSc v a S := by
  obtain ⟨h1, h2, h3, h4, h5, h6⟩ := h
  refine ⟨h1.z f (fun b k q1 q2 => hP b k (by omega) (by omega)), h2.z f (fun b k q1 q2 => hP b k (by omega) (by omega)), by rw [f.I (hP _ _ (by omega) (by omega))]; exact h3, fun j hj => ?_, by rw [f.I (hP _ _ (by omega) (by omega))]; exact h5, by rw [f.I (hP _ _ (by omega) (by omega))]; exact h6⟩
  rw [f.I (hP _ _ (by omega) (by omega)), f.I (hP _ _ (by omega) (by omega)), f.I (hP _ _ (by omega) (by omega)), f.I (hP _ _ (by omega) (by omega))]
  exact h4 j hj
theorem InvR.z (h : InvR u m A) (f : Fz P u v) (hP : ∀ a k, m ≤ a → a ≤ m + 19 → P a k → Rw m a k) : InvR v m A := by
  have z : ∀ a k, m ≤ a → a ≤ m + 19 → ¬ Rw m a k → zI v a k = zI u a k := fun a k q1 q2 q3 => f.I (fun q => q3 (hP a k q1 q2 q))
  have e10 : zI v (m + 10) = zI u (m + 10) := funext fun k => z _ _ (by omega) (by omega) (by unfold Rw; omega)
  obtain ⟨⟨h1, h2⟩, ⟨h3, h4⟩, ⟨h5, h6, h7⟩, ⟨h8, h9⟩, h10⟩ := h
  refine ⟨⟨by rw [z _ _ (by omega) (by omega) (by unfold Rw; omega)]; exact h1, fun k hk => by rw [z _ _ (by omega) (by omega) (by unfold Rw; omega)]; exact h2 k hk⟩, ⟨by rw [z _ _ (by omega) (by omega) (by unfold Rw; omega)]; exact h3, fun t R hR => ?_⟩, ⟨by rw [e10]; exact h5, by rw [z _ _ (by omega) (by omega) (by unfold Rw; omega)]; exact h6, by rw [z _ _ (by omega) (by omega) (by unfold Rw; omega)]; exact h7⟩, ⟨by rw [z _ _ (by omega) (by omega) (by unfold Rw; omega)]; exact h8, fun j M hM => ?_⟩, fun k hk => ?_⟩
  · have h4 := h4 t R hR
    refine ⟨by rw [z _ _ (by omega) (by omega) (by unfold Rw; omega)]; exact h4.1, fun i c hc => ?_⟩
    obtain ⟨p, g1, g2, g3, g4, g5, g6⟩ := h4.2 i c hc
    refine ⟨p, g1, by rw [z _ _ (by omega) (by omega) (by unfold Rw; omega)]; exact g2, by rw [z _ _ (by omega) (by omega) (by unfold Rw; omega)]; exact g3, fun j d hd => by rw [z _ _ (by omega) (by omega) (by unfold Rw; omega)]; exact g4 j d hd, fun hn => by rw [z _ _ (by omega) (by omega) (by unfold Rw; omega)]; exact g5 hn, fun cs hcs => ?_⟩
    obtain ⟨q, l1, l2, l3, l4⟩ := g6 cs hcs
    exact ⟨q, l1, by rw [z _ _ (by omega) (by omega) (by unfold Rw; omega)]; exact l2, by rw [z _ _ (by omega) (by omega) (by unfold Rw; omega)]; exact l3, fun j d hd => by rw [z _ _ (by omega) (by omega) (by unfold Rw; omega)]; exact l4 j d hd⟩
  · have e : (fun k => zI v (m + 12) (45 * j + k)) = (fun k => zI u (m + 12) (45 * j + k)) := funext fun k => z _ _ (by omega) (by omega) (by unfold Rw; omega)
    rw [e]
    exact h9 j M hM
  · have h10 := h10 k hk
    refine ⟨by rw [z _ _ (by omega) (by omega) (by unfold Rw; omega)]; exact h10.1, fun S hS => ?_⟩
    have e : (fun j => zI v (m + 16) (144 * k + j)) = (fun j => zI u (m + 16) (144 * k + j)) := funext fun j => z _ _ (by omega) (by omega) (by unfold Rw; omega)
    rw [e, z _ _ (by omega) (by omega) (by unfold Rw; omega), z _ _ (by omega) (by omega) (by unfold Rw; omega)]
    exact h10.2 S hS
theorem InvC.z (h : InvC u x A) (f : Fz P u v) (hP : ∀ a k, P a k → (x + 193 ≤ a ∧ a ≤ x + 212) ∨ Cw x a k) : InvC v x A := by
  have z : ∀ a k, (a < x + 193 ∨ x + 212 < a) → ¬ Cw x a k → zI v a k = zI u a k := fun a k q1 q3 => f.I (fun q => by rcases hP a k q with q | q; omega; exact q3 q)
  obtain ⟨⟨h1, h2⟩, ⟨h3, h4⟩, h5, ⟨h8, nx, h9, h10, h11⟩, h12⟩ := h
  refine ⟨⟨by rw [z _ _ (by omega) (by unfold Cw; omega)]; exact h1, fun k hk => by rw [z _ _ (by omega) (by unfold Cw; omega)]; exact h2 k hk⟩, ⟨by rw [z _ _ (by omega) (by unfold Cw; omega)]; exact h3, fun t R hR => ?_⟩, h5.z f (fun b k q1 q2 q => by have := hP b k q; unfold Cw at this; omega), ⟨by rw [z _ _ (by omega) (by unfold Cw; omega)]; exact h8, nx, h9, by rw [z _ _ (by omega) (by unfold Cw; omega)]; exact h10, fun j M hM => (h11 j M hM).z f (fun b k q1 q2 q => by have := hP b k q; unfold Cw at this; omega)⟩, fun k hk => ?_⟩
  · obtain ⟨q, q1, q2, q3⟩ := h4 t R hR
    exact ⟨q, by rw [f.R]; exact q1, ⟨by rw [f.N]; exact q2.1, q2.2.1, fun j d hd => by rw [z _ _ (by omega) (by unfold Cw; omega)]; exact q2.2.2 j d hd⟩, q3⟩
  · have h12 := h12 k hk
    exact ⟨by rw [z _ _ (by omega) (by unfold Cw; omega)]; exact h12.1, fun S hS => (h12.2 S hS).z f (fun b k q1 q2 q => by have := hP b k q; unfold Cw at this; omega)⟩
end INVZ
/-- nothing lies behind the heap's end -/
def Hz (u : SG) (x : Nat) : Prop := (∀ a, u.1 ≤ a → zK u a = 0) ∧ ∀ t q, zR u (x + 16) t = some q → q + 1 < u.1
theorem Hz.z {u v : SG} {x : Nat} {P : Nat → Nat → Prop} (h : Hz u x) (f : Fz P u v) : Hz v x := ⟨fun a ha => by rw [f.K]; exact h.1 a (by rw [← f.1]; exact ha), fun t q hq => by rw [f.R] at hq; rw [f.1]; exact h.2 t q hq⟩
def Inv (u : SG) (x : Nat) (A : AT) : Prop := LY u ∧ zK u x = 11 ∧ zK u (x + 193) = 12 ∧ InvC u x A ∧ InvR u (x + 193) A ∧ Hz u x
theorem Sok.mono {c d n k : Nat} {S : SCT} (h : Sok c n S) (hc : c ≤ d) (hn : n ≤ k) : Sok d k S := by
  obtain ⟨h1, ⟨b1, b2, b3, b4, b5⟩, h3, h4, h5, h6⟩ := h
  refine ⟨h1, ⟨b1, by omega, by omega, fun p hp => ?_, b5⟩, h3, h4, fun t ht => by have := h5 t ht; omega, h6⟩
  have := b4 p hp
  omega
theorem Mb.mono {c d : Nat} {G : Nat → Nat} {M : MT} (h : Mb c G M) (hc : c ≤ d) : Mb d G M := by
  obtain ⟨b1, b2, b3, b4, b5⟩ := h
  refine ⟨b1, by omega, by omega, fun p hp => ?_, b5⟩
  have := b4 p hp
  omega
theorem Aok.mono {c d : Nat} {A : AT} (h : Aok c A) (hc : c ≤ d) : Aok d A := by
  obtain ⟨h1, h2, h3, h4, h5, h6, h7, h8⟩ := h
  exact ⟨h1, h2, h3, h4, h5.mono hc (Nat.le_refl _), h6, fun M hM => (h7 M hM).mono hc, fun k S hk hS => (h8 k S hk hS).mono hc (Nat.le_refl _)⟩
/-- an operation goes well on both sides -/
def OpOK (fc fr : Nat → SG → Option (Int32 × SG)) : Prop := ∀ (c x : Nat) (A : AT) (u : SG), c < 600 → Aok c A → Inv u x A → ∃ r A' u1 u2, fc x u = some (r, u1) ∧ fr (x + 193) u1 = some (r, u2) ∧ zK u1 (x + 193) = 12 ∧ Inv u2 x A' ∧ Aok (c + 1) A'
theorem op_of {fc fr hc hr : Nat → SG → Option (Int32 × SG)} (ec : ∀ x u, HK [(some x, 11)] u → fc x u = hc x u) (er : ∀ m u, HK [(some m, 12)] u → fr m u = hr m u) (h : ∀ (c x : Nat) (A : AT), c < 600 → Aok c A → ∃ r A', Aok (c + 1) A' ∧ (∀ u, LY u → zK u x = 11 → InvC u x A → ∃ u1, hc x u = some (r, u1) ∧ InvC u1 x A' ∧ Fz (Sc x) u u1) ∧ ∀ (m : Nat) (u : SG), InvR u m A → ∃ u1, hr m u = some (r, u1) ∧ InvR u1 m A' ∧ Fz (Sr m) u u1) : OpOK fc fr := by
  intro c x A u hc6 hA ⟨hl, k1, k2, iC, iR, hz⟩
  obtain ⟨r, A', hA', oc, or⟩ := h c x A hc6 hA
  obtain ⟨u1, e1, e2, e3⟩ := oc u hl k1 iC
  obtain ⟨u2, g1, g2, g3⟩ := or (x + 193) u1 (iR.z e3 (fun a k q1 q2 q => by unfold Sc at q; omega))
  have l1 := hl.fr e3.fr
  have q1 : zK u1 (x + 193) = 12 := by rw [e3.K]; exact k2
  refine ⟨r, A', u1, u2, by rw [ec x u (hkc k1 (hk0 hl))]; exact e1, by rw [er _ u1 (hkc q1 (hk0 l1))]; exact g1, q1, ⟨l1.fr g3.fr, by rw [g3.K, e3.K]; exact k1, by rw [g3.K]; exact q1, e2.z g3 (fun a k q => by unfold Sr at q; omega), g2, (hz.z e3).z g3⟩, hA'⟩
/-- what is only asked, with scratch -/
theorem op_ask {fc fr hc hr : Nat → SG → Option (Int32 × SG)} (ec : ∀ x u, HK [(some x, 11)] u → fc x u = hc x u) (er : ∀ m u, HK [(some m, 12)] u → fr m u = hr m u) (h : ∀ (c x : Nat) (A : AT), c < 600 → Aok c A → ∃ r, (∀ u, LY u → zK u x = 11 → InvC u x A → ∃ u1, hc x u = some (r, u1) ∧ Fz (Cw x) u u1) ∧ ∀ (m : Nat) (u : SG), InvR u m A → ∃ u1, hr m u = some (r, u1) ∧ InvR u1 m A ∧ Fz (Sr m) u u1) : OpOK fc fr := by
  refine op_of ec er (fun c x A h6 hA => ?_)
  obtain ⟨r, oc, or⟩ := h c x A h6 hA
  refine ⟨r, A, hA.mono (by omega), fun u hl k1 iC => ?_, or⟩
  obtain ⟨u1, e1, e2⟩ := oc u hl k1 iC
  exact ⟨u1, e1, iC.z e2 (fun a k q => Or.inr q), e2.w (fun a k q => by unfold Cw at q; unfold Sc; omega)⟩
