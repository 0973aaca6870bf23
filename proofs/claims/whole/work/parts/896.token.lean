/-! THE TAPE AS WORDS -/
def isD (b : Nat) : Bool := decide (48 ≤ b) && decide (b ≤ 57)
def isS (b : Nat) : Bool := decide (97 ≤ b) && decide (b ≤ 122)
def isW (b : Nat) : Bool := b == 32
def rn (t : Nat → Nat) (f : Nat → Bool) : Nat → Nat → Nat
  | 0, p => p
  | n + 1, p => if f (t p) then rn t f n (p + 1) else p
/-- bytes: 256 behind the end -/
def TP (t : Nat → Nat) (T : Nat) : Prop := T ≤ 400 ∧ (∀ p, p < T → t p < 256) ∧ ∀ p, T ≤ p → t p = 256
def ru (t : Nat → Nat) (f : Nat → Bool) (p : Nat) : Nat := rn t f 401 p
def sk (t : Nat → Nat) (p : Nat) : Nat := ru t isW p
def two (t : Nat → Nat) (p : Nat) : Bool := (t p == 60 || t p == 62) && t (p + 1) == 61
def tE (t : Nat → Nat) (p : Nat) : Nat := if isD (t p) then ru t isD p else if isS (t p) then ru t isS p else if t p = 256 then p else if two t p then p + 2 else p + 1
def nx (t : Nat → Nat) (p : Nat) : Nat := sk t (tE t p)
def dv (t : Nat → Nat) (p : Nat) : Nat → Nat
  | 0 => 0
  | k + 1 => 10 * dv t p k + (t (p + k) - 48)
def pkb (t : Nat → Nat) (p : Nat) : Nat → Nat
  | 0 => 0
  | k + 1 => 256 * pkb t p k + t (p + k)
def WC (j : Nat) : Nat := [123581014175598, 1752135026, 474214787188, 1852138852, 512970880104, 495739826292, 1818584692, 1668248436, 122545758368371, 107148367717744, 1870095716, 1684365940, 7305070, 126943972648308, 2003792491, 1818324336, 7104884, 495739823472, 26982, 28530, 6385252, 7237492].getD j 0
def wcO (t : Nat → Nat) (p : Nat) : Nat := if tE t p - p < 8 then pkb t p (tE t p - p) else 0
def nmO (t : Nat → Nat) (p : Nat) : Option Nat := if isD (t p) then (if tE t p - p ≤ 5 then some (dv t p (tE t p - p)) else none) else none
def wrO (t : Nat → Nat) (p : Nat) : Option Nat := if isS (t p) then lsO (fun j => wcO t p == WC j) 22 else none
def sgO (t : Nat → Nat) (p : Nat) : Option Nat := if isD (t p) || isS (t p) || t p == 256 then none else some (if two t p then t p + 256 else t p)
def tK (t : Nat → Nat) (p : Nat) : Nat := if t p = 256 then 0 else if isD (t p) then 1 else if isS (t p) then 2 else 3
def tV (t : Nat → Nat) (p : Nat) : Int32 := if t p = 256 then 0 else if isD (t p) then foI (nmO t p) else if isS (t p) then foI (wrO t p) else foI (sgO t p)
def ch (t : Nat → Nat) (p : Nat) : Nat → Nat
  | 0 => p
  | k + 1 => nx t (ch t p k)
section TOKP
variable {t : Nat → Nat} {T : Nat}
theorem rn_ok {f : Nat → Bool} (hT : TP t T) (hf : f 256 = false) : ∀ n p, T - p < n → p ≤ rn t f n p ∧ (p ≤ T → rn t f n p ≤ T) ∧ f (t (rn t f n p)) = false ∧ ∀ q, p ≤ q → q < rn t f n p → f (t q) = true := by
  intro n
  induction n with
  | zero => intro p h; omega
  | succ n ih =>
    intro p h
    rw [rn]
    cases e : f (t p) with
    | false => exact ⟨Nat.le_refl _, fun h => h, e, fun q h1 h2 => absurd h2 (by simp; omega)⟩
    | true =>
      have hp : p < T := by
        rcases Nat.lt_or_ge p T with q | q
        · exact q
        · rw [hT.2.2 p q, hf] at e; cases e
      obtain ⟨h1, h2, h3, h4⟩ := ih (p + 1) (by omega)
      refine ⟨?_, fun _ => ?_, ?_, fun q q1 q2 => ?_⟩
      · rw [if_pos rfl]; omega
      · rw [if_pos rfl]; exact h2 (by omega)
      · rw [if_pos rfl]; exact h3
      · rw [if_pos rfl] at q2
        by_cases q3 : q = p
        · subst q3; exact e
        · exact h4 q (by omega) q2
theorem ru_ok {f : Nat → Bool} (hT : TP t T) (hf : f 256 = false) (p : Nat) : p ≤ ru t f p ∧ (p ≤ T → ru t f p ≤ T) ∧ f (t (ru t f p)) = false ∧ ∀ q, p ≤ q → q < ru t f p → f (t q) = true := rn_ok hT hf 401 p (by have := hT.1; omega)
theorem ru_uq {f : Nat → Bool} (hT : TP t T) (hf : f 256 = false) {p q : Nat} (h1 : p ≤ q) (h2 : f (t q) = false) (h3 : ∀ j, p ≤ j → j < q → f (t j) = true) : ru t f p = q := by
  obtain ⟨a1, a2, a3, a4⟩ := ru_ok hT hf p
  rcases Nat.lt_trichotomy (ru t f p) q with h | h | h
  · have := h3 _ a1 h; rw [a3] at this; cases this
  · exact h
  · have := a4 q h1 h; rw [h2] at this; cases this
theorem ru_self {f : Nat → Bool} (hT : TP t T) (hf : f 256 = false) {p : Nat} (h : f (t p) = false) : ru t f p = p := ru_uq hT hf (Nat.le_refl _) h (fun j h1 h2 => by omega)
theorem ru_step {f : Nat → Bool} (hT : TP t T) (hf : f 256 = false) {p : Nat} (h : f (t p) = true) : ru t f p = ru t f (p + 1) := by
  obtain ⟨a1, a2, a3, a4⟩ := ru_ok hT hf (p + 1)
  refine ru_uq hT hf (by omega) a3 (fun j h1 h2 => ?_)
  by_cases q : j = p
  · subst q; exact h
  · exact a4 j (by omega) h2
theorem t_lt (hT : TP t T) {p : Nat} (h : ¬ t p = 256) : p < T := by
  rcases Nat.lt_or_ge p T with q | q
  · exact q
  · exact absurd (hT.2.2 p q) h
theorem t_256 (hT : TP t T) {p : Nat} (h : p < T) : ¬ t p = 256 := by have := hT.2.1 p h; omega
theorem isD_lt {b : Nat} (h : isD b = true) : 48 ≤ b ∧ b ≤ 57 := by simpa [isD] using h
theorem isS_lt {b : Nat} (h : isS b = true) : 97 ≤ b ∧ b ≤ 122 := by simpa [isS] using h
theorem sk_ok (hT : TP t T) (p : Nat) : p ≤ sk t p ∧ (p ≤ T → sk t p ≤ T) ∧ ¬ t (sk t p) = 32 := by
  obtain ⟨a1, a2, a3, -⟩ := ru_ok hT (f := isW) rfl p
  refine ⟨a1, a2, ?_⟩
  have : isW (t (sk t p)) = false := a3
  simpa [isW] using this
theorem sk_id (hT : TP t T) {p : Nat} (h : ¬ t p = 32) : sk t p = p := ru_self hT rfl (by simpa [isW] using h)
theorem sk_sk (hT : TP t T) (p : Nat) : sk t (sk t p) = sk t p := sk_id hT (sk_ok hT p).2.2
theorem sk_32 (hT : TP t T) {p : Nat} (h : t p = 32) : sk t p = sk t (p + 1) := ru_step hT rfl (by simp [isW, h])
theorem tE_ok (hT : TP t T) {p : Nat} (hp : p < T) : p < tE t p ∧ tE t p ≤ T := by
  unfold tE
  cases eD : isD (t p) with
  | true =>
    rw [if_pos rfl]
    obtain ⟨a1, a2, a3, a4⟩ := ru_ok hT (f := isD) rfl p
    refine ⟨?_, a2 (by omega)⟩
    rcases Nat.lt_or_eq_of_le a1 with h | h
    · exact h
    · rw [← h, eD] at a3; cases a3
  | false =>
    rw [if_neg (by decide)]
    cases eS : isS (t p) with
    | true =>
      rw [if_pos rfl]
      obtain ⟨a1, a2, a3, a4⟩ := ru_ok hT (f := isS) rfl p
      refine ⟨?_, a2 (by omega)⟩
      rcases Nat.lt_or_eq_of_le a1 with h | h
      · exact h
      · rw [← h, eS] at a3; cases a3
    | false =>
      rw [if_neg (by decide), if_neg (t_256 hT hp)]
      cases e2 : two t p with
      | true =>
        rw [if_pos rfl]
        refine ⟨by omega, ?_⟩
        unfold two at e2
        simp at e2
        have := t_lt hT (p := p + 1) (by omega)
        omega
      | false => rw [if_neg (by decide)]; omega
theorem tE_T (hT : TP t T) : tE t T = T := by
  have e := hT.2.2 T (Nat.le_refl _)
  unfold tE
  rw [e]
  rfl
theorem nx_T (hT : TP t T) : nx t T = T := by
  unfold nx
  rw [tE_T hT]
  exact sk_id hT (by rw [hT.2.2 T (Nat.le_refl _)]; decide)
theorem nx_ok (hT : TP t T) {p : Nat} (hp : p < T) : p < nx t p ∧ nx t p ≤ T := by
  obtain ⟨h1, h2⟩ := tE_ok hT hp
  obtain ⟨a1, a2, -⟩ := sk_ok hT (tE t p)
  unfold nx
  have := a2 h2
  omega
theorem nx_le (hT : TP t T) {p : Nat} (hp : p ≤ T) : p ≤ nx t p ∧ nx t p ≤ T := by
  rcases Nat.lt_or_eq_of_le hp with h | h
  · have := nx_ok hT h; omega
  · rw [h, nx_T hT]; omega
theorem ch_s (t : Nat → Nat) (p k : Nat) : ch t (nx t p) k = ch t p (k + 1) := by
  induction k with
  | zero => rfl
  | succ k ih =>
    show nx t (ch t (nx t p) k) = nx t (ch t p (k + 1))
    rw [ih]
theorem WC_inj : ∀ i, i < 22 → ∀ j, j < 22 → WC i = WC j → i = j := by decide +kernel
theorem WC_pos : ∀ i, i < 22 → 0 < WC i := by decide +kernel
theorem wrO_iff {p j : Nat} (hj : j < 22) : wrO t p = some j ↔ isS (t p) = true ∧ wcO t p = WC j := by
  unfold wrO
  cases e : isS (t p) with
  | false => simp
  | true =>
    rw [if_pos rfl]
    constructor
    · intro h
      have := (lsO_some _ _ _ h).1
      exact ⟨rfl, by simpa using this⟩
    · rintro ⟨-, h⟩
      cases el : lsO (fun j => wcO t p == WC j) 22 with
      | none =>
        have := cntB_zero ((lsO_none _ 22).mp el) j hj
        simp [h] at this
      | some i =>
        have h1 := lsO_lt _ _ _ el
        have h2 := (lsO_some _ _ _ el).1
        simp [h] at h2
        rw [WC_inj j hj i h1 h2]
theorem wrO_lt {p j : Nat} (h : wrO t p = some j) : j < 22 := by
  unfold wrO at h
  split at h
  · exact lsO_lt _ _ _ h
  · cases h
end TOKP
/-! WORDS -/
def wch (i : Nat) : Nat := [112, 101, 114, 115, 111, 110, 32, 104, 111, 117, 114, 32, 110, 105, 103, 104, 116, 32, 110, 101, 101, 100, 32, 119, 111, 114, 116, 104, 32, 115, 108, 101, 112, 116, 32, 108, 101, 102, 116, 32, 99, 111, 115, 116, 32, 111, 116, 104, 101, 114, 115, 32, 97, 115, 108, 101, 101, 112, 32, 111, 119, 101, 100, 32, 100, 101, 98, 116, 32, 111, 119, 110, 32, 115, 116, 114, 101, 101, 116, 32, 119, 111, 114, 107, 32, 108, 97, 109, 112, 32, 108, 105, 116, 32, 115, 108, 101, 101, 112, 32, 105, 102, 32, 111, 114, 32, 97, 110, 100, 32, 110, 111, 116].getD i 0
def wst (j : Nat) : Nat := [0, 7, 12, 18, 23, 29, 35, 40, 45, 52, 59, 64, 69, 73, 80, 85, 90, 94, 100, 103, 106, 110].getD j 0
def wen (j : Nat) : Nat := [6, 11, 17, 22, 28, 34, 39, 44, 51, 58, 63, 68, 72, 79, 84, 89, 93, 99, 102, 105, 109, 113].getD j 0
def wsp (i : Nat) : Bool := i == 113 || wch i == 32
def nsp (i : Nat) : Nat := cntB wsp i
def stA : Nat → Nat
  | 0 => 0
  | i + 1 => if wsp i then i + 1 else stA i
theorem w_at : ∀ i, i < 114 → wsp i = true → wst (nsp i) = stA i ∧ wen (nsp i) = i ∧ nsp i < 22 ∧ stA i ≤ i := by decide +kernel
theorem w_n : ∀ i, i < 115 → nsp i ≤ 22 ∧ stA i ≤ i := by decide +kernel
theorem w_114 : nsp 114 = 22 := by decide +kernel
theorem w_cd : ∀ j, j < 22 → pkb wch (wst j) (wen j - wst j) = WC j ∧ wst j ≤ wen j ∧ wen j ≤ 113 ∧ wen j - wst j < 8 := by decide +kernel
theorem w_sm : ∀ i, i < 113 → wsp i = false → 0 < wch i ∧ wch i < 256 := by decide +kernel
theorem w_in : ∀ j, j < 22 → ∀ k, k < wen j - wst j → wsp (wst j + k) = false := by decide +kernel
theorem w_by : ∀ i, i < 113 → jby.getD i 0 = nI (wch i) ∧ nI (wch i) &&& 255 = nI (wch i) ∧ wch i < 256 := by decide +kernel
theorem pkb_ext {s t : Nat → Nat} {p q : Nat} : ∀ n, (∀ k, k < n → s (p + k) = t (q + k)) → pkb s p n = pkb t q n := by
  intro n
  induction n with
  | zero => intro _; rfl
  | succ n ih => intro h; rw [pkb, pkb, ih (fun k hk => h k (by omega)), h n (by omega)]
theorem pkb_inj {s t : Nat → Nat} {p q : Nat} : ∀ a b, (∀ k, k < a → 0 < s (p + k) ∧ s (p + k) < 256) → (∀ k, k < b → 0 < t (q + k) ∧ t (q + k) < 256) → pkb s p a = pkb t q b → a = b ∧ ∀ k, k < a → s (p + k) = t (q + k) := by
  intro a
  induction a with
  | zero =>
    intro b _ h2 h
    cases b with
    | zero => exact ⟨rfl, fun k hk => by omega⟩
    | succ b =>
      have := h2 b (by omega)
      rw [pkb, pkb] at h
      omega
  | succ a ih =>
    intro b h1 h2 h
    have k1 := h1 a (by omega)
    cases b with
    | zero => rw [pkb, pkb] at h; omega
    | succ b =>
      have k2 := h2 b (by omega)
      rw [pkb, pkb] at h
      obtain ⟨e, e2⟩ := ih b (fun k hk => h1 k (by omega)) (fun k hk => h2 k (by omega)) (by omega)
      subst e
      refine ⟨rfl, fun k hk => ?_⟩
      by_cases q1 : k = a
      · subst q1; omega
      · exact e2 k (by omega)
/-- word j stands at p -/
def sam (t : Nat → Nat) (p j : Nat) : Bool := !anyB (fun k => !(wch (wst j + k) == t (p + k))) (wen j - wst j)
theorem sam_iff {t : Nat → Nat} {p j : Nat} : sam t p j = true ↔ ∀ k, k < wen j - wst j → wch (wst j + k) = t (p + k) := by
  unfold sam
  constructor
  · intro h
    have h : anyB (fun k => !(wch (wst j + k) == t (p + k))) (wen j - wst j) = false := by simpa using h
    intro k hk
    have := anyB_false.mp h k hk
    simpa using this
  · intro h
    rw [anyB_false.mpr (fun k hk => by simp [h k hk])]
    rfl
theorem w_match {t : Nat → Nat} {T p j : Nat} (hT : TP t T) (hp : isS (t p) = true) (hj : j < 22) : (wen j - wst j = tE t p - p ∧ sam t p j = true) ↔ wcO t p = WC j := by
  obtain ⟨c1, c2, c3, c4⟩ := w_cd j hj
  have eE : tE t p = ru t isS p := by
    have : isD (t p) = false := by
      have := isS_lt hp
      unfold isD
      rw [decide_eq_false (show ¬ t p ≤ 57 by omega)]
      simp
    unfold tE
    rw [this, hp]
    rfl
  obtain ⟨r1, r2, r3, r4⟩ := ru_ok hT (f := isS) rfl p
  have dig : ∀ k, k < tE t p - p → 0 < t (p + k) ∧ t (p + k) < 256 := fun k hk => by
    have := isS_lt (r4 (p + k) (by omega) (by omega))
    omega
  rw [sam_iff]
  unfold wcO
  constructor
  · rintro ⟨h1, h2⟩
    rw [if_pos (by omega), ← c1, h1]
    exact pkb_ext _ (fun k hk => (h2 k (by omega)).symm)
  · intro h
    have p0 := WC_pos j hj
    by_cases q : tE t p - p < 8
    · rw [if_pos q, ← c1] at h
      obtain ⟨e1, e2⟩ := pkb_inj _ _ dig (fun k hk => by
        have := w_in j hj k hk
        exact w_sm _ (by omega) this) h
      exact ⟨e1.symm, fun k hk => (e2 k (by omega)).symm⟩
    · rw [if_neg q] at h; omega
