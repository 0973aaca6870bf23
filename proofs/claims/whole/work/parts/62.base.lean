/-! NUMBERS, SETS AS BITS, LOOPS, FRAMES BY PLACE -/
def b2n (b : Bool) : Nat := if b then 1 else 0
theorem b2n_lt (b : Bool) : b2n b < 2 := by cases b <;> decide
theorem b2n_0 (b : Bool) : nI (b2n b) = 0 ↔ b = false := by cases b <;> decide
theorem b2n_1 (b : Bool) : nI (b2n b) = 1 ↔ b = true := by cases b <;> decide
theorem b2n_01 (b : Bool) : nI (b2n b) = 0 ∨ nI (b2n b) = 1 := by cases b <;> decide
theorem nI_bv (n : Nat) : (nI n).toBitVec = BitVec.ofNat 32 n := rfl
theorem nI_inj {a b : Int32} (h : a.toBitVec = b.toBitVec) : a = b := Int32.toBitVec_inj.mp h
theorem nI_and (a b : Nat) : nI a &&& nI b = nI (a &&& b) := by
  apply nI_inj
  rw [Int32.toBitVec_and, nI_bv, nI_bv, nI_bv]
  apply BitVec.eq_of_getLsbD_eq
  intro i hi
  simp [hi]
theorem nI_or (a b : Nat) : nI a ||| nI b = nI (a ||| b) := by
  apply nI_inj
  rw [Int32.toBitVec_or, nI_bv, nI_bv, nI_bv]
  apply BitVec.eq_of_getLsbD_eq
  intro i hi
  simp [hi]
theorem nI_xor (a b : Nat) : nI a ^^^ nI b = nI (a ^^^ b) := by
  apply nI_inj
  rw [Int32.toBitVec_xor, nI_bv, nI_bv, nI_bv]
  apply BitVec.eq_of_getLsbD_eq
  intro i hi
  simp [hi]
def dif (a b : Nat) : Nat := a ^^^ (a &&& b)
theorem dif_tb (a b i : Nat) : (dif a b).testBit i = (a.testBit i && !b.testBit i) := by
  unfold dif
  rw [Nat.testBit_xor, Nat.testBit_and]
  cases a.testBit i <;> cases b.testBit i <;> rfl
theorem nI_dif (a b : Nat) : nI a &&& (nI b ^^^ (-1 : Int32)) = nI (dif a b) := by
  have e : (-1 : Int32).toBitVec = BitVec.allOnes 32 := by decide
  apply nI_inj
  rw [Int32.toBitVec_and, Int32.toBitVec_xor, e, nI_bv, nI_bv, nI_bv]
  apply BitVec.eq_of_getLsbD_eq
  intro i hi
  rw [BitVec.getLsbD_and, BitVec.getLsbD_xor, BitVec.getLsbD_ofNat, BitVec.getLsbD_ofNat, BitVec.getLsbD_ofNat, BitVec.getLsbD_allOnes, dif_tb]
  simp [hi]
theorem nI_shl : ∀ p, p < 31 → (1 : Int32) <<< (nI p &&& 31) = nI (2 ^ p) := by decide +kernel
theorem nI_sl : ∀ n, n < 32 → ((nI n &&& 31).toBitVec.smod 32).toNat = n := by decide +kernel
theorem nI_bit {a p : Nat} (ha : a < 2 ^ 31) (hp : p < 32) : (nI a >>> (nI p &&& 31)) &&& 1 = nI (b2n (a.testBit p)) := by
  rw [pk_shrN ha _ p (nI_sl p hp), pk_andN (m := 1) (by have := Nat.div_le_self a (2 ^ p); omega) 1 (by decide)]
  rw [Nat.testBit_eq_decide_div_mod_eq]
  unfold b2n
  have : a / 2 ^ p % 2 ^ 1 < 2 := Nat.mod_lt _ (by decide)
  by_cases h : a / 2 ^ p % 2 = 1
  · simp [h]
  · have h2 : a / 2 ^ p % 2 = 0 := by omega
    simp [h2]
theorem dif_le (a b : Nat) : dif a b ≤ a := by
  apply Nat.le_of_testBit
  intro i
  rw [dif_tb]
  cases a.testBit i <;> simp
theorem x_bitOf {N a p : Nat} {u : SG} (ha : a < 2 ^ 31) (hp : p < 32) : fX10_bitOf N (nI a) (nI p) u = some (nI (b2n (a.testBit p)), u) := by
  unfold fX10_bitOf
  rw [nI_bit ha hp]
theorem x_isOf {N a p : Nat} {u : SG} (ha : a < 2 ^ 31) (hp : p < 32) : fX11_isOf N (nI a) (nI p) u = some (nI (b2n (a.testBit p)), u) := by
  unfold fX11_isOf
  rw [nI_bit ha hp]
  cases a.testBit p <;> rfl
def cntB (f : Nat → Bool) : Nat → Nat
  | 0 => 0
  | n + 1 => cntB f n + b2n (f n)
def sumB (f : Nat → Nat) : Nat → Nat
  | 0 => 0
  | n + 1 => sumB f n + f n
def anyB (f : Nat → Bool) : Nat → Bool
  | 0 => false
  | n + 1 => anyB f n || f n
theorem anyB_iff {f : Nat → Bool} {n : Nat} : anyB f n = true ↔ ∃ j, j < n ∧ f j = true := by
  induction n with
  | zero => simp [anyB]
  | succ n ih =>
    rw [anyB, Bool.or_eq_true, ih]
    constructor
    · rintro (⟨j, h1, h2⟩ | h)
      · exact ⟨j, by omega, h2⟩
      · exact ⟨n, by omega, h⟩
    · rintro ⟨j, h1, h2⟩
      by_cases hj : j = n
      · subst hj; exact Or.inr h2
      · exact Or.inl ⟨j, by omega, h2⟩
theorem anyB_false {f : Nat → Bool} {n : Nat} : anyB f n = false ↔ ∀ j, j < n → f j = false := by
  rw [← Bool.not_eq_true, anyB_iff]
  constructor
  · intro h j hj
    cases e : f j
    · rfl
    · exact absurd ⟨j, hj, e⟩ h
  · rintro h ⟨j, hj, e⟩
    rw [h j hj] at e
    cases e
def bset (f : Nat → Bool) : Nat → Nat
  | 0 => 0
  | n + 1 => bset f n + if f n then 2 ^ n else 0
theorem bset_lt (f : Nat → Bool) : ∀ n, bset f n < 2 ^ n := by
  intro n
  induction n with
  | zero => show 0 < 1; decide
  | succ n ih =>
    rw [bset, Nat.pow_succ]
    split <;> omega
theorem bset_or (f : Nat → Bool) (n : Nat) : bset f (n + 1) = bset f n ||| (if f n then 2 ^ n else 0) := by
  rw [bset]
  have h := bset_lt f n
  split
  · have e := Nat.two_pow_add_eq_or_of_lt h 1
    rw [Nat.mul_one] at e
    rw [Nat.add_comm, Nat.or_comm, e]
  · simp
theorem bset_tb (f : Nat → Bool) : ∀ n i, (bset f n).testBit i = (decide (i < n) && f i) := by
  intro n
  induction n with
  | zero => intro i; simp [bset]
  | succ n ih =>
    intro i
    rw [bset_or, Nat.testBit_or, ih]
    by_cases h : i = n
    · subst h
      cases f i <;> simp
    · have e : ((if f n then 2 ^ n else 0 : Nat)).testBit i = false := by
        split
        · rw [Nat.testBit_two_pow]; simp; omega
        · simp
      rw [e, Bool.or_false]
      by_cases h1 : i < n
      · have : i < n + 1 := by omega
        simp [h1, this]
      · have : ¬ i < n + 1 := by omega
        simp [h1, this]
theorem bset_ext {f g : Nat → Bool} {n : Nat} (h : ∀ i, i < n → f i = g i) : bset f n = bset g n := by
  apply Nat.eq_of_testBit_eq
  intro i
  rw [bset_tb, bset_tb]
  by_cases hi : i < n
  · rw [h i hi]
  · simp [hi]
theorem eq_bset {s n : Nat} {f : Nat → Bool} (h : ∀ i, s.testBit i = (decide (i < n) && f i)) : s = bset f n := by
  apply Nat.eq_of_testBit_eq
  intro i
  rw [bset_tb, h]
def pc (s : Nat) : Nat := cntB s.testBit 10
theorem cntB_le (f : Nat → Bool) : ∀ n, cntB f n ≤ n := by
  intro n
  induction n with
  | zero => exact Nat.le_refl _
  | succ n ih => rw [cntB]; have := b2n_lt (f n); omega
theorem cntB_ext {f g : Nat → Bool} {n : Nat} (h : ∀ i, i < n → f i = g i) : cntB f n = cntB g n := by
  induction n with
  | zero => rfl
  | succ n ih => rw [cntB, cntB, ih (fun i hi => h i (by omega)), h n (by omega)]
theorem sumB_ext {f g : Nat → Nat} {n : Nat} (h : ∀ i, i < n → f i = g i) : sumB f n = sumB g n := by
  induction n with
  | zero => rfl
  | succ n ih => rw [sumB, sumB, ih (fun i hi => h i (by omega)), h n (by omega)]
theorem sumB_le {f : Nat → Nat} {c : Nat} : ∀ {n : Nat}, (∀ i, i < n → f i ≤ c) → sumB f n ≤ c * n := by
  intro n
  induction n with
  | zero => intro _; simp [sumB]
  | succ n ih =>
    intro h
    have h1 := ih (fun i hi => h i (by omega))
    have h2 := h n (by omega)
    rw [sumB, Nat.mul_succ]
    omega
theorem anyB_ext {f g : Nat → Bool} {n : Nat} (h : ∀ i, i < n → f i = g i) : anyB f n = anyB g n := by
  induction n with
  | zero => rfl
  | succ n ih => rw [anyB, anyB, ih (fun i hi => h i (by omega)), h n (by omega)]
theorem cntB_zero {f : Nat → Bool} : ∀ {n : Nat}, cntB f n = 0 → ∀ i, i < n → f i = false := by
  intro n
  induction n with
  | zero => intro _ i hi; omega
  | succ n ih =>
    intro h i hi
    rw [cntB] at h
    by_cases hn : i = n
    · subst hn
      cases e : f i
      · rfl
      · rw [e] at h; simp [b2n] at h
    · exact ih (by omega) i (by omega)
theorem cntB_pos {f : Nat → Bool} {n i : Nat} (hi : i < n) (h : f i = true) : 0 < cntB f n := by
  rcases Nat.eq_zero_or_pos (cntB f n) with e | e
  · have := cntB_zero e i hi
    rw [h] at this
    cases this
  · exact e
theorem cntB_bset (f : Nat → Bool) (n : Nat) (hn : n ≤ 10) : pc (bset f n) = cntB f n := by
  unfold pc
  have key : ∀ k, cntB (bset f n).testBit (n + k) = cntB f n := by
    intro k
    induction k with
    | zero =>
      apply cntB_ext
      intro i hi
      rw [bset_tb]
      have : i < n + 0 := hi
      simp at this
      simp [this]
    | succ k ih =>
      rw [← Nat.add_assoc, cntB, ih, bset_tb]
      have : ¬ n + k < n := by omega
      simp [this, b2n]
  have h := key (10 - n)
  rw [show n + (10 - n) = 10 by omega] at h
  exact h
theorem bc_all : ∀ s, s < 1024 → (fJ6_bitCount_0f7a4 0 (nI s) ((0, fun _ => 0, fun _ => 0, fun _ _ => 0, fun _ _ => 0, fun _ _ => none) : SG)).map (fun o => o.1) = some (nI (pc s)) := by decide +kernel
theorem x_bitCount {N s : Nat} {u : SG} (h : s < 1024) : fJ6_bitCount_0f7a4 N (nI s) u = some (nI (pc s), u) := by
  have e := bc_all s h
  unfold fJ6_bitCount_0f7a4 bs at e ⊢
  simp only [Option.map_some, Option.some.injEq] at e
  dsimp only
  rw [e]
theorem pc_step : ∀ s, s < 1024 → s ≠ 0 → pc (s &&& (s - 1)) + 1 = pc s := by decide +kernel
theorem pc_zero : ∀ s, s < 1024 → pc s = 0 → s = 0 := by decide +kernel
theorem pc_le (s : Nat) : pc s ≤ 10 := cntB_le _ _
theorem x_bits_l {N : Nat} {u : SG} : ∀ k s c n, s < 1024 → pc s = k → k < n → gX11_bits_4 N n (nI c) (nI s) u = some (nI (c + pc s), u) := by
  intro k
  induction k with
  | zero =>
    intro s c n hs hp hn
    obtain ⟨n, rfl⟩ : ∃ j, n = j + 1 := ⟨n - 1, by omega⟩
    have := pc_zero s hs hp
    subst this
    rw [gX11_bits_4, if_pos nI_0]
    rfl
  | succ k ih =>
    intro s c n hs hp hn
    obtain ⟨n, rfl⟩ : ∃ j, n = j + 1 := ⟨n - 1, by omega⟩
    have h0 : s ≠ 0 := by
      intro e
      subst e
      exact absurd hp (by simp [pc, cntB, b2n])
    rw [gX11_bits_4, if_neg (nI_ne0 (by omega) (by omega)), bs_eq, lit_1, pk_sub (by omega), nI_and, nI_add]
    have hle : s &&& (s - 1) ≤ s := Nat.and_le_left
    have hst := pc_step s hs h0
    rw [ih (s &&& (s - 1)) (c + 1) n (by omega) (by omega) (by omega), ← hst]
    rw [show c + 1 + pc (s &&& (s - 1)) = c + (pc (s &&& (s - 1)) + 1) by omega]
theorem x_bits {N s : Nat} {u : SG} (h : s < 1024) (hN : 11 ≤ N) : fX11_bits N (nI s) u = some (nI (pc s), u) := by
  have e := x_bits_l (N := N) (u := u) (pc s) s 0 N h rfl (by have := pc_le s; omega)
  rw [Nat.zero_add] at e
  exact e
/-- a loop that counts up, with an early end -/
theorem lpq {β σ : Type} (g : Nat → Nat → σ → β) (B : Nat) (I : Nat → σ → Prop) (Q : β → Prop) (hx : ∀ n s, I B s → Q (g (n + 1) B s)) (hs : ∀ n k s, k < B → I k s → Q (g (n + 1) k s) ∨ ∃ s', I (k + 1) s' ∧ g (n + 1) k s = g n (k + 1) s') : ∀ n k s, k ≤ B → B - k < n → I k s → Q (g n k s) := by
  intro n
  induction n with
  | zero => intro k s h1 h2; omega
  | succ n ih =>
    intro k s h1 h2 h3
    by_cases hk : k = B
    · subst hk
      exact hx n s h3
    · rcases hs n k s (by omega) h3 with h | ⟨s', i1, e⟩
      · exact h
      · rw [e]
        exact ih (k + 1) s' (by omega) (by omega) i1
/-- a loop without an early end -/
theorem lps {β σ : Type} (g : Nat → Nat → σ → β) (B : Nat) (I : Nat → σ → Prop) (Q : β → Prop) (hx : ∀ n s, I B s → Q (g (n + 1) B s)) (hs : ∀ n k s, k < B → I k s → ∃ s', I (k + 1) s' ∧ g (n + 1) k s = g n (k + 1) s') : ∀ n k s, k ≤ B → B - k < n → I k s → Q (g n k s) := lpq g B I Q hx (fun n k s h1 h2 => Or.inr (hs n k s h1 h2))
/-- a frame by places -/
def Fz (S : Nat → Nat → Prop) (u v : SG) : Prop := v.1 = u.1 ∧ v.2.1 = u.2.1 ∧ v.2.2.1 = u.2.2.1 ∧ v.2.2.2.2.2 = u.2.2.2.2.2 ∧ ∀ a k, ¬ S a k → zI v a k = zI u a k ∧ zL v a k = zL u a k
theorem Fz.rf {S : Nat → Nat → Prop} {u : SG} : Fz S u u := ⟨rfl, rfl, rfl, rfl, fun _ _ _ => ⟨rfl, rfl⟩⟩
theorem Fz.tr {S : Nat → Nat → Prop} {u v w : SG} (h : Fz S u v) (g : Fz S v w) : Fz S u w := by
  obtain ⟨h1, h2, h3, h4, h5⟩ := h
  obtain ⟨g1, g2, g3, g4, g5⟩ := g
  exact ⟨g1.trans h1, g2.trans h2, g3.trans h3, g4.trans h4, fun a k ha => ⟨(g5 a k ha).1.trans (h5 a k ha).1, (g5 a k ha).2.trans (h5 a k ha).2⟩⟩
theorem Fz.w {S T : Nat → Nat → Prop} {u v : SG} (h : Fz S u v) (hq : ∀ a k, S a k → T a k) : Fz T u v := ⟨h.1, h.2.1, h.2.2.1, h.2.2.2.1, fun a k ha => h.2.2.2.2 a k (fun z => ha (hq a k z))⟩
theorem Fz.I {S : Nat → Nat → Prop} {u v : SG} (h : Fz S u v) {a k : Nat} (ha : ¬ S a k) : zI v a k = zI u a k := (h.2.2.2.2 a k ha).1
theorem Fz.L {S : Nat → Nat → Prop} {u v : SG} (h : Fz S u v) {a k : Nat} (ha : ¬ S a k) : zL v a k = zL u a k := (h.2.2.2.2 a k ha).2
theorem Fz.fr {S : Nat → Nat → Prop} {u v : SG} (h : Fz S u v) : Fr PT u v := ⟨h.1, h.2.1, h.2.2.1, h.2.2.2.1, fun a ha => absurd trivial ha⟩
theorem Fz.R {S : Nat → Nat → Prop} {u v : SG} (h : Fz S u v) (a k : Nat) : zR v a k = zR u a k := h.fr.R a k
theorem Fz.K {S : Nat → Nat → Prop} {u v : SG} (h : Fz S u v) (a : Nat) : zK v a = zK u a := h.fr.K a
theorem Fz.N {S : Nat → Nat → Prop} {u v : SG} (h : Fz S u v) (a : Nat) : zN v a = zN u a := h.fr.N a
theorem Fz.of {P : Nat → Prop} {u v : SG} (h : Fr P u v) : Fz (fun a _ => P a) u v := ⟨h.1, h.2.1, h.2.2.1, h.2.2.2.1, fun a k ha => ⟨by rw [(h.2.2.2.2 a ha).1], by rw [(h.2.2.2.2 a ha).2]⟩⟩
theorem Fz.sI {S : Nat → Nat → Prop} {u : SG} {a k : Nat} {v : Int32} (ha : S a k) : Fz S u (sI u a k v) := ⟨rfl, rfl, rfl, rfl, fun b j hb => ⟨by
  rw [sI_I]
  by_cases h : b = a
  · subst h
    by_cases hj : j = k
    · subst hj; exact absurd ha hb
    · rw [if_pos rfl, if_neg hj]
  · rw [if_neg h], rfl⟩⟩
theorem Fz.sL {S : Nat → Nat → Prop} {u : SG} {a k : Nat} {v : Int64} (ha : S a k) : Fz S u (sL u a k v) := ⟨rfl, rfl, rfl, rfl, fun b j hb => ⟨rfl, by
  rw [sL_L]
  by_cases h : b = a
  · subst h
    by_cases hj : j = k
    · subst hj; exact absurd ha hb
    · rw [if_pos rfl, if_neg hj]
  · rw [if_neg h]⟩⟩
theorem Fz.sIr {S : Nat → Nat → Prop} {u : SG} {a : Nat} {f : Nat → Int32} (ha : ∀ k, ¬ S a k → f k = zI u a k) : Fz S u (sIr u a f) := ⟨rfl, rfl, rfl, rfl, fun b j hb => ⟨by
  rw [sIr_I]
  by_cases h : b = a
  · subst h; rw [if_pos rfl]; exact ha j hb
  · rw [if_neg h], rfl⟩⟩
theorem Fz.sLr {S : Nat → Nat → Prop} {u : SG} {a : Nat} {f : Nat → Int64} (ha : ∀ k, ¬ S a k → f k = zL u a k) : Fz S u (sLr u a f) := ⟨rfl, rfl, rfl, rfl, fun b j hb => ⟨rfl, by
  rw [sLr_L]
  by_cases h : b = a
  · subst h; rw [if_pos rfl]; exact ha j hb
  · rw [if_neg h]⟩⟩
theorem sI_L (u : SG) (a k : Nat) (v : Int32) (b j : Nat) : zL (sI u a k v) b j = zL u b j := rfl
theorem sL_I (u : SG) (a k : Nat) (v : Int64) (b j : Nat) : zI (sL u a k v) b j = zI u b j := rfl
theorem sI_s (u : SG) (a k : Nat) (v : Int32) : zI (sI u a k v) a k = v := by rw [sI_I, if_pos rfl, if_pos rfl]
theorem sL_s (u : SG) (a k : Nat) (v : Int64) : zL (sL u a k v) a k = v := by rw [sL_L, if_pos rfl, if_pos rfl]
theorem sI_n {u : SG} {a k : Nat} {v : Int32} {b j : Nat} (h : ¬ (b = a ∧ j = k)) : zI (sI u a k v) b j = zI u b j := by
  rw [sI_I]
  by_cases hb : b = a
  · subst hb
    rw [if_pos rfl, if_neg (fun e => h ⟨rfl, e⟩)]
  · rw [if_neg hb]
theorem sL_n {u : SG} {a k : Nat} {v : Int64} {b j : Nat} (h : ¬ (b = a ∧ j = k)) : zL (sL u a k v) b j = zL u b j := by
  rw [sL_L]
  by_cases hb : b = a
  · subst hb
    rw [if_pos rfl, if_neg (fun e => h ⟨rfl, e⟩)]
  · rw [if_neg hb]
/-- a place in range -/
theorem ixI {β : Type} {n B : Nat} {x : Option β} (h : n < B) (hB : B < 2 ^ 31) : (if nI n < 0 ∨ B ≤ (nI n).toNatClampNeg then none else x) = x := by rw [if_neg (nI_in h hB)]
