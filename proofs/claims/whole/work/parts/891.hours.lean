/-! PURE: sets of hours, nights -/
/-! SETS OF HOURS THAT COST LEAST -/
def cst (w : Nat → Nat) (S : Nat → Bool) (n : Nat) : Nat := sumB (fun h => if S h then w h else 0) n
theorem cst_le {w : Nat → Nat} {S T : Nat → Bool} {c : Nat} : ∀ n, (∀ h, h < n → S h = true → T h = false → w h ≤ c) → (∀ h, h < n → T h = true → S h = false → c ≤ w h) → cst w S n + c * cntB T n ≤ cst w T n + c * cntB S n := by
  intro n
  induction n with
  | zero => intro _ _; exact Nat.le_refl _
  | succ n ih =>
    intro h1 h2
    have i := ih (fun h hh => h1 h (by omega)) (fun h hh => h2 h (by omega))
    have a1 := h1 n (by omega)
    have a2 := h2 n (by omega)
    unfold cst at i ⊢
    rw [sumB, sumB, cntB, cntB, Nat.mul_add, Nat.mul_add]
    cases es : S n <;> cases et : T n <;> simp only [es, et, b2n] at a1 a2 ⊢ <;> simp at a1 a2 ⊢ <;> omega
theorem cst_eq {w : Nat → Nat} {S T : Nat → Bool} {c : Nat} : ∀ n, (∀ h, h < n → S h = true → T h = false → w h ≤ c) → (∀ h, h < n → T h = true → S h = false → c ≤ w h) → cst w S n + c * cntB T n = cst w T n + c * cntB S n → ∀ h, h < n → ((S h = true → T h = false → w h = c) ∧ (T h = true → S h = false → w h = c)) := by
  intro n
  induction n with
  | zero => intro _ _ _ h hh; omega
  | succ n ih =>
    intro h1 h2 he h hh
    have l := cst_le n (fun h hh => h1 h (by omega)) (fun h hh => h2 h (by omega))
    have a1 := h1 n (by omega)
    have a2 := h2 n (by omega)
    have key : cst w S n + c * cntB T n = cst w T n + c * cntB S n ∧ ((S n = true → T n = false → w n = c) ∧ (T n = true → S n = false → w n = c)) := by
      unfold cst at he l ⊢
      rw [sumB, sumB, cntB, cntB, Nat.mul_add, Nat.mul_add] at he
      cases es : S n <;> cases et : T n <;> simp only [es, et, b2n] at a1 a2 he ⊢ <;> simp at a1 a2 he ⊢ <;> omega
    by_cases q : h = n
    · subst q; exact key.2
    · exact ih (fun h hh => h1 h (by omega)) (fun h hh => h2 h (by omega)) key.1 h (by omega)
theorem cnt_ex {S T : Nat → Bool} : ∀ n, cntB S n < cntB T n → ∃ b, b < n ∧ T b = true ∧ S b = false := by
  intro n
  induction n with
  | zero => intro h; exact absurd h (Nat.lt_irrefl _)
  | succ n ih =>
    intro h
    rw [cntB, cntB] at h
    by_cases q : T n = true ∧ S n = false
    · exact ⟨n, by omega, q.1, q.2⟩
    · have : b2n (T n) ≤ b2n (S n) := by
        revert q
        cases T n <;> cases S n <;> simp [b2n]
      obtain ⟨b, h1, h2⟩ := ih (by omega)
      exact ⟨b, by omega, h2⟩
theorem bset_le {S T : Nat → Bool} : ∀ n, cntB S n = cntB T n → (∀ a b, a < n → b < n → S a = true → T a = false → T b = true → S b = false → a < b) → bset S n ≤ bset T n := by
  intro n
  induction n with
  | zero => intro _ _; exact Nat.le_refl _
  | succ n ih =>
    intro hc h
    rw [cntB, cntB] at hc
    rw [bset, bset]
    have ls := bset_lt S n
    have lt := bset_lt T n
    cases es : S n <;> cases et : T n
    · rw [es, et] at hc
      have := ih (by omega) (fun a b ha hb => h a b (by omega) (by omega))
      simp
      exact this
    · simp; omega
    · rw [es, et] at hc
      obtain ⟨b, hb, h1, h2⟩ := cnt_ex (S := S) (T := T) n (by simp [b2n] at hc; omega)
      have := h n b (by omega) (by omega) es et h1 h2
      omega
    · rw [es, et] at hc
      have := ih (by omega) (fun a b ha hb => h a b (by omega) (by omega))
      simp
      exact this
theorem mx_ex (w : Nat → Nat) (S : Nat → Bool) : ∀ n, ∃ c, (∀ a, a < n → S a = true → w a ≤ c) ∧ (c = 0 ∨ ∃ a, a < n ∧ S a = true ∧ w a = c) := by
  intro n
  induction n with
  | zero => exact ⟨0, fun a ha => by omega, Or.inl rfl⟩
  | succ n ih =>
    obtain ⟨c, h1, h2⟩ := ih
    by_cases q : S n = true ∧ c < w n
    · refine ⟨w n, fun a ha es => ?_, Or.inr ⟨n, by omega, q.1, rfl⟩⟩
      by_cases e : a = n
      · subst e; exact Nat.le_refl _
      · have := h1 a (by omega) es; omega
    · refine ⟨c, fun a ha es => ?_, ?_⟩
      · by_cases e : a = n
        · subst e
          rcases Nat.lt_or_ge c (w a) with z | z
          · exact absurd ⟨es, z⟩ q
          · exact z
        · exact h1 a (by omega) es
      · rcases h2 with h2 | ⟨a, k1, k2⟩
        · exact Or.inl h2
        · exact Or.inr ⟨a, by omega, k2⟩
/-- S holds the cheapest hours, the earlier first -/
def IS (w : Nat → Nat) (O S : Nat → Bool) (n : Nat) : Prop := (∀ h, h < n → S h = true → O h = true) ∧ ∀ a b, a < n → b < n → S a = true → O b = true → S b = false → w a < w b ∨ (w a = w b ∧ a < b)
theorem IS_opt {w : Nat → Nat} {O S T : Nat → Bool} {n : Nat} (h : IS w O S n) (ht : ∀ h, h < n → T h = true → O h = true) (hc : cntB S n = cntB T n) : cst w S n ≤ cst w T n ∧ (cst w S n = cst w T n → bset S n ≤ bset T n) := by
  obtain ⟨c, m1, m2⟩ := mx_ex w S n
  have a1 : ∀ h, h < n → S h = true → T h = false → w h ≤ c := fun h hh es _ => m1 h hh es
  have a2 : ∀ b, b < n → T b = true → S b = false → c ≤ w b := fun b hb et es => by
    rcases m2 with e | ⟨a, k1, k2, k3⟩
    · omega
    · have := h.2 a b k1 hb k2 (ht b hb et) es
      omega
  have l := cst_le n a1 a2
  rw [hc] at l
  refine ⟨by omega, fun he => bset_le n hc (fun a b ha hb sa ta tb sb => ?_)⟩
  have q := cst_eq n a1 a2 (by rw [hc, he])
  have q1 := (q a ha).1 sa ta
  have q2 := (q b hb).2 tb sb
  have := h.2 a b ha hb sa (ht b hb tb) sb
  omega
/-- the next hour taken -/
theorem IS_add {w : Nat → Nat} {O S : Nat → Bool} {n b : Nat} (h : IS w O S n) (hb : b < n) (ob : O b = true) (sb : S b = false) (hm : ∀ a, a < n → O a = true → S a = false → w b < w a ∨ (w b = w a ∧ b ≤ a)) : IS w O (fun h => S h || h == b) n := by
  refine ⟨fun a ha e => ?_, fun a e ha he sa oe se => ?_⟩
  · simp at e
    rcases e with e | e
    · exact h.1 a ha e
    · subst e; exact ob
  · simp at sa se
    rcases sa with sa | sa
    · exact h.2 a e ha he sa oe se.1
    · subst sa
      have := hm e he oe se.1
      have := se.2
      omega
theorem cnt_add {S : Nat → Bool} {b : Nat} (sb : S b = false) : ∀ n, b < n → cntB (fun h => S h || h == b) n = cntB S n + 1 := by
  intro n
  induction n with
  | zero => intro h; omega
  | succ n ih =>
    intro h
    rw [cntB, cntB]
    by_cases e : b = n
    · subst e
      have : cntB (fun h => S h || h == b) b = cntB S b := cntB_ext (fun i hi => by
        have : (i == b) = false := by simp; omega
        simp [this])
      rw [this, sb]
      simp [b2n]
    · rw [ih (by omega)]
      have : (n == b) = false := by simp; omega
      simp [this]
      omega
theorem cst_add {w : Nat → Nat} {S : Nat → Bool} {b : Nat} (sb : S b = false) : ∀ n, b < n → cst w (fun h => S h || h == b) n = cst w S n + w b := by
  intro n
  induction n with
  | zero => intro h; omega
  | succ n ih =>
    intro h
    unfold cst at ih ⊢
    rw [sumB, sumB]
    by_cases e : b = n
    · subst e
      have : sumB (fun h => if (S h || h == b) = true then w h else 0) b = sumB (fun h => if S h then w h else 0) b := sumB_ext (fun i hi => by
        have : (i == b) = false := by simp; omega
        simp [this])
      rw [this, sb]
      simp
    · rw [ih (by omega)]
      have : (n == b) = false := by simp; omega
      simp [this]
      omega
/-! NIGHTS: an even spread costs least -/
def evE (P : Nat → Nat) (d h : Nat) : Nat := h % d * P (h / d + 1) + (d - h % d) * P (h / d)
section CONV
variable {D : Nat → Nat}
theorem ln_up (hD : ∀ i j, i ≤ j → D i ≤ D j) (q : Nat) : ∀ j, sumB D q + j * D q ≤ sumB D (q + j) := by
  intro j
  induction j with
  | zero => simp
  | succ j ih =>
    rw [← Nat.add_assoc, sumB, Nat.succ_mul]
    have := hD q (q + j) (by omega)
    omega
theorem ln_dn (hD : ∀ i j, i ≤ j → D i ≤ D j) (k : Nat) : ∀ j, sumB D (k + j) ≤ sumB D k + j * D (k + j) := by
  intro j
  induction j with
  | zero => simp
  | succ j ih =>
    rw [← Nat.add_assoc, sumB, Nat.succ_mul]
    have h1 := hD (k + j) (k + j + 1) (by omega)
    have h2 : j * D (k + j) ≤ j * D (k + j + 1) := Nat.mul_le_mul_left _ h1
    omega
/-- the line at q lies below -/
theorem ln (hD : ∀ i j, i ≤ j → D i ≤ D j) (k q : Nat) : sumB D q + k * D q ≤ sumB D k + q * D q := by
  rcases Nat.le_total q k with h | h
  · obtain ⟨j, rfl⟩ : ∃ j, k = q + j := ⟨k - q, by omega⟩
    have := ln_up hD q j
    rw [Nat.add_mul]
    omega
  · obtain ⟨j, rfl⟩ : ∃ j, q = k + j := ⟨q - k, by omega⟩
    have := ln_dn hD k j
    rw [Nat.add_mul]
    omega
theorem evE_ln (hD : ∀ i j, i ≤ j → D i ≤ D j) (q d h : Nat) (hd : 0 < d) : d * sumB D q + h * D q ≤ evE (sumB D) d h + d * (q * D q) := by
  have hr : h % d < d := Nat.mod_lt _ hd
  have hh : d * (h / d) + h % d = h := Nat.div_add_mod h d
  unfold evE
  generalize h % d = r at hr hh ⊢
  generalize h / d = e at hh ⊢
  obtain ⟨t, rfl⟩ : ∃ t, d = r + t := ⟨d - r, by omega⟩
  rw [show r + t - r = t by omega]
  have l1 := Nat.mul_le_mul_left r (ln hD (e + 1) q)
  have l2 := Nat.mul_le_mul_left t (ln hD e q)
  subst hh
  rw [Nat.mul_add, Nat.mul_add] at l1 l2
  have e1 : ((r + t) * e + r) * D q = r * ((e + 1) * D q) + t * (e * D q) := by
    rw [Nat.add_mul, Nat.add_mul, Nat.add_mul, ← Nat.mul_assoc, ← Nat.mul_assoc, Nat.mul_add, Nat.add_mul, Nat.mul_one]
    omega
  rw [e1, Nat.add_mul r t (sumB D q), Nat.add_mul r t (q * D q)]
  omega
/-- no split costs less than the even one -/
theorem evE_min (hD : ∀ i j, i ≤ j → D i ≤ D j) (d h k : Nat) (hk : d = 0 → h ≤ k) : evE (sumB D) (d + 1) h ≤ sumB D k + (if d = 0 then 0 else evE (sumB D) d (h - k)) := by
  have hr : h % (d + 1) < d + 1 := Nat.mod_lt _ (by omega)
  have hh : (d + 1) * (h / (d + 1)) + h % (d + 1) = h := Nat.div_add_mod h (d + 1)
  have l1 := ln hD k (h / (d + 1))
  have base : evE (sumB D) (d + 1) h = (d + 1) * sumB D (h / (d + 1)) + h % (d + 1) * D (h / (d + 1)) := by
    unfold evE
    generalize h % (d + 1) = r at hr hh ⊢
    generalize h / (d + 1) = e at hh ⊢
    obtain ⟨t, ht⟩ : ∃ t, d + 1 = r + t := ⟨d + 1 - r, by omega⟩
    rw [ht, show r + t - r = t by omega, sumB, Nat.mul_add, Nat.add_mul]
    omega
  rw [base]
  have hm : h * D (h / (d + 1)) = d * ((h / (d + 1)) * D (h / (d + 1))) + (h / (d + 1)) * D (h / (d + 1)) + h % (d + 1) * D (h / (d + 1)) := by
    conv => lhs; rw [← hh]
    rw [Nat.add_mul, Nat.mul_assoc, Nat.succ_mul]
    have : ((d + 1) * (h / (d + 1)) + h % (d + 1)) / (d + 1) = h / (d + 1) := by rw [hh]
    rw [this]
  have hsub : h * D (h / (d + 1)) ≤ k * D (h / (d + 1)) + (h - k) * D (h / (d + 1)) := by
    rw [← Nat.add_mul]
    exact Nat.mul_le_mul_right _ (by omega)
  rw [Nat.succ_mul]
  by_cases d0 : d = 0
  · subst d0
    have : h - k = 0 := by have := hk rfl; omega
    rw [this] at hsub
    simp at hsub hm l1 ⊢
    omega
  · rw [if_neg d0]
    have l2 := evE_ln hD (h / (d + 1)) d (h - k) (by omega)
    omega
theorem evE_at (d h : Nat) : evE (sumB D) (d + 1) h = sumB D (h / (d + 1)) + (if d = 0 then 0 else evE (sumB D) d (h - h / (d + 1))) := by
  have hr : h % (d + 1) < d + 1 := Nat.mod_lt _ (by omega)
  have hh : (d + 1) * (h / (d + 1)) + h % (d + 1) = h := Nat.div_add_mod h (d + 1)
  by_cases d0 : d = 0
  · subst d0
    simp [evE, Nat.mod_one]
  · rw [if_neg d0]
    have e : h - h / (d + 1) = d * (h / (d + 1)) + h % (d + 1) := by rw [Nat.succ_mul] at hh; omega
    rw [e]
    unfold evE
    generalize h % (d + 1) = r at hr hh ⊢
    generalize h / (d + 1) = q at hh ⊢
    by_cases rd : r = d
    · subst rd
      rw [show r * q + r = r * (q + 1) by rw [Nat.mul_add, Nat.mul_one], Nat.mul_mod_right, Nat.mul_div_cancel_left _ (by omega), show r + 1 - r = 1 by omega]
      simp
      omega
    · rw [Nat.mul_add_mod, Nat.mod_eq_of_lt (by omega), Nat.mul_add_div (by omega), Nat.div_eq_of_lt (show r < d by omega)]
      simp only [Nat.add_zero]
      rw [show d + 1 - r = (d - r) + 1 by omega, Nat.succ_mul]
      omega
end CONV
/-- the even split may be slept -/
theorem ev_fit {d h most : Nat} (h1 : h ≤ (d + 1) * most) : h / (d + 1) ≤ most ∧ h - h / (d + 1) ≤ d * most := by
  have hr : h % (d + 1) < d + 1 := Nat.mod_lt _ (by omega)
  have hh : (d + 1) * (h / (d + 1)) + h % (d + 1) = h := Nat.div_add_mod h (d + 1)
  have q1 : h / (d + 1) ≤ most := by
    rcases Nat.lt_or_ge most (h / (d + 1)) with z | z
    · have := Nat.mul_le_mul_left (d + 1) (show most + 1 ≤ h / (d + 1) by omega)
      rw [Nat.mul_add] at this
      omega
    · exact z
  refine ⟨q1, ?_⟩
  rw [Nat.succ_mul] at hh h1
  rcases Nat.lt_or_eq_of_le q1 with z | z
  · have := Nat.mul_le_mul_left d (show h / (d + 1) + 1 ≤ most by omega)
    rw [Nat.mul_add] at this
    omega
  · rw [z] at hh ⊢
    omega
def bst (w : Nat → Nat) (F : Nat → Bool) : Nat → Option Nat
  | 0 => none
  | h + 1 => match bst w F h with
    | none => if F h then some h else none
    | some b => if F h && decide (w h < w b) then some h else some b
theorem bst_none {w : Nat → Nat} {F : Nat → Bool} : ∀ {n}, bst w F n = none → ∀ h, h < n → F h = false := by
  intro n
  induction n with
  | zero => intro _ h hh; omega
  | succ n ih =>
    intro e h hh
    rw [bst] at e
    cases eb : bst w F n with
    | none =>
      rw [eb] at e
      by_cases q : h = n
      · subst q
        cases ef : F h
        · rfl
        · rw [ef] at e; simp at e
      · exact ih eb h (by omega)
    | some b =>
      rw [eb] at e
      simp only at e
      split at e <;> cases e
theorem bst_some {w : Nat → Nat} {F : Nat → Bool} : ∀ {n b}, bst w F n = some b → b < n ∧ F b = true ∧ ∀ a, a < n → F a = true → w b < w a ∨ (w b = w a ∧ b ≤ a) := by
  intro n
  induction n with
  | zero => intro b e; cases e
  | succ n ih =>
    intro b e
    rw [bst] at e
    cases eb : bst w F n with
    | none =>
      rw [eb] at e
      simp only at e
      split at e
      · next ef =>
        cases e
        refine ⟨by omega, ef, fun a ha fa => ?_⟩
        by_cases q : a = n
        · subst q; omega
        · have := bst_none eb a (by omega); rw [this] at fa; cases fa
      · cases e
    | some b' =>
      rw [eb] at e
      simp only at e
      obtain ⟨i1, i2, i3⟩ := ih eb
      split at e
      · next ef =>
        cases e
        simp at ef
        refine ⟨by omega, ef.1, fun a ha fa => ?_⟩
        by_cases q : a = n
        · subst q; omega
        · have := i3 a (by omega) fa; omega
      · next ef =>
        cases e
        refine ⟨by omega, i2, fun a ha fa => ?_⟩
        by_cases q : a = n
        · subst q
          simp [fa] at ef
          omega
        · exact i3 a (by omega) fa
/-- the hours taken, one after the other -/
def gr (w : Nat → Nat) (op : Nat) : Nat → Nat
  | 0 => 0
  | i + 1 => match bst w (dif op (gr w op i)).testBit 10 with
    | none => gr w op i
    | some b => gr w op i ||| 2 ^ b
def grw (w : Nat → Nat) (op i : Nat) : Nat := (bst w (dif op (gr w op i)).testBit 10).getD 0
theorem or_lt10 {s b : Nat} (hs : s < 1024) (hb : b < 10) : s ||| 2 ^ b < 1024 := Nat.or_lt_two_pow (n := 10) hs (Nat.pow_lt_pow_right (by decide) hb)
theorem gr_lt (w : Nat → Nat) (op : Nat) : ∀ i, gr w op i < 1024 := by
  intro i
  induction i with
  | zero => show 0 < 1024; decide
  | succ i ih =>
    rw [gr]
    cases e : bst w (dif op (gr w op i)).testBit 10 with
    | none => exact ih
    | some b => exact or_lt10 ih (bst_some e).1
theorem or_tb (s b h : Nat) : (s ||| 2 ^ b).testBit h = (s.testBit h || h == b) := by
  rw [Nat.testBit_or, Nat.testBit_two_pow]
  congr 1
  by_cases q : b = h
  · subst q; simp
  · rw [decide_eq_false q]; symm; simp; omega
theorem grd_ok (w : Nat → Nat) (op : Nat) : ∀ i, i ≤ pc op → pc (gr w op i) = i ∧ IS w op.testBit (gr w op i).testBit 10 ∧ (i < pc op → ∃ b, b < 10 ∧ op.testBit b = true ∧ (gr w op i).testBit b = false ∧ gr w op (i + 1) = gr w op i ||| 2 ^ b ∧ grw w op i = b ∧ cst w (gr w op (i + 1)).testBit 10 = cst w (gr w op i).testBit 10 + w b) := by
  have nx : ∀ i, pc (gr w op i) = i → IS w op.testBit (gr w op i).testBit 10 → i < pc op → ∃ b, b < 10 ∧ op.testBit b = true ∧ (gr w op i).testBit b = false ∧ gr w op (i + 1) = gr w op i ||| 2 ^ b ∧ grw w op i = b ∧ cst w (gr w op (i + 1)).testBit 10 = cst w (gr w op i).testBit 10 + w b ∧ pc (gr w op (i + 1)) = i + 1 ∧ IS w op.testBit (gr w op (i + 1)).testBit 10 := by
    intro i h1 h2 h3
    obtain ⟨q, q1, q2, q3⟩ := cnt_ex (S := (gr w op i).testBit) (T := op.testBit) 10 (by unfold pc at h1 h3; omega)
    cases e : bst w (dif op (gr w op i)).testBit 10 with
    | none =>
      have := bst_none e q q1
      rw [dif_tb, q2, q3] at this
      cases this
    | some b =>
      obtain ⟨b1, b2, b3⟩ := bst_some e
      rw [dif_tb] at b2
      simp at b2
      have eg : gr w op (i + 1) = gr w op i ||| 2 ^ b := by rw [gr, e]
      have et : (gr w op (i + 1)).testBit = fun h => (gr w op i).testBit h || h == b := funext fun h => by rw [eg, or_tb]
      refine ⟨b, b1, b2.1, b2.2, eg, by rw [grw, e]; rfl, by rw [et]; exact cst_add b2.2 10 b1, ?_, ?_⟩
      · unfold pc at h1 ⊢
        rw [et, cnt_add b2.2 10 b1, h1]
      · rw [et]
        refine IS_add h2 b1 b2.1 b2.2 (fun a ha oa sa => b3 a ha ?_)
        rw [dif_tb, oa, sa]
        rfl
  intro i
  induction i with
  | zero =>
    intro _
    have h1 : pc (gr w op 0) = 0 := by show pc 0 = 0; decide
    have h2 : IS w op.testBit (gr w op 0).testBit 10 := ⟨fun h _ e => by simp [gr] at e, fun a b _ _ e => by simp [gr] at e⟩
    refine ⟨h1, h2, fun h3 => ?_⟩
    obtain ⟨b, k1, k2, k3, k4, k5, k6, -⟩ := nx 0 h1 h2 h3
    exact ⟨b, k1, k2, k3, k4, k5, k6⟩
  | succ i ih =>
    intro hi
    obtain ⟨h1, h2, -⟩ := ih (by omega)
    obtain ⟨b, k1, k2, k3, k4, k5, k6, k7, k8⟩ := nx i h1 h2 (by omega)
    refine ⟨k7, k8, fun h3 => ?_⟩
    obtain ⟨b, k1, k2, k3, k4, k5, k6, -⟩ := nx (i + 1) k7 k8 h3
    exact ⟨b, k1, k2, k3, k4, k5, k6⟩
theorem grw_mono {w : Nat → Nat} {op i : Nat} (h : i + 1 < pc op) : w (grw w op i) ≤ w (grw w op (i + 1)) := by
  obtain ⟨-, -, h1⟩ := grd_ok w op i (by omega)
  obtain ⟨-, h2, h3⟩ := grd_ok w op (i + 1) (by omega)
  obtain ⟨b, k1, k2, k3, k4, k5, k6⟩ := h1 (by omega)
  obtain ⟨b', l1, l2, l3, l4, l5, l6⟩ := h3 h
  rw [k5, l5]
  have := h2.2 b b' k1 l1 (by rw [k4, or_tb]; simp) l2 l3
  omega
theorem bset_self {s : Nat} (hs : s < 1024) : bset s.testBit 10 = s := by
  apply Nat.eq_of_testBit_eq
  intro i
  rw [bset_tb]
  by_cases h : i < 10
  · simp [h]
  · rw [Nat.testBit_lt_two_pow (i := i) (Nat.lt_of_lt_of_le hs (Nat.pow_le_pow_right (n := 2) (by decide) (show 10 ≤ i by omega)))]
    simp
theorem gr_opt {w : Nat → Nat} {op i t : Nat} (hi : i ≤ pc op) (ht : t < 1024) (hd : dif t op = 0) (hp : pc t = i) : cst w (gr w op i).testBit 10 ≤ cst w t.testBit 10 ∧ (cst w (gr w op i).testBit 10 = cst w t.testBit 10 → gr w op i ≤ t) := by
  obtain ⟨h1, h2, -⟩ := grd_ok w op i hi
  have := IS_opt h2 (T := t.testBit) (fun h _ e => by
    have z : (dif t op).testBit h = false := by rw [hd]; simp
    rw [dif_tb, e] at z
    simpa using z) (by unfold pc at h1 hp; omega)
  rw [bset_self (gr_lt w op i), bset_self ht] at this
  exact this
theorem gr_sub {w : Nat → Nat} {op i : Nat} (hi : i ≤ pc op) : dif (gr w op i) op = 0 := by
  obtain ⟨h1, h2, -⟩ := grd_ok w op i hi
  apply Nat.eq_of_testBit_eq
  intro h
  rw [dif_tb, Nat.zero_testBit]
  by_cases q : h < 10
  · cases e : (gr w op i).testBit h
    · rfl
    · rw [h2.1 h q e]; rfl
  · rw [Nat.testBit_lt_two_pow (i := h) (Nat.lt_of_lt_of_le (gr_lt w op i) (Nat.pow_le_pow_right (n := 2) (by decide) (show 10 ≤ h by omega)))]
    rfl
/-- sets with so many hours: none, if the hours don't do -/
theorem sub_pcle {t op : Nat} (hd : dif t op = 0) : pc t ≤ pc op := by
  rcases Nat.lt_or_ge (pc op) (pc t) with q | q
  · obtain ⟨b, h1, h2, h3⟩ := cnt_ex (S := op.testBit) (T := t.testBit) 10 q
    have z : (dif t op).testBit b = false := by rw [hd]; simp
    rw [dif_tb, h2, h3] at z
    cases z
  · exact q
