/-! FRACTIONS; trials of hours -/
def sgI (s : Bool) (a : Nat) : Int32 := if s then 0 - nI a else nI a
def sgL (s : Bool) (a : Nat) : Int64 := if s then 0 - lN a else lN a
def frV (s : Bool) (a b part : Nat) : Int32 := if part = 0 then sgI s (a / Nat.gcd a b) else nI (b / Nat.gcd a b)
theorem negI_toInt {n : Nat} (h : n < 2 ^ 31) : (0 - nI n).toInt = -(n : Int) := by
  rw [Int32.toInt_sub, nI_toInt h, show (0 : Int32).toInt = 0 from rfl, Int.bmod_def]
  split <;> omega
theorem neg_divI {a d : Nat} (ha : a < 2 ^ 31) (h0 : 0 < d) (hd : d < 2 ^ 31) : (0 - nI a) / nI d = 0 - nI (a / d) := by
  have hq : a / d ≤ a := Nat.div_le_self a d
  apply Int32.toInt_inj.mp
  rw [Int32.toInt_div, negI_toInt ha, negI_toInt (by omega), nI_toInt hd, Int.neg_tdiv, ← Int.ofNat_tdiv]
  generalize a / d = q at hq
  rw [Int.bmod_def]
  split <;> omega
theorem negL_toInt {n : Nat} (h : n < 2 ^ 31) : (0 - lN n).toInt = -(n : Int) := by
  rw [Int64.toInt_sub, lN_toInt h, show (0 : Int64).toInt = 0 from rfl, Int.bmod_def]
  split <;> omega
theorem neg_divL {a d : Nat} (ha : a < 2 ^ 31) (h0 : 0 < d) (hd : d < 2 ^ 31) : (0 - lN a) / lN d = 0 - lN (a / d) := by
  have hq : a / d ≤ a := Nat.div_le_self a d
  apply Int64.toInt_inj.mp
  rw [Int64.toInt_div, negL_toInt ha, negL_toInt (by omega), lN_toInt hd, Int.neg_tdiv, ← Int.ofNat_tdiv]
  generalize a / d = q at hq
  rw [Int.bmod_def]
  split <;> omega
theorem sgI_div {s : Bool} {a d : Nat} (ha : a < 2 ^ 31) (h0 : 0 < d) (hd : d < 2 ^ 31) : sgI s a / nI d = sgI s (a / d) := by
  cases s
  · exact pk_div ha h0 hd
  · exact neg_divI ha h0 hd
theorem sgL_div {s : Bool} {a d : Nat} (ha : a < 2 ^ 31) (h0 : 0 < d) (hd : d < 2 ^ 31) : sgL s a / lN d = sgL s (a / d) := by
  cases s
  · exact pk_lDiv (by omega) h0 (by omega)
  · exact neg_divL ha h0 hd
theorem sgL_i (s : Bool) (a : Nat) : (sgL s a).toInt32 = sgI s a := by
  cases s
  · exact lN_i a
  · show (0 - lN a).toInt32 = 0 - nI a
    rw [Int64.toInt32_sub, lN_i]
    rfl
theorem sub_sgI (p q : Nat) : nI p - nI q = sgI (decide (p < q)) (p - q + (q - p)) := by
  by_cases h : p < q
  · rw [decide_eq_true h, show p - q + (q - p) = q - p by omega]
    show nI p - nI q = 0 - nI (q - p)
    rw [← pk_sub (by omega : p ≤ q)]
    apply Int32.toBitVec_inj.mp
    simp only [Int32.toBitVec_sub]
    generalize (nI p).toBitVec = x
    generalize (nI q).toBitVec = y
    apply BitVec.eq_of_toNat_eq
    simp only [BitVec.toNat_sub, show ((0 : Int32).toBitVec).toNat = 0 from rfl]
    have := x.isLt
    have := y.isLt
    omega
  · rw [decide_eq_false h, show p - q + (q - p) = p - q by omega]
    exact pk_sub (by omega)
theorem sub_sgL (p q : Nat) : lN p - lN q = sgL (decide (p < q)) (p - q + (q - p)) := by
  by_cases h : p < q
  · rw [decide_eq_true h, show p - q + (q - p) = q - p by omega]
    show lN p - lN q = 0 - lN (q - p)
    rw [← lN_sub (by omega : p ≤ q)]
    apply Int64.toBitVec_inj.mp
    simp only [Int64.toBitVec_sub]
    generalize (lN p).toBitVec = x
    generalize (lN q).toBitVec = y
    apply BitVec.eq_of_toNat_eq
    simp only [BitVec.toNat_sub, show ((0 : Int64).toBitVec).toNat = 0 from rfl]
    have := x.isLt
    have := y.isLt
    omega
  · rw [decide_eq_false h, show p - q + (q - p) = p - q by omega]
    exact lN_sub (by omega)
section FRAC
variable {N : Nat} {u : SG}
theorem r_div_l : ∀ (n p q : Nat), q < n → q ≤ 60 → p < 2 ^ 31 → gX11_divisor_4 N n (nI p) (nI q) u = some (nI (Nat.gcd q p), u) := by
  intro n
  induction n with
  | zero => intro p q h; omega
  | succ n ih =>
    intro p q h1 h2 h3
    rw [gX11_divisor_4]
    by_cases e : q = 0
    · subst e
      rw [if_pos nI_0, Nat.gcd_zero_left]
    · have := Nat.mod_lt p (by omega : 0 < q)
      rw [if_neg (nI_ne0 (by omega) (by omega)), if_neg (nI_ne0 (by omega) (by omega)), bs_eq, pk_rem h3 (by omega) (by omega), ih q (p % q) (by omega) (by omega) (by omega), ← Nat.gcd_rec]
theorem r_div {p q : Nat} (hp : p ≤ 60) (hq : q < 2 ^ 31) (hN : 2000 ≤ N) : fX11_divisor N (nI p) (nI q) u = some (nI (Nat.gcd q p), u) := by
  obtain ⟨n, hn⟩ : ∃ j, N = j + 1 := ⟨N - 1, by omega⟩
  show gX11_divisor_4 N N (nI p) (nI q) u = _
  conv => lhs; arg 2; rw [hn]
  rw [gX11_divisor_4]
  by_cases e : q = 0
  · subst e
    rw [if_pos nI_0, Nat.gcd_zero_left]
  · have h2 := Nat.mod_le p q
    rw [if_neg (nI_ne0 (by omega) hq), if_neg (nI_ne0 (by omega) hq), bs_eq, pk_rem (by omega) (by omega) hq, r_div_l n q (p % q) (by omega) (by omega) hq, ← Nat.gcd_rec]
theorem gcd_pos' {a b : Nat} (hb : 0 < b) (hb2 : b ≤ 60) : 0 < Nat.gcd a b ∧ Nat.gcd a b ≤ 60 := ⟨Nat.gcd_pos_of_pos_right _ hb, Nat.le_trans (Nat.le_of_dvd hb (Nat.gcd_dvd_right a b)) hb2⟩
theorem r_frac {s : Bool} {a b part : Nat} (ha : a < 2 ^ 31) (hb : 0 < b) (hb2 : b ≤ 60) (hp : part ≤ 1) (hN : 2000 ≤ N) : fX11_fraction N (sgI s a) (nI b) (nI part) u = some (frV s a b part, u) := by
  obtain ⟨k1, k2⟩ := gcd_pos' (a := a) hb hb2
  have key : gX11_fraction_11 N (sgI s a) (nI b) (nI part) (nI b) (nI a) u = some (frV s a b part, u) := by
    unfold gX11_fraction_11
    rw [r_div hb2 ha hN, cl_some]
    unfold frV
    rcases (by omega : part = 0 ∨ part = 1) with rfl | rfl
    · rw [if_pos nI_0, if_neg (nI_ne0 k1 (by omega)), if_pos rfl, sgI_div ha k1 (by omega)]
    · rw [if_neg (by decide), if_neg (nI_ne0 k1 (by omega)), if_neg (by decide), pk_div (by omega) k1 (by omega)]
  unfold fX11_fraction
  cases s with
  | false => rw [if_pos (show 0 ≤ sgI false a from nI_pos' ha)]; exact key
  | true =>
    by_cases e : a = 0
    · subst e
      rw [if_pos (by decide)]
      exact key
    · have e1 : (0 - nI a).toInt = -(a : Int) := by
        rw [Int32.toInt_sub, nI_toInt ha, show (0 : Int32).toInt = 0 from rfl, Int.bmod_def]
        split <;> omega
      rw [if_neg (by rw [Int32.le_iff_toInt_le]; show ¬ (0 : Int32).toInt ≤ (0 - nI a).toInt; rw [e1, show (0 : Int32).toInt = 0 from rfl]; omega)]
      have e2 : (0 : Int32) - sgI true a = nI a := by
        show 0 - (0 - nI a) = nI a
        apply Int32.toBitVec_inj.mp
        simp only [Int32.toBitVec_sub]
        generalize (nI a).toBitVec = x
        apply BitVec.eq_of_toNat_eq
        simp only [BitVec.toNat_sub, show ((0 : Int32).toBitVec).toNat = 0 from rfl]
        have := x.isLt
        omega
      rw [e2]
      exact key
theorem c_frac_l {s : Bool} {a b part : Nat} (ha : a < 2 ^ 31) (hb : b < 2 ^ 31) (hp : part ≤ 1) : ∀ (n p q i : Nat), q < n → q ≤ 60 → p < 2 ^ 31 → i + q < 200 → 0 < Nat.gcd q p → gX10_fraction_12 N n (sgL s a) (lN b) (nI part) (lN p) (lN q) (nI i) u = some ((if part = 0 then sgI s (a / Nat.gcd q p) else nI (b / Nat.gcd q p)), u) := by
  intro n
  induction n with
  | zero => intro p q i h; omega
  | succ n ih =>
    intro p q i h1 h2 h3 h4 h5
    rw [gX10_fraction_12, show (200 : Int32) = nI 200 from rfl, if_neg (nI_ge (by omega) (by decide))]
    by_cases e : q = 0
    · subst e
      rw [if_pos (by decide)]
      rw [Nat.gcd_zero_left] at h5 ⊢
      unfold gX10_fraction_48
      have hp0 : ¬ lN p = 0 := by rw [show (0 : Int64) = lN 0 from rfl, lN_eq h3 (by decide)]; omega
      rw [if_neg (fun z => hp0 ((lg_cmp_eq _ _).mp z))]
      rcases (by omega : part = 0 ∨ part = 1) with rfl | rfl
      · rw [if_pos nI_0, if_neg hp0, if_pos rfl, sgL_div ha h5 h3, sgL_i]
      · rw [if_neg (by decide), if_neg hp0, if_neg (by decide), pk_lDiv (by omega) h5 (by omega), lN_i]
    · have := Nat.mod_lt p (by omega : 0 < q)
      have hq0 : ¬ lN q = 0 := by rw [show (0 : Int64) = lN 0 from rfl, lN_eq (by omega) (by decide)]; omega
      rw [if_neg (fun z => hq0 ((lg_cmp_eq _ _).mp z)), if_neg hq0, bs_eq, pk_lRem (by omega) (by omega) (by omega), lit_1, nI_add, ih q (p % q) (i + 1) (by omega) (by omega) (by omega) (by omega) (by rw [← Nat.gcd_rec]; exact h5), ← Nat.gcd_rec]
theorem c_frac {s : Bool} {a b part : Nat} (ha : a < 2 ^ 31) (hb : 0 < b) (hb2 : b ≤ 60) (hp : part ≤ 1) (hN : 2000 ≤ N) : fX10_fraction N (sgL s a) (lN b) (nI part) u = some (frV s a b part, u) := by
  obtain ⟨k1, k2⟩ := gcd_pos' (a := a) hb hb2
  have key : gX10_fraction_12 N N (sgL s a) (lN b) (nI part) (lN b) (lN a) 0 u = some (frV s a b part, u) := by
    obtain ⟨n, hn⟩ : ∃ j, N = j + 1 := ⟨N - 1, by omega⟩
    conv => lhs; arg 2; rw [hn]
    rw [gX10_fraction_12, if_neg (by decide)]
    by_cases e : a = 0
    · subst e
      rw [if_pos (by decide)]
      unfold gX10_fraction_48 frV
      have hp0 : ¬ lN b = 0 := by rw [show (0 : Int64) = lN 0 from rfl, lN_eq (by omega) (by decide)]; omega
      rw [if_neg (fun z => hp0 ((lg_cmp_eq _ _).mp z)), Nat.gcd_zero_left]
      rcases (by omega : part = 0 ∨ part = 1) with rfl | rfl
      · rw [if_pos nI_0, if_neg hp0, if_pos rfl, sgL_div (by omega) hb (by omega), sgL_i]
      · rw [if_neg (by decide), if_neg hp0, if_neg (by decide), pk_lDiv (by omega) hb (by omega), lN_i]
    · have h2 := Nat.mod_le b a
      have hq0 : ¬ lN a = 0 := by rw [show (0 : Int64) = lN 0 from rfl, lN_eq ha (by decide)]; omega
      rw [if_neg (fun z => hq0 ((lg_cmp_eq _ _).mp z)), if_neg hq0, bs_eq, pk_lRem (by omega) (by omega) (by omega), lit_0, lit_1, nI_add, c_frac_l ha (by omega) hp n a (b % a) (0 + 1) (by omega) (by omega) ha (by omega) (by rw [← Nat.gcd_rec]; exact k1), ← Nat.gcd_rec]
      rfl
  unfold fX10_fraction fJ9_abs_067f4
  cases s with
  | false =>
    have : (0 : Int64) ≤ sgL false a := by
      show lN 0 ≤ lN a
      rw [lN_le (by decide) ha]
      omega
    rw [if_pos ((lg_cmp_ge _ _).mpr this), cl_some]
    exact key
  | true =>
    by_cases e : a = 0
    · subst e
      rw [if_pos (by decide), cl_some]
      exact key
    · have e1 : (0 - lN a).toInt = -(a : Int) := by
        rw [Int64.toInt_sub, lN_toInt ha, show (0 : Int64).toInt = 0 from rfl, Int.bmod_def]
        split <;> omega
      rw [if_neg (by rw [lg_cmp_ge, Int64.le_iff_toInt_le]; show ¬ (0 : Int64).toInt ≤ (0 - lN a).toInt; rw [e1, show (0 : Int64).toInt = 0 from rfl]; omega), cl_some]
      have e2 : (0 : Int64) - sgL true a = lN a := by
        show 0 - (0 - lN a) = lN a
        apply Int64.toBitVec_inj.mp
        simp only [Int64.toBitVec_sub]
        generalize (lN a).toBitVec = x
        apply BitVec.eq_of_toNat_eq
        simp only [BitVec.toNat_sub, show ((0 : Int64).toBitVec).toNat = 0 from rfl]
        have := x.isLt
        omega
      rw [e2]
      exact key
end FRAC
