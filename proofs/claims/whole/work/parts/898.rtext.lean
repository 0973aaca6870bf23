/-! THE REFERENCE'S TEXT -/
theorem by_eq : ∀ n, n < 256 → (byI n = 32 ↔ n = 32) := by decide +kernel
theorem by_D : ∀ n, n < 256 → ((byI n < 48) ↔ (n < 48 ∨ 128 ≤ n)) ∧ ((57 < byI n) ↔ (57 < n ∧ n < 128)) := by decide +kernel
theorem by_S : ∀ n, n < 256 → ((byI n < 97) ↔ (n < 97 ∨ 128 ≤ n)) ∧ ((122 < byI n) ↔ (122 < n ∧ n < 128)) := by decide +kernel
theorem by_lo {n : Nat} (h : n < 128) : byI n = nI n := by unfold byI; rw [if_pos h]
def RX (u : SG) (m : Nat) (t : Nat → Nat) (T q : Nat) : Prop := zI u m 1 = nI T ∧ (∀ k, k < T → zI u (m + 1) k = byI (t k)) ∧ zI u m 8 = nI q ∧ q ≤ T
/-- it stands ahead of what begins at p -/
def RP (u : SG) (m : Nat) (t : Nat → Nat) (T p : Nat) : Prop := ∃ q, RX u m t T q ∧ sk t q = p
def F8 (m : Nat) : Nat → Nat → Prop := fun a k => a = m ∧ k = 8
theorem lN_shl8 {v b : Nat} (hv : v < 2 ^ 56) (hb : b < 256) : (lN v <<< ((8 : Int32).toInt64 &&& 63)) ||| lN b = lN (256 * v + b) := by
  apply Int64.toBitVec_inj.mp
  have hl : ∀ n, (lN n).toBitVec = BitVec.ofNat 64 n := fun n => rfl
  have e8 : ((8 : Int32).toInt64 &&& 63) = (8 : Int64) := by decide
  rw [e8, Int64.toBitVec_or, Int64.toBitVec_shiftLeft, hl, hl, hl, show (Int64.toBitVec 8).smod 64 = 8#64 by decide]
  apply BitVec.eq_of_toNat_eq
  rw [BitVec.toNat_or]
  have h8 : (BitVec.ofNat 64 v <<< 8#64).toNat = v <<< 8 := by
    rw [BitVec.shiftLeft_eq', BitVec.toNat_shiftLeft, BitVec.toNat_ofNat]
    have : (8#64).toNat = 8 := by decide
    rw [this, Nat.mod_eq_of_lt (show v < 2 ^ 64 by omega), Nat.mod_eq_of_lt]
    rw [Nat.shiftLeft_eq]
    omega
  rw [h8, BitVec.toNat_ofNat, BitVec.toNat_ofNat, Nat.mod_eq_of_lt (show b < 2 ^ 64 by omega), Nat.mod_eq_of_lt (show 256 * v + b < 2 ^ 64 by omega), ← Nat.shiftLeft_add_eq_or_of_lt (show b < 2 ^ 8 from hb), Nat.shiftLeft_eq]
  omega
theorem x_in32 {N : Nat} {u : SG} (a b c : Int32) : fX11_in N a.toInt64 b.toInt64 c.toInt64 u = some (if a < b then 0 else if c < a then 0 else 1, u) := by
  have e : ∀ x y : Int32, x.toInt64 < y.toInt64 ↔ x < y := fun x y => by rw [Int64.lt_iff_toInt_lt, Int32.lt_iff_toInt_lt, Int32.toInt_toInt64, Int32.toInt_toInt64]
  unfold fX11_in
  simp only [lg_cmp_lt, lg_cmp_gt, e]
  by_cases q : a < b
  · rw [if_pos q, if_pos q]
  · rw [if_neg q, if_neg q]
    split <;> rfl
section RTEXT
variable {N m T q : Nat} {u : SG} {t : Nat → Nat}
theorem RX.z {v : SG} {P : Nat → Nat → Prop} (h : RX u m t T q) (f : Fz P u v) (h1 : ¬ P m 1) (h2 : ∀ k, ¬ P (m + 1) k) (h3 : ¬ P m 8) : RX v m t T q := ⟨by rw [f.I h1]; exact h.1, fun k hk => by rw [f.I (h2 k)]; exact h.2.1 k hk, by rw [f.I h3]; exact h.2.2.1, h.2.2.2⟩
theorem RX.to (h : RX u m t T q) {r : Nat} (hr : r ≤ T) : RX (sI u m 8 (nI r)) m t T r := ⟨by rw [sI_n (by omega)]; exact h.1, fun k hk => by rw [sI_n (by omega)]; exact h.2.1 k hk, by rw [sI_s], hr⟩
theorem RP.z {v : SG} {P : Nat → Nat → Prop} {p : Nat} (h : RP u m t T p) (f : Fz P u v) (h1 : ¬ P m 1) (h2 : ∀ k, ¬ P (m + 1) k) (h3 : ¬ P m 8) : RP v m t T p := by
  obtain ⟨q, hq, e⟩ := h
  exact ⟨q, hq.z f h1 h2 h3, e⟩
theorem RP.le (hT : TP t T) {p : Nat} (h : RP u m t T p) : p ≤ T ∧ ¬ t p = 32 ∧ sk t p = p := by
  obtain ⟨q, hq, e⟩ := h
  have := sk_ok hT q
  rw [e] at this
  exact ⟨this.2.1 hq.2.2.2, this.2.2, sk_id hT this.2.2⟩
theorem r_isDig (h : RX u m t T q) (hT : TP t T) {p : Nat} (hp : p < 2 ^ 30) : hX11_isDigit N m (nI p) u = some (nI (b2n (isD (t p))), u) := by
  have h4 := hT.1
  unfold hX11_isDigit
  rw [h.1, ifle (by omega) (by omega)]
  by_cases q1 : T ≤ p
  · rw [if_pos q1, hT.2.2 p q1]; rfl
  · have tb := hT.2.1 p (by omega)
    obtain ⟨d1, d2⟩ := by_D _ tb
    rw [if_neg q1, ixI (by omega) (by decide), ixI (by omega) (by decide), nI_clamp (by omega), h.2.1 p (by omega)]
    unfold isD
    by_cases z1 : byI (t p) < 48
    · rw [if_pos z1]
      rcases d1.mp z1 with z | z
      · rw [decide_eq_false (show ¬ 48 ≤ t p by omega)]; rfl
      · rw [decide_eq_false (show ¬ t p ≤ 57 by omega), Bool.and_false]; rfl
    · rw [if_neg z1, decide_eq_true (show 48 ≤ t p by rw [d1] at z1; omega)]
      by_cases z2 : 57 < byI (t p)
      · rw [if_pos z2, decide_eq_false (show ¬ t p ≤ 57 by rw [d2] at z2; omega)]; rfl
      · rw [if_neg z2, decide_eq_true (show t p ≤ 57 by rw [d1] at z1; rw [d2] at z2; omega)]; rfl
theorem r_isLet (h : RX u m t T q) (hT : TP t T) {p : Nat} (hp : p < 2 ^ 30) : hX11_isLetter N m (nI p) u = some (nI (b2n (isS (t p))), u) := by
  have h4 := hT.1
  unfold hX11_isLetter
  rw [h.1, ifle (by omega) (by omega)]
  by_cases q1 : T ≤ p
  · rw [if_pos q1, hT.2.2 p q1]; rfl
  · have tb := hT.2.1 p (by omega)
    obtain ⟨d1, d2⟩ := by_S _ tb
    rw [if_neg q1, ixI (by omega) (by decide), ixI (by omega) (by decide), nI_clamp (by omega), h.2.1 p (by omega)]
    unfold isS
    by_cases z1 : byI (t p) < 97
    · rw [if_pos z1]
      rcases d1.mp z1 with z | z
      · rw [decide_eq_false (show ¬ 97 ≤ t p by omega)]; rfl
      · rw [decide_eq_false (show ¬ t p ≤ 122 by omega), Bool.and_false]; rfl
    · rw [if_neg z1, decide_eq_true (show 97 ≤ t p by rw [d1] at z1; omega)]
      by_cases z2 : 122 < byI (t p)
      · rw [if_pos z2, decide_eq_false (show ¬ t p ≤ 122 by rw [d2] at z2; omega)]; rfl
      · rw [if_neg z2, decide_eq_true (show t p ≤ 122 by rw [d1] at z1; rw [d2] at z2; omega)]; rfl
theorem r_see0 (h : RX u m t T q) (hT : TP t T) (hN : 2000 ≤ N) : ∃ u', hX11_see N m u = some (btI (t (sk t q)), u') ∧ RX u' m t T (sk t q) ∧ Fz (F8 m) u u' := by
  have h4 := hT.1
  obtain ⟨s1, s2, s3⟩ := sk_ok hT q
  have s2 := s2 h.2.2.2
  obtain ⟨r1, r2, r3, r4⟩ := ru_ok hT (f := isW) rfl q
  unfold hX11_see
  refine lps (fun n k v => hgX11_see_0 N n m v) (sk t q) (fun k v => q ≤ k ∧ RX v m t T k ∧ Fz (F8 m) u v) (fun r => ∃ u', r = some (btI (t (sk t q)), u') ∧ RX u' m t T (sk t q) ∧ Fz (F8 m) u u') ?_ ?_ N q u s1 (by omega) ⟨Nat.le_refl _, h, Fz.rf⟩
  · rintro n v ⟨-, h1, h2⟩
    refine ⟨v, ?_, h1, h2⟩
    have fin : hgX11_see_38 N m v = some (btI (t (sk t q)), v) := by
      unfold hgX11_see_38 btI
      rw [h1.1, h1.2.2.1, ifle (by omega) (by omega)]
      by_cases z : T ≤ sk t q
      · rw [if_pos z, if_pos (hT.2.2 _ z)]
      · rw [if_neg z, ixI (by omega) (by decide), nI_clamp (by omega), h1.2.1 _ (by omega), by_255 _ (hT.2.1 _ (by omega)), if_neg (t_256 hT (by omega))]
    rw [hgX11_see_0, fin, h1.1, h1.2.2.1, ifle (by omega) (by omega)]
    by_cases z : T ≤ sk t q
    · rw [if_pos z]
    · rw [if_neg z, ixI (by omega) (by decide), nI_clamp (by omega), h1.2.1 _ (by omega), if_neg (fun y => s3 ((by_eq _ (hT.2.1 _ (by omega))).mp y))]
  · rintro n k v hk ⟨h0, h1, h2⟩
    have w := r4 k h0 hk
    have w : t k = 32 := by simpa [isW] using w
    refine ⟨sI v m 8 (nI (k + 1)), ⟨by omega, h1.to (by omega), h2.tr (Fz.sI ⟨rfl, rfl⟩)⟩, ?_⟩
    rw [hgX11_see_0, h1.1, h1.2.2.1, if_neg (nI_ge (by omega) (by omega)), ixI (by omega) (by decide), nI_clamp (by omega), h1.2.1 _ (by omega), if_pos ((by_eq _ (hT.2.1 _ (by omega))).mpr w), bs_eq, lit_1, nI_add]
theorem r_see {p : Nat} (h : RP u m t T p) (hT : TP t T) (hN : 2000 ≤ N) : ∃ u', hX11_see N m u = some (btI (t p), u') ∧ RX u' m t T p ∧ Fz (F8 m) u u' := by
  obtain ⟨q, hq, rfl⟩ := h
  exact r_see0 hq hT hN
theorem RX.rp (hT : TP t T) {p : Nat} (h : RX u m t T p) (hp : ¬ t p = 32) : RP u m t T p := ⟨p, h, sk_id hT hp⟩
theorem r_isWord {p j : Nat} (h : RP u m t T p) (hT : TP t T) (hj : j < 22) (hN : 2000 ≤ N) : ∃ u', hX11_isWord N m (lN (WC j)) u = some (nI (b2n (wrO t p == some j)), u') ∧ RX u' m t T p ∧ Fz (F8 m) u u' := by
  have h4 := hT.1
  obtain ⟨hp, hp2, -⟩ := h.le hT
  obtain ⟨v, e, hx, f⟩ := r_see (N := N) h hT hN
  refine ⟨v, ?_, hx, f⟩
  unfold hX11_isWord
  rw [e, cl_some]
  obtain ⟨r1, r2, r3, r4⟩ := ru_ok hT (f := isS) rfl p
  have r2 := r2 hp
  have pl : ∀ k, k ≤ 8 → k ≤ ru t isS p - p → pkb t p k < 256 ^ k := by
    intro k
    induction k with
    | zero => intro _ _; show 0 < 1; decide
    | succ k ih =>
      intro h8 hk
      have := ih (by omega) (by omega)
      have := isS_lt (r4 (p + k) (by omega) (by omega))
      rw [pkb, Nat.pow_succ]
      omega
  have wcl : WC j < 2 ^ 63 := by
    have : ∀ i, i < 22 → WC i < 2 ^ 63 := by decide +kernel
    exact this j hj
  have key : ∀ n k, k ≤ ru t isS p - p → ru t isS p - p - k < n → hgX11_isWord_10 N n m (lN (WC j)) (lN (pkb t p (min k 8))) (nI k) v = some (nI (b2n (wrO t p == some j)), v) := by
    intro n k h1 h2
    refine lps (fun n k (_ : Unit) => hgX11_isWord_10 N n m (lN (WC j)) (lN (pkb t p (min k 8))) (nI k) v) (ru t isS p - p) (fun _ _ => True) (fun r => r = some (nI (b2n (wrO t p == some j)), v)) ?_ ?_ n k () h1 h2 trivial
    · intro n _ _
      try dsimp only
      rw [hgX11_isWord_10, hx.2.2.1, nI_add, show p + (ru t isS p - p) = ru t isS p by omega, r_isLet hx hT (by omega), cl_some, r3, if_pos (show nI (b2n false) = 0 from rfl)]
      cases es : isS (t p) with
      | false =>
        have e0 : ru t isS p = p := ru_self hT rfl es
        have ew : wrO t p = none := by unfold wrO; rw [es]; rfl
        rw [e0, Nat.sub_self, if_pos (by decide), ew]
        rfl
      | true =>
        have pd : isD (t p) = false := by
          have := isS_lt es
          unfold isD
          rw [decide_eq_false (show ¬ t p ≤ 57 by omega), Bool.and_false]
        have eE := tE_S pd es
        have lt : p < ru t isS p := by
          rcases Nat.lt_or_eq_of_le r1 with z | z
          · exact z
          · rw [← z, es] at r3; cases r3
        rw [if_neg (nI_nle (by omega) (by omega)), lit_8, ifle (by decide) (by omega)]
        have wi := wrO_iff (t := t) (p := p) hj
        by_cases q8 : 8 ≤ ru t isS p - p
        · rw [if_pos q8]
          have : ¬ wrO t p = some j := fun z => by
            have := (wi.mp z).2
            unfold wcO at this
            rw [eE, if_neg (by omega)] at this
            have := WC_pos j hj
            omega
          rw [show (wrO t p == some j) = false by simpa using this]
          rfl
        · rw [if_neg q8, Nat.min_eq_left (by omega)]
          have pb : pkb t p (ru t isS p - p) < 2 ^ 63 := Nat.lt_of_lt_of_le (pl _ (by omega) (Nat.le_refl _)) (Nat.le_trans (Nat.pow_le_pow_right (by decide) (show ru t isS p - p ≤ 7 by omega)) (by decide))
          have ec : wcO t p = pkb t p (ru t isS p - p) := by unfold wcO; rw [eE, if_pos (by omega)]
          by_cases qe : pkb t p (ru t isS p - p) = WC j
          · rw [if_pos (by rw [lg_cmp_eq, pk_lEQ pb wcl]; exact qe), wi.mpr ⟨es, by rw [ec]; exact qe⟩]
            rw [show (some j == some j) = true by simp]
            rfl
          · rw [if_neg (by rw [lg_cmp_eq, pk_lEQ pb wcl]; exact qe)]
            have : ¬ wrO t p = some j := fun z => qe (by rw [← ec]; exact (wi.mp z).2)
            rw [show (wrO t p == some j) = false by simpa using this]
            rfl
    · intro n k _ hk _
      refine ⟨(), trivial, ?_⟩
      have sk' := r4 (p + k) (by omega) (by omega)
      have sl := isS_lt sk'
      have plT := t_lt hT (p := p + k) (by omega)
      try dsimp only
      rw [hgX11_isWord_10, hx.2.2.1, nI_add, r_isLet hx hT (by omega), cl_some, sk', if_neg (show ¬ nI (b2n true) = 0 by decide), hx.2.2.1, nI_add, ixI (by omega) (by decide), bs_eq, nI_clamp (by omega), hx.2.1 _ plT, by_lo (by omega), show nI k + (1 : Int32) = nI (k + 1) by rw [lit_1, nI_add]]
      by_cases q8 : 8 ≤ k
      · rw [if_pos (show (8 : Int32) ≤ nI k by rw [lit_8]; exact nI_le q8 (by omega)), Nat.min_eq_right (by omega), Nat.min_eq_right (by omega)]
      · have pb : pkb t p k < 2 ^ 56 := Nat.lt_of_lt_of_le (pl k (by omega) (by omega)) (Nat.le_trans (Nat.pow_le_pow_right (by decide) (show k ≤ 7 by omega)) (by decide))
        rw [if_neg (show ¬ (8 : Int32) ≤ nI k by rw [lit_8]; exact nI_ge (by omega) (by decide)), Nat.min_eq_left (by omega), Nat.min_eq_left (by omega), nI_l (show t (p + k) < 2 ^ 31 by omega)]
        rw [lN_shl8 pb (by omega)]
        rfl
  have := key N 0 (Nat.zero_le _) (by omega)
  exact this
theorem r_pass {p : Nat} (h : RX u m t T p) (hT : TP t T) (hN : 2000 ≤ N) : ∃ u', hX11_passWord N m u = some ((), u') ∧ RX u' m t T (ru t isS p) ∧ Fz (F8 m) u u' := by
  have h4 := hT.1
  have hp := h.2.2.2
  obtain ⟨r1, r2, r3, r4⟩ := ru_ok hT (f := isS) rfl p
  have r2 := r2 hp
  unfold hX11_passWord
  refine lps (fun n k v => hgX11_passWord_0 N n m v) (ru t isS p) (fun k v => p ≤ k ∧ RX v m t T k ∧ Fz (F8 m) u v) (fun r => ∃ u', r = some ((), u') ∧ RX u' m t T (ru t isS p) ∧ Fz (F8 m) u u') ?_ ?_ N p u r1 (by omega) ⟨Nat.le_refl _, h, Fz.rf⟩
  · rintro n v ⟨-, h1, h2⟩
    refine ⟨v, ?_, h1, h2⟩
    rw [hgX11_passWord_0, h1.2.2.1, r_isLet h1 hT (by omega), cl_some, r3, if_pos (show nI (b2n false) = 0 from rfl)]
  · rintro n k v hk ⟨h0, h1, h2⟩
    refine ⟨sI v m 8 (nI (k + 1)), ⟨by omega, h1.to (by omega), h2.tr (Fz.sI ⟨rfl, rfl⟩)⟩, ?_⟩
    rw [hgX11_passWord_0, h1.2.2.1, r_isLet h1 hT (by omega), cl_some, r4 k h0 hk, if_neg (show ¬ nI (b2n true) = 0 by decide), bs_eq, h1.2.2.1, lit_1, nI_add]
/-- a word passed -/
theorem r_passW {p : Nat} (h : RX u m t T p) (hT : TP t T) (hs : isS (t p) = true) (hN : 2000 ≤ N) : ∃ u', hX11_passWord N m u = some ((), u') ∧ RP u' m t T (nx t p) ∧ Fz (F8 m) u u' := by
  obtain ⟨u', e, h1, f⟩ := r_pass (N := N) h hT hN
  have pd : isD (t p) = false := by
    have := isS_lt hs
    unfold isD
    rw [decide_eq_false (show ¬ t p ≤ 57 by omega), Bool.and_false]
  refine ⟨u', e, ⟨_, h1, ?_⟩, f⟩
  unfold nx
  rw [tE_S pd hs]
theorem r_fails0 (h9 : zI u m 9 = 0) (k p : Nat) : hX11_fails N m (nI k) (nI p) u = some (0, sI u m 9 (nI (1 + 8 * p + k))) := by
  unfold hX11_fails
  rw [h9, if_pos rfl, bs_eq, lit_1, lit_8, pk_mul, nI_add, nI_add]
/-- a number of lo to hi -/
def numS (t : Nat → Nat) (p l : Nat) (hi : Int32) : Except Nat Nat := match nmO t p with
  | none => .error (1 + 8 * p + if isD (t p) then 1 else 0)
  | some v => if nI v < nI l ∨ hi < nI v then .error (1 + 8 * p + 1) else .ok v
def F89 (m : Nat) : Nat → Nat → Prop := fun a k => a = m ∧ (k = 8 ∨ k = 9 ∨ k = 10)
def numQ (m : Nat) (t : Nat → Nat) (T p : Nat) (u : SG) (r : Option (Int32 × SG)) : Except Nat Nat → Prop
  | .error e => ∃ u', r = some (0, u') ∧ zI u' m 9 = nI e ∧ Fz (F89 m) u u'
  | .ok v => ∃ u', r = some (1, u') ∧ RP u' m t T (nx t p) ∧ zI u' m 10 = nI v ∧ zI u' m 9 = 0 ∧ Fz (F89 m) u u' ∧ v < 10 ^ 5
theorem r_num {p l : Nat} {hi : Int32} (h : RP u m t T p) (hT : TP t T) (h9 : zI u m 9 = 0) (hN : 2000 ≤ N) : numQ m t T p u (hX11_numberHere N m (nI l) hi u) (numS t p l hi) := by
  have h4 := hT.1
  obtain ⟨hp, hp2, -⟩ := h.le hT
  obtain ⟨v0, e0, hx, f0⟩ := r_see (N := N) h hT hN
  have f0' : Fz (F89 m) u v0 := f0.w (fun a k z => ⟨z.1, Or.inl z.2⟩)
  have h9' : zI v0 m 9 = 0 := by rw [f0.I (by unfold F8; omega)]; exact h9
  unfold hX11_numberHere numS
  rw [e0, cl_some, hx.2.2.1, r_isDig hx hT (by omega), cl_some]
  cases ed : isD (t p) with
  | false =>
    have en : nmO t p = none := by unfold nmO; rw [ed]; rfl
    rw [en]
    refine ⟨_, by rw [if_pos (show nI (b2n false) = 0 from rfl), hx.2.2.1, show (0 : Int32) = nI 0 from rfl, r_fails0 h9' 0 p, cl_some]; rfl, by rw [sI_s]; rfl, f0'.tr (Fz.sI ⟨rfl, Or.inr (Or.inl rfl)⟩)⟩
  | true =>
    rw [if_neg (show ¬ nI (b2n true) = 0 by decide), bs_eq, hx.2.2.1]
    obtain ⟨r1, r2, r3, r4⟩ := ru_ok hT (f := isD) rfl p
    have r2 := r2 hp
    have eE := tE_D ed
    generalize eR : (match nmO t p with
      | none => (Except.error (1 + 8 * p + if true = true then 1 else 0) : Except Nat Nat)
      | some v => if nI v < nI l ∨ hi < nI v then .error (1 + 8 * p + 1) else .ok v) = R
    refine lps (fun n k (s : Nat × SG) => hgX11_numberHere_34 N n m (nI l) hi (nI p) (nI s.1) s.2) (ru t isD p) (fun k s => p ≤ k ∧ s.1 = dv t p (min (k - p) 5) ∧ RX s.2 m t T k ∧ Fz (F89 m) u s.2 ∧ zI s.2 m 9 = 0) (fun r => numQ m t T p u r R) ?_ ?_ N p (0, v0) r1 (by omega) ⟨Nat.le_refl _, by rw [Nat.sub_self]; rfl, hx, f0', h9'⟩
    · rintro n ⟨s, v⟩ ⟨g0, g1, g2, g3, g4⟩
      dsimp only at g1 g2 g3 g4 ⊢
      have dl := dv_lt hT (p := p) (min (ru t isD p - p) 5) (fun i hi => r4 (p + i) (by omega) (by omega))
      have dl5 : dv t p (min (ru t isD p - p) 5) < 10 ^ 5 := Nat.lt_of_lt_of_le dl (Nat.pow_le_pow_right (by decide) (by omega))
      generalize ew : sI v m 10 (nI s) = w
      have fw : Fz (F89 m) v w := by rw [← ew]; exact Fz.sI ⟨rfl, Or.inr (Or.inr rfl)⟩
      have w8 : RX w m t T (ru t isD p) := by
        rw [← ew]
        exact ⟨by rw [sI_n (by omega)]; exact g2.1, fun k hk => by rw [sI_n (by omega)]; exact g2.2.1 k hk, by rw [sI_n (by omega)]; exact g2.2.2.1, g2.2.2.2⟩
      have w9 : zI w m 9 = 0 := by rw [← ew, sI_n (by omega)]; exact g4
      have w10 : zI w m 10 = nI s := by rw [← ew, sI_s]
      have bad : ∃ u', hgX11_numberHere_117 N m (nI p) w = some (0, u') ∧ zI u' m 9 = nI (1 + 8 * p + 1) ∧ Fz (F89 m) u u' := by
        refine ⟨_, ?_, ?_, (g3.tr fw).tr (Fz.sI (v := nI (1 + 8 * p + 1)) ⟨rfl, Or.inr (Or.inl rfl)⟩)⟩
        · unfold hgX11_numberHere_117
          rw [show (1 : Int32) = nI 1 from rfl, r_fails0 w9 1 p, cl_some, if_pos rfl]
        · rw [sI_s]
      have enm : nmO t p = if ru t isD p - p ≤ 5 then some (dv t p (ru t isD p - p)) else none := by unfold nmO; rw [if_pos ed, eE]
      rw [hgX11_numberHere_34, g2.2.2.1, r_isDig g2 hT (by omega), cl_some, r3, if_pos (show nI (b2n false) = 0 from rfl), bs_eq, ew, w8.2.2.1, pk_sub (by omega), lit_5, iflt (by decide) (by omega)]
      by_cases q5 : 5 < ru t isD p - p
      · rw [if_pos q5]
        rw [enm, if_neg (by omega)] at eR
        subst eR
        exact bad
      · rw [if_neg q5, x_in32, cl_some]
        rw [enm, if_pos (by omega)] at eR
        have g1' : s = dv t p (ru t isD p - p) := by rw [g1, Nat.min_eq_left (by omega)]
        rw [← g1'] at eR
        by_cases q1 : nI s < nI l
        · rw [if_pos q1, if_pos rfl]
          dsimp only at eR
          rw [if_pos (Or.inl q1)] at eR
          subst eR
          exact bad
        · rw [if_neg q1]
          by_cases q2 : hi < nI s
          · rw [if_pos q2, if_pos rfl]
            dsimp only at eR
            rw [if_pos (Or.inr q2)] at eR
            subst eR
            exact bad
          · rw [if_neg q2, if_neg (by decide)]
            dsimp only at eR
            rw [if_neg (fun z => z.elim q1 q2)] at eR
            subst eR
            exact ⟨w, rfl, ⟨_, w8, by unfold nx; rw [eE]⟩, w10, w9, g3.tr fw, by rw [g1]; exact dl5⟩
    · rintro n k ⟨s, v⟩ hk ⟨g0, g1, g2, g3, g4⟩
      dsimp only at g1 g2 g3 g4 ⊢
      have dk := r4 k g0 hk
      have dl := isD_lt dk
      have plT := t_lt hT (p := k) (by omega)
      have nxt : ∀ s', s' = dv t p (min (k + 1 - p) 5) → ∃ s'' : Nat × SG, (p ≤ k + 1 ∧ s''.1 = dv t p (min (k + 1 - p) 5) ∧ RX s''.2 m t T (k + 1) ∧ Fz (F89 m) u s''.2 ∧ zI s''.2 m 9 = 0) ∧ hgX11_numberHere_34 N n m (nI l) hi (nI p) (nI s') (sI v m 8 (nI (k + 1))) = hgX11_numberHere_34 N n m (nI l) hi (nI p) (nI s''.1) s''.2 := by
        intro s' es
        exact ⟨(s', sI v m 8 (nI (k + 1))), ⟨by omega, es, g2.to (by omega), g3.tr (Fz.sI ⟨rfl, Or.inl rfl⟩), by dsimp only; rw [sI_n (by omega)]; exact g4⟩, rfl⟩
      rw [hgX11_numberHere_34, g2.2.2.1, r_isDig g2 hT (by omega), cl_some, dk, if_neg (show ¬ nI (b2n true) = 0 by decide), g2.2.2.1, pk_sub (by omega), lit_5, ifle (by decide) (by omega), ixI (by omega) (by decide), bs_eq, bs_eq, bs_eq, nI_clamp (by omega), g2.2.1 k plT, by_lo (by omega), show nI k + (1 : Int32) = nI (k + 1) by rw [lit_1, nI_add]]
      by_cases q5 : 5 ≤ k - p
      · rw [if_pos q5]
        exact nxt s (by rw [g1, Nat.min_eq_right (by omega), Nat.min_eq_right (by omega)])
      · rw [if_neg q5, lit_10, pk_mul, nI_add, lit_48, pk_sub (by omega)]
        refine nxt _ ?_
        rw [g1, Nat.min_eq_left (by omega), Nat.min_eq_left (by omega), show k + 1 - p = (k - p) + 1 by omega, dv, show p + (k - p) = k by omega]
        omega
end RTEXT
