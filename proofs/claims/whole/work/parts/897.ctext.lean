/-! THE CLASS'S TEXT -/
def btI (b : Nat) : Int32 := if b = 256 then -1 else nI b
theorem by_255 : ∀ n, n < 256 → byI n &&& 255 = nI n := by decide +kernel
def CB (u : SG) (a : Nat) (t : Nat → Nat) (T : Nat) : Prop := zI u a 1 = nI T ∧ ∀ k, k < T → zI u (a + 1) k = byI (t k)
section CTEXT
variable {N a T : Nat} {u : SG} {t : Nat → Nat}
theorem c_byteAt (hb : CB u a t T) (hT : TP t T) {p : Nat} (hp : p < 2 ^ 30) : hX9_byteAt N a (nI p) u = some (btI (t p), u) := by
  have h4 := hT.1
  unfold hX9_byteAt btI
  rw [if_neg (nI_pos (by omega)), hb.1, ifle (by omega) (by omega)]
  by_cases q : T ≤ p
  · rw [if_pos q, if_pos (hT.2.2 p q)]
  · rw [if_neg q, lit_400, if_neg (nI_ge (by omega) (by decide)), ixI (by omega) (by decide), nI_clamp (by omega), hb.2 p (by omega), by_255 _ (hT.2.1 p (by omega)), if_neg (t_256 hT (by omega))]
theorem x_isD {b : Nat} (hb : b ≤ 256) : fX9_isDigit N (btI b) u = some (nI (b2n (isD b)), u) := by
  unfold fX9_isDigit btI isD
  by_cases q : b = 256
  · rw [if_pos q, if_pos (by decide), q]; rfl
  · rw [if_neg q, lit_48, lit_57, iflt (by omega) (by decide), iflt (by decide) (by omega)]
    by_cases q1 : b < 48
    · rw [if_pos q1, decide_eq_false (by omega)]; rfl
    · rw [if_neg q1, decide_eq_true (by omega)]
      by_cases q2 : 57 < b
      · rw [if_pos q2, decide_eq_false (by omega)]; rfl
      · rw [if_neg q2, decide_eq_true (by omega)]; rfl
theorem x_isS {b : Nat} (hb : b ≤ 256) : fX9_isSmall N (btI b) u = some (nI (b2n (isS b)), u) := by
  unfold fX9_isSmall btI isS
  by_cases q : b = 256
  · rw [if_pos q, if_pos (by decide), q]; rfl
  · rw [if_neg q, lit_97, lit_122, iflt (by omega) (by decide), iflt (by decide) (by omega)]
    by_cases q1 : b < 97
    · rw [if_pos q1, decide_eq_false (by omega)]; rfl
    · rw [if_neg q1, decide_eq_true (by omega)]
      by_cases q2 : 122 < b
      · rw [if_pos q2, decide_eq_false (by omega)]; rfl
      · rw [if_neg q2, decide_eq_true (by omega)]; rfl
theorem t_le (hT : TP t T) (p : Nat) : t p ≤ 256 := by
  rcases Nat.lt_or_ge p T with h | h
  · have := hT.2.1 p h; omega
  · have := hT.2.2 p h; omega
theorem btI_eq {b c : Nat} (hb : b ≤ 256) (hc : c < 256) : btI b = nI c ↔ b = c := by
  unfold btI
  by_cases q : b = 256
  · rw [if_pos q]
    constructor
    · intro z; exact absurd z.symm (foI_ne (show c < 2 ^ 31 by omega))
    · intro z; omega
  · rw [if_neg q, nI_eq (by omega) (by omega)]
def addU (u : SG) (a n : Nat) (k v pl : Int32) : SG := sI (sI (sI (sI u (a + 2) n k) (a + 3) n v) (a + 4) n pl) a 6 (nI (n + 1))
theorem c_add {n : Nat} (hn : zI u a 6 = nI n) (h4 : n ≤ 400) (k v pl : Int32) : hX9_add N a k v pl u = some ((), addU u a n k v pl) := by
  have e1 : zI (sI u (a + 2) n k) a 6 = nI n := by rw [sI_n (by omega)]; exact hn
  have e2 : zI (sI (sI u (a + 2) n k) (a + 3) n v) a 6 = nI n := by rw [sI_n (by omega)]; exact e1
  have e3 : zI (sI (sI (sI u (a + 2) n k) (a + 3) n v) (a + 4) n pl) a 6 = nI n := by rw [sI_n (by omega)]; exact e2
  unfold hX9_add
  rw [hn, if_neg (nI_pos (by omega)), lit_400, if_neg (nI_nlt (by omega) (by omega)), ixI (by omega) (by decide), bs_eq, nI_clamp (by omega), e1, ixI (by omega) (by decide), bs_eq, nI_clamp (by omega), e2, ixI (by omega) (by decide), bs_eq, nI_clamp (by omega), e3, bs_eq, lit_1, nI_add]
  rfl
theorem c_char {i : Nat} (hi : i < 113) : fJ0_charAt_5068e N (nI i) u = some (nI (wch i), u) := by
  obtain ⟨h1, h2, h3⟩ := w_by i hi
  unfold fJ0_charAt_5068e fJ1_charAt_3b067 fJ0_checkIndex_df160 fJ3_checkIndex_8e157
  rw [if_neg (nI_pos (by omega)), if_pos (nI_lt (show i < jln from hi) (by decide)), cl_some, cl_some, if_neg (nI_in (show i < jln from hi) (by decide)), nI_clamp (by omega), h1, h2, if_pos h2, cl_some, if_pos h2]
theorem c_same (hb : CB u a t T) (hT : TP t T) {p j : Nat} (hp : p < 1000) (hj : j < 22) (hN : 2000 ≤ N) : hX9_isSame N a (nI p) (nI (wst j)) (nI (wen j)) u = some (nI (b2n (sam t p j)), u) := by
  obtain ⟨-, c2, c3, c4⟩ := w_cd j hj
  unfold hX9_isSame sam
  have key : ∀ n k, k ≤ wen j - wst j → wen j - wst j - k < n → (∀ i, i < k → (!(wch (wst j + i) == t (p + i))) = false) → hgX9_isSame_3 N n a (nI p) (nI (wst j)) (nI (wen j)) (nI (wst j + k)) u = some (nI (b2n (!anyB (fun k => !(wch (wst j + k) == t (p + k))) (wen j - wst j))), u) := fun n k h1 h2 h3 => lpq (fun n k (_ : Unit) => hgX9_isSame_3 N n a (nI p) (nI (wst j)) (nI (wen j)) (nI (wst j + k)) u) (wen j - wst j) (fun k _ => ∀ i, i < k → (!(wch (wst j + i) == t (p + i))) = false) (fun r => r = some (nI (b2n (!anyB (fun k => !(wch (wst j + k) == t (p + k))) (wen j - wst j))), u)) (by
    intro n _ hI
    try dsimp only
    rw [hgX9_isSame_3, if_pos (nI_le (by omega) (by omega)), anyB_false.mpr hI]
    rfl) (by
    intro n k _ hk hI
    try dsimp only
    have hw := (w_by (wst j + k) (by omega)).2.2
    have st : hgX9_isSame_3 N (n + 1) a (nI p) (nI (wst j)) (nI (wen j)) (nI (wst j + k)) u = if wch (wst j + k) = t (p + k) then hgX9_isSame_3 N n a (nI p) (nI (wst j)) (nI (wen j)) (nI (wst j + (k + 1))) u else some (0, u) := by
      rw [hgX9_isSame_3, if_neg (nI_ge (by omega) (by omega))]
      unfold fJ0_length_8abf5
      rw [cl_some, if_neg (nI_ge (show wst j + k < jln by show _ < 113; omega) (by decide)), c_char (by omega), cl_some, nI_add, pk_sub (by omega), show p + (wst j + k) - wst j = p + k by omega, c_byteAt hb hT (by omega), cl_some, lit_1, nI_add]
      by_cases q : wch (wst j + k) = t (p + k)
      · rw [if_pos q, if_pos ((btI_eq (t_le hT _) hw).mpr q.symm).symm]; rfl
      · rw [if_neg q, if_neg (fun z => q ((btI_eq (t_le hT _) hw).mp z.symm).symm)]
    by_cases q : wch (wst j + k) = t (p + k)
    · right
      refine ⟨(), fun i hi => ?_, by rw [st, if_pos q]⟩
      by_cases e : i = k
      · subst e; simp [q]
      · exact hI i (by omega)
    · left
      rw [st, if_neg q, anyB_iff.mpr ⟨k, hk, by simp [q]⟩]
      rfl) n k () h1 h2 h3
  have := key N 0 (Nat.zero_le _) (by omega) (fun i hi => by omega)
  rw [Nat.add_zero] at this
  exact this
theorem c_word (hb : CB u a t T) (hT : TP t T) {p : Nat} (hp : p < T) (hs : isS (t p) = true) (hN : 2000 ≤ N) : hX9_wordBetween N a (nI p) (nI (tE t p)) u = some (foI (wrO t p), u) := by
  have h4 := hT.1
  obtain ⟨e1, e2⟩ := tE_ok hT hp
  unfold hX9_wordBetween
  refine lpq (fun n i (s : Nat × Nat) => hgX9_wordBetween_8 N n a (nI p) (nI (tE t p)) (nI s.1) (nI s.2) (nI i) u) 114 (fun i s => s.1 = nsp i ∧ s.2 = stA i ∧ ∀ j, j < nsp i → ¬ wcO t p = WC j) (fun r => r = some (foI (wrO t p), u)) ?_ ?_ N 0 (0, 0) (by omega) (by omega) ⟨rfl, rfl, fun j hj => absurd hj (Nat.not_lt_zero _)⟩
  · rintro n ⟨b, c⟩ ⟨h1, h2, h3⟩
    rw [w_114] at h3
    have : wrO t p = none := by
      cases e : wrO t p with
      | none => rfl
      | some j => exact absurd ((wrO_iff (wrO_lt e)).mp e).2 (h3 j (wrO_lt e))
    try dsimp only
    rw [hgX9_wordBetween_8]
    unfold fJ0_length_8abf5
    rw [cl_some, if_pos (nI_lt (show jln < 114 by decide) (by decide)), this]
    rfl
  · rintro n i ⟨b, c⟩ hi ⟨h1, h2, h3⟩
    dsimp only at h1 h2 ⊢
    subst h1 h2
    obtain ⟨n1, n2⟩ := w_n i (by omega)
    have st : hgX9_wordBetween_8 N (n + 1) a (nI p) (nI (tE t p)) (nI (nsp i)) (nI (stA i)) (nI i) u = if wsp i then hgX9_wordBetween_40 N (hgX9_wordBetween_8 N n) a (nI p) (nI (tE t p)) (nI (nsp i)) (nI (stA i)) (nI i) u else hgX9_wordBetween_8 N n a (nI p) (nI (tE t p)) (nI (nsp i)) (nI (stA i)) (nI (i + 1)) u := by
      rw [hgX9_wordBetween_8]
      unfold fJ0_length_8abf5
      rw [cl_some, if_neg (nI_nlt (show i ≤ jln by show i ≤ 113; omega) (by decide)), cl_some, ifeq (by omega) (by decide)]
      unfold wsp
      by_cases q : i = 113
      · rw [if_pos (show i = jln from q), q]; rfl
      · have hw := (w_by i (by omega)).2.2
        rw [if_neg (show ¬ i = jln from q), c_char (by omega), cl_some, lit_32, ifeq (by omega) (by decide), lit_1, nI_add]
        have : (i == 113) = false := by simpa using q
        rw [this, Bool.false_or]
        by_cases q2 : wch i = 32
        · rw [if_pos q2, q2]; rfl
        · rw [if_neg q2]
          have : (wch i == 32) = false := by simpa using q2
          rw [this]; rfl
    cases ew : wsp i with
    | false =>
      right
      refine ⟨(nsp i, stA i), ⟨?_, ?_, ?_⟩, by rw [st, ew]; rfl⟩
      · show nsp i = cntB wsp (i + 1); rw [cntB, ew]; rfl
      · show stA i = if wsp i then i + 1 else stA i; rw [ew]; rfl
      · have : nsp (i + 1) = nsp i := by show cntB wsp (i + 1) = _; rw [cntB, ew]; rfl
        rw [this]; exact h3
    | true =>
      obtain ⟨w1, w2, w3, w4⟩ := w_at i hi ew
      have wm := w_match hT hs w3
      have s40 : hgX9_wordBetween_40 N (hgX9_wordBetween_8 N n) a (nI p) (nI (tE t p)) (nI (nsp i)) (nI (stA i)) (nI i) u = if wcO t p = WC (nsp i) then some (nI (nsp i), u) else hgX9_wordBetween_8 N n a (nI p) (nI (tE t p)) (nI (nsp i + 1)) (nI (i + 1)) (nI (i + 1)) u := by
        unfold hgX9_wordBetween_40
        have cs := c_same (N := N) hb hT (p := p) (by omega) w3 hN
        rw [w1, w2] at cs wm
        rw [pk_sub (by omega), pk_sub (by omega), ifeq (by omega) (by omega), cs, cl_some, bs_eq, lit_1, nI_add, nI_add]
        by_cases q : wcO t p = WC (nsp i)
        · obtain ⟨m1, m2⟩ := wm.mpr q
          rw [if_pos q, if_pos m1, m2, if_neg (by decide)]
        · rw [if_neg q]
          by_cases q2 : i - stA i = tE t p - p
          · rw [if_pos q2]
            cases es : sam t p (nsp i) with
            | true => exact absurd (wm.mp ⟨q2, es⟩) q
            | false => rw [if_pos (by decide)]
          · rw [if_neg q2]
      by_cases q : wcO t p = WC (nsp i)
      · left
        rw [st, ew, if_pos rfl, s40, if_pos q, (wrO_iff w3).mpr ⟨hs, q⟩]
        rfl
      · right
        have en : nsp (i + 1) = nsp i + 1 := by show cntB wsp (i + 1) = _; rw [cntB, ew]; rfl
        refine ⟨(nsp i + 1, i + 1), ⟨en.symm, ?_, ?_⟩, by rw [st, ew, if_pos rfl, s40, if_neg q]⟩
        · show i + 1 = if wsp i then i + 1 else stA i; rw [ew]; rfl
        · rw [en]
          intro j hj
          by_cases e : j = nsp i
          · subst e; exact q
          · exact h3 j (by omega)
theorem tE_D {p : Nat} (h : isD (t p) = true) : tE t p = ru t isD p := by unfold tE; rw [if_pos h]
theorem tE_S {p : Nat} (h0 : isD (t p) = false) (h : isS (t p) = true) : tE t p = ru t isS p := by unfold tE; rw [h0, if_neg (by decide), if_pos h]
theorem dv_lt (hT : TP t T) {p : Nat} : ∀ k, (∀ i, i < k → isD (t (p + i)) = true) → dv t p k < 10 ^ k := by
  intro k
  induction k with
  | zero => intro _; show 0 < 1; decide
  | succ k ih =>
    intro h
    have h1 := ih (fun i hi => h i (by omega))
    have h2 := isD_lt (h k (by omega))
    rw [dv, Nat.pow_succ]
    omega
theorem c_splitN (hb : CB u a t T) (hT : TP t T) {p n : Nat} (hp : p < T) (hd : isD (t p) = true) (hn : zI u a 6 = nI n) (h4 : n ≤ 400) (hN : 2000 ≤ N) : hX9_splitNumber N a (nI p) u = some (nI (tE t p), addU u a n 1 (foI (nmO t p)) (nI p)) := by
  have hT4 := hT.1
  obtain ⟨e1, e2⟩ := tE_ok hT hp
  have eE := tE_D hd
  obtain ⟨r1, r2, r3, r4⟩ := ru_ok hT (f := isD) rfl p
  rw [← eE] at r1 r2 r3 r4
  unfold hX9_splitNumber
  have key : ∀ n' k, k ≤ tE t p - p → tE t p - p - k < n' → hgX9_splitNumber_4 N n' a (nI p) (foI (if k ≤ 5 then some (dv t p k) else none)) (nI (p + k)) u = some (nI (tE t p), addU u a n 1 (foI (nmO t p)) (nI p)) := by
    intro n' k h1 h2
    refine lps (fun n' k (_ : Unit) => hgX9_splitNumber_4 N n' a (nI p) (foI (if k ≤ 5 then some (dv t p k) else none)) (nI (p + k)) u) (tE t p - p) (fun _ _ => True) (fun r => r = some (nI (tE t p), addU u a n 1 (foI (nmO t p)) (nI p))) ?_ ?_ n' k () h1 h2 trivial
    · intro n' _ _
      have enm : (if tE t p - p ≤ 5 then some (dv t p (tE t p - p)) else none) = nmO t p := by unfold nmO; rw [if_pos hd]
      have fin : hgX9_splitNumber_54 N a (nI p) (foI (nmO t p)) (nI (tE t p)) u = some (nI (tE t p), addU u a n 1 (foI (nmO t p)) (nI p)) := by
        unfold hgX9_splitNumber_54
        rw [c_add hn h4, cl_some]
      try dsimp only
      rw [enm, show p + (tE t p - p) = tE t p by omega, hgX9_splitNumber_4, hb.1, ifle (by omega) (by omega), c_byteAt hb hT (by omega), cl_some, x_isD (t_le hT _), cl_some, r3, if_pos (show nI (b2n false) = 0 from rfl), fin]
      split <;> rfl
    · intro n' k _ hk _
      refine ⟨(), trivial, ?_⟩
      have dk := r4 (p + k) (by omega) (by omega)
      have dl := isD_lt dk
      have tl : t (p + k) ≠ 256 := by omega
      have pl := t_lt hT tl
      try dsimp only
      rw [hgX9_splitNumber_4, hb.1, if_neg (nI_ge pl (by omega)), c_byteAt hb hT (by omega), cl_some, x_isD (t_le hT _), cl_some, dk, if_neg (show ¬ nI (b2n true) = 0 by decide), pk_sub (by omega), show p + k - p = k by omega, lit_5, ifle (by decide) (by omega), c_byteAt hb hT (by omega), cl_some, bs_eq, show nI (p + k) + (1 : Int32) = nI (p + (k + 1)) by rw [lit_1, nI_add]; rfl]
      by_cases q : 5 ≤ k
      · rw [if_pos q, if_neg (show ¬ k + 1 ≤ 5 by omega)]
        rfl
      · have dvl := dv_lt hT (p := p) k (fun i hi => r4 (p + i) (by omega) (by omega))
        have dvb : dv t p k < 10 ^ 5 := Nat.lt_of_lt_of_le dvl (Nat.pow_le_pow_right (by decide) (by omega))
        rw [if_neg q, if_pos (show k ≤ 5 by omega), if_pos (show k + 1 ≤ 5 by omega), show foI (some (dv t p k)) = nI (dv t p k) from rfl, show btI (t (p + k)) = nI (t (p + k)) by unfold btI; rw [if_neg tl], lit_10, pk_mul, nI_add, lit_48, pk_sub (by omega)]
        show _ = hgX9_splitNumber_4 N n' a (nI p) (nI (10 * dv t p k + (t (p + k) - 48))) (nI (p + (k + 1))) u
        rw [show dv t p k * 10 + t (p + k) - 48 = 10 * dv t p k + (t (p + k) - 48) by omega]
  have := key N 0 (by omega) (by omega)
  rw [Nat.add_zero] at this
  exact this
theorem c_splitW (hb : CB u a t T) (hT : TP t T) {p n : Nat} (hp : p < T) (h0 : isD (t p) = false) (hs : isS (t p) = true) (hn : zI u a 6 = nI n) (h4 : n ≤ 400) (hN : 2000 ≤ N) : hX9_splitWord N a (nI p) u = some (nI (tE t p), addU u a n 2 (foI (wrO t p)) (nI p)) := by
  have hT4 := hT.1
  obtain ⟨e1, e2⟩ := tE_ok hT hp
  have eE := tE_S h0 hs
  obtain ⟨r1, r2, r3, r4⟩ := ru_ok hT (f := isS) rfl p
  rw [← eE] at r1 r2 r3 r4
  unfold hX9_splitWord
  refine lps (fun n' k (_ : Unit) => hgX9_splitWord_2 N n' a (nI p) (nI k) u) (tE t p) (fun k _ => p ≤ k) (fun r => r = some (nI (tE t p), addU u a n 2 (foI (wrO t p)) (nI p))) ?_ ?_ N p () (by omega) (by omega) (Nat.le_refl _)
  · intro n' _ _
    have fin : hgX9_splitWord_27 N a (nI p) (nI (tE t p)) u = some (nI (tE t p), addU u a n 2 (foI (wrO t p)) (nI p)) := by
      unfold hgX9_splitWord_27
      rw [c_word hb hT hp hs hN, cl_some, c_add hn h4, cl_some]
    try dsimp only
    rw [hgX9_splitWord_2, hb.1, ifle (by omega) (by omega), c_byteAt hb hT (by omega), cl_some, x_isS (t_le hT _), cl_some, r3, if_pos (show nI (b2n false) = 0 from rfl), fin]
    split <;> rfl
  · intro n' k _ hk hpk
    refine ⟨(), by omega, ?_⟩
    have dk := r4 k hpk hk
    have dl := isS_lt dk
    have pl := t_lt hT (p := k) (by omega)
    try dsimp only
    rw [hgX9_splitWord_2, hb.1, if_neg (nI_ge pl (by omega)), c_byteAt hb hT (by omega), cl_some, x_isS (t_le hT _), cl_some, dk, if_neg (show ¬ nI (b2n true) = 0 by decide), lit_1, nI_add]
theorem c_split (hb : CB u a t T) (hT : TP t T) {p n : Nat} (hp : p < T) (hn : zI u a 6 = nI n) (h4 : n ≤ 400) (hN : 2000 ≤ N) : hX9_splitAt N a (nI p) u = if t p = 32 then some (nI (p + 1), u) else some (nI (tE t p), addU u a n (nI (tK t p)) (tV t p) (nI p)) := by
  have hT4 := hT.1
  have tb := hT.2.1 p hp
  unfold hX9_splitAt
  rw [c_byteAt hb hT (by omega), cl_some, lit_32]
  by_cases q : t p = 32
  · rw [if_pos q, if_pos ((btI_eq (by omega) (by decide)).mpr q), lit_1, nI_add]
  · rw [if_neg q, if_neg (fun z => q ((btI_eq (by omega) (by decide)).mp z)), x_isD (by omega), cl_some]
    have n256 : ¬ t p = 256 := by omega
    unfold tK tV
    rw [if_neg n256, if_neg n256]
    cases eD : isD (t p) with
    | true => rw [if_neg (show ¬ nI (b2n true) = 0 by decide), c_splitN hb hT hp eD hn h4 hN, cl_some, if_pos rfl, if_pos rfl]; rfl
    | false =>
      rw [if_pos (show nI (b2n false) = 0 from rfl), x_isS (by omega), cl_some, if_neg (show ¬ false = true by decide), if_neg (show ¬ false = true by decide)]
      cases eS : isS (t p) with
      | true => rw [if_neg (show ¬ nI (b2n true) = 0 by decide), c_splitW hb hT hp eD eS hn h4 hN, cl_some, if_pos rfl, if_pos rfl]; rfl
      | false =>
        rw [if_pos (show nI (b2n false) = 0 from rfl), if_neg (show ¬ false = true by decide)]
        have esg : sgO t p = some (if two t p then t p + 256 else t p) := by
          unfold sgO
          rw [eD, eS, show (t p == 256) = false by simpa using n256]
          rfl
        have eE : tE t p = if two t p then p + 2 else p + 1 := by unfold tE; rw [eD, eS, if_neg (by decide), if_neg (by decide), if_neg n256]
        have ebt : btI (t p) = nI (t p) := by unfold btI; rw [if_neg n256]
        have f70 : two t p = false → hgX9_splitAt_70 N a (nI p) (nI (t p)) u = some (nI (tE t p), addU u a n (nI 3) (foI (sgO t p)) (nI p)) := by
          intro e2
          unfold hgX9_splitAt_70 hgX9_splitAt_71 hgX9_splitAt_87
          rw [if_pos rfl, c_add hn h4, cl_some, if_pos rfl, esg, eE, e2, lit_1, nI_add]
          rfl
        have f54 : (t p = 60 ∨ t p = 62) → hgX9_splitAt_54 N a (nI p) (nI (t p)) u = some (nI (tE t p), addU u a n (nI 3) (foI (sgO t p)) (nI p)) := by
          intro h6
          have h6' : (t p == 60 || t p == 62) = true := by rcases h6 with h | h <;> simp [h]
          unfold hgX9_splitAt_54
          rw [show nI p + (1 : Int32) = nI (p + 1) by rw [lit_1, nI_add], c_byteAt hb hT (by omega), cl_some, lit_61]
          by_cases q6 : t (p + 1) = 61
          · have e2 : two t p = true := by unfold two; rw [h6', q6]; rfl
            rw [if_pos ((btI_eq (t_le hT _) (by decide)).mpr q6)]
            unfold hgX9_splitAt_71 hgX9_splitAt_87
            rw [if_neg (by decide), c_add hn h4, cl_some, if_neg (by decide), esg, eE, e2, lit_2, nI_add, lit_256, nI_add]
            rfl
          · have e2 : two t p = false := by unfold two; rw [show (t (p + 1) == 61) = false by simpa using q6]; simp
            rw [if_neg (fun z => q6 ((btI_eq (t_le hT _) (by decide)).mp z)), f70 e2]
        rw [ebt, lit_60, lit_62, ifeq (by omega) (by decide), ifeq (by omega) (by decide)]
        by_cases q60 : t p = 60
        · rw [if_pos q60]; exact f54 (Or.inl q60)
        · rw [if_neg q60]
          by_cases q62 : t p = 62
          · rw [if_pos q62]; exact f54 (Or.inr q62)
          · rw [if_neg q62]
            exact f70 (by unfold two; rw [show (t p == 60) = false by simpa using q60, show (t p == 62) = false by simpa using q62]; rfl)
/-- the words from i on, that at i beginning at p -/
def TKs (u : SG) (a : Nat) (t : Nat → Nat) (p i n : Nat) : Prop := ∀ k, i + k < n → zI u (a + 2) (i + k) = nI (tK t (ch t p k)) ∧ zI u (a + 3) (i + k) = tV t (ch t p k) ∧ zI u (a + 4) (i + k) = nI (ch t p k)
/-- the text stands at p -/
def TX (u : SG) (a : Nat) (t : Nat → Nat) (T p : Nat) : Prop := ∃ i n, zI u a 7 = nI i ∧ zI u a 6 = nI n ∧ i < n ∧ n ≤ 401 ∧ TKs u a t p i n ∧ ch t p (n - 1 - i) = T ∧ zI u a 8 = nI (tK t p) ∧ zI u a 9 = foI (nmO t p) ∧ zI u a 10 = foI (wrO t p) ∧ zI u a 11 = foI (sgO t p)
/-- what a step changes -/
def Fst (a : Nat) : Nat → Nat → Prop := fun b k => b = a ∧ 7 ≤ k ∧ k ≤ 11
theorem c_set {p i n : Nat} (h7 : zI u a 7 + 1 = nI i) (h6 : zI u a 6 = nI n) (hi : i < n) (hn : n ≤ 401) (hk : zI u (a + 2) i = nI (tK t p)) (hv : zI u (a + 3) i = tV t p) : ∃ u', hX9_step N a u = some ((), u') ∧ Fz (Fst a) u u' ∧ zI u' a 7 = nI i ∧ zI u' a 8 = nI (tK t p) ∧ zI u' a 9 = foI (nmO t p) ∧ zI u' a 10 = foI (wrO t p) ∧ zI u' a 11 = foI (sgO t p) := by
  have tk4 : tK t p ≤ 3 := by unfold tK; split <;> (try split) <;> (try split) <;> omega
  -- fields
  have f1 : (if tK t p = 1 then tV t p else -1) = foI (nmO t p) := by
    unfold tK tV
    by_cases q : t p = 256
    · have : nmO t p = none := by unfold nmO; rw [q]; rfl
      rw [if_pos q, this]; rfl
    · rw [if_neg q, if_neg q]
      cases e : isD (t p) with
      | true => rfl
      | false =>
        have : nmO t p = none := by unfold nmO; rw [e]; rfl
        rw [this]
        cases isS (t p) <;> rfl
  have f2 : (if tK t p = 2 then tV t p else -1) = foI (wrO t p) := by
    unfold tK tV
    by_cases q : t p = 256
    · have : wrO t p = none := by unfold wrO; rw [q]; rfl
      rw [if_pos q, this]; rfl
    · rw [if_neg q, if_neg q]
      cases e : isD (t p) with
      | true =>
        have : wrO t p = none := by
          unfold wrO
          have := isD_lt e
          have : isS (t p) = false := by unfold isS; rw [decide_eq_false (show ¬ 97 ≤ t p by omega)]; rfl
          rw [this]; rfl
        rw [this]; rfl
      | false =>
        cases e2 : isS (t p) with
        | true => rfl
        | false =>
          have : wrO t p = none := by unfold wrO; rw [e2]; rfl
          rw [this]; rfl
  have f3 : (if tK t p = 3 then tV t p else -1) = foI (sgO t p) := by
    unfold tK tV
    by_cases q : t p = 256
    · have : sgO t p = none := by unfold sgO; rw [q]; rfl
      rw [if_pos q, this]; rfl
    · rw [if_neg q, if_neg q]
      cases e : isD (t p) with
      | true =>
        have : sgO t p = none := by unfold sgO; rw [e]; rfl
        rw [this]; rfl
      | false =>
        cases e2 : isS (t p) with
        | true =>
          have : sgO t p = none := by unfold sgO; rw [e, e2]; rfl
          rw [this]; rfl
        | false => rfl
  have fz : ∀ {w : SG} {k : Nat} {v : Int32}, 7 ≤ k → k ≤ 11 → Fz (Fst a) w (sI w a k v) := fun h1 h2 => Fz.sI ⟨rfl, h1, h2⟩
  unfold hX9_step hgX9_step_67 hgX9_step_92
  rw [h7, bs_eq, if_neg (nI_pos (by omega)), h6, if_neg (nI_ge hi (by omega)), lit_400, if_pos (nI_le (by omega) (by decide)), bs_eq]
  generalize e1 : sI u a 7 (nI i) = u1
  have g1 : Fz (Fst a) u u1 := by rw [← e1]; exact fz (by omega) (by omega)
  have a7 : zI u1 a 7 = nI i := by rw [← e1, sI_s]
  rw [a7, ixI (by omega) (by decide), bs_eq, nI_clamp (by omega), g1.I (by unfold Fst; omega), hk]
  generalize e2 : sI u1 a 8 (nI (tK t p)) = u2
  have g2 : Fz (Fst a) u1 u2 := by rw [← e2]; exact fz (by omega) (by omega)
  have b7 : zI u2 a 7 = nI i := by rw [← e2, sI_n (by omega)]; exact a7
  have b8 : zI u2 a 8 = nI (tK t p) := by rw [← e2, sI_s]
  have bv : zI u2 (a + 3) i = tV t p := by rw [(g1.tr g2).I (by unfold Fst; omega)]; exact hv
  rw [b8, b7, ixI (by omega) (by decide), nI_clamp (by omega), bv, lit_1, ifeq (by omega) (by decide)]
  have k1 : ∀ {β : Type} (F : Int32 → β), (if tK t p = 1 then F (tV t p) else F (-nI 1)) = F (foI (nmO t p)) := fun F => by rw [← f1]; split <;> rfl
  rw [k1 (fun s1 => bs (sI u2 a 9 s1) _), bs_eq]
  generalize e3 : sI u2 a 9 (foI (nmO t p)) = u3
  have g3 : Fz (Fst a) u2 u3 := by rw [← e3]; exact fz (by omega) (by omega)
  have c7 : zI u3 a 7 = nI i := by rw [← e3, sI_n (by omega)]; exact b7
  have c8 : zI u3 a 8 = nI (tK t p) := by rw [← e3, sI_n (by omega)]; exact b8
  have c9 : zI u3 a 9 = foI (nmO t p) := by rw [← e3, sI_s]
  have cv : zI u3 (a + 3) i = tV t p := by rw [g3.I (by unfold Fst; omega)]; exact bv
  rw [c8, c7, ixI (by omega) (by decide), nI_clamp (by omega), cv, lit_2, ifeq (by omega) (by decide)]
  have k2 : ∀ {β : Type} (F : Int32 → β), (if tK t p = 2 then F (tV t p) else F (-nI 1)) = F (foI (wrO t p)) := fun F => by rw [← f2]; split <;> rfl
  rw [k2 (fun s1 => bs (sI u3 a 10 s1) _), bs_eq]
  generalize e4 : sI u3 a 10 (foI (wrO t p)) = u4
  have g4 : Fz (Fst a) u3 u4 := by rw [← e4]; exact fz (by omega) (by omega)
  have d7 : zI u4 a 7 = nI i := by rw [← e4, sI_n (by omega)]; exact c7
  have d8 : zI u4 a 8 = nI (tK t p) := by rw [← e4, sI_n (by omega)]; exact c8
  have d9 : zI u4 a 9 = foI (nmO t p) := by rw [← e4, sI_n (by omega)]; exact c9
  have d10 : zI u4 a 10 = foI (wrO t p) := by rw [← e4, sI_s]
  have dv' : zI u4 (a + 3) i = tV t p := by rw [g4.I (by unfold Fst; omega)]; exact cv
  rw [d8, d7, ixI (by omega) (by decide), nI_clamp (by omega), dv', lit_3, ifeq (by omega) (by decide)]
  have k3 : ∀ {β : Type} (F : Int32 → β), (if tK t p = 3 then F (tV t p) else F (-nI 1)) = F (foI (sgO t p)) := fun F => by rw [← f3]; split <;> rfl
  rw [k3 (fun s1 => bs (sI u4 a 11 s1) _), bs_eq]
  exact ⟨_, rfl, ((g1.tr g2).tr (g3.tr g4)).tr (fz (by omega) (by omega)), by rw [sI_n (by omega)]; exact d7, by rw [sI_n (by omega)]; exact d8, by rw [sI_n (by omega)]; exact d9, by rw [sI_n (by omega)]; exact d10, by rw [sI_s]⟩
theorem TKs.z {v : SG} {P : Nat → Nat → Prop} {p i n : Nat} (h : TKs u a t p i n) (f : Fz P u v) (hP : ∀ b k, a + 2 ≤ b → b ≤ a + 4 → ¬ P b k) : TKs v a t p i n := by
  intro k hk
  rw [f.I (hP _ _ (by omega) (by omega)), f.I (hP _ _ (by omega) (by omega)), f.I (hP _ _ (by omega) (by omega))]
  exact h k hk
theorem TX.z {v : SG} {P : Nat → Nat → Prop} {p : Nat} (h : TX u a t T p) (f : Fz P u v) (hP : ∀ b k, a + 2 ≤ b → b ≤ a + 4 → ¬ P b k) (hP2 : ∀ k, 6 ≤ k → k ≤ 11 → ¬ P a k) : TX v a t T p := by
  obtain ⟨i, n, h1, h2, h3, h4, h5, h6, h7, h8, h9, h10⟩ := h
  exact ⟨i, n, by rw [f.I (hP2 _ (by omega) (by omega))]; exact h1, by rw [f.I (hP2 _ (by omega) (by omega))]; exact h2, h3, h4, h5.z f hP, h6, by rw [f.I (hP2 _ (by omega) (by omega))]; exact h7, by rw [f.I (hP2 _ (by omega) (by omega))]; exact h8, by rw [f.I (hP2 _ (by omega) (by omega))]; exact h9, by rw [f.I (hP2 _ (by omega) (by omega))]; exact h10⟩
theorem c_step (hT : TP t T) {p : Nat} (h : TX u a t T p) : ∃ u', hX9_step N a u = some ((), u') ∧ TX u' a t T (nx t p) ∧ Fz (Fst a) u u' := by
  obtain ⟨i, n, h1, h2, h3, h4, h5, h6, h7, h8, h9, h10⟩ := h
  have hP : ∀ b k, a + 2 ≤ b → b ≤ a + 4 → ¬ Fst a b k := fun b k q1 q2 q => by unfold Fst at q; omega
  by_cases q : i + 1 < n
  · obtain ⟨k1, k2, k3⟩ := h5 1 q
    obtain ⟨u', e, f, s1, s2, s3, s4, s5⟩ := c_set (N := N) (p := nx t p) (i := i + 1) (by rw [h1, nI_1]) h2 q h4 k1 k2
    refine ⟨u', e, ⟨i + 1, n, s1, by rw [f.I (by unfold Fst; omega)]; exact h2, q, h4, fun k hk => ?_, ?_, s2, s3, s4, s5⟩, f⟩
    · rw [ch_s]
      have := (h5.z f hP) (k + 1) (by omega)
      rw [show i + (k + 1) = i + 1 + k by omega] at this
      exact this
    · rw [ch_s, show n - 1 - (i + 1) + 1 = n - 1 - i by omega]; exact h6
  · have e0 : n - 1 - i = 0 := by omega
    rw [e0] at h6
    have h6 : p = T := h6
    have enx : nx t p = p := by rw [h6]; exact nx_T hT
    refine ⟨u, ?_, ?_, Fz.rf⟩
    · unfold hX9_step
      rw [h1, bs_eq, lit_1, nI_add, if_neg (nI_pos (by omega)), h2, if_pos (nI_le (by omega) (by omega))]
    · rw [enx]
      exact ⟨i, n, h1, h2, h3, h4, h5, by rw [e0]; exact h6, h7, h8, h9, h10⟩
theorem TX.at {p : Nat} (h : TX u a t T p) : zI u a 8 = nI (tK t p) ∧ zI u a 9 = foI (nmO t p) ∧ zI u a 10 = foI (wrO t p) ∧ zI u a 11 = foI (sgO t p) := by
  obtain ⟨i, n, h1, h2, h3, h4, h5, h6, h7⟩ := h
  exact h7
theorem c_refuse {p w : Nat} (h : TX u a t T p) : hX9_refuse N a (nI w) u = some (0, sI u a 2 (nI (1 + 8 * p + w))) := by
  obtain ⟨i, n, h1, h2, h3, h4, h5, h6, h7⟩ := h
  have := (h5 0 (by omega)).2.2
  unfold hX9_refuse hgX9_refuse_30
  rw [h1, if_neg (nI_pos (by omega)), lit_400, if_neg (nI_nlt (by omega) (by decide)), ixI (by omega) (by decide), bs_eq, nI_clamp (by omega), show zI u (a + 4) i = nI p from this, lit_1, lit_8, pk_mul, nI_add, nI_add]
/-- what opening changes -/
def Fop (a : Nat) : Nat → Nat → Prop := fun b k => (b = a ∧ (k = 2 ∨ 6 ≤ k)) ∨ (a + 2 ≤ b ∧ b ≤ a + 4)
theorem CB.z {v : SG} {P : Nat → Nat → Prop} (h : CB u a t T) (f : Fz P u v) (h1 : ¬ P a 1) (h2 : ∀ k, ¬ P (a + 1) k) : CB v a t T := ⟨by rw [f.I h1]; exact h.1, fun k hk => by rw [f.I (h2 k)]; exact h.2 k hk⟩
theorem c_open (hb : CB u a t T) (hT : TP t T) (hN : 2000 ≤ N) : ∃ u', hX9_open N a u = some ((), u') ∧ TX u' a t T (sk t 0) ∧ zI u' a 2 = 0 ∧ Fz (Fop a) u u' := by
  have hT4 := hT.1
  unfold hX9_open
  rw [bs_eq, bs_eq, bs_eq]
  have fz0 : Fz (Fop a) u (sI (sI (sI u a 6 0) a 7 (-1)) a 2 0) := ((Fz.sI (Or.inl ⟨rfl, Or.inr (by omega)⟩)).tr (Fz.sI (Or.inl ⟨rfl, Or.inr (by omega)⟩))).tr (Fz.sI (Or.inl ⟨rfl, Or.inl rfl⟩))
  have nF1 : ¬ Fop a a 1 := fun z => by unfold Fop at z; omega
  have nF2 : ∀ k, ¬ Fop a (a + 1) k := fun k z => by unfold Fop at z; omega
  have key : ∀ n q i k v, T - q < n → q ≤ T → i ≤ q → k ≤ q → Fz (Fop a) u v → zI v a 6 = nI k → zI v a 7 = -1 → zI v a 2 = 0 → TKs v a t (sk t 0) 0 k → ch t (sk t 0) k = sk t q → ∃ u', hgX9_open_19 N n a (nI q) (nI i) v = some ((), u') ∧ TX u' a t T (sk t 0) ∧ zI u' a 2 = 0 ∧ Fz (Fop a) u u' := by
    intro n
    induction n with
    | zero => intro q i k v h; omega
    | succ n ih =>
      intro q i k v h1 h2 h3 h4 h5 h6 h7 h8 h9 h10
      have bv := hb.z h5 nF1 nF2
      have fin : q = T → ∃ u', hgX9_open_46 N a v = some ((), u') ∧ TX u' a t T (sk t 0) ∧ zI u' a 2 = 0 ∧ Fz (Fop a) u u' := by
        intro qT
        have skT : sk t q = T := by rw [qT]; exact sk_id hT (by rw [hT.2.2 T (Nat.le_refl _)]; decide)
        have t256 := hT.2.2 T (Nat.le_refl _)
        have tkT : tK t T = 0 := by unfold tK; rw [if_pos t256]
        have tvT : tV t T = 0 := by unfold tV; rw [if_pos t256]
        unfold hgX9_open_46
        rw [bv.1, c_add h6 (by omega), cl_some]
        generalize ea : addU v a k 0 0 (nI T) = v1
        have fa : Fz (Fop a) v v1 := by
          rw [← ea]
          exact (((Fz.sI (Or.inr ⟨by omega, by omega⟩)).tr (Fz.sI (Or.inr ⟨by omega, by omega⟩))).tr (Fz.sI (Or.inr ⟨by omega, by omega⟩))).tr (Fz.sI (Or.inl ⟨rfl, Or.inr (by omega)⟩))
        have tk1 : TKs v1 a t (sk t 0) 0 (k + 1) := by
          intro j hj
          rw [← ea]
          unfold addU
          rw [Nat.zero_add]
          by_cases e : j = k
          · subst e
            rw [h10, skT, tkT, tvT]
            refine ⟨?_, ?_, ?_⟩
            · rw [sI_n (by omega), sI_n (by omega), sI_n (by omega), sI_s]; rfl
            · rw [sI_n (by omega), sI_n (by omega), sI_s]
            · rw [sI_n (by omega), sI_s]
          · have := h9 j (by omega)
            rw [Nat.zero_add] at this
            rw [sI_n (by omega), sI_n (by omega), sI_n (by omega), sI_n (by omega), sI_n (by omega), sI_n (by omega), sI_n (by omega), sI_n (by omega), sI_n (by omega), sI_n (by omega), sI_n (by omega), sI_n (by omega)]
            exact this
        have a6 : zI v1 a 6 = nI (k + 1) := by rw [← ea]; unfold addU; rw [sI_s]
        have a7 : zI v1 a 7 = -1 := by rw [← ea]; unfold addU; rw [sI_n (by omega), sI_n (by omega), sI_n (by omega), sI_n (by omega)]; exact h7
        have a2 : zI v1 a 2 = 0 := by rw [← ea]; unfold addU; rw [sI_n (by omega), sI_n (by omega), sI_n (by omega), sI_n (by omega)]; exact h8
        have tk0 := tk1 0 (by omega)
        obtain ⟨u', e, f, s1, s2, s3, s4, s5⟩ := c_set (N := N) (u := v1) (a := a) (t := t) (p := sk t 0) (i := 0) (n := k + 1) (by rw [a7]; rfl) a6 (by omega) (by omega) tk0.1 tk0.2.1
        have hP : ∀ b k, a + 2 ≤ b → b ≤ a + 4 → ¬ Fst a b k := fun b k q1 q2 q => by unfold Fst at q; omega
        refine ⟨u', by rw [e, cl_some], ⟨0, k + 1, s1, by rw [f.I (by unfold Fst; omega)]; exact a6, by omega, by omega, tk1.z f hP, ?_, s2, s3, s4, s5⟩, by rw [f.I (by unfold Fst; omega)]; exact a2, (h5.tr fa).tr (f.w (fun b k z => by unfold Fst at z; unfold Fop; omega))⟩
        rw [show k + 1 - 1 - 0 = k by omega, h10, skT]
      rw [hgX9_open_19, bv.1]
      by_cases qT : q = T
      · rw [if_pos (nI_le (show T ≤ q by omega) (by omega))]
        split
        · exact fin qT
        · exact fin qT
      · rw [lit_400, if_neg (nI_ge (by omega) (by decide)), if_neg (nI_ge (by omega) (by omega)), c_split bv hT (by omega) h6 (by omega) hN, lit_1, nI_add]
        by_cases q32 : t q = 32
        · rw [if_pos q32, cl_some]
          exact ih (q + 1) (i + 1) k v (by omega) (by omega) (by omega) (by omega) h5 h6 h7 h8 h9 (by rw [h10]; exact sk_32 hT q32)
        · rw [if_neg q32, cl_some]
          obtain ⟨e1, e2⟩ := tE_ok hT (show q < T by omega)
          have skq : sk t q = q := sk_id hT q32
          generalize ea : addU v a k (nI (tK t q)) (tV t q) (nI q) = v1
          have fa : Fz (Fop a) v v1 := by
            rw [← ea]
            exact (((Fz.sI (Or.inr ⟨by omega, by omega⟩)).tr (Fz.sI (Or.inr ⟨by omega, by omega⟩))).tr (Fz.sI (Or.inr ⟨by omega, by omega⟩))).tr (Fz.sI (Or.inl ⟨rfl, Or.inr (by omega)⟩))
          refine ih (tE t q) (i + 1) (k + 1) v1 (by omega) e2 (by omega) (by omega) (h5.tr fa) (by rw [← ea]; unfold addU; rw [sI_s]) (by rw [← ea]; unfold addU; rw [sI_n (by omega), sI_n (by omega), sI_n (by omega), sI_n (by omega)]; exact h7) (by rw [← ea]; unfold addU; rw [sI_n (by omega), sI_n (by omega), sI_n (by omega), sI_n (by omega)]; exact h8) ?_ (by show nx t (ch t (sk t 0) k) = _; rw [h10, skq]; rfl)
          intro j hj
          rw [← ea]
          unfold addU
          rw [Nat.zero_add]
          by_cases e : j = k
          · subst e
            rw [h10, skq]
            refine ⟨?_, ?_, ?_⟩
            · rw [sI_n (by omega), sI_n (by omega), sI_n (by omega), sI_s]
            · rw [sI_n (by omega), sI_n (by omega), sI_s]
            · rw [sI_n (by omega), sI_s]
          · have := h9 j (by omega)
            rw [Nat.zero_add] at this
            rw [sI_n (by omega), sI_n (by omega), sI_n (by omega), sI_n (by omega), sI_n (by omega), sI_n (by omega), sI_n (by omega), sI_n (by omega), sI_n (by omega), sI_n (by omega), sI_n (by omega), sI_n (by omega)]
            exact this
  exact key N 0 0 0 _ (by omega) (Nat.zero_le _) (Nat.le_refl _) (Nat.le_refl _) fz0 (by rw [sI_n (by omega), sI_n (by omega), sI_s]; rfl) (by rw [sI_n (by omega), sI_s]) (by rw [sI_s]) (fun k hk => by omega) rfl
end CTEXT
