/-! STREET: both sides -/
section STS
variable {N m T : Nat} {u : SG} {t : Nat → Nat}
def stW (o : Option Nat) : Bool := match o with
  | none => false
  | some w => w == 0 || (decide (13 ≤ w) && decide (w ≤ 16))
theorem r_stW {p : Nat} (h : RX u m t T p) (hT : TP t T) (hp : ¬ t p = 32) (hN : 2000 ≤ N) : ∃ u', hX11_isStreetWord N m u = some (nI (b2n (stW (wrO t p))), u') ∧ RX u' m t T p ∧ Fz (F8 m) u u' := by
  obtain ⟨u1, e1, x1, f1⟩ := r_isWord (N := N) (j := 13) (h.rp hT hp) hT (by decide) hN
  obtain ⟨u2, e2, x2, f2⟩ := r_isWord (N := N) (j := 0) (x1.rp hT hp) hT (by decide) hN
  obtain ⟨u3, e3, x3, f3⟩ := r_isWord (N := N) (j := 14) (x2.rp hT hp) hT (by decide) hN
  obtain ⟨u4, e4, x4, f4⟩ := r_isWord (N := N) (j := 15) (x3.rp hT hp) hT (by decide) hN
  obtain ⟨u5, e5, x5, f5⟩ := r_isWord (N := N) (j := 16) (x4.rp hT hp) hT (by decide) hN
  have t1 : ¬ nI (b2n true) = 0 := by decide
  have t0 : nI (b2n false) = 0 := rfl
  have sw : stW (wrO t p) = (wrO t p == some 13 || (wrO t p == some 0 || (wrO t p == some 14 || (wrO t p == some 15 || wrO t p == some 16)))) := by
    unfold stW
    cases wrO t p with
    | none => rfl
    | some w =>
      rw [some_beq, some_beq, some_beq, some_beq, some_beq]
      rw [Bool.eq_iff_iff]
      simp
      omega
  unfold hX11_isStreetWord
  rw [wl_13, wl_0, wl_14, wl_15, wl_16, e1, cl_some, sw]
  cases b1 : wrO t p == some 13 with
  | true => exact ⟨u1, by rw [if_neg t1]; rfl, x1, f1⟩
  | false =>
    rw [if_pos t0, e2, cl_some]
    cases b2 : wrO t p == some 0 with
    | true => exact ⟨u2, by rw [if_neg t1]; rfl, x2, f1.tr f2⟩
    | false =>
      rw [if_pos t0, e3, cl_some]
      cases b3 : wrO t p == some 14 with
      | true => exact ⟨u3, by rw [if_neg t1]; rfl, x3, (f1.tr f2).tr f3⟩
      | false =>
        rw [if_pos t0, e4, cl_some]
        cases b4 : wrO t p == some 15 with
        | true => exact ⟨u4, by rw [if_neg t1]; rfl, x4, ((f1.tr f2).tr f3).tr f4⟩
        | false =>
          rw [if_pos t0, e5, cl_some]
          cases b5 : wrO t p == some 16 with
          | true => exact ⟨u5, by rw [if_neg t1]; rfl, x5, (((f1.tr f2).tr f3).tr f4).tr f5⟩
          | false => exact ⟨u5, by rw [if_pos t0]; rfl, x5, (((f1.tr f2).tr f3).tr f4).tr f5⟩
theorem f8_4 {v w : SG} (f : Fz (F8 m) v w) : Fz (Fs4 m) v w := f.w (fun a k z => by unfold F8 at z; unfold Fs4; omega)
theorem r_clauseS {G : Nat → Nat} {p c : Nat} (h : RP u m t T p) (hT : TP t T) (h9 : zI u m 9 = 0) (h11 : zI u m 11 = 6) (h14 : zI u m 14 = nI c) (hc : c ≤ 40) (hg : RG u m G) (g : GI c G) (hN : 2000 ≤ N) : qQ m t T (c + 1) u (hX11_clauseHere N m u) (clsS t c G p) := by
  obtain ⟨hp, hp2, -⟩ := h.le hT
  obtain ⟨u1, s1, s2, s3⟩ := r_see (N := N) h hT hN
  obtain ⟨u2, w1, w2, w3⟩ := r_stW (N := N) s2 hT hp2 hN
  have f12 := s3.tr w3
  have h92 : zI u2 m 9 = 0 := by rw [f12.I (by unfold F8; omega)]; exact h9
  have h142 : zI u2 m 14 = nI c := by rw [f12.I (by unfold F8; omega)]; exact h14
  have hg2 := hg.z f12 (fun k q => by unfold F8 at q; omega)
  have bad : ∀ k, qQ m t T (c + 1) u (cl (hX11_fails N m (nI k) (nI p) u2) fun r6 u7 => (if r6 = 0 ∨ r6 = 1 then some (r6, u7) else none)) (.error (1 + 8 * p + k)) := fun k => ⟨_, by rw [r_fails0 h92, cl_some, if_pos (Or.inl rfl)], by rw [sI_s], (f8_4 f12).tr (Fz.sI (Or.inl ⟨rfl, Or.inr (Or.inl rfl)⟩))⟩
  unfold hX11_clauseHere hgX11_clauseHere_24
  rw [s1, cl_some, bs_eq, s2.2.2.1, s3.I (by unfold F8; omega), h11, if_pos rfl, if_neg (by decide), w1, cl_some]
  unfold clsS
  cases ew : wrO t p with
  | none =>
    rw [if_pos (show nI (b2n (stW none)) = 0 from rfl)]
    exact bad 0
  | some w =>
    have w22 := wrO_lt ew
    rw [show stW (some w) = (w == 0 || (decide (13 ≤ w) && decide (w ≤ 16))) from rfl]
    dsimp only
    by_cases qc : ¬ w = 0 ∧ (w < 13 ∨ 16 < w)
    · have : (w == 0 || (decide (13 ≤ w) && decide (w ≤ 16))) = false := by
        rw [show (w == 0) = false by simpa using qc.1, Bool.false_or]
        rcases qc.2 with z | z
        · rw [decide_eq_false (by omega)]; rfl
        · rw [decide_eq_false (show ¬ w ≤ 16 by omega), Bool.and_false]
      rw [this, if_pos (show nI (b2n false) = 0 from rfl), if_pos qc]
      exact bad 0
    · have hw : w = 0 ∨ 13 ≤ w ∧ w ≤ 16 := by omega
      have : (w == 0 || (decide (13 ≤ w) && decide (w ≤ 16))) = true := by
        rcases hw with rfl | ⟨z1, z2⟩
        · rfl
        · rw [decide_eq_true z1, decide_eq_true z2]; simp
      rw [this, if_neg (show ¬ nI (b2n true) = 0 by decide), if_neg qc]
      unfold hgX11_clauseHere_56 hgX11_clauseHere_71
      rw [if_neg (show ¬ (1 : Int32) = 0 by decide), h142, show (40 : Int32) = nI 40 from rfl, ifeq (by omega) (by decide)]
      by_cases q40 : c = 40
      · rw [if_pos q40, if_pos (Or.inl (by omega))]
        exact bad 4
      · rw [if_neg q40, bs_eq, if_neg (show ¬ (1 : Int32) = 0 by decide), lit_1, nI_add]
        generalize eu : sI u2 m 14 (nI (c + 1)) = u3
        have f3 : Fz (fun a k => a = m ∧ k = 14) u2 u3 := by rw [← eu]; exact Fz.sI ⟨rfl, rfl⟩
        have f3' : Fz (Fs4 m) u u3 := (f8_4 f12).tr (f3.w (fun a k z => by unfold Fs4; omega))
        have x3 : RX u3 m t T p := w2.z f3 (by omega) (fun k => by omega) (by omega)
        have h93 : zI u3 m 9 = 0 := by rw [f3.I (by omega)]; exact h92
        have hg3 := hg2.z f3 (fun k => by omega)
        have h143 : zI u3 m 14 = nI (c + 1) := by rw [← eu, sI_s]
        have hl := r_line (N := N) x3 hT hp2 ew hw h93 hg3 g hN
        have eif : (if 40 ≤ c ∨ ¬ (w = 13 ↔ c = 0) ∨ fulS G w = true then (.error (1 + 8 * p + 4) : SR) else if w = 13 then houS t G (nx t p) else if w = 0 then perS t G (nx t p) else if w = 15 then lamS t G (nx t p) else if w = 14 then spaS t G 45 2 1 (nx t p) else spaS t G 79 4 3 (nx t p)) = (if ¬ (w = 13 ↔ c = 0) ∨ fulS G w = true then .error (1 + 8 * p + 4) else if w = 13 then houS t G (nx t p) else if w = 0 then perS t G (nx t p) else if w = 15 then lamS t G (nx t p) else if w = 14 then spaS t G 45 2 1 (nx t p) else spaS t G 79 4 3 (nx t p)) := by
          by_cases z : ¬ (w = 13 ↔ c = 0) ∨ fulS G w = true
          · rw [if_pos (Or.inr z), if_pos z]
          · rw [if_neg (fun y => by rcases y with y | y; omega; exact z y), if_neg z]
        rw [eif]
        generalize (if ¬ (w = 13 ↔ c = 0) ∨ fulS G w = true then (.error (1 + 8 * p + 4) : SR) else if w = 13 then houS t G (nx t p) else if w = 0 then perS t G (nx t p) else if w = 15 then lamS t G (nx t p) else if w = 14 then spaS t G 45 2 1 (nx t p) else spaS t G 79 4 3 (nx t p)) = R at hl
        match R, hl with
        | .error e, ⟨u', k1, k2, k3⟩ => exact ⟨u', by rw [k1, cl_some, if_pos (Or.inl rfl)], k2, f3'.tr (k3.w (fun a k z => by unfold Fs at z; unfold Fs4; omega))⟩
        | .ok (G', p'), ⟨u', k1, k2, k3, k4, k5⟩ => exact ⟨u', by rw [k1, cl_some]; exact if_pos (Or.inr rfl), k2, k3, k4, by rw [k5.I (by unfold Fs; omega)]; exact h143, f3'.tr (k5.w (fun a k z => by unfold Fs at z; unfold Fs4; omega))⟩
def Fs5 (m : Nat) : Nat → Nat → Prop := fun a k => (a = m ∧ (k = 1 ∨ k = 8 ∨ k = 9 ∨ k = 10 ∨ k = 14)) ∨ a = m + 6
def aQ (m : Nat) (u : SG) (r : Option (Int32 × SG)) : Except Nat (Nat → Nat) → Prop
  | .error e => ∃ u', r = some (0, u') ∧ zI u' m 9 = nI e ∧ zI u' m 1 = 0 ∧ Fz (Fs5 m) u u' ∧ 1 ≤ e
  | .ok G' => ∃ u', r = some (1, u') ∧ RG u' m G' ∧ zI u' m 1 = 0 ∧ Fz (Fs5 m) u u' ∧ GZ G'
theorem sg_59 (hT : TP t T) {p : Nat} (hp : p ≤ T) : (sgO t p = some 59 ↔ t p = 59) ∧ (t p = 59 → tE t p = p + 1) := by
  have tb := t_le hT p
  constructor
  · unfold sgO two
    constructor
    · intro h
      split at h
      · cases h
      · next q =>
        simp at q
        split at h
        · next q2 =>
          simp at q2
          cases h
        · exact Option.some.inj h
    · intro h
      rw [h]
      rfl
  · intro h
    unfold tE two
    rw [h]
    rfl
theorem cls_er {c p e : Nat} {G : Nat → Nat} (h : clsS t c G p = .error e) (hp : p ≤ 400) (hT : TP t T) (hpT : p ≤ T) : 1 ≤ e ∧ e ≤ 4000 := by
  have n1 := nx_le hT hpT
  have n2 := nx_le hT n1.2
  have n3 := nx_le hT n2.2
  have h4 := hT.1
  have spe : ∀ {B cc dd q : Nat}, q ≤ T → spaS t G B cc dd q = .error e → 1 ≤ e ∧ e ≤ 4000 := by
    intro B cc dd q hq hh
    have m1 := nx_le hT hq
    have m2 := nx_le hT m1.2
    unfold spaS at hh
    split at hh
    · next ea => cases hh; exact num_er ea (by omega)
    · split at hh
      · next eb => cases hh; exact num_er eb (by omega)
      · split at hh
        · next ec => cases hh; exact num_er ec (by omega)
        · cases hh
  unfold clsS at h
  split at h
  · cases h; omega
  · split at h
    · cases h; omega
    · split at h
      · cases h; omega
      · split at h
        · unfold houS at h
          split at h
          · next ea => cases h; exact num_er ea (by omega)
          · cases h
        · split at h
          · unfold perS at h
            split at h
            · next ea => cases h; exact num_er ea (by omega)
            · split at h
              · next eb => cases h; exact num_er eb (by omega)
              · cases h
          · split at h
            · unfold lamS at h
              split at h
              · next ea => cases h; exact num_er ea (by omega)
              · split at h
                · next eb => cases h; exact num_er eb (by omega)
                · cases h
            · split at h
              · exact spe n1.2 h
              · exact spe n1.2 h
theorem r_all (hT : TP t T) (hN : 2000 ≤ N) : ∀ n c G p f u, c + n = 41 → n ≤ f → RP u m t T p → zI u m 9 = 0 → zI u m 11 = 6 → zI u m 14 = nI c → RG u m G → GI c G → GZ G → 0 < n → aQ m u (cl (hX11_clauseHere N m u) fun r u' => hgX11_readsAll_35 N f m r u') (strS t n c G p) := by
  have h4 := hT.1
  intro n
  induction n with
  | zero => intro c G p f u _ _ _ _ _ _ _ _ _ h; omega
  | succ n ih =>
    intro c G p f u hc hf h h9 h11 h14 hg g gz _
    obtain ⟨f, rfl⟩ : ∃ f', f = f' + 1 := ⟨f - 1, by omega⟩
    have hpT := (h.le hT).1
    have hcl := r_clauseS (N := N) h hT h9 h11 h14 (by omega) hg g hN
    have w45 : ∀ {v w : SG}, Fz (Fs4 m) v w → Fz (Fs5 m) v w := fun f => f.w (fun a k z => by unfold Fs4 at z; unfold Fs5; omega)
    have w85 : ∀ {v w : SG}, Fz (F8 m) v w → Fz (Fs5 m) v w := fun f => f.w (fun a k z => by unfold F8 at z; unfold Fs5; omega)
    rw [strS]
    cases e : clsS t c G p with
    | error e' =>
      rw [e] at hcl
      obtain ⟨u', h1, h2, h3⟩ := hcl
      obtain ⟨b1, b2⟩ := cls_er e (by omega) hT hpT
      refine ⟨sI u' m 1 0, ?_, by rw [sI_n (by omega)]; exact h2, by rw [sI_s], (w45 h3).tr (Fz.sI (Or.inl ⟨rfl, Or.inl rfl⟩)), b1⟩
      rw [h1, cl_some, hgX11_readsAll_35, if_pos rfl]
      unfold hgX11_readsAll_66 hgX11_readsAll_88
      rw [if_pos rfl, bs_eq, sI_n (by omega), h2, if_neg (nI_ne0 (by omega) (by omega))]
    | ok r =>
      obtain ⟨G', p'⟩ := r
      have c40 := cls_ok e
      obtain ⟨gi, gz'⟩ := cls_gi hT e g gz
      rw [e] at hcl
      obtain ⟨u', h1, h2, h3, h4', h5, h6⟩ := hcl
      obtain ⟨hp', hp2', -⟩ := h2.le hT
      obtain ⟨u2, s1, s2, s3⟩ := r_see (N := N) h2 hT hN
      have h92 : zI u2 m 9 = 0 := by rw [s3.I (by unfold F8; omega)]; exact h4'
      rw [h1, cl_some, hgX11_readsAll_35, if_neg (by decide), s1, cl_some, show (59 : Int32) = nI 59 from rfl]
      dsimp only
      obtain ⟨g1, g2⟩ := sg_59 hT hp'
      by_cases q59 : t p' = 59
      · rw [if_pos ((btI_eq (t_le hT _) (by decide)).mpr q59), bs_eq, s2.2.2.1, lit_1, nI_add, if_neg (show ¬ t p' = 256 by omega), if_pos (g1.mpr q59)]
        have lt := t_lt hT (p := p') (by omega)
        have x3 : RX (sI u2 m 8 (nI (p' + 1))) m t T (p' + 1) := s2.to (by omega)
        have rp3 : RP (sI u2 m 8 (nI (p' + 1))) m t T (nx t p') := ⟨_, x3, by unfold nx; rw [g2 q59]⟩
        have f3 : Fz (F8 m) u2 (sI u2 m 8 (nI (p' + 1))) := Fz.sI ⟨rfl, rfl⟩
        have fz := (w45 h6).tr (w85 (s3.tr f3))
        have := ih (c + 1) G' (nx t p') f (sI u2 m 8 (nI (p' + 1))) (by omega) (by omega) rp3 (by rw [sI_n (by omega)]; exact h92) (by rw [sI_n (by omega), s3.I (by unfold F8; omega), h6.I (by unfold Fs4; omega)]; exact h11) (by rw [sI_n (by omega), s3.I (by unfold F8; omega)]; exact h5) ((h3.z s3 (fun k q => by unfold F8 at q; omega)).z f3 (fun k q => by unfold F8 at q; omega)) gi gz' (by omega)
        match strS t n (c + 1) G' (nx t p'), this with
        | .error e, ⟨w, w1, w2, w3, w4, w5⟩ => exact ⟨w, w1, w2, w3, fz.tr w4, w5⟩
        | .ok G2, ⟨w, w1, w2, w3, w4, w5⟩ => exact ⟨w, w1, w2, w3, fz.tr w4, w5⟩
      · rw [if_neg (fun z => q59 ((btI_eq (t_le hT _) (by decide)).mp z)), if_neg (fun z => q59 (g1.mp z))]
        unfold hgX11_readsAll_66 hgX11_readsAll_88
        obtain ⟨u3, k1, k2, k3⟩ := r_see (N := N) (s2.rp hT hp2') hT hN
        have h93 : zI u3 m 9 = 0 := by rw [k3.I (by unfold F8; omega)]; exact h92
        have fz := (w45 h6).tr (w85 (s3.tr k3))
        rw [if_neg (by decide), k1, cl_some]
        by_cases q256 : t p' = 256
        · rw [if_pos q256, if_pos (show btI (t p') = -1 by unfold btI; rw [if_pos q256]), bs_eq, sI_n (by omega), h93, if_pos rfl]
          exact ⟨_, rfl, ((h3.z (s3.tr k3) (fun k q => by unfold F8 at q; omega)).z (Fz.sI (S := fun a k => a = m ∧ k = 1) ⟨rfl, rfl⟩) (fun k => by omega)), by rw [sI_s], fz.tr (Fz.sI (Or.inl ⟨rfl, Or.inl rfl⟩)), gz'⟩
        · have tb := t_le hT p'
          rw [if_neg q256, if_neg (show ¬ btI (t p') = -1 by unfold btI; rw [if_neg q256]; exact foI_ne (show t p' < 2 ^ 31 by omega)), k2.2.2.1, show (0 : Int32) = nI 0 from rfl, r_fails0 h93, cl_some, bs_eq, sI_n (by omega), sI_s, if_neg (by rw [show nI 0 = (0 : Int32) from rfl]; exact nI_ne0 (by omega) (by omega))]
          exact ⟨_, rfl, by rw [sI_n (by omega), sI_s], by rw [sI_s]; rfl, (fz.tr (Fz.sI (Or.inl ⟨rfl, Or.inr (Or.inr (Or.inl rfl))⟩))).tr (Fz.sI (Or.inl ⟨rfl, Or.inl rfl⟩)), by omega⟩
theorem i_nat (a : Int32) : nI a.toBitVec.toNat = a := (Int32.toBitVec_inj.mp (by show a.toBitVec = BitVec.ofNat 32 a.toBitVec.toNat; simp)).symm
def G0 (u : SG) (m : Nat) : Nat → Nat := fun k => if k < 10 then 0 else (zI u (m + 6) k).toBitVec.toNat
theorem G0_gi (u : SG) (m : Nat) : GI 0 (G0 u m) ∧ GZ (G0 u m) := by
  have z : ∀ k, k < 10 → G0 u m k = 0 := fun k hk => by unfold G0; rw [if_pos hk]
  have z0 := z 0 (by decide)
  have z1 := z 1 (by decide)
  have z2 := z 2 (by decide)
  have z3 := z 3 (by decide)
  have z4 := z 4 (by decide)
  exact ⟨⟨⟨by omega, by omega, by omega, by omega, by omega, fun _ => ⟨z1, z3⟩, fun p hp => by omega, fun k hk => by omega, fun l hl => by omega, fun k hk => by omega⟩, fun _ => ⟨z0, z1, z2, z3, z4⟩, fun h => by omega⟩, fun k h1 h2 => z k h2, fun p hp => by omega⟩
/-- what reading a street may change -/
def Fs6 (m : Nat) : Nat → Nat → Prop := fun a k => (a = m ∧ (k = 1 ∨ k = 8 ∨ k = 9 ∨ k = 10 ∨ k = 11 ∨ k = 12 ∨ k = 14)) ∨ a = m + 6 ∨ (a = m + 3 ∧ k = 6)
theorem r_read (hT : TP t T) (h1 : zI u m 1 = nI T) (hb : ∀ k, k < T → zI u (m + 1) k = byI (t k)) (hN : 2000 ≤ N) : match strS t 41 0 (G0 u m) (sk t 0) with
    | .error e => ∃ u', hX11_street N m u = some (-2 - nI e, u') ∧ zI u' m 1 = 0 ∧ Fz (Fs6 m) u u'
    | .ok G' => GZ G' ∧ ∃ u', hX11_street N m u = hgX11_street_44 N N m (nI 0) u' ∧ RG u' m G' ∧ zI u' m 1 = 0 ∧ Fz (Fs6 m) u u' := by
  have h4 := hT.1
  unfold hX11_street
  rw [bs_eq]
  have f0 : Fz (Fs6 m) u (sI u m 11 6) := Fz.sI (Or.inl ⟨rfl, by omega⟩)
  obtain ⟨gi, gz⟩ := G0_gi u m
  have key : ∀ v, Fz (Fs6 m) u v → zI v m 1 = nI T → zI v m 11 = 6 → RG v m (G0 u m) → match strS t 41 0 (G0 u m) (sk t 0) with
    | .error e => ∃ u', (cl (hX11_readsAll N m v) fun r1 u2 => (if r1 = 0 then (some ((-2 : Int32) - (zI u2 m 9), u2)) else (hgX11_street_44 N N m (0 : Int32) u2))) = some (-2 - nI e, u') ∧ zI u' m 1 = 0 ∧ Fz (Fs6 m) u u'
    | .ok G' => GZ G' ∧ ∃ u', (cl (hX11_readsAll N m v) fun r1 u2 => (if r1 = 0 then (some ((-2 : Int32) - (zI u2 m 9), u2)) else (hgX11_street_44 N N m (0 : Int32) u2))) = hgX11_street_44 N N m (nI 0) u' ∧ RG u' m G' ∧ zI u' m 1 = 0 ∧ Fz (Fs6 m) u u' := by
    intro v fv v1 v11 vg
    unfold hX11_readsAll
    rw [v11, if_neg (show ¬ ((6 : Int32) < 0 ∨ 7 ≤ (6 : Int32).toNatClampNeg) by decide)]
    simp only [bs_eq]
    generalize ew : sI (sI (sI (sI (sI v (m + 3) (6 : Int32).toNatClampNeg 0) m 14 0) m 8 0) m 9 0) m 12 0 = w
    have fw : Fz (fun a k => (a = m ∧ (k = 14 ∨ k = 8 ∨ k = 9 ∨ k = 12)) ∨ (a = m + 3 ∧ k = 6)) v w := by
      rw [← ew]
      exact ((((Fz.sI (Or.inr ⟨rfl, rfl⟩)).tr (Fz.sI (Or.inl ⟨rfl, by omega⟩))).tr (Fz.sI (Or.inl ⟨rfl, by omega⟩))).tr (Fz.sI (Or.inl ⟨rfl, by omega⟩))).tr (Fz.sI (Or.inl ⟨rfl, by omega⟩))
    have fw6 : Fz (Fs6 m) u w := fv.tr (fw.w (fun a k z => by unfold Fs6; omega))
    have w8 : RX w m t T 0 := ⟨by rw [fw.I (by omega)]; exact v1, fun k hk => by rw [fw6.I (by unfold Fs6; omega)]; exact hb k hk, by rw [← ew, sI_n (by omega), sI_n (by omega), sI_s]; rfl, Nat.zero_le _⟩
    have w9 : zI w m 9 = 0 := by rw [← ew, sI_n (by omega), sI_s]
    have w14 : zI w m 14 = nI 0 := by rw [← ew, sI_n (by omega), sI_n (by omega), sI_n (by omega), sI_s]; rfl
    have w11 : zI w m 11 = 6 := by rw [fw.I (by omega)]; exact v11
    have hr := r_all (m := m) hT hN 41 0 (G0 u m) (sk t 0) N w rfl (by omega) ⟨0, w8, rfl⟩ w9 w11 w14 (vg.z fw (fun k => by omega)) gi gz (by omega)
    have e2 : ∀ {β : Type} (F : Int32 → SG → Option β), cl (cl (hX11_clauseHere N m w) fun r7 u8 => hgX11_readsAll_35 N N m r7 u8) F = cl (cl (hX11_clauseHere N m w) fun r u' => hgX11_readsAll_35 N N m r u') F := fun F => rfl
    have w56 : ∀ {a b : SG}, Fz (Fs5 m) a b → Fz (Fs6 m) a b := fun f => f.w (fun a k z => by unfold Fs5 at z; unfold Fs6; omega)
    match strS t 41 0 (G0 u m) (sk t 0), hr with
    | .error e, ⟨u', a1, a2, a3, a4, a5⟩ => exact ⟨u', by rw [a1, cl_some, if_pos rfl, a2], a3, fw6.tr (w56 a4)⟩
    | .ok G', ⟨u', a1, a2, a3, a4, a5⟩ => exact ⟨a5, u', by rw [a1, cl_some, if_neg (by decide)]; rfl, a2, a3, fw6.tr (w56 a4)⟩
  -- the first ten cells
  have loop := lps (fun n k v => hgX11_street_8 N n m (nI k) v) 10 (fun k v => Fz (Fs6 m) u v ∧ zI v m 1 = nI T ∧ zI v m 11 = 6 ∧ (∀ j, j < k → zI v (m + 6) j = 0) ∧ ∀ j, 10 ≤ j → zI v (m + 6) j = zI u (m + 6) j) (fun r => match strS t 41 0 (G0 u m) (sk t 0) with
    | .error e => ∃ u', r = some (-2 - nI e, u') ∧ zI u' m 1 = 0 ∧ Fz (Fs6 m) u u'
    | .ok G' => GZ G' ∧ ∃ u', r = hgX11_street_44 N N m (nI 0) u' ∧ RG u' m G' ∧ zI u' m 1 = 0 ∧ Fz (Fs6 m) u u') (by
      rintro n v ⟨a1, a2, a3, a4, a5⟩
      have := key v a1 a2 a3 (fun k hk => by
        unfold G0
        by_cases q : k < 10
        · rw [if_pos q, a4 k q]; rfl
        · rw [if_neg q, i_nat, a5 k (by omega)])
      try dsimp only
      rw [hgX11_street_8, lit_10, if_pos (nI_le (by omega) (by decide))]
      exact this) (by
      rintro n k v hk ⟨a1, a2, a3, a4, a5⟩
      refine ⟨sI v (m + 6) k 0, ⟨a1.tr (Fz.sI (Or.inr (Or.inl rfl))), by rw [sI_n (by omega)]; exact a2, by rw [sI_n (by omega)]; exact a3, fun j hj => ?_, fun j hj => by rw [sI_n (by omega)]; exact a5 j hj⟩, ?_⟩
      · by_cases q : j = k
        · subst q; rw [sI_s]
        · rw [sI_n (by omega)]; exact a4 j (by omega)
      · try dsimp only
        rw [hgX11_street_8, lit_10, if_neg (nI_ge hk (by decide)), ixI (by omega) (by decide), bs_eq, nI_clamp (by omega), lit_1, nI_add]) N 0 (sI u m 11 6) (by omega) (by omega) ⟨f0, by rw [sI_n (by omega)]; exact h1, by rw [sI_s], fun j hj => by omega, fun j hj => by rw [sI_n (by omega)]⟩
  exact loop
theorem r_said {G' : Nat → Nat} (hg : RG u m G') (hN : 2000 ≤ N) : ∃ u', hgX11_street_44 N N m (nI 0) u = some (nI (G' 1), u') ∧ (∀ k, k < 144 → zI u' (m + 10) k = if 40 ≤ k ∧ k < 45 then 0 else if k < 103 then nI (G' k) else 0) ∧ zI u' m 25 = 0 ∧ Fz (fun a k => a = m + 10 ∨ (a = m ∧ k = 25)) u u' := by
  refine lps (fun n k v => hgX11_street_44 N n m (nI k) v) 144 (fun k v => Fz (fun a k => a = m + 10 ∨ (a = m ∧ k = 25)) u v ∧ ∀ j, j < k → zI v (m + 10) j = if j < 103 then nI (G' j) else 0) (fun r => ∃ u', r = some (nI (G' 1), u') ∧ (∀ k, k < 144 → zI u' (m + 10) k = if 40 ≤ k ∧ k < 45 then 0 else if k < 103 then nI (G' k) else 0) ∧ zI u' m 25 = 0 ∧ Fz (fun a k => a = m + 10 ∨ (a = m ∧ k = 25)) u u') ?_ ?_ N 0 u (by omega) (by omega) ⟨Fz.rf, fun j hj => by omega⟩
  · rintro n v ⟨a1, a2⟩
    rw [hgX11_street_44, lit_144, if_pos (nI_le (by omega) (by decide))]
    refine lps (fun n k w => hgX11_street_81 N n m (nI k) w) 5 (fun k w => Fz (fun a k => a = m + 10 ∨ (a = m ∧ k = 25)) u w ∧ ∀ j, j < 144 → zI w (m + 10) j = if 40 ≤ j ∧ j < 40 + k then 0 else if j < 103 then nI (G' j) else 0) (fun r => ∃ u', r = some (nI (G' 1), u') ∧ (∀ k, k < 144 → zI u' (m + 10) k = if 40 ≤ k ∧ k < 45 then 0 else if k < 103 then nI (G' k) else 0) ∧ zI u' m 25 = 0 ∧ Fz (fun a k => a = m + 10 ∨ (a = m ∧ k = 25)) u u') ?_ ?_ N 0 v (by omega) (by omega) ⟨a1, fun j hj => by rw [if_neg (by omega)]; exact a2 j hj⟩
    · rintro n w ⟨b1, b2⟩
      refine ⟨sI w m 25 0, ?_, fun k hk => by rw [sI_n (by omega)]; exact b2 k hk, by rw [sI_s], b1.tr (Fz.sI (Or.inr ⟨rfl, rfl⟩))⟩
      rw [hgX11_street_81, lit_5, if_pos (nI_le (by omega) (by decide)), bs_eq, sI_n (by omega), b2 1 (by decide), if_neg (by omega), if_pos (by decide)]
    · rintro n k w hk ⟨b1, b2⟩
      refine ⟨sI w (m + 10) (40 + k) 0, ⟨b1.tr (Fz.sI (Or.inl rfl)), fun j hj => ?_⟩, ?_⟩
      · by_cases q : j = 40 + k
        · subst q; rw [sI_s, if_pos (by omega)]
        · rw [sI_n (by omega), b2 j hj]
          by_cases q2 : 40 ≤ j ∧ j < 40 + k
          · rw [if_pos q2, if_pos (by omega)]
          · rw [if_neg q2, if_neg (show ¬ (40 ≤ j ∧ j < 40 + (k + 1)) by omega)]
      · rw [hgX11_street_81, lit_5, if_neg (nI_ge hk (by decide)), lit_40, nI_add, ixI (by omega) (by decide), bs_eq, nI_clamp (by omega), lit_1, nI_add]
  · rintro n k v hk ⟨a1, a2⟩
    have upd : ∀ y : Int32, y = (if k < 103 then nI (G' k) else 0) → (∀ j, j < k + 1 → zI (sI v (m + 10) k y) (m + 10) j = if j < 103 then nI (G' j) else 0) := by
      intro y hy j hj
      by_cases q : j = k
      · subst q; rw [sI_s]; exact hy
      · rw [sI_n (by omega)]; exact a2 j (by omega)
    rw [hgX11_street_44, lit_144, if_neg (nI_ge hk (by decide)), lit_103, ifle (by decide) (by omega)]
    by_cases q : 103 ≤ k
    · rw [if_pos q, ixI hk (by decide), bs_eq, nI_clamp (by omega), lit_1, nI_add]
      exact ⟨_, ⟨a1.tr (Fz.sI (Or.inl rfl)), upd 0 (by rw [if_neg (by omega)])⟩, rfl⟩
    · rw [if_neg q, ixI (by omega) (by decide), ixI (by omega) (by decide), bs_eq, nI_clamp (by omega), lit_1, nI_add]
      refine ⟨_, ⟨a1.tr (Fz.sI (Or.inl rfl)), upd _ ?_⟩, rfl⟩
      rw [if_pos (by omega), a1.I (by omega), hg k (by omega)]
theorem op_street (hN : 2000 ≤ N) : OpOK (fun x u => fX10_street N x u) (fun m u => fX11_street N m u) := by
  intro c x A u hc6 hA ⟨hl, k1, k2, iC, iR, hz⟩
  have hT := tpA_ok hA
  obtain ⟨gi, gz⟩ := G0_gi u (x + 193)
  have hcS := c_street (N := N) (G0 := G0 u (x + 193)) hl k1 iC hA gi hN
  have fin : ∀ {r : Int32} {A' : AT} {u1 u2 : SG}, hX10_street N x u = some (r, u1) → Fz (Sc x) u u1 → InvC u1 x A' → hX11_street N (x + 193) u1 = some (r, u2) → Fz (Sr (x + 193)) u1 u2 → InvR u2 (x + 193) A' → Aok (c + 1) A' → ∃ r A' u1 u2, (fun x u => fX10_street N x u) x u = some (r, u1) ∧ (fun m u => fX11_street N m u) (x + 193) u1 = some (r, u2) ∧ zK u1 (x + 193) = 12 ∧ Inv u2 x A' ∧ Aok (c + 1) A' := by
    intro r A' u1 u2 a1 a2 a3 a4 a5 a6 a7
    have l1 := hl.fr a2.fr
    have q1 : zK u1 (x + 193) = 12 := by rw [a2.K]; exact k2
    refine ⟨r, A', u1, u2, ?_, ?_, q1, ⟨l1.fr a5.fr, by rw [a5.K, a2.K]; exact k1, by rw [a5.K]; exact q1, a3.z a5 (fun a k q => by unfold Sr at q; omega), a6, (hz.z a2).z a5⟩, a7⟩
    · show fX10_street N x u = _
      rw [eX10_street N x u (hkc k1 (hk0 hl))]; exact a1
    · show fX11_street N (x + 193) u1 = _
      rw [eX11_street N (x + 193) u1 (hkc q1 (hk0 l1))]; exact a4
  have side : ∀ {u1 : SG}, Fz (Sc x) u u1 → InvR u1 (x + 193) A ∧ G0 u1 (x + 193) = G0 u (x + 193) := by
    intro u1 f
    refine ⟨iR.z f (fun a k q1 q2 q => by unfold Sc at q; omega), ?_⟩
    funext k
    unfold G0
    rw [f.I (by unfold Sc; omega)]
  have rd : ∀ {u1 : SG}, Fz (Sc x) u u1 → _ := fun {u1} f => r_read (N := N) (u := u1) (m := x + 193) (t := tpA A) (T := aT A) hT (side f).1.tp.1 (fun k hk => by rw [(side f).1.tp.2 k hk]; unfold tpA; rw [if_pos hk]) hN
  have rt0 : ∀ {u1 u2 : SG} {P : Nat → Nat → Prop}, InvR u1 (x + 193) A → Fz P u1 u2 → (∀ a k, P a k → Fs6 (x + 193) a k) → zI u2 (x + 193) 1 = 0 → InvR u2 (x + 193) (aT0 A) := by
    intro u1 u2 P i f hP z1
    have n : ∀ a k, ¬ Fs6 (x + 193) a k → ¬ P a k := fun a k h q => h (hP a k q)
    exact invR ⟨z1, fun k hk => by omega⟩ (i.rl.z f (n _ _ (by unfold Fs6; omega)) (fun a k q => n _ _ (by unfold Fs6; omega))) (i.sn.z f (fun k => n _ _ (by unfold Fs6; omega)) (n _ _ (by unfold Fs6; omega)) (n _ _ (by unfold Fs6; omega))) (i.ac.z f (n _ _ (by unfold Fs6; omega)) (fun k => n _ _ (by unfold Fs6; omega))) (i.im.z f (fun a k q1 q2 => n _ _ (by unfold Fs6; omega)))
  cases e : strS (tpA A) 41 0 (G0 u (x + 193)) (sk (tpA A) 0) with
  | error er =>
    rw [e] at hcS
    obtain ⟨-, u1, a1, a2, a3⟩ := hcS
    have hr := rd a3
    rw [(side a3).2, e] at hr
    obtain ⟨u2, b1, b2, b3⟩ := hr
    exact fin a1 a3 a2 b1 (b3.w (fun a k q => by unfold Fs6 at q; unfold Sr; omega)) (rt0 (side a3).1 b3 (fun a k q => q) b2) (tail0 hA)
  | ok G' =>
    rw [e] at hcS
    obtain ⟨gb, g02, u1, a1, a2, a3⟩ := hcS
    have hr := rd a3
    rw [(side a3).2, e] at hr
    obtain ⟨gz', u2, b1, b2, b3, b4⟩ := hr
    obtain ⟨u3, d1, d2, d3, d4⟩ := r_said (N := N) b2 hN
    have i2 := rt0 (side a3).1 b4 (fun a k q => q) b3
    have g1 := gb.2.1
    refine fin a1 a3 a2 (b1.trans d1) ((b4.w (fun a k q => by unfold Fs6 at q; unfold Sr; omega)).tr (d4.w (fun a k q => by unfold Sr; omega))) ?_ ?_
    · have v : ∀ k, k < 103 → ¬ (40 ≤ k ∧ k < 45) → zI u3 (x + 193 + 10) k = nI (G' k) := fun k h1 h2 => by rw [d2 k (by omega), if_neg h2, if_pos h1]
      refine invR (i2.tp.z d4 (by omega) (fun k => by omega)) (i2.rl.z d4 (by omega) (fun a k q => by omega)) ⟨⟨⟨fun k hk => v k (by omega) (by omega), ?_, ?_, ?_, fun p hp => ?_, fun l hl' => ?_⟩, fun k q1 q2 => v k q2 (by omega), ?_, fun k hk => absurd hk (by show ¬ k < 4 * 0; omega)⟩, ?_, ?_⟩ ⟨d3, fun j M hM => by simp at hM⟩ (i2.im.z d4 (fun a k q1 q2 => by omega))
      · rw [v 5 (by omega) (by omega), gz'.1 5 (by omega) (by omega)]; rfl
      · rw [v 6 (by omega) (by omega), gz'.1 6 (by omega) (by omega)]; rfl
      · rw [v 7 (by omega) (by omega), gz'.1 7 (by omega) (by omega)]; rfl
      · have hp : p < G' 1 := hp
        refine ⟨v _ (by omega) (by omega), v _ (by omega) (by omega), ?_, ?_, ?_, ?_⟩
        · rw [v _ (by omega) (by omega), gz'.2 p hp 2 (by omega) (by omega)]; rfl
        · rw [v _ (by omega) (by omega), gz'.2 p hp 3 (by omega) (by omega)]; rfl
        · rw [v _ (by omega) (by omega), gz'.2 p hp 4 (by omega) (by omega)]; rfl
        · rw [v _ (by omega) (by omega), gz'.2 p hp 5 (by omega) (by omega)]; rfl
      · rw [d2 _ (by omega), if_pos (by omega)]; rfl
      · rw [d2 143 (by decide), if_neg (by omega), if_neg (by decide)]; rfl
      · rw [d4.I (by omega)]; exact i2.sn.2.1
      · rw [d4.I (by omega)]; exact i2.sn.2.2
    · obtain ⟨h1, h2, h3, h4, ⟨s1, s2, s3, s4, s5, s6⟩, h6, h7, h8⟩ := hA.mono (d := c + 1) (by omega)
      exact ⟨Nat.zero_le _, h2, h3, h4, ⟨gb, ⟨Or.inl (by show 0 < G' 0; omega), Nat.zero_le _, Nat.zero_le _, fun p hp => ⟨Nat.zero_le _, Nat.zero_le _, Nat.zero_le _⟩, fun l hl' => Nat.zero_le _⟩, Nat.zero_le _, fun j hj => absurd hj (Nat.not_lt_zero _), s5, s6⟩, Nat.zero_le _, fun M hM => absurd hM (by show ¬ M ∈ ([] : List MT); simp), h8⟩
end STS
