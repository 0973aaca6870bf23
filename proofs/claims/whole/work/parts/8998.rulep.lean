/-! RULE: what is read -/
abbrev PRs : Type := Except Nat (List Nat × Nat × Nat)
def valS (t : Nat → Nat) (k p : Nat) : PRs := if isD (t p) then (match nmO t p with
  | none => .error (1 + 8 * p + 1)
  | some v => if 60 ≤ k then .error (1 + 8 * p + 3) else .ok ([16 * v], nx t p, k + 1)) else (match wrO t p with
  | none => .error (1 + 8 * p + 0)
  | some w => if 12 < w then .error (1 + 8 * p + 0) else if 60 ≤ k then .error (1 + 8 * p + 3) else .ok ([1 + 16 * w], nx t p, k + 1))
def itL (t : Nat → Nat) (op : Nat → Option Nat) (F : Nat → Nat → PRs) : Nat → Nat → Nat → PRs
  | 0, _, _ => .error 0
  | n + 1, k, p => match op p with
    | none => .ok ([], p, k)
    | some s => match F k (nx t p) with
      | .error e => .error e
      | .ok (cs, p', k') => match itL t op F n k' p' with
        | .error e => .error e
        | .ok (ds, p'', k'') => .ok (cs ++ s :: ds, p'', k'')
def lev (t : Nat → Nat) (op : Nat → Option Nat) (F : Nat → Nat → PRs) (k p : Nat) : PRs := match F k p with
  | .error e => .error e
  | .ok (cs, p', k') => match itL t op F 401 k' p' with
    | .error e => .error e
    | .ok (ds, p'', k'') => .ok (cs ++ ds, p'', k'')
def opF (t : Nat → Nat) (p : Nat) : Option Nat := if sgO t p = some 42 then some 4 else if sgO t p = some 47 then some 5 else if sgO t p = some 37 then some 14 else none
def opA (t : Nat → Nat) (p : Nat) : Option Nat := if sgO t p = some 43 then some 2 else if sgO t p = some 45 then some 3 else none
def opN (t : Nat → Nat) (p : Nat) : Option Nat := if wrO t p = some 20 then some 12 else none
def opO (t : Nat → Nat) (p : Nat) : Option Nat := if wrO t p = some 19 then some 13 else none
def terS (t : Nat → Nat) : Nat → Nat → PRs := lev t (opF t) (valS t)
def sumS (t : Nat → Nat) : Nat → Nat → PRs := lev t (opA t) (terS t)
def cmO (t : Nat → Nat) (p : Nat) : Option Nat := if sgO t p = some 60 then some 6 else if sgO t p = some 316 then some 7 else if sgO t p = some 61 then some 8 else if sgO t p = some 318 then some 9 else if sgO t p = some 62 then some 10 else none
def cmpS (t : Nat → Nat) (k p : Nat) : PRs := match sumS t k p with
  | .error e => .error e
  | .ok (cs, p', k') => match cmO t p' with
    | none => .error (1 + 8 * p' + 0)
    | some s => if 60 ≤ k' then .error (1 + 8 * p' + 3) else match sumS t (k' + 1) (nx t p') with
      | .error e => .error e
      | .ok (ds, p'', k'') => .ok (cs ++ (ds ++ [s]), p'', k'')
def tesS (t : Nat → Nat) (F : Nat → Nat → PRs) : Nat → Nat → PRs := lev t (opO t) (lev t (opN t) F)
def facS (t : Nat → Nat) : Nat → Nat → Nat → Nat → PRs
  | 0, _, _, _ => .error 0
  | e + 1, d, k, p => if wrO t p = some 21 then (if 10 ≤ d then .error (1 + 8 * p + 2) else match facS t e (d + 1) k (nx t p) with
      | .error e => .error e
      | .ok (cs, p', k') => .ok (cs ++ [11], p', k')) else if sgO t p = some 91 then (if 10 ≤ d then .error (1 + 8 * p + 2) else match tesS t (facS t e (d + 1)) k (nx t p) with
      | .error e => .error e
      | .ok (cs, p', k') => if sgO t p' = some 93 then .ok (cs, nx t p', k') else .error (1 + 8 * p' + 0)) else cmpS t k p
/-- what is known of a reader -/
def PF (T : Nat) (b : Bool) (F : Nat → Nat → PRs) : Prop := (∀ k p cs p' k', p ≤ T → F k p = .ok (cs, p', k') → p < p' ∧ p' ≤ T ∧ cs.length + p ≤ p' ∧ (∀ ts, tyR cs ts = some (b :: ts)) ∧ k + vls cs ≤ k' ∧ (k ≤ 60 → k' ≤ 60)) ∧ ∀ k p e, p ≤ T → F k p = .error e → 1 ≤ e ∧ e ≤ 4000
def OPt (T : Nat) (b : Bool) (op : Nat → Option Nat) : Prop := ∀ p s, op p = some s → p < T ∧ (∀ ts, tyS s (b :: b :: ts) = some (b :: ts)) ∧ 1 < s % 16
section RULP
variable {t : Nat → Nat} {T : Nat}
theorem itL_ok (hT : TP t T) {b : Bool} {op : Nat → Option Nat} {F : Nat → Nat → PRs} (hF : PF T b F) (ho : OPt T b op) : ∀ n k p, p ≤ T → T - p < n → (∀ cs p' k', itL t op F n k p = .ok (cs, p', k') → p ≤ p' ∧ p' ≤ T ∧ cs.length + p ≤ p' ∧ (∀ ts, tyR cs (b :: ts) = some (b :: ts)) ∧ k + vls cs ≤ k' ∧ (k ≤ 60 → k' ≤ 60) ∧ op p' = none) ∧ ∀ e, itL t op F n k p = .error e → 1 ≤ e ∧ e ≤ 4000 := by
  intro n
  induction n with
  | zero => intro k p _ h; omega
  | succ n ih =>
    intro k p hp hn
    rw [itL]
    cases eo : op p with
    | none =>
      refine ⟨fun cs p' k' h => ?_, fun e h => by cases h⟩
      cases h
      exact ⟨Nat.le_refl _, hp, by simp, fun ts => rfl, Nat.le_refl _, fun h => h, eo⟩
    | some s =>
      obtain ⟨p1, p2, p3⟩ := ho p s eo
      obtain ⟨n1, n2⟩ := nx_ok hT p1
      dsimp only
      cases ef : F k (nx t p) with
      | error e =>
        refine ⟨fun cs p' k' h => (by cases h), fun e' h => ?_⟩
        cases h
        exact hF.2 k (nx t p) e n2 ef
      | ok r =>
        obtain ⟨cs, q, k1⟩ := r
        obtain ⟨a1, a2, a3, a4, a5, a6⟩ := hF.1 k (nx t p) cs q k1 n2 ef
        obtain ⟨i1, i2⟩ := ih k1 q a2 (by omega)
        dsimp only
        cases ei : itL t op F n k1 q with
        | error e =>
          refine ⟨fun cs p' k' h => (by cases h), fun e' h => ?_⟩
          cases h
          exact i2 e ei
        | ok r2 =>
          obtain ⟨ds, q2, k2⟩ := r2
          obtain ⟨b1, b2, b3, b4, b5, b6, b7⟩ := i1 ds q2 k2 ei
          refine ⟨fun cs' p' k' h => ?_, fun e h => by cases h⟩
          cases h
          refine ⟨by omega, b2, by simp; omega, fun ts => ?_, ?_, fun h => b6 (a6 h), b7⟩
          · refine tyR_app (a4 (b :: ts)) ?_
            show (tyS s (b :: b :: ts)).bind (tyR ds) = _
            rw [p2]
            exact b4 ts
          · rw [vls_app, vls, if_neg (by omega)]
            omega
theorem lev_ok (hT : TP t T) {b : Bool} {op : Nat → Option Nat} {F : Nat → Nat → PRs} (hF : PF T b F) (ho : OPt T b op) : PF T b (lev t op F) := by
  have h4 := hT.1
  refine ⟨fun k p cs p' k' hp h => ?_, fun k p e hp h => ?_⟩
  · unfold lev at h
    cases ef : F k p with
    | error e => rw [ef] at h; cases h
    | ok r =>
      obtain ⟨as, q, k1⟩ := r
      rw [ef] at h
      obtain ⟨a1, a2, a3, a4, a5, a6⟩ := hF.1 k p as q k1 hp ef
      obtain ⟨i1, i2⟩ := itL_ok hT hF ho 401 k1 q a2 (by omega)
      dsimp only at h
      cases ei : itL t op F 401 k1 q with
      | error e => rw [ei] at h; cases h
      | ok r2 =>
        obtain ⟨ds, q2, k2⟩ := r2
        rw [ei] at h
        cases h
        obtain ⟨b1, b2, b3, b4, b5, b6, b7⟩ := i1 ds _ _ ei
        refine ⟨by omega, b2, by simp; omega, fun ts => tyR_app (a4 ts) (b4 ts), ?_, fun h => b6 (a6 h)⟩
        rw [vls_app]
        omega
  · unfold lev at h
    cases ef : F k p with
    | error e' => rw [ef] at h; cases h; exact hF.2 k p e hp ef
    | ok r =>
      obtain ⟨as, q, k1⟩ := r
      rw [ef] at h
      obtain ⟨a1, a2, a3, a4, a5, a6⟩ := hF.1 k p as q k1 hp ef
      obtain ⟨i1, i2⟩ := itL_ok hT hF ho 401 k1 q a2 (by omega)
      dsimp only at h
      cases ei : itL t op F 401 k1 q with
      | error e' => rw [ei] at h; cases h; exact i2 e ei
      | ok r2 => obtain ⟨ds, q2, k2⟩ := r2; rw [ei] at h; cases h
theorem sg_T (hT : TP t T) {p c : Nat} (h : sgO t p = some c) : p < T := by
  apply t_lt hT
  intro z
  unfold sgO at h
  rw [z] at h
  cases h
theorem wr_T (hT : TP t T) {p c : Nat} (h : wrO t p = some c) : p < T := by
  have := ((wrO_iff (wrO_lt h)).mp h).1
  apply t_lt hT
  have := isS_lt this
  omega
theorem opF_ok (hT : TP t T) : OPt T false (opF t) := by
  intro p s h
  unfold opF at h
  split at h
  · next q => cases h; exact ⟨sg_T hT q, fun ts => rfl, by decide⟩
  · split at h
    · next q => cases h; exact ⟨sg_T hT q, fun ts => rfl, by decide⟩
    · split at h
      · next q => cases h; exact ⟨sg_T hT q, fun ts => rfl, by decide⟩
      · cases h
theorem opA_ok (hT : TP t T) : OPt T false (opA t) := by
  intro p s h
  unfold opA at h
  split at h
  · next q => cases h; exact ⟨sg_T hT q, fun ts => rfl, by decide⟩
  · split at h
    · next q => cases h; exact ⟨sg_T hT q, fun ts => rfl, by decide⟩
    · cases h
theorem opN_ok (hT : TP t T) : OPt T true (opN t) := by
  intro p s h
  unfold opN at h
  split at h
  · next q => cases h; exact ⟨wr_T hT q, fun ts => rfl, by decide⟩
  · cases h
theorem opO_ok (hT : TP t T) : OPt T true (opO t) := by
  intro p s h
  unfold opO at h
  split at h
  · next q => cases h; exact ⟨wr_T hT q, fun ts => rfl, by decide⟩
  · cases h
theorem valS_ok (hT : TP t T) : PF T false (valS t) := by
  have h4 := hT.1
  have one : ∀ (c : Nat), (∀ ts, tyS c ts = some (false :: ts)) → ∀ ts, tyR [c] ts = some (false :: ts) := by
    intro c hc ts
    show (tyS c ts).bind (tyR []) = _
    rw [hc]
    rfl
  refine ⟨fun k p cs p' k' hp h => ?_, fun k p e hp h => ?_⟩
  · unfold valS at h
    split at h
    · next ed =>
      have lt := t_lt hT (p := p) (by have := isD_lt ed; omega)
      obtain ⟨n1, n2⟩ := nx_ok hT lt
      split at h
      · cases h
      · next v ev =>
        split at h
        · cases h
        · next q =>
          cases h
          have vl := nm_lt hT ev
          refine ⟨n1, n2, by simp; omega, one _ (fun ts => ?_), ?_, fun _ => by omega⟩
          · unfold tyS
            rw [if_pos (by omega), if_pos (by omega)]
          · show k + ((if 16 * v % 16 ≤ 1 then 1 else 0) + 0) ≤ k + 1
            split <;> omega
    · next ed =>
      split at h
      · cases h
      · next w ew =>
        have lt := wr_T hT ew
        obtain ⟨n1, n2⟩ := nx_ok hT lt
        split at h
        · cases h
        · next q12 =>
          split at h
          · cases h
          · next q =>
            cases h
            refine ⟨n1, n2, by simp; omega, one _ (fun ts => ?_), ?_, fun _ => by omega⟩
            · unfold tyS
              rw [if_neg (by omega), if_pos (by omega), if_pos (by omega)]
            · show k + ((if (1 + 16 * w) % 16 ≤ 1 then 1 else 0) + 0) ≤ k + 1
              split <;> omega
  · unfold valS at h
    split at h
    · split at h
      · cases h; omega
      · split at h
        · cases h; omega
        · cases h
    · split at h
      · cases h; omega
      · split at h
        · cases h; omega
        · split at h
          · cases h; omega
          · cases h
theorem terS_ok (hT : TP t T) : PF T false (terS t) := lev_ok hT (valS_ok hT) (opF_ok hT)
theorem sumS_ok (hT : TP t T) : PF T false (sumS t) := lev_ok hT (terS_ok hT) (opA_ok hT)
theorem cmO_ok (hT : TP t T) {p s : Nat} (h : cmO t p = some s) : p < T ∧ (∀ ts, tyS s (false :: false :: ts) = some (true :: ts)) ∧ 1 < s % 16 := by
  unfold cmO at h
  split at h
  · next q => cases h; exact ⟨sg_T hT q, fun ts => rfl, by decide⟩
  · split at h
    · next q => cases h; exact ⟨sg_T hT q, fun ts => rfl, by decide⟩
    · split at h
      · next q => cases h; exact ⟨sg_T hT q, fun ts => rfl, by decide⟩
      · split at h
        · next q => cases h; exact ⟨sg_T hT q, fun ts => rfl, by decide⟩
        · split at h
          · next q => cases h; exact ⟨sg_T hT q, fun ts => rfl, by decide⟩
          · cases h
theorem cmpS_ok (hT : TP t T) : PF T true (cmpS t) := by
  have h4 := hT.1
  have hs := sumS_ok hT
  refine ⟨fun k p cs p' k' hp h => ?_, fun k p e hp h => ?_⟩
  · unfold cmpS at h
    cases ef : sumS t k p with
    | error e => rw [ef] at h; cases h
    | ok r =>
      obtain ⟨as, q, k1⟩ := r
      rw [ef] at h
      obtain ⟨a1, a2, a3, a4, a5, a6⟩ := hs.1 k p as q k1 hp ef
      dsimp only at h
      cases ec : cmO t q with
      | none => rw [ec] at h; cases h
      | some s =>
        rw [ec] at h
        obtain ⟨c1, c2, c3⟩ := cmO_ok hT ec
        obtain ⟨n1, n2⟩ := nx_ok hT c1
        dsimp only at h
        split at h
        · cases h
        · next q60 =>
          cases eg : sumS t (k1 + 1) (nx t q) with
          | error e => rw [eg] at h; cases h
          | ok r2 =>
            obtain ⟨ds, q2, k2⟩ := r2
            rw [eg] at h
            cases h
            obtain ⟨b1, b2, b3, b4, b5, b6⟩ := hs.1 (k1 + 1) (nx t q) ds _ _ n2 eg
            refine ⟨by omega, b2, by simp; omega, fun ts => tyR_app (a4 ts) (tyR_app (b4 _) ?_), ?_, fun h => b6 (by omega)⟩
            · show (tyS s (false :: false :: ts)).bind (tyR []) = _
              rw [c2]
              rfl
            · rw [vls_app, vls_app, vls, if_neg (by omega), vls]
              omega
  · unfold cmpS at h
    cases ef : sumS t k p with
    | error e' => rw [ef] at h; cases h; exact hs.2 k p e hp ef
    | ok r =>
      obtain ⟨as, q, k1⟩ := r
      rw [ef] at h
      obtain ⟨a1, a2, a3, a4, a5, a6⟩ := hs.1 k p as q k1 hp ef
      dsimp only at h
      cases ec : cmO t q with
      | none => rw [ec] at h; cases h; omega
      | some s =>
        rw [ec] at h
        obtain ⟨c1, c2, c3⟩ := cmO_ok hT ec
        obtain ⟨n1, n2⟩ := nx_ok hT c1
        dsimp only at h
        split at h
        · cases h; omega
        · cases eg : sumS t (k1 + 1) (nx t q) with
          | error e' => rw [eg] at h; cases h; exact hs.2 _ _ _ n2 eg
          | ok r2 => obtain ⟨ds, q2, k2⟩ := r2; rw [eg] at h; cases h
theorem tesS_ok (hT : TP t T) {F : Nat → Nat → PRs} (hF : PF T true F) : PF T true (tesS t F) := lev_ok hT (lev_ok hT hF (opN_ok hT)) (opO_ok hT)
theorem facS_ok (hT : TP t T) : ∀ e d, 11 ≤ d + e → d ≤ 10 → PF T true (facS t e d) := by
  have h4 := hT.1
  intro e
  induction e with
  | zero => intro d h1 h2; omega
  | succ e ih =>
    intro d hd hd2
    have hc := cmpS_ok hT
    have t11 : ∀ ts, tyR [11] (true :: ts) = some (true :: ts) := fun ts => rfl
    refine ⟨fun k p cs p' k' hp h => ?_, fun k p er hp h => ?_⟩
    · rw [facS] at h
      split at h
      · next q21 =>
        split at h
        · cases h
        · next q10 =>
          have hi := ih (d + 1) (by omega) (by omega)
          obtain ⟨n1, n2⟩ := nx_ok hT (wr_T hT q21)
          cases ef : facS t e (d + 1) k (nx t p) with
          | error er => rw [ef] at h; cases h
          | ok r =>
            obtain ⟨as, q, k1⟩ := r
            rw [ef] at h
            cases h
            obtain ⟨a1, a2, a3, a4, a5, a6⟩ := hi.1 k (nx t p) as _ _ n2 ef
            refine ⟨by omega, a2, by simp; omega, fun ts => tyR_app (a4 ts) (t11 ts), ?_, a6⟩
            rw [vls_app]
            show k + (vls as + 0) ≤ _
            omega
      · split at h
        · next q91 =>
          split at h
          · cases h
          · next q10 =>
            have hi := tesS_ok hT (ih (d + 1) (by omega) (by omega))
            obtain ⟨n1, n2⟩ := nx_ok hT (sg_T hT q91)
            cases ef : tesS t (facS t e (d + 1)) k (nx t p) with
            | error er => rw [ef] at h; cases h
            | ok r =>
              obtain ⟨as, q, k1⟩ := r
              rw [ef] at h
              dsimp only at h
              obtain ⟨a1, a2, a3, a4, a5, a6⟩ := hi.1 k (nx t p) as q k1 n2 ef
              split at h
              · next q93 =>
                cases h
                obtain ⟨m1, m2⟩ := nx_ok hT (sg_T hT q93)
                exact ⟨by omega, m2, by omega, a4, a5, a6⟩
              · cases h
        · exact hc.1 k p cs p' k' hp h
    · rw [facS] at h
      split at h
      · next q21 =>
        split at h
        · cases h; omega
        · next q10 =>
          have hi := ih (d + 1) (by omega) (by omega)
          obtain ⟨n1, n2⟩ := nx_ok hT (wr_T hT q21)
          cases ef : facS t e (d + 1) k (nx t p) with
          | error e' => rw [ef] at h; cases h; exact hi.2 _ _ _ n2 ef
          | ok r => obtain ⟨as, q, k1⟩ := r; rw [ef] at h; cases h
      · split at h
        · next q91 =>
          split at h
          · cases h; omega
          · next q10 =>
            have hi := tesS_ok hT (ih (d + 1) (by omega) (by omega))
            obtain ⟨n1, n2⟩ := nx_ok hT (sg_T hT q91)
            cases ef : tesS t (facS t e (d + 1)) k (nx t p) with
            | error e' => rw [ef] at h; cases h; exact hi.2 _ _ _ n2 ef
            | ok r =>
              obtain ⟨as, q, k1⟩ := r
              rw [ef] at h
              dsimp only at h
              obtain ⟨a1, a2, a3, a4, a5, a6⟩ := hi.1 k (nx t p) as q k1 n2 ef
              split at h
              · cases h
              · cases h; omega
        · exact hc.2 k p er hp h
end RULP
