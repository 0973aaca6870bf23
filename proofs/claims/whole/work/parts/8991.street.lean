/-! STREET: what is read -/
def seG (G : Nat → Nat) (k v : Nat) : Nat → Nat := fun j => if j = k then v else G j
theorem seG_s (G : Nat → Nat) (k v : Nat) : seG G k v k = v := if_pos rfl
theorem seG_n {G : Nat → Nat} {k v j : Nat} (h : ¬ j = k) : seG G k v j = G j := if_neg h
def perG (G : Nat → Nat) (a b : Nat) : Nat → Nat := seG (seG (seG (seG (seG (seG (seG G (10 + 6 * G 1) a) (10 + 6 * G 1 + 1) b) (10 + 6 * G 1 + 2) 0) (10 + 6 * G 1 + 3) 0) (10 + 6 * G 1 + 4) 0) (10 + 6 * G 1 + 5) 0) 1 (G 1 + 1)
def lamG (G : Nat → Nat) (a b : Nat) : Nat → Nat := seG (seG (seG G (69 + 2 * G 3) a) (69 + 2 * G 3 + 1) b) 3 (G 3 + 1)
def spaG (G : Nat → Nat) (b c x y z : Nat) : Nat → Nat := seG (seG (seG (seG G (b + 3 * G c) x) (b + 3 * G c + 1) y) (b + 3 * G c + 2) z) c (G c + 1)
abbrev SR : Type := Except Nat ((Nat → Nat) × Nat)
def houS (t : Nat → Nat) (G : Nat → Nat) (p : Nat) : SR := match numS t p 2 (nI 10) with
  | .error e => .error e
  | .ok v => .ok (seG G 0 v, nx t p)
def perS (t : Nat → Nat) (G : Nat → Nat) (p : Nat) : SR := match numS t p 0 (nI (G 0)) with
  | .error e => .error e
  | .ok a => match numS t (nx t p) 0 (nI 60) with
    | .error e => .error e
    | .ok b => .ok (perG G a b, nx t (nx t p))
def lamS (t : Nat → Nat) (G : Nat → Nat) (p : Nat) : SR := match numS t p 0 (if nmO t p = some 9 then nI 9 else nI (G 1) - 1) with
  | .error e => .error e
  | .ok a => match numS t (nx t p) 1 (nI 60) with
    | .error e => .error e
    | .ok b => .ok (lamG G a b, nx t (nx t p))
def spaS (t : Nat → Nat) (G : Nat → Nat) (b c d p : Nat) : SR := match numS t p 0 (nI (G d) - 1) with
  | .error e => .error e
  | .ok x => match numS t (nx t p) 0 (nI (G 0) - 1) with
    | .error e => .error e
    | .ok y => match numS t (nx t (nx t p)) y (nI (G 0) - 1) with
      | .error e => .error e
      | .ok z => .ok (spaG G b c x y z, nx t (nx t (nx t p)))
def fulS (G : Nat → Nat) (w : Nat) : Bool := (w == 0 && decide (5 ≤ G 1)) || (w == 14 && decide (8 ≤ G 2)) || (w == 15 && decide (5 ≤ G 3)) || (w == 16 && decide (8 ≤ G 4))
def clsS (t : Nat → Nat) (c : Nat) (G : Nat → Nat) (p : Nat) : SR := match wrO t p with
  | none => .error (1 + 8 * p + 0)
  | some w => if ¬ w = 0 ∧ (w < 13 ∨ 16 < w) then .error (1 + 8 * p + 0) else if 40 ≤ c ∨ ¬ (w = 13 ↔ c = 0) ∨ fulS G w = true then .error (1 + 8 * p + 4) else if w = 13 then houS t G (nx t p) else if w = 0 then perS t G (nx t p) else if w = 15 then lamS t G (nx t p) else if w = 14 then spaS t G 45 2 1 (nx t p) else spaS t G 79 4 3 (nx t p)
def strS (t : Nat → Nat) : Nat → Nat → (Nat → Nat) → Nat → Except Nat (Nat → Nat)
  | 0, _, _, _ => .error 0
  | n + 1, c, G, p => match clsS t c G p with
    | .error e => .error e
    | .ok (G', p') => if t p' = 256 then .ok G' else if sgO t p' = some 59 then strS t n (c + 1) G' (nx t p') else .error (1 + 8 * p' + 0)
/-- what holds while it is read -/
def GI (c : Nat) (G : Nat → Nat) : Prop := Gb G ∧ (c = 0 → G 0 = 0 ∧ G 1 = 0 ∧ G 2 = 0 ∧ G 3 = 0 ∧ G 4 = 0) ∧ (0 < c → 2 ≤ G 0)
section SPURE
variable {G : Nat → Nat} {a b : Nat}
theorem per_o {j : Nat} (h1 : ¬ j = 1) (h : j < 10 + 6 * G 1 ∨ 16 + 6 * G 1 ≤ j) : perG G a b j = G j := by
  unfold perG
  rw [seG_n h1, seG_n (by omega), seG_n (by omega), seG_n (by omega), seG_n (by omega), seG_n (by omega), seG_n (by omega)]
theorem per_1 : perG G a b 1 = G 1 + 1 := by unfold perG; rw [seG_s]
theorem per_a : perG G a b (10 + 6 * G 1) = a := by unfold perG; rw [seG_n (by omega), seG_n (by omega), seG_n (by omega), seG_n (by omega), seG_n (by omega), seG_n (by omega), seG_s]
theorem per_b : perG G a b (10 + 6 * G 1 + 1) = b := by unfold perG; rw [seG_n (by omega), seG_n (by omega), seG_n (by omega), seG_n (by omega), seG_n (by omega), seG_s]
theorem lam_o {j : Nat} (h1 : ¬ j = 3) (h : j < 69 + 2 * G 3 ∨ 71 + 2 * G 3 ≤ j) : lamG G a b j = G j := by
  unfold lamG
  rw [seG_n h1, seG_n (by omega), seG_n (by omega)]
theorem lam_3 : lamG G a b 3 = G 3 + 1 := by unfold lamG; rw [seG_s]
theorem lam_a : lamG G a b (69 + 2 * G 3) = a := by unfold lamG; rw [seG_n (by omega), seG_n (by omega), seG_s]
theorem lam_b : lamG G a b (69 + 2 * G 3 + 1) = b := by unfold lamG; rw [seG_n (by omega), seG_s]
variable {B c x y z : Nat}
theorem spa_o {j : Nat} (h1 : ¬ j = c) (h : j < B + 3 * G c ∨ B + 3 * G c + 3 ≤ j) : spaG G B c x y z j = G j := by
  unfold spaG
  rw [seG_n h1, seG_n (by omega), seG_n (by omega), seG_n (by omega)]
theorem spa_c : spaG G B c x y z c = G c + 1 := by unfold spaG; rw [seG_s]
theorem spa_x (hB : c < B) : spaG G B c x y z (B + 3 * G c) = x := by unfold spaG; rw [seG_n (by omega), seG_n (by omega), seG_n (by omega), seG_s]
theorem spa_y (hB : c < B) : spaG G B c x y z (B + 3 * G c + 1) = y := by unfold spaG; rw [seG_n (by omega), seG_n (by omega), seG_s]
theorem spa_z (hB : c < B) : spaG G B c x y z (B + 3 * G c + 2) = z := by unfold spaG; rw [seG_n (by omega), seG_s]
theorem wk_cg {G G' : Nat → Nat} (h2 : G' 2 = G 2) (g : G 2 ≤ 8) (h : ∀ k, 45 ≤ k → k < 69 → G' k = G k) (p t : Nat) : wk G' p t = wk G p t := by
  unfold wk
  rw [h2]
  apply anyB_ext
  intro i hi
  unfold spn
  rw [h _ (by omega) (by omega), h _ (by omega) (by omega), h _ (by omega) (by omega)]
theorem li_cg {G G' : Nat → Nat} (h2 : G' 4 = G 4) (g : G 4 ≤ 8) (h : ∀ k, 79 ≤ k → k < 103 → G' k = G k) (p t : Nat) : li G' p t = li G p t := by
  unfold li
  rw [h2]
  apply anyB_ext
  intro i hi
  unfold spn
  rw [h _ (by omega) (by omega), h _ (by omega) (by omega), h _ (by omega) (by omega)]
theorem wk_no (g : Gb G) (t : Nat) {p : Nat} (hp : G 1 ≤ p) : wk G p t = false := by
  unfold wk
  rw [anyB_false]
  intro j hj
  have := (g.2.2.2.2.2.2.2.1 j hj).1
  unfold spn
  rw [show (G (45 + 3 * j) == p) = false by simp; omega]
  rfl
theorem li_no (g : Gb G) (t : Nat) {p : Nat} (hp : G 3 ≤ p) : li G p t = false := by
  unfold li
  rw [anyB_false]
  intro j hj
  have := (g.2.2.2.2.2.2.2.2.2 j hj).1
  unfold spn
  rw [show (G (79 + 3 * j) == p) = false by simp; omega]
  rfl
theorem per_gb (g : Gb G) (h : G 1 < 5) (h0 : 2 ≤ G 0) (ha : a ≤ G 0) (hb : b ≤ 60) : Gb (perG G a b) := by
  obtain ⟨g0, g1, g2, g3, g4, g5, g6, g7, g8, g9⟩ := g
  refine ⟨by rw [per_o (by omega) (by omega)]; exact g0, by rw [per_1]; omega, by rw [per_o (by omega) (by omega)]; exact g2, by rw [per_o (by omega) (by omega)]; exact g3, by rw [per_o (by omega) (by omega)]; exact g4, fun z => by rw [per_o (by omega) (by omega)] at z; omega, fun p hp => ?_, fun k hk => ?_, fun l hl => ?_, fun k hk => ?_⟩
  · rw [per_1] at hp
    by_cases q : p = G 1
    · subst q; rw [per_a, per_b]; omega
    · rw [per_o (by omega) (by omega), per_o (by omega) (by omega)]; exact g6 p (by omega)
  · rw [per_o (by omega) (by omega)] at hk
    rw [per_1, per_o (by omega) (by omega), per_o (by omega) (by omega), per_o (by omega) (by omega)]
    have := g7 k hk
    omega
  · rw [per_o (by omega) (by omega)] at hl
    rw [per_o (by omega) (by omega), per_o (by omega) (by omega)]
    exact g8 l hl
  · rw [per_o (by omega) (by omega)] at hk
    rw [per_o (by omega) (by omega), per_o (by omega) (by omega), per_o (by omega) (by omega), per_o (by omega) (by omega)]
    exact g9 k hk
theorem lam_gb (g : Gb G) (h : G 3 < 5) (h0 : 2 ≤ G 0) (ha : a ≤ 9) (hb : b ≤ 60) : Gb (lamG G a b) := by
  obtain ⟨g0, g1, g2, g3, g4, g5, g6, g7, g8, g9⟩ := g
  refine ⟨by rw [lam_o (by omega) (by omega)]; exact g0, by rw [lam_o (by omega) (by omega)]; exact g1, by rw [lam_o (by omega) (by omega)]; exact g2, by rw [lam_3]; omega, by rw [lam_o (by omega) (by omega)]; exact g4, fun z => by rw [lam_o (by omega) (by omega)] at z; omega, fun p hp => ?_, fun k hk => ?_, fun l hl => ?_, fun k hk => ?_⟩
  · rw [lam_o (by omega) (by omega)] at hp
    rw [lam_o (by omega) (by omega), lam_o (by omega) (by omega)]
    exact g6 p hp
  · rw [lam_o (by omega) (by omega)] at hk
    rw [lam_o (by omega) (by omega), lam_o (by omega) (by omega), lam_o (by omega) (by omega), lam_o (by omega) (by omega)]
    exact g7 k hk
  · rw [lam_3] at hl
    by_cases q : l = G 3
    · subst q
      rw [lam_a, show 70 + 2 * G 3 = 69 + 2 * G 3 + 1 by omega, lam_b]
      omega
    · rw [lam_o (by omega) (by omega), lam_o (by omega) (by omega)]; exact g8 l (by omega)
  · rw [lam_o (by omega) (by omega)] at hk
    rw [lam_3, lam_o (by omega) (by omega), lam_o (by omega) (by omega), lam_o (by omega) (by omega)]
    have := g9 k hk
    omega
theorem spw_gb (g : Gb G) (h : G 2 < 8) (h0 : 2 ≤ G 0) (hx : x < G 1) (hy : y ≤ z) (hz : z < G 0) : Gb (spaG G 45 2 x y z) := by
  obtain ⟨g0, g1, g2, g3, g4, g5, g6, g7, g8, g9⟩ := g
  refine ⟨by rw [spa_o (by omega) (by omega)]; exact g0, by rw [spa_o (by omega) (by omega)]; exact g1, by rw [spa_c]; omega, by rw [spa_o (by omega) (by omega)]; exact g3, by rw [spa_o (by omega) (by omega)]; exact g4, fun z => by rw [spa_o (by omega) (by omega)] at z; omega, fun p hp => ?_, fun k hk => ?_, fun l hl => ?_, fun k hk => ?_⟩
  · rw [spa_o (by omega) (by omega)] at hp
    rw [spa_o (by omega) (by omega), spa_o (by omega) (by omega)]
    exact g6 p hp
  · rw [spa_c] at hk
    by_cases q : k = G 2
    · subst q
      rw [spa_x (by omega), spa_y (by omega), spa_z (by omega), spa_o (by omega) (by omega)]
      omega
    · rw [spa_o (by omega) (by omega), spa_o (by omega) (by omega), spa_o (by omega) (by omega), spa_o (by omega) (by omega)]
      exact g7 k (by omega)
  · rw [spa_o (by omega) (by omega)] at hl
    rw [spa_o (by omega) (by omega), spa_o (by omega) (by omega)]
    exact g8 l hl
  · rw [spa_o (by omega) (by omega)] at hk
    rw [spa_o (by omega) (by omega), spa_o (by omega) (by omega), spa_o (by omega) (by omega), spa_o (by omega) (by omega)]
    exact g9 k hk
theorem spl_gb (g : Gb G) (h : G 4 < 8) (h0 : 2 ≤ G 0) (hx : x < G 3) (hy : y ≤ z) (hz : z < G 0) : Gb (spaG G 79 4 x y z) := by
  obtain ⟨g0, g1, g2, g3, g4, g5, g6, g7, g8, g9⟩ := g
  refine ⟨by rw [spa_o (by omega) (by omega)]; exact g0, by rw [spa_o (by omega) (by omega)]; exact g1, by rw [spa_o (by omega) (by omega)]; exact g2, by rw [spa_o (by omega) (by omega)]; exact g3, by rw [spa_c]; omega, fun z => by rw [spa_o (by omega) (by omega)] at z; omega, fun p hp => ?_, fun k hk => ?_, fun l hl => ?_, fun k hk => ?_⟩
  · rw [spa_o (by omega) (by omega)] at hp
    rw [spa_o (by omega) (by omega), spa_o (by omega) (by omega)]
    exact g6 p hp
  · rw [spa_o (by omega) (by omega)] at hk
    rw [spa_o (by omega) (by omega), spa_o (by omega) (by omega), spa_o (by omega) (by omega), spa_o (by omega) (by omega)]
    exact g7 k hk
  · rw [spa_o (by omega) (by omega)] at hl
    rw [spa_o (by omega) (by omega), spa_o (by omega) (by omega)]
    exact g8 l hl
  · rw [spa_c] at hk
    by_cases q : k = G 4
    · subst q
      rw [spa_x (by omega), spa_y (by omega), spa_z (by omega), spa_o (by omega) (by omega)]
      omega
    · rw [spa_o (by omega) (by omega), spa_o (by omega) (by omega), spa_o (by omega) (by omega), spa_o (by omega) (by omega)]
      exact g9 k (by omega)
theorem spn_new (p t : Nat) (hB : c < B) : spn (spaG G B c x y z) B p t (G c) = (x == p && (decide (y ≤ t) && decide (t ≤ z))) := by
  unfold spn
  rw [spa_x hB, spa_y hB, spa_z hB]
theorem wk_new (g : Gb G) (h : G 2 < 8) (p t : Nat) : wk (spaG G 45 2 x y z) p t = (wk G p t || (x == p && (decide (y ≤ t) && decide (t ≤ z)))) := by
  unfold wk
  rw [spa_c, anyB, spn_new p t (by omega)]
  congr 1
  apply anyB_ext
  intro i hi
  unfold spn
  rw [spa_o (by omega) (by omega), spa_o (by omega) (by omega), spa_o (by omega) (by omega)]
theorem li_new (g : Gb G) (h : G 4 < 8) (p t : Nat) : li (spaG G 79 4 x y z) p t = (li G p t || (x == p && (decide (y ≤ t) && decide (t ≤ z)))) := by
  unfold li
  rw [spa_c, anyB, spn_new p t (by omega)]
  congr 1
  apply anyB_ext
  intro i hi
  unfold spn
  rw [spa_o (by omega) (by omega), spa_o (by omega) (by omega), spa_o (by omega) (by omega)]
end SPURE
