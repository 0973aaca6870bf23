/-! THE START: the class's constructor -/
theorem len_app {α : Type} {R S : List α} {l n : Nat} (h : R.length = l) (hs : S.length = n) : (R ++ S).length = l + n := by rw [List.length_append, h, hs]
theorem set_last {α : Type} {L : List α} {c c' : α} {n : Nat} (h : L.length = n) : (L ++ [c]).set n c' = L ++ [c'] := by
  rw [List.set_append_right _ _ (by omega), h, Nat.sub_self]
  rfl
theorem tX0_len (b : Nat) : (tX0 b).length = 82 := by
  have e : ∀ c, (tX2 c).length = 4 := fun c => rfl
  unfold tX0
  simp only [List.length_cons, List.length_append, e, List.length_nil]
section X10S
variable {u0 u : SG} {z l kd n N i : Nat} {c0 : CE} {R : List CE} {β : Type} {G : Option β → Prop}
theorem x_child (h : Hp u0 u z (c0 :: R)) (hR : R.length = l) (k0 : c0.1 = 11) {f : Nat → SG → Option (Unit × SG)} {tab : Nat → List CE} (sub : ∀ (v : SG) (b : Nat), Hp v v b [nc kd 0] → ∃ w, f b v = some ((), w) ∧ Hp v w b (tab b)) (ht : ∀ b, (tab b).length = n + 1) {kf : SG → Option β} (k : ∀ w, Hp u0 w z (ceR c0 i (some (z + (1 + l))) :: (R ++ tab (z + (1 + l)))) → G (kf w)) : G (nw u (sNew u kd 0) fun q1 u2 => (cla (u2.1 + n) (f q1 u2) fun _ u4 => (if zK u4 z = 11 then bs (sR u4 z i (some q1)) kf else none))) := by
  have hl : (c0 :: R).length = 1 + l := by rw [List.length_cons, hR]; omega
  refine st_new' (G := G) h (1 + l) hl (fun u h => ?_)
  refine st_call' (G := G) (ds := c0 :: R) h (1 + l) rfl (f := f) (tab := tab) sub ht hl rfl (fun u h => ?_)
  refine st_K (G := G) h (i := 0) rfl rfl k0 ?_
  refine st_R (G := G) h (i := 0) rfl rfl (fun u h => ?_)
  exact k u h
theorem x_arr (h : Hp u0 u z (c0 :: R)) (hR : R.length = l) (k0 : c0.1 = 11) {kf : SG → Option β} (k : ∀ w, Hp u0 w z (ceR c0 i (some (z + (1 + l))) :: (R ++ [nc kd n])) → G (kf w)) : G (nw u (sNew u kd n) fun q1 u2 => (if zK u2 z = 11 then bs (sR u2 z i (some q1)) kf else none)) := by
  have hl : (c0 :: R).length = 1 + l := by rw [List.length_cons, hR]; omega
  refine st_new' (G := G) h (1 + l) hl (fun u h => ?_)
  refine st_K (G := G) h (i := 0) rfl rfl k0 ?_
  refine st_R (G := G) h (i := 0) rfl rfl (fun u h => ?_)
  exact k u h
theorem x_X8 {p : Nat} (h : Hp u0 u z (c0 :: R)) (hR : R.length = l) (k0 : c0.1 = 11) (r0 : c0.2.2.2.2 0 = some p) {kf : SG → Option β} (k : ∀ w, Hp u0 w z (ceR c0 1 (some (z + (1 + l))) :: (R ++ [ceR (nc 9 0) 0 (some p)])) → G (kf w)) : G (nw u (sNew u 9 0) fun q6 u7 => (if zK u7 z = 11 then (Option.bind (zR u7 z 0) fun q8 => (cl (fX8_init N q6 q8 u7) fun _ u10 => (if zK u10 z = 11 then bs (sR u10 z 1 (some q6)) kf else none))) else none)) := by
  have hl : (c0 :: R).length = 1 + l := by rw [List.length_cons, hR]; omega
  refine st_new' (G := G) h (1 + l) hl (fun u h => ?_)
  refine st_K (G := G) h (i := 0) rfl rfl k0 ?_
  refine st_b (G := G) h (i := 0) (q := p) rfl rfl r0 ?_
  have e6 : (c0 :: R ++ [nc 9 0])[1 + l]? = some (nc 9 0) := by
    rw [List.getElem?_append_right (by rw [hl]; exact Nat.le_refl _), hl, Nat.sub_self]
    rfl
  refine st_X8 (G := G) h (i := 1 + l) e6 rfl rfl (fun u h => ?_)
  rw [set_last hl] at h
  refine st_K (G := G) h (i := 0) rfl rfl k0 ?_
  refine st_R (G := G) h (i := 0) rfl rfl (fun u h => ?_)
  exact k u h
theorem x_X5 {p : Nat} (h : Hp u0 u z (c0 :: R)) (hR : R.length = l) (k0 : c0.1 = 11) (r0 : c0.2.2.2.2 0 = some p) {kf : SG → Option β} (k : ∀ w, Hp u0 w z (ceR c0 2 (some (z + (1 + l))) :: (R ++ tX5 p (z + (1 + l)))) → G (kf w)) : G (nw u (sNew u 6 0) fun q12 u13 => (if zK u13 z = 11 then (Option.bind (zR u13 z 0) fun q14 => (cla (u13.1 + 1) (fX5_init N q12 q14 u13) fun _ u16 => (if zK u16 z = 11 then bs (sR u16 z 2 (some q12)) kf else none))) else none)) := by
  have hl : (c0 :: R).length = 1 + l := by rw [List.length_cons, hR]; omega
  refine st_new' (G := G) h (1 + l) hl (fun u h => ?_)
  refine st_K (G := G) h (i := 0) rfl rfl k0 ?_
  refine st_b (G := G) h (i := 0) (q := p) rfl rfl r0 ?_
  refine st_call' (G := G) (ds := c0 :: R) h (1 + l) rfl (f := fun b v => fX5_init N b p v) (tab := tX5 p) (fun v b h => i_X5 h) (fun _ => rfl) hl rfl (fun u h => ?_)
  refine st_K (G := G) h (i := 0) rfl rfl k0 ?_
  refine st_R (G := G) h (i := 0) rfl rfl (fun u h => ?_)
  exact k u h
theorem x_img {c34 : CE} {Ra Rb : List CE} (h : Hp u0 u z (c0 :: (Ra ++ c34 :: Rb))) (hA : Ra.length = 33) (hB : Rb.length = l) (k0 : c0.1 = 11) (r7 : c0.2.2.2.2 7 = some (z + 34)) (k1 : c34.1 = 27) (n1 : c34.2.1 = 4) {I : Int32} (hI : ¬ (I < 0 ∨ 4 ≤ I.toNatClampNeg)) {kf : SG → Option β} (k : ∀ w, Hp u0 w z (c0 :: (Ra ++ ceR c34 I.toNatClampNeg (some (z + (35 + l))) :: (Rb ++ tX6 (z + (35 + l))))) → G (kf w)) : G (if zK u z = 11 then (Option.bind (zR u z 7) fun q56 => (nw u (sNew u 7 0) fun q57 u58 => (cla (u58.1 + 16) (fX6_init N q57 u58) fun _ u60 => (if zK u60 q56 = 27 then if I < 0 ∨ zN u60 q56 ≤ I.toNatClampNeg then none else if zK u60 q57 = 7 then bs (sR u60 q56 I.toNatClampNeg (some q57)) kf else none else none)))) else none) := by
  have hl : (c0 :: (Ra ++ c34 :: Rb)).length = 35 + l := by simp [hA, hB]; omega
  refine st_K (G := G) h (i := 0) rfl rfl k0 ?_
  refine st_b (G := G) h (i := 0) (q := z + 34) rfl rfl r7 ?_
  refine st_new' (G := G) h (35 + l) hl (fun u h => ?_)
  refine st_call' (G := G) (ds := c0 :: (Ra ++ c34 :: Rb)) h (35 + l) rfl (f := fun b v => fX6_init N b v) (tab := tX6) (fun v b h => i_X6 h) (fun _ => rfl) hl rfl (fun u h => ?_)
  have e34 : (c0 :: (Ra ++ c34 :: Rb) ++ tX6 (z + (35 + l)))[34]? = some c34 := by
    rw [List.getElem?_append_left (by rw [hl]; omega)]
    show (Ra ++ c34 :: Rb)[33]? = _
    rw [List.getElem?_append_right (by omega), hA]
    rfl
  have e35 : (c0 :: (Ra ++ c34 :: Rb) ++ tX6 (z + (35 + l)))[35 + l]? = some (ceI (ceR (ceR (ceR (nc 7 0) 0 (some (z + (35 + l) + 1))) 1 (some (z + (35 + l) + 8))) 2 (some (z + (35 + l) + 12))) 3 (-1)) := by
    rw [List.getElem?_append_right (by rw [hl]; exact Nat.le_refl _), hl, Nat.sub_self]
    rfl
  refine st_K (G := G) h (i := 34) e34 rfl k1 ?_
  refine st_gN (G := G) h (i := 34) e34 rfl n1 hI ?_
  refine st_K (G := G) h (i := 35 + l) e35 rfl rfl ?_
  refine st_R (G := G) h (i := 34) e34 rfl (fun u h => ?_)
  have es : (c0 :: (Ra ++ c34 :: Rb) ++ tX6 (z + (35 + l))).set 34 (ceR c34 I.toNatClampNeg (some (z + (35 + l)))) = c0 :: (Ra ++ ceR c34 I.toNatClampNeg (some (z + (35 + l))) :: (Rb ++ tX6 (z + (35 + l)))) := by
    show c0 :: ((Ra ++ c34 :: Rb) ++ tX6 (z + (35 + l))).set 33 _ = _
    rw [List.append_assoc, List.set_append_right _ _ (by omega), hA]
    rfl
  rw [es] at h
  exact k u h
end X10S
def x10a (b : Nat) : List CE := (((([] ++ tX9 (b + (1 + 0))) ++ [ceR (nc 9 0) 0 (some (b + 1))]) ++ tX5 (b + 1) (b + (1 + 6))) ++ tX7 (b + (1 + 8))) ++ [nc 26 6] ++ tX6 (b + (1 + 16))
def x10b (b : Nat) : List CE := tX0 (b + (1 + 34)) ++ tX3 (b + (1 + 116)) ++ tX2 (b + (1 + 118)) ++ [nc 22 10] ++ [nc 22 11]
def x10c (b : Nat) : CE := ceR (ceR (ceR (ceR (ceR (ceR (ceR (ceR (ceR (ceR (ceR (ceR (nc 11 0) 0 (some (b + (1 + 0)))) 1 (some (b + (1 + 5)))) 2 (some (b + (1 + 6)))) 3 (some (b + (1 + 8)))) 4 (some (b + (1 + 15)))) 6 (some (b + (1 + 16)))) 7 (some (b + (1 + 33)))) 8 (some (b + (1 + 34)))) 9 (some (b + (1 + 116)))) 10 (some (b + (1 + 118)))) 11 (some (b + (1 + 122)))) 12 (some (b + (1 + 123)))
def x10d (b : Nat) : CE := ceR (ceR (ceR (ceR (nc 27 4) 0 (some (b + (35 + 90)))) 1 (some (b + (35 + 107)))) 2 (some (b + (35 + 124)))) 3 (some (b + (35 + 141)))
def tX10 (b : Nat) : List CE := x10c b :: (x10a b ++ x10d b :: ((((x10b b ++ tX6 (b + (35 + 90))) ++ tX6 (b + (35 + 107))) ++ tX6 (b + (35 + 124))) ++ tX6 (b + (35 + 141))))
theorem x10b_len (b : Nat) : (x10b b).length = 90 := by
  unfold x10b
  exact len_app (len_app (len_app (len_app (tX0_len _) (show (tX3 _).length = 2 from rfl)) (show (tX2 _).length = 4 from rfl)) (show [nc 22 10].length = 1 from rfl)) (show [nc 22 11].length = 1 from rfl)
theorem x10a_len (b : Nat) : (x10a b).length = 33 := rfl
theorem tX10_len (b : Nat) : (tX10 b).length = 193 := by
  unfold tX10
  rw [List.length_cons, List.length_append, List.length_cons, x10a_len, len_app (len_app (len_app (len_app (x10b_len b) (show (tX6 _).length = 17 from rfl)) (show (tX6 _).length = 17 from rfl)) (show (tX6 _).length = 17 from rfl)) (show (tX6 _).length = 17 from rfl)]
set_option maxRecDepth 20000 in
set_option maxHeartbeats 4000000 in
theorem i_X10 {N b : Nat} {v : SG} (h : Hp v v b [nc 11 0]) : Gd v b (tX10 b) (fX10_init N b v) := by
  unfold fX10_init
  have hR : ([] : List CE).length = 0 := rfl
  refine x_child (G := Gd v b (tX10 b)) (l := 0) h hR rfl (f := fun b v => fX9_init N b v) (tab := tX9) (fun v b h => i_X9 h) (fun _ => rfl) (fun u h => ?_)
  replace hR := len_app hR (show (tX9 (b + (1 + 0))).length = 5 from rfl)
  refine x_X8 (G := Gd v b (tX10 b)) (l := 5) (p := b + 1) h hR rfl rfl (fun u h => ?_)
  replace hR := len_app hR (show [ceR (nc 9 0) 0 (some (b + 1))].length = 1 from rfl)
  refine x_X5 (G := Gd v b (tX10 b)) (l := 6) (p := b + 1) h hR rfl rfl (fun u h => ?_)
  replace hR := len_app hR (show (tX5 (b + 1) (b + (1 + 6))).length = 2 from rfl)
  refine x_child (G := Gd v b (tX10 b)) (l := 8) h hR rfl (f := fun b v => fX7_init N b v) (tab := tX7) (fun v b h => i_X7 h) (fun _ => rfl) (fun u h => ?_)
  replace hR := len_app hR (show (tX7 (b + (1 + 8))).length = 7 from rfl)
  refine st_g (G := Gd v b (tX10 b)) (by decide) ?_
  refine x_arr (G := Gd v b (tX10 b)) (l := 15) h hR rfl (fun u h => ?_)
  replace hR := len_app hR (show [nc 26 6].length = 1 from rfl)
  refine st_K (G := Gd v b (tX10 b)) h (i := 0) rfl rfl rfl ?_
  refine st_I0 (G := Gd v b (tX10 b)) h (i := 0) rfl rfl rfl (fun u h => ?_)
  refine x_child (G := Gd v b (tX10 b)) (l := 16) h hR rfl (f := fun b v => fX6_init N b v) (tab := tX6) (fun v b h => i_X6 h) (fun _ => rfl) (fun u h => ?_)
  replace hR := len_app hR (show (tX6 (b + (1 + 16))).length = 17 from rfl)
  have hA := hR
  refine st_g (G := Gd v b (tX10 b)) (by decide) ?_
  refine x_arr (G := Gd v b (tX10 b)) (l := 33) h hR rfl (fun u h => ?_)
  replace hR := len_app hR (show [nc 27 4].length = 1 from rfl)
  refine x_child (G := Gd v b (tX10 b)) (l := 34) h hR rfl (n := 81) (f := fun b v => fX0_init N b v) (tab := tX0) (fun v b h => i_X0 h) (fun b => tX0_len b) (fun u h => ?_)
  replace hR := len_app hR (tX0_len (b + (1 + 34)))
  refine x_child (G := Gd v b (tX10 b)) (l := 116) h hR rfl (f := fun b v => fX3_init N b v) (tab := tX3) (fun v b h => i_X3 h) (fun _ => rfl) (fun u h => ?_)
  replace hR := len_app hR (show (tX3 (b + (1 + 116))).length = 2 from rfl)
  refine x_child (G := Gd v b (tX10 b)) (l := 118) h hR rfl (f := fun b v => fX2_init N b v) (tab := tX2) (fun v b h => i_X2 h) (fun _ => rfl) (fun u h => ?_)
  replace hR := len_app hR (show (tX2 (b + (1 + 118))).length = 4 from rfl)
  refine st_g (G := Gd v b (tX10 b)) (by decide) ?_
  refine x_arr (G := Gd v b (tX10 b)) (l := 122) h hR rfl (fun u h => ?_)
  replace hR := len_app hR (show [nc 22 10].length = 1 from rfl)
  refine st_g (G := Gd v b (tX10 b)) (by decide) ?_
  refine x_arr (G := Gd v b (tX10 b)) (l := 123) h hR rfl (fun u h => ?_)
  clear hR
  have hA : (x10a b).length = 33 := hA
  have hB : (x10b b).length = 90 := x10b_len b
  have h : Hp v u b (x10c b :: (x10a b ++ nc 27 4 :: x10b b)) := by
    have e : x10a b ++ [nc 27 4] ++ tX0 (b + (1 + 34)) ++ tX3 (b + (1 + 116)) ++ tX2 (b + (1 + 118)) ++ [nc 22 10] ++ [nc 22 11] = x10a b ++ nc 27 4 :: x10b b := by unfold x10b; simp only [List.append_assoc, List.cons_append, List.nil_append]
    rw [← e]
    exact h
  refine st_g (G := Gd v b (tX10 b)) (by decide) ?_
  refine x_img (G := Gd v b (tX10 b)) (l := 90) h hA hB rfl rfl rfl rfl (by decide) (fun u h => ?_)
  replace hB := len_app hB (show (tX6 (b + (35 + 90))).length = 17 from rfl)
  refine st_g (G := Gd v b (tX10 b)) (by decide) ?_
  refine x_img (G := Gd v b (tX10 b)) (l := 107) h hA hB rfl rfl rfl rfl (by decide) (fun u h => ?_)
  replace hB := len_app hB (show (tX6 (b + (35 + 107))).length = 17 from rfl)
  refine st_g (G := Gd v b (tX10 b)) (by decide) ?_
  refine x_img (G := Gd v b (tX10 b)) (l := 124) h hA hB rfl rfl rfl rfl (by decide) (fun u h => ?_)
  replace hB := len_app hB (show (tX6 (b + (35 + 124))).length = 17 from rfl)
  refine st_g (G := Gd v b (tX10 b)) (by decide) ?_
  refine x_img (G := Gd v b (tX10 b)) (l := 141) h hA hB rfl rfl rfl rfl (by decide) (fun u h => ?_)
  refine st_t (G := Gd v b (tX10 b)) (by decide) ?_
  exact Gd.mk h rfl
