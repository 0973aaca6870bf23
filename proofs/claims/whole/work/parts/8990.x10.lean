/-! THE START: the class's constructor -/
theorem x_child {u0 u : SG} {z l kd n N : Nat} {c0 : CE} {R : List CE} {β : Type} {G : Option β → Prop} (h : Hp u0 u z (c0 :: R)) (hR : R.length = l) (k0 : c0.1 = 11) {f : Nat → SG → Option (Unit × SG)} {tab : Nat → List CE} (sub : ∀ (v : SG) (b : Nat), Hp v v b [nc kd 0] → ∃ w, f b v = some ((), w) ∧ Hp v w b (tab b)) (ht : ∀ b, (tab b).length = n + 1) {i : Nat} {kf : SG → Option β} (k : ∀ w, Hp u0 w z (ceR c0 i (some (z + (1 + l))) :: (R ++ tab (z + (1 + l)))) → G (kf w)) : G (nw u (sNew u kd 0) fun q1 u2 => (cla (u2.1 + n) (f q1 u2) fun _ u4 => (if zK u4 z = 11 then bs (sR u4 z i (some q1)) kf else none))) := by
  have hl : (c0 :: R).length = 1 + l := by rw [List.length_cons, hR]; omega
  refine st_new' (G := G) h (1 + l) hl (fun u h => ?_)
  refine st_call' (G := G) (ds := c0 :: R) h (1 + l) rfl (f := f) (tab := tab) sub ht hl rfl (fun u h => ?_)
  refine st_K (G := G) h (i := 0) rfl rfl k0 ?_
  refine st_R (G := G) h (i := 0) rfl rfl (fun u h => ?_)
  exact k u h
theorem x_arr {u0 u : SG} {z l kd n : Nat} {c0 : CE} {R : List CE} {β : Type} {G : Option β → Prop} (h : Hp u0 u z (c0 :: R)) (hR : R.length = l) (k0 : c0.1 = 11) {i : Nat} {kf : SG → Option β} (k : ∀ w, Hp u0 w z (ceR c0 i (some (z + (1 + l))) :: (R ++ [nc kd n])) → G (kf w)) : G (nw u (sNew u kd n) fun q1 u2 => (if zK u2 z = 11 then bs (sR u2 z i (some q1)) kf else none)) := by
  have hl : (c0 :: R).length = 1 + l := by rw [List.length_cons, hR]; omega
  refine st_new' (G := G) h (1 + l) hl (fun u h => ?_)
  refine st_K (G := G) h (i := 0) rfl rfl k0 ?_
  refine st_R (G := G) h (i := 0) rfl rfl (fun u h => ?_)
  exact k u h
theorem len_app {α : Type} {R S : List α} {l n : Nat} (h : R.length = l) (hs : S.length = n) : (R ++ S).length = l + n := by rw [List.length_append, h, hs]
