theorem x0_step {u0 u : SG} {z N l : Nat} {c0 c1 : CE} {R : List CE} {β : Type} {G : Option β → Prop} (h : Hp u0 u z (c0 :: c1 :: R)) (hR : R.length = l) (k0 : c0.1 = 1) (r0 : c0.2.2.2.2 0 = some (z + 1)) (k1 : c1.1 = 25) (n1 : c1.2.1 = 20) {I : Int32} (hI : ¬ (I < 0 ∨ 20 ≤ I.toNatClampNeg)) {kf : SG → Option β} (k : ∀ w, Hp u0 w z (c0 :: ceR c1 I.toNatClampNeg (some (z + (2 + l))) :: (R ++ tX2 (z + (2 + l)))) → G (kf w)) : G (if zK u z = 1 then (Option.bind (zR u z 0) fun q6 => (nw u (sNew u 3 0) fun q7 u8 => (cla (u8.1 + 3) (fX2_init N q7 u8) fun _ u10 => (if zK u10 q6 = 25 then if I < 0 ∨ zN u10 q6 ≤ I.toNatClampNeg then none else if zK u10 q7 = 3 then bs (sR u10 q6 I.toNatClampNeg (some q7)) kf else none else none)))) else none) := by
  have hl : (c0 :: c1 :: R).length = 2 + l := by rw [List.length_cons, List.length_cons, hR]; omega
  refine st_K (G := G) h (i := 0) rfl rfl k0 ?_
  refine st_b (G := G) h (i := 0) (q := z + 1) rfl rfl r0 ?_
  refine st_new' (G := G) h (2 + l) hl (fun u h => ?_)
  refine st_call' (G := G) (ds := c0 :: c1 :: R) h (2 + l) rfl (f := fun b v => fX2_init N b v) (tab := tX2) (fun v b h => i_X2 h) (fun _ => rfl) hl rfl (fun u h => ?_)
  have h9 : (c0 :: c1 :: R ++ tX2 (z + (2 + l)))[2 + l]? = some (ceR (ceR (ceR (nc 3 0) 5 (some (z + (2 + l) + 1))) 6 (some (z + (2 + l) + 2))) 7 (some (z + (2 + l) + 3))) := by
    rw [List.getElem?_append_right (by rw [hl]; exact Nat.le_refl _), hl, Nat.sub_self]
    rfl
  refine st_K (G := G) h (i := 1) rfl rfl k1 ?_
  refine st_gN (G := G) h (i := 1) rfl rfl n1 hI ?_
  refine st_K (G := G) h (i := 2 + l) h9 rfl rfl ?_
  refine st_R (G := G) h (i := 1) rfl rfl (fun u h => ?_)
  exact k u h
def tX0 (b : Nat) : List CE := (ceR (nc 1 0) 0 (some (b + 1))) :: (ceR (ceR (ceR (ceR (ceR (ceR (ceR (ceR (ceR (ceR (ceR (ceR (ceR (ceR (ceR (ceR (ceR (ceR (ceR (ceR (nc 25 20) 0 (some (b + 2))) 1 (some (b + 6))) 2 (some (b + 10))) 3 (some (b + 14))) 4 (some (b + 18))) 5 (some (b + 22))) 6 (some (b + 26))) 7 (some (b + 30))) 8 (some (b + 34))) 9 (some (b + 38))) 10 (some (b + 42))) 11 (some (b + 46))) 12 (some (b + 50))) 13 (some (b + 54))) 14 (some (b + 58))) 15 (some (b + 62))) 16 (some (b + 66))) 17 (some (b + 70))) 18 (some (b + 74))) 19 (some (b + 78))) :: (((((((((((((((((((([] ++ tX2 (b + 2)) ++ tX2 (b + 6)) ++ tX2 (b + 10)) ++ tX2 (b + 14)) ++ tX2 (b + 18)) ++ tX2 (b + 22)) ++ tX2 (b + 26)) ++ tX2 (b + 30)) ++ tX2 (b + 34)) ++ tX2 (b + 38)) ++ tX2 (b + 42)) ++ tX2 (b + 46)) ++ tX2 (b + 50)) ++ tX2 (b + 54)) ++ tX2 (b + 58)) ++ tX2 (b + 62)) ++ tX2 (b + 66)) ++ tX2 (b + 70)) ++ tX2 (b + 74)) ++ tX2 (b + 78))
set_option maxRecDepth 20000 in
set_option maxHeartbeats 4000000 in
theorem i_X0 {N b : Nat} {v : SG} (h : Hp v v b [nc 1 0]) : Gd v b (tX0 b) (fX0_init N b v) := by
  unfold fX0_init
  refine st_g (G := Gd v b (tX0 b)) (by decide) ?_
  refine st_new' (G := Gd v b (tX0 b)) h 1 rfl (fun u h => ?_)
  replace h : Hp v u b [nc 1 0, nc 25 20] := h
  refine st_K (G := Gd v b (tX0 b)) h (i := 0) rfl rfl rfl ?_
  refine st_R (G := Gd v b (tX0 b)) h (i := 0) rfl rfl (fun u h => ?_)
  replace h : Hp v u b (ceR (nc 1 0) 0 (some (b + 1)) :: nc 25 20 :: []) := h
  refine st_K (G := Gd v b (tX0 b)) h (i := 0) rfl rfl rfl ?_
  refine st_I0 (G := Gd v b (tX0 b)) h (i := 0) rfl rfl rfl (fun u h => ?_)
  refine st_K (G := Gd v b (tX0 b)) h (i := 0) rfl rfl rfl ?_
  refine st_I0 (G := Gd v b (tX0 b)) h (i := 0) rfl rfl rfl (fun u h => ?_)
  have hR : ([] : List CE).length = 0 := rfl
  refine st_g (G := Gd v b (tX0 b)) (by decide) ?_
  refine x0_step (G := Gd v b (tX0 b)) (l := 0) h hR rfl rfl rfl rfl (by decide) (fun u h => ?_)
  replace hR := (List.length_append (as := _) (bs := tX2 (b + (2 + 0)))).trans (congrArg (· + 4) hR)
  refine st_g (G := Gd v b (tX0 b)) (by decide) ?_
  refine x0_step (G := Gd v b (tX0 b)) (l := 4) h hR rfl rfl rfl rfl (by decide) (fun u h => ?_)
  replace hR := (List.length_append (as := _) (bs := tX2 (b + (2 + 4)))).trans (congrArg (· + 4) hR)
  refine st_g (G := Gd v b (tX0 b)) (by decide) ?_
  refine x0_step (G := Gd v b (tX0 b)) (l := 8) h hR rfl rfl rfl rfl (by decide) (fun u h => ?_)
  replace hR := (List.length_append (as := _) (bs := tX2 (b + (2 + 8)))).trans (congrArg (· + 4) hR)
  refine st_g (G := Gd v b (tX0 b)) (by decide) ?_
  refine x0_step (G := Gd v b (tX0 b)) (l := 12) h hR rfl rfl rfl rfl (by decide) (fun u h => ?_)
  replace hR := (List.length_append (as := _) (bs := tX2 (b + (2 + 12)))).trans (congrArg (· + 4) hR)
  refine st_g (G := Gd v b (tX0 b)) (by decide) ?_
  refine x0_step (G := Gd v b (tX0 b)) (l := 16) h hR rfl rfl rfl rfl (by decide) (fun u h => ?_)
  replace hR := (List.length_append (as := _) (bs := tX2 (b + (2 + 16)))).trans (congrArg (· + 4) hR)
  refine st_g (G := Gd v b (tX0 b)) (by decide) ?_
  refine x0_step (G := Gd v b (tX0 b)) (l := 20) h hR rfl rfl rfl rfl (by decide) (fun u h => ?_)
  replace hR := (List.length_append (as := _) (bs := tX2 (b + (2 + 20)))).trans (congrArg (· + 4) hR)
  refine st_g (G := Gd v b (tX0 b)) (by decide) ?_
  refine x0_step (G := Gd v b (tX0 b)) (l := 24) h hR rfl rfl rfl rfl (by decide) (fun u h => ?_)
  replace hR := (List.length_append (as := _) (bs := tX2 (b + (2 + 24)))).trans (congrArg (· + 4) hR)
  refine st_g (G := Gd v b (tX0 b)) (by decide) ?_
  refine x0_step (G := Gd v b (tX0 b)) (l := 28) h hR rfl rfl rfl rfl (by decide) (fun u h => ?_)
  replace hR := (List.length_append (as := _) (bs := tX2 (b + (2 + 28)))).trans (congrArg (· + 4) hR)
  refine st_g (G := Gd v b (tX0 b)) (by decide) ?_
  refine x0_step (G := Gd v b (tX0 b)) (l := 32) h hR rfl rfl rfl rfl (by decide) (fun u h => ?_)
  replace hR := (List.length_append (as := _) (bs := tX2 (b + (2 + 32)))).trans (congrArg (· + 4) hR)
  refine st_g (G := Gd v b (tX0 b)) (by decide) ?_
  refine x0_step (G := Gd v b (tX0 b)) (l := 36) h hR rfl rfl rfl rfl (by decide) (fun u h => ?_)
  replace hR := (List.length_append (as := _) (bs := tX2 (b + (2 + 36)))).trans (congrArg (· + 4) hR)
  refine st_g (G := Gd v b (tX0 b)) (by decide) ?_
  refine x0_step (G := Gd v b (tX0 b)) (l := 40) h hR rfl rfl rfl rfl (by decide) (fun u h => ?_)
  replace hR := (List.length_append (as := _) (bs := tX2 (b + (2 + 40)))).trans (congrArg (· + 4) hR)
  refine st_g (G := Gd v b (tX0 b)) (by decide) ?_
  refine x0_step (G := Gd v b (tX0 b)) (l := 44) h hR rfl rfl rfl rfl (by decide) (fun u h => ?_)
  replace hR := (List.length_append (as := _) (bs := tX2 (b + (2 + 44)))).trans (congrArg (· + 4) hR)
  refine st_g (G := Gd v b (tX0 b)) (by decide) ?_
  refine x0_step (G := Gd v b (tX0 b)) (l := 48) h hR rfl rfl rfl rfl (by decide) (fun u h => ?_)
  replace hR := (List.length_append (as := _) (bs := tX2 (b + (2 + 48)))).trans (congrArg (· + 4) hR)
  refine st_g (G := Gd v b (tX0 b)) (by decide) ?_
  refine x0_step (G := Gd v b (tX0 b)) (l := 52) h hR rfl rfl rfl rfl (by decide) (fun u h => ?_)
  replace hR := (List.length_append (as := _) (bs := tX2 (b + (2 + 52)))).trans (congrArg (· + 4) hR)
  refine st_g (G := Gd v b (tX0 b)) (by decide) ?_
  refine x0_step (G := Gd v b (tX0 b)) (l := 56) h hR rfl rfl rfl rfl (by decide) (fun u h => ?_)
  replace hR := (List.length_append (as := _) (bs := tX2 (b + (2 + 56)))).trans (congrArg (· + 4) hR)
  refine st_g (G := Gd v b (tX0 b)) (by decide) ?_
  refine x0_step (G := Gd v b (tX0 b)) (l := 60) h hR rfl rfl rfl rfl (by decide) (fun u h => ?_)
  replace hR := (List.length_append (as := _) (bs := tX2 (b + (2 + 60)))).trans (congrArg (· + 4) hR)
  refine st_g (G := Gd v b (tX0 b)) (by decide) ?_
  refine x0_step (G := Gd v b (tX0 b)) (l := 64) h hR rfl rfl rfl rfl (by decide) (fun u h => ?_)
  replace hR := (List.length_append (as := _) (bs := tX2 (b + (2 + 64)))).trans (congrArg (· + 4) hR)
  refine st_g (G := Gd v b (tX0 b)) (by decide) ?_
  refine x0_step (G := Gd v b (tX0 b)) (l := 68) h hR rfl rfl rfl rfl (by decide) (fun u h => ?_)
  replace hR := (List.length_append (as := _) (bs := tX2 (b + (2 + 68)))).trans (congrArg (· + 4) hR)
  refine st_g (G := Gd v b (tX0 b)) (by decide) ?_
  refine x0_step (G := Gd v b (tX0 b)) (l := 72) h hR rfl rfl rfl rfl (by decide) (fun u h => ?_)
  replace hR := (List.length_append (as := _) (bs := tX2 (b + (2 + 72)))).trans (congrArg (· + 4) hR)
  refine st_g (G := Gd v b (tX0 b)) (by decide) ?_
  refine x0_step (G := Gd v b (tX0 b)) (l := 76) h hR rfl rfl rfl rfl (by decide) (fun u h => ?_)
  replace hR := (List.length_append (as := _) (bs := tX2 (b + (2 + 76)))).trans (congrArg (· + 4) hR)
  refine st_t (G := Gd v b (tX0 b)) (by decide) ?_
  exact Gd.mk h rfl
