/-! THE START: the constructors -/
def Gd (u0 : SG) (z : Nat) (T : List CE) (r : Option (Unit × SG)) : Prop := ∃ w, r = some ((), w) ∧ Hp u0 w z T
theorem Gd.mk {u0 w : SG} {z : Nat} {T T' : List CE} (h : Hp u0 w z T) (e : T = T') : Gd u0 z T' (some ((), w)) := ⟨w, rfl, e ▸ h⟩
theorem st_t {β : Type} {G : Option β → Prop} {p : Prop} [Decidable p] {x y : Option β} (hp : p) (k : G x) : G (if p then x else y) := by rw [if_pos hp]; exact k
theorem st_gN {u0 u : SG} {z a i : Nat} {cs : List CE} {c : CE} {β : Type} {G : Option β → Prop} (h : Hp u0 u z cs) (hi : cs[i]? = some c) (ea : a = z + i) {p : Prop} [Decidable p] {n : Nat} {x : Option β} {l : Nat} (hl : c.2.1 = l) (hp : ¬ (p ∨ l ≤ n)) (k : G x) : G (if p ∨ zN u a ≤ n then none else x) := by rw [h.N hi ea, hl, if_neg hp]; exact k
theorem st_new' {u0 u : SG} {z : Nat} {cs : List CE} {β : Type} {G : Option β → Prop} (h : Hp u0 u z cs) (o : Nat) (ho : cs.length = o) {kd n : Nat} {kf : Nat → SG → Option β} (k : ∀ w, Hp u0 w z (cs ++ [nc kd n]) → G (kf (z + o) w)) : G (nw u (sNew u kd n) kf) := by
  subst ho
  exact st_new h k
theorem st_call' {u0 u : SG} {z a : Nat} {cs : List CE} {β : Type} {G : Option β → Prop} (h : Hp u0 u z cs) (o : Nat) {kd n : Nat} {ds : List CE} (hcs : cs = ds ++ [nc kd 0]) {f : Nat → SG → Option (Unit × SG)} {tab : Nat → List CE} (sub : ∀ (v : SG) (b : Nat), Hp v v b [nc kd 0] → ∃ w, f b v = some ((), w) ∧ Hp v w b (tab b)) (ht : ∀ b, (tab b).length = n + 1) (ho : ds.length = o) (ea : a = z + o) {kf : Unit → SG → Option β} (k : ∀ w, Hp u0 w z (ds ++ tab (z + o)) → G (kf () w)) : G (cla (u.1 + n) (f a u) kf) := by
  subst ho
  exact st_call h hcs sub ht ea k
theorem st_X8 {u0 u : SG} {z a i p N : Nat} {cs : List CE} {c : CE} {β : Type} {G : Option β → Prop} (h : Hp u0 u z cs) (hi : cs[i]? = some c) (ea : a = z + i) (ek : c.1 = 9) {kf : Unit → SG → Option β} (k : ∀ w, Hp u0 w z (cs.set i (ceR c 0 (some p))) → G (kf () w)) : G (cl (fX8_init N a p u) kf) := by
  unfold fX8_init
  rw [if_pos ((h.K hi ea).trans ek)]
  exact k _ (h.wR hi ea 0 _)
def tX9 (b : Nat) : List CE := [ceI (ceI (ceI (ceI (ceR (ceR (ceR (ceR (nc 10 0) 0 (some (b + 1))) 3 (some (b + 2))) 4 (some (b + 3))) 5 (some (b + 4))) 7 (-1)) 9 (-1)) 10 (-1)) 11 (-1), nc 21 400, nc 22 401, nc 22 401, nc 22 401]
set_option maxRecDepth 20000 in
set_option maxHeartbeats 20000000 in
theorem i_X9 {N b : Nat} {v : SG} (h : Hp v v b [nc 10 0]) : Gd v b (tX9 b) (fX9_init N b v) := by
  unfold fX9_init
  refine st_g (G := Gd v b (tX9 b)) (by decide) ?_
  refine st_new' (G := Gd v b (tX9 b)) h 1 rfl (fun u h => ?_)
  replace h : Hp v u b ([nc 10 0, nc 21 400]) := h
  refine st_K (G := Gd v b (tX9 b)) h (i := 0) rfl rfl rfl ?_
  refine st_R (G := Gd v b (tX9 b)) h (i := 0) rfl rfl (fun u h => ?_)
  replace h : Hp v u b ([ceR (nc 10 0) 0 (some (b + 1)), nc 21 400]) := h
  refine st_K (G := Gd v b (tX9 b)) h (i := 0) rfl rfl rfl ?_
  refine st_I0 (G := Gd v b (tX9 b)) h (i := 0) rfl rfl rfl (fun u h => ?_)
  refine st_K (G := Gd v b (tX9 b)) h (i := 0) rfl rfl rfl ?_
  refine st_I0 (G := Gd v b (tX9 b)) h (i := 0) rfl rfl rfl (fun u h => ?_)
  refine st_g (G := Gd v b (tX9 b)) (by decide) ?_
  refine st_new' (G := Gd v b (tX9 b)) h 2 rfl (fun u h => ?_)
  replace h : Hp v u b ([ceR (nc 10 0) 0 (some (b + 1)), nc 21 400, nc 22 401]) := h
  refine st_K (G := Gd v b (tX9 b)) h (i := 0) rfl rfl rfl ?_
  refine st_R (G := Gd v b (tX9 b)) h (i := 0) rfl rfl (fun u h => ?_)
  replace h : Hp v u b ([ceR (ceR (nc 10 0) 0 (some (b + 1))) 3 (some (b + 2)), nc 21 400, nc 22 401]) := h
  refine st_g (G := Gd v b (tX9 b)) (by decide) ?_
  refine st_new' (G := Gd v b (tX9 b)) h 3 rfl (fun u h => ?_)
  replace h : Hp v u b ([ceR (ceR (nc 10 0) 0 (some (b + 1))) 3 (some (b + 2)), nc 21 400, nc 22 401, nc 22 401]) := h
  refine st_K (G := Gd v b (tX9 b)) h (i := 0) rfl rfl rfl ?_
  refine st_R (G := Gd v b (tX9 b)) h (i := 0) rfl rfl (fun u h => ?_)
  replace h : Hp v u b ([ceR (ceR (ceR (nc 10 0) 0 (some (b + 1))) 3 (some (b + 2))) 4 (some (b + 3)), nc 21 400, nc 22 401, nc 22 401]) := h
  refine st_g (G := Gd v b (tX9 b)) (by decide) ?_
  refine st_new' (G := Gd v b (tX9 b)) h 4 rfl (fun u h => ?_)
  replace h : Hp v u b ([ceR (ceR (ceR (nc 10 0) 0 (some (b + 1))) 3 (some (b + 2))) 4 (some (b + 3)), nc 21 400, nc 22 401, nc 22 401, nc 22 401]) := h
  refine st_K (G := Gd v b (tX9 b)) h (i := 0) rfl rfl rfl ?_
  refine st_R (G := Gd v b (tX9 b)) h (i := 0) rfl rfl (fun u h => ?_)
  replace h : Hp v u b ([ceR (ceR (ceR (ceR (nc 10 0) 0 (some (b + 1))) 3 (some (b + 2))) 4 (some (b + 3))) 5 (some (b + 4)), nc 21 400, nc 22 401, nc 22 401, nc 22 401]) := h
  refine st_K (G := Gd v b (tX9 b)) h (i := 0) rfl rfl rfl ?_
  refine st_I0 (G := Gd v b (tX9 b)) h (i := 0) rfl rfl rfl (fun u h => ?_)
  refine st_K (G := Gd v b (tX9 b)) h (i := 0) rfl rfl rfl ?_
  refine st_I (G := Gd v b (tX9 b)) h (i := 0) rfl rfl (fun u h => ?_)
  replace h : Hp v u b ([ceI (ceR (ceR (ceR (ceR (nc 10 0) 0 (some (b + 1))) 3 (some (b + 2))) 4 (some (b + 3))) 5 (some (b + 4))) 7 (-1), nc 21 400, nc 22 401, nc 22 401, nc 22 401]) := h
  refine st_K (G := Gd v b (tX9 b)) h (i := 0) rfl rfl rfl ?_
  refine st_I0 (G := Gd v b (tX9 b)) h (i := 0) rfl rfl rfl (fun u h => ?_)
  refine st_K (G := Gd v b (tX9 b)) h (i := 0) rfl rfl rfl ?_
  refine st_I (G := Gd v b (tX9 b)) h (i := 0) rfl rfl (fun u h => ?_)
  replace h : Hp v u b ([ceI (ceI (ceR (ceR (ceR (ceR (nc 10 0) 0 (some (b + 1))) 3 (some (b + 2))) 4 (some (b + 3))) 5 (some (b + 4))) 7 (-1)) 9 (-1), nc 21 400, nc 22 401, nc 22 401, nc 22 401]) := h
  refine st_K (G := Gd v b (tX9 b)) h (i := 0) rfl rfl rfl ?_
  refine st_I (G := Gd v b (tX9 b)) h (i := 0) rfl rfl (fun u h => ?_)
  replace h : Hp v u b ([ceI (ceI (ceI (ceR (ceR (ceR (ceR (nc 10 0) 0 (some (b + 1))) 3 (some (b + 2))) 4 (some (b + 3))) 5 (some (b + 4))) 7 (-1)) 9 (-1)) 10 (-1), nc 21 400, nc 22 401, nc 22 401, nc 22 401]) := h
  refine st_K (G := Gd v b (tX9 b)) h (i := 0) rfl rfl rfl ?_
  refine st_I (G := Gd v b (tX9 b)) h (i := 0) rfl rfl (fun u h => ?_)
  replace h : Hp v u b ([ceI (ceI (ceI (ceI (ceR (ceR (ceR (ceR (nc 10 0) 0 (some (b + 1))) 3 (some (b + 2))) 4 (some (b + 3))) 5 (some (b + 4))) 7 (-1)) 9 (-1)) 10 (-1)) 11 (-1), nc 21 400, nc 22 401, nc 22 401, nc 22 401]) := h
  exact Gd.mk h rfl
def tX5 (p : Nat) (b : Nat) : List CE := [ceR (ceR (nc 6 0) 1 (some (b + 1))) 0 (some p), nc 22 412]
set_option maxRecDepth 20000 in
set_option maxHeartbeats 20000000 in
theorem i_X5 {N p b : Nat} {v : SG} (h : Hp v v b [nc 6 0]) : Gd v b (tX5 p b) (fX5_init N b p v) := by
  unfold fX5_init
  refine st_g (G := Gd v b (tX5 p b)) (by decide) ?_
  refine st_new' (G := Gd v b (tX5 p b)) h 1 rfl (fun u h => ?_)
  replace h : Hp v u b ([nc 6 0, nc 22 412]) := h
  refine st_K (G := Gd v b (tX5 p b)) h (i := 0) rfl rfl rfl ?_
  refine st_R (G := Gd v b (tX5 p b)) h (i := 0) rfl rfl (fun u h => ?_)
  replace h : Hp v u b ([ceR (nc 6 0) 1 (some (b + 1)), nc 22 412]) := h
  refine st_K (G := Gd v b (tX5 p b)) h (i := 0) rfl rfl rfl ?_
  refine st_I0 (G := Gd v b (tX5 p b)) h (i := 0) rfl rfl rfl (fun u h => ?_)
  refine st_K (G := Gd v b (tX5 p b)) h (i := 0) rfl rfl rfl ?_
  refine st_I0 (G := Gd v b (tX5 p b)) h (i := 0) rfl rfl rfl (fun u h => ?_)
  refine st_K (G := Gd v b (tX5 p b)) h (i := 0) rfl rfl rfl ?_
  refine st_R (G := Gd v b (tX5 p b)) h (i := 0) rfl rfl (fun u h => ?_)
  replace h : Hp v u b ([ceR (ceR (nc 6 0) 1 (some (b + 1))) 0 (some p), nc 22 412]) := h
  exact Gd.mk h rfl
def tX7 (b : Nat) : List CE := [ceR (ceR (ceR (ceR (ceR (ceR (nc 8 0) 0 (some (b + 1))) 1 (some (b + 2))) 2 (some (b + 3))) 3 (some (b + 4))) 4 (some (b + 5))) 5 (some (b + 6)), nc 22 5, nc 22 5, nc 22 5, nc 22 5, nc 22 10, nc 22 10]
set_option maxRecDepth 20000 in
set_option maxHeartbeats 20000000 in
theorem i_X7 {N b : Nat} {v : SG} (h : Hp v v b [nc 8 0]) : Gd v b (tX7 b) (fX7_init N b v) := by
  unfold fX7_init
  refine st_g (G := Gd v b (tX7 b)) (by decide) ?_
  refine st_new' (G := Gd v b (tX7 b)) h 1 rfl (fun u h => ?_)
  replace h : Hp v u b ([nc 8 0, nc 22 5]) := h
  refine st_K (G := Gd v b (tX7 b)) h (i := 0) rfl rfl rfl ?_
  refine st_R (G := Gd v b (tX7 b)) h (i := 0) rfl rfl (fun u h => ?_)
  replace h : Hp v u b ([ceR (nc 8 0) 0 (some (b + 1)), nc 22 5]) := h
  refine st_g (G := Gd v b (tX7 b)) (by decide) ?_
  refine st_new' (G := Gd v b (tX7 b)) h 2 rfl (fun u h => ?_)
  replace h : Hp v u b ([ceR (nc 8 0) 0 (some (b + 1)), nc 22 5, nc 22 5]) := h
  refine st_K (G := Gd v b (tX7 b)) h (i := 0) rfl rfl rfl ?_
  refine st_R (G := Gd v b (tX7 b)) h (i := 0) rfl rfl (fun u h => ?_)
  replace h : Hp v u b ([ceR (ceR (nc 8 0) 0 (some (b + 1))) 1 (some (b + 2)), nc 22 5, nc 22 5]) := h
  refine st_g (G := Gd v b (tX7 b)) (by decide) ?_
  refine st_new' (G := Gd v b (tX7 b)) h 3 rfl (fun u h => ?_)
  replace h : Hp v u b ([ceR (ceR (nc 8 0) 0 (some (b + 1))) 1 (some (b + 2)), nc 22 5, nc 22 5, nc 22 5]) := h
  refine st_K (G := Gd v b (tX7 b)) h (i := 0) rfl rfl rfl ?_
  refine st_R (G := Gd v b (tX7 b)) h (i := 0) rfl rfl (fun u h => ?_)
  replace h : Hp v u b ([ceR (ceR (ceR (nc 8 0) 0 (some (b + 1))) 1 (some (b + 2))) 2 (some (b + 3)), nc 22 5, nc 22 5, nc 22 5]) := h
  refine st_g (G := Gd v b (tX7 b)) (by decide) ?_
  refine st_new' (G := Gd v b (tX7 b)) h 4 rfl (fun u h => ?_)
  replace h : Hp v u b ([ceR (ceR (ceR (nc 8 0) 0 (some (b + 1))) 1 (some (b + 2))) 2 (some (b + 3)), nc 22 5, nc 22 5, nc 22 5, nc 22 5]) := h
  refine st_K (G := Gd v b (tX7 b)) h (i := 0) rfl rfl rfl ?_
  refine st_R (G := Gd v b (tX7 b)) h (i := 0) rfl rfl (fun u h => ?_)
  replace h : Hp v u b ([ceR (ceR (ceR (ceR (nc 8 0) 0 (some (b + 1))) 1 (some (b + 2))) 2 (some (b + 3))) 3 (some (b + 4)), nc 22 5, nc 22 5, nc 22 5, nc 22 5]) := h
  refine st_g (G := Gd v b (tX7 b)) (by decide) ?_
  refine st_new' (G := Gd v b (tX7 b)) h 5 rfl (fun u h => ?_)
  replace h : Hp v u b ([ceR (ceR (ceR (ceR (nc 8 0) 0 (some (b + 1))) 1 (some (b + 2))) 2 (some (b + 3))) 3 (some (b + 4)), nc 22 5, nc 22 5, nc 22 5, nc 22 5, nc 22 10]) := h
  refine st_K (G := Gd v b (tX7 b)) h (i := 0) rfl rfl rfl ?_
  refine st_R (G := Gd v b (tX7 b)) h (i := 0) rfl rfl (fun u h => ?_)
  replace h : Hp v u b ([ceR (ceR (ceR (ceR (ceR (nc 8 0) 0 (some (b + 1))) 1 (some (b + 2))) 2 (some (b + 3))) 3 (some (b + 4))) 4 (some (b + 5)), nc 22 5, nc 22 5, nc 22 5, nc 22 5, nc 22 10]) := h
  refine st_g (G := Gd v b (tX7 b)) (by decide) ?_
  refine st_new' (G := Gd v b (tX7 b)) h 6 rfl (fun u h => ?_)
  replace h : Hp v u b ([ceR (ceR (ceR (ceR (ceR (nc 8 0) 0 (some (b + 1))) 1 (some (b + 2))) 2 (some (b + 3))) 3 (some (b + 4))) 4 (some (b + 5)), nc 22 5, nc 22 5, nc 22 5, nc 22 5, nc 22 10, nc 22 10]) := h
  refine st_K (G := Gd v b (tX7 b)) h (i := 0) rfl rfl rfl ?_
  refine st_R (G := Gd v b (tX7 b)) h (i := 0) rfl rfl (fun u h => ?_)
  replace h : Hp v u b ([ceR (ceR (ceR (ceR (ceR (ceR (nc 8 0) 0 (some (b + 1))) 1 (some (b + 2))) 2 (some (b + 3))) 3 (some (b + 4))) 4 (some (b + 5))) 5 (some (b + 6)), nc 22 5, nc 22 5, nc 22 5, nc 22 5, nc 22 10, nc 22 10]) := h
  refine st_K (G := Gd v b (tX7 b)) h (i := 0) rfl rfl rfl ?_
  refine st_I0 (G := Gd v b (tX7 b)) h (i := 0) rfl rfl rfl (fun u h => ?_)
  refine st_K (G := Gd v b (tX7 b)) h (i := 0) rfl rfl rfl ?_
  refine st_I0 (G := Gd v b (tX7 b)) h (i := 0) rfl rfl rfl (fun u h => ?_)
  refine st_K (G := Gd v b (tX7 b)) h (i := 0) rfl rfl rfl ?_
  refine st_I0 (G := Gd v b (tX7 b)) h (i := 0) rfl rfl rfl (fun u h => ?_)
  refine st_K (G := Gd v b (tX7 b)) h (i := 0) rfl rfl rfl ?_
  refine st_I0 (G := Gd v b (tX7 b)) h (i := 0) rfl rfl rfl (fun u h => ?_)
  refine st_K (G := Gd v b (tX7 b)) h (i := 0) rfl rfl rfl ?_
  refine st_I0 (G := Gd v b (tX7 b)) h (i := 0) rfl rfl rfl (fun u h => ?_)
  exact Gd.mk h rfl
def tX2 (b : Nat) : List CE := [ceR (ceR (ceR (nc 3 0) 5 (some (b + 1))) 6 (some (b + 2))) 7 (some (b + 3)), nc 22 5, nc 22 5, nc 23 6]
set_option maxRecDepth 20000 in
set_option maxHeartbeats 20000000 in
theorem i_X2 {N b : Nat} {v : SG} (h : Hp v v b [nc 3 0]) : Gd v b (tX2 b) (fX2_init N b v) := by
  unfold fX2_init
  refine st_K (G := Gd v b (tX2 b)) h (i := 0) rfl rfl rfl ?_
  refine st_I0 (G := Gd v b (tX2 b)) h (i := 0) rfl rfl rfl (fun u h => ?_)
  refine st_K (G := Gd v b (tX2 b)) h (i := 0) rfl rfl rfl ?_
  refine st_I0 (G := Gd v b (tX2 b)) h (i := 0) rfl rfl rfl (fun u h => ?_)
  refine st_K (G := Gd v b (tX2 b)) h (i := 0) rfl rfl rfl ?_
  refine st_I0 (G := Gd v b (tX2 b)) h (i := 0) rfl rfl rfl (fun u h => ?_)
  refine st_K (G := Gd v b (tX2 b)) h (i := 0) rfl rfl rfl ?_
  refine st_I0 (G := Gd v b (tX2 b)) h (i := 0) rfl rfl rfl (fun u h => ?_)
  refine st_K (G := Gd v b (tX2 b)) h (i := 0) rfl rfl rfl ?_
  refine st_I0 (G := Gd v b (tX2 b)) h (i := 0) rfl rfl rfl (fun u h => ?_)
  refine st_g (G := Gd v b (tX2 b)) (by decide) ?_
  refine st_new' (G := Gd v b (tX2 b)) h 1 rfl (fun u h => ?_)
  replace h : Hp v u b ([nc 3 0, nc 22 5]) := h
  refine st_K (G := Gd v b (tX2 b)) h (i := 0) rfl rfl rfl ?_
  refine st_R (G := Gd v b (tX2 b)) h (i := 0) rfl rfl (fun u h => ?_)
  replace h : Hp v u b ([ceR (nc 3 0) 5 (some (b + 1)), nc 22 5]) := h
  refine st_g (G := Gd v b (tX2 b)) (by decide) ?_
  refine st_new' (G := Gd v b (tX2 b)) h 2 rfl (fun u h => ?_)
  replace h : Hp v u b ([ceR (nc 3 0) 5 (some (b + 1)), nc 22 5, nc 22 5]) := h
  refine st_K (G := Gd v b (tX2 b)) h (i := 0) rfl rfl rfl ?_
  refine st_R (G := Gd v b (tX2 b)) h (i := 0) rfl rfl (fun u h => ?_)
  replace h : Hp v u b ([ceR (ceR (nc 3 0) 5 (some (b + 1))) 6 (some (b + 2)), nc 22 5, nc 22 5]) := h
  refine st_g (G := Gd v b (tX2 b)) (by decide) ?_
  refine st_new' (G := Gd v b (tX2 b)) h 3 rfl (fun u h => ?_)
  replace h : Hp v u b ([ceR (ceR (nc 3 0) 5 (some (b + 1))) 6 (some (b + 2)), nc 22 5, nc 22 5, nc 23 6]) := h
  refine st_K (G := Gd v b (tX2 b)) h (i := 0) rfl rfl rfl ?_
  refine st_R (G := Gd v b (tX2 b)) h (i := 0) rfl rfl (fun u h => ?_)
  replace h : Hp v u b ([ceR (ceR (ceR (nc 3 0) 5 (some (b + 1))) 6 (some (b + 2))) 7 (some (b + 3)), nc 22 5, nc 22 5, nc 23 6]) := h
  exact Gd.mk h rfl
def tX1 (b : Nat) : List CE := [ceR (ceR (ceR (ceR (nc 2 0) 0 (some (b + 1))) 1 (some (b + 2))) 2 (some (b + 3))) 3 (some (b + 4)), nc 22 10, nc 22 10, nc 22 10, nc 22 10]
set_option maxRecDepth 20000 in
set_option maxHeartbeats 20000000 in
theorem i_X1 {N b : Nat} {v : SG} (h : Hp v v b [nc 2 0]) : Gd v b (tX1 b) (fX1_init N b v) := by
  unfold fX1_init
  refine st_g (G := Gd v b (tX1 b)) (by decide) ?_
  refine st_new' (G := Gd v b (tX1 b)) h 1 rfl (fun u h => ?_)
  replace h : Hp v u b ([nc 2 0, nc 22 10]) := h
  refine st_K (G := Gd v b (tX1 b)) h (i := 0) rfl rfl rfl ?_
  refine st_R (G := Gd v b (tX1 b)) h (i := 0) rfl rfl (fun u h => ?_)
  replace h : Hp v u b ([ceR (nc 2 0) 0 (some (b + 1)), nc 22 10]) := h
  refine st_g (G := Gd v b (tX1 b)) (by decide) ?_
  refine st_new' (G := Gd v b (tX1 b)) h 2 rfl (fun u h => ?_)
  replace h : Hp v u b ([ceR (nc 2 0) 0 (some (b + 1)), nc 22 10, nc 22 10]) := h
  refine st_K (G := Gd v b (tX1 b)) h (i := 0) rfl rfl rfl ?_
  refine st_R (G := Gd v b (tX1 b)) h (i := 0) rfl rfl (fun u h => ?_)
  replace h : Hp v u b ([ceR (ceR (nc 2 0) 0 (some (b + 1))) 1 (some (b + 2)), nc 22 10, nc 22 10]) := h
  refine st_g (G := Gd v b (tX1 b)) (by decide) ?_
  refine st_new' (G := Gd v b (tX1 b)) h 3 rfl (fun u h => ?_)
  replace h : Hp v u b ([ceR (ceR (nc 2 0) 0 (some (b + 1))) 1 (some (b + 2)), nc 22 10, nc 22 10, nc 22 10]) := h
  refine st_K (G := Gd v b (tX1 b)) h (i := 0) rfl rfl rfl ?_
  refine st_R (G := Gd v b (tX1 b)) h (i := 0) rfl rfl (fun u h => ?_)
  replace h : Hp v u b ([ceR (ceR (ceR (nc 2 0) 0 (some (b + 1))) 1 (some (b + 2))) 2 (some (b + 3)), nc 22 10, nc 22 10, nc 22 10]) := h
  refine st_g (G := Gd v b (tX1 b)) (by decide) ?_
  refine st_new' (G := Gd v b (tX1 b)) h 4 rfl (fun u h => ?_)
  replace h : Hp v u b ([ceR (ceR (ceR (nc 2 0) 0 (some (b + 1))) 1 (some (b + 2))) 2 (some (b + 3)), nc 22 10, nc 22 10, nc 22 10, nc 22 10]) := h
  refine st_K (G := Gd v b (tX1 b)) h (i := 0) rfl rfl rfl ?_
  refine st_R (G := Gd v b (tX1 b)) h (i := 0) rfl rfl (fun u h => ?_)
  replace h : Hp v u b ([ceR (ceR (ceR (ceR (nc 2 0) 0 (some (b + 1))) 1 (some (b + 2))) 2 (some (b + 3))) 3 (some (b + 4)), nc 22 10, nc 22 10, nc 22 10, nc 22 10]) := h
  refine st_K (G := Gd v b (tX1 b)) h (i := 0) rfl rfl rfl ?_
  refine st_I0 (G := Gd v b (tX1 b)) h (i := 0) rfl rfl rfl (fun u h => ?_)
  exact Gd.mk h rfl
def tX3 (b : Nat) : List CE := [ceR (nc 4 0) 0 (some (b + 1)), nc 23 64]
set_option maxRecDepth 20000 in
set_option maxHeartbeats 20000000 in
theorem i_X3 {N b : Nat} {v : SG} (h : Hp v v b [nc 4 0]) : Gd v b (tX3 b) (fX3_init N b v) := by
  unfold fX3_init
  refine st_g (G := Gd v b (tX3 b)) (by decide) ?_
  refine st_new' (G := Gd v b (tX3 b)) h 1 rfl (fun u h => ?_)
  replace h : Hp v u b ([nc 4 0, nc 23 64]) := h
  refine st_K (G := Gd v b (tX3 b)) h (i := 0) rfl rfl rfl ?_
  refine st_R (G := Gd v b (tX3 b)) h (i := 0) rfl rfl (fun u h => ?_)
  replace h : Hp v u b ([ceR (nc 4 0) 0 (some (b + 1)), nc 23 64]) := h
  refine st_K (G := Gd v b (tX3 b)) h (i := 0) rfl rfl rfl ?_
  refine st_I0 (G := Gd v b (tX3 b)) h (i := 0) rfl rfl rfl (fun u h => ?_)
  refine st_K (G := Gd v b (tX3 b)) h (i := 0) rfl rfl rfl ?_
  refine st_I0 (G := Gd v b (tX3 b)) h (i := 0) rfl rfl rfl (fun u h => ?_)
  refine st_K (G := Gd v b (tX3 b)) h (i := 0) rfl rfl rfl ?_
  refine st_L0 (G := Gd v b (tX3 b)) h (i := 0) rfl rfl rfl (fun u h => ?_)
  exact Gd.mk h rfl
def tX6 (b : Nat) : List CE := [ceI (ceR (ceR (ceR (nc 7 0) 0 (some (b + 1))) 1 (some (b + 8))) 2 (some (b + 12))) 3 (-1)] ++ (tX7 (b + 1)) ++ (tX2 (b + 8)) ++ (tX1 (b + 12))
set_option maxRecDepth 20000 in
set_option maxHeartbeats 20000000 in
theorem i_X6 {N b : Nat} {v : SG} (h : Hp v v b [nc 7 0]) : Gd v b (tX6 b) (fX6_init N b v) := by
  unfold fX6_init
  refine st_new' (G := Gd v b (tX6 b)) h 1 rfl (fun u h => ?_)
  refine st_call' (G := Gd v b (tX6 b)) (ds := _) h 1 rfl (f := fun b v => fX7_init N b v) (tab := tX7) (fun v b h => i_X7 h) (fun _ => rfl) rfl rfl (fun u h => ?_)
  refine st_K (G := Gd v b (tX6 b)) h (i := 0) rfl rfl rfl ?_
  refine st_R (G := Gd v b (tX6 b)) h (i := 0) rfl rfl (fun u h => ?_)
  replace h : Hp v u b ([ceR (nc 7 0) 0 (some (b + 1))] ++ (tX7 (b + 1))) := h
  refine st_new' (G := Gd v b (tX6 b)) h 8 rfl (fun u h => ?_)
  refine st_call' (G := Gd v b (tX6 b)) (ds := _) h 8 rfl (f := fun b v => fX2_init N b v) (tab := tX2) (fun v b h => i_X2 h) (fun _ => rfl) rfl rfl (fun u h => ?_)
  refine st_K (G := Gd v b (tX6 b)) h (i := 0) rfl rfl rfl ?_
  refine st_R (G := Gd v b (tX6 b)) h (i := 0) rfl rfl (fun u h => ?_)
  replace h : Hp v u b ([ceR (ceR (nc 7 0) 0 (some (b + 1))) 1 (some (b + 8))] ++ (tX7 (b + 1)) ++ (tX2 (b + 8))) := h
  refine st_new' (G := Gd v b (tX6 b)) h 12 rfl (fun u h => ?_)
  refine st_call' (G := Gd v b (tX6 b)) (ds := _) h 12 rfl (f := fun b v => fX1_init N b v) (tab := tX1) (fun v b h => i_X1 h) (fun _ => rfl) rfl rfl (fun u h => ?_)
  refine st_K (G := Gd v b (tX6 b)) h (i := 0) rfl rfl rfl ?_
  refine st_R (G := Gd v b (tX6 b)) h (i := 0) rfl rfl (fun u h => ?_)
  replace h : Hp v u b ([ceR (ceR (ceR (nc 7 0) 0 (some (b + 1))) 1 (some (b + 8))) 2 (some (b + 12))] ++ (tX7 (b + 1)) ++ (tX2 (b + 8)) ++ (tX1 (b + 12))) := h
  refine st_K (G := Gd v b (tX6 b)) h (i := 0) rfl rfl rfl ?_
  refine st_I (G := Gd v b (tX6 b)) h (i := 0) rfl rfl (fun u h => ?_)
  replace h : Hp v u b ([ceI (ceR (ceR (ceR (nc 7 0) 0 (some (b + 1))) 1 (some (b + 8))) 2 (some (b + 12))) 3 (-1)] ++ (tX7 (b + 1)) ++ (tX2 (b + 8)) ++ (tX1 (b + 12))) := h
  refine st_K (G := Gd v b (tX6 b)) h (i := 0) rfl rfl rfl ?_
  refine st_I0 (G := Gd v b (tX6 b)) h (i := 0) rfl rfl rfl (fun u h => ?_)
  refine st_K (G := Gd v b (tX6 b)) h (i := 0) rfl rfl rfl ?_
  refine st_t (G := Gd v b (tX6 b)) (by decide) ?_
  refine st_I0 (G := Gd v b (tX6 b)) h (i := 0) rfl rfl rfl (fun u h => ?_)
  exact Gd.mk h rfl
def tX11 (b : Nat) : List CE := [ceR (ceR (ceR (ceR (ceR (ceR (ceR (ceR (ceR (ceI (ceR (ceR (ceR (ceR (ceR (ceR (ceR (ceR (ceR (ceR (nc 12 0) 0 (some (b + 1))) 3 (some (b + 2))) 4 (some (b + 3))) 5 (some (b + 4))) 6 (some (b + 5))) 7 (some (b + 6))) 15 (some (b + 7))) 17 (some (b + 8))) 19 (some (b + 9))) 20 (some (b + 10))) 21 (-1)) 23 (some (b + 11))) 24 (some (b + 12))) 26 (some (b + 13))) 29 (some (b + 14))) 30 (some (b + 15))) 32 (some (b + 16))) 33 (some (b + 17))) 34 (some (b + 18))) 35 (some (b + 19)), nc 21 400, nc 22 2400, nc 22 7, nc 22 288, nc 22 6, nc 22 103, nc 22 400, nc 23 64, nc 23 13, nc 22 144, nc 22 5, nc 22 900, nc 22 45, nc 22 11, nc 22 729, nc 22 576, nc 22 4, nc 22 4, nc 24 4]
set_option maxRecDepth 20000 in
set_option maxHeartbeats 20000000 in
theorem i_X11 {N b : Nat} {v : SG} (h : Hp v v b [nc 12 0]) : Gd v b (tX11 b) (fX11_init N b v) := by
  unfold fX11_init
  refine st_g (G := Gd v b (tX11 b)) (by decide) ?_
  refine st_new' (G := Gd v b (tX11 b)) h 1 rfl (fun u h => ?_)
  replace h : Hp v u b ([nc 12 0, nc 21 400]) := h
  refine st_K (G := Gd v b (tX11 b)) h (i := 0) rfl rfl rfl ?_
  refine st_R (G := Gd v b (tX11 b)) h (i := 0) rfl rfl (fun u h => ?_)
  replace h : Hp v u b ([ceR (nc 12 0) 0 (some (b + 1)), nc 21 400]) := h
  refine st_g (G := Gd v b (tX11 b)) (by decide) ?_
  refine st_new' (G := Gd v b (tX11 b)) h 2 rfl (fun u h => ?_)
  replace h : Hp v u b ([ceR (nc 12 0) 0 (some (b + 1)), nc 21 400, nc 22 2400]) := h
  refine st_K (G := Gd v b (tX11 b)) h (i := 0) rfl rfl rfl ?_
  refine st_R (G := Gd v b (tX11 b)) h (i := 0) rfl rfl (fun u h => ?_)
  replace h : Hp v u b ([ceR (ceR (nc 12 0) 0 (some (b + 1))) 3 (some (b + 2)), nc 21 400, nc 22 2400]) := h
  refine st_g (G := Gd v b (tX11 b)) (by decide) ?_
  refine st_new' (G := Gd v b (tX11 b)) h 3 rfl (fun u h => ?_)
  replace h : Hp v u b ([ceR (ceR (nc 12 0) 0 (some (b + 1))) 3 (some (b + 2)), nc 21 400, nc 22 2400, nc 22 7]) := h
  refine st_K (G := Gd v b (tX11 b)) h (i := 0) rfl rfl rfl ?_
  refine st_R (G := Gd v b (tX11 b)) h (i := 0) rfl rfl (fun u h => ?_)
  replace h : Hp v u b ([ceR (ceR (ceR (nc 12 0) 0 (some (b + 1))) 3 (some (b + 2))) 4 (some (b + 3)), nc 21 400, nc 22 2400, nc 22 7]) := h
  refine st_g (G := Gd v b (tX11 b)) (by decide) ?_
  refine st_new' (G := Gd v b (tX11 b)) h 4 rfl (fun u h => ?_)
  replace h : Hp v u b ([ceR (ceR (ceR (nc 12 0) 0 (some (b + 1))) 3 (some (b + 2))) 4 (some (b + 3)), nc 21 400, nc 22 2400, nc 22 7, nc 22 288]) := h
  refine st_K (G := Gd v b (tX11 b)) h (i := 0) rfl rfl rfl ?_
  refine st_R (G := Gd v b (tX11 b)) h (i := 0) rfl rfl (fun u h => ?_)
  replace h : Hp v u b ([ceR (ceR (ceR (ceR (nc 12 0) 0 (some (b + 1))) 3 (some (b + 2))) 4 (some (b + 3))) 5 (some (b + 4)), nc 21 400, nc 22 2400, nc 22 7, nc 22 288]) := h
  refine st_g (G := Gd v b (tX11 b)) (by decide) ?_
  refine st_new' (G := Gd v b (tX11 b)) h 5 rfl (fun u h => ?_)
  replace h : Hp v u b ([ceR (ceR (ceR (ceR (nc 12 0) 0 (some (b + 1))) 3 (some (b + 2))) 4 (some (b + 3))) 5 (some (b + 4)), nc 21 400, nc 22 2400, nc 22 7, nc 22 288, nc 22 6]) := h
  refine st_K (G := Gd v b (tX11 b)) h (i := 0) rfl rfl rfl ?_
  refine st_R (G := Gd v b (tX11 b)) h (i := 0) rfl rfl (fun u h => ?_)
  replace h : Hp v u b ([ceR (ceR (ceR (ceR (ceR (nc 12 0) 0 (some (b + 1))) 3 (some (b + 2))) 4 (some (b + 3))) 5 (some (b + 4))) 6 (some (b + 5)), nc 21 400, nc 22 2400, nc 22 7, nc 22 288, nc 22 6]) := h
  refine st_g (G := Gd v b (tX11 b)) (by decide) ?_
  refine st_new' (G := Gd v b (tX11 b)) h 6 rfl (fun u h => ?_)
  replace h : Hp v u b ([ceR (ceR (ceR (ceR (ceR (nc 12 0) 0 (some (b + 1))) 3 (some (b + 2))) 4 (some (b + 3))) 5 (some (b + 4))) 6 (some (b + 5)), nc 21 400, nc 22 2400, nc 22 7, nc 22 288, nc 22 6, nc 22 103]) := h
  refine st_K (G := Gd v b (tX11 b)) h (i := 0) rfl rfl rfl ?_
  refine st_R (G := Gd v b (tX11 b)) h (i := 0) rfl rfl (fun u h => ?_)
  replace h : Hp v u b ([ceR (ceR (ceR (ceR (ceR (ceR (nc 12 0) 0 (some (b + 1))) 3 (some (b + 2))) 4 (some (b + 3))) 5 (some (b + 4))) 6 (some (b + 5))) 7 (some (b + 6)), nc 21 400, nc 22 2400, nc 22 7, nc 22 288, nc 22 6, nc 22 103]) := h
  refine st_g (G := Gd v b (tX11 b)) (by decide) ?_
  refine st_new' (G := Gd v b (tX11 b)) h 7 rfl (fun u h => ?_)
  replace h : Hp v u b ([ceR (ceR (ceR (ceR (ceR (ceR (nc 12 0) 0 (some (b + 1))) 3 (some (b + 2))) 4 (some (b + 3))) 5 (some (b + 4))) 6 (some (b + 5))) 7 (some (b + 6)), nc 21 400, nc 22 2400, nc 22 7, nc 22 288, nc 22 6, nc 22 103, nc 22 400]) := h
  refine st_K (G := Gd v b (tX11 b)) h (i := 0) rfl rfl rfl ?_
  refine st_R (G := Gd v b (tX11 b)) h (i := 0) rfl rfl (fun u h => ?_)
  replace h : Hp v u b ([ceR (ceR (ceR (ceR (ceR (ceR (ceR (nc 12 0) 0 (some (b + 1))) 3 (some (b + 2))) 4 (some (b + 3))) 5 (some (b + 4))) 6 (some (b + 5))) 7 (some (b + 6))) 15 (some (b + 7)), nc 21 400, nc 22 2400, nc 22 7, nc 22 288, nc 22 6, nc 22 103, nc 22 400]) := h
  refine st_g (G := Gd v b (tX11 b)) (by decide) ?_
  refine st_new' (G := Gd v b (tX11 b)) h 8 rfl (fun u h => ?_)
  replace h : Hp v u b ([ceR (ceR (ceR (ceR (ceR (ceR (ceR (nc 12 0) 0 (some (b + 1))) 3 (some (b + 2))) 4 (some (b + 3))) 5 (some (b + 4))) 6 (some (b + 5))) 7 (some (b + 6))) 15 (some (b + 7)), nc 21 400, nc 22 2400, nc 22 7, nc 22 288, nc 22 6, nc 22 103, nc 22 400, nc 23 64]) := h
  refine st_K (G := Gd v b (tX11 b)) h (i := 0) rfl rfl rfl ?_
  refine st_R (G := Gd v b (tX11 b)) h (i := 0) rfl rfl (fun u h => ?_)
  replace h : Hp v u b ([ceR (ceR (ceR (ceR (ceR (ceR (ceR (ceR (nc 12 0) 0 (some (b + 1))) 3 (some (b + 2))) 4 (some (b + 3))) 5 (some (b + 4))) 6 (some (b + 5))) 7 (some (b + 6))) 15 (some (b + 7))) 17 (some (b + 8)), nc 21 400, nc 22 2400, nc 22 7, nc 22 288, nc 22 6, nc 22 103, nc 22 400, nc 23 64]) := h
  refine st_g (G := Gd v b (tX11 b)) (by decide) ?_
  refine st_new' (G := Gd v b (tX11 b)) h 9 rfl (fun u h => ?_)
  replace h : Hp v u b ([ceR (ceR (ceR (ceR (ceR (ceR (ceR (ceR (nc 12 0) 0 (some (b + 1))) 3 (some (b + 2))) 4 (some (b + 3))) 5 (some (b + 4))) 6 (some (b + 5))) 7 (some (b + 6))) 15 (some (b + 7))) 17 (some (b + 8)), nc 21 400, nc 22 2400, nc 22 7, nc 22 288, nc 22 6, nc 22 103, nc 22 400, nc 23 64, nc 23 13]) := h
  refine st_K (G := Gd v b (tX11 b)) h (i := 0) rfl rfl rfl ?_
  refine st_R (G := Gd v b (tX11 b)) h (i := 0) rfl rfl (fun u h => ?_)
  replace h : Hp v u b ([ceR (ceR (ceR (ceR (ceR (ceR (ceR (ceR (ceR (nc 12 0) 0 (some (b + 1))) 3 (some (b + 2))) 4 (some (b + 3))) 5 (some (b + 4))) 6 (some (b + 5))) 7 (some (b + 6))) 15 (some (b + 7))) 17 (some (b + 8))) 19 (some (b + 9)), nc 21 400, nc 22 2400, nc 22 7, nc 22 288, nc 22 6, nc 22 103, nc 22 400, nc 23 64, nc 23 13]) := h
  refine st_g (G := Gd v b (tX11 b)) (by decide) ?_
  refine st_new' (G := Gd v b (tX11 b)) h 10 rfl (fun u h => ?_)
  replace h : Hp v u b ([ceR (ceR (ceR (ceR (ceR (ceR (ceR (ceR (ceR (nc 12 0) 0 (some (b + 1))) 3 (some (b + 2))) 4 (some (b + 3))) 5 (some (b + 4))) 6 (some (b + 5))) 7 (some (b + 6))) 15 (some (b + 7))) 17 (some (b + 8))) 19 (some (b + 9)), nc 21 400, nc 22 2400, nc 22 7, nc 22 288, nc 22 6, nc 22 103, nc 22 400, nc 23 64, nc 23 13, nc 22 144]) := h
  refine st_K (G := Gd v b (tX11 b)) h (i := 0) rfl rfl rfl ?_
  refine st_R (G := Gd v b (tX11 b)) h (i := 0) rfl rfl (fun u h => ?_)
  replace h : Hp v u b ([ceR (ceR (ceR (ceR (ceR (ceR (ceR (ceR (ceR (ceR (nc 12 0) 0 (some (b + 1))) 3 (some (b + 2))) 4 (some (b + 3))) 5 (some (b + 4))) 6 (some (b + 5))) 7 (some (b + 6))) 15 (some (b + 7))) 17 (some (b + 8))) 19 (some (b + 9))) 20 (some (b + 10)), nc 21 400, nc 22 2400, nc 22 7, nc 22 288, nc 22 6, nc 22 103, nc 22 400, nc 23 64, nc 23 13, nc 22 144]) := h
  refine st_K (G := Gd v b (tX11 b)) h (i := 0) rfl rfl rfl ?_
  refine st_I (G := Gd v b (tX11 b)) h (i := 0) rfl rfl (fun u h => ?_)
  replace h : Hp v u b ([ceI (ceR (ceR (ceR (ceR (ceR (ceR (ceR (ceR (ceR (ceR (nc 12 0) 0 (some (b + 1))) 3 (some (b + 2))) 4 (some (b + 3))) 5 (some (b + 4))) 6 (some (b + 5))) 7 (some (b + 6))) 15 (some (b + 7))) 17 (some (b + 8))) 19 (some (b + 9))) 20 (some (b + 10))) 21 (-1), nc 21 400, nc 22 2400, nc 22 7, nc 22 288, nc 22 6, nc 22 103, nc 22 400, nc 23 64, nc 23 13, nc 22 144]) := h
  refine st_g (G := Gd v b (tX11 b)) (by decide) ?_
  refine st_new' (G := Gd v b (tX11 b)) h 11 rfl (fun u h => ?_)
  replace h : Hp v u b ([ceI (ceR (ceR (ceR (ceR (ceR (ceR (ceR (ceR (ceR (ceR (nc 12 0) 0 (some (b + 1))) 3 (some (b + 2))) 4 (some (b + 3))) 5 (some (b + 4))) 6 (some (b + 5))) 7 (some (b + 6))) 15 (some (b + 7))) 17 (some (b + 8))) 19 (some (b + 9))) 20 (some (b + 10))) 21 (-1), nc 21 400, nc 22 2400, nc 22 7, nc 22 288, nc 22 6, nc 22 103, nc 22 400, nc 23 64, nc 23 13, nc 22 144, nc 22 5]) := h
  refine st_K (G := Gd v b (tX11 b)) h (i := 0) rfl rfl rfl ?_
  refine st_R (G := Gd v b (tX11 b)) h (i := 0) rfl rfl (fun u h => ?_)
  replace h : Hp v u b ([ceR (ceI (ceR (ceR (ceR (ceR (ceR (ceR (ceR (ceR (ceR (ceR (nc 12 0) 0 (some (b + 1))) 3 (some (b + 2))) 4 (some (b + 3))) 5 (some (b + 4))) 6 (some (b + 5))) 7 (some (b + 6))) 15 (some (b + 7))) 17 (some (b + 8))) 19 (some (b + 9))) 20 (some (b + 10))) 21 (-1)) 23 (some (b + 11)), nc 21 400, nc 22 2400, nc 22 7, nc 22 288, nc 22 6, nc 22 103, nc 22 400, nc 23 64, nc 23 13, nc 22 144, nc 22 5]) := h
  refine st_g (G := Gd v b (tX11 b)) (by decide) ?_
  refine st_new' (G := Gd v b (tX11 b)) h 12 rfl (fun u h => ?_)
  replace h : Hp v u b ([ceR (ceI (ceR (ceR (ceR (ceR (ceR (ceR (ceR (ceR (ceR (ceR (nc 12 0) 0 (some (b + 1))) 3 (some (b + 2))) 4 (some (b + 3))) 5 (some (b + 4))) 6 (some (b + 5))) 7 (some (b + 6))) 15 (some (b + 7))) 17 (some (b + 8))) 19 (some (b + 9))) 20 (some (b + 10))) 21 (-1)) 23 (some (b + 11)), nc 21 400, nc 22 2400, nc 22 7, nc 22 288, nc 22 6, nc 22 103, nc 22 400, nc 23 64, nc 23 13, nc 22 144, nc 22 5, nc 22 900]) := h
  refine st_K (G := Gd v b (tX11 b)) h (i := 0) rfl rfl rfl ?_
  refine st_R (G := Gd v b (tX11 b)) h (i := 0) rfl rfl (fun u h => ?_)
  replace h : Hp v u b ([ceR (ceR (ceI (ceR (ceR (ceR (ceR (ceR (ceR (ceR (ceR (ceR (ceR (nc 12 0) 0 (some (b + 1))) 3 (some (b + 2))) 4 (some (b + 3))) 5 (some (b + 4))) 6 (some (b + 5))) 7 (some (b + 6))) 15 (some (b + 7))) 17 (some (b + 8))) 19 (some (b + 9))) 20 (some (b + 10))) 21 (-1)) 23 (some (b + 11))) 24 (some (b + 12)), nc 21 400, nc 22 2400, nc 22 7, nc 22 288, nc 22 6, nc 22 103, nc 22 400, nc 23 64, nc 23 13, nc 22 144, nc 22 5, nc 22 900]) := h
  refine st_g (G := Gd v b (tX11 b)) (by decide) ?_
  refine st_new' (G := Gd v b (tX11 b)) h 13 rfl (fun u h => ?_)
  replace h : Hp v u b ([ceR (ceR (ceI (ceR (ceR (ceR (ceR (ceR (ceR (ceR (ceR (ceR (ceR (nc 12 0) 0 (some (b + 1))) 3 (some (b + 2))) 4 (some (b + 3))) 5 (some (b + 4))) 6 (some (b + 5))) 7 (some (b + 6))) 15 (some (b + 7))) 17 (some (b + 8))) 19 (some (b + 9))) 20 (some (b + 10))) 21 (-1)) 23 (some (b + 11))) 24 (some (b + 12)), nc 21 400, nc 22 2400, nc 22 7, nc 22 288, nc 22 6, nc 22 103, nc 22 400, nc 23 64, nc 23 13, nc 22 144, nc 22 5, nc 22 900, nc 22 45]) := h
  refine st_K (G := Gd v b (tX11 b)) h (i := 0) rfl rfl rfl ?_
  refine st_R (G := Gd v b (tX11 b)) h (i := 0) rfl rfl (fun u h => ?_)
  replace h : Hp v u b ([ceR (ceR (ceR (ceI (ceR (ceR (ceR (ceR (ceR (ceR (ceR (ceR (ceR (ceR (nc 12 0) 0 (some (b + 1))) 3 (some (b + 2))) 4 (some (b + 3))) 5 (some (b + 4))) 6 (some (b + 5))) 7 (some (b + 6))) 15 (some (b + 7))) 17 (some (b + 8))) 19 (some (b + 9))) 20 (some (b + 10))) 21 (-1)) 23 (some (b + 11))) 24 (some (b + 12))) 26 (some (b + 13)), nc 21 400, nc 22 2400, nc 22 7, nc 22 288, nc 22 6, nc 22 103, nc 22 400, nc 23 64, nc 23 13, nc 22 144, nc 22 5, nc 22 900, nc 22 45]) := h
  refine st_g (G := Gd v b (tX11 b)) (by decide) ?_
  refine st_new' (G := Gd v b (tX11 b)) h 14 rfl (fun u h => ?_)
  replace h : Hp v u b ([ceR (ceR (ceR (ceI (ceR (ceR (ceR (ceR (ceR (ceR (ceR (ceR (ceR (ceR (nc 12 0) 0 (some (b + 1))) 3 (some (b + 2))) 4 (some (b + 3))) 5 (some (b + 4))) 6 (some (b + 5))) 7 (some (b + 6))) 15 (some (b + 7))) 17 (some (b + 8))) 19 (some (b + 9))) 20 (some (b + 10))) 21 (-1)) 23 (some (b + 11))) 24 (some (b + 12))) 26 (some (b + 13)), nc 21 400, nc 22 2400, nc 22 7, nc 22 288, nc 22 6, nc 22 103, nc 22 400, nc 23 64, nc 23 13, nc 22 144, nc 22 5, nc 22 900, nc 22 45, nc 22 11]) := h
  refine st_K (G := Gd v b (tX11 b)) h (i := 0) rfl rfl rfl ?_
  refine st_R (G := Gd v b (tX11 b)) h (i := 0) rfl rfl (fun u h => ?_)
  replace h : Hp v u b ([ceR (ceR (ceR (ceR (ceI (ceR (ceR (ceR (ceR (ceR (ceR (ceR (ceR (ceR (ceR (nc 12 0) 0 (some (b + 1))) 3 (some (b + 2))) 4 (some (b + 3))) 5 (some (b + 4))) 6 (some (b + 5))) 7 (some (b + 6))) 15 (some (b + 7))) 17 (some (b + 8))) 19 (some (b + 9))) 20 (some (b + 10))) 21 (-1)) 23 (some (b + 11))) 24 (some (b + 12))) 26 (some (b + 13))) 29 (some (b + 14)), nc 21 400, nc 22 2400, nc 22 7, nc 22 288, nc 22 6, nc 22 103, nc 22 400, nc 23 64, nc 23 13, nc 22 144, nc 22 5, nc 22 900, nc 22 45, nc 22 11]) := h
  refine st_g (G := Gd v b (tX11 b)) (by decide) ?_
  refine st_new' (G := Gd v b (tX11 b)) h 15 rfl (fun u h => ?_)
  replace h : Hp v u b ([ceR (ceR (ceR (ceR (ceI (ceR (ceR (ceR (ceR (ceR (ceR (ceR (ceR (ceR (ceR (nc 12 0) 0 (some (b + 1))) 3 (some (b + 2))) 4 (some (b + 3))) 5 (some (b + 4))) 6 (some (b + 5))) 7 (some (b + 6))) 15 (some (b + 7))) 17 (some (b + 8))) 19 (some (b + 9))) 20 (some (b + 10))) 21 (-1)) 23 (some (b + 11))) 24 (some (b + 12))) 26 (some (b + 13))) 29 (some (b + 14)), nc 21 400, nc 22 2400, nc 22 7, nc 22 288, nc 22 6, nc 22 103, nc 22 400, nc 23 64, nc 23 13, nc 22 144, nc 22 5, nc 22 900, nc 22 45, nc 22 11, nc 22 729]) := h
  refine st_K (G := Gd v b (tX11 b)) h (i := 0) rfl rfl rfl ?_
  refine st_R (G := Gd v b (tX11 b)) h (i := 0) rfl rfl (fun u h => ?_)
  replace h : Hp v u b ([ceR (ceR (ceR (ceR (ceR (ceI (ceR (ceR (ceR (ceR (ceR (ceR (ceR (ceR (ceR (ceR (nc 12 0) 0 (some (b + 1))) 3 (some (b + 2))) 4 (some (b + 3))) 5 (some (b + 4))) 6 (some (b + 5))) 7 (some (b + 6))) 15 (some (b + 7))) 17 (some (b + 8))) 19 (some (b + 9))) 20 (some (b + 10))) 21 (-1)) 23 (some (b + 11))) 24 (some (b + 12))) 26 (some (b + 13))) 29 (some (b + 14))) 30 (some (b + 15)), nc 21 400, nc 22 2400, nc 22 7, nc 22 288, nc 22 6, nc 22 103, nc 22 400, nc 23 64, nc 23 13, nc 22 144, nc 22 5, nc 22 900, nc 22 45, nc 22 11, nc 22 729]) := h
  refine st_g (G := Gd v b (tX11 b)) (by decide) ?_
  refine st_new' (G := Gd v b (tX11 b)) h 16 rfl (fun u h => ?_)
  replace h : Hp v u b ([ceR (ceR (ceR (ceR (ceR (ceI (ceR (ceR (ceR (ceR (ceR (ceR (ceR (ceR (ceR (ceR (nc 12 0) 0 (some (b + 1))) 3 (some (b + 2))) 4 (some (b + 3))) 5 (some (b + 4))) 6 (some (b + 5))) 7 (some (b + 6))) 15 (some (b + 7))) 17 (some (b + 8))) 19 (some (b + 9))) 20 (some (b + 10))) 21 (-1)) 23 (some (b + 11))) 24 (some (b + 12))) 26 (some (b + 13))) 29 (some (b + 14))) 30 (some (b + 15)), nc 21 400, nc 22 2400, nc 22 7, nc 22 288, nc 22 6, nc 22 103, nc 22 400, nc 23 64, nc 23 13, nc 22 144, nc 22 5, nc 22 900, nc 22 45, nc 22 11, nc 22 729, nc 22 576]) := h
  refine st_K (G := Gd v b (tX11 b)) h (i := 0) rfl rfl rfl ?_
  refine st_R (G := Gd v b (tX11 b)) h (i := 0) rfl rfl (fun u h => ?_)
  replace h : Hp v u b ([ceR (ceR (ceR (ceR (ceR (ceR (ceI (ceR (ceR (ceR (ceR (ceR (ceR (ceR (ceR (ceR (ceR (nc 12 0) 0 (some (b + 1))) 3 (some (b + 2))) 4 (some (b + 3))) 5 (some (b + 4))) 6 (some (b + 5))) 7 (some (b + 6))) 15 (some (b + 7))) 17 (some (b + 8))) 19 (some (b + 9))) 20 (some (b + 10))) 21 (-1)) 23 (some (b + 11))) 24 (some (b + 12))) 26 (some (b + 13))) 29 (some (b + 14))) 30 (some (b + 15))) 32 (some (b + 16)), nc 21 400, nc 22 2400, nc 22 7, nc 22 288, nc 22 6, nc 22 103, nc 22 400, nc 23 64, nc 23 13, nc 22 144, nc 22 5, nc 22 900, nc 22 45, nc 22 11, nc 22 729, nc 22 576]) := h
  refine st_g (G := Gd v b (tX11 b)) (by decide) ?_
  refine st_new' (G := Gd v b (tX11 b)) h 17 rfl (fun u h => ?_)
  replace h : Hp v u b ([ceR (ceR (ceR (ceR (ceR (ceR (ceI (ceR (ceR (ceR (ceR (ceR (ceR (ceR (ceR (ceR (ceR (nc 12 0) 0 (some (b + 1))) 3 (some (b + 2))) 4 (some (b + 3))) 5 (some (b + 4))) 6 (some (b + 5))) 7 (some (b + 6))) 15 (some (b + 7))) 17 (some (b + 8))) 19 (some (b + 9))) 20 (some (b + 10))) 21 (-1)) 23 (some (b + 11))) 24 (some (b + 12))) 26 (some (b + 13))) 29 (some (b + 14))) 30 (some (b + 15))) 32 (some (b + 16)), nc 21 400, nc 22 2400, nc 22 7, nc 22 288, nc 22 6, nc 22 103, nc 22 400, nc 23 64, nc 23 13, nc 22 144, nc 22 5, nc 22 900, nc 22 45, nc 22 11, nc 22 729, nc 22 576, nc 22 4]) := h
  refine st_K (G := Gd v b (tX11 b)) h (i := 0) rfl rfl rfl ?_
  refine st_R (G := Gd v b (tX11 b)) h (i := 0) rfl rfl (fun u h => ?_)
  replace h : Hp v u b ([ceR (ceR (ceR (ceR (ceR (ceR (ceR (ceI (ceR (ceR (ceR (ceR (ceR (ceR (ceR (ceR (ceR (ceR (nc 12 0) 0 (some (b + 1))) 3 (some (b + 2))) 4 (some (b + 3))) 5 (some (b + 4))) 6 (some (b + 5))) 7 (some (b + 6))) 15 (some (b + 7))) 17 (some (b + 8))) 19 (some (b + 9))) 20 (some (b + 10))) 21 (-1)) 23 (some (b + 11))) 24 (some (b + 12))) 26 (some (b + 13))) 29 (some (b + 14))) 30 (some (b + 15))) 32 (some (b + 16))) 33 (some (b + 17)), nc 21 400, nc 22 2400, nc 22 7, nc 22 288, nc 22 6, nc 22 103, nc 22 400, nc 23 64, nc 23 13, nc 22 144, nc 22 5, nc 22 900, nc 22 45, nc 22 11, nc 22 729, nc 22 576, nc 22 4]) := h
  refine st_g (G := Gd v b (tX11 b)) (by decide) ?_
  refine st_new' (G := Gd v b (tX11 b)) h 18 rfl (fun u h => ?_)
  replace h : Hp v u b ([ceR (ceR (ceR (ceR (ceR (ceR (ceR (ceI (ceR (ceR (ceR (ceR (ceR (ceR (ceR (ceR (ceR (ceR (nc 12 0) 0 (some (b + 1))) 3 (some (b + 2))) 4 (some (b + 3))) 5 (some (b + 4))) 6 (some (b + 5))) 7 (some (b + 6))) 15 (some (b + 7))) 17 (some (b + 8))) 19 (some (b + 9))) 20 (some (b + 10))) 21 (-1)) 23 (some (b + 11))) 24 (some (b + 12))) 26 (some (b + 13))) 29 (some (b + 14))) 30 (some (b + 15))) 32 (some (b + 16))) 33 (some (b + 17)), nc 21 400, nc 22 2400, nc 22 7, nc 22 288, nc 22 6, nc 22 103, nc 22 400, nc 23 64, nc 23 13, nc 22 144, nc 22 5, nc 22 900, nc 22 45, nc 22 11, nc 22 729, nc 22 576, nc 22 4, nc 22 4]) := h
  refine st_K (G := Gd v b (tX11 b)) h (i := 0) rfl rfl rfl ?_
  refine st_R (G := Gd v b (tX11 b)) h (i := 0) rfl rfl (fun u h => ?_)
  replace h : Hp v u b ([ceR (ceR (ceR (ceR (ceR (ceR (ceR (ceR (ceI (ceR (ceR (ceR (ceR (ceR (ceR (ceR (ceR (ceR (ceR (nc 12 0) 0 (some (b + 1))) 3 (some (b + 2))) 4 (some (b + 3))) 5 (some (b + 4))) 6 (some (b + 5))) 7 (some (b + 6))) 15 (some (b + 7))) 17 (some (b + 8))) 19 (some (b + 9))) 20 (some (b + 10))) 21 (-1)) 23 (some (b + 11))) 24 (some (b + 12))) 26 (some (b + 13))) 29 (some (b + 14))) 30 (some (b + 15))) 32 (some (b + 16))) 33 (some (b + 17))) 34 (some (b + 18)), nc 21 400, nc 22 2400, nc 22 7, nc 22 288, nc 22 6, nc 22 103, nc 22 400, nc 23 64, nc 23 13, nc 22 144, nc 22 5, nc 22 900, nc 22 45, nc 22 11, nc 22 729, nc 22 576, nc 22 4, nc 22 4]) := h
  refine st_g (G := Gd v b (tX11 b)) (by decide) ?_
  refine st_new' (G := Gd v b (tX11 b)) h 19 rfl (fun u h => ?_)
  replace h : Hp v u b ([ceR (ceR (ceR (ceR (ceR (ceR (ceR (ceR (ceI (ceR (ceR (ceR (ceR (ceR (ceR (ceR (ceR (ceR (ceR (nc 12 0) 0 (some (b + 1))) 3 (some (b + 2))) 4 (some (b + 3))) 5 (some (b + 4))) 6 (some (b + 5))) 7 (some (b + 6))) 15 (some (b + 7))) 17 (some (b + 8))) 19 (some (b + 9))) 20 (some (b + 10))) 21 (-1)) 23 (some (b + 11))) 24 (some (b + 12))) 26 (some (b + 13))) 29 (some (b + 14))) 30 (some (b + 15))) 32 (some (b + 16))) 33 (some (b + 17))) 34 (some (b + 18)), nc 21 400, nc 22 2400, nc 22 7, nc 22 288, nc 22 6, nc 22 103, nc 22 400, nc 23 64, nc 23 13, nc 22 144, nc 22 5, nc 22 900, nc 22 45, nc 22 11, nc 22 729, nc 22 576, nc 22 4, nc 22 4, nc 24 4]) := h
  refine st_K (G := Gd v b (tX11 b)) h (i := 0) rfl rfl rfl ?_
  refine st_R (G := Gd v b (tX11 b)) h (i := 0) rfl rfl (fun u h => ?_)
  replace h : Hp v u b ([ceR (ceR (ceR (ceR (ceR (ceR (ceR (ceR (ceR (ceI (ceR (ceR (ceR (ceR (ceR (ceR (ceR (ceR (ceR (ceR (nc 12 0) 0 (some (b + 1))) 3 (some (b + 2))) 4 (some (b + 3))) 5 (some (b + 4))) 6 (some (b + 5))) 7 (some (b + 6))) 15 (some (b + 7))) 17 (some (b + 8))) 19 (some (b + 9))) 20 (some (b + 10))) 21 (-1)) 23 (some (b + 11))) 24 (some (b + 12))) 26 (some (b + 13))) 29 (some (b + 14))) 30 (some (b + 15))) 32 (some (b + 16))) 33 (some (b + 17))) 34 (some (b + 18))) 35 (some (b + 19)), nc 21 400, nc 22 2400, nc 22 7, nc 22 288, nc 22 6, nc 22 103, nc 22 400, nc 23 64, nc 23 13, nc 22 144, nc 22 5, nc 22 900, nc 22 45, nc 22 11, nc 22 729, nc 22 576, nc 22 4, nc 22 4, nc 24 4]) := h
  exact Gd.mk h rfl
