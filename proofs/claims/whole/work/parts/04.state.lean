/-! THE SMALL STATE: size of the heap, kinds, lengths, ints, longs, references, by address and place. -/
abbrev SG : Type := Nat × (Nat → Nat) × (Nat → Nat) × (Nat → Nat → Int32) × (Nat → Nat → Int64) × (Nat → Nat → Option Nat)
def zz (u : SG) : Nat := u.1
def zK (u : SG) (a : Nat) : Nat := u.2.1 a
def zN (u : SG) (a : Nat) : Nat := u.2.2.1 a
def zI (u : SG) (a k : Nat) : Int32 := u.2.2.2.1 a k
def zL (u : SG) (a k : Nat) : Int64 := u.2.2.2.2.1 a k
def zR (u : SG) (a k : Nat) : Option Nat := u.2.2.2.2.2 a k
def sIr (u : SG) (a : Nat) (f : Nat → Int32) : SG := (u.1, u.2.1, u.2.2.1, va_up u.2.2.2.1 a f, u.2.2.2.2.1, u.2.2.2.2.2)
def sLr (u : SG) (a : Nat) (f : Nat → Int64) : SG := (u.1, u.2.1, u.2.2.1, u.2.2.2.1, va_up u.2.2.2.2.1 a f, u.2.2.2.2.2)
def sRr (u : SG) (a : Nat) (f : Nat → Option Nat) : SG := (u.1, u.2.1, u.2.2.1, u.2.2.2.1, u.2.2.2.2.1, va_up u.2.2.2.2.2 a f)
def sI (u : SG) (a k : Nat) (v : Int32) : SG := sIr u a (upd (zI u a) k v)
def sL (u : SG) (a k : Nat) (v : Int64) : SG := sLr u a (vp_updL (zL u a) k v)
def sR (u : SG) (a k : Nat) (v : Option Nat) : SG := sRr u a (va_up (zR u a) k v)
def sNew (u : SG) (kd n : Nat) : SG := (u.1 + 1, va_up u.2.1 u.1 kd, va_up u.2.2.1 u.1 n, va_up u.2.2.2.1 u.1 (fun _ => 0), va_up u.2.2.2.2.1 u.1 (fun _ => 0), va_up u.2.2.2.2.2 u.1 (fun _ => none))
/-- kinds: 1 .. 12 objects of the classes 0 .. 11; 21 byte, 22 int, 23 long, 24 boolean, 25 Moment, 26 Rule, 27 Scene: arrays; 0: no cell -/
def nfl : List (List Nat) := [[1,0,0],[1,1,1,1,0],[0,0,0,0,0,1,1,1],[1,0,0,2],[1],[1,1,0,0],[1,1,1,0,0,0],[1,1,1,1,1,1,0,0,0,0,0],[1],[1,0,0,1,1,1,0,0,0,0,0,0],[1,1,1,1,1,0,1,1,1,1,1,1,1],[1,0,0,1,1,1,1,1,0,0,0,0,0,0,0,1,0,1,0,1,1,0,0,1,1,0,1,0,0,1,1,2,1,1,1,1]]
def zft (ci k : Nat) : Nat := (nfl.getD ci []).getD k 0
def znf (ci : Nat) : Nat := (nfl.getD ci []).length
def zval (t : Nat) (u : SG) (a k : Nat) : Value := if t = 0 then .int (zI u a k) else if t = 1 then va_rf (zR u a k) else .long (zL u a k)
def zfs (ci : Nat) (u : SG) (a : Nat) : List Value := (List.range (znf ci)).map fun k => zval (zft ci k) u a k
def zarr (kd : Nat) (u : SG) (a : Nat) : vp_A := (zN u a, if kd = 23 then .inr (.inl (zL u a)) else if kd ≤ 24 then .inl (zI u a) else .inr (.inr (.inr (.inr (zR u a)))))
def zcell (cT : Nat → ClassId) (u : SG) (a : Nat) : va_E := if zK u a ≤ 20 then .inr (zK u a - 1, zfs (zK u a - 1) u a) else .inl (cT (zK u a), zarr (zK u a) u a)
def zrng (z0 : Nat) (u : SG) : List Nat := List.range' z0 (u.1 - z0)
def zp (cT : Nat → ClassId) (z0 : Nat) (u : SG) : va_W := va_pl (zrng z0 u) (zcell cT u)
def zwf (z0 : Nat) (u : SG) : Prop := z0 ≤ u.1 ∧ ∀ a, zK u a ≠ 0 → z0 ≤ a ∧ a < u.1
def zty (kd : Nat) : FieldType := if kd = 21 then .byte else if kd = 22 then .int else if kd = 23 then .long else if kd = 24 then .boolean else if kd = 25 then .object RX2 else if kd = 26 then .object RX4 else .object RX6
def tyl (cT : Nat → ClassId) : List (ClassId × FieldType) := [(cT 21, zty 21), (cT 22, zty 22), (cT 23, zty 23), (cT 24, zty 24), (cT 25, zty 25), (cT 26, zty 26), (cT 27, zty 27)]
theorem zp_mem {z0 : Nat} {u : SG} (hw : zwf z0 u) {a : Nat} (h : zK u a ≠ 0) : a ∈ zrng z0 u := by
  obtain ⟨h1, h2⟩ := hw.2 a h
  unfold zrng
  rw [List.mem_range'_1]
  omega
theorem zp_get {cT : Nat → ClassId} {z0 : Nat} {u : SG} (hw : zwf z0 u) {a : Nat} (h : zK u a ≠ 0) : ∃ q : Nat, (zp cT z0 u)[q]? = some (a, zcell cT u a) := by
  obtain ⟨k, hk⟩ := va_pl_get (X := []) (f := zcell cT u) (zp_mem hw h)
  exact ⟨k, hk⟩
theorem zp_D {cT : Nat → ClassId} {z0 : Nat} {u : SG} : va_D (fun q => z0 ≤ q) (zp cT z0 u) := by
  have key : ∀ (i : Nat) (x : Nat × va_E), (zp cT z0 u)[i]? = some x → x.1 = z0 + i := by
    intro i x hx
    unfold zp va_pl zrng at hx
    rw [List.getElem?_map] at hx
    by_cases hl : i < u.1 - z0
    · rw [List.getElem?_range' (by simpa using hl)] at hx
      simp at hx
      rw [← hx]
    · rw [List.getElem?_eq_none (by simpa using hl)] at hx
      simp at hx
  refine ⟨fun i j x y hi hj hxy => ?_, fun k x hx => ?_⟩
  · have h1 := key i x hi
    have h2 := key j y hj
    omega
  · have h1 := key k x hx
    show z0 ≤ x.1
    omega
theorem zp_set {cT : Nat → ClassId} {z0 : Nat} {u u' : SG} {a k : Nat} {e : va_E} (hw : zwf z0 u) (h : zK u a ≠ 0) (hk : (zp cT z0 u)[k]? = some (a, zcell cT u a)) (hz : u'.1 = u.1) (hc : ∀ b, va_up (zcell cT u) a e b = zcell cT u' b) : (zp cT z0 u).set k (a, e) = zp cT z0 u' := by
  have h1 := va_pl_set (X := []) (f := zcell cT u) (e := e) (A := fun q => z0 ≤ q) zp_D (zp_mem hw h) hk
  have h2 : zrng z0 u' = zrng z0 u := by unfold zrng; rw [hz]
  unfold zp
  rw [h2]
  exact h1.trans (va_pl_congr hc)
theorem zp_push {cT : Nat → ClassId} {z0 : Nat} {u u' : SG} {e : va_E} (hw : zwf z0 u) (hz : u'.1 = u.1 + 1) (hc : ∀ b, va_up (zcell cT u) u.1 e b = zcell cT u' b) : zp cT z0 u ++ [(u.1, e)] = zp cT z0 u' := by
  have h1 := va_pl_push (L := zrng z0 u) (f := zcell cT u) (a := u.1) (e := e) (by unfold zrng; rw [List.mem_range'_1]; have := hw.1; omega)
  have h2 : zrng z0 u' = zrng z0 u ++ [u.1] := by
    unfold zrng
    have := hw.1
    rw [hz, show u.1 + 1 - z0 = (u.1 - z0) + 1 by omega, List.range'_1_concat, show z0 + (u.1 - z0) = u.1 by omega]
  unfold zp
  rw [h2]
  exact h1.trans (va_pl_congr hc)
theorem zfs_get {ci k : Nat} {u : SG} {a : Nat} (hk : k < znf ci) : (zfs ci u a)[k]? = some (zval (zft ci k) u a k) := by
  unfold zfs
  rw [List.getElem?_map, List.getElem?_range hk]
  rfl
theorem zfs_len {ci : Nat} {u : SG} {a : Nat} : (zfs ci u a).length = znf ci := by simp [zfs]
theorem zfs_set {ci k : Nat} {u u' : SG} {a : Nat} {v : Value} (hk : k < znf ci) (h1 : zval (zft ci k) u' a k = v) (h2 : ∀ j, j ≠ k → zval (zft ci j) u' a j = zval (zft ci j) u a j) : (zfs ci u a).set k v = zfs ci u' a := by
  apply List.ext_getElem?
  intro i
  by_cases hi : i = k
  · subst hi
    rw [List.getElem?_set_self (by rw [zfs_len]; exact hk), zfs_get hk, h1]
  · rw [List.getElem?_set_ne (fun h => hi h.symm)]
    by_cases hl : i < znf ci
    · rw [zfs_get hl, zfs_get hl, h2 i hi]
    · rw [List.getElem?_eq_none (by rw [zfs_len]; omega), List.getElem?_eq_none (by rw [zfs_len]; omega)]

theorem sIr_K (u : SG) (a : Nat) (f : Nat → Int32) (b : Nat) : zK (sIr u a f) b = zK u b := rfl
theorem sIr_N (u : SG) (a : Nat) (f : Nat → Int32) (b : Nat) : zN (sIr u a f) b = zN u b := rfl
theorem sIr_I (u : SG) (a : Nat) (f : Nat → Int32) (b k : Nat) : zI (sIr u a f) b k = if b = a then f k else zI u b k := by
  unfold zI sIr va_up
  dsimp only
  split <;> rfl
theorem sIr_L (u : SG) (a : Nat) (f : Nat → Int32) (b k : Nat) : zL (sIr u a f) b k = zL u b k := rfl
theorem sIr_R (u : SG) (a : Nat) (f : Nat → Int32) (b k : Nat) : zR (sIr u a f) b k = zR u b k := rfl
theorem sLr_K (u : SG) (a : Nat) (f : Nat → Int64) (b : Nat) : zK (sLr u a f) b = zK u b := rfl
theorem sLr_N (u : SG) (a : Nat) (f : Nat → Int64) (b : Nat) : zN (sLr u a f) b = zN u b := rfl
theorem sLr_I (u : SG) (a : Nat) (f : Nat → Int64) (b k : Nat) : zI (sLr u a f) b k = zI u b k := rfl
theorem sLr_L (u : SG) (a : Nat) (f : Nat → Int64) (b k : Nat) : zL (sLr u a f) b k = if b = a then f k else zL u b k := by
  unfold zL sLr va_up
  dsimp only
  split <;> rfl
theorem sLr_R (u : SG) (a : Nat) (f : Nat → Int64) (b k : Nat) : zR (sLr u a f) b k = zR u b k := rfl
theorem sRr_K (u : SG) (a : Nat) (f : Nat → Option Nat) (b : Nat) : zK (sRr u a f) b = zK u b := rfl
theorem sRr_N (u : SG) (a : Nat) (f : Nat → Option Nat) (b : Nat) : zN (sRr u a f) b = zN u b := rfl
theorem sRr_I (u : SG) (a : Nat) (f : Nat → Option Nat) (b k : Nat) : zI (sRr u a f) b k = zI u b k := rfl
theorem sRr_L (u : SG) (a : Nat) (f : Nat → Option Nat) (b k : Nat) : zL (sRr u a f) b k = zL u b k := rfl
theorem sRr_R (u : SG) (a : Nat) (f : Nat → Option Nat) (b k : Nat) : zR (sRr u a f) b k = if b = a then f k else zR u b k := by
  unfold zR sRr va_up
  dsimp only
  split <;> rfl
theorem sI_I (u : SG) (a k : Nat) (v : Int32) (b j : Nat) : zI (sI u a k v) b j = if b = a then (if j = k then v else zI u a j) else zI u b j := by unfold sI; rw [sIr_I]; rfl
theorem sL_L (u : SG) (a k : Nat) (v : Int64) (b j : Nat) : zL (sL u a k v) b j = if b = a then (if j = k then v else zL u a j) else zL u b j := by unfold sL; rw [sLr_L]; rfl
theorem sR_R (u : SG) (a k : Nat) (v : Option Nat) (b j : Nat) : zR (sR u a k v) b j = if b = a then (if j = k then v else zR u a j) else zR u b j := by unfold sR; rw [sRr_R]; rfl
theorem zwf_of {z0 : Nat} {u u' : SG} (h : zwf z0 u) (h1 : u'.1 = u.1) (h2 : ∀ a, zK u' a = zK u a) : zwf z0 u' := ⟨by rw [h1]; exact h.1, fun a ha => by rw [h1]; exact h.2 a (by rw [← h2]; exact ha)⟩
theorem zcell_obj {cT : Nat → ClassId} {u : SG} {a ci : Nat} (h : zK u a = ci + 1) (hc : ci < 20) : zcell cT u a = .inr (ci, zfs ci u a) := by
  unfold zcell
  rw [h, if_pos (by omega)]
  rfl
theorem zcell_arr {cT : Nat → ClassId} {u : SG} {a kd : Nat} (h : zK u a = kd) (hc : 20 < kd) : zcell cT u a = .inl (cT kd, zarr kd u a) := by
  unfold zcell
  rw [h, if_neg (by omega)]
/-- a cell of another address -/
theorem zcell_eq {cT : Nat → ClassId} {u u' : SG} {b : Nat} (hK : zK u' b = zK u b) (hN : zN u' b = zN u b) (hI : zI u' b = zI u b) (hL : zL u' b = zL u b) (hR : zR u' b = zR u b) : zcell cT u' b = zcell cT u b := by
  unfold zcell zfs zarr zval
  rw [hK, hN, hL]
  simp only [hI, hR, hL]
/-- a cell is replaced -/
theorem zcell_up {cT : Nat → ClassId} {u u' : SG} {a : Nat} {e : va_E} (ha : zcell cT u' a = e) (ho : ∀ b, b ≠ a → zcell cT u' b = zcell cT u b) (b : Nat) : va_up (zcell cT u) a e b = zcell cT u' b := by
  unfold va_up
  by_cases h : b = a
  · subst h
    rw [if_pos rfl, ha]
  · rw [if_neg h, ho b h]
theorem sIr_o {u : SG} {a : Nat} {f : Nat → Int32} {cT : Nat → ClassId} (b : Nat) (h : b ≠ a) : zcell cT (sIr u a f) b = zcell cT u b := zcell_eq rfl rfl (by funext k; rw [sIr_I, if_neg h]) rfl rfl
theorem sLr_o {u : SG} {a : Nat} {f : Nat → Int64} {cT : Nat → ClassId} (b : Nat) (h : b ≠ a) : zcell cT (sLr u a f) b = zcell cT u b := zcell_eq rfl rfl rfl (by funext k; rw [sLr_L, if_neg h]) rfl
theorem sRr_o {u : SG} {a : Nat} {f : Nat → Option Nat} {cT : Nat → ClassId} (b : Nat) (h : b ≠ a) : zcell cT (sRr u a f) b = zcell cT u b := zcell_eq rfl rfl rfl rfl (by funext k; rw [sRr_R, if_neg h])

