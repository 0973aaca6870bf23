/-! OPERATIONS, 11: feed -/
def bN (v : Int32) (s : Nat) : Nat := (v >>> (nI s &&& 31)).toBitVec.toNat % 256
theorem by_all : ∀ n, n < 256 → (Int8.ofNat n).toInt32 = byI n := by decide +kernel
theorem by_of (y : Int32) : vp_nar .byte y.toInt8.toInt32 = byI (y.toBitVec.toNat % 256) := by
  rw [pk_vb, ← by_all _ (Nat.mod_lt _ (by decide))]
  congr 1
  apply Int8.toBitVec_inj.mp
  rw [Int32.toBitVec_toInt8, BitVec.signExtend_eq_setWidth_of_le _ (by decide)]
  apply BitVec.eq_of_toNat_eq
  rw [BitVec.toNat_setWidth]
  show _ = (BitVec.ofNat 8 (y.toBitVec.toNat % 256)).toNat
  rw [BitVec.toNat_ofNat]
  omega
def apN (B : Nat → Nat) (T b : Nat) : Nat → Nat := fun k => if k = T then b else B k
def ap4 (B : Nat → Nat) (T : Nat) (v : Int32) : Nat → Nat := apN (apN (apN (apN B T (bN v 24)) (T + 1) (bN v 16)) (T + 2) (bN v 8)) (T + 3) (bN v 0)
theorem apN_lt {B : Nat → Nat} {T b : Nat} (h : ∀ k, B k < 256) (hb : b < 256) : ∀ k, apN B T b k < 256 := by
  intro k
  unfold apN
  split
  · exact hb
  · exact h k
theorem bN_lt (v : Int32) (s : Nat) : bN v s < 256 := Nat.mod_lt _ (by decide)
theorem ap4_lt {B : Nat → Nat} {T : Nat} {v : Int32} (h : ∀ k, B k < 256) : ∀ k, ap4 B T v k < 256 := apN_lt (apN_lt (apN_lt (apN_lt h (bN_lt _ _)) (bN_lt _ _)) (bN_lt _ _)) (bN_lt _ _)
section FEED
variable {N x m T : Nat} {u : SG} {B : Nat → Nat} {v : Int32}
theorem c_app1 (h : CTp u x T B) (hT : T < 400) {s : Nat} (hs : s < 2 ^ 31) (n : Nat) : ∃ u', hgX9_append_3 N (n + 1) (x + 1) v (nI s) u = hgX9_append_3 N n (x + 1) v (nI s + (-8 : Int32)) u' ∧ CTp u' x (T + 1) (apN B T (bN v s)) ∧ Fz (fun a k => a = x + 2 ∨ (a = x + 1 ∧ k = 1)) u u' := by
  refine ⟨sI (sI u (x + 2) T (byI (bN v s))) (x + 1) 1 (nI (T + 1)), ?_, ⟨sI_s _ _ _ _, fun k hk => ?_⟩, (Fz.sI (by omega)).tr (Fz.sI (by omega))⟩
  · rw [hgX9_append_3, if_neg (nI_pos hs), h.1, if_neg (nI_pos (by omega)), lit_400, if_neg (nI_ge hT (by decide)), ixI hT (by decide), nI_clamp (by omega), bs_eq, bs_eq, by_of, show x + 1 + 1 = x + 2 from rfl, sI_n (by omega), h.1, lit_1, nI_add]
    rfl
  · unfold apN
    rw [sI_n (by omega)]
    by_cases e : k = T
    · subst e; rw [sI_s, if_pos rfl]
    · rw [sI_n (by omega), if_neg e]; exact h.2 k (by omega)
theorem c_append (h : CTp u x T B) (hT : T + 4 ≤ 400) (hN : 2000 ≤ N) : ∃ u', hX9_append N (x + 1) v u = some ((), u') ∧ CTp u' x (T + 4) (ap4 B T v) ∧ Fz (fun a k => a = x + 2 ∨ (a = x + 1 ∧ k = 1)) u u' := by
  obtain ⟨n, hn⟩ : ∃ j, N = j + 1 + 1 + 1 + 1 + 1 := ⟨N - 5, by omega⟩
  obtain ⟨u1, a1, a2, a3⟩ := c_app1 (N := N) (v := v) h (by omega) (s := 24) (by decide) (n + 1 + 1 + 1 + 1)
  obtain ⟨u2, b1, b2, b3⟩ := c_app1 (N := N) (v := v) a2 (by omega) (s := 16) (by decide) (n + 1 + 1 + 1)
  obtain ⟨u3, c1, c2, c3⟩ := c_app1 (N := N) (v := v) b2 (by omega) (s := 8) (by decide) (n + 1 + 1)
  obtain ⟨u4, d1, d2, d3⟩ := c_app1 (N := N) (v := v) c2 (by omega) (s := 0) (by decide) (n + 1)
  refine ⟨u4, ?_, d2, ((a3.tr b3).tr c3).tr d3⟩
  show hgX9_append_3 N N (x + 1) v (nI 24) u = _
  conv => lhs; arg 2; rw [hn]
  rw [a1, show nI 24 + (-8 : Int32) = nI 16 from rfl, b1, show nI 16 + (-8 : Int32) = nI 8 from rfl, c1, show nI 8 + (-8 : Int32) = nI 0 from rfl, d1, hgX9_append_3, if_pos (by decide)]
theorem r_app1 (h : RTp u m T B) (hT : T < 400) {s : Nat} (hs : s < 2 ^ 31) (n : Nat) : ∃ u', hgX11_four_3 N (n + 1) m v (nI s) u = hgX11_four_3 N n m v (nI s + (-8 : Int32)) u' ∧ RTp u' m (T + 1) (apN B T (bN v s)) ∧ Fz (fun a k => a = m + 1 ∨ (a = m ∧ k = 1)) u u' := by
  refine ⟨sI (sI u (m + 1) T (byI (bN v s))) m 1 (nI (T + 1)), ?_, ⟨sI_s _ _ _ _, fun k hk => ?_⟩, (Fz.sI (by omega)).tr (Fz.sI (by omega))⟩
  · rw [hgX11_four_3, if_neg (nI_pos hs), h.1, ixI hT (by decide), nI_clamp (by omega), bs_eq, bs_eq, by_of, sI_n (by omega), h.1, lit_1, nI_add]
    rfl
  · unfold apN
    rw [sI_n (by omega)]
    by_cases e : k = T
    · subst e; rw [sI_s, if_pos rfl]
    · rw [sI_n (by omega), if_neg e]; exact h.2 k (by omega)
theorem r_four (h : RTp u m T B) (hT : T + 4 ≤ 400) (hN : 2000 ≤ N) : ∃ u', hX11_four N m v u = some ((), u') ∧ RTp u' m (T + 4) (ap4 B T v) ∧ Fz (fun a k => a = m + 1 ∨ (a = m ∧ k = 1)) u u' := by
  obtain ⟨n, hn⟩ : ∃ j, N = j + 1 + 1 + 1 + 1 + 1 := ⟨N - 5, by omega⟩
  obtain ⟨u1, a1, a2, a3⟩ := r_app1 (N := N) (v := v) h (by omega) (s := 24) (by decide) (n + 1 + 1 + 1 + 1)
  obtain ⟨u2, b1, b2, b3⟩ := r_app1 (N := N) (v := v) a2 (by omega) (s := 16) (by decide) (n + 1 + 1 + 1)
  obtain ⟨u3, c1, c2, c3⟩ := r_app1 (N := N) (v := v) b2 (by omega) (s := 8) (by decide) (n + 1 + 1)
  obtain ⟨u4, d1, d2, d3⟩ := r_app1 (N := N) (v := v) c2 (by omega) (s := 0) (by decide) (n + 1)
  refine ⟨u4, ?_, d2, ((a3.tr b3).tr c3).tr d3⟩
  show hgX11_four_3 N N m v (nI 24) u = _
  conv => lhs; arg 2; rw [hn]
  rw [a1, show nI 24 + (-8 : Int32) = nI 16 from rfl, b1, show nI 16 + (-8 : Int32) = nI 8 from rfl, c1, show nI 8 + (-8 : Int32) = nI 0 from rfl, d1, hgX11_four_3, if_pos (by decide)]
end FEED
section OPS11
variable {N : Nat}
theorem op_feed (p1 p2 p3 p4 p5 : Int32) (hN : 2000 ≤ N) : OpOK (fun x u => fX10_feed N x p1 p2 p3 p4 p5 u) (fun m u => fX11_feed N m p1 p2 p3 p4 p5 u) := by
  refine op_of (fun x u h => eX10_feed N x p1 p2 p3 p4 p5 u h) (fun m u h => eX11_feed N m p1 p2 p3 p4 p5 u h) (fun c x A hc hA => ?_)
  have hT := hA.1
  by_cases h : aT A + 20 ≤ 400
  · refine ⟨nI (aT A + 20), (aT A + 4 + 4 + 4 + 4 + 4, ap4 (ap4 (ap4 (ap4 (ap4 (aB A) (aT A) p1) (aT A + 4) p2) (aT A + 4 + 4) p3) (aT A + 4 + 4 + 4) p4) (aT A + 4 + 4 + 4 + 4) p5, aR A, aS A, aV A, aI A), ?_, fun u hl k1 iC => ?_, fun m u iR => ?_⟩
    · obtain ⟨h1, h2, h3⟩ := hA.mono (d := c + 1) (by omega)
      exact ⟨by show aT A + 4 + 4 + 4 + 4 + 4 ≤ 400; omega, ap4_lt (ap4_lt (ap4_lt (ap4_lt (ap4_lt h2)))), h3⟩
    · obtain ⟨u1, a1, a2, a3⟩ := c_append (N := N) (v := p1) iC.tp (by omega) hN
      obtain ⟨u2, b1, b2, b3⟩ := c_append (N := N) (v := p2) a2 (by omega) hN
      obtain ⟨u3, c1, c2, c3⟩ := c_append (N := N) (v := p3) b2 (by omega) hN
      obtain ⟨u4, d1, d2, d3⟩ := c_append (N := N) (v := p4) c2 (by omega) hN
      obtain ⟨u5, e1, e2, e3⟩ := c_append (N := N) (v := p5) d2 (by omega) hN
      have z := (((a3.tr b3).tr c3).tr d3).tr e3
      refine ⟨u5, ?_, invC e2 (iC.rl.z z (by omega) (fun a k q => by omega)) (iC.sn.z z (fun b k q1 q2 => by omega)) (iC.ac.z z (fun k => by omega) (fun a k q1 q2 => by omega)) (iC.im.z z (fun a k q1 q2 => by omega)), z.w (fun a k q => by unfold Sc; omega)⟩
      unfold hX10_feed hX9_hasRoom
      rw [iC.tp.1, lit_20, nI_add, lit_400, if_neg (nI_nlt h (by decide)), cl_some, if_neg (by decide), a1, cl_some, b1, cl_some, c1, cl_some, d1, cl_some, e1, cl_some, e2.1]
    · obtain ⟨u1, a1, a2, a3⟩ := r_four (N := N) (v := p1) iR.tp (by omega) hN
      obtain ⟨u2, b1, b2, b3⟩ := r_four (N := N) (v := p2) a2 (by omega) hN
      obtain ⟨u3, c1, c2, c3⟩ := r_four (N := N) (v := p3) b2 (by omega) hN
      obtain ⟨u4, d1, d2, d3⟩ := r_four (N := N) (v := p4) c2 (by omega) hN
      obtain ⟨u5, e1, e2, e3⟩ := r_four (N := N) (v := p5) d2 (by omega) hN
      have z := (((a3.tr b3).tr c3).tr d3).tr e3
      refine ⟨u5, ?_, invR e2 (iR.rl.z z (by omega) (fun a k q => by omega)) (iR.sn.z z (fun k => by omega) (by omega) (by omega)) (iR.ac.z z (by omega) (fun k => by omega)) (iR.im.z z (fun a k q1 q2 => by omega)), z.w (fun a k q => by unfold Sr; omega)⟩
      unfold hX11_feed
      rw [iR.tp.1, lit_20, nI_add, lit_400, if_pos (nI_le h (by decide)), a1, cl_some, b1, cl_some, c1, cl_some, d1, cl_some, e1, cl_some, e2.1]
  · refine ⟨-1, A, hA.mono (by omega), fun u _ _ iC => ⟨u, ?_, iC, Fz.rf⟩, fun m u iR => ⟨u, ?_, iR, Fz.rf⟩⟩
    · unfold hX10_feed hX9_hasRoom
      rw [iC.tp.1, lit_20, nI_add, lit_400, if_pos (nI_lt (by omega) (by omega)), cl_some, if_pos rfl]
    · unfold hX11_feed
      rw [iR.tp.1, lit_20, nI_add, lit_400, if_neg (nI_ge (by omega) (by omega))]
end OPS11
