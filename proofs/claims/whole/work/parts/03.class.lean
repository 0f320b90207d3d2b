/-! the class: its own methods, each with a general post -/
theorem xk_isPosition_t {post : Int32 → Prop} {j : Nat} (hj : j < 32) (H : post 1) : wpX_isPosition post (nI j) := by
  unfold wpX_isPosition
  exact br_f (nI_pos (by omega)) (br_f (nI_ge (b := 32) hj (by decide)) H)
theorem xk_isPosition_f {post : Int32 → Prop} {x : Int32} (hx : x < 0 ∨ nI 32 ≤ x) (H : post 0) : wpX_isPosition post x := by
  unfold wpX_isPosition
  rcases hx with a | a
  · exact br_t a H
  · exact br_f (gi_pos (by decide) a) (br_t (a) H)
theorem xk_isByte_t {post : Int32 → Prop} {j : Nat} (hj : j < 256) (H : post 1) : wpX_isByte post (nI j) := by
  unfold wpX_isByte
  exact br_f (nI_pos (by omega)) (br_f (nI_nlt (a := 255) (by omega) (by decide)) H)
theorem xk_isByte_f {post : Int32 → Prop} {x : Int32} (hx : x < 0 ∨ nI 256 ≤ x) (H : post 0) : wpX_isByte post x := by
  unfold wpX_isByte
  rcases hx with a | a
  · exact br_t a H
  · exact br_f (gi_pos (by decide) a) (br_t (gi_gt (n := 255) (by decide) a) H)
theorem xk_isRegister_t {post : Int32 → Prop} {j : Nat} (hj : j < 4) (H : post 1) : wpX_isRegister post (nI j) := by
  unfold wpX_isRegister
  exact br_f (nI_pos (by omega)) (br_f (nI_ge (b := 4) hj (by decide)) H)
theorem xk_isRegister_f {post : Int32 → Prop} {x : Int32} (hx : x < 0 ∨ nI 4 ≤ x) (H : post 0) : wpX_isRegister post x := by
  unfold wpX_isRegister
  rcases hx with a | a
  · exact br_t a H
  · exact br_f (gi_pos (by decide) a) (br_t (a) H)
theorem xk_isCell_t {post : Int32 → Prop} {j : Nat} (hj : j < 16) (H : post 1) : wpX_isCell post (nI j) := by
  unfold wpX_isCell
  exact br_f (nI_pos (by omega)) (br_f (nI_ge (b := 16) hj (by decide)) H)
theorem xk_isCell_f {post : Int32 → Prop} {x : Int32} (hx : x < 0 ∨ nI 16 ≤ x) (H : post 0) : wpX_isCell post x := by
  unfold wpX_isCell
  rcases hx with a | a
  · exact br_t a H
  · exact br_f (gi_pos (by decide) a) (br_t (a) H)
theorem xk_po {post : Int32 → Prop} {a : Nat} (ha : a < 65536) (H : post (nI (a % 32))) : wpX_positionOf post (nI a) := by
  unfold wpX_positionOf
  rw [gd_31 ha]
  exact H
theorem xk_keep {post : SX → Prop} {z c p l i o t h : Int32} {w r e : Nat → Int32} {d v : Nat} (hd : d < 4) (hv : v < 256) (H : post (nI (gn_z v), c, p, l, i, o, t, h, w, upd r d (nI v), e)) : wpX_keepWithZero post (z, c, p, l, i, o, t, h, w, r, e) (nI d) (nI v) := by
  unfold wpX_keepWithZero
  dsimp only
  refine ⟨vp_in_nI hd (by decide), nm_r (e' := upd r d (nI v)) (by rw [nI_clamp (by omega)]) ?_⟩
  by_cases hz : v = 0
  · subst hz
    rw [show gn_z 0 = 1 from rfl] at H
    exact br_t rfl H
  · rw [show gn_z v = 0 from if_neg hz] at H
    exact br_f (nI_ne0 (by omega) (by omega)) H
theorem xk_sum {post : SX → Prop} {z c p l i o t h : Int32} {w r e : Nat → Int32} {d s : Nat} (hd : d < 4) (hs : s < 1000) (H : post (nI (gn_z (s % 256)), nI (gn_c s), p, l, i, o, t, h, w, upd r d (nI (s % 256)), e)) : wpX_keepSum post (z, c, p, l, i, o, t, h, w, r, e) (nI d) (nI s) := by
  have K : ∀ q : Nat, gn_c s = q → wX_keepSum_13 post (nI d) (nI s) (nI q) z c p l i o t h w r e := by
    intro q hq
    subst hq
    unfold wX_keepSum_13
    rw [gd_255 (by omega)]
    exact xk_keep hd (by omega) H
  unfold wpX_keepSum
  dsimp only
  by_cases hc : s ≤ 255
  · exact br_t (nI_le hc (by decide)) (K 0 (if_neg (by omega)))
  · exact br_f (nI_ge (a := 255) (b := s) (by omega) (by omega)) (K 1 (if_pos (by omega)))
theorem xk_shift {post : SX → Prop} {c : Nat} {z p l i o t h : Int32} {w r e : Nat → Int32} {d x m : Nat} (hd : d < 4) (hx : x < 256) (hm : m < 256) (hc : c ≤ 1) (H : post (nI (gn_z (gn_sh x m c)), nI (gn_sc x m), p, l, i, o, t, h, w, upd r d (nI (gn_sh x m c)), e)) : wpX_doShift post (z, nI c, p, l, i, o, t, h, w, r, e) (nI d) (nI x) (nI m) := by
  have K : ∀ q : Nat, gn_in m c = q → wX_doShift_14 post (nI d) (nI x) (nI m) (nI q) z (nI c) p l i o t h w r e := by
    intro q hq
    have hq1 : q ≤ 1 := hq ▸ gn_in_b hc
    unfold wX_doShift_14
    by_cases hm2 : m % 2 = 0
    · have ev : ((2 * nI x) &&& 255) + nI q = nI (gn_sh x m c) := by
        rw [show (2 : Int32) * nI x = nI (2 * x) from pk_mul 2 x, gd_255 (by omega), nI_add]
        exact congrArg nI (by unfold gn_sh; rw [if_pos hm2, hq])
      refine br_t (by rw [gd_1 (by omega), hm2]; rfl) (nm_r (e' := nI (gn_sc x m)) (by rw [gd_sr7 (by omega)]; exact congrArg nI (if_pos hm2).symm) ?_)
      rw [ev]
      exact xk_keep hd (gn_sh_b hx hc) H
    · have ev : (nI x / 2) + (128 * nI q) = nI (gn_sh x m c) := by
        rw [show (128 : Int32) * nI q = nI (128 * q) from pk_mul 128 q, ge_div 2 (by omega), nI_add]
        exact congrArg nI (by unfold gn_sh; rw [if_neg hm2, hq])
      refine br_f (by rw [gd_1 (by omega)]; exact nI_ne0 (by omega) (by omega)) (nm_r (e' := nI (gn_sc x m)) (by rw [gd_1 (by omega)]; exact congrArg nI (if_neg hm2).symm) ⟨by decide, ?_⟩)
      rw [ev]
      exact xk_keep hd (gn_sh_b hx hc) H
  unfold wpX_doShift
  dsimp only
  by_cases h2 : m % 4 < 2
  · exact br_t (by rw [gd_2 m hm, show m / 2 % 2 * 2 = 0 from by omega]; rfl) (K 0 (if_pos h2))
  · exact br_f (by rw [gd_2 m hm]; exact nI_ne0 (by omega) (by omega)) (K c (if_neg h2))
theorem xk_portI {post : SX → Prop} {z c p l i o t h : Int32} {w r e : Nat → Int32} {d m : Nat} (hd : d < 4) (hm : m < 256) (h2 : m % 2 = 0) (H : post (z, c, p, l, i, o, t, h, w, upd r d i, e)) : wpX_doPort post (z, c, p, l, i, o, t, h, w, r, e) (nI d) (nI m) := by
  unfold wpX_doPort
  dsimp only
  exact br_t (by rw [gd_1 (by omega), h2]; rfl) ⟨vp_in_nI hd (by decide), nm_r (e' := upd r d i) (by rw [nI_clamp (by omega)]) H⟩
theorem xk_portO {post : SX → Prop} {t : Nat} {z c p l i o h : Int32} {w r e : Nat → Int32} {d m x : Nat} (hd : d < 4) (hm : m < 256) (ht : t < 256) (hx : r d = nI x) (h2 : ¬ m % 2 = 0) (H : post (z, c, p, l, i, nI x, nI ((t + 1) % 256), h, w, r, e)) : wpX_doPort post (z, c, p, l, i, o, nI t, h, w, r, e) (nI d) (nI m) := by
  unfold wpX_doPort
  dsimp only
  exact br_f (by rw [gd_1 (by omega)]; exact nI_ne0 (by omega) (by omega)) ⟨vp_in_nI hd (by decide), nm_r (e' := nI x) (by rw [nI_clamp (by omega), hx]) (nm_r (e' := nI ((t + 1) % 256)) (by rw [nI_1 t, gd_255 (by omega)]) H)⟩
theorem xk_br {post : Int32 → Prop} {z c : Nat} {p l i o t h : Int32} {w r e : Nat → Int32} {d : Nat} (hd : d < 4) (hz : z ≤ 1) (hc : c ≤ 1) (H : post (nI (if (if d < 2 then z else c) = 1 - d % 2 then 1 else 0))) : wpX_branchHolds post (nI z, nI c, p, l, i, o, t, h, w, r, e) (nI d) := by
  have d4 : d = 0 ∨ d = 1 ∨ d = 2 ∨ d = 3 := by omega
  have z2 : z = 0 ∨ z = 1 := by omega
  have c2 : c = 0 ∨ c = 1 := by omega
  unfold wpX_branchHolds
  dsimp only
  rcases d4 with rfl | rfl | rfl | rfl
  · rcases z2 with rfl | rfl
    · exact br_f (by decide) (br_f (by decide) (br_t (by decide) (br_f (by decide) H)))
    · exact br_f (by decide) (br_f (by decide) (br_t (by decide) (br_t (by decide) H)))
  · rcases z2 with rfl | rfl
    · exact br_f (by decide) (br_f (by decide) (br_f (by decide) (br_t (by decide) (br_t (by decide) H))))
    · exact br_f (by decide) (br_f (by decide) (br_f (by decide) (br_t (by decide) (br_f (by decide) H))))
  · rcases c2 with rfl | rfl
    · exact br_f (by decide) (br_f (by decide) (br_f (by decide) (br_f (by decide) (br_t (by decide) (br_f (by decide) H)))))
    · exact br_f (by decide) (br_f (by decide) (br_f (by decide) (br_f (by decide) (br_t (by decide) (br_t (by decide) H)))))
  · rcases c2 with rfl | rfl
    · exact br_f (by decide) (br_t (by decide) (br_t (by decide) H))
    · exact br_f (by decide) (br_t (by decide) (br_f (by decide) H))
theorem xk_callL {post : SX → Prop} {z c p l i o t h : Int32} {w r e : Nat → Int32} {m : Nat} {n : Int32} (hm : m < 128) (H : post (z, c, nI (m % 32), n, i, o, t, h, w, r, e)) : wpX_doCall post (z, c, p, l, i, o, t, h, w, r, e) (nI m) n := by
  unfold wpX_doCall
  dsimp only
  exact br_f (nI_ge (b := 128) hm (by decide)) (xk_po (by omega) H)
theorem xk_callH {post : SX → Prop} {z c p l i o t h : Int32} {w r e : Nat → Int32} {m : Nat} {n : Int32} (hm : 128 ≤ m) (hm2 : m < 256) (H : post (z, c, l, l, i, o, t, h, w, r, e)) : wpX_doCall post (z, c, p, l, i, o, t, h, w, r, e) (nI m) n := by
  unfold wpX_doCall
  dsimp only
  exact br_t (nI_le (a := 128) hm (by omega)) H
theorem xk_rev {post : Int32 → Prop} {y : Nat} (hy : y < 256) (H : post (nI (gr_x y 8))) : ∀ d k : Nat, k + d = 8 → wX_reversed_4 post (nI y) (d + 1) (nI (gr_x y k)) (nI k) := by
  intro d
  induction d with
  | zero =>
    intro k hk
    have hk8 : k = 8 := by omega
    subst hk8
    exact br_t (nI_le (a := 8) (b := 8) (by omega) (by decide)) H
  | succ d ih =>
    intro k hk
    have hb : y / 2 ^ k < 65536 := Nat.lt_of_le_of_lt (Nat.div_le_self _ _) (by omega)
    refine br_f (nI_ge (b := 8) (by omega) (by decide)) (nm_r (e' := nI (gr_x y (k + 1))) ?_ (nm_r (nI_1 k) (ih (k + 1) (by omega))))
    rw [gd_srk (by omega) (by omega), gd_1 hb, show (2 : Int32) * nI (gr_x y k) = nI (2 * gr_x y k) from pk_mul 2 _, nI_add]
    exact rfl
theorem xk_reversed {post : Int32 → Prop} {y : Nat} (hy : y < 256) (H : post (nI (gr_x y 8))) : wpX_reversed post (nI y) := ⟨9, xk_rev hy H 8 0 rfl⟩
theorem xk_moved {post : Int32 → Prop} {x y k : Nat} (hx : x < 256) (hy : y < 256) (hk : k < 4) (H : post (nI (gn_mov x y k))) : wpX_moved post (nI x) (nI y) (nI k) := by
  have hxy := gn_xy hx hy
  have k4 : k = 0 ∨ k = 1 ∨ k = 2 ∨ k = 3 := by omega
  unfold wpX_moved
  rcases k4 with rfl | rfl | rfl | rfl
  · exact br_f (by decide) (br_f (by decide) (br_t (by decide) (H)))
  · refine br_f (by decide) (br_f (by decide) (br_f (by decide) (br_t (by decide) ?_)))
    rw [pk_mul, gd_255 (by omega)]
    exact H
  · refine br_f (by decide) (br_f (by decide) (br_f (by decide) (br_f (by decide) (br_t (by decide) ?_))))
    rw [pk_mul, gd_sr8 (by omega)]
    exact H
  · exact br_f (by decide) (br_t (by decide) (xk_reversed hy H))
