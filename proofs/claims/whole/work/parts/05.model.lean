/-! the reference: its own methods -/
theorem yk_isByte_t {post : Int32 → Prop} {z c p l i o t h : Int32} {w r e : Nat → Int32} {j : Nat} (hj : j < 256) (H : post 1) : wpY_isByte post (z, c, p, l, i, o, t, h, w, r, e) (nI j) := by
  unfold wpY_isByte
  exact br_f (nI_pos (by omega)) (br_f (nI_nlt (a := 255) (by omega) (by decide)) H)
theorem yk_isByte_f {post : Int32 → Prop} {z c p l i o t h : Int32} {w r e : Nat → Int32} {x : Int32} (hx : x < 0 ∨ nI 256 ≤ x) (H : post 0) : wpY_isByte post (z, c, p, l, i, o, t, h, w, r, e) x := by
  unfold wpY_isByte
  rcases hx with a | a
  · exact br_t a H
  · exact br_f (gi_pos (by decide) a) (br_t (gi_gt (n := 255) (by decide) a) H)
theorem yk_isRegister_t {post : Int32 → Prop} {z c p l i o t h : Int32} {w r e : Nat → Int32} {j : Nat} (hj : j < 4) (H : post 1) : wpY_isRegister post (z, c, p, l, i, o, t, h, w, r, e) (nI j) := by
  unfold wpY_isRegister
  exact br_f (nI_pos (by omega)) (br_f (nI_nlt (a := 3) (by omega) (by decide)) H)
theorem yk_isRegister_f {post : Int32 → Prop} {z c p l i o t h : Int32} {w r e : Nat → Int32} {x : Int32} (hx : x < 0 ∨ nI 4 ≤ x) (H : post 0) : wpY_isRegister post (z, c, p, l, i, o, t, h, w, r, e) x := by
  unfold wpY_isRegister
  rcases hx with a | a
  · exact br_t a H
  · exact br_f (gi_pos (by decide) a) (br_t (gi_gt (n := 3) (by decide) a) H)
theorem yk_zero {post : SY → Prop} {z c p l i o t h : Int32} {w r e : Nat → Int32} {v : Nat} (hv : v < 256) (H : post (nI (gn_z v), c, p, l, i, o, t, h, w, r, e)) : wpY_setZero post (z, c, p, l, i, o, t, h, w, r, e) (nI v) := by
  unfold wpY_setZero
  dsimp only
  by_cases hz : v = 0
  · subst hz
    rw [show gn_z 0 = 1 from rfl] at H
    exact br_t rfl H
  · rw [show gn_z v = 0 from if_neg hz] at H
    exact br_f (nI_ne0 (by omega) (by omega)) H
theorem yk_125 {post : SY → Prop} {z c p l i o t h : Int32} {w r e : Nat → Int32} {d v : Nat} (hd : d < 4) (hv : v < 256) (H : post (nI (gn_z v), c, p, l, i, o, t, h, w, upd r d (nI v), e)) : wY_work_125 post (nI d) (nI v) z c p l i o t h w r e := by
  unfold wY_work_125
  exact ⟨vp_in_nI hd (by decide), nm_r (e' := upd r d (nI v)) (by rw [nI_clamp (by omega)]) (yk_zero hv H)⟩
theorem yk_c30 {post : Int32 → SY → Prop} {z c p l i o t h : Int32} {w r e : Nat → Int32} {s : Nat} (hs : s < 1000) (H : post (nI (s % 256)) (z, nI (gn_c s), p, l, i, o, t, h, w, r, e)) : wY_calculated_30 post (nI s) z c p l i o t h w r e := by
  unfold wY_calculated_30
  rw [gd_255 (by omega)]
  by_cases hc : 255 < s
  · rw [show gn_c s = 1 from if_pos hc] at H
    exact br_t (nI_lt (a := 255) hc (by omega)) H
  · rw [show gn_c s = 0 from if_neg hc] at H
    exact br_f (nI_nlt (a := 255) (by omega) (by decide)) (br_t (nI_pos' (by omega)) H)
theorem yk_c30s {post : Int32 → SY → Prop} {z c p l i o t h : Int32} {w r e : Nat → Int32} {x y : Nat} (bx : x < 256) (bY : y < 256) (H : post (nI ((x + 256 - y) % 256)) (z, nI (gn_cs x y), p, l, i, o, t, h, w, r, e)) : wY_calculated_30 post (nI x - nI y) z c p l i o t h w r e := by
  unfold wY_calculated_30
  rw [gn_sub bx bY]
  refine br_f (Int32.not_lt.mpr (gn_sub_hi bx bY)) ?_
  by_cases hc : x < y
  · rw [show gn_cs x y = 1 from if_pos hc] at H
    exact br_f (Int32.not_le.mpr ((gn_sub_lo bx bY).mpr hc)) H
  · rw [show gn_cs x y = 0 from if_neg hc] at H
    exact br_t (Int32.not_lt.mp (fun a => hc ((gn_sub_lo bx bY).mp a))) H
theorem yk_shift {post : Int32 → SY → Prop} {c : Nat} {z p l i o t h : Int32} {w r e : Nat → Int32} {x m : Nat} (hx : x < 256) (hm : m < 256) (hc : c ≤ 1) (H : post (nI (gn_sh x m c)) (z, nI (gn_sc x m), p, l, i, o, t, h, w, r, e)) : wpY_shifted post (z, nI c, p, l, i, o, t, h, w, r, e) (nI x) (nI m) := by
  have K : ∀ q : Nat, gn_in m c = q → wY_shifted_15 post (nI x) (nI m) (nI q) z (nI c) p l i o t h w r e := by
    intro q hq
    have hq1 : q ≤ 1 := hq ▸ gn_in_b hc
    unfold wY_shifted_15 wY_shifted_27 wY_shifted_46
    by_cases hm2 : m % 2 = 0
    · refine ⟨by decide, br_t (by rw [ge_rem 2 (by omega), hm2]; rfl) (br_f (by decide) ⟨by decide, br_f (by decide) ⟨by decide, ?_⟩⟩)⟩
      have ev : ((2 * nI x) - (2 * nI x) / 256 * 256) + nI q = nI (gn_sh x m c) := by
        rw [show (2 : Int32) * nI x = nI (2 * x) from pk_mul 2 x, ge_rem 256 (by omega), nI_add]
        exact congrArg nI (by unfold gn_sh; rw [if_pos hm2, hq])
      rw [ev, ge_div 128 (by omega), show x / 128 = gn_sc x m from (if_pos hm2).symm]
      exact H
    · refine ⟨by decide, br_f (by rw [ge_rem 2 (by omega)]; exact nI_ne0 (by omega) (by omega)) (br_t rfl ⟨by decide, br_t rfl ⟨by decide, ?_⟩⟩)⟩
      have ev : (nI x / 2) + (128 * nI q) = nI (gn_sh x m c) := by
        rw [show (128 : Int32) * nI q = nI (128 * q) from pk_mul 128 q, ge_div 2 (by omega), nI_add]
        exact congrArg nI (by unfold gn_sh; rw [if_neg hm2, hq])
      have ec : nI x - nI x / 2 * 2 = nI (gn_sc x m) := by
        rw [ge_rem 2 (by omega)]
        exact congrArg nI (if_neg hm2).symm
      rw [ev, ec]
      exact H
  unfold wpY_shifted
  dsimp only
  refine ⟨by decide, ?_⟩
  rw [ge_rem 4 (by omega)]
  by_cases h2 : m % 4 < 2
  · exact br_t (nI_lt (b := 2) h2 (by decide)) (K 0 (if_pos h2))
  · exact br_f (nI_nlt (b := 2) (by omega) (by omega)) (K c (if_neg h2))
theorem yk_tur {post : Int32 → Prop} {z c p l i o t h : Int32} {w r e : Nat → Int32} {y : Nat} (hy : y < 256) (H : post (nI (gr_y y 8))) : ∀ d k : Nat, k + d = 8 → wY_turned_4 post (nI y) z c p l i o t h w r e (d + 1) (nI (gr_y y k)) (nI k) := by
  intro d
  induction d with
  | zero =>
    intro k hk
    have hk8 : k = 8 := by omega
    subst hk8
    exact br_t (nI_le (a := 8) (b := 8) (by omega) (by decide)) H
  | succ d ih =>
    intro k hk
    have hb : y / 2 ^ k < 65536 := Nat.lt_of_le_of_lt (Nat.div_le_self _ _) (by omega)
    have eb : (nI y >>> (nI k &&& 31)) &&& 1 = nI (y / 2 ^ k % 2) := by rw [gd_srk (by omega) (by omega), gd_1 hb]
    have ih' := ih (k + 1) (by omega)
    refine br_f (nI_ge (b := 8) (by omega) (by decide)) ?_
    by_cases hq : y / 2 ^ k % 2 = 1
    · refine br_t (by rw [eb, hq]; rfl) (nm_r (e' := nI (gr_y y (k + 1))) ?_ (nm_r (nI_1 k) ih'))
      rw [show (128 : Int32) >>> (nI k &&& 31) = nI (128 / 2 ^ k) from gd_srk (a := 128) (by omega) (by omega), gp_or]
      exact congrArg nI (if_pos hq).symm
    · have e2 : gr_y y (k + 1) = gr_y y k := if_neg hq
      rw [e2] at ih'
      have hl : y / 2 ^ k % 2 < 2 := Nat.mod_lt _ (by decide)
      exact br_f (by rw [eb]; intro a; exact hq ((nI_eq (b := 1) (by omega) (by omega)).mp a)) (nm_r (nI_1 k) ih')
theorem yk_turned {post : Int32 → Prop} {z c p l i o t h : Int32} {w r e : Nat → Int32} {y : Nat} (hy : y < 256) (H : post (nI (gr_x y 8))) : wpY_turned post (z, c, p, l, i, o, t, h, w, r, e) (nI y) := by
  rw [gr_e y hy] at H
  exact ⟨9, yk_tur hy H 8 0 rfl⟩
theorem yk_moved {post : Int32 → Prop} {z c p l i o t h : Int32} {w r e : Nat → Int32} {x y k : Nat} (hx : x < 256) (hy : y < 256) (hk : k < 4) (H : post (nI (gn_mov x y k))) : wpY_moved post (z, c, p, l, i, o, t, h, w, r, e) (nI x) (nI y) (nI k) := by
  have hxy := gn_xy hx hy
  have k4 : k = 0 ∨ k = 1 ∨ k = 2 ∨ k = 3 := by omega
  unfold wpY_moved
  dsimp only
  rcases k4 with rfl | rfl | rfl | rfl
  · exact br_t (by decide) (H)
  · refine br_f (by decide) (br_t (by decide) ?_)
    rw [pk_mul, gd_255 (by omega)]
    exact H
  · refine br_f (by decide) (br_f (by decide) (br_t (by decide) ⟨by decide, ?_⟩))
    rw [pk_mul, ge_div 256 (by omega)]
    exact H
  · exact br_f (by decide) (br_f (by decide) (br_f (by decide) (yk_turned hy H)))
theorem yf_0 {post : Int32 → Prop} {p : Nat} {z c l i o t h : Int32} {w r e : Nat → Int32} {d m : Nat} (hp : p < 32) (hm : m < 256) (H : post (nI p)) : wpY_following post (z, c, nI p, l, i, o, t, h, w, r, e) (nI 0) (nI d) (nI m) := by
  unfold wpY_following
  dsimp only
  refine ⟨by decide, nm_r (e' := nI ((p + 1) % 32)) (by rw [nI_1 p, ge_rem 32 (by omega)]) ⟨by decide, nm_r (e' := nI (m % 32)) (by rw [ge_rem 32 (by omega)]) ?_⟩⟩
  exact br_t rfl H
theorem yf_12 {post : Int32 → Prop} {p : Nat} {z c l i o t h : Int32} {w r e : Nat → Int32} {d m : Nat} (hp : p < 32) (hm : m < 256) (H : post (nI (m % 32))) : wpY_following post (z, c, nI p, l, i, o, t, h, w, r, e) (nI 12) (nI d) (nI m) := by
  unfold wpY_following
  dsimp only
  refine ⟨by decide, nm_r (e' := nI ((p + 1) % 32)) (by rw [nI_1 p, ge_rem 32 (by omega)]) ⟨by decide, nm_r (e' := nI (m % 32)) (by rw [ge_rem 32 (by omega)]) ?_⟩⟩
  exact br_f (by decide) (br_f (by decide) (br_t (by decide) (H)))
theorem yf_14L {post : Int32 → Prop} {p : Nat} {z c l i o t h : Int32} {w r e : Nat → Int32} {d m : Nat} (hp : p < 32) (hm : m < 256) (h2 : m < 128) (H : post (nI (m % 32))) : wpY_following post (z, c, nI p, l, i, o, t, h, w, r, e) (nI 14) (nI d) (nI m) := by
  unfold wpY_following
  dsimp only
  refine ⟨by decide, nm_r (e' := nI ((p + 1) % 32)) (by rw [nI_1 p, ge_rem 32 (by omega)]) ⟨by decide, nm_r (e' := nI (m % 32)) (by rw [ge_rem 32 (by omega)]) ?_⟩⟩
  exact br_f (by decide) (br_f (by decide) (br_f (by decide) (br_t (by decide) (br_f (nI_ge (b := 128) h2 (by decide)) H))))
theorem yf_14H {post : Int32 → Prop} {p : Nat} {z c l i o t h : Int32} {w r e : Nat → Int32} {d m : Nat} (hp : p < 32) (hm : m < 256) (h2 : 128 ≤ m) (H : post (l)) : wpY_following post (z, c, nI p, l, i, o, t, h, w, r, e) (nI 14) (nI d) (nI m) := by
  unfold wpY_following
  dsimp only
  refine ⟨by decide, nm_r (e' := nI ((p + 1) % 32)) (by rw [nI_1 p, ge_rem 32 (by omega)]) ⟨by decide, nm_r (e' := nI (m % 32)) (by rw [ge_rem 32 (by omega)]) ?_⟩⟩
  exact br_f (by decide) (br_f (by decide) (br_f (by decide) (br_t (by decide) (br_t (nI_le (a := 128) h2 (by omega)) H))))
theorem yf_n {post : Int32 → Prop} {p : Nat} {z c l i o t h : Int32} {w r e : Nat → Int32} {d m : Nat} (hp : p < 32) (hm : m < 256) {op : Nat} (ho : op < 16) (h0 : ¬ op = 0) (h1 : ¬ op = 12) (h2 : ¬ op = 13) (h3 : ¬ op = 14) (H : post (nI ((p + 1) % 32))) : wpY_following post (z, c, nI p, l, i, o, t, h, w, r, e) (nI op) (nI d) (nI m) := by
  unfold wpY_following
  dsimp only
  refine ⟨by decide, nm_r (e' := nI ((p + 1) % 32)) (by rw [nI_1 p, ge_rem 32 (by omega)]) ⟨by decide, nm_r (e' := nI (m % 32)) (by rw [ge_rem 32 (by omega)]) ?_⟩⟩
  have K : ∀ q : Nat, q < 16 → ¬ op = q → ¬ nI op = nI q := fun q hq ho2 a => ho2 ((nI_eq (by omega) (by omega)).mp a)
  exact br_f (K 0 (by omega) h0) (br_f (K 13 (by omega) h2) (br_f (K 12 (by omega) h1) (br_f (K 14 (by omega) h3) H)))
theorem yf_48 {post : Int32 → Prop} {z c p l i o t h : Int32} {w r e : Nat → Int32} {f d a b : Nat} (hf : f ≤ 1) (hd : d < 4) (H : post (nI (if f = 1 - d % 2 then b else a))) : wY_following_48 post (nI d) (nI a) (nI b) (nI f) z c p l i o t h w r e := by
  unfold wY_following_48
  have e1 : (1 : Int32) - (nI d - nI d / 2 * 2) = nI (1 - d % 2) := by
    rw [ge_rem 2 (by omega)]
    exact pk_sub (a := 1) (by omega)
  rw [e1]
  refine ⟨by decide, ?_⟩
  by_cases hq : f = 1 - d % 2
  · rw [if_pos hq] at H
    exact br_t (congrArg nI hq) H
  · rw [if_neg hq] at H
    exact br_f (fun a2 => hq ((nI_eq (by omega) (by omega)).mp a2)) H
theorem yf_13 {post : Int32 → Prop} {z c p : Nat} {l i o t h : Int32} {w r e : Nat → Int32} {d m : Nat} (hp : p < 32) (hm : m < 256) (hd : d < 4) (hz : z ≤ 1) (hc : c ≤ 1) (H : post (nI (gn_br d z c p m))) : wpY_following post (nI z, nI c, nI p, l, i, o, t, h, w, r, e) (nI 13) (nI d) (nI m) := by
  unfold wpY_following
  dsimp only
  refine ⟨by decide, nm_r (e' := nI ((p + 1) % 32)) (by rw [nI_1 p, ge_rem 32 (by omega)]) ⟨by decide, nm_r (e' := nI (m % 32)) (by rw [ge_rem 32 (by omega)]) ?_⟩⟩
  refine br_f (by decide) (br_t (by decide) ?_)
  unfold gn_br at H
  by_cases h2 : d < 2
  · rw [if_pos h2] at H
    exact br_f (nI_ge (b := 2) h2 (by decide)) (yf_48 hz hd H)
  · rw [if_neg h2] at H
    exact br_t (nI_le (a := 2) (by omega) (by omega)) (yf_48 hc hd H)
