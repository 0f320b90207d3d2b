/-! the reference: the data operations -/
theorem yd_1 {post : SY → Prop} {c t : Nat} {z p l i o h : Int32} {w r e : Nat → Int32} {d s m x y : Nat} (hd : d < 4) (hs : s < 4) (hm : m < 256) (hc : c ≤ 1) (ht : t < 256) (hx : r d = nI x) (hy : r s = nI y) (bx : x < 256) (bY : y < 256) (H : post (z, nI c, p, l, i, o, nI t, h, w, upd r d (nI m), e)) : wpY_work post (z, nI c, p, l, i, o, nI t, h, w, r, e) (nI 1) (nI d) (nI s) (nI m) := by
  unfold wpY_work
  dsimp only
  refine ⟨vp_in_nI hd (by decide), nm_r (e' := nI x) (by rw [nI_clamp (by omega), hx]) ⟨vp_in_nI hs (by decide), nm_r (e' := nI y) (by rw [nI_clamp (by omega), hy]) ?_⟩⟩
  exact br_f (by decide) (br_t (by decide) ⟨vp_in_nI hd (by decide), nm_r (e' := upd r d (nI m)) (by rw [nI_clamp (by omega)]) H⟩)
theorem yd_2 {post : SY → Prop} {c t : Nat} {z p l i o h : Int32} {w r e : Nat → Int32} {d s m x y : Nat} (hd : d < 4) (hs : s < 4) (hm : m < 256) (hc : c ≤ 1) (ht : t < 256) (hx : r d = nI x) (hy : r s = nI y) (bx : x < 256) (bY : y < 256) (H : post (z, nI c, p, l, i, o, nI t, h, w, upd r d (nI (gn_mov x y (m % 4))), e)) : wpY_work post (z, nI c, p, l, i, o, nI t, h, w, r, e) (nI 2) (nI d) (nI s) (nI m) := by
  unfold wpY_work
  dsimp only
  refine ⟨vp_in_nI hd (by decide), nm_r (e' := nI x) (by rw [nI_clamp (by omega), hx]) ⟨vp_in_nI hs (by decide), nm_r (e' := nI y) (by rw [nI_clamp (by omega), hy]) ?_⟩⟩
  refine br_f (by decide) (br_f (by decide) ⟨by decide, ?_⟩)
  rw [ge_rem 4 (by omega)]
  exact yk_moved bx bY (by omega) ⟨vp_in_nI hd (by decide), nm_r (e' := upd r d (nI (gn_mov x y (m % 4)))) (by rw [nI_clamp (by omega)]) H⟩
theorem yd_3 {post : SY → Prop} {c t : Nat} {z p l i o h : Int32} {w r e : Nat → Int32} {d s m x y : Nat} (hd : d < 4) (hs : s < 4) (hm : m < 256) (hc : c ≤ 1) (ht : t < 256) (hx : r d = nI x) (hy : r s = nI y) (bx : x < 256) (bY : y < 256) (H : post (nI (gn_z ((x + y) % 256)), nI (gn_c (x + y)), p, l, i, o, nI t, h, w, upd r d (nI ((x + y) % 256)), e)) : wpY_work post (z, nI c, p, l, i, o, nI t, h, w, r, e) (nI 3) (nI d) (nI s) (nI m) := by
  unfold wpY_work
  dsimp only
  refine ⟨vp_in_nI hd (by decide), nm_r (e' := nI x) (by rw [nI_clamp (by omega), hx]) ⟨vp_in_nI hs (by decide), nm_r (e' := nI y) (by rw [nI_clamp (by omega), hy]) ?_⟩⟩
  refine br_t (by decide) (br_f (by decide) (br_f (by decide) ?_))
  unfold wpY_calculated
  dsimp only
  refine br_t (by decide) ?_
  rw [nI_add]
  exact yk_c30 (by omega) (yk_125 hd (by omega) H)
theorem yd_4 {post : SY → Prop} {c t : Nat} {z p l i o h : Int32} {w r e : Nat → Int32} {d s m x y : Nat} (hd : d < 4) (hs : s < 4) (hm : m < 256) (hc : c ≤ 1) (ht : t < 256) (hx : r d = nI x) (hy : r s = nI y) (bx : x < 256) (bY : y < 256) (H : post (nI (gn_z ((x + y + c) % 256)), nI (gn_c (x + y + c)), p, l, i, o, nI t, h, w, upd r d (nI ((x + y + c) % 256)), e)) : wpY_work post (z, nI c, p, l, i, o, nI t, h, w, r, e) (nI 4) (nI d) (nI s) (nI m) := by
  unfold wpY_work
  dsimp only
  refine ⟨vp_in_nI hd (by decide), nm_r (e' := nI x) (by rw [nI_clamp (by omega), hx]) ⟨vp_in_nI hs (by decide), nm_r (e' := nI y) (by rw [nI_clamp (by omega), hy]) ?_⟩⟩
  refine br_t (by decide) (br_f (by decide) (br_f (by decide) ?_))
  unfold wpY_calculated
  dsimp only
  refine br_f (by decide) (br_t (by decide) ?_)
  rw [nI_add, nI_add]
  exact yk_c30 (by omega) (yk_125 hd (by omega) H)
theorem yd_5 {post : SY → Prop} {c t : Nat} {z p l i o h : Int32} {w r e : Nat → Int32} {d s m x y : Nat} (hd : d < 4) (hs : s < 4) (hm : m < 256) (hc : c ≤ 1) (ht : t < 256) (hx : r d = nI x) (hy : r s = nI y) (bx : x < 256) (bY : y < 256) (H : post (nI (gn_z ((x + 256 - y) % 256)), nI (gn_cs x y), p, l, i, o, nI t, h, w, upd r d (nI ((x + 256 - y) % 256)), e)) : wpY_work post (z, nI c, p, l, i, o, nI t, h, w, r, e) (nI 5) (nI d) (nI s) (nI m) := by
  unfold wpY_work
  dsimp only
  refine ⟨vp_in_nI hd (by decide), nm_r (e' := nI x) (by rw [nI_clamp (by omega), hx]) ⟨vp_in_nI hs (by decide), nm_r (e' := nI y) (by rw [nI_clamp (by omega), hy]) ?_⟩⟩
  refine br_t (by decide) (br_f (by decide) (br_f (by decide) ?_))
  unfold wpY_calculated
  dsimp only
  refine br_f (by decide) (br_f (by decide) ?_)
  exact yk_c30s bx bY (yk_125 hd (by omega) H)
theorem yd_6 {post : SY → Prop} {c t : Nat} {z p l i o h : Int32} {w r e : Nat → Int32} {d s m x y : Nat} (hd : d < 4) (hs : s < 4) (hm : m < 256) (hc : c ≤ 1) (ht : t < 256) (hx : r d = nI x) (hy : r s = nI y) (bx : x < 256) (bY : y < 256) (H : post (nI (gn_z (x &&& y)), nI c, p, l, i, o, nI t, h, w, upd r d (nI (x &&& y)), e)) : wpY_work post (z, nI c, p, l, i, o, nI t, h, w, r, e) (nI 6) (nI d) (nI s) (nI m) := by
  unfold wpY_work
  dsimp only
  refine ⟨vp_in_nI hd (by decide), nm_r (e' := nI x) (by rw [nI_clamp (by omega), hx]) ⟨vp_in_nI hs (by decide), nm_r (e' := nI y) (by rw [nI_clamp (by omega), hy]) ?_⟩⟩
  refine br_t (by decide) (br_f (by decide) (br_t (by decide) (br_t (by decide) ?_)))
  rw [nx_and]
  exact yk_125 hd (gn_and bx) H
theorem yd_7 {post : SY → Prop} {c t : Nat} {z p l i o h : Int32} {w r e : Nat → Int32} {d s m x y : Nat} (hd : d < 4) (hs : s < 4) (hm : m < 256) (hc : c ≤ 1) (ht : t < 256) (hx : r d = nI x) (hy : r s = nI y) (bx : x < 256) (bY : y < 256) (H : post (nI (gn_z (x ||| y)), nI c, p, l, i, o, nI t, h, w, upd r d (nI (x ||| y)), e)) : wpY_work post (z, nI c, p, l, i, o, nI t, h, w, r, e) (nI 7) (nI d) (nI s) (nI m) := by
  unfold wpY_work
  dsimp only
  refine ⟨vp_in_nI hd (by decide), nm_r (e' := nI x) (by rw [nI_clamp (by omega), hx]) ⟨vp_in_nI hs (by decide), nm_r (e' := nI y) (by rw [nI_clamp (by omega), hy]) ?_⟩⟩
  refine br_t (by decide) (br_f (by decide) (br_t (by decide) (br_f (by decide) (br_t (by decide) ?_))))
  rw [gp_or]
  exact yk_125 hd (gn_or bx bY) H
theorem yd_8 {post : SY → Prop} {c t : Nat} {z p l i o h : Int32} {w r e : Nat → Int32} {d s m x y : Nat} (hd : d < 4) (hs : s < 4) (hm : m < 256) (hc : c ≤ 1) (ht : t < 256) (hx : r d = nI x) (hy : r s = nI y) (bx : x < 256) (bY : y < 256) (H : post (nI (gn_z (x ^^^ y)), nI c, p, l, i, o, nI t, h, w, upd r d (nI (x ^^^ y)), e)) : wpY_work post (z, nI c, p, l, i, o, nI t, h, w, r, e) (nI 8) (nI d) (nI s) (nI m) := by
  unfold wpY_work
  dsimp only
  refine ⟨vp_in_nI hd (by decide), nm_r (e' := nI x) (by rw [nI_clamp (by omega), hx]) ⟨vp_in_nI hs (by decide), nm_r (e' := nI y) (by rw [nI_clamp (by omega), hy]) ?_⟩⟩
  refine br_t (by decide) (br_f (by decide) (br_t (by decide) (br_f (by decide) (br_f (by decide) (br_t (by decide) ?_)))))
  rw [nx_xor]
  exact yk_125 hd (gn_xor bx bY) H
theorem yd_9 {post : SY → Prop} {c t : Nat} {z p l i o h : Int32} {w r e : Nat → Int32} {d s m x y : Nat} (hd : d < 4) (hs : s < 4) (hm : m < 256) (hc : c ≤ 1) (ht : t < 256) (hx : r d = nI x) (hy : r s = nI y) (bx : x < 256) (bY : y < 256) (H : post (nI (gn_z (gn_sh x m c)), nI (gn_sc x m), p, l, i, o, nI t, h, w, upd r d (nI (gn_sh x m c)), e)) : wpY_work post (z, nI c, p, l, i, o, nI t, h, w, r, e) (nI 9) (nI d) (nI s) (nI m) := by
  unfold wpY_work
  dsimp only
  refine ⟨vp_in_nI hd (by decide), nm_r (e' := nI x) (by rw [nI_clamp (by omega), hx]) ⟨vp_in_nI hs (by decide), nm_r (e' := nI y) (by rw [nI_clamp (by omega), hy]) ?_⟩⟩
  exact br_t (by decide) (br_f (by decide) (br_t (by decide) (br_f (by decide) (br_f (by decide) (br_f (by decide) (yk_shift bx hm hc (yk_125 hd (gn_sh_b bx hc) H)))))))
theorem yd_10 {post : SY → Prop} {c t : Nat} {z p l i o h : Int32} {w r e : Nat → Int32} {d s m x y : Nat} (hd : d < 4) (hs : s < 4) (hm : m < 256) (hc : c ≤ 1) (ht : t < 256) (hx : r d = nI x) (hy : r s = nI y) (bx : x < 256) (bY : y < 256) (H : post (z, nI c, p, l, i, o, nI t, h, w, upd r d (e ((y + m) % 16)), e)) : wpY_work post (z, nI c, p, l, i, o, nI t, h, w, r, e) (nI 10) (nI d) (nI s) (nI m) := by
  unfold wpY_work
  dsimp only
  refine ⟨vp_in_nI hd (by decide), nm_r (e' := nI x) (by rw [nI_clamp (by omega), hx]) ⟨vp_in_nI hs (by decide), nm_r (e' := nI y) (by rw [nI_clamp (by omega), hy]) ?_⟩⟩
  refine br_t (by decide) (br_t (by decide) (br_t (by decide) ?_))
  have hq : (y + m) % 16 < 16 := by omega
  rw [nI_add, ge_rem 16 (by omega)]
  exact ⟨by decide, vp_in_nI hq (by decide), vp_in_nI hd (by decide), nm_r (e' := upd r d (e ((y + m) % 16))) (by rw [nI_clamp (by omega), nI_clamp (by omega)]) H⟩
theorem yd_11 {post : SY → Prop} {c t : Nat} {z p l i o h : Int32} {w r e : Nat → Int32} {d s m x y : Nat} (hd : d < 4) (hs : s < 4) (hm : m < 256) (hc : c ≤ 1) (ht : t < 256) (hx : r d = nI x) (hy : r s = nI y) (bx : x < 256) (bY : y < 256) (H : post (z, nI c, p, l, i, o, nI t, h, w, r, upd e ((y + m) % 16) (nI x))) : wpY_work post (z, nI c, p, l, i, o, nI t, h, w, r, e) (nI 11) (nI d) (nI s) (nI m) := by
  unfold wpY_work
  dsimp only
  refine ⟨vp_in_nI hd (by decide), nm_r (e' := nI x) (by rw [nI_clamp (by omega), hx]) ⟨vp_in_nI hs (by decide), nm_r (e' := nI y) (by rw [nI_clamp (by omega), hy]) ?_⟩⟩
  refine br_t (by decide) (br_t (by decide) (br_f (by decide) (br_t (by decide) ?_)))
  have hq : (y + m) % 16 < 16 := by omega
  rw [nI_add, ge_rem 16 (by omega)]
  exact ⟨by decide, vp_in_nI hq (by decide), nm_r (e' := upd e ((y + m) % 16) (nI x)) (by rw [nI_clamp (by omega)]) H⟩
theorem yd_15i {post : SY → Prop} {c t : Nat} {z p l i o h : Int32} {w r e : Nat → Int32} {d s m x y : Nat} (hd : d < 4) (hs : s < 4) (hm : m < 256) (hc : c ≤ 1) (ht : t < 256) (hx : r d = nI x) (hy : r s = nI y) (bx : x < 256) (bY : y < 256) (h2 : m % 2 = 0) (H : post (z, nI c, p, l, i, o, nI t, h, w, upd r d i, e)) : wpY_work post (z, nI c, p, l, i, o, nI t, h, w, r, e) (nI 15) (nI d) (nI s) (nI m) := by
  unfold wpY_work
  dsimp only
  refine ⟨vp_in_nI hd (by decide), nm_r (e' := nI x) (by rw [nI_clamp (by omega), hx]) ⟨vp_in_nI hs (by decide), nm_r (e' := nI y) (by rw [nI_clamp (by omega), hy]) ?_⟩⟩
  refine br_t (by decide) (br_t (by decide) (br_f (by decide) (br_f (by decide) ⟨by decide, ?_⟩)))
  exact br_t (by rw [ge_rem 2 (by omega), h2]; rfl) ⟨vp_in_nI hd (by decide), nm_r (e' := upd r d i) (by rw [nI_clamp (by omega)]) H⟩
theorem yd_15o {post : SY → Prop} {c t : Nat} {z p l i o h : Int32} {w r e : Nat → Int32} {d s m x y : Nat} (hd : d < 4) (hs : s < 4) (hm : m < 256) (hc : c ≤ 1) (ht : t < 256) (hx : r d = nI x) (hy : r s = nI y) (bx : x < 256) (bY : y < 256) (h2 : ¬ m % 2 = 0) (H : post (z, nI c, p, l, i, nI x, nI ((t + 1) % 256), h, w, r, e)) : wpY_work post (z, nI c, p, l, i, o, nI t, h, w, r, e) (nI 15) (nI d) (nI s) (nI m) := by
  unfold wpY_work
  dsimp only
  refine ⟨vp_in_nI hd (by decide), nm_r (e' := nI x) (by rw [nI_clamp (by omega), hx]) ⟨vp_in_nI hs (by decide), nm_r (e' := nI y) (by rw [nI_clamp (by omega), hy]) ?_⟩⟩
  refine br_t (by decide) (br_t (by decide) (br_f (by decide) (br_f (by decide) ⟨by decide, ?_⟩)))
  exact br_f (by rw [ge_rem 2 (by omega)]; exact nI_ne0 (by omega) (by omega)) ⟨by decide, nm_r (e' := nI ((t + 1) % 256)) (by rw [nI_1 t, ge_rem 256 (by omega)]) H⟩
