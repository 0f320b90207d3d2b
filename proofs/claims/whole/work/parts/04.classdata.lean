/-! the class: the data operations -/
theorem xd_1 {post : SX → Prop} {c t : Nat} {z p l i o h : Int32} {w r e : Nat → Int32} {d s m x y : Nat} (hd : d < 4) (hs : s < 4) (hm : m < 256) (hc : c ≤ 1) (ht : t < 256) (hx : r d = nI x) (hy : r s = nI y) (bx : x < 256) (bY : y < 256) (H : post (z, nI c, p, l, i, o, nI t, h, w, upd r d (nI m), e)) : wpX_doData post (z, nI c, p, l, i, o, nI t, h, w, r, e) (nI 1) (nI d) (nI s) (nI m) := by
  unfold wpX_doData
  dsimp only
  refine ⟨vp_in_nI hd (by decide), nm_r (e' := nI x) (by rw [nI_clamp (by omega), hx]) ⟨vp_in_nI hs (by decide), nm_r (e' := nI y) (by rw [nI_clamp (by omega), hy]) (nm_e ?_)⟩⟩
  exact br_f (by decide) (br_f (by decide) (br_t (by decide) ⟨vp_in_nI hd (by decide), nm_r (e' := upd r d (nI m)) (by rw [nI_clamp (by omega)]) H⟩))
theorem xd_2 {post : SX → Prop} {c t : Nat} {z p l i o h : Int32} {w r e : Nat → Int32} {d s m x y : Nat} (hd : d < 4) (hs : s < 4) (hm : m < 256) (hc : c ≤ 1) (ht : t < 256) (hx : r d = nI x) (hy : r s = nI y) (bx : x < 256) (bY : y < 256) (H : post (z, nI c, p, l, i, o, nI t, h, w, upd r d (nI (gn_mov x y (m % 4))), e)) : wpX_doData post (z, nI c, p, l, i, o, nI t, h, w, r, e) (nI 2) (nI d) (nI s) (nI m) := by
  unfold wpX_doData
  dsimp only
  refine ⟨vp_in_nI hd (by decide), nm_r (e' := nI x) (by rw [nI_clamp (by omega), hx]) ⟨vp_in_nI hs (by decide), nm_r (e' := nI y) (by rw [nI_clamp (by omega), hy]) (nm_e ?_)⟩⟩
  refine br_f (by decide) (br_f (by decide) (br_f (by decide) (br_t (by decide) ?_)))
  rw [gd_3 (by omega)]
  exact xk_moved bx bY (by omega) ⟨vp_in_nI hd (by decide), nm_r (e' := upd r d (nI (gn_mov x y (m % 4)))) (by rw [nI_clamp (by omega)]) H⟩
theorem xd_3 {post : SX → Prop} {c t : Nat} {z p l i o h : Int32} {w r e : Nat → Int32} {d s m x y : Nat} (hd : d < 4) (hs : s < 4) (hm : m < 256) (hc : c ≤ 1) (ht : t < 256) (hx : r d = nI x) (hy : r s = nI y) (bx : x < 256) (bY : y < 256) (H : post (nI (gn_z ((x + y) % 256)), nI (gn_c (x + y)), p, l, i, o, nI t, h, w, upd r d (nI ((x + y) % 256)), e)) : wpX_doData post (z, nI c, p, l, i, o, nI t, h, w, r, e) (nI 3) (nI d) (nI s) (nI m) := by
  unfold wpX_doData
  dsimp only
  refine ⟨vp_in_nI hd (by decide), nm_r (e' := nI x) (by rw [nI_clamp (by omega), hx]) ⟨vp_in_nI hs (by decide), nm_r (e' := nI y) (by rw [nI_clamp (by omega), hy]) (nm_e ?_)⟩⟩
  refine br_f (by decide) (br_f (by decide) (br_f (by decide) (br_f (by decide) (br_t (by decide) ?_))))
  rw [nI_add]
  exact xk_sum hd (by omega) H
theorem xd_4 {post : SX → Prop} {c t : Nat} {z p l i o h : Int32} {w r e : Nat → Int32} {d s m x y : Nat} (hd : d < 4) (hs : s < 4) (hm : m < 256) (hc : c ≤ 1) (ht : t < 256) (hx : r d = nI x) (hy : r s = nI y) (bx : x < 256) (bY : y < 256) (H : post (nI (gn_z ((x + y + c) % 256)), nI (gn_c (x + y + c)), p, l, i, o, nI t, h, w, upd r d (nI ((x + y + c) % 256)), e)) : wpX_doData post (z, nI c, p, l, i, o, nI t, h, w, r, e) (nI 4) (nI d) (nI s) (nI m) := by
  unfold wpX_doData
  dsimp only
  refine ⟨vp_in_nI hd (by decide), nm_r (e' := nI x) (by rw [nI_clamp (by omega), hx]) ⟨vp_in_nI hs (by decide), nm_r (e' := nI y) (by rw [nI_clamp (by omega), hy]) (nm_e ?_)⟩⟩
  refine br_f (by decide) (br_f (by decide) (br_f (by decide) (br_f (by decide) (br_f (by decide) (br_t (by decide) ?_)))))
  rw [nI_add, nI_add]
  exact xk_sum hd (by omega) H
theorem xd_5 {post : SX → Prop} {c t : Nat} {z p l i o h : Int32} {w r e : Nat → Int32} {d s m x y : Nat} (hd : d < 4) (hs : s < 4) (hm : m < 256) (hc : c ≤ 1) (ht : t < 256) (hx : r d = nI x) (hy : r s = nI y) (bx : x < 256) (bY : y < 256) (H : post (nI (gn_z ((x + 256 - y) % 256)), nI (gn_cs x y), p, l, i, o, nI t, h, w, upd r d (nI ((x + 256 - y) % 256)), e)) : wpX_doData post (z, nI c, p, l, i, o, nI t, h, w, r, e) (nI 5) (nI d) (nI s) (nI m) := by
  unfold wpX_doData
  dsimp only
  refine ⟨vp_in_nI hd (by decide), nm_r (e' := nI x) (by rw [nI_clamp (by omega), hx]) ⟨vp_in_nI hs (by decide), nm_r (e' := nI y) (by rw [nI_clamp (by omega), hy]) (nm_e ?_)⟩⟩
  refine br_f (by decide) (br_f (by decide) (br_f (by decide) (br_f (by decide) (br_f (by decide) (br_f (by decide) (br_t (by decide) ?_))))))
  have K : ∀ q : Nat, gn_cs x y = q → wX_doData_175 post (nI d) (nI x) (nI y) (nI q) z (nI c) p l i o (nI t) h w r e := by
    intro q hq
    subst hq
    unfold wX_doData_175
    rw [gn_sub bx bY]
    exact xk_keep hd (by omega) H
  by_cases hxy : y ≤ x
  · exact br_t (nI_le hxy (by omega)) (K 0 (if_neg (by omega)))
  · exact br_f (nI_ge (by omega) (by omega)) (K 1 (if_pos (by omega)))
theorem xd_6 {post : SX → Prop} {c t : Nat} {z p l i o h : Int32} {w r e : Nat → Int32} {d s m x y : Nat} (hd : d < 4) (hs : s < 4) (hm : m < 256) (hc : c ≤ 1) (ht : t < 256) (hx : r d = nI x) (hy : r s = nI y) (bx : x < 256) (bY : y < 256) (H : post (nI (gn_z (x &&& y)), nI c, p, l, i, o, nI t, h, w, upd r d (nI (x &&& y)), e)) : wpX_doData post (z, nI c, p, l, i, o, nI t, h, w, r, e) (nI 6) (nI d) (nI s) (nI m) := by
  unfold wpX_doData
  dsimp only
  refine ⟨vp_in_nI hd (by decide), nm_r (e' := nI x) (by rw [nI_clamp (by omega), hx]) ⟨vp_in_nI hs (by decide), nm_r (e' := nI y) (by rw [nI_clamp (by omega), hy]) (nm_e ?_)⟩⟩
  refine br_f (by decide) (br_f (by decide) (br_f (by decide) (br_f (by decide) (br_f (by decide) (br_f (by decide) (br_f (by decide) (br_t (by decide) ?_)))))))
  rw [nx_and]
  exact xk_keep hd (gn_and bx) H
theorem xd_7 {post : SX → Prop} {c t : Nat} {z p l i o h : Int32} {w r e : Nat → Int32} {d s m x y : Nat} (hd : d < 4) (hs : s < 4) (hm : m < 256) (hc : c ≤ 1) (ht : t < 256) (hx : r d = nI x) (hy : r s = nI y) (bx : x < 256) (bY : y < 256) (H : post (nI (gn_z (x ||| y)), nI c, p, l, i, o, nI t, h, w, upd r d (nI (x ||| y)), e)) : wpX_doData post (z, nI c, p, l, i, o, nI t, h, w, r, e) (nI 7) (nI d) (nI s) (nI m) := by
  unfold wpX_doData
  dsimp only
  refine ⟨vp_in_nI hd (by decide), nm_r (e' := nI x) (by rw [nI_clamp (by omega), hx]) ⟨vp_in_nI hs (by decide), nm_r (e' := nI y) (by rw [nI_clamp (by omega), hy]) (nm_e ?_)⟩⟩
  refine br_f (by decide) (br_f (by decide) (br_f (by decide) (br_f (by decide) (br_f (by decide) (br_f (by decide) (br_f (by decide) (br_f (by decide) (br_t (by decide) ?_))))))))
  rw [gp_or]
  exact xk_keep hd (gn_or bx bY) H
theorem xd_8 {post : SX → Prop} {c t : Nat} {z p l i o h : Int32} {w r e : Nat → Int32} {d s m x y : Nat} (hd : d < 4) (hs : s < 4) (hm : m < 256) (hc : c ≤ 1) (ht : t < 256) (hx : r d = nI x) (hy : r s = nI y) (bx : x < 256) (bY : y < 256) (H : post (nI (gn_z (x ^^^ y)), nI c, p, l, i, o, nI t, h, w, upd r d (nI (x ^^^ y)), e)) : wpX_doData post (z, nI c, p, l, i, o, nI t, h, w, r, e) (nI 8) (nI d) (nI s) (nI m) := by
  unfold wpX_doData
  dsimp only
  refine ⟨vp_in_nI hd (by decide), nm_r (e' := nI x) (by rw [nI_clamp (by omega), hx]) ⟨vp_in_nI hs (by decide), nm_r (e' := nI y) (by rw [nI_clamp (by omega), hy]) (nm_e ?_)⟩⟩
  refine br_f (by decide) (br_f (by decide) (br_f (by decide) (br_f (by decide) (br_f (by decide) (br_f (by decide) (br_f (by decide) (br_f (by decide) (br_f (by decide) (br_t (by decide) ?_)))))))))
  rw [nx_xor]
  exact xk_keep hd (gn_xor bx bY) H
theorem xd_9 {post : SX → Prop} {c t : Nat} {z p l i o h : Int32} {w r e : Nat → Int32} {d s m x y : Nat} (hd : d < 4) (hs : s < 4) (hm : m < 256) (hc : c ≤ 1) (ht : t < 256) (hx : r d = nI x) (hy : r s = nI y) (bx : x < 256) (bY : y < 256) (H : post (nI (gn_z (gn_sh x m c)), nI (gn_sc x m), p, l, i, o, nI t, h, w, upd r d (nI (gn_sh x m c)), e)) : wpX_doData post (z, nI c, p, l, i, o, nI t, h, w, r, e) (nI 9) (nI d) (nI s) (nI m) := by
  unfold wpX_doData
  dsimp only
  refine ⟨vp_in_nI hd (by decide), nm_r (e' := nI x) (by rw [nI_clamp (by omega), hx]) ⟨vp_in_nI hs (by decide), nm_r (e' := nI y) (by rw [nI_clamp (by omega), hy]) (nm_e ?_)⟩⟩
  exact br_f (by decide) (br_f (by decide) (br_f (by decide) (br_f (by decide) (br_f (by decide) (br_f (by decide) (br_f (by decide) (br_f (by decide) (br_f (by decide) (br_f (by decide) (br_t (by decide) (xk_shift hd bx hm hc H)))))))))))
theorem xd_10 {post : SX → Prop} {c t : Nat} {z p l i o h : Int32} {w r e : Nat → Int32} {d s m x y : Nat} (hd : d < 4) (hs : s < 4) (hm : m < 256) (hc : c ≤ 1) (ht : t < 256) (hx : r d = nI x) (hy : r s = nI y) (bx : x < 256) (bY : y < 256) (H : post (z, nI c, p, l, i, o, nI t, h, w, upd r d (e ((y + m) % 16)), e)) : wpX_doData post (z, nI c, p, l, i, o, nI t, h, w, r, e) (nI 10) (nI d) (nI s) (nI m) := by
  unfold wpX_doData
  dsimp only
  refine ⟨vp_in_nI hd (by decide), nm_r (e' := nI x) (by rw [nI_clamp (by omega), hx]) ⟨vp_in_nI hs (by decide), nm_r (e' := nI y) (by rw [nI_clamp (by omega), hy]) (nm_e ?_)⟩⟩
  refine br_f (by decide) (br_f (by decide) (br_f (by decide) (br_f (by decide) (br_f (by decide) (br_f (by decide) (br_f (by decide) (br_f (by decide) (br_f (by decide) (br_f (by decide) (br_f (by decide) (br_t (by decide) ?_)))))))))))
  have hq : (y + m) % 16 < 16 := by omega
  rw [nI_add, gd_15 (by omega)]
  exact ⟨vp_in_nI hq (by decide), vp_in_nI hd (by decide), nm_r (e' := upd r d (e ((y + m) % 16))) (by rw [nI_clamp (by omega), nI_clamp (by omega)]) H⟩
theorem xd_11 {post : SX → Prop} {c t : Nat} {z p l i o h : Int32} {w r e : Nat → Int32} {d s m x y : Nat} (hd : d < 4) (hs : s < 4) (hm : m < 256) (hc : c ≤ 1) (ht : t < 256) (hx : r d = nI x) (hy : r s = nI y) (bx : x < 256) (bY : y < 256) (H : post (z, nI c, p, l, i, o, nI t, h, w, r, upd e ((y + m) % 16) (nI x))) : wpX_doData post (z, nI c, p, l, i, o, nI t, h, w, r, e) (nI 11) (nI d) (nI s) (nI m) := by
  unfold wpX_doData
  dsimp only
  refine ⟨vp_in_nI hd (by decide), nm_r (e' := nI x) (by rw [nI_clamp (by omega), hx]) ⟨vp_in_nI hs (by decide), nm_r (e' := nI y) (by rw [nI_clamp (by omega), hy]) (nm_e ?_)⟩⟩
  refine br_f (by decide) (br_f (by decide) (br_f (by decide) (br_f (by decide) (br_f (by decide) (br_f (by decide) (br_f (by decide) (br_f (by decide) (br_f (by decide) (br_f (by decide) (br_f (by decide) (br_f (by decide) (br_t (by decide) ?_))))))))))))
  have hq : (y + m) % 16 < 16 := by omega
  rw [nI_add, gd_15 (by omega)]
  exact ⟨vp_in_nI hq (by decide), nm_r (e' := upd e ((y + m) % 16) (nI x)) (by rw [nI_clamp (by omega)]) H⟩
theorem xd_15i {post : SX → Prop} {c t : Nat} {z p l i o h : Int32} {w r e : Nat → Int32} {d s m x y : Nat} (hd : d < 4) (hs : s < 4) (hm : m < 256) (hc : c ≤ 1) (ht : t < 256) (hx : r d = nI x) (hy : r s = nI y) (bx : x < 256) (bY : y < 256) (h2 : m % 2 = 0) (H : post (z, nI c, p, l, i, o, nI t, h, w, upd r d i, e)) : wpX_doData post (z, nI c, p, l, i, o, nI t, h, w, r, e) (nI 15) (nI d) (nI s) (nI m) := by
  unfold wpX_doData
  dsimp only
  refine ⟨vp_in_nI hd (by decide), nm_r (e' := nI x) (by rw [nI_clamp (by omega), hx]) ⟨vp_in_nI hs (by decide), nm_r (e' := nI y) (by rw [nI_clamp (by omega), hy]) (nm_e ?_)⟩⟩
  exact br_f (by decide) (br_f (by decide) (br_f (by decide) (br_f (by decide) (br_f (by decide) (br_f (by decide) (br_f (by decide) (br_f (by decide) (br_f (by decide) (br_f (by decide) (br_f (by decide) (br_f (by decide) (br_f (by decide) (br_f (by decide) (br_f (by decide) (br_f (by decide) (br_t (by decide) (xk_portI hd hm h2 H)))))))))))))))))
theorem xd_15o {post : SX → Prop} {c t : Nat} {z p l i o h : Int32} {w r e : Nat → Int32} {d s m x y : Nat} (hd : d < 4) (hs : s < 4) (hm : m < 256) (hc : c ≤ 1) (ht : t < 256) (hx : r d = nI x) (hy : r s = nI y) (bx : x < 256) (bY : y < 256) (h2 : ¬ m % 2 = 0) (H : post (z, nI c, p, l, i, nI x, nI ((t + 1) % 256), h, w, r, e)) : wpX_doData post (z, nI c, p, l, i, o, nI t, h, w, r, e) (nI 15) (nI d) (nI s) (nI m) := by
  unfold wpX_doData
  dsimp only
  refine ⟨vp_in_nI hd (by decide), nm_r (e' := nI x) (by rw [nI_clamp (by omega), hx]) ⟨vp_in_nI hs (by decide), nm_r (e' := nI y) (by rw [nI_clamp (by omega), hy]) (nm_e ?_)⟩⟩
  exact br_f (by decide) (br_f (by decide) (br_f (by decide) (br_f (by decide) (br_f (by decide) (br_f (by decide) (br_f (by decide) (br_f (by decide) (br_f (by decide) (br_f (by decide) (br_f (by decide) (br_f (by decide) (br_f (by decide) (br_f (by decide) (br_f (by decide) (br_f (by decide) (br_t (by decide) (xk_portO hd hm ht hx h2 H)))))))))))))))))
