/-! one instruction: the class -/
theorem xw_0 {post : SX → Prop} {z c p l i o t : Nat} {w r e : Nat → Int32} {W x y : Nat} (hW : W < 65536) (hz : z ≤ 1) (hc : c ≤ 1) (hp : p < 32) (ht : t < 256) (hx : r (W / 16 % 4) = nI x) (hy : r (W / 64 % 4) = nI y) (bx : x < 256) (bY : y < 256) (hop : W % 16 = 0) (H : post (nI z, nI c, nI p, nI l, nI i, nI o, nI t, nI 1, w, r, e)) : wpX_doWord post (nI z, nI c, nI p, nI l, nI i, nI o, nI t, nI 0, w, r, e) (nI W) := by
  have hd : W / 16 % 4 < 4 := by omega
  have hs : W / 64 % 4 < 4 := by omega
  have hm : W / 256 < 256 := by omega
  unfold wpX_doWord
  dsimp only
  refine nm_r (e' := nI 0) (by rw [gd_op hW, hop]) (nm_r (gd_d hW) (nm_r (gd_s hW) (nm_r (gd_m hW) ?_)))
  rw [nI_1 p]
  refine xk_po (by omega) ?_
  try dsimp only
  exact br_t rfl H
theorem xw_12 {post : SX → Prop} {z c p l i o t : Nat} {w r e : Nat → Int32} {W x y : Nat} (hW : W < 65536) (hz : z ≤ 1) (hc : c ≤ 1) (hp : p < 32) (ht : t < 256) (hx : r (W / 16 % 4) = nI x) (hy : r (W / 64 % 4) = nI y) (bx : x < 256) (bY : y < 256) (hop : W % 16 = 12) (H : post (nI z, nI c, nI ((W / 256) % 32), nI l, nI i, nI o, nI t, nI 0, w, r, e)) : wpX_doWord post (nI z, nI c, nI p, nI l, nI i, nI o, nI t, nI 0, w, r, e) (nI W) := by
  have hd : W / 16 % 4 < 4 := by omega
  have hs : W / 64 % 4 < 4 := by omega
  have hm : W / 256 < 256 := by omega
  unfold wpX_doWord
  dsimp only
  refine nm_r (e' := nI 12) (by rw [gd_op hW, hop]) (nm_r (gd_d hW) (nm_r (gd_s hW) (nm_r (gd_m hW) ?_)))
  rw [nI_1 p]
  refine xk_po (by omega) ?_
  try dsimp only
  exact br_f (by decide) (br_t (by decide) (xk_po (by omega) H))
theorem xw_13 {post : SX → Prop} {z c p l i o t : Nat} {w r e : Nat → Int32} {W x y : Nat} (hW : W < 65536) (hz : z ≤ 1) (hc : c ≤ 1) (hp : p < 32) (ht : t < 256) (hx : r (W / 16 % 4) = nI x) (hy : r (W / 64 % 4) = nI y) (bx : x < 256) (bY : y < 256) (hop : W % 16 = 13) (H : post (nI z, nI c, nI (gn_br (W / 16 % 4) z c p (W / 256)), nI l, nI i, nI o, nI t, nI 0, w, r, e)) : wpX_doWord post (nI z, nI c, nI p, nI l, nI i, nI o, nI t, nI 0, w, r, e) (nI W) := by
  have hd : W / 16 % 4 < 4 := by omega
  have hs : W / 64 % 4 < 4 := by omega
  have hm : W / 256 < 256 := by omega
  unfold wpX_doWord
  dsimp only
  refine nm_r (e' := nI 13) (by rw [gd_op hW, hop]) (nm_r (gd_d hW) (nm_r (gd_s hW) (nm_r (gd_m hW) ?_)))
  rw [nI_1 p]
  refine xk_po (by omega) ?_
  try dsimp only
  refine br_f (by decide) (br_f (by decide) (br_t (by decide) (xk_br hd hz hc ?_)))
  try dsimp only
  by_cases hb : (if W / 16 % 4 < 2 then z else c) = 1 - W / 16 % 4 % 2
  · rw [if_pos hb]
    rw [show gn_br (W / 16 % 4) z c p (W / 256) = W / 256 % 32 from if_pos hb] at H
    exact br_f (by decide) (xk_po (by omega) H)
  · rw [if_neg hb]
    rw [show gn_br (W / 16 % 4) z c p (W / 256) = (p + 1) % 32 from if_neg hb] at H
    exact br_t rfl H
theorem xw_14L {post : SX → Prop} {z c p l i o t : Nat} {w r e : Nat → Int32} {W x y : Nat} (hW : W < 65536) (hz : z ≤ 1) (hc : c ≤ 1) (hp : p < 32) (ht : t < 256) (hx : r (W / 16 % 4) = nI x) (hy : r (W / 64 % 4) = nI y) (bx : x < 256) (bY : y < 256) (hop : W % 16 = 14) (h2 : (W / 256) < 128) (H : post (nI z, nI c, nI ((W / 256) % 32), nI ((p + 1) % 32), nI i, nI o, nI t, nI 0, w, r, e)) : wpX_doWord post (nI z, nI c, nI p, nI l, nI i, nI o, nI t, nI 0, w, r, e) (nI W) := by
  have hd : W / 16 % 4 < 4 := by omega
  have hs : W / 64 % 4 < 4 := by omega
  have hm : W / 256 < 256 := by omega
  unfold wpX_doWord
  dsimp only
  refine nm_r (e' := nI 14) (by rw [gd_op hW, hop]) (nm_r (gd_d hW) (nm_r (gd_s hW) (nm_r (gd_m hW) ?_)))
  rw [nI_1 p]
  refine xk_po (by omega) ?_
  try dsimp only
  exact br_f (by decide) (br_f (by decide) (br_f (by decide) (br_t (by decide) (xk_callL h2 H))))
theorem xw_14H {post : SX → Prop} {z c p l i o t : Nat} {w r e : Nat → Int32} {W x y : Nat} (hW : W < 65536) (hz : z ≤ 1) (hc : c ≤ 1) (hp : p < 32) (ht : t < 256) (hx : r (W / 16 % 4) = nI x) (hy : r (W / 64 % 4) = nI y) (bx : x < 256) (bY : y < 256) (hop : W % 16 = 14) (h2 : 128 ≤ (W / 256)) (H : post (nI z, nI c, nI l, nI l, nI i, nI o, nI t, nI 0, w, r, e)) : wpX_doWord post (nI z, nI c, nI p, nI l, nI i, nI o, nI t, nI 0, w, r, e) (nI W) := by
  have hd : W / 16 % 4 < 4 := by omega
  have hs : W / 64 % 4 < 4 := by omega
  have hm : W / 256 < 256 := by omega
  unfold wpX_doWord
  dsimp only
  refine nm_r (e' := nI 14) (by rw [gd_op hW, hop]) (nm_r (gd_d hW) (nm_r (gd_s hW) (nm_r (gd_m hW) ?_)))
  rw [nI_1 p]
  refine xk_po (by omega) ?_
  try dsimp only
  exact br_f (by decide) (br_f (by decide) (br_f (by decide) (br_t (by decide) (xk_callH h2 hm H))))
theorem xw_1 {post : SX → Prop} {z c p l i o t : Nat} {w r e : Nat → Int32} {W x y : Nat} (hW : W < 65536) (hz : z ≤ 1) (hc : c ≤ 1) (hp : p < 32) (ht : t < 256) (hx : r (W / 16 % 4) = nI x) (hy : r (W / 64 % 4) = nI y) (bx : x < 256) (bY : y < 256) (hop : W % 16 = 1) (H : post (nI z, nI c, nI ((p + 1) % 32), nI l, nI i, nI o, nI t, nI 0, w, upd r (W / 16 % 4) (nI (W / 256)), e)) : wpX_doWord post (nI z, nI c, nI p, nI l, nI i, nI o, nI t, nI 0, w, r, e) (nI W) := by
  have hd : W / 16 % 4 < 4 := by omega
  have hs : W / 64 % 4 < 4 := by omega
  have hm : W / 256 < 256 := by omega
  unfold wpX_doWord
  dsimp only
  refine nm_r (e' := nI 1) (by rw [gd_op hW, hop]) (nm_r (gd_d hW) (nm_r (gd_s hW) (nm_r (gd_m hW) ?_)))
  rw [nI_1 p]
  refine xk_po (by omega) ?_
  try dsimp only
  exact br_f (by decide) (br_f (by decide) (br_f (by decide) (br_f (by decide) (xd_1 hd hs hm hc ht hx hy bx bY H))))
theorem xw_2 {post : SX → Prop} {z c p l i o t : Nat} {w r e : Nat → Int32} {W x y : Nat} (hW : W < 65536) (hz : z ≤ 1) (hc : c ≤ 1) (hp : p < 32) (ht : t < 256) (hx : r (W / 16 % 4) = nI x) (hy : r (W / 64 % 4) = nI y) (bx : x < 256) (bY : y < 256) (hop : W % 16 = 2) (H : post (nI z, nI c, nI ((p + 1) % 32), nI l, nI i, nI o, nI t, nI 0, w, upd r (W / 16 % 4) (nI (gn_mov x y ((W / 256) % 4))), e)) : wpX_doWord post (nI z, nI c, nI p, nI l, nI i, nI o, nI t, nI 0, w, r, e) (nI W) := by
  have hd : W / 16 % 4 < 4 := by omega
  have hs : W / 64 % 4 < 4 := by omega
  have hm : W / 256 < 256 := by omega
  unfold wpX_doWord
  dsimp only
  refine nm_r (e' := nI 2) (by rw [gd_op hW, hop]) (nm_r (gd_d hW) (nm_r (gd_s hW) (nm_r (gd_m hW) ?_)))
  rw [nI_1 p]
  refine xk_po (by omega) ?_
  try dsimp only
  exact br_f (by decide) (br_f (by decide) (br_f (by decide) (br_f (by decide) (xd_2 hd hs hm hc ht hx hy bx bY H))))
theorem xw_3 {post : SX → Prop} {z c p l i o t : Nat} {w r e : Nat → Int32} {W x y : Nat} (hW : W < 65536) (hz : z ≤ 1) (hc : c ≤ 1) (hp : p < 32) (ht : t < 256) (hx : r (W / 16 % 4) = nI x) (hy : r (W / 64 % 4) = nI y) (bx : x < 256) (bY : y < 256) (hop : W % 16 = 3) (H : post (nI (gn_z ((x + y) % 256)), nI (gn_c (x + y)), nI ((p + 1) % 32), nI l, nI i, nI o, nI t, nI 0, w, upd r (W / 16 % 4) (nI ((x + y) % 256)), e)) : wpX_doWord post (nI z, nI c, nI p, nI l, nI i, nI o, nI t, nI 0, w, r, e) (nI W) := by
  have hd : W / 16 % 4 < 4 := by omega
  have hs : W / 64 % 4 < 4 := by omega
  have hm : W / 256 < 256 := by omega
  unfold wpX_doWord
  dsimp only
  refine nm_r (e' := nI 3) (by rw [gd_op hW, hop]) (nm_r (gd_d hW) (nm_r (gd_s hW) (nm_r (gd_m hW) ?_)))
  rw [nI_1 p]
  refine xk_po (by omega) ?_
  try dsimp only
  exact br_f (by decide) (br_f (by decide) (br_f (by decide) (br_f (by decide) (xd_3 hd hs hm hc ht hx hy bx bY H))))
theorem xw_4 {post : SX → Prop} {z c p l i o t : Nat} {w r e : Nat → Int32} {W x y : Nat} (hW : W < 65536) (hz : z ≤ 1) (hc : c ≤ 1) (hp : p < 32) (ht : t < 256) (hx : r (W / 16 % 4) = nI x) (hy : r (W / 64 % 4) = nI y) (bx : x < 256) (bY : y < 256) (hop : W % 16 = 4) (H : post (nI (gn_z ((x + y + c) % 256)), nI (gn_c (x + y + c)), nI ((p + 1) % 32), nI l, nI i, nI o, nI t, nI 0, w, upd r (W / 16 % 4) (nI ((x + y + c) % 256)), e)) : wpX_doWord post (nI z, nI c, nI p, nI l, nI i, nI o, nI t, nI 0, w, r, e) (nI W) := by
  have hd : W / 16 % 4 < 4 := by omega
  have hs : W / 64 % 4 < 4 := by omega
  have hm : W / 256 < 256 := by omega
  unfold wpX_doWord
  dsimp only
  refine nm_r (e' := nI 4) (by rw [gd_op hW, hop]) (nm_r (gd_d hW) (nm_r (gd_s hW) (nm_r (gd_m hW) ?_)))
  rw [nI_1 p]
  refine xk_po (by omega) ?_
  try dsimp only
  exact br_f (by decide) (br_f (by decide) (br_f (by decide) (br_f (by decide) (xd_4 hd hs hm hc ht hx hy bx bY H))))
theorem xw_5 {post : SX → Prop} {z c p l i o t : Nat} {w r e : Nat → Int32} {W x y : Nat} (hW : W < 65536) (hz : z ≤ 1) (hc : c ≤ 1) (hp : p < 32) (ht : t < 256) (hx : r (W / 16 % 4) = nI x) (hy : r (W / 64 % 4) = nI y) (bx : x < 256) (bY : y < 256) (hop : W % 16 = 5) (H : post (nI (gn_z ((x + 256 - y) % 256)), nI (gn_cs x y), nI ((p + 1) % 32), nI l, nI i, nI o, nI t, nI 0, w, upd r (W / 16 % 4) (nI ((x + 256 - y) % 256)), e)) : wpX_doWord post (nI z, nI c, nI p, nI l, nI i, nI o, nI t, nI 0, w, r, e) (nI W) := by
  have hd : W / 16 % 4 < 4 := by omega
  have hs : W / 64 % 4 < 4 := by omega
  have hm : W / 256 < 256 := by omega
  unfold wpX_doWord
  dsimp only
  refine nm_r (e' := nI 5) (by rw [gd_op hW, hop]) (nm_r (gd_d hW) (nm_r (gd_s hW) (nm_r (gd_m hW) ?_)))
  rw [nI_1 p]
  refine xk_po (by omega) ?_
  try dsimp only
  exact br_f (by decide) (br_f (by decide) (br_f (by decide) (br_f (by decide) (xd_5 hd hs hm hc ht hx hy bx bY H))))
theorem xw_6 {post : SX → Prop} {z c p l i o t : Nat} {w r e : Nat → Int32} {W x y : Nat} (hW : W < 65536) (hz : z ≤ 1) (hc : c ≤ 1) (hp : p < 32) (ht : t < 256) (hx : r (W / 16 % 4) = nI x) (hy : r (W / 64 % 4) = nI y) (bx : x < 256) (bY : y < 256) (hop : W % 16 = 6) (H : post (nI (gn_z (x &&& y)), nI c, nI ((p + 1) % 32), nI l, nI i, nI o, nI t, nI 0, w, upd r (W / 16 % 4) (nI (x &&& y)), e)) : wpX_doWord post (nI z, nI c, nI p, nI l, nI i, nI o, nI t, nI 0, w, r, e) (nI W) := by
  have hd : W / 16 % 4 < 4 := by omega
  have hs : W / 64 % 4 < 4 := by omega
  have hm : W / 256 < 256 := by omega
  unfold wpX_doWord
  dsimp only
  refine nm_r (e' := nI 6) (by rw [gd_op hW, hop]) (nm_r (gd_d hW) (nm_r (gd_s hW) (nm_r (gd_m hW) ?_)))
  rw [nI_1 p]
  refine xk_po (by omega) ?_
  try dsimp only
  exact br_f (by decide) (br_f (by decide) (br_f (by decide) (br_f (by decide) (xd_6 hd hs hm hc ht hx hy bx bY H))))
theorem xw_7 {post : SX → Prop} {z c p l i o t : Nat} {w r e : Nat → Int32} {W x y : Nat} (hW : W < 65536) (hz : z ≤ 1) (hc : c ≤ 1) (hp : p < 32) (ht : t < 256) (hx : r (W / 16 % 4) = nI x) (hy : r (W / 64 % 4) = nI y) (bx : x < 256) (bY : y < 256) (hop : W % 16 = 7) (H : post (nI (gn_z (x ||| y)), nI c, nI ((p + 1) % 32), nI l, nI i, nI o, nI t, nI 0, w, upd r (W / 16 % 4) (nI (x ||| y)), e)) : wpX_doWord post (nI z, nI c, nI p, nI l, nI i, nI o, nI t, nI 0, w, r, e) (nI W) := by
  have hd : W / 16 % 4 < 4 := by omega
  have hs : W / 64 % 4 < 4 := by omega
  have hm : W / 256 < 256 := by omega
  unfold wpX_doWord
  dsimp only
  refine nm_r (e' := nI 7) (by rw [gd_op hW, hop]) (nm_r (gd_d hW) (nm_r (gd_s hW) (nm_r (gd_m hW) ?_)))
  rw [nI_1 p]
  refine xk_po (by omega) ?_
  try dsimp only
  exact br_f (by decide) (br_f (by decide) (br_f (by decide) (br_f (by decide) (xd_7 hd hs hm hc ht hx hy bx bY H))))
theorem xw_8 {post : SX → Prop} {z c p l i o t : Nat} {w r e : Nat → Int32} {W x y : Nat} (hW : W < 65536) (hz : z ≤ 1) (hc : c ≤ 1) (hp : p < 32) (ht : t < 256) (hx : r (W / 16 % 4) = nI x) (hy : r (W / 64 % 4) = nI y) (bx : x < 256) (bY : y < 256) (hop : W % 16 = 8) (H : post (nI (gn_z (x ^^^ y)), nI c, nI ((p + 1) % 32), nI l, nI i, nI o, nI t, nI 0, w, upd r (W / 16 % 4) (nI (x ^^^ y)), e)) : wpX_doWord post (nI z, nI c, nI p, nI l, nI i, nI o, nI t, nI 0, w, r, e) (nI W) := by
  have hd : W / 16 % 4 < 4 := by omega
  have hs : W / 64 % 4 < 4 := by omega
  have hm : W / 256 < 256 := by omega
  unfold wpX_doWord
  dsimp only
  refine nm_r (e' := nI 8) (by rw [gd_op hW, hop]) (nm_r (gd_d hW) (nm_r (gd_s hW) (nm_r (gd_m hW) ?_)))
  rw [nI_1 p]
  refine xk_po (by omega) ?_
  try dsimp only
  exact br_f (by decide) (br_f (by decide) (br_f (by decide) (br_f (by decide) (xd_8 hd hs hm hc ht hx hy bx bY H))))
theorem xw_9 {post : SX → Prop} {z c p l i o t : Nat} {w r e : Nat → Int32} {W x y : Nat} (hW : W < 65536) (hz : z ≤ 1) (hc : c ≤ 1) (hp : p < 32) (ht : t < 256) (hx : r (W / 16 % 4) = nI x) (hy : r (W / 64 % 4) = nI y) (bx : x < 256) (bY : y < 256) (hop : W % 16 = 9) (H : post (nI (gn_z (gn_sh x (W / 256) c)), nI (gn_sc x (W / 256)), nI ((p + 1) % 32), nI l, nI i, nI o, nI t, nI 0, w, upd r (W / 16 % 4) (nI (gn_sh x (W / 256) c)), e)) : wpX_doWord post (nI z, nI c, nI p, nI l, nI i, nI o, nI t, nI 0, w, r, e) (nI W) := by
  have hd : W / 16 % 4 < 4 := by omega
  have hs : W / 64 % 4 < 4 := by omega
  have hm : W / 256 < 256 := by omega
  unfold wpX_doWord
  dsimp only
  refine nm_r (e' := nI 9) (by rw [gd_op hW, hop]) (nm_r (gd_d hW) (nm_r (gd_s hW) (nm_r (gd_m hW) ?_)))
  rw [nI_1 p]
  refine xk_po (by omega) ?_
  try dsimp only
  exact br_f (by decide) (br_f (by decide) (br_f (by decide) (br_f (by decide) (xd_9 hd hs hm hc ht hx hy bx bY H))))
theorem xw_10 {post : SX → Prop} {z c p l i o t : Nat} {w r e : Nat → Int32} {W x y : Nat} (hW : W < 65536) (hz : z ≤ 1) (hc : c ≤ 1) (hp : p < 32) (ht : t < 256) (hx : r (W / 16 % 4) = nI x) (hy : r (W / 64 % 4) = nI y) (bx : x < 256) (bY : y < 256) (hop : W % 16 = 10) (H : post (nI z, nI c, nI ((p + 1) % 32), nI l, nI i, nI o, nI t, nI 0, w, upd r (W / 16 % 4) (e ((y + (W / 256)) % 16)), e)) : wpX_doWord post (nI z, nI c, nI p, nI l, nI i, nI o, nI t, nI 0, w, r, e) (nI W) := by
  have hd : W / 16 % 4 < 4 := by omega
  have hs : W / 64 % 4 < 4 := by omega
  have hm : W / 256 < 256 := by omega
  unfold wpX_doWord
  dsimp only
  refine nm_r (e' := nI 10) (by rw [gd_op hW, hop]) (nm_r (gd_d hW) (nm_r (gd_s hW) (nm_r (gd_m hW) ?_)))
  rw [nI_1 p]
  refine xk_po (by omega) ?_
  try dsimp only
  exact br_f (by decide) (br_f (by decide) (br_f (by decide) (br_f (by decide) (xd_10 hd hs hm hc ht hx hy bx bY H))))
theorem xw_11 {post : SX → Prop} {z c p l i o t : Nat} {w r e : Nat → Int32} {W x y : Nat} (hW : W < 65536) (hz : z ≤ 1) (hc : c ≤ 1) (hp : p < 32) (ht : t < 256) (hx : r (W / 16 % 4) = nI x) (hy : r (W / 64 % 4) = nI y) (bx : x < 256) (bY : y < 256) (hop : W % 16 = 11) (H : post (nI z, nI c, nI ((p + 1) % 32), nI l, nI i, nI o, nI t, nI 0, w, r, upd e ((y + (W / 256)) % 16) (nI x))) : wpX_doWord post (nI z, nI c, nI p, nI l, nI i, nI o, nI t, nI 0, w, r, e) (nI W) := by
  have hd : W / 16 % 4 < 4 := by omega
  have hs : W / 64 % 4 < 4 := by omega
  have hm : W / 256 < 256 := by omega
  unfold wpX_doWord
  dsimp only
  refine nm_r (e' := nI 11) (by rw [gd_op hW, hop]) (nm_r (gd_d hW) (nm_r (gd_s hW) (nm_r (gd_m hW) ?_)))
  rw [nI_1 p]
  refine xk_po (by omega) ?_
  try dsimp only
  exact br_f (by decide) (br_f (by decide) (br_f (by decide) (br_f (by decide) (xd_11 hd hs hm hc ht hx hy bx bY H))))
theorem xw_15i {post : SX → Prop} {z c p l i o t : Nat} {w r e : Nat → Int32} {W x y : Nat} (hW : W < 65536) (hz : z ≤ 1) (hc : c ≤ 1) (hp : p < 32) (ht : t < 256) (hx : r (W / 16 % 4) = nI x) (hy : r (W / 64 % 4) = nI y) (bx : x < 256) (bY : y < 256) (hop : W % 16 = 15) (h2 : (W / 256) % 2 = 0) (H : post (nI z, nI c, nI ((p + 1) % 32), nI l, nI i, nI o, nI t, nI 0, w, upd r (W / 16 % 4) (nI i), e)) : wpX_doWord post (nI z, nI c, nI p, nI l, nI i, nI o, nI t, nI 0, w, r, e) (nI W) := by
  have hd : W / 16 % 4 < 4 := by omega
  have hs : W / 64 % 4 < 4 := by omega
  have hm : W / 256 < 256 := by omega
  unfold wpX_doWord
  dsimp only
  refine nm_r (e' := nI 15) (by rw [gd_op hW, hop]) (nm_r (gd_d hW) (nm_r (gd_s hW) (nm_r (gd_m hW) ?_)))
  rw [nI_1 p]
  refine xk_po (by omega) ?_
  try dsimp only
  exact br_f (by decide) (br_f (by decide) (br_f (by decide) (br_f (by decide) (xd_15i hd hs hm hc ht hx hy bx bY h2 H))))
theorem xw_15o {post : SX → Prop} {z c p l i o t : Nat} {w r e : Nat → Int32} {W x y : Nat} (hW : W < 65536) (hz : z ≤ 1) (hc : c ≤ 1) (hp : p < 32) (ht : t < 256) (hx : r (W / 16 % 4) = nI x) (hy : r (W / 64 % 4) = nI y) (bx : x < 256) (bY : y < 256) (hop : W % 16 = 15) (h2 : ¬ (W / 256) % 2 = 0) (H : post (nI z, nI c, nI ((p + 1) % 32), nI l, nI i, nI x, nI ((t + 1) % 256), nI 0, w, r, e)) : wpX_doWord post (nI z, nI c, nI p, nI l, nI i, nI o, nI t, nI 0, w, r, e) (nI W) := by
  have hd : W / 16 % 4 < 4 := by omega
  have hs : W / 64 % 4 < 4 := by omega
  have hm : W / 256 < 256 := by omega
  unfold wpX_doWord
  dsimp only
  refine nm_r (e' := nI 15) (by rw [gd_op hW, hop]) (nm_r (gd_d hW) (nm_r (gd_s hW) (nm_r (gd_m hW) ?_)))
  rw [nI_1 p]
  refine xk_po (by omega) ?_
  try dsimp only
  exact br_f (by decide) (br_f (by decide) (br_f (by decide) (br_f (by decide) (xd_15o hd hs hm hc ht hx hy bx bY h2 H))))
/-! one instruction: the reference -/
theorem yw_0 {post : SY → Prop} {z c p l i o t : Nat} {w r e : Nat → Int32} {W x y : Nat} (hW : W < 65536) (hz : z ≤ 1) (hc : c ≤ 1) (hp : p < 32) (ht : t < 256) (hx : r (W / 16 % 4) = nI x) (hy : r (W / 64 % 4) = nI y) (bx : x < 256) (bY : y < 256) (hw : w p = nI W) (hop : W % 16 = 0) (H : post (nI z, nI c, nI p, nI l, nI i, nI o, nI t, nI 1, w, r, e)) : wpY_once post (nI z, nI c, nI p, nI l, nI i, nI o, nI t, nI 0, w, r, e) := by
  have hd : W / 16 % 4 < 4 := by omega
  have hs : W / 64 % 4 < 4 := by omega
  have hm : W / 256 < 256 := by omega
  unfold wpY_once
  dsimp only
  refine ⟨vp_in_nI hp (by decide), nm_r (e' := nI W) (by rw [nI_clamp (by omega), hw]) ⟨by decide, nm_r (e' := nI 0) (by rw [ge_rem 16 (by omega), hop]) ⟨by decide, by decide, nm_r (ge_d hW) ⟨by decide, by decide, nm_r (ge_s hW) ⟨by decide, nm_r (e' := nI (W / 256)) (ge_div 256 (by omega)) ?_⟩⟩⟩⟩⟩
  exact yf_0 hp hm (br_t (by decide) (br_f (by decide) (br_f (by decide) (br_t rfl H))))
theorem yw_12 {post : SY → Prop} {z c p l i o t : Nat} {w r e : Nat → Int32} {W x y : Nat} (hW : W < 65536) (hz : z ≤ 1) (hc : c ≤ 1) (hp : p < 32) (ht : t < 256) (hx : r (W / 16 % 4) = nI x) (hy : r (W / 64 % 4) = nI y) (bx : x < 256) (bY : y < 256) (hw : w p = nI W) (hop : W % 16 = 12) (H : post (nI z, nI c, nI ((W / 256) % 32), nI l, nI i, nI o, nI t, nI 0, w, r, e)) : wpY_once post (nI z, nI c, nI p, nI l, nI i, nI o, nI t, nI 0, w, r, e) := by
  have hd : W / 16 % 4 < 4 := by omega
  have hs : W / 64 % 4 < 4 := by omega
  have hm : W / 256 < 256 := by omega
  unfold wpY_once
  dsimp only
  refine ⟨vp_in_nI hp (by decide), nm_r (e' := nI W) (by rw [nI_clamp (by omega), hw]) ⟨by decide, nm_r (e' := nI 12) (by rw [ge_rem 16 (by omega), hop]) ⟨by decide, by decide, nm_r (ge_d hW) ⟨by decide, by decide, nm_r (ge_s hW) ⟨by decide, nm_r (e' := nI (W / 256)) (ge_div 256 (by omega)) ?_⟩⟩⟩⟩⟩
  exact yf_12 hp hm (br_f (by decide) (br_f (by decide) (br_f (by decide) (br_f (by decide) (br_f (by decide) (H))))))
theorem yw_13 {post : SY → Prop} {z c p l i o t : Nat} {w r e : Nat → Int32} {W x y : Nat} (hW : W < 65536) (hz : z ≤ 1) (hc : c ≤ 1) (hp : p < 32) (ht : t < 256) (hx : r (W / 16 % 4) = nI x) (hy : r (W / 64 % 4) = nI y) (bx : x < 256) (bY : y < 256) (hw : w p = nI W) (hop : W % 16 = 13) (H : post (nI z, nI c, nI (gn_br (W / 16 % 4) z c p (W / 256)), nI l, nI i, nI o, nI t, nI 0, w, r, e)) : wpY_once post (nI z, nI c, nI p, nI l, nI i, nI o, nI t, nI 0, w, r, e) := by
  have hd : W / 16 % 4 < 4 := by omega
  have hs : W / 64 % 4 < 4 := by omega
  have hm : W / 256 < 256 := by omega
  unfold wpY_once
  dsimp only
  refine ⟨vp_in_nI hp (by decide), nm_r (e' := nI W) (by rw [nI_clamp (by omega), hw]) ⟨by decide, nm_r (e' := nI 13) (by rw [ge_rem 16 (by omega), hop]) ⟨by decide, by decide, nm_r (ge_d hW) ⟨by decide, by decide, nm_r (ge_s hW) ⟨by decide, nm_r (e' := nI (W / 256)) (ge_div 256 (by omega)) ?_⟩⟩⟩⟩⟩
  exact yf_13 hp hm hd hz hc (br_f (by decide) (br_f (by decide) (br_f (by decide) (br_f (by decide) (br_f (by decide) (H))))))
theorem yw_14L {post : SY → Prop} {z c p l i o t : Nat} {w r e : Nat → Int32} {W x y : Nat} (hW : W < 65536) (hz : z ≤ 1) (hc : c ≤ 1) (hp : p < 32) (ht : t < 256) (hx : r (W / 16 % 4) = nI x) (hy : r (W / 64 % 4) = nI y) (bx : x < 256) (bY : y < 256) (hw : w p = nI W) (hop : W % 16 = 14) (h2 : (W / 256) < 128) (H : post (nI z, nI c, nI ((W / 256) % 32), nI ((p + 1) % 32), nI i, nI o, nI t, nI 0, w, r, e)) : wpY_once post (nI z, nI c, nI p, nI l, nI i, nI o, nI t, nI 0, w, r, e) := by
  have hd : W / 16 % 4 < 4 := by omega
  have hs : W / 64 % 4 < 4 := by omega
  have hm : W / 256 < 256 := by omega
  unfold wpY_once
  dsimp only
  refine ⟨vp_in_nI hp (by decide), nm_r (e' := nI W) (by rw [nI_clamp (by omega), hw]) ⟨by decide, nm_r (e' := nI 14) (by rw [ge_rem 16 (by omega), hop]) ⟨by decide, by decide, nm_r (ge_d hW) ⟨by decide, by decide, nm_r (ge_s hW) ⟨by decide, nm_r (e' := nI (W / 256)) (ge_div 256 (by omega)) ?_⟩⟩⟩⟩⟩
  refine yf_14L hp hm h2 (br_f (by decide) (br_f (by decide) (br_f (by decide) (br_t (by decide) (br_f (nI_ge (b := 128) h2 (by decide)) ⟨by decide, ?_⟩)))))
  rw [nI_1 p, ge_rem 32 (by omega)]
  exact br_f (by decide) H
theorem yw_14H {post : SY → Prop} {z c p l i o t : Nat} {w r e : Nat → Int32} {W x y : Nat} (hW : W < 65536) (hz : z ≤ 1) (hc : c ≤ 1) (hp : p < 32) (ht : t < 256) (hx : r (W / 16 % 4) = nI x) (hy : r (W / 64 % 4) = nI y) (bx : x < 256) (bY : y < 256) (hw : w p = nI W) (hop : W % 16 = 14) (h2 : 128 ≤ (W / 256)) (H : post (nI z, nI c, nI l, nI l, nI i, nI o, nI t, nI 0, w, r, e)) : wpY_once post (nI z, nI c, nI p, nI l, nI i, nI o, nI t, nI 0, w, r, e) := by
  have hd : W / 16 % 4 < 4 := by omega
  have hs : W / 64 % 4 < 4 := by omega
  have hm : W / 256 < 256 := by omega
  unfold wpY_once
  dsimp only
  refine ⟨vp_in_nI hp (by decide), nm_r (e' := nI W) (by rw [nI_clamp (by omega), hw]) ⟨by decide, nm_r (e' := nI 14) (by rw [ge_rem 16 (by omega), hop]) ⟨by decide, by decide, nm_r (ge_d hW) ⟨by decide, by decide, nm_r (ge_s hW) ⟨by decide, nm_r (e' := nI (W / 256)) (ge_div 256 (by omega)) ?_⟩⟩⟩⟩⟩
  exact yf_14H hp hm h2 (br_f (by decide) (br_f (by decide) (br_f (by decide) (br_t (by decide) (br_t (nI_le (a := 128) h2 (by omega)) (br_f (by decide) H))))))
theorem yw_1 {post : SY → Prop} {z c p l i o t : Nat} {w r e : Nat → Int32} {W x y : Nat} (hW : W < 65536) (hz : z ≤ 1) (hc : c ≤ 1) (hp : p < 32) (ht : t < 256) (hx : r (W / 16 % 4) = nI x) (hy : r (W / 64 % 4) = nI y) (bx : x < 256) (bY : y < 256) (hw : w p = nI W) (hop : W % 16 = 1) (H : post (nI z, nI c, nI ((p + 1) % 32), nI l, nI i, nI o, nI t, nI 0, w, upd r (W / 16 % 4) (nI (W / 256)), e)) : wpY_once post (nI z, nI c, nI p, nI l, nI i, nI o, nI t, nI 0, w, r, e) := by
  have hd : W / 16 % 4 < 4 := by omega
  have hs : W / 64 % 4 < 4 := by omega
  have hm : W / 256 < 256 := by omega
  unfold wpY_once
  dsimp only
  refine ⟨vp_in_nI hp (by decide), nm_r (e' := nI W) (by rw [nI_clamp (by omega), hw]) ⟨by decide, nm_r (e' := nI 1) (by rw [ge_rem 16 (by omega), hop]) ⟨by decide, by decide, nm_r (ge_d hW) ⟨by decide, by decide, nm_r (ge_s hW) ⟨by decide, nm_r (e' := nI (W / 256)) (ge_div 256 (by omega)) ?_⟩⟩⟩⟩⟩
  refine yf_n hp hm (op := 1) (by decide) (by decide) (by decide) (by decide) (by decide) (br_f (by decide) (br_t (by decide) ?_))
  refine yd_1 hd hs hm hc ht hx hy bx bY ?_
  exact br_f (by decide) (br_f (by decide) (H))
theorem yw_2 {post : SY → Prop} {z c p l i o t : Nat} {w r e : Nat → Int32} {W x y : Nat} (hW : W < 65536) (hz : z ≤ 1) (hc : c ≤ 1) (hp : p < 32) (ht : t < 256) (hx : r (W / 16 % 4) = nI x) (hy : r (W / 64 % 4) = nI y) (bx : x < 256) (bY : y < 256) (hw : w p = nI W) (hop : W % 16 = 2) (H : post (nI z, nI c, nI ((p + 1) % 32), nI l, nI i, nI o, nI t, nI 0, w, upd r (W / 16 % 4) (nI (gn_mov x y ((W / 256) % 4))), e)) : wpY_once post (nI z, nI c, nI p, nI l, nI i, nI o, nI t, nI 0, w, r, e) := by
  have hd : W / 16 % 4 < 4 := by omega
  have hs : W / 64 % 4 < 4 := by omega
  have hm : W / 256 < 256 := by omega
  unfold wpY_once
  dsimp only
  refine ⟨vp_in_nI hp (by decide), nm_r (e' := nI W) (by rw [nI_clamp (by omega), hw]) ⟨by decide, nm_r (e' := nI 2) (by rw [ge_rem 16 (by omega), hop]) ⟨by decide, by decide, nm_r (ge_d hW) ⟨by decide, by decide, nm_r (ge_s hW) ⟨by decide, nm_r (e' := nI (W / 256)) (ge_div 256 (by omega)) ?_⟩⟩⟩⟩⟩
  refine yf_n hp hm (op := 2) (by decide) (by decide) (by decide) (by decide) (by decide) (br_f (by decide) (br_t (by decide) ?_))
  refine yd_2 hd hs hm hc ht hx hy bx bY ?_
  exact br_f (by decide) (br_f (by decide) (H))
theorem yw_3 {post : SY → Prop} {z c p l i o t : Nat} {w r e : Nat → Int32} {W x y : Nat} (hW : W < 65536) (hz : z ≤ 1) (hc : c ≤ 1) (hp : p < 32) (ht : t < 256) (hx : r (W / 16 % 4) = nI x) (hy : r (W / 64 % 4) = nI y) (bx : x < 256) (bY : y < 256) (hw : w p = nI W) (hop : W % 16 = 3) (H : post (nI (gn_z ((x + y) % 256)), nI (gn_c (x + y)), nI ((p + 1) % 32), nI l, nI i, nI o, nI t, nI 0, w, upd r (W / 16 % 4) (nI ((x + y) % 256)), e)) : wpY_once post (nI z, nI c, nI p, nI l, nI i, nI o, nI t, nI 0, w, r, e) := by
  have hd : W / 16 % 4 < 4 := by omega
  have hs : W / 64 % 4 < 4 := by omega
  have hm : W / 256 < 256 := by omega
  unfold wpY_once
  dsimp only
  refine ⟨vp_in_nI hp (by decide), nm_r (e' := nI W) (by rw [nI_clamp (by omega), hw]) ⟨by decide, nm_r (e' := nI 3) (by rw [ge_rem 16 (by omega), hop]) ⟨by decide, by decide, nm_r (ge_d hW) ⟨by decide, by decide, nm_r (ge_s hW) ⟨by decide, nm_r (e' := nI (W / 256)) (ge_div 256 (by omega)) ?_⟩⟩⟩⟩⟩
  refine yf_n hp hm (op := 3) (by decide) (by decide) (by decide) (by decide) (by decide) (br_f (by decide) (br_t (by decide) ?_))
  refine yd_3 hd hs hm hc ht hx hy bx bY ?_
  exact br_f (by decide) (br_f (by decide) (H))
theorem yw_4 {post : SY → Prop} {z c p l i o t : Nat} {w r e : Nat → Int32} {W x y : Nat} (hW : W < 65536) (hz : z ≤ 1) (hc : c ≤ 1) (hp : p < 32) (ht : t < 256) (hx : r (W / 16 % 4) = nI x) (hy : r (W / 64 % 4) = nI y) (bx : x < 256) (bY : y < 256) (hw : w p = nI W) (hop : W % 16 = 4) (H : post (nI (gn_z ((x + y + c) % 256)), nI (gn_c (x + y + c)), nI ((p + 1) % 32), nI l, nI i, nI o, nI t, nI 0, w, upd r (W / 16 % 4) (nI ((x + y + c) % 256)), e)) : wpY_once post (nI z, nI c, nI p, nI l, nI i, nI o, nI t, nI 0, w, r, e) := by
  have hd : W / 16 % 4 < 4 := by omega
  have hs : W / 64 % 4 < 4 := by omega
  have hm : W / 256 < 256 := by omega
  unfold wpY_once
  dsimp only
  refine ⟨vp_in_nI hp (by decide), nm_r (e' := nI W) (by rw [nI_clamp (by omega), hw]) ⟨by decide, nm_r (e' := nI 4) (by rw [ge_rem 16 (by omega), hop]) ⟨by decide, by decide, nm_r (ge_d hW) ⟨by decide, by decide, nm_r (ge_s hW) ⟨by decide, nm_r (e' := nI (W / 256)) (ge_div 256 (by omega)) ?_⟩⟩⟩⟩⟩
  refine yf_n hp hm (op := 4) (by decide) (by decide) (by decide) (by decide) (by decide) (br_f (by decide) (br_t (by decide) ?_))
  refine yd_4 hd hs hm hc ht hx hy bx bY ?_
  exact br_f (by decide) (br_f (by decide) (H))
theorem yw_5 {post : SY → Prop} {z c p l i o t : Nat} {w r e : Nat → Int32} {W x y : Nat} (hW : W < 65536) (hz : z ≤ 1) (hc : c ≤ 1) (hp : p < 32) (ht : t < 256) (hx : r (W / 16 % 4) = nI x) (hy : r (W / 64 % 4) = nI y) (bx : x < 256) (bY : y < 256) (hw : w p = nI W) (hop : W % 16 = 5) (H : post (nI (gn_z ((x + 256 - y) % 256)), nI (gn_cs x y), nI ((p + 1) % 32), nI l, nI i, nI o, nI t, nI 0, w, upd r (W / 16 % 4) (nI ((x + 256 - y) % 256)), e)) : wpY_once post (nI z, nI c, nI p, nI l, nI i, nI o, nI t, nI 0, w, r, e) := by
  have hd : W / 16 % 4 < 4 := by omega
  have hs : W / 64 % 4 < 4 := by omega
  have hm : W / 256 < 256 := by omega
  unfold wpY_once
  dsimp only
  refine ⟨vp_in_nI hp (by decide), nm_r (e' := nI W) (by rw [nI_clamp (by omega), hw]) ⟨by decide, nm_r (e' := nI 5) (by rw [ge_rem 16 (by omega), hop]) ⟨by decide, by decide, nm_r (ge_d hW) ⟨by decide, by decide, nm_r (ge_s hW) ⟨by decide, nm_r (e' := nI (W / 256)) (ge_div 256 (by omega)) ?_⟩⟩⟩⟩⟩
  refine yf_n hp hm (op := 5) (by decide) (by decide) (by decide) (by decide) (by decide) (br_f (by decide) (br_t (by decide) ?_))
  refine yd_5 hd hs hm hc ht hx hy bx bY ?_
  exact br_f (by decide) (br_f (by decide) (H))
theorem yw_6 {post : SY → Prop} {z c p l i o t : Nat} {w r e : Nat → Int32} {W x y : Nat} (hW : W < 65536) (hz : z ≤ 1) (hc : c ≤ 1) (hp : p < 32) (ht : t < 256) (hx : r (W / 16 % 4) = nI x) (hy : r (W / 64 % 4) = nI y) (bx : x < 256) (bY : y < 256) (hw : w p = nI W) (hop : W % 16 = 6) (H : post (nI (gn_z (x &&& y)), nI c, nI ((p + 1) % 32), nI l, nI i, nI o, nI t, nI 0, w, upd r (W / 16 % 4) (nI (x &&& y)), e)) : wpY_once post (nI z, nI c, nI p, nI l, nI i, nI o, nI t, nI 0, w, r, e) := by
  have hd : W / 16 % 4 < 4 := by omega
  have hs : W / 64 % 4 < 4 := by omega
  have hm : W / 256 < 256 := by omega
  unfold wpY_once
  dsimp only
  refine ⟨vp_in_nI hp (by decide), nm_r (e' := nI W) (by rw [nI_clamp (by omega), hw]) ⟨by decide, nm_r (e' := nI 6) (by rw [ge_rem 16 (by omega), hop]) ⟨by decide, by decide, nm_r (ge_d hW) ⟨by decide, by decide, nm_r (ge_s hW) ⟨by decide, nm_r (e' := nI (W / 256)) (ge_div 256 (by omega)) ?_⟩⟩⟩⟩⟩
  refine yf_n hp hm (op := 6) (by decide) (by decide) (by decide) (by decide) (by decide) (br_f (by decide) (br_t (by decide) ?_))
  refine yd_6 hd hs hm hc ht hx hy bx bY ?_
  exact br_f (by decide) (br_f (by decide) (H))
theorem yw_7 {post : SY → Prop} {z c p l i o t : Nat} {w r e : Nat → Int32} {W x y : Nat} (hW : W < 65536) (hz : z ≤ 1) (hc : c ≤ 1) (hp : p < 32) (ht : t < 256) (hx : r (W / 16 % 4) = nI x) (hy : r (W / 64 % 4) = nI y) (bx : x < 256) (bY : y < 256) (hw : w p = nI W) (hop : W % 16 = 7) (H : post (nI (gn_z (x ||| y)), nI c, nI ((p + 1) % 32), nI l, nI i, nI o, nI t, nI 0, w, upd r (W / 16 % 4) (nI (x ||| y)), e)) : wpY_once post (nI z, nI c, nI p, nI l, nI i, nI o, nI t, nI 0, w, r, e) := by
  have hd : W / 16 % 4 < 4 := by omega
  have hs : W / 64 % 4 < 4 := by omega
  have hm : W / 256 < 256 := by omega
  unfold wpY_once
  dsimp only
  refine ⟨vp_in_nI hp (by decide), nm_r (e' := nI W) (by rw [nI_clamp (by omega), hw]) ⟨by decide, nm_r (e' := nI 7) (by rw [ge_rem 16 (by omega), hop]) ⟨by decide, by decide, nm_r (ge_d hW) ⟨by decide, by decide, nm_r (ge_s hW) ⟨by decide, nm_r (e' := nI (W / 256)) (ge_div 256 (by omega)) ?_⟩⟩⟩⟩⟩
  refine yf_n hp hm (op := 7) (by decide) (by decide) (by decide) (by decide) (by decide) (br_f (by decide) (br_t (by decide) ?_))
  refine yd_7 hd hs hm hc ht hx hy bx bY ?_
  exact br_f (by decide) (br_f (by decide) (H))
theorem yw_8 {post : SY → Prop} {z c p l i o t : Nat} {w r e : Nat → Int32} {W x y : Nat} (hW : W < 65536) (hz : z ≤ 1) (hc : c ≤ 1) (hp : p < 32) (ht : t < 256) (hx : r (W / 16 % 4) = nI x) (hy : r (W / 64 % 4) = nI y) (bx : x < 256) (bY : y < 256) (hw : w p = nI W) (hop : W % 16 = 8) (H : post (nI (gn_z (x ^^^ y)), nI c, nI ((p + 1) % 32), nI l, nI i, nI o, nI t, nI 0, w, upd r (W / 16 % 4) (nI (x ^^^ y)), e)) : wpY_once post (nI z, nI c, nI p, nI l, nI i, nI o, nI t, nI 0, w, r, e) := by
  have hd : W / 16 % 4 < 4 := by omega
  have hs : W / 64 % 4 < 4 := by omega
  have hm : W / 256 < 256 := by omega
  unfold wpY_once
  dsimp only
  refine ⟨vp_in_nI hp (by decide), nm_r (e' := nI W) (by rw [nI_clamp (by omega), hw]) ⟨by decide, nm_r (e' := nI 8) (by rw [ge_rem 16 (by omega), hop]) ⟨by decide, by decide, nm_r (ge_d hW) ⟨by decide, by decide, nm_r (ge_s hW) ⟨by decide, nm_r (e' := nI (W / 256)) (ge_div 256 (by omega)) ?_⟩⟩⟩⟩⟩
  refine yf_n hp hm (op := 8) (by decide) (by decide) (by decide) (by decide) (by decide) (br_f (by decide) (br_t (by decide) ?_))
  refine yd_8 hd hs hm hc ht hx hy bx bY ?_
  exact br_f (by decide) (br_f (by decide) (H))
theorem yw_9 {post : SY → Prop} {z c p l i o t : Nat} {w r e : Nat → Int32} {W x y : Nat} (hW : W < 65536) (hz : z ≤ 1) (hc : c ≤ 1) (hp : p < 32) (ht : t < 256) (hx : r (W / 16 % 4) = nI x) (hy : r (W / 64 % 4) = nI y) (bx : x < 256) (bY : y < 256) (hw : w p = nI W) (hop : W % 16 = 9) (H : post (nI (gn_z (gn_sh x (W / 256) c)), nI (gn_sc x (W / 256)), nI ((p + 1) % 32), nI l, nI i, nI o, nI t, nI 0, w, upd r (W / 16 % 4) (nI (gn_sh x (W / 256) c)), e)) : wpY_once post (nI z, nI c, nI p, nI l, nI i, nI o, nI t, nI 0, w, r, e) := by
  have hd : W / 16 % 4 < 4 := by omega
  have hs : W / 64 % 4 < 4 := by omega
  have hm : W / 256 < 256 := by omega
  unfold wpY_once
  dsimp only
  refine ⟨vp_in_nI hp (by decide), nm_r (e' := nI W) (by rw [nI_clamp (by omega), hw]) ⟨by decide, nm_r (e' := nI 9) (by rw [ge_rem 16 (by omega), hop]) ⟨by decide, by decide, nm_r (ge_d hW) ⟨by decide, by decide, nm_r (ge_s hW) ⟨by decide, nm_r (e' := nI (W / 256)) (ge_div 256 (by omega)) ?_⟩⟩⟩⟩⟩
  refine yf_n hp hm (op := 9) (by decide) (by decide) (by decide) (by decide) (by decide) (br_f (by decide) (br_t (by decide) ?_))
  refine yd_9 hd hs hm hc ht hx hy bx bY ?_
  exact br_f (by decide) (br_f (by decide) (H))
theorem yw_10 {post : SY → Prop} {z c p l i o t : Nat} {w r e : Nat → Int32} {W x y : Nat} (hW : W < 65536) (hz : z ≤ 1) (hc : c ≤ 1) (hp : p < 32) (ht : t < 256) (hx : r (W / 16 % 4) = nI x) (hy : r (W / 64 % 4) = nI y) (bx : x < 256) (bY : y < 256) (hw : w p = nI W) (hop : W % 16 = 10) (H : post (nI z, nI c, nI ((p + 1) % 32), nI l, nI i, nI o, nI t, nI 0, w, upd r (W / 16 % 4) (e ((y + (W / 256)) % 16)), e)) : wpY_once post (nI z, nI c, nI p, nI l, nI i, nI o, nI t, nI 0, w, r, e) := by
  have hd : W / 16 % 4 < 4 := by omega
  have hs : W / 64 % 4 < 4 := by omega
  have hm : W / 256 < 256 := by omega
  unfold wpY_once
  dsimp only
  refine ⟨vp_in_nI hp (by decide), nm_r (e' := nI W) (by rw [nI_clamp (by omega), hw]) ⟨by decide, nm_r (e' := nI 10) (by rw [ge_rem 16 (by omega), hop]) ⟨by decide, by decide, nm_r (ge_d hW) ⟨by decide, by decide, nm_r (ge_s hW) ⟨by decide, nm_r (e' := nI (W / 256)) (ge_div 256 (by omega)) ?_⟩⟩⟩⟩⟩
  refine yf_n hp hm (op := 10) (by decide) (by decide) (by decide) (by decide) (by decide) (br_f (by decide) (br_t (by decide) ?_))
  refine yd_10 hd hs hm hc ht hx hy bx bY ?_
  exact br_f (by decide) (br_f (by decide) (H))
theorem yw_11 {post : SY → Prop} {z c p l i o t : Nat} {w r e : Nat → Int32} {W x y : Nat} (hW : W < 65536) (hz : z ≤ 1) (hc : c ≤ 1) (hp : p < 32) (ht : t < 256) (hx : r (W / 16 % 4) = nI x) (hy : r (W / 64 % 4) = nI y) (bx : x < 256) (bY : y < 256) (hw : w p = nI W) (hop : W % 16 = 11) (H : post (nI z, nI c, nI ((p + 1) % 32), nI l, nI i, nI o, nI t, nI 0, w, r, upd e ((y + (W / 256)) % 16) (nI x))) : wpY_once post (nI z, nI c, nI p, nI l, nI i, nI o, nI t, nI 0, w, r, e) := by
  have hd : W / 16 % 4 < 4 := by omega
  have hs : W / 64 % 4 < 4 := by omega
  have hm : W / 256 < 256 := by omega
  unfold wpY_once
  dsimp only
  refine ⟨vp_in_nI hp (by decide), nm_r (e' := nI W) (by rw [nI_clamp (by omega), hw]) ⟨by decide, nm_r (e' := nI 11) (by rw [ge_rem 16 (by omega), hop]) ⟨by decide, by decide, nm_r (ge_d hW) ⟨by decide, by decide, nm_r (ge_s hW) ⟨by decide, nm_r (e' := nI (W / 256)) (ge_div 256 (by omega)) ?_⟩⟩⟩⟩⟩
  refine yf_n hp hm (op := 11) (by decide) (by decide) (by decide) (by decide) (by decide) (br_f (by decide) (br_t (by decide) ?_))
  refine yd_11 hd hs hm hc ht hx hy bx bY ?_
  exact br_f (by decide) (br_f (by decide) (H))
theorem yw_15i {post : SY → Prop} {z c p l i o t : Nat} {w r e : Nat → Int32} {W x y : Nat} (hW : W < 65536) (hz : z ≤ 1) (hc : c ≤ 1) (hp : p < 32) (ht : t < 256) (hx : r (W / 16 % 4) = nI x) (hy : r (W / 64 % 4) = nI y) (bx : x < 256) (bY : y < 256) (hw : w p = nI W) (hop : W % 16 = 15) (h2 : (W / 256) % 2 = 0) (H : post (nI z, nI c, nI ((p + 1) % 32), nI l, nI i, nI o, nI t, nI 0, w, upd r (W / 16 % 4) (nI i), e)) : wpY_once post (nI z, nI c, nI p, nI l, nI i, nI o, nI t, nI 0, w, r, e) := by
  have hd : W / 16 % 4 < 4 := by omega
  have hs : W / 64 % 4 < 4 := by omega
  have hm : W / 256 < 256 := by omega
  unfold wpY_once
  dsimp only
  refine ⟨vp_in_nI hp (by decide), nm_r (e' := nI W) (by rw [nI_clamp (by omega), hw]) ⟨by decide, nm_r (e' := nI 15) (by rw [ge_rem 16 (by omega), hop]) ⟨by decide, by decide, nm_r (ge_d hW) ⟨by decide, by decide, nm_r (ge_s hW) ⟨by decide, nm_r (e' := nI (W / 256)) (ge_div 256 (by omega)) ?_⟩⟩⟩⟩⟩
  refine yf_n hp hm (op := 15) (by decide) (by decide) (by decide) (by decide) (by decide) (br_f (by decide) (br_f (by decide) (br_t (by decide) ?_)))
  refine yd_15i hd hs hm hc ht hx hy bx bY h2 ?_
  exact br_f (by decide) (br_f (by decide) (H))
theorem yw_15o {post : SY → Prop} {z c p l i o t : Nat} {w r e : Nat → Int32} {W x y : Nat} (hW : W < 65536) (hz : z ≤ 1) (hc : c ≤ 1) (hp : p < 32) (ht : t < 256) (hx : r (W / 16 % 4) = nI x) (hy : r (W / 64 % 4) = nI y) (bx : x < 256) (bY : y < 256) (hw : w p = nI W) (hop : W % 16 = 15) (h2 : ¬ (W / 256) % 2 = 0) (H : post (nI z, nI c, nI ((p + 1) % 32), nI l, nI i, nI x, nI ((t + 1) % 256), nI 0, w, r, e)) : wpY_once post (nI z, nI c, nI p, nI l, nI i, nI o, nI t, nI 0, w, r, e) := by
  have hd : W / 16 % 4 < 4 := by omega
  have hs : W / 64 % 4 < 4 := by omega
  have hm : W / 256 < 256 := by omega
  unfold wpY_once
  dsimp only
  refine ⟨vp_in_nI hp (by decide), nm_r (e' := nI W) (by rw [nI_clamp (by omega), hw]) ⟨by decide, nm_r (e' := nI 15) (by rw [ge_rem 16 (by omega), hop]) ⟨by decide, by decide, nm_r (ge_d hW) ⟨by decide, by decide, nm_r (ge_s hW) ⟨by decide, nm_r (e' := nI (W / 256)) (ge_div 256 (by omega)) ?_⟩⟩⟩⟩⟩
  refine yf_n hp hm (op := 15) (by decide) (by decide) (by decide) (by decide) (by decide) (br_f (by decide) (br_f (by decide) (br_t (by decide) ?_)))
  refine yd_15o hd hs hm hc ht hx hy bx bY h2 ?_
  exact br_f (by decide) (br_f (by decide) (H))
