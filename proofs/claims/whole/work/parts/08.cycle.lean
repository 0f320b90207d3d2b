/-! the states that both sides hold, and one instruction from such a state -/
def gk_B (z c p l i o t h : Nat) (w r e : Nat → Int32) : Prop := z ≤ 1 ∧ c ≤ 1 ∧ p < 32 ∧ l < 32 ∧ i < 256 ∧ o < 256 ∧ t < 256 ∧ h ≤ 1 ∧ gk_A 65536 32 w ∧ gk_A 256 4 r ∧ gk_A 256 16 e
def gk_Ok (u : SX) : Prop := ∃ (z c p l i o t h : Nat) (w r e : Nat → Int32), gk_B z c p l i o t h w r e ∧ u = (nI z, nI c, nI p, nI l, nI i, nI o, nI t, nI h, w, r, e)
theorem gk_ok {z c p l i o t h : Nat} {w r e : Nat → Int32} (B : gk_B z c p l i o t h w r e) : gk_Ok (nI z, nI c, nI p, nI l, nI i, nI o, nI t, nI h, w, r, e) := ⟨z, c, p, l, i, o, t, h, w, r, e, B, rfl⟩
theorem gk_mk {z c p l i o t h : Nat} {w r e : Nat → Int32} (hz : z ≤ 1) (hc : c ≤ 1) (hp : p < 32) (hl : l < 32) (hi : i < 256) (ho : o < 256) (ht : t < 256) (hh : h ≤ 1) (hw : gk_A 65536 32 w) (hr : gk_A 256 4 r) (he : gk_A 256 16 e) : gk_Ok (nI z, nI c, nI p, nI l, nI i, nI o, nI t, nI h, w, r, e) := gk_ok ⟨hz, hc, hp, hl, hi, ho, ht, hh, hw, hr, he⟩
theorem gs_once {z c p l i o t : Nat} {w r e : Nat → Int32} (B : gk_B z c p l i o t 0 w r e) : ∃ u' : SX, gk_Ok u' ∧ (∀ post : SX → Prop, post u' → wpX_doWord post (nI z, nI c, nI p, nI l, nI i, nI o, nI t, nI 0, w, r, e) (w p)) ∧ (∀ post : SY → Prop, post u' → wpY_once post (nI z, nI c, nI p, nI l, nI i, nI o, nI t, nI 0, w, r, e)) := by
  obtain ⟨hz, hc, hp, hl, hi, ho, ht, hh, hw, hr, he⟩ := B
  obtain ⟨W, hW, eW⟩ := hw p hp
  have hm : W / 256 < 256 := by omega
  obtain ⟨x, bx, hx⟩ := hr (W / 16 % 4) (by omega)
  obtain ⟨y, bY, hy⟩ := hr (W / 64 % 4) (by omega)
  obtain ⟨q, bq, eq⟩ := he ((y + W / 256) % 16) (by omega)
  have o16 : W % 16 = 0 ∨ W % 16 = 1 ∨ W % 16 = 2 ∨ W % 16 = 3 ∨ W % 16 = 4 ∨ W % 16 = 5 ∨ W % 16 = 6 ∨ W % 16 = 7 ∨ W % 16 = 8 ∨ W % 16 = 9 ∨ W % 16 = 10 ∨ W % 16 = 11 ∨ W % 16 = 12 ∨ W % 16 = 13 ∨ W % 16 = 14 ∨ W % 16 = 15 := by omega
  rw [eW]
  rcases o16 with hop | hop | hop | hop | hop | hop | hop | hop | hop | hop | hop | hop | hop | hop | hop | hop
  · skip
    exact ⟨(nI z, nI c, nI p, nI l, nI i, nI o, nI t, nI 1, w, r, e), gk_mk hz hc hp hl hi ho ht (by decide) hw hr he, fun _ H => xw_0 hW hz hc hp ht hx hy bx bY hop H, fun _ H => yw_0 hW hz hc hp ht hx hy bx bY eW hop H⟩
  · skip
    exact ⟨(nI z, nI c, nI ((p + 1) % 32), nI l, nI i, nI o, nI t, nI 0, w, upd r (W / 16 % 4) (nI (W / 256)), e), gk_mk hz hc (by omega) hl hi ho ht (by decide) hw (gk_upd hr hm) he, fun _ H => xw_1 hW hz hc hp ht hx hy bx bY hop H, fun _ H => yw_1 hW hz hc hp ht hx hy bx bY eW hop H⟩
  · skip
    exact ⟨(nI z, nI c, nI ((p + 1) % 32), nI l, nI i, nI o, nI t, nI 0, w, upd r (W / 16 % 4) (nI (gn_mov x y ((W / 256) % 4))), e), gk_mk hz hc (by omega) hl hi ho ht (by decide) hw (gk_upd hr (gn_mov_b bx bY)) he, fun _ H => xw_2 hW hz hc hp ht hx hy bx bY hop H, fun _ H => yw_2 hW hz hc hp ht hx hy bx bY eW hop H⟩
  · skip
    exact ⟨(nI (gn_z ((x + y) % 256)), nI (gn_c (x + y)), nI ((p + 1) % 32), nI l, nI i, nI o, nI t, nI 0, w, upd r (W / 16 % 4) (nI ((x + y) % 256)), e), gk_mk (gn_z_b _) (gn_c_b _) (by omega) hl hi ho ht (by decide) hw (gk_upd hr (by omega)) he, fun _ H => xw_3 hW hz hc hp ht hx hy bx bY hop H, fun _ H => yw_3 hW hz hc hp ht hx hy bx bY eW hop H⟩
  · skip
    exact ⟨(nI (gn_z ((x + y + c) % 256)), nI (gn_c (x + y + c)), nI ((p + 1) % 32), nI l, nI i, nI o, nI t, nI 0, w, upd r (W / 16 % 4) (nI ((x + y + c) % 256)), e), gk_mk (gn_z_b _) (gn_c_b _) (by omega) hl hi ho ht (by decide) hw (gk_upd hr (by omega)) he, fun _ H => xw_4 hW hz hc hp ht hx hy bx bY hop H, fun _ H => yw_4 hW hz hc hp ht hx hy bx bY eW hop H⟩
  · skip
    exact ⟨(nI (gn_z ((x + 256 - y) % 256)), nI (gn_cs x y), nI ((p + 1) % 32), nI l, nI i, nI o, nI t, nI 0, w, upd r (W / 16 % 4) (nI ((x + 256 - y) % 256)), e), gk_mk (gn_z_b _) (gn_cs_b _ _) (by omega) hl hi ho ht (by decide) hw (gk_upd hr (by omega)) he, fun _ H => xw_5 hW hz hc hp ht hx hy bx bY hop H, fun _ H => yw_5 hW hz hc hp ht hx hy bx bY eW hop H⟩
  · skip
    exact ⟨(nI (gn_z (x &&& y)), nI c, nI ((p + 1) % 32), nI l, nI i, nI o, nI t, nI 0, w, upd r (W / 16 % 4) (nI (x &&& y)), e), gk_mk (gn_z_b _) hc (by omega) hl hi ho ht (by decide) hw (gk_upd hr (gn_and bx)) he, fun _ H => xw_6 hW hz hc hp ht hx hy bx bY hop H, fun _ H => yw_6 hW hz hc hp ht hx hy bx bY eW hop H⟩
  · skip
    exact ⟨(nI (gn_z (x ||| y)), nI c, nI ((p + 1) % 32), nI l, nI i, nI o, nI t, nI 0, w, upd r (W / 16 % 4) (nI (x ||| y)), e), gk_mk (gn_z_b _) hc (by omega) hl hi ho ht (by decide) hw (gk_upd hr (gn_or bx bY)) he, fun _ H => xw_7 hW hz hc hp ht hx hy bx bY hop H, fun _ H => yw_7 hW hz hc hp ht hx hy bx bY eW hop H⟩
  · skip
    exact ⟨(nI (gn_z (x ^^^ y)), nI c, nI ((p + 1) % 32), nI l, nI i, nI o, nI t, nI 0, w, upd r (W / 16 % 4) (nI (x ^^^ y)), e), gk_mk (gn_z_b _) hc (by omega) hl hi ho ht (by decide) hw (gk_upd hr (gn_xor bx bY)) he, fun _ H => xw_8 hW hz hc hp ht hx hy bx bY hop H, fun _ H => yw_8 hW hz hc hp ht hx hy bx bY eW hop H⟩
  · skip
    exact ⟨(nI (gn_z (gn_sh x (W / 256) c)), nI (gn_sc x (W / 256)), nI ((p + 1) % 32), nI l, nI i, nI o, nI t, nI 0, w, upd r (W / 16 % 4) (nI (gn_sh x (W / 256) c)), e), gk_mk (gn_z_b _) (gn_sc_b bx) (by omega) hl hi ho ht (by decide) hw (gk_upd hr (gn_sh_b bx hc)) he, fun _ H => xw_9 hW hz hc hp ht hx hy bx bY hop H, fun _ H => yw_9 hW hz hc hp ht hx hy bx bY eW hop H⟩
  · skip
    exact ⟨(nI z, nI c, nI ((p + 1) % 32), nI l, nI i, nI o, nI t, nI 0, w, upd r (W / 16 % 4) (e ((y + (W / 256)) % 16)), e), gk_mk hz hc (by omega) hl hi ho ht (by decide) hw (by rw [eq]; exact gk_upd hr bq) he, fun _ H => xw_10 hW hz hc hp ht hx hy bx bY hop H, fun _ H => yw_10 hW hz hc hp ht hx hy bx bY eW hop H⟩
  · skip
    exact ⟨(nI z, nI c, nI ((p + 1) % 32), nI l, nI i, nI o, nI t, nI 0, w, r, upd e ((y + (W / 256)) % 16) (nI x)), gk_mk hz hc (by omega) hl hi ho ht (by decide) hw hr (gk_upd he bx), fun _ H => xw_11 hW hz hc hp ht hx hy bx bY hop H, fun _ H => yw_11 hW hz hc hp ht hx hy bx bY eW hop H⟩
  · skip
    exact ⟨(nI z, nI c, nI ((W / 256) % 32), nI l, nI i, nI o, nI t, nI 0, w, r, e), gk_mk hz hc (by omega) hl hi ho ht (by decide) hw hr he, fun _ H => xw_12 hW hz hc hp ht hx hy bx bY hop H, fun _ H => yw_12 hW hz hc hp ht hx hy bx bY eW hop H⟩
  · skip
    exact ⟨(nI z, nI c, nI (gn_br (W / 16 % 4) z c p (W / 256)), nI l, nI i, nI o, nI t, nI 0, w, r, e), gk_mk hz hc gn_br_b hl hi ho ht (by decide) hw hr he, fun _ H => xw_13 hW hz hc hp ht hx hy bx bY hop H, fun _ H => yw_13 hW hz hc hp ht hx hy bx bY eW hop H⟩
  · by_cases h2 : W / 256 < 128
    · skip
      exact ⟨(nI z, nI c, nI ((W / 256) % 32), nI ((p + 1) % 32), nI i, nI o, nI t, nI 0, w, r, e), gk_mk hz hc (by omega) (by omega) hi ho ht (by decide) hw hr he, fun _ H => xw_14L hW hz hc hp ht hx hy bx bY hop h2 H, fun _ H => yw_14L hW hz hc hp ht hx hy bx bY eW hop h2 H⟩
    · have h2 : 128 ≤ W / 256 := by omega
      exact ⟨(nI z, nI c, nI l, nI l, nI i, nI o, nI t, nI 0, w, r, e), gk_mk hz hc hl hl hi ho ht (by decide) hw hr he, fun _ H => xw_14H hW hz hc hp ht hx hy bx bY hop h2 H, fun _ H => yw_14H hW hz hc hp ht hx hy bx bY eW hop h2 H⟩
  · by_cases h2 : W / 256 % 2 = 0
    · skip
      exact ⟨(nI z, nI c, nI ((p + 1) % 32), nI l, nI i, nI o, nI t, nI 0, w, upd r (W / 16 % 4) (nI i), e), gk_mk hz hc (by omega) hl hi ho ht (by decide) hw (gk_upd hr hi) he, fun _ H => xw_15i hW hz hc hp ht hx hy bx bY hop h2 H, fun _ H => yw_15i hW hz hc hp ht hx hy bx bY eW hop h2 H⟩
    · skip
      exact ⟨(nI z, nI c, nI ((p + 1) % 32), nI l, nI i, nI x, nI ((t + 1) % 256), nI 0, w, r, e), gk_mk hz hc (by omega) hl hi bx (by omega) (by decide) hw hr he, fun _ H => xw_15o hW hz hc hp ht hx hy bx bY hop h2 H, fun _ H => yw_15o hW hz hc hp ht hx hy bx bY eW hop h2 H⟩
/-! cycle: both loops in lockstep -/
theorem gs_cyc (n M : Int32) (h60 : M ≤ 60) (hM : ∀ j : Nat, j < 60 → (n ≤ nI j ↔ M ≤ nI j)) : ∀ d j : Nat, j + d = 60 → ∀ {z c p l i o t h : Nat} {w r e : Nat → Int32}, gk_B z c p l i o t h w r e → ∃ (q : Int32) (u' : SX), gk_Ok u' ∧ (∀ post : Int32 → SX → Prop, post q u' → wX_cycle_16 post n (d + 1) (nI j) (nI j) (nI z) (nI c) (nI p) (nI l) (nI i) (nI o) (nI t) (nI h) w r e) ∧ (∀ post : Int32 → SY → Prop, post q u' → wY_cycle_27 post M (d + 1) (nI j) (nI z) (nI c) (nI p) (nI l) (nI i) (nI o) (nI t) (nI h) w r e) := by
  intro d
  induction d with
  | zero =>
    intro j hj z c p l i o t h w r e B
    have hj60 : j = 60 := by omega
    subst hj60
    exact ⟨nI 60, _, gk_ok B, fun _ H => br_t (nI_le (a := 60) (b := 60) (by omega) (by decide)) H, fun _ H => br_t h60 H⟩
  | succ d ih =>
    intro j hj z c p l i o t h w r e B
    have a60 : ¬ (60 : Int32) ≤ nI j := nI_ge (b := 60) (by omega) (by decide)
    have hMj := hM j (by omega)
    by_cases hn : n ≤ nI j
    · exact ⟨nI j, _, gk_ok B, fun _ H => br_f a60 (br_t hn H), fun _ H => br_t (hMj.mp hn) H⟩
    · have hn2 : ¬ M ≤ nI j := fun a => hn (hMj.mpr a)
      have hh1 : h ≤ 1 := B.2.2.2.2.2.2.2.1
      have hp : p < 32 := B.2.2.1
      by_cases hh : h = 0
      · subst hh
        obtain ⟨u', ok', hX, hY⟩ := gs_once B
        obtain ⟨z2, c2, p2, l2, i2, o2, t2, h2, w2, r2, e2, B2, rfl⟩ := ok'
        obtain ⟨q, u2, ok2, kX, kY⟩ := ih (j + 1) (by omega) B2
        refine ⟨q, u2, ok2, fun post H => br_f a60 (br_f hn (br_t rfl ⟨vp_in_nI hp (by decide), ?_⟩)), fun post H => br_f hn2 (br_t rfl ?_)⟩
        · rw [nI_clamp (by omega)]
          refine hX _ ?_
          try dsimp only
          exact nm_r (nI_1 j) (nm_r (nI_1 j) (kX post H))
        · refine hY _ ?_
          try dsimp only
          exact nm_r (nI_1 j) (kY post H)
      · have hne : ¬ nI h = 0 := nI_ne0 (by omega) (by omega)
        exact ⟨nI j, _, gk_ok B, fun _ H => br_f a60 (br_f hn (br_f hne H)), fun _ H => br_f hn2 (br_f hne H)⟩
/-! reset -/
theorem xr_22 {post : SX → Prop} {z c p l i o t h : Int32} {w r e : Nat → Int32} (H : post (0, 0, 0, 0, i, 0, 0, 0, w, r, gk_z e 16)) : ∀ d k : Nat, k + d = 16 → wX_reset_22 post z c p l i o t h (d + 1) (nI k) w r (gk_z e k) := by
  intro d
  induction d with
  | zero =>
    intro k hk
    have hk2 : k = 16 := by omega
    subst hk2
    exact br_t (nI_le (a := 16) (b := 16) (by omega) (by decide)) H
  | succ d ih =>
    intro k hk
    exact br_f (nI_ge (b := 16) (by omega) (by decide)) ⟨vp_in_nI (by omega) (by decide), nm_r (e' := gk_z e (k + 1)) (by rw [nI_clamp (by omega)]; exact gk_zs e k) (nm_r (nI_1 k) (ih (k + 1) (by omega)))⟩
theorem xr_2 {post : SX → Prop} {z c p l i o t h : Int32} {w r e : Nat → Int32} (H : post (0, 0, 0, 0, i, 0, 0, 0, w, gk_z r 4, gk_z e 16)) : ∀ d k : Nat, k + d = 4 → wX_reset_2 post z c p l i o t h (d + 1) (nI k) w (gk_z r k) e := by
  intro d
  induction d with
  | zero =>
    intro k hk
    have hk2 : k = 4 := by omega
    subst hk2
    have K : wX_reset_22 post z c p l i o t h 17 (nI 0) w (gk_z r 4) (gk_z e 0) := xr_22 H 16 0 rfl
    rw [gk_z0] at K
    exact br_t (nI_le (a := 4) (b := 4) (by omega) (by decide)) ⟨17, K⟩
  | succ d ih =>
    intro k hk
    exact br_f (nI_ge (b := 4) (by omega) (by decide)) ⟨vp_in_nI (by omega) (by decide), nm_r (e' := gk_z r (k + 1)) (by rw [nI_clamp (by omega)]; exact gk_zs r k) (nm_r (nI_1 k) (ih (k + 1) (by omega)))⟩
theorem gk_zm (r : Nat → Int32) (k : Nat) : upd (gk_z r (min k 4)) (k % 4) 0 = gk_z r (min (k + 1) 4) := by
  by_cases h : k < 4
  · rw [Nat.min_eq_left (by omega), Nat.min_eq_left (by omega), Nat.mod_eq_of_lt h]
    exact gk_zs r k
  · rw [Nat.min_eq_right (by omega), Nat.min_eq_right (by omega)]
    exact gk_zi r (Nat.mod_lt _ (by decide))
theorem yr_2 {post : SY → Prop} {z c p l i o t h : Int32} {w r e : Nat → Int32} (H : post (0, 0, 0, 0, i, 0, 0, 0, w, gk_z r 4, gk_z e 16)) : ∀ d k : Nat, k + d = 16 → wY_reset_2 post z c p l i o t h (d + 1) (nI k) w (gk_z r (min k 4)) (gk_z e k) := by
  intro d
  induction d with
  | zero =>
    intro k hk
    have hk2 : k = 16 := by omega
    subst hk2
    exact br_t (nI_le (a := 16) (b := 16) (by omega) (by decide)) H
  | succ d ih =>
    intro k hk
    have hk4 : k % 4 < 4 := Nat.mod_lt _ (by decide)
    have er : nI k - nI k / 4 * 4 = nI (k % 4) := ge_rem 4 (by omega)
    refine br_f (nI_ge (b := 16) (by omega) (by decide)) ⟨vp_in_nI (by omega) (by decide), nm_r (e' := gk_z e (k + 1)) (by rw [nI_clamp (by omega)]; exact gk_zs e k) ⟨by decide, ?_⟩⟩
    rw [er]
    exact ⟨vp_in_nI hk4 (by decide), nm_r (e' := gk_z r (min (k + 1) 4)) (by rw [nI_clamp (by omega)]; exact gk_zm r k) (nm_r (nI_1 k) (ih (k + 1) (by omega)))⟩
