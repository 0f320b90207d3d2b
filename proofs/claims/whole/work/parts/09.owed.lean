/-! the relation, and one statement a method -/
theorem gi_c (x : Int32) (n : Nat) (hn : n < 2 ^ 31) : (x < 0 ∨ nI n ≤ x) ∨ ∃ j : Nat, j < n ∧ x = nI j := by
  rcases pk_ix x hn with a | a | a
  · exact Or.inl (Or.inl a)
  · exact Or.inl (Or.inr a)
  · exact Or.inr a
/-- the two states are the same, and each number in it is within its range -/
def i_Rel (k : Nat) (u : SX) (v : SY) : Prop := u = v ∧ gk_Ok u
theorem gk_rel {k : Nat} {u : SX} (h : gk_Ok u) : i_Rel k u u := ⟨rfl, h⟩
theorem i_up {k : Nat} {u : SX} {v : SY} (h : i_Rel k u v) : i_Rel (k + 3) u v := h
theorem i_vc0 : wpX_init (fun u => wpY_init (fun v => i_Rel 0 u v)) :=
  gk_rel (k := 0) (gk_mk (z := 0) (c := 0) (p := 0) (l := 0) (i := 0) (o := 0) (t := 0) (h := 0) (by decide) (by decide) (by decide) (by decide) (by decide) (by decide) (by decide) (by decide) (gk_0 (by decide)) (gk_0 (by decide)) (gk_0 (by decide)))
theorem i_vc_program {k : Nat} {u : SX} {v : SY} (I : i_Rel k u v) (hk : k + 3 ≤ 1536) (v1 : Int32) (v2 : Int32) : wpX_program (fun r u' => wpY_program (fun r' v' => r' = r ∧ i_Rel (k + 3) u' v') v v1 v2) u v1 v2 := by
  obtain ⟨rfl, ok⟩ := I
  obtain ⟨z, c, p, l, i, o, t, h, w, r, e, B, rfl⟩ := ok
  have ok := gk_ok B
  unfold wpX_program
  dsimp only
  rcases gi_c v1 32 (by decide) with hb | ⟨j, hj, rfl⟩
  · refine xk_isPosition_f hb (br_t rfl ?_)
    unfold wpY_program
    dsimp only
    rcases hb with a | a
    · exact br_t a ⟨rfl, gk_rel ok⟩
    · exact br_f (gi_pos (by decide) a) (br_t (gi_gt (n := 31) (by decide) a) ⟨rfl, gk_rel ok⟩)
  · have y0 : ¬ nI j < 0 := nI_pos (by omega)
    have y1 : ¬ (31 : Int32) < nI j := nI_nlt (a := 31) (by omega) (by decide)
    refine xk_isPosition_t hj (br_f (by decide) ?_)
    unfold wpY_program
    dsimp only
    rcases gi_c v2 65536 (by decide) with hb | ⟨q, hq, rfl⟩
    · rcases hb with a | a
      · exact br_t a (br_f y0 (br_f y1 (br_t a ⟨rfl, gk_rel ok⟩)))
      · have a0 : ¬ v2 < 0 := gi_pos (by decide) a
        have a1 : ¬ v2 ≤ 65535 := Int32.not_le.mpr (gi_gt (n := 65535) (by decide) a)
        exact br_f a0 (br_f a1 (br_f y0 (br_f y1 (br_f a0 (br_f a1 ⟨rfl, gk_rel ok⟩)))))
    · have a0 : ¬ nI q < 0 := nI_pos (by omega)
      have a1 : nI q ≤ 65535 := nI_le (b := 65535) (by omega) (by decide)
      have hv : vp_in (nI j) 32 := vp_in_nI hj (by decide)
      have eu : upd w (nI j).toNatClampNeg (nI q) = upd w j (nI q) := by rw [nI_clamp (by omega)]
      have ok2 : gk_Ok (nI z, nI c, nI p, nI l, nI i, nI o, nI t, nI h, upd w j (nI q), r, e) :=
        gk_mk B.1 B.2.1 B.2.2.1 B.2.2.2.1 B.2.2.2.2.1 B.2.2.2.2.2.1 B.2.2.2.2.2.2.1 B.2.2.2.2.2.2.2.1 (gk_upd B.2.2.2.2.2.2.2.2.1 hq) B.2.2.2.2.2.2.2.2.2.1 B.2.2.2.2.2.2.2.2.2.2
      exact br_f a0 (br_t a1 ⟨hv, nm_r eu (br_f y0 (br_f y1 (br_f a0 (br_t a1 ⟨hv, nm_r eu ⟨rfl, gk_rel ok2⟩⟩))))⟩)
theorem i_vc_word {k : Nat} {u : SX} {v : SY} (I : i_Rel k u v) (hk : k + 3 ≤ 1536) (v1 : Int32) : wpX_word (fun r => wpY_word (fun r' => r' = r ∧ i_Rel (k + 3) u v) v v1) u v1 := by
  obtain ⟨rfl, ok⟩ := I
  obtain ⟨z, c, p, l, i, o, t, h, w, r, e, B, rfl⟩ := ok
  have ok := gk_ok B
  unfold wpX_word
  dsimp only
  rcases gi_c v1 32 (by decide) with hb | ⟨j, hj, rfl⟩
  · refine xk_isPosition_f hb (br_t rfl ?_)
    unfold wpY_word
    dsimp only
    rcases hb with a | a
    · exact br_t a ⟨rfl, gk_rel ok⟩
    · exact br_f (gi_pos (by decide) a) (br_t (gi_gt (n := 31) (by decide) a) ⟨rfl, gk_rel ok⟩)
  · have y0 : ¬ nI j < 0 := nI_pos (by omega)
    have y1 : ¬ (31 : Int32) < nI j := nI_nlt (a := 31) (by omega) (by decide)
    have hv : vp_in (nI j) 32 := vp_in_nI hj (by decide)
    refine xk_isPosition_t hj (br_f (by decide) ?_)
    unfold wpY_word
    dsimp only
    exact ⟨hv, br_f y0 (br_f y1 ⟨hv, rfl, gk_rel ok⟩)⟩
theorem i_vc_reset {k : Nat} {u : SX} {v : SY} (I : i_Rel k u v) (hk : k + 3 ≤ 1536) : wpX_reset (fun u' => wpY_reset (fun v' => i_Rel (k + 3) u' v') v) u := by
  obtain ⟨rfl, ok⟩ := I
  obtain ⟨z, c, p, l, i, o, t, h, w, r, e, B, rfl⟩ := ok
  have ok2 : gk_Ok (nI 0, nI 0, nI 0, nI 0, nI i, nI 0, nI 0, nI 0, w, gk_z r 4, gk_z e 16) :=
    gk_mk (by decide) (by decide) (by decide) (by decide) B.2.2.2.2.1 (by decide) (by decide) (by decide) B.2.2.2.2.2.2.2.2.1 (gk_zA (by decide) B.2.2.2.2.2.2.2.2.2.1) (gk_zA (by decide) B.2.2.2.2.2.2.2.2.2.2)
  have H : wpY_reset (fun v' => i_Rel (k + 3) ((0, 0, 0, 0, nI i, 0, 0, 0, w, gk_z r 4, gk_z e 16) : SX) v') (nI z, nI c, nI p, nI l, nI i, nI o, nI t, nI h, w, r, e) := by
    have K := yr_2 (post := fun v' => i_Rel (k + 3) ((0, 0, 0, 0, nI i, 0, 0, 0, w, gk_z r 4, gk_z e 16) : SX) v') (z := nI z) (c := nI c) (p := nI p) (l := nI l) (i := nI i) (o := nI o) (t := nI t) (h := nI h) (w := w) (r := r) (e := e) (gk_rel ok2) 16 0 rfl
    rw [show min 0 4 = 0 from rfl, gk_z0, gk_z0] at K
    exact ⟨17, K⟩
  unfold wpX_reset
  dsimp only
  have K := xr_2 (post := fun u' => wpY_reset (fun v' => i_Rel (k + 3) u' v') (nI z, nI c, nI p, nI l, nI i, nI o, nI t, nI h, w, r, e)) (z := nI z) (c := nI c) (p := nI p) (l := nI l) (i := nI i) (o := nI o) (t := nI t) (h := nI h) (w := w) (r := r) (e := e) H 4 0 rfl
  rw [gk_z0] at K
  exact ⟨5, K⟩
theorem i_vc_in {k : Nat} {u : SX} {v : SY} (I : i_Rel k u v) (hk : k + 3 ≤ 1536) (v1 : Int32) : wpX_in (fun r u' => wpY_in (fun r' v' => r' = r ∧ i_Rel (k + 3) u' v') v v1) u v1 := by
  obtain ⟨rfl, ok⟩ := I
  obtain ⟨z, c, p, l, i, o, t, h, w, r, e, B, rfl⟩ := ok
  have ok := gk_ok B
  unfold wpX_in
  dsimp only
  rcases gi_c v1 256 (by decide) with hb | ⟨j, hj, rfl⟩
  · refine xk_isByte_f hb (br_t rfl ?_)
    unfold wpY_in
    dsimp only
    refine yk_isByte_f hb (br_t rfl ?_)
    unfold wY_in_17
    exact yk_isByte_f hb ⟨rfl, rfl, gk_rel ok⟩
  · refine xk_isByte_t hj (br_f (by decide) ?_)
    unfold wpY_in
    dsimp only
    refine yk_isByte_t hj (br_f (by decide) ?_)
    unfold wY_in_17
    have ok2 : gk_Ok (nI z, nI c, nI p, nI l, nI j, nI o, nI t, nI h, w, r, e) :=
      gk_mk B.1 B.2.1 B.2.2.1 B.2.2.2.1 hj B.2.2.2.2.2.1 B.2.2.2.2.2.2.1 B.2.2.2.2.2.2.2.1 B.2.2.2.2.2.2.2.2.1 B.2.2.2.2.2.2.2.2.2.1 B.2.2.2.2.2.2.2.2.2.2
    exact yk_isByte_t hj ⟨rfl, rfl, gk_rel ok2⟩
theorem i_vc_setRegister {k : Nat} {u : SX} {v : SY} (I : i_Rel k u v) (hk : k + 3 ≤ 1536) (v1 : Int32) (v2 : Int32) : wpX_setRegister (fun r u' => wpY_setRegister (fun r' v' => r' = r ∧ i_Rel (k + 3) u' v') v v1 v2) u v1 v2 := by
  obtain ⟨rfl, ok⟩ := I
  obtain ⟨z, c, p, l, i, o, t, h, w, r, e, B, rfl⟩ := ok
  have ok := gk_ok B
  unfold wpX_setRegister
  dsimp only
  rcases gi_c v1 4 (by decide) with hb | ⟨j, hj, rfl⟩
  · refine xk_isRegister_f hb (br_t rfl ?_)
    unfold wpY_setRegister
    dsimp only
    exact yk_isRegister_f hb (br_t rfl ⟨rfl, gk_rel ok⟩)
  · have hv : vp_in (nI j) 4 := vp_in_nI hj (by decide)
    refine xk_isRegister_t hj (br_f (by decide) ?_)
    rcases gi_c v2 256 (by decide) with hb | ⟨q, hq, rfl⟩
    · refine xk_isByte_f hb (br_t rfl ?_)
      unfold wpY_setRegister
      dsimp only
      exact yk_isRegister_t hj (br_f (by decide) (yk_isByte_f hb (br_t rfl ⟨rfl, gk_rel ok⟩)))
    · have eu : upd r (nI j).toNatClampNeg (nI q) = upd r j (nI q) := by rw [nI_clamp (by omega)]
      have ok2 : gk_Ok (nI z, nI c, nI p, nI l, nI i, nI o, nI t, nI h, w, upd r j (nI q), e) :=
        gk_mk B.1 B.2.1 B.2.2.1 B.2.2.2.1 B.2.2.2.2.1 B.2.2.2.2.2.1 B.2.2.2.2.2.2.1 B.2.2.2.2.2.2.2.1 B.2.2.2.2.2.2.2.2.1 (gk_upd B.2.2.2.2.2.2.2.2.2.1 hq) B.2.2.2.2.2.2.2.2.2.2
      refine xk_isByte_t hq (br_f (by decide) ⟨hv, nm_r eu ?_⟩)
      unfold wpY_setRegister
      dsimp only
      exact yk_isRegister_t hj (br_f (by decide) (yk_isByte_t hq (br_f (by decide) ⟨hv, nm_r eu ⟨rfl, gk_rel ok2⟩⟩)))
theorem i_vc_setMemory {k : Nat} {u : SX} {v : SY} (I : i_Rel k u v) (hk : k + 3 ≤ 1536) (v1 : Int32) (v2 : Int32) : wpX_setMemory (fun r u' => wpY_setMemory (fun r' v' => r' = r ∧ i_Rel (k + 3) u' v') v v1 v2) u v1 v2 := by
  obtain ⟨rfl, ok⟩ := I
  obtain ⟨z, c, p, l, i, o, t, h, w, r, e, B, rfl⟩ := ok
  have ok := gk_ok B
  unfold wpX_setMemory
  dsimp only
  rcases gi_c v1 16 (by decide) with hb | ⟨j, hj, rfl⟩
  · refine xk_isCell_f hb (br_t rfl ?_)
    unfold wpY_setMemory
    dsimp only
    rcases hb with a | a
    · exact br_t a ⟨rfl, gk_rel ok⟩
    · exact br_f (gi_pos (by decide) a) (br_t (gi_gt (n := 15) (by decide) a) ⟨rfl, gk_rel ok⟩)
  · have hv : vp_in (nI j) 16 := vp_in_nI hj (by decide)
    have y0 : ¬ nI j < 0 := nI_pos (by omega)
    have y1 : ¬ (15 : Int32) < nI j := nI_nlt (a := 15) (by omega) (by decide)
    refine xk_isCell_t hj (br_f (by decide) ?_)
    rcases gi_c v2 256 (by decide) with hb | ⟨q, hq, rfl⟩
    · refine xk_isByte_f hb (br_t rfl ?_)
      unfold wpY_setMemory
      dsimp only
      exact br_f y0 (br_f y1 (yk_isByte_f hb (br_t rfl ⟨rfl, gk_rel ok⟩)))
    · have eu : upd e (nI j).toNatClampNeg (nI q) = upd e j (nI q) := by rw [nI_clamp (by omega)]
      have ok2 : gk_Ok (nI z, nI c, nI p, nI l, nI i, nI o, nI t, nI h, w, r, upd e j (nI q)) :=
        gk_mk B.1 B.2.1 B.2.2.1 B.2.2.2.1 B.2.2.2.2.1 B.2.2.2.2.2.1 B.2.2.2.2.2.2.1 B.2.2.2.2.2.2.2.1 B.2.2.2.2.2.2.2.2.1 B.2.2.2.2.2.2.2.2.2.1 (gk_upd B.2.2.2.2.2.2.2.2.2.2 hq)
      refine xk_isByte_t hq (br_f (by decide) ⟨hv, nm_r eu ?_⟩)
      unfold wpY_setMemory
      dsimp only
      exact br_f y0 (br_f y1 (yk_isByte_t hq (br_f (by decide) ⟨hv, nm_r eu ⟨rfl, gk_rel ok2⟩⟩)))
theorem i_vc_cycle {k : Nat} {u : SX} {v : SY} (I : i_Rel k u v) (hk : k + 3 ≤ 1536) (v1 : Int32) (v2 : Int32) : wpX_cycle (fun r u' => wpY_cycle (fun r' v' => r' = r ∧ i_Rel (k + 3) u' v') v v1 v2) u v1 v2 := by
  obtain ⟨rfl, ok⟩ := I
  obtain ⟨z, c, p, l, i, o, t, h, w, r, e, B, rfl⟩ := ok
  have ok := gk_ok B
  unfold wpX_cycle
  dsimp only
  rcases gi_c v2 4 (by decide) with hb | ⟨j, hj, rfl⟩
  · rcases hb with a | a
    · refine br_t a ?_
      unfold wpY_cycle
      dsimp only
      exact br_t a ⟨rfl, gk_rel ok⟩
    · have a0 : ¬ v2 < 0 := gi_pos (by decide) a
      refine br_f a0 (br_f (gi_nlt a) ?_)
      unfold wpY_cycle
      dsimp only
      exact br_f a0 (br_f (Int32.not_le.mpr (gi_gt (n := 3) (by decide) a)) ⟨rfl, gk_rel ok⟩)
  · have a0 : ¬ nI j < 0 := nI_pos (by omega)
    have a3 : nI j ≤ 3 := nI_le (b := 3) (by omega) (by decide)
    refine br_f a0 (br_t (nI_lt (b := 4) hj (by decide)) ?_)
    by_cases h60 : v1 ≤ 60
    · obtain ⟨q, u', ok', kX, kY⟩ := gs_cyc v1 v1 h60 (fun _ _ => Iff.rfl) 60 0 rfl B
      refine ⟨61, kX _ ?_⟩
      unfold wpY_cycle
      dsimp only
      exact br_f a0 (br_t a3 (br_t h60 ⟨61, kY _ ⟨rfl, gk_rel ok'⟩⟩))
    · have hM : ∀ j : Nat, j < 60 → (v1 ≤ nI j ↔ (60 : Int32) ≤ nI j) := by
        intro j hj
        have b1 : nI j ≤ 60 := nI_le (b := 60) (by omega) (by decide)
        exact ⟨fun a => absurd (Int32.le_trans a b1) h60, fun a => absurd a (nI_ge (b := 60) hj (by decide))⟩
      obtain ⟨q, u', ok', kX, kY⟩ := gs_cyc v1 60 (by decide) hM 60 0 rfl B
      refine ⟨61, kX _ ?_⟩
      unfold wpY_cycle
      dsimp only
      exact br_f a0 (br_t a3 (br_f h60 ⟨61, kY _ ⟨rfl, gk_rel ok'⟩⟩))
theorem i_vc_halted {k : Nat} {u : SX} {v : SY} (I : i_Rel k u v) (hk : k + 3 ≤ 1536) : wpX_halted (fun r => wpY_halted (fun r' => r' = r ∧ i_Rel (k + 3) u v) v) u := by
  obtain ⟨rfl, ok⟩ := I
  obtain ⟨z, c, p, l, i, o, t, h, w, r, e, B, rfl⟩ := ok
  have ok := gk_ok B
  have h2 : h = 0 ∨ h = 1 := by
    have := B.2.2.2.2.2.2.2.1
    omega
  have hn : narrow .boolean (.int (nI h)) = .int (nI h) := by
    rcases h2 with rfl | rfl
    · exact rfl
    · exact rfl
  unfold wpX_halted wpY_halted
  dsimp only
  exact ⟨hn, hn, rfl, gk_rel ok⟩
theorem i_vc_counter {k : Nat} {u : SX} {v : SY} (I : i_Rel k u v) (hk : k + 3 ≤ 1536) : wpX_counter (fun r => wpY_counter (fun r' => r' = r ∧ i_Rel (k + 3) u v) v) u := by
  obtain ⟨rfl, ok⟩ := I
  exact ⟨rfl, gk_rel ok⟩
theorem i_vc_register {k : Nat} {u : SX} {v : SY} (I : i_Rel k u v) (hk : k + 3 ≤ 1536) (v1 : Int32) : wpX_register (fun r => wpY_register (fun r' => r' = r ∧ i_Rel (k + 3) u v) v v1) u v1 := by
  obtain ⟨rfl, ok⟩ := I
  obtain ⟨z, c, p, l, i, o, t, h, w, r, e, B, rfl⟩ := ok
  have ok := gk_ok B
  unfold wpX_register
  dsimp only
  rcases gi_c v1 4 (by decide) with hb | ⟨j, hj, rfl⟩
  · refine xk_isRegister_f hb (br_t rfl ?_)
    unfold wpY_register
    dsimp only
    exact yk_isRegister_f hb (br_t rfl ⟨rfl, gk_rel ok⟩)
  · have hv : vp_in (nI j) 4 := vp_in_nI hj (by decide)
    refine xk_isRegister_t hj (br_f (by decide) ⟨hv, ?_⟩)
    unfold wpY_register
    dsimp only
    exact yk_isRegister_t hj (br_f (by decide) ⟨hv, rfl, gk_rel ok⟩)
theorem i_vc_memory {k : Nat} {u : SX} {v : SY} (I : i_Rel k u v) (hk : k + 3 ≤ 1536) (v1 : Int32) : wpX_memory (fun r => wpY_memory (fun r' => r' = r ∧ i_Rel (k + 3) u v) v v1) u v1 := by
  obtain ⟨rfl, ok⟩ := I
  obtain ⟨z, c, p, l, i, o, t, h, w, r, e, B, rfl⟩ := ok
  have ok := gk_ok B
  unfold wpX_memory
  dsimp only
  rcases gi_c v1 16 (by decide) with hb | ⟨j, hj, rfl⟩
  · refine xk_isCell_f hb (br_t rfl ?_)
    unfold wpY_memory
    dsimp only
    rcases hb with a | a
    · exact br_t a ⟨rfl, gk_rel ok⟩
    · exact br_f (gi_pos (by decide) a) (br_t (gi_gt (n := 15) (by decide) a) ⟨rfl, gk_rel ok⟩)
  · have hv : vp_in (nI j) 16 := vp_in_nI hj (by decide)
    refine xk_isCell_t hj (br_f (by decide) ⟨hv, ?_⟩)
    unfold wpY_memory
    dsimp only
    exact br_f (nI_pos (by omega)) (br_f (nI_nlt (a := 15) (by omega) (by decide)) ⟨hv, rfl, gk_rel ok⟩)
theorem i_vc_flags {k : Nat} {u : SX} {v : SY} (I : i_Rel k u v) (hk : k + 3 ≤ 1536) : wpX_flags (fun r => wpY_flags (fun r' => r' = r ∧ i_Rel (k + 3) u v) v) u := by
  obtain ⟨rfl, ok⟩ := I
  exact ⟨rfl, gk_rel ok⟩
theorem i_vc_link {k : Nat} {u : SX} {v : SY} (I : i_Rel k u v) (hk : k + 3 ≤ 1536) : wpX_link (fun r => wpY_link (fun r' => r' = r ∧ i_Rel (k + 3) u v) v) u := by
  obtain ⟨rfl, ok⟩ := I
  exact ⟨rfl, gk_rel ok⟩
theorem i_vc_out {k : Nat} {u : SX} {v : SY} (I : i_Rel k u v) (hk : k + 3 ≤ 1536) : wpX_out (fun r => wpY_out (fun r' => r' = r ∧ i_Rel (k + 3) u v) v) u := by
  obtain ⟨rfl, ok⟩ := I
  exact ⟨rfl, gk_rel ok⟩
theorem i_vc_outs {k : Nat} {u : SX} {v : SY} (I : i_Rel k u v) (hk : k + 3 ≤ 1536) : wpX_outs (fun r => wpY_outs (fun r' => r' = r ∧ i_Rel (k + 3) u v) v) u := by
  obtain ⟨rfl, ok⟩ := I
  exact ⟨rfl, gk_rel ok⟩
theorem i_vc_same {k : Nat} {u : SX} {v : SY} (I : i_Rel k u v) (hk : k + 3 ≤ 1536) (v1 : Int32) (v2 : Int32) : wpX_same (fun r => wpY_same (fun r' => r' = r ∧ i_Rel (k + 3) u v) v v1 v2) u v1 v2 := by
  obtain ⟨rfl, ok⟩ := I
  obtain ⟨z, c, p, l, i, o, t, h, w, r, e, B, rfl⟩ := ok
  have ok := gk_ok B
  unfold wpX_same
  dsimp only
  rcases gi_c v1 4 (by decide) with hb | ⟨j, hj, rfl⟩
  · refine xk_isRegister_f hb (br_t rfl ?_)
    unfold wpY_same
    dsimp only
    exact yk_isRegister_f hb (br_t rfl ⟨rfl, gk_rel ok⟩)
  · have hv : vp_in (nI j) 4 := vp_in_nI hj (by decide)
    refine xk_isRegister_t hj (br_f (by decide) ?_)
    rcases gi_c v2 4 (by decide) with hb | ⟨q, hq, rfl⟩
    · refine xk_isRegister_f hb (br_t rfl ?_)
      unfold wpY_same
      dsimp only
      exact yk_isRegister_t hj (br_f (by decide) (yk_isRegister_f hb (br_t rfl ⟨rfl, gk_rel ok⟩)))
    · have hv2 : vp_in (nI q) 4 := vp_in_nI hq (by decide)
      refine xk_isRegister_t hq (br_f (by decide) ⟨hv, hv2, ?_⟩)
      unfold wpY_same
      dsimp only
      by_cases he : r (nI j).toNatClampNeg = r (nI q).toNatClampNeg
      · exact br_t he (yk_isRegister_t hj (br_f (by decide) (yk_isRegister_t hq (br_f (by decide) ⟨hv, hv2, br_t he ⟨rfl, gk_rel ok⟩⟩))))
      · exact br_f he (yk_isRegister_t hj (br_f (by decide) (yk_isRegister_t hq (br_f (by decide) ⟨hv, hv2, br_f he ⟨rfl, gk_rel ok⟩⟩))))
