section
/-! rows of kit/rows/ (pk_, s_l, nx_), as they stand there -/
theorem pk_us {f : Nat → Int32} {k : Nat} {x : Int32} : upd f k x k = x := if_pos rfl
theorem pk_un {f : Nat → Int32} {k j : Nat} {x : Int32} (h : j ≠ k) : upd f k x j = f j := if_neg h
theorem pk_sub {a b : Nat} (h : b ≤ a) : nI a - nI b = nI (a - b) := by
  obtain ⟨c, rfl⟩ : ∃ c, a = c + b := ⟨a - b, by omega⟩
  rw [← nI_add, Int32.add_sub_cancel, Nat.add_sub_cancel]
theorem pk_mul (a b : Nat) : nI a * nI b = nI (a * b) := (Int32.ofNat_mul a b).symm
theorem pk_div {a d : Nat} (ha : a < 2 ^ 31) (h0 : 0 < d) (hd : d < 2 ^ 31) : nI a / nI d = nI (a / d) := by
  apply Int32.toInt_inj.mp
  rw [lg_idiv_nonneg (by rw [nI_toInt ha]; omega) (by rw [nI_toInt hd]; omega), nI_toInt ha, nI_toInt hd, nI_toInt (Nat.lt_of_le_of_lt (Nat.div_le_self a d) ha)]
  first | rfl | exact (Int.natCast_ediv _ _).symm
theorem pk_rem {a d : Nat} (ha : a < 2 ^ 31) (h0 : 0 < d) (hd : d < 2 ^ 31) : nI a - nI a / nI d * nI d = nI (a % d) := by
  rw [pk_div ha h0 hd, pk_mul, pk_sub (Nat.div_mul_le_self a d)]
  exact congrArg nI (by have := Nat.div_add_mod' a d; omega)
theorem pk_sub_toInt {a b : Nat} (ha : a < 2 ^ 30) (hb : b < 2 ^ 30) : (nI a - nI b).toInt = (a : Int) - b := by
  rw [Int32.toInt_sub, nI_toInt (by omega), nI_toInt (by omega)]
  exact Int.bmod_eq_of_le (by omega) (by omega)
theorem pk_sneg {a b : Nat} (hb : b < 2 ^ 30) (h : a < b) : nI a - nI b < 0 := by
  rw [Int32.lt_iff_toInt_lt, pk_sub_toInt (by omega) hb, show (0 : Int32).toInt = 0 from by decide]
  omega
theorem pk_ix (x : Int32) {n : Nat} (hn : n < 2 ^ 31) : x < 0 ∨ nI n ≤ x ∨ ∃ j : Nat, j < n ∧ x = nI j := by
  by_cases h : x < 0
  · exact Or.inl h
  · obtain ⟨j, hj, rfl⟩ := nI_of h
    by_cases h2 : j < n
    · exact Or.inr (Or.inr ⟨j, h2, rfl⟩)
    · exact Or.inr (Or.inl (nI_le (by omega) hj))
theorem pk_le {x y : Int32} {A B : Prop} (a b : Nat) (f : a ≤ b → A) (g : b < a → B) (hx : x = nI a := by rfl) (hy : y = nI b := by rfl) (ha : a < 2 ^ 31 := by omega) (hb : b < 2 ^ 31 := by omega) : (x ≤ y → A) ∧ (¬ x ≤ y → B) := by
  subst hx hy
  rw [nI_leI ha hb]
  exact ⟨f, fun z => g (by omega)⟩
theorem pk_lt {x y : Int32} {A B : Prop} (a b : Nat) (f : a < b → A) (g : b ≤ a → B) (hx : x = nI a := by rfl) (hy : y = nI b := by rfl) (ha : a < 2 ^ 31 := by omega) (hb : b < 2 ^ 31 := by omega) : (x < y → A) ∧ (¬ x < y → B) := by
  subst hx hy
  rw [nI_ltI ha hb]
  exact ⟨f, fun z => g (by omega)⟩
theorem pk_eq {x y : Int32} {A B : Prop} (a b : Nat) (f : a = b → A) (g : a ≠ b → B) (hx : x = nI a := by rfl) (hy : y = nI b := by rfl) (ha : a < 2 ^ 31 := by omega) (hb : b < 2 ^ 31 := by omega) : (x = y → A) ∧ (¬ x = y → B) := by
  subst hx hy
  rw [nI_eq ha hb]
  exact ⟨f, g⟩
theorem pk_in {x : Int32} (n N : Nat) (h : n < N) (hx : x = nI n := by rfl) (hN : N < 2 ^ 31 := by omega) : vp_in x N := by
  subst hx
  exact vp_in_nI h hN
theorem pk_cl {x : Int32} (n : Nat) (hx : x = nI n := by rfl) (h : n < 2 ^ 31 := by omega) : x.toNatClampNeg = n := by
  subst hx
  exact nI_clamp h
theorem pk_tn {n : Nat} (h : n < 2 ^ 32) : (nI n).toBitVec.toNat = n := Nat.mod_eq_of_lt h
theorem pk_and (x : Int32) {m : Int32} (k : Nat) (hm : m.toBitVec.toNat = 2 ^ k - 1) : x &&& m = nI (x.toBitVec.toNat % 2 ^ k) := by
  apply Int32.toBitVec_inj.mp
  apply BitVec.eq_of_toNat_eq
  rw [Int32.toBitVec_and, BitVec.toNat_and, hm, Nat.and_two_pow_sub_one_eq_mod]
  show _ = (BitVec.ofNat 32 _).toNat
  rw [BitVec.toNat_ofNat]
  exact (Nat.mod_eq_of_lt (Nat.lt_of_le_of_lt (Nat.mod_le _ _) x.toBitVec.isLt)).symm
theorem pk_andN {n : Nat} (h : n < 2 ^ 32) {m : Int32} (k : Nat) (hm : m.toBitVec.toNat = 2 ^ k - 1) : nI n &&& m = nI (n % 2 ^ k) := by
  rw [pk_and _ k hm, pk_tn h]
theorem pk_andE (x : Int32) {m : Int32} (k : Nat) (hm : m.toBitVec.toNat = 2 ^ k - 1) : ∃ j : Nat, j < 2 ^ k ∧ x &&& m = nI j := ⟨_, Nat.mod_lt _ (Nat.two_pow_pos k), pk_and x k hm⟩
theorem pk_shr (a s : Int32) (k : Nat) (hs : (s.toBitVec.smod 32).toNat = k) : (a >>> s).toInt = a.toInt >>> k := by
  show (a.toBitVec.sshiftRight (s.toBitVec.smod 32).toNat).toInt = _
  rw [hs, BitVec.toInt_sshiftRight]
  rfl
theorem pk_shrN {n : Nat} (h : n < 2 ^ 31) (s : Int32) (k : Nat) (hs : (s.toBitVec.smod 32).toNat = k) : nI n >>> s = nI (n / 2 ^ k) := by
  apply Int32.toInt_inj.mp
  have h2 : n / 2 ^ k ≤ n := Nat.div_le_self _ _
  rw [pk_shr _ _ k hs, nI_toInt h, nI_toInt (by omega), Int.shiftRight_eq_div_pow]
  rfl
theorem s_l : ∀ n, n < 32 → ((nI n &&& 31).toBitVec.smod 32).toNat = n := by decide +kernel
theorem nx_and (a b : Nat) : nI a &&& nI b = nI (a &&& b) := by
  apply Int32.toBitVec_inj.1
  show BitVec.ofNat 32 a &&& BitVec.ofNat 32 b = BitVec.ofNat 32 (a &&& b)
  apply BitVec.eq_of_getLsbD_eq
  intro i hi
  simp [hi]
theorem nx_xor (a b : Nat) : nI a ^^^ nI b = nI (a ^^^ b) := by
  apply Int32.toBitVec_inj.1
  show BitVec.ofNat 32 a ^^^ BitVec.ofNat 32 b = BitVec.ofNat 32 (a ^^^ b)
  apply BitVec.eq_of_getLsbD_eq
  intro i hi
  simp [hi]
/-! own rows: nI under or; arrays whose first N cells hold numbers below b -/
theorem gp_or (a b : Nat) : nI a ||| nI b = nI (a ||| b) := by
  apply Int32.toBitVec_inj.1
  show BitVec.ofNat 32 a ||| BitVec.ofNat 32 b = BitVec.ofNat 32 (a ||| b)
  apply BitVec.eq_of_getLsbD_eq
  intro i hi
  simp [hi]
def gk_A (b N : Nat) (a : Nat → Int32) : Prop := ∀ j, j < N → ∃ n, n < b ∧ a j = nI n
theorem gk_upd {b N k q : Nat} {a : Nat → Int32} (h : gk_A b N a) (hq : q < b) : gk_A b N (upd a k (nI q)) := by
  intro j hj
  by_cases e : j = k
  · exact ⟨q, hq, by rw [e, pk_us]⟩
  · obtain ⟨n, hn, e2⟩ := h j hj
    exact ⟨n, hn, by rw [pk_un e, e2]⟩
theorem gk_0 {b N : Nat} (hb : 0 < b) : gk_A b N (fun _ => 0) := fun _ _ => ⟨0, hb, rfl⟩
/-- the array with its first k cells 0 -/
def gk_z (a : Nat → Int32) (k : Nat) : Nat → Int32 := fun j => if j < k then 0 else a j
theorem gk_z0 (a : Nat → Int32) : gk_z a 0 = a := funext fun j => if_neg (Nat.not_lt_zero j)
theorem gk_zs (a : Nat → Int32) (k : Nat) : upd (gk_z a k) k 0 = gk_z a (k + 1) := by
  funext j
  unfold upd gk_z
  by_cases e : j = k
  · rw [if_pos e, if_pos (by omega)]
  · rw [if_neg e]
    by_cases h : j < k
    · rw [if_pos h, if_pos (by omega)]
    · rw [if_neg h, if_neg (by omega)]
theorem gk_zi (a : Nat → Int32) {k i : Nat} (h : i < k) : upd (gk_z a k) i 0 = gk_z a k := by
  funext j
  unfold upd gk_z
  by_cases e : j = i
  · rw [if_pos e, if_pos (by omega)]
  · rw [if_neg e]
theorem gk_zA {b N k : Nat} {a : Nat → Int32} (hb : 0 < b) (h : gk_A b N a) : gk_A b N (gk_z a k) := by
  intro j hj
  by_cases e : j < k
  · exact ⟨0, hb, if_pos e⟩
  · obtain ⟨n, hn, e2⟩ := h j hj
    exact ⟨n, hn, (if_neg e).trans e2⟩
end
section
/-! the numbers of an instruction: what both sides reckon, as naturals -/
theorem gd_op {W : Nat} (h : W < 65536) : nI W &&& 15 = nI (W % 16) := pk_andN (by omega) 4 (by decide)
theorem gd_d {W : Nat} (h : W < 65536) : (nI W >>> ((4 : Int32) &&& 31)) &&& 3 = nI (W / 16 % 4) := by
  rw [pk_shrN (by omega) _ 4 (by decide)]
  exact pk_andN (by omega) 2 (by decide)
theorem gd_s {W : Nat} (h : W < 65536) : (nI W >>> ((6 : Int32) &&& 31)) &&& 3 = nI (W / 64 % 4) := by
  rw [pk_shrN (by omega) _ 6 (by decide)]
  exact pk_andN (by omega) 2 (by decide)
theorem gd_m {W : Nat} (h : W < 65536) : (nI W >>> ((8 : Int32) &&& 31)) &&& 255 = nI (W / 256) := by
  rw [pk_shrN (by omega) _ 8 (by decide)]
  have e : nI (W / 2 ^ 8) &&& 255 = nI (W / 2 ^ 8 % 2 ^ 8) := pk_andN (by omega) 8 (by decide)
  rw [e]
  exact congrArg nI (by omega)
theorem gd_31 {a : Nat} (h : a < 65536) : nI a &&& 31 = nI (a % 32) := pk_andN (by omega) 5 (by decide)
theorem gd_255 {a : Nat} (h : a < 1000000) : nI a &&& 255 = nI (a % 256) := pk_andN (by omega) 8 (by decide)
theorem gd_15 {a : Nat} (h : a < 65536) : nI a &&& 15 = nI (a % 16) := pk_andN (by omega) 4 (by decide)
theorem gd_3 {a : Nat} (h : a < 65536) : nI a &&& 3 = nI (a % 4) := pk_andN (by omega) 2 (by decide)
theorem gd_1 {a : Nat} (h : a < 65536) : nI a &&& 1 = nI (a % 2) := pk_andN (by omega) 1 (by decide)
theorem gd_2 : ∀ a, a < 256 → nI a &&& 2 = nI (a / 2 % 2 * 2) := by decide +kernel
theorem gd_sr8 {a : Nat} (h : a < 1000000) : nI a >>> ((8 : Int32) &&& 31) = nI (a / 256) := pk_shrN (by omega) _ 8 (by decide)
theorem gd_sr7 {a : Nat} (h : a < 1000000) : nI a >>> ((7 : Int32) &&& 31) = nI (a / 128) := pk_shrN (by omega) _ 7 (by decide)
theorem gd_srk {a k : Nat} (h : a < 1000000) (hk : k < 32) : nI a >>> (nI k &&& 31) = nI (a / 2 ^ k) := pk_shrN (by omega) _ k (s_l k hk)
theorem ge_rem {a : Nat} (d : Nat) {D : Int32} (h : a < 1000000) (hD : D = nI d := by rfl) (h0 : 0 < d := by decide) (hd : d < 2 ^ 31 := by decide) : nI a - nI a / D * D = nI (a % d) := by
  rw [hD]
  exact pk_rem (by omega) h0 hd
theorem ge_div {a : Nat} (d : Nat) {D : Int32} (h : a < 1000000) (hD : D = nI d := by rfl) (h0 : 0 < d := by decide) (hd : d < 2 ^ 31 := by decide) : nI a / D = nI (a / d) := by
  rw [hD]
  exact pk_div (by omega) h0 hd
theorem ge_d {W : Nat} (h : W < 65536) : nI W / 16 - nI W / 16 / 4 * 4 = nI (W / 16 % 4) := by
  rw [ge_div 16 (by omega)]
  exact ge_rem 4 (by omega)
theorem ge_s {W : Nat} (h : W < 65536) : nI W / 64 - nI W / 64 / 4 * 4 = nI (W / 64 % 4) := by
  rw [ge_div 64 (by omega)]
  exact ge_rem 4 (by omega)
theorem gl_lt {a b : Nat} {x y : Int32} (hx : x = nI a := by rfl) (hy : y = nI b := by rfl) (ha : a < 2 ^ 31 := by omega) (hb : b < 2 ^ 31 := by omega) : x < y ↔ a < b := by
  subst hx hy
  exact nI_ltI ha hb
theorem gl_le {a b : Nat} {x y : Int32} (hx : x = nI a := by rfl) (hy : y = nI b := by rfl) (ha : a < 2 ^ 31 := by omega) (hb : b < 2 ^ 31 := by omega) : x ≤ y ↔ a ≤ b := by
  subst hx hy
  exact nI_leI ha hb
theorem gl_eq {a b : Nat} {x y : Int32} (hx : x = nI a := by rfl) (hy : y = nI b := by rfl) (ha : a < 2 ^ 31 := by omega) (hb : b < 2 ^ 31 := by omega) : x = y ↔ a = b := by
  subst hx hy
  exact nI_eq ha hb
/-! the bits in opposite order -/
def gr_x (y : Nat) : Nat → Nat
  | 0 => 0
  | k + 1 => 2 * gr_x y k + y / 2 ^ k % 2
def gr_y (y : Nat) : Nat → Nat
  | 0 => 0
  | k + 1 => if y / 2 ^ k % 2 = 1 then gr_y y k ||| 128 / 2 ^ k else gr_y y k
theorem gr_e : ∀ y, y < 256 → gr_x y 8 = gr_y y 8 := by decide +kernel
theorem gr_b : ∀ y, y < 256 → gr_x y 8 < 256 := by decide +kernel
theorem gr_lx {y k : Nat} (hk : k ≤ 8) : gr_x y k < 2 ^ k := by
  induction k with
  | zero => exact Nat.zero_lt_one
  | succ k ih =>
    have := ih (by omega)
    have e : gr_x y (k + 1) = 2 * gr_x y k + y / 2 ^ k % 2 := rfl
    rw [e, Nat.pow_succ]
    have hq : y / 2 ^ k % 2 < 2 := Nat.mod_lt _ (by decide)
    generalize y / 2 ^ k % 2 = q at *
    generalize 2 ^ k = P at *
    omega
theorem gr_lx' {y k : Nat} (hk : k ≤ 8) : gr_x y k < 256 := Nat.lt_of_lt_of_le (gr_lx hk) (Nat.pow_le_pow_right (by decide) hk)
/-! what the instructions leave -/
def gn_z (v : Nat) : Nat := if v = 0 then 1 else 0
def gn_mov (x y k : Nat) : Nat := if k = 0 then y else if k = 1 then x * y % 256 else if k = 2 then x * y / 256 else gr_x y 8
def gn_c (s : Nat) : Nat := if 255 < s then 1 else 0
def gn_cs (x y : Nat) : Nat := if x < y then 1 else 0
def gn_in (m c : Nat) : Nat := if m % 4 < 2 then 0 else c
def gn_sh (x m c : Nat) : Nat := if m % 2 = 0 then 2 * x % 256 + gn_in m c else x / 2 + 128 * gn_in m c
def gn_sc (x m : Nat) : Nat := if m % 2 = 0 then x / 128 else x % 2
def gn_br (d z c p m : Nat) : Nat := if (if d < 2 then z else c) = 1 - d % 2 then m % 32 else (p + 1) % 32
theorem gn_z_b (v : Nat) : gn_z v ≤ 1 := by unfold gn_z; split <;> omega
theorem gn_c_b (v : Nat) : gn_c v ≤ 1 := by unfold gn_c; split <;> omega
theorem gn_cs_b (v w : Nat) : gn_cs v w ≤ 1 := by unfold gn_cs; split <;> omega
theorem gn_in_b {m c : Nat} (hc : c ≤ 1) : gn_in m c ≤ 1 := by unfold gn_in; split <;> omega
theorem gn_xy {x y : Nat} (hx : x < 256) (hy : y < 256) : x * y < 65536 :=
  Nat.lt_of_le_of_lt (Nat.mul_le_mul (Nat.le_of_lt_succ hx : x ≤ 255) (Nat.le_of_lt_succ hy : y ≤ 255)) (by decide)
theorem gn_mov_b {x y k : Nat} (hx : x < 256) (hy : y < 256) : gn_mov x y k < 256 := by
  have h := gn_xy hx hy
  have h2 := gr_b y hy
  unfold gn_mov
  split
  · exact hy
  · split
    · omega
    · split
      · omega
      · exact h2
theorem gn_sh_b {x m c : Nat} (hx : x < 256) (hc : c ≤ 1) : gn_sh x m c < 256 := by
  have h := gn_in_b (m := m) hc
  unfold gn_sh
  split <;> omega
theorem gn_sc_b {x m : Nat} (hx : x < 256) : gn_sc x m ≤ 1 := by unfold gn_sc; split <;> omega
theorem gn_br_b {d z c p m : Nat} : gn_br d z c p m < 32 := by
  unfold gn_br
  generalize (if d < 2 then z else c) = f
  split <;> omega
theorem gn_and {x y : Nat} (hx : x < 256) : x &&& y < 256 := Nat.lt_of_le_of_lt Nat.and_le_left hx
theorem gn_or {x y : Nat} (hx : x < 256) (hy : y < 256) : x ||| y < 256 := Nat.or_lt_two_pow (n := 8) hx hy
theorem gn_xor {x y : Nat} (hx : x < 256) (hy : y < 256) : x ^^^ y < 256 := Nat.xor_lt_two_pow (n := 8) hx hy
/-- R - S, a byte -/
theorem gn_sub {x y : Nat} (hx : x < 256) (hy : y < 256) : (nI x - nI y) &&& 255 = nI ((x + 256 - y) % 256) := by
  by_cases h : y ≤ x
  · rw [pk_sub h, gd_255 (by omega)]
    exact congrArg nI (by omega)
  · have e : nI x - nI y = nI (x + 4294967296 - y) := by
      have e2 : nI x = nI (x + 4294967296) := by
        rw [← nI_add, show nI 4294967296 = 0 from by decide +kernel, Int32.add_zero]
      rw [e2]
      exact pk_sub (by omega)
    rw [e]
    have e3 : nI (x + 4294967296 - y) &&& 255 = nI ((x + 4294967296 - y) % 2 ^ 8) := pk_andN (by omega) 8 (by decide)
    rw [e3]
    exact congrArg nI (by omega)
theorem gn_sub_lo {x y : Nat} (hx : x < 256) (hy : y < 256) : nI x - nI y < 0 ↔ x < y := by
  rw [Int32.lt_iff_toInt_lt, pk_sub_toInt (by omega) (by omega), show (0 : Int32).toInt = 0 from by decide]
  omega
theorem gn_sub_hi {x y : Nat} (hx : x < 256) (hy : y < 256) : nI x - nI y ≤ 255 := by
  rw [Int32.le_iff_toInt_le, pk_sub_toInt (by omega) (by omega), show (255 : Int32).toInt = 255 from by decide]
  omega
/-! an index beyond the last -/
theorem gi_pos {n : Nat} {x : Int32} (hn : n < 2 ^ 31) (h : nI n ≤ x) : ¬ x < 0 := by
  rw [Int32.le_iff_toInt_le, nI_toInt hn] at h
  rw [Int32.lt_iff_toInt_lt, show (0 : Int32).toInt = 0 from by decide]
  omega
theorem gi_gt {n : Nat} {x : Int32} (hn : n + 1 < 2 ^ 31) (h : nI (n + 1) ≤ x) : nI n < x := by
  rw [Int32.le_iff_toInt_le, nI_toInt hn] at h
  rw [Int32.lt_iff_toInt_lt, nI_toInt (by omega)]
  omega
theorem gi_nlt {n : Nat} {x : Int32} (h : nI n ≤ x) : ¬ x < nI n := Int32.not_lt.mpr h
end
section
/-! the class: its own methods, each with a general post -/
theorem xk_isPosition_t {post : Int32 → Prop} {j : Nat} (hj : j < 32) (H : post 1) : wpX_isPosition post (nI j) := by
  unfold wpX_isPosition
  exact br_f (nI_pos (by omega)) (br_f (nI_ge (b := 32) hj (by decide)) H)
theorem xk_isPosition_f {post : Int32 → Prop} {x : Int32} (hx : x < 0 ∨ nI 32 ≤ x) (H : post 0) : wpX_isPosition post x := by
  unfold wpX_isPosition
  rcases hx with a | a
  · exact br_t a H
  · exact br_f (gi_pos (by decide) a) (br_t (a) H)
theorem xk_isByte_t {post : Int32 → Prop} {j : Nat} (hj : j < 256) (H : post 1) : wpX_isByte post (nI j) := by
  unfold wpX_isByte
  exact br_f (nI_pos (by omega)) (br_f (nI_nlt (a := 255) (by omega) (by decide)) H)
theorem xk_isByte_f {post : Int32 → Prop} {x : Int32} (hx : x < 0 ∨ nI 256 ≤ x) (H : post 0) : wpX_isByte post x := by
  unfold wpX_isByte
  rcases hx with a | a
  · exact br_t a H
  · exact br_f (gi_pos (by decide) a) (br_t (gi_gt (n := 255) (by decide) a) H)
theorem xk_isRegister_t {post : Int32 → Prop} {j : Nat} (hj : j < 4) (H : post 1) : wpX_isRegister post (nI j) := by
  unfold wpX_isRegister
  exact br_f (nI_pos (by omega)) (br_f (nI_ge (b := 4) hj (by decide)) H)
theorem xk_isRegister_f {post : Int32 → Prop} {x : Int32} (hx : x < 0 ∨ nI 4 ≤ x) (H : post 0) : wpX_isRegister post x := by
  unfold wpX_isRegister
  rcases hx with a | a
  · exact br_t a H
  · exact br_f (gi_pos (by decide) a) (br_t (a) H)
theorem xk_isCell_t {post : Int32 → Prop} {j : Nat} (hj : j < 16) (H : post 1) : wpX_isCell post (nI j) := by
  unfold wpX_isCell
  exact br_f (nI_pos (by omega)) (br_f (nI_ge (b := 16) hj (by decide)) H)
theorem xk_isCell_f {post : Int32 → Prop} {x : Int32} (hx : x < 0 ∨ nI 16 ≤ x) (H : post 0) : wpX_isCell post x := by
  unfold wpX_isCell
  rcases hx with a | a
  · exact br_t a H
  · exact br_f (gi_pos (by decide) a) (br_t (a) H)
theorem xk_po {post : Int32 → Prop} {a : Nat} (ha : a < 65536) (H : post (nI (a % 32))) : wpX_positionOf post (nI a) := by
  unfold wpX_positionOf
  rw [gd_31 ha]
  exact H
theorem xk_keep {post : SX → Prop} {z c p l i o t h : Int32} {w r e : Nat → Int32} {d v : Nat} (hd : d < 4) (hv : v < 256) (H : post (nI (gn_z v), c, p, l, i, o, t, h, w, upd r d (nI v), e)) : wpX_keepWithZero post (z, c, p, l, i, o, t, h, w, r, e) (nI d) (nI v) := by
  unfold wpX_keepWithZero
  dsimp only
  refine ⟨vp_in_nI hd (by decide), nm_r (e' := upd r d (nI v)) (by rw [nI_clamp (by omega)]) ?_⟩
  by_cases hz : v = 0
  · subst hz
    rw [show gn_z 0 = 1 from rfl] at H
    exact br_t rfl H
  · rw [show gn_z v = 0 from if_neg hz] at H
    exact br_f (nI_ne0 (by omega) (by omega)) H
theorem xk_sum {post : SX → Prop} {z c p l i o t h : Int32} {w r e : Nat → Int32} {d s : Nat} (hd : d < 4) (hs : s < 1000) (H : post (nI (gn_z (s % 256)), nI (gn_c s), p, l, i, o, t, h, w, upd r d (nI (s % 256)), e)) : wpX_keepSum post (z, c, p, l, i, o, t, h, w, r, e) (nI d) (nI s) := by
  have K : ∀ q : Nat, gn_c s = q → wX_keepSum_13 post (nI d) (nI s) (nI q) z c p l i o t h w r e := by
    intro q hq
    subst hq
    unfold wX_keepSum_13
    rw [gd_255 (by omega)]
    exact xk_keep hd (by omega) H
  unfold wpX_keepSum
  dsimp only
  by_cases hc : s ≤ 255
  · exact br_t (nI_le hc (by decide)) (K 0 (if_neg (by omega)))
  · exact br_f (nI_ge (a := 255) (b := s) (by omega) (by omega)) (K 1 (if_pos (by omega)))
theorem xk_shift {post : SX → Prop} {c : Nat} {z p l i o t h : Int32} {w r e : Nat → Int32} {d x m : Nat} (hd : d < 4) (hx : x < 256) (hm : m < 256) (hc : c ≤ 1) (H : post (nI (gn_z (gn_sh x m c)), nI (gn_sc x m), p, l, i, o, t, h, w, upd r d (nI (gn_sh x m c)), e)) : wpX_doShift post (z, nI c, p, l, i, o, t, h, w, r, e) (nI d) (nI x) (nI m) := by
  have K : ∀ q : Nat, gn_in m c = q → wX_doShift_14 post (nI d) (nI x) (nI m) (nI q) z (nI c) p l i o t h w r e := by
    intro q hq
    have hq1 : q ≤ 1 := hq ▸ gn_in_b hc
    unfold wX_doShift_14
    by_cases hm2 : m % 2 = 0
    · have ev : ((2 * nI x) &&& 255) + nI q = nI (gn_sh x m c) := by
        rw [show (2 : Int32) * nI x = nI (2 * x) from pk_mul 2 x, gd_255 (by omega), nI_add]
        exact congrArg nI (by unfold gn_sh; rw [if_pos hm2, hq])
      refine br_t (by rw [gd_1 (by omega), hm2]; rfl) (nm_r (e' := nI (gn_sc x m)) (by rw [gd_sr7 (by omega)]; exact congrArg nI (if_pos hm2).symm) ?_)
      rw [ev]
      exact xk_keep hd (gn_sh_b hx hc) H
    · have ev : (nI x / 2) + (128 * nI q) = nI (gn_sh x m c) := by
        rw [show (128 : Int32) * nI q = nI (128 * q) from pk_mul 128 q, ge_div 2 (by omega), nI_add]
        exact congrArg nI (by unfold gn_sh; rw [if_neg hm2, hq])
      refine br_f (by rw [gd_1 (by omega)]; exact nI_ne0 (by omega) (by omega)) (nm_r (e' := nI (gn_sc x m)) (by rw [gd_1 (by omega)]; exact congrArg nI (if_neg hm2).symm) ⟨by decide, ?_⟩)
      rw [ev]
      exact xk_keep hd (gn_sh_b hx hc) H
  unfold wpX_doShift
  dsimp only
  by_cases h2 : m % 4 < 2
  · exact br_t (by rw [gd_2 m hm, show m / 2 % 2 * 2 = 0 from by omega]; rfl) (K 0 (if_pos h2))
  · exact br_f (by rw [gd_2 m hm]; exact nI_ne0 (by omega) (by omega)) (K c (if_neg h2))
theorem xk_portI {post : SX → Prop} {z c p l i o t h : Int32} {w r e : Nat → Int32} {d m : Nat} (hd : d < 4) (hm : m < 256) (h2 : m % 2 = 0) (H : post (z, c, p, l, i, o, t, h, w, upd r d i, e)) : wpX_doPort post (z, c, p, l, i, o, t, h, w, r, e) (nI d) (nI m) := by
  unfold wpX_doPort
  dsimp only
  exact br_t (by rw [gd_1 (by omega), h2]; rfl) ⟨vp_in_nI hd (by decide), nm_r (e' := upd r d i) (by rw [nI_clamp (by omega)]) H⟩
theorem xk_portO {post : SX → Prop} {t : Nat} {z c p l i o h : Int32} {w r e : Nat → Int32} {d m x : Nat} (hd : d < 4) (hm : m < 256) (ht : t < 256) (hx : r d = nI x) (h2 : ¬ m % 2 = 0) (H : post (z, c, p, l, i, nI x, nI ((t + 1) % 256), h, w, r, e)) : wpX_doPort post (z, c, p, l, i, o, nI t, h, w, r, e) (nI d) (nI m) := by
  unfold wpX_doPort
  dsimp only
  exact br_f (by rw [gd_1 (by omega)]; exact nI_ne0 (by omega) (by omega)) ⟨vp_in_nI hd (by decide), nm_r (e' := nI x) (by rw [nI_clamp (by omega), hx]) (nm_r (e' := nI ((t + 1) % 256)) (by rw [nI_1 t, gd_255 (by omega)]) H)⟩
theorem xk_br {post : Int32 → Prop} {z c : Nat} {p l i o t h : Int32} {w r e : Nat → Int32} {d : Nat} (hd : d < 4) (hz : z ≤ 1) (hc : c ≤ 1) (H : post (nI (if (if d < 2 then z else c) = 1 - d % 2 then 1 else 0))) : wpX_branchHolds post (nI z, nI c, p, l, i, o, t, h, w, r, e) (nI d) := by
  have d4 : d = 0 ∨ d = 1 ∨ d = 2 ∨ d = 3 := by omega
  have z2 : z = 0 ∨ z = 1 := by omega
  have c2 : c = 0 ∨ c = 1 := by omega
  unfold wpX_branchHolds
  dsimp only
  rcases d4 with rfl | rfl | rfl | rfl
  · rcases z2 with rfl | rfl
    · exact br_f (by decide) (br_f (by decide) (br_t (by decide) (br_f (by decide) H)))
    · exact br_f (by decide) (br_f (by decide) (br_t (by decide) (br_t (by decide) H)))
  · rcases z2 with rfl | rfl
    · exact br_f (by decide) (br_f (by decide) (br_f (by decide) (br_t (by decide) (br_t (by decide) H))))
    · exact br_f (by decide) (br_f (by decide) (br_f (by decide) (br_t (by decide) (br_f (by decide) H))))
  · rcases c2 with rfl | rfl
    · exact br_f (by decide) (br_f (by decide) (br_f (by decide) (br_f (by decide) (br_t (by decide) (br_f (by decide) H)))))
    · exact br_f (by decide) (br_f (by decide) (br_f (by decide) (br_f (by decide) (br_t (by decide) (br_t (by decide) H)))))
  · rcases c2 with rfl | rfl
    · exact br_f (by decide) (br_t (by decide) (br_t (by decide) H))
    · exact br_f (by decide) (br_t (by decide) (br_f (by decide) H))
theorem xk_callL {post : SX → Prop} {z c p l i o t h : Int32} {w r e : Nat → Int32} {m : Nat} {n : Int32} (hm : m < 128) (H : post (z, c, nI (m % 32), n, i, o, t, h, w, r, e)) : wpX_doCall post (z, c, p, l, i, o, t, h, w, r, e) (nI m) n := by
  unfold wpX_doCall
  dsimp only
  exact br_f (nI_ge (b := 128) hm (by decide)) (xk_po (by omega) H)
theorem xk_callH {post : SX → Prop} {z c p l i o t h : Int32} {w r e : Nat → Int32} {m : Nat} {n : Int32} (hm : 128 ≤ m) (hm2 : m < 256) (H : post (z, c, l, l, i, o, t, h, w, r, e)) : wpX_doCall post (z, c, p, l, i, o, t, h, w, r, e) (nI m) n := by
  unfold wpX_doCall
  dsimp only
  exact br_t (nI_le (a := 128) hm (by omega)) H
theorem xk_rev {post : Int32 → Prop} {y : Nat} (hy : y < 256) (H : post (nI (gr_x y 8))) : ∀ d k : Nat, k + d = 8 → wX_reversed_4 post (nI y) (d + 1) (nI (gr_x y k)) (nI k) := by
  intro d
  induction d with
  | zero =>
    intro k hk
    have hk8 : k = 8 := by omega
    subst hk8
    exact br_t (nI_le (a := 8) (b := 8) (by omega) (by decide)) H
  | succ d ih =>
    intro k hk
    have hb : y / 2 ^ k < 65536 := Nat.lt_of_le_of_lt (Nat.div_le_self _ _) (by omega)
    refine br_f (nI_ge (b := 8) (by omega) (by decide)) (nm_r (e' := nI (gr_x y (k + 1))) ?_ (nm_r (nI_1 k) (ih (k + 1) (by omega))))
    rw [gd_srk (by omega) (by omega), gd_1 hb, show (2 : Int32) * nI (gr_x y k) = nI (2 * gr_x y k) from pk_mul 2 _, nI_add]
    exact rfl
theorem xk_reversed {post : Int32 → Prop} {y : Nat} (hy : y < 256) (H : post (nI (gr_x y 8))) : wpX_reversed post (nI y) := ⟨9, xk_rev hy H 8 0 rfl⟩
theorem xk_moved {post : Int32 → Prop} {x y k : Nat} (hx : x < 256) (hy : y < 256) (hk : k < 4) (H : post (nI (gn_mov x y k))) : wpX_moved post (nI x) (nI y) (nI k) := by
  have hxy := gn_xy hx hy
  have k4 : k = 0 ∨ k = 1 ∨ k = 2 ∨ k = 3 := by omega
  unfold wpX_moved
  rcases k4 with rfl | rfl | rfl | rfl
  · exact br_f (by decide) (br_f (by decide) (br_t (by decide) (H)))
  · refine br_f (by decide) (br_f (by decide) (br_f (by decide) (br_t (by decide) ?_)))
    rw [pk_mul, gd_255 (by omega)]
    exact H
  · refine br_f (by decide) (br_f (by decide) (br_f (by decide) (br_f (by decide) (br_t (by decide) ?_))))
    rw [pk_mul, gd_sr8 (by omega)]
    exact H
  · exact br_f (by decide) (br_t (by decide) (xk_reversed hy H))
end
section
/-! the class: the data operations -/
theorem xd_1 {post : SX → Prop} {c t : Nat} {z p l i o h : Int32} {w r e : Nat → Int32} {d s m x y : Nat} (hd : d < 4) (hs : s < 4) (hm : m < 256) (hc : c ≤ 1) (ht : t < 256) (hx : r d = nI x) (hy : r s = nI y) (bx : x < 256) (bY : y < 256) (H : post (z, nI c, p, l, i, o, nI t, h, w, upd r d (nI m), e)) : wpX_doData post (z, nI c, p, l, i, o, nI t, h, w, r, e) (nI 1) (nI d) (nI s) (nI m) := by
  unfold wpX_doData
  dsimp only
  refine ⟨vp_in_nI hd (by decide), nm_r (e' := nI x) (by rw [nI_clamp (by omega), hx]) ⟨vp_in_nI hs (by decide), nm_r (e' := nI y) (by rw [nI_clamp (by omega), hy]) (nm_e ?_)⟩⟩
  exact br_f (by decide) (br_f (by decide) (br_t (by decide) ⟨vp_in_nI hd (by decide), nm_r (e' := upd r d (nI m)) (by rw [nI_clamp (by omega)]) H⟩))
theorem xd_2 {post : SX → Prop} {c t : Nat} {z p l i o h : Int32} {w r e : Nat → Int32} {d s m x y : Nat} (hd : d < 4) (hs : s < 4) (hm : m < 256) (hc : c ≤ 1) (ht : t < 256) (hx : r d = nI x) (hy : r s = nI y) (bx : x < 256) (bY : y < 256) (H : post (z, nI c, p, l, i, o, nI t, h, w, upd r d (nI (gn_mov x y (m % 4))), e)) : wpX_doData post (z, nI c, p, l, i, o, nI t, h, w, r, e) (nI 2) (nI d) (nI s) (nI m) := by
  unfold wpX_doData
  dsimp only
  refine ⟨vp_in_nI hd (by decide), nm_r (e' := nI x) (by rw [nI_clamp (by omega), hx]) ⟨vp_in_nI hs (by decide), nm_r (e' := nI y) (by rw [nI_clamp (by omega), hy]) (nm_e ?_)⟩⟩
  refine br_f (by decide) (br_f (by decide) (br_f (by decide) (br_t (by decide) ?_)))
  rw [gd_3 (by omega)]
  exact xk_moved bx bY (by omega) ⟨vp_in_nI hd (by decide), nm_r (e' := upd r d (nI (gn_mov x y (m % 4)))) (by rw [nI_clamp (by omega)]) H⟩
theorem xd_3 {post : SX → Prop} {c t : Nat} {z p l i o h : Int32} {w r e : Nat → Int32} {d s m x y : Nat} (hd : d < 4) (hs : s < 4) (hm : m < 256) (hc : c ≤ 1) (ht : t < 256) (hx : r d = nI x) (hy : r s = nI y) (bx : x < 256) (bY : y < 256) (H : post (nI (gn_z ((x + y) % 256)), nI (gn_c (x + y)), p, l, i, o, nI t, h, w, upd r d (nI ((x + y) % 256)), e)) : wpX_doData post (z, nI c, p, l, i, o, nI t, h, w, r, e) (nI 3) (nI d) (nI s) (nI m) := by
  unfold wpX_doData
  dsimp only
  refine ⟨vp_in_nI hd (by decide), nm_r (e' := nI x) (by rw [nI_clamp (by omega), hx]) ⟨vp_in_nI hs (by decide), nm_r (e' := nI y) (by rw [nI_clamp (by omega), hy]) (nm_e ?_)⟩⟩
  refine br_f (by decide) (br_f (by decide) (br_f (by decide) (br_f (by decide) (br_t (by decide) ?_))))
  rw [nI_add]
  exact xk_sum hd (by omega) H
theorem xd_4 {post : SX → Prop} {c t : Nat} {z p l i o h : Int32} {w r e : Nat → Int32} {d s m x y : Nat} (hd : d < 4) (hs : s < 4) (hm : m < 256) (hc : c ≤ 1) (ht : t < 256) (hx : r d = nI x) (hy : r s = nI y) (bx : x < 256) (bY : y < 256) (H : post (nI (gn_z ((x + y + c) % 256)), nI (gn_c (x + y + c)), p, l, i, o, nI t, h, w, upd r d (nI ((x + y + c) % 256)), e)) : wpX_doData post (z, nI c, p, l, i, o, nI t, h, w, r, e) (nI 4) (nI d) (nI s) (nI m) := by
  unfold wpX_doData
  dsimp only
  refine ⟨vp_in_nI hd (by decide), nm_r (e' := nI x) (by rw [nI_clamp (by omega), hx]) ⟨vp_in_nI hs (by decide), nm_r (e' := nI y) (by rw [nI_clamp (by omega), hy]) (nm_e ?_)⟩⟩
  refine br_f (by decide) (br_f (by decide) (br_f (by decide) (br_f (by decide) (br_f (by decide) (br_t (by decide) ?_)))))
  rw [nI_add, nI_add]
  exact xk_sum hd (by omega) H
theorem xd_5 {post : SX → Prop} {c t : Nat} {z p l i o h : Int32} {w r e : Nat → Int32} {d s m x y : Nat} (hd : d < 4) (hs : s < 4) (hm : m < 256) (hc : c ≤ 1) (ht : t < 256) (hx : r d = nI x) (hy : r s = nI y) (bx : x < 256) (bY : y < 256) (H : post (nI (gn_z ((x + 256 - y) % 256)), nI (gn_cs x y), p, l, i, o, nI t, h, w, upd r d (nI ((x + 256 - y) % 256)), e)) : wpX_doData post (z, nI c, p, l, i, o, nI t, h, w, r, e) (nI 5) (nI d) (nI s) (nI m) := by
  unfold wpX_doData
  dsimp only
  refine ⟨vp_in_nI hd (by decide), nm_r (e' := nI x) (by rw [nI_clamp (by omega), hx]) ⟨vp_in_nI hs (by decide), nm_r (e' := nI y) (by rw [nI_clamp (by omega), hy]) (nm_e ?_)⟩⟩
  refine br_f (by decide) (br_f (by decide) (br_f (by decide) (br_f (by decide) (br_f (by decide) (br_f (by decide) (br_t (by decide) ?_))))))
  have K : ∀ q : Nat, gn_cs x y = q → wX_doData_175 post (nI d) (nI x) (nI y) (nI q) z (nI c) p l i o (nI t) h w r e := by
    intro q hq
    subst hq
    unfold wX_doData_175
    rw [gn_sub bx bY]
    exact xk_keep hd (by omega) H
  by_cases hxy : y ≤ x
  · exact br_t (nI_le hxy (by omega)) (K 0 (if_neg (by omega)))
  · exact br_f (nI_ge (by omega) (by omega)) (K 1 (if_pos (by omega)))
theorem xd_6 {post : SX → Prop} {c t : Nat} {z p l i o h : Int32} {w r e : Nat → Int32} {d s m x y : Nat} (hd : d < 4) (hs : s < 4) (hm : m < 256) (hc : c ≤ 1) (ht : t < 256) (hx : r d = nI x) (hy : r s = nI y) (bx : x < 256) (bY : y < 256) (H : post (nI (gn_z (x &&& y)), nI c, p, l, i, o, nI t, h, w, upd r d (nI (x &&& y)), e)) : wpX_doData post (z, nI c, p, l, i, o, nI t, h, w, r, e) (nI 6) (nI d) (nI s) (nI m) := by
  unfold wpX_doData
  dsimp only
  refine ⟨vp_in_nI hd (by decide), nm_r (e' := nI x) (by rw [nI_clamp (by omega), hx]) ⟨vp_in_nI hs (by decide), nm_r (e' := nI y) (by rw [nI_clamp (by omega), hy]) (nm_e ?_)⟩⟩
  refine br_f (by decide) (br_f (by decide) (br_f (by decide) (br_f (by decide) (br_f (by decide) (br_f (by decide) (br_f (by decide) (br_t (by decide) ?_)))))))
  rw [nx_and]
  exact xk_keep hd (gn_and bx) H
theorem xd_7 {post : SX → Prop} {c t : Nat} {z p l i o h : Int32} {w r e : Nat → Int32} {d s m x y : Nat} (hd : d < 4) (hs : s < 4) (hm : m < 256) (hc : c ≤ 1) (ht : t < 256) (hx : r d = nI x) (hy : r s = nI y) (bx : x < 256) (bY : y < 256) (H : post (nI (gn_z (x ||| y)), nI c, p, l, i, o, nI t, h, w, upd r d (nI (x ||| y)), e)) : wpX_doData post (z, nI c, p, l, i, o, nI t, h, w, r, e) (nI 7) (nI d) (nI s) (nI m) := by
  unfold wpX_doData
  dsimp only
  refine ⟨vp_in_nI hd (by decide), nm_r (e' := nI x) (by rw [nI_clamp (by omega), hx]) ⟨vp_in_nI hs (by decide), nm_r (e' := nI y) (by rw [nI_clamp (by omega), hy]) (nm_e ?_)⟩⟩
  refine br_f (by decide) (br_f (by decide) (br_f (by decide) (br_f (by decide) (br_f (by decide) (br_f (by decide) (br_f (by decide) (br_f (by decide) (br_t (by decide) ?_))))))))
  rw [gp_or]
  exact xk_keep hd (gn_or bx bY) H
theorem xd_8 {post : SX → Prop} {c t : Nat} {z p l i o h : Int32} {w r e : Nat → Int32} {d s m x y : Nat} (hd : d < 4) (hs : s < 4) (hm : m < 256) (hc : c ≤ 1) (ht : t < 256) (hx : r d = nI x) (hy : r s = nI y) (bx : x < 256) (bY : y < 256) (H : post (nI (gn_z (x ^^^ y)), nI c, p, l, i, o, nI t, h, w, upd r d (nI (x ^^^ y)), e)) : wpX_doData post (z, nI c, p, l, i, o, nI t, h, w, r, e) (nI 8) (nI d) (nI s) (nI m) := by
  unfold wpX_doData
  dsimp only
  refine ⟨vp_in_nI hd (by decide), nm_r (e' := nI x) (by rw [nI_clamp (by omega), hx]) ⟨vp_in_nI hs (by decide), nm_r (e' := nI y) (by rw [nI_clamp (by omega), hy]) (nm_e ?_)⟩⟩
  refine br_f (by decide) (br_f (by decide) (br_f (by decide) (br_f (by decide) (br_f (by decide) (br_f (by decide) (br_f (by decide) (br_f (by decide) (br_f (by decide) (br_t (by decide) ?_)))))))))
  rw [nx_xor]
  exact xk_keep hd (gn_xor bx bY) H
theorem xd_9 {post : SX → Prop} {c t : Nat} {z p l i o h : Int32} {w r e : Nat → Int32} {d s m x y : Nat} (hd : d < 4) (hs : s < 4) (hm : m < 256) (hc : c ≤ 1) (ht : t < 256) (hx : r d = nI x) (hy : r s = nI y) (bx : x < 256) (bY : y < 256) (H : post (nI (gn_z (gn_sh x m c)), nI (gn_sc x m), p, l, i, o, nI t, h, w, upd r d (nI (gn_sh x m c)), e)) : wpX_doData post (z, nI c, p, l, i, o, nI t, h, w, r, e) (nI 9) (nI d) (nI s) (nI m) := by
  unfold wpX_doData
  dsimp only
  refine ⟨vp_in_nI hd (by decide), nm_r (e' := nI x) (by rw [nI_clamp (by omega), hx]) ⟨vp_in_nI hs (by decide), nm_r (e' := nI y) (by rw [nI_clamp (by omega), hy]) (nm_e ?_)⟩⟩
  exact br_f (by decide) (br_f (by decide) (br_f (by decide) (br_f (by decide) (br_f (by decide) (br_f (by decide) (br_f (by decide) (br_f (by decide) (br_f (by decide) (br_f (by decide) (br_t (by decide) (xk_shift hd bx hm hc H)))))))))))
theorem xd_10 {post : SX → Prop} {c t : Nat} {z p l i o h : Int32} {w r e : Nat → Int32} {d s m x y : Nat} (hd : d < 4) (hs : s < 4) (hm : m < 256) (hc : c ≤ 1) (ht : t < 256) (hx : r d = nI x) (hy : r s = nI y) (bx : x < 256) (bY : y < 256) (H : post (z, nI c, p, l, i, o, nI t, h, w, upd r d (e ((y + m) % 16)), e)) : wpX_doData post (z, nI c, p, l, i, o, nI t, h, w, r, e) (nI 10) (nI d) (nI s) (nI m) := by
  unfold wpX_doData
  dsimp only
  refine ⟨vp_in_nI hd (by decide), nm_r (e' := nI x) (by rw [nI_clamp (by omega), hx]) ⟨vp_in_nI hs (by decide), nm_r (e' := nI y) (by rw [nI_clamp (by omega), hy]) (nm_e ?_)⟩⟩
  refine br_f (by decide) (br_f (by decide) (br_f (by decide) (br_f (by decide) (br_f (by decide) (br_f (by decide) (br_f (by decide) (br_f (by decide) (br_f (by decide) (br_f (by decide) (br_f (by decide) (br_t (by decide) ?_)))))))))))
  have hq : (y + m) % 16 < 16 := by omega
  rw [nI_add, gd_15 (by omega)]
  exact ⟨vp_in_nI hq (by decide), vp_in_nI hd (by decide), nm_r (e' := upd r d (e ((y + m) % 16))) (by rw [nI_clamp (by omega), nI_clamp (by omega)]) H⟩
theorem xd_11 {post : SX → Prop} {c t : Nat} {z p l i o h : Int32} {w r e : Nat → Int32} {d s m x y : Nat} (hd : d < 4) (hs : s < 4) (hm : m < 256) (hc : c ≤ 1) (ht : t < 256) (hx : r d = nI x) (hy : r s = nI y) (bx : x < 256) (bY : y < 256) (H : post (z, nI c, p, l, i, o, nI t, h, w, r, upd e ((y + m) % 16) (nI x))) : wpX_doData post (z, nI c, p, l, i, o, nI t, h, w, r, e) (nI 11) (nI d) (nI s) (nI m) := by
  unfold wpX_doData
  dsimp only
  refine ⟨vp_in_nI hd (by decide), nm_r (e' := nI x) (by rw [nI_clamp (by omega), hx]) ⟨vp_in_nI hs (by decide), nm_r (e' := nI y) (by rw [nI_clamp (by omega), hy]) (nm_e ?_)⟩⟩
  refine br_f (by decide) (br_f (by decide) (br_f (by decide) (br_f (by decide) (br_f (by decide) (br_f (by decide) (br_f (by decide) (br_f (by decide) (br_f (by decide) (br_f (by decide) (br_f (by decide) (br_f (by decide) (br_t (by decide) ?_))))))))))))
  have hq : (y + m) % 16 < 16 := by omega
  rw [nI_add, gd_15 (by omega)]
  exact ⟨vp_in_nI hq (by decide), nm_r (e' := upd e ((y + m) % 16) (nI x)) (by rw [nI_clamp (by omega)]) H⟩
theorem xd_15i {post : SX → Prop} {c t : Nat} {z p l i o h : Int32} {w r e : Nat → Int32} {d s m x y : Nat} (hd : d < 4) (hs : s < 4) (hm : m < 256) (hc : c ≤ 1) (ht : t < 256) (hx : r d = nI x) (hy : r s = nI y) (bx : x < 256) (bY : y < 256) (h2 : m % 2 = 0) (H : post (z, nI c, p, l, i, o, nI t, h, w, upd r d i, e)) : wpX_doData post (z, nI c, p, l, i, o, nI t, h, w, r, e) (nI 15) (nI d) (nI s) (nI m) := by
  unfold wpX_doData
  dsimp only
  refine ⟨vp_in_nI hd (by decide), nm_r (e' := nI x) (by rw [nI_clamp (by omega), hx]) ⟨vp_in_nI hs (by decide), nm_r (e' := nI y) (by rw [nI_clamp (by omega), hy]) (nm_e ?_)⟩⟩
  exact br_f (by decide) (br_f (by decide) (br_f (by decide) (br_f (by decide) (br_f (by decide) (br_f (by decide) (br_f (by decide) (br_f (by decide) (br_f (by decide) (br_f (by decide) (br_f (by decide) (br_f (by decide) (br_f (by decide) (br_f (by decide) (br_f (by decide) (br_f (by decide) (br_t (by decide) (xk_portI hd hm h2 H)))))))))))))))))
theorem xd_15o {post : SX → Prop} {c t : Nat} {z p l i o h : Int32} {w r e : Nat → Int32} {d s m x y : Nat} (hd : d < 4) (hs : s < 4) (hm : m < 256) (hc : c ≤ 1) (ht : t < 256) (hx : r d = nI x) (hy : r s = nI y) (bx : x < 256) (bY : y < 256) (h2 : ¬ m % 2 = 0) (H : post (z, nI c, p, l, i, nI x, nI ((t + 1) % 256), h, w, r, e)) : wpX_doData post (z, nI c, p, l, i, o, nI t, h, w, r, e) (nI 15) (nI d) (nI s) (nI m) := by
  unfold wpX_doData
  dsimp only
  refine ⟨vp_in_nI hd (by decide), nm_r (e' := nI x) (by rw [nI_clamp (by omega), hx]) ⟨vp_in_nI hs (by decide), nm_r (e' := nI y) (by rw [nI_clamp (by omega), hy]) (nm_e ?_)⟩⟩
  exact br_f (by decide) (br_f (by decide) (br_f (by decide) (br_f (by decide) (br_f (by decide) (br_f (by decide) (br_f (by decide) (br_f (by decide) (br_f (by decide) (br_f (by decide) (br_f (by decide) (br_f (by decide) (br_f (by decide) (br_f (by decide) (br_f (by decide) (br_f (by decide) (br_t (by decide) (xk_portO hd hm ht hx h2 H)))))))))))))))))
end
section
/-! the reference: its own methods -/
theorem yk_isByte_t {post : Int32 → Prop} {z c p l i o t h : Int32} {w r e : Nat → Int32} {j : Nat} (hj : j < 256) (H : post 1) : wpY_isByte post (z, c, p, l, i, o, t, h, w, r, e) (nI j) := by
  unfold wpY_isByte
  exact br_f (nI_pos (by omega)) (br_f (nI_nlt (a := 255) (by omega) (by decide)) H)
theorem yk_isByte_f {post : Int32 → Prop} {z c p l i o t h : Int32} {w r e : Nat → Int32} {x : Int32} (hx : x < 0 ∨ nI 256 ≤ x) (H : post 0) : wpY_isByte post (z, c, p, l, i, o, t, h, w, r, e) x := by
  unfold wpY_isByte
  rcases hx with a | a
  · exact br_t a H
  · exact br_f (gi_pos (by decide) a) (br_t (gi_gt (n := 255) (by decide) a) H)
theorem yk_isRegister_t {post : Int32 → Prop} {z c p l i o t h : Int32} {w r e : Nat → Int32} {j : Nat} (hj : j < 4) (H : post 1) : wpY_isRegister post (z, c, p, l, i, o, t, h, w, r, e) (nI j) := by
  unfold wpY_isRegister
  exact br_f (nI_pos (by omega)) (br_f (nI_nlt (a := 3) (by omega) (by decide)) H)
theorem yk_isRegister_f {post : Int32 → Prop} {z c p l i o t h : Int32} {w r e : Nat → Int32} {x : Int32} (hx : x < 0 ∨ nI 4 ≤ x) (H : post 0) : wpY_isRegister post (z, c, p, l, i, o, t, h, w, r, e) x := by
  unfold wpY_isRegister
  rcases hx with a | a
  · exact br_t a H
  · exact br_f (gi_pos (by decide) a) (br_t (gi_gt (n := 3) (by decide) a) H)
theorem yk_zero {post : SY → Prop} {z c p l i o t h : Int32} {w r e : Nat → Int32} {v : Nat} (hv : v < 256) (H : post (nI (gn_z v), c, p, l, i, o, t, h, w, r, e)) : wpY_setZero post (z, c, p, l, i, o, t, h, w, r, e) (nI v) := by
  unfold wpY_setZero
  dsimp only
  by_cases hz : v = 0
  · subst hz
    rw [show gn_z 0 = 1 from rfl] at H
    exact br_t rfl H
  · rw [show gn_z v = 0 from if_neg hz] at H
    exact br_f (nI_ne0 (by omega) (by omega)) H
theorem yk_125 {post : SY → Prop} {z c p l i o t h : Int32} {w r e : Nat → Int32} {d v : Nat} (hd : d < 4) (hv : v < 256) (H : post (nI (gn_z v), c, p, l, i, o, t, h, w, upd r d (nI v), e)) : wY_work_125 post (nI d) (nI v) z c p l i o t h w r e := by
  unfold wY_work_125
  exact ⟨vp_in_nI hd (by decide), nm_r (e' := upd r d (nI v)) (by rw [nI_clamp (by omega)]) (yk_zero hv H)⟩
theorem yk_c30 {post : Int32 → SY → Prop} {z c p l i o t h : Int32} {w r e : Nat → Int32} {s : Nat} (hs : s < 1000) (H : post (nI (s % 256)) (z, nI (gn_c s), p, l, i, o, t, h, w, r, e)) : wY_calculated_30 post (nI s) z c p l i o t h w r e := by
  unfold wY_calculated_30
  rw [gd_255 (by omega)]
  by_cases hc : 255 < s
  · rw [show gn_c s = 1 from if_pos hc] at H
    exact br_t (nI_lt (a := 255) hc (by omega)) H
  · rw [show gn_c s = 0 from if_neg hc] at H
    exact br_f (nI_nlt (a := 255) (by omega) (by decide)) (br_t (nI_pos' (by omega)) H)
theorem yk_c30s {post : Int32 → SY → Prop} {z c p l i o t h : Int32} {w r e : Nat → Int32} {x y : Nat} (bx : x < 256) (bY : y < 256) (H : post (nI ((x + 256 - y) % 256)) (z, nI (gn_cs x y), p, l, i, o, t, h, w, r, e)) : wY_calculated_30 post (nI x - nI y) z c p l i o t h w r e := by
  unfold wY_calculated_30
  rw [gn_sub bx bY]
  refine br_f (Int32.not_lt.mpr (gn_sub_hi bx bY)) ?_
  by_cases hc : x < y
  · rw [show gn_cs x y = 1 from if_pos hc] at H
    exact br_f (Int32.not_le.mpr ((gn_sub_lo bx bY).mpr hc)) H
  · rw [show gn_cs x y = 0 from if_neg hc] at H
    exact br_t (Int32.not_lt.mp (fun a => hc ((gn_sub_lo bx bY).mp a))) H
theorem yk_shift {post : Int32 → SY → Prop} {c : Nat} {z p l i o t h : Int32} {w r e : Nat → Int32} {x m : Nat} (hx : x < 256) (hm : m < 256) (hc : c ≤ 1) (H : post (nI (gn_sh x m c)) (z, nI (gn_sc x m), p, l, i, o, t, h, w, r, e)) : wpY_shifted post (z, nI c, p, l, i, o, t, h, w, r, e) (nI x) (nI m) := by
  have K : ∀ q : Nat, gn_in m c = q → wY_shifted_15 post (nI x) (nI m) (nI q) z (nI c) p l i o t h w r e := by
    intro q hq
    have hq1 : q ≤ 1 := hq ▸ gn_in_b hc
    unfold wY_shifted_15 wY_shifted_27 wY_shifted_46
    by_cases hm2 : m % 2 = 0
    · refine ⟨by decide, br_t (by rw [ge_rem 2 (by omega), hm2]; rfl) (br_f (by decide) ⟨by decide, br_f (by decide) ⟨by decide, ?_⟩⟩)⟩
      have ev : ((2 * nI x) - (2 * nI x) / 256 * 256) + nI q = nI (gn_sh x m c) := by
        rw [show (2 : Int32) * nI x = nI (2 * x) from pk_mul 2 x, ge_rem 256 (by omega), nI_add]
        exact congrArg nI (by unfold gn_sh; rw [if_pos hm2, hq])
      rw [ev, ge_div 128 (by omega), show x / 128 = gn_sc x m from (if_pos hm2).symm]
      exact H
    · refine ⟨by decide, br_f (by rw [ge_rem 2 (by omega)]; exact nI_ne0 (by omega) (by omega)) (br_t rfl ⟨by decide, br_t rfl ⟨by decide, ?_⟩⟩)⟩
      have ev : (nI x / 2) + (128 * nI q) = nI (gn_sh x m c) := by
        rw [show (128 : Int32) * nI q = nI (128 * q) from pk_mul 128 q, ge_div 2 (by omega), nI_add]
        exact congrArg nI (by unfold gn_sh; rw [if_neg hm2, hq])
      have ec : nI x - nI x / 2 * 2 = nI (gn_sc x m) := by
        rw [ge_rem 2 (by omega)]
        exact congrArg nI (if_neg hm2).symm
      rw [ev, ec]
      exact H
  unfold wpY_shifted
  dsimp only
  refine ⟨by decide, ?_⟩
  rw [ge_rem 4 (by omega)]
  by_cases h2 : m % 4 < 2
  · exact br_t (nI_lt (b := 2) h2 (by decide)) (K 0 (if_pos h2))
  · exact br_f (nI_nlt (b := 2) (by omega) (by omega)) (K c (if_neg h2))
theorem yk_tur {post : Int32 → Prop} {z c p l i o t h : Int32} {w r e : Nat → Int32} {y : Nat} (hy : y < 256) (H : post (nI (gr_y y 8))) : ∀ d k : Nat, k + d = 8 → wY_turned_4 post (nI y) z c p l i o t h w r e (d + 1) (nI (gr_y y k)) (nI k) := by
  intro d
  induction d with
  | zero =>
    intro k hk
    have hk8 : k = 8 := by omega
    subst hk8
    exact br_t (nI_le (a := 8) (b := 8) (by omega) (by decide)) H
  | succ d ih =>
    intro k hk
    have hb : y / 2 ^ k < 65536 := Nat.lt_of_le_of_lt (Nat.div_le_self _ _) (by omega)
    have eb : (nI y >>> (nI k &&& 31)) &&& 1 = nI (y / 2 ^ k % 2) := by rw [gd_srk (by omega) (by omega), gd_1 hb]
    have ih' := ih (k + 1) (by omega)
    refine br_f (nI_ge (b := 8) (by omega) (by decide)) ?_
    by_cases hq : y / 2 ^ k % 2 = 1
    · refine br_t (by rw [eb, hq]; rfl) (nm_r (e' := nI (gr_y y (k + 1))) ?_ (nm_r (nI_1 k) ih'))
      rw [show (128 : Int32) >>> (nI k &&& 31) = nI (128 / 2 ^ k) from gd_srk (a := 128) (by omega) (by omega), gp_or]
      exact congrArg nI (if_pos hq).symm
    · have e2 : gr_y y (k + 1) = gr_y y k := if_neg hq
      rw [e2] at ih'
      have hl : y / 2 ^ k % 2 < 2 := Nat.mod_lt _ (by decide)
      exact br_f (by rw [eb]; intro a; exact hq ((nI_eq (b := 1) (by omega) (by omega)).mp a)) (nm_r (nI_1 k) ih')
theorem yk_turned {post : Int32 → Prop} {z c p l i o t h : Int32} {w r e : Nat → Int32} {y : Nat} (hy : y < 256) (H : post (nI (gr_x y 8))) : wpY_turned post (z, c, p, l, i, o, t, h, w, r, e) (nI y) := by
  rw [gr_e y hy] at H
  exact ⟨9, yk_tur hy H 8 0 rfl⟩
theorem yk_moved {post : Int32 → Prop} {z c p l i o t h : Int32} {w r e : Nat → Int32} {x y k : Nat} (hx : x < 256) (hy : y < 256) (hk : k < 4) (H : post (nI (gn_mov x y k))) : wpY_moved post (z, c, p, l, i, o, t, h, w, r, e) (nI x) (nI y) (nI k) := by
  have hxy := gn_xy hx hy
  have k4 : k = 0 ∨ k = 1 ∨ k = 2 ∨ k = 3 := by omega
  unfold wpY_moved
  dsimp only
  rcases k4 with rfl | rfl | rfl | rfl
  · exact br_t (by decide) (H)
  · refine br_f (by decide) (br_t (by decide) ?_)
    rw [pk_mul, gd_255 (by omega)]
    exact H
  · refine br_f (by decide) (br_f (by decide) (br_t (by decide) ⟨by decide, ?_⟩))
    rw [pk_mul, ge_div 256 (by omega)]
    exact H
  · exact br_f (by decide) (br_f (by decide) (br_f (by decide) (yk_turned hy H)))
theorem yf_0 {post : Int32 → Prop} {p : Nat} {z c l i o t h : Int32} {w r e : Nat → Int32} {d m : Nat} (hp : p < 32) (hm : m < 256) (H : post (nI p)) : wpY_following post (z, c, nI p, l, i, o, t, h, w, r, e) (nI 0) (nI d) (nI m) := by
  unfold wpY_following
  dsimp only
  refine ⟨by decide, nm_r (e' := nI ((p + 1) % 32)) (by rw [nI_1 p, ge_rem 32 (by omega)]) ⟨by decide, nm_r (e' := nI (m % 32)) (by rw [ge_rem 32 (by omega)]) ?_⟩⟩
  exact br_t rfl H
theorem yf_12 {post : Int32 → Prop} {p : Nat} {z c l i o t h : Int32} {w r e : Nat → Int32} {d m : Nat} (hp : p < 32) (hm : m < 256) (H : post (nI (m % 32))) : wpY_following post (z, c, nI p, l, i, o, t, h, w, r, e) (nI 12) (nI d) (nI m) := by
  unfold wpY_following
  dsimp only
  refine ⟨by decide, nm_r (e' := nI ((p + 1) % 32)) (by rw [nI_1 p, ge_rem 32 (by omega)]) ⟨by decide, nm_r (e' := nI (m % 32)) (by rw [ge_rem 32 (by omega)]) ?_⟩⟩
  exact br_f (by decide) (br_f (by decide) (br_t (by decide) (H)))
theorem yf_14L {post : Int32 → Prop} {p : Nat} {z c l i o t h : Int32} {w r e : Nat → Int32} {d m : Nat} (hp : p < 32) (hm : m < 256) (h2 : m < 128) (H : post (nI (m % 32))) : wpY_following post (z, c, nI p, l, i, o, t, h, w, r, e) (nI 14) (nI d) (nI m) := by
  unfold wpY_following
  dsimp only
  refine ⟨by decide, nm_r (e' := nI ((p + 1) % 32)) (by rw [nI_1 p, ge_rem 32 (by omega)]) ⟨by decide, nm_r (e' := nI (m % 32)) (by rw [ge_rem 32 (by omega)]) ?_⟩⟩
  exact br_f (by decide) (br_f (by decide) (br_f (by decide) (br_t (by decide) (br_f (nI_ge (b := 128) h2 (by decide)) H))))
theorem yf_14H {post : Int32 → Prop} {p : Nat} {z c l i o t h : Int32} {w r e : Nat → Int32} {d m : Nat} (hp : p < 32) (hm : m < 256) (h2 : 128 ≤ m) (H : post (l)) : wpY_following post (z, c, nI p, l, i, o, t, h, w, r, e) (nI 14) (nI d) (nI m) := by
  unfold wpY_following
  dsimp only
  refine ⟨by decide, nm_r (e' := nI ((p + 1) % 32)) (by rw [nI_1 p, ge_rem 32 (by omega)]) ⟨by decide, nm_r (e' := nI (m % 32)) (by rw [ge_rem 32 (by omega)]) ?_⟩⟩
  exact br_f (by decide) (br_f (by decide) (br_f (by decide) (br_t (by decide) (br_t (nI_le (a := 128) h2 (by omega)) H))))
theorem yf_n {post : Int32 → Prop} {p : Nat} {z c l i o t h : Int32} {w r e : Nat → Int32} {d m : Nat} (hp : p < 32) (hm : m < 256) {op : Nat} (ho : op < 16) (h0 : ¬ op = 0) (h1 : ¬ op = 12) (h2 : ¬ op = 13) (h3 : ¬ op = 14) (H : post (nI ((p + 1) % 32))) : wpY_following post (z, c, nI p, l, i, o, t, h, w, r, e) (nI op) (nI d) (nI m) := by
  unfold wpY_following
  dsimp only
  refine ⟨by decide, nm_r (e' := nI ((p + 1) % 32)) (by rw [nI_1 p, ge_rem 32 (by omega)]) ⟨by decide, nm_r (e' := nI (m % 32)) (by rw [ge_rem 32 (by omega)]) ?_⟩⟩
  have K : ∀ q : Nat, q < 16 → ¬ op = q → ¬ nI op = nI q := fun q hq ho2 a => ho2 ((nI_eq (by omega) (by omega)).mp a)
  exact br_f (K 0 (by omega) h0) (br_f (K 13 (by omega) h2) (br_f (K 12 (by omega) h1) (br_f (K 14 (by omega) h3) H)))
theorem yf_48 {post : Int32 → Prop} {z c p l i o t h : Int32} {w r e : Nat → Int32} {f d a b : Nat} (hf : f ≤ 1) (hd : d < 4) (H : post (nI (if f = 1 - d % 2 then b else a))) : wY_following_48 post (nI d) (nI a) (nI b) (nI f) z c p l i o t h w r e := by
  unfold wY_following_48
  have e1 : (1 : Int32) - (nI d - nI d / 2 * 2) = nI (1 - d % 2) := by
    rw [ge_rem 2 (by omega)]
    exact pk_sub (a := 1) (by omega)
  rw [e1]
  refine ⟨by decide, ?_⟩
  by_cases hq : f = 1 - d % 2
  · rw [if_pos hq] at H
    exact br_t (congrArg nI hq) H
  · rw [if_neg hq] at H
    exact br_f (fun a2 => hq ((nI_eq (by omega) (by omega)).mp a2)) H
theorem yf_13 {post : Int32 → Prop} {z c p : Nat} {l i o t h : Int32} {w r e : Nat → Int32} {d m : Nat} (hp : p < 32) (hm : m < 256) (hd : d < 4) (hz : z ≤ 1) (hc : c ≤ 1) (H : post (nI (gn_br d z c p m))) : wpY_following post (nI z, nI c, nI p, l, i, o, t, h, w, r, e) (nI 13) (nI d) (nI m) := by
  unfold wpY_following
  dsimp only
  refine ⟨by decide, nm_r (e' := nI ((p + 1) % 32)) (by rw [nI_1 p, ge_rem 32 (by omega)]) ⟨by decide, nm_r (e' := nI (m % 32)) (by rw [ge_rem 32 (by omega)]) ?_⟩⟩
  refine br_f (by decide) (br_t (by decide) ?_)
  unfold gn_br at H
  by_cases h2 : d < 2
  · rw [if_pos h2] at H
    exact br_f (nI_ge (b := 2) h2 (by decide)) (yf_48 hz hd H)
  · rw [if_neg h2] at H
    exact br_t (nI_le (a := 2) (by omega) (by omega)) (yf_48 hc hd H)
end
section
/-! the reference: the data operations -/
theorem yd_1 {post : SY → Prop} {c t : Nat} {z p l i o h : Int32} {w r e : Nat → Int32} {d s m x y : Nat} (hd : d < 4) (hs : s < 4) (hm : m < 256) (hc : c ≤ 1) (ht : t < 256) (hx : r d = nI x) (hy : r s = nI y) (bx : x < 256) (bY : y < 256) (H : post (z, nI c, p, l, i, o, nI t, h, w, upd r d (nI m), e)) : wpY_work post (z, nI c, p, l, i, o, nI t, h, w, r, e) (nI 1) (nI d) (nI s) (nI m) := by
  unfold wpY_work
  dsimp only
  refine ⟨vp_in_nI hd (by decide), nm_r (e' := nI x) (by rw [nI_clamp (by omega), hx]) ⟨vp_in_nI hs (by decide), nm_r (e' := nI y) (by rw [nI_clamp (by omega), hy]) ?_⟩⟩
  exact br_f (by decide) (br_t (by decide) ⟨vp_in_nI hd (by decide), nm_r (e' := upd r d (nI m)) (by rw [nI_clamp (by omega)]) H⟩)
theorem yd_2 {post : SY → Prop} {c t : Nat} {z p l i o h : Int32} {w r e : Nat → Int32} {d s m x y : Nat} (hd : d < 4) (hs : s < 4) (hm : m < 256) (hc : c ≤ 1) (ht : t < 256) (hx : r d = nI x) (hy : r s = nI y) (bx : x < 256) (bY : y < 256) (H : post (z, nI c, p, l, i, o, nI t, h, w, upd r d (nI (gn_mov x y (m % 4))), e)) : wpY_work post (z, nI c, p, l, i, o, nI t, h, w, r, e) (nI 2) (nI d) (nI s) (nI m) := by
  unfold wpY_work
  dsimp only
  refine ⟨vp_in_nI hd (by decide), nm_r (e' := nI x) (by rw [nI_clamp (by omega), hx]) ⟨vp_in_nI hs (by decide), nm_r (e' := nI y) (by rw [nI_clamp (by omega), hy]) ?_⟩⟩
  refine br_f (by decide) (br_f (by decide) ⟨by decide, ?_⟩)
  rw [ge_rem 4 (by omega)]
  exact yk_moved bx bY (by omega) ⟨vp_in_nI hd (by decide), nm_r (e' := upd r d (nI (gn_mov x y (m % 4)))) (by rw [nI_clamp (by omega)]) H⟩
theorem yd_3 {post : SY → Prop} {c t : Nat} {z p l i o h : Int32} {w r e : Nat → Int32} {d s m x y : Nat} (hd : d < 4) (hs : s < 4) (hm : m < 256) (hc : c ≤ 1) (ht : t < 256) (hx : r d = nI x) (hy : r s = nI y) (bx : x < 256) (bY : y < 256) (H : post (nI (gn_z ((x + y) % 256)), nI (gn_c (x + y)), p, l, i, o, nI t, h, w, upd r d (nI ((x + y) % 256)), e)) : wpY_work post (z, nI c, p, l, i, o, nI t, h, w, r, e) (nI 3) (nI d) (nI s) (nI m) := by
  unfold wpY_work
  dsimp only
  refine ⟨vp_in_nI hd (by decide), nm_r (e' := nI x) (by rw [nI_clamp (by omega), hx]) ⟨vp_in_nI hs (by decide), nm_r (e' := nI y) (by rw [nI_clamp (by omega), hy]) ?_⟩⟩
  refine br_t (by decide) (br_f (by decide) (br_f (by decide) ?_))
  unfold wpY_calculated
  dsimp only
  refine br_t (by decide) ?_
  rw [nI_add]
  exact yk_c30 (by omega) (yk_125 hd (by omega) H)
theorem yd_4 {post : SY → Prop} {c t : Nat} {z p l i o h : Int32} {w r e : Nat → Int32} {d s m x y : Nat} (hd : d < 4) (hs : s < 4) (hm : m < 256) (hc : c ≤ 1) (ht : t < 256) (hx : r d = nI x) (hy : r s = nI y) (bx : x < 256) (bY : y < 256) (H : post (nI (gn_z ((x + y + c) % 256)), nI (gn_c (x + y + c)), p, l, i, o, nI t, h, w, upd r d (nI ((x + y + c) % 256)), e)) : wpY_work post (z, nI c, p, l, i, o, nI t, h, w, r, e) (nI 4) (nI d) (nI s) (nI m) := by
  unfold wpY_work
  dsimp only
  refine ⟨vp_in_nI hd (by decide), nm_r (e' := nI x) (by rw [nI_clamp (by omega), hx]) ⟨vp_in_nI hs (by decide), nm_r (e' := nI y) (by rw [nI_clamp (by omega), hy]) ?_⟩⟩
  refine br_t (by decide) (br_f (by decide) (br_f (by decide) ?_))
  unfold wpY_calculated
  dsimp only
  refine br_f (by decide) (br_t (by decide) ?_)
  rw [nI_add, nI_add]
  exact yk_c30 (by omega) (yk_125 hd (by omega) H)
theorem yd_5 {post : SY → Prop} {c t : Nat} {z p l i o h : Int32} {w r e : Nat → Int32} {d s m x y : Nat} (hd : d < 4) (hs : s < 4) (hm : m < 256) (hc : c ≤ 1) (ht : t < 256) (hx : r d = nI x) (hy : r s = nI y) (bx : x < 256) (bY : y < 256) (H : post (nI (gn_z ((x + 256 - y) % 256)), nI (gn_cs x y), p, l, i, o, nI t, h, w, upd r d (nI ((x + 256 - y) % 256)), e)) : wpY_work post (z, nI c, p, l, i, o, nI t, h, w, r, e) (nI 5) (nI d) (nI s) (nI m) := by
  unfold wpY_work
  dsimp only
  refine ⟨vp_in_nI hd (by decide), nm_r (e' := nI x) (by rw [nI_clamp (by omega), hx]) ⟨vp_in_nI hs (by decide), nm_r (e' := nI y) (by rw [nI_clamp (by omega), hy]) ?_⟩⟩
  refine br_t (by decide) (br_f (by decide) (br_f (by decide) ?_))
  unfold wpY_calculated
  dsimp only
  refine br_f (by decide) (br_f (by decide) ?_)
  exact yk_c30s bx bY (yk_125 hd (by omega) H)
theorem yd_6 {post : SY → Prop} {c t : Nat} {z p l i o h : Int32} {w r e : Nat → Int32} {d s m x y : Nat} (hd : d < 4) (hs : s < 4) (hm : m < 256) (hc : c ≤ 1) (ht : t < 256) (hx : r d = nI x) (hy : r s = nI y) (bx : x < 256) (bY : y < 256) (H : post (nI (gn_z (x &&& y)), nI c, p, l, i, o, nI t, h, w, upd r d (nI (x &&& y)), e)) : wpY_work post (z, nI c, p, l, i, o, nI t, h, w, r, e) (nI 6) (nI d) (nI s) (nI m) := by
  unfold wpY_work
  dsimp only
  refine ⟨vp_in_nI hd (by decide), nm_r (e' := nI x) (by rw [nI_clamp (by omega), hx]) ⟨vp_in_nI hs (by decide), nm_r (e' := nI y) (by rw [nI_clamp (by omega), hy]) ?_⟩⟩
  refine br_t (by decide) (br_f (by decide) (br_t (by decide) (br_t (by decide) ?_)))
  rw [nx_and]
  exact yk_125 hd (gn_and bx) H
theorem yd_7 {post : SY → Prop} {c t : Nat} {z p l i o h : Int32} {w r e : Nat → Int32} {d s m x y : Nat} (hd : d < 4) (hs : s < 4) (hm : m < 256) (hc : c ≤ 1) (ht : t < 256) (hx : r d = nI x) (hy : r s = nI y) (bx : x < 256) (bY : y < 256) (H : post (nI (gn_z (x ||| y)), nI c, p, l, i, o, nI t, h, w, upd r d (nI (x ||| y)), e)) : wpY_work post (z, nI c, p, l, i, o, nI t, h, w, r, e) (nI 7) (nI d) (nI s) (nI m) := by
  unfold wpY_work
  dsimp only
  refine ⟨vp_in_nI hd (by decide), nm_r (e' := nI x) (by rw [nI_clamp (by omega), hx]) ⟨vp_in_nI hs (by decide), nm_r (e' := nI y) (by rw [nI_clamp (by omega), hy]) ?_⟩⟩
  refine br_t (by decide) (br_f (by decide) (br_t (by decide) (br_f (by decide) (br_t (by decide) ?_))))
  rw [gp_or]
  exact yk_125 hd (gn_or bx bY) H
theorem yd_8 {post : SY → Prop} {c t : Nat} {z p l i o h : Int32} {w r e : Nat → Int32} {d s m x y : Nat} (hd : d < 4) (hs : s < 4) (hm : m < 256) (hc : c ≤ 1) (ht : t < 256) (hx : r d = nI x) (hy : r s = nI y) (bx : x < 256) (bY : y < 256) (H : post (nI (gn_z (x ^^^ y)), nI c, p, l, i, o, nI t, h, w, upd r d (nI (x ^^^ y)), e)) : wpY_work post (z, nI c, p, l, i, o, nI t, h, w, r, e) (nI 8) (nI d) (nI s) (nI m) := by
  unfold wpY_work
  dsimp only
  refine ⟨vp_in_nI hd (by decide), nm_r (e' := nI x) (by rw [nI_clamp (by omega), hx]) ⟨vp_in_nI hs (by decide), nm_r (e' := nI y) (by rw [nI_clamp (by omega), hy]) ?_⟩⟩
  refine br_t (by decide) (br_f (by decide) (br_t (by decide) (br_f (by decide) (br_f (by decide) (br_t (by decide) ?_)))))
  rw [nx_xor]
  exact yk_125 hd (gn_xor bx bY) H
theorem yd_9 {post : SY → Prop} {c t : Nat} {z p l i o h : Int32} {w r e : Nat → Int32} {d s m x y : Nat} (hd : d < 4) (hs : s < 4) (hm : m < 256) (hc : c ≤ 1) (ht : t < 256) (hx : r d = nI x) (hy : r s = nI y) (bx : x < 256) (bY : y < 256) (H : post (nI (gn_z (gn_sh x m c)), nI (gn_sc x m), p, l, i, o, nI t, h, w, upd r d (nI (gn_sh x m c)), e)) : wpY_work post (z, nI c, p, l, i, o, nI t, h, w, r, e) (nI 9) (nI d) (nI s) (nI m) := by
  unfold wpY_work
  dsimp only
  refine ⟨vp_in_nI hd (by decide), nm_r (e' := nI x) (by rw [nI_clamp (by omega), hx]) ⟨vp_in_nI hs (by decide), nm_r (e' := nI y) (by rw [nI_clamp (by omega), hy]) ?_⟩⟩
  exact br_t (by decide) (br_f (by decide) (br_t (by decide) (br_f (by decide) (br_f (by decide) (br_f (by decide) (yk_shift bx hm hc (yk_125 hd (gn_sh_b bx hc) H)))))))
theorem yd_10 {post : SY → Prop} {c t : Nat} {z p l i o h : Int32} {w r e : Nat → Int32} {d s m x y : Nat} (hd : d < 4) (hs : s < 4) (hm : m < 256) (hc : c ≤ 1) (ht : t < 256) (hx : r d = nI x) (hy : r s = nI y) (bx : x < 256) (bY : y < 256) (H : post (z, nI c, p, l, i, o, nI t, h, w, upd r d (e ((y + m) % 16)), e)) : wpY_work post (z, nI c, p, l, i, o, nI t, h, w, r, e) (nI 10) (nI d) (nI s) (nI m) := by
  unfold wpY_work
  dsimp only
  refine ⟨vp_in_nI hd (by decide), nm_r (e' := nI x) (by rw [nI_clamp (by omega), hx]) ⟨vp_in_nI hs (by decide), nm_r (e' := nI y) (by rw [nI_clamp (by omega), hy]) ?_⟩⟩
  refine br_t (by decide) (br_t (by decide) (br_t (by decide) ?_))
  have hq : (y + m) % 16 < 16 := by omega
  rw [nI_add, ge_rem 16 (by omega)]
  exact ⟨by decide, vp_in_nI hq (by decide), vp_in_nI hd (by decide), nm_r (e' := upd r d (e ((y + m) % 16))) (by rw [nI_clamp (by omega), nI_clamp (by omega)]) H⟩
theorem yd_11 {post : SY → Prop} {c t : Nat} {z p l i o h : Int32} {w r e : Nat → Int32} {d s m x y : Nat} (hd : d < 4) (hs : s < 4) (hm : m < 256) (hc : c ≤ 1) (ht : t < 256) (hx : r d = nI x) (hy : r s = nI y) (bx : x < 256) (bY : y < 256) (H : post (z, nI c, p, l, i, o, nI t, h, w, r, upd e ((y + m) % 16) (nI x))) : wpY_work post (z, nI c, p, l, i, o, nI t, h, w, r, e) (nI 11) (nI d) (nI s) (nI m) := by
  unfold wpY_work
  dsimp only
  refine ⟨vp_in_nI hd (by decide), nm_r (e' := nI x) (by rw [nI_clamp (by omega), hx]) ⟨vp_in_nI hs (by decide), nm_r (e' := nI y) (by rw [nI_clamp (by omega), hy]) ?_⟩⟩
  refine br_t (by decide) (br_t (by decide) (br_f (by decide) (br_t (by decide) ?_)))
  have hq : (y + m) % 16 < 16 := by omega
  rw [nI_add, ge_rem 16 (by omega)]
  exact ⟨by decide, vp_in_nI hq (by decide), nm_r (e' := upd e ((y + m) % 16) (nI x)) (by rw [nI_clamp (by omega)]) H⟩
theorem yd_15i {post : SY → Prop} {c t : Nat} {z p l i o h : Int32} {w r e : Nat → Int32} {d s m x y : Nat} (hd : d < 4) (hs : s < 4) (hm : m < 256) (hc : c ≤ 1) (ht : t < 256) (hx : r d = nI x) (hy : r s = nI y) (bx : x < 256) (bY : y < 256) (h2 : m % 2 = 0) (H : post (z, nI c, p, l, i, o, nI t, h, w, upd r d i, e)) : wpY_work post (z, nI c, p, l, i, o, nI t, h, w, r, e) (nI 15) (nI d) (nI s) (nI m) := by
  unfold wpY_work
  dsimp only
  refine ⟨vp_in_nI hd (by decide), nm_r (e' := nI x) (by rw [nI_clamp (by omega), hx]) ⟨vp_in_nI hs (by decide), nm_r (e' := nI y) (by rw [nI_clamp (by omega), hy]) ?_⟩⟩
  refine br_t (by decide) (br_t (by decide) (br_f (by decide) (br_f (by decide) ⟨by decide, ?_⟩)))
  exact br_t (by rw [ge_rem 2 (by omega), h2]; rfl) ⟨vp_in_nI hd (by decide), nm_r (e' := upd r d i) (by rw [nI_clamp (by omega)]) H⟩
theorem yd_15o {post : SY → Prop} {c t : Nat} {z p l i o h : Int32} {w r e : Nat → Int32} {d s m x y : Nat} (hd : d < 4) (hs : s < 4) (hm : m < 256) (hc : c ≤ 1) (ht : t < 256) (hx : r d = nI x) (hy : r s = nI y) (bx : x < 256) (bY : y < 256) (h2 : ¬ m % 2 = 0) (H : post (z, nI c, p, l, i, nI x, nI ((t + 1) % 256), h, w, r, e)) : wpY_work post (z, nI c, p, l, i, o, nI t, h, w, r, e) (nI 15) (nI d) (nI s) (nI m) := by
  unfold wpY_work
  dsimp only
  refine ⟨vp_in_nI hd (by decide), nm_r (e' := nI x) (by rw [nI_clamp (by omega), hx]) ⟨vp_in_nI hs (by decide), nm_r (e' := nI y) (by rw [nI_clamp (by omega), hy]) ?_⟩⟩
  refine br_t (by decide) (br_t (by decide) (br_f (by decide) (br_f (by decide) ⟨by decide, ?_⟩)))
  exact br_f (by rw [ge_rem 2 (by omega)]; exact nI_ne0 (by omega) (by omega)) ⟨by decide, nm_r (e' := nI ((t + 1) % 256)) (by rw [nI_1 t, ge_rem 256 (by omega)]) H⟩
end
section
/-! one instruction: the class -/
theorem xw_0 {post : SX → Prop} {z c p l i o t : Nat} {w r e : Nat → Int32} {W x y : Nat} (hW : W < 65536) (hz : z ≤ 1) (hc : c ≤ 1) (hp : p < 32) (ht : t < 256) (hx : r (W / 16 % 4) = nI x) (hy : r (W / 64 % 4) = nI y) (bx : x < 256) (bY : y < 256) (hop : W % 16 = 0) (H : post (nI z, nI c, nI p, nI l, nI i, nI o, nI t, nI 1, w, r, e)) : wpX_doWord post (nI z, nI c, nI p, nI l, nI i, nI o, nI t, nI 0, w, r, e) (nI W) := by
  have hd : W / 16 % 4 < 4 := by omega
  have hs : W / 64 % 4 < 4 := by omega
  have hm : W / 256 < 256 := by omega
  unfold wpX_doWord
  dsimp only
  refine nm_r (e' := nI 0) (by rw [gd_op hW, hop]) (nm_r (gd_d hW) (nm_r (gd_s hW) (nm_r (gd_m hW) ?_)))
  rw [nI_1 p]
  refine xk_po (by omega) ?_
  try dsimp only
  exact br_t rfl H
theorem xw_12 {post : SX → Prop} {z c p l i o t : Nat} {w r e : Nat → Int32} {W x y : Nat} (hW : W < 65536) (hz : z ≤ 1) (hc : c ≤ 1) (hp : p < 32) (ht : t < 256) (hx : r (W / 16 % 4) = nI x) (hy : r (W / 64 % 4) = nI y) (bx : x < 256) (bY : y < 256) (hop : W % 16 = 12) (H : post (nI z, nI c, nI ((W / 256) % 32), nI l, nI i, nI o, nI t, nI 0, w, r, e)) : wpX_doWord post (nI z, nI c, nI p, nI l, nI i, nI o, nI t, nI 0, w, r, e) (nI W) := by
  have hd : W / 16 % 4 < 4 := by omega
  have hs : W / 64 % 4 < 4 := by omega
  have hm : W / 256 < 256 := by omega
  unfold wpX_doWord
  dsimp only
  refine nm_r (e' := nI 12) (by rw [gd_op hW, hop]) (nm_r (gd_d hW) (nm_r (gd_s hW) (nm_r (gd_m hW) ?_)))
  rw [nI_1 p]
  refine xk_po (by omega) ?_
  try dsimp only
  exact br_f (by decide) (br_t (by decide) (xk_po (by omega) H))
theorem xw_13 {post : SX → Prop} {z c p l i o t : Nat} {w r e : Nat → Int32} {W x y : Nat} (hW : W < 65536) (hz : z ≤ 1) (hc : c ≤ 1) (hp : p < 32) (ht : t < 256) (hx : r (W / 16 % 4) = nI x) (hy : r (W / 64 % 4) = nI y) (bx : x < 256) (bY : y < 256) (hop : W % 16 = 13) (H : post (nI z, nI c, nI (gn_br (W / 16 % 4) z c p (W / 256)), nI l, nI i, nI o, nI t, nI 0, w, r, e)) : wpX_doWord post (nI z, nI c, nI p, nI l, nI i, nI o, nI t, nI 0, w, r, e) (nI W) := by
  have hd : W / 16 % 4 < 4 := by omega
  have hs : W / 64 % 4 < 4 := by omega
  have hm : W / 256 < 256 := by omega
  unfold wpX_doWord
  dsimp only
  refine nm_r (e' := nI 13) (by rw [gd_op hW, hop]) (nm_r (gd_d hW) (nm_r (gd_s hW) (nm_r (gd_m hW) ?_)))
  rw [nI_1 p]
  refine xk_po (by omega) ?_
  try dsimp only
  refine br_f (by decide) (br_f (by decide) (br_t (by decide) (xk_br hd hz hc ?_)))
  try dsimp only
  by_cases hb : (if W / 16 % 4 < 2 then z else c) = 1 - W / 16 % 4 % 2
  · rw [if_pos hb]
    rw [show gn_br (W / 16 % 4) z c p (W / 256) = W / 256 % 32 from if_pos hb] at H
    exact br_f (by decide) (xk_po (by omega) H)
  · rw [if_neg hb]
    rw [show gn_br (W / 16 % 4) z c p (W / 256) = (p + 1) % 32 from if_neg hb] at H
    exact br_t rfl H
theorem xw_14L {post : SX → Prop} {z c p l i o t : Nat} {w r e : Nat → Int32} {W x y : Nat} (hW : W < 65536) (hz : z ≤ 1) (hc : c ≤ 1) (hp : p < 32) (ht : t < 256) (hx : r (W / 16 % 4) = nI x) (hy : r (W / 64 % 4) = nI y) (bx : x < 256) (bY : y < 256) (hop : W % 16 = 14) (h2 : (W / 256) < 128) (H : post (nI z, nI c, nI ((W / 256) % 32), nI ((p + 1) % 32), nI i, nI o, nI t, nI 0, w, r, e)) : wpX_doWord post (nI z, nI c, nI p, nI l, nI i, nI o, nI t, nI 0, w, r, e) (nI W) := by
  have hd : W / 16 % 4 < 4 := by omega
  have hs : W / 64 % 4 < 4 := by omega
  have hm : W / 256 < 256 := by omega
  unfold wpX_doWord
  dsimp only
  refine nm_r (e' := nI 14) (by rw [gd_op hW, hop]) (nm_r (gd_d hW) (nm_r (gd_s hW) (nm_r (gd_m hW) ?_)))
  rw [nI_1 p]
  refine xk_po (by omega) ?_
  try dsimp only
  exact br_f (by decide) (br_f (by decide) (br_f (by decide) (br_t (by decide) (xk_callL h2 H))))
theorem xw_14H {post : SX → Prop} {z c p l i o t : Nat} {w r e : Nat → Int32} {W x y : Nat} (hW : W < 65536) (hz : z ≤ 1) (hc : c ≤ 1) (hp : p < 32) (ht : t < 256) (hx : r (W / 16 % 4) = nI x) (hy : r (W / 64 % 4) = nI y) (bx : x < 256) (bY : y < 256) (hop : W % 16 = 14) (h2 : 128 ≤ (W / 256)) (H : post (nI z, nI c, nI l, nI l, nI i, nI o, nI t, nI 0, w, r, e)) : wpX_doWord post (nI z, nI c, nI p, nI l, nI i, nI o, nI t, nI 0, w, r, e) (nI W) := by
  have hd : W / 16 % 4 < 4 := by omega
  have hs : W / 64 % 4 < 4 := by omega
  have hm : W / 256 < 256 := by omega
  unfold wpX_doWord
  dsimp only
  refine nm_r (e' := nI 14) (by rw [gd_op hW, hop]) (nm_r (gd_d hW) (nm_r (gd_s hW) (nm_r (gd_m hW) ?_)))
  rw [nI_1 p]
  refine xk_po (by omega) ?_
  try dsimp only
  exact br_f (by decide) (br_f (by decide) (br_f (by decide) (br_t (by decide) (xk_callH h2 hm H))))
theorem xw_1 {post : SX → Prop} {z c p l i o t : Nat} {w r e : Nat → Int32} {W x y : Nat} (hW : W < 65536) (hz : z ≤ 1) (hc : c ≤ 1) (hp : p < 32) (ht : t < 256) (hx : r (W / 16 % 4) = nI x) (hy : r (W / 64 % 4) = nI y) (bx : x < 256) (bY : y < 256) (hop : W % 16 = 1) (H : post (nI z, nI c, nI ((p + 1) % 32), nI l, nI i, nI o, nI t, nI 0, w, upd r (W / 16 % 4) (nI (W / 256)), e)) : wpX_doWord post (nI z, nI c, nI p, nI l, nI i, nI o, nI t, nI 0, w, r, e) (nI W) := by
  have hd : W / 16 % 4 < 4 := by omega
  have hs : W / 64 % 4 < 4 := by omega
  have hm : W / 256 < 256 := by omega
  unfold wpX_doWord
  dsimp only
  refine nm_r (e' := nI 1) (by rw [gd_op hW, hop]) (nm_r (gd_d hW) (nm_r (gd_s hW) (nm_r (gd_m hW) ?_)))
  rw [nI_1 p]
  refine xk_po (by omega) ?_
  try dsimp only
  exact br_f (by decide) (br_f (by decide) (br_f (by decide) (br_f (by decide) (xd_1 hd hs hm hc ht hx hy bx bY H))))
theorem xw_2 {post : SX → Prop} {z c p l i o t : Nat} {w r e : Nat → Int32} {W x y : Nat} (hW : W < 65536) (hz : z ≤ 1) (hc : c ≤ 1) (hp : p < 32) (ht : t < 256) (hx : r (W / 16 % 4) = nI x) (hy : r (W / 64 % 4) = nI y) (bx : x < 256) (bY : y < 256) (hop : W % 16 = 2) (H : post (nI z, nI c, nI ((p + 1) % 32), nI l, nI i, nI o, nI t, nI 0, w, upd r (W / 16 % 4) (nI (gn_mov x y ((W / 256) % 4))), e)) : wpX_doWord post (nI z, nI c, nI p, nI l, nI i, nI o, nI t, nI 0, w, r, e) (nI W) := by
  have hd : W / 16 % 4 < 4 := by omega
  have hs : W / 64 % 4 < 4 := by omega
  have hm : W / 256 < 256 := by omega
  unfold wpX_doWord
  dsimp only
  refine nm_r (e' := nI 2) (by rw [gd_op hW, hop]) (nm_r (gd_d hW) (nm_r (gd_s hW) (nm_r (gd_m hW) ?_)))
  rw [nI_1 p]
  refine xk_po (by omega) ?_
  try dsimp only
  exact br_f (by decide) (br_f (by decide) (br_f (by decide) (br_f (by decide) (xd_2 hd hs hm hc ht hx hy bx bY H))))
theorem xw_3 {post : SX → Prop} {z c p l i o t : Nat} {w r e : Nat → Int32} {W x y : Nat} (hW : W < 65536) (hz : z ≤ 1) (hc : c ≤ 1) (hp : p < 32) (ht : t < 256) (hx : r (W / 16 % 4) = nI x) (hy : r (W / 64 % 4) = nI y) (bx : x < 256) (bY : y < 256) (hop : W % 16 = 3) (H : post (nI (gn_z ((x + y) % 256)), nI (gn_c (x + y)), nI ((p + 1) % 32), nI l, nI i, nI o, nI t, nI 0, w, upd r (W / 16 % 4) (nI ((x + y) % 256)), e)) : wpX_doWord post (nI z, nI c, nI p, nI l, nI i, nI o, nI t, nI 0, w, r, e) (nI W) := by
  have hd : W / 16 % 4 < 4 := by omega
  have hs : W / 64 % 4 < 4 := by omega
  have hm : W / 256 < 256 := by omega
  unfold wpX_doWord
  dsimp only
  refine nm_r (e' := nI 3) (by rw [gd_op hW, hop]) (nm_r (gd_d hW) (nm_r (gd_s hW) (nm_r (gd_m hW) ?_)))
  rw [nI_1 p]
  refine xk_po (by omega) ?_
  try dsimp only
  exact br_f (by decide) (br_f (by decide) (br_f (by decide) (br_f (by decide) (xd_3 hd hs hm hc ht hx hy bx bY H))))
theorem xw_4 {post : SX → Prop} {z c p l i o t : Nat} {w r e : Nat → Int32} {W x y : Nat} (hW : W < 65536) (hz : z ≤ 1) (hc : c ≤ 1) (hp : p < 32) (ht : t < 256) (hx : r (W / 16 % 4) = nI x) (hy : r (W / 64 % 4) = nI y) (bx : x < 256) (bY : y < 256) (hop : W % 16 = 4) (H : post (nI (gn_z ((x + y + c) % 256)), nI (gn_c (x + y + c)), nI ((p + 1) % 32), nI l, nI i, nI o, nI t, nI 0, w, upd r (W / 16 % 4) (nI ((x + y + c) % 256)), e)) : wpX_doWord post (nI z, nI c, nI p, nI l, nI i, nI o, nI t, nI 0, w, r, e) (nI W) := by
  have hd : W / 16 % 4 < 4 := by omega
  have hs : W / 64 % 4 < 4 := by omega
  have hm : W / 256 < 256 := by omega
  unfold wpX_doWord
  dsimp only
  refine nm_r (e' := nI 4) (by rw [gd_op hW, hop]) (nm_r (gd_d hW) (nm_r (gd_s hW) (nm_r (gd_m hW) ?_)))
  rw [nI_1 p]
  refine xk_po (by omega) ?_
  try dsimp only
  exact br_f (by decide) (br_f (by decide) (br_f (by decide) (br_f (by decide) (xd_4 hd hs hm hc ht hx hy bx bY H))))
theorem xw_5 {post : SX → Prop} {z c p l i o t : Nat} {w r e : Nat → Int32} {W x y : Nat} (hW : W < 65536) (hz : z ≤ 1) (hc : c ≤ 1) (hp : p < 32) (ht : t < 256) (hx : r (W / 16 % 4) = nI x) (hy : r (W / 64 % 4) = nI y) (bx : x < 256) (bY : y < 256) (hop : W % 16 = 5) (H : post (nI (gn_z ((x + 256 - y) % 256)), nI (gn_cs x y), nI ((p + 1) % 32), nI l, nI i, nI o, nI t, nI 0, w, upd r (W / 16 % 4) (nI ((x + 256 - y) % 256)), e)) : wpX_doWord post (nI z, nI c, nI p, nI l, nI i, nI o, nI t, nI 0, w, r, e) (nI W) := by
  have hd : W / 16 % 4 < 4 := by omega
  have hs : W / 64 % 4 < 4 := by omega
  have hm : W / 256 < 256 := by omega
  unfold wpX_doWord
  dsimp only
  refine nm_r (e' := nI 5) (by rw [gd_op hW, hop]) (nm_r (gd_d hW) (nm_r (gd_s hW) (nm_r (gd_m hW) ?_)))
  rw [nI_1 p]
  refine xk_po (by omega) ?_
  try dsimp only
  exact br_f (by decide) (br_f (by decide) (br_f (by decide) (br_f (by decide) (xd_5 hd hs hm hc ht hx hy bx bY H))))
theorem xw_6 {post : SX → Prop} {z c p l i o t : Nat} {w r e : Nat → Int32} {W x y : Nat} (hW : W < 65536) (hz : z ≤ 1) (hc : c ≤ 1) (hp : p < 32) (ht : t < 256) (hx : r (W / 16 % 4) = nI x) (hy : r (W / 64 % 4) = nI y) (bx : x < 256) (bY : y < 256) (hop : W % 16 = 6) (H : post (nI (gn_z (x &&& y)), nI c, nI ((p + 1) % 32), nI l, nI i, nI o, nI t, nI 0, w, upd r (W / 16 % 4) (nI (x &&& y)), e)) : wpX_doWord post (nI z, nI c, nI p, nI l, nI i, nI o, nI t, nI 0, w, r, e) (nI W) := by
  have hd : W / 16 % 4 < 4 := by omega
  have hs : W / 64 % 4 < 4 := by omega
  have hm : W / 256 < 256 := by omega
  unfold wpX_doWord
  dsimp only
  refine nm_r (e' := nI 6) (by rw [gd_op hW, hop]) (nm_r (gd_d hW) (nm_r (gd_s hW) (nm_r (gd_m hW) ?_)))
  rw [nI_1 p]
  refine xk_po (by omega) ?_
  try dsimp only
  exact br_f (by decide) (br_f (by decide) (br_f (by decide) (br_f (by decide) (xd_6 hd hs hm hc ht hx hy bx bY H))))
theorem xw_7 {post : SX → Prop} {z c p l i o t : Nat} {w r e : Nat → Int32} {W x y : Nat} (hW : W < 65536) (hz : z ≤ 1) (hc : c ≤ 1) (hp : p < 32) (ht : t < 256) (hx : r (W / 16 % 4) = nI x) (hy : r (W / 64 % 4) = nI y) (bx : x < 256) (bY : y < 256) (hop : W % 16 = 7) (H : post (nI (gn_z (x ||| y)), nI c, nI ((p + 1) % 32), nI l, nI i, nI o, nI t, nI 0, w, upd r (W / 16 % 4) (nI (x ||| y)), e)) : wpX_doWord post (nI z, nI c, nI p, nI l, nI i, nI o, nI t, nI 0, w, r, e) (nI W) := by
  have hd : W / 16 % 4 < 4 := by omega
  have hs : W / 64 % 4 < 4 := by omega
  have hm : W / 256 < 256 := by omega
  unfold wpX_doWord
  dsimp only
  refine nm_r (e' := nI 7) (by rw [gd_op hW, hop]) (nm_r (gd_d hW) (nm_r (gd_s hW) (nm_r (gd_m hW) ?_)))
  rw [nI_1 p]
  refine xk_po (by omega) ?_
  try dsimp only
  exact br_f (by decide) (br_f (by decide) (br_f (by decide) (br_f (by decide) (xd_7 hd hs hm hc ht hx hy bx bY H))))
theorem xw_8 {post : SX → Prop} {z c p l i o t : Nat} {w r e : Nat → Int32} {W x y : Nat} (hW : W < 65536) (hz : z ≤ 1) (hc : c ≤ 1) (hp : p < 32) (ht : t < 256) (hx : r (W / 16 % 4) = nI x) (hy : r (W / 64 % 4) = nI y) (bx : x < 256) (bY : y < 256) (hop : W % 16 = 8) (H : post (nI (gn_z (x ^^^ y)), nI c, nI ((p + 1) % 32), nI l, nI i, nI o, nI t, nI 0, w, upd r (W / 16 % 4) (nI (x ^^^ y)), e)) : wpX_doWord post (nI z, nI c, nI p, nI l, nI i, nI o, nI t, nI 0, w, r, e) (nI W) := by
  have hd : W / 16 % 4 < 4 := by omega
  have hs : W / 64 % 4 < 4 := by omega
  have hm : W / 256 < 256 := by omega
  unfold wpX_doWord
  dsimp only
  refine nm_r (e' := nI 8) (by rw [gd_op hW, hop]) (nm_r (gd_d hW) (nm_r (gd_s hW) (nm_r (gd_m hW) ?_)))
  rw [nI_1 p]
  refine xk_po (by omega) ?_
  try dsimp only
  exact br_f (by decide) (br_f (by decide) (br_f (by decide) (br_f (by decide) (xd_8 hd hs hm hc ht hx hy bx bY H))))
theorem xw_9 {post : SX → Prop} {z c p l i o t : Nat} {w r e : Nat → Int32} {W x y : Nat} (hW : W < 65536) (hz : z ≤ 1) (hc : c ≤ 1) (hp : p < 32) (ht : t < 256) (hx : r (W / 16 % 4) = nI x) (hy : r (W / 64 % 4) = nI y) (bx : x < 256) (bY : y < 256) (hop : W % 16 = 9) (H : post (nI (gn_z (gn_sh x (W / 256) c)), nI (gn_sc x (W / 256)), nI ((p + 1) % 32), nI l, nI i, nI o, nI t, nI 0, w, upd r (W / 16 % 4) (nI (gn_sh x (W / 256) c)), e)) : wpX_doWord post (nI z, nI c, nI p, nI l, nI i, nI o, nI t, nI 0, w, r, e) (nI W) := by
  have hd : W / 16 % 4 < 4 := by omega
  have hs : W / 64 % 4 < 4 := by omega
  have hm : W / 256 < 256 := by omega
  unfold wpX_doWord
  dsimp only
  refine nm_r (e' := nI 9) (by rw [gd_op hW, hop]) (nm_r (gd_d hW) (nm_r (gd_s hW) (nm_r (gd_m hW) ?_)))
  rw [nI_1 p]
  refine xk_po (by omega) ?_
  try dsimp only
  exact br_f (by decide) (br_f (by decide) (br_f (by decide) (br_f (by decide) (xd_9 hd hs hm hc ht hx hy bx bY H))))
theorem xw_10 {post : SX → Prop} {z c p l i o t : Nat} {w r e : Nat → Int32} {W x y : Nat} (hW : W < 65536) (hz : z ≤ 1) (hc : c ≤ 1) (hp : p < 32) (ht : t < 256) (hx : r (W / 16 % 4) = nI x) (hy : r (W / 64 % 4) = nI y) (bx : x < 256) (bY : y < 256) (hop : W % 16 = 10) (H : post (nI z, nI c, nI ((p + 1) % 32), nI l, nI i, nI o, nI t, nI 0, w, upd r (W / 16 % 4) (e ((y + (W / 256)) % 16)), e)) : wpX_doWord post (nI z, nI c, nI p, nI l, nI i, nI o, nI t, nI 0, w, r, e) (nI W) := by
  have hd : W / 16 % 4 < 4 := by omega
  have hs : W / 64 % 4 < 4 := by omega
  have hm : W / 256 < 256 := by omega
  unfold wpX_doWord
  dsimp only
  refine nm_r (e' := nI 10) (by rw [gd_op hW, hop]) (nm_r (gd_d hW) (nm_r (gd_s hW) (nm_r (gd_m hW) ?_)))
  rw [nI_1 p]
  refine xk_po (by omega) ?_
  try dsimp only
  exact br_f (by decide) (br_f (by decide) (br_f (by decide) (br_f (by decide) (xd_10 hd hs hm hc ht hx hy bx bY H))))
theorem xw_11 {post : SX → Prop} {z c p l i o t : Nat} {w r e : Nat → Int32} {W x y : Nat} (hW : W < 65536) (hz : z ≤ 1) (hc : c ≤ 1) (hp : p < 32) (ht : t < 256) (hx : r (W / 16 % 4) = nI x) (hy : r (W / 64 % 4) = nI y) (bx : x < 256) (bY : y < 256) (hop : W % 16 = 11) (H : post (nI z, nI c, nI ((p + 1) % 32), nI l, nI i, nI o, nI t, nI 0, w, r, upd e ((y + (W / 256)) % 16) (nI x))) : wpX_doWord post (nI z, nI c, nI p, nI l, nI i, nI o, nI t, nI 0, w, r, e) (nI W) := by
  have hd : W / 16 % 4 < 4 := by omega
  have hs : W / 64 % 4 < 4 := by omega
  have hm : W / 256 < 256 := by omega
  unfold wpX_doWord
  dsimp only
  refine nm_r (e' := nI 11) (by rw [gd_op hW, hop]) (nm_r (gd_d hW) (nm_r (gd_s hW) (nm_r (gd_m hW) ?_)))
  rw [nI_1 p]
  refine xk_po (by omega) ?_
  try dsimp only
  exact br_f (by decide) (br_f (by decide) (br_f (by decide) (br_f (by decide) (xd_11 hd hs hm hc ht hx hy bx bY H))))
theorem xw_15i {post : SX → Prop} {z c p l i o t : Nat} {w r e : Nat → Int32} {W x y : Nat} (hW : W < 65536) (hz : z ≤ 1) (hc : c ≤ 1) (hp : p < 32) (ht : t < 256) (hx : r (W / 16 % 4) = nI x) (hy : r (W / 64 % 4) = nI y) (bx : x < 256) (bY : y < 256) (hop : W % 16 = 15) (h2 : (W / 256) % 2 = 0) (H : post (nI z, nI c, nI ((p + 1) % 32), nI l, nI i, nI o, nI t, nI 0, w, upd r (W / 16 % 4) (nI i), e)) : wpX_doWord post (nI z, nI c, nI p, nI l, nI i, nI o, nI t, nI 0, w, r, e) (nI W) := by
  have hd : W / 16 % 4 < 4 := by omega
  have hs : W / 64 % 4 < 4 := by omega
  have hm : W / 256 < 256 := by omega
  unfold wpX_doWord
  dsimp only
  refine nm_r (e' := nI 15) (by rw [gd_op hW, hop]) (nm_r (gd_d hW) (nm_r (gd_s hW) (nm_r (gd_m hW) ?_)))
  rw [nI_1 p]
  refine xk_po (by omega) ?_
  try dsimp only
  exact br_f (by decide) (br_f (by decide) (br_f (by decide) (br_f (by decide) (xd_15i hd hs hm hc ht hx hy bx bY h2 H))))
theorem xw_15o {post : SX → Prop} {z c p l i o t : Nat} {w r e : Nat → Int32} {W x y : Nat} (hW : W < 65536) (hz : z ≤ 1) (hc : c ≤ 1) (hp : p < 32) (ht : t < 256) (hx : r (W / 16 % 4) = nI x) (hy : r (W / 64 % 4) = nI y) (bx : x < 256) (bY : y < 256) (hop : W % 16 = 15) (h2 : ¬ (W / 256) % 2 = 0) (H : post (nI z, nI c, nI ((p + 1) % 32), nI l, nI i, nI x, nI ((t + 1) % 256), nI 0, w, r, e)) : wpX_doWord post (nI z, nI c, nI p, nI l, nI i, nI o, nI t, nI 0, w, r, e) (nI W) := by
  have hd : W / 16 % 4 < 4 := by omega
  have hs : W / 64 % 4 < 4 := by omega
  have hm : W / 256 < 256 := by omega
  unfold wpX_doWord
  dsimp only
  refine nm_r (e' := nI 15) (by rw [gd_op hW, hop]) (nm_r (gd_d hW) (nm_r (gd_s hW) (nm_r (gd_m hW) ?_)))
  rw [nI_1 p]
  refine xk_po (by omega) ?_
  try dsimp only
  exact br_f (by decide) (br_f (by decide) (br_f (by decide) (br_f (by decide) (xd_15o hd hs hm hc ht hx hy bx bY h2 H))))
/-! one instruction: the reference -/
theorem yw_0 {post : SY → Prop} {z c p l i o t : Nat} {w r e : Nat → Int32} {W x y : Nat} (hW : W < 65536) (hz : z ≤ 1) (hc : c ≤ 1) (hp : p < 32) (ht : t < 256) (hx : r (W / 16 % 4) = nI x) (hy : r (W / 64 % 4) = nI y) (bx : x < 256) (bY : y < 256) (hw : w p = nI W) (hop : W % 16 = 0) (H : post (nI z, nI c, nI p, nI l, nI i, nI o, nI t, nI 1, w, r, e)) : wpY_once post (nI z, nI c, nI p, nI l, nI i, nI o, nI t, nI 0, w, r, e) := by
  have hd : W / 16 % 4 < 4 := by omega
  have hs : W / 64 % 4 < 4 := by omega
  have hm : W / 256 < 256 := by omega
  unfold wpY_once
  dsimp only
  refine ⟨vp_in_nI hp (by decide), nm_r (e' := nI W) (by rw [nI_clamp (by omega), hw]) ⟨by decide, nm_r (e' := nI 0) (by rw [ge_rem 16 (by omega), hop]) ⟨by decide, by decide, nm_r (ge_d hW) ⟨by decide, by decide, nm_r (ge_s hW) ⟨by decide, nm_r (e' := nI (W / 256)) (ge_div 256 (by omega)) ?_⟩⟩⟩⟩⟩
  exact yf_0 hp hm (br_t (by decide) (br_f (by decide) (br_f (by decide) (br_t rfl H))))
theorem yw_12 {post : SY → Prop} {z c p l i o t : Nat} {w r e : Nat → Int32} {W x y : Nat} (hW : W < 65536) (hz : z ≤ 1) (hc : c ≤ 1) (hp : p < 32) (ht : t < 256) (hx : r (W / 16 % 4) = nI x) (hy : r (W / 64 % 4) = nI y) (bx : x < 256) (bY : y < 256) (hw : w p = nI W) (hop : W % 16 = 12) (H : post (nI z, nI c, nI ((W / 256) % 32), nI l, nI i, nI o, nI t, nI 0, w, r, e)) : wpY_once post (nI z, nI c, nI p, nI l, nI i, nI o, nI t, nI 0, w, r, e) := by
  have hd : W / 16 % 4 < 4 := by omega
  have hs : W / 64 % 4 < 4 := by omega
  have hm : W / 256 < 256 := by omega
  unfold wpY_once
  dsimp only
  refine ⟨vp_in_nI hp (by decide), nm_r (e' := nI W) (by rw [nI_clamp (by omega), hw]) ⟨by decide, nm_r (e' := nI 12) (by rw [ge_rem 16 (by omega), hop]) ⟨by decide, by decide, nm_r (ge_d hW) ⟨by decide, by decide, nm_r (ge_s hW) ⟨by decide, nm_r (e' := nI (W / 256)) (ge_div 256 (by omega)) ?_⟩⟩⟩⟩⟩
  exact yf_12 hp hm (br_f (by decide) (br_f (by decide) (br_f (by decide) (br_f (by decide) (br_f (by decide) (H))))))
theorem yw_13 {post : SY → Prop} {z c p l i o t : Nat} {w r e : Nat → Int32} {W x y : Nat} (hW : W < 65536) (hz : z ≤ 1) (hc : c ≤ 1) (hp : p < 32) (ht : t < 256) (hx : r (W / 16 % 4) = nI x) (hy : r (W / 64 % 4) = nI y) (bx : x < 256) (bY : y < 256) (hw : w p = nI W) (hop : W % 16 = 13) (H : post (nI z, nI c, nI (gn_br (W / 16 % 4) z c p (W / 256)), nI l, nI i, nI o, nI t, nI 0, w, r, e)) : wpY_once post (nI z, nI c, nI p, nI l, nI i, nI o, nI t, nI 0, w, r, e) := by
  have hd : W / 16 % 4 < 4 := by omega
  have hs : W / 64 % 4 < 4 := by omega
  have hm : W / 256 < 256 := by omega
  unfold wpY_once
  dsimp only
  refine ⟨vp_in_nI hp (by decide), nm_r (e' := nI W) (by rw [nI_clamp (by omega), hw]) ⟨by decide, nm_r (e' := nI 13) (by rw [ge_rem 16 (by omega), hop]) ⟨by decide, by decide, nm_r (ge_d hW) ⟨by decide, by decide, nm_r (ge_s hW) ⟨by decide, nm_r (e' := nI (W / 256)) (ge_div 256 (by omega)) ?_⟩⟩⟩⟩⟩
  exact yf_13 hp hm hd hz hc (br_f (by decide) (br_f (by decide) (br_f (by decide) (br_f (by decide) (br_f (by decide) (H))))))
theorem yw_14L {post : SY → Prop} {z c p l i o t : Nat} {w r e : Nat → Int32} {W x y : Nat} (hW : W < 65536) (hz : z ≤ 1) (hc : c ≤ 1) (hp : p < 32) (ht : t < 256) (hx : r (W / 16 % 4) = nI x) (hy : r (W / 64 % 4) = nI y) (bx : x < 256) (bY : y < 256) (hw : w p = nI W) (hop : W % 16 = 14) (h2 : (W / 256) < 128) (H : post (nI z, nI c, nI ((W / 256) % 32), nI ((p + 1) % 32), nI i, nI o, nI t, nI 0, w, r, e)) : wpY_once post (nI z, nI c, nI p, nI l, nI i, nI o, nI t, nI 0, w, r, e) := by
  have hd : W / 16 % 4 < 4 := by omega
  have hs : W / 64 % 4 < 4 := by omega
  have hm : W / 256 < 256 := by omega
  unfold wpY_once
  dsimp only
  refine ⟨vp_in_nI hp (by decide), nm_r (e' := nI W) (by rw [nI_clamp (by omega), hw]) ⟨by decide, nm_r (e' := nI 14) (by rw [ge_rem 16 (by omega), hop]) ⟨by decide, by decide, nm_r (ge_d hW) ⟨by decide, by decide, nm_r (ge_s hW) ⟨by decide, nm_r (e' := nI (W / 256)) (ge_div 256 (by omega)) ?_⟩⟩⟩⟩⟩
  refine yf_14L hp hm h2 (br_f (by decide) (br_f (by decide) (br_f (by decide) (br_t (by decide) (br_f (nI_ge (b := 128) h2 (by decide)) ⟨by decide, ?_⟩)))))
  rw [nI_1 p, ge_rem 32 (by omega)]
  exact br_f (by decide) H
theorem yw_14H {post : SY → Prop} {z c p l i o t : Nat} {w r e : Nat → Int32} {W x y : Nat} (hW : W < 65536) (hz : z ≤ 1) (hc : c ≤ 1) (hp : p < 32) (ht : t < 256) (hx : r (W / 16 % 4) = nI x) (hy : r (W / 64 % 4) = nI y) (bx : x < 256) (bY : y < 256) (hw : w p = nI W) (hop : W % 16 = 14) (h2 : 128 ≤ (W / 256)) (H : post (nI z, nI c, nI l, nI l, nI i, nI o, nI t, nI 0, w, r, e)) : wpY_once post (nI z, nI c, nI p, nI l, nI i, nI o, nI t, nI 0, w, r, e) := by
  have hd : W / 16 % 4 < 4 := by omega
  have hs : W / 64 % 4 < 4 := by omega
  have hm : W / 256 < 256 := by omega
  unfold wpY_once
  dsimp only
  refine ⟨vp_in_nI hp (by decide), nm_r (e' := nI W) (by rw [nI_clamp (by omega), hw]) ⟨by decide, nm_r (e' := nI 14) (by rw [ge_rem 16 (by omega), hop]) ⟨by decide, by decide, nm_r (ge_d hW) ⟨by decide, by decide, nm_r (ge_s hW) ⟨by decide, nm_r (e' := nI (W / 256)) (ge_div 256 (by omega)) ?_⟩⟩⟩⟩⟩
  exact yf_14H hp hm h2 (br_f (by decide) (br_f (by decide) (br_f (by decide) (br_t (by decide) (br_t (nI_le (a := 128) h2 (by omega)) (br_f (by decide) H))))))
theorem yw_1 {post : SY → Prop} {z c p l i o t : Nat} {w r e : Nat → Int32} {W x y : Nat} (hW : W < 65536) (hz : z ≤ 1) (hc : c ≤ 1) (hp : p < 32) (ht : t < 256) (hx : r (W / 16 % 4) = nI x) (hy : r (W / 64 % 4) = nI y) (bx : x < 256) (bY : y < 256) (hw : w p = nI W) (hop : W % 16 = 1) (H : post (nI z, nI c, nI ((p + 1) % 32), nI l, nI i, nI o, nI t, nI 0, w, upd r (W / 16 % 4) (nI (W / 256)), e)) : wpY_once post (nI z, nI c, nI p, nI l, nI i, nI o, nI t, nI 0, w, r, e) := by
  have hd : W / 16 % 4 < 4 := by omega
  have hs : W / 64 % 4 < 4 := by omega
  have hm : W / 256 < 256 := by omega
  unfold wpY_once
  dsimp only
  refine ⟨vp_in_nI hp (by decide), nm_r (e' := nI W) (by rw [nI_clamp (by omega), hw]) ⟨by decide, nm_r (e' := nI 1) (by rw [ge_rem 16 (by omega), hop]) ⟨by decide, by decide, nm_r (ge_d hW) ⟨by decide, by decide, nm_r (ge_s hW) ⟨by decide, nm_r (e' := nI (W / 256)) (ge_div 256 (by omega)) ?_⟩⟩⟩⟩⟩
  refine yf_n hp hm (op := 1) (by decide) (by decide) (by decide) (by decide) (by decide) (br_f (by decide) (br_t (by decide) ?_))
  refine yd_1 hd hs hm hc ht hx hy bx bY ?_
  exact br_f (by decide) (br_f (by decide) (H))
theorem yw_2 {post : SY → Prop} {z c p l i o t : Nat} {w r e : Nat → Int32} {W x y : Nat} (hW : W < 65536) (hz : z ≤ 1) (hc : c ≤ 1) (hp : p < 32) (ht : t < 256) (hx : r (W / 16 % 4) = nI x) (hy : r (W / 64 % 4) = nI y) (bx : x < 256) (bY : y < 256) (hw : w p = nI W) (hop : W % 16 = 2) (H : post (nI z, nI c, nI ((p + 1) % 32), nI l, nI i, nI o, nI t, nI 0, w, upd r (W / 16 % 4) (nI (gn_mov x y ((W / 256) % 4))), e)) : wpY_once post (nI z, nI c, nI p, nI l, nI i, nI o, nI t, nI 0, w, r, e) := by
  have hd : W / 16 % 4 < 4 := by omega
  have hs : W / 64 % 4 < 4 := by omega
  have hm : W / 256 < 256 := by omega
  unfold wpY_once
  dsimp only
  refine ⟨vp_in_nI hp (by decide), nm_r (e' := nI W) (by rw [nI_clamp (by omega), hw]) ⟨by decide, nm_r (e' := nI 2) (by rw [ge_rem 16 (by omega), hop]) ⟨by decide, by decide, nm_r (ge_d hW) ⟨by decide, by decide, nm_r (ge_s hW) ⟨by decide, nm_r (e' := nI (W / 256)) (ge_div 256 (by omega)) ?_⟩⟩⟩⟩⟩
  refine yf_n hp hm (op := 2) (by decide) (by decide) (by decide) (by decide) (by decide) (br_f (by decide) (br_t (by decide) ?_))
  refine yd_2 hd hs hm hc ht hx hy bx bY ?_
  exact br_f (by decide) (br_f (by decide) (H))
theorem yw_3 {post : SY → Prop} {z c p l i o t : Nat} {w r e : Nat → Int32} {W x y : Nat} (hW : W < 65536) (hz : z ≤ 1) (hc : c ≤ 1) (hp : p < 32) (ht : t < 256) (hx : r (W / 16 % 4) = nI x) (hy : r (W / 64 % 4) = nI y) (bx : x < 256) (bY : y < 256) (hw : w p = nI W) (hop : W % 16 = 3) (H : post (nI (gn_z ((x + y) % 256)), nI (gn_c (x + y)), nI ((p + 1) % 32), nI l, nI i, nI o, nI t, nI 0, w, upd r (W / 16 % 4) (nI ((x + y) % 256)), e)) : wpY_once post (nI z, nI c, nI p, nI l, nI i, nI o, nI t, nI 0, w, r, e) := by
  have hd : W / 16 % 4 < 4 := by omega
  have hs : W / 64 % 4 < 4 := by omega
  have hm : W / 256 < 256 := by omega
  unfold wpY_once
  dsimp only
  refine ⟨vp_in_nI hp (by decide), nm_r (e' := nI W) (by rw [nI_clamp (by omega), hw]) ⟨by decide, nm_r (e' := nI 3) (by rw [ge_rem 16 (by omega), hop]) ⟨by decide, by decide, nm_r (ge_d hW) ⟨by decide, by decide, nm_r (ge_s hW) ⟨by decide, nm_r (e' := nI (W / 256)) (ge_div 256 (by omega)) ?_⟩⟩⟩⟩⟩
  refine yf_n hp hm (op := 3) (by decide) (by decide) (by decide) (by decide) (by decide) (br_f (by decide) (br_t (by decide) ?_))
  refine yd_3 hd hs hm hc ht hx hy bx bY ?_
  exact br_f (by decide) (br_f (by decide) (H))
theorem yw_4 {post : SY → Prop} {z c p l i o t : Nat} {w r e : Nat → Int32} {W x y : Nat} (hW : W < 65536) (hz : z ≤ 1) (hc : c ≤ 1) (hp : p < 32) (ht : t < 256) (hx : r (W / 16 % 4) = nI x) (hy : r (W / 64 % 4) = nI y) (bx : x < 256) (bY : y < 256) (hw : w p = nI W) (hop : W % 16 = 4) (H : post (nI (gn_z ((x + y + c) % 256)), nI (gn_c (x + y + c)), nI ((p + 1) % 32), nI l, nI i, nI o, nI t, nI 0, w, upd r (W / 16 % 4) (nI ((x + y + c) % 256)), e)) : wpY_once post (nI z, nI c, nI p, nI l, nI i, nI o, nI t, nI 0, w, r, e) := by
  have hd : W / 16 % 4 < 4 := by omega
  have hs : W / 64 % 4 < 4 := by omega
  have hm : W / 256 < 256 := by omega
  unfold wpY_once
  dsimp only
  refine ⟨vp_in_nI hp (by decide), nm_r (e' := nI W) (by rw [nI_clamp (by omega), hw]) ⟨by decide, nm_r (e' := nI 4) (by rw [ge_rem 16 (by omega), hop]) ⟨by decide, by decide, nm_r (ge_d hW) ⟨by decide, by decide, nm_r (ge_s hW) ⟨by decide, nm_r (e' := nI (W / 256)) (ge_div 256 (by omega)) ?_⟩⟩⟩⟩⟩
  refine yf_n hp hm (op := 4) (by decide) (by decide) (by decide) (by decide) (by decide) (br_f (by decide) (br_t (by decide) ?_))
  refine yd_4 hd hs hm hc ht hx hy bx bY ?_
  exact br_f (by decide) (br_f (by decide) (H))
theorem yw_5 {post : SY → Prop} {z c p l i o t : Nat} {w r e : Nat → Int32} {W x y : Nat} (hW : W < 65536) (hz : z ≤ 1) (hc : c ≤ 1) (hp : p < 32) (ht : t < 256) (hx : r (W / 16 % 4) = nI x) (hy : r (W / 64 % 4) = nI y) (bx : x < 256) (bY : y < 256) (hw : w p = nI W) (hop : W % 16 = 5) (H : post (nI (gn_z ((x + 256 - y) % 256)), nI (gn_cs x y), nI ((p + 1) % 32), nI l, nI i, nI o, nI t, nI 0, w, upd r (W / 16 % 4) (nI ((x + 256 - y) % 256)), e)) : wpY_once post (nI z, nI c, nI p, nI l, nI i, nI o, nI t, nI 0, w, r, e) := by
  have hd : W / 16 % 4 < 4 := by omega
  have hs : W / 64 % 4 < 4 := by omega
  have hm : W / 256 < 256 := by omega
  unfold wpY_once
  dsimp only
  refine ⟨vp_in_nI hp (by decide), nm_r (e' := nI W) (by rw [nI_clamp (by omega), hw]) ⟨by decide, nm_r (e' := nI 5) (by rw [ge_rem 16 (by omega), hop]) ⟨by decide, by decide, nm_r (ge_d hW) ⟨by decide, by decide, nm_r (ge_s hW) ⟨by decide, nm_r (e' := nI (W / 256)) (ge_div 256 (by omega)) ?_⟩⟩⟩⟩⟩
  refine yf_n hp hm (op := 5) (by decide) (by decide) (by decide) (by decide) (by decide) (br_f (by decide) (br_t (by decide) ?_))
  refine yd_5 hd hs hm hc ht hx hy bx bY ?_
  exact br_f (by decide) (br_f (by decide) (H))
theorem yw_6 {post : SY → Prop} {z c p l i o t : Nat} {w r e : Nat → Int32} {W x y : Nat} (hW : W < 65536) (hz : z ≤ 1) (hc : c ≤ 1) (hp : p < 32) (ht : t < 256) (hx : r (W / 16 % 4) = nI x) (hy : r (W / 64 % 4) = nI y) (bx : x < 256) (bY : y < 256) (hw : w p = nI W) (hop : W % 16 = 6) (H : post (nI (gn_z (x &&& y)), nI c, nI ((p + 1) % 32), nI l, nI i, nI o, nI t, nI 0, w, upd r (W / 16 % 4) (nI (x &&& y)), e)) : wpY_once post (nI z, nI c, nI p, nI l, nI i, nI o, nI t, nI 0, w, r, e) := by
  have hd : W / 16 % 4 < 4 := by omega
  have hs : W / 64 % 4 < 4 := by omega
  have hm : W / 256 < 256 := by omega
  unfold wpY_once
  dsimp only
  refine ⟨vp_in_nI hp (by decide), nm_r (e' := nI W) (by rw [nI_clamp (by omega), hw]) ⟨by decide, nm_r (e' := nI 6) (by rw [ge_rem 16 (by omega), hop]) ⟨by decide, by decide, nm_r (ge_d hW) ⟨by decide, by decide, nm_r (ge_s hW) ⟨by decide, nm_r (e' := nI (W / 256)) (ge_div 256 (by omega)) ?_⟩⟩⟩⟩⟩
  refine yf_n hp hm (op := 6) (by decide) (by decide) (by decide) (by decide) (by decide) (br_f (by decide) (br_t (by decide) ?_))
  refine yd_6 hd hs hm hc ht hx hy bx bY ?_
  exact br_f (by decide) (br_f (by decide) (H))
theorem yw_7 {post : SY → Prop} {z c p l i o t : Nat} {w r e : Nat → Int32} {W x y : Nat} (hW : W < 65536) (hz : z ≤ 1) (hc : c ≤ 1) (hp : p < 32) (ht : t < 256) (hx : r (W / 16 % 4) = nI x) (hy : r (W / 64 % 4) = nI y) (bx : x < 256) (bY : y < 256) (hw : w p = nI W) (hop : W % 16 = 7) (H : post (nI (gn_z (x ||| y)), nI c, nI ((p + 1) % 32), nI l, nI i, nI o, nI t, nI 0, w, upd r (W / 16 % 4) (nI (x ||| y)), e)) : wpY_once post (nI z, nI c, nI p, nI l, nI i, nI o, nI t, nI 0, w, r, e) := by
  have hd : W / 16 % 4 < 4 := by omega
  have hs : W / 64 % 4 < 4 := by omega
  have hm : W / 256 < 256 := by omega
  unfold wpY_once
  dsimp only
  refine ⟨vp_in_nI hp (by decide), nm_r (e' := nI W) (by rw [nI_clamp (by omega), hw]) ⟨by decide, nm_r (e' := nI 7) (by rw [ge_rem 16 (by omega), hop]) ⟨by decide, by decide, nm_r (ge_d hW) ⟨by decide, by decide, nm_r (ge_s hW) ⟨by decide, nm_r (e' := nI (W / 256)) (ge_div 256 (by omega)) ?_⟩⟩⟩⟩⟩
  refine yf_n hp hm (op := 7) (by decide) (by decide) (by decide) (by decide) (by decide) (br_f (by decide) (br_t (by decide) ?_))
  refine yd_7 hd hs hm hc ht hx hy bx bY ?_
  exact br_f (by decide) (br_f (by decide) (H))
theorem yw_8 {post : SY → Prop} {z c p l i o t : Nat} {w r e : Nat → Int32} {W x y : Nat} (hW : W < 65536) (hz : z ≤ 1) (hc : c ≤ 1) (hp : p < 32) (ht : t < 256) (hx : r (W / 16 % 4) = nI x) (hy : r (W / 64 % 4) = nI y) (bx : x < 256) (bY : y < 256) (hw : w p = nI W) (hop : W % 16 = 8) (H : post (nI (gn_z (x ^^^ y)), nI c, nI ((p + 1) % 32), nI l, nI i, nI o, nI t, nI 0, w, upd r (W / 16 % 4) (nI (x ^^^ y)), e)) : wpY_once post (nI z, nI c, nI p, nI l, nI i, nI o, nI t, nI 0, w, r, e) := by
  have hd : W / 16 % 4 < 4 := by omega
  have hs : W / 64 % 4 < 4 := by omega
  have hm : W / 256 < 256 := by omega
  unfold wpY_once
  dsimp only
  refine ⟨vp_in_nI hp (by decide), nm_r (e' := nI W) (by rw [nI_clamp (by omega), hw]) ⟨by decide, nm_r (e' := nI 8) (by rw [ge_rem 16 (by omega), hop]) ⟨by decide, by decide, nm_r (ge_d hW) ⟨by decide, by decide, nm_r (ge_s hW) ⟨by decide, nm_r (e' := nI (W / 256)) (ge_div 256 (by omega)) ?_⟩⟩⟩⟩⟩
  refine yf_n hp hm (op := 8) (by decide) (by decide) (by decide) (by decide) (by decide) (br_f (by decide) (br_t (by decide) ?_))
  refine yd_8 hd hs hm hc ht hx hy bx bY ?_
  exact br_f (by decide) (br_f (by decide) (H))
theorem yw_9 {post : SY → Prop} {z c p l i o t : Nat} {w r e : Nat → Int32} {W x y : Nat} (hW : W < 65536) (hz : z ≤ 1) (hc : c ≤ 1) (hp : p < 32) (ht : t < 256) (hx : r (W / 16 % 4) = nI x) (hy : r (W / 64 % 4) = nI y) (bx : x < 256) (bY : y < 256) (hw : w p = nI W) (hop : W % 16 = 9) (H : post (nI (gn_z (gn_sh x (W / 256) c)), nI (gn_sc x (W / 256)), nI ((p + 1) % 32), nI l, nI i, nI o, nI t, nI 0, w, upd r (W / 16 % 4) (nI (gn_sh x (W / 256) c)), e)) : wpY_once post (nI z, nI c, nI p, nI l, nI i, nI o, nI t, nI 0, w, r, e) := by
  have hd : W / 16 % 4 < 4 := by omega
  have hs : W / 64 % 4 < 4 := by omega
  have hm : W / 256 < 256 := by omega
  unfold wpY_once
  dsimp only
  refine ⟨vp_in_nI hp (by decide), nm_r (e' := nI W) (by rw [nI_clamp (by omega), hw]) ⟨by decide, nm_r (e' := nI 9) (by rw [ge_rem 16 (by omega), hop]) ⟨by decide, by decide, nm_r (ge_d hW) ⟨by decide, by decide, nm_r (ge_s hW) ⟨by decide, nm_r (e' := nI (W / 256)) (ge_div 256 (by omega)) ?_⟩⟩⟩⟩⟩
  refine yf_n hp hm (op := 9) (by decide) (by decide) (by decide) (by decide) (by decide) (br_f (by decide) (br_t (by decide) ?_))
  refine yd_9 hd hs hm hc ht hx hy bx bY ?_
  exact br_f (by decide) (br_f (by decide) (H))
theorem yw_10 {post : SY → Prop} {z c p l i o t : Nat} {w r e : Nat → Int32} {W x y : Nat} (hW : W < 65536) (hz : z ≤ 1) (hc : c ≤ 1) (hp : p < 32) (ht : t < 256) (hx : r (W / 16 % 4) = nI x) (hy : r (W / 64 % 4) = nI y) (bx : x < 256) (bY : y < 256) (hw : w p = nI W) (hop : W % 16 = 10) (H : post (nI z, nI c, nI ((p + 1) % 32), nI l, nI i, nI o, nI t, nI 0, w, upd r (W / 16 % 4) (e ((y + (W / 256)) % 16)), e)) : wpY_once post (nI z, nI c, nI p, nI l, nI i, nI o, nI t, nI 0, w, r, e) := by
  have hd : W / 16 % 4 < 4 := by omega
  have hs : W / 64 % 4 < 4 := by omega
  have hm : W / 256 < 256 := by omega
  unfold wpY_once
  dsimp only
  refine ⟨vp_in_nI hp (by decide), nm_r (e' := nI W) (by rw [nI_clamp (by omega), hw]) ⟨by decide, nm_r (e' := nI 10) (by rw [ge_rem 16 (by omega), hop]) ⟨by decide, by decide, nm_r (ge_d hW) ⟨by decide, by decide, nm_r (ge_s hW) ⟨by decide, nm_r (e' := nI (W / 256)) (ge_div 256 (by omega)) ?_⟩⟩⟩⟩⟩
  refine yf_n hp hm (op := 10) (by decide) (by decide) (by decide) (by decide) (by decide) (br_f (by decide) (br_t (by decide) ?_))
  refine yd_10 hd hs hm hc ht hx hy bx bY ?_
  exact br_f (by decide) (br_f (by decide) (H))
theorem yw_11 {post : SY → Prop} {z c p l i o t : Nat} {w r e : Nat → Int32} {W x y : Nat} (hW : W < 65536) (hz : z ≤ 1) (hc : c ≤ 1) (hp : p < 32) (ht : t < 256) (hx : r (W / 16 % 4) = nI x) (hy : r (W / 64 % 4) = nI y) (bx : x < 256) (bY : y < 256) (hw : w p = nI W) (hop : W % 16 = 11) (H : post (nI z, nI c, nI ((p + 1) % 32), nI l, nI i, nI o, nI t, nI 0, w, r, upd e ((y + (W / 256)) % 16) (nI x))) : wpY_once post (nI z, nI c, nI p, nI l, nI i, nI o, nI t, nI 0, w, r, e) := by
  have hd : W / 16 % 4 < 4 := by omega
  have hs : W / 64 % 4 < 4 := by omega
  have hm : W / 256 < 256 := by omega
  unfold wpY_once
  dsimp only
  refine ⟨vp_in_nI hp (by decide), nm_r (e' := nI W) (by rw [nI_clamp (by omega), hw]) ⟨by decide, nm_r (e' := nI 11) (by rw [ge_rem 16 (by omega), hop]) ⟨by decide, by decide, nm_r (ge_d hW) ⟨by decide, by decide, nm_r (ge_s hW) ⟨by decide, nm_r (e' := nI (W / 256)) (ge_div 256 (by omega)) ?_⟩⟩⟩⟩⟩
  refine yf_n hp hm (op := 11) (by decide) (by decide) (by decide) (by decide) (by decide) (br_f (by decide) (br_t (by decide) ?_))
  refine yd_11 hd hs hm hc ht hx hy bx bY ?_
  exact br_f (by decide) (br_f (by decide) (H))
theorem yw_15i {post : SY → Prop} {z c p l i o t : Nat} {w r e : Nat → Int32} {W x y : Nat} (hW : W < 65536) (hz : z ≤ 1) (hc : c ≤ 1) (hp : p < 32) (ht : t < 256) (hx : r (W / 16 % 4) = nI x) (hy : r (W / 64 % 4) = nI y) (bx : x < 256) (bY : y < 256) (hw : w p = nI W) (hop : W % 16 = 15) (h2 : (W / 256) % 2 = 0) (H : post (nI z, nI c, nI ((p + 1) % 32), nI l, nI i, nI o, nI t, nI 0, w, upd r (W / 16 % 4) (nI i), e)) : wpY_once post (nI z, nI c, nI p, nI l, nI i, nI o, nI t, nI 0, w, r, e) := by
  have hd : W / 16 % 4 < 4 := by omega
  have hs : W / 64 % 4 < 4 := by omega
  have hm : W / 256 < 256 := by omega
  unfold wpY_once
  dsimp only
  refine ⟨vp_in_nI hp (by decide), nm_r (e' := nI W) (by rw [nI_clamp (by omega), hw]) ⟨by decide, nm_r (e' := nI 15) (by rw [ge_rem 16 (by omega), hop]) ⟨by decide, by decide, nm_r (ge_d hW) ⟨by decide, by decide, nm_r (ge_s hW) ⟨by decide, nm_r (e' := nI (W / 256)) (ge_div 256 (by omega)) ?_⟩⟩⟩⟩⟩
  refine yf_n hp hm (op := 15) (by decide) (by decide) (by decide) (by decide) (by decide) (br_f (by decide) (br_f (by decide) (br_t (by decide) ?_)))
  refine yd_15i hd hs hm hc ht hx hy bx bY h2 ?_
  exact br_f (by decide) (br_f (by decide) (H))
theorem yw_15o {post : SY → Prop} {z c p l i o t : Nat} {w r e : Nat → Int32} {W x y : Nat} (hW : W < 65536) (hz : z ≤ 1) (hc : c ≤ 1) (hp : p < 32) (ht : t < 256) (hx : r (W / 16 % 4) = nI x) (hy : r (W / 64 % 4) = nI y) (bx : x < 256) (bY : y < 256) (hw : w p = nI W) (hop : W % 16 = 15) (h2 : ¬ (W / 256) % 2 = 0) (H : post (nI z, nI c, nI ((p + 1) % 32), nI l, nI i, nI x, nI ((t + 1) % 256), nI 0, w, r, e)) : wpY_once post (nI z, nI c, nI p, nI l, nI i, nI o, nI t, nI 0, w, r, e) := by
  have hd : W / 16 % 4 < 4 := by omega
  have hs : W / 64 % 4 < 4 := by omega
  have hm : W / 256 < 256 := by omega
  unfold wpY_once
  dsimp only
  refine ⟨vp_in_nI hp (by decide), nm_r (e' := nI W) (by rw [nI_clamp (by omega), hw]) ⟨by decide, nm_r (e' := nI 15) (by rw [ge_rem 16 (by omega), hop]) ⟨by decide, by decide, nm_r (ge_d hW) ⟨by decide, by decide, nm_r (ge_s hW) ⟨by decide, nm_r (e' := nI (W / 256)) (ge_div 256 (by omega)) ?_⟩⟩⟩⟩⟩
  refine yf_n hp hm (op := 15) (by decide) (by decide) (by decide) (by decide) (by decide) (br_f (by decide) (br_f (by decide) (br_t (by decide) ?_)))
  refine yd_15o hd hs hm hc ht hx hy bx bY h2 ?_
  exact br_f (by decide) (br_f (by decide) (H))
end
section
/-! the states that both sides hold, and one instruction from such a state -/
def gk_B (z c p l i o t h : Nat) (w r e : Nat → Int32) : Prop := z ≤ 1 ∧ c ≤ 1 ∧ p < 32 ∧ l < 32 ∧ i < 256 ∧ o < 256 ∧ t < 256 ∧ h ≤ 1 ∧ gk_A 65536 32 w ∧ gk_A 256 4 r ∧ gk_A 256 16 e
def gk_Ok (u : SX) : Prop := ∃ (z c p l i o t h : Nat) (w r e : Nat → Int32), gk_B z c p l i o t h w r e ∧ u = (nI z, nI c, nI p, nI l, nI i, nI o, nI t, nI h, w, r, e)
theorem gk_ok {z c p l i o t h : Nat} {w r e : Nat → Int32} (B : gk_B z c p l i o t h w r e) : gk_Ok (nI z, nI c, nI p, nI l, nI i, nI o, nI t, nI h, w, r, e) := ⟨z, c, p, l, i, o, t, h, w, r, e, B, rfl⟩
theorem gk_mk {z c p l i o t h : Nat} {w r e : Nat → Int32} (hz : z ≤ 1) (hc : c ≤ 1) (hp : p < 32) (hl : l < 32) (hi : i < 256) (ho : o < 256) (ht : t < 256) (hh : h ≤ 1) (hw : gk_A 65536 32 w) (hr : gk_A 256 4 r) (he : gk_A 256 16 e) : gk_Ok (nI z, nI c, nI p, nI l, nI i, nI o, nI t, nI h, w, r, e) := gk_ok ⟨hz, hc, hp, hl, hi, ho, ht, hh, hw, hr, he⟩
theorem gs_once {z c p l i o t : Nat} {w r e : Nat → Int32} (B : gk_B z c p l i o t 0 w r e) : ∃ u' : SX, gk_Ok u' ∧ (∀ post : SX → Prop, post u' → wpX_doWord post (nI z, nI c, nI p, nI l, nI i, nI o, nI t, nI 0, w, r, e) (w p)) ∧ (∀ post : SY → Prop, post u' → wpY_once post (nI z, nI c, nI p, nI l, nI i, nI o, nI t, nI 0, w, r, e)) := by
  obtain ⟨hz, hc, hp, hl, hi, ho, ht, hh, hw, hr, he⟩ := B
  obtain ⟨W, hW, eW⟩ := hw p hp
  have hm : W / 256 < 256 := by omega
  obtain ⟨x, bx, hx⟩ := hr (W / 16 % 4) (by omega)
  obtain ⟨y, bY, hy⟩ := hr (W / 64 % 4) (by omega)
  obtain ⟨q, bq, eq⟩ := he ((y + W / 256) % 16) (by omega)
  have o16 : W % 16 = 0 ∨ W % 16 = 1 ∨ W % 16 = 2 ∨ W % 16 = 3 ∨ W % 16 = 4 ∨ W % 16 = 5 ∨ W % 16 = 6 ∨ W % 16 = 7 ∨ W % 16 = 8 ∨ W % 16 = 9 ∨ W % 16 = 10 ∨ W % 16 = 11 ∨ W % 16 = 12 ∨ W % 16 = 13 ∨ W % 16 = 14 ∨ W % 16 = 15 := by omega
  rw [eW]
  rcases o16 with hop | hop | hop | hop | hop | hop | hop | hop | hop | hop | hop | hop | hop | hop | hop | hop
  · skip
    exact ⟨(nI z, nI c, nI p, nI l, nI i, nI o, nI t, nI 1, w, r, e), gk_mk hz hc hp hl hi ho ht (by decide) hw hr he, fun _ H => xw_0 hW hz hc hp ht hx hy bx bY hop H, fun _ H => yw_0 hW hz hc hp ht hx hy bx bY eW hop H⟩
  · skip
    exact ⟨(nI z, nI c, nI ((p + 1) % 32), nI l, nI i, nI o, nI t, nI 0, w, upd r (W / 16 % 4) (nI (W / 256)), e), gk_mk hz hc (by omega) hl hi ho ht (by decide) hw (gk_upd hr hm) he, fun _ H => xw_1 hW hz hc hp ht hx hy bx bY hop H, fun _ H => yw_1 hW hz hc hp ht hx hy bx bY eW hop H⟩
  · skip
    exact ⟨(nI z, nI c, nI ((p + 1) % 32), nI l, nI i, nI o, nI t, nI 0, w, upd r (W / 16 % 4) (nI (gn_mov x y ((W / 256) % 4))), e), gk_mk hz hc (by omega) hl hi ho ht (by decide) hw (gk_upd hr (gn_mov_b bx bY)) he, fun _ H => xw_2 hW hz hc hp ht hx hy bx bY hop H, fun _ H => yw_2 hW hz hc hp ht hx hy bx bY eW hop H⟩
  · skip
    exact ⟨(nI (gn_z ((x + y) % 256)), nI (gn_c (x + y)), nI ((p + 1) % 32), nI l, nI i, nI o, nI t, nI 0, w, upd r (W / 16 % 4) (nI ((x + y) % 256)), e), gk_mk (gn_z_b _) (gn_c_b _) (by omega) hl hi ho ht (by decide) hw (gk_upd hr (by omega)) he, fun _ H => xw_3 hW hz hc hp ht hx hy bx bY hop H, fun _ H => yw_3 hW hz hc hp ht hx hy bx bY eW hop H⟩
  · skip
    exact ⟨(nI (gn_z ((x + y + c) % 256)), nI (gn_c (x + y + c)), nI ((p + 1) % 32), nI l, nI i, nI o, nI t, nI 0, w, upd r (W / 16 % 4) (nI ((x + y + c) % 256)), e), gk_mk (gn_z_b _) (gn_c_b _) (by omega) hl hi ho ht (by decide) hw (gk_upd hr (by omega)) he, fun _ H => xw_4 hW hz hc hp ht hx hy bx bY hop H, fun _ H => yw_4 hW hz hc hp ht hx hy bx bY eW hop H⟩
  · skip
    exact ⟨(nI (gn_z ((x + 256 - y) % 256)), nI (gn_cs x y), nI ((p + 1) % 32), nI l, nI i, nI o, nI t, nI 0, w, upd r (W / 16 % 4) (nI ((x + 256 - y) % 256)), e), gk_mk (gn_z_b _) (gn_cs_b _ _) (by omega) hl hi ho ht (by decide) hw (gk_upd hr (by omega)) he, fun _ H => xw_5 hW hz hc hp ht hx hy bx bY hop H, fun _ H => yw_5 hW hz hc hp ht hx hy bx bY eW hop H⟩
  · skip
    exact ⟨(nI (gn_z (x &&& y)), nI c, nI ((p + 1) % 32), nI l, nI i, nI o, nI t, nI 0, w, upd r (W / 16 % 4) (nI (x &&& y)), e), gk_mk (gn_z_b _) hc (by omega) hl hi ho ht (by decide) hw (gk_upd hr (gn_and bx)) he, fun _ H => xw_6 hW hz hc hp ht hx hy bx bY hop H, fun _ H => yw_6 hW hz hc hp ht hx hy bx bY eW hop H⟩
  · skip
    exact ⟨(nI (gn_z (x ||| y)), nI c, nI ((p + 1) % 32), nI l, nI i, nI o, nI t, nI 0, w, upd r (W / 16 % 4) (nI (x ||| y)), e), gk_mk (gn_z_b _) hc (by omega) hl hi ho ht (by decide) hw (gk_upd hr (gn_or bx bY)) he, fun _ H => xw_7 hW hz hc hp ht hx hy bx bY hop H, fun _ H => yw_7 hW hz hc hp ht hx hy bx bY eW hop H⟩
  · skip
    exact ⟨(nI (gn_z (x ^^^ y)), nI c, nI ((p + 1) % 32), nI l, nI i, nI o, nI t, nI 0, w, upd r (W / 16 % 4) (nI (x ^^^ y)), e), gk_mk (gn_z_b _) hc (by omega) hl hi ho ht (by decide) hw (gk_upd hr (gn_xor bx bY)) he, fun _ H => xw_8 hW hz hc hp ht hx hy bx bY hop H, fun _ H => yw_8 hW hz hc hp ht hx hy bx bY eW hop H⟩
  · skip
    exact ⟨(nI (gn_z (gn_sh x (W / 256) c)), nI (gn_sc x (W / 256)), nI ((p + 1) % 32), nI l, nI i, nI o, nI t, nI 0, w, upd r (W / 16 % 4) (nI (gn_sh x (W / 256) c)), e), gk_mk (gn_z_b _) (gn_sc_b bx) (by omega) hl hi ho ht (by decide) hw (gk_upd hr (gn_sh_b bx hc)) he, fun _ H => xw_9 hW hz hc hp ht hx hy bx bY hop H, fun _ H => yw_9 hW hz hc hp ht hx hy bx bY eW hop H⟩
  · skip
    exact ⟨(nI z, nI c, nI ((p + 1) % 32), nI l, nI i, nI o, nI t, nI 0, w, upd r (W / 16 % 4) (e ((y + (W / 256)) % 16)), e), gk_mk hz hc (by omega) hl hi ho ht (by decide) hw (by rw [eq]; exact gk_upd hr bq) he, fun _ H => xw_10 hW hz hc hp ht hx hy bx bY hop H, fun _ H => yw_10 hW hz hc hp ht hx hy bx bY eW hop H⟩
  · skip
    exact ⟨(nI z, nI c, nI ((p + 1) % 32), nI l, nI i, nI o, nI t, nI 0, w, r, upd e ((y + (W / 256)) % 16) (nI x)), gk_mk hz hc (by omega) hl hi ho ht (by decide) hw hr (gk_upd he bx), fun _ H => xw_11 hW hz hc hp ht hx hy bx bY hop H, fun _ H => yw_11 hW hz hc hp ht hx hy bx bY eW hop H⟩
  · skip
    exact ⟨(nI z, nI c, nI ((W / 256) % 32), nI l, nI i, nI o, nI t, nI 0, w, r, e), gk_mk hz hc (by omega) hl hi ho ht (by decide) hw hr he, fun _ H => xw_12 hW hz hc hp ht hx hy bx bY hop H, fun _ H => yw_12 hW hz hc hp ht hx hy bx bY eW hop H⟩
  · skip
    exact ⟨(nI z, nI c, nI (gn_br (W / 16 % 4) z c p (W / 256)), nI l, nI i, nI o, nI t, nI 0, w, r, e), gk_mk hz hc gn_br_b hl hi ho ht (by decide) hw hr he, fun _ H => xw_13 hW hz hc hp ht hx hy bx bY hop H, fun _ H => yw_13 hW hz hc hp ht hx hy bx bY eW hop H⟩
  · by_cases h2 : W / 256 < 128
    · skip
      exact ⟨(nI z, nI c, nI ((W / 256) % 32), nI ((p + 1) % 32), nI i, nI o, nI t, nI 0, w, r, e), gk_mk hz hc (by omega) (by omega) hi ho ht (by decide) hw hr he, fun _ H => xw_14L hW hz hc hp ht hx hy bx bY hop h2 H, fun _ H => yw_14L hW hz hc hp ht hx hy bx bY eW hop h2 H⟩
    · have h2 : 128 ≤ W / 256 := by omega
      exact ⟨(nI z, nI c, nI l, nI l, nI i, nI o, nI t, nI 0, w, r, e), gk_mk hz hc hl hl hi ho ht (by decide) hw hr he, fun _ H => xw_14H hW hz hc hp ht hx hy bx bY hop h2 H, fun _ H => yw_14H hW hz hc hp ht hx hy bx bY eW hop h2 H⟩
  · by_cases h2 : W / 256 % 2 = 0
    · skip
      exact ⟨(nI z, nI c, nI ((p + 1) % 32), nI l, nI i, nI o, nI t, nI 0, w, upd r (W / 16 % 4) (nI i), e), gk_mk hz hc (by omega) hl hi ho ht (by decide) hw (gk_upd hr hi) he, fun _ H => xw_15i hW hz hc hp ht hx hy bx bY hop h2 H, fun _ H => yw_15i hW hz hc hp ht hx hy bx bY eW hop h2 H⟩
    · skip
      exact ⟨(nI z, nI c, nI ((p + 1) % 32), nI l, nI i, nI x, nI ((t + 1) % 256), nI 0, w, r, e), gk_mk hz hc (by omega) hl hi bx (by omega) (by decide) hw hr he, fun _ H => xw_15o hW hz hc hp ht hx hy bx bY hop h2 H, fun _ H => yw_15o hW hz hc hp ht hx hy bx bY eW hop h2 H⟩
/-! cycle: both loops in lockstep -/
theorem gs_cyc (n M : Int32) (h60 : M ≤ 60) (hM : ∀ j : Nat, j < 60 → (n ≤ nI j ↔ M ≤ nI j)) : ∀ d j : Nat, j + d = 60 → ∀ {z c p l i o t h : Nat} {w r e : Nat → Int32}, gk_B z c p l i o t h w r e → ∃ (q : Int32) (u' : SX), gk_Ok u' ∧ (∀ post : Int32 → SX → Prop, post q u' → wX_cycle_16 post n (d + 1) (nI j) (nI j) (nI z) (nI c) (nI p) (nI l) (nI i) (nI o) (nI t) (nI h) w r e) ∧ (∀ post : Int32 → SY → Prop, post q u' → wY_cycle_27 post M (d + 1) (nI j) (nI z) (nI c) (nI p) (nI l) (nI i) (nI o) (nI t) (nI h) w r e) := by
  intro d
  induction d with
  | zero =>
    intro j hj z c p l i o t h w r e B
    have hj60 : j = 60 := by omega
    subst hj60
    exact ⟨nI 60, _, gk_ok B, fun _ H => br_t (nI_le (a := 60) (b := 60) (by omega) (by decide)) H, fun _ H => br_t h60 H⟩
  | succ d ih =>
    intro j hj z c p l i o t h w r e B
    have a60 : ¬ (60 : Int32) ≤ nI j := nI_ge (b := 60) (by omega) (by decide)
    have hMj := hM j (by omega)
    by_cases hn : n ≤ nI j
    · exact ⟨nI j, _, gk_ok B, fun _ H => br_f a60 (br_t hn H), fun _ H => br_t (hMj.mp hn) H⟩
    · have hn2 : ¬ M ≤ nI j := fun a => hn (hMj.mpr a)
      have hh1 : h ≤ 1 := B.2.2.2.2.2.2.2.1
      have hp : p < 32 := B.2.2.1
      by_cases hh : h = 0
      · subst hh
        obtain ⟨u', ok', hX, hY⟩ := gs_once B
        obtain ⟨z2, c2, p2, l2, i2, o2, t2, h2, w2, r2, e2, B2, rfl⟩ := ok'
        obtain ⟨q, u2, ok2, kX, kY⟩ := ih (j + 1) (by omega) B2
        refine ⟨q, u2, ok2, fun post H => br_f a60 (br_f hn (br_t rfl ⟨vp_in_nI hp (by decide), ?_⟩)), fun post H => br_f hn2 (br_t rfl ?_)⟩
        · rw [nI_clamp (by omega)]
          refine hX _ ?_
          try dsimp only
          exact nm_r (nI_1 j) (nm_r (nI_1 j) (kX post H))
        · refine hY _ ?_
          try dsimp only
          exact nm_r (nI_1 j) (kY post H)
      · have hne : ¬ nI h = 0 := nI_ne0 (by omega) (by omega)
        exact ⟨nI j, _, gk_ok B, fun _ H => br_f a60 (br_f hn (br_f hne H)), fun _ H => br_f hn2 (br_f hne H)⟩
/-! reset -/
theorem xr_22 {post : SX → Prop} {z c p l i o t h : Int32} {w r e : Nat → Int32} (H : post (0, 0, 0, 0, i, 0, 0, 0, w, r, gk_z e 16)) : ∀ d k : Nat, k + d = 16 → wX_reset_22 post z c p l i o t h (d + 1) (nI k) w r (gk_z e k) := by
  intro d
  induction d with
  | zero =>
    intro k hk
    have hk2 : k = 16 := by omega
    subst hk2
    exact br_t (nI_le (a := 16) (b := 16) (by omega) (by decide)) H
  | succ d ih =>
    intro k hk
    exact br_f (nI_ge (b := 16) (by omega) (by decide)) ⟨vp_in_nI (by omega) (by decide), nm_r (e' := gk_z e (k + 1)) (by rw [nI_clamp (by omega)]; exact gk_zs e k) (nm_r (nI_1 k) (ih (k + 1) (by omega)))⟩
theorem xr_2 {post : SX → Prop} {z c p l i o t h : Int32} {w r e : Nat → Int32} (H : post (0, 0, 0, 0, i, 0, 0, 0, w, gk_z r 4, gk_z e 16)) : ∀ d k : Nat, k + d = 4 → wX_reset_2 post z c p l i o t h (d + 1) (nI k) w (gk_z r k) e := by
  intro d
  induction d with
  | zero =>
    intro k hk
    have hk2 : k = 4 := by omega
    subst hk2
    have K : wX_reset_22 post z c p l i o t h 17 (nI 0) w (gk_z r 4) (gk_z e 0) := xr_22 H 16 0 rfl
    rw [gk_z0] at K
    exact br_t (nI_le (a := 4) (b := 4) (by omega) (by decide)) ⟨17, K⟩
  | succ d ih =>
    intro k hk
    exact br_f (nI_ge (b := 4) (by omega) (by decide)) ⟨vp_in_nI (by omega) (by decide), nm_r (e' := gk_z r (k + 1)) (by rw [nI_clamp (by omega)]; exact gk_zs r k) (nm_r (nI_1 k) (ih (k + 1) (by omega)))⟩
theorem gk_zm (r : Nat → Int32) (k : Nat) : upd (gk_z r (min k 4)) (k % 4) 0 = gk_z r (min (k + 1) 4) := by
  by_cases h : k < 4
  · rw [Nat.min_eq_left (by omega), Nat.min_eq_left (by omega), Nat.mod_eq_of_lt h]
    exact gk_zs r k
  · rw [Nat.min_eq_right (by omega), Nat.min_eq_right (by omega)]
    exact gk_zi r (Nat.mod_lt _ (by decide))
theorem yr_2 {post : SY → Prop} {z c p l i o t h : Int32} {w r e : Nat → Int32} (H : post (0, 0, 0, 0, i, 0, 0, 0, w, gk_z r 4, gk_z e 16)) : ∀ d k : Nat, k + d = 16 → wY_reset_2 post z c p l i o t h (d + 1) (nI k) w (gk_z r (min k 4)) (gk_z e k) := by
  intro d
  induction d with
  | zero =>
    intro k hk
    have hk2 : k = 16 := by omega
    subst hk2
    exact br_t (nI_le (a := 16) (b := 16) (by omega) (by decide)) H
  | succ d ih =>
    intro k hk
    have hk4 : k % 4 < 4 := Nat.mod_lt _ (by decide)
    have er : nI k - nI k / 4 * 4 = nI (k % 4) := ge_rem 4 (by omega)
    refine br_f (nI_ge (b := 16) (by omega) (by decide)) ⟨vp_in_nI (by omega) (by decide), nm_r (e' := gk_z e (k + 1)) (by rw [nI_clamp (by omega)]; exact gk_zs e k) ⟨by decide, ?_⟩⟩
    rw [er]
    exact ⟨vp_in_nI hk4 (by decide), nm_r (e' := gk_z r (min (k + 1) 4)) (by rw [nI_clamp (by omega)]; exact gk_zm r k) (nm_r (nI_1 k) (ih (k + 1) (by omega)))⟩
end
section
/-! the relation, and one statement a method -/
theorem gi_c (x : Int32) (n : Nat) (hn : n < 2 ^ 31) : (x < 0 ∨ nI n ≤ x) ∨ ∃ j : Nat, j < n ∧ x = nI j := by
  rcases pk_ix x hn with a | a | a
  · exact Or.inl (Or.inl a)
  · exact Or.inl (Or.inr a)
  · exact Or.inr a
/-- the two states are the same, and each number in it is within its range -/
def i_Rel (k : Nat) (u : SX) (v : SY) : Prop := u = v ∧ gk_Ok u
theorem gk_rel {k : Nat} {u : SX} (h : gk_Ok u) : i_Rel k u u := ⟨rfl, h⟩
theorem i_up {k : Nat} {u : SX} {v : SY} (h : i_Rel k u v) : i_Rel (k + 3) u v := h
theorem i_vc0 : wpX_init (fun u => wpY_init (fun v => i_Rel 0 u v)) :=
  gk_rel (k := 0) (gk_mk (z := 0) (c := 0) (p := 0) (l := 0) (i := 0) (o := 0) (t := 0) (h := 0) (by decide) (by decide) (by decide) (by decide) (by decide) (by decide) (by decide) (by decide) (gk_0 (by decide)) (gk_0 (by decide)) (gk_0 (by decide)))
theorem i_vc_program {k : Nat} {u : SX} {v : SY} (I : i_Rel k u v) (hk : k + 3 ≤ 1536) (v1 : Int32) (v2 : Int32) : wpX_program (fun r u' => wpY_program (fun r' v' => r' = r ∧ i_Rel (k + 3) u' v') v v1 v2) u v1 v2 := by
  obtain ⟨rfl, ok⟩ := I
  obtain ⟨z, c, p, l, i, o, t, h, w, r, e, B, rfl⟩ := ok
  have ok := gk_ok B
  unfold wpX_program
  dsimp only
  rcases gi_c v1 32 (by decide) with hb | ⟨j, hj, rfl⟩
  · refine xk_isPosition_f hb (br_t rfl ?_)
    unfold wpY_program
    dsimp only
    rcases hb with a | a
    · exact br_t a ⟨rfl, gk_rel ok⟩
    · exact br_f (gi_pos (by decide) a) (br_t (gi_gt (n := 31) (by decide) a) ⟨rfl, gk_rel ok⟩)
  · have y0 : ¬ nI j < 0 := nI_pos (by omega)
    have y1 : ¬ (31 : Int32) < nI j := nI_nlt (a := 31) (by omega) (by decide)
    refine xk_isPosition_t hj (br_f (by decide) ?_)
    unfold wpY_program
    dsimp only
    rcases gi_c v2 65536 (by decide) with hb | ⟨q, hq, rfl⟩
    · rcases hb with a | a
      · exact br_t a (br_f y0 (br_f y1 (br_t a ⟨rfl, gk_rel ok⟩)))
      · have a0 : ¬ v2 < 0 := gi_pos (by decide) a
        have a1 : ¬ v2 ≤ 65535 := Int32.not_le.mpr (gi_gt (n := 65535) (by decide) a)
        exact br_f a0 (br_f a1 (br_f y0 (br_f y1 (br_f a0 (br_f a1 ⟨rfl, gk_rel ok⟩)))))
    · have a0 : ¬ nI q < 0 := nI_pos (by omega)
      have a1 : nI q ≤ 65535 := nI_le (b := 65535) (by omega) (by decide)
      have hv : vp_in (nI j) 32 := vp_in_nI hj (by decide)
      have eu : upd w (nI j).toNatClampNeg (nI q) = upd w j (nI q) := by rw [nI_clamp (by omega)]
      have ok2 : gk_Ok (nI z, nI c, nI p, nI l, nI i, nI o, nI t, nI h, upd w j (nI q), r, e) :=
        gk_mk B.1 B.2.1 B.2.2.1 B.2.2.2.1 B.2.2.2.2.1 B.2.2.2.2.2.1 B.2.2.2.2.2.2.1 B.2.2.2.2.2.2.2.1 (gk_upd B.2.2.2.2.2.2.2.2.1 hq) B.2.2.2.2.2.2.2.2.2.1 B.2.2.2.2.2.2.2.2.2.2
      exact br_f a0 (br_t a1 ⟨hv, nm_r eu (br_f y0 (br_f y1 (br_f a0 (br_t a1 ⟨hv, nm_r eu ⟨rfl, gk_rel ok2⟩⟩))))⟩)
theorem i_vc_word {k : Nat} {u : SX} {v : SY} (I : i_Rel k u v) (hk : k + 3 ≤ 1536) (v1 : Int32) : wpX_word (fun r => wpY_word (fun r' => r' = r ∧ i_Rel (k + 3) u v) v v1) u v1 := by
  obtain ⟨rfl, ok⟩ := I
  obtain ⟨z, c, p, l, i, o, t, h, w, r, e, B, rfl⟩ := ok
  have ok := gk_ok B
  unfold wpX_word
  dsimp only
  rcases gi_c v1 32 (by decide) with hb | ⟨j, hj, rfl⟩
  · refine xk_isPosition_f hb (br_t rfl ?_)
    unfold wpY_word
    dsimp only
    rcases hb with a | a
    · exact br_t a ⟨rfl, gk_rel ok⟩
    · exact br_f (gi_pos (by decide) a) (br_t (gi_gt (n := 31) (by decide) a) ⟨rfl, gk_rel ok⟩)
  · have y0 : ¬ nI j < 0 := nI_pos (by omega)
    have y1 : ¬ (31 : Int32) < nI j := nI_nlt (a := 31) (by omega) (by decide)
    have hv : vp_in (nI j) 32 := vp_in_nI hj (by decide)
    refine xk_isPosition_t hj (br_f (by decide) ?_)
    unfold wpY_word
    dsimp only
    exact ⟨hv, br_f y0 (br_f y1 ⟨hv, rfl, gk_rel ok⟩)⟩
theorem i_vc_reset {k : Nat} {u : SX} {v : SY} (I : i_Rel k u v) (hk : k + 3 ≤ 1536) : wpX_reset (fun u' => wpY_reset (fun v' => i_Rel (k + 3) u' v') v) u := by
  obtain ⟨rfl, ok⟩ := I
  obtain ⟨z, c, p, l, i, o, t, h, w, r, e, B, rfl⟩ := ok
  have ok2 : gk_Ok (nI 0, nI 0, nI 0, nI 0, nI i, nI 0, nI 0, nI 0, w, gk_z r 4, gk_z e 16) :=
    gk_mk (by decide) (by decide) (by decide) (by decide) B.2.2.2.2.1 (by decide) (by decide) (by decide) B.2.2.2.2.2.2.2.2.1 (gk_zA (by decide) B.2.2.2.2.2.2.2.2.2.1) (gk_zA (by decide) B.2.2.2.2.2.2.2.2.2.2)
  have H : wpY_reset (fun v' => i_Rel (k + 3) ((0, 0, 0, 0, nI i, 0, 0, 0, w, gk_z r 4, gk_z e 16) : SX) v') (nI z, nI c, nI p, nI l, nI i, nI o, nI t, nI h, w, r, e) := by
    have K := yr_2 (post := fun v' => i_Rel (k + 3) ((0, 0, 0, 0, nI i, 0, 0, 0, w, gk_z r 4, gk_z e 16) : SX) v') (z := nI z) (c := nI c) (p := nI p) (l := nI l) (i := nI i) (o := nI o) (t := nI t) (h := nI h) (w := w) (r := r) (e := e) (gk_rel ok2) 16 0 rfl
    rw [show min 0 4 = 0 from rfl, gk_z0, gk_z0] at K
    exact ⟨17, K⟩
  unfold wpX_reset
  dsimp only
  have K := xr_2 (post := fun u' => wpY_reset (fun v' => i_Rel (k + 3) u' v') (nI z, nI c, nI p, nI l, nI i, nI o, nI t, nI h, w, r, e)) (z := nI z) (c := nI c) (p := nI p) (l := nI l) (i := nI i) (o := nI o) (t := nI t) (h := nI h) (w := w) (r := r) (e := e) H 4 0 rfl
  rw [gk_z0] at K
  exact ⟨5, K⟩
theorem i_vc_in {k : Nat} {u : SX} {v : SY} (I : i_Rel k u v) (hk : k + 3 ≤ 1536) (v1 : Int32) : wpX_in (fun r u' => wpY_in (fun r' v' => r' = r ∧ i_Rel (k + 3) u' v') v v1) u v1 := by
  obtain ⟨rfl, ok⟩ := I
  obtain ⟨z, c, p, l, i, o, t, h, w, r, e, B, rfl⟩ := ok
  have ok := gk_ok B
  unfold wpX_in
  dsimp only
  rcases gi_c v1 256 (by decide) with hb | ⟨j, hj, rfl⟩
  · refine xk_isByte_f hb (br_t rfl ?_)
    unfold wpY_in
    dsimp only
    refine yk_isByte_f hb (br_t rfl ?_)
    unfold wY_in_17
    exact yk_isByte_f hb ⟨rfl, rfl, gk_rel ok⟩
  · refine xk_isByte_t hj (br_f (by decide) ?_)
    unfold wpY_in
    dsimp only
    refine yk_isByte_t hj (br_f (by decide) ?_)
    unfold wY_in_17
    have ok2 : gk_Ok (nI z, nI c, nI p, nI l, nI j, nI o, nI t, nI h, w, r, e) :=
      gk_mk B.1 B.2.1 B.2.2.1 B.2.2.2.1 hj B.2.2.2.2.2.1 B.2.2.2.2.2.2.1 B.2.2.2.2.2.2.2.1 B.2.2.2.2.2.2.2.2.1 B.2.2.2.2.2.2.2.2.2.1 B.2.2.2.2.2.2.2.2.2.2
    exact yk_isByte_t hj ⟨rfl, rfl, gk_rel ok2⟩
theorem i_vc_setRegister {k : Nat} {u : SX} {v : SY} (I : i_Rel k u v) (hk : k + 3 ≤ 1536) (v1 : Int32) (v2 : Int32) : wpX_setRegister (fun r u' => wpY_setRegister (fun r' v' => r' = r ∧ i_Rel (k + 3) u' v') v v1 v2) u v1 v2 := by
  obtain ⟨rfl, ok⟩ := I
  obtain ⟨z, c, p, l, i, o, t, h, w, r, e, B, rfl⟩ := ok
  have ok := gk_ok B
  unfold wpX_setRegister
  dsimp only
  rcases gi_c v1 4 (by decide) with hb | ⟨j, hj, rfl⟩
  · refine xk_isRegister_f hb (br_t rfl ?_)
    unfold wpY_setRegister
    dsimp only
    exact yk_isRegister_f hb (br_t rfl ⟨rfl, gk_rel ok⟩)
  · have hv : vp_in (nI j) 4 := vp_in_nI hj (by decide)
    refine xk_isRegister_t hj (br_f (by decide) ?_)
    rcases gi_c v2 256 (by decide) with hb | ⟨q, hq, rfl⟩
    · refine xk_isByte_f hb (br_t rfl ?_)
      unfold wpY_setRegister
      dsimp only
      exact yk_isRegister_t hj (br_f (by decide) (yk_isByte_f hb (br_t rfl ⟨rfl, gk_rel ok⟩)))
    · have eu : upd r (nI j).toNatClampNeg (nI q) = upd r j (nI q) := by rw [nI_clamp (by omega)]
      have ok2 : gk_Ok (nI z, nI c, nI p, nI l, nI i, nI o, nI t, nI h, w, upd r j (nI q), e) :=
        gk_mk B.1 B.2.1 B.2.2.1 B.2.2.2.1 B.2.2.2.2.1 B.2.2.2.2.2.1 B.2.2.2.2.2.2.1 B.2.2.2.2.2.2.2.1 B.2.2.2.2.2.2.2.2.1 (gk_upd B.2.2.2.2.2.2.2.2.2.1 hq) B.2.2.2.2.2.2.2.2.2.2
      refine xk_isByte_t hq (br_f (by decide) ⟨hv, nm_r eu ?_⟩)
      unfold wpY_setRegister
      dsimp only
      exact yk_isRegister_t hj (br_f (by decide) (yk_isByte_t hq (br_f (by decide) ⟨hv, nm_r eu ⟨rfl, gk_rel ok2⟩⟩)))
theorem i_vc_setMemory {k : Nat} {u : SX} {v : SY} (I : i_Rel k u v) (hk : k + 3 ≤ 1536) (v1 : Int32) (v2 : Int32) : wpX_setMemory (fun r u' => wpY_setMemory (fun r' v' => r' = r ∧ i_Rel (k + 3) u' v') v v1 v2) u v1 v2 := by
  obtain ⟨rfl, ok⟩ := I
  obtain ⟨z, c, p, l, i, o, t, h, w, r, e, B, rfl⟩ := ok
  have ok := gk_ok B
  unfold wpX_setMemory
  dsimp only
  rcases gi_c v1 16 (by decide) with hb | ⟨j, hj, rfl⟩
  · refine xk_isCell_f hb (br_t rfl ?_)
    unfold wpY_setMemory
    dsimp only
    rcases hb with a | a
    · exact br_t a ⟨rfl, gk_rel ok⟩
    · exact br_f (gi_pos (by decide) a) (br_t (gi_gt (n := 15) (by decide) a) ⟨rfl, gk_rel ok⟩)
  · have hv : vp_in (nI j) 16 := vp_in_nI hj (by decide)
    have y0 : ¬ nI j < 0 := nI_pos (by omega)
    have y1 : ¬ (15 : Int32) < nI j := nI_nlt (a := 15) (by omega) (by decide)
    refine xk_isCell_t hj (br_f (by decide) ?_)
    rcases gi_c v2 256 (by decide) with hb | ⟨q, hq, rfl⟩
    · refine xk_isByte_f hb (br_t rfl ?_)
      unfold wpY_setMemory
      dsimp only
      exact br_f y0 (br_f y1 (yk_isByte_f hb (br_t rfl ⟨rfl, gk_rel ok⟩)))
    · have eu : upd e (nI j).toNatClampNeg (nI q) = upd e j (nI q) := by rw [nI_clamp (by omega)]
      have ok2 : gk_Ok (nI z, nI c, nI p, nI l, nI i, nI o, nI t, nI h, w, r, upd e j (nI q)) :=
        gk_mk B.1 B.2.1 B.2.2.1 B.2.2.2.1 B.2.2.2.2.1 B.2.2.2.2.2.1 B.2.2.2.2.2.2.1 B.2.2.2.2.2.2.2.1 B.2.2.2.2.2.2.2.2.1 B.2.2.2.2.2.2.2.2.2.1 (gk_upd B.2.2.2.2.2.2.2.2.2.2 hq)
      refine xk_isByte_t hq (br_f (by decide) ⟨hv, nm_r eu ?_⟩)
      unfold wpY_setMemory
      dsimp only
      exact br_f y0 (br_f y1 (yk_isByte_t hq (br_f (by decide) ⟨hv, nm_r eu ⟨rfl, gk_rel ok2⟩⟩)))
theorem i_vc_cycle {k : Nat} {u : SX} {v : SY} (I : i_Rel k u v) (hk : k + 3 ≤ 1536) (v1 : Int32) (v2 : Int32) : wpX_cycle (fun r u' => wpY_cycle (fun r' v' => r' = r ∧ i_Rel (k + 3) u' v') v v1 v2) u v1 v2 := by
  obtain ⟨rfl, ok⟩ := I
  obtain ⟨z, c, p, l, i, o, t, h, w, r, e, B, rfl⟩ := ok
  have ok := gk_ok B
  unfold wpX_cycle
  dsimp only
  rcases gi_c v2 4 (by decide) with hb | ⟨j, hj, rfl⟩
  · rcases hb with a | a
    · refine br_t a ?_
      unfold wpY_cycle
      dsimp only
      exact br_t a ⟨rfl, gk_rel ok⟩
    · have a0 : ¬ v2 < 0 := gi_pos (by decide) a
      refine br_f a0 (br_f (gi_nlt a) ?_)
      unfold wpY_cycle
      dsimp only
      exact br_f a0 (br_f (Int32.not_le.mpr (gi_gt (n := 3) (by decide) a)) ⟨rfl, gk_rel ok⟩)
  · have a0 : ¬ nI j < 0 := nI_pos (by omega)
    have a3 : nI j ≤ 3 := nI_le (b := 3) (by omega) (by decide)
    refine br_f a0 (br_t (nI_lt (b := 4) hj (by decide)) ?_)
    by_cases h60 : v1 ≤ 60
    · obtain ⟨q, u', ok', kX, kY⟩ := gs_cyc v1 v1 h60 (fun _ _ => Iff.rfl) 60 0 rfl B
      refine ⟨61, kX _ ?_⟩
      unfold wpY_cycle
      dsimp only
      exact br_f a0 (br_t a3 (br_t h60 ⟨61, kY _ ⟨rfl, gk_rel ok'⟩⟩))
    · have hM : ∀ j : Nat, j < 60 → (v1 ≤ nI j ↔ (60 : Int32) ≤ nI j) := by
        intro j hj
        have b1 : nI j ≤ 60 := nI_le (b := 60) (by omega) (by decide)
        exact ⟨fun a => absurd (Int32.le_trans a b1) h60, fun a => absurd a (nI_ge (b := 60) hj (by decide))⟩
      obtain ⟨q, u', ok', kX, kY⟩ := gs_cyc v1 60 (by decide) hM 60 0 rfl B
      refine ⟨61, kX _ ?_⟩
      unfold wpY_cycle
      dsimp only
      exact br_f a0 (br_t a3 (br_f h60 ⟨61, kY _ ⟨rfl, gk_rel ok'⟩⟩))
theorem i_vc_halted {k : Nat} {u : SX} {v : SY} (I : i_Rel k u v) (hk : k + 3 ≤ 1536) : wpX_halted (fun r => wpY_halted (fun r' => r' = r ∧ i_Rel (k + 3) u v) v) u := by
  obtain ⟨rfl, ok⟩ := I
  obtain ⟨z, c, p, l, i, o, t, h, w, r, e, B, rfl⟩ := ok
  have ok := gk_ok B
  have h2 : h = 0 ∨ h = 1 := by
    have := B.2.2.2.2.2.2.2.1
    omega
  have hn : narrow .boolean (.int (nI h)) = .int (nI h) := by
    rcases h2 with rfl | rfl
    · exact rfl
    · exact rfl
  unfold wpX_halted wpY_halted
  dsimp only
  exact ⟨hn, hn, rfl, gk_rel ok⟩
theorem i_vc_counter {k : Nat} {u : SX} {v : SY} (I : i_Rel k u v) (hk : k + 3 ≤ 1536) : wpX_counter (fun r => wpY_counter (fun r' => r' = r ∧ i_Rel (k + 3) u v) v) u := by
  obtain ⟨rfl, ok⟩ := I
  exact ⟨rfl, gk_rel ok⟩
theorem i_vc_register {k : Nat} {u : SX} {v : SY} (I : i_Rel k u v) (hk : k + 3 ≤ 1536) (v1 : Int32) : wpX_register (fun r => wpY_register (fun r' => r' = r ∧ i_Rel (k + 3) u v) v v1) u v1 := by
  obtain ⟨rfl, ok⟩ := I
  obtain ⟨z, c, p, l, i, o, t, h, w, r, e, B, rfl⟩ := ok
  have ok := gk_ok B
  unfold wpX_register
  dsimp only
  rcases gi_c v1 4 (by decide) with hb | ⟨j, hj, rfl⟩
  · refine xk_isRegister_f hb (br_t rfl ?_)
    unfold wpY_register
    dsimp only
    exact yk_isRegister_f hb (br_t rfl ⟨rfl, gk_rel ok⟩)
  · have hv : vp_in (nI j) 4 := vp_in_nI hj (by decide)
    refine xk_isRegister_t hj (br_f (by decide) ⟨hv, ?_⟩)
    unfold wpY_register
    dsimp only
    exact yk_isRegister_t hj (br_f (by decide) ⟨hv, rfl, gk_rel ok⟩)
theorem i_vc_memory {k : Nat} {u : SX} {v : SY} (I : i_Rel k u v) (hk : k + 3 ≤ 1536) (v1 : Int32) : wpX_memory (fun r => wpY_memory (fun r' => r' = r ∧ i_Rel (k + 3) u v) v v1) u v1 := by
  obtain ⟨rfl, ok⟩ := I
  obtain ⟨z, c, p, l, i, o, t, h, w, r, e, B, rfl⟩ := ok
  have ok := gk_ok B
  unfold wpX_memory
  dsimp only
  rcases gi_c v1 16 (by decide) with hb | ⟨j, hj, rfl⟩
  · refine xk_isCell_f hb (br_t rfl ?_)
    unfold wpY_memory
    dsimp only
    rcases hb with a | a
    · exact br_t a ⟨rfl, gk_rel ok⟩
    · exact br_f (gi_pos (by decide) a) (br_t (gi_gt (n := 15) (by decide) a) ⟨rfl, gk_rel ok⟩)
  · have hv : vp_in (nI j) 16 := vp_in_nI hj (by decide)
    refine xk_isCell_t hj (br_f (by decide) ⟨hv, ?_⟩)
    unfold wpY_memory
    dsimp only
    exact br_f (nI_pos (by omega)) (br_f (nI_nlt (a := 15) (by omega) (by decide)) ⟨hv, rfl, gk_rel ok⟩)
theorem i_vc_flags {k : Nat} {u : SX} {v : SY} (I : i_Rel k u v) (hk : k + 3 ≤ 1536) : wpX_flags (fun r => wpY_flags (fun r' => r' = r ∧ i_Rel (k + 3) u v) v) u := by
  obtain ⟨rfl, ok⟩ := I
  exact ⟨rfl, gk_rel ok⟩
theorem i_vc_link {k : Nat} {u : SX} {v : SY} (I : i_Rel k u v) (hk : k + 3 ≤ 1536) : wpX_link (fun r => wpY_link (fun r' => r' = r ∧ i_Rel (k + 3) u v) v) u := by
  obtain ⟨rfl, ok⟩ := I
  exact ⟨rfl, gk_rel ok⟩
theorem i_vc_out {k : Nat} {u : SX} {v : SY} (I : i_Rel k u v) (hk : k + 3 ≤ 1536) : wpX_out (fun r => wpY_out (fun r' => r' = r ∧ i_Rel (k + 3) u v) v) u := by
  obtain ⟨rfl, ok⟩ := I
  exact ⟨rfl, gk_rel ok⟩
theorem i_vc_outs {k : Nat} {u : SX} {v : SY} (I : i_Rel k u v) (hk : k + 3 ≤ 1536) : wpX_outs (fun r => wpY_outs (fun r' => r' = r ∧ i_Rel (k + 3) u v) v) u := by
  obtain ⟨rfl, ok⟩ := I
  exact ⟨rfl, gk_rel ok⟩
theorem i_vc_same {k : Nat} {u : SX} {v : SY} (I : i_Rel k u v) (hk : k + 3 ≤ 1536) (v1 : Int32) (v2 : Int32) : wpX_same (fun r => wpY_same (fun r' => r' = r ∧ i_Rel (k + 3) u v) v v1 v2) u v1 v2 := by
  obtain ⟨rfl, ok⟩ := I
  obtain ⟨z, c, p, l, i, o, t, h, w, r, e, B, rfl⟩ := ok
  have ok := gk_ok B
  unfold wpX_same
  dsimp only
  rcases gi_c v1 4 (by decide) with hb | ⟨j, hj, rfl⟩
  · refine xk_isRegister_f hb (br_t rfl ?_)
    unfold wpY_same
    dsimp only
    exact yk_isRegister_f hb (br_t rfl ⟨rfl, gk_rel ok⟩)
  · have hv : vp_in (nI j) 4 := vp_in_nI hj (by decide)
    refine xk_isRegister_t hj (br_f (by decide) ?_)
    rcases gi_c v2 4 (by decide) with hb | ⟨q, hq, rfl⟩
    · refine xk_isRegister_f hb (br_t rfl ?_)
      unfold wpY_same
      dsimp only
      exact yk_isRegister_t hj (br_f (by decide) (yk_isRegister_f hb (br_t rfl ⟨rfl, gk_rel ok⟩)))
    · have hv2 : vp_in (nI q) 4 := vp_in_nI hq (by decide)
      refine xk_isRegister_t hq (br_f (by decide) ⟨hv, hv2, ?_⟩)
      unfold wpY_same
      dsimp only
      by_cases he : r (nI j).toNatClampNeg = r (nI q).toNatClampNeg
      · exact br_t he (yk_isRegister_t hj (br_f (by decide) (yk_isRegister_t hq (br_f (by decide) ⟨hv, hv2, br_t he ⟨rfl, gk_rel ok⟩⟩))))
      · exact br_f he (yk_isRegister_t hj (br_f (by decide) (yk_isRegister_t hq (br_f (by decide) ⟨hv, hv2, br_f he ⟨rfl, gk_rel ok⟩⟩))))
end
