/-! the numbers of an instruction: what both sides reckon, as naturals -/
theorem gd_op {W : Nat} (h : W < 65536) : nI W &&& 15 = nI (W % 16) := pk_andN (by omega) 4 (by decide)
theorem gd_d {W : Nat} (h : W < 65536) : (nI W >>> ((4 : Int32) &&& 31)) &&& 3 = nI (W / 16 % 4) := by
  rw [pk_shrN (by omega) _ 4 (by decide)]
  exact pk_andN (by omega) 2 (by decide)
theorem gd_s {W : Nat} (h : W < 65536) : (nI W >>> ((6 : Int32) &&& 31)) &&& 3 = nI (W / 64 % 4) := by
  rw [pk_shrN (by omega) _ 6 (by decide)]
  exact pk_andN (by omega) 2 (by decide)
theorem gd_m {W : Nat} (h : W < 65536) : (nI W >>> ((8 : Int32) &&& 31)) &&& 255 = nI (W / 256) := by
  rw [pk_shrN (by omega) _ 8 (by decide)]
  have e : nI (W / 2 ^ 8) &&& 255 = nI (W / 2 ^ 8 % 2 ^ 8) := pk_andN (by omega) 8 (by decide)
  rw [e]
  exact congrArg nI (by omega)
theorem gd_31 {a : Nat} (h : a < 65536) : nI a &&& 31 = nI (a % 32) := pk_andN (by omega) 5 (by decide)
theorem gd_255 {a : Nat} (h : a < 1000000) : nI a &&& 255 = nI (a % 256) := pk_andN (by omega) 8 (by decide)
theorem gd_15 {a : Nat} (h : a < 65536) : nI a &&& 15 = nI (a % 16) := pk_andN (by omega) 4 (by decide)
theorem gd_3 {a : Nat} (h : a < 65536) : nI a &&& 3 = nI (a % 4) := pk_andN (by omega) 2 (by decide)
theorem gd_1 {a : Nat} (h : a < 65536) : nI a &&& 1 = nI (a % 2) := pk_andN (by omega) 1 (by decide)
theorem gd_2 : ∀ a, a < 256 → nI a &&& 2 = nI (a / 2 % 2 * 2) := by decide +kernel
theorem gd_sr8 {a : Nat} (h : a < 1000000) : nI a >>> ((8 : Int32) &&& 31) = nI (a / 256) := pk_shrN (by omega) _ 8 (by decide)
theorem gd_sr7 {a : Nat} (h : a < 1000000) : nI a >>> ((7 : Int32) &&& 31) = nI (a / 128) := pk_shrN (by omega) _ 7 (by decide)
theorem gd_srk {a k : Nat} (h : a < 1000000) (hk : k < 32) : nI a >>> (nI k &&& 31) = nI (a / 2 ^ k) := pk_shrN (by omega) _ k (s_l k hk)
theorem ge_rem {a : Nat} (d : Nat) {D : Int32} (h : a < 1000000) (hD : D = nI d := by rfl) (h0 : 0 < d := by decide) (hd : d < 2 ^ 31 := by decide) : nI a - nI a / D * D = nI (a % d) := by
  rw [hD]
  exact pk_rem (by omega) h0 hd
theorem ge_div {a : Nat} (d : Nat) {D : Int32} (h : a < 1000000) (hD : D = nI d := by rfl) (h0 : 0 < d := by decide) (hd : d < 2 ^ 31 := by decide) : nI a / D = nI (a / d) := by
  rw [hD]
  exact pk_div (by omega) h0 hd
theorem ge_d {W : Nat} (h : W < 65536) : nI W / 16 - nI W / 16 / 4 * 4 = nI (W / 16 % 4) := by
  rw [ge_div 16 (by omega)]
  exact ge_rem 4 (by omega)
theorem ge_s {W : Nat} (h : W < 65536) : nI W / 64 - nI W / 64 / 4 * 4 = nI (W / 64 % 4) := by
  rw [ge_div 64 (by omega)]
  exact ge_rem 4 (by omega)
theorem gl_lt {a b : Nat} {x y : Int32} (hx : x = nI a := by rfl) (hy : y = nI b := by rfl) (ha : a < 2 ^ 31 := by omega) (hb : b < 2 ^ 31 := by omega) : x < y ↔ a < b := by
  subst hx hy
  exact nI_ltI ha hb
theorem gl_le {a b : Nat} {x y : Int32} (hx : x = nI a := by rfl) (hy : y = nI b := by rfl) (ha : a < 2 ^ 31 := by omega) (hb : b < 2 ^ 31 := by omega) : x ≤ y ↔ a ≤ b := by
  subst hx hy
  exact nI_leI ha hb
theorem gl_eq {a b : Nat} {x y : Int32} (hx : x = nI a := by rfl) (hy : y = nI b := by rfl) (ha : a < 2 ^ 31 := by omega) (hb : b < 2 ^ 31 := by omega) : x = y ↔ a = b := by
  subst hx hy
  exact nI_eq ha hb
/-! the bits in opposite order -/
def gr_x (y : Nat) : Nat → Nat
  | 0 => 0
  | k + 1 => 2 * gr_x y k + y / 2 ^ k % 2
def gr_y (y : Nat) : Nat → Nat
  | 0 => 0
  | k + 1 => if y / 2 ^ k % 2 = 1 then gr_y y k ||| 128 / 2 ^ k else gr_y y k
theorem gr_e : ∀ y, y < 256 → gr_x y 8 = gr_y y 8 := by decide +kernel
theorem gr_b : ∀ y, y < 256 → gr_x y 8 < 256 := by decide +kernel
theorem gr_lx {y k : Nat} (hk : k ≤ 8) : gr_x y k < 2 ^ k := by
  induction k with
  | zero => exact Nat.zero_lt_one
  | succ k ih =>
    have := ih (by omega)
    have e : gr_x y (k + 1) = 2 * gr_x y k + y / 2 ^ k % 2 := rfl
    rw [e, Nat.pow_succ]
    have hq : y / 2 ^ k % 2 < 2 := Nat.mod_lt _ (by decide)
    generalize y / 2 ^ k % 2 = q at *
    generalize 2 ^ k = P at *
    omega
theorem gr_lx' {y k : Nat} (hk : k ≤ 8) : gr_x y k < 256 := Nat.lt_of_lt_of_le (gr_lx hk) (Nat.pow_le_pow_right (by decide) hk)
/-! what the instructions leave -/
def gn_z (v : Nat) : Nat := if v = 0 then 1 else 0
def gn_mov (x y k : Nat) : Nat := if k = 0 then y else if k = 1 then x * y % 256 else if k = 2 then x * y / 256 else gr_x y 8
def gn_c (s : Nat) : Nat := if 255 < s then 1 else 0
def gn_cs (x y : Nat) : Nat := if x < y then 1 else 0
def gn_in (m c : Nat) : Nat := if m % 4 < 2 then 0 else c
def gn_sh (x m c : Nat) : Nat := if m % 2 = 0 then 2 * x % 256 + gn_in m c else x / 2 + 128 * gn_in m c
def gn_sc (x m : Nat) : Nat := if m % 2 = 0 then x / 128 else x % 2
def gn_br (d z c p m : Nat) : Nat := if (if d < 2 then z else c) = 1 - d % 2 then m % 32 else (p + 1) % 32
theorem gn_z_b (v : Nat) : gn_z v ≤ 1 := by unfold gn_z; split <;> omega
theorem gn_c_b (v : Nat) : gn_c v ≤ 1 := by unfold gn_c; split <;> omega
theorem gn_cs_b (v w : Nat) : gn_cs v w ≤ 1 := by unfold gn_cs; split <;> omega
theorem gn_in_b {m c : Nat} (hc : c ≤ 1) : gn_in m c ≤ 1 := by unfold gn_in; split <;> omega
theorem gn_xy {x y : Nat} (hx : x < 256) (hy : y < 256) : x * y < 65536 :=
  Nat.lt_of_le_of_lt (Nat.mul_le_mul (Nat.le_of_lt_succ hx : x ≤ 255) (Nat.le_of_lt_succ hy : y ≤ 255)) (by decide)
theorem gn_mov_b {x y k : Nat} (hx : x < 256) (hy : y < 256) : gn_mov x y k < 256 := by
  have h := gn_xy hx hy
  have h2 := gr_b y hy
  unfold gn_mov
  split
  · exact hy
  · split
    · omega
    · split
      · omega
      · exact h2
theorem gn_sh_b {x m c : Nat} (hx : x < 256) (hc : c ≤ 1) : gn_sh x m c < 256 := by
  have h := gn_in_b (m := m) hc
  unfold gn_sh
  split <;> omega
theorem gn_sc_b {x m : Nat} (hx : x < 256) : gn_sc x m ≤ 1 := by unfold gn_sc; split <;> omega
theorem gn_br_b {d z c p m : Nat} : gn_br d z c p m < 32 := by
  unfold gn_br
  generalize (if d < 2 then z else c) = f
  split <;> omega
theorem gn_and {x y : Nat} (hx : x < 256) : x &&& y < 256 := Nat.lt_of_le_of_lt Nat.and_le_left hx
theorem gn_or {x y : Nat} (hx : x < 256) (hy : y < 256) : x ||| y < 256 := Nat.or_lt_two_pow (n := 8) hx hy
theorem gn_xor {x y : Nat} (hx : x < 256) (hy : y < 256) : x ^^^ y < 256 := Nat.xor_lt_two_pow (n := 8) hx hy
/-- R - S, a byte -/
theorem gn_sub {x y : Nat} (hx : x < 256) (hy : y < 256) : (nI x - nI y) &&& 255 = nI ((x + 256 - y) % 256) := by
  by_cases h : y ≤ x
  · rw [pk_sub h, gd_255 (by omega)]
    exact congrArg nI (by omega)
  · have e : nI x - nI y = nI (x + 4294967296 - y) := by
      have e2 : nI x = nI (x + 4294967296) := by
        rw [← nI_add, show nI 4294967296 = 0 from by decide +kernel, Int32.add_zero]
      rw [e2]
      exact pk_sub (by omega)
    rw [e]
    have e3 : nI (x + 4294967296 - y) &&& 255 = nI ((x + 4294967296 - y) % 2 ^ 8) := pk_andN (by omega) 8 (by decide)
    rw [e3]
    exact congrArg nI (by omega)
theorem gn_sub_lo {x y : Nat} (hx : x < 256) (hy : y < 256) : nI x - nI y < 0 ↔ x < y := by
  rw [Int32.lt_iff_toInt_lt, pk_sub_toInt (by omega) (by omega), show (0 : Int32).toInt = 0 from by decide]
  omega
theorem gn_sub_hi {x y : Nat} (hx : x < 256) (hy : y < 256) : nI x - nI y ≤ 255 := by
  rw [Int32.le_iff_toInt_le, pk_sub_toInt (by omega) (by omega), show (255 : Int32).toInt = 255 from by decide]
  omega
/-! an index beyond the last -/
theorem gi_pos {n : Nat} {x : Int32} (hn : n < 2 ^ 31) (h : nI n ≤ x) : ¬ x < 0 := by
  rw [Int32.le_iff_toInt_le, nI_toInt hn] at h
  rw [Int32.lt_iff_toInt_lt, show (0 : Int32).toInt = 0 from by decide]
  omega
theorem gi_gt {n : Nat} {x : Int32} (hn : n + 1 < 2 ^ 31) (h : nI (n + 1) ≤ x) : nI n < x := by
  rw [Int32.le_iff_toInt_le, nI_toInt hn] at h
  rw [Int32.lt_iff_toInt_lt, nI_toInt (by omega)]
  omega
theorem gi_nlt {n : Nat} {x : Int32} (h : nI n ≤ x) : ¬ x < nI n := Int32.not_lt.mpr h
