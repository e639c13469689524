/-! ints as whole numbers: zI z is the int of z -/
def zI (z : Int) : Int32 := Int32.ofInt z
def rg (z : Int) : Prop := -2147483648 ≤ z ∧ z < 2147483648
theorem zI_toInt {z : Int} (h : -2147483648 ≤ z) (h2 : z < 2147483648) : (zI z).toInt = z := Int32.toInt_ofInt_of_le (by omega) (by omega)
theorem zI_of (x : Int32) : zI x.toInt = x := Int32.ofInt_toInt x
theorem rg_toInt (x : Int32) : -2147483648 ≤ x.toInt ∧ x.toInt < 2147483648 := ⟨Int32.le_toInt x, Int32.toInt_lt x⟩
theorem zI_ex (x : Int32) : ∃ z : Int, -2147483648 ≤ z ∧ z < 2147483648 ∧ x = zI z := ⟨x.toInt, (rg_toInt x).1, (rg_toInt x).2, (zI_of x).symm⟩
theorem zI_add (a b : Int) : zI a + zI b = zI (a + b) := (Int32.ofInt_add a b).symm
theorem zI_sub (a b : Int) : zI a - zI b = zI (a - b) := (Int32.ofInt_sub a b).symm
theorem zI_mul (a b : Int) : zI a * zI b = zI (a * b) := (Int32.ofInt_mul a b).symm
theorem zI_neg (a : Int) : -zI a = zI (-a) := (Int32.ofInt_neg a).symm
theorem zI_le {a b : Int} (h1 : -2147483648 ≤ a) (h2 : a < 2147483648) (h3 : -2147483648 ≤ b) (h4 : b < 2147483648) : zI a ≤ zI b ↔ a ≤ b := by
  rw [Int32.le_iff_toInt_le, zI_toInt h1 h2, zI_toInt h3 h4]
theorem zI_lt {a b : Int} (h1 : -2147483648 ≤ a) (h2 : a < 2147483648) (h3 : -2147483648 ≤ b) (h4 : b < 2147483648) : zI a < zI b ↔ a < b := by
  rw [Int32.lt_iff_toInt_lt, zI_toInt h1 h2, zI_toInt h3 h4]
theorem zI_eq {a b : Int} (h1 : -2147483648 ≤ a) (h2 : a < 2147483648) (h3 : -2147483648 ≤ b) (h4 : b < 2147483648) : zI a = zI b ↔ a = b := by
  rw [← Int32.toInt_inj, zI_toInt h1 h2, zI_toInt h3 h4]
theorem zI_nat (n : Nat) : Int32.ofNat n = zI n := (Int32.ofInt_eq_ofNat (n := n)).symm
theorem nI_zI (n : Nat) : nI n = zI n := zI_nat n
theorem ix_zI {a : Int} (h1 : -2147483648 ≤ a) (h2 : a < 2147483648) : ix (zI a) = a.toNat := by
  show (zI a).toInt.toNat = a.toNat
  rw [zI_toInt h1 h2]
theorem ix_nat {n : Nat} (h : n < 2147483648) : ix (zI n) = n := by
  rw [ix_zI (by omega) (by omega)]
  omega
theorem ibd_zI {a : Int} {n : Nat} (h1 : -2147483648 ≤ a) (h2 : a < 2147483648) : ibd (zI a) n = (decide (0 ≤ a) && decide (a < n)) := by
  unfold ibd
  rw [zI_toInt h1 h2]
theorem ibd_t {a : Int} {n : Nat} (h1 : 0 ≤ a) (h2 : a < n) (h3 : n < 2147483648) : ibd (zI a) n = true := by
  rw [ibd_zI (by omega) (by omega)]
  simp [h1, h2]
theorem ck_t {β : Type} (k : Option β) : ck true k = k := rfl
theorem ck_of {β : Type} {b : Bool} {k : Option β} (h : b = true) : ck b k = k := by rw [h]; rfl
theorem ck_ib {β : Type} {a : Int} {n : Nat} {k : Option β} (h1 : 0 ≤ a) (h2 : a < n) (h3 : n < 2147483648) : ck (ibd (zI a) n) k = k := ck_of (ibd_t h1 h2 h3)
theorem ob_some {α β : Type} (a : α) (M : Mem) (k : α → Mem → Option β) : ob (some (a, M)) k = k a M := rfl
theorem ob_of {α β : Type} {x : Option (α × Mem)} {a : α} {M : Mem} {k : α → Mem → Option β} (h : x = some (a, M)) : ob x k = k a M := by rw [h]; rfl
theorem lt_of {α β : Type} (x : α) (k : α → β) : lt x k = k x := rfl
/-- a boolean as an int -/
def bI (b : Bool) : Int32 := if b then zI 1 else zI 0
theorem bI_t : bI true = zI 1 := rfl
theorem bI_f : bI false = zI 0 := rfl
theorem bI_z (b : Bool) : (bI b = zI 0) ↔ b = false := by cases b <;> decide
theorem bI_o (b : Bool) : (bI b = zI 1) ↔ b = true := by cases b <;> decide
theorem bl_bI (b : Bool) : bl (bI b) = true := by cases b <;> decide
theorem bl_0 : bl (zI 0) = true := by decide
theorem bl_1 : bl (zI 1) = true := by decide
theorem ck_bl {β : Type} (b : Bool) (k : Option β) : ck (bl (bI b)) k = k := ck_of (bl_bI b)
theorem ck_bl0 {β : Type} (k : Option β) : ck (bl (zI 0)) k = k := ck_of bl_0
theorem ck_bl1 {β : Type} (k : Option β) : ck (bl (zI 1)) k = k := ck_of bl_1
theorem bI_if (b : Bool) : bI b = zI (if b then 1 else 0) := by cases b <;> rfl
theorem mx_zI {a b : Int} (h1 : -2147483648 ≤ a) (h2 : a < 2147483648) (h3 : -2147483648 ≤ b) (h4 : b < 2147483648) : mx (zI a) (zI b) = zI (max a b) := by
  unfold mx
  simp only [zI_lt h1 h2 h3 h4]
  by_cases h : a < b
  · rw [if_pos h, Int.max_eq_right (by omega)]
  · rw [if_neg h, Int.max_eq_left (by omega)]
theorem mn_zI {a b : Int} (h1 : -2147483648 ≤ a) (h2 : a < 2147483648) (h3 : -2147483648 ≤ b) (h4 : b < 2147483648) : mn (zI a) (zI b) = zI (min a b) := by
  unfold mn
  simp only [zI_lt h3 h4 h1 h2]
  by_cases h : b < a
  · rw [if_pos h, Int.min_eq_right (by omega)]
  · rw [if_neg h, Int.min_eq_left (by omega)]
theorem up3_at (M : Mem) (g k j : Nat) (v : Int32) : up3 M g k j v g k j = v := by simp [up3, cp3, upd]
theorem up3_slot (M : Mem) {g k j j' : Nat} (v : Int32) (h : j' ≠ j) : up3 M g k j v g k j' = M g k j' := by simp [up3, cp3, upd, h]
theorem up3_cell (M : Mem) {g k j g' k' : Nat} (v : Int32) (h : ¬ (g' = g ∧ k' = k)) : up3 M g k j v g' k' = M g' k' := cp3_ne M _ h
theorem zl_21 : (21 : Int32) = zI 21 := by decide
theorem zl_22 : (22 : Int32) = zI 22 := by decide
theorem zl_25 : (25 : Int32) = zI 25 := by decide
theorem zl_40 : (40 : Int32) = zI 40 := by decide
theorem zl_64 : (64 : Int32) = zI 64 := by decide
theorem zl_150 : (150 : Int32) = zI 150 := by decide
theorem zl_400 : (400 : Int32) = zI 400 := by decide
theorem zl_1000000 : (1000000 : Int32) = zI 1000000 := by decide
theorem zl_1065353216 : (1065353216 : Int32) = zI 1065353216 := by decide
theorem zl_25214903 : (25214903 : Int32) = zI 25214903 := by decide
theorem zl_2147483647 : (2147483647 : Int32) = zI 2147483647 := by decide
theorem zl_32768 : (32768 : Int32) = zI 32768 := by decide
theorem zl_1024 : (1024 : Int32) = zI 1024 := by decide
theorem zl_0 : (0 : Int32) = zI 0 := by decide
theorem zl_1 : (1 : Int32) = zI 1 := by decide
theorem zl_2 : (2 : Int32) = zI 2 := by decide
theorem zl_3 : (3 : Int32) = zI 3 := by decide
theorem zl_4 : (4 : Int32) = zI 4 := by decide
theorem zl_5 : (5 : Int32) = zI 5 := by decide
theorem zl_6 : (6 : Int32) = zI 6 := by decide
theorem zl_7 : (7 : Int32) = zI 7 := by decide
theorem zl_8 : (8 : Int32) = zI 8 := by decide
theorem zl_9 : (9 : Int32) = zI 9 := by decide
theorem zl_10 : (10 : Int32) = zI 10 := by decide
theorem zl_11 : (11 : Int32) = zI 11 := by decide
theorem zl_12 : (12 : Int32) = zI 12 := by decide
theorem zl_13 : (13 : Int32) = zI 13 := by decide
theorem zl_14 : (14 : Int32) = zI 14 := by decide
theorem zl_15 : (15 : Int32) = zI 15 := by decide
theorem zl_16 : (16 : Int32) = zI 16 := by decide
theorem zl_17 : (17 : Int32) = zI 17 := by decide
theorem zl_18 : (18 : Int32) = zI 18 := by decide
theorem zl_19 : (19 : Int32) = zI 19 := by decide
theorem zl_20 : (20 : Int32) = zI 20 := by decide
theorem zl_23 : (23 : Int32) = zI 23 := by decide
theorem zl_24 : (24 : Int32) = zI 24 := by decide
theorem zl_31 : (31 : Int32) = zI 31 := by decide
theorem zl_32 : (32 : Int32) = zI 32 := by decide
theorem zl_48 : (48 : Int32) = zI 48 := by decide
theorem zl_50 : (50 : Int32) = zI 50 := by decide
theorem zl_53 : (53 : Int32) = zI 53 := by decide
theorem zl_57 : (57 : Int32) = zI 57 := by decide
theorem zl_59 : (59 : Int32) = zI 59 := by decide
theorem zl_60 : (60 : Int32) = zI 60 := by decide
theorem zl_99 : (99 : Int32) = zI 99 := by decide
theorem zl_100 : (100 : Int32) = zI 100 := by decide
theorem zl_104 : (104 : Int32) = zI 104 := by decide
theorem zl_112 : (112 : Int32) = zI 112 := by decide
theorem zl_114 : (114 : Int32) = zI 114 := by decide
theorem zl_119 : (119 : Int32) = zI 119 := by decide
theorem zl_126 : (126 : Int32) = zI 126 := by decide
theorem zl_127 : (127 : Int32) = zI 127 := by decide
theorem zl_181 : (181 : Int32) = zI 181 := by decide
theorem zl_200 : (200 : Int32) = zI 200 := by decide
theorem zl_500 : (500 : Int32) = zI 500 := by decide
theorem zl_543 : (543 : Int32) = zI 543 := by decide
theorem zl_724 : (724 : Int32) = zI 724 := by decide
theorem zl_999 : (999 : Int32) = zI 999 := by decide
theorem zl_1000 : (1000 : Int32) = zI 1000 := by decide
theorem zl_5000 : (5000 : Int32) = zI 5000 := by decide
theorem zl_65536 : (65536 : Int32) = zI 65536 := by decide
theorem zl_100000 : (100000 : Int32) = zI 100000 := by decide
theorem zl_1000001 : (1000001 : Int32) = zI 1000001 := by decide
theorem zl_1000002 : (1000002 : Int32) = zI 1000002 := by decide
theorem zl_1000003 : (1000003 : Int32) = zI 1000003 := by decide
theorem zl_1000004 : (1000004 : Int32) = zI 1000004 := by decide
theorem zl_2143289344 : (2143289344 : Int32) = zI 2143289344 := by decide
theorem zm_1 : (-1 : Int32) = zI (-1) := by decide
theorem zm_1000001 : (-1000001 : Int32) = zI (-1000001) := by decide
theorem zm_1000002 : (-1000002 : Int32) = zI (-1000002) := by decide
theorem zm_1000003 : (-1000003 : Int32) = zI (-1000003) := by decide
theorem zm_1000004 : (-1000004 : Int32) = zI (-1000004) := by decide
theorem ab_zI {a : Int} (h1 : -2147483648 < a) (h2 : a < 2147483648) : ab (zI a) = zI a.natAbs := by
  unfold ab
  simp only [zl_0, zI_le (a := 0) (by omega) (by omega) (Int.le_of_lt h1) h2, zI_sub]
  by_cases h : 0 ≤ a
  · rw [if_pos h]; congr 1; omega
  · rw [if_neg h]; congr 1; omega
theorem ixl_0 : ix (0 : Int32) = 0 := by decide
theorem ixl_1 : ix (1 : Int32) = 1 := by decide
theorem ixl_2 : ix (2 : Int32) = 2 := by decide
theorem ixl_3 : ix (3 : Int32) = 3 := by decide
theorem ixl_4 : ix (4 : Int32) = 4 := by decide
