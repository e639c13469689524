/-! the bits of a shade; the mean of shades -/
theorem bits_or {E T : Nat} (h2 : E < 128) (hT : T < 8388608) : ((zI E <<< ((23 : Int32) &&& 31)) ||| zI T) = (xb E T).toInt32 := by
  have h : (23 : Int32) &&& 31 = 23 := by decide
  rw [h]
  apply Int32.toBitVec_inj.mp
  rw [Int32.toBitVec_or, Int32.toBitVec_shiftLeft]
  have s : (23 : Int32).toBitVec.smod 32 = 23#32 := by decide
  rw [s]
  apply BitVec.eq_of_toNat_eq
  have e1 : (zI E).toBitVec.toNat = E := by
    show (BitVec.ofInt 32 (E : Int)).toNat = E
    rw [BitVec.toNat_ofInt]; omega
  have e2 : (zI T).toBitVec.toNat = T := by
    show (BitVec.ofInt 32 (T : Int)).toNat = T
    rw [BitVec.toNat_ofInt]; omega
  rw [BitVec.toNat_or, BitVec.shiftLeft_eq', BitVec.toNat_shiftLeft, e1, e2]
  have e3 : (23#32).toNat = 23 := rfl
  rw [e3, Nat.shiftLeft_eq, Nat.mod_eq_of_lt (by omega), ← Nat.shiftLeft_eq, ← Nat.shiftLeft_add_eq_or_of_lt (by omega), Nat.shiftLeft_eq]
  show _ = (xb E T).toNat
  rw [xb_nat (by omega) hT]
theorem bits_end {T : Nat} (hT : T < 8388608) (E : Nat) (hE : E < 128) (M : Mem) : f_X7_bitsOf_b32 (xb 127 T) (zI E) M = some ((xb E T).toInt32, M) := by
  obtain ⟨h1, h2, h3⟩ := sub_xb hT
  unfold f_X7_bitsOf_b32
  rw [ck_of h2, ck_of h3, h1, bits_or hE hT]
theorem bits_loop {T : Nat} (hT : T < 8388608) (M : Mem) : ∀ (d E fu : Nat) (e i : Nat), E + d = 127 → 1 ≤ E → d < fu → e = 127 - i → i + d ≤ 126 → f_X7_bitsOf_b7 fu (xb E T) (zI e) (zI i) M = some ((xb (e - d) T).toInt32, M)
  | 0, E, fu + 1, e, i, hE, h1, hf, he, hi => by
    have : E = 127 := by omega
    subst this
    rw [f_X7_bitsOf_b7.eq_2]
    simp only [zl_126, zI_le (a := 126) (b := (i : Int)) (by omega) (by omega) (by omega) (by omega)]
    rw [if_pos (cmp_xb_ge hT), ite_self]
    exact bits_end hT e (by omega) M
  | d + 1, E, fu + 1, e, i, hE, h1, hf, he, hi => by
    rw [f_X7_bitsOf_b7.eq_2]
    simp only [zl_126, zI_le (a := 126) (b := (i : Int)) (by omega) (by omega) (by omega) (by omega)]
    rw [if_neg (by omega), cmp_xb_lt h1 (by omega) hT, if_neg (by decide), dbl_xb h1 (by omega) hT, ck_of (fok_xb (by omega) hT)]
    show f_X7_bitsOf_b7 fu (xb (E + 1) T) (zI e + (-1)) (zI i + 1) M = _
    rw [zm_1, zl_1, zI_add, zI_add, show (e : Int) + -1 = ((e - 1 : Nat) : Int) by omega, show (i : Int) + 1 = ((i + 1 : Nat) : Int) by omega]
    rw [bits_loop hT M d (E + 1) fu (e - 1) (i + 1) (by omega) (by omega) (by omega) (by omega) (by omega)]
    rw [show e - 1 - d = e - (d + 1) by omega]
theorem bits_of {E T : Nat} (h1 : 1 ≤ E) (h2 : E ≤ 127) (hT : T < 8388608) (M : Mem) : f_X7_bitsOf (xb E T) M = some ((xb E T).toInt32, M) := by
  unfold f_X7_bitsOf
  rw [zl_0, show (127 : Int32) = zI ((127 : Nat) : Int) by decide, show (0 : Int) = ((0 : Nat) : Int) from rfl]
  rw [bits_loop hT M (127 - E) E 1000 127 0 (by omega) h1 (by omega) (by omega) (by omega)]
  rw [show 127 - (127 - E) = E by omega]
/-! the reference's own bits -/
theorem sn_xb {E T : Nat} (h2 : E ≤ 127) (hT : T < 8388608) : vn_sni2f (xb E T).toInt32 = false := by
  unfold vn_sni2f
  rw [UInt32.toUInt32_toInt32]
  have : decide (xb E T &&& 2147483647 > 2139095040) = false := by
    refine decide_eq_false ?_
    rw [gt_iff_lt, UInt32.lt_iff_toNat_lt, UInt32.toNat_and, show (2147483647 : UInt32).toNat = 2 ^ 31 - 1 from rfl, Nat.and_two_pow_sub_one_eq_mod, xb_nat (by omega) hT]
    show ¬ (2139095040 < _)
    omega
  rw [this]; rfl
/-- the float as so many units of 2^-36 -/
def xu (E T : Nat) : Nat := (8388608 + T) * 2 ^ (E - 114)
/-- a double that is so many units of 2^-36, exactly -/
def DV (x : UInt64) (S : Nat) : Prop := ∃ c q, FP.Core.decode FP.Core.b64 x.toNat = .fin false c q ∧ ((S = 0 ∧ c = 0 ∧ q = -1074) ∨ (0 < S ∧ 4503599627370496 ≤ c ∧ c < 9007199254740992 ∧ -88 ≤ q ∧ q ≤ 0 ∧ c * 2 ^ (q + 88).toNat = S * 2 ^ 52))
theorem dok_of {x : UInt64} {c : Nat} {q : Int} (h : FP.Core.decode FP.Core.b64 x.toNat = .fin false c q) : dok x = true := by
  have t : FP.Core.b64.tails = 4503599627370496 := by decide
  have xx : FP.Core.b64.exps = 2048 := by decide
  unfold dok
  refine decide_eq_true ?_
  rw [UInt64.le_iff_toNat_le, UInt64.toNat_and, show (9223372036854775807 : UInt64).toNat = 2 ^ 63 - 1 from rfl, Nat.and_two_pow_sub_one_eq_mod]
  show _ ≤ 9218868437227405312
  have hx : x.toNat < 18446744073709551616 := x.toNat_lt
  unfold FP.Core.decode at h
  split at h
  · split at h <;> cases h
  · rename_i hE
    unfold FP.Core.fieldE at hE
    rw [t, xx] at hE
    omega
theorem dv_0 : DV FP.dconst0 0 := ⟨0, -1074, by decide +kernel, .inl ⟨rfl, rfl, rfl⟩⟩
/-- a sum of units, written with all digits -/
theorem dv_round {A S : Nat} {e : Int} (hS : 0 < S) (hS2 : S < 4503599627370496) (he : -88 ≤ e) (he0 : e ≤ 0) (h : A * 2 ^ (e + 88).toNat = S * 2 ^ 52) : DV (UInt64.ofNat (FP.Core.encode FP.Core.b64 (FP.Core.round FP.Core.b64 (.fin false A e)))) S := by
  obtain ⟨j, hj, a, b⟩ := digits (N := S) (P := 52) hS (by omega)
  have q1 : FP.Core.b64.qmin = -1074 := by decide
  have q2 : FP.Core.b64.qmax = 971 := by decide
  have r : FP.Core.round FP.Core.b64 (.fin false A e) = .fin false (S * 2 ^ j) (-36 - (j : Int)) := by
    unfold FP.Core.round
    simp only []
    rw [rr_exact (f := FP.Core.b64) (s := false) (B := 1) (M := S * 2 ^ j) (i := 52) (j := (e + 88).toNat + j) (by decide) (by decide) a b ?_ (by rw [q1]; omega) (by rw [q2]; omega)]
    · exact fin_congr rfl (by omega)
    · rw [Nat.pow_add, ← Nat.mul_assoc, h, Nat.mul_one, Nat.mul_assoc, Nat.mul_comm (2 ^ 52), ← Nat.mul_assoc]
  have a' : 4503599627370496 ≤ S * 2 ^ j := a
  have b' : S * 2 ^ j < 9007199254740992 := b
  refine ⟨S * 2 ^ j, -36 - (j : Int), ?_, .inr ⟨hS, a', b', by omega, by omega, ?_⟩⟩
  · rw [r]; exact rt64 a' b' (by omega) (by omega)
  · rw [Nat.mul_assoc, ← Nat.pow_add]; congr 2; omega
theorem dv_shade {E T : Nat} (h1 : 114 ≤ E) (h2 : E ≤ 127) (hT : T < 8388608) : DV (FP.f2d (xb E T)) (xu E T) := by
  have e1 : FP.f2d (xb E T) = UInt64.ofNat (FP.Core.encode FP.Core.b64 (FP.Core.round FP.Core.b64 (.fin false (8388608 + T) ((E : Int) - 150)))) := by
    unfold FP.f2d
    rw [show FP.Core.fIsNaN (xb E T) = false from nan_xb (by omega) (by omega) hT]
    show UInt64.ofNat (FP.Core.encode FP.Core.b64 (FP.Core.round FP.Core.b64 (FP.Core.decode FP.Core.b32 (xb E T).toNat))) = _
    rw [dec32 (by omega) (by omega) hT]
  rw [e1]
  have k : (2 : Nat) ^ (E - 114) ≤ 2 ^ 13 := Nat.pow_le_pow_right (by decide) (by omega)
  refine dv_round ?_ ?_ (by omega) (by omega) ?_
  · exact Nat.mul_pos (by omega) (Nat.two_pow_pos _)
  · have := Nat.mul_le_mul (show 8388608 + T ≤ 16777216 by omega) k
    unfold xu
    omega
  · unfold xu
    rw [Nat.mul_assoc, ← Nat.pow_add]
    congr 2; omega
theorem dv_add {x y : UInt64} {S R : Nat} (hx : DV x S) (hy : DV y R) (hR : 0 < R) (hSR : S + R < 4503599627370496) : DV (FP.dadd x y) (S + R) := by
  obtain ⟨c, q, dx, h⟩ := hx
  obtain ⟨d, r, dy, g⟩ := hy
  have g : 0 < R ∧ 4503599627370496 ≤ d ∧ d < 9007199254740992 ∧ -88 ≤ r ∧ r ≤ 0 ∧ d * 2 ^ (r + 88).toNat = R * 2 ^ 52 := by
    rcases g with ⟨g, _⟩ | g
    · omega
    · exact g
  obtain ⟨_, d1, d2, r1, r2, dr⟩ := g
  have hs : FP.dadd x y = UInt64.ofNat (FP.Core.encode FP.Core.b64 (FP.Core.round FP.Core.b64 (FP.Core.exactSum (.fin false c q) (.fin false d r)))) := by
    show UInt64.ofNat (FP.Core.encode FP.Core.b64 (FP.Core.round FP.Core.b64 (FP.Core.exactSum (FP.Core.decode FP.Core.b64 x.toNat) (FP.Core.decode FP.Core.b64 y.toNat)))) = _
    rw [dx, dy]
  have ex : FP.Core.exactSum (.fin false c q) (.fin false d r) = .fin false (FP.Core.inUnits c q (min q r) + FP.Core.inUnits d r (min q r)) (min q r) := by
    unfold FP.Core.exactSum FP.Core.sumUnits FP.Core.sumSign FP.Core.signed
    simp only [Bool.false_eq_true, if_false, Bool.and_self]
    have : ¬ (((FP.Core.inUnits c q (min q r) : Nat) : Int) + ((FP.Core.inUnits d r (min q r) : Nat) : Int) < 0) := by omega
    rw [decide_eq_false this, ite_self]
    congr 1
  rw [hs, ex]
  rcases h with ⟨h1, h2, h3⟩ | ⟨h1, c1, c2, q1, q2, cq⟩
  · subst h1; subst h2; subst h3
    have qm : FP.Core.b64.qmin = -1074 := by decide
    have q2 : FP.Core.b64.qmax = 971 := by decide
    have m : min (-1074 : Int) r = -1074 := by omega
    rw [m]
    unfold FP.Core.inUnits
    rw [Nat.zero_mul, Nat.zero_add]
    have r' : FP.Core.round FP.Core.b64 (.fin false (d * 2 ^ (r - -1074).toNat) (-1074)) = .fin false d r := by
      unfold FP.Core.round
      simp only []
      rw [rr_exact (f := FP.Core.b64) (s := false) (B := 1) (M := d) (i := (r - -1074).toNat) (j := 0) (by decide) (by decide) d1 d2 (by rw [Nat.pow_zero, Nat.mul_one, Nat.mul_one]) (by rw [qm]; omega) (by rw [q2]; omega)]
      exact fin_congr rfl (by omega)
    rw [r']
    refine ⟨d, r, rt64 d1 d2 (by omega) (by omega), .inr ⟨by omega, d1, d2, r1, r2, by rw [Nat.zero_add]; exact dr⟩⟩
  · refine dv_round (by omega) hSR (by omega) (by omega) ?_
    unfold FP.Core.inUnits
    rw [Nat.add_mul, Nat.mul_assoc, Nat.mul_assoc, ← Nat.pow_add, ← Nat.pow_add, Nat.add_mul, ← cq, ← dr]
    congr 3 <;> omega
/-- the mean of n shades -/
theorem mean_val {x : UInt64} {S : Nat} {n : Int} (hx : DV x S) (h0 : 1 ≤ n) (hn : n ≤ 16) (h1 : n.toNat * 8388608 ≤ S) (h2 : S ≤ n.toNat * 68719476736) : dok (FP.ddiv x (FP.i2d (zI n))) = true ∧ ∃ E T : Nat, FP.d2f (FP.ddiv x (FP.i2d (zI n))) = xb E T ∧ 114 ≤ E ∧ E ≤ 127 ∧ T < 8388608 ∧ (E = 127 → T = 0) := by
  obtain ⟨c, q, dx, h⟩ := hx
  have h : 0 < S ∧ 4503599627370496 ≤ c ∧ c < 9007199254740992 ∧ -88 ≤ q ∧ q ≤ 0 ∧ c * 2 ^ (q + 88).toNat = S * 2 ^ 52 := by
    rcases h with ⟨g, _⟩ | g
    · omega
    · exact g
  obtain ⟨_, c1, c2, q1, q2, cq⟩ := h
  obtain ⟨j, j1, ja, jb, jd⟩ := i2d_val (k := n) (by omega) (by omega)
  have hN : Nrm FP.Core.b64 (-13) (FP.Core.quotient FP.Core.b64 (.fin false c q) (.fin false (n.toNat * 2 ^ j) (-(j : Int)))) := by
    unfold FP.Core.quotient
    simp only []
    rw [if_neg (by omega)]
    refine rr_nrm (by decide) (by omega) (by omega) ?_ ?_ (by decide) (by decide)
    · rw [Ge_iff (x := 75) (y := (q + 88).toNat + j) (by omega), Nat.pow_add, ← Nat.mul_assoc, cq]
      have := Nat.mul_le_mul_right (2 ^ 52 * 2 ^ j) h1
      have e : n.toNat * 8388608 * (2 ^ 52 * 2 ^ j) = n.toNat * 2 ^ j * 2 ^ 75 := by
        rw [show (2 : Nat) ^ 75 = 8388608 * 2 ^ 52 by decide]
        ac_rfl
      have e2 : S * 2 ^ 52 * 2 ^ j = S * (2 ^ 52 * 2 ^ j) := by ac_rfl
      exact Nat.le_trans (Nat.le_of_eq e.symm) (Nat.le_trans this (Nat.le_of_eq e2.symm))
    · rw [Ge_iff (x := (q + 88).toNat + j) (y := 88) (by omega), Nat.pow_add, ← Nat.mul_assoc, cq]
      have := Nat.mul_le_mul_right (2 ^ 52 * 2 ^ j) h2
      have e : n.toNat * 68719476736 * (2 ^ 52 * 2 ^ j) = n.toNat * 2 ^ j * 2 ^ 88 := by
        rw [show (2 : Nat) ^ 88 = 68719476736 * 2 ^ 52 by decide]
        ac_rfl
      have e2 : S * 2 ^ 52 * 2 ^ j = S * (2 ^ 52 * 2 ^ j) := by ac_rfl
      exact Nat.le_trans (Nat.le_of_eq e2) (Nat.le_trans this (Nat.le_of_eq e))
  obtain ⟨m, r, hd, m1, m2, r1, r2⟩ := hN
  have p1 : ((FP.Core.b64.p - 1 : Nat) : Int) = 52 := by decide
  have p2 : 2 ^ (FP.Core.b64.p - 1) = 4503599627370496 := by decide
  have p3 : 2 ^ FP.Core.b64.p = 9007199254740992 := by decide
  rw [p1] at r1 r2
  rw [p2] at m1 r2
  rw [p3] at m2
  have hv : FP.Core.decode FP.Core.b64 (FP.ddiv x (FP.i2d (zI n))).toNat = .fin false m r := by
    show FP.Core.decode FP.Core.b64 (UInt64.ofNat (FP.Core.encode FP.Core.b64 (FP.Core.quotient FP.Core.b64 (FP.Core.decode FP.Core.b64 x.toNat) (FP.Core.decode FP.Core.b64 (FP.i2d (zI n)).toNat)))).toNat = _
    rw [dx, jd, hd]
    exact rt64 m1 m2 (by omega) (by omega)
  refine ⟨dok_of hv, ?_⟩
  have hN2 : Nrm FP.Core.b32 (-13) (FP.Core.round FP.Core.b32 (.fin false m r)) := by
    unfold FP.Core.round
    simp only []
    refine rr_nrm (by decide) (by omega) (by omega) ?_ ?_ (by decide) (by decide)
    · rw [Ge_iff (x := 52) (y := (65 + r).toNat) (by omega), Nat.one_mul]
      have := Nat.two_pow_pos (65 + r).toNat
      have := Nat.le_mul_of_pos_right m this
      omega
    · rw [Ge_iff (x := 0) (y := (-r).toNat) (by omega), Nat.one_mul, Nat.pow_zero, Nat.mul_one]
      rcases r2 with r2 | ⟨r2, r3⟩
      · have : (2 : Nat) ^ 53 ≤ 2 ^ (-r).toNat := Nat.pow_le_pow_right (by decide) (by omega)
        omega
      · have : (-r).toNat = 52 := by omega
        rw [this, r3]; decide
  obtain ⟨E, T, e, a, b, c', d⟩ := nrm32 hN2 (by decide)
  refine ⟨E, T, ?_, by omega, b, c', d⟩
  unfold FP.d2f
  have nn : FP.Core.dIsNaN (FP.ddiv x (FP.i2d (zI n))) = false := by
    show decide (FP.Core.decode FP.Core.b64 (FP.ddiv x (FP.i2d (zI n))).toNat = .nan) = false
    rw [hv]; rfl
  rw [nn]
  show UInt32.ofNat (FP.Core.encode FP.Core.b32 (FP.Core.round FP.Core.b32 (FP.Core.decode FP.Core.b64 (FP.ddiv x (FP.i2d (zI n))).toNat))) = _
  rw [hv]
  exact e
