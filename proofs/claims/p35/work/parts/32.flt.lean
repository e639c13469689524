/-! floats: what is exact, what lies between 0 and 1 -/
/-- B * 2^i is at most A -/
def Ge (A B : Nat) (i : Int) : Prop := B * 2 ^ i.toNat ≤ A * 2 ^ (-i).toNat
theorem Ge_iff {A B x y : Nat} {i : Int} (h : i = (x : Int) - y) : Ge A B i ↔ B * 2 ^ x ≤ A * 2 ^ y := by
  unfold Ge
  by_cases hxy : y ≤ x
  · have e1 : i.toNat = x - y := by omega
    have e2 : (-i).toNat = 0 := by omega
    have e3 : 2 ^ x = 2 ^ (x - y) * 2 ^ y := by rw [← Nat.pow_add]; congr 1; omega
    rw [e1, e2, e3, ← Nat.mul_assoc, Nat.pow_zero, Nat.mul_one]
    exact (Nat.mul_le_mul_right_iff (Nat.two_pow_pos y)).symm
  · have e1 : i.toNat = 0 := by omega
    have e2 : (-i).toNat = y - x := by omega
    have e3 : 2 ^ y = 2 ^ (y - x) * 2 ^ x := by rw [← Nat.pow_add]; congr 1; omega
    rw [e1, e2, e3, ← Nat.mul_assoc, Nat.pow_zero, Nat.mul_one]
    exact (Nat.mul_le_mul_right_iff (Nat.two_pow_pos x)).symm
theorem Ge_mono {A B : Nat} {i j : Int} (h : j ≤ i) (g : Ge A B i) : Ge A B j := by
  have e : ∃ x y d : Nat, i = ((x + d : Nat) : Int) - y ∧ j = (x : Int) - y := by
    refine ⟨j.toNat, (-j).toNat, (i - j).toNat, by omega, by omega⟩
  obtain ⟨x, y, d, e1, e2⟩ := e
  rw [Ge_iff e1] at g
  rw [Ge_iff e2]
  refine Nat.le_trans (Nat.mul_le_mul_left _ (Nat.pow_le_pow_right (by decide) (Nat.le_add_right _ _))) g
theorem lead_ge {A B : Nat} (hA : 0 < A) (hB : 0 < B) : Ge A B (FP.Core.leading A B) ∧ ¬ Ge A B (FP.Core.leading A B + 1) := by
  have a1 := Nat.log2_self_le (n := A) (by omega)
  have a2 := Nat.lt_log2_self (n := A)
  have b1 := Nat.log2_self_le (n := B) (by omega)
  have b2 := Nat.lt_log2_self (n := B)
  have no : ¬ Ge A B ((A.log2 : Int) - B.log2 + 1) := by
    rw [Ge_iff (x := A.log2 + 1) (y := B.log2) (by omega)]
    have := Nat.mul_le_mul_right (2 ^ (A.log2 + 1)) b1
    have := Nat.mul_lt_mul_of_pos_left a2 (Nat.two_pow_pos B.log2)
    rw [Nat.mul_comm] at this
    omega
  have hl : FP.Core.leading A B = (A.log2 : Int) - B.log2 ∧ Ge A B ((A.log2 : Int) - B.log2) ∨ FP.Core.leading A B = (A.log2 : Int) - B.log2 - 1 ∧ ¬ Ge A B ((A.log2 : Int) - B.log2) := by
    unfold FP.Core.leading Ge
    by_cases h : B * 2 ^ ((A.log2 : Int) - B.log2).toNat ≤ A * 2 ^ (-((A.log2 : Int) - B.log2)).toNat
    · exact .inl ⟨if_pos h, h⟩
    · exact .inr ⟨if_neg h, h⟩
  rcases hl with ⟨hl, h⟩ | ⟨hl, h⟩
  · rw [hl]
    exact ⟨h, no⟩
  · rw [hl]
    refine ⟨?_, by rw [show (A.log2 : Int) - B.log2 - 1 + 1 = (A.log2 : Int) - B.log2 by omega]; exact h⟩
    rw [Ge_iff (x := A.log2) (y := B.log2 + 1) (by omega)]
    have h1 := Nat.mul_le_mul_right (2 ^ A.log2) (Nat.le_of_lt b2)
    have h2 := Nat.mul_le_mul_left (2 ^ (B.log2 + 1)) a1
    rw [Nat.mul_comm] at h2
    rw [Nat.mul_comm (2 ^ A.log2)] at h2
    rw [Nat.mul_comm A]
    omega
theorem lead_eq {A B : Nat} {L : Int} (hA : 0 < A) (hB : 0 < B) (h1 : Ge A B L) (h2 : ¬ Ge A B (L + 1)) : FP.Core.leading A B = L := by
  have g := lead_ge hA hB
  rcases Int.lt_trichotomy (FP.Core.leading A B) L with h | h | h
  · exact absurd (Ge_mono (by omega) h1) g.2
  · exact h
  · exact absurd (Ge_mono (by omega) g.1) h2
theorem near_ge {n d M : Nat} (hd : 0 < d) (h : M * d ≤ n) : M ≤ FP.Core.nearest n d := by
  have : M ≤ n / d := (Nat.le_div_iff_mul_le hd).mpr h
  unfold FP.Core.nearest
  split
  · exact this
  · split <;> omega
theorem near_le {n d M : Nat} (hd : 0 < d) (h : n ≤ M * d) : FP.Core.nearest n d ≤ M := by
  have h1 := Nat.div_add_mod n d
  by_cases hlt : n / d < M
  · unfold FP.Core.nearest
    split
    · omega
    · split <;> omega
  · have h2 : M * d ≤ d * (n / d) := by rw [Nat.mul_comm d]; exact Nat.mul_le_mul_right _ (by omega)
    have h3 : n % d = 0 := by omega
    have h4 : n / d ≤ M := by
      rw [Nat.div_le_iff_le_mul_add_pred hd]
      rw [Nat.mul_comm] at h
      omega
    unfold FP.Core.nearest
    rw [h3, if_pos (by omega)]
    exact h4
theorem near_eq {n d M : Nat} (hd : 0 < d) (h : n = M * d) : FP.Core.nearest n d = M := Nat.le_antisymm (near_le hd (Nat.le_of_eq h)) (near_ge hd (Nat.le_of_eq h.symm))
/-- exact rounding: A * 2^e is M * 2^(e+i-j), M of p digits -/
theorem rr_exact {f : FP.Core.Fmt} {s : Bool} {A B M i j : Nat} {e : Int} (hp : 1 ≤ f.p) (hB : 0 < B) (hM1 : 2 ^ (f.p - 1) ≤ M) (hM2 : M < 2 ^ f.p) (h : A * 2 ^ j = M * B * 2 ^ i) (h1 : f.qmin ≤ e + i - j) (h2 : e + i - j ≤ f.qmax) : FP.Core.roundRatio f s A B e = .fin s M (e + i - j) := by
  have hA : 0 < A := by
    rcases Nat.eq_zero_or_pos A with h0 | h0
    · rw [h0, Nat.zero_mul] at h
      have := Nat.mul_pos (Nat.mul_pos (Nat.lt_of_lt_of_le (Nat.two_pow_pos _) hM1) hB) (Nat.two_pow_pos i)
      omega
    · exact h0
  have hL : FP.Core.leading A B = ((f.p - 1 + i : Nat) : Int) - j := by
    refine lead_eq hA hB ((Ge_iff rfl).mpr ?_) ?_
    · rw [h, Nat.pow_add, ← Nat.mul_assoc, Nat.mul_comm B]
      exact Nat.mul_le_mul_right _ (Nat.mul_le_mul_right _ hM1)
    · rw [Ge_iff (x := f.p + i) (y := j) (by omega), h, Nat.pow_add, ← Nat.mul_assoc, Nat.mul_comm B]
      exact Nat.not_le.mpr (Nat.mul_lt_mul_of_pos_right (Nat.mul_lt_mul_of_pos_right hM2 hB) (Nat.two_pow_pos i))
  unfold FP.Core.roundRatio
  rw [if_neg (by omega)]
  have hq : FP.Core.quantum f A B e = e + i - j := by
    unfold FP.Core.quantum
    rw [hL]
    have : (f.p - 1 : Nat) = (f.p : Int) - 1 := by omega
    omega
  rw [hq]
  unfold FP.Core.roundAt
  have hn : FP.Core.nearest (FP.Core.unitsNum A e (e + i - j)) (FP.Core.unitsDen B e (e + i - j)) = M := by
    refine near_eq (Nat.mul_pos hB (Nat.two_pow_pos _)) ?_
    unfold FP.Core.unitsNum FP.Core.unitsDen
    by_cases hij : i ≤ j
    · have e1 : (e - (e + i - j)).toNat = j - i := by omega
      have e2 : (e + i - j - e).toNat = 0 := by omega
      rw [e1, e2, Nat.pow_zero, Nat.mul_one]
      refine Nat.eq_of_mul_eq_mul_right (Nat.two_pow_pos i) ?_
      rw [← h, Nat.mul_assoc, ← Nat.pow_add]
      congr 2; omega
    · have e1 : (e - (e + i - j)).toNat = 0 := by omega
      have e2 : (e + i - j - e).toNat = i - j := by omega
      rw [e1, e2, Nat.pow_zero, Nat.mul_one]
      refine Nat.eq_of_mul_eq_mul_right (Nat.two_pow_pos j) ?_
      rw [h, ← Nat.mul_assoc, Nat.mul_assoc _ _ (2 ^ j), ← Nat.pow_add]
      congr 2; omega
  rw [hn]
  unfold FP.Core.settle FP.Core.bound
  rw [if_pos hM2, if_pos h2]
/-- a number of the format between 2^K and 1, written with all its digits -/
def Nrm (f : FP.Core.Fmt) (K : Int) (d : FP.Core.Datum) : Prop := ∃ c q, d = .fin false c q ∧ 2 ^ (f.p - 1) ≤ c ∧ c < 2 ^ f.p ∧ K ≤ q + ((f.p - 1 : Nat) : Int) ∧ (q + ((f.p - 1 : Nat) : Int) < 0 ∨ (q + ((f.p - 1 : Nat) : Int) = 0 ∧ c = 2 ^ (f.p - 1)))
theorem rr_nrm {f : FP.Core.Fmt} {A B : Nat} {e K : Int} (hp : 1 ≤ f.p) (hA : 0 < A) (hB : 0 < B) (h1 : Ge A B (K - e)) (h2 : Ge B A e) (hK : f.qmin ≤ K - ((f.p - 1 : Nat) : Int)) (hm : 0 ≤ f.qmax) : Nrm f K (FP.Core.roundRatio f false A B e) := by
  obtain ⟨g1, g2⟩ := lead_ge hA hB
  generalize hL : FP.Core.leading A B = L at *
  have hKL : K - e ≤ L := by
    refine Int.not_lt.mp fun hlt => g2 (Ge_mono (by omega) h1)
  have hp2 : 2 ^ f.p = 2 * 2 ^ (f.p - 1) := by
    rw [← Nat.pow_succ']; congr 1; omega
  have hL0 : L + e ≤ 0 ∧ (L + e = 0 → A * 2 ^ e.toNat = B * 2 ^ (-e).toNat) := by
    have g1' := g1
    obtain ⟨x, y, hx⟩ : ∃ x y : Nat, e = (x : Int) - y := ⟨e.toNat, (-e).toNat, by omega⟩
    have h2' := (Ge_iff hx).mp h2
    constructor
    · refine Int.not_lt.mp fun hlt => ?_
      have := Ge_mono (j := -e + 1) (by omega) g1
      rw [Ge_iff (x := y + 1) (y := x) (by omega), Nat.pow_succ] at this
      have := Nat.mul_pos hB (Nat.two_pow_pos y)
      rw [← Nat.mul_assoc] at *
      omega
    · intro he
      have g3 := (Ge_iff (x := (-e).toNat) (y := e.toNat) (by omega)).mp g1
      have g4 := (Ge_iff (x := e.toNat) (y := (-e).toNat) (by omega)).mp h2
      omega
  unfold FP.Core.roundRatio
  rw [if_neg (by omega)]
  have hq : FP.Core.quantum f A B e = L + e - ((f.p - 1 : Nat) : Int) := by
    unfold FP.Core.quantum
    rw [hL]
    omega
  rw [hq]
  unfold FP.Core.roundAt
  have hdp : 0 < FP.Core.unitsDen B e (L + e - ((f.p - 1 : Nat) : Int)) := Nat.mul_pos hB (Nat.two_pow_pos _)
  have hlo : 2 ^ (f.p - 1) * FP.Core.unitsDen B e (L + e - ((f.p - 1 : Nat) : Int)) ≤ FP.Core.unitsNum A e (L + e - ((f.p - 1 : Nat) : Int)) := by
    unfold FP.Core.unitsNum FP.Core.unitsDen
    have := (Ge_iff (x := (f.p - 1) + (L + e - ((f.p - 1 : Nat) : Int) - e).toNat) (y := (e - (L + e - ((f.p - 1 : Nat) : Int))).toNat) (by omega)).mp g1
    rw [Nat.pow_add] at this
    rw [← Nat.mul_assoc, Nat.mul_comm (2 ^ (f.p - 1)), Nat.mul_assoc]
    exact this
  have hhi : FP.Core.unitsNum A e (L + e - ((f.p - 1 : Nat) : Int)) ≤ 2 ^ f.p * FP.Core.unitsDen B e (L + e - ((f.p - 1 : Nat) : Int)) := by
    unfold FP.Core.unitsNum FP.Core.unitsDen
    have := g2
    rw [Ge_iff (x := f.p + (L + e - ((f.p - 1 : Nat) : Int) - e).toNat) (y := (e - (L + e - ((f.p - 1 : Nat) : Int))).toNat) (by omega)] at this
    rw [Nat.pow_add] at this
    rw [← Nat.mul_assoc, Nat.mul_comm (2 ^ f.p), Nat.mul_assoc]
    omega
  have c1 := near_ge hdp hlo
  have c2 := near_le hdp hhi
  have c0 : L + e = 0 → FP.Core.nearest (FP.Core.unitsNum A e (L + e - ((f.p - 1 : Nat) : Int))) (FP.Core.unitsDen B e (L + e - ((f.p - 1 : Nat) : Int))) = 2 ^ (f.p - 1) := by
    intro he
    refine near_eq hdp ?_
    have e0 := hL0.2 he
    rw [he]
    unfold FP.Core.unitsNum FP.Core.unitsDen
    by_cases hpos : 0 ≤ e
    · have z : (-e).toNat = 0 := by omega
      rw [z, Nat.pow_zero, Nat.mul_one] at e0
      have e1 : (e - (0 - ((f.p - 1 : Nat) : Int))).toNat = e.toNat + (f.p - 1) := by omega
      have e2 : (0 - ((f.p - 1 : Nat) : Int) - e).toNat = 0 := by omega
      rw [e1, e2, Nat.pow_add, ← Nat.mul_assoc, e0, Nat.pow_zero, Nat.mul_one, Nat.mul_comm]
    · have z : e.toNat = 0 := by omega
      rw [z, Nat.pow_zero, Nat.mul_one] at e0
      rw [e0]
      rw [Nat.mul_assoc, ← Nat.pow_add, Nat.mul_left_comm, ← Nat.pow_add]
      congr 2; omega
  generalize FP.Core.nearest (FP.Core.unitsNum A e (L + e - ((f.p - 1 : Nat) : Int))) (FP.Core.unitsDen B e (L + e - ((f.p - 1 : Nat) : Int))) = c at *
  unfold FP.Core.settle FP.Core.bound
  by_cases hc : c < 2 ^ f.p
  · rw [if_pos hc, if_pos (by omega)]
    refine ⟨c, _, rfl, c1, hc, by omega, ?_⟩
    by_cases he : L + e = 0
    · exact .inr ⟨by omega, c0 he⟩
    · exact .inl (by omega)
  · have he : L + e ≠ 0 := fun he => by
      have := c0 he
      have := Nat.two_pow_pos (f.p - 1)
      omega
    rw [if_neg hc, if_pos (by omega)]
    refine ⟨f.tails, _, rfl, Nat.le_refl _, ?_, by omega, ?_⟩
    · show 2 ^ (f.p - 1) < 2 ^ f.p
      have := Nat.two_pow_pos (f.p - 1)
      omega
    · by_cases he1 : L + e = -1
      · exact .inr ⟨by omega, rfl⟩
      · exact .inl (by omega)
theorem fin_congr {s : Bool} {c c' : Nat} {q q' : Int} (h : c = c') (h2 : q = q') : FP.Core.Datum.fin s c q = .fin s c' q' := by rw [h, h2]
/-- the float of exponent field E and fraction T -/
def xb (E T : Nat) : UInt32 := UInt32.ofNat (E * 8388608 + T)
theorem xb_congr {E T E' T' : Nat} (h : E = E') (h2 : T = T') : xb E T = xb E' T' := by rw [h, h2]
theorem xb_nat {E T : Nat} (hE : E < 256) (hT : T < 8388608) : (xb E T).toNat = E * 8388608 + T := by
  unfold xb
  rw [UInt32.toNat_ofNat']
  omega
theorem dec32 {E T : Nat} (h1 : 1 ≤ E) (h2 : E < 255) (hT : T < 8388608) : FP.Core.decode FP.Core.b32 (xb E T).toNat = .fin false (8388608 + T) ((E : Int) - 150) := by
  rw [xb_nat (by omega) hT]
  have t : FP.Core.b32.tails = 8388608 := by decide
  have x : FP.Core.b32.exps = 256 := by decide
  have m : FP.Core.b32.qmin = -149 := by decide
  have d1 : (E * 8388608 + T) / 8388608 = E := by omega
  have fe : FP.Core.fieldE FP.Core.b32 (E * 8388608 + T) = E := by unfold FP.Core.fieldE; rw [t, x, d1]; omega
  have ft : FP.Core.fieldT FP.Core.b32 (E * 8388608 + T) = T := by unfold FP.Core.fieldT; rw [t]; omega
  have fs : FP.Core.fieldS FP.Core.b32 (E * 8388608 + T) = false := by
    unfold FP.Core.fieldS; rw [t, x, d1]
    have : E / 256 = 0 := by omega
    rw [this]; rfl
  unfold FP.Core.decode
  rw [fe, ft, fs, x, t, m, if_neg (by omega), if_neg (by omega)]
  congr 1; omega
theorem enc32 {c : Nat} {q : Int} (h1 : 8388608 ≤ c) (h2 : c < 16777216) (h3 : -149 ≤ q) : UInt32.ofNat (FP.Core.encode FP.Core.b32 (.fin false c q)) = xb (q + 150).toNat (c - 8388608) := by
  have t : FP.Core.b32.tails = 8388608 := by decide
  have x : FP.Core.b32.exps = 256 := by decide
  have m : FP.Core.b32.qmin = -149 := by decide
  unfold FP.Core.encode FP.Core.assemble xb
  simp only []
  rw [t, x, m, if_neg (by omega)]
  have : (q - -149).toNat + 1 = (q + 150).toNat := by omega
  rw [this]
  simp
theorem rt32 {c : Nat} {q : Int} (h1 : 8388608 ≤ c) (h2 : c < 16777216) (h3 : -149 ≤ q) (h4 : q < 104) : FP.Core.decode FP.Core.b32 (UInt32.ofNat (FP.Core.encode FP.Core.b32 (.fin false c q))).toNat = .fin false c q := by
  rw [enc32 h1 h2 h3, dec32 (by omega) (by omega) (by omega)]
  exact fin_congr (by omega) (by omega)
theorem rt64 {c : Nat} {q : Int} (h1 : 4503599627370496 ≤ c) (h2 : c < 9007199254740992) (h3 : -1074 ≤ q) (h4 : q < 900) : FP.Core.decode FP.Core.b64 (UInt64.ofNat (FP.Core.encode FP.Core.b64 (.fin false c q))).toNat = .fin false c q := by
  have t : FP.Core.b64.tails = 4503599627370496 := by decide
  have x : FP.Core.b64.exps = 2048 := by decide
  have m : FP.Core.b64.qmin = -1074 := by decide
  have en : FP.Core.encode FP.Core.b64 (.fin false c q) = ((q - -1074).toNat + 1) * 4503599627370496 + (c - 4503599627370496) := by
    unfold FP.Core.encode FP.Core.assemble
    simp only []
    rw [t, x, m, if_neg (by omega)]
    simp
  generalize hE : (q - -1074).toNat + 1 = E at en
  have e2 : (UInt64.ofNat (FP.Core.encode FP.Core.b64 (.fin false c q))).toNat = E * 4503599627370496 + (c - 4503599627370496) := by
    rw [UInt64.toNat_ofNat', en]
    omega
  have d1 : (E * 4503599627370496 + (c - 4503599627370496)) / 4503599627370496 = E := by omega
  have fe : FP.Core.fieldE FP.Core.b64 (E * 4503599627370496 + (c - 4503599627370496)) = E := by unfold FP.Core.fieldE; rw [t, x, d1]; omega
  have ft : FP.Core.fieldT FP.Core.b64 (E * 4503599627370496 + (c - 4503599627370496)) = c - 4503599627370496 := by unfold FP.Core.fieldT; rw [t]; omega
  have fs : FP.Core.fieldS FP.Core.b64 (E * 4503599627370496 + (c - 4503599627370496)) = false := by
    unfold FP.Core.fieldS; rw [t, x, d1]
    have : E / 2048 = 0 := by omega
    rw [this]; rfl
  rw [e2]
  unfold FP.Core.decode
  rw [fe, ft, fs, x, t, m, if_neg (by omega), if_neg (by omega)]
  exact fin_congr (by omega) (by omega)
/-- all digits of a small number -/
theorem digits {N P : Nat} (h1 : 0 < N) (h2 : N < 2 ^ (P + 1)) : ∃ j, j ≤ P ∧ 2 ^ P ≤ N * 2 ^ j ∧ N * 2 ^ j < 2 ^ (P + 1) := by
  have a := Nat.log2_self_le (n := N) (by omega)
  have b := Nat.lt_log2_self (n := N)
  have hl : N.log2 ≤ P := by
    have : N.log2 < P + 1 := (Nat.log2_lt (by omega)).mpr h2
    omega
  refine ⟨P - N.log2, by omega, ?_, ?_⟩
  · have : 2 ^ P = 2 ^ N.log2 * 2 ^ (P - N.log2) := by rw [← Nat.pow_add]; congr 1; omega
    rw [this]
    exact Nat.mul_le_mul_right _ a
  · have : 2 ^ (P + 1) = 2 ^ (N.log2 + 1) * 2 ^ (P - N.log2) := by rw [← Nat.pow_add]; congr 1; omega
    rw [this]
    exact Nat.mul_lt_mul_of_pos_right b (Nat.two_pow_pos _)
theorem i2f_val {k : Int} (h1 : 0 < k) (h2 : k < 16777216) : ∃ j : Nat, j ≤ 23 ∧ 8388608 ≤ k.toNat * 2 ^ j ∧ k.toNat * 2 ^ j < 16777216 ∧ FP.Core.decode FP.Core.b32 (FP.i2f (zI k)).toNat = .fin false (k.toNat * 2 ^ j) (-(j : Int)) := by
  obtain ⟨j, hj, a, b⟩ := digits (N := k.toNat) (P := 23) (by omega) (by omega)
  refine ⟨j, hj, a, b, ?_⟩
  show FP.Core.decode FP.Core.b32 (UInt32.ofNat (FP.Core.fromInt FP.Core.b32 (zI k).toInt)).toNat = _
  rw [zI_toInt (by omega) (by omega)]
  have r : FP.Core.round FP.Core.b32 (FP.Core.ofInt k) = .fin false (k.toNat * 2 ^ j) (-(j : Int)) := by
    unfold FP.Core.ofInt FP.Core.round
    simp only []
    have e1 : decide (k < 0) = false := decide_eq_false (by omega)
    have e2 : k.natAbs = k.toNat := by omega
    rw [e1, e2]
    have q1 : FP.Core.b32.qmin = -149 := by decide
    have q2 : FP.Core.b32.qmax = 104 := by decide
    have := rr_exact (f := FP.Core.b32) (s := false) (A := k.toNat) (B := 1) (M := k.toNat * 2 ^ j) (i := 0) (j := j) (e := 0) (by decide) (by decide) a b (by simp) (by rw [q1]; omega) (by rw [q2]; omega)
    rw [this]
    congr 1; omega
  unfold FP.Core.fromInt
  rw [r]
  exact rt32 a b (by omega) (by omega)
theorem i2d_val {k : Int} (h1 : 0 < k) (h2 : k < 16777216) : ∃ j : Nat, j ≤ 52 ∧ 4503599627370496 ≤ k.toNat * 2 ^ j ∧ k.toNat * 2 ^ j < 9007199254740992 ∧ FP.Core.decode FP.Core.b64 (FP.i2d (zI k)).toNat = .fin false (k.toNat * 2 ^ j) (-(j : Int)) := by
  obtain ⟨j, hj, a, b⟩ := digits (N := k.toNat) (P := 52) (by omega) (by omega)
  refine ⟨j, hj, a, b, ?_⟩
  show FP.Core.decode FP.Core.b64 (UInt64.ofNat (FP.Core.fromInt FP.Core.b64 (zI k).toInt)).toNat = _
  rw [zI_toInt (by omega) (by omega)]
  have r : FP.Core.round FP.Core.b64 (FP.Core.ofInt k) = .fin false (k.toNat * 2 ^ j) (-(j : Int)) := by
    unfold FP.Core.ofInt FP.Core.round
    simp only []
    have e1 : decide (k < 0) = false := decide_eq_false (by omega)
    have e2 : k.natAbs = k.toNat := by omega
    rw [e1, e2]
    have q1 : FP.Core.b64.qmin = -1074 := by decide
    have q2 : FP.Core.b64.qmax = 971 := by decide
    have := rr_exact (f := FP.Core.b64) (s := false) (A := k.toNat) (B := 1) (M := k.toNat * 2 ^ j) (i := 0) (j := j) (e := 0) (by decide) (by decide) a b (by simp) (by rw [q1]; omega) (by rw [q2]; omega)
    rw [this]
    congr 1; omega
  unfold FP.Core.fromInt
  rw [r]
  exact rt64 a b (by omega) (by omega)
theorem nrm32 {K : Int} {d : FP.Core.Datum} (h : Nrm FP.Core.b32 K d) (hK : -126 ≤ K) : ∃ E T : Nat, UInt32.ofNat (FP.Core.encode FP.Core.b32 d) = xb E T ∧ K + 127 ≤ (E : Int) ∧ E ≤ 127 ∧ T < 8388608 ∧ (E = 127 → T = 0) := by
  obtain ⟨c, q, hd, h1, h2, h3, h4⟩ := h
  have p1 : ((FP.Core.b32.p - 1 : Nat) : Int) = 23 := by decide
  have p2 : 2 ^ (FP.Core.b32.p - 1) = 8388608 := by decide
  have p3 : 2 ^ FP.Core.b32.p = 16777216 := by decide
  rw [p1] at h3 h4
  rw [p2] at h1 h4
  rw [p3] at h2
  refine ⟨(q + 150).toNat, c - 8388608, ?_, by omega, by omega, by omega, by omega⟩
  rw [hd]
  exact enc32 h1 h2 (by omega)
/-- a shade's FP.Core.quotient -/
theorem shade_val {k c : Int} (h1 : 1 ≤ k) (h2 : k ≤ c) (h3 : c ≤ 5000) : ∃ E T : Nat, FP.fdiv (FP.i2f (zI k)) (FP.i2f (zI c)) = xb E T ∧ 114 ≤ E ∧ E ≤ 127 ∧ T < 8388608 ∧ (E = 127 → T = 0) := by
  obtain ⟨j, j1, ja, jb, jd⟩ := i2f_val (k := k) (by omega) (by omega)
  obtain ⟨i, i1, ia, ib, id⟩ := i2f_val (k := c) (by omega) (by omega)
  have hn : Nrm FP.Core.b32 (-13) (FP.Core.quotient FP.Core.b32 (.fin false (k.toNat * 2 ^ j) (-(j : Int))) (.fin false (c.toNat * 2 ^ i) (-(i : Int)))) := by
    unfold FP.Core.quotient
    simp only []
    rw [if_neg (by omega)]
    refine rr_nrm (by decide) (by omega) (by omega) ?_ ?_ (by decide) (by decide)
    · rw [Ge_iff (x := j) (y := 13 + i) (by omega)]
      have : c.toNat ≤ k.toNat * 2 ^ 13 := by omega
      have := Nat.mul_le_mul_right (2 ^ i * 2 ^ j) this
      rw [Nat.mul_assoc, Nat.pow_add, Nat.mul_assoc]
      refine Nat.le_trans this (Nat.le_of_eq ?_)
      ac_rfl
    · rw [Ge_iff (x := i) (y := j) (by omega)]
      have : k.toNat ≤ c.toNat := by omega
      have := Nat.mul_le_mul_right (2 ^ j * 2 ^ i) this
      rw [Nat.mul_assoc, Nat.mul_assoc, Nat.mul_comm (2 ^ i)]
      exact this
  have := nrm32 hn (by decide)
  obtain ⟨E, T, e, a, b, c', d⟩ := this
  refine ⟨E, T, ?_, by omega, b, c', d⟩
  show UInt32.ofNat (FP.Core.quotient FP.Core.b32 (FP.Core.decode FP.Core.b32 (FP.i2f (zI k)).toNat) (FP.Core.decode FP.Core.b32 (FP.i2f (zI c)).toNat) |> FP.Core.encode FP.Core.b32) = _
  rw [jd, id]
  exact e
theorem fok_xb {E T : Nat} (h2 : E < 255) (hT : T < 8388608) : fok (xb E T) = true := by
  unfold fok
  refine decide_eq_true ?_
  rw [UInt32.le_iff_toNat_le, UInt32.toNat_and, show (2147483647 : UInt32).toNat = 2 ^ 31 - 1 from rfl, Nat.and_two_pow_sub_one_eq_mod, xb_nat (by omega) hT]
  show _ ≤ 2139095040
  omega
theorem nan_xb {E T : Nat} (h1 : 1 ≤ E) (h2 : E < 255) (hT : T < 8388608) : FP.fIsNaN (xb E T) = false := by
  show decide (FP.Core.decode FP.Core.b32 (xb E T).toNat = .nan) = false
  rw [dec32 h1 h2 hT]
  rfl
theorem cmp_xb_lt {E T : Nat} (h1 : 1 ≤ E) (h2 : E < 127) (hT : T < 8388608) : Op.cmpValue (FP.fcmp (xb E T) FP.fconst1) .g = -1 := by
  have one : FP.Core.decode FP.Core.b32 FP.fconst1.toNat = .fin false 8388608 (-23) := by decide +kernel
  have : FP.fcmp (xb E T) FP.fconst1 = some .lt := by
    show FP.Core.order (FP.Core.decode FP.Core.b32 (xb E T).toNat) (FP.Core.decode FP.Core.b32 FP.fconst1.toNat) = _
    rw [dec32 h1 (by omega) hT, one]
    unfold FP.Core.order FP.Core.inUnits
    simp only []
    have m : min ((E : Int) - 150) (-23) = (E : Int) - 150 := by omega
    have e1 : ((E : Int) - 150 - ((E : Int) - 150)).toNat = 0 := by omega
    have e2 : (-23 - ((E : Int) - 150)).toNat = (126 - E) + 1 := by omega
    rw [m, e1, e2, Nat.pow_succ]
    have := Nat.two_pow_pos (126 - E)
    have : 8388608 * 2 ≤ 8388608 * (2 ^ (126 - E) * 2) := by omega
    unfold FP.Core.signed
    simp only [Bool.false_eq_true, if_false]
    rw [show compare (((8388608 + T) * 2 ^ 0 : Nat) : Int) ((8388608 * (2 ^ (126 - E) * 2) : Nat) : Int) = .lt from by
      rw [Int.compare_eq_lt]; omega]
  rw [this]
  rfl
theorem cmp_xb_ge {T : Nat} (hT : T < 8388608) : 0 ≤ Op.cmpValue (FP.fcmp (xb 127 T) FP.fconst1) .g := by
  have one : FP.Core.decode FP.Core.b32 FP.fconst1.toNat = .fin false 8388608 (-23) := by decide +kernel
  have : FP.fcmp (xb 127 T) FP.fconst1 ≠ some .lt := by
    show FP.Core.order (FP.Core.decode FP.Core.b32 (xb 127 T).toNat) (FP.Core.decode FP.Core.b32 FP.fconst1.toNat) ≠ _
    rw [dec32 (by omega) (by omega) hT, one]
    unfold FP.Core.order FP.Core.inUnits FP.Core.signed
    simp only [Bool.false_eq_true, if_false]
    intro h
    have h := Option.some.inj h
    rw [Int.compare_eq_lt] at h
    simp at h
    omega
  cases hc : FP.fcmp (xb 127 T) FP.fconst1 with
  | none => decide
  | some o =>
    cases o with
    | lt => exact absurd hc this
    | eq => decide
    | gt => decide
theorem dbl_xb {E T : Nat} (h1 : 1 ≤ E) (h2 : E < 127) (hT : T < 8388608) : FP.fmul (xb E T) FP.fconst2 = xb (E + 1) T := by
  have two : FP.Core.decode FP.Core.b32 FP.fconst2.toNat = .fin false 8388608 (-22) := by decide +kernel
  show UInt32.ofNat (FP.Core.encode FP.Core.b32 (FP.Core.round FP.Core.b32 (FP.Core.exactProduct (FP.Core.decode FP.Core.b32 (xb E T).toNat) (FP.Core.decode FP.Core.b32 FP.fconst2.toNat)))) = _
  rw [dec32 h1 (by omega) hT, two]
  unfold FP.Core.exactProduct FP.Core.round
  simp only [bne_self_eq_false]
  have q1 : FP.Core.b32.qmin = -149 := by decide
  have q2 : FP.Core.b32.qmax = 104 := by decide
  rw [rr_exact (f := FP.Core.b32) (s := false) (B := 1) (M := 8388608 + T) (i := 23) (j := 0) (by decide) (by decide) (by show 8388608 ≤ _; omega) (by show _ < 16777216; omega) (by simp) (by rw [q1]; omega) (by rw [q2]; omega), enc32 (by omega) (by omega) (by omega)]
  exact xb_congr (by omega) (by omega)
theorem sub_xb {T : Nat} (hT : T < 8388608) : FP.f2i (FP.fmul (FP.fsub (xb 127 T) FP.fconst1) 1258291200) = zI T ∧ fok (FP.fsub (xb 127 T) FP.fconst1) = true ∧ fok (FP.fmul (FP.fsub (xb 127 T) FP.fconst1) 1258291200) = true := by
  have one : FP.Core.decode FP.Core.b32 FP.fconst1.toNat = .fin false 8388608 (-23) := by decide +kernel
  have big : FP.Core.decode FP.Core.b32 (1258291200 : UInt32).toNat = .fin false 8388608 0 := by decide +kernel
  have q1 : FP.Core.b32.qmin = -149 := by decide
  have q2 : FP.Core.b32.qmax = 104 := by decide
  have hs : FP.fsub (xb 127 T) FP.fconst1 = UInt32.ofNat (FP.Core.encode FP.Core.b32 (FP.Core.round FP.Core.b32 (.fin false T (-23)))) := by
    show UInt32.ofNat (FP.Core.encode FP.Core.b32 (FP.Core.round FP.Core.b32 (FP.Core.exactSum (FP.Core.decode FP.Core.b32 (xb 127 T).toNat) (FP.Core.negate (FP.Core.decode FP.Core.b32 FP.fconst1.toNat))))) = _
    rw [dec32 (by omega) (by omega) hT, one]
    unfold FP.Core.negate FP.Core.exactSum FP.Core.sumUnits FP.Core.inUnits FP.Core.sumSign FP.Core.signed
    simp only [Bool.not_false, if_true, Bool.false_eq_true, if_false]
    have e : (((8388608 + T) * 2 ^ (((127 : Nat) : Int) - 150 - min (((127 : Nat) : Int) - 150) (-23)).toNat : Nat) : Int) + -((8388608 * 2 ^ (-23 - min (((127 : Nat) : Int) - 150) (-23)).toNat : Nat) : Int) = (T : Int) := by
      have e1 : (((127 : Nat) : Int) - 150 - min (((127 : Nat) : Int) - 150) (-23)).toNat = 0 := by omega
      have e2 : (-23 - min (((127 : Nat) : Int) - 150) (-23)).toNat = 0 := by omega
      rw [e1, e2]; omega
    rw [e]
    have m : min (((127 : Nat) : Int) - 150) (-23) = -23 := by omega
    rw [m]
    have d : decide ((T : Int) < 0) = false := decide_eq_false (by omega)
    rw [d]
    simp
  rcases Nat.eq_zero_or_pos T with h0 | h0
  · subst h0
    rw [hs]
    decide +kernel
  · obtain ⟨j, hj, a, b⟩ := digits (N := T) (P := 23) (by omega) (by omega)
    have r : FP.Core.round FP.Core.b32 (.fin false T (-23)) = .fin false (T * 2 ^ j) (-23 - (j : Int)) := by
      unfold FP.Core.round
      simp only []
      rw [rr_exact (f := FP.Core.b32) (s := false) (B := 1) (M := T * 2 ^ j) (i := 0) (j := j) (by decide) (by decide) a b (by simp) (by rw [q1]; omega) (by rw [q2]; omega)]
      exact fin_congr rfl (by omega)
    rw [r] at hs
    have a' : 8388608 ≤ T * 2 ^ j := a
    have b' : T * 2 ^ j < 16777216 := b
    have hs2 := hs
    rw [enc32 a' b' (by omega)] at hs2
    have hm : FP.fmul (FP.fsub (xb 127 T) FP.fconst1) 1258291200 = UInt32.ofNat (FP.Core.encode FP.Core.b32 (.fin false (T * 2 ^ j) (-(j : Int)))) := by
      show UInt32.ofNat (FP.Core.encode FP.Core.b32 (FP.Core.round FP.Core.b32 (FP.Core.exactProduct (FP.Core.decode FP.Core.b32 (FP.fsub (xb 127 T) FP.fconst1).toNat) (FP.Core.decode FP.Core.b32 (1258291200 : UInt32).toNat)))) = _
      rw [hs, rt32 a' b' (by omega) (by omega), big]
      unfold FP.Core.exactProduct FP.Core.round
      simp only [bne_self_eq_false]
      rw [rr_exact (f := FP.Core.b32) (s := false) (B := 1) (M := T * 2 ^ j) (i := 23) (j := 0) (by decide) (by decide) a b (by simp) (by rw [q1]; omega) (by rw [q2]; omega)]
      congr 3; omega
    refine ⟨?_, ?_, ?_⟩
    · rw [hm]
      show FP.Core.toI (FP.Core.decode FP.Core.b32 (UInt32.ofNat (FP.Core.encode FP.Core.b32 (.fin false (T * 2 ^ j) (-(j : Int))))).toNat) = _
      rw [rt32 a' b' (by omega) (by omega)]
      unfold FP.Core.toI FP.Core.toInt FP.Core.truncate FP.Core.signed
      simp only [Bool.false_eq_true, if_false]
      have e1 : (-(j : Int)).toNat = 0 := by omega
      have e2 : (- -(j : Int)).toNat = j := by omega
      rw [e1, e2, Nat.pow_zero, Nat.mul_one, Nat.mul_div_cancel _ (Nat.two_pow_pos j)]
      show zI _ = zI _
      congr 1
      have : max (-2 ^ 31 : Int) (min (2 ^ 31 - 1) (T : Int)) = T := by
        rw [Int.min_eq_right (by omega), Int.max_eq_right (by omega)]
      exact this
    · rw [hs2]; exact fok_xb (by omega) (by omega)
    · rw [hm, enc32 a' b' (by omega)]; exact fok_xb (by omega) (by omega)
