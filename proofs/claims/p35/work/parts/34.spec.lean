/-! the state as a row of whole numbers, and what it means that a memory holds it -/
abbrev Row : Type := Nat → Int
def uz (a : Row) (j : Nat) (v : Int) : Row := fun k => if k = j then v else a k
theorem uz_at (a : Row) (j : Nat) (v : Int) : uz a j v j = v := by simp [uz]
theorem uz_ne (a : Row) {j k : Nat} (v : Int) (h : k ≠ j) : uz a j v k = a k := by simp [uz, h]
def np (a : Row) : Nat := (a 0).toNat
def nl (a : Row) : Nat := (a 1).toNat
def pa (a : Row) (p w : Nat) : Int := a (13 + 8 * p + w)
def la (a : Row) (l w : Nat) : Int := a (53 + 8 * l + w)
def dst (x y x2 y2 : Int) : Int := max ((x - x2).natAbs : Int) ((y - y2).natAbs : Int)
def len (a : Row) (l : Nat) : Int := dst (la a l 0) (la a l 1) (la a l 2) (la a l 3)
def shI (k c : Int) : Int := (FP.fdiv (FP.i2f (zI k)) (FP.i2f (zI c))).toInt32.toInt
def tch (a : Row) (l o : Nat) : Prop := gmeet (la a l 0) (la a l 1) (la a l 2) (la a l 3) (la a o 0) (la a o 1) (la a o 2) (la a o 3)
def spn_dec (a b c d : Int) : Decidable (spn a b c d) := inferInstanceAs (Decidable (_ ≤ _))
noncomputable def bP (P : Prop) : Int := @ite Int P (Classical.propDecidable P) 1 0
theorem bP_t {P : Prop} (h : P) : bP P = 1 := by unfold bP; exact if_pos h
theorem bP_f {P : Prop} (h : ¬ P) : bP P = 0 := by unfold bP; exact if_neg h
theorem bP_or (P : Prop) : (P ∧ bP P = 1) ∨ (¬ P ∧ bP P = 0) := by
  by_cases h : P
  · exact .inl ⟨h, bP_t h⟩
  · exact .inr ⟨h, bP_f h⟩
theorem bP_rg (P : Prop) : 0 ≤ bP P ∧ bP P ≤ 1 := by rcases bP_or P with h | h <;> omega
theorem bP_z (P : Prop) : (zI (bP P) = zI 0) ↔ ¬ P := by
  rcases bP_or P with h | h
  · rw [h.2]; exact ⟨fun e => absurd e (by decide), fun e => absurd h.1 e⟩
  · rw [h.2]; exact ⟨fun _ => h.1, fun _ => rfl⟩
theorem bP_o (P : Prop) : (zI (bP P) = zI 1) ↔ P := by
  rcases bP_or P with h | h
  · rw [h.2]; exact ⟨fun _ => h.1, fun _ => rfl⟩
  · rw [h.2]; exact ⟨fun e => absurd e (by decide), fun e => absurd e h.1⟩
theorem ite_bP {α : Type} (P : Prop) (x y : α) : (if zI (bP P) = (0 : Int32) then x else y) = @ite α P (Classical.propDecidable P) y x := by
  have e : (0 : Int32) = zI 0 := by decide
  rw [e]
  by_cases h : P
  · rw [if_neg (fun q => (bP_z P).1 q h), if_pos h]
  · rw [if_pos ((bP_z P).2 h), if_neg h]
theorem bP_c {P Q : Prop} (h : P ↔ Q) : bP P = bP Q := by rw [propext h]
theorem ck_bP {β : Type} (P : Prop) (k : Option β) : ck (bl (zI (bP P))) k = k := by
  rcases bP_or P with h | h <;> rw [h.2] <;> exact ck_of (by decide)
theorem zI_1 {P : Prop} (h : P) : zI 1 = zI (bP P) := by rw [bP_t h]
theorem zI_0 {P : Prop} (h : ¬ P) : zI 0 = zI (bP P) := by rw [bP_f h]
theorem zI_succ (k : Nat) : zI ((k : Int) + 1) = zI ((k + 1 : Nat) : Int) := rfl
/-- the touching set of line l among the first n lines, as the bits of an int -/
noncomputable def tsI (a : Row) (l : Nat) : Nat → Int32
  | 0 => zI 0
  | n + 1 => @ite Int32 (n ≠ l ∧ tch a l n) (Classical.propDecidable _) (tsI a l n ||| (zI 1 <<< (zI n &&& zI 31))) (tsI a l n)
/-- what always holds of a row -/
def WF (a : Row) : Prop :=
  (0 ≤ a 0 ∧ a 0 ≤ 5 ∧ 0 ≤ a 1 ∧ a 1 ≤ 16 ∧ 0 ≤ a 2 ∧ a 2 ≤ 500 ∧ 1 ≤ a 3 ∧ a 3 ≤ 200 ∧ 0 ≤ a 4 ∧ a 4 ≤ 100 ∧ 0 ≤ a 5 ∧ a 5 ≤ 50 ∧ 0 ≤ a 6 ∧ a 6 ≤ 50 ∧ 0 ≤ a 7 ∧ a 7 ≤ 100000 ∧ -1 ≤ a 8 ∧ a 8 < a 0 ∧ 0 ≤ a 9 ∧ a 9 ≤ 99 ∧ 0 ≤ a 10 ∧ a 10 ≤ 99)
  ∧ (∀ p, p < np a → (pa a p 0 = 0 ∨ pa a p 0 = 1) ∧ 10 ≤ pa a p 1 ∧ pa a p 1 ≤ 5000 ∧ 0 ≤ pa a p 2 ∧ pa a p 2 ≤ pa a p 1 ∧ 0 ≤ pa a p 3 ∧ pa a p 3 ≤ a 7 ∧ 0 ≤ pa a p 4 ∧ pa a p 4 ≤ a 7 ∧ 0 ≤ pa a p 5 ∧ pa a p 5 ≤ 21 ∧ (pa a p 6 = 0 ∨ pa a p 6 = 1))
  ∧ (∀ l, l < nl a → 0 ≤ la a l 0 ∧ la a l 0 ≤ 99 ∧ 0 ≤ la a l 1 ∧ la a l 1 ≤ 99 ∧ 0 ≤ la a l 2 ∧ la a l 2 ≤ 99 ∧ 0 ≤ la a l 3 ∧ la a l 3 ≤ 99 ∧ ¬ (la a l 0 = la a l 2 ∧ la a l 1 = la a l 3) ∧ -1 ≤ la a l 4 ∧ la a l 4 < a 0)
  ∧ (∀ l, l < nl a → la a l 4 ≠ -1 → 0 ≤ la a l 5 ∧ la a l 5 ≤ 100000 ∧ 0 ≤ la a l 6 ∧ la a l 6 ≤ 100100)
  ∧ (∀ l, l < nl a → la a l 4 ≠ -1 → ∃ k c, 1 ≤ k ∧ k ≤ c ∧ c ≤ 5000 ∧ la a l 7 = shI k c)
theorem WF.sc {a : Row} (W : WF a) : (a 0 = (np a : Int) ∧ np a ≤ 5 ∧ a 1 = (nl a : Int) ∧ nl a ≤ 16) ∧ (0 ≤ a 2 ∧ a 2 ≤ 500 ∧ 1 ≤ a 3 ∧ a 3 ≤ 200 ∧ 0 ≤ a 4 ∧ a 4 ≤ 100 ∧ 0 ≤ a 5 ∧ a 5 ≤ 50 ∧ 0 ≤ a 6 ∧ a 6 ≤ 50 ∧ 0 ≤ a 7 ∧ a 7 ≤ 100000 ∧ -1 ≤ a 8 ∧ a 8 < (np a : Int) ∧ 0 ≤ a 9 ∧ a 9 ≤ 99 ∧ 0 ≤ a 10 ∧ a 10 ≤ 99) := by
  obtain ⟨w, _⟩ := W
  unfold np nl
  omega
theorem WF.pen {a : Row} (W : WF a) {p : Nat} (h : p < np a) : (pa a p 0 = 0 ∨ pa a p 0 = 1) ∧ 10 ≤ pa a p 1 ∧ pa a p 1 ≤ 5000 ∧ 0 ≤ pa a p 2 ∧ pa a p 2 ≤ pa a p 1 ∧ 0 ≤ pa a p 3 ∧ pa a p 3 ≤ a 7 ∧ 0 ≤ pa a p 4 ∧ pa a p 4 ≤ a 7 ∧ 0 ≤ pa a p 5 ∧ pa a p 5 ≤ 21 ∧ (pa a p 6 = 0 ∨ pa a p 6 = 1) := W.2.1 p h
theorem WF.line {a : Row} (W : WF a) {l : Nat} (h : l < nl a) : 0 ≤ la a l 0 ∧ la a l 0 ≤ 99 ∧ 0 ≤ la a l 1 ∧ la a l 1 ≤ 99 ∧ 0 ≤ la a l 2 ∧ la a l 2 ≤ 99 ∧ 0 ≤ la a l 3 ∧ la a l 3 ≤ 99 ∧ ¬ (la a l 0 = la a l 2 ∧ la a l 1 = la a l 3) ∧ -1 ≤ la a l 4 ∧ la a l 4 < (np a : Int) ∧ 1 ≤ len a l ∧ len a l ≤ 99 := by
  have w := W.2.2.1 l h
  have s := W.sc
  unfold len dst
  omega
theorem WF.drawn {a : Row} (W : WF a) {l : Nat} (h : l < nl a) (hd : la a l 4 ≠ -1) : 0 ≤ la a l 5 ∧ la a l 5 ≤ 100000 ∧ 0 ≤ la a l 6 ∧ la a l 6 ≤ 100100 := W.2.2.2.1 l h hd
theorem WF.shade {a : Row} (W : WF a) {l : Nat} (h : l < nl a) (hd : la a l 4 ≠ -1) : ∃ k c, 1 ≤ k ∧ k ≤ c ∧ c ≤ 5000 ∧ la a l 7 = shI k c := W.2.2.2.2 l h hd
/-- a plotter's memory holds the row -/
def RC (g : Nat) (M : Mem) (a : Row) : Prop :=
  (∀ i, i < 5 → M g 1 i = zI (a (2 + i)))
  ∧ (M g 2 0 = zI (np a) ∧ M g 10 0 = zI (nl a))
  ∧ (∀ p, p < np a → M g 3 p = zI (pa a p 0) ∧ M g 4 p = zI (pa a p 1) ∧ M g 5 p = zI (pa a p 5) ∧ M g 6 p = zI (pa a p 2) ∧ M g 7 p = zI (pa a p 3) ∧ M g 8 p = zI (pa a p 4) ∧ M g 9 p = zI (pa a p 6))
  ∧ (∀ l, l < nl a → M g 11 l = zI (la a l 0) ∧ M g 12 l = zI (la a l 1) ∧ M g 13 l = zI (la a l 2) ∧ M g 14 l = zI (la a l 3) ∧ M g 15 l = zI (len a l) ∧ M g 16 l = tsI a l (nl a) ∧ M g 17 l = zI (la a l 4))
  ∧ (∀ l, l < nl a → la a l 4 ≠ -1 → M g 18 l = zI (la a l 5) ∧ M g 19 l = zI (la a l 6))
  ∧ (∀ l, l < nl a → la a l 4 ≠ -1 → ∃ k, 1 ≤ k ∧ k ≤ pa a (la a l 4).toNat 1 ∧ M g 20 l = zI k ∧ la a l 7 = shI k (pa a (la a l 4).toNat 1))
  ∧ (M g 0 3 = zI (a 7) ∧ M g 0 4 = zI (a 8) ∧ M g 0 5 = zI (a 9) ∧ M g 0 6 = zI (a 10) ∧ M g 0 7 = zI (a 11) ∧ M g 0 8 = zI (a 12))
theorem RC.rset {g : Nat} {M : Mem} {a : Row} (R : RC g M a) {i : Nat} (h : i < 5) : M g 1 i = zI (a (2 + i)) := R.1 i h
theorem RC.rnp {g : Nat} {M : Mem} {a : Row} (R : RC g M a) : M g 2 0 = zI (np a) := R.2.1.1
theorem RC.rnl {g : Nat} {M : Mem} {a : Row} (R : RC g M a) : M g 10 0 = zI (nl a) := R.2.1.2
theorem RC.rpen {g : Nat} {M : Mem} {a : Row} (R : RC g M a) {p : Nat} (h : p < np a) : M g 3 p = zI (pa a p 0) ∧ M g 4 p = zI (pa a p 1) ∧ M g 5 p = zI (pa a p 5) ∧ M g 6 p = zI (pa a p 2) ∧ M g 7 p = zI (pa a p 3) ∧ M g 8 p = zI (pa a p 4) ∧ M g 9 p = zI (pa a p 6) := R.2.2.1 p h
theorem RC.rline {g : Nat} {M : Mem} {a : Row} (R : RC g M a) {l : Nat} (h : l < nl a) : M g 11 l = zI (la a l 0) ∧ M g 12 l = zI (la a l 1) ∧ M g 13 l = zI (la a l 2) ∧ M g 14 l = zI (la a l 3) ∧ M g 15 l = zI (len a l) ∧ M g 16 l = tsI a l (nl a) ∧ M g 17 l = zI (la a l 4) := R.2.2.2.1 l h
theorem RC.rdrawn {g : Nat} {M : Mem} {a : Row} (R : RC g M a) {l : Nat} (h : l < nl a) (hd : la a l 4 ≠ -1) : M g 18 l = zI (la a l 5) ∧ M g 19 l = zI (la a l 6) := R.2.2.2.2.1 l h hd
theorem RC.rshade {g : Nat} {M : Mem} {a : Row} (R : RC g M a) {l : Nat} (h : l < nl a) (hd : la a l 4 ≠ -1) : ∃ k, 1 ≤ k ∧ k ≤ pa a (la a l 4).toNat 1 ∧ M g 20 l = zI k ∧ la a l 7 = shI k (pa a (la a l 4).toNat 1) := R.2.2.2.2.2.1 l h hd
theorem RC.rsc {g : Nat} {M : Mem} {a : Row} (R : RC g M a) : M g 0 3 = zI (a 7) ∧ M g 0 4 = zI (a 8) ∧ M g 0 5 = zI (a 9) ∧ M g 0 6 = zI (a 10) ∧ M g 0 7 = zI (a 11) ∧ M g 0 8 = zI (a 12) := R.2.2.2.2.2.2
/-- it speaks of the plotter's own cells alone -/
theorem RC.same {g g2 : Nat} {M N : Mem} {a : Row} (R : RC g M a) (h : ∀ k, k < 21 → N g2 k = M g k) : RC g2 N a := by
  obtain ⟨r1, r2, r3, r4, r5, r6, r7⟩ := R
  have e : ∀ k, k < 21 → ∀ j, N g2 k j = M g k j := fun k hk j => by rw [h k hk]
  refine ⟨fun i hi => by rw [e 1 (by omega)]; exact r1 i hi, ⟨by rw [e 2 (by omega)]; exact r2.1, by rw [e 10 (by omega)]; exact r2.2⟩, fun p hp => ?_, fun l hl => ?_, fun l hl hd => ?_, fun l hl hd => ?_, ?_⟩
  · rw [e 3 (by omega), e 4 (by omega), e 5 (by omega), e 6 (by omega), e 7 (by omega), e 8 (by omega), e 9 (by omega)]; exact r3 p hp
  · rw [e 11 (by omega), e 12 (by omega), e 13 (by omega), e 14 (by omega), e 15 (by omega), e 16 (by omega), e 17 (by omega)]; exact r4 l hl
  · rw [e 18 (by omega), e 19 (by omega)]; exact r5 l hl hd
  · rw [e 20 (by omega)]; exact r6 l hl hd
  · rw [e 0 (by omega), e 0 (by omega), e 0 (by omega), e 0 (by omega), e 0 (by omega), e 0 (by omega)]; exact r7
theorem ixz_0 : ix (zI 0) = 0 := by decide
theorem ixz_1 : ix (zI 1) = 1 := by decide
theorem ixz_2 : ix (zI 2) = 2 := by decide
theorem ixz_3 : ix (zI 3) = 3 := by decide
theorem ixz_4 : ix (zI 4) = 4 := by decide
theorem ixz_5 : ix (zI 5) = 5 := by decide
theorem ixz_6 : ix (zI 6) = 6 := by decide
theorem ixz_7 : ix (zI 7) = 7 := by decide
theorem ixz_8 : ix (zI 8) = 8 := by decide
theorem ixz_9 : ix (zI 9) = 9 := by decide
theorem ixz_10 : ix (zI 10) = 10 := by decide
theorem ixz_11 : ix (zI 11) = 11 := by decide
theorem ixz_12 : ix (zI 12) = 12 := by decide
/-! small methods of both -/
