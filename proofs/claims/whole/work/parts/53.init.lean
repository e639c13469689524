/-! the two just made: the law's own invariant holds -/
def a00 : Row := fun k => match k with
  | 2 => 60
  | 3 => 40
  | 4 => 10
  | 5 => 5
  | 6 => 4
  | 8 => -1
  | _ => 0
def M0 : Mem := fun g k j => if g = 0 then (if k = 3 ∧ j = 4 then (-1000004) else 0) else iniP k j
def s00 : Nat → Int32 := upd (upd (upd (upd (upd (upd (fun _ => 0) (ix 2) 60) (ix 3) 40) (ix 4) 10) (ix 5) 5) (ix 6) 4) (ix 8) (-1)
def S0 : Mem := fun _ k => if k = 1 then s00 else fun _ => 0
theorem s00_ok : ∀ k : Fin 181, s00 k.val = zI (a00 k.val) := by decide +kernel
theorem inv0 : INV 0 M0 S0 := by
  have n0 : np a00 = 0 := by decide
  have l0 : nl a00 = 0 := by decide
  refine ⟨a00, 0, fun _ => a00, ?_, ?_, ?_, ?_, ?_, ?_⟩
  · refine ⟨by decide, ?_, ?_, ?_, ?_⟩
    · intro p hp; rw [n0] at hp; exact absurd hp (Nat.not_lt_zero _)
    · intro p hp; rw [l0] at hp; exact absurd hp (Nat.not_lt_zero _)
    · intro p hp; rw [l0] at hp; exact absurd hp (Nat.not_lt_zero _)
    · intro p hp; rw [l0] at hp; exact absurd hp (Nat.not_lt_zero _)
  · refine ⟨?_, ⟨by rw [n0]; decide, by rw [l0]; decide⟩, ?_, ?_, ?_, ?_, by decide⟩
    · intro i hi
      rcases (show i = 0 ∨ i = 1 ∨ i = 2 ∨ i = 3 ∨ i = 4 by omega) with rfl | rfl | rfl | rfl | rfl <;> decide
    · intro p hp; rw [n0] at hp; exact absurd hp (Nat.not_lt_zero _)
    · intro p hp; rw [l0] at hp; exact absurd hp (Nat.not_lt_zero _)
    · intro p hp; rw [l0] at hp; exact absurd hp (Nat.not_lt_zero _)
    · intro p hp; rw [l0] at hp; exact absurd hp (Nat.not_lt_zero _)
  · intro k hk; exact s00_ok ⟨k, hk⟩
  · exact ⟨by decide, fun i hi => absurd hi (Nat.not_lt_zero _), 0, by decide, by decide, by decide, .inr ⟨by decide, by decide, by decide⟩, fun i hi => absurd hi (Nat.not_lt_zero _)⟩
  · exact ⟨by decide, fun i hi => absurd hi (Nat.not_lt_zero _)⟩
  · exact ⟨0, by decide, by decide, by decide, fun i hi => absurd hi (Nat.not_lt_zero _)⟩
