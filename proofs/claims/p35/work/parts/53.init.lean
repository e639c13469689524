/-! the two just made: the law's own invariant holds -/
def a00 : Row := fun k => match k with
  | 2 => 60
  | 3 => 40
  | 4 => 10
  | 5 => 5
  | 6 => 4
  | 8 => -1
  | _ => 0
def M0 : Mem := fun g k j => if g = 0 then (if k = 3 ∧ j = 4 then (-1000004) else 0) else iniP k j
def s00 : Nat → Int32 := upd (upd (upd (upd (upd (upd (fun _ => 0) (ix 2) 60) (ix 3) 40) (ix 4) 10) (ix 5) 5) (ix 6) 4) (ix 8) (-1)
def S0 : Mem := fun _ k => if k = 1 then s00 else fun _ => 0
theorem s00_ok : ∀ k : Fin 181, s00 k.val = zI (a00 k.val) := by decide +kernel