/-! more changes: erase, refill, leave, set, undo, type, clearText -/
section
variable {g : Nat} {M N S : Mem} {a b : Row}
theorem WF.e17 (W : WF a) {l : Nat} (hl : l < nl a) : WF (uz a (53 + 8 * l + 4) (-1)) := by
  have ws := W.sc
  refine W.g1 (uz_ne _ _ (by omega)) (uz_ne _ _ (by omega)) ?_ ?_ ?_ ?_ ?_
  · have q := W.scw
    unfold ScWf at q
    unfold ScWf
    simp (disch := omega) only [uz_ne]
    exact q
  · intro p hp
    have q := W.penw hp
    unfold PenWf at q
    unfold PenWf
    rw [uz_ne a (-1) (show 7 ≠ 53 + 8 * l + 4 by omega)]
    simp (disch := omega) only [pa_ln]
    exact q
  · intro o ho w hw
    rw [la_ln _ (by omega) (by omega), if_neg (by omega)]
  · intro o ho
    have v := W.line ho
    rw [la_ln _ (by omega) (by omega)]
    split <;> omega
  · intro o ho hd
    rw [la_ln _ (by omega) (by omega)] at hd
    have c : o ≠ l := fun t => hd (if_pos ⟨t, rfl⟩)
    rw [if_neg (fun t => c t.1)] at hd
    rw [la_ln _ (by omega) (by omega), la_ln _ (by omega) (by omega), la_ln _ (by omega) (by omega), if_neg (by omega), if_neg (by omega), if_neg (fun t => c t.1)]
    exact ⟨W.drawn ho hd, W.shade ho hd⟩
def lo5 (i : Nat) : Int := if i = 1 then 1 else 0
def hi5 (i : Nat) : Int := if i = 0 then 500 else if i = 1 then 200 else if i = 2 then 100 else 50
theorem tab_lo : ∀ i : Fin 5, tabL i.val = zI (lo5 i.val) := by decide
theorem tab_hi : ∀ i : Fin 5, tabG i.val = zI (hi5 i.val) := by decide
theorem lo5_rg {i : Nat} (h : i < 5) : 0 ≤ lo5 i ∧ lo5 i ≤ 1 ∧ 50 ≤ hi5 i ∧ hi5 i ≤ 500 := by
  unfold lo5 hi5
  (repeat' split) <;> omega
theorem chr_ok : ∀ k : Fin 127, vp_nar .char (((zI (k.val : Nat)).toUInt32 % 65536).toInt32) = zI (k.val : Nat) := by decide +kernel
end
