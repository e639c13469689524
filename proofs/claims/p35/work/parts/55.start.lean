/-! what the tables and the premises say of the start -/
theorem nw_start {args : Array Value} {s : State} (hts : ∀ w ∈ lw_tbl, w.before args s = true) : ∀ w ∈ nwl, va_Nw w s := by
  intro w hw
  obtain ⟨h1, h2⟩ := List.mem_filter.mp hw
  have hb := hts w h1
  cases w <;> first | (simp [isNw] at h2; done) | exact va_Nw.of rfl hb | (rename_i ty; cases ty <;> first | (simp [isNw] at h2; done) | exact va_AO.of hb)
theorem ar_start {args : Array Value} {s : State} {ty : FieldType} (h : (Cond.arrayClass ty).before args s = true) : ∃ cA : ClassId, ArrOfT s cA ty ∧ s.vm.findClass ("[" ++ ty.toString) = some cA := by
  obtain ⟨cA, k, comp, h1, h2, h3⟩ := Cond.arrayClass_spec h
  exact ⟨cA, fun n z => ⟨fun k h => (by cases h), k, h2, comp, h3⟩, h1⟩
theorem ao_start {args : Array Value} {s : State} {C : String} (h : (Cond.arrayOver (.object C)).before args s = true) : ∃ cA : ClassId, ArrOfT s cA (.object C) ∧ va_RA s cA (.object C) := by
  obtain ⟨comp, cA, k, h1, h2, h3, h4, h5⟩ := Cond.arrayOver_spec h
  exact ⟨cA, fun n z => ⟨fun k h => (by cases h), k, h3, comp, h4⟩, k, comp, h3, h4, h1, h5⟩
theorem cl_start {args : Array Value} {s : State} (hts : ∀ w ∈ lw_all, w.before args s = true) : ∀ c : Nat, ∃ (cC : ClassId) (iS : Nat → Nat), ∀ q, vwCl[c]? = some q → u_Kn s q.1 q.2.1 q.2.2 cC iS := by
  intro c
  match c with
  | 0 => obtain ⟨cC, iS, h⟩ := u_known hts inX0 (hts _ w_215); exact ⟨cC, iS, fun q e => by cases e; exact h⟩
  | 1 => obtain ⟨cC, iS, h⟩ := u_known hts inX1 (hts _ w_172); exact ⟨cC, iS, fun q e => by cases e; exact h⟩
  | 2 => obtain ⟨cC, iS, h⟩ := u_known hts inX2 (hts _ w_80); exact ⟨cC, iS, fun q e => by cases e; exact h⟩
  | 3 => obtain ⟨cC, iS, h⟩ := u_known hts inX3 (hts _ w_191); exact ⟨cC, iS, fun q e => by cases e; exact h⟩
  | 4 => obtain ⟨cC, iS, h⟩ := u_known hts inX4 (hts _ w_35); exact ⟨cC, iS, fun q e => by cases e; exact h⟩
  | 5 => obtain ⟨cC, iS, h⟩ := u_known hts inX5 (hts _ w_20); exact ⟨cC, iS, fun q e => by cases e; exact h⟩
  | 6 => obtain ⟨cC, iS, h⟩ := u_known hts inX6 (hts _ w_228); exact ⟨cC, iS, fun q e => by cases e; exact h⟩
  | 7 => obtain ⟨cC, iS, h⟩ := u_known hts inX7 (hts _ w_12); exact ⟨cC, iS, fun q e => by cases e; exact h⟩
  | n + 8 => exact ⟨0, fun _ => 0, fun q e => by have := (List.getElem?_eq_some_iff.mp e).1; exact absurd (show n + 8 < 8 from this) (by omega)⟩
theorem kk_start {args : Array Value} {s : State} (hts : ∀ w ∈ lw_tbl, w.before args s = true) : ∃ (D : va_G) (q : ClassId × ClassId × ClassId × ClassId), s.vm.findClass "[I" = some q.1 ∧ ∀ (t : Nat × Nat × Nat) (o : Nat), KK (D, q, t, o) s := by
  have hta : ∀ w ∈ lw_all, w.before args s = true := fun w h => hts w (List.mem_filter.mp h).1
  have hN := nw_start hts
  have hc := cl_start hta
  obtain ⟨cI, i1, i2⟩ := ar_start (hta _ w_78)
  obtain ⟨cB, b1, b2⟩ := ar_start (hta _ w_255)
  obtain ⟨cP, p1, p2⟩ := ao_start (hts _ (List.mem_filter.mp w_178).1)
  refine ⟨(fun c => Classical.choose (hc c), fun c => Classical.choose (Classical.choose_spec (hc c))), (cI, cB, cI, cP), i2, fun t o => ⟨⟨fun c q e => Classical.choose_spec (Classical.choose_spec (hc c)) q e, ?_⟩, hN⟩⟩
  intro k q e
  match k with
  | 0 => cases e; exact ⟨i1, i2⟩
  | 1 => cases e; exact ⟨b1, b2⟩
  | 2 => cases e; exact ⟨i1, i2⟩
  | 3 => cases e; exact ⟨p1, p2⟩
  | n + 4 => have := (List.getElem?_eq_some_iff.mp e).1; exact absurd (show n + 4 < 4 from this) (by omega)
theorem sz_len {args : Array Value} {s : State} {tm : Term} {v : Value} {t : Nat} {cell : Cell} (hv : (Term.length tm).eval args s none [] s = some v) (ht : tm.eval args s none [] s = some (.ref t)) (hc : s.heap[t]? = some cell) : cell.slots.size < 2147483648 := by
  obtain ⟨b, cell3, ht3, harr, -⟩ := Term.length_spec hv
  cases ht.symm.trans ht3
  have hh := (State.arrayAt?_spec harr).1
  cases hc.symm.trans hh
  simp only [Term.eval, ht, harr, Option.bind_eq_bind, Option.bind_some] at hv
  by_cases hlt : cell.slots.size < 2147483648
  · exact hlt
  · simp [hlt] at hv
theorem st_one {args : Array Value} {s : State} {nm : String} {cI : ClassId} {f : Nat → Int32} {A : Nat → Prop} (hA : ∀ a : Nat, a < s.heap.size → ¬ A a) (hI : s.vm.findClass "[I" = some cI)
    (hl : (Cond.laysStatic "PenStrike" nm "[I").before args s = true) (hini : (Cond.initialized "PenStrike").before args s = true) (h1 : (Cond.arrayOf (.static "PenStrike" nm "[I") .int).before args s = true)
    (h2 : (Cond.eq (.length (.static "PenStrike" nm "[I")) (.int 5)).before args s = true) (h3 : ∀ j : Nat, j < 5 → (Cond.eq (.elem (.static "PenStrike" nm "[I") (.int (Int32.ofNat j))) (.int (f j))).before args s = true)
    (h4 : (Cond.exactly (.static "PenStrike" nm "[I") "[I").before args s = true) : ∃ t : Nat, S1 nm cI t f A s s.heap := by
  have hv : (Term.length (.static "PenStrike" nm "[I")).eval args s none [] s = some (.int 5) := va_eqt h2
  obtain ⟨t, ht, hT⟩ := va_Tof (N := 5) (f := fun j => .int (f j)) (by decide) h1 hv (fun j hj => va_eqt (h3 j hj)) hA
  have hZ := va_Zref hl hini ht hA
  obtain ⟨a2, c, cell, k, q1, q2, q3, q4, q5, q6, -⟩ := Cond.exactly_spec (args := args) (first := s) (o := none) (s := s) (idx := []) (t := .static "PenStrike" nm "[I") (cls := "[I") h4
  cases ht.symm.trans q1
  cases hI.symm.trans q2
  have hT2 := hT
  obtain ⟨cell2, z1, z2, z3, z4, z5, z6, z7⟩ := hT
  cases z1.symm.trans q3
  have hsz : cell.slots.size < 2147483648 := sz_len hv ht z1
  have h5 : cell.slots.size = 5 := by
    have e := congrArg Int32.toNatClampNeg z5
    rw [show Nat.toInt32 cell.slots.size = Int32.ofNat cell.slots.size from rfl, Int32.toNatClampNeg_ofNat_of_lt hsz, Int32.toNatClampNeg_ofNat_of_lt (by decide)] at e
    exact e
  refine ⟨t, hZ, hT2, cell, z1, z3, q5, q6, ?_, z7⟩
  refine Array.ext_getElem? fun i => ?_
  by_cases hi : i < 5
  · rw [z6 i hi, arrV_read _ _ hi]
  · rw [Array.getElem?_eq_none (by rw [h5]; omega), Array.getElem?_eq_none (by rw [arrV_size]; omega)]
/-- where the walk stands at the law's entry -/
theorem law_start {s : State} {b : Nat} (hts : ∀ w ∈ lw_tbl, w.before #[Value.ref b] s = true) (hgv : (Jvm.Cond.and given_1 narrow_1).before #[Value.ref b] s = true) : ∃ G : GG, G.2.2.2 = s.heap.size ∧ KK G s ∧ ST G (AO s.heap.size) s s.heap := by
  have hs := flat_of_before _ hgv
  obtain ⟨D, q, hI, hK⟩ := kk_start hts
  have hA : ∀ a : Nat, a < s.heap.size → ¬ AO s.heap.size a := fun a h z => absurd (show s.heap.size ≤ a from z) (by omega)
  have hta : ∀ w ∈ lw_all, w.before #[Value.ref b] s = true := fun w h => hts w (List.mem_filter.mp h).1
  obtain ⟨t0, h0⟩ := st_one (nm := "FIRST_VALUES") (f := tabF) hA hI (hts _ (by decide +kernel)) (hta _ w_1) (hs _ (by decide +kernel)) (hs _ (by decide +kernel)) (fun j hj => by
    match j, hj with
    | 0, _ => exact hs (.eq (.elem (.static "PenStrike" "FIRST_VALUES" "[I") (.int 0)) (.int 60)) (by decide +kernel)
    | 1, _ => exact hs (.eq (.elem (.static "PenStrike" "FIRST_VALUES" "[I") (.int 1)) (.int 40)) (by decide +kernel)
    | 2, _ => exact hs (.eq (.elem (.static "PenStrike" "FIRST_VALUES" "[I") (.int 2)) (.int 10)) (by decide +kernel)
    | 3, _ => exact hs (.eq (.elem (.static "PenStrike" "FIRST_VALUES" "[I") (.int 3)) (.int 5)) (by decide +kernel)
    | 4, _ => exact hs (.eq (.elem (.static "PenStrike" "FIRST_VALUES" "[I") (.int 4)) (.int 4)) (by decide +kernel)
    | n + 5, h => exact absurd h (by omega)) (hs _ (by decide +kernel))
  obtain ⟨t1, h1⟩ := st_one (nm := "LEAST_VALUES") (f := tabL) hA hI (hts _ (by decide +kernel)) (hta _ w_1) (hs _ (by decide +kernel)) (hs _ (by decide +kernel)) (fun j hj => by
    match j, hj with
    | 0, _ => exact hs (.eq (.elem (.static "PenStrike" "LEAST_VALUES" "[I") (.int 0)) (.int 0)) (by decide +kernel)
    | 1, _ => exact hs (.eq (.elem (.static "PenStrike" "LEAST_VALUES" "[I") (.int 1)) (.int 1)) (by decide +kernel)
    | 2, _ => exact hs (.eq (.elem (.static "PenStrike" "LEAST_VALUES" "[I") (.int 2)) (.int 0)) (by decide +kernel)
    | 3, _ => exact hs (.eq (.elem (.static "PenStrike" "LEAST_VALUES" "[I") (.int 3)) (.int 0)) (by decide +kernel)
    | 4, _ => exact hs (.eq (.elem (.static "PenStrike" "LEAST_VALUES" "[I") (.int 4)) (.int 0)) (by decide +kernel)
    | n + 5, h => exact absurd h (by omega)) (hs _ (by decide +kernel))
  obtain ⟨t2, h2⟩ := st_one (nm := "GREATEST_VALUES") (f := tabG) hA hI (hts _ (by decide +kernel)) (hta _ w_1) (hs _ (by decide +kernel)) (hs _ (by decide +kernel)) (fun j hj => by
    match j, hj with
    | 0, _ => exact hs (.eq (.elem (.static "PenStrike" "GREATEST_VALUES" "[I") (.int 0)) (.int 500)) (by decide +kernel)
    | 1, _ => exact hs (.eq (.elem (.static "PenStrike" "GREATEST_VALUES" "[I") (.int 1)) (.int 200)) (by decide +kernel)
    | 2, _ => exact hs (.eq (.elem (.static "PenStrike" "GREATEST_VALUES" "[I") (.int 2)) (.int 100)) (by decide +kernel)
    | 3, _ => exact hs (.eq (.elem (.static "PenStrike" "GREATEST_VALUES" "[I") (.int 3)) (.int 50)) (by decide +kernel)
    | 4, _ => exact hs (.eq (.elem (.static "PenStrike" "GREATEST_VALUES" "[I") (.int 4)) (.int 50)) (by decide +kernel)
    | n + 5, h => exact absurd h (by omega)) (hs _ (by decide +kernel))
  exact ⟨(D, q, (t0, t1, t2), s.heap.size), rfl, hK _ _, h0, h1, h2⟩
