/-! the script's cell: its contract and its call -/
def cel (xs : Nat → Int32) (L K : Nat) : Int32 := (if K < L then xs K else 25214903 * (zI K + 19)) &&& 2147483647
theorem cel_rg (xs : Nat → Int32) (L K : Nat) : ∃ y : Int, cel xs L K = zI y ∧ 0 ≤ y ∧ y < 2147483648 := by
  have key : ∀ x : Int32, 0 ≤ (x &&& 2147483647).toInt := by
    intro x
    have e : (x &&& 2147483647).toBitVec.msb = false := by
      rw [Int32.toBitVec_and, BitVec.msb_and]
      have : (2147483647 : Int32).toBitVec.msb = false := by decide
      rw [this, Bool.and_false]
    show 0 ≤ (x &&& 2147483647).toBitVec.toInt
    rw [BitVec.toInt_eq_toNat_of_msb e]
    exact Int.natCast_nonneg _
  exact ⟨(cel xs L K).toInt, (zI_of _).symm, key _, (rg_toInt _).2⟩
abbrev rm_L_cell : Room := { frames := 0, cells := 0, slots := 0, locals := 0 }
/-- as Ct_of, with what the start holds besides -/
theorem Ct_ofB {l : Launch} {y : MethodName} {b : ByteArray} {n : Nat} {ret : Option FieldType} {rm : Room} {as : List Value} {B : State → Prop} {A : Nat → Prop} {Qc : Array Value → State → Outcome → State → Prop} {mc ms : Nat} (hy : plainName y.cls = true) (hn : (lg_sl as).length ≤ n)
    (body : ∀ (p : Program) (e : Env) (s : State) (m : MethodId) (below : List Frame) (meth : Method) (c : Code) (ls : Array Slot), p.tables.exec = Jvm.exec → c.code = b → meth.sig.returnType = ret → meth.locks = false → c.maxLocals = n → s.vm.findClass y.cls = some m.cls → (∀ w ∈ lw_all, w.before as.toArray s = true) → B s → lv_has ls n (lv_args 0 as) →
      W p l e rm s m as.toArray below meth c s.heap [] 0 0 (MQ below Qc as.toArray s mc ms A) (F0 m 0 ls [])) :
    Met l y (wsU y b n ret) rm (va_Pc as B) Qc mc ms A := by
  refine Met.ofW (cc := b) (maxL := n) (ret := ret) hy rfl ?_
  intro p e s m args below meth c s₁ BB hml hv
  obtain ⟨rfl, hB⟩ := hv
  have hx := BB.exec
  have hb := BB.bytes
  have hr := BB.returns
  have hts := atoms_spec (ws := wsU y b n ret) BB.pre
  have hown : s.vm.findClass y.cls = some m.cls := findClass_of_methodNamed BB.named
  have hlocks := BB.notSynchronized
  have hl := lv_entry as hn
  rw [lg_entry_eq]
  exact body p e s m below meth c _ hx hb hr hlocks hml hown (fun w h => hts w (List.mem_cons_of_mem _ h)) hB hl
def CB (G : GG) (ns sz : Nat) (M : Mem) (b L : Nat) (xs : Nat → Int32) (U : State) : Prop := (KK G U ∧ PW G (AC G) (XC G ns) sz M U U.heap) ∧ va_X b L xs U U.heap ∧ b < U.heap.size
set_option maxHeartbeats 4000000 in
set_option maxRecDepth 100000 in
theorem c_L_cell (l : Launch) {G : GG} {ns sz : Nat} {M : Mem} {b L K : Nat} {xs : Nat → Int32} (hbA : ¬ AC G b) (hL : L ≤ 260) (hK : K < 1000) : Met l yL_cell (wsU yL_cell cL_cell 2 (some .int)) rm_L_cell (va_Pc [.ref b, .int (zI K)] (CB G ns sz M b L xs)) (va_Qi (fun (r2 : Int32) (_ : Unit) => r2 = cel xs L K) (fun _ t => PW G (AC G) (XC G ns) sz M t t.heap) (AC G)) rm_L_cell.cells rm_L_cell.slots (AC G) := by
  refine Ct_ofB (by decide) (Nat.le_of_ble_eq_true rfl) (fun p e s m below meth c ls hx hb hr hlocks hml hown hts hB hl => ?_)
  obtain ⟨⟨hKK, hP⟩, hX, hbl⟩ := hB
  have hS : va_S (AC G) s.heap s.heap [] := va_S.rf
  have hl : lv_has ls 2 [(0, .ref b), (1, .int (zI K))] := hl
  have fin : ∀ v : Int32, v &&& 2147483647 = cel xs L K → W p l e rm_L_cell s m ([.ref b, .int (zI K)] : List Value).toArray below meth c s.heap [] 0 0 (MQ below (va_Qi (fun (r2 : Int32) (_ : Unit) => r2 = cel xs L K) (fun _ t => PW G (AC G) (XC G ns) sz M t t.heap) (AC G)) ([.ref b, .int (zI K)] : List Value).toArray s rm_L_cell.cells rm_L_cell.slots (AC G)) (F0 m 19 ls [.int v]) := by
    intro v hv
    refine lv_ldc (v := 2147483647) hx hb hown (hts _ w_456) dL_cell_19 ?_
    refine lv_iand hx hb dL_cell_21 ?_
    exact en_i (by rw [hv]) hx hb hr rfl hlocks hP hS dL_cell_22
  refine lv_iload_n hx hb dL_cell_0 rfl (lv_at hl 1 rfl) ?_
  refine lv_aload_n hx hb dL_cell_1 rfl (lv_at hl 0 rfl) ?_
  refine va_slen hx hb hX hbl hbA hS dL_cell_2 ?_
  have e1 : (Int32.ofNat L ≤ zI K) ↔ L ≤ K := by
    rw [zI_nat, zI_le (by omega) (by omega) (by omega) (by omega)]
    omega
  refine lv_icmp_ge (tgt := 12) hx hb dL_cell_3 (by decide) (fun hc => ?_) (fun hc => ?_)
  · refine lv_ldc (v := 25214903) hx hb hown (hts _ w_455) dL_cell_12 ?_
    refine lv_iload_n hx hb dL_cell_14 rfl (lv_at hl 1 rfl) ?_
    refine lv_bipush (v := 19) hx hb dL_cell_15 (by decide) ?_
    refine lv_iadd hx hb dL_cell_17 ?_
    refine lv_imul hx hb dL_cell_18 ?_
    refine fin _ ?_
    unfold cel
    rw [if_neg (show ¬ K < L from Nat.not_lt.mpr (e1.1 hc))]
  · have hlt : K < L := Nat.lt_of_not_le (fun t => hc (e1.2 t))
    refine lv_aload_n hx hb dL_cell_6 rfl (lv_at hl 0 rfl) ?_
    refine lv_iload_n hx hb dL_cell_7 rfl (lv_at hl 1 rfl) ?_
    refine va_sld hx hb hX hbl hbA hS (ibd_in (ibd_t (by omega) (by omega) (by omega))) dL_cell_8 ?_
    refine lv_goto (tgt := 19) hx hb dL_cell_9 (by decide) ?_
    refine fin _ ?_
    have e2 : (zI (K : Int)).toNatClampNeg = K := ix_nat (by omega)
    unfold cel
    rw [if_pos hlt, e2]
section
variable {p : Program} {l : Launch} {e : Env} {R : Room} {s : State} {m : MethodId} {args : Array Value} {below : List Frame} {meth : Method} {c : Code} {H : Heap} {locs : List Loc} {cells slots : Nat} {Q : State → Prop}
variable {cc : ByteArray} {pc nL index : Nat} {ret : Option FieldType} {own : String} {ls : Array Slot} {rest : List Value} {l' : List (Nat × Value)} {G : GG} {ns sz : Nat} {M : Mem} {b L K : Nat} {xs : Nat → Int32}
theorem cv_L_cell (E : Cx p s m args meth c cc ret nL own G) (hP : PW G (AC G) (XC G ns) sz M s H) (hS : va_S (AC G) s.heap H locs) (hX : va_X b L xs s s.heap) (hbl : b < s.heap.size) (hbA : ¬ AC G b) (hL : L ≤ 260) (hK0 : K < 1000) (w1 : Cond.methodLink own index yL_cell ∈ lw_all) (hR : 1 ≤ R.frames ∧ 21 ≤ R.locals) (hl : lv_has ls nL l') (hrest : (rest.map fun v => v.category).sum ≤ 8) (hdg : decode cc pc = .ok (.invokestatic index, 3)) (hcs : cells ≤ R.cells ∧ slots ≤ R.slots)
    (kk : ∀ (H1 : Heap) (locs1 : List Loc), PW G (AC G) (XC G ns) sz M s H1 → va_S (AC G) s.heap H1 locs1 → W p l e R s m args below meth c H1 locs1 cells slots Q (F0 m (pc + 3) ls (.int (cel xs L K) :: rest))) : W p l e R s m args below meth c H locs cells slots Q (F0 m pc ls (.int (zI K) :: .ref b :: rest)) := by
  obtain ⟨hx, hb, hr, hlocks, hml, hown, hts, hK⟩ := E
  have hXH : va_X b L xs s H := hX.kept (hS.2.1 b hbl hbA)
  have hblH : b < H.size := Nat.lt_of_lt_of_le hbl hS.1
  refine va_calli (va_runS (Ts := lw_all) (As := [.ref b, .int (zI K)]) (rest := rest) ⟨hx, hb, hml, hown, hts⟩ (c_L_cell l (ns := ns) (sz := sz) (M := M) (xs := xs) hbA hL hK0) (va_cwS 2 hts (gApp (fun w hw => ?_) (gU w_454)) rfl rfl rfl (by decide +kernel) hR) ⟨fun a U g mk q => ⟨q.1, ⟨KK.same (u := U) (U := U.calling g mk a) rfl q.2.1.1, PW.moved (U := U.calling g mk a) (Vm.Alike.refl U.vm) q.2.1.2⟩, va_X.moved (U := U.calling g mk a) (Vm.Alike.refl U.vm) q.2.2.1, q.2.2.2⟩, fun U hU hW => ⟨rfl, ⟨hK.warm hW, by rw [hU]; exact hP.moved hW.alike⟩, by rw [hU]; exact hXH.moved hW.alike, by rw [hU]; exact hblH⟩⟩ rfl rfl hl.1 rfl (lv_room hrest) hdg hcs) hS (fun q _ h => h) (fun q h => h) (fun r1 u t H1 locs1 ht hvm hw hB hz1 hk1 hS1 => ?_)
  · simp only [List.mem_cons, List.not_mem_nil, or_false] at hw
    rcases hw with rfl | rfl | rfl
    · exact w1
    · exact w_453
    · exact w_0
  · subst hw
    rw [ht] at hB
    exact kk H1 locs1 (hB.moved hvm.symm) hS1
end
