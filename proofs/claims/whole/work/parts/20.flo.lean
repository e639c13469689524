/-! Jxf58ca_isNaN_12338 -/
abbrev rm_Jxf58ca_isNaN_12338 : Room := { frames := 0, cells := 0, slots := 0, locals := 0 }
def f_Jxf58ca_isNaN_12338_b11 (s0 : Int32) (M : Mem) : Option (Int32 × Mem) :=
ck (bl s0) <|
some (s0, M)
def f_Jxf58ca_isNaN_12338 (x0 : UInt32) (M : Mem) : Option (Int32 × Mem) :=
(if (Op.cmpValue (FP.fcmp x0 x0) .l) = 0 then
  f_Jxf58ca_isNaN_12338_b11 0 M
else
  f_Jxf58ca_isNaN_12338_b11 1 M)
set_option maxHeartbeats 4000000 in
set_option maxRecDepth 100000 in
theorem w_Jxf58ca_isNaN_12338_b11 {p : Program} {l : Launch} {e : Env} {s : State} {m : MethodId} {args : Array Value} {below : List Frame} {meth : Method} {c : Code} {G : GG} {sz : Nat} {r : Int32} {M' : Mem} (E : Cx p s m args meth c cJxf58ca_isNaN_12338 (some .boolean) 1 RJxf58ca G) {s0 : Int32} {M : Mem} {H : Heap} {locs : List Loc} {ls : Array Slot} (hf : f_Jxf58ca_isNaN_12338_b11 s0 M = some (r, M')) (hP : PW G (AM G) (XM G) sz M s H) (hS : va_S (AM G) s.heap H locs) (hl : lv_has ls 1 []) : W p l e rm_Jxf58ca_isNaN_12338 s m args below meth c H locs 0 0 (MQ below (va_Qi (fun (r2 : Int32) (_ : Unit) => r2 = r) (fun _ t => PW G (AM G) (XM G) sz M' t t.heap) (AM G)) args s 0 0 (AM G)) (F0 m 11 ls [.int s0]) := by
  obtain ⟨hx, hb, hr, hlocks, hml, hown, hts, hK⟩ := id E
  unfold f_Jxf58ca_isNaN_12338_b11 at hf
  refine ck_e hf (fun hn hf => ?_)
  exact en_i hf hx hb hr (bl_nar hn) hlocks hP hS dJxf58ca_isNaN_12338_11
set_option maxHeartbeats 4000000 in
set_option maxRecDepth 100000 in
theorem w_Jxf58ca_isNaN_12338 {p : Program} {l : Launch} {e : Env} {s : State} {m : MethodId} {args : Array Value} {below : List Frame} {meth : Method} {c : Code} {G : GG} {sz : Nat} {r : Int32} {M' : Mem} (E : Cx p s m args meth c cJxf58ca_isNaN_12338 (some .boolean) 1 RJxf58ca G) {x0 : UInt32} {M : Mem} {H : Heap} {locs : List Loc} {ls : Array Slot} (hf : f_Jxf58ca_isNaN_12338 x0 M = some (r, M')) (hP : PW G (AM G) (XM G) sz M s H) (hS : va_S (AM G) s.heap H locs) (hl : lv_has ls 1 [(0, .float x0)]) : W p l e rm_Jxf58ca_isNaN_12338 s m args below meth c H locs 0 0 (MQ below (va_Qi (fun (r2 : Int32) (_ : Unit) => r2 = r) (fun _ t => PW G (AM G) (XM G) sz M' t t.heap) (AM G)) args s 0 0 (AM G)) (F0 m 0 ls []) := by
  obtain ⟨hx, hb, hr, hlocks, hml, hown, hts, hK⟩ := id E
  unfold f_Jxf58ca_isNaN_12338 at hf
  refine lv_fload_n hx hb dJxf58ca_isNaN_12338_0 rfl (lv_at hl 0 rfl) ?_
  refine lv_fload_n hx hb dJxf58ca_isNaN_12338_1 rfl (lv_at hl 0 rfl) ?_
  refine lv_fcmp hx hb dJxf58ca_isNaN_12338_2 ?_
  refine lv_if_eq (tgt := 10) hx hb dJxf58ca_isNaN_12338_3 (by decide) (fun hc => ?_) (fun hc => ?_)
  · have hf := if_t hf hc
    refine lv_iconst (v := 0) hx hb dJxf58ca_isNaN_12338_10 (by decide) ?_
    exact w_Jxf58ca_isNaN_12338_b11 E hf hP hS (lv_sub hl [] rfl)
  · have hf := if_f hf hc
    refine lv_iconst (v := 1) hx hb dJxf58ca_isNaN_12338_6 (by decide) ?_
    refine lv_goto (tgt := 11) hx hb dJxf58ca_isNaN_12338_7 (by decide) ?_
    exact w_Jxf58ca_isNaN_12338_b11 E hf hP hS (lv_sub hl [] rfl)
theorem c_Jxf58ca_isNaN_12338 (l : Launch) {G : GG} {sz : Nat} {x0 : UInt32} {M : Mem} {r : Int32} {M' : Mem} (hf : f_Jxf58ca_isNaN_12338 x0 M = some (r, M')) : CtI l yJxf58ca_isNaN_12338 cJxf58ca_isNaN_12338 1 (some .boolean) rm_Jxf58ca_isNaN_12338 [.float x0] G (AM G) (XM G) sz M r (XM G) sz M' := by
  refine Ct_ofF (by decide +kernel) (Nat.le_of_ble_eq_true rfl) (fun p e s m below meth c ls hx hb hr hlocks hml hown hts hK hP hl => ?_)
  exact w_Jxf58ca_isNaN_12338 ⟨hx, hb, hr, hlocks, hml, hown, hts, hK⟩ hf hP va_S.rf hl
set_option maxRecDepth 100000 in
theorem cv_Jxf58ca_isNaN_12338 {p : Program} {l : Launch} {e : Env} {R : Room} {s : State} {m : MethodId} {args : Array Value} {below : List Frame} {meth : Method} {c : Code} {H : Heap} {locs : List Loc} {cells slots : Nat} {Q : State → Prop} {cc : ByteArray} {pc nL index : Nat} {ret : Option FieldType} {own : String} {ls : Array Slot} {rest : List Value} {l' : List (Nat × Value)} {G : GG} {sz : Nat} {M : Mem} (E : Cx p s m args meth c cc ret nL own G) (hP : PW G (AM G) (XM G) sz M s H) (hS : va_S (AM G) s.heap H locs) {x0 : UInt32} {r : Int32} {M' : Mem} (hq : f_Jxf58ca_isNaN_12338 x0 M = some (r, M')) (w1 : Cond.methodLink own index yJxf58ca_isNaN_12338 ∈ lw_all) (hR : 1 ≤ R.frames ∧ 20 ≤ R.locals) (hl : lv_has ls nL l') (hrest : (rest.map fun v => v.category).sum ≤ 8) (hdg : decode cc pc = .ok (.invokestatic index, 3)) (hcs : cells ≤ R.cells ∧ slots ≤ R.slots)
    (kk : ∀ (H1 : Heap) (locs1 : List Loc), PW G (AM G) (XM G) sz M' s H1 → va_S (AM G) s.heap H1 locs1 → W p l e R s m args below meth c H1 locs1 cells slots Q (F0 m (pc + 3) ls (.int r :: rest))) : W p l e R s m args below meth c H locs cells slots Q (F0 m pc ls (.float x0 :: rest)) := by
  obtain ⟨hx, hb, hr, hlocks, hml, hown, hts, hK⟩ := E
  exact kc_i (kc_runS (na := 1) hx hb hml hts hown hK hP (c_Jxf58ca_isNaN_12338 l hq) w1 w_1004 w_12 w_1005 (by decide +kernel) hR rfl hl rfl hrest hdg hcs) hS kk
/-! Jxf58ca_floatToIntBits_5c35a -/
abbrev rm_Jxf58ca_floatToIntBits_5c35a : Room := { frames := 1, cells := 0, slots := 0, locals := 60 }
def f_Jxf58ca_floatToIntBits_5c35a (x0 : UInt32) (M : Mem) : Option (Int32 × Mem) :=
ob (f_Jxf58ca_isNaN_12338 x0 M) fun r_1 M_1 =>
(if r_1 = 0 then
  some (x0.toInt32, M_1)
else
  some (2143289344, M_1))
set_option maxHeartbeats 4000000 in
set_option maxRecDepth 100000 in
theorem w_Jxf58ca_floatToIntBits_5c35a {p : Program} {l : Launch} {e : Env} {s : State} {m : MethodId} {args : Array Value} {below : List Frame} {meth : Method} {c : Code} {G : GG} {sz : Nat} {r : Int32} {M' : Mem} (E : Cx p s m args meth c cJxf58ca_floatToIntBits_5c35a (some .int) 1 RJxf58ca G) {x0 : UInt32} {M : Mem} {H : Heap} {locs : List Loc} {ls : Array Slot} (hf : f_Jxf58ca_floatToIntBits_5c35a x0 M = some (r, M')) (hP : PW G (AM G) (XM G) sz M s H) (hS : va_S (AM G) s.heap H locs) (hl : lv_has ls 1 [(0, .float x0)]) : W p l e rm_Jxf58ca_floatToIntBits_5c35a s m args below meth c H locs 0 0 (MQ below (va_Qi (fun (r2 : Int32) (_ : Unit) => r2 = r) (fun _ t => PW G (AM G) (XM G) sz M' t t.heap) (AM G)) args s 0 0 (AM G)) (F0 m 0 ls []) := by
  obtain ⟨hx, hb, hr, hlocks, hml, hown, hts, hK⟩ := id E
  unfold f_Jxf58ca_floatToIntBits_5c35a at hf
  refine lv_fload_n hx hb dJxf58ca_floatToIntBits_5c35a_0 rfl (lv_at hl 0 rfl) ?_
  refine ob_e hf (fun r_1 M_1 hq hf => ?_)
  refine cv_Jxf58ca_isNaN_12338 E hP hS hq w_1003 ⟨Nat.le_of_ble_eq_true rfl, Nat.le_of_ble_eq_true rfl⟩ hl (Nat.le_of_ble_eq_true rfl) dJxf58ca_floatToIntBits_5c35a_1 ⟨Nat.le_of_ble_eq_true rfl, Nat.le_of_ble_eq_true rfl⟩ (fun H locs hP hS => ?_)
  refine lv_if_ne (tgt := 12) hx hb dJxf58ca_floatToIntBits_5c35a_4 (by decide) (fun hc => ?_) (fun hc => ?_)
  · have hf := if_f hf hc
    refine lv_ldc (v := 2143289344) hx hb hown (hts _ w_1009) dJxf58ca_floatToIntBits_5c35a_12 ?_
    exact en_i hf hx hb hr rfl hlocks hP hS dJxf58ca_floatToIntBits_5c35a_14
  · have hf := if_t hf hc
    refine lv_fload_n hx hb dJxf58ca_floatToIntBits_5c35a_7 rfl (lv_at hl 0 rfl) ?_
    refine vn_f2i hx hb (hml.trans hl.1.symm) hown (hts _ w_1006) (hts _ w_1008) (hts _ w_1007) (hts _ w_12) (Nat.le_of_ble_eq_true rfl) (Nat.le_of_ble_eq_true rfl) dJxf58ca_floatToIntBits_5c35a_8 ?_
    exact en_i hf hx hb hr rfl hlocks hP hS dJxf58ca_floatToIntBits_5c35a_11
theorem c_Jxf58ca_floatToIntBits_5c35a (l : Launch) {G : GG} {sz : Nat} {x0 : UInt32} {M : Mem} {r : Int32} {M' : Mem} (hf : f_Jxf58ca_floatToIntBits_5c35a x0 M = some (r, M')) : CtI l yJxf58ca_floatToIntBits_5c35a cJxf58ca_floatToIntBits_5c35a 1 (some .int) rm_Jxf58ca_floatToIntBits_5c35a [.float x0] G (AM G) (XM G) sz M r (XM G) sz M' := by
  refine Ct_ofF (by decide +kernel) (Nat.le_of_ble_eq_true rfl) (fun p e s m below meth c ls hx hb hr hlocks hml hown hts hK hP hl => ?_)
  exact w_Jxf58ca_floatToIntBits_5c35a ⟨hx, hb, hr, hlocks, hml, hown, hts, hK⟩ hf hP va_S.rf hl
set_option maxRecDepth 100000 in
theorem cv_Jxf58ca_floatToIntBits_5c35a {p : Program} {l : Launch} {e : Env} {R : Room} {s : State} {m : MethodId} {args : Array Value} {below : List Frame} {meth : Method} {c : Code} {H : Heap} {locs : List Loc} {cells slots : Nat} {Q : State → Prop} {cc : ByteArray} {pc nL index : Nat} {ret : Option FieldType} {own : String} {ls : Array Slot} {rest : List Value} {l' : List (Nat × Value)} {G : GG} {sz : Nat} {M : Mem} (E : Cx p s m args meth c cc ret nL own G) (hP : PW G (AM G) (XM G) sz M s H) (hS : va_S (AM G) s.heap H locs) {x0 : UInt32} {r : Int32} {M' : Mem} (hq : f_Jxf58ca_floatToIntBits_5c35a x0 M = some (r, M')) (w1 : Cond.methodLink own index yJxf58ca_floatToIntBits_5c35a ∈ lw_all) (hR : 2 ≤ R.frames ∧ 80 ≤ R.locals) (hl : lv_has ls nL l') (hrest : (rest.map fun v => v.category).sum ≤ 8) (hdg : decode cc pc = .ok (.invokestatic index, 3)) (hcs : cells ≤ R.cells ∧ slots ≤ R.slots)
    (kk : ∀ (H1 : Heap) (locs1 : List Loc), PW G (AM G) (XM G) sz M' s H1 → va_S (AM G) s.heap H1 locs1 → W p l e R s m args below meth c H1 locs1 cells slots Q (F0 m (pc + 3) ls (.int r :: rest))) : W p l e R s m args below meth c H locs cells slots Q (F0 m pc ls (.float x0 :: rest)) := by
  obtain ⟨hx, hb, hr, hlocks, hml, hown, hts, hK⟩ := E
  exact kc_i (kc_runS (na := 1) hx hb hml hts hown hK hP (c_Jxf58ca_floatToIntBits_5c35a l hq) w1 w_1001 w_12 w_1002 (by decide +kernel) hR rfl hl rfl hrest hdg hcs) hS kk
