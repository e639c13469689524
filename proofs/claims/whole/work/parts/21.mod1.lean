/-! X8_in -/
abbrev rm_X8_in : Room := { frames := 0, cells := 0, slots := 0, locals := 0 }
def f_X8_in_b15 (s0 : Int32) (M : Mem) : Option (Int32 × Mem) :=
ck (bl s0) <|
some (s0, M)
def f_X8_in_b14 (M : Mem) : Option (Int32 × Mem) :=
f_X8_in_b15 0 M
def f_X8_in (x0 : Int32) (x1 : Int32) (x2 : Int32) (M : Mem) : Option (Int32 × Mem) :=
(if x0 < x1 then
  f_X8_in_b14 M
else
  (if x2 < x0 then
    f_X8_in_b14 M
  else
    f_X8_in_b15 1 M))
set_option maxHeartbeats 4000000 in
set_option maxRecDepth 100000 in
theorem w_X8_in_b15 {p : Program} {l : Launch} {e : Env} {s : State} {m : MethodId} {args : Array Value} {below : List Frame} {meth : Method} {c : Code} {G : GG} {sz : Nat} {r : Int32} {M' : Mem} (E : Cx p s m args meth c cX8_in (some .boolean) 3 RX8 G) {s0 : Int32} {M : Mem} {H : Heap} {locs : List Loc} {ls : Array Slot} (hf : f_X8_in_b15 s0 M = some (r, M')) (hP : PW G (AM G) (XM G) sz M s H) (hS : va_S (AM G) s.heap H locs) (hl : lv_has ls 3 []) : W p l e rm_X8_in s m args below meth c H locs 0 0 (MQ below (va_Qi (fun (r2 : Int32) (_ : Unit) => r2 = r) (fun _ t => PW G (AM G) (XM G) sz M' t t.heap) (AM G)) args s 0 0 (AM G)) (F0 m 15 ls [.int s0]) := by
  obtain ⟨hx, hb, hr, hlocks, hml, hown, hts, hK⟩ := id E
  unfold f_X8_in_b15 at hf
  refine ck_e hf (fun hn hf => ?_)
  exact en_i hf hx hb hr (bl_nar hn) hlocks hP hS dX8_in_15
set_option maxHeartbeats 4000000 in
set_option maxRecDepth 100000 in
theorem w_X8_in_b14 {p : Program} {l : Launch} {e : Env} {s : State} {m : MethodId} {args : Array Value} {below : List Frame} {meth : Method} {c : Code} {G : GG} {sz : Nat} {r : Int32} {M' : Mem} (E : Cx p s m args meth c cX8_in (some .boolean) 3 RX8 G) {M : Mem} {H : Heap} {locs : List Loc} {ls : Array Slot} (hf : f_X8_in_b14 M = some (r, M')) (hP : PW G (AM G) (XM G) sz M s H) (hS : va_S (AM G) s.heap H locs) (hl : lv_has ls 3 []) : W p l e rm_X8_in s m args below meth c H locs 0 0 (MQ below (va_Qi (fun (r2 : Int32) (_ : Unit) => r2 = r) (fun _ t => PW G (AM G) (XM G) sz M' t t.heap) (AM G)) args s 0 0 (AM G)) (F0 m 14 ls []) := by
  obtain ⟨hx, hb, hr, hlocks, hml, hown, hts, hK⟩ := id E
  unfold f_X8_in_b14 at hf
  refine lv_iconst (v := 0) hx hb dX8_in_14 (by decide) ?_
  exact w_X8_in_b15 E hf hP hS (lv_sub hl [] rfl)
set_option maxHeartbeats 4000000 in
set_option maxRecDepth 100000 in
theorem w_X8_in {p : Program} {l : Launch} {e : Env} {s : State} {m : MethodId} {args : Array Value} {below : List Frame} {meth : Method} {c : Code} {G : GG} {sz : Nat} {r : Int32} {M' : Mem} (E : Cx p s m args meth c cX8_in (some .boolean) 3 RX8 G) {x0 : Int32} {x1 : Int32} {x2 : Int32} {M : Mem} {H : Heap} {locs : List Loc} {ls : Array Slot} (hf : f_X8_in x0 x1 x2 M = some (r, M')) (hP : PW G (AM G) (XM G) sz M s H) (hS : va_S (AM G) s.heap H locs) (hl : lv_has ls 3 [(0, .int x0), (1, .int x1), (2, .int x2)]) : W p l e rm_X8_in s m args below meth c H locs 0 0 (MQ below (va_Qi (fun (r2 : Int32) (_ : Unit) => r2 = r) (fun _ t => PW G (AM G) (XM G) sz M' t t.heap) (AM G)) args s 0 0 (AM G)) (F0 m 0 ls []) := by
  obtain ⟨hx, hb, hr, hlocks, hml, hown, hts, hK⟩ := id E
  unfold f_X8_in at hf
  refine lv_iload_n hx hb dX8_in_0 rfl (lv_at hl 0 rfl) ?_
  refine lv_iload_n hx hb dX8_in_1 rfl (lv_at hl 1 rfl) ?_
  refine lv_icmp_lt (tgt := 14) hx hb dX8_in_2 (by decide) (fun hc => ?_) (fun hc => ?_)
  · have hf := if_t hf hc
    exact w_X8_in_b14 E hf hP hS (lv_sub hl [] rfl)
  · have hf := if_f hf hc
    refine lv_iload_n hx hb dX8_in_5 rfl (lv_at hl 0 rfl) ?_
    refine lv_iload_n hx hb dX8_in_6 rfl (lv_at hl 2 rfl) ?_
    refine lv_icmp_gt (tgt := 14) hx hb dX8_in_7 (by decide) (fun hc => ?_) (fun hc => ?_)
    · have hf := if_t hf hc
      exact w_X8_in_b14 E hf hP hS (lv_sub hl [] rfl)
    · have hf := if_f hf hc
      refine lv_iconst (v := 1) hx hb dX8_in_10 (by decide) ?_
      refine lv_goto (tgt := 15) hx hb dX8_in_11 (by decide) ?_
      exact w_X8_in_b15 E hf hP hS (lv_sub hl [] rfl)
theorem c_X8_in (l : Launch) {G : GG} {sz : Nat} {x0 : Int32} {x1 : Int32} {x2 : Int32} {M : Mem} {r : Int32} {M' : Mem} (hf : f_X8_in x0 x1 x2 M = some (r, M')) : CtI l yX8_in cX8_in 3 (some .boolean) rm_X8_in [.int x0, .int x1, .int x2] G (AM G) (XM G) sz M r (XM G) sz M' := by
  refine Ct_of (by decide) (Nat.le_of_ble_eq_true rfl) (fun p e s m below meth c ls hx hb hr hlocks hml hown hts hK hP hl => ?_)
  exact w_X8_in ⟨hx, hb, hr, hlocks, hml, hown, hts, hK⟩ hf hP va_S.rf hl
set_option maxRecDepth 100000 in
theorem cv_X8_in {p : Program} {l : Launch} {e : Env} {R : Room} {s : State} {m : MethodId} {args : Array Value} {below : List Frame} {meth : Method} {c : Code} {H : Heap} {locs : List Loc} {cells slots : Nat} {Q : State → Prop} {cc : ByteArray} {pc nL index : Nat} {ret : Option FieldType} {own : String} {ls : Array Slot} {rest : List Value} {l' : List (Nat × Value)} {G : GG} {sz : Nat} {M : Mem} (E : Cx p s m args meth c cc ret nL own G) (hP : PW G (AM G) (XM G) sz M s H) (hS : va_S (AM G) s.heap H locs) {x0 : Int32} {x1 : Int32} {x2 : Int32} {r : Int32} {M' : Mem} (hq : f_X8_in x0 x1 x2 M = some (r, M')) (w1 : Cond.methodLink own index yX8_in ∈ lw_all) (hR : 1 ≤ R.frames ∧ 22 ≤ R.locals) (hl : lv_has ls nL l') (hrest : (rest.map fun v => v.category).sum ≤ 8) (hdg : decode cc pc = .ok (.invokestatic index, 3)) (hcs : cells ≤ R.cells ∧ slots ≤ R.slots)
    (kk : ∀ (H1 : Heap) (locs1 : List Loc), PW G (AM G) (XM G) sz M' s H1 → va_S (AM G) s.heap H1 locs1 → W p l e R s m args below meth c H1 locs1 cells slots Q (F0 m (pc + 3) ls (.int r :: rest))) : W p l e R s m args below meth c H locs cells slots Q (F0 m pc ls (.int x2 :: .int x1 :: .int x0 :: rest)) := by
  obtain ⟨hx, hb, hr, hlocks, hml, hown, hts, hK⟩ := E
  exact kc_i (kc_runS (na := 3) hx hb hml hts hown hK hP (c_X8_in l hq) w1 w_852 w_9 w_853 (by decide +kernel) hR rfl hl rfl hrest hdg hcs) hS kk
/-! X8_apart -/
abbrev rm_X8_apart : Room := { frames := 0, cells := 0, slots := 0, locals := 0 }
def f_X8_apart_b14 (s0 : Int32) (M : Mem) : Option (Int32 × Mem) :=
some (s0, M)
def f_X8_apart (x0 : Int32) (x1 : Int32) (M : Mem) : Option (Int32 × Mem) :=
(if x1 ≤ x0 then
  f_X8_apart_b14 ((x0 - x1)) M
else
  f_X8_apart_b14 ((x1 - x0)) M)
set_option maxHeartbeats 4000000 in
set_option maxRecDepth 100000 in
theorem w_X8_apart_b14 {p : Program} {l : Launch} {e : Env} {s : State} {m : MethodId} {args : Array Value} {below : List Frame} {meth : Method} {c : Code} {G : GG} {sz : Nat} {r : Int32} {M' : Mem} (E : Cx p s m args meth c cX8_apart (some .int) 2 RX8 G) {s0 : Int32} {M : Mem} {H : Heap} {locs : List Loc} {ls : Array Slot} (hf : f_X8_apart_b14 s0 M = some (r, M')) (hP : PW G (AM G) (XM G) sz M s H) (hS : va_S (AM G) s.heap H locs) (hl : lv_has ls 2 []) : W p l e rm_X8_apart s m args below meth c H locs 0 0 (MQ below (va_Qi (fun (r2 : Int32) (_ : Unit) => r2 = r) (fun _ t => PW G (AM G) (XM G) sz M' t t.heap) (AM G)) args s 0 0 (AM G)) (F0 m 14 ls [.int s0]) := by
  obtain ⟨hx, hb, hr, hlocks, hml, hown, hts, hK⟩ := id E
  unfold f_X8_apart_b14 at hf
  exact en_i hf hx hb hr rfl hlocks hP hS dX8_apart_14
set_option maxHeartbeats 4000000 in
set_option maxRecDepth 100000 in
theorem w_X8_apart {p : Program} {l : Launch} {e : Env} {s : State} {m : MethodId} {args : Array Value} {below : List Frame} {meth : Method} {c : Code} {G : GG} {sz : Nat} {r : Int32} {M' : Mem} (E : Cx p s m args meth c cX8_apart (some .int) 2 RX8 G) {x0 : Int32} {x1 : Int32} {M : Mem} {H : Heap} {locs : List Loc} {ls : Array Slot} (hf : f_X8_apart x0 x1 M = some (r, M')) (hP : PW G (AM G) (XM G) sz M s H) (hS : va_S (AM G) s.heap H locs) (hl : lv_has ls 2 [(0, .int x0), (1, .int x1)]) : W p l e rm_X8_apart s m args below meth c H locs 0 0 (MQ below (va_Qi (fun (r2 : Int32) (_ : Unit) => r2 = r) (fun _ t => PW G (AM G) (XM G) sz M' t t.heap) (AM G)) args s 0 0 (AM G)) (F0 m 0 ls []) := by
  obtain ⟨hx, hb, hr, hlocks, hml, hown, hts, hK⟩ := id E
  unfold f_X8_apart at hf
  refine lv_iload_n hx hb dX8_apart_0 rfl (lv_at hl 0 rfl) ?_
  refine lv_iload_n hx hb dX8_apart_1 rfl (lv_at hl 1 rfl) ?_
  refine lv_icmp_ge (tgt := 11) hx hb dX8_apart_2 (by decide) (fun hc => ?_) (fun hc => ?_)
  · have hf := if_t hf hc
    refine lv_iload_n hx hb dX8_apart_11 rfl (lv_at hl 0 rfl) ?_
    refine lv_iload_n hx hb dX8_apart_12 rfl (lv_at hl 1 rfl) ?_
    refine lv_isub hx hb dX8_apart_13 ?_
    exact w_X8_apart_b14 E hf hP hS (lv_sub hl [] rfl)
  · have hf := if_f hf hc
    refine lv_iload_n hx hb dX8_apart_5 rfl (lv_at hl 1 rfl) ?_
    refine lv_iload_n hx hb dX8_apart_6 rfl (lv_at hl 0 rfl) ?_
    refine lv_isub hx hb dX8_apart_7 ?_
    refine lv_goto (tgt := 14) hx hb dX8_apart_8 (by decide) ?_
    exact w_X8_apart_b14 E hf hP hS (lv_sub hl [] rfl)
theorem c_X8_apart (l : Launch) {G : GG} {sz : Nat} {x0 : Int32} {x1 : Int32} {M : Mem} {r : Int32} {M' : Mem} (hf : f_X8_apart x0 x1 M = some (r, M')) : CtI l yX8_apart cX8_apart 2 (some .int) rm_X8_apart [.int x0, .int x1] G (AM G) (XM G) sz M r (XM G) sz M' := by
  refine Ct_of (by decide) (Nat.le_of_ble_eq_true rfl) (fun p e s m below meth c ls hx hb hr hlocks hml hown hts hK hP hl => ?_)
  exact w_X8_apart ⟨hx, hb, hr, hlocks, hml, hown, hts, hK⟩ hf hP va_S.rf hl
set_option maxRecDepth 100000 in
theorem cv_X8_apart {p : Program} {l : Launch} {e : Env} {R : Room} {s : State} {m : MethodId} {args : Array Value} {below : List Frame} {meth : Method} {c : Code} {H : Heap} {locs : List Loc} {cells slots : Nat} {Q : State → Prop} {cc : ByteArray} {pc nL index : Nat} {ret : Option FieldType} {own : String} {ls : Array Slot} {rest : List Value} {l' : List (Nat × Value)} {G : GG} {sz : Nat} {M : Mem} (E : Cx p s m args meth c cc ret nL own G) (hP : PW G (AM G) (XM G) sz M s H) (hS : va_S (AM G) s.heap H locs) {x0 : Int32} {x1 : Int32} {r : Int32} {M' : Mem} (hq : f_X8_apart x0 x1 M = some (r, M')) (w1 : Cond.methodLink own index yX8_apart ∈ lw_all) (hR : 1 ≤ R.frames ∧ 21 ≤ R.locals) (hl : lv_has ls nL l') (hrest : (rest.map fun v => v.category).sum ≤ 8) (hdg : decode cc pc = .ok (.invokestatic index, 3)) (hcs : cells ≤ R.cells ∧ slots ≤ R.slots)
    (kk : ∀ (H1 : Heap) (locs1 : List Loc), PW G (AM G) (XM G) sz M' s H1 → va_S (AM G) s.heap H1 locs1 → W p l e R s m args below meth c H1 locs1 cells slots Q (F0 m (pc + 3) ls (.int r :: rest))) : W p l e R s m args below meth c H locs cells slots Q (F0 m pc ls (.int x1 :: .int x0 :: rest)) := by
  obtain ⟨hx, hb, hr, hlocks, hml, hown, hts, hK⟩ := E
  exact kc_i (kc_runS (na := 2) hx hb hml hts hown hK hP (c_X8_apart l hq) w1 w_933 w_9 w_934 (by decide +kernel) hR rfl hl rfl hrest hdg hcs) hS kk
/-! X8_pn -/
abbrev rm_X8_pn : Room := { frames := 0, cells := 0, slots := 0, locals := 0 }
def f_X8_pn (x1 : Int32) (x2 : Int32) (M : Mem) : Option (Int32 × Mem) :=
ck (ibd ((13 + (8 * x1)) + x2) 181) <|
some ((M 0 1 (ix ((13 + (8 * x1)) + x2))), M)
set_option maxHeartbeats 4000000 in
set_option maxRecDepth 100000 in
theorem w_X8_pn {p : Program} {l : Launch} {e : Env} {s : State} {m : MethodId} {args : Array Value} {below : List Frame} {meth : Method} {c : Code} {G : GG} {sz : Nat} {r : Int32} {M' : Mem} (E : Cx p s m args meth c cX8_pn (some .int) 3 RX8 G) {x1 : Int32} {x2 : Int32} {M : Mem} {H : Heap} {locs : List Loc} {ls : Array Slot} (hf : f_X8_pn x1 x2 M = some (r, M')) (hP : PW G (AM G) (XM G) sz M s H) (hS : va_S (AM G) s.heap H locs) (hl : lv_has ls 3 [(0, .ref (adM G 0 0)), (1, .int x1), (2, .int x2)]) : W p l e rm_X8_pn s m args below meth c H locs 0 0 (MQ below (va_Qi (fun (r2 : Int32) (_ : Unit) => r2 = r) (fun _ t => PW G (AM G) (XM G) sz M' t t.heap) (AM G)) args s 0 0 (AM G)) (F0 m 0 ls []) := by
  obtain ⟨hx, hb, hr, hlocks, hml, hown, hts, hK⟩ := id E
  unfold f_X8_pn at hf
  refine lv_aload_n hx hb dX8_pn_0 rfl (lv_at hl 0 rfl) ?_
  refine gf_X8_s E hP w_797 dX8_pn_1 ?_
  refine lv_bipush (v := 13) hx hb dX8_pn_4 (by decide) ?_
  refine lv_bipush (v := 8) hx hb dX8_pn_6 (by decide) ?_
  refine lv_iload_n hx hb dX8_pn_8 rfl (lv_at hl 1 rfl) ?_
  refine lv_imul hx hb dX8_pn_9 ?_
  refine lv_iadd hx hb dX8_pn_10 ?_
  refine lv_iload_n hx hb dX8_pn_11 rfl (lv_at hl 2 rfl) ?_
  refine lv_iadd hx hb dX8_pn_12 ?_
  refine ck_e hf (fun hi hf => ?_)
  refine la_M1 E hP hi dX8_pn_13 ?_
  exact en_i hf hx hb hr rfl hlocks hP hS dX8_pn_14
theorem c_X8_pn (l : Launch) {G : GG} {sz : Nat} {x1 : Int32} {x2 : Int32} {M : Mem} {r : Int32} {M' : Mem} (hf : f_X8_pn x1 x2 M = some (r, M')) : CtI l yX8_pn cX8_pn 3 (some .int) rm_X8_pn [.ref (adM G 0 0), .int x1, .int x2] G (AM G) (XM G) sz M r (XM G) sz M' := by
  refine Ct_of (by decide) (Nat.le_of_ble_eq_true rfl) (fun p e s m below meth c ls hx hb hr hlocks hml hown hts hK hP hl => ?_)
  exact w_X8_pn ⟨hx, hb, hr, hlocks, hml, hown, hts, hK⟩ hf hP va_S.rf hl
set_option maxRecDepth 100000 in
theorem cv_X8_pn {p : Program} {l : Launch} {e : Env} {R : Room} {s : State} {m : MethodId} {args : Array Value} {below : List Frame} {meth : Method} {c : Code} {H : Heap} {locs : List Loc} {cells slots : Nat} {Q : State → Prop} {cc : ByteArray} {pc nL index : Nat} {ret : Option FieldType} {own : String} {ls : Array Slot} {rest : List Value} {l' : List (Nat × Value)} {G : GG} {sz : Nat} {M : Mem} (E : Cx p s m args meth c cc ret nL own G) (hP : PW G (AM G) (XM G) sz M s H) (hS : va_S (AM G) s.heap H locs) {x1 : Int32} {x2 : Int32} {r : Int32} {M' : Mem} (hq : f_X8_pn x1 x2 M = some (r, M')) (w1 : Cond.methodLink own index yX8_pn ∈ lw_all) (hR : 1 ≤ R.frames ∧ 22 ≤ R.locals) (hl : lv_has ls nL l') (hrest : (rest.map fun v => v.category).sum ≤ 8) (hdg : decode cc pc = .ok (.invokevirtual index, 3)) (hcs : cells ≤ R.cells ∧ slots ≤ R.slots)
    (kk : ∀ (H1 : Heap) (locs1 : List Loc), PW G (AM G) (XM G) sz M' s H1 → va_S (AM G) s.heap H1 locs1 → W p l e R s m args below meth c H1 locs1 cells slots Q (F0 m (pc + 3) ls (.int r :: rest))) : W p l e R s m args below meth c H locs cells slots Q (F0 m pc ls (.int x2 :: .int x1 :: .ref (adM G 0 0) :: rest)) := by
  obtain ⟨hx, hb, hr, hlocks, hml, hown, hts, hK⟩ := E
  exact kc_i (kc_runV (na := 2) (q := (RX8, TX8, 16)) hx hb hml hts hown hK hP 0 0 ⟨rfl, by decide⟩ rfl rfl rfl (c_X8_pn l hq) w1 w_869 ws_21 w_9 w_870 (by decide +kernel) hR rfl hl rfl hrest hdg hcs) hS kk
/-! X8_lays -/
abbrev rm_X8_lays : Room := { frames := 0, cells := 0, slots := 0, locals := 0 }
def f_X8_lays (x1 : Int32) (x2 : Int32) (x3 : Int32) (M : Mem) : Option (Unit × Mem) :=
ck (ibd ((13 + (8 * x1)) + x2) 181) <|
lt (up3 M 0 1 (ix ((13 + (8 * x1)) + x2)) x3) fun M_14 =>
some ((), M_14)
set_option maxHeartbeats 4000000 in
set_option maxRecDepth 100000 in
theorem w_X8_lays {p : Program} {l : Launch} {e : Env} {s : State} {m : MethodId} {args : Array Value} {below : List Frame} {meth : Method} {c : Code} {G : GG} {sz : Nat} {r : Unit} {M' : Mem} (E : Cx p s m args meth c cX8_lays none 4 RX8 G) {x1 : Int32} {x2 : Int32} {x3 : Int32} {M : Mem} {H : Heap} {locs : List Loc} {ls : Array Slot} (hf : f_X8_lays x1 x2 x3 M = some (r, M')) (hP : PW G (AM G) (XM G) sz M s H) (hS : va_S (AM G) s.heap H locs) (hl : lv_has ls 4 [(0, .ref (adM G 0 0)), (1, .int x1), (2, .int x2), (3, .int x3)]) : W p l e rm_X8_lays s m args below meth c H locs 0 0 (MQ below (va_Qv (fun (_ : Unit) => True) (fun _ t => PW G (AM G) (XM G) sz M' t t.heap) (AM G)) args s 0 0 (AM G)) (F0 m 0 ls []) := by
  obtain ⟨hx, hb, hr, hlocks, hml, hown, hts, hK⟩ := id E
  unfold f_X8_lays at hf
  refine lv_aload_n hx hb dX8_lays_0 rfl (lv_at hl 0 rfl) ?_
  refine gf_X8_s E hP w_797 dX8_lays_1 ?_
  refine lv_bipush (v := 13) hx hb dX8_lays_4 (by decide) ?_
  refine lv_bipush (v := 8) hx hb dX8_lays_6 (by decide) ?_
  refine lv_iload_n hx hb dX8_lays_8 rfl (lv_at hl 1 rfl) ?_
  refine lv_imul hx hb dX8_lays_9 ?_
  refine lv_iadd hx hb dX8_lays_10 ?_
  refine lv_iload_n hx hb dX8_lays_11 rfl (lv_at hl 2 rfl) ?_
  refine lv_iadd hx hb dX8_lays_12 ?_
  refine lv_iload_n hx hb dX8_lays_13 rfl (lv_at hl 3 rfl) ?_
  refine ck_e hf (fun hi hf => ?_)
  refine lt_e hf (fun M_14 hM_14 hf => ?_)
  refine sa_M1 E hP hS hi hM_14 dX8_lays_14 (fun H locs hP hS => ?_)
  exact en_v hf hx hb hr hlocks hP hS dX8_lays_15
theorem c_X8_lays (l : Launch) {G : GG} {sz : Nat} {x1 : Int32} {x2 : Int32} {x3 : Int32} {M : Mem} {r : Unit} {M' : Mem} (hf : f_X8_lays x1 x2 x3 M = some (r, M')) : CtV l yX8_lays cX8_lays 4 none rm_X8_lays [.ref (adM G 0 0), .int x1, .int x2, .int x3] G (AM G) (XM G) sz M r (XM G) sz M' := by
  refine Ct_of (by decide) (Nat.le_of_ble_eq_true rfl) (fun p e s m below meth c ls hx hb hr hlocks hml hown hts hK hP hl => ?_)
  exact w_X8_lays ⟨hx, hb, hr, hlocks, hml, hown, hts, hK⟩ hf hP va_S.rf hl
set_option maxRecDepth 100000 in
theorem cv_X8_lays {p : Program} {l : Launch} {e : Env} {R : Room} {s : State} {m : MethodId} {args : Array Value} {below : List Frame} {meth : Method} {c : Code} {H : Heap} {locs : List Loc} {cells slots : Nat} {Q : State → Prop} {cc : ByteArray} {pc nL index : Nat} {ret : Option FieldType} {own : String} {ls : Array Slot} {rest : List Value} {l' : List (Nat × Value)} {G : GG} {sz : Nat} {M : Mem} (E : Cx p s m args meth c cc ret nL own G) (hP : PW G (AM G) (XM G) sz M s H) (hS : va_S (AM G) s.heap H locs) {x1 : Int32} {x2 : Int32} {x3 : Int32} {r : Unit} {M' : Mem} (hq : f_X8_lays x1 x2 x3 M = some (r, M')) (w1 : Cond.methodLink own index yX8_lays ∈ lw_all) (hR : 1 ≤ R.frames ∧ 23 ≤ R.locals) (hl : lv_has ls nL l') (hrest : (rest.map fun v => v.category).sum ≤ 8) (hdg : decode cc pc = .ok (.invokevirtual index, 3)) (hcs : cells ≤ R.cells ∧ slots ≤ R.slots)
    (kk : ∀ (H1 : Heap) (locs1 : List Loc), PW G (AM G) (XM G) sz M' s H1 → va_S (AM G) s.heap H1 locs1 → W p l e R s m args below meth c H1 locs1 cells slots Q (F0 m (pc + 3) ls (rest))) : W p l e R s m args below meth c H locs cells slots Q (F0 m pc ls (.int x3 :: .int x2 :: .int x1 :: .ref (adM G 0 0) :: rest)) := by
  obtain ⟨hx, hb, hr, hlocks, hml, hown, hts, hK⟩ := E
  exact kc_v (kc_runV (na := 3) (q := (RX8, TX8, 16)) hx hb hml hts hown hK hP 0 0 ⟨rfl, by decide⟩ rfl rfl rfl (c_X8_lays l hq) w1 w_875 ws_22 w_9 w_876 (by decide +kernel) hR rfl hl rfl hrest hdg hcs) hS kk
/-! X8_ln -/
abbrev rm_X8_ln : Room := { frames := 0, cells := 0, slots := 0, locals := 0 }
def f_X8_ln (x1 : Int32) (x2 : Int32) (M : Mem) : Option (Int32 × Mem) :=
ck (ibd ((53 + (8 * x1)) + x2) 181) <|
some ((M 0 1 (ix ((53 + (8 * x1)) + x2))), M)
set_option maxHeartbeats 4000000 in
set_option maxRecDepth 100000 in
theorem w_X8_ln {p : Program} {l : Launch} {e : Env} {s : State} {m : MethodId} {args : Array Value} {below : List Frame} {meth : Method} {c : Code} {G : GG} {sz : Nat} {r : Int32} {M' : Mem} (E : Cx p s m args meth c cX8_ln (some .int) 3 RX8 G) {x1 : Int32} {x2 : Int32} {M : Mem} {H : Heap} {locs : List Loc} {ls : Array Slot} (hf : f_X8_ln x1 x2 M = some (r, M')) (hP : PW G (AM G) (XM G) sz M s H) (hS : va_S (AM G) s.heap H locs) (hl : lv_has ls 3 [(0, .ref (adM G 0 0)), (1, .int x1), (2, .int x2)]) : W p l e rm_X8_ln s m args below meth c H locs 0 0 (MQ below (va_Qi (fun (r2 : Int32) (_ : Unit) => r2 = r) (fun _ t => PW G (AM G) (XM G) sz M' t t.heap) (AM G)) args s 0 0 (AM G)) (F0 m 0 ls []) := by
  obtain ⟨hx, hb, hr, hlocks, hml, hown, hts, hK⟩ := id E
  unfold f_X8_ln at hf
  refine lv_aload_n hx hb dX8_ln_0 rfl (lv_at hl 0 rfl) ?_
  refine gf_X8_s E hP w_797 dX8_ln_1 ?_
  refine lv_bipush (v := 53) hx hb dX8_ln_4 (by decide) ?_
  refine lv_bipush (v := 8) hx hb dX8_ln_6 (by decide) ?_
  refine lv_iload_n hx hb dX8_ln_8 rfl (lv_at hl 1 rfl) ?_
  refine lv_imul hx hb dX8_ln_9 ?_
  refine lv_iadd hx hb dX8_ln_10 ?_
  refine lv_iload_n hx hb dX8_ln_11 rfl (lv_at hl 2 rfl) ?_
  refine lv_iadd hx hb dX8_ln_12 ?_
  refine ck_e hf (fun hi hf => ?_)
  refine la_M1 E hP hi dX8_ln_13 ?_
  exact en_i hf hx hb hr rfl hlocks hP hS dX8_ln_14
theorem c_X8_ln (l : Launch) {G : GG} {sz : Nat} {x1 : Int32} {x2 : Int32} {M : Mem} {r : Int32} {M' : Mem} (hf : f_X8_ln x1 x2 M = some (r, M')) : CtI l yX8_ln cX8_ln 3 (some .int) rm_X8_ln [.ref (adM G 0 0), .int x1, .int x2] G (AM G) (XM G) sz M r (XM G) sz M' := by
  refine Ct_of (by decide) (Nat.le_of_ble_eq_true rfl) (fun p e s m below meth c ls hx hb hr hlocks hml hown hts hK hP hl => ?_)
  exact w_X8_ln ⟨hx, hb, hr, hlocks, hml, hown, hts, hK⟩ hf hP va_S.rf hl
set_option maxRecDepth 100000 in
theorem cv_X8_ln {p : Program} {l : Launch} {e : Env} {R : Room} {s : State} {m : MethodId} {args : Array Value} {below : List Frame} {meth : Method} {c : Code} {H : Heap} {locs : List Loc} {cells slots : Nat} {Q : State → Prop} {cc : ByteArray} {pc nL index : Nat} {ret : Option FieldType} {own : String} {ls : Array Slot} {rest : List Value} {l' : List (Nat × Value)} {G : GG} {sz : Nat} {M : Mem} (E : Cx p s m args meth c cc ret nL own G) (hP : PW G (AM G) (XM G) sz M s H) (hS : va_S (AM G) s.heap H locs) {x1 : Int32} {x2 : Int32} {r : Int32} {M' : Mem} (hq : f_X8_ln x1 x2 M = some (r, M')) (w1 : Cond.methodLink own index yX8_ln ∈ lw_all) (hR : 1 ≤ R.frames ∧ 22 ≤ R.locals) (hl : lv_has ls nL l') (hrest : (rest.map fun v => v.category).sum ≤ 8) (hdg : decode cc pc = .ok (.invokevirtual index, 3)) (hcs : cells ≤ R.cells ∧ slots ≤ R.slots)
    (kk : ∀ (H1 : Heap) (locs1 : List Loc), PW G (AM G) (XM G) sz M' s H1 → va_S (AM G) s.heap H1 locs1 → W p l e R s m args below meth c H1 locs1 cells slots Q (F0 m (pc + 3) ls (.int r :: rest))) : W p l e R s m args below meth c H locs cells slots Q (F0 m pc ls (.int x2 :: .int x1 :: .ref (adM G 0 0) :: rest)) := by
  obtain ⟨hx, hb, hr, hlocks, hml, hown, hts, hK⟩ := E
  exact kc_i (kc_runV (na := 2) (q := (RX8, TX8, 16)) hx hb hml hts hown hK hP 0 0 ⟨rfl, by decide⟩ rfl rfl rfl (c_X8_ln l hq) w1 w_918 ws_28 w_9 w_919 (by decide +kernel) hR rfl hl rfl hrest hdg hcs) hS kk
/-! X8_isPen -/
abbrev rm_X8_isPen : Room := { frames := 1, cells := 0, slots := 0, locals := 22 }
def f_X8_isPen (x1 : Int32) (M : Mem) : Option (Int32 × Mem) :=
ob (f_X8_in x1 0 ((M 0 1 (ix 0)) - 1) M) fun r_10 M_10 =>
ck (bl r_10) <|
some (r_10, M_10)
set_option maxHeartbeats 4000000 in
set_option maxRecDepth 100000 in
theorem w_X8_isPen {p : Program} {l : Launch} {e : Env} {s : State} {m : MethodId} {args : Array Value} {below : List Frame} {meth : Method} {c : Code} {G : GG} {sz : Nat} {r : Int32} {M' : Mem} (E : Cx p s m args meth c cX8_isPen (some .boolean) 2 RX8 G) {x1 : Int32} {M : Mem} {H : Heap} {locs : List Loc} {ls : Array Slot} (hf : f_X8_isPen x1 M = some (r, M')) (hP : PW G (AM G) (XM G) sz M s H) (hS : va_S (AM G) s.heap H locs) (hl : lv_has ls 2 [(0, .ref (adM G 0 0)), (1, .int x1)]) : W p l e rm_X8_isPen s m args below meth c H locs 0 0 (MQ below (va_Qi (fun (r2 : Int32) (_ : Unit) => r2 = r) (fun _ t => PW G (AM G) (XM G) sz M' t t.heap) (AM G)) args s 0 0 (AM G)) (F0 m 0 ls []) := by
  obtain ⟨hx, hb, hr, hlocks, hml, hown, hts, hK⟩ := id E
  unfold f_X8_isPen at hf
  refine lv_iload_n hx hb dX8_isPen_0 rfl (lv_at hl 1 rfl) ?_
  refine lv_iconst (v := 0) hx hb dX8_isPen_1 (by decide) ?_
  refine lv_aload_n hx hb dX8_isPen_2 rfl (lv_at hl 0 rfl) ?_
  refine gf_X8_s E hP w_797 dX8_isPen_3 ?_
  refine lv_iconst (v := 0) hx hb dX8_isPen_6 (by decide) ?_
  refine la_M1 E hP (by decide) dX8_isPen_7 ?_
  refine lv_iconst (v := 1) hx hb dX8_isPen_8 (by decide) ?_
  refine lv_isub hx hb dX8_isPen_9 ?_
  refine ob_e hf (fun r_10 M_10 hq hf => ?_)
  refine cv_X8_in E hP hS hq w_851 ⟨Nat.le_of_ble_eq_true rfl, Nat.le_of_ble_eq_true rfl⟩ hl (Nat.le_of_ble_eq_true rfl) dX8_isPen_10 ⟨Nat.le_of_ble_eq_true rfl, Nat.le_of_ble_eq_true rfl⟩ (fun H locs hP hS => ?_)
  refine ck_e hf (fun hn hf => ?_)
  exact en_i hf hx hb hr (bl_nar hn) hlocks hP hS dX8_isPen_13
theorem c_X8_isPen (l : Launch) {G : GG} {sz : Nat} {x1 : Int32} {M : Mem} {r : Int32} {M' : Mem} (hf : f_X8_isPen x1 M = some (r, M')) : CtI l yX8_isPen cX8_isPen 2 (some .boolean) rm_X8_isPen [.ref (adM G 0 0), .int x1] G (AM G) (XM G) sz M r (XM G) sz M' := by
  refine Ct_of (by decide) (Nat.le_of_ble_eq_true rfl) (fun p e s m below meth c ls hx hb hr hlocks hml hown hts hK hP hl => ?_)
  exact w_X8_isPen ⟨hx, hb, hr, hlocks, hml, hown, hts, hK⟩ hf hP va_S.rf hl
set_option maxRecDepth 100000 in
theorem cv_X8_isPen {p : Program} {l : Launch} {e : Env} {R : Room} {s : State} {m : MethodId} {args : Array Value} {below : List Frame} {meth : Method} {c : Code} {H : Heap} {locs : List Loc} {cells slots : Nat} {Q : State → Prop} {cc : ByteArray} {pc nL index : Nat} {ret : Option FieldType} {own : String} {ls : Array Slot} {rest : List Value} {l' : List (Nat × Value)} {G : GG} {sz : Nat} {M : Mem} (E : Cx p s m args meth c cc ret nL own G) (hP : PW G (AM G) (XM G) sz M s H) (hS : va_S (AM G) s.heap H locs) {x1 : Int32} {r : Int32} {M' : Mem} (hq : f_X8_isPen x1 M = some (r, M')) (w1 : Cond.methodLink own index yX8_isPen ∈ lw_all) (hR : 2 ≤ R.frames ∧ 43 ≤ R.locals) (hl : lv_has ls nL l') (hrest : (rest.map fun v => v.category).sum ≤ 8) (hdg : decode cc pc = .ok (.invokevirtual index, 3)) (hcs : cells ≤ R.cells ∧ slots ≤ R.slots)
    (kk : ∀ (H1 : Heap) (locs1 : List Loc), PW G (AM G) (XM G) sz M' s H1 → va_S (AM G) s.heap H1 locs1 → W p l e R s m args below meth c H1 locs1 cells slots Q (F0 m (pc + 3) ls (.int r :: rest))) : W p l e R s m args below meth c H locs cells slots Q (F0 m pc ls (.int x1 :: .ref (adM G 0 0) :: rest)) := by
  obtain ⟨hx, hb, hr, hlocks, hml, hown, hts, hK⟩ := E
  exact kc_i (kc_runV (na := 1) (q := (RX8, TX8, 16)) hx hb hml hts hown hK hP 0 0 ⟨rfl, by decide⟩ rfl rfl rfl (c_X8_isPen l hq) w1 w_890 ws_23 w_9 w_891 (by decide +kernel) hR rfl hl rfl hrest hdg hcs) hS kk
/-! X8_isLine -/
abbrev rm_X8_isLine : Room := { frames := 1, cells := 0, slots := 0, locals := 22 }
def f_X8_isLine (x1 : Int32) (M : Mem) : Option (Int32 × Mem) :=
ob (f_X8_in x1 0 ((M 0 1 (ix 1)) - 1) M) fun r_10 M_10 =>
ck (bl r_10) <|
some (r_10, M_10)
set_option maxHeartbeats 4000000 in
set_option maxRecDepth 100000 in
theorem w_X8_isLine {p : Program} {l : Launch} {e : Env} {s : State} {m : MethodId} {args : Array Value} {below : List Frame} {meth : Method} {c : Code} {G : GG} {sz : Nat} {r : Int32} {M' : Mem} (E : Cx p s m args meth c cX8_isLine (some .boolean) 2 RX8 G) {x1 : Int32} {M : Mem} {H : Heap} {locs : List Loc} {ls : Array Slot} (hf : f_X8_isLine x1 M = some (r, M')) (hP : PW G (AM G) (XM G) sz M s H) (hS : va_S (AM G) s.heap H locs) (hl : lv_has ls 2 [(0, .ref (adM G 0 0)), (1, .int x1)]) : W p l e rm_X8_isLine s m args below meth c H locs 0 0 (MQ below (va_Qi (fun (r2 : Int32) (_ : Unit) => r2 = r) (fun _ t => PW G (AM G) (XM G) sz M' t t.heap) (AM G)) args s 0 0 (AM G)) (F0 m 0 ls []) := by
  obtain ⟨hx, hb, hr, hlocks, hml, hown, hts, hK⟩ := id E
  unfold f_X8_isLine at hf
  refine lv_iload_n hx hb dX8_isLine_0 rfl (lv_at hl 1 rfl) ?_
  refine lv_iconst (v := 0) hx hb dX8_isLine_1 (by decide) ?_
  refine lv_aload_n hx hb dX8_isLine_2 rfl (lv_at hl 0 rfl) ?_
  refine gf_X8_s E hP w_797 dX8_isLine_3 ?_
  refine lv_iconst (v := 1) hx hb dX8_isLine_6 (by decide) ?_
  refine la_M1 E hP (by decide) dX8_isLine_7 ?_
  refine lv_iconst (v := 1) hx hb dX8_isLine_8 (by decide) ?_
  refine lv_isub hx hb dX8_isLine_9 ?_
  refine ob_e hf (fun r_10 M_10 hq hf => ?_)
  refine cv_X8_in E hP hS hq w_851 ⟨Nat.le_of_ble_eq_true rfl, Nat.le_of_ble_eq_true rfl⟩ hl (Nat.le_of_ble_eq_true rfl) dX8_isLine_10 ⟨Nat.le_of_ble_eq_true rfl, Nat.le_of_ble_eq_true rfl⟩ (fun H locs hP hS => ?_)
  refine ck_e hf (fun hn hf => ?_)
  exact en_i hf hx hb hr (bl_nar hn) hlocks hP hS dX8_isLine_13
theorem c_X8_isLine (l : Launch) {G : GG} {sz : Nat} {x1 : Int32} {M : Mem} {r : Int32} {M' : Mem} (hf : f_X8_isLine x1 M = some (r, M')) : CtI l yX8_isLine cX8_isLine 2 (some .boolean) rm_X8_isLine [.ref (adM G 0 0), .int x1] G (AM G) (XM G) sz M r (XM G) sz M' := by
  refine Ct_of (by decide) (Nat.le_of_ble_eq_true rfl) (fun p e s m below meth c ls hx hb hr hlocks hml hown hts hK hP hl => ?_)
  exact w_X8_isLine ⟨hx, hb, hr, hlocks, hml, hown, hts, hK⟩ hf hP va_S.rf hl
set_option maxRecDepth 100000 in
theorem cv_X8_isLine {p : Program} {l : Launch} {e : Env} {R : Room} {s : State} {m : MethodId} {args : Array Value} {below : List Frame} {meth : Method} {c : Code} {H : Heap} {locs : List Loc} {cells slots : Nat} {Q : State → Prop} {cc : ByteArray} {pc nL index : Nat} {ret : Option FieldType} {own : String} {ls : Array Slot} {rest : List Value} {l' : List (Nat × Value)} {G : GG} {sz : Nat} {M : Mem} (E : Cx p s m args meth c cc ret nL own G) (hP : PW G (AM G) (XM G) sz M s H) (hS : va_S (AM G) s.heap H locs) {x1 : Int32} {r : Int32} {M' : Mem} (hq : f_X8_isLine x1 M = some (r, M')) (w1 : Cond.methodLink own index yX8_isLine ∈ lw_all) (hR : 2 ≤ R.frames ∧ 43 ≤ R.locals) (hl : lv_has ls nL l') (hrest : (rest.map fun v => v.category).sum ≤ 8) (hdg : decode cc pc = .ok (.invokevirtual index, 3)) (hcs : cells ≤ R.cells ∧ slots ≤ R.slots)
    (kk : ∀ (H1 : Heap) (locs1 : List Loc), PW G (AM G) (XM G) sz M' s H1 → va_S (AM G) s.heap H1 locs1 → W p l e R s m args below meth c H1 locs1 cells slots Q (F0 m (pc + 3) ls (.int r :: rest))) : W p l e R s m args below meth c H locs cells slots Q (F0 m pc ls (.int x1 :: .ref (adM G 0 0) :: rest)) := by
  obtain ⟨hx, hb, hr, hlocks, hml, hown, hts, hK⟩ := E
  exact kc_i (kc_runV (na := 1) (q := (RX8, TX8, 16)) hx hb hml hts hown hK hP 0 0 ⟨rfl, by decide⟩ rfl rfl rfl (c_X8_isLine l hq) w1 w_926 ws_29 w_9 w_927 (by decide +kernel) hR rfl hl rfl hrest hdg hcs) hS kk
/-! X8_isDrawn -/
abbrev rm_X8_isDrawn : Room := { frames := 1, cells := 0, slots := 0, locals := 22 }
def f_X8_isDrawn_b14 (s0 : Int32) (M : Mem) : Option (Int32 × Mem) :=
ck (bl s0) <|
some (s0, M)
def f_X8_isDrawn (x1 : Int32) (M : Mem) : Option (Int32 × Mem) :=
ob (f_X8_ln x1 4 M) fun r_3 M_3 =>
(if r_3 < 0 then
  f_X8_isDrawn_b14 0 M_3
else
  f_X8_isDrawn_b14 1 M_3)
set_option maxHeartbeats 4000000 in
set_option maxRecDepth 100000 in
theorem w_X8_isDrawn_b14 {p : Program} {l : Launch} {e : Env} {s : State} {m : MethodId} {args : Array Value} {below : List Frame} {meth : Method} {c : Code} {G : GG} {sz : Nat} {r : Int32} {M' : Mem} (E : Cx p s m args meth c cX8_isDrawn (some .boolean) 2 RX8 G) {s0 : Int32} {M : Mem} {H : Heap} {locs : List Loc} {ls : Array Slot} (hf : f_X8_isDrawn_b14 s0 M = some (r, M')) (hP : PW G (AM G) (XM G) sz M s H) (hS : va_S (AM G) s.heap H locs) (hl : lv_has ls 2 []) : W p l e rm_X8_isDrawn s m args below meth c H locs 0 0 (MQ below (va_Qi (fun (r2 : Int32) (_ : Unit) => r2 = r) (fun _ t => PW G (AM G) (XM G) sz M' t t.heap) (AM G)) args s 0 0 (AM G)) (F0 m 14 ls [.int s0]) := by
  obtain ⟨hx, hb, hr, hlocks, hml, hown, hts, hK⟩ := id E
  unfold f_X8_isDrawn_b14 at hf
  refine ck_e hf (fun hn hf => ?_)
  exact en_i hf hx hb hr (bl_nar hn) hlocks hP hS dX8_isDrawn_14
set_option maxHeartbeats 4000000 in
set_option maxRecDepth 100000 in
theorem w_X8_isDrawn {p : Program} {l : Launch} {e : Env} {s : State} {m : MethodId} {args : Array Value} {below : List Frame} {meth : Method} {c : Code} {G : GG} {sz : Nat} {r : Int32} {M' : Mem} (E : Cx p s m args meth c cX8_isDrawn (some .boolean) 2 RX8 G) {x1 : Int32} {M : Mem} {H : Heap} {locs : List Loc} {ls : Array Slot} (hf : f_X8_isDrawn x1 M = some (r, M')) (hP : PW G (AM G) (XM G) sz M s H) (hS : va_S (AM G) s.heap H locs) (hl : lv_has ls 2 [(0, .ref (adM G 0 0)), (1, .int x1)]) : W p l e rm_X8_isDrawn s m args below meth c H locs 0 0 (MQ below (va_Qi (fun (r2 : Int32) (_ : Unit) => r2 = r) (fun _ t => PW G (AM G) (XM G) sz M' t t.heap) (AM G)) args s 0 0 (AM G)) (F0 m 0 ls []) := by
  obtain ⟨hx, hb, hr, hlocks, hml, hown, hts, hK⟩ := id E
  unfold f_X8_isDrawn at hf
  refine lv_aload_n hx hb dX8_isDrawn_0 rfl (lv_at hl 0 rfl) ?_
  refine lv_iload_n hx hb dX8_isDrawn_1 rfl (lv_at hl 1 rfl) ?_
  refine lv_iconst (v := 4) hx hb dX8_isDrawn_2 (by decide) ?_
  refine ob_e hf (fun r_3 M_3 hq hf => ?_)
  refine cv_X8_ln E hP hS hq w_916 ⟨Nat.le_of_ble_eq_true rfl, Nat.le_of_ble_eq_true rfl⟩ hl (Nat.le_of_ble_eq_true rfl) dX8_isDrawn_3 ⟨Nat.le_of_ble_eq_true rfl, Nat.le_of_ble_eq_true rfl⟩ (fun H locs hP hS => ?_)
  refine lv_if_lt (tgt := 13) hx hb dX8_isDrawn_6 (by decide) (fun hc => ?_) (fun hc => ?_)
  · have hf := if_t hf hc
    refine lv_iconst (v := 0) hx hb dX8_isDrawn_13 (by decide) ?_
    exact w_X8_isDrawn_b14 E hf hP hS (lv_sub hl [] rfl)
  · have hf := if_f hf hc
    refine lv_iconst (v := 1) hx hb dX8_isDrawn_9 (by decide) ?_
    refine lv_goto (tgt := 14) hx hb dX8_isDrawn_10 (by decide) ?_
    exact w_X8_isDrawn_b14 E hf hP hS (lv_sub hl [] rfl)
theorem c_X8_isDrawn (l : Launch) {G : GG} {sz : Nat} {x1 : Int32} {M : Mem} {r : Int32} {M' : Mem} (hf : f_X8_isDrawn x1 M = some (r, M')) : CtI l yX8_isDrawn cX8_isDrawn 2 (some .boolean) rm_X8_isDrawn [.ref (adM G 0 0), .int x1] G (AM G) (XM G) sz M r (XM G) sz M' := by
  refine Ct_of (by decide) (Nat.le_of_ble_eq_true rfl) (fun p e s m below meth c ls hx hb hr hlocks hml hown hts hK hP hl => ?_)
  exact w_X8_isDrawn ⟨hx, hb, hr, hlocks, hml, hown, hts, hK⟩ hf hP va_S.rf hl
set_option maxRecDepth 100000 in
theorem cv_X8_isDrawn {p : Program} {l : Launch} {e : Env} {R : Room} {s : State} {m : MethodId} {args : Array Value} {below : List Frame} {meth : Method} {c : Code} {H : Heap} {locs : List Loc} {cells slots : Nat} {Q : State → Prop} {cc : ByteArray} {pc nL index : Nat} {ret : Option FieldType} {own : String} {ls : Array Slot} {rest : List Value} {l' : List (Nat × Value)} {G : GG} {sz : Nat} {M : Mem} (E : Cx p s m args meth c cc ret nL own G) (hP : PW G (AM G) (XM G) sz M s H) (hS : va_S (AM G) s.heap H locs) {x1 : Int32} {r : Int32} {M' : Mem} (hq : f_X8_isDrawn x1 M = some (r, M')) (w1 : Cond.methodLink own index yX8_isDrawn ∈ lw_all) (hR : 2 ≤ R.frames ∧ 43 ≤ R.locals) (hl : lv_has ls nL l') (hrest : (rest.map fun v => v.category).sum ≤ 8) (hdg : decode cc pc = .ok (.invokevirtual index, 3)) (hcs : cells ≤ R.cells ∧ slots ≤ R.slots)
    (kk : ∀ (H1 : Heap) (locs1 : List Loc), PW G (AM G) (XM G) sz M' s H1 → va_S (AM G) s.heap H1 locs1 → W p l e R s m args below meth c H1 locs1 cells slots Q (F0 m (pc + 3) ls (.int r :: rest))) : W p l e R s m args below meth c H locs cells slots Q (F0 m pc ls (.int x1 :: .ref (adM G 0 0) :: rest)) := by
  obtain ⟨hx, hb, hr, hlocks, hml, hown, hts, hK⟩ := E
  exact kc_i (kc_runV (na := 1) (q := (RX8, TX8, 16)) hx hb hml hts hown hK hP 0 0 ⟨rfl, by decide⟩ rfl rfl rfl (c_X8_isDrawn l hq) w1 w_937 ws_31 w_9 w_938 (by decide +kernel) hR rfl hl rfl hrest hdg hcs) hS kk
/-! X8_keeps -/
abbrev rm_X8_keeps : Room := { frames := 0, cells := 0, slots := 0, locals := 0 }
def f_X8_keeps_b2 : Nat → Int32 → Mem → Option (Unit × Mem)
  | 0 => fun _ _ => none
  | fu + 1 => fun x1 M =>
(if 181 ≤ x1 then
  some ((), M)
else
  ck (ibd x1 181) <|
  ck (ibd x1 181) <|
  lt (up3 M 0 3 (ix x1) (M 0 1 (ix x1))) fun M_20 =>
  lt (x1 + 1) fun x1_21 =>
  f_X8_keeps_b2 fu x1_21 M_20)
def f_X8_keeps (M : Mem) : Option (Unit × Mem) :=
f_X8_keeps_b2 1000 0 M
set_option maxHeartbeats 4000000 in
set_option maxRecDepth 100000 in
theorem w_X8_keeps_b2 {p : Program} {l : Launch} {e : Env} {s : State} {m : MethodId} {args : Array Value} {below : List Frame} {meth : Method} {c : Code} {G : GG} {sz : Nat} {r : Unit} {M' : Mem} (E : Cx p s m args meth c cX8_keeps none 2 RX8 G) : ∀ fu : Nat, ∀ (x1 : Int32) (M : Mem) (H : Heap) (locs : List Loc) (ls : Array Slot), f_X8_keeps_b2 fu x1 M = some (r, M') → PW G (AM G) (XM G) sz M s H → va_S (AM G) s.heap H locs → lv_has ls 2 [(0, .ref (adM G 0 0)), (1, .int x1)] → W p l e rm_X8_keeps s m args below meth c H locs 0 0 (MQ below (va_Qv (fun (_ : Unit) => True) (fun _ t => PW G (AM G) (XM G) sz M' t t.heap) (AM G)) args s 0 0 (AM G)) (F0 m 2 ls []) := by
  obtain ⟨hx, hb, hr, hlocks, hml, hown, hts, hK⟩ := id E
  intro fu
  induction fu with
  | zero => intro x1 M H locs ls hf hP hS hl; cases hf
  | succ fu ih =>
    intro x1 M H locs ls hf hP hS hl
    rw [f_X8_keeps_b2.eq_2] at hf
    refine lv_iload_n hx hb dX8_keeps_2 rfl (lv_at hl 1 rfl) ?_
    refine lv_sipush (v := 181) hx hb dX8_keeps_3 (by decide) ?_
    refine lv_icmp_ge (tgt := 27) hx hb dX8_keeps_6 (by decide) (fun hc => ?_) (fun hc => ?_)
    · have hf := if_t hf hc
      exact en_v hf hx hb hr hlocks hP hS dX8_keeps_27
    · have hf := if_f hf hc
      refine lv_aload_n hx hb dX8_keeps_9 rfl (lv_at hl 0 rfl) ?_
      refine gf_X8_begun E hP w_799 dX8_keeps_10 ?_
      refine lv_iload_n hx hb dX8_keeps_13 rfl (lv_at hl 1 rfl) ?_
      refine lv_aload_n hx hb dX8_keeps_14 rfl (lv_at hl 0 rfl) ?_
      refine gf_X8_s E hP w_797 dX8_keeps_15 ?_
      refine lv_iload_n hx hb dX8_keeps_18 rfl (lv_at hl 1 rfl) ?_
      refine ck_e hf (fun hi hf => ?_)
      refine la_M1 E hP hi dX8_keeps_19 ?_
      refine ck_e hf (fun hi hf => ?_)
      refine lt_e hf (fun M_20 hM_20 hf => ?_)
      refine sa_M3 E hP hS hi hM_20 dX8_keeps_20 (fun H locs hP hS => ?_)
      refine lt_e hf (fun x1_21 hx1_21 hf => ?_)
      refine lv_iinc (v := x1_21) (lv' := [(1, .int x1_21), (0, .ref (adM G 0 0))]) hx hb dX8_keeps_21 hl (k := 1) rfl (by rw [hx1_21]; rfl) (by decide) rfl (fun ls hl => ?_)
      refine lv_goto (tgt := 2) hx hb dX8_keeps_24 (by decide) ?_
      exact ih _ _ _ _ _ hf hP hS (lv_sub hl [1, 0] rfl)
set_option maxHeartbeats 4000000 in
set_option maxRecDepth 100000 in
theorem w_X8_keeps {p : Program} {l : Launch} {e : Env} {s : State} {m : MethodId} {args : Array Value} {below : List Frame} {meth : Method} {c : Code} {G : GG} {sz : Nat} {r : Unit} {M' : Mem} (E : Cx p s m args meth c cX8_keeps none 2 RX8 G) {M : Mem} {H : Heap} {locs : List Loc} {ls : Array Slot} (hf : f_X8_keeps M = some (r, M')) (hP : PW G (AM G) (XM G) sz M s H) (hS : va_S (AM G) s.heap H locs) (hl : lv_has ls 2 [(0, .ref (adM G 0 0))]) : W p l e rm_X8_keeps s m args below meth c H locs 0 0 (MQ below (va_Qv (fun (_ : Unit) => True) (fun _ t => PW G (AM G) (XM G) sz M' t t.heap) (AM G)) args s 0 0 (AM G)) (F0 m 0 ls []) := by
  obtain ⟨hx, hb, hr, hlocks, hml, hown, hts, hK⟩ := id E
  unfold f_X8_keeps at hf
  refine lv_iconst (v := 0) hx hb dX8_keeps_0 (by decide) ?_
  refine lv_istore_n (lv' := [(1, .int 0), (0, .ref (adM G 0 0))]) hx hb dX8_keeps_1 rfl hl (by decide) rfl (fun ls hl => ?_)
  exact w_X8_keeps_b2 E 1000 _ _ _ _ _ hf hP hS (lv_sub hl [1, 0] rfl)
theorem c_X8_keeps (l : Launch) {G : GG} {sz : Nat} {M : Mem} {r : Unit} {M' : Mem} (hf : f_X8_keeps M = some (r, M')) : CtV l yX8_keeps cX8_keeps 2 none rm_X8_keeps [.ref (adM G 0 0)] G (AM G) (XM G) sz M r (XM G) sz M' := by
  refine Ct_of (by decide) (Nat.le_of_ble_eq_true rfl) (fun p e s m below meth c ls hx hb hr hlocks hml hown hts hK hP hl => ?_)
  exact w_X8_keeps ⟨hx, hb, hr, hlocks, hml, hown, hts, hK⟩ hf hP va_S.rf hl
set_option maxRecDepth 100000 in
theorem cv_X8_keeps {p : Program} {l : Launch} {e : Env} {R : Room} {s : State} {m : MethodId} {args : Array Value} {below : List Frame} {meth : Method} {c : Code} {H : Heap} {locs : List Loc} {cells slots : Nat} {Q : State → Prop} {cc : ByteArray} {pc nL index : Nat} {ret : Option FieldType} {own : String} {ls : Array Slot} {rest : List Value} {l' : List (Nat × Value)} {G : GG} {sz : Nat} {M : Mem} (E : Cx p s m args meth c cc ret nL own G) (hP : PW G (AM G) (XM G) sz M s H) (hS : va_S (AM G) s.heap H locs) {r : Unit} {M' : Mem} (hq : f_X8_keeps M = some (r, M')) (w1 : Cond.methodLink own index yX8_keeps ∈ lw_all) (hR : 1 ≤ R.frames ∧ 21 ≤ R.locals) (hl : lv_has ls nL l') (hrest : (rest.map fun v => v.category).sum ≤ 8) (hdg : decode cc pc = .ok (.invokevirtual index, 3)) (hcs : cells ≤ R.cells ∧ slots ≤ R.slots)
    (kk : ∀ (H1 : Heap) (locs1 : List Loc), PW G (AM G) (XM G) sz M' s H1 → va_S (AM G) s.heap H1 locs1 → W p l e R s m args below meth c H1 locs1 cells slots Q (F0 m (pc + 3) ls (rest))) : W p l e R s m args below meth c H locs cells slots Q (F0 m pc ls (.ref (adM G 0 0) :: rest)) := by
  obtain ⟨hx, hb, hr, hlocks, hml, hown, hts, hK⟩ := E
  exact kc_v (kc_runV (na := 0) (q := (RX8, TX8, 16)) hx hb hml hts hown hK hP 0 0 ⟨rfl, by decide⟩ rfl rfl rfl (c_X8_keeps l hq) w1 w_857 ws_19 w_9 w_858 (by decide +kernel) hR rfl hl rfl hrest hdg hcs) hS kk
/-! X8_acted -/
abbrev rm_X8_acted : Room := { frames := 0, cells := 0, slots := 0, locals := 0 }
def f_X8_acted_b101 (x1 : Int32) (M : Mem) : Option (Int32 × Mem) :=
some (x1, M)
def f_X8_acted_b57 : Nat → Int32 → Int32 → Mem → Option (Int32 × Mem)
  | 0 => fun _ _ _ => none
  | fu + 1 => fun x1 x2 M =>
(if 181 ≤ x2 then
  lt (up3 M 0 0 4 ((M 0 0 4) + 1)) fun M_98 =>
  f_X8_acted_b101 x1 M_98
else
  ck (ibd x2 181) <|
  ck (ibd ((181 * (M 0 0 4)) + x2) 724) <|
  lt (up3 M 0 2 (ix ((181 * (M 0 0 4)) + x2)) (M 0 3 (ix x2))) fun M_84 =>
  lt (x2 + 1) fun x2_85 =>
  f_X8_acted_b57 fu x1 x2_85 M_84)
def f_X8_acted_b55 (x1 : Int32) (M : Mem) : Option (Int32 × Mem) :=
f_X8_acted_b57 1000 x1 0 M
def f_X8_acted_b16 : Nat → Int32 → Int32 → Mem → Option (Int32 × Mem)
  | 0 => fun _ _ _ => none
  | fu + 1 => fun x1 x2 M =>
(if 543 ≤ x2 then
  lt (up3 M 0 0 4 ((M 0 0 4) - 1)) fun M_52 =>
  f_X8_acted_b55 x1 M_52
else
  ck (ibd (x2 + 181) 724) <|
  ck (ibd x2 724) <|
  lt (up3 M 0 2 (ix x2) (M 0 2 (ix (x2 + 181)))) fun M_38 =>
  lt (x2 + 1) fun x2_39 =>
  f_X8_acted_b16 fu x1 x2_39 M_38)
def f_X8_acted (x1 : Int32) (M : Mem) : Option (Int32 × Mem) :=
(if x1 ≤ (-1000001) then
  f_X8_acted_b101 x1 M
else
  (if (M 0 0 4) = 4 then
    f_X8_acted_b16 1000 x1 0 M
  else
    f_X8_acted_b55 x1 M))
set_option maxHeartbeats 4000000 in
set_option maxRecDepth 100000 in
theorem w_X8_acted_b101 {p : Program} {l : Launch} {e : Env} {s : State} {m : MethodId} {args : Array Value} {below : List Frame} {meth : Method} {c : Code} {G : GG} {sz : Nat} {r : Int32} {M' : Mem} (E : Cx p s m args meth c cX8_acted (some .int) 3 RX8 G) {x1 : Int32} {M : Mem} {H : Heap} {locs : List Loc} {ls : Array Slot} (hf : f_X8_acted_b101 x1 M = some (r, M')) (hP : PW G (AM G) (XM G) sz M s H) (hS : va_S (AM G) s.heap H locs) (hl : lv_has ls 3 [(1, .int x1)]) : W p l e rm_X8_acted s m args below meth c H locs 0 0 (MQ below (va_Qi (fun (r2 : Int32) (_ : Unit) => r2 = r) (fun _ t => PW G (AM G) (XM G) sz M' t t.heap) (AM G)) args s 0 0 (AM G)) (F0 m 101 ls []) := by
  obtain ⟨hx, hb, hr, hlocks, hml, hown, hts, hK⟩ := id E
  unfold f_X8_acted_b101 at hf
  refine lv_iload_n hx hb dX8_acted_101 rfl (lv_at hl 0 rfl) ?_
  exact en_i hf hx hb hr rfl hlocks hP hS dX8_acted_102
set_option maxHeartbeats 4000000 in
set_option maxRecDepth 100000 in
theorem w_X8_acted_b57 {p : Program} {l : Launch} {e : Env} {s : State} {m : MethodId} {args : Array Value} {below : List Frame} {meth : Method} {c : Code} {G : GG} {sz : Nat} {r : Int32} {M' : Mem} (E : Cx p s m args meth c cX8_acted (some .int) 3 RX8 G) : ∀ fu : Nat, ∀ (x1 : Int32) (x2 : Int32) (M : Mem) (H : Heap) (locs : List Loc) (ls : Array Slot), f_X8_acted_b57 fu x1 x2 M = some (r, M') → PW G (AM G) (XM G) sz M s H → va_S (AM G) s.heap H locs → lv_has ls 3 [(0, .ref (adM G 0 0)), (1, .int x1), (2, .int x2)] → W p l e rm_X8_acted s m args below meth c H locs 0 0 (MQ below (va_Qi (fun (r2 : Int32) (_ : Unit) => r2 = r) (fun _ t => PW G (AM G) (XM G) sz M' t t.heap) (AM G)) args s 0 0 (AM G)) (F0 m 57 ls []) := by
  obtain ⟨hx, hb, hr, hlocks, hml, hown, hts, hK⟩ := id E
  intro fu
  induction fu with
  | zero => intro x1 x2 M H locs ls hf hP hS hl; cases hf
  | succ fu ih =>
    intro x1 x2 M H locs ls hf hP hS hl
    rw [f_X8_acted_b57.eq_2] at hf
    refine lv_iload_n hx hb dX8_acted_57 rfl (lv_at hl 2 rfl) ?_
    refine lv_sipush (v := 181) hx hb dX8_acted_58 (by decide) ?_
    refine lv_icmp_ge (tgt := 91) hx hb dX8_acted_61 (by decide) (fun hc => ?_) (fun hc => ?_)
    · have hf := if_t hf hc
      refine lv_aload_n hx hb dX8_acted_91 rfl (lv_at hl 0 rfl) ?_
      refine lv_dup hx hb dX8_acted_92 rfl ?_
      refine gf_X8_states E hP w_801 dX8_acted_93 ?_
      refine lv_iconst (v := 1) hx hb dX8_acted_96 (by decide) ?_
      refine lv_iadd hx hb dX8_acted_97 ?_
      refine lt_e hf (fun M_98 hM_98 hf => ?_)
      refine pf_X8_states E hP hS hM_98 w_801 dX8_acted_98 (fun H locs hP hS => ?_)
      exact w_X8_acted_b101 E hf hP hS (lv_sub hl [1] rfl)
    · have hf := if_f hf hc
      refine lv_aload_n hx hb dX8_acted_64 rfl (lv_at hl 0 rfl) ?_
      refine gf_X8_was E hP w_798 dX8_acted_65 ?_
      refine lv_sipush (v := 181) hx hb dX8_acted_68 (by decide) ?_
      refine lv_aload_n hx hb dX8_acted_71 rfl (lv_at hl 0 rfl) ?_
      refine gf_X8_states E hP w_801 dX8_acted_72 ?_
      refine lv_imul hx hb dX8_acted_75 ?_
      refine lv_iload_n hx hb dX8_acted_76 rfl (lv_at hl 2 rfl) ?_
      refine lv_iadd hx hb dX8_acted_77 ?_
      refine lv_aload_n hx hb dX8_acted_78 rfl (lv_at hl 0 rfl) ?_
      refine gf_X8_begun E hP w_799 dX8_acted_79 ?_
      refine lv_iload_n hx hb dX8_acted_82 rfl (lv_at hl 2 rfl) ?_
      refine ck_e hf (fun hi hf => ?_)
      refine la_M3 E hP hi dX8_acted_83 ?_
      refine ck_e hf (fun hi hf => ?_)
      refine lt_e hf (fun M_84 hM_84 hf => ?_)
      refine sa_M2 E hP hS hi hM_84 dX8_acted_84 (fun H locs hP hS => ?_)
      refine lt_e hf (fun x2_85 hx2_85 hf => ?_)
      refine lv_iinc (v := x2_85) (lv' := [(2, .int x2_85), (0, .ref (adM G 0 0)), (1, .int x1)]) hx hb dX8_acted_85 hl (k := 2) rfl (by rw [hx2_85]; rfl) (by decide) rfl (fun ls hl => ?_)
      refine lv_goto (tgt := 57) hx hb dX8_acted_88 (by decide) ?_
      exact ih _ _ _ _ _ _ hf hP hS (lv_sub hl [1, 2, 0] rfl)
set_option maxHeartbeats 4000000 in
set_option maxRecDepth 100000 in
theorem w_X8_acted_b55 {p : Program} {l : Launch} {e : Env} {s : State} {m : MethodId} {args : Array Value} {below : List Frame} {meth : Method} {c : Code} {G : GG} {sz : Nat} {r : Int32} {M' : Mem} (E : Cx p s m args meth c cX8_acted (some .int) 3 RX8 G) {x1 : Int32} {M : Mem} {H : Heap} {locs : List Loc} {ls : Array Slot} (hf : f_X8_acted_b55 x1 M = some (r, M')) (hP : PW G (AM G) (XM G) sz M s H) (hS : va_S (AM G) s.heap H locs) (hl : lv_has ls 3 [(0, .ref (adM G 0 0)), (1, .int x1)]) : W p l e rm_X8_acted s m args below meth c H locs 0 0 (MQ below (va_Qi (fun (r2 : Int32) (_ : Unit) => r2 = r) (fun _ t => PW G (AM G) (XM G) sz M' t t.heap) (AM G)) args s 0 0 (AM G)) (F0 m 55 ls []) := by
  obtain ⟨hx, hb, hr, hlocks, hml, hown, hts, hK⟩ := id E
  unfold f_X8_acted_b55 at hf
  refine lv_iconst (v := 0) hx hb dX8_acted_55 (by decide) ?_
  refine lv_istore_n (lv' := [(2, .int 0), (0, .ref (adM G 0 0)), (1, .int x1)]) hx hb dX8_acted_56 rfl hl (by decide) rfl (fun ls hl => ?_)
  exact w_X8_acted_b57 E 1000 _ _ _ _ _ _ hf hP hS (lv_sub hl [1, 2, 0] rfl)
set_option maxHeartbeats 4000000 in
set_option maxRecDepth 100000 in
theorem w_X8_acted_b16 {p : Program} {l : Launch} {e : Env} {s : State} {m : MethodId} {args : Array Value} {below : List Frame} {meth : Method} {c : Code} {G : GG} {sz : Nat} {r : Int32} {M' : Mem} (E : Cx p s m args meth c cX8_acted (some .int) 3 RX8 G) : ∀ fu : Nat, ∀ (x1 : Int32) (x2 : Int32) (M : Mem) (H : Heap) (locs : List Loc) (ls : Array Slot), f_X8_acted_b16 fu x1 x2 M = some (r, M') → PW G (AM G) (XM G) sz M s H → va_S (AM G) s.heap H locs → lv_has ls 3 [(0, .ref (adM G 0 0)), (1, .int x1), (2, .int x2)] → W p l e rm_X8_acted s m args below meth c H locs 0 0 (MQ below (va_Qi (fun (r2 : Int32) (_ : Unit) => r2 = r) (fun _ t => PW G (AM G) (XM G) sz M' t t.heap) (AM G)) args s 0 0 (AM G)) (F0 m 16 ls []) := by
  obtain ⟨hx, hb, hr, hlocks, hml, hown, hts, hK⟩ := id E
  intro fu
  induction fu with
  | zero => intro x1 x2 M H locs ls hf hP hS hl; cases hf
  | succ fu ih =>
    intro x1 x2 M H locs ls hf hP hS hl
    rw [f_X8_acted_b16.eq_2] at hf
    refine lv_iload_n hx hb dX8_acted_16 rfl (lv_at hl 2 rfl) ?_
    refine lv_sipush (v := 543) hx hb dX8_acted_17 (by decide) ?_
    refine lv_icmp_ge (tgt := 45) hx hb dX8_acted_20 (by decide) (fun hc => ?_) (fun hc => ?_)
    · have hf := if_t hf hc
      refine lv_aload_n hx hb dX8_acted_45 rfl (lv_at hl 0 rfl) ?_
      refine lv_dup hx hb dX8_acted_46 rfl ?_
      refine gf_X8_states E hP w_801 dX8_acted_47 ?_
      refine lv_iconst (v := 1) hx hb dX8_acted_50 (by decide) ?_
      refine lv_isub hx hb dX8_acted_51 ?_
      refine lt_e hf (fun M_52 hM_52 hf => ?_)
      refine pf_X8_states E hP hS hM_52 w_801 dX8_acted_52 (fun H locs hP hS => ?_)
      exact w_X8_acted_b55 E hf hP hS (lv_sub hl [0, 1] rfl)
    · have hf := if_f hf hc
      refine lv_aload_n hx hb dX8_acted_23 rfl (lv_at hl 0 rfl) ?_
      refine gf_X8_was E hP w_798 dX8_acted_24 ?_
      refine lv_iload_n hx hb dX8_acted_27 rfl (lv_at hl 2 rfl) ?_
      refine lv_aload_n hx hb dX8_acted_28 rfl (lv_at hl 0 rfl) ?_
      refine gf_X8_was E hP w_798 dX8_acted_29 ?_
      refine lv_iload_n hx hb dX8_acted_32 rfl (lv_at hl 2 rfl) ?_
      refine lv_sipush (v := 181) hx hb dX8_acted_33 (by decide) ?_
      refine lv_iadd hx hb dX8_acted_36 ?_
      refine ck_e hf (fun hi hf => ?_)
      refine la_M2 E hP hi dX8_acted_37 ?_
      refine ck_e hf (fun hi hf => ?_)
      refine lt_e hf (fun M_38 hM_38 hf => ?_)
      refine sa_M2 E hP hS hi hM_38 dX8_acted_38 (fun H locs hP hS => ?_)
      refine lt_e hf (fun x2_39 hx2_39 hf => ?_)
      refine lv_iinc (v := x2_39) (lv' := [(2, .int x2_39), (0, .ref (adM G 0 0)), (1, .int x1)]) hx hb dX8_acted_39 hl (k := 2) rfl (by rw [hx2_39]; rfl) (by decide) rfl (fun ls hl => ?_)
      refine lv_goto (tgt := 16) hx hb dX8_acted_42 (by decide) ?_
      exact ih _ _ _ _ _ _ hf hP hS (lv_sub hl [1, 2, 0] rfl)
set_option maxHeartbeats 4000000 in
set_option maxRecDepth 100000 in
theorem w_X8_acted {p : Program} {l : Launch} {e : Env} {s : State} {m : MethodId} {args : Array Value} {below : List Frame} {meth : Method} {c : Code} {G : GG} {sz : Nat} {r : Int32} {M' : Mem} (E : Cx p s m args meth c cX8_acted (some .int) 3 RX8 G) {x1 : Int32} {M : Mem} {H : Heap} {locs : List Loc} {ls : Array Slot} (hf : f_X8_acted x1 M = some (r, M')) (hP : PW G (AM G) (XM G) sz M s H) (hS : va_S (AM G) s.heap H locs) (hl : lv_has ls 3 [(0, .ref (adM G 0 0)), (1, .int x1)]) : W p l e rm_X8_acted s m args below meth c H locs 0 0 (MQ below (va_Qi (fun (r2 : Int32) (_ : Unit) => r2 = r) (fun _ t => PW G (AM G) (XM G) sz M' t t.heap) (AM G)) args s 0 0 (AM G)) (F0 m 0 ls []) := by
  obtain ⟨hx, hb, hr, hlocks, hml, hown, hts, hK⟩ := id E
  unfold f_X8_acted at hf
  refine lv_iload_n hx hb dX8_acted_0 rfl (lv_at hl 1 rfl) ?_
  refine lv_ldc (v := (-1000001)) hx hb hown (hts _ w_854) dX8_acted_1 ?_
  refine lv_icmp_le (tgt := 101) hx hb dX8_acted_3 (by decide) (fun hc => ?_) (fun hc => ?_)
  · have hf := if_t hf hc
    exact w_X8_acted_b101 E hf hP hS (lv_sub hl [1] rfl)
  · have hf := if_f hf hc
    refine lv_aload_n hx hb dX8_acted_6 rfl (lv_at hl 0 rfl) ?_
    refine gf_X8_states E hP w_801 dX8_acted_7 ?_
    refine lv_iconst (v := 4) hx hb dX8_acted_10 (by decide) ?_
    refine lv_icmp_ne (tgt := 55) hx hb dX8_acted_11 (by decide) (fun hc => ?_) (fun hc => ?_)
    · have hf := if_f hf hc
      exact w_X8_acted_b55 E hf hP hS (lv_sub hl [0, 1] rfl)
    · have hf := if_t hf hc
      refine lv_iconst (v := 0) hx hb dX8_acted_14 (by decide) ?_
      refine lv_istore_n (lv' := [(2, .int 0), (0, .ref (adM G 0 0)), (1, .int x1)]) hx hb dX8_acted_15 rfl hl (by decide) rfl (fun ls hl => ?_)
      exact w_X8_acted_b16 E 1000 _ _ _ _ _ _ hf hP hS (lv_sub hl [1, 2, 0] rfl)
theorem c_X8_acted (l : Launch) {G : GG} {sz : Nat} {x1 : Int32} {M : Mem} {r : Int32} {M' : Mem} (hf : f_X8_acted x1 M = some (r, M')) : CtI l yX8_acted cX8_acted 3 (some .int) rm_X8_acted [.ref (adM G 0 0), .int x1] G (AM G) (XM G) sz M r (XM G) sz M' := by
  refine Ct_of (by decide) (Nat.le_of_ble_eq_true rfl) (fun p e s m below meth c ls hx hb hr hlocks hml hown hts hK hP hl => ?_)
  exact w_X8_acted ⟨hx, hb, hr, hlocks, hml, hown, hts, hK⟩ hf hP va_S.rf hl
set_option maxRecDepth 100000 in
theorem cv_X8_acted {p : Program} {l : Launch} {e : Env} {R : Room} {s : State} {m : MethodId} {args : Array Value} {below : List Frame} {meth : Method} {c : Code} {H : Heap} {locs : List Loc} {cells slots : Nat} {Q : State → Prop} {cc : ByteArray} {pc nL index : Nat} {ret : Option FieldType} {own : String} {ls : Array Slot} {rest : List Value} {l' : List (Nat × Value)} {G : GG} {sz : Nat} {M : Mem} (E : Cx p s m args meth c cc ret nL own G) (hP : PW G (AM G) (XM G) sz M s H) (hS : va_S (AM G) s.heap H locs) {x1 : Int32} {r : Int32} {M' : Mem} (hq : f_X8_acted x1 M = some (r, M')) (w1 : Cond.methodLink own index yX8_acted ∈ lw_all) (hR : 1 ≤ R.frames ∧ 22 ≤ R.locals) (hl : lv_has ls nL l') (hrest : (rest.map fun v => v.category).sum ≤ 8) (hdg : decode cc pc = .ok (.invokevirtual index, 3)) (hcs : cells ≤ R.cells ∧ slots ≤ R.slots)
    (kk : ∀ (H1 : Heap) (locs1 : List Loc), PW G (AM G) (XM G) sz M' s H1 → va_S (AM G) s.heap H1 locs1 → W p l e R s m args below meth c H1 locs1 cells slots Q (F0 m (pc + 3) ls (.int r :: rest))) : W p l e R s m args below meth c H locs cells slots Q (F0 m pc ls (.int x1 :: .ref (adM G 0 0) :: rest)) := by
  obtain ⟨hx, hb, hr, hlocks, hml, hown, hts, hK⟩ := E
  exact kc_i (kc_runV (na := 1) (q := (RX8, TX8, 16)) hx hb hml hts hown hK hP 0 0 ⟨rfl, by decide⟩ rfl rfl rfl (c_X8_acted l hq) w1 w_861 ws_20 w_9 w_862 (by decide +kernel) hR rfl hl rfl hrest hdg hcs) hS kk
/-! X8_set -/
abbrev rm_X8_set : Room := { frames := 1, cells := 0, slots := 0, locals := 22 }
def f_X8_set_b61 (M : Mem) : Option (Int32 × Mem) :=
some ((-1000001), M)
def f_X8_set_b54 (x1 : Int32) (x2 : Int32) (x3 : Int32) (s0 : Int32) (s1 : Int32) (M : Mem) : Option (Int32 × Mem) :=
ob (f_X8_in s0 s1 x3 M) fun r_55 M_55 =>
(if r_55 = 0 then
  f_X8_set_b61 M_55
else
  ob (f_X8_keeps M_55) fun _ M_65 =>
  ck (ibd (2 + x1) 181) <|
  lt ((M_65 0 1 (ix (2 + x1)))) fun x4_76 =>
  ck (ibd (2 + x1) 181) <|
  lt (up3 M_65 0 1 (ix (2 + x1)) x2) fun M_86 =>
  ob (f_X8_acted x4_76 M_86) fun r_90 M_90 =>
  some (r_90, M_90))
def f_X8_set_b33 (x1 : Int32) (x2 : Int32) (s0 : Int32) (M : Mem) : Option (Int32 × Mem) :=
ob (f_X8_in x1 0 4 M) fun r_37 M_37 =>
(if r_37 = 0 then
  f_X8_set_b61 M_37
else
  (if x1 = 1 then
    f_X8_set_b54 x1 x2 s0 x2 1 M_37
  else
    f_X8_set_b54 x1 x2 s0 x2 0 M_37))
def f_X8_set (x1 : Int32) (x2 : Int32) (M : Mem) : Option (Int32 × Mem) :=
(if x1 = 0 then
  f_X8_set_b33 x1 x2 500 M
else
  (if x1 = 1 then
    f_X8_set_b33 x1 x2 200 M
  else
    (if x1 = 2 then
      f_X8_set_b33 x1 x2 100 M
    else
      f_X8_set_b33 x1 x2 50 M)))
set_option maxHeartbeats 4000000 in
set_option maxRecDepth 100000 in
theorem w_X8_set_b61 {p : Program} {l : Launch} {e : Env} {s : State} {m : MethodId} {args : Array Value} {below : List Frame} {meth : Method} {c : Code} {G : GG} {sz : Nat} {r : Int32} {M' : Mem} (E : Cx p s m args meth c cX8_set (some .int) 5 RX8 G) {M : Mem} {H : Heap} {locs : List Loc} {ls : Array Slot} (hf : f_X8_set_b61 M = some (r, M')) (hP : PW G (AM G) (XM G) sz M s H) (hS : va_S (AM G) s.heap H locs) (hl : lv_has ls 5 []) : W p l e rm_X8_set s m args below meth c H locs 0 0 (MQ below (va_Qi (fun (r2 : Int32) (_ : Unit) => r2 = r) (fun _ t => PW G (AM G) (XM G) sz M' t t.heap) (AM G)) args s 0 0 (AM G)) (F0 m 61 ls []) := by
  obtain ⟨hx, hb, hr, hlocks, hml, hown, hts, hK⟩ := id E
  unfold f_X8_set_b61 at hf
  refine lv_ldc (v := (-1000001)) hx hb hown (hts _ w_854) dX8_set_61 ?_
  exact en_i hf hx hb hr rfl hlocks hP hS dX8_set_63
set_option maxHeartbeats 4000000 in
set_option maxRecDepth 100000 in
theorem w_X8_set_b54 {p : Program} {l : Launch} {e : Env} {s : State} {m : MethodId} {args : Array Value} {below : List Frame} {meth : Method} {c : Code} {G : GG} {sz : Nat} {r : Int32} {M' : Mem} (E : Cx p s m args meth c cX8_set (some .int) 5 RX8 G) {x1 : Int32} {x2 : Int32} {x3 : Int32} {s0 : Int32} {s1 : Int32} {M : Mem} {H : Heap} {locs : List Loc} {ls : Array Slot} (hf : f_X8_set_b54 x1 x2 x3 s0 s1 M = some (r, M')) (hP : PW G (AM G) (XM G) sz M s H) (hS : va_S (AM G) s.heap H locs) (hl : lv_has ls 5 [(0, .ref (adM G 0 0)), (1, .int x1), (2, .int x2), (3, .int x3)]) : W p l e rm_X8_set s m args below meth c H locs 0 0 (MQ below (va_Qi (fun (r2 : Int32) (_ : Unit) => r2 = r) (fun _ t => PW G (AM G) (XM G) sz M' t t.heap) (AM G)) args s 0 0 (AM G)) (F0 m 54 ls [.int s1, .int s0]) := by
  obtain ⟨hx, hb, hr, hlocks, hml, hown, hts, hK⟩ := id E
  unfold f_X8_set_b54 at hf
  refine lv_iload_n hx hb dX8_set_54 rfl (lv_at hl 3 rfl) ?_
  refine ob_e hf (fun r_55 M_55 hq hf => ?_)
  refine cv_X8_in E hP hS hq w_851 ⟨Nat.le_of_ble_eq_true rfl, Nat.le_of_ble_eq_true rfl⟩ hl (Nat.le_of_ble_eq_true rfl) dX8_set_55 ⟨Nat.le_of_ble_eq_true rfl, Nat.le_of_ble_eq_true rfl⟩ (fun H locs hP hS => ?_)
  refine lv_if_ne (tgt := 64) hx hb dX8_set_58 (by decide) (fun hc => ?_) (fun hc => ?_)
  · have hf := if_f hf hc
    refine lv_aload_n hx hb dX8_set_64 rfl (lv_at hl 0 rfl) ?_
    refine ob_e hf (fun r_65 M_65 hq hf => ?_)
    refine cv_X8_keeps E hP hS hq w_855 ⟨Nat.le_of_ble_eq_true rfl, Nat.le_of_ble_eq_true rfl⟩ hl (Nat.le_of_ble_eq_true rfl) dX8_set_65 ⟨Nat.le_of_ble_eq_true rfl, Nat.le_of_ble_eq_true rfl⟩ (fun H locs hP hS => ?_)
    refine lv_aload_n hx hb dX8_set_68 rfl (lv_at hl 0 rfl) ?_
    refine gf_X8_s E hP w_797 dX8_set_69 ?_
    refine lv_iconst (v := 2) hx hb dX8_set_72 (by decide) ?_
    refine lv_iload_n hx hb dX8_set_73 rfl (lv_at hl 1 rfl) ?_
    refine lv_iadd hx hb dX8_set_74 ?_
    refine ck_e hf (fun hi hf => ?_)
    refine la_M1 E hP hi dX8_set_75 ?_
    refine lt_e hf (fun x4_76 hx4_76 hf => ?_)
    refine kr_nm hx4_76 ?_
    refine lv_istore (lv' := [(4, .int x4_76), (0, .ref (adM G 0 0)), (1, .int x1), (2, .int x2), (3, .int x3)]) hx hb dX8_set_76 hl (by decide) rfl (fun ls hl => ?_)
    refine lv_aload_n hx hb dX8_set_78 rfl (lv_at hl 1 rfl) ?_
    refine gf_X8_s E hP w_797 dX8_set_79 ?_
    refine lv_iconst (v := 2) hx hb dX8_set_82 (by decide) ?_
    refine lv_iload_n hx hb dX8_set_83 rfl (lv_at hl 2 rfl) ?_
    refine lv_iadd hx hb dX8_set_84 ?_
    refine lv_iload_n hx hb dX8_set_85 rfl (lv_at hl 3 rfl) ?_
    refine ck_e hf (fun hi hf => ?_)
    refine lt_e hf (fun M_86 hM_86 hf => ?_)
    refine sa_M1 E hP hS hi hM_86 dX8_set_86 (fun H locs hP hS => ?_)
    refine lv_aload_n hx hb dX8_set_87 rfl (lv_at hl 1 rfl) ?_
    refine lv_iload hx hb dX8_set_88 (lv_at hl 0 rfl) ?_
    refine ob_e hf (fun r_90 M_90 hq hf => ?_)
    refine cv_X8_acted E hP hS hq w_859 ⟨Nat.le_of_ble_eq_true rfl, Nat.le_of_ble_eq_true rfl⟩ hl (Nat.le_of_ble_eq_true rfl) dX8_set_90 ⟨Nat.le_of_ble_eq_true rfl, Nat.le_of_ble_eq_true rfl⟩ (fun H locs hP hS => ?_)
    exact en_i hf hx hb hr rfl hlocks hP hS dX8_set_93
  · have hf := if_t hf hc
    exact w_X8_set_b61 E hf hP hS (lv_sub hl [] rfl)
set_option maxHeartbeats 4000000 in
set_option maxRecDepth 100000 in
theorem w_X8_set_b33 {p : Program} {l : Launch} {e : Env} {s : State} {m : MethodId} {args : Array Value} {below : List Frame} {meth : Method} {c : Code} {G : GG} {sz : Nat} {r : Int32} {M' : Mem} (E : Cx p s m args meth c cX8_set (some .int) 5 RX8 G) {x1 : Int32} {x2 : Int32} {s0 : Int32} {M : Mem} {H : Heap} {locs : List Loc} {ls : Array Slot} (hf : f_X8_set_b33 x1 x2 s0 M = some (r, M')) (hP : PW G (AM G) (XM G) sz M s H) (hS : va_S (AM G) s.heap H locs) (hl : lv_has ls 5 [(0, .ref (adM G 0 0)), (1, .int x1), (2, .int x2)]) : W p l e rm_X8_set s m args below meth c H locs 0 0 (MQ below (va_Qi (fun (r2 : Int32) (_ : Unit) => r2 = r) (fun _ t => PW G (AM G) (XM G) sz M' t t.heap) (AM G)) args s 0 0 (AM G)) (F0 m 33 ls [.int s0]) := by
  obtain ⟨hx, hb, hr, hlocks, hml, hown, hts, hK⟩ := id E
  unfold f_X8_set_b33 at hf
  refine lv_istore_n (lv' := [(3, .int s0), (0, .ref (adM G 0 0)), (1, .int x1), (2, .int x2)]) hx hb dX8_set_33 rfl hl (by decide) rfl (fun ls hl => ?_)
  refine lv_iload_n hx hb dX8_set_34 rfl (lv_at hl 2 rfl) ?_
  refine lv_iconst (v := 0) hx hb dX8_set_35 (by decide) ?_
  refine lv_iconst (v := 4) hx hb dX8_set_36 (by decide) ?_
  refine ob_e hf (fun r_37 M_37 hq hf => ?_)
  refine cv_X8_in E hP hS hq w_851 ⟨Nat.le_of_ble_eq_true rfl, Nat.le_of_ble_eq_true rfl⟩ hl (Nat.le_of_ble_eq_true rfl) dX8_set_37 ⟨Nat.le_of_ble_eq_true rfl, Nat.le_of_ble_eq_true rfl⟩ (fun H locs hP hS => ?_)
  refine lv_if_eq (tgt := 61) hx hb dX8_set_40 (by decide) (fun hc => ?_) (fun hc => ?_)
  · have hf := if_t hf hc
    exact w_X8_set_b61 E hf hP hS (lv_sub hl [] rfl)
  · have hf := if_f hf hc
    refine lv_iload_n hx hb dX8_set_43 rfl (lv_at hl 3 rfl) ?_
    refine lv_iload_n hx hb dX8_set_44 rfl (lv_at hl 2 rfl) ?_
    refine lv_iconst (v := 1) hx hb dX8_set_45 (by decide) ?_
    refine lv_icmp_ne (tgt := 53) hx hb dX8_set_46 (by decide) (fun hc => ?_) (fun hc => ?_)
    · have hf := if_f hf hc
      refine lv_iconst (v := 0) hx hb dX8_set_53 (by decide) ?_
      exact w_X8_set_b54 E hf hP hS (lv_sub hl [1, 2, 3, 0] rfl)
    · have hf := if_t hf hc
      refine lv_iconst (v := 1) hx hb dX8_set_49 (by decide) ?_
      refine lv_goto (tgt := 54) hx hb dX8_set_50 (by decide) ?_
      exact w_X8_set_b54 E hf hP hS (lv_sub hl [1, 2, 3, 0] rfl)
set_option maxHeartbeats 4000000 in
set_option maxRecDepth 100000 in
theorem w_X8_set {p : Program} {l : Launch} {e : Env} {s : State} {m : MethodId} {args : Array Value} {below : List Frame} {meth : Method} {c : Code} {G : GG} {sz : Nat} {r : Int32} {M' : Mem} (E : Cx p s m args meth c cX8_set (some .int) 5 RX8 G) {x1 : Int32} {x2 : Int32} {M : Mem} {H : Heap} {locs : List Loc} {ls : Array Slot} (hf : f_X8_set x1 x2 M = some (r, M')) (hP : PW G (AM G) (XM G) sz M s H) (hS : va_S (AM G) s.heap H locs) (hl : lv_has ls 5 [(0, .ref (adM G 0 0)), (1, .int x1), (2, .int x2)]) : W p l e rm_X8_set s m args below meth c H locs 0 0 (MQ below (va_Qi (fun (r2 : Int32) (_ : Unit) => r2 = r) (fun _ t => PW G (AM G) (XM G) sz M' t t.heap) (AM G)) args s 0 0 (AM G)) (F0 m 0 ls []) := by
  obtain ⟨hx, hb, hr, hlocks, hml, hown, hts, hK⟩ := id E
  unfold f_X8_set at hf
  refine lv_iload_n hx hb dX8_set_0 rfl (lv_at hl 1 rfl) ?_
  refine lv_if_ne (tgt := 10) hx hb dX8_set_1 (by decide) (fun hc => ?_) (fun hc => ?_)
  · have hf := if_f hf hc
    refine lv_iload_n hx hb dX8_set_10 rfl (lv_at hl 1 rfl) ?_
    refine lv_iconst (v := 1) hx hb dX8_set_11 (by decide) ?_
    refine lv_icmp_ne (tgt := 21) hx hb dX8_set_12 (by decide) (fun hc => ?_) (fun hc => ?_)
    · have hf := if_f hf hc
      refine lv_iload_n hx hb dX8_set_21 rfl (lv_at hl 1 rfl) ?_
      refine lv_iconst (v := 2) hx hb dX8_set_22 (by decide) ?_
      refine lv_icmp_ne (tgt := 31) hx hb dX8_set_23 (by decide) (fun hc => ?_) (fun hc => ?_)
      · have hf := if_f hf hc
        refine lv_bipush (v := 50) hx hb dX8_set_31 (by decide) ?_
        exact w_X8_set_b33 E hf hP hS (lv_sub hl [0, 1, 2] rfl)
      · have hf := if_t hf hc
        refine lv_bipush (v := 100) hx hb dX8_set_26 (by decide) ?_
        refine lv_goto (tgt := 33) hx hb dX8_set_28 (by decide) ?_
        exact w_X8_set_b33 E hf hP hS (lv_sub hl [0, 1, 2] rfl)
    · have hf := if_t hf hc
      refine lv_sipush (v := 200) hx hb dX8_set_15 (by decide) ?_
      refine lv_goto (tgt := 33) hx hb dX8_set_18 (by decide) ?_
      exact w_X8_set_b33 E hf hP hS (lv_sub hl [0, 1, 2] rfl)
  · have hf := if_t hf hc
    refine lv_sipush (v := 500) hx hb dX8_set_4 (by decide) ?_
    refine lv_goto (tgt := 33) hx hb dX8_set_7 (by decide) ?_
    exact w_X8_set_b33 E hf hP hS (lv_sub hl [0, 1, 2] rfl)
theorem c_X8_set (l : Launch) {G : GG} {sz : Nat} {x1 : Int32} {x2 : Int32} {M : Mem} {r : Int32} {M' : Mem} (hf : f_X8_set x1 x2 M = some (r, M')) : CtI l yX8_set cX8_set 5 (some .int) rm_X8_set [.ref (adM G 0 0), .int x1, .int x2] G (AM G) (XM G) sz M r (XM G) sz M' := by
  refine Ct_of (by decide) (Nat.le_of_ble_eq_true rfl) (fun p e s m below meth c ls hx hb hr hlocks hml hown hts hK hP hl => ?_)
  exact w_X8_set ⟨hx, hb, hr, hlocks, hml, hown, hts, hK⟩ hf hP va_S.rf hl
set_option maxRecDepth 100000 in
theorem cv_X8_set {p : Program} {l : Launch} {e : Env} {R : Room} {s : State} {m : MethodId} {args : Array Value} {below : List Frame} {meth : Method} {c : Code} {H : Heap} {locs : List Loc} {cells slots : Nat} {Q : State → Prop} {cc : ByteArray} {pc nL index : Nat} {ret : Option FieldType} {own : String} {ls : Array Slot} {rest : List Value} {l' : List (Nat × Value)} {G : GG} {sz : Nat} {M : Mem} (E : Cx p s m args meth c cc ret nL own G) (hP : PW G (AM G) (XM G) sz M s H) (hS : va_S (AM G) s.heap H locs) {x1 : Int32} {x2 : Int32} {r : Int32} {M' : Mem} (hq : f_X8_set x1 x2 M = some (r, M')) (w1 : Cond.methodLink own index yX8_set ∈ lw_all) (hR : 2 ≤ R.frames ∧ 46 ≤ R.locals) (hl : lv_has ls nL l') (hrest : (rest.map fun v => v.category).sum ≤ 8) (hdg : decode cc pc = .ok (.invokevirtual index, 3)) (hcs : cells ≤ R.cells ∧ slots ≤ R.slots)
    (kk : ∀ (H1 : Heap) (locs1 : List Loc), PW G (AM G) (XM G) sz M' s H1 → va_S (AM G) s.heap H1 locs1 → W p l e R s m args below meth c H1 locs1 cells slots Q (F0 m (pc + 3) ls (.int r :: rest))) : W p l e R s m args below meth c H locs cells slots Q (F0 m pc ls (.int x2 :: .int x1 :: .ref (adM G 0 0) :: rest)) := by
  obtain ⟨hx, hb, hr, hlocks, hml, hown, hts, hK⟩ := E
  exact kc_i (kc_runV (na := 2) (q := (RX8, TX8, 16)) hx hb hml hts hown hK hP 0 0 ⟨rfl, by decide⟩ rfl rfl rfl (c_X8_set l hq) w1 w_848 w_849 w_9 w_850 (by decide +kernel) hR rfl hl rfl hrest hdg hcs) hS kk
/-! X8_pen -/
abbrev rm_X8_pen : Room := { frames := 1, cells := 0, slots := 0, locals := 23 }
def f_X8_pen_b40 (M : Mem) : Option (Int32 × Mem) :=
some ((-1000001), M)
def f_X8_pen_b101 (L63 : Int32 → Int32 → Int32 → Int32 → Int32 → Int32 → Mem → Option (Int32 × Mem)) (x1 : Int32) (x2 : Int32) (x3 : Int32) (x4 : Int32) (x6 : Int32) (s0 : Int32) (M : Mem) : Option (Int32 × Mem) :=
lt (x6 + 1) fun x6_103 =>
L63 x1 x2 x3 x4 s0 x6_103 M
def f_X8_pen_b100 (L63 : Int32 → Int32 → Int32 → Int32 → Int32 → Int32 → Mem → Option (Int32 × Mem)) (x1 : Int32) (x2 : Int32) (x3 : Int32) (x4 : Int32) (x6 : Int32) (M : Mem) : Option (Int32 × Mem) :=
f_X8_pen_b101 L63 x1 x2 x3 x4 x6 0 M
def f_X8_pen_b155 : Nat → Int32 → Int32 → Int32 → Int32 → Int32 → Int32 → Mem → Option (Int32 × Mem)
  | 0 => fun _ _ _ _ _ _ _ => none
  | fu + 1 => fun x1 x2 x3 x4 x6 x7 M =>
(if 8 ≤ x7 then
  ob (f_X8_lays x6 0 x1 M) fun _ M_182 =>
  ob (f_X8_lays x6 1 x2 M_182) fun _ M_190 =>
  ob (f_X8_lays x6 2 x2 M_190) fun _ M_198 =>
  ob (f_X8_lays x6 5 ((10 * x3) + x4) M_198) fun _ M_212 =>
  ob (f_X8_acted x6 M_212) fun r_218 M_218 =>
  some (r_218, M_218)
else
  ob (f_X8_lays x6 x7 0 M) fun _ M_168 =>
  lt (x7 + 1) fun x7_171 =>
  f_X8_pen_b155 fu x1 x2 x3 x4 x6 x7_171 M_168)
def f_X8_pen_b63 : Nat → Int32 → Int32 → Int32 → Int32 → Int32 → Int32 → Mem → Option (Int32 × Mem)
  | 0 => fun _ _ _ _ _ _ _ => none
  | fu + 1 => fun x1 x2 x3 x4 x5 x6 M =>
(if (M 0 1 (ix 0)) ≤ x6 then
  (if x5 = 0 then
    some ((-1000002), M)
  else
    (if (M 0 1 (ix 0)) = 5 then
      some ((-1000003), M)
    else
      ob (f_X8_keeps M) fun _ M_131 =>
      lt ((M_131 0 1 (ix 0))) fun x6_140 =>
      lt (up3 M_131 0 1 (ix 0) ((M_131 0 1 (ix 0)) + 1)) fun M_151 =>
      f_X8_pen_b155 1000 x1 x2 x3 x4 x6_140 0 M_151))
else
  (if x5 = 0 then
    f_X8_pen_b100 (f_X8_pen_b63 fu) x1 x2 x3 x4 x6 M
  else
    ob (f_X8_pn x6 5 M) fun r_83 M_83 =>
    (if r_83 = ((10 * x3) + x4) then
      f_X8_pen_b100 (f_X8_pen_b63 fu) x1 x2 x3 x4 x6 M_83
    else
      f_X8_pen_b101 (f_X8_pen_b63 fu) x1 x2 x3 x4 x6 1 M_83)))
def f_X8_pen_b58 (x1 : Int32) (x2 : Int32) (x3 : Int32) (x4 : Int32) (s0 : Int32) (M : Mem) : Option (Int32 × Mem) :=
f_X8_pen_b63 1000 x1 x2 x3 x4 s0 0 M
def f_X8_pen_b53 (x1 : Int32) (x2 : Int32) (x3 : Int32) (x4 : Int32) (M : Mem) : Option (Int32 × Mem) :=
f_X8_pen_b58 x1 x2 x3 x4 1 M
def f_X8_pen (x1 : Int32) (x2 : Int32) (x3 : Int32) (x4 : Int32) (M : Mem) : Option (Int32 × Mem) :=
ob (f_X8_in x1 0 1 M) fun r_3 M_3 =>
(if r_3 = 0 then
  f_X8_pen_b40 M_3
else
  ob (f_X8_in x2 10 5000 M_3) fun r_15 M_15 =>
  (if r_15 = 0 then
    f_X8_pen_b40 M_15
  else
    ob (f_X8_in x3 0 2 M_15) fun r_24 M_24 =>
    (if r_24 = 0 then
      f_X8_pen_b40 M_24
    else
      ob (f_X8_in x4 0 1 M_24) fun r_34 M_34 =>
      (if r_34 = 0 then
        f_X8_pen_b40 M_34
      else
        (if x3 = 2 then
          f_X8_pen_b53 x1 x2 x3 x4 M_34
        else
          (if x3 = x1 then
            f_X8_pen_b53 x1 x2 x3 x4 M_34
          else
            f_X8_pen_b58 x1 x2 x3 x4 0 M_34))))))
set_option maxHeartbeats 4000000 in
set_option maxRecDepth 100000 in
theorem w_X8_pen_b40 {p : Program} {l : Launch} {e : Env} {s : State} {m : MethodId} {args : Array Value} {below : List Frame} {meth : Method} {c : Code} {G : GG} {sz : Nat} {r : Int32} {M' : Mem} (E : Cx p s m args meth c cX8_pen (some .int) 8 RX8 G) {M : Mem} {H : Heap} {locs : List Loc} {ls : Array Slot} (hf : f_X8_pen_b40 M = some (r, M')) (hP : PW G (AM G) (XM G) sz M s H) (hS : va_S (AM G) s.heap H locs) (hl : lv_has ls 8 []) : W p l e rm_X8_pen s m args below meth c H locs 0 0 (MQ below (va_Qi (fun (r2 : Int32) (_ : Unit) => r2 = r) (fun _ t => PW G (AM G) (XM G) sz M' t t.heap) (AM G)) args s 0 0 (AM G)) (F0 m 40 ls []) := by
  obtain ⟨hx, hb, hr, hlocks, hml, hown, hts, hK⟩ := id E
  unfold f_X8_pen_b40 at hf
  refine lv_ldc (v := (-1000001)) hx hb hown (hts _ w_854) dX8_pen_40 ?_
  exact en_i hf hx hb hr rfl hlocks hP hS dX8_pen_42
set_option maxHeartbeats 4000000 in
set_option maxRecDepth 100000 in
theorem w_X8_pen_b101 {p : Program} {l : Launch} {e : Env} {s : State} {m : MethodId} {args : Array Value} {below : List Frame} {meth : Method} {c : Code} {G : GG} {sz : Nat} {r : Int32} {M' : Mem} (E : Cx p s m args meth c cX8_pen (some .int) 8 RX8 G) {L63 : Int32 → Int32 → Int32 → Int32 → Int32 → Int32 → Mem → Option (Int32 × Mem)} (hL63 : ∀ (x1 : Int32) (x2 : Int32) (x3 : Int32) (x4 : Int32) (x5 : Int32) (x6 : Int32) (M : Mem) (H : Heap) (locs : List Loc) (ls : Array Slot), L63 x1 x2 x3 x4 x5 x6 M = some (r, M') → PW G (AM G) (XM G) sz M s H → va_S (AM G) s.heap H locs → lv_has ls 8 [(0, .ref (adM G 0 0)), (1, .int x1), (2, .int x2), (3, .int x3), (4, .int x4), (5, .int x5), (6, .int x6)] → W p l e rm_X8_pen s m args below meth c H locs 0 0 (MQ below (va_Qi (fun (r2 : Int32) (_ : Unit) => r2 = r) (fun _ t => PW G (AM G) (XM G) sz M' t t.heap) (AM G)) args s 0 0 (AM G)) (F0 m 63 ls [])) {x1 : Int32} {x2 : Int32} {x3 : Int32} {x4 : Int32} {x6 : Int32} {s0 : Int32} {M : Mem} {H : Heap} {locs : List Loc} {ls : Array Slot} (hf : f_X8_pen_b101 L63 x1 x2 x3 x4 x6 s0 M = some (r, M')) (hP : PW G (AM G) (XM G) sz M s H) (hS : va_S (AM G) s.heap H locs) (hl : lv_has ls 8 [(0, .ref (adM G 0 0)), (1, .int x1), (2, .int x2), (3, .int x3), (4, .int x4), (6, .int x6)]) : W p l e rm_X8_pen s m args below meth c H locs 0 0 (MQ below (va_Qi (fun (r2 : Int32) (_ : Unit) => r2 = r) (fun _ t => PW G (AM G) (XM G) sz M' t t.heap) (AM G)) args s 0 0 (AM G)) (F0 m 101 ls [.int s0]) := by
  obtain ⟨hx, hb, hr, hlocks, hml, hown, hts, hK⟩ := id E
  unfold f_X8_pen_b101 at hf
  refine lv_istore (lv' := [(5, .int s0), (0, .ref (adM G 0 0)), (1, .int x1), (2, .int x2), (3, .int x3), (4, .int x4), (6, .int x6)]) hx hb dX8_pen_101 hl (by decide) rfl (fun ls hl => ?_)
  refine lt_e hf (fun x6_103 hx6_103 hf => ?_)
  refine lv_iinc (v := x6_103) (lv' := [(6, .int x6_103), (5, .int s0), (0, .ref (adM G 0 0)), (1, .int x1), (2, .int x2), (3, .int x3), (4, .int x4)]) hx hb dX8_pen_103 hl (k := 6) rfl (by rw [hx6_103]; rfl) (by decide) rfl (fun ls hl => ?_)
  refine lv_goto (tgt := 63) hx hb dX8_pen_106 (by decide) ?_
  exact hL63 _ _ _ _ _ _ _ _ _ _ hf hP hS (lv_sub hl [2, 3, 4, 5, 6, 1, 0] rfl)
set_option maxHeartbeats 4000000 in
set_option maxRecDepth 100000 in
theorem w_X8_pen_b100 {p : Program} {l : Launch} {e : Env} {s : State} {m : MethodId} {args : Array Value} {below : List Frame} {meth : Method} {c : Code} {G : GG} {sz : Nat} {r : Int32} {M' : Mem} (E : Cx p s m args meth c cX8_pen (some .int) 8 RX8 G) {L63 : Int32 → Int32 → Int32 → Int32 → Int32 → Int32 → Mem → Option (Int32 × Mem)} (hL63 : ∀ (x1 : Int32) (x2 : Int32) (x3 : Int32) (x4 : Int32) (x5 : Int32) (x6 : Int32) (M : Mem) (H : Heap) (locs : List Loc) (ls : Array Slot), L63 x1 x2 x3 x4 x5 x6 M = some (r, M') → PW G (AM G) (XM G) sz M s H → va_S (AM G) s.heap H locs → lv_has ls 8 [(0, .ref (adM G 0 0)), (1, .int x1), (2, .int x2), (3, .int x3), (4, .int x4), (5, .int x5), (6, .int x6)] → W p l e rm_X8_pen s m args below meth c H locs 0 0 (MQ below (va_Qi (fun (r2 : Int32) (_ : Unit) => r2 = r) (fun _ t => PW G (AM G) (XM G) sz M' t t.heap) (AM G)) args s 0 0 (AM G)) (F0 m 63 ls [])) {x1 : Int32} {x2 : Int32} {x3 : Int32} {x4 : Int32} {x6 : Int32} {M : Mem} {H : Heap} {locs : List Loc} {ls : Array Slot} (hf : f_X8_pen_b100 L63 x1 x2 x3 x4 x6 M = some (r, M')) (hP : PW G (AM G) (XM G) sz M s H) (hS : va_S (AM G) s.heap H locs) (hl : lv_has ls 8 [(0, .ref (adM G 0 0)), (1, .int x1), (2, .int x2), (3, .int x3), (4, .int x4), (6, .int x6)]) : W p l e rm_X8_pen s m args below meth c H locs 0 0 (MQ below (va_Qi (fun (r2 : Int32) (_ : Unit) => r2 = r) (fun _ t => PW G (AM G) (XM G) sz M' t t.heap) (AM G)) args s 0 0 (AM G)) (F0 m 100 ls []) := by
  obtain ⟨hx, hb, hr, hlocks, hml, hown, hts, hK⟩ := id E
  unfold f_X8_pen_b100 at hf
  refine lv_iconst (v := 0) hx hb dX8_pen_100 (by decide) ?_
  exact w_X8_pen_b101 E hL63 hf hP hS (lv_sub hl [0, 1, 2, 3, 4, 5] rfl)
set_option maxHeartbeats 4000000 in
set_option maxRecDepth 100000 in
theorem w_X8_pen_b155 {p : Program} {l : Launch} {e : Env} {s : State} {m : MethodId} {args : Array Value} {below : List Frame} {meth : Method} {c : Code} {G : GG} {sz : Nat} {r : Int32} {M' : Mem} (E : Cx p s m args meth c cX8_pen (some .int) 8 RX8 G) : ∀ fu : Nat, ∀ (x1 : Int32) (x2 : Int32) (x3 : Int32) (x4 : Int32) (x6 : Int32) (x7 : Int32) (M : Mem) (H : Heap) (locs : List Loc) (ls : Array Slot), f_X8_pen_b155 fu x1 x2 x3 x4 x6 x7 M = some (r, M') → PW G (AM G) (XM G) sz M s H → va_S (AM G) s.heap H locs → lv_has ls 8 [(0, .ref (adM G 0 0)), (1, .int x1), (2, .int x2), (3, .int x3), (4, .int x4), (6, .int x6), (7, .int x7)] → W p l e rm_X8_pen s m args below meth c H locs 0 0 (MQ below (va_Qi (fun (r2 : Int32) (_ : Unit) => r2 = r) (fun _ t => PW G (AM G) (XM G) sz M' t t.heap) (AM G)) args s 0 0 (AM G)) (F0 m 155 ls []) := by
  obtain ⟨hx, hb, hr, hlocks, hml, hown, hts, hK⟩ := id E
  intro fu
  induction fu with
  | zero => intro x1 x2 x3 x4 x6 x7 M H locs ls hf hP hS hl; cases hf
  | succ fu ih =>
    intro x1 x2 x3 x4 x6 x7 M H locs ls hf hP hS hl
    rw [f_X8_pen_b155.eq_2] at hf
    refine lv_iload hx hb dX8_pen_155 (lv_at hl 6 rfl) ?_
    refine lv_bipush (v := 8) hx hb dX8_pen_157 (by decide) ?_
    refine lv_icmp_ge (tgt := 177) hx hb dX8_pen_159 (by decide) (fun hc => ?_) (fun hc => ?_)
    · have hf := if_t hf hc
      refine lv_aload_n hx hb dX8_pen_177 rfl (lv_at hl 0 rfl) ?_
      refine lv_iload hx hb dX8_pen_178 (lv_at hl 5 rfl) ?_
      refine lv_iconst (v := 0) hx hb dX8_pen_180 (by decide) ?_
      refine lv_iload_n hx hb dX8_pen_181 rfl (lv_at hl 1 rfl) ?_
      refine ob_e hf (fun r_182 M_182 hq hf => ?_)
      refine cv_X8_lays E hP hS hq w_873 ⟨Nat.le_of_ble_eq_true rfl, Nat.le_of_ble_eq_true rfl⟩ hl (Nat.le_of_ble_eq_true rfl) dX8_pen_182 ⟨Nat.le_of_ble_eq_true rfl, Nat.le_of_ble_eq_true rfl⟩ (fun H locs hP hS => ?_)
      refine lv_aload_n hx hb dX8_pen_185 rfl (lv_at hl 0 rfl) ?_
      refine lv_iload hx hb dX8_pen_186 (lv_at hl 5 rfl) ?_
      refine lv_iconst (v := 1) hx hb dX8_pen_188 (by decide) ?_
      refine lv_iload_n hx hb dX8_pen_189 rfl (lv_at hl 2 rfl) ?_
      refine ob_e hf (fun r_190 M_190 hq hf => ?_)
      refine cv_X8_lays E hP hS hq w_873 ⟨Nat.le_of_ble_eq_true rfl, Nat.le_of_ble_eq_true rfl⟩ hl (Nat.le_of_ble_eq_true rfl) dX8_pen_190 ⟨Nat.le_of_ble_eq_true rfl, Nat.le_of_ble_eq_true rfl⟩ (fun H locs hP hS => ?_)
      refine lv_aload_n hx hb dX8_pen_193 rfl (lv_at hl 0 rfl) ?_
      refine lv_iload hx hb dX8_pen_194 (lv_at hl 5 rfl) ?_
      refine lv_iconst (v := 2) hx hb dX8_pen_196 (by decide) ?_
      refine lv_iload_n hx hb dX8_pen_197 rfl (lv_at hl 2 rfl) ?_
      refine ob_e hf (fun r_198 M_198 hq hf => ?_)
      refine cv_X8_lays E hP hS hq w_873 ⟨Nat.le_of_ble_eq_true rfl, Nat.le_of_ble_eq_true rfl⟩ hl (Nat.le_of_ble_eq_true rfl) dX8_pen_198 ⟨Nat.le_of_ble_eq_true rfl, Nat.le_of_ble_eq_true rfl⟩ (fun H locs hP hS => ?_)
      refine lv_aload_n hx hb dX8_pen_201 rfl (lv_at hl 0 rfl) ?_
      refine lv_iload hx hb dX8_pen_202 (lv_at hl 5 rfl) ?_
      refine lv_iconst (v := 5) hx hb dX8_pen_204 (by decide) ?_
      refine lv_bipush (v := 10) hx hb dX8_pen_205 (by decide) ?_
      refine lv_iload_n hx hb dX8_pen_207 rfl (lv_at hl 3 rfl) ?_
      refine lv_imul hx hb dX8_pen_208 ?_
      refine lv_iload hx hb dX8_pen_209 (lv_at hl 4 rfl) ?_
      refine lv_iadd hx hb dX8_pen_211 ?_
      refine ob_e hf (fun r_212 M_212 hq hf => ?_)
      refine cv_X8_lays E hP hS hq w_873 ⟨Nat.le_of_ble_eq_true rfl, Nat.le_of_ble_eq_true rfl⟩ hl (Nat.le_of_ble_eq_true rfl) dX8_pen_212 ⟨Nat.le_of_ble_eq_true rfl, Nat.le_of_ble_eq_true rfl⟩ (fun H locs hP hS => ?_)
      refine lv_aload_n hx hb dX8_pen_215 rfl (lv_at hl 0 rfl) ?_
      refine lv_iload hx hb dX8_pen_216 (lv_at hl 5 rfl) ?_
      refine ob_e hf (fun r_218 M_218 hq hf => ?_)
      refine cv_X8_acted E hP hS hq w_859 ⟨Nat.le_of_ble_eq_true rfl, Nat.le_of_ble_eq_true rfl⟩ hl (Nat.le_of_ble_eq_true rfl) dX8_pen_218 ⟨Nat.le_of_ble_eq_true rfl, Nat.le_of_ble_eq_true rfl⟩ (fun H locs hP hS => ?_)
      exact en_i hf hx hb hr rfl hlocks hP hS dX8_pen_221
    · have hf := if_f hf hc
      refine lv_aload_n hx hb dX8_pen_162 rfl (lv_at hl 0 rfl) ?_
      refine lv_iload hx hb dX8_pen_163 (lv_at hl 5 rfl) ?_
      refine lv_iload hx hb dX8_pen_165 (lv_at hl 6 rfl) ?_
      refine lv_iconst (v := 0) hx hb dX8_pen_167 (by decide) ?_
      refine ob_e hf (fun r_168 M_168 hq hf => ?_)
      refine cv_X8_lays E hP hS hq w_873 ⟨Nat.le_of_ble_eq_true rfl, Nat.le_of_ble_eq_true rfl⟩ hl (Nat.le_of_ble_eq_true rfl) dX8_pen_168 ⟨Nat.le_of_ble_eq_true rfl, Nat.le_of_ble_eq_true rfl⟩ (fun H locs hP hS => ?_)
      refine lt_e hf (fun x7_171 hx7_171 hf => ?_)
      refine lv_iinc (v := x7_171) (lv' := [(7, .int x7_171), (0, .ref (adM G 0 0)), (1, .int x1), (2, .int x2), (3, .int x3), (4, .int x4), (6, .int x6)]) hx hb dX8_pen_171 hl (k := 6) rfl (by rw [hx7_171]; rfl) (by decide) rfl (fun ls hl => ?_)
      refine lv_goto (tgt := 155) hx hb dX8_pen_174 (by decide) ?_
      exact ih _ _ _ _ _ _ _ _ _ _ hf hP hS (lv_sub hl [1, 2, 3, 4, 5, 6, 0] rfl)
set_option maxHeartbeats 4000000 in
set_option maxRecDepth 100000 in
theorem w_X8_pen_b63 {p : Program} {l : Launch} {e : Env} {s : State} {m : MethodId} {args : Array Value} {below : List Frame} {meth : Method} {c : Code} {G : GG} {sz : Nat} {r : Int32} {M' : Mem} (E : Cx p s m args meth c cX8_pen (some .int) 8 RX8 G) : ∀ fu : Nat, ∀ (x1 : Int32) (x2 : Int32) (x3 : Int32) (x4 : Int32) (x5 : Int32) (x6 : Int32) (M : Mem) (H : Heap) (locs : List Loc) (ls : Array Slot), f_X8_pen_b63 fu x1 x2 x3 x4 x5 x6 M = some (r, M') → PW G (AM G) (XM G) sz M s H → va_S (AM G) s.heap H locs → lv_has ls 8 [(0, .ref (adM G 0 0)), (1, .int x1), (2, .int x2), (3, .int x3), (4, .int x4), (5, .int x5), (6, .int x6)] → W p l e rm_X8_pen s m args below meth c H locs 0 0 (MQ below (va_Qi (fun (r2 : Int32) (_ : Unit) => r2 = r) (fun _ t => PW G (AM G) (XM G) sz M' t t.heap) (AM G)) args s 0 0 (AM G)) (F0 m 63 ls []) := by
  obtain ⟨hx, hb, hr, hlocks, hml, hown, hts, hK⟩ := id E
  intro fu
  induction fu with
  | zero => intro x1 x2 x3 x4 x5 x6 M H locs ls hf hP hS hl; cases hf
  | succ fu ih =>
    intro x1 x2 x3 x4 x5 x6 M H locs ls hf hP hS hl
    rw [f_X8_pen_b63.eq_2] at hf
    refine lv_iload hx hb dX8_pen_63 (lv_at hl 6 rfl) ?_
    refine lv_aload_n hx hb dX8_pen_65 rfl (lv_at hl 0 rfl) ?_
    refine gf_X8_s E hP w_797 dX8_pen_66 ?_
    refine lv_iconst (v := 0) hx hb dX8_pen_69 (by decide) ?_
    refine la_M1 E hP (by decide) dX8_pen_70 ?_
    refine lv_icmp_ge (tgt := 109) hx hb dX8_pen_71 (by decide) (fun hc => ?_) (fun hc => ?_)
    · have hf := if_t hf hc
      refine lv_iload hx hb dX8_pen_109 (lv_at hl 5 rfl) ?_
      refine lv_if_ne (tgt := 117) hx hb dX8_pen_111 (by decide) (fun hc => ?_) (fun hc => ?_)
      · have hf := if_f hf hc
        refine lv_aload_n hx hb dX8_pen_117 rfl (lv_at hl 0 rfl) ?_
        refine gf_X8_s E hP w_797 dX8_pen_118 ?_
        refine lv_iconst (v := 0) hx hb dX8_pen_121 (by decide) ?_
        refine la_M1 E hP (by decide) dX8_pen_122 ?_
        refine lv_iconst (v := 5) hx hb dX8_pen_123 (by decide) ?_
        refine lv_icmp_ne (tgt := 130) hx hb dX8_pen_124 (by decide) (fun hc => ?_) (fun hc => ?_)
        · have hf := if_f hf hc
          refine lv_aload_n hx hb dX8_pen_130 rfl (lv_at hl 0 rfl) ?_
          refine ob_e hf (fun r_131 M_131 hq hf => ?_)
          refine cv_X8_keeps E hP hS hq w_855 ⟨Nat.le_of_ble_eq_true rfl, Nat.le_of_ble_eq_true rfl⟩ hl (Nat.le_of_ble_eq_true rfl) dX8_pen_131 ⟨Nat.le_of_ble_eq_true rfl, Nat.le_of_ble_eq_true rfl⟩ (fun H locs hP hS => ?_)
          refine lv_aload_n hx hb dX8_pen_134 rfl (lv_at hl 0 rfl) ?_
          refine gf_X8_s E hP w_797 dX8_pen_135 ?_
          refine lv_iconst (v := 0) hx hb dX8_pen_138 (by decide) ?_
          refine la_M1 E hP (by decide) dX8_pen_139 ?_
          refine lt_e hf (fun x6_140 hx6_140 hf => ?_)
          refine kr_nm hx6_140 ?_
          refine lv_istore (lv' := [(6, .int x6_140), (0, .ref (adM G 0 0)), (1, .int x1), (2, .int x2), (3, .int x3), (4, .int x4), (5, .int x5)]) hx hb dX8_pen_140 hl (by decide) rfl (fun ls hl => ?_)
          refine lv_aload_n hx hb dX8_pen_142 rfl (lv_at hl 1 rfl) ?_
          refine gf_X8_s E hP w_797 dX8_pen_143 ?_
          refine lv_iconst (v := 0) hx hb dX8_pen_146 (by decide) ?_
          refine lv_dup2_11 hx hb dX8_pen_147 rfl rfl ?_
          refine la_M1 E hP (by decide) dX8_pen_148 ?_
          refine lv_iconst (v := 1) hx hb dX8_pen_149 (by decide) ?_
          refine lv_iadd hx hb dX8_pen_150 ?_
          refine lt_e hf (fun M_151 hM_151 hf => ?_)
          refine sa_M1 E hP hS (by decide) hM_151 dX8_pen_151 (fun H locs hP hS => ?_)
          refine lv_iconst (v := 0) hx hb dX8_pen_152 (by decide) ?_
          refine lv_istore (lv' := [(7, .int 0), (6, .int x6_140), (0, .ref (adM G 0 0)), (1, .int x1), (2, .int x2), (3, .int x3), (4, .int x4), (5, .int x5)]) hx hb dX8_pen_153 hl (by decide) rfl (fun ls hl => ?_)
          exact w_X8_pen_b155 E 1000 _ _ _ _ _ _ _ _ _ _ hf hP hS (lv_sub hl [2, 3, 4, 5, 6, 1, 0] rfl)
        · have hf := if_t hf hc
          refine lv_ldc (v := (-1000003)) hx hb hown (hts _ w_872) dX8_pen_127 ?_
          exact en_i hf hx hb hr rfl hlocks hP hS dX8_pen_129
      · have hf := if_t hf hc
        refine lv_ldc (v := (-1000002)) hx hb hown (hts _ w_871) dX8_pen_114 ?_
        exact en_i hf hx hb hr rfl hlocks hP hS dX8_pen_116
    · have hf := if_f hf hc
      refine lv_iload hx hb dX8_pen_74 (lv_at hl 5 rfl) ?_
      refine lv_if_eq (tgt := 100) hx hb dX8_pen_76 (by decide) (fun hc => ?_) (fun hc => ?_)
      · have hf := if_t hf hc
        exact w_X8_pen_b100 E ih hf hP hS (lv_sub hl [0, 1, 2, 3, 4, 6] rfl)
      · have hf := if_f hf hc
        refine lv_aload_n hx hb dX8_pen_79 rfl (lv_at hl 0 rfl) ?_
        refine lv_iload hx hb dX8_pen_80 (lv_at hl 6 rfl) ?_
        refine lv_iconst (v := 5) hx hb dX8_pen_82 (by decide) ?_
        refine ob_e hf (fun r_83 M_83 hq hf => ?_)
        refine cv_X8_pn E hP hS hq w_867 ⟨Nat.le_of_ble_eq_true rfl, Nat.le_of_ble_eq_true rfl⟩ hl (Nat.le_of_ble_eq_true rfl) dX8_pen_83 ⟨Nat.le_of_ble_eq_true rfl, Nat.le_of_ble_eq_true rfl⟩ (fun H locs hP hS => ?_)
        refine lv_bipush (v := 10) hx hb dX8_pen_86 (by decide) ?_
        refine lv_iload_n hx hb dX8_pen_88 rfl (lv_at hl 3 rfl) ?_
        refine lv_imul hx hb dX8_pen_89 ?_
        refine lv_iload hx hb dX8_pen_90 (lv_at hl 4 rfl) ?_
        refine lv_iadd hx hb dX8_pen_92 ?_
        refine lv_icmp_eq (tgt := 100) hx hb dX8_pen_93 (by decide) (fun hc => ?_) (fun hc => ?_)
        · have hf := if_t hf hc
          exact w_X8_pen_b100 E ih hf hP hS (lv_sub hl [0, 1, 2, 3, 4, 6] rfl)
        · have hf := if_f hf hc
          refine lv_iconst (v := 1) hx hb dX8_pen_96 (by decide) ?_
          refine lv_goto (tgt := 101) hx hb dX8_pen_97 (by decide) ?_
          exact w_X8_pen_b101 E ih hf hP hS (lv_sub hl [0, 1, 2, 3, 4, 6] rfl)
set_option maxHeartbeats 4000000 in
set_option maxRecDepth 100000 in
theorem w_X8_pen_b58 {p : Program} {l : Launch} {e : Env} {s : State} {m : MethodId} {args : Array Value} {below : List Frame} {meth : Method} {c : Code} {G : GG} {sz : Nat} {r : Int32} {M' : Mem} (E : Cx p s m args meth c cX8_pen (some .int) 8 RX8 G) {x1 : Int32} {x2 : Int32} {x3 : Int32} {x4 : Int32} {s0 : Int32} {M : Mem} {H : Heap} {locs : List Loc} {ls : Array Slot} (hf : f_X8_pen_b58 x1 x2 x3 x4 s0 M = some (r, M')) (hP : PW G (AM G) (XM G) sz M s H) (hS : va_S (AM G) s.heap H locs) (hl : lv_has ls 8 [(0, .ref (adM G 0 0)), (1, .int x1), (2, .int x2), (3, .int x3), (4, .int x4)]) : W p l e rm_X8_pen s m args below meth c H locs 0 0 (MQ below (va_Qi (fun (r2 : Int32) (_ : Unit) => r2 = r) (fun _ t => PW G (AM G) (XM G) sz M' t t.heap) (AM G)) args s 0 0 (AM G)) (F0 m 58 ls [.int s0]) := by
  obtain ⟨hx, hb, hr, hlocks, hml, hown, hts, hK⟩ := id E
  unfold f_X8_pen_b58 at hf
  refine lv_istore (lv' := [(5, .int s0), (0, .ref (adM G 0 0)), (1, .int x1), (2, .int x2), (3, .int x3), (4, .int x4)]) hx hb dX8_pen_58 hl (by decide) rfl (fun ls hl => ?_)
  refine lv_iconst (v := 0) hx hb dX8_pen_60 (by decide) ?_
  refine lv_istore (lv' := [(6, .int 0), (5, .int s0), (0, .ref (adM G 0 0)), (1, .int x1), (2, .int x2), (3, .int x3), (4, .int x4)]) hx hb dX8_pen_61 hl (by decide) rfl (fun ls hl => ?_)
  exact w_X8_pen_b63 E 1000 _ _ _ _ _ _ _ _ _ _ hf hP hS (lv_sub hl [2, 3, 4, 5, 6, 1, 0] rfl)
set_option maxHeartbeats 4000000 in
set_option maxRecDepth 100000 in
theorem w_X8_pen_b53 {p : Program} {l : Launch} {e : Env} {s : State} {m : MethodId} {args : Array Value} {below : List Frame} {meth : Method} {c : Code} {G : GG} {sz : Nat} {r : Int32} {M' : Mem} (E : Cx p s m args meth c cX8_pen (some .int) 8 RX8 G) {x1 : Int32} {x2 : Int32} {x3 : Int32} {x4 : Int32} {M : Mem} {H : Heap} {locs : List Loc} {ls : Array Slot} (hf : f_X8_pen_b53 x1 x2 x3 x4 M = some (r, M')) (hP : PW G (AM G) (XM G) sz M s H) (hS : va_S (AM G) s.heap H locs) (hl : lv_has ls 8 [(0, .ref (adM G 0 0)), (1, .int x1), (2, .int x2), (3, .int x3), (4, .int x4)]) : W p l e rm_X8_pen s m args below meth c H locs 0 0 (MQ below (va_Qi (fun (r2 : Int32) (_ : Unit) => r2 = r) (fun _ t => PW G (AM G) (XM G) sz M' t t.heap) (AM G)) args s 0 0 (AM G)) (F0 m 53 ls []) := by
  obtain ⟨hx, hb, hr, hlocks, hml, hown, hts, hK⟩ := id E
  unfold f_X8_pen_b53 at hf
  refine lv_iconst (v := 1) hx hb dX8_pen_53 (by decide) ?_
  refine lv_goto (tgt := 58) hx hb dX8_pen_54 (by decide) ?_
  exact w_X8_pen_b58 E hf hP hS (lv_sub hl [0, 1, 2, 3, 4] rfl)
set_option maxHeartbeats 4000000 in
set_option maxRecDepth 100000 in
theorem w_X8_pen {p : Program} {l : Launch} {e : Env} {s : State} {m : MethodId} {args : Array Value} {below : List Frame} {meth : Method} {c : Code} {G : GG} {sz : Nat} {r : Int32} {M' : Mem} (E : Cx p s m args meth c cX8_pen (some .int) 8 RX8 G) {x1 : Int32} {x2 : Int32} {x3 : Int32} {x4 : Int32} {M : Mem} {H : Heap} {locs : List Loc} {ls : Array Slot} (hf : f_X8_pen x1 x2 x3 x4 M = some (r, M')) (hP : PW G (AM G) (XM G) sz M s H) (hS : va_S (AM G) s.heap H locs) (hl : lv_has ls 8 [(0, .ref (adM G 0 0)), (1, .int x1), (2, .int x2), (3, .int x3), (4, .int x4)]) : W p l e rm_X8_pen s m args below meth c H locs 0 0 (MQ below (va_Qi (fun (r2 : Int32) (_ : Unit) => r2 = r) (fun _ t => PW G (AM G) (XM G) sz M' t t.heap) (AM G)) args s 0 0 (AM G)) (F0 m 0 ls []) := by
  obtain ⟨hx, hb, hr, hlocks, hml, hown, hts, hK⟩ := id E
  unfold f_X8_pen at hf
  refine lv_iload_n hx hb dX8_pen_0 rfl (lv_at hl 1 rfl) ?_
  refine lv_iconst (v := 0) hx hb dX8_pen_1 (by decide) ?_
  refine lv_iconst (v := 1) hx hb dX8_pen_2 (by decide) ?_
  refine ob_e hf (fun r_3 M_3 hq hf => ?_)
  refine cv_X8_in E hP hS hq w_851 ⟨Nat.le_of_ble_eq_true rfl, Nat.le_of_ble_eq_true rfl⟩ hl (Nat.le_of_ble_eq_true rfl) dX8_pen_3 ⟨Nat.le_of_ble_eq_true rfl, Nat.le_of_ble_eq_true rfl⟩ (fun H locs hP hS => ?_)
  refine lv_if_eq (tgt := 40) hx hb dX8_pen_6 (by decide) (fun hc => ?_) (fun hc => ?_)
  · have hf := if_t hf hc
    exact w_X8_pen_b40 E hf hP hS (lv_sub hl [] rfl)
  · have hf := if_f hf hc
    refine lv_iload_n hx hb dX8_pen_9 rfl (lv_at hl 2 rfl) ?_
    refine lv_bipush (v := 10) hx hb dX8_pen_10 (by decide) ?_
    refine lv_sipush (v := 5000) hx hb dX8_pen_12 (by decide) ?_
    refine ob_e hf (fun r_15 M_15 hq hf => ?_)
    refine cv_X8_in E hP hS hq w_851 ⟨Nat.le_of_ble_eq_true rfl, Nat.le_of_ble_eq_true rfl⟩ hl (Nat.le_of_ble_eq_true rfl) dX8_pen_15 ⟨Nat.le_of_ble_eq_true rfl, Nat.le_of_ble_eq_true rfl⟩ (fun H locs hP hS => ?_)
    refine lv_if_eq (tgt := 40) hx hb dX8_pen_18 (by decide) (fun hc => ?_) (fun hc => ?_)
    · have hf := if_t hf hc
      exact w_X8_pen_b40 E hf hP hS (lv_sub hl [] rfl)
    · have hf := if_f hf hc
      refine lv_iload_n hx hb dX8_pen_21 rfl (lv_at hl 3 rfl) ?_
      refine lv_iconst (v := 0) hx hb dX8_pen_22 (by decide) ?_
      refine lv_iconst (v := 2) hx hb dX8_pen_23 (by decide) ?_
      refine ob_e hf (fun r_24 M_24 hq hf => ?_)
      refine cv_X8_in E hP hS hq w_851 ⟨Nat.le_of_ble_eq_true rfl, Nat.le_of_ble_eq_true rfl⟩ hl (Nat.le_of_ble_eq_true rfl) dX8_pen_24 ⟨Nat.le_of_ble_eq_true rfl, Nat.le_of_ble_eq_true rfl⟩ (fun H locs hP hS => ?_)
      refine lv_if_eq (tgt := 40) hx hb dX8_pen_27 (by decide) (fun hc => ?_) (fun hc => ?_)
      · have hf := if_t hf hc
        exact w_X8_pen_b40 E hf hP hS (lv_sub hl [] rfl)
      · have hf := if_f hf hc
        refine lv_iload hx hb dX8_pen_30 (lv_at hl 4 rfl) ?_
        refine lv_iconst (v := 0) hx hb dX8_pen_32 (by decide) ?_
        refine lv_iconst (v := 1) hx hb dX8_pen_33 (by decide) ?_
        refine ob_e hf (fun r_34 M_34 hq hf => ?_)
        refine cv_X8_in E hP hS hq w_851 ⟨Nat.le_of_ble_eq_true rfl, Nat.le_of_ble_eq_true rfl⟩ hl (Nat.le_of_ble_eq_true rfl) dX8_pen_34 ⟨Nat.le_of_ble_eq_true rfl, Nat.le_of_ble_eq_true rfl⟩ (fun H locs hP hS => ?_)
        refine lv_if_ne (tgt := 43) hx hb dX8_pen_37 (by decide) (fun hc => ?_) (fun hc => ?_)
        · have hf := if_f hf hc
          refine lv_iload_n hx hb dX8_pen_43 rfl (lv_at hl 3 rfl) ?_
          refine lv_iconst (v := 2) hx hb dX8_pen_44 (by decide) ?_
          refine lv_icmp_eq (tgt := 53) hx hb dX8_pen_45 (by decide) (fun hc => ?_) (fun hc => ?_)
          · have hf := if_t hf hc
            exact w_X8_pen_b53 E hf hP hS (lv_sub hl [0, 1, 2, 3, 4] rfl)
          · have hf := if_f hf hc
            refine lv_iload_n hx hb dX8_pen_48 rfl (lv_at hl 3 rfl) ?_
            refine lv_iload_n hx hb dX8_pen_49 rfl (lv_at hl 1 rfl) ?_
            refine lv_icmp_ne (tgt := 57) hx hb dX8_pen_50 (by decide) (fun hc => ?_) (fun hc => ?_)
            · have hf := if_f hf hc
              refine lv_iconst (v := 0) hx hb dX8_pen_57 (by decide) ?_
              exact w_X8_pen_b58 E hf hP hS (lv_sub hl [0, 1, 2, 3, 4] rfl)
            · have hf := if_t hf hc
              exact w_X8_pen_b53 E hf hP hS (lv_sub hl [0, 1, 2, 3, 4] rfl)
        · have hf := if_t hf hc
          exact w_X8_pen_b40 E hf hP hS (lv_sub hl [] rfl)
theorem c_X8_pen (l : Launch) {G : GG} {sz : Nat} {x1 : Int32} {x2 : Int32} {x3 : Int32} {x4 : Int32} {M : Mem} {r : Int32} {M' : Mem} (hf : f_X8_pen x1 x2 x3 x4 M = some (r, M')) : CtI l yX8_pen cX8_pen 8 (some .int) rm_X8_pen [.ref (adM G 0 0), .int x1, .int x2, .int x3, .int x4] G (AM G) (XM G) sz M r (XM G) sz M' := by
  refine Ct_of (by decide) (Nat.le_of_ble_eq_true rfl) (fun p e s m below meth c ls hx hb hr hlocks hml hown hts hK hP hl => ?_)
  exact w_X8_pen ⟨hx, hb, hr, hlocks, hml, hown, hts, hK⟩ hf hP va_S.rf hl
set_option maxRecDepth 100000 in
theorem cv_X8_pen {p : Program} {l : Launch} {e : Env} {R : Room} {s : State} {m : MethodId} {args : Array Value} {below : List Frame} {meth : Method} {c : Code} {H : Heap} {locs : List Loc} {cells slots : Nat} {Q : State → Prop} {cc : ByteArray} {pc nL index : Nat} {ret : Option FieldType} {own : String} {ls : Array Slot} {rest : List Value} {l' : List (Nat × Value)} {G : GG} {sz : Nat} {M : Mem} (E : Cx p s m args meth c cc ret nL own G) (hP : PW G (AM G) (XM G) sz M s H) (hS : va_S (AM G) s.heap H locs) {x1 : Int32} {x2 : Int32} {x3 : Int32} {x4 : Int32} {r : Int32} {M' : Mem} (hq : f_X8_pen x1 x2 x3 x4 M = some (r, M')) (w1 : Cond.methodLink own index yX8_pen ∈ lw_all) (hR : 2 ≤ R.frames ∧ 50 ≤ R.locals) (hl : lv_has ls nL l') (hrest : (rest.map fun v => v.category).sum ≤ 8) (hdg : decode cc pc = .ok (.invokevirtual index, 3)) (hcs : cells ≤ R.cells ∧ slots ≤ R.slots)
    (kk : ∀ (H1 : Heap) (locs1 : List Loc), PW G (AM G) (XM G) sz M' s H1 → va_S (AM G) s.heap H1 locs1 → W p l e R s m args below meth c H1 locs1 cells slots Q (F0 m (pc + 3) ls (.int r :: rest))) : W p l e R s m args below meth c H locs cells slots Q (F0 m pc ls (.int x4 :: .int x3 :: .int x2 :: .int x1 :: .ref (adM G 0 0) :: rest)) := by
  obtain ⟨hx, hb, hr, hlocks, hml, hown, hts, hK⟩ := E
  exact kc_i (kc_runV (na := 4) (q := (RX8, TX8, 16)) hx hb hml hts hown hK hP 0 0 ⟨rfl, by decide⟩ rfl rfl rfl (c_X8_pen l hq) w1 w_864 w_865 w_9 w_866 (by decide +kernel) hR rfl hl rfl hrest hdg hcs) hS kk
/-! X8_isCoordinate -/
abbrev rm_X8_isCoordinate : Room := { frames := 1, cells := 0, slots := 0, locals := 22 }
def f_X8_isCoordinate (x0 : Int32) (M : Mem) : Option (Int32 × Mem) :=
ob (f_X8_in x0 0 99 M) fun r_4 M_4 =>
ck (bl r_4) <|
some (r_4, M_4)
set_option maxHeartbeats 4000000 in
set_option maxRecDepth 100000 in
theorem w_X8_isCoordinate {p : Program} {l : Launch} {e : Env} {s : State} {m : MethodId} {args : Array Value} {below : List Frame} {meth : Method} {c : Code} {G : GG} {sz : Nat} {r : Int32} {M' : Mem} (E : Cx p s m args meth c cX8_isCoordinate (some .boolean) 1 RX8 G) {x0 : Int32} {M : Mem} {H : Heap} {locs : List Loc} {ls : Array Slot} (hf : f_X8_isCoordinate x0 M = some (r, M')) (hP : PW G (AM G) (XM G) sz M s H) (hS : va_S (AM G) s.heap H locs) (hl : lv_has ls 1 [(0, .int x0)]) : W p l e rm_X8_isCoordinate s m args below meth c H locs 0 0 (MQ below (va_Qi (fun (r2 : Int32) (_ : Unit) => r2 = r) (fun _ t => PW G (AM G) (XM G) sz M' t t.heap) (AM G)) args s 0 0 (AM G)) (F0 m 0 ls []) := by
  obtain ⟨hx, hb, hr, hlocks, hml, hown, hts, hK⟩ := id E
  unfold f_X8_isCoordinate at hf
  refine lv_iload_n hx hb dX8_isCoordinate_0 rfl (lv_at hl 0 rfl) ?_
  refine lv_iconst (v := 0) hx hb dX8_isCoordinate_1 (by decide) ?_
  refine lv_bipush (v := 99) hx hb dX8_isCoordinate_2 (by decide) ?_
  refine ob_e hf (fun r_4 M_4 hq hf => ?_)
  refine cv_X8_in E hP hS hq w_851 ⟨Nat.le_of_ble_eq_true rfl, Nat.le_of_ble_eq_true rfl⟩ hl (Nat.le_of_ble_eq_true rfl) dX8_isCoordinate_4 ⟨Nat.le_of_ble_eq_true rfl, Nat.le_of_ble_eq_true rfl⟩ (fun H locs hP hS => ?_)
  refine ck_e hf (fun hn hf => ?_)
  exact en_i hf hx hb hr (bl_nar hn) hlocks hP hS dX8_isCoordinate_7
theorem c_X8_isCoordinate (l : Launch) {G : GG} {sz : Nat} {x0 : Int32} {M : Mem} {r : Int32} {M' : Mem} (hf : f_X8_isCoordinate x0 M = some (r, M')) : CtI l yX8_isCoordinate cX8_isCoordinate 1 (some .boolean) rm_X8_isCoordinate [.int x0] G (AM G) (XM G) sz M r (XM G) sz M' := by
  refine Ct_of (by decide) (Nat.le_of_ble_eq_true rfl) (fun p e s m below meth c ls hx hb hr hlocks hml hown hts hK hP hl => ?_)
  exact w_X8_isCoordinate ⟨hx, hb, hr, hlocks, hml, hown, hts, hK⟩ hf hP va_S.rf hl
set_option maxRecDepth 100000 in
theorem cv_X8_isCoordinate {p : Program} {l : Launch} {e : Env} {R : Room} {s : State} {m : MethodId} {args : Array Value} {below : List Frame} {meth : Method} {c : Code} {H : Heap} {locs : List Loc} {cells slots : Nat} {Q : State → Prop} {cc : ByteArray} {pc nL index : Nat} {ret : Option FieldType} {own : String} {ls : Array Slot} {rest : List Value} {l' : List (Nat × Value)} {G : GG} {sz : Nat} {M : Mem} (E : Cx p s m args meth c cc ret nL own G) (hP : PW G (AM G) (XM G) sz M s H) (hS : va_S (AM G) s.heap H locs) {x0 : Int32} {r : Int32} {M' : Mem} (hq : f_X8_isCoordinate x0 M = some (r, M')) (w1 : Cond.methodLink own index yX8_isCoordinate ∈ lw_all) (hR : 2 ≤ R.frames ∧ 42 ≤ R.locals) (hl : lv_has ls nL l') (hrest : (rest.map fun v => v.category).sum ≤ 8) (hdg : decode cc pc = .ok (.invokestatic index, 3)) (hcs : cells ≤ R.cells ∧ slots ≤ R.slots)
    (kk : ∀ (H1 : Heap) (locs1 : List Loc), PW G (AM G) (XM G) sz M' s H1 → va_S (AM G) s.heap H1 locs1 → W p l e R s m args below meth c H1 locs1 cells slots Q (F0 m (pc + 3) ls (.int r :: rest))) : W p l e R s m args below meth c H locs cells slots Q (F0 m pc ls (.int x0 :: rest)) := by
  obtain ⟨hx, hb, hr, hlocks, hml, hown, hts, hK⟩ := E
  exact kc_i (kc_runS (na := 1) hx hb hml hts hown hK hP (c_X8_isCoordinate l hq) w1 w_882 w_9 w_883 (by decide +kernel) hR rfl hl rfl hrest hdg hcs) hS kk
/-! X8_line -/
abbrev rm_X8_line : Room := { frames := 2, cells := 0, slots := 0, locals := 42 }
def f_X8_line_b40 (M : Mem) : Option (Int32 × Mem) :=
some ((-1000001), M)
def f_X8_line_b43 (x1 : Int32) (x2 : Int32) (x3 : Int32) (x4 : Int32) (M : Mem) : Option (Int32 × Mem) :=
(if (M 0 1 (ix 1)) = 16 then
  some ((-1000003), M)
else
  ob (f_X8_keeps M) fun _ M_58 =>
  lt ((53 + (8 * (M_58 0 1 (ix 1))))) fun x5_73 =>
  ck (ibd x5_73 181) <|
  lt (up3 M_58 0 1 (ix x5_73) x1) fun M_82 =>
  ck (ibd (x5_73 + 1) 181) <|
  lt (up3 M_82 0 1 (ix (x5_73 + 1)) x2) fun M_92 =>
  ck (ibd (x5_73 + 2) 181) <|
  lt (up3 M_92 0 1 (ix (x5_73 + 2)) x3) fun M_102 =>
  ck (ibd (x5_73 + 3) 181) <|
  lt (up3 M_102 0 1 (ix (x5_73 + 3)) x4) fun M_113 =>
  ck (ibd (x5_73 + 4) 181) <|
  lt (up3 M_113 0 1 (ix (x5_73 + 4)) (-1)) fun M_123 =>
  ck (ibd (x5_73 + 5) 181) <|
  lt (up3 M_123 0 1 (ix (x5_73 + 5)) 0) fun M_133 =>
  ck (ibd (x5_73 + 6) 181) <|
  lt (up3 M_133 0 1 (ix (x5_73 + 6)) 0) fun M_144 =>
  ck (ibd (x5_73 + 7) 181) <|
  lt (up3 M_144 0 1 (ix (x5_73 + 7)) 0) fun M_155 =>
  lt (up3 M_155 0 1 (ix 1) ((M_155 0 1 (ix 1)) + 1)) fun M_165 =>
  ob (f_X8_acted ((M_165 0 1 (ix 1)) - 1) M_165) fun r_175 M_175 =>
  some (r_175, M_175))
def f_X8_line (x1 : Int32) (x2 : Int32) (x3 : Int32) (x4 : Int32) (M : Mem) : Option (Int32 × Mem) :=
ob (f_X8_isCoordinate x1 M) fun r_1 M_1 =>
(if r_1 = 0 then
  f_X8_line_b40 M_1
else
  ob (f_X8_isCoordinate x2 M_1) fun r_8 M_8 =>
  (if r_8 = 0 then
    f_X8_line_b40 M_8
  else
    ob (f_X8_isCoordinate x3 M_8) fun r_15 M_15 =>
    (if r_15 = 0 then
      f_X8_line_b40 M_15
    else
      ob (f_X8_isCoordinate x4 M_15) fun r_23 M_23 =>
      (if r_23 = 0 then
        f_X8_line_b40 M_23
      else
        (if x1 = x3 then
          (if x2 = x4 then
            f_X8_line_b40 M_23
          else
            f_X8_line_b43 x1 x2 x3 x4 M_23)
        else
          f_X8_line_b43 x1 x2 x3 x4 M_23)))))
set_option maxHeartbeats 4000000 in
set_option maxRecDepth 100000 in
theorem w_X8_line_b40 {p : Program} {l : Launch} {e : Env} {s : State} {m : MethodId} {args : Array Value} {below : List Frame} {meth : Method} {c : Code} {G : GG} {sz : Nat} {r : Int32} {M' : Mem} (E : Cx p s m args meth c cX8_line (some .int) 6 RX8 G) {M : Mem} {H : Heap} {locs : List Loc} {ls : Array Slot} (hf : f_X8_line_b40 M = some (r, M')) (hP : PW G (AM G) (XM G) sz M s H) (hS : va_S (AM G) s.heap H locs) (hl : lv_has ls 6 []) : W p l e rm_X8_line s m args below meth c H locs 0 0 (MQ below (va_Qi (fun (r2 : Int32) (_ : Unit) => r2 = r) (fun _ t => PW G (AM G) (XM G) sz M' t t.heap) (AM G)) args s 0 0 (AM G)) (F0 m 40 ls []) := by
  obtain ⟨hx, hb, hr, hlocks, hml, hown, hts, hK⟩ := id E
  unfold f_X8_line_b40 at hf
  refine lv_ldc (v := (-1000001)) hx hb hown (hts _ w_854) dX8_line_40 ?_
  exact en_i hf hx hb hr rfl hlocks hP hS dX8_line_42
set_option maxHeartbeats 4000000 in
set_option maxRecDepth 100000 in
theorem w_X8_line_b43 {p : Program} {l : Launch} {e : Env} {s : State} {m : MethodId} {args : Array Value} {below : List Frame} {meth : Method} {c : Code} {G : GG} {sz : Nat} {r : Int32} {M' : Mem} (E : Cx p s m args meth c cX8_line (some .int) 6 RX8 G) {x1 : Int32} {x2 : Int32} {x3 : Int32} {x4 : Int32} {M : Mem} {H : Heap} {locs : List Loc} {ls : Array Slot} (hf : f_X8_line_b43 x1 x2 x3 x4 M = some (r, M')) (hP : PW G (AM G) (XM G) sz M s H) (hS : va_S (AM G) s.heap H locs) (hl : lv_has ls 6 [(0, .ref (adM G 0 0)), (1, .int x1), (2, .int x2), (3, .int x3), (4, .int x4)]) : W p l e rm_X8_line s m args below meth c H locs 0 0 (MQ below (va_Qi (fun (r2 : Int32) (_ : Unit) => r2 = r) (fun _ t => PW G (AM G) (XM G) sz M' t t.heap) (AM G)) args s 0 0 (AM G)) (F0 m 43 ls []) := by
  obtain ⟨hx, hb, hr, hlocks, hml, hown, hts, hK⟩ := id E
  unfold f_X8_line_b43 at hf
  refine lv_aload_n hx hb dX8_line_43 rfl (lv_at hl 0 rfl) ?_
  refine gf_X8_s E hP w_797 dX8_line_44 ?_
  refine lv_iconst (v := 1) hx hb dX8_line_47 (by decide) ?_
  refine la_M1 E hP (by decide) dX8_line_48 ?_
  refine lv_bipush (v := 16) hx hb dX8_line_49 (by decide) ?_
  refine lv_icmp_ne (tgt := 57) hx hb dX8_line_51 (by decide) (fun hc => ?_) (fun hc => ?_)
  · have hf := if_f hf hc
    refine lv_aload_n hx hb dX8_line_57 rfl (lv_at hl 0 rfl) ?_
    refine ob_e hf (fun r_58 M_58 hq hf => ?_)
    refine cv_X8_keeps E hP hS hq w_855 ⟨Nat.le_of_ble_eq_true rfl, Nat.le_of_ble_eq_true rfl⟩ hl (Nat.le_of_ble_eq_true rfl) dX8_line_58 ⟨Nat.le_of_ble_eq_true rfl, Nat.le_of_ble_eq_true rfl⟩ (fun H locs hP hS => ?_)
    refine lv_bipush (v := 53) hx hb dX8_line_61 (by decide) ?_
    refine lv_bipush (v := 8) hx hb dX8_line_63 (by decide) ?_
    refine lv_aload_n hx hb dX8_line_65 rfl (lv_at hl 0 rfl) ?_
    refine gf_X8_s E hP w_797 dX8_line_66 ?_
    refine lv_iconst (v := 1) hx hb dX8_line_69 (by decide) ?_
    refine la_M1 E hP (by decide) dX8_line_70 ?_
    refine lv_imul hx hb dX8_line_71 ?_
    refine lv_iadd hx hb dX8_line_72 ?_
    refine lt_e hf (fun x5_73 hx5_73 hf => ?_)
    refine kr_nm hx5_73 ?_
    refine lv_istore (lv' := [(5, .int x5_73), (0, .ref (adM G 0 0)), (1, .int x1), (2, .int x2), (3, .int x3), (4, .int x4)]) hx hb dX8_line_73 hl (by decide) rfl (fun ls hl => ?_)
    refine lv_aload_n hx hb dX8_line_75 rfl (lv_at hl 1 rfl) ?_
    refine gf_X8_s E hP w_797 dX8_line_76 ?_
    refine lv_iload hx hb dX8_line_79 (lv_at hl 0 rfl) ?_
    refine lv_iload_n hx hb dX8_line_81 rfl (lv_at hl 2 rfl) ?_
    refine ck_e hf (fun hi hf => ?_)
    refine lt_e hf (fun M_82 hM_82 hf => ?_)
    refine sa_M1 E hP hS hi hM_82 dX8_line_82 (fun H locs hP hS => ?_)
    refine lv_aload_n hx hb dX8_line_83 rfl (lv_at hl 1 rfl) ?_
    refine gf_X8_s E hP w_797 dX8_line_84 ?_
    refine lv_iload hx hb dX8_line_87 (lv_at hl 0 rfl) ?_
    refine lv_iconst (v := 1) hx hb dX8_line_89 (by decide) ?_
    refine lv_iadd hx hb dX8_line_90 ?_
    refine lv_iload_n hx hb dX8_line_91 rfl (lv_at hl 3 rfl) ?_
    refine ck_e hf (fun hi hf => ?_)
    refine lt_e hf (fun M_92 hM_92 hf => ?_)
    refine sa_M1 E hP hS hi hM_92 dX8_line_92 (fun H locs hP hS => ?_)
    refine lv_aload_n hx hb dX8_line_93 rfl (lv_at hl 1 rfl) ?_
    refine gf_X8_s E hP w_797 dX8_line_94 ?_
    refine lv_iload hx hb dX8_line_97 (lv_at hl 0 rfl) ?_
    refine lv_iconst (v := 2) hx hb dX8_line_99 (by decide) ?_
    refine lv_iadd hx hb dX8_line_100 ?_
    refine lv_iload_n hx hb dX8_line_101 rfl (lv_at hl 4 rfl) ?_
    refine ck_e hf (fun hi hf => ?_)
    refine lt_e hf (fun M_102 hM_102 hf => ?_)
    refine sa_M1 E hP hS hi hM_102 dX8_line_102 (fun H locs hP hS => ?_)
    refine lv_aload_n hx hb dX8_line_103 rfl (lv_at hl 1 rfl) ?_
    refine gf_X8_s E hP w_797 dX8_line_104 ?_
    refine lv_iload hx hb dX8_line_107 (lv_at hl 0 rfl) ?_
    refine lv_iconst (v := 3) hx hb dX8_line_109 (by decide) ?_
    refine lv_iadd hx hb dX8_line_110 ?_
    refine lv_iload hx hb dX8_line_111 (lv_at hl 5 rfl) ?_
    refine ck_e hf (fun hi hf => ?_)
    refine lt_e hf (fun M_113 hM_113 hf => ?_)
    refine sa_M1 E hP hS hi hM_113 dX8_line_113 (fun H locs hP hS => ?_)
    refine lv_aload_n hx hb dX8_line_114 rfl (lv_at hl 1 rfl) ?_
    refine gf_X8_s E hP w_797 dX8_line_115 ?_
    refine lv_iload hx hb dX8_line_118 (lv_at hl 0 rfl) ?_
    refine lv_iconst (v := 4) hx hb dX8_line_120 (by decide) ?_
    refine lv_iadd hx hb dX8_line_121 ?_
    refine lv_iconst (v := (-1)) hx hb dX8_line_122 (by decide) ?_
    refine ck_e hf (fun hi hf => ?_)
    refine lt_e hf (fun M_123 hM_123 hf => ?_)
    refine sa_M1 E hP hS hi hM_123 dX8_line_123 (fun H locs hP hS => ?_)
    refine lv_aload_n hx hb dX8_line_124 rfl (lv_at hl 1 rfl) ?_
    refine gf_X8_s E hP w_797 dX8_line_125 ?_
    refine lv_iload hx hb dX8_line_128 (lv_at hl 0 rfl) ?_
    refine lv_iconst (v := 5) hx hb dX8_line_130 (by decide) ?_
    refine lv_iadd hx hb dX8_line_131 ?_
    refine lv_iconst (v := 0) hx hb dX8_line_132 (by decide) ?_
    refine ck_e hf (fun hi hf => ?_)
    refine lt_e hf (fun M_133 hM_133 hf => ?_)
    refine sa_M1 E hP hS hi hM_133 dX8_line_133 (fun H locs hP hS => ?_)
    refine lv_aload_n hx hb dX8_line_134 rfl (lv_at hl 1 rfl) ?_
    refine gf_X8_s E hP w_797 dX8_line_135 ?_
    refine lv_iload hx hb dX8_line_138 (lv_at hl 0 rfl) ?_
    refine lv_bipush (v := 6) hx hb dX8_line_140 (by decide) ?_
    refine lv_iadd hx hb dX8_line_142 ?_
    refine lv_iconst (v := 0) hx hb dX8_line_143 (by decide) ?_
    refine ck_e hf (fun hi hf => ?_)
    refine lt_e hf (fun M_144 hM_144 hf => ?_)
    refine sa_M1 E hP hS hi hM_144 dX8_line_144 (fun H locs hP hS => ?_)
    refine lv_aload_n hx hb dX8_line_145 rfl (lv_at hl 1 rfl) ?_
    refine gf_X8_s E hP w_797 dX8_line_146 ?_
    refine lv_iload hx hb dX8_line_149 (lv_at hl 0 rfl) ?_
    refine lv_bipush (v := 7) hx hb dX8_line_151 (by decide) ?_
    refine lv_iadd hx hb dX8_line_153 ?_
    refine lv_iconst (v := 0) hx hb dX8_line_154 (by decide) ?_
    refine ck_e hf (fun hi hf => ?_)
    refine lt_e hf (fun M_155 hM_155 hf => ?_)
    refine sa_M1 E hP hS hi hM_155 dX8_line_155 (fun H locs hP hS => ?_)
    refine lv_aload_n hx hb dX8_line_156 rfl (lv_at hl 1 rfl) ?_
    refine gf_X8_s E hP w_797 dX8_line_157 ?_
    refine lv_iconst (v := 1) hx hb dX8_line_160 (by decide) ?_
    refine lv_dup2_11 hx hb dX8_line_161 rfl rfl ?_
    refine la_M1 E hP (by decide) dX8_line_162 ?_
    refine lv_iconst (v := 1) hx hb dX8_line_163 (by decide) ?_
    refine lv_iadd hx hb dX8_line_164 ?_
    refine lt_e hf (fun M_165 hM_165 hf => ?_)
    refine sa_M1 E hP hS (by decide) hM_165 dX8_line_165 (fun H locs hP hS => ?_)
    refine lv_aload_n hx hb dX8_line_166 rfl (lv_at hl 1 rfl) ?_
    refine lv_aload_n hx hb dX8_line_167 rfl (lv_at hl 1 rfl) ?_
    refine gf_X8_s E hP w_797 dX8_line_168 ?_
    refine lv_iconst (v := 1) hx hb dX8_line_171 (by decide) ?_
    refine la_M1 E hP (by decide) dX8_line_172 ?_
    refine lv_iconst (v := 1) hx hb dX8_line_173 (by decide) ?_
    refine lv_isub hx hb dX8_line_174 ?_
    refine ob_e hf (fun r_175 M_175 hq hf => ?_)
    refine cv_X8_acted E hP hS hq w_859 ⟨Nat.le_of_ble_eq_true rfl, Nat.le_of_ble_eq_true rfl⟩ hl (Nat.le_of_ble_eq_true rfl) dX8_line_175 ⟨Nat.le_of_ble_eq_true rfl, Nat.le_of_ble_eq_true rfl⟩ (fun H locs hP hS => ?_)
    exact en_i hf hx hb hr rfl hlocks hP hS dX8_line_178
  · have hf := if_t hf hc
    refine lv_ldc (v := (-1000003)) hx hb hown (hts _ w_872) dX8_line_54 ?_
    exact en_i hf hx hb hr rfl hlocks hP hS dX8_line_56
set_option maxHeartbeats 4000000 in
set_option maxRecDepth 100000 in
theorem w_X8_line {p : Program} {l : Launch} {e : Env} {s : State} {m : MethodId} {args : Array Value} {below : List Frame} {meth : Method} {c : Code} {G : GG} {sz : Nat} {r : Int32} {M' : Mem} (E : Cx p s m args meth c cX8_line (some .int) 6 RX8 G) {x1 : Int32} {x2 : Int32} {x3 : Int32} {x4 : Int32} {M : Mem} {H : Heap} {locs : List Loc} {ls : Array Slot} (hf : f_X8_line x1 x2 x3 x4 M = some (r, M')) (hP : PW G (AM G) (XM G) sz M s H) (hS : va_S (AM G) s.heap H locs) (hl : lv_has ls 6 [(0, .ref (adM G 0 0)), (1, .int x1), (2, .int x2), (3, .int x3), (4, .int x4)]) : W p l e rm_X8_line s m args below meth c H locs 0 0 (MQ below (va_Qi (fun (r2 : Int32) (_ : Unit) => r2 = r) (fun _ t => PW G (AM G) (XM G) sz M' t t.heap) (AM G)) args s 0 0 (AM G)) (F0 m 0 ls []) := by
  obtain ⟨hx, hb, hr, hlocks, hml, hown, hts, hK⟩ := id E
  unfold f_X8_line at hf
  refine lv_iload_n hx hb dX8_line_0 rfl (lv_at hl 1 rfl) ?_
  refine ob_e hf (fun r_1 M_1 hq hf => ?_)
  refine cv_X8_isCoordinate E hP hS hq w_881 ⟨Nat.le_of_ble_eq_true rfl, Nat.le_of_ble_eq_true rfl⟩ hl (Nat.le_of_ble_eq_true rfl) dX8_line_1 ⟨Nat.le_of_ble_eq_true rfl, Nat.le_of_ble_eq_true rfl⟩ (fun H locs hP hS => ?_)
  refine lv_if_eq (tgt := 40) hx hb dX8_line_4 (by decide) (fun hc => ?_) (fun hc => ?_)
  · have hf := if_t hf hc
    exact w_X8_line_b40 E hf hP hS (lv_sub hl [] rfl)
  · have hf := if_f hf hc
    refine lv_iload_n hx hb dX8_line_7 rfl (lv_at hl 2 rfl) ?_
    refine ob_e hf (fun r_8 M_8 hq hf => ?_)
    refine cv_X8_isCoordinate E hP hS hq w_881 ⟨Nat.le_of_ble_eq_true rfl, Nat.le_of_ble_eq_true rfl⟩ hl (Nat.le_of_ble_eq_true rfl) dX8_line_8 ⟨Nat.le_of_ble_eq_true rfl, Nat.le_of_ble_eq_true rfl⟩ (fun H locs hP hS => ?_)
    refine lv_if_eq (tgt := 40) hx hb dX8_line_11 (by decide) (fun hc => ?_) (fun hc => ?_)
    · have hf := if_t hf hc
      exact w_X8_line_b40 E hf hP hS (lv_sub hl [] rfl)
    · have hf := if_f hf hc
      refine lv_iload_n hx hb dX8_line_14 rfl (lv_at hl 3 rfl) ?_
      refine ob_e hf (fun r_15 M_15 hq hf => ?_)
      refine cv_X8_isCoordinate E hP hS hq w_881 ⟨Nat.le_of_ble_eq_true rfl, Nat.le_of_ble_eq_true rfl⟩ hl (Nat.le_of_ble_eq_true rfl) dX8_line_15 ⟨Nat.le_of_ble_eq_true rfl, Nat.le_of_ble_eq_true rfl⟩ (fun H locs hP hS => ?_)
      refine lv_if_eq (tgt := 40) hx hb dX8_line_18 (by decide) (fun hc => ?_) (fun hc => ?_)
      · have hf := if_t hf hc
        exact w_X8_line_b40 E hf hP hS (lv_sub hl [] rfl)
      · have hf := if_f hf hc
        refine lv_iload hx hb dX8_line_21 (lv_at hl 4 rfl) ?_
        refine ob_e hf (fun r_23 M_23 hq hf => ?_)
        refine cv_X8_isCoordinate E hP hS hq w_881 ⟨Nat.le_of_ble_eq_true rfl, Nat.le_of_ble_eq_true rfl⟩ hl (Nat.le_of_ble_eq_true rfl) dX8_line_23 ⟨Nat.le_of_ble_eq_true rfl, Nat.le_of_ble_eq_true rfl⟩ (fun H locs hP hS => ?_)
        refine lv_if_eq (tgt := 40) hx hb dX8_line_26 (by decide) (fun hc => ?_) (fun hc => ?_)
        · have hf := if_t hf hc
          exact w_X8_line_b40 E hf hP hS (lv_sub hl [] rfl)
        · have hf := if_f hf hc
          refine lv_iload_n hx hb dX8_line_29 rfl (lv_at hl 1 rfl) ?_
          refine lv_iload_n hx hb dX8_line_30 rfl (lv_at hl 3 rfl) ?_
          refine lv_icmp_ne (tgt := 43) hx hb dX8_line_31 (by decide) (fun hc => ?_) (fun hc => ?_)
          · have hf := if_f hf hc
            exact w_X8_line_b43 E hf hP hS (lv_sub hl [0, 1, 2, 3, 4] rfl)
          · have hf := if_t hf hc
            refine lv_iload_n hx hb dX8_line_34 rfl (lv_at hl 2 rfl) ?_
            refine lv_iload hx hb dX8_line_35 (lv_at hl 4 rfl) ?_
            refine lv_icmp_ne (tgt := 43) hx hb dX8_line_37 (by decide) (fun hc => ?_) (fun hc => ?_)
            · have hf := if_f hf hc
              exact w_X8_line_b43 E hf hP hS (lv_sub hl [0, 1, 2, 3, 4] rfl)
            · have hf := if_t hf hc
              exact w_X8_line_b40 E hf hP hS (lv_sub hl [] rfl)
theorem c_X8_line (l : Launch) {G : GG} {sz : Nat} {x1 : Int32} {x2 : Int32} {x3 : Int32} {x4 : Int32} {M : Mem} {r : Int32} {M' : Mem} (hf : f_X8_line x1 x2 x3 x4 M = some (r, M')) : CtI l yX8_line cX8_line 6 (some .int) rm_X8_line [.ref (adM G 0 0), .int x1, .int x2, .int x3, .int x4] G (AM G) (XM G) sz M r (XM G) sz M' := by
  refine Ct_of (by decide) (Nat.le_of_ble_eq_true rfl) (fun p e s m below meth c ls hx hb hr hlocks hml hown hts hK hP hl => ?_)
  exact w_X8_line ⟨hx, hb, hr, hlocks, hml, hown, hts, hK⟩ hf hP va_S.rf hl
set_option maxRecDepth 100000 in
theorem cv_X8_line {p : Program} {l : Launch} {e : Env} {R : Room} {s : State} {m : MethodId} {args : Array Value} {below : List Frame} {meth : Method} {c : Code} {H : Heap} {locs : List Loc} {cells slots : Nat} {Q : State → Prop} {cc : ByteArray} {pc nL index : Nat} {ret : Option FieldType} {own : String} {ls : Array Slot} {rest : List Value} {l' : List (Nat × Value)} {G : GG} {sz : Nat} {M : Mem} (E : Cx p s m args meth c cc ret nL own G) (hP : PW G (AM G) (XM G) sz M s H) (hS : va_S (AM G) s.heap H locs) {x1 : Int32} {x2 : Int32} {x3 : Int32} {x4 : Int32} {r : Int32} {M' : Mem} (hq : f_X8_line x1 x2 x3 x4 M = some (r, M')) (w1 : Cond.methodLink own index yX8_line ∈ lw_all) (hR : 3 ≤ R.frames ∧ 67 ≤ R.locals) (hl : lv_has ls nL l') (hrest : (rest.map fun v => v.category).sum ≤ 8) (hdg : decode cc pc = .ok (.invokevirtual index, 3)) (hcs : cells ≤ R.cells ∧ slots ≤ R.slots)
    (kk : ∀ (H1 : Heap) (locs1 : List Loc), PW G (AM G) (XM G) sz M' s H1 → va_S (AM G) s.heap H1 locs1 → W p l e R s m args below meth c H1 locs1 cells slots Q (F0 m (pc + 3) ls (.int r :: rest))) : W p l e R s m args below meth c H locs cells slots Q (F0 m pc ls (.int x4 :: .int x3 :: .int x2 :: .int x1 :: .ref (adM G 0 0) :: rest)) := by
  obtain ⟨hx, hb, hr, hlocks, hml, hown, hts, hK⟩ := E
  exact kc_i (kc_runV (na := 4) (q := (RX8, TX8, 16)) hx hb hml hts hown hK hP 0 0 ⟨rfl, by decide⟩ rfl rfl rfl (c_X8_line l hq) w1 w_878 w_879 w_9 w_880 (by decide +kernel) hR rfl hl rfl hrest hdg hcs) hS kk
/-! X8_present -/
abbrev rm_X8_present : Room := { frames := 1, cells := 0, slots := 0, locals := 22 }
def f_X8_present_b4 : Nat → Int32 → Int32 → Mem → Option (Int32 × Mem)
  | 0 => fun _ _ _ => none
  | fu + 1 => fun x1 x2 M =>
(if (M 0 1 (ix 0)) ≤ x2 then
  some (x1, M)
else
  ob (f_X8_pn x2 6 M) fun r_20 M_20 =>
  lt ((x1 + (1 - r_20))) fun x1_25 =>
  lt (x2 + 1) fun x2_26 =>
  f_X8_present_b4 fu x1_25 x2_26 M_20)
def f_X8_present (M : Mem) : Option (Int32 × Mem) :=
f_X8_present_b4 1000 0 0 M
set_option maxHeartbeats 4000000 in
set_option maxRecDepth 100000 in
theorem w_X8_present_b4 {p : Program} {l : Launch} {e : Env} {s : State} {m : MethodId} {args : Array Value} {below : List Frame} {meth : Method} {c : Code} {G : GG} {sz : Nat} {r : Int32} {M' : Mem} (E : Cx p s m args meth c cX8_present (some .int) 3 RX8 G) : ∀ fu : Nat, ∀ (x1 : Int32) (x2 : Int32) (M : Mem) (H : Heap) (locs : List Loc) (ls : Array Slot), f_X8_present_b4 fu x1 x2 M = some (r, M') → PW G (AM G) (XM G) sz M s H → va_S (AM G) s.heap H locs → lv_has ls 3 [(0, .ref (adM G 0 0)), (1, .int x1), (2, .int x2)] → W p l e rm_X8_present s m args below meth c H locs 0 0 (MQ below (va_Qi (fun (r2 : Int32) (_ : Unit) => r2 = r) (fun _ t => PW G (AM G) (XM G) sz M' t t.heap) (AM G)) args s 0 0 (AM G)) (F0 m 4 ls []) := by
  obtain ⟨hx, hb, hr, hlocks, hml, hown, hts, hK⟩ := id E
  intro fu
  induction fu with
  | zero => intro x1 x2 M H locs ls hf hP hS hl; cases hf
  | succ fu ih =>
    intro x1 x2 M H locs ls hf hP hS hl
    rw [f_X8_present_b4.eq_2] at hf
    refine lv_iload_n hx hb dX8_present_4 rfl (lv_at hl 2 rfl) ?_
    refine lv_aload_n hx hb dX8_present_5 rfl (lv_at hl 0 rfl) ?_
    refine gf_X8_s E hP w_797 dX8_present_6 ?_
    refine lv_iconst (v := 0) hx hb dX8_present_9 (by decide) ?_
    refine la_M1 E hP (by decide) dX8_present_10 ?_
    refine lv_icmp_ge (tgt := 32) hx hb dX8_present_11 (by decide) (fun hc => ?_) (fun hc => ?_)
    · have hf := if_t hf hc
      refine lv_iload_n hx hb dX8_present_32 rfl (lv_at hl 1 rfl) ?_
      exact en_i hf hx hb hr rfl hlocks hP hS dX8_present_33
    · have hf := if_f hf hc
      refine lv_iload_n hx hb dX8_present_14 rfl (lv_at hl 1 rfl) ?_
      refine lv_iconst (v := 1) hx hb dX8_present_15 (by decide) ?_
      refine lv_aload_n hx hb dX8_present_16 rfl (lv_at hl 0 rfl) ?_
      refine lv_iload_n hx hb dX8_present_17 rfl (lv_at hl 2 rfl) ?_
      refine lv_bipush (v := 6) hx hb dX8_present_18 (by decide) ?_
      refine ob_e hf (fun r_20 M_20 hq hf => ?_)
      refine cv_X8_pn E hP hS hq w_867 ⟨Nat.le_of_ble_eq_true rfl, Nat.le_of_ble_eq_true rfl⟩ hl (Nat.le_of_ble_eq_true rfl) dX8_present_20 ⟨Nat.le_of_ble_eq_true rfl, Nat.le_of_ble_eq_true rfl⟩ (fun H locs hP hS => ?_)
      refine lv_isub hx hb dX8_present_23 ?_
      refine lv_iadd hx hb dX8_present_24 ?_
      refine lt_e hf (fun x1_25 hx1_25 hf => ?_)
      refine kr_nm hx1_25 ?_
      refine lv_istore_n (lv' := [(1, .int x1_25), (0, .ref (adM G 0 0)), (2, .int x2)]) hx hb dX8_present_25 rfl hl (by decide) rfl (fun ls hl => ?_)
      refine lt_e hf (fun x2_26 hx2_26 hf => ?_)
      refine lv_iinc (v := x2_26) (lv' := [(2, .int x2_26), (1, .int x1_25), (0, .ref (adM G 0 0))]) hx hb dX8_present_26 hl (k := 2) rfl (by rw [hx2_26]; rfl) (by decide) rfl (fun ls hl => ?_)
      refine lv_goto (tgt := 4) hx hb dX8_present_29 (by decide) ?_
      exact ih _ _ _ _ _ _ hf hP hS (lv_sub hl [2, 1, 0] rfl)
set_option maxHeartbeats 4000000 in
set_option maxRecDepth 100000 in
theorem w_X8_present {p : Program} {l : Launch} {e : Env} {s : State} {m : MethodId} {args : Array Value} {below : List Frame} {meth : Method} {c : Code} {G : GG} {sz : Nat} {r : Int32} {M' : Mem} (E : Cx p s m args meth c cX8_present (some .int) 3 RX8 G) {M : Mem} {H : Heap} {locs : List Loc} {ls : Array Slot} (hf : f_X8_present M = some (r, M')) (hP : PW G (AM G) (XM G) sz M s H) (hS : va_S (AM G) s.heap H locs) (hl : lv_has ls 3 [(0, .ref (adM G 0 0))]) : W p l e rm_X8_present s m args below meth c H locs 0 0 (MQ below (va_Qi (fun (r2 : Int32) (_ : Unit) => r2 = r) (fun _ t => PW G (AM G) (XM G) sz M' t t.heap) (AM G)) args s 0 0 (AM G)) (F0 m 0 ls []) := by
  obtain ⟨hx, hb, hr, hlocks, hml, hown, hts, hK⟩ := id E
  unfold f_X8_present at hf
  refine lv_iconst (v := 0) hx hb dX8_present_0 (by decide) ?_
  refine lv_istore_n (lv' := [(1, .int 0), (0, .ref (adM G 0 0))]) hx hb dX8_present_1 rfl hl (by decide) rfl (fun ls hl => ?_)
  refine lv_iconst (v := 0) hx hb dX8_present_2 (by decide) ?_
  refine lv_istore_n (lv' := [(2, .int 0), (1, .int 0), (0, .ref (adM G 0 0))]) hx hb dX8_present_3 rfl hl (by decide) rfl (fun ls hl => ?_)
  exact w_X8_present_b4 E 1000 _ _ _ _ _ _ hf hP hS (lv_sub hl [2, 1, 0] rfl)
theorem c_X8_present (l : Launch) {G : GG} {sz : Nat} {M : Mem} {r : Int32} {M' : Mem} (hf : f_X8_present M = some (r, M')) : CtI l yX8_present cX8_present 3 (some .int) rm_X8_present [.ref (adM G 0 0)] G (AM G) (XM G) sz M r (XM G) sz M' := by
  refine Ct_of (by decide) (Nat.le_of_ble_eq_true rfl) (fun p e s m below meth c ls hx hb hr hlocks hml hown hts hK hP hl => ?_)
  exact w_X8_present ⟨hx, hb, hr, hlocks, hml, hown, hts, hK⟩ hf hP va_S.rf hl
set_option maxRecDepth 100000 in
theorem cv_X8_present {p : Program} {l : Launch} {e : Env} {R : Room} {s : State} {m : MethodId} {args : Array Value} {below : List Frame} {meth : Method} {c : Code} {H : Heap} {locs : List Loc} {cells slots : Nat} {Q : State → Prop} {cc : ByteArray} {pc nL index : Nat} {ret : Option FieldType} {own : String} {ls : Array Slot} {rest : List Value} {l' : List (Nat × Value)} {G : GG} {sz : Nat} {M : Mem} (E : Cx p s m args meth c cc ret nL own G) (hP : PW G (AM G) (XM G) sz M s H) (hS : va_S (AM G) s.heap H locs) {r : Int32} {M' : Mem} (hq : f_X8_present M = some (r, M')) (w1 : Cond.methodLink own index yX8_present ∈ lw_all) (hR : 2 ≤ R.frames ∧ 44 ≤ R.locals) (hl : lv_has ls nL l') (hrest : (rest.map fun v => v.category).sum ≤ 8) (hdg : decode cc pc = .ok (.invokevirtual index, 3)) (hcs : cells ≤ R.cells ∧ slots ≤ R.slots)
    (kk : ∀ (H1 : Heap) (locs1 : List Loc), PW G (AM G) (XM G) sz M' s H1 → va_S (AM G) s.heap H1 locs1 → W p l e R s m args below meth c H1 locs1 cells slots Q (F0 m (pc + 3) ls (.int r :: rest))) : W p l e R s m args below meth c H locs cells slots Q (F0 m pc ls (.ref (adM G 0 0) :: rest)) := by
  obtain ⟨hx, hb, hr, hlocks, hml, hown, hts, hK⟩ := E
  exact kc_i (kc_runV (na := 0) (q := (RX8, TX8, 16)) hx hb hml hts hown hK hP 0 0 ⟨rfl, by decide⟩ rfl rfl rfl (c_X8_present l hq) w1 w_894 ws_24 w_9 w_895 (by decide +kernel) hR rfl hl rfl hrest hdg hcs) hS kk
/-! X8_leave -/
abbrev rm_X8_leave : Room := { frames := 2, cells := 0, slots := 0, locals := 44 }
def f_X8_leave_b17 (M : Mem) : Option (Int32 × Mem) :=
some ((-1000001), M)
def f_X8_leave_b42 (M : Mem) : Option (Int32 × Mem) :=
some ((-1000002), M)
def f_X8_leave (x1 : Int32) (x2 : Int32) (M : Mem) : Option (Int32 × Mem) :=
ob (f_X8_isPen x1 M) fun r_2 M_2 =>
(if r_2 = 0 then
  f_X8_leave_b17 M_2
else
  ob (f_X8_in x2 0 1 M_2) fun r_11 M_11 =>
  (if r_11 = 0 then
    f_X8_leave_b17 M_11
  else
    ob (f_X8_pn x1 6 M_11) fun r_24 M_24 =>
    (if r_24 = x2 then
      f_X8_leave_b42 M_24
    else
      (if (M_24 0 1 (ix 8)) = x1 then
        f_X8_leave_b42 M_24
      else
        ob (f_X8_keeps M_24) fun _ M_46 =>
        ob (f_X8_lays x1 6 x2 M_46) fun _ M_54 =>
        ob (f_X8_present M_54) fun r_59 M_59 =>
        ob (f_X8_acted r_59 M_59) fun r_62 M_62 =>
        some (r_62, M_62)))))
set_option maxHeartbeats 4000000 in
set_option maxRecDepth 100000 in
theorem w_X8_leave_b17 {p : Program} {l : Launch} {e : Env} {s : State} {m : MethodId} {args : Array Value} {below : List Frame} {meth : Method} {c : Code} {G : GG} {sz : Nat} {r : Int32} {M' : Mem} (E : Cx p s m args meth c cX8_leave (some .int) 3 RX8 G) {M : Mem} {H : Heap} {locs : List Loc} {ls : Array Slot} (hf : f_X8_leave_b17 M = some (r, M')) (hP : PW G (AM G) (XM G) sz M s H) (hS : va_S (AM G) s.heap H locs) (hl : lv_has ls 3 []) : W p l e rm_X8_leave s m args below meth c H locs 0 0 (MQ below (va_Qi (fun (r2 : Int32) (_ : Unit) => r2 = r) (fun _ t => PW G (AM G) (XM G) sz M' t t.heap) (AM G)) args s 0 0 (AM G)) (F0 m 17 ls []) := by
  obtain ⟨hx, hb, hr, hlocks, hml, hown, hts, hK⟩ := id E
  unfold f_X8_leave_b17 at hf
  refine lv_ldc (v := (-1000001)) hx hb hown (hts _ w_854) dX8_leave_17 ?_
  exact en_i hf hx hb hr rfl hlocks hP hS dX8_leave_19
set_option maxHeartbeats 4000000 in
set_option maxRecDepth 100000 in
theorem w_X8_leave_b42 {p : Program} {l : Launch} {e : Env} {s : State} {m : MethodId} {args : Array Value} {below : List Frame} {meth : Method} {c : Code} {G : GG} {sz : Nat} {r : Int32} {M' : Mem} (E : Cx p s m args meth c cX8_leave (some .int) 3 RX8 G) {M : Mem} {H : Heap} {locs : List Loc} {ls : Array Slot} (hf : f_X8_leave_b42 M = some (r, M')) (hP : PW G (AM G) (XM G) sz M s H) (hS : va_S (AM G) s.heap H locs) (hl : lv_has ls 3 []) : W p l e rm_X8_leave s m args below meth c H locs 0 0 (MQ below (va_Qi (fun (r2 : Int32) (_ : Unit) => r2 = r) (fun _ t => PW G (AM G) (XM G) sz M' t t.heap) (AM G)) args s 0 0 (AM G)) (F0 m 42 ls []) := by
  obtain ⟨hx, hb, hr, hlocks, hml, hown, hts, hK⟩ := id E
  unfold f_X8_leave_b42 at hf
  refine lv_ldc (v := (-1000002)) hx hb hown (hts _ w_871) dX8_leave_42 ?_
  exact en_i hf hx hb hr rfl hlocks hP hS dX8_leave_44
set_option maxHeartbeats 4000000 in
set_option maxRecDepth 100000 in
theorem w_X8_leave {p : Program} {l : Launch} {e : Env} {s : State} {m : MethodId} {args : Array Value} {below : List Frame} {meth : Method} {c : Code} {G : GG} {sz : Nat} {r : Int32} {M' : Mem} (E : Cx p s m args meth c cX8_leave (some .int) 3 RX8 G) {x1 : Int32} {x2 : Int32} {M : Mem} {H : Heap} {locs : List Loc} {ls : Array Slot} (hf : f_X8_leave x1 x2 M = some (r, M')) (hP : PW G (AM G) (XM G) sz M s H) (hS : va_S (AM G) s.heap H locs) (hl : lv_has ls 3 [(0, .ref (adM G 0 0)), (1, .int x1), (2, .int x2)]) : W p l e rm_X8_leave s m args below meth c H locs 0 0 (MQ below (va_Qi (fun (r2 : Int32) (_ : Unit) => r2 = r) (fun _ t => PW G (AM G) (XM G) sz M' t t.heap) (AM G)) args s 0 0 (AM G)) (F0 m 0 ls []) := by
  obtain ⟨hx, hb, hr, hlocks, hml, hown, hts, hK⟩ := id E
  unfold f_X8_leave at hf
  refine lv_aload_n hx hb dX8_leave_0 rfl (lv_at hl 0 rfl) ?_
  refine lv_iload_n hx hb dX8_leave_1 rfl (lv_at hl 1 rfl) ?_
  refine ob_e hf (fun r_2 M_2 hq hf => ?_)
  refine cv_X8_isPen E hP hS hq w_888 ⟨Nat.le_of_ble_eq_true rfl, Nat.le_of_ble_eq_true rfl⟩ hl (Nat.le_of_ble_eq_true rfl) dX8_leave_2 ⟨Nat.le_of_ble_eq_true rfl, Nat.le_of_ble_eq_true rfl⟩ (fun H locs hP hS => ?_)
  refine lv_if_eq (tgt := 17) hx hb dX8_leave_5 (by decide) (fun hc => ?_) (fun hc => ?_)
  · have hf := if_t hf hc
    exact w_X8_leave_b17 E hf hP hS (lv_sub hl [] rfl)
  · have hf := if_f hf hc
    refine lv_iload_n hx hb dX8_leave_8 rfl (lv_at hl 2 rfl) ?_
    refine lv_iconst (v := 0) hx hb dX8_leave_9 (by decide) ?_
    refine lv_iconst (v := 1) hx hb dX8_leave_10 (by decide) ?_
    refine ob_e hf (fun r_11 M_11 hq hf => ?_)
    refine cv_X8_in E hP hS hq w_851 ⟨Nat.le_of_ble_eq_true rfl, Nat.le_of_ble_eq_true rfl⟩ hl (Nat.le_of_ble_eq_true rfl) dX8_leave_11 ⟨Nat.le_of_ble_eq_true rfl, Nat.le_of_ble_eq_true rfl⟩ (fun H locs hP hS => ?_)
    refine lv_if_ne (tgt := 20) hx hb dX8_leave_14 (by decide) (fun hc => ?_) (fun hc => ?_)
    · have hf := if_f hf hc
      refine lv_aload_n hx hb dX8_leave_20 rfl (lv_at hl 0 rfl) ?_
      refine lv_iload_n hx hb dX8_leave_21 rfl (lv_at hl 1 rfl) ?_
      refine lv_bipush (v := 6) hx hb dX8_leave_22 (by decide) ?_
      refine ob_e hf (fun r_24 M_24 hq hf => ?_)
      refine cv_X8_pn E hP hS hq w_867 ⟨Nat.le_of_ble_eq_true rfl, Nat.le_of_ble_eq_true rfl⟩ hl (Nat.le_of_ble_eq_true rfl) dX8_leave_24 ⟨Nat.le_of_ble_eq_true rfl, Nat.le_of_ble_eq_true rfl⟩ (fun H locs hP hS => ?_)
      refine lv_iload_n hx hb dX8_leave_27 rfl (lv_at hl 2 rfl) ?_
      refine lv_icmp_eq (tgt := 42) hx hb dX8_leave_28 (by decide) (fun hc => ?_) (fun hc => ?_)
      · have hf := if_t hf hc
        exact w_X8_leave_b42 E hf hP hS (lv_sub hl [] rfl)
      · have hf := if_f hf hc
        refine lv_aload_n hx hb dX8_leave_31 rfl (lv_at hl 0 rfl) ?_
        refine gf_X8_s E hP w_797 dX8_leave_32 ?_
        refine lv_bipush (v := 8) hx hb dX8_leave_35 (by decide) ?_
        refine la_M1 E hP (by decide) dX8_leave_37 ?_
        refine lv_iload_n hx hb dX8_leave_38 rfl (lv_at hl 1 rfl) ?_
        refine lv_icmp_ne (tgt := 45) hx hb dX8_leave_39 (by decide) (fun hc => ?_) (fun hc => ?_)
        · have hf := if_f hf hc
          refine lv_aload_n hx hb dX8_leave_45 rfl (lv_at hl 0 rfl) ?_
          refine ob_e hf (fun r_46 M_46 hq hf => ?_)
          refine cv_X8_keeps E hP hS hq w_855 ⟨Nat.le_of_ble_eq_true rfl, Nat.le_of_ble_eq_true rfl⟩ hl (Nat.le_of_ble_eq_true rfl) dX8_leave_46 ⟨Nat.le_of_ble_eq_true rfl, Nat.le_of_ble_eq_true rfl⟩ (fun H locs hP hS => ?_)
          refine lv_aload_n hx hb dX8_leave_49 rfl (lv_at hl 0 rfl) ?_
          refine lv_iload_n hx hb dX8_leave_50 rfl (lv_at hl 1 rfl) ?_
          refine lv_bipush (v := 6) hx hb dX8_leave_51 (by decide) ?_
          refine lv_iload_n hx hb dX8_leave_53 rfl (lv_at hl 2 rfl) ?_
          refine ob_e hf (fun r_54 M_54 hq hf => ?_)
          refine cv_X8_lays E hP hS hq w_873 ⟨Nat.le_of_ble_eq_true rfl, Nat.le_of_ble_eq_true rfl⟩ hl (Nat.le_of_ble_eq_true rfl) dX8_leave_54 ⟨Nat.le_of_ble_eq_true rfl, Nat.le_of_ble_eq_true rfl⟩ (fun H locs hP hS => ?_)
          refine lv_aload_n hx hb dX8_leave_57 rfl (lv_at hl 0 rfl) ?_
          refine lv_aload_n hx hb dX8_leave_58 rfl (lv_at hl 0 rfl) ?_
          refine ob_e hf (fun r_59 M_59 hq hf => ?_)
          refine cv_X8_present E hP hS hq w_892 ⟨Nat.le_of_ble_eq_true rfl, Nat.le_of_ble_eq_true rfl⟩ hl (Nat.le_of_ble_eq_true rfl) dX8_leave_59 ⟨Nat.le_of_ble_eq_true rfl, Nat.le_of_ble_eq_true rfl⟩ (fun H locs hP hS => ?_)
          refine ob_e hf (fun r_62 M_62 hq hf => ?_)
          refine cv_X8_acted E hP hS hq w_859 ⟨Nat.le_of_ble_eq_true rfl, Nat.le_of_ble_eq_true rfl⟩ hl (Nat.le_of_ble_eq_true rfl) dX8_leave_62 ⟨Nat.le_of_ble_eq_true rfl, Nat.le_of_ble_eq_true rfl⟩ (fun H locs hP hS => ?_)
          exact en_i hf hx hb hr rfl hlocks hP hS dX8_leave_65
        · have hf := if_t hf hc
          exact w_X8_leave_b42 E hf hP hS (lv_sub hl [] rfl)
    · have hf := if_t hf hc
      exact w_X8_leave_b17 E hf hP hS (lv_sub hl [] rfl)
theorem c_X8_leave (l : Launch) {G : GG} {sz : Nat} {x1 : Int32} {x2 : Int32} {M : Mem} {r : Int32} {M' : Mem} (hf : f_X8_leave x1 x2 M = some (r, M')) : CtI l yX8_leave cX8_leave 3 (some .int) rm_X8_leave [.ref (adM G 0 0), .int x1, .int x2] G (AM G) (XM G) sz M r (XM G) sz M' := by
  refine Ct_of (by decide) (Nat.le_of_ble_eq_true rfl) (fun p e s m below meth c ls hx hb hr hlocks hml hown hts hK hP hl => ?_)
  exact w_X8_leave ⟨hx, hb, hr, hlocks, hml, hown, hts, hK⟩ hf hP va_S.rf hl
set_option maxRecDepth 100000 in
theorem cv_X8_leave {p : Program} {l : Launch} {e : Env} {R : Room} {s : State} {m : MethodId} {args : Array Value} {below : List Frame} {meth : Method} {c : Code} {H : Heap} {locs : List Loc} {cells slots : Nat} {Q : State → Prop} {cc : ByteArray} {pc nL index : Nat} {ret : Option FieldType} {own : String} {ls : Array Slot} {rest : List Value} {l' : List (Nat × Value)} {G : GG} {sz : Nat} {M : Mem} (E : Cx p s m args meth c cc ret nL own G) (hP : PW G (AM G) (XM G) sz M s H) (hS : va_S (AM G) s.heap H locs) {x1 : Int32} {x2 : Int32} {r : Int32} {M' : Mem} (hq : f_X8_leave x1 x2 M = some (r, M')) (w1 : Cond.methodLink own index yX8_leave ∈ lw_all) (hR : 3 ≤ R.frames ∧ 66 ≤ R.locals) (hl : lv_has ls nL l') (hrest : (rest.map fun v => v.category).sum ≤ 8) (hdg : decode cc pc = .ok (.invokevirtual index, 3)) (hcs : cells ≤ R.cells ∧ slots ≤ R.slots)
    (kk : ∀ (H1 : Heap) (locs1 : List Loc), PW G (AM G) (XM G) sz M' s H1 → va_S (AM G) s.heap H1 locs1 → W p l e R s m args below meth c H1 locs1 cells slots Q (F0 m (pc + 3) ls (.int r :: rest))) : W p l e R s m args below meth c H locs cells slots Q (F0 m pc ls (.int x2 :: .int x1 :: .ref (adM G 0 0) :: rest)) := by
  obtain ⟨hx, hb, hr, hlocks, hml, hown, hts, hK⟩ := E
  exact kc_i (kc_runV (na := 2) (q := (RX8, TX8, 16)) hx hb hml hts hown hK hP 0 0 ⟨rfl, by decide⟩ rfl rfl rfl (c_X8_leave l hq) w1 w_885 w_886 w_9 w_887 (by decide +kernel) hR rfl hl rfl hrest hdg hcs) hS kk
/-! X8_refill -/
abbrev rm_X8_refill : Room := { frames := 2, cells := 0, slots := 0, locals := 43 }
def f_X8_refill (x1 : Int32) (M : Mem) : Option (Int32 × Mem) :=
ob (f_X8_isPen x1 M) fun r_2 M_2 =>
(if r_2 = 0 then
  some ((-1000001), M_2)
else
  ob (f_X8_pn x1 1 M_2) fun r_14 M_14 =>
  ob (f_X8_pn x1 2 M_14) fun r_20 M_20 =>
  lt ((r_14 - r_20)) fun x2_24 =>
  (if x2_24 = 0 then
    some ((-1000002), M_20)
  else
    ob (f_X8_keeps M_20) fun _ M_33 =>
    ob (f_X8_pn x1 1 M_33) fun r_42 M_42 =>
    ob (f_X8_lays x1 2 r_42 M_42) fun _ M_45 =>
    ob (f_X8_acted x2_24 M_45) fun r_50 M_50 =>
    some (r_50, M_50)))
set_option maxHeartbeats 4000000 in
set_option maxRecDepth 100000 in
theorem w_X8_refill {p : Program} {l : Launch} {e : Env} {s : State} {m : MethodId} {args : Array Value} {below : List Frame} {meth : Method} {c : Code} {G : GG} {sz : Nat} {r : Int32} {M' : Mem} (E : Cx p s m args meth c cX8_refill (some .int) 3 RX8 G) {x1 : Int32} {M : Mem} {H : Heap} {locs : List Loc} {ls : Array Slot} (hf : f_X8_refill x1 M = some (r, M')) (hP : PW G (AM G) (XM G) sz M s H) (hS : va_S (AM G) s.heap H locs) (hl : lv_has ls 3 [(0, .ref (adM G 0 0)), (1, .int x1)]) : W p l e rm_X8_refill s m args below meth c H locs 0 0 (MQ below (va_Qi (fun (r2 : Int32) (_ : Unit) => r2 = r) (fun _ t => PW G (AM G) (XM G) sz M' t t.heap) (AM G)) args s 0 0 (AM G)) (F0 m 0 ls []) := by
  obtain ⟨hx, hb, hr, hlocks, hml, hown, hts, hK⟩ := id E
  unfold f_X8_refill at hf
  refine lv_aload_n hx hb dX8_refill_0 rfl (lv_at hl 0 rfl) ?_
  refine lv_iload_n hx hb dX8_refill_1 rfl (lv_at hl 1 rfl) ?_
  refine ob_e hf (fun r_2 M_2 hq hf => ?_)
  refine cv_X8_isPen E hP hS hq w_888 ⟨Nat.le_of_ble_eq_true rfl, Nat.le_of_ble_eq_true rfl⟩ hl (Nat.le_of_ble_eq_true rfl) dX8_refill_2 ⟨Nat.le_of_ble_eq_true rfl, Nat.le_of_ble_eq_true rfl⟩ (fun H locs hP hS => ?_)
  refine lv_if_ne (tgt := 11) hx hb dX8_refill_5 (by decide) (fun hc => ?_) (fun hc => ?_)
  · have hf := if_f hf hc
    refine lv_aload_n hx hb dX8_refill_11 rfl (lv_at hl 0 rfl) ?_
    refine lv_iload_n hx hb dX8_refill_12 rfl (lv_at hl 1 rfl) ?_
    refine lv_iconst (v := 1) hx hb dX8_refill_13 (by decide) ?_
    refine ob_e hf (fun r_14 M_14 hq hf => ?_)
    refine cv_X8_pn E hP hS hq w_867 ⟨Nat.le_of_ble_eq_true rfl, Nat.le_of_ble_eq_true rfl⟩ hl (Nat.le_of_ble_eq_true rfl) dX8_refill_14 ⟨Nat.le_of_ble_eq_true rfl, Nat.le_of_ble_eq_true rfl⟩ (fun H locs hP hS => ?_)
    refine lv_aload_n hx hb dX8_refill_17 rfl (lv_at hl 0 rfl) ?_
    refine lv_iload_n hx hb dX8_refill_18 rfl (lv_at hl 1 rfl) ?_
    refine lv_iconst (v := 2) hx hb dX8_refill_19 (by decide) ?_
    refine ob_e hf (fun r_20 M_20 hq hf => ?_)
    refine cv_X8_pn E hP hS hq w_867 ⟨Nat.le_of_ble_eq_true rfl, Nat.le_of_ble_eq_true rfl⟩ hl (Nat.le_of_ble_eq_true rfl) dX8_refill_20 ⟨Nat.le_of_ble_eq_true rfl, Nat.le_of_ble_eq_true rfl⟩ (fun H locs hP hS => ?_)
    refine lv_isub hx hb dX8_refill_23 ?_
    refine lt_e hf (fun x2_24 hx2_24 hf => ?_)
    refine kr_nm hx2_24 ?_
    refine lv_istore_n (lv' := [(2, .int x2_24), (0, .ref (adM G 0 0)), (1, .int x1)]) hx hb dX8_refill_24 rfl hl (by decide) rfl (fun ls hl => ?_)
    refine lv_iload_n hx hb dX8_refill_25 rfl (lv_at hl 0 rfl) ?_
    refine lv_if_ne (tgt := 32) hx hb dX8_refill_26 (by decide) (fun hc => ?_) (fun hc => ?_)
    · have hf := if_f hf hc
      refine lv_aload_n hx hb dX8_refill_32 rfl (lv_at hl 1 rfl) ?_
      refine ob_e hf (fun r_33 M_33 hq hf => ?_)
      refine cv_X8_keeps E hP hS hq w_855 ⟨Nat.le_of_ble_eq_true rfl, Nat.le_of_ble_eq_true rfl⟩ hl (Nat.le_of_ble_eq_true rfl) dX8_refill_33 ⟨Nat.le_of_ble_eq_true rfl, Nat.le_of_ble_eq_true rfl⟩ (fun H locs hP hS => ?_)
      refine lv_aload_n hx hb dX8_refill_36 rfl (lv_at hl 1 rfl) ?_
      refine lv_iload_n hx hb dX8_refill_37 rfl (lv_at hl 2 rfl) ?_
      refine lv_iconst (v := 2) hx hb dX8_refill_38 (by decide) ?_
      refine lv_aload_n hx hb dX8_refill_39 rfl (lv_at hl 1 rfl) ?_
      refine lv_iload_n hx hb dX8_refill_40 rfl (lv_at hl 2 rfl) ?_
      refine lv_iconst (v := 1) hx hb dX8_refill_41 (by decide) ?_
      refine ob_e hf (fun r_42 M_42 hq hf => ?_)
      refine cv_X8_pn E hP hS hq w_867 ⟨Nat.le_of_ble_eq_true rfl, Nat.le_of_ble_eq_true rfl⟩ hl (Nat.le_of_ble_eq_true rfl) dX8_refill_42 ⟨Nat.le_of_ble_eq_true rfl, Nat.le_of_ble_eq_true rfl⟩ (fun H locs hP hS => ?_)
      refine ob_e hf (fun r_45 M_45 hq hf => ?_)
      refine cv_X8_lays E hP hS hq w_873 ⟨Nat.le_of_ble_eq_true rfl, Nat.le_of_ble_eq_true rfl⟩ hl (Nat.le_of_ble_eq_true rfl) dX8_refill_45 ⟨Nat.le_of_ble_eq_true rfl, Nat.le_of_ble_eq_true rfl⟩ (fun H locs hP hS => ?_)
      refine lv_aload_n hx hb dX8_refill_48 rfl (lv_at hl 1 rfl) ?_
      refine lv_iload_n hx hb dX8_refill_49 rfl (lv_at hl 0 rfl) ?_
      refine ob_e hf (fun r_50 M_50 hq hf => ?_)
      refine cv_X8_acted E hP hS hq w_859 ⟨Nat.le_of_ble_eq_true rfl, Nat.le_of_ble_eq_true rfl⟩ hl (Nat.le_of_ble_eq_true rfl) dX8_refill_50 ⟨Nat.le_of_ble_eq_true rfl, Nat.le_of_ble_eq_true rfl⟩ (fun H locs hP hS => ?_)
      exact en_i hf hx hb hr rfl hlocks hP hS dX8_refill_53
    · have hf := if_t hf hc
      refine lv_ldc (v := (-1000002)) hx hb hown (hts _ w_871) dX8_refill_29 ?_
      exact en_i hf hx hb hr rfl hlocks hP hS dX8_refill_31
  · have hf := if_t hf hc
    refine lv_ldc (v := (-1000001)) hx hb hown (hts _ w_854) dX8_refill_8 ?_
    exact en_i hf hx hb hr rfl hlocks hP hS dX8_refill_10
theorem c_X8_refill (l : Launch) {G : GG} {sz : Nat} {x1 : Int32} {M : Mem} {r : Int32} {M' : Mem} (hf : f_X8_refill x1 M = some (r, M')) : CtI l yX8_refill cX8_refill 3 (some .int) rm_X8_refill [.ref (adM G 0 0), .int x1] G (AM G) (XM G) sz M r (XM G) sz M' := by
  refine Ct_of (by decide) (Nat.le_of_ble_eq_true rfl) (fun p e s m below meth c ls hx hb hr hlocks hml hown hts hK hP hl => ?_)
  exact w_X8_refill ⟨hx, hb, hr, hlocks, hml, hown, hts, hK⟩ hf hP va_S.rf hl
set_option maxRecDepth 100000 in
theorem cv_X8_refill {p : Program} {l : Launch} {e : Env} {R : Room} {s : State} {m : MethodId} {args : Array Value} {below : List Frame} {meth : Method} {c : Code} {H : Heap} {locs : List Loc} {cells slots : Nat} {Q : State → Prop} {cc : ByteArray} {pc nL index : Nat} {ret : Option FieldType} {own : String} {ls : Array Slot} {rest : List Value} {l' : List (Nat × Value)} {G : GG} {sz : Nat} {M : Mem} (E : Cx p s m args meth c cc ret nL own G) (hP : PW G (AM G) (XM G) sz M s H) (hS : va_S (AM G) s.heap H locs) {x1 : Int32} {r : Int32} {M' : Mem} (hq : f_X8_refill x1 M = some (r, M')) (w1 : Cond.methodLink own index yX8_refill ∈ lw_all) (hR : 3 ≤ R.frames ∧ 65 ≤ R.locals) (hl : lv_has ls nL l') (hrest : (rest.map fun v => v.category).sum ≤ 8) (hdg : decode cc pc = .ok (.invokevirtual index, 3)) (hcs : cells ≤ R.cells ∧ slots ≤ R.slots)
    (kk : ∀ (H1 : Heap) (locs1 : List Loc), PW G (AM G) (XM G) sz M' s H1 → va_S (AM G) s.heap H1 locs1 → W p l e R s m args below meth c H1 locs1 cells slots Q (F0 m (pc + 3) ls (.int r :: rest))) : W p l e R s m args below meth c H locs cells slots Q (F0 m pc ls (.int x1 :: .ref (adM G 0 0) :: rest)) := by
  obtain ⟨hx, hb, hr, hlocks, hml, hown, hts, hK⟩ := E
  exact kc_i (kc_runV (na := 1) (q := (RX8, TX8, 16)) hx hb hml hts hown hK hP 0 0 ⟨rfl, by decide⟩ rfl rfl rfl (c_X8_refill l hq) w1 w_897 w_898 w_9 w_899 (by decide +kernel) hR rfl hl rfl hrest hdg hcs) hS kk
/-! X8_least -/
abbrev rm_X8_least : Room := { frames := 1, cells := 0, slots := 0, locals := 22 }
def f_X8_least_b65 (L4 : Int32 → Int32 → Int32 → Mem → Option (Int32 × Mem)) (x1 : Int32) (x3 : Int32) (s0 : Int32) (M : Mem) : Option (Int32 × Mem) :=
lt (x3 + 1) fun x3_66 =>
L4 x1 s0 x3_66 M
def f_X8_least_b48 (L4 : Int32 → Int32 → Int32 → Mem → Option (Int32 × Mem)) (x1 : Int32) (x2 : Int32) (x3 : Int32) (s0 : Int32) (M : Mem) : Option (Int32 × Mem) :=
(if s0 = 0 then
  f_X8_least_b65 L4 x1 x3 x2 M
else
  ob (f_X8_pn x3 3 M) fun r_58 M_58 =>
  f_X8_least_b65 L4 x1 x3 r_58 M_58)
def f_X8_least_b47 (L4 : Int32 → Int32 → Int32 → Mem → Option (Int32 × Mem)) (x1 : Int32) (x2 : Int32) (x3 : Int32) (M : Mem) : Option (Int32 × Mem) :=
f_X8_least_b48 L4 x1 x2 x3 0 M
def f_X8_least_b43 (L4 : Int32 → Int32 → Int32 → Mem → Option (Int32 × Mem)) (x1 : Int32) (x2 : Int32) (x3 : Int32) (M : Mem) : Option (Int32 × Mem) :=
f_X8_least_b48 L4 x1 x2 x3 1 M
def f_X8_least_b4 : Nat → Int32 → Int32 → Int32 → Mem → Option (Int32 × Mem)
  | 0 => fun _ _ _ _ => none
  | fu + 1 => fun x1 x2 x3 M =>
(if (M 0 1 (ix 0)) ≤ x3 then
  some (x2, M)
else
  ob (f_X8_pn x3 6 M) fun r_18 M_18 =>
  (if r_18 = 0 then
    (if x3 = x1 then
      f_X8_least_b47 (f_X8_least_b4 fu) x1 x2 x3 M_18
    else
      (if x2 < 0 then
        f_X8_least_b43 (f_X8_least_b4 fu) x1 x2 x3 M_18
      else
        ob (f_X8_pn x3 3 M_18) fun r_36 M_36 =>
        (if x2 ≤ r_36 then
          f_X8_least_b47 (f_X8_least_b4 fu) x1 x2 x3 M_36
        else
          f_X8_least_b43 (f_X8_least_b4 fu) x1 x2 x3 M_36)))
  else
    f_X8_least_b47 (f_X8_least_b4 fu) x1 x2 x3 M_18))
def f_X8_least (x1 : Int32) (M : Mem) : Option (Int32 × Mem) :=
f_X8_least_b4 1000 x1 (-1) 0 M
set_option maxHeartbeats 4000000 in
set_option maxRecDepth 100000 in
theorem w_X8_least_b65 {p : Program} {l : Launch} {e : Env} {s : State} {m : MethodId} {args : Array Value} {below : List Frame} {meth : Method} {c : Code} {G : GG} {sz : Nat} {r : Int32} {M' : Mem} (E : Cx p s m args meth c cX8_least (some .int) 5 RX8 G) {L4 : Int32 → Int32 → Int32 → Mem → Option (Int32 × Mem)} (hL4 : ∀ (x1 : Int32) (x2 : Int32) (x3 : Int32) (M : Mem) (H : Heap) (locs : List Loc) (ls : Array Slot), L4 x1 x2 x3 M = some (r, M') → PW G (AM G) (XM G) sz M s H → va_S (AM G) s.heap H locs → lv_has ls 5 [(0, .ref (adM G 0 0)), (1, .int x1), (2, .int x2), (3, .int x3)] → W p l e rm_X8_least s m args below meth c H locs 0 0 (MQ below (va_Qi (fun (r2 : Int32) (_ : Unit) => r2 = r) (fun _ t => PW G (AM G) (XM G) sz M' t t.heap) (AM G)) args s 0 0 (AM G)) (F0 m 4 ls [])) {x1 : Int32} {x3 : Int32} {s0 : Int32} {M : Mem} {H : Heap} {locs : List Loc} {ls : Array Slot} (hf : f_X8_least_b65 L4 x1 x3 s0 M = some (r, M')) (hP : PW G (AM G) (XM G) sz M s H) (hS : va_S (AM G) s.heap H locs) (hl : lv_has ls 5 [(0, .ref (adM G 0 0)), (1, .int x1), (3, .int x3)]) : W p l e rm_X8_least s m args below meth c H locs 0 0 (MQ below (va_Qi (fun (r2 : Int32) (_ : Unit) => r2 = r) (fun _ t => PW G (AM G) (XM G) sz M' t t.heap) (AM G)) args s 0 0 (AM G)) (F0 m 65 ls [.int s0]) := by
  obtain ⟨hx, hb, hr, hlocks, hml, hown, hts, hK⟩ := id E
  unfold f_X8_least_b65 at hf
  refine lv_istore_n (lv' := [(2, .int s0), (0, .ref (adM G 0 0)), (1, .int x1), (3, .int x3)]) hx hb dX8_least_65 rfl hl (by decide) rfl (fun ls hl => ?_)
  refine lt_e hf (fun x3_66 hx3_66 hf => ?_)
  refine lv_iinc (v := x3_66) (lv' := [(3, .int x3_66), (2, .int s0), (0, .ref (adM G 0 0)), (1, .int x1)]) hx hb dX8_least_66 hl (k := 3) rfl (by rw [hx3_66]; rfl) (by decide) rfl (fun ls hl => ?_)
  refine lv_goto (tgt := 4) hx hb dX8_least_69 (by decide) ?_
  exact hL4 _ _ _ _ _ _ _ hf hP hS (lv_sub hl [2, 3, 1, 0] rfl)
set_option maxHeartbeats 4000000 in
set_option maxRecDepth 100000 in
theorem w_X8_least_b48 {p : Program} {l : Launch} {e : Env} {s : State} {m : MethodId} {args : Array Value} {below : List Frame} {meth : Method} {c : Code} {G : GG} {sz : Nat} {r : Int32} {M' : Mem} (E : Cx p s m args meth c cX8_least (some .int) 5 RX8 G) {L4 : Int32 → Int32 → Int32 → Mem → Option (Int32 × Mem)} (hL4 : ∀ (x1 : Int32) (x2 : Int32) (x3 : Int32) (M : Mem) (H : Heap) (locs : List Loc) (ls : Array Slot), L4 x1 x2 x3 M = some (r, M') → PW G (AM G) (XM G) sz M s H → va_S (AM G) s.heap H locs → lv_has ls 5 [(0, .ref (adM G 0 0)), (1, .int x1), (2, .int x2), (3, .int x3)] → W p l e rm_X8_least s m args below meth c H locs 0 0 (MQ below (va_Qi (fun (r2 : Int32) (_ : Unit) => r2 = r) (fun _ t => PW G (AM G) (XM G) sz M' t t.heap) (AM G)) args s 0 0 (AM G)) (F0 m 4 ls [])) {x1 : Int32} {x2 : Int32} {x3 : Int32} {s0 : Int32} {M : Mem} {H : Heap} {locs : List Loc} {ls : Array Slot} (hf : f_X8_least_b48 L4 x1 x2 x3 s0 M = some (r, M')) (hP : PW G (AM G) (XM G) sz M s H) (hS : va_S (AM G) s.heap H locs) (hl : lv_has ls 5 [(0, .ref (adM G 0 0)), (1, .int x1), (2, .int x2), (3, .int x3)]) : W p l e rm_X8_least s m args below meth c H locs 0 0 (MQ below (va_Qi (fun (r2 : Int32) (_ : Unit) => r2 = r) (fun _ t => PW G (AM G) (XM G) sz M' t t.heap) (AM G)) args s 0 0 (AM G)) (F0 m 48 ls [.int s0]) := by
  obtain ⟨hx, hb, hr, hlocks, hml, hown, hts, hK⟩ := id E
  unfold f_X8_least_b48 at hf
  refine lv_istore (lv' := [(4, .int s0), (0, .ref (adM G 0 0)), (1, .int x1), (2, .int x2), (3, .int x3)]) hx hb dX8_least_48 hl (by decide) rfl (fun ls hl => ?_)
  refine lv_iload hx hb dX8_least_50 (lv_at hl 0 rfl) ?_
  refine lv_if_eq (tgt := 64) hx hb dX8_least_52 (by decide) (fun hc => ?_) (fun hc => ?_)
  · have hf := if_t hf hc
    refine lv_iload_n hx hb dX8_least_64 rfl (lv_at hl 3 rfl) ?_
    exact w_X8_least_b65 E hL4 hf hP hS (lv_sub hl [1, 2, 4] rfl)
  · have hf := if_f hf hc
    refine lv_aload_n hx hb dX8_least_55 rfl (lv_at hl 1 rfl) ?_
    refine lv_iload_n hx hb dX8_least_56 rfl (lv_at hl 4 rfl) ?_
    refine lv_iconst (v := 3) hx hb dX8_least_57 (by decide) ?_
    refine ob_e hf (fun r_58 M_58 hq hf => ?_)
    refine cv_X8_pn E hP hS hq w_867 ⟨Nat.le_of_ble_eq_true rfl, Nat.le_of_ble_eq_true rfl⟩ hl (Nat.le_of_ble_eq_true rfl) dX8_least_58 ⟨Nat.le_of_ble_eq_true rfl, Nat.le_of_ble_eq_true rfl⟩ (fun H locs hP hS => ?_)
    refine lv_goto (tgt := 65) hx hb dX8_least_61 (by decide) ?_
    exact w_X8_least_b65 E hL4 hf hP hS (lv_sub hl [1, 2, 4] rfl)
set_option maxHeartbeats 4000000 in
set_option maxRecDepth 100000 in
theorem w_X8_least_b47 {p : Program} {l : Launch} {e : Env} {s : State} {m : MethodId} {args : Array Value} {below : List Frame} {meth : Method} {c : Code} {G : GG} {sz : Nat} {r : Int32} {M' : Mem} (E : Cx p s m args meth c cX8_least (some .int) 5 RX8 G) {L4 : Int32 → Int32 → Int32 → Mem → Option (Int32 × Mem)} (hL4 : ∀ (x1 : Int32) (x2 : Int32) (x3 : Int32) (M : Mem) (H : Heap) (locs : List Loc) (ls : Array Slot), L4 x1 x2 x3 M = some (r, M') → PW G (AM G) (XM G) sz M s H → va_S (AM G) s.heap H locs → lv_has ls 5 [(0, .ref (adM G 0 0)), (1, .int x1), (2, .int x2), (3, .int x3)] → W p l e rm_X8_least s m args below meth c H locs 0 0 (MQ below (va_Qi (fun (r2 : Int32) (_ : Unit) => r2 = r) (fun _ t => PW G (AM G) (XM G) sz M' t t.heap) (AM G)) args s 0 0 (AM G)) (F0 m 4 ls [])) {x1 : Int32} {x2 : Int32} {x3 : Int32} {M : Mem} {H : Heap} {locs : List Loc} {ls : Array Slot} (hf : f_X8_least_b47 L4 x1 x2 x3 M = some (r, M')) (hP : PW G (AM G) (XM G) sz M s H) (hS : va_S (AM G) s.heap H locs) (hl : lv_has ls 5 [(0, .ref (adM G 0 0)), (1, .int x1), (2, .int x2), (3, .int x3)]) : W p l e rm_X8_least s m args below meth c H locs 0 0 (MQ below (va_Qi (fun (r2 : Int32) (_ : Unit) => r2 = r) (fun _ t => PW G (AM G) (XM G) sz M' t t.heap) (AM G)) args s 0 0 (AM G)) (F0 m 47 ls []) := by
  obtain ⟨hx, hb, hr, hlocks, hml, hown, hts, hK⟩ := id E
  unfold f_X8_least_b47 at hf
  refine lv_iconst (v := 0) hx hb dX8_least_47 (by decide) ?_
  exact w_X8_least_b48 E hL4 hf hP hS (lv_sub hl [0, 1, 2, 3] rfl)
set_option maxHeartbeats 4000000 in
set_option maxRecDepth 100000 in
theorem w_X8_least_b43 {p : Program} {l : Launch} {e : Env} {s : State} {m : MethodId} {args : Array Value} {below : List Frame} {meth : Method} {c : Code} {G : GG} {sz : Nat} {r : Int32} {M' : Mem} (E : Cx p s m args meth c cX8_least (some .int) 5 RX8 G) {L4 : Int32 → Int32 → Int32 → Mem → Option (Int32 × Mem)} (hL4 : ∀ (x1 : Int32) (x2 : Int32) (x3 : Int32) (M : Mem) (H : Heap) (locs : List Loc) (ls : Array Slot), L4 x1 x2 x3 M = some (r, M') → PW G (AM G) (XM G) sz M s H → va_S (AM G) s.heap H locs → lv_has ls 5 [(0, .ref (adM G 0 0)), (1, .int x1), (2, .int x2), (3, .int x3)] → W p l e rm_X8_least s m args below meth c H locs 0 0 (MQ below (va_Qi (fun (r2 : Int32) (_ : Unit) => r2 = r) (fun _ t => PW G (AM G) (XM G) sz M' t t.heap) (AM G)) args s 0 0 (AM G)) (F0 m 4 ls [])) {x1 : Int32} {x2 : Int32} {x3 : Int32} {M : Mem} {H : Heap} {locs : List Loc} {ls : Array Slot} (hf : f_X8_least_b43 L4 x1 x2 x3 M = some (r, M')) (hP : PW G (AM G) (XM G) sz M s H) (hS : va_S (AM G) s.heap H locs) (hl : lv_has ls 5 [(0, .ref (adM G 0 0)), (1, .int x1), (2, .int x2), (3, .int x3)]) : W p l e rm_X8_least s m args below meth c H locs 0 0 (MQ below (va_Qi (fun (r2 : Int32) (_ : Unit) => r2 = r) (fun _ t => PW G (AM G) (XM G) sz M' t t.heap) (AM G)) args s 0 0 (AM G)) (F0 m 43 ls []) := by
  obtain ⟨hx, hb, hr, hlocks, hml, hown, hts, hK⟩ := id E
  unfold f_X8_least_b43 at hf
  refine lv_iconst (v := 1) hx hb dX8_least_43 (by decide) ?_
  refine lv_goto (tgt := 48) hx hb dX8_least_44 (by decide) ?_
  exact w_X8_least_b48 E hL4 hf hP hS (lv_sub hl [0, 1, 2, 3] rfl)
set_option maxHeartbeats 4000000 in
set_option maxRecDepth 100000 in
theorem w_X8_least_b4 {p : Program} {l : Launch} {e : Env} {s : State} {m : MethodId} {args : Array Value} {below : List Frame} {meth : Method} {c : Code} {G : GG} {sz : Nat} {r : Int32} {M' : Mem} (E : Cx p s m args meth c cX8_least (some .int) 5 RX8 G) : ∀ fu : Nat, ∀ (x1 : Int32) (x2 : Int32) (x3 : Int32) (M : Mem) (H : Heap) (locs : List Loc) (ls : Array Slot), f_X8_least_b4 fu x1 x2 x3 M = some (r, M') → PW G (AM G) (XM G) sz M s H → va_S (AM G) s.heap H locs → lv_has ls 5 [(0, .ref (adM G 0 0)), (1, .int x1), (2, .int x2), (3, .int x3)] → W p l e rm_X8_least s m args below meth c H locs 0 0 (MQ below (va_Qi (fun (r2 : Int32) (_ : Unit) => r2 = r) (fun _ t => PW G (AM G) (XM G) sz M' t t.heap) (AM G)) args s 0 0 (AM G)) (F0 m 4 ls []) := by
  obtain ⟨hx, hb, hr, hlocks, hml, hown, hts, hK⟩ := id E
  intro fu
  induction fu with
  | zero => intro x1 x2 x3 M H locs ls hf hP hS hl; cases hf
  | succ fu ih =>
    intro x1 x2 x3 M H locs ls hf hP hS hl
    rw [f_X8_least_b4.eq_2] at hf
    refine lv_iload_n hx hb dX8_least_4 rfl (lv_at hl 3 rfl) ?_
    refine lv_aload_n hx hb dX8_least_5 rfl (lv_at hl 0 rfl) ?_
    refine gf_X8_s E hP w_797 dX8_least_6 ?_
    refine lv_iconst (v := 0) hx hb dX8_least_9 (by decide) ?_
    refine la_M1 E hP (by decide) dX8_least_10 ?_
    refine lv_icmp_ge (tgt := 72) hx hb dX8_least_11 (by decide) (fun hc => ?_) (fun hc => ?_)
    · have hf := if_t hf hc
      refine lv_iload_n hx hb dX8_least_72 rfl (lv_at hl 2 rfl) ?_
      exact en_i hf hx hb hr rfl hlocks hP hS dX8_least_73
    · have hf := if_f hf hc
      refine lv_aload_n hx hb dX8_least_14 rfl (lv_at hl 0 rfl) ?_
      refine lv_iload_n hx hb dX8_least_15 rfl (lv_at hl 3 rfl) ?_
      refine lv_bipush (v := 6) hx hb dX8_least_16 (by decide) ?_
      refine ob_e hf (fun r_18 M_18 hq hf => ?_)
      refine cv_X8_pn E hP hS hq w_867 ⟨Nat.le_of_ble_eq_true rfl, Nat.le_of_ble_eq_true rfl⟩ hl (Nat.le_of_ble_eq_true rfl) dX8_least_18 ⟨Nat.le_of_ble_eq_true rfl, Nat.le_of_ble_eq_true rfl⟩ (fun H locs hP hS => ?_)
      refine lv_if_ne (tgt := 47) hx hb dX8_least_21 (by decide) (fun hc => ?_) (fun hc => ?_)
      · have hf := if_f hf hc
        exact w_X8_least_b47 E ih hf hP hS (lv_sub hl [0, 1, 2, 3] rfl)
      · have hf := if_t hf hc
        refine lv_iload_n hx hb dX8_least_24 rfl (lv_at hl 3 rfl) ?_
        refine lv_iload_n hx hb dX8_least_25 rfl (lv_at hl 1 rfl) ?_
        refine lv_icmp_eq (tgt := 47) hx hb dX8_least_26 (by decide) (fun hc => ?_) (fun hc => ?_)
        · have hf := if_t hf hc
          exact w_X8_least_b47 E ih hf hP hS (lv_sub hl [0, 1, 2, 3] rfl)
        · have hf := if_f hf hc
          refine lv_iload_n hx hb dX8_least_29 rfl (lv_at hl 2 rfl) ?_
          refine lv_if_lt (tgt := 43) hx hb dX8_least_30 (by decide) (fun hc => ?_) (fun hc => ?_)
          · have hf := if_t hf hc
            exact w_X8_least_b43 E ih hf hP hS (lv_sub hl [0, 1, 2, 3] rfl)
          · have hf := if_f hf hc
            refine lv_aload_n hx hb dX8_least_33 rfl (lv_at hl 0 rfl) ?_
            refine lv_iload_n hx hb dX8_least_34 rfl (lv_at hl 3 rfl) ?_
            refine lv_iconst (v := 3) hx hb dX8_least_35 (by decide) ?_
            refine ob_e hf (fun r_36 M_36 hq hf => ?_)
            refine cv_X8_pn E hP hS hq w_867 ⟨Nat.le_of_ble_eq_true rfl, Nat.le_of_ble_eq_true rfl⟩ hl (Nat.le_of_ble_eq_true rfl) dX8_least_36 ⟨Nat.le_of_ble_eq_true rfl, Nat.le_of_ble_eq_true rfl⟩ (fun H locs hP hS => ?_)
            refine lv_iload_n hx hb dX8_least_39 rfl (lv_at hl 2 rfl) ?_
            refine lv_icmp_ge (tgt := 47) hx hb dX8_least_40 (by decide) (fun hc => ?_) (fun hc => ?_)
            · have hf := if_t hf hc
              exact w_X8_least_b47 E ih hf hP hS (lv_sub hl [0, 1, 2, 3] rfl)
            · have hf := if_f hf hc
              exact w_X8_least_b43 E ih hf hP hS (lv_sub hl [0, 1, 2, 3] rfl)
set_option maxHeartbeats 4000000 in
set_option maxRecDepth 100000 in
theorem w_X8_least {p : Program} {l : Launch} {e : Env} {s : State} {m : MethodId} {args : Array Value} {below : List Frame} {meth : Method} {c : Code} {G : GG} {sz : Nat} {r : Int32} {M' : Mem} (E : Cx p s m args meth c cX8_least (some .int) 5 RX8 G) {x1 : Int32} {M : Mem} {H : Heap} {locs : List Loc} {ls : Array Slot} (hf : f_X8_least x1 M = some (r, M')) (hP : PW G (AM G) (XM G) sz M s H) (hS : va_S (AM G) s.heap H locs) (hl : lv_has ls 5 [(0, .ref (adM G 0 0)), (1, .int x1)]) : W p l e rm_X8_least s m args below meth c H locs 0 0 (MQ below (va_Qi (fun (r2 : Int32) (_ : Unit) => r2 = r) (fun _ t => PW G (AM G) (XM G) sz M' t t.heap) (AM G)) args s 0 0 (AM G)) (F0 m 0 ls []) := by
  obtain ⟨hx, hb, hr, hlocks, hml, hown, hts, hK⟩ := id E
  unfold f_X8_least at hf
  refine lv_iconst (v := (-1)) hx hb dX8_least_0 (by decide) ?_
  refine lv_istore_n (lv' := [(2, .int (-1)), (0, .ref (adM G 0 0)), (1, .int x1)]) hx hb dX8_least_1 rfl hl (by decide) rfl (fun ls hl => ?_)
  refine lv_iconst (v := 0) hx hb dX8_least_2 (by decide) ?_
  refine lv_istore_n (lv' := [(3, .int 0), (2, .int (-1)), (0, .ref (adM G 0 0)), (1, .int x1)]) hx hb dX8_least_3 rfl hl (by decide) rfl (fun ls hl => ?_)
  exact w_X8_least_b4 E 1000 _ _ _ _ _ _ _ hf hP hS (lv_sub hl [2, 3, 1, 0] rfl)
theorem c_X8_least (l : Launch) {G : GG} {sz : Nat} {x1 : Int32} {M : Mem} {r : Int32} {M' : Mem} (hf : f_X8_least x1 M = some (r, M')) : CtI l yX8_least cX8_least 5 (some .int) rm_X8_least [.ref (adM G 0 0), .int x1] G (AM G) (XM G) sz M r (XM G) sz M' := by
  refine Ct_of (by decide) (Nat.le_of_ble_eq_true rfl) (fun p e s m below meth c ls hx hb hr hlocks hml hown hts hK hP hl => ?_)
  exact w_X8_least ⟨hx, hb, hr, hlocks, hml, hown, hts, hK⟩ hf hP va_S.rf hl
set_option maxRecDepth 100000 in
theorem cv_X8_least {p : Program} {l : Launch} {e : Env} {R : Room} {s : State} {m : MethodId} {args : Array Value} {below : List Frame} {meth : Method} {c : Code} {H : Heap} {locs : List Loc} {cells slots : Nat} {Q : State → Prop} {cc : ByteArray} {pc nL index : Nat} {ret : Option FieldType} {own : String} {ls : Array Slot} {rest : List Value} {l' : List (Nat × Value)} {G : GG} {sz : Nat} {M : Mem} (E : Cx p s m args meth c cc ret nL own G) (hP : PW G (AM G) (XM G) sz M s H) (hS : va_S (AM G) s.heap H locs) {x1 : Int32} {r : Int32} {M' : Mem} (hq : f_X8_least x1 M = some (r, M')) (w1 : Cond.methodLink own index yX8_least ∈ lw_all) (hR : 2 ≤ R.frames ∧ 46 ≤ R.locals) (hl : lv_has ls nL l') (hrest : (rest.map fun v => v.category).sum ≤ 8) (hdg : decode cc pc = .ok (.invokevirtual index, 3)) (hcs : cells ≤ R.cells ∧ slots ≤ R.slots)
    (kk : ∀ (H1 : Heap) (locs1 : List Loc), PW G (AM G) (XM G) sz M' s H1 → va_S (AM G) s.heap H1 locs1 → W p l e R s m args below meth c H1 locs1 cells slots Q (F0 m (pc + 3) ls (.int r :: rest))) : W p l e R s m args below meth c H locs cells slots Q (F0 m pc ls (.int x1 :: .ref (adM G 0 0) :: rest)) := by
  obtain ⟨hx, hb, hr, hlocks, hml, hown, hts, hK⟩ := E
  exact kc_i (kc_runV (na := 1) (q := (RX8, TX8, 16)) hx hb hml hts hown hK hP 0 0 ⟨rfl, by decide⟩ rfl rfl rfl (c_X8_least l hq) w1 w_910 ws_26 w_9 w_911 (by decide +kernel) hR rfl hl rfl hrest hdg hcs) hS kk
/-! X8_strikes -/
abbrev rm_X8_strikes : Room := { frames := 2, cells := 0, slots := 0, locals := 46 }
def f_X8_strikes_b36 (s0 : Int32) (M : Mem) : Option (Int32 × Mem) :=
ck (bl s0) <|
some (s0, M)
def f_X8_strikes_b35 (M : Mem) : Option (Int32 × Mem) :=
f_X8_strikes_b36 0 M
def f_X8_strikes (x1 : Int32) (M : Mem) : Option (Int32 × Mem) :=
ob (f_X8_pn x1 6 M) fun r_4 M_4 =>
(if r_4 = 0 then
  ob (f_X8_pn x1 3 M_4) fun r_13 M_13 =>
  ob (f_X8_least (-1) M_13) fun r_18 M_18 =>
  (if r_13 ≤ (r_18 + (M_18 0 1 (ix 2))) then
    f_X8_strikes_b35 M_18
  else
    f_X8_strikes_b36 1 M_18)
else
  f_X8_strikes_b35 M_4)
set_option maxHeartbeats 4000000 in
set_option maxRecDepth 100000 in
theorem w_X8_strikes_b36 {p : Program} {l : Launch} {e : Env} {s : State} {m : MethodId} {args : Array Value} {below : List Frame} {meth : Method} {c : Code} {G : GG} {sz : Nat} {r : Int32} {M' : Mem} (E : Cx p s m args meth c cX8_strikes (some .boolean) 2 RX8 G) {s0 : Int32} {M : Mem} {H : Heap} {locs : List Loc} {ls : Array Slot} (hf : f_X8_strikes_b36 s0 M = some (r, M')) (hP : PW G (AM G) (XM G) sz M s H) (hS : va_S (AM G) s.heap H locs) (hl : lv_has ls 2 []) : W p l e rm_X8_strikes s m args below meth c H locs 0 0 (MQ below (va_Qi (fun (r2 : Int32) (_ : Unit) => r2 = r) (fun _ t => PW G (AM G) (XM G) sz M' t t.heap) (AM G)) args s 0 0 (AM G)) (F0 m 36 ls [.int s0]) := by
  obtain ⟨hx, hb, hr, hlocks, hml, hown, hts, hK⟩ := id E
  unfold f_X8_strikes_b36 at hf
  refine ck_e hf (fun hn hf => ?_)
  exact en_i hf hx hb hr (bl_nar hn) hlocks hP hS dX8_strikes_36
set_option maxHeartbeats 4000000 in
set_option maxRecDepth 100000 in
theorem w_X8_strikes_b35 {p : Program} {l : Launch} {e : Env} {s : State} {m : MethodId} {args : Array Value} {below : List Frame} {meth : Method} {c : Code} {G : GG} {sz : Nat} {r : Int32} {M' : Mem} (E : Cx p s m args meth c cX8_strikes (some .boolean) 2 RX8 G) {M : Mem} {H : Heap} {locs : List Loc} {ls : Array Slot} (hf : f_X8_strikes_b35 M = some (r, M')) (hP : PW G (AM G) (XM G) sz M s H) (hS : va_S (AM G) s.heap H locs) (hl : lv_has ls 2 []) : W p l e rm_X8_strikes s m args below meth c H locs 0 0 (MQ below (va_Qi (fun (r2 : Int32) (_ : Unit) => r2 = r) (fun _ t => PW G (AM G) (XM G) sz M' t t.heap) (AM G)) args s 0 0 (AM G)) (F0 m 35 ls []) := by
  obtain ⟨hx, hb, hr, hlocks, hml, hown, hts, hK⟩ := id E
  unfold f_X8_strikes_b35 at hf
  refine lv_iconst (v := 0) hx hb dX8_strikes_35 (by decide) ?_
  exact w_X8_strikes_b36 E hf hP hS (lv_sub hl [] rfl)
set_option maxHeartbeats 4000000 in
set_option maxRecDepth 100000 in
theorem w_X8_strikes {p : Program} {l : Launch} {e : Env} {s : State} {m : MethodId} {args : Array Value} {below : List Frame} {meth : Method} {c : Code} {G : GG} {sz : Nat} {r : Int32} {M' : Mem} (E : Cx p s m args meth c cX8_strikes (some .boolean) 2 RX8 G) {x1 : Int32} {M : Mem} {H : Heap} {locs : List Loc} {ls : Array Slot} (hf : f_X8_strikes x1 M = some (r, M')) (hP : PW G (AM G) (XM G) sz M s H) (hS : va_S (AM G) s.heap H locs) (hl : lv_has ls 2 [(0, .ref (adM G 0 0)), (1, .int x1)]) : W p l e rm_X8_strikes s m args below meth c H locs 0 0 (MQ below (va_Qi (fun (r2 : Int32) (_ : Unit) => r2 = r) (fun _ t => PW G (AM G) (XM G) sz M' t t.heap) (AM G)) args s 0 0 (AM G)) (F0 m 0 ls []) := by
  obtain ⟨hx, hb, hr, hlocks, hml, hown, hts, hK⟩ := id E
  unfold f_X8_strikes at hf
  refine lv_aload_n hx hb dX8_strikes_0 rfl (lv_at hl 0 rfl) ?_
  refine lv_iload_n hx hb dX8_strikes_1 rfl (lv_at hl 1 rfl) ?_
  refine lv_bipush (v := 6) hx hb dX8_strikes_2 (by decide) ?_
  refine ob_e hf (fun r_4 M_4 hq hf => ?_)
  refine cv_X8_pn E hP hS hq w_867 ⟨Nat.le_of_ble_eq_true rfl, Nat.le_of_ble_eq_true rfl⟩ hl (Nat.le_of_ble_eq_true rfl) dX8_strikes_4 ⟨Nat.le_of_ble_eq_true rfl, Nat.le_of_ble_eq_true rfl⟩ (fun H locs hP hS => ?_)
  refine lv_if_ne (tgt := 35) hx hb dX8_strikes_7 (by decide) (fun hc => ?_) (fun hc => ?_)
  · have hf := if_f hf hc
    exact w_X8_strikes_b35 E hf hP hS (lv_sub hl [] rfl)
  · have hf := if_t hf hc
    refine lv_aload_n hx hb dX8_strikes_10 rfl (lv_at hl 0 rfl) ?_
    refine lv_iload_n hx hb dX8_strikes_11 rfl (lv_at hl 1 rfl) ?_
    refine lv_iconst (v := 3) hx hb dX8_strikes_12 (by decide) ?_
    refine ob_e hf (fun r_13 M_13 hq hf => ?_)
    refine cv_X8_pn E hP hS hq w_867 ⟨Nat.le_of_ble_eq_true rfl, Nat.le_of_ble_eq_true rfl⟩ hl (Nat.le_of_ble_eq_true rfl) dX8_strikes_13 ⟨Nat.le_of_ble_eq_true rfl, Nat.le_of_ble_eq_true rfl⟩ (fun H locs hP hS => ?_)
    refine lv_aload_n hx hb dX8_strikes_16 rfl (lv_at hl 0 rfl) ?_
    refine lv_iconst (v := (-1)) hx hb dX8_strikes_17 (by decide) ?_
    refine ob_e hf (fun r_18 M_18 hq hf => ?_)
    refine cv_X8_least E hP hS hq w_908 ⟨Nat.le_of_ble_eq_true rfl, Nat.le_of_ble_eq_true rfl⟩ hl (Nat.le_of_ble_eq_true rfl) dX8_strikes_18 ⟨Nat.le_of_ble_eq_true rfl, Nat.le_of_ble_eq_true rfl⟩ (fun H locs hP hS => ?_)
    refine lv_aload_n hx hb dX8_strikes_21 rfl (lv_at hl 0 rfl) ?_
    refine gf_X8_s E hP w_797 dX8_strikes_22 ?_
    refine lv_iconst (v := 2) hx hb dX8_strikes_25 (by decide) ?_
    refine la_M1 E hP (by decide) dX8_strikes_26 ?_
    refine lv_iadd hx hb dX8_strikes_27 ?_
    refine lv_icmp_le (tgt := 35) hx hb dX8_strikes_28 (by decide) (fun hc => ?_) (fun hc => ?_)
    · have hf := if_t hf hc
      exact w_X8_strikes_b35 E hf hP hS (lv_sub hl [] rfl)
    · have hf := if_f hf hc
      refine lv_iconst (v := 1) hx hb dX8_strikes_31 (by decide) ?_
      refine lv_goto (tgt := 36) hx hb dX8_strikes_32 (by decide) ?_
      exact w_X8_strikes_b36 E hf hP hS (lv_sub hl [] rfl)
theorem c_X8_strikes (l : Launch) {G : GG} {sz : Nat} {x1 : Int32} {M : Mem} {r : Int32} {M' : Mem} (hf : f_X8_strikes x1 M = some (r, M')) : CtI l yX8_strikes cX8_strikes 2 (some .boolean) rm_X8_strikes [.ref (adM G 0 0), .int x1] G (AM G) (XM G) sz M r (XM G) sz M' := by
  refine Ct_of (by decide) (Nat.le_of_ble_eq_true rfl) (fun p e s m below meth c ls hx hb hr hlocks hml hown hts hK hP hl => ?_)
  exact w_X8_strikes ⟨hx, hb, hr, hlocks, hml, hown, hts, hK⟩ hf hP va_S.rf hl
set_option maxRecDepth 100000 in
theorem cv_X8_strikes {p : Program} {l : Launch} {e : Env} {R : Room} {s : State} {m : MethodId} {args : Array Value} {below : List Frame} {meth : Method} {c : Code} {H : Heap} {locs : List Loc} {cells slots : Nat} {Q : State → Prop} {cc : ByteArray} {pc nL index : Nat} {ret : Option FieldType} {own : String} {ls : Array Slot} {rest : List Value} {l' : List (Nat × Value)} {G : GG} {sz : Nat} {M : Mem} (E : Cx p s m args meth c cc ret nL own G) (hP : PW G (AM G) (XM G) sz M s H) (hS : va_S (AM G) s.heap H locs) {x1 : Int32} {r : Int32} {M' : Mem} (hq : f_X8_strikes x1 M = some (r, M')) (w1 : Cond.methodLink own index yX8_strikes ∈ lw_all) (hR : 3 ≤ R.frames ∧ 67 ≤ R.locals) (hl : lv_has ls nL l') (hrest : (rest.map fun v => v.category).sum ≤ 8) (hdg : decode cc pc = .ok (.invokevirtual index, 3)) (hcs : cells ≤ R.cells ∧ slots ≤ R.slots)
    (kk : ∀ (H1 : Heap) (locs1 : List Loc), PW G (AM G) (XM G) sz M' s H1 → va_S (AM G) s.heap H1 locs1 → W p l e R s m args below meth c H1 locs1 cells slots Q (F0 m (pc + 3) ls (.int r :: rest))) : W p l e R s m args below meth c H locs cells slots Q (F0 m pc ls (.int x1 :: .ref (adM G 0 0) :: rest)) := by
  obtain ⟨hx, hb, hr, hlocks, hml, hown, hts, hK⟩ := E
  exact kc_i (kc_runV (na := 1) (q := (RX8, TX8, 16)) hx hb hml hts hown hK hP 0 0 ⟨rfl, by decide⟩ rfl rfl rfl (c_X8_strikes l hq) w1 w_906 ws_25 w_9 w_907 (by decide +kernel) hR rfl hl rfl hrest hdg hcs) hS kk
/-! X8_linesBy -/
abbrev rm_X8_linesBy : Room := { frames := 1, cells := 0, slots := 0, locals := 22 }
def f_X8_linesBy_b30 (L4 : Int32 → Int32 → Int32 → Mem → Option (Int32 × Mem)) (x1 : Int32) (x3 : Int32) (s0 : Int32) (s1 : Int32) (M : Mem) : Option (Int32 × Mem) :=
lt ((s0 + s1)) fun x2_31 =>
lt (x3 + 1) fun x3_32 =>
L4 x1 x2_31 x3_32 M
def f_X8_linesBy_b4 : Nat → Int32 → Int32 → Int32 → Mem → Option (Int32 × Mem)
  | 0 => fun _ _ _ _ => none
  | fu + 1 => fun x1 x2 x3 M =>
(if (M 0 1 (ix 1)) ≤ x3 then
  some (x2, M)
else
  ob (f_X8_ln x3 4 M) fun r_18 M_18 =>
  (if r_18 = x1 then
    f_X8_linesBy_b30 (f_X8_linesBy_b4 fu) x1 x3 x2 1 M_18
  else
    f_X8_linesBy_b30 (f_X8_linesBy_b4 fu) x1 x3 x2 0 M_18))
def f_X8_linesBy (x1 : Int32) (M : Mem) : Option (Int32 × Mem) :=
f_X8_linesBy_b4 1000 x1 0 0 M
set_option maxHeartbeats 4000000 in
set_option maxRecDepth 100000 in
theorem w_X8_linesBy_b30 {p : Program} {l : Launch} {e : Env} {s : State} {m : MethodId} {args : Array Value} {below : List Frame} {meth : Method} {c : Code} {G : GG} {sz : Nat} {r : Int32} {M' : Mem} (E : Cx p s m args meth c cX8_linesBy (some .int) 4 RX8 G) {L4 : Int32 → Int32 → Int32 → Mem → Option (Int32 × Mem)} (hL4 : ∀ (x1 : Int32) (x2 : Int32) (x3 : Int32) (M : Mem) (H : Heap) (locs : List Loc) (ls : Array Slot), L4 x1 x2 x3 M = some (r, M') → PW G (AM G) (XM G) sz M s H → va_S (AM G) s.heap H locs → lv_has ls 4 [(0, .ref (adM G 0 0)), (1, .int x1), (2, .int x2), (3, .int x3)] → W p l e rm_X8_linesBy s m args below meth c H locs 0 0 (MQ below (va_Qi (fun (r2 : Int32) (_ : Unit) => r2 = r) (fun _ t => PW G (AM G) (XM G) sz M' t t.heap) (AM G)) args s 0 0 (AM G)) (F0 m 4 ls [])) {x1 : Int32} {x3 : Int32} {s0 : Int32} {s1 : Int32} {M : Mem} {H : Heap} {locs : List Loc} {ls : Array Slot} (hf : f_X8_linesBy_b30 L4 x1 x3 s0 s1 M = some (r, M')) (hP : PW G (AM G) (XM G) sz M s H) (hS : va_S (AM G) s.heap H locs) (hl : lv_has ls 4 [(0, .ref (adM G 0 0)), (1, .int x1), (3, .int x3)]) : W p l e rm_X8_linesBy s m args below meth c H locs 0 0 (MQ below (va_Qi (fun (r2 : Int32) (_ : Unit) => r2 = r) (fun _ t => PW G (AM G) (XM G) sz M' t t.heap) (AM G)) args s 0 0 (AM G)) (F0 m 30 ls [.int s1, .int s0]) := by
  obtain ⟨hx, hb, hr, hlocks, hml, hown, hts, hK⟩ := id E
  unfold f_X8_linesBy_b30 at hf
  refine lv_iadd hx hb dX8_linesBy_30 ?_
  refine lt_e hf (fun x2_31 hx2_31 hf => ?_)
  refine kr_nm hx2_31 ?_
  refine lv_istore_n (lv' := [(2, .int x2_31), (0, .ref (adM G 0 0)), (1, .int x1), (3, .int x3)]) hx hb dX8_linesBy_31 rfl hl (by decide) rfl (fun ls hl => ?_)
  refine lt_e hf (fun x3_32 hx3_32 hf => ?_)
  refine lv_iinc (v := x3_32) (lv' := [(3, .int x3_32), (2, .int x2_31), (0, .ref (adM G 0 0)), (1, .int x1)]) hx hb dX8_linesBy_32 hl (k := 3) rfl (by rw [hx3_32]; rfl) (by decide) rfl (fun ls hl => ?_)
  refine lv_goto (tgt := 4) hx hb dX8_linesBy_35 (by decide) ?_
  exact hL4 _ _ _ _ _ _ _ hf hP hS (lv_sub hl [2, 3, 1, 0] rfl)
set_option maxHeartbeats 4000000 in
set_option maxRecDepth 100000 in
theorem w_X8_linesBy_b4 {p : Program} {l : Launch} {e : Env} {s : State} {m : MethodId} {args : Array Value} {below : List Frame} {meth : Method} {c : Code} {G : GG} {sz : Nat} {r : Int32} {M' : Mem} (E : Cx p s m args meth c cX8_linesBy (some .int) 4 RX8 G) : ∀ fu : Nat, ∀ (x1 : Int32) (x2 : Int32) (x3 : Int32) (M : Mem) (H : Heap) (locs : List Loc) (ls : Array Slot), f_X8_linesBy_b4 fu x1 x2 x3 M = some (r, M') → PW G (AM G) (XM G) sz M s H → va_S (AM G) s.heap H locs → lv_has ls 4 [(0, .ref (adM G 0 0)), (1, .int x1), (2, .int x2), (3, .int x3)] → W p l e rm_X8_linesBy s m args below meth c H locs 0 0 (MQ below (va_Qi (fun (r2 : Int32) (_ : Unit) => r2 = r) (fun _ t => PW G (AM G) (XM G) sz M' t t.heap) (AM G)) args s 0 0 (AM G)) (F0 m 4 ls []) := by
  obtain ⟨hx, hb, hr, hlocks, hml, hown, hts, hK⟩ := id E
  intro fu
  induction fu with
  | zero => intro x1 x2 x3 M H locs ls hf hP hS hl; cases hf
  | succ fu ih =>
    intro x1 x2 x3 M H locs ls hf hP hS hl
    rw [f_X8_linesBy_b4.eq_2] at hf
    refine lv_iload_n hx hb dX8_linesBy_4 rfl (lv_at hl 3 rfl) ?_
    refine lv_aload_n hx hb dX8_linesBy_5 rfl (lv_at hl 0 rfl) ?_
    refine gf_X8_s E hP w_797 dX8_linesBy_6 ?_
    refine lv_iconst (v := 1) hx hb dX8_linesBy_9 (by decide) ?_
    refine la_M1 E hP (by decide) dX8_linesBy_10 ?_
    refine lv_icmp_ge (tgt := 38) hx hb dX8_linesBy_11 (by decide) (fun hc => ?_) (fun hc => ?_)
    · have hf := if_t hf hc
      refine lv_iload_n hx hb dX8_linesBy_38 rfl (lv_at hl 2 rfl) ?_
      exact en_i hf hx hb hr rfl hlocks hP hS dX8_linesBy_39
    · have hf := if_f hf hc
      refine lv_iload_n hx hb dX8_linesBy_14 rfl (lv_at hl 2 rfl) ?_
      refine lv_aload_n hx hb dX8_linesBy_15 rfl (lv_at hl 0 rfl) ?_
      refine lv_iload_n hx hb dX8_linesBy_16 rfl (lv_at hl 3 rfl) ?_
      refine lv_iconst (v := 4) hx hb dX8_linesBy_17 (by decide) ?_
      refine ob_e hf (fun r_18 M_18 hq hf => ?_)
      refine cv_X8_ln E hP hS hq w_916 ⟨Nat.le_of_ble_eq_true rfl, Nat.le_of_ble_eq_true rfl⟩ hl (Nat.le_of_ble_eq_true rfl) dX8_linesBy_18 ⟨Nat.le_of_ble_eq_true rfl, Nat.le_of_ble_eq_true rfl⟩ (fun H locs hP hS => ?_)
      refine lv_iload_n hx hb dX8_linesBy_21 rfl (lv_at hl 1 rfl) ?_
      refine lv_icmp_ne (tgt := 29) hx hb dX8_linesBy_22 (by decide) (fun hc => ?_) (fun hc => ?_)
      · have hf := if_f hf hc
        refine lv_iconst (v := 0) hx hb dX8_linesBy_29 (by decide) ?_
        exact w_X8_linesBy_b30 E ih hf hP hS (lv_sub hl [0, 1, 3] rfl)
      · have hf := if_t hf hc
        refine lv_iconst (v := 1) hx hb dX8_linesBy_25 (by decide) ?_
        refine lv_goto (tgt := 30) hx hb dX8_linesBy_26 (by decide) ?_
        exact w_X8_linesBy_b30 E ih hf hP hS (lv_sub hl [0, 1, 3] rfl)
set_option maxHeartbeats 4000000 in
set_option maxRecDepth 100000 in
theorem w_X8_linesBy {p : Program} {l : Launch} {e : Env} {s : State} {m : MethodId} {args : Array Value} {below : List Frame} {meth : Method} {c : Code} {G : GG} {sz : Nat} {r : Int32} {M' : Mem} (E : Cx p s m args meth c cX8_linesBy (some .int) 4 RX8 G) {x1 : Int32} {M : Mem} {H : Heap} {locs : List Loc} {ls : Array Slot} (hf : f_X8_linesBy x1 M = some (r, M')) (hP : PW G (AM G) (XM G) sz M s H) (hS : va_S (AM G) s.heap H locs) (hl : lv_has ls 4 [(0, .ref (adM G 0 0)), (1, .int x1)]) : W p l e rm_X8_linesBy s m args below meth c H locs 0 0 (MQ below (va_Qi (fun (r2 : Int32) (_ : Unit) => r2 = r) (fun _ t => PW G (AM G) (XM G) sz M' t t.heap) (AM G)) args s 0 0 (AM G)) (F0 m 0 ls []) := by
  obtain ⟨hx, hb, hr, hlocks, hml, hown, hts, hK⟩ := id E
  unfold f_X8_linesBy at hf
  refine lv_iconst (v := 0) hx hb dX8_linesBy_0 (by decide) ?_
  refine lv_istore_n (lv' := [(2, .int 0), (0, .ref (adM G 0 0)), (1, .int x1)]) hx hb dX8_linesBy_1 rfl hl (by decide) rfl (fun ls hl => ?_)
  refine lv_iconst (v := 0) hx hb dX8_linesBy_2 (by decide) ?_
  refine lv_istore_n (lv' := [(3, .int 0), (2, .int 0), (0, .ref (adM G 0 0)), (1, .int x1)]) hx hb dX8_linesBy_3 rfl hl (by decide) rfl (fun ls hl => ?_)
  exact w_X8_linesBy_b4 E 1000 _ _ _ _ _ _ _ hf hP hS (lv_sub hl [2, 3, 1, 0] rfl)
theorem c_X8_linesBy (l : Launch) {G : GG} {sz : Nat} {x1 : Int32} {M : Mem} {r : Int32} {M' : Mem} (hf : f_X8_linesBy x1 M = some (r, M')) : CtI l yX8_linesBy cX8_linesBy 4 (some .int) rm_X8_linesBy [.ref (adM G 0 0), .int x1] G (AM G) (XM G) sz M r (XM G) sz M' := by
  refine Ct_of (by decide) (Nat.le_of_ble_eq_true rfl) (fun p e s m below meth c ls hx hb hr hlocks hml hown hts hK hP hl => ?_)
  exact w_X8_linesBy ⟨hx, hb, hr, hlocks, hml, hown, hts, hK⟩ hf hP va_S.rf hl
set_option maxRecDepth 100000 in
theorem cv_X8_linesBy {p : Program} {l : Launch} {e : Env} {R : Room} {s : State} {m : MethodId} {args : Array Value} {below : List Frame} {meth : Method} {c : Code} {H : Heap} {locs : List Loc} {cells slots : Nat} {Q : State → Prop} {cc : ByteArray} {pc nL index : Nat} {ret : Option FieldType} {own : String} {ls : Array Slot} {rest : List Value} {l' : List (Nat × Value)} {G : GG} {sz : Nat} {M : Mem} (E : Cx p s m args meth c cc ret nL own G) (hP : PW G (AM G) (XM G) sz M s H) (hS : va_S (AM G) s.heap H locs) {x1 : Int32} {r : Int32} {M' : Mem} (hq : f_X8_linesBy x1 M = some (r, M')) (w1 : Cond.methodLink own index yX8_linesBy ∈ lw_all) (hR : 2 ≤ R.frames ∧ 45 ≤ R.locals) (hl : lv_has ls nL l') (hrest : (rest.map fun v => v.category).sum ≤ 8) (hdg : decode cc pc = .ok (.invokevirtual index, 3)) (hcs : cells ≤ R.cells ∧ slots ≤ R.slots)
    (kk : ∀ (H1 : Heap) (locs1 : List Loc), PW G (AM G) (XM G) sz M' s H1 → va_S (AM G) s.heap H1 locs1 → W p l e R s m args below meth c H1 locs1 cells slots Q (F0 m (pc + 3) ls (.int r :: rest))) : W p l e R s m args below meth c H locs cells slots Q (F0 m pc ls (.int x1 :: .ref (adM G 0 0) :: rest)) := by
  obtain ⟨hx, hb, hr, hlocks, hml, hown, hts, hK⟩ := E
  exact kc_i (kc_runV (na := 1) (q := (RX8, TX8, 16)) hx hb hml hts hown hK hP 0 0 ⟨rfl, by decide⟩ rfl rfl rfl (c_X8_linesBy l hq) w1 w_914 ws_27 w_9 w_915 (by decide +kernel) hR rfl hl rfl hrest hdg hcs) hS kk
/-! X8_penOf -/
abbrev rm_X8_penOf : Room := { frames := 3, cells := 0, slots := 0, locals := 67 }
def f_X8_penOf_b18 (M : Mem) : Option (Int32 × Mem) :=
some ((-1000001), M)
def f_X8_penOf_b115 (s0 : Int32) (M : Mem) : Option (Int32 × Mem) :=
some (s0, M)
def f_X8_penOf_b94 (s0 : Int32) (M : Mem) : Option (Int32 × Mem) :=
some (s0, M)
def f_X8_penOf_b72 (s0 : Int32) (M : Mem) : Option (Int32 × Mem) :=
some (s0, M)
def f_X8_penOf (x1 : Int32) (x2 : Int32) (M : Mem) : Option (Int32 × Mem) :=
ob (f_X8_isPen x1 M) fun r_2 M_2 =>
(if r_2 = 0 then
  f_X8_penOf_b18 M_2
else
  ob (f_X8_in x2 0 10 M_2) fun r_12 M_12 =>
  (if r_12 = 0 then
    f_X8_penOf_b18 M_12
  else
    (if x2 = 6 then
      (if (M_12 0 1 (ix 8)) = x1 then
        f_X8_penOf_b72 1 M_12
      else
        f_X8_penOf_b72 0 M_12)
    else
    (if x2 = 7 then
      ob (f_X8_pn x1 6 M_12) fun r_77 M_77 =>
      some (r_77, M_77)
    else
    (if x2 = 8 then
      ob (f_X8_strikes x1 M_12) fun r_83 M_83 =>
      (if r_83 = 0 then
        f_X8_penOf_b94 0 M_83
      else
        f_X8_penOf_b94 1 M_83)
    else
    (if x2 = 9 then
      ob (f_X8_pn x1 4 M_12) fun r_98 M_98 =>
      (if r_98 ≤ (M_98 0 1 (ix 3)) then
        f_X8_penOf_b115 0 M_98
      else
        f_X8_penOf_b115 1 M_98)
    else
    (if x2 = 10 then
      ob (f_X8_linesBy x1 M_12) fun r_118 M_118 =>
      some (r_118, M_118)
    else
      ob (f_X8_pn x1 x2 M_12) fun r_125 M_125 =>
      some (r_125, M_125))))))))
set_option maxHeartbeats 4000000 in
set_option maxRecDepth 100000 in
theorem w_X8_penOf_b18 {p : Program} {l : Launch} {e : Env} {s : State} {m : MethodId} {args : Array Value} {below : List Frame} {meth : Method} {c : Code} {G : GG} {sz : Nat} {r : Int32} {M' : Mem} (E : Cx p s m args meth c cX8_penOf (some .int) 3 RX8 G) {M : Mem} {H : Heap} {locs : List Loc} {ls : Array Slot} (hf : f_X8_penOf_b18 M = some (r, M')) (hP : PW G (AM G) (XM G) sz M s H) (hS : va_S (AM G) s.heap H locs) (hl : lv_has ls 3 []) : W p l e rm_X8_penOf s m args below meth c H locs 0 0 (MQ below (va_Qi (fun (r2 : Int32) (_ : Unit) => r2 = r) (fun _ t => PW G (AM G) (XM G) sz M' t t.heap) (AM G)) args s 0 0 (AM G)) (F0 m 18 ls []) := by
  obtain ⟨hx, hb, hr, hlocks, hml, hown, hts, hK⟩ := id E
  unfold f_X8_penOf_b18 at hf
  refine lv_ldc (v := (-1000001)) hx hb hown (hts _ w_854) dX8_penOf_18 ?_
  exact en_i hf hx hb hr rfl hlocks hP hS dX8_penOf_20
set_option maxHeartbeats 4000000 in
set_option maxRecDepth 100000 in
theorem w_X8_penOf_b115 {p : Program} {l : Launch} {e : Env} {s : State} {m : MethodId} {args : Array Value} {below : List Frame} {meth : Method} {c : Code} {G : GG} {sz : Nat} {r : Int32} {M' : Mem} (E : Cx p s m args meth c cX8_penOf (some .int) 3 RX8 G) {s0 : Int32} {M : Mem} {H : Heap} {locs : List Loc} {ls : Array Slot} (hf : f_X8_penOf_b115 s0 M = some (r, M')) (hP : PW G (AM G) (XM G) sz M s H) (hS : va_S (AM G) s.heap H locs) (hl : lv_has ls 3 []) : W p l e rm_X8_penOf s m args below meth c H locs 0 0 (MQ below (va_Qi (fun (r2 : Int32) (_ : Unit) => r2 = r) (fun _ t => PW G (AM G) (XM G) sz M' t t.heap) (AM G)) args s 0 0 (AM G)) (F0 m 115 ls [.int s0]) := by
  obtain ⟨hx, hb, hr, hlocks, hml, hown, hts, hK⟩ := id E
  unfold f_X8_penOf_b115 at hf
  exact en_i hf hx hb hr rfl hlocks hP hS dX8_penOf_115
set_option maxHeartbeats 4000000 in
set_option maxRecDepth 100000 in
theorem w_X8_penOf_b94 {p : Program} {l : Launch} {e : Env} {s : State} {m : MethodId} {args : Array Value} {below : List Frame} {meth : Method} {c : Code} {G : GG} {sz : Nat} {r : Int32} {M' : Mem} (E : Cx p s m args meth c cX8_penOf (some .int) 3 RX8 G) {s0 : Int32} {M : Mem} {H : Heap} {locs : List Loc} {ls : Array Slot} (hf : f_X8_penOf_b94 s0 M = some (r, M')) (hP : PW G (AM G) (XM G) sz M s H) (hS : va_S (AM G) s.heap H locs) (hl : lv_has ls 3 []) : W p l e rm_X8_penOf s m args below meth c H locs 0 0 (MQ below (va_Qi (fun (r2 : Int32) (_ : Unit) => r2 = r) (fun _ t => PW G (AM G) (XM G) sz M' t t.heap) (AM G)) args s 0 0 (AM G)) (F0 m 94 ls [.int s0]) := by
  obtain ⟨hx, hb, hr, hlocks, hml, hown, hts, hK⟩ := id E
  unfold f_X8_penOf_b94 at hf
  exact en_i hf hx hb hr rfl hlocks hP hS dX8_penOf_94
set_option maxHeartbeats 4000000 in
set_option maxRecDepth 100000 in
theorem w_X8_penOf_b72 {p : Program} {l : Launch} {e : Env} {s : State} {m : MethodId} {args : Array Value} {below : List Frame} {meth : Method} {c : Code} {G : GG} {sz : Nat} {r : Int32} {M' : Mem} (E : Cx p s m args meth c cX8_penOf (some .int) 3 RX8 G) {s0 : Int32} {M : Mem} {H : Heap} {locs : List Loc} {ls : Array Slot} (hf : f_X8_penOf_b72 s0 M = some (r, M')) (hP : PW G (AM G) (XM G) sz M s H) (hS : va_S (AM G) s.heap H locs) (hl : lv_has ls 3 []) : W p l e rm_X8_penOf s m args below meth c H locs 0 0 (MQ below (va_Qi (fun (r2 : Int32) (_ : Unit) => r2 = r) (fun _ t => PW G (AM G) (XM G) sz M' t t.heap) (AM G)) args s 0 0 (AM G)) (F0 m 72 ls [.int s0]) := by
  obtain ⟨hx, hb, hr, hlocks, hml, hown, hts, hK⟩ := id E
  unfold f_X8_penOf_b72 at hf
  exact en_i hf hx hb hr rfl hlocks hP hS dX8_penOf_72
set_option maxHeartbeats 4000000 in
set_option maxRecDepth 100000 in
theorem w_X8_penOf {p : Program} {l : Launch} {e : Env} {s : State} {m : MethodId} {args : Array Value} {below : List Frame} {meth : Method} {c : Code} {G : GG} {sz : Nat} {r : Int32} {M' : Mem} (E : Cx p s m args meth c cX8_penOf (some .int) 3 RX8 G) {x1 : Int32} {x2 : Int32} {M : Mem} {H : Heap} {locs : List Loc} {ls : Array Slot} (hf : f_X8_penOf x1 x2 M = some (r, M')) (hP : PW G (AM G) (XM G) sz M s H) (hS : va_S (AM G) s.heap H locs) (hl : lv_has ls 3 [(0, .ref (adM G 0 0)), (1, .int x1), (2, .int x2)]) : W p l e rm_X8_penOf s m args below meth c H locs 0 0 (MQ below (va_Qi (fun (r2 : Int32) (_ : Unit) => r2 = r) (fun _ t => PW G (AM G) (XM G) sz M' t t.heap) (AM G)) args s 0 0 (AM G)) (F0 m 0 ls []) := by
  obtain ⟨hx, hb, hr, hlocks, hml, hown, hts, hK⟩ := id E
  unfold f_X8_penOf at hf
  refine lv_aload_n hx hb dX8_penOf_0 rfl (lv_at hl 0 rfl) ?_
  refine lv_iload_n hx hb dX8_penOf_1 rfl (lv_at hl 1 rfl) ?_
  refine ob_e hf (fun r_2 M_2 hq hf => ?_)
  refine cv_X8_isPen E hP hS hq w_888 ⟨Nat.le_of_ble_eq_true rfl, Nat.le_of_ble_eq_true rfl⟩ hl (Nat.le_of_ble_eq_true rfl) dX8_penOf_2 ⟨Nat.le_of_ble_eq_true rfl, Nat.le_of_ble_eq_true rfl⟩ (fun H locs hP hS => ?_)
  refine lv_if_eq (tgt := 18) hx hb dX8_penOf_5 (by decide) (fun hc => ?_) (fun hc => ?_)
  · have hf := if_t hf hc
    exact w_X8_penOf_b18 E hf hP hS (lv_sub hl [] rfl)
  · have hf := if_f hf hc
    refine lv_iload_n hx hb dX8_penOf_8 rfl (lv_at hl 2 rfl) ?_
    refine lv_iconst (v := 0) hx hb dX8_penOf_9 (by decide) ?_
    refine lv_bipush (v := 10) hx hb dX8_penOf_10 (by decide) ?_
    refine ob_e hf (fun r_12 M_12 hq hf => ?_)
    refine cv_X8_in E hP hS hq w_851 ⟨Nat.le_of_ble_eq_true rfl, Nat.le_of_ble_eq_true rfl⟩ hl (Nat.le_of_ble_eq_true rfl) dX8_penOf_12 ⟨Nat.le_of_ble_eq_true rfl, Nat.le_of_ble_eq_true rfl⟩ (fun H locs hP hS => ?_)
    refine lv_if_ne (tgt := 21) hx hb dX8_penOf_15 (by decide) (fun hc => ?_) (fun hc => ?_)
    · have hf := if_f hf hc
      refine lv_iload_n hx hb dX8_penOf_21 rfl (lv_at hl 2 rfl) ?_
      by_cases hc6 : x2 = 6
      · have hf := if_t hf hc6
        refine kr_tin hx hb hc6 (tgt := 56) dX8_penOf_22 (by decide) (by decide) rfl (by decide) ?_
        refine lv_aload_n hx hb dX8_penOf_56 rfl (lv_at hl 0 rfl) ?_
        refine gf_X8_s E hP w_797 dX8_penOf_57 ?_
        refine lv_bipush (v := 8) hx hb dX8_penOf_60 (by decide) ?_
        refine la_M1 E hP (by decide) dX8_penOf_62 ?_
        refine lv_iload_n hx hb dX8_penOf_63 rfl (lv_at hl 1 rfl) ?_
        refine lv_icmp_ne (tgt := 71) hx hb dX8_penOf_64 (by decide) (fun hc => ?_) (fun hc => ?_)
        · have hf := if_f hf hc
          refine lv_iconst (v := 0) hx hb dX8_penOf_71 (by decide) ?_
          exact w_X8_penOf_b72 E hf hP hS (lv_sub hl [] rfl)
        · have hf := if_t hf hc
          refine lv_iconst (v := 1) hx hb dX8_penOf_67 (by decide) ?_
          refine lv_goto (tgt := 72) hx hb dX8_penOf_68 (by decide) ?_
          exact w_X8_penOf_b72 E hf hP hS (lv_sub hl [] rfl)
      have hf := if_f hf hc6
      by_cases hc7 : x2 = 7
      · have hf := if_t hf hc7
        refine kr_tin hx hb hc7 (tgt := 73) dX8_penOf_22 (by decide) (by decide) rfl (by decide) ?_
        refine lv_aload_n hx hb dX8_penOf_73 rfl (lv_at hl 0 rfl) ?_
        refine lv_iload_n hx hb dX8_penOf_74 rfl (lv_at hl 1 rfl) ?_
        refine lv_bipush (v := 6) hx hb dX8_penOf_75 (by decide) ?_
        refine ob_e hf (fun r_77 M_77 hq hf => ?_)
        refine cv_X8_pn E hP hS hq w_867 ⟨Nat.le_of_ble_eq_true rfl, Nat.le_of_ble_eq_true rfl⟩ hl (Nat.le_of_ble_eq_true rfl) dX8_penOf_77 ⟨Nat.le_of_ble_eq_true rfl, Nat.le_of_ble_eq_true rfl⟩ (fun H locs hP hS => ?_)
        exact en_i hf hx hb hr rfl hlocks hP hS dX8_penOf_80
      have hf := if_f hf hc7
      by_cases hc8 : x2 = 8
      · have hf := if_t hf hc8
        refine kr_tin hx hb hc8 (tgt := 81) dX8_penOf_22 (by decide) (by decide) rfl (by decide) ?_
        refine lv_aload_n hx hb dX8_penOf_81 rfl (lv_at hl 0 rfl) ?_
        refine lv_iload_n hx hb dX8_penOf_82 rfl (lv_at hl 1 rfl) ?_
        refine ob_e hf (fun r_83 M_83 hq hf => ?_)
        refine cv_X8_strikes E hP hS hq w_904 ⟨Nat.le_of_ble_eq_true rfl, Nat.le_of_ble_eq_true rfl⟩ hl (Nat.le_of_ble_eq_true rfl) dX8_penOf_83 ⟨Nat.le_of_ble_eq_true rfl, Nat.le_of_ble_eq_true rfl⟩ (fun H locs hP hS => ?_)
        refine lv_if_eq (tgt := 93) hx hb dX8_penOf_86 (by decide) (fun hc => ?_) (fun hc => ?_)
        · have hf := if_t hf hc
          refine lv_iconst (v := 0) hx hb dX8_penOf_93 (by decide) ?_
          exact w_X8_penOf_b94 E hf hP hS (lv_sub hl [] rfl)
        · have hf := if_f hf hc
          refine lv_iconst (v := 1) hx hb dX8_penOf_89 (by decide) ?_
          refine lv_goto (tgt := 94) hx hb dX8_penOf_90 (by decide) ?_
          exact w_X8_penOf_b94 E hf hP hS (lv_sub hl [] rfl)
      have hf := if_f hf hc8
      by_cases hc9 : x2 = 9
      · have hf := if_t hf hc9
        refine kr_tin hx hb hc9 (tgt := 95) dX8_penOf_22 (by decide) (by decide) rfl (by decide) ?_
        refine lv_aload_n hx hb dX8_penOf_95 rfl (lv_at hl 0 rfl) ?_
        refine lv_iload_n hx hb dX8_penOf_96 rfl (lv_at hl 1 rfl) ?_
        refine lv_iconst (v := 4) hx hb dX8_penOf_97 (by decide) ?_
        refine ob_e hf (fun r_98 M_98 hq hf => ?_)
        refine cv_X8_pn E hP hS hq w_867 ⟨Nat.le_of_ble_eq_true rfl, Nat.le_of_ble_eq_true rfl⟩ hl (Nat.le_of_ble_eq_true rfl) dX8_penOf_98 ⟨Nat.le_of_ble_eq_true rfl, Nat.le_of_ble_eq_true rfl⟩ (fun H locs hP hS => ?_)
        refine lv_aload_n hx hb dX8_penOf_101 rfl (lv_at hl 0 rfl) ?_
        refine gf_X8_s E hP w_797 dX8_penOf_102 ?_
        refine lv_iconst (v := 3) hx hb dX8_penOf_105 (by decide) ?_
        refine la_M1 E hP (by decide) dX8_penOf_106 ?_
        refine lv_icmp_le (tgt := 114) hx hb dX8_penOf_107 (by decide) (fun hc => ?_) (fun hc => ?_)
        · have hf := if_t hf hc
          refine lv_iconst (v := 0) hx hb dX8_penOf_114 (by decide) ?_
          exact w_X8_penOf_b115 E hf hP hS (lv_sub hl [] rfl)
        · have hf := if_f hf hc
          refine lv_iconst (v := 1) hx hb dX8_penOf_110 (by decide) ?_
          refine lv_goto (tgt := 115) hx hb dX8_penOf_111 (by decide) ?_
          exact w_X8_penOf_b115 E hf hP hS (lv_sub hl [] rfl)
      have hf := if_f hf hc9
      by_cases hc10 : x2 = 10
      · have hf := if_t hf hc10
        refine kr_tin hx hb hc10 (tgt := 116) dX8_penOf_22 (by decide) (by decide) rfl (by decide) ?_
        refine lv_aload_n hx hb dX8_penOf_116 rfl (lv_at hl 0 rfl) ?_
        refine lv_iload_n hx hb dX8_penOf_117 rfl (lv_at hl 1 rfl) ?_
        refine ob_e hf (fun r_118 M_118 hq hf => ?_)
        refine cv_X8_linesBy E hP hS hq w_912 ⟨Nat.le_of_ble_eq_true rfl, Nat.le_of_ble_eq_true rfl⟩ hl (Nat.le_of_ble_eq_true rfl) dX8_penOf_118 ⟨Nat.le_of_ble_eq_true rfl, Nat.le_of_ble_eq_true rfl⟩ (fun H locs hP hS => ?_)
        exact en_i hf hx hb hr rfl hlocks hP hS dX8_penOf_121
      have hf := if_f hf hc10
      have hn6 := lv_neT hc6 (a := 6) (by decide)
      have hn7 := lv_neT hc7 (a := 7) (by decide)
      have hn8 := lv_neT hc8 (a := 8) (by decide)
      have hn9 := lv_neT hc9 (a := 9) (by decide)
      have hn10 := lv_neT hc10 (a := 10) (by decide)
      refine lv_tableOut (tgt := 122) hx hb dX8_penOf_22 (by omega) (by decide) ?_
      refine lv_aload_n hx hb dX8_penOf_122 rfl (lv_at hl 0 rfl) ?_
      refine lv_iload_n hx hb dX8_penOf_123 rfl (lv_at hl 1 rfl) ?_
      refine lv_iload_n hx hb dX8_penOf_124 rfl (lv_at hl 2 rfl) ?_
      refine ob_e hf (fun r_125 M_125 hq hf => ?_)
      refine cv_X8_pn E hP hS hq w_867 ⟨Nat.le_of_ble_eq_true rfl, Nat.le_of_ble_eq_true rfl⟩ hl (Nat.le_of_ble_eq_true rfl) dX8_penOf_125 ⟨Nat.le_of_ble_eq_true rfl, Nat.le_of_ble_eq_true rfl⟩ (fun H locs hP hS => ?_)
      exact en_i hf hx hb hr rfl hlocks hP hS dX8_penOf_128
    · have hf := if_t hf hc
      exact w_X8_penOf_b18 E hf hP hS (lv_sub hl [] rfl)
theorem c_X8_penOf (l : Launch) {G : GG} {sz : Nat} {x1 : Int32} {x2 : Int32} {M : Mem} {r : Int32} {M' : Mem} (hf : f_X8_penOf x1 x2 M = some (r, M')) : CtI l yX8_penOf cX8_penOf 3 (some .int) rm_X8_penOf [.ref (adM G 0 0), .int x1, .int x2] G (AM G) (XM G) sz M r (XM G) sz M' := by
  refine Ct_of (by decide) (Nat.le_of_ble_eq_true rfl) (fun p e s m below meth c ls hx hb hr hlocks hml hown hts hK hP hl => ?_)
  exact w_X8_penOf ⟨hx, hb, hr, hlocks, hml, hown, hts, hK⟩ hf hP va_S.rf hl
set_option maxRecDepth 100000 in
theorem cv_X8_penOf {p : Program} {l : Launch} {e : Env} {R : Room} {s : State} {m : MethodId} {args : Array Value} {below : List Frame} {meth : Method} {c : Code} {H : Heap} {locs : List Loc} {cells slots : Nat} {Q : State → Prop} {cc : ByteArray} {pc nL index : Nat} {ret : Option FieldType} {own : String} {ls : Array Slot} {rest : List Value} {l' : List (Nat × Value)} {G : GG} {sz : Nat} {M : Mem} (E : Cx p s m args meth c cc ret nL own G) (hP : PW G (AM G) (XM G) sz M s H) (hS : va_S (AM G) s.heap H locs) {x1 : Int32} {x2 : Int32} {r : Int32} {M' : Mem} (hq : f_X8_penOf x1 x2 M = some (r, M')) (w1 : Cond.methodLink own index yX8_penOf ∈ lw_all) (hR : 4 ≤ R.frames ∧ 89 ≤ R.locals) (hl : lv_has ls nL l') (hrest : (rest.map fun v => v.category).sum ≤ 8) (hdg : decode cc pc = .ok (.invokevirtual index, 3)) (hcs : cells ≤ R.cells ∧ slots ≤ R.slots)
    (kk : ∀ (H1 : Heap) (locs1 : List Loc), PW G (AM G) (XM G) sz M' s H1 → va_S (AM G) s.heap H1 locs1 → W p l e R s m args below meth c H1 locs1 cells slots Q (F0 m (pc + 3) ls (.int r :: rest))) : W p l e R s m args below meth c H locs cells slots Q (F0 m pc ls (.int x2 :: .int x1 :: .ref (adM G 0 0) :: rest)) := by
  obtain ⟨hx, hb, hr, hlocks, hml, hown, hts, hK⟩ := E
  exact kc_i (kc_runV (na := 2) (q := (RX8, TX8, 16)) hx hb hml hts hown hK hP 0 0 ⟨rfl, by decide⟩ rfl rfl rfl (c_X8_penOf l hq) w1 w_901 w_902 w_9 w_903 (by decide +kernel) hR rfl hl rfl hrest hdg hcs) hS kk
/-! X8_length -/
abbrev rm_X8_length : Room := { frames := 1, cells := 0, slots := 0, locals := 22 }
def f_X8_length_b42 (s0 : Int32) (M : Mem) : Option (Int32 × Mem) :=
some (s0, M)
def f_X8_length (x1 : Int32) (M : Mem) : Option (Int32 × Mem) :=
ob (f_X8_ln x1 0 M) fun r_3 M_3 =>
ob (f_X8_ln x1 2 M_3) fun r_9 M_9 =>
ob (f_X8_apart r_3 r_9 M_9) fun r_12 M_12 =>
ob (f_X8_ln x1 1 M_12) fun r_19 M_19 =>
ob (f_X8_ln x1 3 M_19) fun r_25 M_25 =>
ob (f_X8_apart r_19 r_25 M_25) fun r_28 M_28 =>
(if r_28 ≤ r_12 then
  f_X8_length_b42 r_12 M_28
else
  f_X8_length_b42 r_28 M_28)
set_option maxHeartbeats 4000000 in
set_option maxRecDepth 100000 in
theorem w_X8_length_b42 {p : Program} {l : Launch} {e : Env} {s : State} {m : MethodId} {args : Array Value} {below : List Frame} {meth : Method} {c : Code} {G : GG} {sz : Nat} {r : Int32} {M' : Mem} (E : Cx p s m args meth c cX8_length (some .int) 4 RX8 G) {s0 : Int32} {M : Mem} {H : Heap} {locs : List Loc} {ls : Array Slot} (hf : f_X8_length_b42 s0 M = some (r, M')) (hP : PW G (AM G) (XM G) sz M s H) (hS : va_S (AM G) s.heap H locs) (hl : lv_has ls 4 []) : W p l e rm_X8_length s m args below meth c H locs 0 0 (MQ below (va_Qi (fun (r2 : Int32) (_ : Unit) => r2 = r) (fun _ t => PW G (AM G) (XM G) sz M' t t.heap) (AM G)) args s 0 0 (AM G)) (F0 m 42 ls [.int s0]) := by
  obtain ⟨hx, hb, hr, hlocks, hml, hown, hts, hK⟩ := id E
  unfold f_X8_length_b42 at hf
  exact en_i hf hx hb hr rfl hlocks hP hS dX8_length_42
set_option maxHeartbeats 4000000 in
set_option maxRecDepth 100000 in
theorem w_X8_length {p : Program} {l : Launch} {e : Env} {s : State} {m : MethodId} {args : Array Value} {below : List Frame} {meth : Method} {c : Code} {G : GG} {sz : Nat} {r : Int32} {M' : Mem} (E : Cx p s m args meth c cX8_length (some .int) 4 RX8 G) {x1 : Int32} {M : Mem} {H : Heap} {locs : List Loc} {ls : Array Slot} (hf : f_X8_length x1 M = some (r, M')) (hP : PW G (AM G) (XM G) sz M s H) (hS : va_S (AM G) s.heap H locs) (hl : lv_has ls 4 [(0, .ref (adM G 0 0)), (1, .int x1)]) : W p l e rm_X8_length s m args below meth c H locs 0 0 (MQ below (va_Qi (fun (r2 : Int32) (_ : Unit) => r2 = r) (fun _ t => PW G (AM G) (XM G) sz M' t t.heap) (AM G)) args s 0 0 (AM G)) (F0 m 0 ls []) := by
  obtain ⟨hx, hb, hr, hlocks, hml, hown, hts, hK⟩ := id E
  unfold f_X8_length at hf
  refine lv_aload_n hx hb dX8_length_0 rfl (lv_at hl 0 rfl) ?_
  refine lv_iload_n hx hb dX8_length_1 rfl (lv_at hl 1 rfl) ?_
  refine lv_iconst (v := 0) hx hb dX8_length_2 (by decide) ?_
  refine ob_e hf (fun r_3 M_3 hq hf => ?_)
  refine cv_X8_ln E hP hS hq w_916 ⟨Nat.le_of_ble_eq_true rfl, Nat.le_of_ble_eq_true rfl⟩ hl (Nat.le_of_ble_eq_true rfl) dX8_length_3 ⟨Nat.le_of_ble_eq_true rfl, Nat.le_of_ble_eq_true rfl⟩ (fun H locs hP hS => ?_)
  refine lv_aload_n hx hb dX8_length_6 rfl (lv_at hl 0 rfl) ?_
  refine lv_iload_n hx hb dX8_length_7 rfl (lv_at hl 1 rfl) ?_
  refine lv_iconst (v := 2) hx hb dX8_length_8 (by decide) ?_
  refine ob_e hf (fun r_9 M_9 hq hf => ?_)
  refine cv_X8_ln E hP hS hq w_916 ⟨Nat.le_of_ble_eq_true rfl, Nat.le_of_ble_eq_true rfl⟩ hl (Nat.le_of_ble_eq_true rfl) dX8_length_9 ⟨Nat.le_of_ble_eq_true rfl, Nat.le_of_ble_eq_true rfl⟩ (fun H locs hP hS => ?_)
  refine ob_e hf (fun r_12 M_12 hq hf => ?_)
  refine cv_X8_apart E hP hS hq w_932 ⟨Nat.le_of_ble_eq_true rfl, Nat.le_of_ble_eq_true rfl⟩ hl (Nat.le_of_ble_eq_true rfl) dX8_length_12 ⟨Nat.le_of_ble_eq_true rfl, Nat.le_of_ble_eq_true rfl⟩ (fun H locs hP hS => ?_)
  refine lv_istore_n (lv' := [(2, .int r_12), (0, .ref (adM G 0 0)), (1, .int x1)]) hx hb dX8_length_15 rfl hl (by decide) rfl (fun ls hl => ?_)
  refine lv_aload_n hx hb dX8_length_16 rfl (lv_at hl 1 rfl) ?_
  refine lv_iload_n hx hb dX8_length_17 rfl (lv_at hl 2 rfl) ?_
  refine lv_iconst (v := 1) hx hb dX8_length_18 (by decide) ?_
  refine ob_e hf (fun r_19 M_19 hq hf => ?_)
  refine cv_X8_ln E hP hS hq w_916 ⟨Nat.le_of_ble_eq_true rfl, Nat.le_of_ble_eq_true rfl⟩ hl (Nat.le_of_ble_eq_true rfl) dX8_length_19 ⟨Nat.le_of_ble_eq_true rfl, Nat.le_of_ble_eq_true rfl⟩ (fun H locs hP hS => ?_)
  refine lv_aload_n hx hb dX8_length_22 rfl (lv_at hl 1 rfl) ?_
  refine lv_iload_n hx hb dX8_length_23 rfl (lv_at hl 2 rfl) ?_
  refine lv_iconst (v := 3) hx hb dX8_length_24 (by decide) ?_
  refine ob_e hf (fun r_25 M_25 hq hf => ?_)
  refine cv_X8_ln E hP hS hq w_916 ⟨Nat.le_of_ble_eq_true rfl, Nat.le_of_ble_eq_true rfl⟩ hl (Nat.le_of_ble_eq_true rfl) dX8_length_25 ⟨Nat.le_of_ble_eq_true rfl, Nat.le_of_ble_eq_true rfl⟩ (fun H locs hP hS => ?_)
  refine ob_e hf (fun r_28 M_28 hq hf => ?_)
  refine cv_X8_apart E hP hS hq w_932 ⟨Nat.le_of_ble_eq_true rfl, Nat.le_of_ble_eq_true rfl⟩ hl (Nat.le_of_ble_eq_true rfl) dX8_length_28 ⟨Nat.le_of_ble_eq_true rfl, Nat.le_of_ble_eq_true rfl⟩ (fun H locs hP hS => ?_)
  refine lv_istore_n (lv' := [(3, .int r_28), (2, .int r_12), (0, .ref (adM G 0 0)), (1, .int x1)]) hx hb dX8_length_31 rfl hl (by decide) rfl (fun ls hl => ?_)
  refine lv_iload_n hx hb dX8_length_32 rfl (lv_at hl 1 rfl) ?_
  refine lv_iload_n hx hb dX8_length_33 rfl (lv_at hl 0 rfl) ?_
  refine lv_icmp_ge (tgt := 41) hx hb dX8_length_34 (by decide) (fun hc => ?_) (fun hc => ?_)
  · have hf := if_t hf hc
    refine lv_iload_n hx hb dX8_length_41 rfl (lv_at hl 1 rfl) ?_
    exact w_X8_length_b42 E hf hP hS (lv_sub hl [] rfl)
  · have hf := if_f hf hc
    refine lv_iload_n hx hb dX8_length_37 rfl (lv_at hl 0 rfl) ?_
    refine lv_goto (tgt := 42) hx hb dX8_length_38 (by decide) ?_
    exact w_X8_length_b42 E hf hP hS (lv_sub hl [] rfl)
theorem c_X8_length (l : Launch) {G : GG} {sz : Nat} {x1 : Int32} {M : Mem} {r : Int32} {M' : Mem} (hf : f_X8_length x1 M = some (r, M')) : CtI l yX8_length cX8_length 4 (some .int) rm_X8_length [.ref (adM G 0 0), .int x1] G (AM G) (XM G) sz M r (XM G) sz M' := by
  refine Ct_of (by decide) (Nat.le_of_ble_eq_true rfl) (fun p e s m below meth c ls hx hb hr hlocks hml hown hts hK hP hl => ?_)
  exact w_X8_length ⟨hx, hb, hr, hlocks, hml, hown, hts, hK⟩ hf hP va_S.rf hl
set_option maxRecDepth 100000 in
theorem cv_X8_length {p : Program} {l : Launch} {e : Env} {R : Room} {s : State} {m : MethodId} {args : Array Value} {below : List Frame} {meth : Method} {c : Code} {H : Heap} {locs : List Loc} {cells slots : Nat} {Q : State → Prop} {cc : ByteArray} {pc nL index : Nat} {ret : Option FieldType} {own : String} {ls : Array Slot} {rest : List Value} {l' : List (Nat × Value)} {G : GG} {sz : Nat} {M : Mem} (E : Cx p s m args meth c cc ret nL own G) (hP : PW G (AM G) (XM G) sz M s H) (hS : va_S (AM G) s.heap H locs) {x1 : Int32} {r : Int32} {M' : Mem} (hq : f_X8_length x1 M = some (r, M')) (w1 : Cond.methodLink own index yX8_length ∈ lw_all) (hR : 2 ≤ R.frames ∧ 45 ≤ R.locals) (hl : lv_has ls nL l') (hrest : (rest.map fun v => v.category).sum ≤ 8) (hdg : decode cc pc = .ok (.invokevirtual index, 3)) (hcs : cells ≤ R.cells ∧ slots ≤ R.slots)
    (kk : ∀ (H1 : Heap) (locs1 : List Loc), PW G (AM G) (XM G) sz M' s H1 → va_S (AM G) s.heap H1 locs1 → W p l e R s m args below meth c H1 locs1 cells slots Q (F0 m (pc + 3) ls (.int r :: rest))) : W p l e R s m args below meth c H locs cells slots Q (F0 m pc ls (.int x1 :: .ref (adM G 0 0) :: rest)) := by
  obtain ⟨hx, hb, hr, hlocks, hml, hown, hts, hK⟩ := E
  exact kc_i (kc_runV (na := 1) (q := (RX8, TX8, 16)) hx hb hml hts hown hK hP 0 0 ⟨rfl, by decide⟩ rfl rfl rfl (c_X8_length l hq) w1 w_930 ws_30 w_9 w_931 (by decide +kernel) hR rfl hl rfl hrest hdg hcs) hS kk
/-! X8_isWet -/
abbrev rm_X8_isWet : Room := { frames := 2, cells := 0, slots := 0, locals := 43 }
def f_X8_isWet_b24 (s0 : Int32) (M : Mem) : Option (Int32 × Mem) :=
ck (bl s0) <|
some (s0, M)
def f_X8_isWet_b23 (M : Mem) : Option (Int32 × Mem) :=
f_X8_isWet_b24 0 M
def f_X8_isWet (x1 : Int32) (x2 : Int32) (M : Mem) : Option (Int32 × Mem) :=
ob (f_X8_isDrawn x1 M) fun r_2 M_2 =>
(if r_2 = 0 then
  f_X8_isWet_b23 M_2
else
  ob (f_X8_ln x1 6 M_2) fun r_13 M_13 =>
  (if r_13 ≤ x2 then
    f_X8_isWet_b23 M_13
  else
    f_X8_isWet_b24 1 M_13))
set_option maxHeartbeats 4000000 in
set_option maxRecDepth 100000 in
theorem w_X8_isWet_b24 {p : Program} {l : Launch} {e : Env} {s : State} {m : MethodId} {args : Array Value} {below : List Frame} {meth : Method} {c : Code} {G : GG} {sz : Nat} {r : Int32} {M' : Mem} (E : Cx p s m args meth c cX8_isWet (some .boolean) 3 RX8 G) {s0 : Int32} {M : Mem} {H : Heap} {locs : List Loc} {ls : Array Slot} (hf : f_X8_isWet_b24 s0 M = some (r, M')) (hP : PW G (AM G) (XM G) sz M s H) (hS : va_S (AM G) s.heap H locs) (hl : lv_has ls 3 []) : W p l e rm_X8_isWet s m args below meth c H locs 0 0 (MQ below (va_Qi (fun (r2 : Int32) (_ : Unit) => r2 = r) (fun _ t => PW G (AM G) (XM G) sz M' t t.heap) (AM G)) args s 0 0 (AM G)) (F0 m 24 ls [.int s0]) := by
  obtain ⟨hx, hb, hr, hlocks, hml, hown, hts, hK⟩ := id E
  unfold f_X8_isWet_b24 at hf
  refine ck_e hf (fun hn hf => ?_)
  exact en_i hf hx hb hr (bl_nar hn) hlocks hP hS dX8_isWet_24
set_option maxHeartbeats 4000000 in
set_option maxRecDepth 100000 in
theorem w_X8_isWet_b23 {p : Program} {l : Launch} {e : Env} {s : State} {m : MethodId} {args : Array Value} {below : List Frame} {meth : Method} {c : Code} {G : GG} {sz : Nat} {r : Int32} {M' : Mem} (E : Cx p s m args meth c cX8_isWet (some .boolean) 3 RX8 G) {M : Mem} {H : Heap} {locs : List Loc} {ls : Array Slot} (hf : f_X8_isWet_b23 M = some (r, M')) (hP : PW G (AM G) (XM G) sz M s H) (hS : va_S (AM G) s.heap H locs) (hl : lv_has ls 3 []) : W p l e rm_X8_isWet s m args below meth c H locs 0 0 (MQ below (va_Qi (fun (r2 : Int32) (_ : Unit) => r2 = r) (fun _ t => PW G (AM G) (XM G) sz M' t t.heap) (AM G)) args s 0 0 (AM G)) (F0 m 23 ls []) := by
  obtain ⟨hx, hb, hr, hlocks, hml, hown, hts, hK⟩ := id E
  unfold f_X8_isWet_b23 at hf
  refine lv_iconst (v := 0) hx hb dX8_isWet_23 (by decide) ?_
  exact w_X8_isWet_b24 E hf hP hS (lv_sub hl [] rfl)
set_option maxHeartbeats 4000000 in
set_option maxRecDepth 100000 in
theorem w_X8_isWet {p : Program} {l : Launch} {e : Env} {s : State} {m : MethodId} {args : Array Value} {below : List Frame} {meth : Method} {c : Code} {G : GG} {sz : Nat} {r : Int32} {M' : Mem} (E : Cx p s m args meth c cX8_isWet (some .boolean) 3 RX8 G) {x1 : Int32} {x2 : Int32} {M : Mem} {H : Heap} {locs : List Loc} {ls : Array Slot} (hf : f_X8_isWet x1 x2 M = some (r, M')) (hP : PW G (AM G) (XM G) sz M s H) (hS : va_S (AM G) s.heap H locs) (hl : lv_has ls 3 [(0, .ref (adM G 0 0)), (1, .int x1), (2, .int x2)]) : W p l e rm_X8_isWet s m args below meth c H locs 0 0 (MQ below (va_Qi (fun (r2 : Int32) (_ : Unit) => r2 = r) (fun _ t => PW G (AM G) (XM G) sz M' t t.heap) (AM G)) args s 0 0 (AM G)) (F0 m 0 ls []) := by
  obtain ⟨hx, hb, hr, hlocks, hml, hown, hts, hK⟩ := id E
  unfold f_X8_isWet at hf
  refine lv_aload_n hx hb dX8_isWet_0 rfl (lv_at hl 0 rfl) ?_
  refine lv_iload_n hx hb dX8_isWet_1 rfl (lv_at hl 1 rfl) ?_
  refine ob_e hf (fun r_2 M_2 hq hf => ?_)
  refine cv_X8_isDrawn E hP hS hq w_935 ⟨Nat.le_of_ble_eq_true rfl, Nat.le_of_ble_eq_true rfl⟩ hl (Nat.le_of_ble_eq_true rfl) dX8_isWet_2 ⟨Nat.le_of_ble_eq_true rfl, Nat.le_of_ble_eq_true rfl⟩ (fun H locs hP hS => ?_)
  refine lv_if_eq (tgt := 23) hx hb dX8_isWet_5 (by decide) (fun hc => ?_) (fun hc => ?_)
  · have hf := if_t hf hc
    exact w_X8_isWet_b23 E hf hP hS (lv_sub hl [] rfl)
  · have hf := if_f hf hc
    refine lv_iload_n hx hb dX8_isWet_8 rfl (lv_at hl 2 rfl) ?_
    refine lv_aload_n hx hb dX8_isWet_9 rfl (lv_at hl 0 rfl) ?_
    refine lv_iload_n hx hb dX8_isWet_10 rfl (lv_at hl 1 rfl) ?_
    refine lv_bipush (v := 6) hx hb dX8_isWet_11 (by decide) ?_
    refine ob_e hf (fun r_13 M_13 hq hf => ?_)
    refine cv_X8_ln E hP hS hq w_916 ⟨Nat.le_of_ble_eq_true rfl, Nat.le_of_ble_eq_true rfl⟩ hl (Nat.le_of_ble_eq_true rfl) dX8_isWet_13 ⟨Nat.le_of_ble_eq_true rfl, Nat.le_of_ble_eq_true rfl⟩ (fun H locs hP hS => ?_)
    refine lv_icmp_ge (tgt := 23) hx hb dX8_isWet_16 (by decide) (fun hc => ?_) (fun hc => ?_)
    · have hf := if_t hf hc
      exact w_X8_isWet_b23 E hf hP hS (lv_sub hl [] rfl)
    · have hf := if_f hf hc
      refine lv_iconst (v := 1) hx hb dX8_isWet_19 (by decide) ?_
      refine lv_goto (tgt := 24) hx hb dX8_isWet_20 (by decide) ?_
      exact w_X8_isWet_b24 E hf hP hS (lv_sub hl [] rfl)
theorem c_X8_isWet (l : Launch) {G : GG} {sz : Nat} {x1 : Int32} {x2 : Int32} {M : Mem} {r : Int32} {M' : Mem} (hf : f_X8_isWet x1 x2 M = some (r, M')) : CtI l yX8_isWet cX8_isWet 3 (some .boolean) rm_X8_isWet [.ref (adM G 0 0), .int x1, .int x2] G (AM G) (XM G) sz M r (XM G) sz M' := by
  refine Ct_of (by decide) (Nat.le_of_ble_eq_true rfl) (fun p e s m below meth c ls hx hb hr hlocks hml hown hts hK hP hl => ?_)
  exact w_X8_isWet ⟨hx, hb, hr, hlocks, hml, hown, hts, hK⟩ hf hP va_S.rf hl
set_option maxRecDepth 100000 in
theorem cv_X8_isWet {p : Program} {l : Launch} {e : Env} {R : Room} {s : State} {m : MethodId} {args : Array Value} {below : List Frame} {meth : Method} {c : Code} {H : Heap} {locs : List Loc} {cells slots : Nat} {Q : State → Prop} {cc : ByteArray} {pc nL index : Nat} {ret : Option FieldType} {own : String} {ls : Array Slot} {rest : List Value} {l' : List (Nat × Value)} {G : GG} {sz : Nat} {M : Mem} (E : Cx p s m args meth c cc ret nL own G) (hP : PW G (AM G) (XM G) sz M s H) (hS : va_S (AM G) s.heap H locs) {x1 : Int32} {x2 : Int32} {r : Int32} {M' : Mem} (hq : f_X8_isWet x1 x2 M = some (r, M')) (w1 : Cond.methodLink own index yX8_isWet ∈ lw_all) (hR : 3 ≤ R.frames ∧ 65 ≤ R.locals) (hl : lv_has ls nL l') (hrest : (rest.map fun v => v.category).sum ≤ 8) (hdg : decode cc pc = .ok (.invokevirtual index, 3)) (hcs : cells ≤ R.cells ∧ slots ≤ R.slots)
    (kk : ∀ (H1 : Heap) (locs1 : List Loc), PW G (AM G) (XM G) sz M' s H1 → va_S (AM G) s.heap H1 locs1 → W p l e R s m args below meth c H1 locs1 cells slots Q (F0 m (pc + 3) ls (.int r :: rest))) : W p l e R s m args below meth c H locs cells slots Q (F0 m pc ls (.int x2 :: .int x1 :: .ref (adM G 0 0) :: rest)) := by
  obtain ⟨hx, hb, hr, hlocks, hml, hown, hts, hK⟩ := E
  exact kc_i (kc_runV (na := 2) (q := (RX8, TX8, 16)) hx hb hml hts hown hK hP 0 0 ⟨rfl, by decide⟩ rfl rfl rfl (c_X8_isWet l hq) w1 w_942 ws_32 w_9 w_943 (by decide +kernel) hR rfl hl rfl hrest hdg hcs) hS kk
/-! X8_lineOf -/
abbrev rm_X8_lineOf : Room := { frames := 3, cells := 0, slots := 0, locals := 65 }
def f_X8_lineOf_b18 (M : Mem) : Option (Int32 × Mem) :=
some ((-1000001), M)
def f_X8_lineOf_b101 (s0 : Int32) (M : Mem) : Option (Int32 × Mem) :=
some (s0, M)
def f_X8_lineOf_b80 (x1 : Int32) (x2 : Int32) (M : Mem) : Option (Int32 × Mem) :=
ob (f_X8_isDrawn x1 M) fun r_82 M_82 =>
(if r_82 = 0 then
  f_X8_lineOf_b101 (-1000004) M_82
else
  ob (f_X8_ln x1 (x2 - 2) M_82) fun r_93 M_93 =>
  f_X8_lineOf_b101 r_93 M_93)
def f_X8_lineOf_b143 (s0 : Int32) (M : Mem) : Option (Int32 × Mem) :=
some (s0, M)
def f_X8_lineOf_b122 (s0 : Int32) (M : Mem) : Option (Int32 × Mem) :=
some (s0, M)
def f_X8_lineOf_b79 (s0 : Int32) (M : Mem) : Option (Int32 × Mem) :=
some (s0, M)
def f_X8_lineOf (x1 : Int32) (x2 : Int32) (M : Mem) : Option (Int32 × Mem) :=
ob (f_X8_isLine x1 M) fun r_2 M_2 =>
(if r_2 = 0 then
  f_X8_lineOf_b18 M_2
else
  ob (f_X8_in x2 0 9 M_2) fun r_12 M_12 =>
  (if r_12 = 0 then
    f_X8_lineOf_b18 M_12
  else
    (if x2 = 4 then
      ob (f_X8_length x1 M_12) fun r_62 M_62 =>
      some (r_62, M_62)
    else
    (if x2 = 5 then
      ob (f_X8_isDrawn x1 M_12) fun r_68 M_68 =>
      (if r_68 = 0 then
        f_X8_lineOf_b79 0 M_68
      else
        f_X8_lineOf_b79 1 M_68)
    else
    (if x2 = 6 then
      f_X8_lineOf_b80 x1 x2 M_12
    else
    (if x2 = 7 then
      f_X8_lineOf_b80 x1 x2 M_12
    else
    (if x2 = 8 then
      ob (f_X8_isWet x1 (M_12 0 1 (ix 7)) M_12) fun r_111 M_111 =>
      (if r_111 = 0 then
        f_X8_lineOf_b122 0 M_111
      else
        f_X8_lineOf_b122 1 M_111)
    else
    (if x2 = 9 then
      ob (f_X8_isDrawn x1 M_12) fun r_125 M_125 =>
      (if r_125 = 0 then
        f_X8_lineOf_b143 (-1000004) M_125
      else
        ob (f_X8_ln x1 7 M_125) fun r_135 M_135 =>
        f_X8_lineOf_b143 r_135 M_135)
    else
      ob (f_X8_ln x1 x2 M_12) fun r_147 M_147 =>
      some (r_147, M_147)))))))))
set_option maxHeartbeats 4000000 in
set_option maxRecDepth 100000 in
theorem w_X8_lineOf_b18 {p : Program} {l : Launch} {e : Env} {s : State} {m : MethodId} {args : Array Value} {below : List Frame} {meth : Method} {c : Code} {G : GG} {sz : Nat} {r : Int32} {M' : Mem} (E : Cx p s m args meth c cX8_lineOf (some .int) 3 RX8 G) {M : Mem} {H : Heap} {locs : List Loc} {ls : Array Slot} (hf : f_X8_lineOf_b18 M = some (r, M')) (hP : PW G (AM G) (XM G) sz M s H) (hS : va_S (AM G) s.heap H locs) (hl : lv_has ls 3 []) : W p l e rm_X8_lineOf s m args below meth c H locs 0 0 (MQ below (va_Qi (fun (r2 : Int32) (_ : Unit) => r2 = r) (fun _ t => PW G (AM G) (XM G) sz M' t t.heap) (AM G)) args s 0 0 (AM G)) (F0 m 18 ls []) := by
  obtain ⟨hx, hb, hr, hlocks, hml, hown, hts, hK⟩ := id E
  unfold f_X8_lineOf_b18 at hf
  refine lv_ldc (v := (-1000001)) hx hb hown (hts _ w_854) dX8_lineOf_18 ?_
  exact en_i hf hx hb hr rfl hlocks hP hS dX8_lineOf_20
set_option maxHeartbeats 4000000 in
set_option maxRecDepth 100000 in
theorem w_X8_lineOf_b101 {p : Program} {l : Launch} {e : Env} {s : State} {m : MethodId} {args : Array Value} {below : List Frame} {meth : Method} {c : Code} {G : GG} {sz : Nat} {r : Int32} {M' : Mem} (E : Cx p s m args meth c cX8_lineOf (some .int) 3 RX8 G) {s0 : Int32} {M : Mem} {H : Heap} {locs : List Loc} {ls : Array Slot} (hf : f_X8_lineOf_b101 s0 M = some (r, M')) (hP : PW G (AM G) (XM G) sz M s H) (hS : va_S (AM G) s.heap H locs) (hl : lv_has ls 3 []) : W p l e rm_X8_lineOf s m args below meth c H locs 0 0 (MQ below (va_Qi (fun (r2 : Int32) (_ : Unit) => r2 = r) (fun _ t => PW G (AM G) (XM G) sz M' t t.heap) (AM G)) args s 0 0 (AM G)) (F0 m 101 ls [.int s0]) := by
  obtain ⟨hx, hb, hr, hlocks, hml, hown, hts, hK⟩ := id E
  unfold f_X8_lineOf_b101 at hf
  exact en_i hf hx hb hr rfl hlocks hP hS dX8_lineOf_101
set_option maxHeartbeats 4000000 in
set_option maxRecDepth 100000 in
theorem w_X8_lineOf_b80 {p : Program} {l : Launch} {e : Env} {s : State} {m : MethodId} {args : Array Value} {below : List Frame} {meth : Method} {c : Code} {G : GG} {sz : Nat} {r : Int32} {M' : Mem} (E : Cx p s m args meth c cX8_lineOf (some .int) 3 RX8 G) {x1 : Int32} {x2 : Int32} {M : Mem} {H : Heap} {locs : List Loc} {ls : Array Slot} (hf : f_X8_lineOf_b80 x1 x2 M = some (r, M')) (hP : PW G (AM G) (XM G) sz M s H) (hS : va_S (AM G) s.heap H locs) (hl : lv_has ls 3 [(0, .ref (adM G 0 0)), (1, .int x1), (2, .int x2)]) : W p l e rm_X8_lineOf s m args below meth c H locs 0 0 (MQ below (va_Qi (fun (r2 : Int32) (_ : Unit) => r2 = r) (fun _ t => PW G (AM G) (XM G) sz M' t t.heap) (AM G)) args s 0 0 (AM G)) (F0 m 80 ls []) := by
  obtain ⟨hx, hb, hr, hlocks, hml, hown, hts, hK⟩ := id E
  unfold f_X8_lineOf_b80 at hf
  refine lv_aload_n hx hb dX8_lineOf_80 rfl (lv_at hl 0 rfl) ?_
  refine lv_iload_n hx hb dX8_lineOf_81 rfl (lv_at hl 1 rfl) ?_
  refine ob_e hf (fun r_82 M_82 hq hf => ?_)
  refine cv_X8_isDrawn E hP hS hq w_935 ⟨Nat.le_of_ble_eq_true rfl, Nat.le_of_ble_eq_true rfl⟩ hl (Nat.le_of_ble_eq_true rfl) dX8_lineOf_82 ⟨Nat.le_of_ble_eq_true rfl, Nat.le_of_ble_eq_true rfl⟩ (fun H locs hP hS => ?_)
  refine lv_if_eq (tgt := 99) hx hb dX8_lineOf_85 (by decide) (fun hc => ?_) (fun hc => ?_)
  · have hf := if_t hf hc
    refine lv_ldc (v := (-1000004)) hx hb hown (hts _ w_939) dX8_lineOf_99 ?_
    exact w_X8_lineOf_b101 E hf hP hS (lv_sub hl [] rfl)
  · have hf := if_f hf hc
    refine lv_aload_n hx hb dX8_lineOf_88 rfl (lv_at hl 0 rfl) ?_
    refine lv_iload_n hx hb dX8_lineOf_89 rfl (lv_at hl 1 rfl) ?_
    refine lv_iload_n hx hb dX8_lineOf_90 rfl (lv_at hl 2 rfl) ?_
    refine lv_iconst (v := 2) hx hb dX8_lineOf_91 (by decide) ?_
    refine lv_isub hx hb dX8_lineOf_92 ?_
    refine ob_e hf (fun r_93 M_93 hq hf => ?_)
    refine cv_X8_ln E hP hS hq w_916 ⟨Nat.le_of_ble_eq_true rfl, Nat.le_of_ble_eq_true rfl⟩ hl (Nat.le_of_ble_eq_true rfl) dX8_lineOf_93 ⟨Nat.le_of_ble_eq_true rfl, Nat.le_of_ble_eq_true rfl⟩ (fun H locs hP hS => ?_)
    refine lv_goto (tgt := 101) hx hb dX8_lineOf_96 (by decide) ?_
    exact w_X8_lineOf_b101 E hf hP hS (lv_sub hl [] rfl)
set_option maxHeartbeats 4000000 in
set_option maxRecDepth 100000 in
theorem w_X8_lineOf_b143 {p : Program} {l : Launch} {e : Env} {s : State} {m : MethodId} {args : Array Value} {below : List Frame} {meth : Method} {c : Code} {G : GG} {sz : Nat} {r : Int32} {M' : Mem} (E : Cx p s m args meth c cX8_lineOf (some .int) 3 RX8 G) {s0 : Int32} {M : Mem} {H : Heap} {locs : List Loc} {ls : Array Slot} (hf : f_X8_lineOf_b143 s0 M = some (r, M')) (hP : PW G (AM G) (XM G) sz M s H) (hS : va_S (AM G) s.heap H locs) (hl : lv_has ls 3 []) : W p l e rm_X8_lineOf s m args below meth c H locs 0 0 (MQ below (va_Qi (fun (r2 : Int32) (_ : Unit) => r2 = r) (fun _ t => PW G (AM G) (XM G) sz M' t t.heap) (AM G)) args s 0 0 (AM G)) (F0 m 143 ls [.int s0]) := by
  obtain ⟨hx, hb, hr, hlocks, hml, hown, hts, hK⟩ := id E
  unfold f_X8_lineOf_b143 at hf
  exact en_i hf hx hb hr rfl hlocks hP hS dX8_lineOf_143
set_option maxHeartbeats 4000000 in
set_option maxRecDepth 100000 in
theorem w_X8_lineOf_b122 {p : Program} {l : Launch} {e : Env} {s : State} {m : MethodId} {args : Array Value} {below : List Frame} {meth : Method} {c : Code} {G : GG} {sz : Nat} {r : Int32} {M' : Mem} (E : Cx p s m args meth c cX8_lineOf (some .int) 3 RX8 G) {s0 : Int32} {M : Mem} {H : Heap} {locs : List Loc} {ls : Array Slot} (hf : f_X8_lineOf_b122 s0 M = some (r, M')) (hP : PW G (AM G) (XM G) sz M s H) (hS : va_S (AM G) s.heap H locs) (hl : lv_has ls 3 []) : W p l e rm_X8_lineOf s m args below meth c H locs 0 0 (MQ below (va_Qi (fun (r2 : Int32) (_ : Unit) => r2 = r) (fun _ t => PW G (AM G) (XM G) sz M' t t.heap) (AM G)) args s 0 0 (AM G)) (F0 m 122 ls [.int s0]) := by
  obtain ⟨hx, hb, hr, hlocks, hml, hown, hts, hK⟩ := id E
  unfold f_X8_lineOf_b122 at hf
  exact en_i hf hx hb hr rfl hlocks hP hS dX8_lineOf_122
set_option maxHeartbeats 4000000 in
set_option maxRecDepth 100000 in
theorem w_X8_lineOf_b79 {p : Program} {l : Launch} {e : Env} {s : State} {m : MethodId} {args : Array Value} {below : List Frame} {meth : Method} {c : Code} {G : GG} {sz : Nat} {r : Int32} {M' : Mem} (E : Cx p s m args meth c cX8_lineOf (some .int) 3 RX8 G) {s0 : Int32} {M : Mem} {H : Heap} {locs : List Loc} {ls : Array Slot} (hf : f_X8_lineOf_b79 s0 M = some (r, M')) (hP : PW G (AM G) (XM G) sz M s H) (hS : va_S (AM G) s.heap H locs) (hl : lv_has ls 3 []) : W p l e rm_X8_lineOf s m args below meth c H locs 0 0 (MQ below (va_Qi (fun (r2 : Int32) (_ : Unit) => r2 = r) (fun _ t => PW G (AM G) (XM G) sz M' t t.heap) (AM G)) args s 0 0 (AM G)) (F0 m 79 ls [.int s0]) := by
  obtain ⟨hx, hb, hr, hlocks, hml, hown, hts, hK⟩ := id E
  unfold f_X8_lineOf_b79 at hf
  exact en_i hf hx hb hr rfl hlocks hP hS dX8_lineOf_79
set_option maxHeartbeats 4000000 in
set_option maxRecDepth 100000 in
theorem w_X8_lineOf {p : Program} {l : Launch} {e : Env} {s : State} {m : MethodId} {args : Array Value} {below : List Frame} {meth : Method} {c : Code} {G : GG} {sz : Nat} {r : Int32} {M' : Mem} (E : Cx p s m args meth c cX8_lineOf (some .int) 3 RX8 G) {x1 : Int32} {x2 : Int32} {M : Mem} {H : Heap} {locs : List Loc} {ls : Array Slot} (hf : f_X8_lineOf x1 x2 M = some (r, M')) (hP : PW G (AM G) (XM G) sz M s H) (hS : va_S (AM G) s.heap H locs) (hl : lv_has ls 3 [(0, .ref (adM G 0 0)), (1, .int x1), (2, .int x2)]) : W p l e rm_X8_lineOf s m args below meth c H locs 0 0 (MQ below (va_Qi (fun (r2 : Int32) (_ : Unit) => r2 = r) (fun _ t => PW G (AM G) (XM G) sz M' t t.heap) (AM G)) args s 0 0 (AM G)) (F0 m 0 ls []) := by
  obtain ⟨hx, hb, hr, hlocks, hml, hown, hts, hK⟩ := id E
  unfold f_X8_lineOf at hf
  refine lv_aload_n hx hb dX8_lineOf_0 rfl (lv_at hl 0 rfl) ?_
  refine lv_iload_n hx hb dX8_lineOf_1 rfl (lv_at hl 1 rfl) ?_
  refine ob_e hf (fun r_2 M_2 hq hf => ?_)
  refine cv_X8_isLine E hP hS hq w_924 ⟨Nat.le_of_ble_eq_true rfl, Nat.le_of_ble_eq_true rfl⟩ hl (Nat.le_of_ble_eq_true rfl) dX8_lineOf_2 ⟨Nat.le_of_ble_eq_true rfl, Nat.le_of_ble_eq_true rfl⟩ (fun H locs hP hS => ?_)
  refine lv_if_eq (tgt := 18) hx hb dX8_lineOf_5 (by decide) (fun hc => ?_) (fun hc => ?_)
  · have hf := if_t hf hc
    exact w_X8_lineOf_b18 E hf hP hS (lv_sub hl [] rfl)
  · have hf := if_f hf hc
    refine lv_iload_n hx hb dX8_lineOf_8 rfl (lv_at hl 2 rfl) ?_
    refine lv_iconst (v := 0) hx hb dX8_lineOf_9 (by decide) ?_
    refine lv_bipush (v := 9) hx hb dX8_lineOf_10 (by decide) ?_
    refine ob_e hf (fun r_12 M_12 hq hf => ?_)
    refine cv_X8_in E hP hS hq w_851 ⟨Nat.le_of_ble_eq_true rfl, Nat.le_of_ble_eq_true rfl⟩ hl (Nat.le_of_ble_eq_true rfl) dX8_lineOf_12 ⟨Nat.le_of_ble_eq_true rfl, Nat.le_of_ble_eq_true rfl⟩ (fun H locs hP hS => ?_)
    refine lv_if_ne (tgt := 21) hx hb dX8_lineOf_15 (by decide) (fun hc => ?_) (fun hc => ?_)
    · have hf := if_f hf hc
      refine lv_iload_n hx hb dX8_lineOf_21 rfl (lv_at hl 2 rfl) ?_
      by_cases hc4 : x2 = 4
      · have hf := if_t hf hc4
        refine kr_tin hx hb hc4 (tgt := 60) dX8_lineOf_22 (by decide) (by decide) rfl (by decide) ?_
        refine lv_aload_n hx hb dX8_lineOf_60 rfl (lv_at hl 0 rfl) ?_
        refine lv_iload_n hx hb dX8_lineOf_61 rfl (lv_at hl 1 rfl) ?_
        refine ob_e hf (fun r_62 M_62 hq hf => ?_)
        refine cv_X8_length E hP hS hq w_928 ⟨Nat.le_of_ble_eq_true rfl, Nat.le_of_ble_eq_true rfl⟩ hl (Nat.le_of_ble_eq_true rfl) dX8_lineOf_62 ⟨Nat.le_of_ble_eq_true rfl, Nat.le_of_ble_eq_true rfl⟩ (fun H locs hP hS => ?_)
        exact en_i hf hx hb hr rfl hlocks hP hS dX8_lineOf_65
      have hf := if_f hf hc4
      by_cases hc5 : x2 = 5
      · have hf := if_t hf hc5
        refine kr_tin hx hb hc5 (tgt := 66) dX8_lineOf_22 (by decide) (by decide) rfl (by decide) ?_
        refine lv_aload_n hx hb dX8_lineOf_66 rfl (lv_at hl 0 rfl) ?_
        refine lv_iload_n hx hb dX8_lineOf_67 rfl (lv_at hl 1 rfl) ?_
        refine ob_e hf (fun r_68 M_68 hq hf => ?_)
        refine cv_X8_isDrawn E hP hS hq w_935 ⟨Nat.le_of_ble_eq_true rfl, Nat.le_of_ble_eq_true rfl⟩ hl (Nat.le_of_ble_eq_true rfl) dX8_lineOf_68 ⟨Nat.le_of_ble_eq_true rfl, Nat.le_of_ble_eq_true rfl⟩ (fun H locs hP hS => ?_)
        refine lv_if_eq (tgt := 78) hx hb dX8_lineOf_71 (by decide) (fun hc => ?_) (fun hc => ?_)
        · have hf := if_t hf hc
          refine lv_iconst (v := 0) hx hb dX8_lineOf_78 (by decide) ?_
          exact w_X8_lineOf_b79 E hf hP hS (lv_sub hl [] rfl)
        · have hf := if_f hf hc
          refine lv_iconst (v := 1) hx hb dX8_lineOf_74 (by decide) ?_
          refine lv_goto (tgt := 79) hx hb dX8_lineOf_75 (by decide) ?_
          exact w_X8_lineOf_b79 E hf hP hS (lv_sub hl [] rfl)
      have hf := if_f hf hc5
      by_cases hc6 : x2 = 6
      · have hf := if_t hf hc6
        refine kr_tin hx hb hc6 (tgt := 80) dX8_lineOf_22 (by decide) (by decide) rfl (by decide) ?_
        exact w_X8_lineOf_b80 E hf hP hS (lv_sub hl [0, 1, 2] rfl)
      have hf := if_f hf hc6
      by_cases hc7 : x2 = 7
      · have hf := if_t hf hc7
        refine kr_tin hx hb hc7 (tgt := 80) dX8_lineOf_22 (by decide) (by decide) rfl (by decide) ?_
        exact w_X8_lineOf_b80 E hf hP hS (lv_sub hl [0, 1, 2] rfl)
      have hf := if_f hf hc7
      by_cases hc8 : x2 = 8
      · have hf := if_t hf hc8
        refine kr_tin hx hb hc8 (tgt := 102) dX8_lineOf_22 (by decide) (by decide) rfl (by decide) ?_
        refine lv_aload_n hx hb dX8_lineOf_102 rfl (lv_at hl 0 rfl) ?_
        refine lv_iload_n hx hb dX8_lineOf_103 rfl (lv_at hl 1 rfl) ?_
        refine lv_aload_n hx hb dX8_lineOf_104 rfl (lv_at hl 0 rfl) ?_
        refine gf_X8_s E hP w_797 dX8_lineOf_105 ?_
        refine lv_bipush (v := 7) hx hb dX8_lineOf_108 (by decide) ?_
        refine la_M1 E hP (by decide) dX8_lineOf_110 ?_
        refine ob_e hf (fun r_111 M_111 hq hf => ?_)
        refine cv_X8_isWet E hP hS hq w_940 ⟨Nat.le_of_ble_eq_true rfl, Nat.le_of_ble_eq_true rfl⟩ hl (Nat.le_of_ble_eq_true rfl) dX8_lineOf_111 ⟨Nat.le_of_ble_eq_true rfl, Nat.le_of_ble_eq_true rfl⟩ (fun H locs hP hS => ?_)
        refine lv_if_eq (tgt := 121) hx hb dX8_lineOf_114 (by decide) (fun hc => ?_) (fun hc => ?_)
        · have hf := if_t hf hc
          refine lv_iconst (v := 0) hx hb dX8_lineOf_121 (by decide) ?_
          exact w_X8_lineOf_b122 E hf hP hS (lv_sub hl [] rfl)
        · have hf := if_f hf hc
          refine lv_iconst (v := 1) hx hb dX8_lineOf_117 (by decide) ?_
          refine lv_goto (tgt := 122) hx hb dX8_lineOf_118 (by decide) ?_
          exact w_X8_lineOf_b122 E hf hP hS (lv_sub hl [] rfl)
      have hf := if_f hf hc8
      by_cases hc9 : x2 = 9
      · have hf := if_t hf hc9
        refine kr_tin hx hb hc9 (tgt := 123) dX8_lineOf_22 (by decide) (by decide) rfl (by decide) ?_
        refine lv_aload_n hx hb dX8_lineOf_123 rfl (lv_at hl 0 rfl) ?_
        refine lv_iload_n hx hb dX8_lineOf_124 rfl (lv_at hl 1 rfl) ?_
        refine ob_e hf (fun r_125 M_125 hq hf => ?_)
        refine cv_X8_isDrawn E hP hS hq w_935 ⟨Nat.le_of_ble_eq_true rfl, Nat.le_of_ble_eq_true rfl⟩ hl (Nat.le_of_ble_eq_true rfl) dX8_lineOf_125 ⟨Nat.le_of_ble_eq_true rfl, Nat.le_of_ble_eq_true rfl⟩ (fun H locs hP hS => ?_)
        refine lv_if_eq (tgt := 141) hx hb dX8_lineOf_128 (by decide) (fun hc => ?_) (fun hc => ?_)
        · have hf := if_t hf hc
          refine lv_ldc (v := (-1000004)) hx hb hown (hts _ w_939) dX8_lineOf_141 ?_
          exact w_X8_lineOf_b143 E hf hP hS (lv_sub hl [] rfl)
        · have hf := if_f hf hc
          refine lv_aload_n hx hb dX8_lineOf_131 rfl (lv_at hl 0 rfl) ?_
          refine lv_iload_n hx hb dX8_lineOf_132 rfl (lv_at hl 1 rfl) ?_
          refine lv_bipush (v := 7) hx hb dX8_lineOf_133 (by decide) ?_
          refine ob_e hf (fun r_135 M_135 hq hf => ?_)
          refine cv_X8_ln E hP hS hq w_916 ⟨Nat.le_of_ble_eq_true rfl, Nat.le_of_ble_eq_true rfl⟩ hl (Nat.le_of_ble_eq_true rfl) dX8_lineOf_135 ⟨Nat.le_of_ble_eq_true rfl, Nat.le_of_ble_eq_true rfl⟩ (fun H locs hP hS => ?_)
          refine lv_goto (tgt := 143) hx hb dX8_lineOf_138 (by decide) ?_
          exact w_X8_lineOf_b143 E hf hP hS (lv_sub hl [] rfl)
      have hf := if_f hf hc9
      have hn4 := lv_neT hc4 (a := 4) (by decide)
      have hn5 := lv_neT hc5 (a := 5) (by decide)
      have hn6 := lv_neT hc6 (a := 6) (by decide)
      have hn7 := lv_neT hc7 (a := 7) (by decide)
      have hn8 := lv_neT hc8 (a := 8) (by decide)
      have hn9 := lv_neT hc9 (a := 9) (by decide)
      refine lv_tableOut (tgt := 144) hx hb dX8_lineOf_22 (by omega) (by decide) ?_
      refine lv_aload_n hx hb dX8_lineOf_144 rfl (lv_at hl 0 rfl) ?_
      refine lv_iload_n hx hb dX8_lineOf_145 rfl (lv_at hl 1 rfl) ?_
      refine lv_iload_n hx hb dX8_lineOf_146 rfl (lv_at hl 2 rfl) ?_
      refine ob_e hf (fun r_147 M_147 hq hf => ?_)
      refine cv_X8_ln E hP hS hq w_916 ⟨Nat.le_of_ble_eq_true rfl, Nat.le_of_ble_eq_true rfl⟩ hl (Nat.le_of_ble_eq_true rfl) dX8_lineOf_147 ⟨Nat.le_of_ble_eq_true rfl, Nat.le_of_ble_eq_true rfl⟩ (fun H locs hP hS => ?_)
      exact en_i hf hx hb hr rfl hlocks hP hS dX8_lineOf_150
    · have hf := if_t hf hc
      exact w_X8_lineOf_b18 E hf hP hS (lv_sub hl [] rfl)
theorem c_X8_lineOf (l : Launch) {G : GG} {sz : Nat} {x1 : Int32} {x2 : Int32} {M : Mem} {r : Int32} {M' : Mem} (hf : f_X8_lineOf x1 x2 M = some (r, M')) : CtI l yX8_lineOf cX8_lineOf 3 (some .int) rm_X8_lineOf [.ref (adM G 0 0), .int x1, .int x2] G (AM G) (XM G) sz M r (XM G) sz M' := by
  refine Ct_of (by decide) (Nat.le_of_ble_eq_true rfl) (fun p e s m below meth c ls hx hb hr hlocks hml hown hts hK hP hl => ?_)
  exact w_X8_lineOf ⟨hx, hb, hr, hlocks, hml, hown, hts, hK⟩ hf hP va_S.rf hl
set_option maxRecDepth 100000 in
theorem cv_X8_lineOf {p : Program} {l : Launch} {e : Env} {R : Room} {s : State} {m : MethodId} {args : Array Value} {below : List Frame} {meth : Method} {c : Code} {H : Heap} {locs : List Loc} {cells slots : Nat} {Q : State → Prop} {cc : ByteArray} {pc nL index : Nat} {ret : Option FieldType} {own : String} {ls : Array Slot} {rest : List Value} {l' : List (Nat × Value)} {G : GG} {sz : Nat} {M : Mem} (E : Cx p s m args meth c cc ret nL own G) (hP : PW G (AM G) (XM G) sz M s H) (hS : va_S (AM G) s.heap H locs) {x1 : Int32} {x2 : Int32} {r : Int32} {M' : Mem} (hq : f_X8_lineOf x1 x2 M = some (r, M')) (w1 : Cond.methodLink own index yX8_lineOf ∈ lw_all) (hR : 4 ≤ R.frames ∧ 87 ≤ R.locals) (hl : lv_has ls nL l') (hrest : (rest.map fun v => v.category).sum ≤ 8) (hdg : decode cc pc = .ok (.invokevirtual index, 3)) (hcs : cells ≤ R.cells ∧ slots ≤ R.slots)
    (kk : ∀ (H1 : Heap) (locs1 : List Loc), PW G (AM G) (XM G) sz M' s H1 → va_S (AM G) s.heap H1 locs1 → W p l e R s m args below meth c H1 locs1 cells slots Q (F0 m (pc + 3) ls (.int r :: rest))) : W p l e R s m args below meth c H locs cells slots Q (F0 m pc ls (.int x2 :: .int x1 :: .ref (adM G 0 0) :: rest)) := by
  obtain ⟨hx, hb, hr, hlocks, hml, hown, hts, hK⟩ := E
  exact kc_i (kc_runV (na := 2) (q := (RX8, TX8, 16)) hx hb hml hts hown hK hP 0 0 ⟨rfl, by decide⟩ rfl rfl rfl (c_X8_lineOf l hq) w1 w_921 w_922 w_9 w_923 (by decide +kernel) hR rfl hl rfl hrest hdg hcs) hS kk
/-! X8_passes -/
abbrev rm_X8_passes : Room := { frames := 1, cells := 0, slots := 0, locals := 23 }
def f_X8_passes_b47 (M : Mem) : Option (Unit × Mem) :=
some ((), M)
def f_X8_passes (x1 : Int32) (M : Mem) : Option (Unit × Mem) :=
lt (up3 M 0 1 (ix 7) ((M 0 1 (ix 7)) + x1)) fun M_10 =>
(if (M_10 0 1 (ix 8)) < 0 then
  f_X8_passes_b47 M_10
else
  ob (f_X8_pn (M_10 0 1 (ix 8)) 4 M_10) fun r_39 M_39 =>
  ob (f_X8_lays (M_10 0 1 (ix 8)) 4 (r_39 + x1) M_39) fun _ M_44 =>
  f_X8_passes_b47 M_44)
set_option maxHeartbeats 4000000 in
set_option maxRecDepth 100000 in
theorem w_X8_passes_b47 {p : Program} {l : Launch} {e : Env} {s : State} {m : MethodId} {args : Array Value} {below : List Frame} {meth : Method} {c : Code} {G : GG} {sz : Nat} {r : Unit} {M' : Mem} (E : Cx p s m args meth c cX8_passes none 2 RX8 G) {M : Mem} {H : Heap} {locs : List Loc} {ls : Array Slot} (hf : f_X8_passes_b47 M = some (r, M')) (hP : PW G (AM G) (XM G) sz M s H) (hS : va_S (AM G) s.heap H locs) (hl : lv_has ls 2 []) : W p l e rm_X8_passes s m args below meth c H locs 0 0 (MQ below (va_Qv (fun (_ : Unit) => True) (fun _ t => PW G (AM G) (XM G) sz M' t t.heap) (AM G)) args s 0 0 (AM G)) (F0 m 47 ls []) := by
  obtain ⟨hx, hb, hr, hlocks, hml, hown, hts, hK⟩ := id E
  unfold f_X8_passes_b47 at hf
  exact en_v hf hx hb hr hlocks hP hS dX8_passes_47
set_option maxHeartbeats 4000000 in
set_option maxRecDepth 100000 in
theorem w_X8_passes {p : Program} {l : Launch} {e : Env} {s : State} {m : MethodId} {args : Array Value} {below : List Frame} {meth : Method} {c : Code} {G : GG} {sz : Nat} {r : Unit} {M' : Mem} (E : Cx p s m args meth c cX8_passes none 2 RX8 G) {x1 : Int32} {M : Mem} {H : Heap} {locs : List Loc} {ls : Array Slot} (hf : f_X8_passes x1 M = some (r, M')) (hP : PW G (AM G) (XM G) sz M s H) (hS : va_S (AM G) s.heap H locs) (hl : lv_has ls 2 [(0, .ref (adM G 0 0)), (1, .int x1)]) : W p l e rm_X8_passes s m args below meth c H locs 0 0 (MQ below (va_Qv (fun (_ : Unit) => True) (fun _ t => PW G (AM G) (XM G) sz M' t t.heap) (AM G)) args s 0 0 (AM G)) (F0 m 0 ls []) := by
  obtain ⟨hx, hb, hr, hlocks, hml, hown, hts, hK⟩ := id E
  unfold f_X8_passes at hf
  refine lv_aload_n hx hb dX8_passes_0 rfl (lv_at hl 0 rfl) ?_
  refine gf_X8_s E hP w_797 dX8_passes_1 ?_
  refine lv_bipush (v := 7) hx hb dX8_passes_4 (by decide) ?_
  refine lv_dup2_11 hx hb dX8_passes_6 rfl rfl ?_
  refine la_M1 E hP (by decide) dX8_passes_7 ?_
  refine lv_iload_n hx hb dX8_passes_8 rfl (lv_at hl 1 rfl) ?_
  refine lv_iadd hx hb dX8_passes_9 ?_
  refine lt_e hf (fun M_10 hM_10 hf => ?_)
  refine sa_M1 E hP hS (by decide) hM_10 dX8_passes_10 (fun H locs hP hS => ?_)
  refine lv_aload_n hx hb dX8_passes_11 rfl (lv_at hl 0 rfl) ?_
  refine gf_X8_s E hP w_797 dX8_passes_12 ?_
  refine lv_bipush (v := 8) hx hb dX8_passes_15 (by decide) ?_
  refine la_M1 E hP (by decide) dX8_passes_17 ?_
  refine lv_if_lt (tgt := 47) hx hb dX8_passes_18 (by decide) (fun hc => ?_) (fun hc => ?_)
  · have hf := if_t hf hc
    exact w_X8_passes_b47 E hf hP hS (lv_sub hl [] rfl)
  · have hf := if_f hf hc
    refine lv_aload_n hx hb dX8_passes_21 rfl (lv_at hl 0 rfl) ?_
    refine lv_aload_n hx hb dX8_passes_22 rfl (lv_at hl 0 rfl) ?_
    refine gf_X8_s E hP w_797 dX8_passes_23 ?_
    refine lv_bipush (v := 8) hx hb dX8_passes_26 (by decide) ?_
    refine la_M1 E hP (by decide) dX8_passes_28 ?_
    refine lv_iconst (v := 4) hx hb dX8_passes_29 (by decide) ?_
    refine lv_aload_n hx hb dX8_passes_30 rfl (lv_at hl 0 rfl) ?_
    refine lv_aload_n hx hb dX8_passes_31 rfl (lv_at hl 0 rfl) ?_
    refine gf_X8_s E hP w_797 dX8_passes_32 ?_
    refine lv_bipush (v := 8) hx hb dX8_passes_35 (by decide) ?_
    refine la_M1 E hP (by decide) dX8_passes_37 ?_
    refine lv_iconst (v := 4) hx hb dX8_passes_38 (by decide) ?_
    refine ob_e hf (fun r_39 M_39 hq hf => ?_)
    refine cv_X8_pn E hP hS hq w_867 ⟨Nat.le_of_ble_eq_true rfl, Nat.le_of_ble_eq_true rfl⟩ hl (Nat.le_of_ble_eq_true rfl) dX8_passes_39 ⟨Nat.le_of_ble_eq_true rfl, Nat.le_of_ble_eq_true rfl⟩ (fun H locs hP hS => ?_)
    refine lv_iload_n hx hb dX8_passes_42 rfl (lv_at hl 1 rfl) ?_
    refine lv_iadd hx hb dX8_passes_43 ?_
    refine ob_e hf (fun r_44 M_44 hq hf => ?_)
    refine cv_X8_lays E hP hS hq w_873 ⟨Nat.le_of_ble_eq_true rfl, Nat.le_of_ble_eq_true rfl⟩ hl (Nat.le_of_ble_eq_true rfl) dX8_passes_44 ⟨Nat.le_of_ble_eq_true rfl, Nat.le_of_ble_eq_true rfl⟩ (fun H locs hP hS => ?_)
    exact w_X8_passes_b47 E hf hP hS (lv_sub hl [] rfl)
theorem c_X8_passes (l : Launch) {G : GG} {sz : Nat} {x1 : Int32} {M : Mem} {r : Unit} {M' : Mem} (hf : f_X8_passes x1 M = some (r, M')) : CtV l yX8_passes cX8_passes 2 none rm_X8_passes [.ref (adM G 0 0), .int x1] G (AM G) (XM G) sz M r (XM G) sz M' := by
  refine Ct_of (by decide) (Nat.le_of_ble_eq_true rfl) (fun p e s m below meth c ls hx hb hr hlocks hml hown hts hK hP hl => ?_)
  exact w_X8_passes ⟨hx, hb, hr, hlocks, hml, hown, hts, hK⟩ hf hP va_S.rf hl
set_option maxRecDepth 100000 in
theorem cv_X8_passes {p : Program} {l : Launch} {e : Env} {R : Room} {s : State} {m : MethodId} {args : Array Value} {below : List Frame} {meth : Method} {c : Code} {H : Heap} {locs : List Loc} {cells slots : Nat} {Q : State → Prop} {cc : ByteArray} {pc nL index : Nat} {ret : Option FieldType} {own : String} {ls : Array Slot} {rest : List Value} {l' : List (Nat × Value)} {G : GG} {sz : Nat} {M : Mem} (E : Cx p s m args meth c cc ret nL own G) (hP : PW G (AM G) (XM G) sz M s H) (hS : va_S (AM G) s.heap H locs) {x1 : Int32} {r : Unit} {M' : Mem} (hq : f_X8_passes x1 M = some (r, M')) (w1 : Cond.methodLink own index yX8_passes ∈ lw_all) (hR : 2 ≤ R.frames ∧ 44 ≤ R.locals) (hl : lv_has ls nL l') (hrest : (rest.map fun v => v.category).sum ≤ 8) (hdg : decode cc pc = .ok (.invokevirtual index, 3)) (hcs : cells ≤ R.cells ∧ slots ≤ R.slots)
    (kk : ∀ (H1 : Heap) (locs1 : List Loc), PW G (AM G) (XM G) sz M' s H1 → va_S (AM G) s.heap H1 locs1 → W p l e R s m args below meth c H1 locs1 cells slots Q (F0 m (pc + 3) ls (rest))) : W p l e R s m args below meth c H locs cells slots Q (F0 m pc ls (.int x1 :: .ref (adM G 0 0) :: rest)) := by
  obtain ⟨hx, hb, hr, hlocks, hml, hown, hts, hK⟩ := E
  exact kc_v (kc_runV (na := 1) (q := (RX8, TX8, 16)) hx hb hml hts hown hK hP 0 0 ⟨rfl, by decide⟩ rfl rfl rfl (c_X8_passes l hq) w1 w_955 ws_34 w_9 w_956 (by decide +kernel) hR rfl hl rfl hrest hdg hcs) hS kk
/-! X8_takes -/
abbrev rm_X8_takes : Room := { frames := 2, cells := 0, slots := 0, locals := 44 }
def f_X8_takes_b33 (M : Mem) : Option (Int32 × Mem) :=
some ((-1000002), M)
def f_X8_takes (x1 : Int32) (M : Mem) : Option (Int32 × Mem) :=
ob (f_X8_isPen x1 M) fun r_2 M_2 =>
(if r_2 = 0 then
  some ((-1000001), M_2)
else
  (if (M_2 0 1 (ix 8)) = x1 then
    f_X8_takes_b33 M_2
  else
    ob (f_X8_pn x1 6 M_2) fun r_26 M_26 =>
    (if r_26 = 1 then
      f_X8_takes_b33 M_26
    else
      (if ((M_26 0 1 (ix 7)) + (M_26 0 1 (ix 5))) ≤ 100000 then
        lt ((M_26 0 1 (ix 8))) fun x2_65 =>
        ob (f_X8_passes (M_26 0 1 (ix 5)) M_26) fun _ M_73 =>
        lt (up3 M_73 0 1 (ix 8) x1) fun M_83 =>
        lt (up3 M_83 0 1 (ix 11) ((M_83 0 1 (ix 11)) + 1)) fun M_94 =>
        some ((x2_65 + 1), M_94)
      else
        some ((-1000003), M_26)))))
set_option maxHeartbeats 4000000 in
set_option maxRecDepth 100000 in
theorem w_X8_takes_b33 {p : Program} {l : Launch} {e : Env} {s : State} {m : MethodId} {args : Array Value} {below : List Frame} {meth : Method} {c : Code} {G : GG} {sz : Nat} {r : Int32} {M' : Mem} (E : Cx p s m args meth c cX8_takes (some .int) 3 RX8 G) {M : Mem} {H : Heap} {locs : List Loc} {ls : Array Slot} (hf : f_X8_takes_b33 M = some (r, M')) (hP : PW G (AM G) (XM G) sz M s H) (hS : va_S (AM G) s.heap H locs) (hl : lv_has ls 3 []) : W p l e rm_X8_takes s m args below meth c H locs 0 0 (MQ below (va_Qi (fun (r2 : Int32) (_ : Unit) => r2 = r) (fun _ t => PW G (AM G) (XM G) sz M' t t.heap) (AM G)) args s 0 0 (AM G)) (F0 m 33 ls []) := by
  obtain ⟨hx, hb, hr, hlocks, hml, hown, hts, hK⟩ := id E
  unfold f_X8_takes_b33 at hf
  refine lv_ldc (v := (-1000002)) hx hb hown (hts _ w_871) dX8_takes_33 ?_
  exact en_i hf hx hb hr rfl hlocks hP hS dX8_takes_35
set_option maxHeartbeats 4000000 in
set_option maxRecDepth 100000 in
theorem w_X8_takes {p : Program} {l : Launch} {e : Env} {s : State} {m : MethodId} {args : Array Value} {below : List Frame} {meth : Method} {c : Code} {G : GG} {sz : Nat} {r : Int32} {M' : Mem} (E : Cx p s m args meth c cX8_takes (some .int) 3 RX8 G) {x1 : Int32} {M : Mem} {H : Heap} {locs : List Loc} {ls : Array Slot} (hf : f_X8_takes x1 M = some (r, M')) (hP : PW G (AM G) (XM G) sz M s H) (hS : va_S (AM G) s.heap H locs) (hl : lv_has ls 3 [(0, .ref (adM G 0 0)), (1, .int x1)]) : W p l e rm_X8_takes s m args below meth c H locs 0 0 (MQ below (va_Qi (fun (r2 : Int32) (_ : Unit) => r2 = r) (fun _ t => PW G (AM G) (XM G) sz M' t t.heap) (AM G)) args s 0 0 (AM G)) (F0 m 0 ls []) := by
  obtain ⟨hx, hb, hr, hlocks, hml, hown, hts, hK⟩ := id E
  unfold f_X8_takes at hf
  refine lv_aload_n hx hb dX8_takes_0 rfl (lv_at hl 0 rfl) ?_
  refine lv_iload_n hx hb dX8_takes_1 rfl (lv_at hl 1 rfl) ?_
  refine ob_e hf (fun r_2 M_2 hq hf => ?_)
  refine cv_X8_isPen E hP hS hq w_888 ⟨Nat.le_of_ble_eq_true rfl, Nat.le_of_ble_eq_true rfl⟩ hl (Nat.le_of_ble_eq_true rfl) dX8_takes_2 ⟨Nat.le_of_ble_eq_true rfl, Nat.le_of_ble_eq_true rfl⟩ (fun H locs hP hS => ?_)
  refine lv_if_ne (tgt := 11) hx hb dX8_takes_5 (by decide) (fun hc => ?_) (fun hc => ?_)
  · have hf := if_f hf hc
    refine lv_aload_n hx hb dX8_takes_11 rfl (lv_at hl 0 rfl) ?_
    refine gf_X8_s E hP w_797 dX8_takes_12 ?_
    refine lv_bipush (v := 8) hx hb dX8_takes_15 (by decide) ?_
    refine la_M1 E hP (by decide) dX8_takes_17 ?_
    refine lv_iload_n hx hb dX8_takes_18 rfl (lv_at hl 1 rfl) ?_
    refine lv_icmp_eq (tgt := 33) hx hb dX8_takes_19 (by decide) (fun hc => ?_) (fun hc => ?_)
    · have hf := if_t hf hc
      exact w_X8_takes_b33 E hf hP hS (lv_sub hl [] rfl)
    · have hf := if_f hf hc
      refine lv_aload_n hx hb dX8_takes_22 rfl (lv_at hl 0 rfl) ?_
      refine lv_iload_n hx hb dX8_takes_23 rfl (lv_at hl 1 rfl) ?_
      refine lv_bipush (v := 6) hx hb dX8_takes_24 (by decide) ?_
      refine ob_e hf (fun r_26 M_26 hq hf => ?_)
      refine cv_X8_pn E hP hS hq w_867 ⟨Nat.le_of_ble_eq_true rfl, Nat.le_of_ble_eq_true rfl⟩ hl (Nat.le_of_ble_eq_true rfl) dX8_takes_26 ⟨Nat.le_of_ble_eq_true rfl, Nat.le_of_ble_eq_true rfl⟩ (fun H locs hP hS => ?_)
      refine lv_iconst (v := 1) hx hb dX8_takes_29 (by decide) ?_
      refine lv_icmp_ne (tgt := 36) hx hb dX8_takes_30 (by decide) (fun hc => ?_) (fun hc => ?_)
      · have hf := if_f hf hc
        refine lv_aload_n hx hb dX8_takes_36 rfl (lv_at hl 0 rfl) ?_
        refine gf_X8_s E hP w_797 dX8_takes_37 ?_
        refine lv_bipush (v := 7) hx hb dX8_takes_40 (by decide) ?_
        refine la_M1 E hP (by decide) dX8_takes_42 ?_
        refine lv_aload_n hx hb dX8_takes_43 rfl (lv_at hl 0 rfl) ?_
        refine gf_X8_s E hP w_797 dX8_takes_44 ?_
        refine lv_iconst (v := 5) hx hb dX8_takes_47 (by decide) ?_
        refine la_M1 E hP (by decide) dX8_takes_48 ?_
        refine lv_iadd hx hb dX8_takes_49 ?_
        refine lv_ldc (v := 100000) hx hb hown (hts _ w_952) dX8_takes_50 ?_
        refine lv_icmp_le (tgt := 58) hx hb dX8_takes_52 (by decide) (fun hc => ?_) (fun hc => ?_)
        · have hf := if_t hf hc
          refine lv_aload_n hx hb dX8_takes_58 rfl (lv_at hl 0 rfl) ?_
          refine gf_X8_s E hP w_797 dX8_takes_59 ?_
          refine lv_bipush (v := 8) hx hb dX8_takes_62 (by decide) ?_
          refine la_M1 E hP (by decide) dX8_takes_64 ?_
          refine lt_e hf (fun x2_65 hx2_65 hf => ?_)
          refine kr_nm hx2_65 ?_
          refine lv_istore_n (lv' := [(2, .int x2_65), (0, .ref (adM G 0 0)), (1, .int x1)]) hx hb dX8_takes_65 rfl hl (by decide) rfl (fun ls hl => ?_)
          refine lv_aload_n hx hb dX8_takes_66 rfl (lv_at hl 1 rfl) ?_
          refine lv_aload_n hx hb dX8_takes_67 rfl (lv_at hl 1 rfl) ?_
          refine gf_X8_s E hP w_797 dX8_takes_68 ?_
          refine lv_iconst (v := 5) hx hb dX8_takes_71 (by decide) ?_
          refine la_M1 E hP (by decide) dX8_takes_72 ?_
          refine ob_e hf (fun r_73 M_73 hq hf => ?_)
          refine cv_X8_passes E hP hS hq w_953 ⟨Nat.le_of_ble_eq_true rfl, Nat.le_of_ble_eq_true rfl⟩ hl (Nat.le_of_ble_eq_true rfl) dX8_takes_73 ⟨Nat.le_of_ble_eq_true rfl, Nat.le_of_ble_eq_true rfl⟩ (fun H locs hP hS => ?_)
          refine lv_aload_n hx hb dX8_takes_76 rfl (lv_at hl 1 rfl) ?_
          refine gf_X8_s E hP w_797 dX8_takes_77 ?_
          refine lv_bipush (v := 8) hx hb dX8_takes_80 (by decide) ?_
          refine lv_iload_n hx hb dX8_takes_82 rfl (lv_at hl 2 rfl) ?_
          refine lt_e hf (fun M_83 hM_83 hf => ?_)
          refine sa_M1 E hP hS (by decide) hM_83 dX8_takes_83 (fun H locs hP hS => ?_)
          refine lv_aload_n hx hb dX8_takes_84 rfl (lv_at hl 1 rfl) ?_
          refine gf_X8_s E hP w_797 dX8_takes_85 ?_
          refine lv_bipush (v := 11) hx hb dX8_takes_88 (by decide) ?_
          refine lv_dup2_11 hx hb dX8_takes_90 rfl rfl ?_
          refine la_M1 E hP (by decide) dX8_takes_91 ?_
          refine lv_iconst (v := 1) hx hb dX8_takes_92 (by decide) ?_
          refine lv_iadd hx hb dX8_takes_93 ?_
          refine lt_e hf (fun M_94 hM_94 hf => ?_)
          refine sa_M1 E hP hS (by decide) hM_94 dX8_takes_94 (fun H locs hP hS => ?_)
          refine lv_iload_n hx hb dX8_takes_95 rfl (lv_at hl 0 rfl) ?_
          refine lv_iconst (v := 1) hx hb dX8_takes_96 (by decide) ?_
          refine lv_iadd hx hb dX8_takes_97 ?_
          exact en_i hf hx hb hr rfl hlocks hP hS dX8_takes_98
        · have hf := if_f hf hc
          refine lv_ldc (v := (-1000003)) hx hb hown (hts _ w_872) dX8_takes_55 ?_
          exact en_i hf hx hb hr rfl hlocks hP hS dX8_takes_57
      · have hf := if_t hf hc
        exact w_X8_takes_b33 E hf hP hS (lv_sub hl [] rfl)
  · have hf := if_t hf hc
    refine lv_ldc (v := (-1000001)) hx hb hown (hts _ w_854) dX8_takes_8 ?_
    exact en_i hf hx hb hr rfl hlocks hP hS dX8_takes_10
theorem c_X8_takes (l : Launch) {G : GG} {sz : Nat} {x1 : Int32} {M : Mem} {r : Int32} {M' : Mem} (hf : f_X8_takes x1 M = some (r, M')) : CtI l yX8_takes cX8_takes 3 (some .int) rm_X8_takes [.ref (adM G 0 0), .int x1] G (AM G) (XM G) sz M r (XM G) sz M' := by
  refine Ct_of (by decide) (Nat.le_of_ble_eq_true rfl) (fun p e s m below meth c ls hx hb hr hlocks hml hown hts hK hP hl => ?_)
  exact w_X8_takes ⟨hx, hb, hr, hlocks, hml, hown, hts, hK⟩ hf hP va_S.rf hl
set_option maxRecDepth 100000 in
theorem cv_X8_takes {p : Program} {l : Launch} {e : Env} {R : Room} {s : State} {m : MethodId} {args : Array Value} {below : List Frame} {meth : Method} {c : Code} {H : Heap} {locs : List Loc} {cells slots : Nat} {Q : State → Prop} {cc : ByteArray} {pc nL index : Nat} {ret : Option FieldType} {own : String} {ls : Array Slot} {rest : List Value} {l' : List (Nat × Value)} {G : GG} {sz : Nat} {M : Mem} (E : Cx p s m args meth c cc ret nL own G) (hP : PW G (AM G) (XM G) sz M s H) (hS : va_S (AM G) s.heap H locs) {x1 : Int32} {r : Int32} {M' : Mem} (hq : f_X8_takes x1 M = some (r, M')) (w1 : Cond.methodLink own index yX8_takes ∈ lw_all) (hR : 3 ≤ R.frames ∧ 66 ≤ R.locals) (hl : lv_has ls nL l') (hrest : (rest.map fun v => v.category).sum ≤ 8) (hdg : decode cc pc = .ok (.invokevirtual index, 3)) (hcs : cells ≤ R.cells ∧ slots ≤ R.slots)
    (kk : ∀ (H1 : Heap) (locs1 : List Loc), PW G (AM G) (XM G) sz M' s H1 → va_S (AM G) s.heap H1 locs1 → W p l e R s m args below meth c H1 locs1 cells slots Q (F0 m (pc + 3) ls (.int r :: rest))) : W p l e R s m args below meth c H locs cells slots Q (F0 m pc ls (.int x1 :: .ref (adM G 0 0) :: rest)) := by
  obtain ⟨hx, hb, hr, hlocks, hml, hown, hts, hK⟩ := E
  exact kc_i (kc_runV (na := 1) (q := (RX8, TX8, 16)) hx hb hml hts hown hK hP 0 0 ⟨rfl, by decide⟩ rfl rfl rfl (c_X8_takes l hq) w1 w_950 ws_33 w_9 w_951 (by decide +kernel) hR rfl hl rfl hrest hdg hcs) hS kk
/-! X8_take -/
abbrev rm_X8_take : Room := { frames := 3, cells := 0, slots := 0, locals := 66 }
def f_X8_take (x1 : Int32) (M : Mem) : Option (Int32 × Mem) :=
ob (f_X8_keeps M) fun _ M_1 =>
ob (f_X8_takes x1 M_1) fun r_7 M_7 =>
ob (f_X8_acted r_7 M_7) fun r_10 M_10 =>
some (r_10, M_10)
set_option maxHeartbeats 4000000 in
set_option maxRecDepth 100000 in
theorem w_X8_take {p : Program} {l : Launch} {e : Env} {s : State} {m : MethodId} {args : Array Value} {below : List Frame} {meth : Method} {c : Code} {G : GG} {sz : Nat} {r : Int32} {M' : Mem} (E : Cx p s m args meth c cX8_take (some .int) 2 RX8 G) {x1 : Int32} {M : Mem} {H : Heap} {locs : List Loc} {ls : Array Slot} (hf : f_X8_take x1 M = some (r, M')) (hP : PW G (AM G) (XM G) sz M s H) (hS : va_S (AM G) s.heap H locs) (hl : lv_has ls 2 [(0, .ref (adM G 0 0)), (1, .int x1)]) : W p l e rm_X8_take s m args below meth c H locs 0 0 (MQ below (va_Qi (fun (r2 : Int32) (_ : Unit) => r2 = r) (fun _ t => PW G (AM G) (XM G) sz M' t t.heap) (AM G)) args s 0 0 (AM G)) (F0 m 0 ls []) := by
  obtain ⟨hx, hb, hr, hlocks, hml, hown, hts, hK⟩ := id E
  unfold f_X8_take at hf
  refine lv_aload_n hx hb dX8_take_0 rfl (lv_at hl 0 rfl) ?_
  refine ob_e hf (fun r_1 M_1 hq hf => ?_)
  refine cv_X8_keeps E hP hS hq w_855 ⟨Nat.le_of_ble_eq_true rfl, Nat.le_of_ble_eq_true rfl⟩ hl (Nat.le_of_ble_eq_true rfl) dX8_take_1 ⟨Nat.le_of_ble_eq_true rfl, Nat.le_of_ble_eq_true rfl⟩ (fun H locs hP hS => ?_)
  refine lv_aload_n hx hb dX8_take_4 rfl (lv_at hl 0 rfl) ?_
  refine lv_aload_n hx hb dX8_take_5 rfl (lv_at hl 0 rfl) ?_
  refine lv_iload_n hx hb dX8_take_6 rfl (lv_at hl 1 rfl) ?_
  refine ob_e hf (fun r_7 M_7 hq hf => ?_)
  refine cv_X8_takes E hP hS hq w_948 ⟨Nat.le_of_ble_eq_true rfl, Nat.le_of_ble_eq_true rfl⟩ hl (Nat.le_of_ble_eq_true rfl) dX8_take_7 ⟨Nat.le_of_ble_eq_true rfl, Nat.le_of_ble_eq_true rfl⟩ (fun H locs hP hS => ?_)
  refine ob_e hf (fun r_10 M_10 hq hf => ?_)
  refine cv_X8_acted E hP hS hq w_859 ⟨Nat.le_of_ble_eq_true rfl, Nat.le_of_ble_eq_true rfl⟩ hl (Nat.le_of_ble_eq_true rfl) dX8_take_10 ⟨Nat.le_of_ble_eq_true rfl, Nat.le_of_ble_eq_true rfl⟩ (fun H locs hP hS => ?_)
  exact en_i hf hx hb hr rfl hlocks hP hS dX8_take_13
theorem c_X8_take (l : Launch) {G : GG} {sz : Nat} {x1 : Int32} {M : Mem} {r : Int32} {M' : Mem} (hf : f_X8_take x1 M = some (r, M')) : CtI l yX8_take cX8_take 2 (some .int) rm_X8_take [.ref (adM G 0 0), .int x1] G (AM G) (XM G) sz M r (XM G) sz M' := by
  refine Ct_of (by decide) (Nat.le_of_ble_eq_true rfl) (fun p e s m below meth c ls hx hb hr hlocks hml hown hts hK hP hl => ?_)
  exact w_X8_take ⟨hx, hb, hr, hlocks, hml, hown, hts, hK⟩ hf hP va_S.rf hl
set_option maxRecDepth 100000 in
theorem cv_X8_take {p : Program} {l : Launch} {e : Env} {R : Room} {s : State} {m : MethodId} {args : Array Value} {below : List Frame} {meth : Method} {c : Code} {H : Heap} {locs : List Loc} {cells slots : Nat} {Q : State → Prop} {cc : ByteArray} {pc nL index : Nat} {ret : Option FieldType} {own : String} {ls : Array Slot} {rest : List Value} {l' : List (Nat × Value)} {G : GG} {sz : Nat} {M : Mem} (E : Cx p s m args meth c cc ret nL own G) (hP : PW G (AM G) (XM G) sz M s H) (hS : va_S (AM G) s.heap H locs) {x1 : Int32} {r : Int32} {M' : Mem} (hq : f_X8_take x1 M = some (r, M')) (w1 : Cond.methodLink own index yX8_take ∈ lw_all) (hR : 4 ≤ R.frames ∧ 87 ≤ R.locals) (hl : lv_has ls nL l') (hrest : (rest.map fun v => v.category).sum ≤ 8) (hdg : decode cc pc = .ok (.invokevirtual index, 3)) (hcs : cells ≤ R.cells ∧ slots ≤ R.slots)
    (kk : ∀ (H1 : Heap) (locs1 : List Loc), PW G (AM G) (XM G) sz M' s H1 → va_S (AM G) s.heap H1 locs1 → W p l e R s m args below meth c H1 locs1 cells slots Q (F0 m (pc + 3) ls (.int r :: rest))) : W p l e R s m args below meth c H locs cells slots Q (F0 m pc ls (.int x1 :: .ref (adM G 0 0) :: rest)) := by
  obtain ⟨hx, hb, hr, hlocks, hml, hown, hts, hK⟩ := E
  exact kc_i (kc_runV (na := 1) (q := (RX8, TX8, 16)) hx hb hml hts hown hK hP 0 0 ⟨rfl, by decide⟩ rfl rfl rfl (c_X8_take l hq) w1 w_945 w_946 w_9 w_947 (by decide +kernel) hR rfl hl rfl hrest hdg hcs) hS kk
/-! X8_goesHome -/
abbrev rm_X8_goesHome : Room := { frames := 2, cells := 0, slots := 0, locals := 44 }
def f_X8_goesHome (M : Mem) : Option (Int32 × Mem) :=
(if 0 ≤ (M 0 1 (ix 8)) then
  (if ((M 0 1 (ix 7)) + (M 0 1 (ix 5))) ≤ 100000 then
    lt ((M 0 1 (ix 8))) fun x1_42 =>
    ob (f_X8_passes (M 0 1 (ix 5)) M) fun _ M_50 =>
    lt (up3 M_50 0 1 (ix 8) (-1)) fun M_60 =>
    lt (up3 M_60 0 1 (ix 11) ((M_60 0 1 (ix 11)) + 1)) fun M_71 =>
    some (x1_42, M_71)
  else
    some ((-1000003), M))
else
  some ((-1000002), M))
set_option maxHeartbeats 4000000 in
set_option maxRecDepth 100000 in
theorem w_X8_goesHome {p : Program} {l : Launch} {e : Env} {s : State} {m : MethodId} {args : Array Value} {below : List Frame} {meth : Method} {c : Code} {G : GG} {sz : Nat} {r : Int32} {M' : Mem} (E : Cx p s m args meth c cX8_goesHome (some .int) 2 RX8 G) {M : Mem} {H : Heap} {locs : List Loc} {ls : Array Slot} (hf : f_X8_goesHome M = some (r, M')) (hP : PW G (AM G) (XM G) sz M s H) (hS : va_S (AM G) s.heap H locs) (hl : lv_has ls 2 [(0, .ref (adM G 0 0))]) : W p l e rm_X8_goesHome s m args below meth c H locs 0 0 (MQ below (va_Qi (fun (r2 : Int32) (_ : Unit) => r2 = r) (fun _ t => PW G (AM G) (XM G) sz M' t t.heap) (AM G)) args s 0 0 (AM G)) (F0 m 0 ls []) := by
  obtain ⟨hx, hb, hr, hlocks, hml, hown, hts, hK⟩ := id E
  unfold f_X8_goesHome at hf
  refine lv_aload_n hx hb dX8_goesHome_0 rfl (lv_at hl 0 rfl) ?_
  refine gf_X8_s E hP w_797 dX8_goesHome_1 ?_
  refine lv_bipush (v := 8) hx hb dX8_goesHome_4 (by decide) ?_
  refine la_M1 E hP (by decide) dX8_goesHome_6 ?_
  refine lv_if_ge (tgt := 13) hx hb dX8_goesHome_7 (by decide) (fun hc => ?_) (fun hc => ?_)
  · have hf := if_t hf hc
    refine lv_aload_n hx hb dX8_goesHome_13 rfl (lv_at hl 0 rfl) ?_
    refine gf_X8_s E hP w_797 dX8_goesHome_14 ?_
    refine lv_bipush (v := 7) hx hb dX8_goesHome_17 (by decide) ?_
    refine la_M1 E hP (by decide) dX8_goesHome_19 ?_
    refine lv_aload_n hx hb dX8_goesHome_20 rfl (lv_at hl 0 rfl) ?_
    refine gf_X8_s E hP w_797 dX8_goesHome_21 ?_
    refine lv_iconst (v := 5) hx hb dX8_goesHome_24 (by decide) ?_
    refine la_M1 E hP (by decide) dX8_goesHome_25 ?_
    refine lv_iadd hx hb dX8_goesHome_26 ?_
    refine lv_ldc (v := 100000) hx hb hown (hts _ w_952) dX8_goesHome_27 ?_
    refine lv_icmp_le (tgt := 35) hx hb dX8_goesHome_29 (by decide) (fun hc => ?_) (fun hc => ?_)
    · have hf := if_t hf hc
      refine lv_aload_n hx hb dX8_goesHome_35 rfl (lv_at hl 0 rfl) ?_
      refine gf_X8_s E hP w_797 dX8_goesHome_36 ?_
      refine lv_bipush (v := 8) hx hb dX8_goesHome_39 (by decide) ?_
      refine la_M1 E hP (by decide) dX8_goesHome_41 ?_
      refine lt_e hf (fun x1_42 hx1_42 hf => ?_)
      refine kr_nm hx1_42 ?_
      refine lv_istore_n (lv' := [(1, .int x1_42), (0, .ref (adM G 0 0))]) hx hb dX8_goesHome_42 rfl hl (by decide) rfl (fun ls hl => ?_)
      refine lv_aload_n hx hb dX8_goesHome_43 rfl (lv_at hl 1 rfl) ?_
      refine lv_aload_n hx hb dX8_goesHome_44 rfl (lv_at hl 1 rfl) ?_
      refine gf_X8_s E hP w_797 dX8_goesHome_45 ?_
      refine lv_iconst (v := 5) hx hb dX8_goesHome_48 (by decide) ?_
      refine la_M1 E hP (by decide) dX8_goesHome_49 ?_
      refine ob_e hf (fun r_50 M_50 hq hf => ?_)
      refine cv_X8_passes E hP hS hq w_953 ⟨Nat.le_of_ble_eq_true rfl, Nat.le_of_ble_eq_true rfl⟩ hl (Nat.le_of_ble_eq_true rfl) dX8_goesHome_50 ⟨Nat.le_of_ble_eq_true rfl, Nat.le_of_ble_eq_true rfl⟩ (fun H locs hP hS => ?_)
      refine lv_aload_n hx hb dX8_goesHome_53 rfl (lv_at hl 1 rfl) ?_
      refine gf_X8_s E hP w_797 dX8_goesHome_54 ?_
      refine lv_bipush (v := 8) hx hb dX8_goesHome_57 (by decide) ?_
      refine lv_iconst (v := (-1)) hx hb dX8_goesHome_59 (by decide) ?_
      refine lt_e hf (fun M_60 hM_60 hf => ?_)
      refine sa_M1 E hP hS (by decide) hM_60 dX8_goesHome_60 (fun H locs hP hS => ?_)
      refine lv_aload_n hx hb dX8_goesHome_61 rfl (lv_at hl 1 rfl) ?_
      refine gf_X8_s E hP w_797 dX8_goesHome_62 ?_
      refine lv_bipush (v := 11) hx hb dX8_goesHome_65 (by decide) ?_
      refine lv_dup2_11 hx hb dX8_goesHome_67 rfl rfl ?_
      refine la_M1 E hP (by decide) dX8_goesHome_68 ?_
      refine lv_iconst (v := 1) hx hb dX8_goesHome_69 (by decide) ?_
      refine lv_iadd hx hb dX8_goesHome_70 ?_
      refine lt_e hf (fun M_71 hM_71 hf => ?_)
      refine sa_M1 E hP hS (by decide) hM_71 dX8_goesHome_71 (fun H locs hP hS => ?_)
      refine lv_iload_n hx hb dX8_goesHome_72 rfl (lv_at hl 0 rfl) ?_
      exact en_i hf hx hb hr rfl hlocks hP hS dX8_goesHome_73
    · have hf := if_f hf hc
      refine lv_ldc (v := (-1000003)) hx hb hown (hts _ w_872) dX8_goesHome_32 ?_
      exact en_i hf hx hb hr rfl hlocks hP hS dX8_goesHome_34
  · have hf := if_f hf hc
    refine lv_ldc (v := (-1000002)) hx hb hown (hts _ w_871) dX8_goesHome_10 ?_
    exact en_i hf hx hb hr rfl hlocks hP hS dX8_goesHome_12
theorem c_X8_goesHome (l : Launch) {G : GG} {sz : Nat} {M : Mem} {r : Int32} {M' : Mem} (hf : f_X8_goesHome M = some (r, M')) : CtI l yX8_goesHome cX8_goesHome 2 (some .int) rm_X8_goesHome [.ref (adM G 0 0)] G (AM G) (XM G) sz M r (XM G) sz M' := by
  refine Ct_of (by decide) (Nat.le_of_ble_eq_true rfl) (fun p e s m below meth c ls hx hb hr hlocks hml hown hts hK hP hl => ?_)
  exact w_X8_goesHome ⟨hx, hb, hr, hlocks, hml, hown, hts, hK⟩ hf hP va_S.rf hl
set_option maxRecDepth 100000 in
theorem cv_X8_goesHome {p : Program} {l : Launch} {e : Env} {R : Room} {s : State} {m : MethodId} {args : Array Value} {below : List Frame} {meth : Method} {c : Code} {H : Heap} {locs : List Loc} {cells slots : Nat} {Q : State → Prop} {cc : ByteArray} {pc nL index : Nat} {ret : Option FieldType} {own : String} {ls : Array Slot} {rest : List Value} {l' : List (Nat × Value)} {G : GG} {sz : Nat} {M : Mem} (E : Cx p s m args meth c cc ret nL own G) (hP : PW G (AM G) (XM G) sz M s H) (hS : va_S (AM G) s.heap H locs) {r : Int32} {M' : Mem} (hq : f_X8_goesHome M = some (r, M')) (w1 : Cond.methodLink own index yX8_goesHome ∈ lw_all) (hR : 3 ≤ R.frames ∧ 65 ≤ R.locals) (hl : lv_has ls nL l') (hrest : (rest.map fun v => v.category).sum ≤ 8) (hdg : decode cc pc = .ok (.invokevirtual index, 3)) (hcs : cells ≤ R.cells ∧ slots ≤ R.slots)
    (kk : ∀ (H1 : Heap) (locs1 : List Loc), PW G (AM G) (XM G) sz M' s H1 → va_S (AM G) s.heap H1 locs1 → W p l e R s m args below meth c H1 locs1 cells slots Q (F0 m (pc + 3) ls (.int r :: rest))) : W p l e R s m args below meth c H locs cells slots Q (F0 m pc ls (.ref (adM G 0 0) :: rest)) := by
  obtain ⟨hx, hb, hr, hlocks, hml, hown, hts, hK⟩ := E
  exact kc_i (kc_runV (na := 0) (q := (RX8, TX8, 16)) hx hb hml hts hown hK hP 0 0 ⟨rfl, by decide⟩ rfl rfl rfl (c_X8_goesHome l hq) w1 w_963 ws_35 w_9 w_964 (by decide +kernel) hR rfl hl rfl hrest hdg hcs) hS kk
/-! X8_home -/
abbrev rm_X8_home : Room := { frames := 3, cells := 0, slots := 0, locals := 65 }
def f_X8_home (M : Mem) : Option (Int32 × Mem) :=
ob (f_X8_keeps M) fun _ M_1 =>
ob (f_X8_goesHome M_1) fun r_6 M_6 =>
ob (f_X8_acted r_6 M_6) fun r_9 M_9 =>
some (r_9, M_9)
set_option maxHeartbeats 4000000 in
set_option maxRecDepth 100000 in
theorem w_X8_home {p : Program} {l : Launch} {e : Env} {s : State} {m : MethodId} {args : Array Value} {below : List Frame} {meth : Method} {c : Code} {G : GG} {sz : Nat} {r : Int32} {M' : Mem} (E : Cx p s m args meth c cX8_home (some .int) 1 RX8 G) {M : Mem} {H : Heap} {locs : List Loc} {ls : Array Slot} (hf : f_X8_home M = some (r, M')) (hP : PW G (AM G) (XM G) sz M s H) (hS : va_S (AM G) s.heap H locs) (hl : lv_has ls 1 [(0, .ref (adM G 0 0))]) : W p l e rm_X8_home s m args below meth c H locs 0 0 (MQ below (va_Qi (fun (r2 : Int32) (_ : Unit) => r2 = r) (fun _ t => PW G (AM G) (XM G) sz M' t t.heap) (AM G)) args s 0 0 (AM G)) (F0 m 0 ls []) := by
  obtain ⟨hx, hb, hr, hlocks, hml, hown, hts, hK⟩ := id E
  unfold f_X8_home at hf
  refine lv_aload_n hx hb dX8_home_0 rfl (lv_at hl 0 rfl) ?_
  refine ob_e hf (fun r_1 M_1 hq hf => ?_)
  refine cv_X8_keeps E hP hS hq w_855 ⟨Nat.le_of_ble_eq_true rfl, Nat.le_of_ble_eq_true rfl⟩ hl (Nat.le_of_ble_eq_true rfl) dX8_home_1 ⟨Nat.le_of_ble_eq_true rfl, Nat.le_of_ble_eq_true rfl⟩ (fun H locs hP hS => ?_)
  refine lv_aload_n hx hb dX8_home_4 rfl (lv_at hl 0 rfl) ?_
  refine lv_aload_n hx hb dX8_home_5 rfl (lv_at hl 0 rfl) ?_
  refine ob_e hf (fun r_6 M_6 hq hf => ?_)
  refine cv_X8_goesHome E hP hS hq w_961 ⟨Nat.le_of_ble_eq_true rfl, Nat.le_of_ble_eq_true rfl⟩ hl (Nat.le_of_ble_eq_true rfl) dX8_home_6 ⟨Nat.le_of_ble_eq_true rfl, Nat.le_of_ble_eq_true rfl⟩ (fun H locs hP hS => ?_)
  refine ob_e hf (fun r_9 M_9 hq hf => ?_)
  refine cv_X8_acted E hP hS hq w_859 ⟨Nat.le_of_ble_eq_true rfl, Nat.le_of_ble_eq_true rfl⟩ hl (Nat.le_of_ble_eq_true rfl) dX8_home_9 ⟨Nat.le_of_ble_eq_true rfl, Nat.le_of_ble_eq_true rfl⟩ (fun H locs hP hS => ?_)
  exact en_i hf hx hb hr rfl hlocks hP hS dX8_home_12
theorem c_X8_home (l : Launch) {G : GG} {sz : Nat} {M : Mem} {r : Int32} {M' : Mem} (hf : f_X8_home M = some (r, M')) : CtI l yX8_home cX8_home 1 (some .int) rm_X8_home [.ref (adM G 0 0)] G (AM G) (XM G) sz M r (XM G) sz M' := by
  refine Ct_of (by decide) (Nat.le_of_ble_eq_true rfl) (fun p e s m below meth c ls hx hb hr hlocks hml hown hts hK hP hl => ?_)
  exact w_X8_home ⟨hx, hb, hr, hlocks, hml, hown, hts, hK⟩ hf hP va_S.rf hl
set_option maxRecDepth 100000 in
theorem cv_X8_home {p : Program} {l : Launch} {e : Env} {R : Room} {s : State} {m : MethodId} {args : Array Value} {below : List Frame} {meth : Method} {c : Code} {H : Heap} {locs : List Loc} {cells slots : Nat} {Q : State → Prop} {cc : ByteArray} {pc nL index : Nat} {ret : Option FieldType} {own : String} {ls : Array Slot} {rest : List Value} {l' : List (Nat × Value)} {G : GG} {sz : Nat} {M : Mem} (E : Cx p s m args meth c cc ret nL own G) (hP : PW G (AM G) (XM G) sz M s H) (hS : va_S (AM G) s.heap H locs) {r : Int32} {M' : Mem} (hq : f_X8_home M = some (r, M')) (w1 : Cond.methodLink own index yX8_home ∈ lw_all) (hR : 4 ≤ R.frames ∧ 85 ≤ R.locals) (hl : lv_has ls nL l') (hrest : (rest.map fun v => v.category).sum ≤ 8) (hdg : decode cc pc = .ok (.invokevirtual index, 3)) (hcs : cells ≤ R.cells ∧ slots ≤ R.slots)
    (kk : ∀ (H1 : Heap) (locs1 : List Loc), PW G (AM G) (XM G) sz M' s H1 → va_S (AM G) s.heap H1 locs1 → W p l e R s m args below meth c H1 locs1 cells slots Q (F0 m (pc + 3) ls (.int r :: rest))) : W p l e R s m args below meth c H locs cells slots Q (F0 m pc ls (.ref (adM G 0 0) :: rest)) := by
  obtain ⟨hx, hb, hr, hlocks, hml, hown, hts, hK⟩ := E
  exact kc_i (kc_runV (na := 0) (q := (RX8, TX8, 16)) hx hb hml hts hown hK hP 0 0 ⟨rfl, by decide⟩ rfl rfl rfl (c_X8_home l hq) w1 w_958 w_959 w_9 w_960 (by decide +kernel) hR rfl hl rfl hrest hdg hcs) hS kk
/-! X8_far -/
abbrev rm_X8_far : Room := { frames := 1, cells := 0, slots := 0, locals := 22 }
def f_X8_far_b46 (s0 : Int32) (M : Mem) : Option (Int32 × Mem) :=
some (s0, M)
def f_X8_far (x1 : Int32) (x2 : Int32) (x3 : Int32) (x4 : Int32) (M : Mem) : Option (Int32 × Mem) :=
ob (f_X8_ln x3 (2 * x4) M) fun r_7 M_7 =>
ob (f_X8_apart x1 r_7 M_7) fun r_10 M_10 =>
ob (f_X8_ln x3 ((2 * x4) + 1) M_10) fun r_24 M_24 =>
ob (f_X8_apart x2 r_24 M_24) fun r_27 M_27 =>
(if r_27 ≤ r_10 then
  f_X8_far_b46 r_10 M_27
else
  f_X8_far_b46 r_27 M_27)
set_option maxHeartbeats 4000000 in
set_option maxRecDepth 100000 in
theorem w_X8_far_b46 {p : Program} {l : Launch} {e : Env} {s : State} {m : MethodId} {args : Array Value} {below : List Frame} {meth : Method} {c : Code} {G : GG} {sz : Nat} {r : Int32} {M' : Mem} (E : Cx p s m args meth c cX8_far (some .int) 7 RX8 G) {s0 : Int32} {M : Mem} {H : Heap} {locs : List Loc} {ls : Array Slot} (hf : f_X8_far_b46 s0 M = some (r, M')) (hP : PW G (AM G) (XM G) sz M s H) (hS : va_S (AM G) s.heap H locs) (hl : lv_has ls 7 []) : W p l e rm_X8_far s m args below meth c H locs 0 0 (MQ below (va_Qi (fun (r2 : Int32) (_ : Unit) => r2 = r) (fun _ t => PW G (AM G) (XM G) sz M' t t.heap) (AM G)) args s 0 0 (AM G)) (F0 m 46 ls [.int s0]) := by
  obtain ⟨hx, hb, hr, hlocks, hml, hown, hts, hK⟩ := id E
  unfold f_X8_far_b46 at hf
  exact en_i hf hx hb hr rfl hlocks hP hS dX8_far_46
set_option maxHeartbeats 4000000 in
set_option maxRecDepth 100000 in
theorem w_X8_far {p : Program} {l : Launch} {e : Env} {s : State} {m : MethodId} {args : Array Value} {below : List Frame} {meth : Method} {c : Code} {G : GG} {sz : Nat} {r : Int32} {M' : Mem} (E : Cx p s m args meth c cX8_far (some .int) 7 RX8 G) {x1 : Int32} {x2 : Int32} {x3 : Int32} {x4 : Int32} {M : Mem} {H : Heap} {locs : List Loc} {ls : Array Slot} (hf : f_X8_far x1 x2 x3 x4 M = some (r, M')) (hP : PW G (AM G) (XM G) sz M s H) (hS : va_S (AM G) s.heap H locs) (hl : lv_has ls 7 [(0, .ref (adM G 0 0)), (1, .int x1), (2, .int x2), (3, .int x3), (4, .int x4)]) : W p l e rm_X8_far s m args below meth c H locs 0 0 (MQ below (va_Qi (fun (r2 : Int32) (_ : Unit) => r2 = r) (fun _ t => PW G (AM G) (XM G) sz M' t t.heap) (AM G)) args s 0 0 (AM G)) (F0 m 0 ls []) := by
  obtain ⟨hx, hb, hr, hlocks, hml, hown, hts, hK⟩ := id E
  unfold f_X8_far at hf
  refine lv_iload_n hx hb dX8_far_0 rfl (lv_at hl 1 rfl) ?_
  refine lv_aload_n hx hb dX8_far_1 rfl (lv_at hl 0 rfl) ?_
  refine lv_iload_n hx hb dX8_far_2 rfl (lv_at hl 3 rfl) ?_
  refine lv_iconst (v := 2) hx hb dX8_far_3 (by decide) ?_
  refine lv_iload hx hb dX8_far_4 (lv_at hl 4 rfl) ?_
  refine lv_imul hx hb dX8_far_6 ?_
  refine ob_e hf (fun r_7 M_7 hq hf => ?_)
  refine cv_X8_ln E hP hS hq w_916 ⟨Nat.le_of_ble_eq_true rfl, Nat.le_of_ble_eq_true rfl⟩ hl (Nat.le_of_ble_eq_true rfl) dX8_far_7 ⟨Nat.le_of_ble_eq_true rfl, Nat.le_of_ble_eq_true rfl⟩ (fun H locs hP hS => ?_)
  refine ob_e hf (fun r_10 M_10 hq hf => ?_)
  refine cv_X8_apart E hP hS hq w_932 ⟨Nat.le_of_ble_eq_true rfl, Nat.le_of_ble_eq_true rfl⟩ hl (Nat.le_of_ble_eq_true rfl) dX8_far_10 ⟨Nat.le_of_ble_eq_true rfl, Nat.le_of_ble_eq_true rfl⟩ (fun H locs hP hS => ?_)
  refine lv_istore (lv' := [(5, .int r_10), (0, .ref (adM G 0 0)), (1, .int x1), (2, .int x2), (3, .int x3), (4, .int x4)]) hx hb dX8_far_13 hl (by decide) rfl (fun ls hl => ?_)
  refine lv_iload_n hx hb dX8_far_15 rfl (lv_at hl 3 rfl) ?_
  refine lv_aload_n hx hb dX8_far_16 rfl (lv_at hl 1 rfl) ?_
  refine lv_iload_n hx hb dX8_far_17 rfl (lv_at hl 4 rfl) ?_
  refine lv_iconst (v := 2) hx hb dX8_far_18 (by decide) ?_
  refine lv_iload hx hb dX8_far_19 (lv_at hl 5 rfl) ?_
  refine lv_imul hx hb dX8_far_21 ?_
  refine lv_iconst (v := 1) hx hb dX8_far_22 (by decide) ?_
  refine lv_iadd hx hb dX8_far_23 ?_
  refine ob_e hf (fun r_24 M_24 hq hf => ?_)
  refine cv_X8_ln E hP hS hq w_916 ⟨Nat.le_of_ble_eq_true rfl, Nat.le_of_ble_eq_true rfl⟩ hl (Nat.le_of_ble_eq_true rfl) dX8_far_24 ⟨Nat.le_of_ble_eq_true rfl, Nat.le_of_ble_eq_true rfl⟩ (fun H locs hP hS => ?_)
  refine ob_e hf (fun r_27 M_27 hq hf => ?_)
  refine cv_X8_apart E hP hS hq w_932 ⟨Nat.le_of_ble_eq_true rfl, Nat.le_of_ble_eq_true rfl⟩ hl (Nat.le_of_ble_eq_true rfl) dX8_far_27 ⟨Nat.le_of_ble_eq_true rfl, Nat.le_of_ble_eq_true rfl⟩ (fun H locs hP hS => ?_)
  refine lv_istore (lv' := [(6, .int r_27), (5, .int r_10), (0, .ref (adM G 0 0)), (1, .int x1), (2, .int x2), (3, .int x3), (4, .int x4)]) hx hb dX8_far_30 hl (by decide) rfl (fun ls hl => ?_)
  refine lv_iload hx hb dX8_far_32 (lv_at hl 1 rfl) ?_
  refine lv_iload hx hb dX8_far_34 (lv_at hl 0 rfl) ?_
  refine lv_icmp_ge (tgt := 44) hx hb dX8_far_36 (by decide) (fun hc => ?_) (fun hc => ?_)
  · have hf := if_t hf hc
    refine lv_iload hx hb dX8_far_44 (lv_at hl 1 rfl) ?_
    exact w_X8_far_b46 E hf hP hS (lv_sub hl [] rfl)
  · have hf := if_f hf hc
    refine lv_iload hx hb dX8_far_39 (lv_at hl 0 rfl) ?_
    refine lv_goto (tgt := 46) hx hb dX8_far_41 (by decide) ?_
    exact w_X8_far_b46 E hf hP hS (lv_sub hl [] rfl)
theorem c_X8_far (l : Launch) {G : GG} {sz : Nat} {x1 : Int32} {x2 : Int32} {x3 : Int32} {x4 : Int32} {M : Mem} {r : Int32} {M' : Mem} (hf : f_X8_far x1 x2 x3 x4 M = some (r, M')) : CtI l yX8_far cX8_far 7 (some .int) rm_X8_far [.ref (adM G 0 0), .int x1, .int x2, .int x3, .int x4] G (AM G) (XM G) sz M r (XM G) sz M' := by
  refine Ct_of (by decide) (Nat.le_of_ble_eq_true rfl) (fun p e s m below meth c ls hx hb hr hlocks hml hown hts hK hP hl => ?_)
  exact w_X8_far ⟨hx, hb, hr, hlocks, hml, hown, hts, hK⟩ hf hP va_S.rf hl
set_option maxRecDepth 100000 in
theorem cv_X8_far {p : Program} {l : Launch} {e : Env} {R : Room} {s : State} {m : MethodId} {args : Array Value} {below : List Frame} {meth : Method} {c : Code} {H : Heap} {locs : List Loc} {cells slots : Nat} {Q : State → Prop} {cc : ByteArray} {pc nL index : Nat} {ret : Option FieldType} {own : String} {ls : Array Slot} {rest : List Value} {l' : List (Nat × Value)} {G : GG} {sz : Nat} {M : Mem} (E : Cx p s m args meth c cc ret nL own G) (hP : PW G (AM G) (XM G) sz M s H) (hS : va_S (AM G) s.heap H locs) {x1 : Int32} {x2 : Int32} {x3 : Int32} {x4 : Int32} {r : Int32} {M' : Mem} (hq : f_X8_far x1 x2 x3 x4 M = some (r, M')) (w1 : Cond.methodLink own index yX8_far ∈ lw_all) (hR : 2 ≤ R.frames ∧ 48 ≤ R.locals) (hl : lv_has ls nL l') (hrest : (rest.map fun v => v.category).sum ≤ 8) (hdg : decode cc pc = .ok (.invokevirtual index, 3)) (hcs : cells ≤ R.cells ∧ slots ≤ R.slots)
    (kk : ∀ (H1 : Heap) (locs1 : List Loc), PW G (AM G) (XM G) sz M' s H1 → va_S (AM G) s.heap H1 locs1 → W p l e R s m args below meth c H1 locs1 cells slots Q (F0 m (pc + 3) ls (.int r :: rest))) : W p l e R s m args below meth c H locs cells slots Q (F0 m pc ls (.int x4 :: .int x3 :: .int x2 :: .int x1 :: .ref (adM G 0 0) :: rest)) := by
  obtain ⟨hx, hb, hr, hlocks, hml, hown, hts, hK⟩ := E
  exact kc_i (kc_runV (na := 4) (q := (RX8, TX8, 16)) hx hb hml hts hown hK hP 0 0 ⟨rfl, by decide⟩ rfl rfl rfl (c_X8_far l hq) w1 w_979 ws_38 w_9 w_980 (by decide +kernel) hR rfl hl rfl hrest hdg hcs) hS kk
/-! X8_side -/
abbrev rm_X8_side : Room := { frames := 0, cells := 0, slots := 0, locals := 0 }
def f_X8_side_b38 (s0 : Int32) (M : Mem) : Option (Int32 × Mem) :=
some (s0, M)
def f_X8_side (x0 : Int32) (x1 : Int32) (x2 : Int32) (x3 : Int32) (x4 : Int32) (x5 : Int32) (M : Mem) : Option (Int32 × Mem) :=
lt ((((x2 - x0) * (x5 - x1)) - ((x3 - x1) * (x4 - x0)))) fun x6_17 =>
(if 0 ≤ x6_17 then
  (if x6_17 ≤ 0 then
    f_X8_side_b38 0 M
  else
    f_X8_side_b38 1 M)
else
  f_X8_side_b38 (-1) M)
set_option maxHeartbeats 4000000 in
set_option maxRecDepth 100000 in
theorem w_X8_side_b38 {p : Program} {l : Launch} {e : Env} {s : State} {m : MethodId} {args : Array Value} {below : List Frame} {meth : Method} {c : Code} {G : GG} {sz : Nat} {r : Int32} {M' : Mem} (E : Cx p s m args meth c cX8_side (some .int) 7 RX8 G) {s0 : Int32} {M : Mem} {H : Heap} {locs : List Loc} {ls : Array Slot} (hf : f_X8_side_b38 s0 M = some (r, M')) (hP : PW G (AM G) (XM G) sz M s H) (hS : va_S (AM G) s.heap H locs) (hl : lv_has ls 7 []) : W p l e rm_X8_side s m args below meth c H locs 0 0 (MQ below (va_Qi (fun (r2 : Int32) (_ : Unit) => r2 = r) (fun _ t => PW G (AM G) (XM G) sz M' t t.heap) (AM G)) args s 0 0 (AM G)) (F0 m 38 ls [.int s0]) := by
  obtain ⟨hx, hb, hr, hlocks, hml, hown, hts, hK⟩ := id E
  unfold f_X8_side_b38 at hf
  exact en_i hf hx hb hr rfl hlocks hP hS dX8_side_38
set_option maxHeartbeats 4000000 in
set_option maxRecDepth 100000 in
theorem w_X8_side {p : Program} {l : Launch} {e : Env} {s : State} {m : MethodId} {args : Array Value} {below : List Frame} {meth : Method} {c : Code} {G : GG} {sz : Nat} {r : Int32} {M' : Mem} (E : Cx p s m args meth c cX8_side (some .int) 7 RX8 G) {x0 : Int32} {x1 : Int32} {x2 : Int32} {x3 : Int32} {x4 : Int32} {x5 : Int32} {M : Mem} {H : Heap} {locs : List Loc} {ls : Array Slot} (hf : f_X8_side x0 x1 x2 x3 x4 x5 M = some (r, M')) (hP : PW G (AM G) (XM G) sz M s H) (hS : va_S (AM G) s.heap H locs) (hl : lv_has ls 7 [(0, .int x0), (1, .int x1), (2, .int x2), (3, .int x3), (4, .int x4), (5, .int x5)]) : W p l e rm_X8_side s m args below meth c H locs 0 0 (MQ below (va_Qi (fun (r2 : Int32) (_ : Unit) => r2 = r) (fun _ t => PW G (AM G) (XM G) sz M' t t.heap) (AM G)) args s 0 0 (AM G)) (F0 m 0 ls []) := by
  obtain ⟨hx, hb, hr, hlocks, hml, hown, hts, hK⟩ := id E
  unfold f_X8_side at hf
  refine lv_iload_n hx hb dX8_side_0 rfl (lv_at hl 2 rfl) ?_
  refine lv_iload_n hx hb dX8_side_1 rfl (lv_at hl 0 rfl) ?_
  refine lv_isub hx hb dX8_side_2 ?_
  refine lv_iload hx hb dX8_side_3 (lv_at hl 5 rfl) ?_
  refine lv_iload_n hx hb dX8_side_5 rfl (lv_at hl 1 rfl) ?_
  refine lv_isub hx hb dX8_side_6 ?_
  refine lv_imul hx hb dX8_side_7 ?_
  refine lv_iload_n hx hb dX8_side_8 rfl (lv_at hl 3 rfl) ?_
  refine lv_iload_n hx hb dX8_side_9 rfl (lv_at hl 1 rfl) ?_
  refine lv_isub hx hb dX8_side_10 ?_
  refine lv_iload hx hb dX8_side_11 (lv_at hl 4 rfl) ?_
  refine lv_iload_n hx hb dX8_side_13 rfl (lv_at hl 0 rfl) ?_
  refine lv_isub hx hb dX8_side_14 ?_
  refine lv_imul hx hb dX8_side_15 ?_
  refine lv_isub hx hb dX8_side_16 ?_
  refine lt_e hf (fun x6_17 hx6_17 hf => ?_)
  refine kr_nm hx6_17 ?_
  refine lv_istore (lv' := [(6, .int x6_17), (0, .int x0), (1, .int x1), (2, .int x2), (3, .int x3), (4, .int x4), (5, .int x5)]) hx hb dX8_side_17 hl (by decide) rfl (fun ls hl => ?_)
  refine lv_iload hx hb dX8_side_19 (lv_at hl 0 rfl) ?_
  refine lv_if_ge (tgt := 28) hx hb dX8_side_21 (by decide) (fun hc => ?_) (fun hc => ?_)
  · have hf := if_t hf hc
    refine lv_iload hx hb dX8_side_28 (lv_at hl 0 rfl) ?_
    refine lv_if_le (tgt := 37) hx hb dX8_side_30 (by decide) (fun hc => ?_) (fun hc => ?_)
    · have hf := if_t hf hc
      refine lv_iconst (v := 0) hx hb dX8_side_37 (by decide) ?_
      exact w_X8_side_b38 E hf hP hS (lv_sub hl [] rfl)
    · have hf := if_f hf hc
      refine lv_iconst (v := 1) hx hb dX8_side_33 (by decide) ?_
      refine lv_goto (tgt := 38) hx hb dX8_side_34 (by decide) ?_
      exact w_X8_side_b38 E hf hP hS (lv_sub hl [] rfl)
  · have hf := if_f hf hc
    refine lv_iconst (v := (-1)) hx hb dX8_side_24 (by decide) ?_
    refine lv_goto (tgt := 38) hx hb dX8_side_25 (by decide) ?_
    exact w_X8_side_b38 E hf hP hS (lv_sub hl [] rfl)
theorem c_X8_side (l : Launch) {G : GG} {sz : Nat} {x0 : Int32} {x1 : Int32} {x2 : Int32} {x3 : Int32} {x4 : Int32} {x5 : Int32} {M : Mem} {r : Int32} {M' : Mem} (hf : f_X8_side x0 x1 x2 x3 x4 x5 M = some (r, M')) : CtI l yX8_side cX8_side 7 (some .int) rm_X8_side [.int x0, .int x1, .int x2, .int x3, .int x4, .int x5] G (AM G) (XM G) sz M r (XM G) sz M' := by
  refine Ct_of (by decide) (Nat.le_of_ble_eq_true rfl) (fun p e s m below meth c ls hx hb hr hlocks hml hown hts hK hP hl => ?_)
  exact w_X8_side ⟨hx, hb, hr, hlocks, hml, hown, hts, hK⟩ hf hP va_S.rf hl
set_option maxRecDepth 100000 in
theorem cv_X8_side {p : Program} {l : Launch} {e : Env} {R : Room} {s : State} {m : MethodId} {args : Array Value} {below : List Frame} {meth : Method} {c : Code} {H : Heap} {locs : List Loc} {cells slots : Nat} {Q : State → Prop} {cc : ByteArray} {pc nL index : Nat} {ret : Option FieldType} {own : String} {ls : Array Slot} {rest : List Value} {l' : List (Nat × Value)} {G : GG} {sz : Nat} {M : Mem} (E : Cx p s m args meth c cc ret nL own G) (hP : PW G (AM G) (XM G) sz M s H) (hS : va_S (AM G) s.heap H locs) {x0 : Int32} {x1 : Int32} {x2 : Int32} {x3 : Int32} {x4 : Int32} {x5 : Int32} {r : Int32} {M' : Mem} (hq : f_X8_side x0 x1 x2 x3 x4 x5 M = some (r, M')) (w1 : Cond.methodLink own index yX8_side ∈ lw_all) (hR : 1 ≤ R.frames ∧ 26 ≤ R.locals) (hl : lv_has ls nL l') (hrest : (rest.map fun v => v.category).sum ≤ 8) (hdg : decode cc pc = .ok (.invokestatic index, 3)) (hcs : cells ≤ R.cells ∧ slots ≤ R.slots)
    (kk : ∀ (H1 : Heap) (locs1 : List Loc), PW G (AM G) (XM G) sz M' s H1 → va_S (AM G) s.heap H1 locs1 → W p l e R s m args below meth c H1 locs1 cells slots Q (F0 m (pc + 3) ls (.int r :: rest))) : W p l e R s m args below meth c H locs cells slots Q (F0 m pc ls (.int x5 :: .int x4 :: .int x3 :: .int x2 :: .int x1 :: .int x0 :: rest)) := by
  obtain ⟨hx, hb, hr, hlocks, hml, hown, hts, hK⟩ := E
  exact kc_i (kc_runS (na := 6) hx hb hml hts hown hK hP (c_X8_side l hq) w1 w_994 w_9 w_995 (by decide +kernel) hR rfl hl rfl hrest hdg hcs) hS kk
/-! X8_isOn -/
abbrev rm_X8_isOn : Room := { frames := 1, cells := 0, slots := 0, locals := 26 }
def f_X8_isOn_b89 (s0 : Int32) (M : Mem) : Option (Int32 × Mem) :=
ck (bl s0) <|
some (s0, M)
def f_X8_isOn_b88 (M : Mem) : Option (Int32 × Mem) :=
f_X8_isOn_b89 0 M
def f_X8_isOn_b37 (x1 : Int32) (x2 : Int32) (x3 : Int32) (s0 : Int32) (M : Mem) : Option (Int32 × Mem) :=
(if s0 = 0 then
  f_X8_isOn_b88 M
else
  ob (f_X8_ln x1 0 M) fun r_48 M_48 =>
  ob (f_X8_ln x1 2 M_48) fun r_56 M_56 =>
  (if 0 < ((x2 - r_48) * (x2 - r_56)) then
    f_X8_isOn_b88 M_56
  else
    ob (f_X8_ln x1 1 M_56) fun r_68 M_68 =>
    ob (f_X8_ln x1 3 M_68) fun r_76 M_76 =>
    (if 0 < ((x3 - r_68) * (x3 - r_76)) then
      f_X8_isOn_b88 M_76
    else
      f_X8_isOn_b89 1 M_76)))
def f_X8_isOn (x1 : Int32) (x2 : Int32) (x3 : Int32) (M : Mem) : Option (Int32 × Mem) :=
ob (f_X8_ln x1 0 M) fun r_3 M_3 =>
ob (f_X8_ln x1 1 M_3) fun r_9 M_9 =>
ob (f_X8_ln x1 2 M_9) fun r_15 M_15 =>
ob (f_X8_ln x1 3 M_15) fun r_21 M_21 =>
ob (f_X8_side r_3 r_9 r_15 r_21 x2 x3 M_21) fun r_26 M_26 =>
(if r_26 = 0 then
  f_X8_isOn_b37 x1 x2 x3 1 M_26
else
  f_X8_isOn_b37 x1 x2 x3 0 M_26)
set_option maxHeartbeats 4000000 in
set_option maxRecDepth 100000 in
theorem w_X8_isOn_b89 {p : Program} {l : Launch} {e : Env} {s : State} {m : MethodId} {args : Array Value} {below : List Frame} {meth : Method} {c : Code} {G : GG} {sz : Nat} {r : Int32} {M' : Mem} (E : Cx p s m args meth c cX8_isOn (some .boolean) 5 RX8 G) {s0 : Int32} {M : Mem} {H : Heap} {locs : List Loc} {ls : Array Slot} (hf : f_X8_isOn_b89 s0 M = some (r, M')) (hP : PW G (AM G) (XM G) sz M s H) (hS : va_S (AM G) s.heap H locs) (hl : lv_has ls 5 []) : W p l e rm_X8_isOn s m args below meth c H locs 0 0 (MQ below (va_Qi (fun (r2 : Int32) (_ : Unit) => r2 = r) (fun _ t => PW G (AM G) (XM G) sz M' t t.heap) (AM G)) args s 0 0 (AM G)) (F0 m 89 ls [.int s0]) := by
  obtain ⟨hx, hb, hr, hlocks, hml, hown, hts, hK⟩ := id E
  unfold f_X8_isOn_b89 at hf
  refine ck_e hf (fun hn hf => ?_)
  exact en_i hf hx hb hr (bl_nar hn) hlocks hP hS dX8_isOn_89
set_option maxHeartbeats 4000000 in
set_option maxRecDepth 100000 in
theorem w_X8_isOn_b88 {p : Program} {l : Launch} {e : Env} {s : State} {m : MethodId} {args : Array Value} {below : List Frame} {meth : Method} {c : Code} {G : GG} {sz : Nat} {r : Int32} {M' : Mem} (E : Cx p s m args meth c cX8_isOn (some .boolean) 5 RX8 G) {M : Mem} {H : Heap} {locs : List Loc} {ls : Array Slot} (hf : f_X8_isOn_b88 M = some (r, M')) (hP : PW G (AM G) (XM G) sz M s H) (hS : va_S (AM G) s.heap H locs) (hl : lv_has ls 5 []) : W p l e rm_X8_isOn s m args below meth c H locs 0 0 (MQ below (va_Qi (fun (r2 : Int32) (_ : Unit) => r2 = r) (fun _ t => PW G (AM G) (XM G) sz M' t t.heap) (AM G)) args s 0 0 (AM G)) (F0 m 88 ls []) := by
  obtain ⟨hx, hb, hr, hlocks, hml, hown, hts, hK⟩ := id E
  unfold f_X8_isOn_b88 at hf
  refine lv_iconst (v := 0) hx hb dX8_isOn_88 (by decide) ?_
  exact w_X8_isOn_b89 E hf hP hS (lv_sub hl [] rfl)
set_option maxHeartbeats 4000000 in
set_option maxRecDepth 100000 in
theorem w_X8_isOn_b37 {p : Program} {l : Launch} {e : Env} {s : State} {m : MethodId} {args : Array Value} {below : List Frame} {meth : Method} {c : Code} {G : GG} {sz : Nat} {r : Int32} {M' : Mem} (E : Cx p s m args meth c cX8_isOn (some .boolean) 5 RX8 G) {x1 : Int32} {x2 : Int32} {x3 : Int32} {s0 : Int32} {M : Mem} {H : Heap} {locs : List Loc} {ls : Array Slot} (hf : f_X8_isOn_b37 x1 x2 x3 s0 M = some (r, M')) (hP : PW G (AM G) (XM G) sz M s H) (hS : va_S (AM G) s.heap H locs) (hl : lv_has ls 5 [(0, .ref (adM G 0 0)), (1, .int x1), (2, .int x2), (3, .int x3)]) : W p l e rm_X8_isOn s m args below meth c H locs 0 0 (MQ below (va_Qi (fun (r2 : Int32) (_ : Unit) => r2 = r) (fun _ t => PW G (AM G) (XM G) sz M' t t.heap) (AM G)) args s 0 0 (AM G)) (F0 m 37 ls [.int s0]) := by
  obtain ⟨hx, hb, hr, hlocks, hml, hown, hts, hK⟩ := id E
  unfold f_X8_isOn_b37 at hf
  refine lv_istore (lv' := [(4, .int s0), (0, .ref (adM G 0 0)), (1, .int x1), (2, .int x2), (3, .int x3)]) hx hb dX8_isOn_37 hl (by decide) rfl (fun ls hl => ?_)
  refine lv_iload hx hb dX8_isOn_39 (lv_at hl 0 rfl) ?_
  refine lv_if_eq (tgt := 88) hx hb dX8_isOn_41 (by decide) (fun hc => ?_) (fun hc => ?_)
  · have hf := if_t hf hc
    exact w_X8_isOn_b88 E hf hP hS (lv_sub hl [] rfl)
  · have hf := if_f hf hc
    refine lv_iload_n hx hb dX8_isOn_44 rfl (lv_at hl 3 rfl) ?_
    refine lv_aload_n hx hb dX8_isOn_45 rfl (lv_at hl 1 rfl) ?_
    refine lv_iload_n hx hb dX8_isOn_46 rfl (lv_at hl 2 rfl) ?_
    refine lv_iconst (v := 0) hx hb dX8_isOn_47 (by decide) ?_
    refine ob_e hf (fun r_48 M_48 hq hf => ?_)
    refine cv_X8_ln E hP hS hq w_916 ⟨Nat.le_of_ble_eq_true rfl, Nat.le_of_ble_eq_true rfl⟩ hl (Nat.le_of_ble_eq_true rfl) dX8_isOn_48 ⟨Nat.le_of_ble_eq_true rfl, Nat.le_of_ble_eq_true rfl⟩ (fun H locs hP hS => ?_)
    refine lv_isub hx hb dX8_isOn_51 ?_
    refine lv_iload_n hx hb dX8_isOn_52 rfl (lv_at hl 3 rfl) ?_
    refine lv_aload_n hx hb dX8_isOn_53 rfl (lv_at hl 1 rfl) ?_
    refine lv_iload_n hx hb dX8_isOn_54 rfl (lv_at hl 2 rfl) ?_
    refine lv_iconst (v := 2) hx hb dX8_isOn_55 (by decide) ?_
    refine ob_e hf (fun r_56 M_56 hq hf => ?_)
    refine cv_X8_ln E hP hS hq w_916 ⟨Nat.le_of_ble_eq_true rfl, Nat.le_of_ble_eq_true rfl⟩ hl (Nat.le_of_ble_eq_true rfl) dX8_isOn_56 ⟨Nat.le_of_ble_eq_true rfl, Nat.le_of_ble_eq_true rfl⟩ (fun H locs hP hS => ?_)
    refine lv_isub hx hb dX8_isOn_59 ?_
    refine lv_imul hx hb dX8_isOn_60 ?_
    refine lv_if_gt (tgt := 88) hx hb dX8_isOn_61 (by decide) (fun hc => ?_) (fun hc => ?_)
    · have hf := if_t hf hc
      exact w_X8_isOn_b88 E hf hP hS (lv_sub hl [] rfl)
    · have hf := if_f hf hc
      refine lv_iload_n hx hb dX8_isOn_64 rfl (lv_at hl 4 rfl) ?_
      refine lv_aload_n hx hb dX8_isOn_65 rfl (lv_at hl 1 rfl) ?_
      refine lv_iload_n hx hb dX8_isOn_66 rfl (lv_at hl 2 rfl) ?_
      refine lv_iconst (v := 1) hx hb dX8_isOn_67 (by decide) ?_
      refine ob_e hf (fun r_68 M_68 hq hf => ?_)
      refine cv_X8_ln E hP hS hq w_916 ⟨Nat.le_of_ble_eq_true rfl, Nat.le_of_ble_eq_true rfl⟩ hl (Nat.le_of_ble_eq_true rfl) dX8_isOn_68 ⟨Nat.le_of_ble_eq_true rfl, Nat.le_of_ble_eq_true rfl⟩ (fun H locs hP hS => ?_)
      refine lv_isub hx hb dX8_isOn_71 ?_
      refine lv_iload_n hx hb dX8_isOn_72 rfl (lv_at hl 4 rfl) ?_
      refine lv_aload_n hx hb dX8_isOn_73 rfl (lv_at hl 1 rfl) ?_
      refine lv_iload_n hx hb dX8_isOn_74 rfl (lv_at hl 2 rfl) ?_
      refine lv_iconst (v := 3) hx hb dX8_isOn_75 (by decide) ?_
      refine ob_e hf (fun r_76 M_76 hq hf => ?_)
      refine cv_X8_ln E hP hS hq w_916 ⟨Nat.le_of_ble_eq_true rfl, Nat.le_of_ble_eq_true rfl⟩ hl (Nat.le_of_ble_eq_true rfl) dX8_isOn_76 ⟨Nat.le_of_ble_eq_true rfl, Nat.le_of_ble_eq_true rfl⟩ (fun H locs hP hS => ?_)
      refine lv_isub hx hb dX8_isOn_79 ?_
      refine lv_imul hx hb dX8_isOn_80 ?_
      refine lv_if_gt (tgt := 88) hx hb dX8_isOn_81 (by decide) (fun hc => ?_) (fun hc => ?_)
      · have hf := if_t hf hc
        exact w_X8_isOn_b88 E hf hP hS (lv_sub hl [] rfl)
      · have hf := if_f hf hc
        refine lv_iconst (v := 1) hx hb dX8_isOn_84 (by decide) ?_
        refine lv_goto (tgt := 89) hx hb dX8_isOn_85 (by decide) ?_
        exact w_X8_isOn_b89 E hf hP hS (lv_sub hl [] rfl)
set_option maxHeartbeats 4000000 in
set_option maxRecDepth 100000 in
theorem w_X8_isOn {p : Program} {l : Launch} {e : Env} {s : State} {m : MethodId} {args : Array Value} {below : List Frame} {meth : Method} {c : Code} {G : GG} {sz : Nat} {r : Int32} {M' : Mem} (E : Cx p s m args meth c cX8_isOn (some .boolean) 5 RX8 G) {x1 : Int32} {x2 : Int32} {x3 : Int32} {M : Mem} {H : Heap} {locs : List Loc} {ls : Array Slot} (hf : f_X8_isOn x1 x2 x3 M = some (r, M')) (hP : PW G (AM G) (XM G) sz M s H) (hS : va_S (AM G) s.heap H locs) (hl : lv_has ls 5 [(0, .ref (adM G 0 0)), (1, .int x1), (2, .int x2), (3, .int x3)]) : W p l e rm_X8_isOn s m args below meth c H locs 0 0 (MQ below (va_Qi (fun (r2 : Int32) (_ : Unit) => r2 = r) (fun _ t => PW G (AM G) (XM G) sz M' t t.heap) (AM G)) args s 0 0 (AM G)) (F0 m 0 ls []) := by
  obtain ⟨hx, hb, hr, hlocks, hml, hown, hts, hK⟩ := id E
  unfold f_X8_isOn at hf
  refine lv_aload_n hx hb dX8_isOn_0 rfl (lv_at hl 0 rfl) ?_
  refine lv_iload_n hx hb dX8_isOn_1 rfl (lv_at hl 1 rfl) ?_
  refine lv_iconst (v := 0) hx hb dX8_isOn_2 (by decide) ?_
  refine ob_e hf (fun r_3 M_3 hq hf => ?_)
  refine cv_X8_ln E hP hS hq w_916 ⟨Nat.le_of_ble_eq_true rfl, Nat.le_of_ble_eq_true rfl⟩ hl (Nat.le_of_ble_eq_true rfl) dX8_isOn_3 ⟨Nat.le_of_ble_eq_true rfl, Nat.le_of_ble_eq_true rfl⟩ (fun H locs hP hS => ?_)
  refine lv_aload_n hx hb dX8_isOn_6 rfl (lv_at hl 0 rfl) ?_
  refine lv_iload_n hx hb dX8_isOn_7 rfl (lv_at hl 1 rfl) ?_
  refine lv_iconst (v := 1) hx hb dX8_isOn_8 (by decide) ?_
  refine ob_e hf (fun r_9 M_9 hq hf => ?_)
  refine cv_X8_ln E hP hS hq w_916 ⟨Nat.le_of_ble_eq_true rfl, Nat.le_of_ble_eq_true rfl⟩ hl (Nat.le_of_ble_eq_true rfl) dX8_isOn_9 ⟨Nat.le_of_ble_eq_true rfl, Nat.le_of_ble_eq_true rfl⟩ (fun H locs hP hS => ?_)
  refine lv_aload_n hx hb dX8_isOn_12 rfl (lv_at hl 0 rfl) ?_
  refine lv_iload_n hx hb dX8_isOn_13 rfl (lv_at hl 1 rfl) ?_
  refine lv_iconst (v := 2) hx hb dX8_isOn_14 (by decide) ?_
  refine ob_e hf (fun r_15 M_15 hq hf => ?_)
  refine cv_X8_ln E hP hS hq w_916 ⟨Nat.le_of_ble_eq_true rfl, Nat.le_of_ble_eq_true rfl⟩ hl (Nat.le_of_ble_eq_true rfl) dX8_isOn_15 ⟨Nat.le_of_ble_eq_true rfl, Nat.le_of_ble_eq_true rfl⟩ (fun H locs hP hS => ?_)
  refine lv_aload_n hx hb dX8_isOn_18 rfl (lv_at hl 0 rfl) ?_
  refine lv_iload_n hx hb dX8_isOn_19 rfl (lv_at hl 1 rfl) ?_
  refine lv_iconst (v := 3) hx hb dX8_isOn_20 (by decide) ?_
  refine ob_e hf (fun r_21 M_21 hq hf => ?_)
  refine cv_X8_ln E hP hS hq w_916 ⟨Nat.le_of_ble_eq_true rfl, Nat.le_of_ble_eq_true rfl⟩ hl (Nat.le_of_ble_eq_true rfl) dX8_isOn_21 ⟨Nat.le_of_ble_eq_true rfl, Nat.le_of_ble_eq_true rfl⟩ (fun H locs hP hS => ?_)
  refine lv_iload_n hx hb dX8_isOn_24 rfl (lv_at hl 2 rfl) ?_
  refine lv_iload_n hx hb dX8_isOn_25 rfl (lv_at hl 3 rfl) ?_
  refine ob_e hf (fun r_26 M_26 hq hf => ?_)
  refine cv_X8_side E hP hS hq w_993 ⟨Nat.le_of_ble_eq_true rfl, Nat.le_of_ble_eq_true rfl⟩ hl (Nat.le_of_ble_eq_true rfl) dX8_isOn_26 ⟨Nat.le_of_ble_eq_true rfl, Nat.le_of_ble_eq_true rfl⟩ (fun H locs hP hS => ?_)
  refine lv_if_ne (tgt := 36) hx hb dX8_isOn_29 (by decide) (fun hc => ?_) (fun hc => ?_)
  · have hf := if_f hf hc
    refine lv_iconst (v := 0) hx hb dX8_isOn_36 (by decide) ?_
    exact w_X8_isOn_b37 E hf hP hS (lv_sub hl [0, 1, 2, 3] rfl)
  · have hf := if_t hf hc
    refine lv_iconst (v := 1) hx hb dX8_isOn_32 (by decide) ?_
    refine lv_goto (tgt := 37) hx hb dX8_isOn_33 (by decide) ?_
    exact w_X8_isOn_b37 E hf hP hS (lv_sub hl [0, 1, 2, 3] rfl)
theorem c_X8_isOn (l : Launch) {G : GG} {sz : Nat} {x1 : Int32} {x2 : Int32} {x3 : Int32} {M : Mem} {r : Int32} {M' : Mem} (hf : f_X8_isOn x1 x2 x3 M = some (r, M')) : CtI l yX8_isOn cX8_isOn 5 (some .boolean) rm_X8_isOn [.ref (adM G 0 0), .int x1, .int x2, .int x3] G (AM G) (XM G) sz M r (XM G) sz M' := by
  refine Ct_of (by decide) (Nat.le_of_ble_eq_true rfl) (fun p e s m below meth c ls hx hb hr hlocks hml hown hts hK hP hl => ?_)
  exact w_X8_isOn ⟨hx, hb, hr, hlocks, hml, hown, hts, hK⟩ hf hP va_S.rf hl
set_option maxRecDepth 100000 in
theorem cv_X8_isOn {p : Program} {l : Launch} {e : Env} {R : Room} {s : State} {m : MethodId} {args : Array Value} {below : List Frame} {meth : Method} {c : Code} {H : Heap} {locs : List Loc} {cells slots : Nat} {Q : State → Prop} {cc : ByteArray} {pc nL index : Nat} {ret : Option FieldType} {own : String} {ls : Array Slot} {rest : List Value} {l' : List (Nat × Value)} {G : GG} {sz : Nat} {M : Mem} (E : Cx p s m args meth c cc ret nL own G) (hP : PW G (AM G) (XM G) sz M s H) (hS : va_S (AM G) s.heap H locs) {x1 : Int32} {x2 : Int32} {x3 : Int32} {r : Int32} {M' : Mem} (hq : f_X8_isOn x1 x2 x3 M = some (r, M')) (w1 : Cond.methodLink own index yX8_isOn ∈ lw_all) (hR : 2 ≤ R.frames ∧ 50 ≤ R.locals) (hl : lv_has ls nL l') (hrest : (rest.map fun v => v.category).sum ≤ 8) (hdg : decode cc pc = .ok (.invokevirtual index, 3)) (hcs : cells ≤ R.cells ∧ slots ≤ R.slots)
    (kk : ∀ (H1 : Heap) (locs1 : List Loc), PW G (AM G) (XM G) sz M' s H1 → va_S (AM G) s.heap H1 locs1 → W p l e R s m args below meth c H1 locs1 cells slots Q (F0 m (pc + 3) ls (.int r :: rest))) : W p l e R s m args below meth c H locs cells slots Q (F0 m pc ls (.int x3 :: .int x2 :: .int x1 :: .ref (adM G 0 0) :: rest)) := by
  obtain ⟨hx, hb, hr, hlocks, hml, hown, hts, hK⟩ := E
  exact kc_i (kc_runV (na := 3) (q := (RX8, TX8, 16)) hx hb hml hts hown hK hP 0 0 ⟨rfl, by decide⟩ rfl rfl rfl (c_X8_isOn l hq) w1 w_998 ws_42 w_9 w_999 (by decide +kernel) hR rfl hl rfl hrest hdg hcs) hS kk
/-! X8_touches -/
abbrev rm_X8_touches : Room := { frames := 2, cells := 0, slots := 0, locals := 50 }
def f_X8_touches_b267 (s0 : Int32) (M : Mem) : Option (Int32 × Mem) :=
ck (bl s0) <|
some (s0, M)
def f_X8_touches_b262 (M : Mem) : Option (Int32 × Mem) :=
f_X8_touches_b267 1 M
def f_X8_touches_b266 (M : Mem) : Option (Int32 × Mem) :=
f_X8_touches_b267 0 M
def f_X8_touches_b246 (x3 : Int32) (x4 : Int32) (s0 : Int32) (M : Mem) : Option (Int32 × Mem) :=
(if s0 = 0 then
  (if 0 ≤ x3 then
    f_X8_touches_b266 M
  else
    (if 0 ≤ x4 then
      f_X8_touches_b266 M
    else
      f_X8_touches_b262 M))
else
  f_X8_touches_b262 M)
def f_X8_touches_b241 (x3 : Int32) (x4 : Int32) (M : Mem) : Option (Int32 × Mem) :=
f_X8_touches_b246 x3 x4 1 M
def f_X8_touches (x1 : Int32) (x2 : Int32) (M : Mem) : Option (Int32 × Mem) :=
ob (f_X8_ln x1 0 M) fun r_3 M_3 =>
ob (f_X8_ln x1 1 M_3) fun r_9 M_9 =>
ob (f_X8_ln x1 2 M_9) fun r_15 M_15 =>
ob (f_X8_ln x1 3 M_15) fun r_21 M_21 =>
ob (f_X8_ln x2 0 M_21) fun r_27 M_27 =>
ob (f_X8_ln x2 1 M_27) fun r_33 M_33 =>
ob (f_X8_side r_3 r_9 r_15 r_21 r_27 r_33 M_33) fun r_36 M_36 =>
ob (f_X8_ln x1 0 M_36) fun r_42 M_42 =>
ob (f_X8_ln x1 1 M_42) fun r_48 M_48 =>
ob (f_X8_ln x1 2 M_48) fun r_54 M_54 =>
ob (f_X8_ln x1 3 M_54) fun r_60 M_60 =>
ob (f_X8_ln x2 2 M_60) fun r_66 M_66 =>
ob (f_X8_ln x2 3 M_66) fun r_72 M_72 =>
ob (f_X8_side r_42 r_48 r_54 r_60 r_66 r_72 M_72) fun r_75 M_75 =>
lt ((r_36 * r_75)) fun x3_79 =>
ob (f_X8_ln x2 0 M_75) fun r_83 M_83 =>
ob (f_X8_ln x2 1 M_83) fun r_89 M_89 =>
ob (f_X8_ln x2 2 M_89) fun r_95 M_95 =>
ob (f_X8_ln x2 3 M_95) fun r_101 M_101 =>
ob (f_X8_ln x1 0 M_101) fun r_107 M_107 =>
ob (f_X8_ln x1 1 M_107) fun r_113 M_113 =>
ob (f_X8_side r_83 r_89 r_95 r_101 r_107 r_113 M_113) fun r_116 M_116 =>
ob (f_X8_ln x2 0 M_116) fun r_122 M_122 =>
ob (f_X8_ln x2 1 M_122) fun r_128 M_128 =>
ob (f_X8_ln x2 2 M_128) fun r_134 M_134 =>
ob (f_X8_ln x2 3 M_134) fun r_140 M_140 =>
ob (f_X8_ln x1 2 M_140) fun r_146 M_146 =>
ob (f_X8_ln x1 3 M_146) fun r_152 M_152 =>
ob (f_X8_side r_122 r_128 r_134 r_140 r_146 r_152 M_152) fun r_155 M_155 =>
lt ((r_116 * r_155)) fun x4_159 =>
ob (f_X8_ln x2 0 M_155) fun r_166 M_166 =>
ob (f_X8_ln x2 1 M_166) fun r_172 M_172 =>
ob (f_X8_isOn x1 r_166 r_172 M_172) fun r_175 M_175 =>
(if r_175 = 0 then
  ob (f_X8_ln x2 2 M_175) fun r_186 M_186 =>
  ob (f_X8_ln x2 3 M_186) fun r_192 M_192 =>
  ob (f_X8_isOn x1 r_186 r_192 M_192) fun r_195 M_195 =>
  (if r_195 = 0 then
    ob (f_X8_ln x1 0 M_195) fun r_206 M_206 =>
    ob (f_X8_ln x1 1 M_206) fun r_212 M_212 =>
    ob (f_X8_isOn x2 r_206 r_212 M_212) fun r_215 M_215 =>
    (if r_215 = 0 then
      ob (f_X8_ln x1 2 M_215) fun r_226 M_226 =>
      ob (f_X8_ln x1 3 M_226) fun r_232 M_232 =>
      ob (f_X8_isOn x2 r_226 r_232 M_232) fun r_235 M_235 =>
      (if r_235 = 0 then
        f_X8_touches_b246 x3_79 x4_159 0 M_235
      else
        f_X8_touches_b241 x3_79 x4_159 M_235)
    else
      f_X8_touches_b241 x3_79 x4_159 M_215)
  else
    f_X8_touches_b241 x3_79 x4_159 M_195)
else
  f_X8_touches_b241 x3_79 x4_159 M_175)
set_option maxHeartbeats 4000000 in
set_option maxRecDepth 100000 in
theorem w_X8_touches_b267 {p : Program} {l : Launch} {e : Env} {s : State} {m : MethodId} {args : Array Value} {below : List Frame} {meth : Method} {c : Code} {G : GG} {sz : Nat} {r : Int32} {M' : Mem} (E : Cx p s m args meth c cX8_touches (some .boolean) 6 RX8 G) {s0 : Int32} {M : Mem} {H : Heap} {locs : List Loc} {ls : Array Slot} (hf : f_X8_touches_b267 s0 M = some (r, M')) (hP : PW G (AM G) (XM G) sz M s H) (hS : va_S (AM G) s.heap H locs) (hl : lv_has ls 6 []) : W p l e rm_X8_touches s m args below meth c H locs 0 0 (MQ below (va_Qi (fun (r2 : Int32) (_ : Unit) => r2 = r) (fun _ t => PW G (AM G) (XM G) sz M' t t.heap) (AM G)) args s 0 0 (AM G)) (F0 m 267 ls [.int s0]) := by
  obtain ⟨hx, hb, hr, hlocks, hml, hown, hts, hK⟩ := id E
  unfold f_X8_touches_b267 at hf
  refine ck_e hf (fun hn hf => ?_)
  exact en_i hf hx hb hr (bl_nar hn) hlocks hP hS dX8_touches_267
set_option maxHeartbeats 4000000 in
set_option maxRecDepth 100000 in
theorem w_X8_touches_b262 {p : Program} {l : Launch} {e : Env} {s : State} {m : MethodId} {args : Array Value} {below : List Frame} {meth : Method} {c : Code} {G : GG} {sz : Nat} {r : Int32} {M' : Mem} (E : Cx p s m args meth c cX8_touches (some .boolean) 6 RX8 G) {M : Mem} {H : Heap} {locs : List Loc} {ls : Array Slot} (hf : f_X8_touches_b262 M = some (r, M')) (hP : PW G (AM G) (XM G) sz M s H) (hS : va_S (AM G) s.heap H locs) (hl : lv_has ls 6 []) : W p l e rm_X8_touches s m args below meth c H locs 0 0 (MQ below (va_Qi (fun (r2 : Int32) (_ : Unit) => r2 = r) (fun _ t => PW G (AM G) (XM G) sz M' t t.heap) (AM G)) args s 0 0 (AM G)) (F0 m 262 ls []) := by
  obtain ⟨hx, hb, hr, hlocks, hml, hown, hts, hK⟩ := id E
  unfold f_X8_touches_b262 at hf
  refine lv_iconst (v := 1) hx hb dX8_touches_262 (by decide) ?_
  refine lv_goto (tgt := 267) hx hb dX8_touches_263 (by decide) ?_
  exact w_X8_touches_b267 E hf hP hS (lv_sub hl [] rfl)
set_option maxHeartbeats 4000000 in
set_option maxRecDepth 100000 in
theorem w_X8_touches_b266 {p : Program} {l : Launch} {e : Env} {s : State} {m : MethodId} {args : Array Value} {below : List Frame} {meth : Method} {c : Code} {G : GG} {sz : Nat} {r : Int32} {M' : Mem} (E : Cx p s m args meth c cX8_touches (some .boolean) 6 RX8 G) {M : Mem} {H : Heap} {locs : List Loc} {ls : Array Slot} (hf : f_X8_touches_b266 M = some (r, M')) (hP : PW G (AM G) (XM G) sz M s H) (hS : va_S (AM G) s.heap H locs) (hl : lv_has ls 6 []) : W p l e rm_X8_touches s m args below meth c H locs 0 0 (MQ below (va_Qi (fun (r2 : Int32) (_ : Unit) => r2 = r) (fun _ t => PW G (AM G) (XM G) sz M' t t.heap) (AM G)) args s 0 0 (AM G)) (F0 m 266 ls []) := by
  obtain ⟨hx, hb, hr, hlocks, hml, hown, hts, hK⟩ := id E
  unfold f_X8_touches_b266 at hf
  refine lv_iconst (v := 0) hx hb dX8_touches_266 (by decide) ?_
  exact w_X8_touches_b267 E hf hP hS (lv_sub hl [] rfl)
set_option maxHeartbeats 4000000 in
set_option maxRecDepth 100000 in
theorem w_X8_touches_b246 {p : Program} {l : Launch} {e : Env} {s : State} {m : MethodId} {args : Array Value} {below : List Frame} {meth : Method} {c : Code} {G : GG} {sz : Nat} {r : Int32} {M' : Mem} (E : Cx p s m args meth c cX8_touches (some .boolean) 6 RX8 G) {x3 : Int32} {x4 : Int32} {s0 : Int32} {M : Mem} {H : Heap} {locs : List Loc} {ls : Array Slot} (hf : f_X8_touches_b246 x3 x4 s0 M = some (r, M')) (hP : PW G (AM G) (XM G) sz M s H) (hS : va_S (AM G) s.heap H locs) (hl : lv_has ls 6 [(3, .int x3), (4, .int x4)]) : W p l e rm_X8_touches s m args below meth c H locs 0 0 (MQ below (va_Qi (fun (r2 : Int32) (_ : Unit) => r2 = r) (fun _ t => PW G (AM G) (XM G) sz M' t t.heap) (AM G)) args s 0 0 (AM G)) (F0 m 246 ls [.int s0]) := by
  obtain ⟨hx, hb, hr, hlocks, hml, hown, hts, hK⟩ := id E
  unfold f_X8_touches_b246 at hf
  refine lv_istore (lv' := [(5, .int s0), (3, .int x3), (4, .int x4)]) hx hb dX8_touches_246 hl (by decide) rfl (fun ls hl => ?_)
  refine lv_iload hx hb dX8_touches_248 (lv_at hl 0 rfl) ?_
  refine lv_if_ne (tgt := 262) hx hb dX8_touches_250 (by decide) (fun hc => ?_) (fun hc => ?_)
  · have hf := if_f hf hc
    exact w_X8_touches_b262 E hf hP hS (lv_sub hl [] rfl)
  · have hf := if_t hf hc
    refine lv_iload_n hx hb dX8_touches_253 rfl (lv_at hl 1 rfl) ?_
    refine lv_if_ge (tgt := 266) hx hb dX8_touches_254 (by decide) (fun hc => ?_) (fun hc => ?_)
    · have hf := if_t hf hc
      exact w_X8_touches_b266 E hf hP hS (lv_sub hl [] rfl)
    · have hf := if_f hf hc
      refine lv_iload hx hb dX8_touches_257 (lv_at hl 2 rfl) ?_
      refine lv_if_ge (tgt := 266) hx hb dX8_touches_259 (by decide) (fun hc => ?_) (fun hc => ?_)
      · have hf := if_t hf hc
        exact w_X8_touches_b266 E hf hP hS (lv_sub hl [] rfl)
      · have hf := if_f hf hc
        exact w_X8_touches_b262 E hf hP hS (lv_sub hl [] rfl)
set_option maxHeartbeats 4000000 in
set_option maxRecDepth 100000 in
theorem w_X8_touches_b241 {p : Program} {l : Launch} {e : Env} {s : State} {m : MethodId} {args : Array Value} {below : List Frame} {meth : Method} {c : Code} {G : GG} {sz : Nat} {r : Int32} {M' : Mem} (E : Cx p s m args meth c cX8_touches (some .boolean) 6 RX8 G) {x3 : Int32} {x4 : Int32} {M : Mem} {H : Heap} {locs : List Loc} {ls : Array Slot} (hf : f_X8_touches_b241 x3 x4 M = some (r, M')) (hP : PW G (AM G) (XM G) sz M s H) (hS : va_S (AM G) s.heap H locs) (hl : lv_has ls 6 [(3, .int x3), (4, .int x4)]) : W p l e rm_X8_touches s m args below meth c H locs 0 0 (MQ below (va_Qi (fun (r2 : Int32) (_ : Unit) => r2 = r) (fun _ t => PW G (AM G) (XM G) sz M' t t.heap) (AM G)) args s 0 0 (AM G)) (F0 m 241 ls []) := by
  obtain ⟨hx, hb, hr, hlocks, hml, hown, hts, hK⟩ := id E
  unfold f_X8_touches_b241 at hf
  refine lv_iconst (v := 1) hx hb dX8_touches_241 (by decide) ?_
  refine lv_goto (tgt := 246) hx hb dX8_touches_242 (by decide) ?_
  exact w_X8_touches_b246 E hf hP hS (lv_sub hl [0, 1] rfl)
set_option maxHeartbeats 4000000 in
set_option maxRecDepth 100000 in
theorem w_X8_touches {p : Program} {l : Launch} {e : Env} {s : State} {m : MethodId} {args : Array Value} {below : List Frame} {meth : Method} {c : Code} {G : GG} {sz : Nat} {r : Int32} {M' : Mem} (E : Cx p s m args meth c cX8_touches (some .boolean) 6 RX8 G) {x1 : Int32} {x2 : Int32} {M : Mem} {H : Heap} {locs : List Loc} {ls : Array Slot} (hf : f_X8_touches x1 x2 M = some (r, M')) (hP : PW G (AM G) (XM G) sz M s H) (hS : va_S (AM G) s.heap H locs) (hl : lv_has ls 6 [(0, .ref (adM G 0 0)), (1, .int x1), (2, .int x2)]) : W p l e rm_X8_touches s m args below meth c H locs 0 0 (MQ below (va_Qi (fun (r2 : Int32) (_ : Unit) => r2 = r) (fun _ t => PW G (AM G) (XM G) sz M' t t.heap) (AM G)) args s 0 0 (AM G)) (F0 m 0 ls []) := by
  obtain ⟨hx, hb, hr, hlocks, hml, hown, hts, hK⟩ := id E
  unfold f_X8_touches at hf
  refine lv_aload_n hx hb dX8_touches_0 rfl (lv_at hl 0 rfl) ?_
  refine lv_iload_n hx hb dX8_touches_1 rfl (lv_at hl 1 rfl) ?_
  refine lv_iconst (v := 0) hx hb dX8_touches_2 (by decide) ?_
  refine ob_e hf (fun r_3 M_3 hq hf => ?_)
  refine cv_X8_ln E hP hS hq w_916 ⟨Nat.le_of_ble_eq_true rfl, Nat.le_of_ble_eq_true rfl⟩ hl (Nat.le_of_ble_eq_true rfl) dX8_touches_3 ⟨Nat.le_of_ble_eq_true rfl, Nat.le_of_ble_eq_true rfl⟩ (fun H locs hP hS => ?_)
  refine lv_aload_n hx hb dX8_touches_6 rfl (lv_at hl 0 rfl) ?_
  refine lv_iload_n hx hb dX8_touches_7 rfl (lv_at hl 1 rfl) ?_
  refine lv_iconst (v := 1) hx hb dX8_touches_8 (by decide) ?_
  refine ob_e hf (fun r_9 M_9 hq hf => ?_)
  refine cv_X8_ln E hP hS hq w_916 ⟨Nat.le_of_ble_eq_true rfl, Nat.le_of_ble_eq_true rfl⟩ hl (Nat.le_of_ble_eq_true rfl) dX8_touches_9 ⟨Nat.le_of_ble_eq_true rfl, Nat.le_of_ble_eq_true rfl⟩ (fun H locs hP hS => ?_)
  refine lv_aload_n hx hb dX8_touches_12 rfl (lv_at hl 0 rfl) ?_
  refine lv_iload_n hx hb dX8_touches_13 rfl (lv_at hl 1 rfl) ?_
  refine lv_iconst (v := 2) hx hb dX8_touches_14 (by decide) ?_
  refine ob_e hf (fun r_15 M_15 hq hf => ?_)
  refine cv_X8_ln E hP hS hq w_916 ⟨Nat.le_of_ble_eq_true rfl, Nat.le_of_ble_eq_true rfl⟩ hl (Nat.le_of_ble_eq_true rfl) dX8_touches_15 ⟨Nat.le_of_ble_eq_true rfl, Nat.le_of_ble_eq_true rfl⟩ (fun H locs hP hS => ?_)
  refine lv_aload_n hx hb dX8_touches_18 rfl (lv_at hl 0 rfl) ?_
  refine lv_iload_n hx hb dX8_touches_19 rfl (lv_at hl 1 rfl) ?_
  refine lv_iconst (v := 3) hx hb dX8_touches_20 (by decide) ?_
  refine ob_e hf (fun r_21 M_21 hq hf => ?_)
  refine cv_X8_ln E hP hS hq w_916 ⟨Nat.le_of_ble_eq_true rfl, Nat.le_of_ble_eq_true rfl⟩ hl (Nat.le_of_ble_eq_true rfl) dX8_touches_21 ⟨Nat.le_of_ble_eq_true rfl, Nat.le_of_ble_eq_true rfl⟩ (fun H locs hP hS => ?_)
  refine lv_aload_n hx hb dX8_touches_24 rfl (lv_at hl 0 rfl) ?_
  refine lv_iload_n hx hb dX8_touches_25 rfl (lv_at hl 2 rfl) ?_
  refine lv_iconst (v := 0) hx hb dX8_touches_26 (by decide) ?_
  refine ob_e hf (fun r_27 M_27 hq hf => ?_)
  refine cv_X8_ln E hP hS hq w_916 ⟨Nat.le_of_ble_eq_true rfl, Nat.le_of_ble_eq_true rfl⟩ hl (Nat.le_of_ble_eq_true rfl) dX8_touches_27 ⟨Nat.le_of_ble_eq_true rfl, Nat.le_of_ble_eq_true rfl⟩ (fun H locs hP hS => ?_)
  refine lv_aload_n hx hb dX8_touches_30 rfl (lv_at hl 0 rfl) ?_
  refine lv_iload_n hx hb dX8_touches_31 rfl (lv_at hl 2 rfl) ?_
  refine lv_iconst (v := 1) hx hb dX8_touches_32 (by decide) ?_
  refine ob_e hf (fun r_33 M_33 hq hf => ?_)
  refine cv_X8_ln E hP hS hq w_916 ⟨Nat.le_of_ble_eq_true rfl, Nat.le_of_ble_eq_true rfl⟩ hl (Nat.le_of_ble_eq_true rfl) dX8_touches_33 ⟨Nat.le_of_ble_eq_true rfl, Nat.le_of_ble_eq_true rfl⟩ (fun H locs hP hS => ?_)
  refine ob_e hf (fun r_36 M_36 hq hf => ?_)
  refine cv_X8_side E hP hS hq w_993 ⟨Nat.le_of_ble_eq_true rfl, Nat.le_of_ble_eq_true rfl⟩ hl (Nat.le_of_ble_eq_true rfl) dX8_touches_36 ⟨Nat.le_of_ble_eq_true rfl, Nat.le_of_ble_eq_true rfl⟩ (fun H locs hP hS => ?_)
  refine lv_aload_n hx hb dX8_touches_39 rfl (lv_at hl 0 rfl) ?_
  refine lv_iload_n hx hb dX8_touches_40 rfl (lv_at hl 1 rfl) ?_
  refine lv_iconst (v := 0) hx hb dX8_touches_41 (by decide) ?_
  refine ob_e hf (fun r_42 M_42 hq hf => ?_)
  refine cv_X8_ln E hP hS hq w_916 ⟨Nat.le_of_ble_eq_true rfl, Nat.le_of_ble_eq_true rfl⟩ hl (Nat.le_of_ble_eq_true rfl) dX8_touches_42 ⟨Nat.le_of_ble_eq_true rfl, Nat.le_of_ble_eq_true rfl⟩ (fun H locs hP hS => ?_)
  refine lv_aload_n hx hb dX8_touches_45 rfl (lv_at hl 0 rfl) ?_
  refine lv_iload_n hx hb dX8_touches_46 rfl (lv_at hl 1 rfl) ?_
  refine lv_iconst (v := 1) hx hb dX8_touches_47 (by decide) ?_
  refine ob_e hf (fun r_48 M_48 hq hf => ?_)
  refine cv_X8_ln E hP hS hq w_916 ⟨Nat.le_of_ble_eq_true rfl, Nat.le_of_ble_eq_true rfl⟩ hl (Nat.le_of_ble_eq_true rfl) dX8_touches_48 ⟨Nat.le_of_ble_eq_true rfl, Nat.le_of_ble_eq_true rfl⟩ (fun H locs hP hS => ?_)
  refine lv_aload_n hx hb dX8_touches_51 rfl (lv_at hl 0 rfl) ?_
  refine lv_iload_n hx hb dX8_touches_52 rfl (lv_at hl 1 rfl) ?_
  refine lv_iconst (v := 2) hx hb dX8_touches_53 (by decide) ?_
  refine ob_e hf (fun r_54 M_54 hq hf => ?_)
  refine cv_X8_ln E hP hS hq w_916 ⟨Nat.le_of_ble_eq_true rfl, Nat.le_of_ble_eq_true rfl⟩ hl (Nat.le_of_ble_eq_true rfl) dX8_touches_54 ⟨Nat.le_of_ble_eq_true rfl, Nat.le_of_ble_eq_true rfl⟩ (fun H locs hP hS => ?_)
  refine lv_aload_n hx hb dX8_touches_57 rfl (lv_at hl 0 rfl) ?_
  refine lv_iload_n hx hb dX8_touches_58 rfl (lv_at hl 1 rfl) ?_
  refine lv_iconst (v := 3) hx hb dX8_touches_59 (by decide) ?_
  refine ob_e hf (fun r_60 M_60 hq hf => ?_)
  refine cv_X8_ln E hP hS hq w_916 ⟨Nat.le_of_ble_eq_true rfl, Nat.le_of_ble_eq_true rfl⟩ hl (Nat.le_of_ble_eq_true rfl) dX8_touches_60 ⟨Nat.le_of_ble_eq_true rfl, Nat.le_of_ble_eq_true rfl⟩ (fun H locs hP hS => ?_)
  refine lv_aload_n hx hb dX8_touches_63 rfl (lv_at hl 0 rfl) ?_
  refine lv_iload_n hx hb dX8_touches_64 rfl (lv_at hl 2 rfl) ?_
  refine lv_iconst (v := 2) hx hb dX8_touches_65 (by decide) ?_
  refine ob_e hf (fun r_66 M_66 hq hf => ?_)
  refine cv_X8_ln E hP hS hq w_916 ⟨Nat.le_of_ble_eq_true rfl, Nat.le_of_ble_eq_true rfl⟩ hl (Nat.le_of_ble_eq_true rfl) dX8_touches_66 ⟨Nat.le_of_ble_eq_true rfl, Nat.le_of_ble_eq_true rfl⟩ (fun H locs hP hS => ?_)
  refine lv_aload_n hx hb dX8_touches_69 rfl (lv_at hl 0 rfl) ?_
  refine lv_iload_n hx hb dX8_touches_70 rfl (lv_at hl 2 rfl) ?_
  refine lv_iconst (v := 3) hx hb dX8_touches_71 (by decide) ?_
  refine ob_e hf (fun r_72 M_72 hq hf => ?_)
  refine cv_X8_ln E hP hS hq w_916 ⟨Nat.le_of_ble_eq_true rfl, Nat.le_of_ble_eq_true rfl⟩ hl (Nat.le_of_ble_eq_true rfl) dX8_touches_72 ⟨Nat.le_of_ble_eq_true rfl, Nat.le_of_ble_eq_true rfl⟩ (fun H locs hP hS => ?_)
  refine ob_e hf (fun r_75 M_75 hq hf => ?_)
  refine cv_X8_side E hP hS hq w_993 ⟨Nat.le_of_ble_eq_true rfl, Nat.le_of_ble_eq_true rfl⟩ hl (Nat.le_of_ble_eq_true rfl) dX8_touches_75 ⟨Nat.le_of_ble_eq_true rfl, Nat.le_of_ble_eq_true rfl⟩ (fun H locs hP hS => ?_)
  refine lv_imul hx hb dX8_touches_78 ?_
  refine lt_e hf (fun x3_79 hx3_79 hf => ?_)
  refine kr_nm hx3_79 ?_
  refine lv_istore_n (lv' := [(3, .int x3_79), (0, .ref (adM G 0 0)), (1, .int x1), (2, .int x2)]) hx hb dX8_touches_79 rfl hl (by decide) rfl (fun ls hl => ?_)
  refine lv_aload_n hx hb dX8_touches_80 rfl (lv_at hl 1 rfl) ?_
  refine lv_iload_n hx hb dX8_touches_81 rfl (lv_at hl 3 rfl) ?_
  refine lv_iconst (v := 0) hx hb dX8_touches_82 (by decide) ?_
  refine ob_e hf (fun r_83 M_83 hq hf => ?_)
  refine cv_X8_ln E hP hS hq w_916 ⟨Nat.le_of_ble_eq_true rfl, Nat.le_of_ble_eq_true rfl⟩ hl (Nat.le_of_ble_eq_true rfl) dX8_touches_83 ⟨Nat.le_of_ble_eq_true rfl, Nat.le_of_ble_eq_true rfl⟩ (fun H locs hP hS => ?_)
  refine lv_aload_n hx hb dX8_touches_86 rfl (lv_at hl 1 rfl) ?_
  refine lv_iload_n hx hb dX8_touches_87 rfl (lv_at hl 3 rfl) ?_
  refine lv_iconst (v := 1) hx hb dX8_touches_88 (by decide) ?_
  refine ob_e hf (fun r_89 M_89 hq hf => ?_)
  refine cv_X8_ln E hP hS hq w_916 ⟨Nat.le_of_ble_eq_true rfl, Nat.le_of_ble_eq_true rfl⟩ hl (Nat.le_of_ble_eq_true rfl) dX8_touches_89 ⟨Nat.le_of_ble_eq_true rfl, Nat.le_of_ble_eq_true rfl⟩ (fun H locs hP hS => ?_)
  refine lv_aload_n hx hb dX8_touches_92 rfl (lv_at hl 1 rfl) ?_
  refine lv_iload_n hx hb dX8_touches_93 rfl (lv_at hl 3 rfl) ?_
  refine lv_iconst (v := 2) hx hb dX8_touches_94 (by decide) ?_
  refine ob_e hf (fun r_95 M_95 hq hf => ?_)
  refine cv_X8_ln E hP hS hq w_916 ⟨Nat.le_of_ble_eq_true rfl, Nat.le_of_ble_eq_true rfl⟩ hl (Nat.le_of_ble_eq_true rfl) dX8_touches_95 ⟨Nat.le_of_ble_eq_true rfl, Nat.le_of_ble_eq_true rfl⟩ (fun H locs hP hS => ?_)
  refine lv_aload_n hx hb dX8_touches_98 rfl (lv_at hl 1 rfl) ?_
  refine lv_iload_n hx hb dX8_touches_99 rfl (lv_at hl 3 rfl) ?_
  refine lv_iconst (v := 3) hx hb dX8_touches_100 (by decide) ?_
  refine ob_e hf (fun r_101 M_101 hq hf => ?_)
  refine cv_X8_ln E hP hS hq w_916 ⟨Nat.le_of_ble_eq_true rfl, Nat.le_of_ble_eq_true rfl⟩ hl (Nat.le_of_ble_eq_true rfl) dX8_touches_101 ⟨Nat.le_of_ble_eq_true rfl, Nat.le_of_ble_eq_true rfl⟩ (fun H locs hP hS => ?_)
  refine lv_aload_n hx hb dX8_touches_104 rfl (lv_at hl 1 rfl) ?_
  refine lv_iload_n hx hb dX8_touches_105 rfl (lv_at hl 2 rfl) ?_
  refine lv_iconst (v := 0) hx hb dX8_touches_106 (by decide) ?_
  refine ob_e hf (fun r_107 M_107 hq hf => ?_)
  refine cv_X8_ln E hP hS hq w_916 ⟨Nat.le_of_ble_eq_true rfl, Nat.le_of_ble_eq_true rfl⟩ hl (Nat.le_of_ble_eq_true rfl) dX8_touches_107 ⟨Nat.le_of_ble_eq_true rfl, Nat.le_of_ble_eq_true rfl⟩ (fun H locs hP hS => ?_)
  refine lv_aload_n hx hb dX8_touches_110 rfl (lv_at hl 1 rfl) ?_
  refine lv_iload_n hx hb dX8_touches_111 rfl (lv_at hl 2 rfl) ?_
  refine lv_iconst (v := 1) hx hb dX8_touches_112 (by decide) ?_
  refine ob_e hf (fun r_113 M_113 hq hf => ?_)
  refine cv_X8_ln E hP hS hq w_916 ⟨Nat.le_of_ble_eq_true rfl, Nat.le_of_ble_eq_true rfl⟩ hl (Nat.le_of_ble_eq_true rfl) dX8_touches_113 ⟨Nat.le_of_ble_eq_true rfl, Nat.le_of_ble_eq_true rfl⟩ (fun H locs hP hS => ?_)
  refine ob_e hf (fun r_116 M_116 hq hf => ?_)
  refine cv_X8_side E hP hS hq w_993 ⟨Nat.le_of_ble_eq_true rfl, Nat.le_of_ble_eq_true rfl⟩ hl (Nat.le_of_ble_eq_true rfl) dX8_touches_116 ⟨Nat.le_of_ble_eq_true rfl, Nat.le_of_ble_eq_true rfl⟩ (fun H locs hP hS => ?_)
  refine lv_aload_n hx hb dX8_touches_119 rfl (lv_at hl 1 rfl) ?_
  refine lv_iload_n hx hb dX8_touches_120 rfl (lv_at hl 3 rfl) ?_
  refine lv_iconst (v := 0) hx hb dX8_touches_121 (by decide) ?_
  refine ob_e hf (fun r_122 M_122 hq hf => ?_)
  refine cv_X8_ln E hP hS hq w_916 ⟨Nat.le_of_ble_eq_true rfl, Nat.le_of_ble_eq_true rfl⟩ hl (Nat.le_of_ble_eq_true rfl) dX8_touches_122 ⟨Nat.le_of_ble_eq_true rfl, Nat.le_of_ble_eq_true rfl⟩ (fun H locs hP hS => ?_)
  refine lv_aload_n hx hb dX8_touches_125 rfl (lv_at hl 1 rfl) ?_
  refine lv_iload_n hx hb dX8_touches_126 rfl (lv_at hl 3 rfl) ?_
  refine lv_iconst (v := 1) hx hb dX8_touches_127 (by decide) ?_
  refine ob_e hf (fun r_128 M_128 hq hf => ?_)
  refine cv_X8_ln E hP hS hq w_916 ⟨Nat.le_of_ble_eq_true rfl, Nat.le_of_ble_eq_true rfl⟩ hl (Nat.le_of_ble_eq_true rfl) dX8_touches_128 ⟨Nat.le_of_ble_eq_true rfl, Nat.le_of_ble_eq_true rfl⟩ (fun H locs hP hS => ?_)
  refine lv_aload_n hx hb dX8_touches_131 rfl (lv_at hl 1 rfl) ?_
  refine lv_iload_n hx hb dX8_touches_132 rfl (lv_at hl 3 rfl) ?_
  refine lv_iconst (v := 2) hx hb dX8_touches_133 (by decide) ?_
  refine ob_e hf (fun r_134 M_134 hq hf => ?_)
  refine cv_X8_ln E hP hS hq w_916 ⟨Nat.le_of_ble_eq_true rfl, Nat.le_of_ble_eq_true rfl⟩ hl (Nat.le_of_ble_eq_true rfl) dX8_touches_134 ⟨Nat.le_of_ble_eq_true rfl, Nat.le_of_ble_eq_true rfl⟩ (fun H locs hP hS => ?_)
  refine lv_aload_n hx hb dX8_touches_137 rfl (lv_at hl 1 rfl) ?_
  refine lv_iload_n hx hb dX8_touches_138 rfl (lv_at hl 3 rfl) ?_
  refine lv_iconst (v := 3) hx hb dX8_touches_139 (by decide) ?_
  refine ob_e hf (fun r_140 M_140 hq hf => ?_)
  refine cv_X8_ln E hP hS hq w_916 ⟨Nat.le_of_ble_eq_true rfl, Nat.le_of_ble_eq_true rfl⟩ hl (Nat.le_of_ble_eq_true rfl) dX8_touches_140 ⟨Nat.le_of_ble_eq_true rfl, Nat.le_of_ble_eq_true rfl⟩ (fun H locs hP hS => ?_)
  refine lv_aload_n hx hb dX8_touches_143 rfl (lv_at hl 1 rfl) ?_
  refine lv_iload_n hx hb dX8_touches_144 rfl (lv_at hl 2 rfl) ?_
  refine lv_iconst (v := 2) hx hb dX8_touches_145 (by decide) ?_
  refine ob_e hf (fun r_146 M_146 hq hf => ?_)
  refine cv_X8_ln E hP hS hq w_916 ⟨Nat.le_of_ble_eq_true rfl, Nat.le_of_ble_eq_true rfl⟩ hl (Nat.le_of_ble_eq_true rfl) dX8_touches_146 ⟨Nat.le_of_ble_eq_true rfl, Nat.le_of_ble_eq_true rfl⟩ (fun H locs hP hS => ?_)
  refine lv_aload_n hx hb dX8_touches_149 rfl (lv_at hl 1 rfl) ?_
  refine lv_iload_n hx hb dX8_touches_150 rfl (lv_at hl 2 rfl) ?_
  refine lv_iconst (v := 3) hx hb dX8_touches_151 (by decide) ?_
  refine ob_e hf (fun r_152 M_152 hq hf => ?_)
  refine cv_X8_ln E hP hS hq w_916 ⟨Nat.le_of_ble_eq_true rfl, Nat.le_of_ble_eq_true rfl⟩ hl (Nat.le_of_ble_eq_true rfl) dX8_touches_152 ⟨Nat.le_of_ble_eq_true rfl, Nat.le_of_ble_eq_true rfl⟩ (fun H locs hP hS => ?_)
  refine ob_e hf (fun r_155 M_155 hq hf => ?_)
  refine cv_X8_side E hP hS hq w_993 ⟨Nat.le_of_ble_eq_true rfl, Nat.le_of_ble_eq_true rfl⟩ hl (Nat.le_of_ble_eq_true rfl) dX8_touches_155 ⟨Nat.le_of_ble_eq_true rfl, Nat.le_of_ble_eq_true rfl⟩ (fun H locs hP hS => ?_)
  refine lv_imul hx hb dX8_touches_158 ?_
  refine lt_e hf (fun x4_159 hx4_159 hf => ?_)
  refine kr_nm hx4_159 ?_
  refine lv_istore (lv' := [(4, .int x4_159), (3, .int x3_79), (0, .ref (adM G 0 0)), (1, .int x1), (2, .int x2)]) hx hb dX8_touches_159 hl (by decide) rfl (fun ls hl => ?_)
  refine lv_aload_n hx hb dX8_touches_161 rfl (lv_at hl 2 rfl) ?_
  refine lv_iload_n hx hb dX8_touches_162 rfl (lv_at hl 3 rfl) ?_
  refine lv_aload_n hx hb dX8_touches_163 rfl (lv_at hl 2 rfl) ?_
  refine lv_iload_n hx hb dX8_touches_164 rfl (lv_at hl 4 rfl) ?_
  refine lv_iconst (v := 0) hx hb dX8_touches_165 (by decide) ?_
  refine ob_e hf (fun r_166 M_166 hq hf => ?_)
  refine cv_X8_ln E hP hS hq w_916 ⟨Nat.le_of_ble_eq_true rfl, Nat.le_of_ble_eq_true rfl⟩ hl (Nat.le_of_ble_eq_true rfl) dX8_touches_166 ⟨Nat.le_of_ble_eq_true rfl, Nat.le_of_ble_eq_true rfl⟩ (fun H locs hP hS => ?_)
  refine lv_aload_n hx hb dX8_touches_169 rfl (lv_at hl 2 rfl) ?_
  refine lv_iload_n hx hb dX8_touches_170 rfl (lv_at hl 4 rfl) ?_
  refine lv_iconst (v := 1) hx hb dX8_touches_171 (by decide) ?_
  refine ob_e hf (fun r_172 M_172 hq hf => ?_)
  refine cv_X8_ln E hP hS hq w_916 ⟨Nat.le_of_ble_eq_true rfl, Nat.le_of_ble_eq_true rfl⟩ hl (Nat.le_of_ble_eq_true rfl) dX8_touches_172 ⟨Nat.le_of_ble_eq_true rfl, Nat.le_of_ble_eq_true rfl⟩ (fun H locs hP hS => ?_)
  refine ob_e hf (fun r_175 M_175 hq hf => ?_)
  refine cv_X8_isOn E hP hS hq w_996 ⟨Nat.le_of_ble_eq_true rfl, Nat.le_of_ble_eq_true rfl⟩ hl (Nat.le_of_ble_eq_true rfl) dX8_touches_175 ⟨Nat.le_of_ble_eq_true rfl, Nat.le_of_ble_eq_true rfl⟩ (fun H locs hP hS => ?_)
  refine lv_if_ne (tgt := 241) hx hb dX8_touches_178 (by decide) (fun hc => ?_) (fun hc => ?_)
  · have hf := if_f hf hc
    exact w_X8_touches_b241 E hf hP hS (lv_sub hl [1, 0] rfl)
  · have hf := if_t hf hc
    refine lv_aload_n hx hb dX8_touches_181 rfl (lv_at hl 2 rfl) ?_
    refine lv_iload_n hx hb dX8_touches_182 rfl (lv_at hl 3 rfl) ?_
    refine lv_aload_n hx hb dX8_touches_183 rfl (lv_at hl 2 rfl) ?_
    refine lv_iload_n hx hb dX8_touches_184 rfl (lv_at hl 4 rfl) ?_
    refine lv_iconst (v := 2) hx hb dX8_touches_185 (by decide) ?_
    refine ob_e hf (fun r_186 M_186 hq hf => ?_)
    refine cv_X8_ln E hP hS hq w_916 ⟨Nat.le_of_ble_eq_true rfl, Nat.le_of_ble_eq_true rfl⟩ hl (Nat.le_of_ble_eq_true rfl) dX8_touches_186 ⟨Nat.le_of_ble_eq_true rfl, Nat.le_of_ble_eq_true rfl⟩ (fun H locs hP hS => ?_)
    refine lv_aload_n hx hb dX8_touches_189 rfl (lv_at hl 2 rfl) ?_
    refine lv_iload_n hx hb dX8_touches_190 rfl (lv_at hl 4 rfl) ?_
    refine lv_iconst (v := 3) hx hb dX8_touches_191 (by decide) ?_
    refine ob_e hf (fun r_192 M_192 hq hf => ?_)
    refine cv_X8_ln E hP hS hq w_916 ⟨Nat.le_of_ble_eq_true rfl, Nat.le_of_ble_eq_true rfl⟩ hl (Nat.le_of_ble_eq_true rfl) dX8_touches_192 ⟨Nat.le_of_ble_eq_true rfl, Nat.le_of_ble_eq_true rfl⟩ (fun H locs hP hS => ?_)
    refine ob_e hf (fun r_195 M_195 hq hf => ?_)
    refine cv_X8_isOn E hP hS hq w_996 ⟨Nat.le_of_ble_eq_true rfl, Nat.le_of_ble_eq_true rfl⟩ hl (Nat.le_of_ble_eq_true rfl) dX8_touches_195 ⟨Nat.le_of_ble_eq_true rfl, Nat.le_of_ble_eq_true rfl⟩ (fun H locs hP hS => ?_)
    refine lv_if_ne (tgt := 241) hx hb dX8_touches_198 (by decide) (fun hc => ?_) (fun hc => ?_)
    · have hf := if_f hf hc
      exact w_X8_touches_b241 E hf hP hS (lv_sub hl [1, 0] rfl)
    · have hf := if_t hf hc
      refine lv_aload_n hx hb dX8_touches_201 rfl (lv_at hl 2 rfl) ?_
      refine lv_iload_n hx hb dX8_touches_202 rfl (lv_at hl 4 rfl) ?_
      refine lv_aload_n hx hb dX8_touches_203 rfl (lv_at hl 2 rfl) ?_
      refine lv_iload_n hx hb dX8_touches_204 rfl (lv_at hl 3 rfl) ?_
      refine lv_iconst (v := 0) hx hb dX8_touches_205 (by decide) ?_
      refine ob_e hf (fun r_206 M_206 hq hf => ?_)
      refine cv_X8_ln E hP hS hq w_916 ⟨Nat.le_of_ble_eq_true rfl, Nat.le_of_ble_eq_true rfl⟩ hl (Nat.le_of_ble_eq_true rfl) dX8_touches_206 ⟨Nat.le_of_ble_eq_true rfl, Nat.le_of_ble_eq_true rfl⟩ (fun H locs hP hS => ?_)
      refine lv_aload_n hx hb dX8_touches_209 rfl (lv_at hl 2 rfl) ?_
      refine lv_iload_n hx hb dX8_touches_210 rfl (lv_at hl 3 rfl) ?_
      refine lv_iconst (v := 1) hx hb dX8_touches_211 (by decide) ?_
      refine ob_e hf (fun r_212 M_212 hq hf => ?_)
      refine cv_X8_ln E hP hS hq w_916 ⟨Nat.le_of_ble_eq_true rfl, Nat.le_of_ble_eq_true rfl⟩ hl (Nat.le_of_ble_eq_true rfl) dX8_touches_212 ⟨Nat.le_of_ble_eq_true rfl, Nat.le_of_ble_eq_true rfl⟩ (fun H locs hP hS => ?_)
      refine ob_e hf (fun r_215 M_215 hq hf => ?_)
      refine cv_X8_isOn E hP hS hq w_996 ⟨Nat.le_of_ble_eq_true rfl, Nat.le_of_ble_eq_true rfl⟩ hl (Nat.le_of_ble_eq_true rfl) dX8_touches_215 ⟨Nat.le_of_ble_eq_true rfl, Nat.le_of_ble_eq_true rfl⟩ (fun H locs hP hS => ?_)
      refine lv_if_ne (tgt := 241) hx hb dX8_touches_218 (by decide) (fun hc => ?_) (fun hc => ?_)
      · have hf := if_f hf hc
        exact w_X8_touches_b241 E hf hP hS (lv_sub hl [1, 0] rfl)
      · have hf := if_t hf hc
        refine lv_aload_n hx hb dX8_touches_221 rfl (lv_at hl 2 rfl) ?_
        refine lv_iload_n hx hb dX8_touches_222 rfl (lv_at hl 4 rfl) ?_
        refine lv_aload_n hx hb dX8_touches_223 rfl (lv_at hl 2 rfl) ?_
        refine lv_iload_n hx hb dX8_touches_224 rfl (lv_at hl 3 rfl) ?_
        refine lv_iconst (v := 2) hx hb dX8_touches_225 (by decide) ?_
        refine ob_e hf (fun r_226 M_226 hq hf => ?_)
        refine cv_X8_ln E hP hS hq w_916 ⟨Nat.le_of_ble_eq_true rfl, Nat.le_of_ble_eq_true rfl⟩ hl (Nat.le_of_ble_eq_true rfl) dX8_touches_226 ⟨Nat.le_of_ble_eq_true rfl, Nat.le_of_ble_eq_true rfl⟩ (fun H locs hP hS => ?_)
        refine lv_aload_n hx hb dX8_touches_229 rfl (lv_at hl 2 rfl) ?_
        refine lv_iload_n hx hb dX8_touches_230 rfl (lv_at hl 3 rfl) ?_
        refine lv_iconst (v := 3) hx hb dX8_touches_231 (by decide) ?_
        refine ob_e hf (fun r_232 M_232 hq hf => ?_)
        refine cv_X8_ln E hP hS hq w_916 ⟨Nat.le_of_ble_eq_true rfl, Nat.le_of_ble_eq_true rfl⟩ hl (Nat.le_of_ble_eq_true rfl) dX8_touches_232 ⟨Nat.le_of_ble_eq_true rfl, Nat.le_of_ble_eq_true rfl⟩ (fun H locs hP hS => ?_)
        refine ob_e hf (fun r_235 M_235 hq hf => ?_)
        refine cv_X8_isOn E hP hS hq w_996 ⟨Nat.le_of_ble_eq_true rfl, Nat.le_of_ble_eq_true rfl⟩ hl (Nat.le_of_ble_eq_true rfl) dX8_touches_235 ⟨Nat.le_of_ble_eq_true rfl, Nat.le_of_ble_eq_true rfl⟩ (fun H locs hP hS => ?_)
        refine lv_if_eq (tgt := 245) hx hb dX8_touches_238 (by decide) (fun hc => ?_) (fun hc => ?_)
        · have hf := if_t hf hc
          refine lv_iconst (v := 0) hx hb dX8_touches_245 (by decide) ?_
          exact w_X8_touches_b246 E hf hP hS (lv_sub hl [1, 0] rfl)
        · have hf := if_f hf hc
          exact w_X8_touches_b241 E hf hP hS (lv_sub hl [1, 0] rfl)
theorem c_X8_touches (l : Launch) {G : GG} {sz : Nat} {x1 : Int32} {x2 : Int32} {M : Mem} {r : Int32} {M' : Mem} (hf : f_X8_touches x1 x2 M = some (r, M')) : CtI l yX8_touches cX8_touches 6 (some .boolean) rm_X8_touches [.ref (adM G 0 0), .int x1, .int x2] G (AM G) (XM G) sz M r (XM G) sz M' := by
  refine Ct_of (by decide) (Nat.le_of_ble_eq_true rfl) (fun p e s m below meth c ls hx hb hr hlocks hml hown hts hK hP hl => ?_)
  exact w_X8_touches ⟨hx, hb, hr, hlocks, hml, hown, hts, hK⟩ hf hP va_S.rf hl
set_option maxRecDepth 100000 in
theorem cv_X8_touches {p : Program} {l : Launch} {e : Env} {R : Room} {s : State} {m : MethodId} {args : Array Value} {below : List Frame} {meth : Method} {c : Code} {H : Heap} {locs : List Loc} {cells slots : Nat} {Q : State → Prop} {cc : ByteArray} {pc nL index : Nat} {ret : Option FieldType} {own : String} {ls : Array Slot} {rest : List Value} {l' : List (Nat × Value)} {G : GG} {sz : Nat} {M : Mem} (E : Cx p s m args meth c cc ret nL own G) (hP : PW G (AM G) (XM G) sz M s H) (hS : va_S (AM G) s.heap H locs) {x1 : Int32} {x2 : Int32} {r : Int32} {M' : Mem} (hq : f_X8_touches x1 x2 M = some (r, M')) (w1 : Cond.methodLink own index yX8_touches ∈ lw_all) (hR : 3 ≤ R.frames ∧ 75 ≤ R.locals) (hl : lv_has ls nL l') (hrest : (rest.map fun v => v.category).sum ≤ 8) (hdg : decode cc pc = .ok (.invokevirtual index, 3)) (hcs : cells ≤ R.cells ∧ slots ≤ R.slots)
    (kk : ∀ (H1 : Heap) (locs1 : List Loc), PW G (AM G) (XM G) sz M' s H1 → va_S (AM G) s.heap H1 locs1 → W p l e R s m args below meth c H1 locs1 cells slots Q (F0 m (pc + 3) ls (.int r :: rest))) : W p l e R s m args below meth c H locs cells slots Q (F0 m pc ls (.int x2 :: .int x1 :: .ref (adM G 0 0) :: rest)) := by
  obtain ⟨hx, hb, hr, hlocks, hml, hown, hts, hK⟩ := E
  exact kc_i (kc_runV (na := 2) (q := (RX8, TX8, 16)) hx hb hml hts hown hK hP 0 0 ⟨rfl, by decide⟩ rfl rfl rfl (c_X8_touches l hq) w1 w_991 ws_41 w_9 w_992 (by decide +kernel) hR rfl hl rfl hrest hdg hcs) hS kk
/-! X8_isWetBeside -/
abbrev rm_X8_isWetBeside : Room := { frames := 3, cells := 0, slots := 0, locals := 75 }
def f_X8_isWetBeside_b62 (L5 : Int32 → Int32 → Int32 → Int32 → Mem → Option (Int32 × Mem)) (x1 : Int32) (x2 : Int32) (x4 : Int32) (s0 : Int32) (M : Mem) : Option (Int32 × Mem) :=
lt (x4 + 1) fun x4_63 =>
L5 x1 x2 s0 x4_63 M
def f_X8_isWetBeside_b57 (L5 : Int32 → Int32 → Int32 → Int32 → Mem → Option (Int32 × Mem)) (x1 : Int32) (x2 : Int32) (x4 : Int32) (M : Mem) : Option (Int32 × Mem) :=
f_X8_isWetBeside_b62 L5 x1 x2 x4 1 M
def f_X8_isWetBeside_b61 (L5 : Int32 → Int32 → Int32 → Int32 → Mem → Option (Int32 × Mem)) (x1 : Int32) (x2 : Int32) (x4 : Int32) (M : Mem) : Option (Int32 × Mem) :=
f_X8_isWetBeside_b62 L5 x1 x2 x4 0 M
def f_X8_isWetBeside_b5 : Nat → Int32 → Int32 → Int32 → Int32 → Mem → Option (Int32 × Mem)
  | 0 => fun _ _ _ _ _ => none
  | fu + 1 => fun x1 x2 x3 x4 M =>
(if (M 0 1 (ix 1)) ≤ x4 then
  ck (bl x3) <|
  some (x3, M)
else
  (if x3 = 0 then
    ob (f_X8_isWet x4 x2 M) fun r_24 M_24 =>
    (if r_24 = 0 then
      f_X8_isWetBeside_b61 (f_X8_isWetBeside_b5 fu) x1 x2 x4 M_24
    else
      ob (f_X8_ln x4 4 M_24) fun r_34 M_34 =>
      (if r_34 = (M_34 0 1 (ix 8)) then
        f_X8_isWetBeside_b61 (f_X8_isWetBeside_b5 fu) x1 x2 x4 M_34
      else
        ob (f_X8_touches x1 x4 M_34) fun r_51 M_51 =>
        (if r_51 = 0 then
          f_X8_isWetBeside_b61 (f_X8_isWetBeside_b5 fu) x1 x2 x4 M_51
        else
          f_X8_isWetBeside_b57 (f_X8_isWetBeside_b5 fu) x1 x2 x4 M_51)))
  else
    f_X8_isWetBeside_b57 (f_X8_isWetBeside_b5 fu) x1 x2 x4 M))
def f_X8_isWetBeside (x1 : Int32) (x2 : Int32) (M : Mem) : Option (Int32 × Mem) :=
f_X8_isWetBeside_b5 1000 x1 x2 0 0 M
set_option maxHeartbeats 4000000 in
set_option maxRecDepth 100000 in
theorem w_X8_isWetBeside_b62 {p : Program} {l : Launch} {e : Env} {s : State} {m : MethodId} {args : Array Value} {below : List Frame} {meth : Method} {c : Code} {G : GG} {sz : Nat} {r : Int32} {M' : Mem} (E : Cx p s m args meth c cX8_isWetBeside (some .boolean) 5 RX8 G) {L5 : Int32 → Int32 → Int32 → Int32 → Mem → Option (Int32 × Mem)} (hL5 : ∀ (x1 : Int32) (x2 : Int32) (x3 : Int32) (x4 : Int32) (M : Mem) (H : Heap) (locs : List Loc) (ls : Array Slot), L5 x1 x2 x3 x4 M = some (r, M') → PW G (AM G) (XM G) sz M s H → va_S (AM G) s.heap H locs → lv_has ls 5 [(0, .ref (adM G 0 0)), (1, .int x1), (2, .int x2), (3, .int x3), (4, .int x4)] → W p l e rm_X8_isWetBeside s m args below meth c H locs 0 0 (MQ below (va_Qi (fun (r2 : Int32) (_ : Unit) => r2 = r) (fun _ t => PW G (AM G) (XM G) sz M' t t.heap) (AM G)) args s 0 0 (AM G)) (F0 m 5 ls [])) {x1 : Int32} {x2 : Int32} {x4 : Int32} {s0 : Int32} {M : Mem} {H : Heap} {locs : List Loc} {ls : Array Slot} (hf : f_X8_isWetBeside_b62 L5 x1 x2 x4 s0 M = some (r, M')) (hP : PW G (AM G) (XM G) sz M s H) (hS : va_S (AM G) s.heap H locs) (hl : lv_has ls 5 [(0, .ref (adM G 0 0)), (1, .int x1), (2, .int x2), (4, .int x4)]) : W p l e rm_X8_isWetBeside s m args below meth c H locs 0 0 (MQ below (va_Qi (fun (r2 : Int32) (_ : Unit) => r2 = r) (fun _ t => PW G (AM G) (XM G) sz M' t t.heap) (AM G)) args s 0 0 (AM G)) (F0 m 62 ls [.int s0]) := by
  obtain ⟨hx, hb, hr, hlocks, hml, hown, hts, hK⟩ := id E
  unfold f_X8_isWetBeside_b62 at hf
  refine lv_istore_n (lv' := [(3, .int s0), (0, .ref (adM G 0 0)), (1, .int x1), (2, .int x2), (4, .int x4)]) hx hb dX8_isWetBeside_62 rfl hl (by decide) rfl (fun ls hl => ?_)
  refine lt_e hf (fun x4_63 hx4_63 hf => ?_)
  refine lv_iinc (v := x4_63) (lv' := [(4, .int x4_63), (3, .int s0), (0, .ref (adM G 0 0)), (1, .int x1), (2, .int x2)]) hx hb dX8_isWetBeside_63 hl (k := 4) rfl (by rw [hx4_63]; rfl) (by decide) rfl (fun ls hl => ?_)
  refine lv_goto (tgt := 5) hx hb dX8_isWetBeside_66 (by decide) ?_
  exact hL5 _ _ _ _ _ _ _ _ hf hP hS (lv_sub hl [2, 3, 4, 1, 0] rfl)
set_option maxHeartbeats 4000000 in
set_option maxRecDepth 100000 in
theorem w_X8_isWetBeside_b57 {p : Program} {l : Launch} {e : Env} {s : State} {m : MethodId} {args : Array Value} {below : List Frame} {meth : Method} {c : Code} {G : GG} {sz : Nat} {r : Int32} {M' : Mem} (E : Cx p s m args meth c cX8_isWetBeside (some .boolean) 5 RX8 G) {L5 : Int32 → Int32 → Int32 → Int32 → Mem → Option (Int32 × Mem)} (hL5 : ∀ (x1 : Int32) (x2 : Int32) (x3 : Int32) (x4 : Int32) (M : Mem) (H : Heap) (locs : List Loc) (ls : Array Slot), L5 x1 x2 x3 x4 M = some (r, M') → PW G (AM G) (XM G) sz M s H → va_S (AM G) s.heap H locs → lv_has ls 5 [(0, .ref (adM G 0 0)), (1, .int x1), (2, .int x2), (3, .int x3), (4, .int x4)] → W p l e rm_X8_isWetBeside s m args below meth c H locs 0 0 (MQ below (va_Qi (fun (r2 : Int32) (_ : Unit) => r2 = r) (fun _ t => PW G (AM G) (XM G) sz M' t t.heap) (AM G)) args s 0 0 (AM G)) (F0 m 5 ls [])) {x1 : Int32} {x2 : Int32} {x4 : Int32} {M : Mem} {H : Heap} {locs : List Loc} {ls : Array Slot} (hf : f_X8_isWetBeside_b57 L5 x1 x2 x4 M = some (r, M')) (hP : PW G (AM G) (XM G) sz M s H) (hS : va_S (AM G) s.heap H locs) (hl : lv_has ls 5 [(0, .ref (adM G 0 0)), (1, .int x1), (2, .int x2), (4, .int x4)]) : W p l e rm_X8_isWetBeside s m args below meth c H locs 0 0 (MQ below (va_Qi (fun (r2 : Int32) (_ : Unit) => r2 = r) (fun _ t => PW G (AM G) (XM G) sz M' t t.heap) (AM G)) args s 0 0 (AM G)) (F0 m 57 ls []) := by
  obtain ⟨hx, hb, hr, hlocks, hml, hown, hts, hK⟩ := id E
  unfold f_X8_isWetBeside_b57 at hf
  refine lv_iconst (v := 1) hx hb dX8_isWetBeside_57 (by decide) ?_
  refine lv_goto (tgt := 62) hx hb dX8_isWetBeside_58 (by decide) ?_
  exact w_X8_isWetBeside_b62 E hL5 hf hP hS (lv_sub hl [0, 1, 2, 3] rfl)
set_option maxHeartbeats 4000000 in
set_option maxRecDepth 100000 in
theorem w_X8_isWetBeside_b61 {p : Program} {l : Launch} {e : Env} {s : State} {m : MethodId} {args : Array Value} {below : List Frame} {meth : Method} {c : Code} {G : GG} {sz : Nat} {r : Int32} {M' : Mem} (E : Cx p s m args meth c cX8_isWetBeside (some .boolean) 5 RX8 G) {L5 : Int32 → Int32 → Int32 → Int32 → Mem → Option (Int32 × Mem)} (hL5 : ∀ (x1 : Int32) (x2 : Int32) (x3 : Int32) (x4 : Int32) (M : Mem) (H : Heap) (locs : List Loc) (ls : Array Slot), L5 x1 x2 x3 x4 M = some (r, M') → PW G (AM G) (XM G) sz M s H → va_S (AM G) s.heap H locs → lv_has ls 5 [(0, .ref (adM G 0 0)), (1, .int x1), (2, .int x2), (3, .int x3), (4, .int x4)] → W p l e rm_X8_isWetBeside s m args below meth c H locs 0 0 (MQ below (va_Qi (fun (r2 : Int32) (_ : Unit) => r2 = r) (fun _ t => PW G (AM G) (XM G) sz M' t t.heap) (AM G)) args s 0 0 (AM G)) (F0 m 5 ls [])) {x1 : Int32} {x2 : Int32} {x4 : Int32} {M : Mem} {H : Heap} {locs : List Loc} {ls : Array Slot} (hf : f_X8_isWetBeside_b61 L5 x1 x2 x4 M = some (r, M')) (hP : PW G (AM G) (XM G) sz M s H) (hS : va_S (AM G) s.heap H locs) (hl : lv_has ls 5 [(0, .ref (adM G 0 0)), (1, .int x1), (2, .int x2), (4, .int x4)]) : W p l e rm_X8_isWetBeside s m args below meth c H locs 0 0 (MQ below (va_Qi (fun (r2 : Int32) (_ : Unit) => r2 = r) (fun _ t => PW G (AM G) (XM G) sz M' t t.heap) (AM G)) args s 0 0 (AM G)) (F0 m 61 ls []) := by
  obtain ⟨hx, hb, hr, hlocks, hml, hown, hts, hK⟩ := id E
  unfold f_X8_isWetBeside_b61 at hf
  refine lv_iconst (v := 0) hx hb dX8_isWetBeside_61 (by decide) ?_
  exact w_X8_isWetBeside_b62 E hL5 hf hP hS (lv_sub hl [0, 1, 2, 3] rfl)
set_option maxHeartbeats 4000000 in
set_option maxRecDepth 100000 in
theorem w_X8_isWetBeside_b5 {p : Program} {l : Launch} {e : Env} {s : State} {m : MethodId} {args : Array Value} {below : List Frame} {meth : Method} {c : Code} {G : GG} {sz : Nat} {r : Int32} {M' : Mem} (E : Cx p s m args meth c cX8_isWetBeside (some .boolean) 5 RX8 G) : ∀ fu : Nat, ∀ (x1 : Int32) (x2 : Int32) (x3 : Int32) (x4 : Int32) (M : Mem) (H : Heap) (locs : List Loc) (ls : Array Slot), f_X8_isWetBeside_b5 fu x1 x2 x3 x4 M = some (r, M') → PW G (AM G) (XM G) sz M s H → va_S (AM G) s.heap H locs → lv_has ls 5 [(0, .ref (adM G 0 0)), (1, .int x1), (2, .int x2), (3, .int x3), (4, .int x4)] → W p l e rm_X8_isWetBeside s m args below meth c H locs 0 0 (MQ below (va_Qi (fun (r2 : Int32) (_ : Unit) => r2 = r) (fun _ t => PW G (AM G) (XM G) sz M' t t.heap) (AM G)) args s 0 0 (AM G)) (F0 m 5 ls []) := by
  obtain ⟨hx, hb, hr, hlocks, hml, hown, hts, hK⟩ := id E
  intro fu
  induction fu with
  | zero => intro x1 x2 x3 x4 M H locs ls hf hP hS hl; cases hf
  | succ fu ih =>
    intro x1 x2 x3 x4 M H locs ls hf hP hS hl
    rw [f_X8_isWetBeside_b5.eq_2] at hf
    refine lv_iload hx hb dX8_isWetBeside_5 (lv_at hl 4 rfl) ?_
    refine lv_aload_n hx hb dX8_isWetBeside_7 rfl (lv_at hl 0 rfl) ?_
    refine gf_X8_s E hP w_797 dX8_isWetBeside_8 ?_
    refine lv_iconst (v := 1) hx hb dX8_isWetBeside_11 (by decide) ?_
    refine la_M1 E hP (by decide) dX8_isWetBeside_12 ?_
    refine lv_icmp_ge (tgt := 69) hx hb dX8_isWetBeside_13 (by decide) (fun hc => ?_) (fun hc => ?_)
    · have hf := if_t hf hc
      refine lv_iload_n hx hb dX8_isWetBeside_69 rfl (lv_at hl 3 rfl) ?_
      refine ck_e hf (fun hn hf => ?_)
      exact en_i hf hx hb hr (bl_nar hn) hlocks hP hS dX8_isWetBeside_70
    · have hf := if_f hf hc
      refine lv_iload_n hx hb dX8_isWetBeside_16 rfl (lv_at hl 3 rfl) ?_
      refine lv_if_ne (tgt := 57) hx hb dX8_isWetBeside_17 (by decide) (fun hc => ?_) (fun hc => ?_)
      · have hf := if_f hf hc
        exact w_X8_isWetBeside_b57 E ih hf hP hS (lv_sub hl [0, 1, 2, 4] rfl)
      · have hf := if_t hf hc
        refine lv_aload_n hx hb dX8_isWetBeside_20 rfl (lv_at hl 0 rfl) ?_
        refine lv_iload hx hb dX8_isWetBeside_21 (lv_at hl 4 rfl) ?_
        refine lv_iload_n hx hb dX8_isWetBeside_23 rfl (lv_at hl 2 rfl) ?_
        refine ob_e hf (fun r_24 M_24 hq hf => ?_)
        refine cv_X8_isWet E hP hS hq w_940 ⟨Nat.le_of_ble_eq_true rfl, Nat.le_of_ble_eq_true rfl⟩ hl (Nat.le_of_ble_eq_true rfl) dX8_isWetBeside_24 ⟨Nat.le_of_ble_eq_true rfl, Nat.le_of_ble_eq_true rfl⟩ (fun H locs hP hS => ?_)
        refine lv_if_eq (tgt := 61) hx hb dX8_isWetBeside_27 (by decide) (fun hc => ?_) (fun hc => ?_)
        · have hf := if_t hf hc
          exact w_X8_isWetBeside_b61 E ih hf hP hS (lv_sub hl [0, 1, 2, 4] rfl)
        · have hf := if_f hf hc
          refine lv_aload_n hx hb dX8_isWetBeside_30 rfl (lv_at hl 0 rfl) ?_
          refine lv_iload hx hb dX8_isWetBeside_31 (lv_at hl 4 rfl) ?_
          refine lv_iconst (v := 4) hx hb dX8_isWetBeside_33 (by decide) ?_
          refine ob_e hf (fun r_34 M_34 hq hf => ?_)
          refine cv_X8_ln E hP hS hq w_916 ⟨Nat.le_of_ble_eq_true rfl, Nat.le_of_ble_eq_true rfl⟩ hl (Nat.le_of_ble_eq_true rfl) dX8_isWetBeside_34 ⟨Nat.le_of_ble_eq_true rfl, Nat.le_of_ble_eq_true rfl⟩ (fun H locs hP hS => ?_)
          refine lv_aload_n hx hb dX8_isWetBeside_37 rfl (lv_at hl 0 rfl) ?_
          refine gf_X8_s E hP w_797 dX8_isWetBeside_38 ?_
          refine lv_bipush (v := 8) hx hb dX8_isWetBeside_41 (by decide) ?_
          refine la_M1 E hP (by decide) dX8_isWetBeside_43 ?_
          refine lv_icmp_eq (tgt := 61) hx hb dX8_isWetBeside_44 (by decide) (fun hc => ?_) (fun hc => ?_)
          · have hf := if_t hf hc
            exact w_X8_isWetBeside_b61 E ih hf hP hS (lv_sub hl [0, 1, 2, 4] rfl)
          · have hf := if_f hf hc
            refine lv_aload_n hx hb dX8_isWetBeside_47 rfl (lv_at hl 0 rfl) ?_
            refine lv_iload_n hx hb dX8_isWetBeside_48 rfl (lv_at hl 1 rfl) ?_
            refine lv_iload hx hb dX8_isWetBeside_49 (lv_at hl 4 rfl) ?_
            refine ob_e hf (fun r_51 M_51 hq hf => ?_)
            refine cv_X8_touches E hP hS hq w_989 ⟨Nat.le_of_ble_eq_true rfl, Nat.le_of_ble_eq_true rfl⟩ hl (Nat.le_of_ble_eq_true rfl) dX8_isWetBeside_51 ⟨Nat.le_of_ble_eq_true rfl, Nat.le_of_ble_eq_true rfl⟩ (fun H locs hP hS => ?_)
            refine lv_if_eq (tgt := 61) hx hb dX8_isWetBeside_54 (by decide) (fun hc => ?_) (fun hc => ?_)
            · have hf := if_t hf hc
              exact w_X8_isWetBeside_b61 E ih hf hP hS (lv_sub hl [0, 1, 2, 4] rfl)
            · have hf := if_f hf hc
              exact w_X8_isWetBeside_b57 E ih hf hP hS (lv_sub hl [0, 1, 2, 4] rfl)
set_option maxHeartbeats 4000000 in
set_option maxRecDepth 100000 in
theorem w_X8_isWetBeside {p : Program} {l : Launch} {e : Env} {s : State} {m : MethodId} {args : Array Value} {below : List Frame} {meth : Method} {c : Code} {G : GG} {sz : Nat} {r : Int32} {M' : Mem} (E : Cx p s m args meth c cX8_isWetBeside (some .boolean) 5 RX8 G) {x1 : Int32} {x2 : Int32} {M : Mem} {H : Heap} {locs : List Loc} {ls : Array Slot} (hf : f_X8_isWetBeside x1 x2 M = some (r, M')) (hP : PW G (AM G) (XM G) sz M s H) (hS : va_S (AM G) s.heap H locs) (hl : lv_has ls 5 [(0, .ref (adM G 0 0)), (1, .int x1), (2, .int x2)]) : W p l e rm_X8_isWetBeside s m args below meth c H locs 0 0 (MQ below (va_Qi (fun (r2 : Int32) (_ : Unit) => r2 = r) (fun _ t => PW G (AM G) (XM G) sz M' t t.heap) (AM G)) args s 0 0 (AM G)) (F0 m 0 ls []) := by
  obtain ⟨hx, hb, hr, hlocks, hml, hown, hts, hK⟩ := id E
  unfold f_X8_isWetBeside at hf
  refine lv_iconst (v := 0) hx hb dX8_isWetBeside_0 (by decide) ?_
  refine lv_istore_n (lv' := [(3, .int 0), (0, .ref (adM G 0 0)), (1, .int x1), (2, .int x2)]) hx hb dX8_isWetBeside_1 rfl hl (by decide) rfl (fun ls hl => ?_)
  refine lv_iconst (v := 0) hx hb dX8_isWetBeside_2 (by decide) ?_
  refine lv_istore (lv' := [(4, .int 0), (3, .int 0), (0, .ref (adM G 0 0)), (1, .int x1), (2, .int x2)]) hx hb dX8_isWetBeside_3 hl (by decide) rfl (fun ls hl => ?_)
  exact w_X8_isWetBeside_b5 E 1000 _ _ _ _ _ _ _ _ hf hP hS (lv_sub hl [2, 3, 4, 1, 0] rfl)
theorem c_X8_isWetBeside (l : Launch) {G : GG} {sz : Nat} {x1 : Int32} {x2 : Int32} {M : Mem} {r : Int32} {M' : Mem} (hf : f_X8_isWetBeside x1 x2 M = some (r, M')) : CtI l yX8_isWetBeside cX8_isWetBeside 5 (some .boolean) rm_X8_isWetBeside [.ref (adM G 0 0), .int x1, .int x2] G (AM G) (XM G) sz M r (XM G) sz M' := by
  refine Ct_of (by decide) (Nat.le_of_ble_eq_true rfl) (fun p e s m below meth c ls hx hb hr hlocks hml hown hts hK hP hl => ?_)
  exact w_X8_isWetBeside ⟨hx, hb, hr, hlocks, hml, hown, hts, hK⟩ hf hP va_S.rf hl
set_option maxRecDepth 100000 in
theorem cv_X8_isWetBeside {p : Program} {l : Launch} {e : Env} {R : Room} {s : State} {m : MethodId} {args : Array Value} {below : List Frame} {meth : Method} {c : Code} {H : Heap} {locs : List Loc} {cells slots : Nat} {Q : State → Prop} {cc : ByteArray} {pc nL index : Nat} {ret : Option FieldType} {own : String} {ls : Array Slot} {rest : List Value} {l' : List (Nat × Value)} {G : GG} {sz : Nat} {M : Mem} (E : Cx p s m args meth c cc ret nL own G) (hP : PW G (AM G) (XM G) sz M s H) (hS : va_S (AM G) s.heap H locs) {x1 : Int32} {x2 : Int32} {r : Int32} {M' : Mem} (hq : f_X8_isWetBeside x1 x2 M = some (r, M')) (w1 : Cond.methodLink own index yX8_isWetBeside ∈ lw_all) (hR : 4 ≤ R.frames ∧ 99 ≤ R.locals) (hl : lv_has ls nL l') (hrest : (rest.map fun v => v.category).sum ≤ 8) (hdg : decode cc pc = .ok (.invokevirtual index, 3)) (hcs : cells ≤ R.cells ∧ slots ≤ R.slots)
    (kk : ∀ (H1 : Heap) (locs1 : List Loc), PW G (AM G) (XM G) sz M' s H1 → va_S (AM G) s.heap H1 locs1 → W p l e R s m args below meth c H1 locs1 cells slots Q (F0 m (pc + 3) ls (.int r :: rest))) : W p l e R s m args below meth c H locs cells slots Q (F0 m pc ls (.int x2 :: .int x1 :: .ref (adM G 0 0) :: rest)) := by
  obtain ⟨hx, hb, hr, hlocks, hml, hown, hts, hK⟩ := E
  exact kc_i (kc_runV (na := 2) (q := (RX8, TX8, 16)) hx hb hml hts hown hK hP 0 0 ⟨rfl, by decide⟩ rfl rfl rfl (c_X8_isWetBeside l hq) w1 w_987 ws_40 w_9 w_988 (by decide +kernel) hR rfl hl rfl hrest hdg hcs) hS kk
/-! X8_uses -/
abbrev rm_X8_uses : Room := { frames := 2, cells := 0, slots := 0, locals := 45 }
def f_X8_uses_b31 (s0 : Int32) (M : Mem) : Option (Int32 × Mem) :=
some (s0, M)
def f_X8_uses (x1 : Int32) (M : Mem) : Option (Int32 × Mem) :=
ob (f_X8_pn (M 0 1 (ix 8)) 0 M) fun r_9 M_9 =>
(if r_9 = 1 then
  ob (f_X8_length x1 M_9) fun r_19 M_19 =>
  f_X8_uses_b31 ((2 * r_19)) M_19
else
  ob (f_X8_length x1 M_9) fun r_28 M_28 =>
  f_X8_uses_b31 r_28 M_28)
set_option maxHeartbeats 4000000 in
set_option maxRecDepth 100000 in
theorem w_X8_uses_b31 {p : Program} {l : Launch} {e : Env} {s : State} {m : MethodId} {args : Array Value} {below : List Frame} {meth : Method} {c : Code} {G : GG} {sz : Nat} {r : Int32} {M' : Mem} (E : Cx p s m args meth c cX8_uses (some .int) 2 RX8 G) {s0 : Int32} {M : Mem} {H : Heap} {locs : List Loc} {ls : Array Slot} (hf : f_X8_uses_b31 s0 M = some (r, M')) (hP : PW G (AM G) (XM G) sz M s H) (hS : va_S (AM G) s.heap H locs) (hl : lv_has ls 2 []) : W p l e rm_X8_uses s m args below meth c H locs 0 0 (MQ below (va_Qi (fun (r2 : Int32) (_ : Unit) => r2 = r) (fun _ t => PW G (AM G) (XM G) sz M' t t.heap) (AM G)) args s 0 0 (AM G)) (F0 m 31 ls [.int s0]) := by
  obtain ⟨hx, hb, hr, hlocks, hml, hown, hts, hK⟩ := id E
  unfold f_X8_uses_b31 at hf
  exact en_i hf hx hb hr rfl hlocks hP hS dX8_uses_31
set_option maxHeartbeats 4000000 in
set_option maxRecDepth 100000 in
theorem w_X8_uses {p : Program} {l : Launch} {e : Env} {s : State} {m : MethodId} {args : Array Value} {below : List Frame} {meth : Method} {c : Code} {G : GG} {sz : Nat} {r : Int32} {M' : Mem} (E : Cx p s m args meth c cX8_uses (some .int) 2 RX8 G) {x1 : Int32} {M : Mem} {H : Heap} {locs : List Loc} {ls : Array Slot} (hf : f_X8_uses x1 M = some (r, M')) (hP : PW G (AM G) (XM G) sz M s H) (hS : va_S (AM G) s.heap H locs) (hl : lv_has ls 2 [(0, .ref (adM G 0 0)), (1, .int x1)]) : W p l e rm_X8_uses s m args below meth c H locs 0 0 (MQ below (va_Qi (fun (r2 : Int32) (_ : Unit) => r2 = r) (fun _ t => PW G (AM G) (XM G) sz M' t t.heap) (AM G)) args s 0 0 (AM G)) (F0 m 0 ls []) := by
  obtain ⟨hx, hb, hr, hlocks, hml, hown, hts, hK⟩ := id E
  unfold f_X8_uses at hf
  refine lv_aload_n hx hb dX8_uses_0 rfl (lv_at hl 0 rfl) ?_
  refine lv_aload_n hx hb dX8_uses_1 rfl (lv_at hl 0 rfl) ?_
  refine gf_X8_s E hP w_797 dX8_uses_2 ?_
  refine lv_bipush (v := 8) hx hb dX8_uses_5 (by decide) ?_
  refine la_M1 E hP (by decide) dX8_uses_7 ?_
  refine lv_iconst (v := 0) hx hb dX8_uses_8 (by decide) ?_
  refine ob_e hf (fun r_9 M_9 hq hf => ?_)
  refine cv_X8_pn E hP hS hq w_867 ⟨Nat.le_of_ble_eq_true rfl, Nat.le_of_ble_eq_true rfl⟩ hl (Nat.le_of_ble_eq_true rfl) dX8_uses_9 ⟨Nat.le_of_ble_eq_true rfl, Nat.le_of_ble_eq_true rfl⟩ (fun H locs hP hS => ?_)
  refine lv_iconst (v := 1) hx hb dX8_uses_12 (by decide) ?_
  refine lv_icmp_ne (tgt := 26) hx hb dX8_uses_13 (by decide) (fun hc => ?_) (fun hc => ?_)
  · have hf := if_f hf hc
    refine lv_aload_n hx hb dX8_uses_26 rfl (lv_at hl 0 rfl) ?_
    refine lv_iload_n hx hb dX8_uses_27 rfl (lv_at hl 1 rfl) ?_
    refine ob_e hf (fun r_28 M_28 hq hf => ?_)
    refine cv_X8_length E hP hS hq w_928 ⟨Nat.le_of_ble_eq_true rfl, Nat.le_of_ble_eq_true rfl⟩ hl (Nat.le_of_ble_eq_true rfl) dX8_uses_28 ⟨Nat.le_of_ble_eq_true rfl, Nat.le_of_ble_eq_true rfl⟩ (fun H locs hP hS => ?_)
    exact w_X8_uses_b31 E hf hP hS (lv_sub hl [] rfl)
  · have hf := if_t hf hc
    refine lv_iconst (v := 2) hx hb dX8_uses_16 (by decide) ?_
    refine lv_aload_n hx hb dX8_uses_17 rfl (lv_at hl 0 rfl) ?_
    refine lv_iload_n hx hb dX8_uses_18 rfl (lv_at hl 1 rfl) ?_
    refine ob_e hf (fun r_19 M_19 hq hf => ?_)
    refine cv_X8_length E hP hS hq w_928 ⟨Nat.le_of_ble_eq_true rfl, Nat.le_of_ble_eq_true rfl⟩ hl (Nat.le_of_ble_eq_true rfl) dX8_uses_19 ⟨Nat.le_of_ble_eq_true rfl, Nat.le_of_ble_eq_true rfl⟩ (fun H locs hP hS => ?_)
    refine lv_imul hx hb dX8_uses_22 ?_
    refine lv_goto (tgt := 31) hx hb dX8_uses_23 (by decide) ?_
    exact w_X8_uses_b31 E hf hP hS (lv_sub hl [] rfl)
theorem c_X8_uses (l : Launch) {G : GG} {sz : Nat} {x1 : Int32} {M : Mem} {r : Int32} {M' : Mem} (hf : f_X8_uses x1 M = some (r, M')) : CtI l yX8_uses cX8_uses 2 (some .int) rm_X8_uses [.ref (adM G 0 0), .int x1] G (AM G) (XM G) sz M r (XM G) sz M' := by
  refine Ct_of (by decide) (Nat.le_of_ble_eq_true rfl) (fun p e s m below meth c ls hx hb hr hlocks hml hown hts hK hP hl => ?_)
  exact w_X8_uses ⟨hx, hb, hr, hlocks, hml, hown, hts, hK⟩ hf hP va_S.rf hl
set_option maxRecDepth 100000 in
theorem cv_X8_uses {p : Program} {l : Launch} {e : Env} {R : Room} {s : State} {m : MethodId} {args : Array Value} {below : List Frame} {meth : Method} {c : Code} {H : Heap} {locs : List Loc} {cells slots : Nat} {Q : State → Prop} {cc : ByteArray} {pc nL index : Nat} {ret : Option FieldType} {own : String} {ls : Array Slot} {rest : List Value} {l' : List (Nat × Value)} {G : GG} {sz : Nat} {M : Mem} (E : Cx p s m args meth c cc ret nL own G) (hP : PW G (AM G) (XM G) sz M s H) (hS : va_S (AM G) s.heap H locs) {x1 : Int32} {r : Int32} {M' : Mem} (hq : f_X8_uses x1 M = some (r, M')) (w1 : Cond.methodLink own index yX8_uses ∈ lw_all) (hR : 3 ≤ R.frames ∧ 66 ≤ R.locals) (hl : lv_has ls nL l') (hrest : (rest.map fun v => v.category).sum ≤ 8) (hdg : decode cc pc = .ok (.invokevirtual index, 3)) (hcs : cells ≤ R.cells ∧ slots ≤ R.slots)
    (kk : ∀ (H1 : Heap) (locs1 : List Loc), PW G (AM G) (XM G) sz M' s H1 → va_S (AM G) s.heap H1 locs1 → W p l e R s m args below meth c H1 locs1 cells slots Q (F0 m (pc + 3) ls (.int r :: rest))) : W p l e R s m args below meth c H locs cells slots Q (F0 m pc ls (.int x1 :: .ref (adM G 0 0) :: rest)) := by
  obtain ⟨hx, hb, hr, hlocks, hml, hown, hts, hK⟩ := E
  exact kc_i (kc_runV (na := 1) (q := (RX8, TX8, 16)) hx hb hml hts hown hK hP 0 0 ⟨rfl, by decide⟩ rfl rfl rfl (c_X8_uses l hq) w1 w_983 ws_39 w_9 w_984 (by decide +kernel) hR rfl hl rfl hrest hdg hcs) hS kk
/-! X8_why -/
abbrev rm_X8_why : Room := { frames := 4, cells := 0, slots := 0, locals := 99 }
def f_X8_why_b148 (s0 : Int32) (M : Mem) : Option (Int32 × Mem) :=
some (s0, M)
def f_X8_why (x1 : Int32) (x2 : Int32) (x3 : Int32) (M : Mem) : Option (Int32 × Mem) :=
lt ((M 0 1 (ix 8))) fun x4_7 =>
lt (((M 0 1 (ix 7)) + x3)) fun x5_18 =>
ob (f_X8_far (M 0 1 (ix 9)) (M 0 1 (ix 10)) x1 x2 M) fun r_37 M_37 =>
(if 0 ≤ x4_7 then
  ob (f_X8_isDrawn x1 M_37) fun r_51 M_51 =>
  (if r_51 = 0 then
    ob (f_X8_strikes x4_7 M_51) fun r_62 M_62 =>
    (if r_62 = 0 then
      ob (f_X8_pn x4_7 2 M_62) fun r_74 M_74 =>
      ob (f_X8_uses x1 M_74) fun r_79 M_79 =>
      (if r_79 ≤ r_74 then
        ob (f_X8_pn x4_7 4 M_79) fun r_91 M_91 =>
        (if ((r_91 + x3) + r_37) ≤ (M_91 0 1 (ix 3)) then
          ob (f_X8_isWetBeside x1 (x5_18 + r_37) M_91) fun r_117 M_117 =>
          (if r_117 = 0 then
            ob (f_X8_length x1 M_117) fun r_133 M_133 =>
            (if ((x5_18 + r_37) + r_133) ≤ 100000 then
              f_X8_why_b148 0 M_133
            else
              f_X8_why_b148 7 M_133)
          else
            some (6, M_117))
        else
          some (5, M_91))
      else
        some (4, M_79))
    else
      some (3, M_62))
  else
    some (2, M_51))
else
  some (1, M_37))
set_option maxHeartbeats 4000000 in
set_option maxRecDepth 100000 in
theorem w_X8_why_b148 {p : Program} {l : Launch} {e : Env} {s : State} {m : MethodId} {args : Array Value} {below : List Frame} {meth : Method} {c : Code} {G : GG} {sz : Nat} {r : Int32} {M' : Mem} (E : Cx p s m args meth c cX8_why (some .int) 7 RX8 G) {s0 : Int32} {M : Mem} {H : Heap} {locs : List Loc} {ls : Array Slot} (hf : f_X8_why_b148 s0 M = some (r, M')) (hP : PW G (AM G) (XM G) sz M s H) (hS : va_S (AM G) s.heap H locs) (hl : lv_has ls 7 []) : W p l e rm_X8_why s m args below meth c H locs 0 0 (MQ below (va_Qi (fun (r2 : Int32) (_ : Unit) => r2 = r) (fun _ t => PW G (AM G) (XM G) sz M' t t.heap) (AM G)) args s 0 0 (AM G)) (F0 m 148 ls [.int s0]) := by
  obtain ⟨hx, hb, hr, hlocks, hml, hown, hts, hK⟩ := id E
  unfold f_X8_why_b148 at hf
  exact en_i hf hx hb hr rfl hlocks hP hS dX8_why_148
set_option maxHeartbeats 4000000 in
set_option maxRecDepth 100000 in
theorem w_X8_why {p : Program} {l : Launch} {e : Env} {s : State} {m : MethodId} {args : Array Value} {below : List Frame} {meth : Method} {c : Code} {G : GG} {sz : Nat} {r : Int32} {M' : Mem} (E : Cx p s m args meth c cX8_why (some .int) 7 RX8 G) {x1 : Int32} {x2 : Int32} {x3 : Int32} {M : Mem} {H : Heap} {locs : List Loc} {ls : Array Slot} (hf : f_X8_why x1 x2 x3 M = some (r, M')) (hP : PW G (AM G) (XM G) sz M s H) (hS : va_S (AM G) s.heap H locs) (hl : lv_has ls 7 [(0, .ref (adM G 0 0)), (1, .int x1), (2, .int x2), (3, .int x3)]) : W p l e rm_X8_why s m args below meth c H locs 0 0 (MQ below (va_Qi (fun (r2 : Int32) (_ : Unit) => r2 = r) (fun _ t => PW G (AM G) (XM G) sz M' t t.heap) (AM G)) args s 0 0 (AM G)) (F0 m 0 ls []) := by
  obtain ⟨hx, hb, hr, hlocks, hml, hown, hts, hK⟩ := id E
  unfold f_X8_why at hf
  refine lv_aload_n hx hb dX8_why_0 rfl (lv_at hl 0 rfl) ?_
  refine gf_X8_s E hP w_797 dX8_why_1 ?_
  refine lv_bipush (v := 8) hx hb dX8_why_4 (by decide) ?_
  refine la_M1 E hP (by decide) dX8_why_6 ?_
  refine lt_e hf (fun x4_7 hx4_7 hf => ?_)
  refine kr_nm hx4_7 ?_
  refine lv_istore (lv' := [(4, .int x4_7), (0, .ref (adM G 0 0)), (1, .int x1), (2, .int x2), (3, .int x3)]) hx hb dX8_why_7 hl (by decide) rfl (fun ls hl => ?_)
  refine lv_aload_n hx hb dX8_why_9 rfl (lv_at hl 1 rfl) ?_
  refine gf_X8_s E hP w_797 dX8_why_10 ?_
  refine lv_bipush (v := 7) hx hb dX8_why_13 (by decide) ?_
  refine la_M1 E hP (by decide) dX8_why_15 ?_
  refine lv_iload_n hx hb dX8_why_16 rfl (lv_at hl 4 rfl) ?_
  refine lv_iadd hx hb dX8_why_17 ?_
  refine lt_e hf (fun x5_18 hx5_18 hf => ?_)
  refine kr_nm hx5_18 ?_
  refine lv_istore (lv' := [(5, .int x5_18), (4, .int x4_7), (0, .ref (adM G 0 0)), (1, .int x1), (2, .int x2), (3, .int x3)]) hx hb dX8_why_18 hl (by decide) rfl (fun ls hl => ?_)
  refine lv_aload_n hx hb dX8_why_20 rfl (lv_at hl 2 rfl) ?_
  refine lv_aload_n hx hb dX8_why_21 rfl (lv_at hl 2 rfl) ?_
  refine gf_X8_s E hP w_797 dX8_why_22 ?_
  refine lv_bipush (v := 9) hx hb dX8_why_25 (by decide) ?_
  refine la_M1 E hP (by decide) dX8_why_27 ?_
  refine lv_aload_n hx hb dX8_why_28 rfl (lv_at hl 2 rfl) ?_
  refine gf_X8_s E hP w_797 dX8_why_29 ?_
  refine lv_bipush (v := 10) hx hb dX8_why_32 (by decide) ?_
  refine la_M1 E hP (by decide) dX8_why_34 ?_
  refine lv_iload_n hx hb dX8_why_35 rfl (lv_at hl 3 rfl) ?_
  refine lv_iload_n hx hb dX8_why_36 rfl (lv_at hl 4 rfl) ?_
  refine ob_e hf (fun r_37 M_37 hq hf => ?_)
  refine cv_X8_far E hP hS hq w_977 ⟨Nat.le_of_ble_eq_true rfl, Nat.le_of_ble_eq_true rfl⟩ hl (Nat.le_of_ble_eq_true rfl) dX8_why_37 ⟨Nat.le_of_ble_eq_true rfl, Nat.le_of_ble_eq_true rfl⟩ (fun H locs hP hS => ?_)
  refine lv_istore (lv' := [(6, .int r_37), (5, .int x5_18), (4, .int x4_7), (0, .ref (adM G 0 0)), (1, .int x1), (2, .int x2), (3, .int x3)]) hx hb dX8_why_40 hl (by decide) rfl (fun ls hl => ?_)
  refine lv_iload hx hb dX8_why_42 (lv_at hl 2 rfl) ?_
  refine lv_if_ge (tgt := 49) hx hb dX8_why_44 (by decide) (fun hc => ?_) (fun hc => ?_)
  · have hf := if_t hf hc
    refine lv_aload_n hx hb dX8_why_49 rfl (lv_at hl 3 rfl) ?_
    refine lv_iload_n hx hb dX8_why_50 rfl (lv_at hl 4 rfl) ?_
    refine ob_e hf (fun r_51 M_51 hq hf => ?_)
    refine cv_X8_isDrawn E hP hS hq w_935 ⟨Nat.le_of_ble_eq_true rfl, Nat.le_of_ble_eq_true rfl⟩ hl (Nat.le_of_ble_eq_true rfl) dX8_why_51 ⟨Nat.le_of_ble_eq_true rfl, Nat.le_of_ble_eq_true rfl⟩ (fun H locs hP hS => ?_)
    refine lv_if_eq (tgt := 59) hx hb dX8_why_54 (by decide) (fun hc => ?_) (fun hc => ?_)
    · have hf := if_t hf hc
      refine lv_aload_n hx hb dX8_why_59 rfl (lv_at hl 3 rfl) ?_
      refine lv_iload hx hb dX8_why_60 (lv_at hl 2 rfl) ?_
      refine ob_e hf (fun r_62 M_62 hq hf => ?_)
      refine cv_X8_strikes E hP hS hq w_904 ⟨Nat.le_of_ble_eq_true rfl, Nat.le_of_ble_eq_true rfl⟩ hl (Nat.le_of_ble_eq_true rfl) dX8_why_62 ⟨Nat.le_of_ble_eq_true rfl, Nat.le_of_ble_eq_true rfl⟩ (fun H locs hP hS => ?_)
      refine lv_if_eq (tgt := 70) hx hb dX8_why_65 (by decide) (fun hc => ?_) (fun hc => ?_)
      · have hf := if_t hf hc
        refine lv_aload_n hx hb dX8_why_70 rfl (lv_at hl 3 rfl) ?_
        refine lv_iload hx hb dX8_why_71 (lv_at hl 2 rfl) ?_
        refine lv_iconst (v := 2) hx hb dX8_why_73 (by decide) ?_
        refine ob_e hf (fun r_74 M_74 hq hf => ?_)
        refine cv_X8_pn E hP hS hq w_867 ⟨Nat.le_of_ble_eq_true rfl, Nat.le_of_ble_eq_true rfl⟩ hl (Nat.le_of_ble_eq_true rfl) dX8_why_74 ⟨Nat.le_of_ble_eq_true rfl, Nat.le_of_ble_eq_true rfl⟩ (fun H locs hP hS => ?_)
        refine lv_aload_n hx hb dX8_why_77 rfl (lv_at hl 3 rfl) ?_
        refine lv_iload_n hx hb dX8_why_78 rfl (lv_at hl 4 rfl) ?_
        refine ob_e hf (fun r_79 M_79 hq hf => ?_)
        refine cv_X8_uses E hP hS hq w_981 ⟨Nat.le_of_ble_eq_true rfl, Nat.le_of_ble_eq_true rfl⟩ hl (Nat.le_of_ble_eq_true rfl) dX8_why_79 ⟨Nat.le_of_ble_eq_true rfl, Nat.le_of_ble_eq_true rfl⟩ (fun H locs hP hS => ?_)
        refine lv_icmp_ge (tgt := 87) hx hb dX8_why_82 (by decide) (fun hc => ?_) (fun hc => ?_)
        · have hf := if_t hf hc
          refine lv_aload_n hx hb dX8_why_87 rfl (lv_at hl 3 rfl) ?_
          refine lv_iload hx hb dX8_why_88 (lv_at hl 2 rfl) ?_
          refine lv_iconst (v := 4) hx hb dX8_why_90 (by decide) ?_
          refine ob_e hf (fun r_91 M_91 hq hf => ?_)
          refine cv_X8_pn E hP hS hq w_867 ⟨Nat.le_of_ble_eq_true rfl, Nat.le_of_ble_eq_true rfl⟩ hl (Nat.le_of_ble_eq_true rfl) dX8_why_91 ⟨Nat.le_of_ble_eq_true rfl, Nat.le_of_ble_eq_true rfl⟩ (fun H locs hP hS => ?_)
          refine lv_iload_n hx hb dX8_why_94 rfl (lv_at hl 6 rfl) ?_
          refine lv_iadd hx hb dX8_why_95 ?_
          refine lv_iload hx hb dX8_why_96 (lv_at hl 0 rfl) ?_
          refine lv_iadd hx hb dX8_why_98 ?_
          refine lv_aload_n hx hb dX8_why_99 rfl (lv_at hl 3 rfl) ?_
          refine gf_X8_s E hP w_797 dX8_why_100 ?_
          refine lv_iconst (v := 3) hx hb dX8_why_103 (by decide) ?_
          refine la_M1 E hP (by decide) dX8_why_104 ?_
          refine lv_icmp_le (tgt := 110) hx hb dX8_why_105 (by decide) (fun hc => ?_) (fun hc => ?_)
          · have hf := if_t hf hc
            refine lv_aload_n hx hb dX8_why_110 rfl (lv_at hl 3 rfl) ?_
            refine lv_iload_n hx hb dX8_why_111 rfl (lv_at hl 4 rfl) ?_
            refine lv_iload hx hb dX8_why_112 (lv_at hl 1 rfl) ?_
            refine lv_iload hx hb dX8_why_114 (lv_at hl 0 rfl) ?_
            refine lv_iadd hx hb dX8_why_116 ?_
            refine ob_e hf (fun r_117 M_117 hq hf => ?_)
            refine cv_X8_isWetBeside E hP hS hq w_985 ⟨Nat.le_of_ble_eq_true rfl, Nat.le_of_ble_eq_true rfl⟩ hl (Nat.le_of_ble_eq_true rfl) dX8_why_117 ⟨Nat.le_of_ble_eq_true rfl, Nat.le_of_ble_eq_true rfl⟩ (fun H locs hP hS => ?_)
            refine lv_if_eq (tgt := 126) hx hb dX8_why_120 (by decide) (fun hc => ?_) (fun hc => ?_)
            · have hf := if_t hf hc
              refine lv_iload hx hb dX8_why_126 (lv_at hl 1 rfl) ?_
              refine lv_iload hx hb dX8_why_128 (lv_at hl 0 rfl) ?_
              refine lv_iadd hx hb dX8_why_130 ?_
              refine lv_aload_n hx hb dX8_why_131 rfl (lv_at hl 3 rfl) ?_
              refine lv_iload_n hx hb dX8_why_132 rfl (lv_at hl 4 rfl) ?_
              refine ob_e hf (fun r_133 M_133 hq hf => ?_)
              refine cv_X8_length E hP hS hq w_928 ⟨Nat.le_of_ble_eq_true rfl, Nat.le_of_ble_eq_true rfl⟩ hl (Nat.le_of_ble_eq_true rfl) dX8_why_133 ⟨Nat.le_of_ble_eq_true rfl, Nat.le_of_ble_eq_true rfl⟩ (fun H locs hP hS => ?_)
              refine lv_iadd hx hb dX8_why_136 ?_
              refine lv_ldc (v := 100000) hx hb hown (hts _ w_952) dX8_why_137 ?_
              refine lv_icmp_le (tgt := 147) hx hb dX8_why_139 (by decide) (fun hc => ?_) (fun hc => ?_)
              · have hf := if_t hf hc
                refine lv_iconst (v := 0) hx hb dX8_why_147 (by decide) ?_
                exact w_X8_why_b148 E hf hP hS (lv_sub hl [] rfl)
              · have hf := if_f hf hc
                refine lv_bipush (v := 7) hx hb dX8_why_142 (by decide) ?_
                refine lv_goto (tgt := 148) hx hb dX8_why_144 (by decide) ?_
                exact w_X8_why_b148 E hf hP hS (lv_sub hl [] rfl)
            · have hf := if_f hf hc
              refine lv_bipush (v := 6) hx hb dX8_why_123 (by decide) ?_
              exact en_i hf hx hb hr rfl hlocks hP hS dX8_why_125
          · have hf := if_f hf hc
            refine lv_iconst (v := 5) hx hb dX8_why_108 (by decide) ?_
            exact en_i hf hx hb hr rfl hlocks hP hS dX8_why_109
        · have hf := if_f hf hc
          refine lv_iconst (v := 4) hx hb dX8_why_85 (by decide) ?_
          exact en_i hf hx hb hr rfl hlocks hP hS dX8_why_86
      · have hf := if_f hf hc
        refine lv_iconst (v := 3) hx hb dX8_why_68 (by decide) ?_
        exact en_i hf hx hb hr rfl hlocks hP hS dX8_why_69
    · have hf := if_f hf hc
      refine lv_iconst (v := 2) hx hb dX8_why_57 (by decide) ?_
      exact en_i hf hx hb hr rfl hlocks hP hS dX8_why_58
  · have hf := if_f hf hc
    refine lv_iconst (v := 1) hx hb dX8_why_47 (by decide) ?_
    exact en_i hf hx hb hr rfl hlocks hP hS dX8_why_48
theorem c_X8_why (l : Launch) {G : GG} {sz : Nat} {x1 : Int32} {x2 : Int32} {x3 : Int32} {M : Mem} {r : Int32} {M' : Mem} (hf : f_X8_why x1 x2 x3 M = some (r, M')) : CtI l yX8_why cX8_why 7 (some .int) rm_X8_why [.ref (adM G 0 0), .int x1, .int x2, .int x3] G (AM G) (XM G) sz M r (XM G) sz M' := by
  refine Ct_of (by decide) (Nat.le_of_ble_eq_true rfl) (fun p e s m below meth c ls hx hb hr hlocks hml hown hts hK hP hl => ?_)
  exact w_X8_why ⟨hx, hb, hr, hlocks, hml, hown, hts, hK⟩ hf hP va_S.rf hl
set_option maxRecDepth 100000 in
theorem cv_X8_why {p : Program} {l : Launch} {e : Env} {R : Room} {s : State} {m : MethodId} {args : Array Value} {below : List Frame} {meth : Method} {c : Code} {H : Heap} {locs : List Loc} {cells slots : Nat} {Q : State → Prop} {cc : ByteArray} {pc nL index : Nat} {ret : Option FieldType} {own : String} {ls : Array Slot} {rest : List Value} {l' : List (Nat × Value)} {G : GG} {sz : Nat} {M : Mem} (E : Cx p s m args meth c cc ret nL own G) (hP : PW G (AM G) (XM G) sz M s H) (hS : va_S (AM G) s.heap H locs) {x1 : Int32} {x2 : Int32} {x3 : Int32} {r : Int32} {M' : Mem} (hq : f_X8_why x1 x2 x3 M = some (r, M')) (w1 : Cond.methodLink own index yX8_why ∈ lw_all) (hR : 5 ≤ R.frames ∧ 125 ≤ R.locals) (hl : lv_has ls nL l') (hrest : (rest.map fun v => v.category).sum ≤ 8) (hdg : decode cc pc = .ok (.invokevirtual index, 3)) (hcs : cells ≤ R.cells ∧ slots ≤ R.slots)
    (kk : ∀ (H1 : Heap) (locs1 : List Loc), PW G (AM G) (XM G) sz M' s H1 → va_S (AM G) s.heap H1 locs1 → W p l e R s m args below meth c H1 locs1 cells slots Q (F0 m (pc + 3) ls (.int r :: rest))) : W p l e R s m args below meth c H locs cells slots Q (F0 m pc ls (.int x3 :: .int x2 :: .int x1 :: .ref (adM G 0 0) :: rest)) := by
  obtain ⟨hx, hb, hr, hlocks, hml, hown, hts, hK⟩ := E
  exact kc_i (kc_runV (na := 3) (q := (RX8, TX8, 16)) hx hb hml hts hown hK hP 0 0 ⟨rfl, by decide⟩ rfl rfl rfl (c_X8_why l hq) w1 w_975 ws_37 w_9 w_976 (by decide +kernel) hR rfl hl rfl hrest hdg hcs) hS kk
