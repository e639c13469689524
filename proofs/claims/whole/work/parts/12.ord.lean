/-! X3_append -/
abbrev rm_X3_append : Room := { frames := 0, cells := 0, slots := 0, locals := 0 }
def f_X3_append_b29 (M : Mem) : Option (Unit × Mem) :=
some ((), M)
def f_X3_append (x1 : Int32) (M : Mem) : Option (Unit × Mem) :=
(if 60 ≤ (M 0 3 0) then
  f_X3_append_b29 M
else
  ck (ibd (M 0 3 0) 60) <|
  lt (up3 M 0 4 (ix (M 0 3 0)) x1) fun M_18 =>
  lt (up3 M_18 0 3 0 ((M_18 0 3 0) + 1)) fun M_26 =>
  f_X3_append_b29 M_26)
set_option maxHeartbeats 4000000 in
set_option maxRecDepth 100000 in
theorem w_X3_append_b29 {p : Program} {l : Launch} {e : Env} {s : State} {m : MethodId} {args : Array Value} {below : List Frame} {meth : Method} {c : Code} {G : GG} {sz : Nat} {ns : Nat} {r : Unit} {M' : Mem} (E : Cx p s m args meth c cX3_append none 2 RX3 G) {M : Mem} {H : Heap} {locs : List Loc} {ls : Array Slot} (hf : f_X3_append_b29 M = some (r, M')) (hP : PW G (AC G) (XC G ns) sz M s H) (hS : va_S (AC G) s.heap H locs) (hl : lv_has ls 2 []) : W p l e rm_X3_append s m args below meth c H locs 0 0 (MQ below (va_Qv (fun (_ : Unit) => True) (fun _ t => PW G (AC G) (XC G ns) sz M' t t.heap) (AC G)) args s 0 0 (AC G)) (F0 m 29 ls []) := by
  obtain ⟨hx, hb, hr, hlocks, hml, hown, hts, hK⟩ := id E
  unfold f_X3_append_b29 at hf
  exact en_v hf hx hb hr hlocks hP hS dX3_append_29
set_option maxHeartbeats 4000000 in
set_option maxRecDepth 100000 in
theorem w_X3_append {p : Program} {l : Launch} {e : Env} {s : State} {m : MethodId} {args : Array Value} {below : List Frame} {meth : Method} {c : Code} {G : GG} {sz : Nat} {ns : Nat} {r : Unit} {M' : Mem} (E : Cx p s m args meth c cX3_append none 2 RX3 G) {x1 : Int32} {M : Mem} {H : Heap} {locs : List Loc} {ls : Array Slot} (hf : f_X3_append x1 M = some (r, M')) (hP : PW G (AC G) (XC G ns) sz M s H) (hS : va_S (AC G) s.heap H locs) (hl : lv_has ls 2 [(0, .ref (adC G 0 3)), (1, .int x1)]) : W p l e rm_X3_append s m args below meth c H locs 0 0 (MQ below (va_Qv (fun (_ : Unit) => True) (fun _ t => PW G (AC G) (XC G ns) sz M' t t.heap) (AC G)) args s 0 0 (AC G)) (F0 m 0 ls []) := by
  obtain ⟨hx, hb, hr, hlocks, hml, hown, hts, hK⟩ := id E
  unfold f_X3_append at hf
  refine lv_aload_n hx hb dX3_append_0 rfl (lv_at hl 0 rfl) ?_
  refine gf_X3_length E hP w_211 dX3_append_1 ?_
  refine lv_bipush (v := 60) hx hb dX3_append_4 (by decide) ?_
  refine lv_icmp_ge (tgt := 29) hx hb dX3_append_6 (by decide) (fun hc => ?_) (fun hc => ?_)
  · have hf := if_t hf hc
    exact w_X3_append_b29 E hf hP hS (lv_sub hl [] rfl)
  · have hf := if_f hf hc
    refine lv_aload_n hx hb dX3_append_9 rfl (lv_at hl 0 rfl) ?_
    refine gf_X3_signs E hP w_213 dX3_append_10 ?_
    refine lv_aload_n hx hb dX3_append_13 rfl (lv_at hl 0 rfl) ?_
    refine gf_X3_length E hP w_211 dX3_append_14 ?_
    refine lv_iload_n hx hb dX3_append_17 rfl (lv_at hl 1 rfl) ?_
    refine ck_e hf (fun hi hf => ?_)
    refine lt_e hf (fun M_18 hM_18 hf => ?_)
    refine sa_C4 E hP hS hi hM_18 dX3_append_18 (fun H locs hP hS => ?_)
    refine lv_aload_n hx hb dX3_append_19 rfl (lv_at hl 0 rfl) ?_
    refine lv_dup hx hb dX3_append_20 rfl ?_
    refine gf_X3_length E hP w_211 dX3_append_21 ?_
    refine lv_iconst (v := 1) hx hb dX3_append_24 (by decide) ?_
    refine lv_iadd hx hb dX3_append_25 ?_
    refine lt_e hf (fun M_26 hM_26 hf => ?_)
    refine pf_X3_length E hP hS hM_26 w_211 dX3_append_26 (fun H locs hP hS => ?_)
    exact w_X3_append_b29 E hf hP hS (lv_sub hl [] rfl)
theorem c_X3_append (l : Launch) {G : GG} {sz : Nat} {ns : Nat} {x1 : Int32} {M : Mem} {r : Unit} {M' : Mem} (hf : f_X3_append x1 M = some (r, M')) : CtV l yX3_append cX3_append 2 none rm_X3_append [.ref (adC G 0 3), .int x1] G (AC G) (XC G ns) sz M r (XC G ns) sz M' := by
  refine Ct_of (by decide) (Nat.le_of_ble_eq_true rfl) (fun p e s m below meth c ls hx hb hr hlocks hml hown hts hK hP hl => ?_)
  exact w_X3_append ⟨hx, hb, hr, hlocks, hml, hown, hts, hK⟩ hf hP va_S.rf hl
set_option maxRecDepth 100000 in
theorem cv_X3_append {p : Program} {l : Launch} {e : Env} {R : Room} {s : State} {m : MethodId} {args : Array Value} {below : List Frame} {meth : Method} {c : Code} {H : Heap} {locs : List Loc} {cells slots : Nat} {Q : State → Prop} {cc : ByteArray} {pc nL index : Nat} {ret : Option FieldType} {own : String} {ls : Array Slot} {rest : List Value} {l' : List (Nat × Value)} {G : GG} {sz : Nat} {ns : Nat} {M : Mem} (E : Cx p s m args meth c cc ret nL own G) (hP : PW G (AC G) (XC G ns) sz M s H) (hS : va_S (AC G) s.heap H locs) {x1 : Int32} {r : Unit} {M' : Mem} (hq : f_X3_append x1 M = some (r, M')) (w1 : Cond.methodLink own index yX3_append ∈ lw_all) (hR : 1 ≤ R.frames ∧ 21 ≤ R.locals) (hl : lv_has ls nL l') (hrest : (rest.map fun v => v.category).sum ≤ 8) (hdg : decode cc pc = .ok (.invokevirtual index, 3)) (hcs : cells ≤ R.cells ∧ slots ≤ R.slots)
    (kk : ∀ (H1 : Heap) (locs1 : List Loc), PW G (AC G) (XC G ns) sz M' s H1 → va_S (AC G) s.heap H1 locs1 → W p l e R s m args below meth c H1 locs1 cells slots Q (F0 m (pc + 3) ls (rest))) : W p l e R s m args below meth c H locs cells slots Q (F0 m pc ls (.int x1 :: .ref (adC G 0 3) :: rest)) := by
  obtain ⟨hx, hb, hr, hlocks, hml, hown, hts, hK⟩ := E
  exact kc_v (kc_runV (na := 1) (q := (RX3, TX3, 5)) hx hb hml hts hown hK hP 0 3 (dm0 (by decide)) rfl rfl rfl (c_X3_append l hq) w1 w_720 w_721 w_6 w_722 (by decide +kernel) hR rfl hl rfl hrest hdg hcs) hS kk
/-! X3_isWithNumber -/
abbrev rm_X3_isWithNumber : Room := { frames := 0, cells := 0, slots := 0, locals := 0 }
def f_X3_isWithNumber_b29 (s0 : Int32) (M : Mem) : Option (Int32 × Mem) :=
ck (bl s0) <|
some (s0, M)
def f_X3_isWithNumber_b24 (M : Mem) : Option (Int32 × Mem) :=
f_X3_isWithNumber_b29 1 M
def f_X3_isWithNumber (x0 : Int32) (M : Mem) : Option (Int32 × Mem) :=
(if x0 = 112 then
  f_X3_isWithNumber_b24 M
else
  (if x0 = 100 then
    f_X3_isWithNumber_b24 M
  else
    (if x0 = 114 then
      f_X3_isWithNumber_b24 M
    else
      (if x0 = 119 then
        f_X3_isWithNumber_b24 M
      else
        f_X3_isWithNumber_b29 0 M))))
set_option maxHeartbeats 4000000 in
set_option maxRecDepth 100000 in
theorem w_X3_isWithNumber_b29 {p : Program} {l : Launch} {e : Env} {s : State} {m : MethodId} {args : Array Value} {below : List Frame} {meth : Method} {c : Code} {G : GG} {sz : Nat} {ns : Nat} {r : Int32} {M' : Mem} (E : Cx p s m args meth c cX3_isWithNumber (some .boolean) 1 RX3 G) {s0 : Int32} {M : Mem} {H : Heap} {locs : List Loc} {ls : Array Slot} (hf : f_X3_isWithNumber_b29 s0 M = some (r, M')) (hP : PW G (AC G) (XC G ns) sz M s H) (hS : va_S (AC G) s.heap H locs) (hl : lv_has ls 1 []) : W p l e rm_X3_isWithNumber s m args below meth c H locs 0 0 (MQ below (va_Qi (fun (r2 : Int32) (_ : Unit) => r2 = r) (fun _ t => PW G (AC G) (XC G ns) sz M' t t.heap) (AC G)) args s 0 0 (AC G)) (F0 m 29 ls [.int s0]) := by
  obtain ⟨hx, hb, hr, hlocks, hml, hown, hts, hK⟩ := id E
  unfold f_X3_isWithNumber_b29 at hf
  refine ck_e hf (fun hn hf => ?_)
  exact en_i hf hx hb hr (bl_nar hn) hlocks hP hS dX3_isWithNumber_29
set_option maxHeartbeats 4000000 in
set_option maxRecDepth 100000 in
theorem w_X3_isWithNumber_b24 {p : Program} {l : Launch} {e : Env} {s : State} {m : MethodId} {args : Array Value} {below : List Frame} {meth : Method} {c : Code} {G : GG} {sz : Nat} {ns : Nat} {r : Int32} {M' : Mem} (E : Cx p s m args meth c cX3_isWithNumber (some .boolean) 1 RX3 G) {M : Mem} {H : Heap} {locs : List Loc} {ls : Array Slot} (hf : f_X3_isWithNumber_b24 M = some (r, M')) (hP : PW G (AC G) (XC G ns) sz M s H) (hS : va_S (AC G) s.heap H locs) (hl : lv_has ls 1 []) : W p l e rm_X3_isWithNumber s m args below meth c H locs 0 0 (MQ below (va_Qi (fun (r2 : Int32) (_ : Unit) => r2 = r) (fun _ t => PW G (AC G) (XC G ns) sz M' t t.heap) (AC G)) args s 0 0 (AC G)) (F0 m 24 ls []) := by
  obtain ⟨hx, hb, hr, hlocks, hml, hown, hts, hK⟩ := id E
  unfold f_X3_isWithNumber_b24 at hf
  refine lv_iconst (v := 1) hx hb dX3_isWithNumber_24 (by decide) ?_
  refine lv_goto (tgt := 29) hx hb dX3_isWithNumber_25 (by decide) ?_
  exact w_X3_isWithNumber_b29 E hf hP hS (lv_sub hl [] rfl)
set_option maxHeartbeats 4000000 in
set_option maxRecDepth 100000 in
theorem w_X3_isWithNumber {p : Program} {l : Launch} {e : Env} {s : State} {m : MethodId} {args : Array Value} {below : List Frame} {meth : Method} {c : Code} {G : GG} {sz : Nat} {ns : Nat} {r : Int32} {M' : Mem} (E : Cx p s m args meth c cX3_isWithNumber (some .boolean) 1 RX3 G) {x0 : Int32} {M : Mem} {H : Heap} {locs : List Loc} {ls : Array Slot} (hf : f_X3_isWithNumber x0 M = some (r, M')) (hP : PW G (AC G) (XC G ns) sz M s H) (hS : va_S (AC G) s.heap H locs) (hl : lv_has ls 1 [(0, .int x0)]) : W p l e rm_X3_isWithNumber s m args below meth c H locs 0 0 (MQ below (va_Qi (fun (r2 : Int32) (_ : Unit) => r2 = r) (fun _ t => PW G (AC G) (XC G ns) sz M' t t.heap) (AC G)) args s 0 0 (AC G)) (F0 m 0 ls []) := by
  obtain ⟨hx, hb, hr, hlocks, hml, hown, hts, hK⟩ := id E
  unfold f_X3_isWithNumber at hf
  refine lv_iload_n hx hb dX3_isWithNumber_0 rfl (lv_at hl 0 rfl) ?_
  refine lv_bipush (v := 112) hx hb dX3_isWithNumber_1 (by decide) ?_
  refine lv_icmp_eq (tgt := 24) hx hb dX3_isWithNumber_3 (by decide) (fun hc => ?_) (fun hc => ?_)
  · have hf := if_t hf hc
    exact w_X3_isWithNumber_b24 E hf hP hS (lv_sub hl [] rfl)
  · have hf := if_f hf hc
    refine lv_iload_n hx hb dX3_isWithNumber_6 rfl (lv_at hl 0 rfl) ?_
    refine lv_bipush (v := 100) hx hb dX3_isWithNumber_7 (by decide) ?_
    refine lv_icmp_eq (tgt := 24) hx hb dX3_isWithNumber_9 (by decide) (fun hc => ?_) (fun hc => ?_)
    · have hf := if_t hf hc
      exact w_X3_isWithNumber_b24 E hf hP hS (lv_sub hl [] rfl)
    · have hf := if_f hf hc
      refine lv_iload_n hx hb dX3_isWithNumber_12 rfl (lv_at hl 0 rfl) ?_
      refine lv_bipush (v := 114) hx hb dX3_isWithNumber_13 (by decide) ?_
      refine lv_icmp_eq (tgt := 24) hx hb dX3_isWithNumber_15 (by decide) (fun hc => ?_) (fun hc => ?_)
      · have hf := if_t hf hc
        exact w_X3_isWithNumber_b24 E hf hP hS (lv_sub hl [] rfl)
      · have hf := if_f hf hc
        refine lv_iload_n hx hb dX3_isWithNumber_18 rfl (lv_at hl 0 rfl) ?_
        refine lv_bipush (v := 119) hx hb dX3_isWithNumber_19 (by decide) ?_
        refine lv_icmp_ne (tgt := 28) hx hb dX3_isWithNumber_21 (by decide) (fun hc => ?_) (fun hc => ?_)
        · have hf := if_f hf hc
          refine lv_iconst (v := 0) hx hb dX3_isWithNumber_28 (by decide) ?_
          exact w_X3_isWithNumber_b29 E hf hP hS (lv_sub hl [] rfl)
        · have hf := if_t hf hc
          exact w_X3_isWithNumber_b24 E hf hP hS (lv_sub hl [] rfl)
theorem c_X3_isWithNumber (l : Launch) {G : GG} {sz : Nat} {ns : Nat} {x0 : Int32} {M : Mem} {r : Int32} {M' : Mem} (hf : f_X3_isWithNumber x0 M = some (r, M')) : CtI l yX3_isWithNumber cX3_isWithNumber 1 (some .boolean) rm_X3_isWithNumber [.int x0] G (AC G) (XC G ns) sz M r (XC G ns) sz M' := by
  refine Ct_of (by decide) (Nat.le_of_ble_eq_true rfl) (fun p e s m below meth c ls hx hb hr hlocks hml hown hts hK hP hl => ?_)
  exact w_X3_isWithNumber ⟨hx, hb, hr, hlocks, hml, hown, hts, hK⟩ hf hP va_S.rf hl
set_option maxRecDepth 100000 in
theorem cv_X3_isWithNumber {p : Program} {l : Launch} {e : Env} {R : Room} {s : State} {m : MethodId} {args : Array Value} {below : List Frame} {meth : Method} {c : Code} {H : Heap} {locs : List Loc} {cells slots : Nat} {Q : State → Prop} {cc : ByteArray} {pc nL index : Nat} {ret : Option FieldType} {own : String} {ls : Array Slot} {rest : List Value} {l' : List (Nat × Value)} {G : GG} {sz : Nat} {ns : Nat} {M : Mem} (E : Cx p s m args meth c cc ret nL own G) (hP : PW G (AC G) (XC G ns) sz M s H) (hS : va_S (AC G) s.heap H locs) {x0 : Int32} {r : Int32} {M' : Mem} (hq : f_X3_isWithNumber x0 M = some (r, M')) (w1 : Cond.methodLink own index yX3_isWithNumber ∈ lw_all) (hR : 1 ≤ R.frames ∧ 20 ≤ R.locals) (hl : lv_has ls nL l') (hrest : (rest.map fun v => v.category).sum ≤ 8) (hdg : decode cc pc = .ok (.invokestatic index, 3)) (hcs : cells ≤ R.cells ∧ slots ≤ R.slots)
    (kk : ∀ (H1 : Heap) (locs1 : List Loc), PW G (AC G) (XC G ns) sz M' s H1 → va_S (AC G) s.heap H1 locs1 → W p l e R s m args below meth c H1 locs1 cells slots Q (F0 m (pc + 3) ls (.int r :: rest))) : W p l e R s m args below meth c H locs cells slots Q (F0 m pc ls (.int x0 :: rest)) := by
  obtain ⟨hx, hb, hr, hlocks, hml, hown, hts, hK⟩ := E
  exact kc_i (kc_runS (na := 1) hx hb hml hts hown hK hP (c_X3_isWithNumber l hq) w1 w_741 w_6 w_742 (by decide +kernel) hR rfl hl rfl hrest hdg hcs) hS kk
/-! X3_isDigitAt -/
abbrev rm_X3_isDigitAt : Room := { frames := 1, cells := 0, slots := 0, locals := 22 }
def f_X3_isDigitAt_b29 (s0 : Int32) (M : Mem) : Option (Int32 × Mem) :=
ck (bl s0) <|
some (s0, M)
def f_X3_isDigitAt_b28 (M : Mem) : Option (Int32 × Mem) :=
f_X3_isDigitAt_b29 0 M
def f_X3_isDigitAt (x1 : Int32) (M : Mem) : Option (Int32 × Mem) :=
(if (M 0 3 0) ≤ x1 then
  f_X3_isDigitAt_b28 M
else
  ck (ibd x1 60) <|
  ob (f_X7_isIn (M 0 4 (ix x1)) 48 57 M) fun r_18 M_18 =>
  (if r_18 = 0 then
    f_X3_isDigitAt_b28 M_18
  else
    f_X3_isDigitAt_b29 1 M_18))
set_option maxHeartbeats 4000000 in
set_option maxRecDepth 100000 in
theorem w_X3_isDigitAt_b29 {p : Program} {l : Launch} {e : Env} {s : State} {m : MethodId} {args : Array Value} {below : List Frame} {meth : Method} {c : Code} {G : GG} {sz : Nat} {ns : Nat} {r : Int32} {M' : Mem} (E : Cx p s m args meth c cX3_isDigitAt (some .boolean) 2 RX3 G) {s0 : Int32} {M : Mem} {H : Heap} {locs : List Loc} {ls : Array Slot} (hf : f_X3_isDigitAt_b29 s0 M = some (r, M')) (hP : PW G (AC G) (XC G ns) sz M s H) (hS : va_S (AC G) s.heap H locs) (hl : lv_has ls 2 []) : W p l e rm_X3_isDigitAt s m args below meth c H locs 0 0 (MQ below (va_Qi (fun (r2 : Int32) (_ : Unit) => r2 = r) (fun _ t => PW G (AC G) (XC G ns) sz M' t t.heap) (AC G)) args s 0 0 (AC G)) (F0 m 29 ls [.int s0]) := by
  obtain ⟨hx, hb, hr, hlocks, hml, hown, hts, hK⟩ := id E
  unfold f_X3_isDigitAt_b29 at hf
  refine ck_e hf (fun hn hf => ?_)
  exact en_i hf hx hb hr (bl_nar hn) hlocks hP hS dX3_isDigitAt_29
set_option maxHeartbeats 4000000 in
set_option maxRecDepth 100000 in
theorem w_X3_isDigitAt_b28 {p : Program} {l : Launch} {e : Env} {s : State} {m : MethodId} {args : Array Value} {below : List Frame} {meth : Method} {c : Code} {G : GG} {sz : Nat} {ns : Nat} {r : Int32} {M' : Mem} (E : Cx p s m args meth c cX3_isDigitAt (some .boolean) 2 RX3 G) {M : Mem} {H : Heap} {locs : List Loc} {ls : Array Slot} (hf : f_X3_isDigitAt_b28 M = some (r, M')) (hP : PW G (AC G) (XC G ns) sz M s H) (hS : va_S (AC G) s.heap H locs) (hl : lv_has ls 2 []) : W p l e rm_X3_isDigitAt s m args below meth c H locs 0 0 (MQ below (va_Qi (fun (r2 : Int32) (_ : Unit) => r2 = r) (fun _ t => PW G (AC G) (XC G ns) sz M' t t.heap) (AC G)) args s 0 0 (AC G)) (F0 m 28 ls []) := by
  obtain ⟨hx, hb, hr, hlocks, hml, hown, hts, hK⟩ := id E
  unfold f_X3_isDigitAt_b28 at hf
  refine lv_iconst (v := 0) hx hb dX3_isDigitAt_28 (by decide) ?_
  exact w_X3_isDigitAt_b29 E hf hP hS (lv_sub hl [] rfl)
set_option maxHeartbeats 4000000 in
set_option maxRecDepth 100000 in
theorem w_X3_isDigitAt {p : Program} {l : Launch} {e : Env} {s : State} {m : MethodId} {args : Array Value} {below : List Frame} {meth : Method} {c : Code} {G : GG} {sz : Nat} {ns : Nat} {r : Int32} {M' : Mem} (E : Cx p s m args meth c cX3_isDigitAt (some .boolean) 2 RX3 G) {x1 : Int32} {M : Mem} {H : Heap} {locs : List Loc} {ls : Array Slot} (hf : f_X3_isDigitAt x1 M = some (r, M')) (hP : PW G (AC G) (XC G ns) sz M s H) (hS : va_S (AC G) s.heap H locs) (hl : lv_has ls 2 [(0, .ref (adC G 0 3)), (1, .int x1)]) : W p l e rm_X3_isDigitAt s m args below meth c H locs 0 0 (MQ below (va_Qi (fun (r2 : Int32) (_ : Unit) => r2 = r) (fun _ t => PW G (AC G) (XC G ns) sz M' t t.heap) (AC G)) args s 0 0 (AC G)) (F0 m 0 ls []) := by
  obtain ⟨hx, hb, hr, hlocks, hml, hown, hts, hK⟩ := id E
  unfold f_X3_isDigitAt at hf
  refine lv_iload_n hx hb dX3_isDigitAt_0 rfl (lv_at hl 1 rfl) ?_
  refine lv_aload_n hx hb dX3_isDigitAt_1 rfl (lv_at hl 0 rfl) ?_
  refine gf_X3_length E hP w_211 dX3_isDigitAt_2 ?_
  refine lv_icmp_ge (tgt := 28) hx hb dX3_isDigitAt_5 (by decide) (fun hc => ?_) (fun hc => ?_)
  · have hf := if_t hf hc
    exact w_X3_isDigitAt_b28 E hf hP hS (lv_sub hl [] rfl)
  · have hf := if_f hf hc
    refine lv_aload_n hx hb dX3_isDigitAt_8 rfl (lv_at hl 0 rfl) ?_
    refine gf_X3_signs E hP w_213 dX3_isDigitAt_9 ?_
    refine lv_iload_n hx hb dX3_isDigitAt_12 rfl (lv_at hl 1 rfl) ?_
    refine ck_e hf (fun hi hf => ?_)
    refine la_C4 E hP hi dX3_isDigitAt_13 ?_
    refine lv_bipush (v := 48) hx hb dX3_isDigitAt_14 (by decide) ?_
    refine lv_bipush (v := 57) hx hb dX3_isDigitAt_16 (by decide) ?_
    refine ob_e hf (fun r_18 M_18 hq hf => ?_)
    refine cn_X7_isIn E hP hS hq w_747 ⟨Nat.le_of_ble_eq_true rfl, Nat.le_of_ble_eq_true rfl⟩ hl (Nat.le_of_ble_eq_true rfl) dX3_isDigitAt_18 ⟨Nat.le_of_ble_eq_true rfl, Nat.le_of_ble_eq_true rfl⟩ (fun H locs hP hS => ?_)
    refine lv_if_eq (tgt := 28) hx hb dX3_isDigitAt_21 (by decide) (fun hc => ?_) (fun hc => ?_)
    · have hf := if_t hf hc
      exact w_X3_isDigitAt_b28 E hf hP hS (lv_sub hl [] rfl)
    · have hf := if_f hf hc
      refine lv_iconst (v := 1) hx hb dX3_isDigitAt_24 (by decide) ?_
      refine lv_goto (tgt := 29) hx hb dX3_isDigitAt_25 (by decide) ?_
      exact w_X3_isDigitAt_b29 E hf hP hS (lv_sub hl [] rfl)
theorem c_X3_isDigitAt (l : Launch) {G : GG} {sz : Nat} {ns : Nat} {x1 : Int32} {M : Mem} {r : Int32} {M' : Mem} (hf : f_X3_isDigitAt x1 M = some (r, M')) : CtI l yX3_isDigitAt cX3_isDigitAt 2 (some .boolean) rm_X3_isDigitAt [.ref (adC G 0 3), .int x1] G (AC G) (XC G ns) sz M r (XC G ns) sz M' := by
  refine Ct_of (by decide) (Nat.le_of_ble_eq_true rfl) (fun p e s m below meth c ls hx hb hr hlocks hml hown hts hK hP hl => ?_)
  exact w_X3_isDigitAt ⟨hx, hb, hr, hlocks, hml, hown, hts, hK⟩ hf hP va_S.rf hl
set_option maxRecDepth 100000 in
theorem cv_X3_isDigitAt {p : Program} {l : Launch} {e : Env} {R : Room} {s : State} {m : MethodId} {args : Array Value} {below : List Frame} {meth : Method} {c : Code} {H : Heap} {locs : List Loc} {cells slots : Nat} {Q : State → Prop} {cc : ByteArray} {pc nL index : Nat} {ret : Option FieldType} {own : String} {ls : Array Slot} {rest : List Value} {l' : List (Nat × Value)} {G : GG} {sz : Nat} {ns : Nat} {M : Mem} (E : Cx p s m args meth c cc ret nL own G) (hP : PW G (AC G) (XC G ns) sz M s H) (hS : va_S (AC G) s.heap H locs) {x1 : Int32} {r : Int32} {M' : Mem} (hq : f_X3_isDigitAt x1 M = some (r, M')) (w1 : Cond.methodLink own index yX3_isDigitAt ∈ lw_all) (hR : 2 ≤ R.frames ∧ 43 ≤ R.locals) (hl : lv_has ls nL l') (hrest : (rest.map fun v => v.category).sum ≤ 8) (hdg : decode cc pc = .ok (.invokevirtual index, 3)) (hcs : cells ≤ R.cells ∧ slots ≤ R.slots)
    (kk : ∀ (H1 : Heap) (locs1 : List Loc), PW G (AC G) (XC G ns) sz M' s H1 → va_S (AC G) s.heap H1 locs1 → W p l e R s m args below meth c H1 locs1 cells slots Q (F0 m (pc + 3) ls (.int r :: rest))) : W p l e R s m args below meth c H locs cells slots Q (F0 m pc ls (.int x1 :: .ref (adC G 0 3) :: rest)) := by
  obtain ⟨hx, hb, hr, hlocks, hml, hown, hts, hK⟩ := E
  exact kc_i (kc_runV (na := 1) (q := (RX3, TX3, 5)) hx hb hml hts hown hK hP 0 3 (dm0 (by decide)) rfl rfl rfl (c_X3_isDigitAt l hq) w1 w_745 ws_14 w_6 w_746 (by decide +kernel) hR rfl hl rfl hrest hdg hcs) hS kk
/-! X3_fittingSigns -/
abbrev rm_X3_fittingSigns : Room := { frames := 2, cells := 0, slots := 0, locals := 43 }
def f_X3_fittingSigns_b22 (M : Mem) : Option (Int32 × Mem) :=
some (1, M)
def f_X3_fittingSigns_b61 (x2 : Int32) (M : Mem) : Option (Int32 × Mem) :=
some ((1 + x2), M)
def f_X3_fittingSigns_b35 : Nat → Int32 → Mem → Option (Int32 × Mem)
  | 0 => fun _ _ => none
  | fu + 1 => fun x2 M =>
(if 3 ≤ x2 then
  f_X3_fittingSigns_b61 x2 M
else
  ob (f_X3_isDigitAt (((M 0 3 2) + 1) + x2) M) fun r_49 M_49 =>
  (if r_49 = 0 then
    f_X3_fittingSigns_b61 x2 M_49
  else
    lt (x2 + 1) fun x2_55 =>
    f_X3_fittingSigns_b35 fu x2_55 M_49))
def f_X3_fittingSigns (M : Mem) : Option (Int32 × Mem) :=
ck (ibd (M 0 3 2) 60) <|
lt ((M 0 4 (ix (M 0 3 2)))) fun x1_9 =>
(if x1_9 = 104 then
  f_X3_fittingSigns_b22 M
else
  (if x1_9 = 99 then
    f_X3_fittingSigns_b22 M
  else
    ob (f_X3_isWithNumber x1_9 M) fun r_25 M_25 =>
    (if r_25 = 0 then
      some (0, M_25)
    else
      f_X3_fittingSigns_b35 1000 0 M_25)))
set_option maxHeartbeats 4000000 in
set_option maxRecDepth 100000 in
theorem w_X3_fittingSigns_b22 {p : Program} {l : Launch} {e : Env} {s : State} {m : MethodId} {args : Array Value} {below : List Frame} {meth : Method} {c : Code} {G : GG} {sz : Nat} {ns : Nat} {r : Int32} {M' : Mem} (E : Cx p s m args meth c cX3_fittingSigns (some .int) 3 RX3 G) {M : Mem} {H : Heap} {locs : List Loc} {ls : Array Slot} (hf : f_X3_fittingSigns_b22 M = some (r, M')) (hP : PW G (AC G) (XC G ns) sz M s H) (hS : va_S (AC G) s.heap H locs) (hl : lv_has ls 3 []) : W p l e rm_X3_fittingSigns s m args below meth c H locs 0 0 (MQ below (va_Qi (fun (r2 : Int32) (_ : Unit) => r2 = r) (fun _ t => PW G (AC G) (XC G ns) sz M' t t.heap) (AC G)) args s 0 0 (AC G)) (F0 m 22 ls []) := by
  obtain ⟨hx, hb, hr, hlocks, hml, hown, hts, hK⟩ := id E
  unfold f_X3_fittingSigns_b22 at hf
  refine lv_iconst (v := 1) hx hb dX3_fittingSigns_22 (by decide) ?_
  exact en_i hf hx hb hr rfl hlocks hP hS dX3_fittingSigns_23
set_option maxHeartbeats 4000000 in
set_option maxRecDepth 100000 in
theorem w_X3_fittingSigns_b61 {p : Program} {l : Launch} {e : Env} {s : State} {m : MethodId} {args : Array Value} {below : List Frame} {meth : Method} {c : Code} {G : GG} {sz : Nat} {ns : Nat} {r : Int32} {M' : Mem} (E : Cx p s m args meth c cX3_fittingSigns (some .int) 3 RX3 G) {x2 : Int32} {M : Mem} {H : Heap} {locs : List Loc} {ls : Array Slot} (hf : f_X3_fittingSigns_b61 x2 M = some (r, M')) (hP : PW G (AC G) (XC G ns) sz M s H) (hS : va_S (AC G) s.heap H locs) (hl : lv_has ls 3 [(2, .int x2)]) : W p l e rm_X3_fittingSigns s m args below meth c H locs 0 0 (MQ below (va_Qi (fun (r2 : Int32) (_ : Unit) => r2 = r) (fun _ t => PW G (AC G) (XC G ns) sz M' t t.heap) (AC G)) args s 0 0 (AC G)) (F0 m 61 ls []) := by
  obtain ⟨hx, hb, hr, hlocks, hml, hown, hts, hK⟩ := id E
  unfold f_X3_fittingSigns_b61 at hf
  refine lv_iconst (v := 1) hx hb dX3_fittingSigns_61 (by decide) ?_
  refine lv_iload_n hx hb dX3_fittingSigns_62 rfl (lv_at hl 0 rfl) ?_
  refine lv_iadd hx hb dX3_fittingSigns_63 ?_
  exact en_i hf hx hb hr rfl hlocks hP hS dX3_fittingSigns_64
set_option maxHeartbeats 4000000 in
set_option maxRecDepth 100000 in
theorem w_X3_fittingSigns_b35 {p : Program} {l : Launch} {e : Env} {s : State} {m : MethodId} {args : Array Value} {below : List Frame} {meth : Method} {c : Code} {G : GG} {sz : Nat} {ns : Nat} {r : Int32} {M' : Mem} (E : Cx p s m args meth c cX3_fittingSigns (some .int) 3 RX3 G) : ∀ fu : Nat, ∀ (x2 : Int32) (M : Mem) (H : Heap) (locs : List Loc) (ls : Array Slot), f_X3_fittingSigns_b35 fu x2 M = some (r, M') → PW G (AC G) (XC G ns) sz M s H → va_S (AC G) s.heap H locs → lv_has ls 3 [(0, .ref (adC G 0 3)), (2, .int x2)] → W p l e rm_X3_fittingSigns s m args below meth c H locs 0 0 (MQ below (va_Qi (fun (r2 : Int32) (_ : Unit) => r2 = r) (fun _ t => PW G (AC G) (XC G ns) sz M' t t.heap) (AC G)) args s 0 0 (AC G)) (F0 m 35 ls []) := by
  obtain ⟨hx, hb, hr, hlocks, hml, hown, hts, hK⟩ := id E
  intro fu
  induction fu with
  | zero => intro x2 M H locs ls hf hP hS hl; cases hf
  | succ fu ih =>
    intro x2 M H locs ls hf hP hS hl
    rw [f_X3_fittingSigns_b35.eq_2] at hf
    refine lv_iload_n hx hb dX3_fittingSigns_35 rfl (lv_at hl 1 rfl) ?_
    refine lv_iconst (v := 3) hx hb dX3_fittingSigns_36 (by decide) ?_
    refine lv_icmp_ge (tgt := 61) hx hb dX3_fittingSigns_37 (by decide) (fun hc => ?_) (fun hc => ?_)
    · have hf := if_t hf hc
      exact w_X3_fittingSigns_b61 E hf hP hS (lv_sub hl [1] rfl)
    · have hf := if_f hf hc
      refine lv_aload_n hx hb dX3_fittingSigns_40 rfl (lv_at hl 0 rfl) ?_
      refine lv_aload_n hx hb dX3_fittingSigns_41 rfl (lv_at hl 0 rfl) ?_
      refine gf_X3_position E hP w_214 dX3_fittingSigns_42 ?_
      refine lv_iconst (v := 1) hx hb dX3_fittingSigns_45 (by decide) ?_
      refine lv_iadd hx hb dX3_fittingSigns_46 ?_
      refine lv_iload_n hx hb dX3_fittingSigns_47 rfl (lv_at hl 1 rfl) ?_
      refine lv_iadd hx hb dX3_fittingSigns_48 ?_
      refine ob_e hf (fun r_49 M_49 hq hf => ?_)
      refine cv_X3_isDigitAt E hP hS hq w_743 ⟨Nat.le_of_ble_eq_true rfl, Nat.le_of_ble_eq_true rfl⟩ hl (Nat.le_of_ble_eq_true rfl) dX3_fittingSigns_49 ⟨Nat.le_of_ble_eq_true rfl, Nat.le_of_ble_eq_true rfl⟩ (fun H locs hP hS => ?_)
      refine lv_if_eq (tgt := 61) hx hb dX3_fittingSigns_52 (by decide) (fun hc => ?_) (fun hc => ?_)
      · have hf := if_t hf hc
        exact w_X3_fittingSigns_b61 E hf hP hS (lv_sub hl [1] rfl)
      · have hf := if_f hf hc
        refine lt_e hf (fun x2_55 hx2_55 hf => ?_)
        refine lv_iinc (v := x2_55) (lv' := [(2, .int x2_55), (0, .ref (adC G 0 3))]) hx hb dX3_fittingSigns_55 hl (k := 1) rfl (by rw [hx2_55]; rfl) (by decide) rfl (fun ls hl => ?_)
        refine lv_goto (tgt := 35) hx hb dX3_fittingSigns_58 (by decide) ?_
        exact ih _ _ _ _ _ hf hP hS (lv_sub hl [1, 0] rfl)
set_option maxHeartbeats 4000000 in
set_option maxRecDepth 100000 in
theorem w_X3_fittingSigns {p : Program} {l : Launch} {e : Env} {s : State} {m : MethodId} {args : Array Value} {below : List Frame} {meth : Method} {c : Code} {G : GG} {sz : Nat} {ns : Nat} {r : Int32} {M' : Mem} (E : Cx p s m args meth c cX3_fittingSigns (some .int) 3 RX3 G) {M : Mem} {H : Heap} {locs : List Loc} {ls : Array Slot} (hf : f_X3_fittingSigns M = some (r, M')) (hP : PW G (AC G) (XC G ns) sz M s H) (hS : va_S (AC G) s.heap H locs) (hl : lv_has ls 3 [(0, .ref (adC G 0 3))]) : W p l e rm_X3_fittingSigns s m args below meth c H locs 0 0 (MQ below (va_Qi (fun (r2 : Int32) (_ : Unit) => r2 = r) (fun _ t => PW G (AC G) (XC G ns) sz M' t t.heap) (AC G)) args s 0 0 (AC G)) (F0 m 0 ls []) := by
  obtain ⟨hx, hb, hr, hlocks, hml, hown, hts, hK⟩ := id E
  unfold f_X3_fittingSigns at hf
  refine lv_aload_n hx hb dX3_fittingSigns_0 rfl (lv_at hl 0 rfl) ?_
  refine gf_X3_signs E hP w_213 dX3_fittingSigns_1 ?_
  refine lv_aload_n hx hb dX3_fittingSigns_4 rfl (lv_at hl 0 rfl) ?_
  refine gf_X3_position E hP w_214 dX3_fittingSigns_5 ?_
  refine ck_e hf (fun hi hf => ?_)
  refine la_C4 E hP hi dX3_fittingSigns_8 ?_
  refine lt_e hf (fun x1_9 hx1_9 hf => ?_)
  refine kr_nm hx1_9 ?_
  refine lv_istore_n (lv' := [(1, .int x1_9), (0, .ref (adC G 0 3))]) hx hb dX3_fittingSigns_9 rfl hl (by decide) rfl (fun ls hl => ?_)
  refine lv_iload_n hx hb dX3_fittingSigns_10 rfl (lv_at hl 0 rfl) ?_
  refine lv_bipush (v := 104) hx hb dX3_fittingSigns_11 (by decide) ?_
  refine lv_icmp_eq (tgt := 22) hx hb dX3_fittingSigns_13 (by decide) (fun hc => ?_) (fun hc => ?_)
  · have hf := if_t hf hc
    exact w_X3_fittingSigns_b22 E hf hP hS (lv_sub hl [] rfl)
  · have hf := if_f hf hc
    refine lv_iload_n hx hb dX3_fittingSigns_16 rfl (lv_at hl 0 rfl) ?_
    refine lv_bipush (v := 99) hx hb dX3_fittingSigns_17 (by decide) ?_
    refine lv_icmp_ne (tgt := 24) hx hb dX3_fittingSigns_19 (by decide) (fun hc => ?_) (fun hc => ?_)
    · have hf := if_f hf hc
      refine lv_iload_n hx hb dX3_fittingSigns_24 rfl (lv_at hl 0 rfl) ?_
      refine ob_e hf (fun r_25 M_25 hq hf => ?_)
      refine cv_X3_isWithNumber E hP hS hq w_740 ⟨Nat.le_of_ble_eq_true rfl, Nat.le_of_ble_eq_true rfl⟩ hl (Nat.le_of_ble_eq_true rfl) dX3_fittingSigns_25 ⟨Nat.le_of_ble_eq_true rfl, Nat.le_of_ble_eq_true rfl⟩ (fun H locs hP hS => ?_)
      refine lv_if_ne (tgt := 33) hx hb dX3_fittingSigns_28 (by decide) (fun hc => ?_) (fun hc => ?_)
      · have hf := if_f hf hc
        refine lv_iconst (v := 0) hx hb dX3_fittingSigns_33 (by decide) ?_
        refine lv_istore_n (lv' := [(2, .int 0), (1, .int x1_9), (0, .ref (adC G 0 3))]) hx hb dX3_fittingSigns_34 rfl hl (by decide) rfl (fun ls hl => ?_)
        exact w_X3_fittingSigns_b35 E 1000 _ _ _ _ _ hf hP hS (lv_sub hl [2, 0] rfl)
      · have hf := if_t hf hc
        refine lv_iconst (v := 0) hx hb dX3_fittingSigns_31 (by decide) ?_
        exact en_i hf hx hb hr rfl hlocks hP hS dX3_fittingSigns_32
    · have hf := if_t hf hc
      exact w_X3_fittingSigns_b22 E hf hP hS (lv_sub hl [] rfl)
theorem c_X3_fittingSigns (l : Launch) {G : GG} {sz : Nat} {ns : Nat} {M : Mem} {r : Int32} {M' : Mem} (hf : f_X3_fittingSigns M = some (r, M')) : CtI l yX3_fittingSigns cX3_fittingSigns 3 (some .int) rm_X3_fittingSigns [.ref (adC G 0 3)] G (AC G) (XC G ns) sz M r (XC G ns) sz M' := by
  refine Ct_of (by decide) (Nat.le_of_ble_eq_true rfl) (fun p e s m below meth c ls hx hb hr hlocks hml hown hts hK hP hl => ?_)
  exact w_X3_fittingSigns ⟨hx, hb, hr, hlocks, hml, hown, hts, hK⟩ hf hP va_S.rf hl
set_option maxRecDepth 100000 in
theorem cv_X3_fittingSigns {p : Program} {l : Launch} {e : Env} {R : Room} {s : State} {m : MethodId} {args : Array Value} {below : List Frame} {meth : Method} {c : Code} {H : Heap} {locs : List Loc} {cells slots : Nat} {Q : State → Prop} {cc : ByteArray} {pc nL index : Nat} {ret : Option FieldType} {own : String} {ls : Array Slot} {rest : List Value} {l' : List (Nat × Value)} {G : GG} {sz : Nat} {ns : Nat} {M : Mem} (E : Cx p s m args meth c cc ret nL own G) (hP : PW G (AC G) (XC G ns) sz M s H) (hS : va_S (AC G) s.heap H locs) {r : Int32} {M' : Mem} (hq : f_X3_fittingSigns M = some (r, M')) (w1 : Cond.methodLink own index yX3_fittingSigns ∈ lw_all) (hR : 3 ≤ R.frames ∧ 65 ≤ R.locals) (hl : lv_has ls nL l') (hrest : (rest.map fun v => v.category).sum ≤ 8) (hdg : decode cc pc = .ok (.invokevirtual index, 3)) (hcs : cells ≤ R.cells ∧ slots ≤ R.slots)
    (kk : ∀ (H1 : Heap) (locs1 : List Loc), PW G (AC G) (XC G ns) sz M' s H1 → va_S (AC G) s.heap H1 locs1 → W p l e R s m args below meth c H1 locs1 cells slots Q (F0 m (pc + 3) ls (.int r :: rest))) : W p l e R s m args below meth c H locs cells slots Q (F0 m pc ls (.ref (adC G 0 3) :: rest)) := by
  obtain ⟨hx, hb, hr, hlocks, hml, hown, hts, hK⟩ := E
  exact kc_i (kc_runV (na := 0) (q := (RX3, TX3, 5)) hx hb hml hts hown hK hP 0 3 (dm0 (by decide)) rfl rfl rfl (c_X3_fittingSigns l hq) w1 w_738 ws_13 w_6 w_739 (by decide +kernel) hR rfl hl rfl hrest hdg hcs) hS kk
/-! X3_isClosedBehind -/
abbrev rm_X3_isClosedBehind : Room := { frames := 1, cells := 0, slots := 0, locals := 20 }
def f_X3_isClosedBehind_b57 (s0 : Int32) (M : Mem) : Option (Int32 × Mem) :=
ck (bl s0) <|
some (s0, M)
def f_X3_isClosedBehind_b56 (M : Mem) : Option (Int32 × Mem) :=
f_X3_isClosedBehind_b57 0 M
def f_X3_isClosedBehind_b20 (x1 : Int32) (s0 : Int32) (M : Mem) : Option (Int32 × Mem) :=
lt (((M 0 3 2) + x1)) fun x3_27 =>
(if x1 < s0 then
  f_X3_isClosedBehind_b56 M
else
  (if (M 0 3 0) ≤ x3_27 then
    f_X3_isClosedBehind_b56 M
  else
    ck (ibd x3_27 60) <|
    (if (M 0 4 (ix x3_27)) = 59 then
      f_X3_isClosedBehind_b57 1 M
    else
      f_X3_isClosedBehind_b56 M)))
def f_X3_isClosedBehind (x1 : Int32) (M : Mem) : Option (Int32 × Mem) :=
ck (ibd (M 0 3 2) 60) <|
ob (f_X3_isWithNumber (M 0 4 (ix (M 0 3 2))) M) fun r_9 M_9 =>
(if r_9 = 0 then
  f_X3_isClosedBehind_b20 x1 1 M_9
else
  f_X3_isClosedBehind_b20 x1 2 M_9)
set_option maxHeartbeats 4000000 in
set_option maxRecDepth 100000 in
theorem w_X3_isClosedBehind_b57 {p : Program} {l : Launch} {e : Env} {s : State} {m : MethodId} {args : Array Value} {below : List Frame} {meth : Method} {c : Code} {G : GG} {sz : Nat} {ns : Nat} {r : Int32} {M' : Mem} (E : Cx p s m args meth c cX3_isClosedBehind (some .boolean) 4 RX3 G) {s0 : Int32} {M : Mem} {H : Heap} {locs : List Loc} {ls : Array Slot} (hf : f_X3_isClosedBehind_b57 s0 M = some (r, M')) (hP : PW G (AC G) (XC G ns) sz M s H) (hS : va_S (AC G) s.heap H locs) (hl : lv_has ls 4 []) : W p l e rm_X3_isClosedBehind s m args below meth c H locs 0 0 (MQ below (va_Qi (fun (r2 : Int32) (_ : Unit) => r2 = r) (fun _ t => PW G (AC G) (XC G ns) sz M' t t.heap) (AC G)) args s 0 0 (AC G)) (F0 m 57 ls [.int s0]) := by
  obtain ⟨hx, hb, hr, hlocks, hml, hown, hts, hK⟩ := id E
  unfold f_X3_isClosedBehind_b57 at hf
  refine ck_e hf (fun hn hf => ?_)
  exact en_i hf hx hb hr (bl_nar hn) hlocks hP hS dX3_isClosedBehind_57
set_option maxHeartbeats 4000000 in
set_option maxRecDepth 100000 in
theorem w_X3_isClosedBehind_b56 {p : Program} {l : Launch} {e : Env} {s : State} {m : MethodId} {args : Array Value} {below : List Frame} {meth : Method} {c : Code} {G : GG} {sz : Nat} {ns : Nat} {r : Int32} {M' : Mem} (E : Cx p s m args meth c cX3_isClosedBehind (some .boolean) 4 RX3 G) {M : Mem} {H : Heap} {locs : List Loc} {ls : Array Slot} (hf : f_X3_isClosedBehind_b56 M = some (r, M')) (hP : PW G (AC G) (XC G ns) sz M s H) (hS : va_S (AC G) s.heap H locs) (hl : lv_has ls 4 []) : W p l e rm_X3_isClosedBehind s m args below meth c H locs 0 0 (MQ below (va_Qi (fun (r2 : Int32) (_ : Unit) => r2 = r) (fun _ t => PW G (AC G) (XC G ns) sz M' t t.heap) (AC G)) args s 0 0 (AC G)) (F0 m 56 ls []) := by
  obtain ⟨hx, hb, hr, hlocks, hml, hown, hts, hK⟩ := id E
  unfold f_X3_isClosedBehind_b56 at hf
  refine lv_iconst (v := 0) hx hb dX3_isClosedBehind_56 (by decide) ?_
  exact w_X3_isClosedBehind_b57 E hf hP hS (lv_sub hl [] rfl)
set_option maxHeartbeats 4000000 in
set_option maxRecDepth 100000 in
theorem w_X3_isClosedBehind_b20 {p : Program} {l : Launch} {e : Env} {s : State} {m : MethodId} {args : Array Value} {below : List Frame} {meth : Method} {c : Code} {G : GG} {sz : Nat} {ns : Nat} {r : Int32} {M' : Mem} (E : Cx p s m args meth c cX3_isClosedBehind (some .boolean) 4 RX3 G) {x1 : Int32} {s0 : Int32} {M : Mem} {H : Heap} {locs : List Loc} {ls : Array Slot} (hf : f_X3_isClosedBehind_b20 x1 s0 M = some (r, M')) (hP : PW G (AC G) (XC G ns) sz M s H) (hS : va_S (AC G) s.heap H locs) (hl : lv_has ls 4 [(0, .ref (adC G 0 3)), (1, .int x1)]) : W p l e rm_X3_isClosedBehind s m args below meth c H locs 0 0 (MQ below (va_Qi (fun (r2 : Int32) (_ : Unit) => r2 = r) (fun _ t => PW G (AC G) (XC G ns) sz M' t t.heap) (AC G)) args s 0 0 (AC G)) (F0 m 20 ls [.int s0]) := by
  obtain ⟨hx, hb, hr, hlocks, hml, hown, hts, hK⟩ := id E
  unfold f_X3_isClosedBehind_b20 at hf
  refine lv_istore_n (lv' := [(2, .int s0), (0, .ref (adC G 0 3)), (1, .int x1)]) hx hb dX3_isClosedBehind_20 rfl hl (by decide) rfl (fun ls hl => ?_)
  refine lv_aload_n hx hb dX3_isClosedBehind_21 rfl (lv_at hl 1 rfl) ?_
  refine gf_X3_position E hP w_214 dX3_isClosedBehind_22 ?_
  refine lv_iload_n hx hb dX3_isClosedBehind_25 rfl (lv_at hl 2 rfl) ?_
  refine lv_iadd hx hb dX3_isClosedBehind_26 ?_
  refine lt_e hf (fun x3_27 hx3_27 hf => ?_)
  refine kr_nm hx3_27 ?_
  refine lv_istore_n (lv' := [(3, .int x3_27), (2, .int s0), (0, .ref (adC G 0 3)), (1, .int x1)]) hx hb dX3_isClosedBehind_27 rfl hl (by decide) rfl (fun ls hl => ?_)
  refine lv_iload_n hx hb dX3_isClosedBehind_28 rfl (lv_at hl 3 rfl) ?_
  refine lv_iload_n hx hb dX3_isClosedBehind_29 rfl (lv_at hl 1 rfl) ?_
  refine lv_icmp_lt (tgt := 56) hx hb dX3_isClosedBehind_30 (by decide) (fun hc => ?_) (fun hc => ?_)
  · have hf := if_t hf hc
    exact w_X3_isClosedBehind_b56 E hf hP hS (lv_sub hl [] rfl)
  · have hf := if_f hf hc
    refine lv_iload_n hx hb dX3_isClosedBehind_33 rfl (lv_at hl 0 rfl) ?_
    refine lv_aload_n hx hb dX3_isClosedBehind_34 rfl (lv_at hl 2 rfl) ?_
    refine gf_X3_length E hP w_211 dX3_isClosedBehind_35 ?_
    refine lv_icmp_ge (tgt := 56) hx hb dX3_isClosedBehind_38 (by decide) (fun hc => ?_) (fun hc => ?_)
    · have hf := if_t hf hc
      exact w_X3_isClosedBehind_b56 E hf hP hS (lv_sub hl [] rfl)
    · have hf := if_f hf hc
      refine lv_aload_n hx hb dX3_isClosedBehind_41 rfl (lv_at hl 2 rfl) ?_
      refine gf_X3_signs E hP w_213 dX3_isClosedBehind_42 ?_
      refine lv_iload_n hx hb dX3_isClosedBehind_45 rfl (lv_at hl 0 rfl) ?_
      refine ck_e hf (fun hi hf => ?_)
      refine la_C4 E hP hi dX3_isClosedBehind_46 ?_
      refine lv_bipush (v := 59) hx hb dX3_isClosedBehind_47 (by decide) ?_
      refine lv_icmp_ne (tgt := 56) hx hb dX3_isClosedBehind_49 (by decide) (fun hc => ?_) (fun hc => ?_)
      · have hf := if_f hf hc
        exact w_X3_isClosedBehind_b56 E hf hP hS (lv_sub hl [] rfl)
      · have hf := if_t hf hc
        refine lv_iconst (v := 1) hx hb dX3_isClosedBehind_52 (by decide) ?_
        refine lv_goto (tgt := 57) hx hb dX3_isClosedBehind_53 (by decide) ?_
        exact w_X3_isClosedBehind_b57 E hf hP hS (lv_sub hl [] rfl)
set_option maxHeartbeats 4000000 in
set_option maxRecDepth 100000 in
theorem w_X3_isClosedBehind {p : Program} {l : Launch} {e : Env} {s : State} {m : MethodId} {args : Array Value} {below : List Frame} {meth : Method} {c : Code} {G : GG} {sz : Nat} {ns : Nat} {r : Int32} {M' : Mem} (E : Cx p s m args meth c cX3_isClosedBehind (some .boolean) 4 RX3 G) {x1 : Int32} {M : Mem} {H : Heap} {locs : List Loc} {ls : Array Slot} (hf : f_X3_isClosedBehind x1 M = some (r, M')) (hP : PW G (AC G) (XC G ns) sz M s H) (hS : va_S (AC G) s.heap H locs) (hl : lv_has ls 4 [(0, .ref (adC G 0 3)), (1, .int x1)]) : W p l e rm_X3_isClosedBehind s m args below meth c H locs 0 0 (MQ below (va_Qi (fun (r2 : Int32) (_ : Unit) => r2 = r) (fun _ t => PW G (AC G) (XC G ns) sz M' t t.heap) (AC G)) args s 0 0 (AC G)) (F0 m 0 ls []) := by
  obtain ⟨hx, hb, hr, hlocks, hml, hown, hts, hK⟩ := id E
  unfold f_X3_isClosedBehind at hf
  refine lv_aload_n hx hb dX3_isClosedBehind_0 rfl (lv_at hl 0 rfl) ?_
  refine gf_X3_signs E hP w_213 dX3_isClosedBehind_1 ?_
  refine lv_aload_n hx hb dX3_isClosedBehind_4 rfl (lv_at hl 0 rfl) ?_
  refine gf_X3_position E hP w_214 dX3_isClosedBehind_5 ?_
  refine ck_e hf (fun hi hf => ?_)
  refine la_C4 E hP hi dX3_isClosedBehind_8 ?_
  refine ob_e hf (fun r_9 M_9 hq hf => ?_)
  refine cv_X3_isWithNumber E hP hS hq w_740 ⟨Nat.le_of_ble_eq_true rfl, Nat.le_of_ble_eq_true rfl⟩ hl (Nat.le_of_ble_eq_true rfl) dX3_isClosedBehind_9 ⟨Nat.le_of_ble_eq_true rfl, Nat.le_of_ble_eq_true rfl⟩ (fun H locs hP hS => ?_)
  refine lv_if_eq (tgt := 19) hx hb dX3_isClosedBehind_12 (by decide) (fun hc => ?_) (fun hc => ?_)
  · have hf := if_t hf hc
    refine lv_iconst (v := 1) hx hb dX3_isClosedBehind_19 (by decide) ?_
    exact w_X3_isClosedBehind_b20 E hf hP hS (lv_sub hl [0, 1] rfl)
  · have hf := if_f hf hc
    refine lv_iconst (v := 2) hx hb dX3_isClosedBehind_15 (by decide) ?_
    refine lv_goto (tgt := 20) hx hb dX3_isClosedBehind_16 (by decide) ?_
    exact w_X3_isClosedBehind_b20 E hf hP hS (lv_sub hl [0, 1] rfl)
theorem c_X3_isClosedBehind (l : Launch) {G : GG} {sz : Nat} {ns : Nat} {x1 : Int32} {M : Mem} {r : Int32} {M' : Mem} (hf : f_X3_isClosedBehind x1 M = some (r, M')) : CtI l yX3_isClosedBehind cX3_isClosedBehind 4 (some .boolean) rm_X3_isClosedBehind [.ref (adC G 0 3), .int x1] G (AC G) (XC G ns) sz M r (XC G ns) sz M' := by
  refine Ct_of (by decide) (Nat.le_of_ble_eq_true rfl) (fun p e s m below meth c ls hx hb hr hlocks hml hown hts hK hP hl => ?_)
  exact w_X3_isClosedBehind ⟨hx, hb, hr, hlocks, hml, hown, hts, hK⟩ hf hP va_S.rf hl
set_option maxRecDepth 100000 in
theorem cv_X3_isClosedBehind {p : Program} {l : Launch} {e : Env} {R : Room} {s : State} {m : MethodId} {args : Array Value} {below : List Frame} {meth : Method} {c : Code} {H : Heap} {locs : List Loc} {cells slots : Nat} {Q : State → Prop} {cc : ByteArray} {pc nL index : Nat} {ret : Option FieldType} {own : String} {ls : Array Slot} {rest : List Value} {l' : List (Nat × Value)} {G : GG} {sz : Nat} {ns : Nat} {M : Mem} (E : Cx p s m args meth c cc ret nL own G) (hP : PW G (AC G) (XC G ns) sz M s H) (hS : va_S (AC G) s.heap H locs) {x1 : Int32} {r : Int32} {M' : Mem} (hq : f_X3_isClosedBehind x1 M = some (r, M')) (w1 : Cond.methodLink own index yX3_isClosedBehind ∈ lw_all) (hR : 2 ≤ R.frames ∧ 43 ≤ R.locals) (hl : lv_has ls nL l') (hrest : (rest.map fun v => v.category).sum ≤ 8) (hdg : decode cc pc = .ok (.invokevirtual index, 3)) (hcs : cells ≤ R.cells ∧ slots ≤ R.slots)
    (kk : ∀ (H1 : Heap) (locs1 : List Loc), PW G (AC G) (XC G ns) sz M' s H1 → va_S (AC G) s.heap H1 locs1 → W p l e R s m args below meth c H1 locs1 cells slots Q (F0 m (pc + 3) ls (.int r :: rest))) : W p l e R s m args below meth c H locs cells slots Q (F0 m pc ls (.int x1 :: .ref (adC G 0 3) :: rest)) := by
  obtain ⟨hx, hb, hr, hlocks, hml, hown, hts, hK⟩ := E
  exact kc_i (kc_runV (na := 1) (q := (RX3, TX3, 5)) hx hb hml hts hown hK hP 0 3 (dm0 (by decide)) rfl rfl rfl (c_X3_isClosedBehind l hq) w1 w_750 ws_15 w_6 w_751 (by decide +kernel) hR rfl hl rfl hrest hdg hcs) hS kk
/-! X3_numberOf -/
abbrev rm_X3_numberOf : Room := { frames := 0, cells := 0, slots := 0, locals := 0 }
def f_X3_numberOf_b9 : Nat → Int32 → Int32 → Int32 → Mem → Option (Int32 × Mem)
  | 0 => fun _ _ _ _ => none
  | fu + 1 => fun x1 x2 x3 M =>
(if ((M 0 3 2) + x1) ≤ x3 then
  some (x2, M)
else
  ck (ibd x3 60) <|
  lt ((((10 * x2) + (M 0 4 (ix x3))) - 48)) fun x2_33 =>
  lt (x3 + 1) fun x3_34 =>
  f_X3_numberOf_b9 fu x1 x2_33 x3_34 M)
def f_X3_numberOf (x1 : Int32) (M : Mem) : Option (Int32 × Mem) :=
lt (((M 0 3 2) + 1)) fun x3_8 =>
f_X3_numberOf_b9 1000 x1 0 x3_8 M
set_option maxHeartbeats 4000000 in
set_option maxRecDepth 100000 in
theorem w_X3_numberOf_b9 {p : Program} {l : Launch} {e : Env} {s : State} {m : MethodId} {args : Array Value} {below : List Frame} {meth : Method} {c : Code} {G : GG} {sz : Nat} {ns : Nat} {r : Int32} {M' : Mem} (E : Cx p s m args meth c cX3_numberOf (some .int) 4 RX3 G) : ∀ fu : Nat, ∀ (x1 : Int32) (x2 : Int32) (x3 : Int32) (M : Mem) (H : Heap) (locs : List Loc) (ls : Array Slot), f_X3_numberOf_b9 fu x1 x2 x3 M = some (r, M') → PW G (AC G) (XC G ns) sz M s H → va_S (AC G) s.heap H locs → lv_has ls 4 [(0, .ref (adC G 0 3)), (1, .int x1), (2, .int x2), (3, .int x3)] → W p l e rm_X3_numberOf s m args below meth c H locs 0 0 (MQ below (va_Qi (fun (r2 : Int32) (_ : Unit) => r2 = r) (fun _ t => PW G (AC G) (XC G ns) sz M' t t.heap) (AC G)) args s 0 0 (AC G)) (F0 m 9 ls []) := by
  obtain ⟨hx, hb, hr, hlocks, hml, hown, hts, hK⟩ := id E
  intro fu
  induction fu with
  | zero => intro x1 x2 x3 M H locs ls hf hP hS hl; cases hf
  | succ fu ih =>
    intro x1 x2 x3 M H locs ls hf hP hS hl
    rw [f_X3_numberOf_b9.eq_2] at hf
    refine lv_iload_n hx hb dX3_numberOf_9 rfl (lv_at hl 3 rfl) ?_
    refine lv_aload_n hx hb dX3_numberOf_10 rfl (lv_at hl 0 rfl) ?_
    refine gf_X3_position E hP w_214 dX3_numberOf_11 ?_
    refine lv_iload_n hx hb dX3_numberOf_14 rfl (lv_at hl 1 rfl) ?_
    refine lv_iadd hx hb dX3_numberOf_15 ?_
    refine lv_icmp_ge (tgt := 40) hx hb dX3_numberOf_16 (by decide) (fun hc => ?_) (fun hc => ?_)
    · have hf := if_t hf hc
      refine lv_iload_n hx hb dX3_numberOf_40 rfl (lv_at hl 2 rfl) ?_
      exact en_i hf hx hb hr rfl hlocks hP hS dX3_numberOf_41
    · have hf := if_f hf hc
      refine lv_bipush (v := 10) hx hb dX3_numberOf_19 (by decide) ?_
      refine lv_iload_n hx hb dX3_numberOf_21 rfl (lv_at hl 2 rfl) ?_
      refine lv_imul hx hb dX3_numberOf_22 ?_
      refine lv_aload_n hx hb dX3_numberOf_23 rfl (lv_at hl 0 rfl) ?_
      refine gf_X3_signs E hP w_213 dX3_numberOf_24 ?_
      refine lv_iload_n hx hb dX3_numberOf_27 rfl (lv_at hl 3 rfl) ?_
      refine ck_e hf (fun hi hf => ?_)
      refine la_C4 E hP hi dX3_numberOf_28 ?_
      refine lv_iadd hx hb dX3_numberOf_29 ?_
      refine lv_bipush (v := 48) hx hb dX3_numberOf_30 (by decide) ?_
      refine lv_isub hx hb dX3_numberOf_32 ?_
      refine lt_e hf (fun x2_33 hx2_33 hf => ?_)
      refine kr_nm hx2_33 ?_
      refine lv_istore_n (lv' := [(2, .int x2_33), (0, .ref (adC G 0 3)), (1, .int x1), (3, .int x3)]) hx hb dX3_numberOf_33 rfl hl (by decide) rfl (fun ls hl => ?_)
      refine lt_e hf (fun x3_34 hx3_34 hf => ?_)
      refine lv_iinc (v := x3_34) (lv' := [(3, .int x3_34), (2, .int x2_33), (0, .ref (adC G 0 3)), (1, .int x1)]) hx hb dX3_numberOf_34 hl (k := 3) rfl (by rw [hx3_34]; rfl) (by decide) rfl (fun ls hl => ?_)
      refine lv_goto (tgt := 9) hx hb dX3_numberOf_37 (by decide) ?_
      exact ih _ _ _ _ _ _ _ hf hP hS (lv_sub hl [2, 3, 1, 0] rfl)
set_option maxHeartbeats 4000000 in
set_option maxRecDepth 100000 in
theorem w_X3_numberOf {p : Program} {l : Launch} {e : Env} {s : State} {m : MethodId} {args : Array Value} {below : List Frame} {meth : Method} {c : Code} {G : GG} {sz : Nat} {ns : Nat} {r : Int32} {M' : Mem} (E : Cx p s m args meth c cX3_numberOf (some .int) 4 RX3 G) {x1 : Int32} {M : Mem} {H : Heap} {locs : List Loc} {ls : Array Slot} (hf : f_X3_numberOf x1 M = some (r, M')) (hP : PW G (AC G) (XC G ns) sz M s H) (hS : va_S (AC G) s.heap H locs) (hl : lv_has ls 4 [(0, .ref (adC G 0 3)), (1, .int x1)]) : W p l e rm_X3_numberOf s m args below meth c H locs 0 0 (MQ below (va_Qi (fun (r2 : Int32) (_ : Unit) => r2 = r) (fun _ t => PW G (AC G) (XC G ns) sz M' t t.heap) (AC G)) args s 0 0 (AC G)) (F0 m 0 ls []) := by
  obtain ⟨hx, hb, hr, hlocks, hml, hown, hts, hK⟩ := id E
  unfold f_X3_numberOf at hf
  refine lv_iconst (v := 0) hx hb dX3_numberOf_0 (by decide) ?_
  refine lv_istore_n (lv' := [(2, .int 0), (0, .ref (adC G 0 3)), (1, .int x1)]) hx hb dX3_numberOf_1 rfl hl (by decide) rfl (fun ls hl => ?_)
  refine lv_aload_n hx hb dX3_numberOf_2 rfl (lv_at hl 1 rfl) ?_
  refine gf_X3_position E hP w_214 dX3_numberOf_3 ?_
  refine lv_iconst (v := 1) hx hb dX3_numberOf_6 (by decide) ?_
  refine lv_iadd hx hb dX3_numberOf_7 ?_
  refine lt_e hf (fun x3_8 hx3_8 hf => ?_)
  refine kr_nm hx3_8 ?_
  refine lv_istore_n (lv' := [(3, .int x3_8), (2, .int 0), (0, .ref (adC G 0 3)), (1, .int x1)]) hx hb dX3_numberOf_8 rfl hl (by decide) rfl (fun ls hl => ?_)
  exact w_X3_numberOf_b9 E 1000 _ _ _ _ _ _ _ hf hP hS (lv_sub hl [2, 3, 1, 0] rfl)
theorem c_X3_numberOf (l : Launch) {G : GG} {sz : Nat} {ns : Nat} {x1 : Int32} {M : Mem} {r : Int32} {M' : Mem} (hf : f_X3_numberOf x1 M = some (r, M')) : CtI l yX3_numberOf cX3_numberOf 4 (some .int) rm_X3_numberOf [.ref (adC G 0 3), .int x1] G (AC G) (XC G ns) sz M r (XC G ns) sz M' := by
  refine Ct_of (by decide) (Nat.le_of_ble_eq_true rfl) (fun p e s m below meth c ls hx hb hr hlocks hml hown hts hK hP hl => ?_)
  exact w_X3_numberOf ⟨hx, hb, hr, hlocks, hml, hown, hts, hK⟩ hf hP va_S.rf hl
set_option maxRecDepth 100000 in
theorem cv_X3_numberOf {p : Program} {l : Launch} {e : Env} {R : Room} {s : State} {m : MethodId} {args : Array Value} {below : List Frame} {meth : Method} {c : Code} {H : Heap} {locs : List Loc} {cells slots : Nat} {Q : State → Prop} {cc : ByteArray} {pc nL index : Nat} {ret : Option FieldType} {own : String} {ls : Array Slot} {rest : List Value} {l' : List (Nat × Value)} {G : GG} {sz : Nat} {ns : Nat} {M : Mem} (E : Cx p s m args meth c cc ret nL own G) (hP : PW G (AC G) (XC G ns) sz M s H) (hS : va_S (AC G) s.heap H locs) {x1 : Int32} {r : Int32} {M' : Mem} (hq : f_X3_numberOf x1 M = some (r, M')) (w1 : Cond.methodLink own index yX3_numberOf ∈ lw_all) (hR : 1 ≤ R.frames ∧ 23 ≤ R.locals) (hl : lv_has ls nL l') (hrest : (rest.map fun v => v.category).sum ≤ 8) (hdg : decode cc pc = .ok (.invokevirtual index, 3)) (hcs : cells ≤ R.cells ∧ slots ≤ R.slots)
    (kk : ∀ (H1 : Heap) (locs1 : List Loc), PW G (AC G) (XC G ns) sz M' s H1 → va_S (AC G) s.heap H1 locs1 → W p l e R s m args below meth c H1 locs1 cells slots Q (F0 m (pc + 3) ls (.int r :: rest))) : W p l e R s m args below meth c H locs cells slots Q (F0 m pc ls (.int x1 :: .ref (adC G 0 3) :: rest)) := by
  obtain ⟨hx, hb, hr, hlocks, hml, hown, hts, hK⟩ := E
  exact kc_i (kc_runV (na := 1) (q := (RX3, TX3, 5)) hx hb hml hts hown hK hP 0 3 (dm0 (by decide)) rfl rfl rfl (c_X3_numberOf l hq) w1 w_754 ws_16 w_6 w_755 (by decide +kernel) hR rfl hl rfl hrest hdg hcs) hS kk
/-! X3_takeIn -/
abbrev rm_X3_takeIn : Room := { frames := 4, cells := 0, slots := 0, locals := 86 }
def f_X3_takeIn (g : Nat) (x1 : Int32) (M : Mem) : Option (Int32 × Mem) :=
ob (f_X4_has g x1 M) fun r_5 M_5 =>
(if r_5 = 0 then
  some (2, M_5)
else
  ob (f_X5_errorOfTaking g x1 M_5) fun r_15 M_15 =>
  (if r_15 = 0 then
    ob (f_X5_swapTo g x1 M_15) fun r_25 M_25 =>
    some (0, M_25)
  else
    some (3, M_15)))
set_option maxHeartbeats 4000000 in
set_option maxRecDepth 100000 in
theorem w_X3_takeIn {p : Program} {l : Launch} {e : Env} {s : State} {m : MethodId} {args : Array Value} {below : List Frame} {meth : Method} {c : Code} {G : GG} {sz : Nat} {ns : Nat} {g : Nat} {r : Int32} {M' : Mem} (E : Cx p s m args meth c cX3_takeIn (some .int) 2 RX3 G) (hg : pg ns g) {x1 : Int32} {M : Mem} {H : Heap} {locs : List Loc} {ls : Array Slot} (hf : f_X3_takeIn g x1 M = some (r, M')) (hP : PW G (AC G) (XC G ns) sz M s H) (hS : va_S (AC G) s.heap H locs) (hl : lv_has ls 2 [(0, .ref (adC G g 0)), (1, .int x1)]) : W p l e rm_X3_takeIn s m args below meth c H locs 0 0 (MQ below (va_Qi (fun (r2 : Int32) (_ : Unit) => r2 = r) (fun _ t => PW G (AC G) (XC G ns) sz M' t t.heap) (AC G)) args s 0 0 (AC G)) (F0 m 0 ls []) := by
  obtain ⟨hx, hb, hr, hlocks, hml, hown, hts, hK⟩ := id E
  unfold f_X3_takeIn at hf
  refine lv_aload_n hx hb dX3_takeIn_0 rfl (lv_at hl 0 rfl) ?_
  refine gf_X5_pens E hP hg w_146 dX3_takeIn_1 ?_
  refine lv_iload_n hx hb dX3_takeIn_4 rfl (lv_at hl 1 rfl) ?_
  refine ob_e hf (fun r_5 M_5 hq hf => ?_)
  refine cv_X4_has E hP hS hg hq w_763 ⟨Nat.le_of_ble_eq_true rfl, Nat.le_of_ble_eq_true rfl⟩ hl (Nat.le_of_ble_eq_true rfl) dX3_takeIn_5 ⟨Nat.le_of_ble_eq_true rfl, Nat.le_of_ble_eq_true rfl⟩ (fun H locs hP hS => ?_)
  refine lv_if_ne (tgt := 13) hx hb dX3_takeIn_8 (by decide) (fun hc => ?_) (fun hc => ?_)
  · have hf := if_f hf hc
    refine lv_aload_n hx hb dX3_takeIn_13 rfl (lv_at hl 0 rfl) ?_
    refine lv_iload_n hx hb dX3_takeIn_14 rfl (lv_at hl 1 rfl) ?_
    refine ob_e hf (fun r_15 M_15 hq hf => ?_)
    refine cv_X5_errorOfTaking E hP hS hg hq w_764 ⟨Nat.le_of_ble_eq_true rfl, Nat.le_of_ble_eq_true rfl⟩ hl (Nat.le_of_ble_eq_true rfl) dX3_takeIn_15 ⟨Nat.le_of_ble_eq_true rfl, Nat.le_of_ble_eq_true rfl⟩ (fun H locs hP hS => ?_)
    refine lv_if_eq (tgt := 23) hx hb dX3_takeIn_18 (by decide) (fun hc => ?_) (fun hc => ?_)
    · have hf := if_t hf hc
      refine lv_aload_n hx hb dX3_takeIn_23 rfl (lv_at hl 0 rfl) ?_
      refine lv_iload_n hx hb dX3_takeIn_24 rfl (lv_at hl 1 rfl) ?_
      refine ob_e hf (fun r_25 M_25 hq hf => ?_)
      refine cv_X5_swapTo E hP hS hg hq w_765 ⟨Nat.le_of_ble_eq_true rfl, Nat.le_of_ble_eq_true rfl⟩ hl (Nat.le_of_ble_eq_true rfl) dX3_takeIn_25 ⟨Nat.le_of_ble_eq_true rfl, Nat.le_of_ble_eq_true rfl⟩ (fun H locs hP hS => ?_)
      refine lv_pop hx hb dX3_takeIn_28 rfl ?_
      refine lv_iconst (v := 0) hx hb dX3_takeIn_29 (by decide) ?_
      exact en_i hf hx hb hr rfl hlocks hP hS dX3_takeIn_30
    · have hf := if_f hf hc
      refine lv_iconst (v := 3) hx hb dX3_takeIn_21 (by decide) ?_
      exact en_i hf hx hb hr rfl hlocks hP hS dX3_takeIn_22
  · have hf := if_t hf hc
    refine lv_iconst (v := 2) hx hb dX3_takeIn_11 (by decide) ?_
    exact en_i hf hx hb hr rfl hlocks hP hS dX3_takeIn_12
theorem c_X3_takeIn (l : Launch) {G : GG} {sz : Nat} {ns : Nat} {g : Nat} (hg : pg ns g) {x1 : Int32} {M : Mem} {r : Int32} {M' : Mem} (hf : f_X3_takeIn g x1 M = some (r, M')) : CtI l yX3_takeIn cX3_takeIn 2 (some .int) rm_X3_takeIn [.ref (adC G g 0), .int x1] G (AC G) (XC G ns) sz M r (XC G ns) sz M' := by
  refine Ct_of (by decide) (Nat.le_of_ble_eq_true rfl) (fun p e s m below meth c ls hx hb hr hlocks hml hown hts hK hP hl => ?_)
  exact w_X3_takeIn ⟨hx, hb, hr, hlocks, hml, hown, hts, hK⟩ hg hf hP va_S.rf hl
set_option maxRecDepth 100000 in
theorem cv_X3_takeIn {p : Program} {l : Launch} {e : Env} {R : Room} {s : State} {m : MethodId} {args : Array Value} {below : List Frame} {meth : Method} {c : Code} {H : Heap} {locs : List Loc} {cells slots : Nat} {Q : State → Prop} {cc : ByteArray} {pc nL index : Nat} {ret : Option FieldType} {own : String} {ls : Array Slot} {rest : List Value} {l' : List (Nat × Value)} {G : GG} {sz : Nat} {ns : Nat} {g : Nat} {M : Mem} (E : Cx p s m args meth c cc ret nL own G) (hP : PW G (AC G) (XC G ns) sz M s H) (hS : va_S (AC G) s.heap H locs) (hg : pg ns g) {x1 : Int32} {r : Int32} {M' : Mem} (hq : f_X3_takeIn g x1 M = some (r, M')) (w1 : Cond.methodLink own index yX3_takeIn ∈ lw_all) (hR : 5 ≤ R.frames ∧ 107 ≤ R.locals) (hl : lv_has ls nL l') (hrest : (rest.map fun v => v.category).sum ≤ 8) (hdg : decode cc pc = .ok (.invokestatic index, 3)) (hcs : cells ≤ R.cells ∧ slots ≤ R.slots)
    (kk : ∀ (H1 : Heap) (locs1 : List Loc), PW G (AC G) (XC G ns) sz M' s H1 → va_S (AC G) s.heap H1 locs1 → W p l e R s m args below meth c H1 locs1 cells slots Q (F0 m (pc + 3) ls (.int r :: rest))) : W p l e R s m args below meth c H locs cells slots Q (F0 m pc ls (.int x1 :: .ref (adC G g 0) :: rest)) := by
  obtain ⟨hx, hb, hr, hlocks, hml, hown, hts, hK⟩ := E
  exact kc_i (kc_runS (na := 2) hx hb hml hts hown hK hP (c_X3_takeIn l hg hq) w1 w_761 w_6 w_762 (by decide +kernel) hR rfl hl rfl hrest hdg hcs) hS kk
/-! X3_drawIn -/
abbrev rm_X3_drawIn : Room := { frames := 4, cells := 0, slots := 0, locals := 102 }
def f_X3_drawIn (g : Nat) (x2 : Int32) (x3 : Int32) (M : Mem) : Option (Int32 × Mem) :=
ob (f_X2_has g x2 M) fun r_5 M_5 =>
(if r_5 = 0 then
  some (2, M_5)
else
  ob (f_X5_reasonAgainst g x2 x3 0 M_5) fun r_17 M_17 =>
  (if r_17 = 0 then
    ob (f_X5_drawByHand g x2 x3 M_17) fun _ M_38 =>
    some (0, M_38)
  else
    lt (up3 M_17 0 3 4 r_17) fun M_30 =>
    some (3, M_30)))
set_option maxHeartbeats 4000000 in
set_option maxRecDepth 100000 in
theorem w_X3_drawIn {p : Program} {l : Launch} {e : Env} {s : State} {m : MethodId} {args : Array Value} {below : List Frame} {meth : Method} {c : Code} {G : GG} {sz : Nat} {ns : Nat} {g : Nat} {r : Int32} {M' : Mem} (E : Cx p s m args meth c cX3_drawIn (some .int) 5 RX3 G) (hg : pg ns g) {x2 : Int32} {x3 : Int32} {M : Mem} {H : Heap} {locs : List Loc} {ls : Array Slot} (hf : f_X3_drawIn g x2 x3 M = some (r, M')) (hP : PW G (AC G) (XC G ns) sz M s H) (hS : va_S (AC G) s.heap H locs) (hl : lv_has ls 5 [(0, .ref (adC G 0 3)), (1, .ref (adC G g 0)), (2, .int x2), (3, .int x3)]) : W p l e rm_X3_drawIn s m args below meth c H locs 0 0 (MQ below (va_Qi (fun (r2 : Int32) (_ : Unit) => r2 = r) (fun _ t => PW G (AC G) (XC G ns) sz M' t t.heap) (AC G)) args s 0 0 (AC G)) (F0 m 0 ls []) := by
  obtain ⟨hx, hb, hr, hlocks, hml, hown, hts, hK⟩ := id E
  unfold f_X3_drawIn at hf
  refine lv_aload_n hx hb dX3_drawIn_0 rfl (lv_at hl 1 rfl) ?_
  refine gf_X5_lines E hP hg w_150 dX3_drawIn_1 ?_
  refine lv_iload_n hx hb dX3_drawIn_4 rfl (lv_at hl 2 rfl) ?_
  refine ob_e hf (fun r_5 M_5 hq hf => ?_)
  refine cv_X2_has E hP hS hg hq w_770 ⟨Nat.le_of_ble_eq_true rfl, Nat.le_of_ble_eq_true rfl⟩ hl (Nat.le_of_ble_eq_true rfl) dX3_drawIn_5 ⟨Nat.le_of_ble_eq_true rfl, Nat.le_of_ble_eq_true rfl⟩ (fun H locs hP hS => ?_)
  refine lv_if_ne (tgt := 13) hx hb dX3_drawIn_8 (by decide) (fun hc => ?_) (fun hc => ?_)
  · have hf := if_f hf hc
    refine lv_aload_n hx hb dX3_drawIn_13 rfl (lv_at hl 1 rfl) ?_
    refine lv_iload_n hx hb dX3_drawIn_14 rfl (lv_at hl 2 rfl) ?_
    refine lv_iload_n hx hb dX3_drawIn_15 rfl (lv_at hl 3 rfl) ?_
    refine lv_iconst (v := 0) hx hb dX3_drawIn_16 (by decide) ?_
    refine ob_e hf (fun r_17 M_17 hq hf => ?_)
    refine cv_X5_reasonAgainst E hP hS hg hq w_771 ⟨Nat.le_of_ble_eq_true rfl, Nat.le_of_ble_eq_true rfl⟩ hl (Nat.le_of_ble_eq_true rfl) dX3_drawIn_17 ⟨Nat.le_of_ble_eq_true rfl, Nat.le_of_ble_eq_true rfl⟩ (fun H locs hP hS => ?_)
    refine lv_istore (lv' := [(4, .int r_17), (0, .ref (adC G 0 3)), (1, .ref (adC G g 0)), (2, .int x2), (3, .int x3)]) hx hb dX3_drawIn_20 hl (by decide) rfl (fun ls hl => ?_)
    refine lv_iload hx hb dX3_drawIn_22 (lv_at hl 0 rfl) ?_
    refine lv_if_eq (tgt := 35) hx hb dX3_drawIn_24 (by decide) (fun hc => ?_) (fun hc => ?_)
    · have hf := if_t hf hc
      refine lv_aload_n hx hb dX3_drawIn_35 rfl (lv_at hl 2 rfl) ?_
      refine lv_iload_n hx hb dX3_drawIn_36 rfl (lv_at hl 3 rfl) ?_
      refine lv_iload_n hx hb dX3_drawIn_37 rfl (lv_at hl 4 rfl) ?_
      refine ob_e hf (fun r_38 M_38 hq hf => ?_)
      refine cv_X5_drawByHand E hP hS hg hq w_772 ⟨Nat.le_of_ble_eq_true rfl, Nat.le_of_ble_eq_true rfl⟩ hl (Nat.le_of_ble_eq_true rfl) dX3_drawIn_38 ⟨Nat.le_of_ble_eq_true rfl, Nat.le_of_ble_eq_true rfl⟩ (fun H locs hP hS => ?_)
      refine lv_iconst (v := 0) hx hb dX3_drawIn_41 (by decide) ?_
      exact en_i hf hx hb hr rfl hlocks hP hS dX3_drawIn_42
    · have hf := if_f hf hc
      refine lv_aload_n hx hb dX3_drawIn_27 rfl (lv_at hl 1 rfl) ?_
      refine lv_iload hx hb dX3_drawIn_28 (lv_at hl 0 rfl) ?_
      refine lt_e hf (fun M_30 hM_30 hf => ?_)
      refine pf_X3_cause E hP hS hM_30 w_218 dX3_drawIn_30 (fun H locs hP hS => ?_)
      refine lv_iconst (v := 3) hx hb dX3_drawIn_33 (by decide) ?_
      exact en_i hf hx hb hr rfl hlocks hP hS dX3_drawIn_34
  · have hf := if_t hf hc
    refine lv_iconst (v := 2) hx hb dX3_drawIn_11 (by decide) ?_
    exact en_i hf hx hb hr rfl hlocks hP hS dX3_drawIn_12
theorem c_X3_drawIn (l : Launch) {G : GG} {sz : Nat} {ns : Nat} {g : Nat} (hg : pg ns g) {x2 : Int32} {x3 : Int32} {M : Mem} {r : Int32} {M' : Mem} (hf : f_X3_drawIn g x2 x3 M = some (r, M')) : CtI l yX3_drawIn cX3_drawIn 5 (some .int) rm_X3_drawIn [.ref (adC G 0 3), .ref (adC G g 0), .int x2, .int x3] G (AC G) (XC G ns) sz M r (XC G ns) sz M' := by
  refine Ct_of (by decide) (Nat.le_of_ble_eq_true rfl) (fun p e s m below meth c ls hx hb hr hlocks hml hown hts hK hP hl => ?_)
  exact w_X3_drawIn ⟨hx, hb, hr, hlocks, hml, hown, hts, hK⟩ hg hf hP va_S.rf hl
set_option maxRecDepth 100000 in
theorem cv_X3_drawIn {p : Program} {l : Launch} {e : Env} {R : Room} {s : State} {m : MethodId} {args : Array Value} {below : List Frame} {meth : Method} {c : Code} {H : Heap} {locs : List Loc} {cells slots : Nat} {Q : State → Prop} {cc : ByteArray} {pc nL index : Nat} {ret : Option FieldType} {own : String} {ls : Array Slot} {rest : List Value} {l' : List (Nat × Value)} {G : GG} {sz : Nat} {ns : Nat} {g : Nat} {M : Mem} (E : Cx p s m args meth c cc ret nL own G) (hP : PW G (AC G) (XC G ns) sz M s H) (hS : va_S (AC G) s.heap H locs) (hg : pg ns g) {x2 : Int32} {x3 : Int32} {r : Int32} {M' : Mem} (hq : f_X3_drawIn g x2 x3 M = some (r, M')) (w1 : Cond.methodLink own index yX3_drawIn ∈ lw_all) (hR : 5 ≤ R.frames ∧ 126 ≤ R.locals) (hl : lv_has ls nL l') (hrest : (rest.map fun v => v.category).sum ≤ 8) (hdg : decode cc pc = .ok (.invokevirtual index, 3)) (hcs : cells ≤ R.cells ∧ slots ≤ R.slots)
    (kk : ∀ (H1 : Heap) (locs1 : List Loc), PW G (AC G) (XC G ns) sz M' s H1 → va_S (AC G) s.heap H1 locs1 → W p l e R s m args below meth c H1 locs1 cells slots Q (F0 m (pc + 3) ls (.int r :: rest))) : W p l e R s m args below meth c H locs cells slots Q (F0 m pc ls (.int x3 :: .int x2 :: .ref (adC G g 0) :: .ref (adC G 0 3) :: rest)) := by
  obtain ⟨hx, hb, hr, hlocks, hml, hown, hts, hK⟩ := E
  exact kc_i (kc_runV (na := 3) (q := (RX3, TX3, 5)) hx hb hml hts hown hK hP 0 3 (dm0 (by decide)) rfl rfl rfl (c_X3_drawIn l hg hq) w1 w_768 ws_18 w_6 w_769 (by decide +kernel) hR rfl hl rfl hrest hdg hcs) hS kk
/-! X3_goHomeIn -/
abbrev rm_X3_goHomeIn : Room := { frames := 4, cells := 0, slots := 0, locals := 86 }
def f_X3_goHomeIn (g : Nat) (M : Mem) : Option (Int32 × Mem) :=
ob (f_X5_errorOfGoingHome g M) fun r_1 M_1 =>
(if r_1 = 0 then
  ob (f_X5_swapTo g (-1) M_1) fun r_11 M_11 =>
  some (0, M_11)
else
  some (3, M_1))
set_option maxHeartbeats 4000000 in
set_option maxRecDepth 100000 in
theorem w_X3_goHomeIn {p : Program} {l : Launch} {e : Env} {s : State} {m : MethodId} {args : Array Value} {below : List Frame} {meth : Method} {c : Code} {G : GG} {sz : Nat} {ns : Nat} {g : Nat} {r : Int32} {M' : Mem} (E : Cx p s m args meth c cX3_goHomeIn (some .int) 1 RX3 G) (hg : pg ns g) {M : Mem} {H : Heap} {locs : List Loc} {ls : Array Slot} (hf : f_X3_goHomeIn g M = some (r, M')) (hP : PW G (AC G) (XC G ns) sz M s H) (hS : va_S (AC G) s.heap H locs) (hl : lv_has ls 1 [(0, .ref (adC G g 0))]) : W p l e rm_X3_goHomeIn s m args below meth c H locs 0 0 (MQ below (va_Qi (fun (r2 : Int32) (_ : Unit) => r2 = r) (fun _ t => PW G (AC G) (XC G ns) sz M' t t.heap) (AC G)) args s 0 0 (AC G)) (F0 m 0 ls []) := by
  obtain ⟨hx, hb, hr, hlocks, hml, hown, hts, hK⟩ := id E
  unfold f_X3_goHomeIn at hf
  refine lv_aload_n hx hb dX3_goHomeIn_0 rfl (lv_at hl 0 rfl) ?_
  refine ob_e hf (fun r_1 M_1 hq hf => ?_)
  refine cv_X5_errorOfGoingHome E hP hS hg hq w_776 ⟨Nat.le_of_ble_eq_true rfl, Nat.le_of_ble_eq_true rfl⟩ hl (Nat.le_of_ble_eq_true rfl) dX3_goHomeIn_1 ⟨Nat.le_of_ble_eq_true rfl, Nat.le_of_ble_eq_true rfl⟩ (fun H locs hP hS => ?_)
  refine lv_if_eq (tgt := 9) hx hb dX3_goHomeIn_4 (by decide) (fun hc => ?_) (fun hc => ?_)
  · have hf := if_t hf hc
    refine lv_aload_n hx hb dX3_goHomeIn_9 rfl (lv_at hl 0 rfl) ?_
    refine lv_iconst (v := (-1)) hx hb dX3_goHomeIn_10 (by decide) ?_
    refine ob_e hf (fun r_11 M_11 hq hf => ?_)
    refine cv_X5_swapTo E hP hS hg hq w_765 ⟨Nat.le_of_ble_eq_true rfl, Nat.le_of_ble_eq_true rfl⟩ hl (Nat.le_of_ble_eq_true rfl) dX3_goHomeIn_11 ⟨Nat.le_of_ble_eq_true rfl, Nat.le_of_ble_eq_true rfl⟩ (fun H locs hP hS => ?_)
    refine lv_pop hx hb dX3_goHomeIn_14 rfl ?_
    refine lv_iconst (v := 0) hx hb dX3_goHomeIn_15 (by decide) ?_
    exact en_i hf hx hb hr rfl hlocks hP hS dX3_goHomeIn_16
  · have hf := if_f hf hc
    refine lv_iconst (v := 3) hx hb dX3_goHomeIn_7 (by decide) ?_
    exact en_i hf hx hb hr rfl hlocks hP hS dX3_goHomeIn_8
theorem c_X3_goHomeIn (l : Launch) {G : GG} {sz : Nat} {ns : Nat} {g : Nat} (hg : pg ns g) {M : Mem} {r : Int32} {M' : Mem} (hf : f_X3_goHomeIn g M = some (r, M')) : CtI l yX3_goHomeIn cX3_goHomeIn 1 (some .int) rm_X3_goHomeIn [.ref (adC G g 0)] G (AC G) (XC G ns) sz M r (XC G ns) sz M' := by
  refine Ct_of (by decide) (Nat.le_of_ble_eq_true rfl) (fun p e s m below meth c ls hx hb hr hlocks hml hown hts hK hP hl => ?_)
  exact w_X3_goHomeIn ⟨hx, hb, hr, hlocks, hml, hown, hts, hK⟩ hg hf hP va_S.rf hl
set_option maxRecDepth 100000 in
theorem cv_X3_goHomeIn {p : Program} {l : Launch} {e : Env} {R : Room} {s : State} {m : MethodId} {args : Array Value} {below : List Frame} {meth : Method} {c : Code} {H : Heap} {locs : List Loc} {cells slots : Nat} {Q : State → Prop} {cc : ByteArray} {pc nL index : Nat} {ret : Option FieldType} {own : String} {ls : Array Slot} {rest : List Value} {l' : List (Nat × Value)} {G : GG} {sz : Nat} {ns : Nat} {g : Nat} {M : Mem} (E : Cx p s m args meth c cc ret nL own G) (hP : PW G (AC G) (XC G ns) sz M s H) (hS : va_S (AC G) s.heap H locs) (hg : pg ns g) {r : Int32} {M' : Mem} (hq : f_X3_goHomeIn g M = some (r, M')) (w1 : Cond.methodLink own index yX3_goHomeIn ∈ lw_all) (hR : 5 ≤ R.frames ∧ 106 ≤ R.locals) (hl : lv_has ls nL l') (hrest : (rest.map fun v => v.category).sum ≤ 8) (hdg : decode cc pc = .ok (.invokestatic index, 3)) (hcs : cells ≤ R.cells ∧ slots ≤ R.slots)
    (kk : ∀ (H1 : Heap) (locs1 : List Loc), PW G (AC G) (XC G ns) sz M' s H1 → va_S (AC G) s.heap H1 locs1 → W p l e R s m args below meth c H1 locs1 cells slots Q (F0 m (pc + 3) ls (.int r :: rest))) : W p l e R s m args below meth c H locs cells slots Q (F0 m pc ls (.ref (adC G g 0) :: rest)) := by
  obtain ⟨hx, hb, hr, hlocks, hml, hown, hts, hK⟩ := E
  exact kc_i (kc_runS (na := 1) hx hb hml hts hown hK hP (c_X3_goHomeIn l hg hq) w1 w_774 w_6 w_775 (by decide +kernel) hR rfl hl rfl hrest hdg hcs) hS kk
/-! X3_waitIn -/
abbrev rm_X3_waitIn : Room := { frames := 3, cells := 0, slots := 0, locals := 64 }
def f_X3_waitIn (g : Nat) (x1 : Int32) (M : Mem) : Option (Int32 × Mem) :=
ob (f_X5_errorOfWaiting g x1 M) fun r_2 M_2 =>
(if r_2 = 0 then
  ob (f_X5_passIdly g x1 M_2) fun _ M_12 =>
  some (0, M_12)
else
  some (3, M_2))
set_option maxHeartbeats 4000000 in
set_option maxRecDepth 100000 in
theorem w_X3_waitIn {p : Program} {l : Launch} {e : Env} {s : State} {m : MethodId} {args : Array Value} {below : List Frame} {meth : Method} {c : Code} {G : GG} {sz : Nat} {ns : Nat} {g : Nat} {r : Int32} {M' : Mem} (E : Cx p s m args meth c cX3_waitIn (some .int) 2 RX3 G) (hg : pg ns g) {x1 : Int32} {M : Mem} {H : Heap} {locs : List Loc} {ls : Array Slot} (hf : f_X3_waitIn g x1 M = some (r, M')) (hP : PW G (AC G) (XC G ns) sz M s H) (hS : va_S (AC G) s.heap H locs) (hl : lv_has ls 2 [(0, .ref (adC G g 0)), (1, .int x1)]) : W p l e rm_X3_waitIn s m args below meth c H locs 0 0 (MQ below (va_Qi (fun (r2 : Int32) (_ : Unit) => r2 = r) (fun _ t => PW G (AC G) (XC G ns) sz M' t t.heap) (AC G)) args s 0 0 (AC G)) (F0 m 0 ls []) := by
  obtain ⟨hx, hb, hr, hlocks, hml, hown, hts, hK⟩ := id E
  unfold f_X3_waitIn at hf
  refine lv_aload_n hx hb dX3_waitIn_0 rfl (lv_at hl 0 rfl) ?_
  refine lv_iload_n hx hb dX3_waitIn_1 rfl (lv_at hl 1 rfl) ?_
  refine ob_e hf (fun r_2 M_2 hq hf => ?_)
  refine cv_X5_errorOfWaiting E hP hS hg hq w_780 ⟨Nat.le_of_ble_eq_true rfl, Nat.le_of_ble_eq_true rfl⟩ hl (Nat.le_of_ble_eq_true rfl) dX3_waitIn_2 ⟨Nat.le_of_ble_eq_true rfl, Nat.le_of_ble_eq_true rfl⟩ (fun H locs hP hS => ?_)
  refine lv_if_eq (tgt := 10) hx hb dX3_waitIn_5 (by decide) (fun hc => ?_) (fun hc => ?_)
  · have hf := if_t hf hc
    refine lv_aload_n hx hb dX3_waitIn_10 rfl (lv_at hl 0 rfl) ?_
    refine lv_iload_n hx hb dX3_waitIn_11 rfl (lv_at hl 1 rfl) ?_
    refine ob_e hf (fun r_12 M_12 hq hf => ?_)
    refine cv_X5_passIdly E hP hS hg hq w_781 ⟨Nat.le_of_ble_eq_true rfl, Nat.le_of_ble_eq_true rfl⟩ hl (Nat.le_of_ble_eq_true rfl) dX3_waitIn_12 ⟨Nat.le_of_ble_eq_true rfl, Nat.le_of_ble_eq_true rfl⟩ (fun H locs hP hS => ?_)
    refine lv_iconst (v := 0) hx hb dX3_waitIn_15 (by decide) ?_
    exact en_i hf hx hb hr rfl hlocks hP hS dX3_waitIn_16
  · have hf := if_f hf hc
    refine lv_iconst (v := 3) hx hb dX3_waitIn_8 (by decide) ?_
    exact en_i hf hx hb hr rfl hlocks hP hS dX3_waitIn_9
theorem c_X3_waitIn (l : Launch) {G : GG} {sz : Nat} {ns : Nat} {g : Nat} (hg : pg ns g) {x1 : Int32} {M : Mem} {r : Int32} {M' : Mem} (hf : f_X3_waitIn g x1 M = some (r, M')) : CtI l yX3_waitIn cX3_waitIn 2 (some .int) rm_X3_waitIn [.ref (adC G g 0), .int x1] G (AC G) (XC G ns) sz M r (XC G ns) sz M' := by
  refine Ct_of (by decide) (Nat.le_of_ble_eq_true rfl) (fun p e s m below meth c ls hx hb hr hlocks hml hown hts hK hP hl => ?_)
  exact w_X3_waitIn ⟨hx, hb, hr, hlocks, hml, hown, hts, hK⟩ hg hf hP va_S.rf hl
set_option maxRecDepth 100000 in
theorem cv_X3_waitIn {p : Program} {l : Launch} {e : Env} {R : Room} {s : State} {m : MethodId} {args : Array Value} {below : List Frame} {meth : Method} {c : Code} {H : Heap} {locs : List Loc} {cells slots : Nat} {Q : State → Prop} {cc : ByteArray} {pc nL index : Nat} {ret : Option FieldType} {own : String} {ls : Array Slot} {rest : List Value} {l' : List (Nat × Value)} {G : GG} {sz : Nat} {ns : Nat} {g : Nat} {M : Mem} (E : Cx p s m args meth c cc ret nL own G) (hP : PW G (AC G) (XC G ns) sz M s H) (hS : va_S (AC G) s.heap H locs) (hg : pg ns g) {x1 : Int32} {r : Int32} {M' : Mem} (hq : f_X3_waitIn g x1 M = some (r, M')) (w1 : Cond.methodLink own index yX3_waitIn ∈ lw_all) (hR : 4 ≤ R.frames ∧ 85 ≤ R.locals) (hl : lv_has ls nL l') (hrest : (rest.map fun v => v.category).sum ≤ 8) (hdg : decode cc pc = .ok (.invokestatic index, 3)) (hcs : cells ≤ R.cells ∧ slots ≤ R.slots)
    (kk : ∀ (H1 : Heap) (locs1 : List Loc), PW G (AC G) (XC G ns) sz M' s H1 → va_S (AC G) s.heap H1 locs1 → W p l e R s m args below meth c H1 locs1 cells slots Q (F0 m (pc + 3) ls (.int r :: rest))) : W p l e R s m args below meth c H locs cells slots Q (F0 m pc ls (.int x1 :: .ref (adC G g 0) :: rest)) := by
  obtain ⟨hx, hb, hr, hlocks, hml, hown, hts, hK⟩ := E
  exact kc_i (kc_runS (na := 2) hx hb hml hts hown hK hP (c_X3_waitIn l hg hq) w1 w_778 w_6 w_779 (by decide +kernel) hR rfl hl rfl hrest hdg hcs) hS kk
/-! X3_cleanIn -/
abbrev rm_X3_cleanIn : Room := { frames := 4, cells := 0, slots := 0, locals := 85 }
def f_X3_cleanIn (g : Nat) (M : Mem) : Option (Int32 × Mem) :=
ob (f_X5_errorOfCleaning g M) fun r_1 M_1 =>
(if r_1 = 0 then
  ob (f_X5_cleanHand g M_1) fun r_10 M_10 =>
  some (0, M_10)
else
  some (3, M_1))
set_option maxHeartbeats 4000000 in
set_option maxRecDepth 100000 in
theorem w_X3_cleanIn {p : Program} {l : Launch} {e : Env} {s : State} {m : MethodId} {args : Array Value} {below : List Frame} {meth : Method} {c : Code} {G : GG} {sz : Nat} {ns : Nat} {g : Nat} {r : Int32} {M' : Mem} (E : Cx p s m args meth c cX3_cleanIn (some .int) 1 RX3 G) (hg : pg ns g) {M : Mem} {H : Heap} {locs : List Loc} {ls : Array Slot} (hf : f_X3_cleanIn g M = some (r, M')) (hP : PW G (AC G) (XC G ns) sz M s H) (hS : va_S (AC G) s.heap H locs) (hl : lv_has ls 1 [(0, .ref (adC G g 0))]) : W p l e rm_X3_cleanIn s m args below meth c H locs 0 0 (MQ below (va_Qi (fun (r2 : Int32) (_ : Unit) => r2 = r) (fun _ t => PW G (AC G) (XC G ns) sz M' t t.heap) (AC G)) args s 0 0 (AC G)) (F0 m 0 ls []) := by
  obtain ⟨hx, hb, hr, hlocks, hml, hown, hts, hK⟩ := id E
  unfold f_X3_cleanIn at hf
  refine lv_aload_n hx hb dX3_cleanIn_0 rfl (lv_at hl 0 rfl) ?_
  refine ob_e hf (fun r_1 M_1 hq hf => ?_)
  refine cv_X5_errorOfCleaning E hP hS hg hq w_785 ⟨Nat.le_of_ble_eq_true rfl, Nat.le_of_ble_eq_true rfl⟩ hl (Nat.le_of_ble_eq_true rfl) dX3_cleanIn_1 ⟨Nat.le_of_ble_eq_true rfl, Nat.le_of_ble_eq_true rfl⟩ (fun H locs hP hS => ?_)
  refine lv_if_eq (tgt := 9) hx hb dX3_cleanIn_4 (by decide) (fun hc => ?_) (fun hc => ?_)
  · have hf := if_t hf hc
    refine lv_aload_n hx hb dX3_cleanIn_9 rfl (lv_at hl 0 rfl) ?_
    refine ob_e hf (fun r_10 M_10 hq hf => ?_)
    refine cv_X5_cleanHand E hP hS hg hq w_786 ⟨Nat.le_of_ble_eq_true rfl, Nat.le_of_ble_eq_true rfl⟩ hl (Nat.le_of_ble_eq_true rfl) dX3_cleanIn_10 ⟨Nat.le_of_ble_eq_true rfl, Nat.le_of_ble_eq_true rfl⟩ (fun H locs hP hS => ?_)
    refine lv_pop hx hb dX3_cleanIn_13 rfl ?_
    refine lv_iconst (v := 0) hx hb dX3_cleanIn_14 (by decide) ?_
    exact en_i hf hx hb hr rfl hlocks hP hS dX3_cleanIn_15
  · have hf := if_f hf hc
    refine lv_iconst (v := 3) hx hb dX3_cleanIn_7 (by decide) ?_
    exact en_i hf hx hb hr rfl hlocks hP hS dX3_cleanIn_8
theorem c_X3_cleanIn (l : Launch) {G : GG} {sz : Nat} {ns : Nat} {g : Nat} (hg : pg ns g) {M : Mem} {r : Int32} {M' : Mem} (hf : f_X3_cleanIn g M = some (r, M')) : CtI l yX3_cleanIn cX3_cleanIn 1 (some .int) rm_X3_cleanIn [.ref (adC G g 0)] G (AC G) (XC G ns) sz M r (XC G ns) sz M' := by
  refine Ct_of (by decide) (Nat.le_of_ble_eq_true rfl) (fun p e s m below meth c ls hx hb hr hlocks hml hown hts hK hP hl => ?_)
  exact w_X3_cleanIn ⟨hx, hb, hr, hlocks, hml, hown, hts, hK⟩ hg hf hP va_S.rf hl
set_option maxRecDepth 100000 in
theorem cv_X3_cleanIn {p : Program} {l : Launch} {e : Env} {R : Room} {s : State} {m : MethodId} {args : Array Value} {below : List Frame} {meth : Method} {c : Code} {H : Heap} {locs : List Loc} {cells slots : Nat} {Q : State → Prop} {cc : ByteArray} {pc nL index : Nat} {ret : Option FieldType} {own : String} {ls : Array Slot} {rest : List Value} {l' : List (Nat × Value)} {G : GG} {sz : Nat} {ns : Nat} {g : Nat} {M : Mem} (E : Cx p s m args meth c cc ret nL own G) (hP : PW G (AC G) (XC G ns) sz M s H) (hS : va_S (AC G) s.heap H locs) (hg : pg ns g) {r : Int32} {M' : Mem} (hq : f_X3_cleanIn g M = some (r, M')) (w1 : Cond.methodLink own index yX3_cleanIn ∈ lw_all) (hR : 5 ≤ R.frames ∧ 105 ≤ R.locals) (hl : lv_has ls nL l') (hrest : (rest.map fun v => v.category).sum ≤ 8) (hdg : decode cc pc = .ok (.invokestatic index, 3)) (hcs : cells ≤ R.cells ∧ slots ≤ R.slots)
    (kk : ∀ (H1 : Heap) (locs1 : List Loc), PW G (AC G) (XC G ns) sz M' s H1 → va_S (AC G) s.heap H1 locs1 → W p l e R s m args below meth c H1 locs1 cells slots Q (F0 m (pc + 3) ls (.int r :: rest))) : W p l e R s m args below meth c H locs cells slots Q (F0 m pc ls (.ref (adC G g 0) :: rest)) := by
  obtain ⟨hx, hb, hr, hlocks, hml, hown, hts, hK⟩ := E
  exact kc_i (kc_runS (na := 1) hx hb hml hts hown hK hP (c_X3_cleanIn l hg hq) w1 w_783 w_6 w_784 (by decide +kernel) hR rfl hl rfl hrest hdg hcs) hS kk
/-! X3_reasonOfDoing -/
abbrev rm_X3_reasonOfDoing : Room := { frames := 5, cells := 0, slots := 0, locals := 126 }
def f_X3_reasonOfDoing (g : Nat) (x2 : Int32) (x3 : Int32) (M : Mem) : Option (Int32 × Mem) :=
(if x2 = 100 then
  ob (f_X3_drawIn g x3 0 M) fun r_62 M_62 =>
  some (r_62, M_62)
else
(if x2 = 104 then
  ob (f_X3_goHomeIn g M) fun r_75 M_75 =>
  some (r_75, M_75)
else
(if x2 = 112 then
  ob (f_X3_takeIn g x3 M) fun r_54 M_54 =>
  some (r_54, M_54)
else
(if x2 = 114 then
  ob (f_X3_drawIn g x3 1 M) fun r_70 M_70 =>
  some (r_70, M_70)
else
(if x2 = 119 then
  ob (f_X3_waitIn g x3 M) fun r_81 M_81 =>
  some (r_81, M_81)
else
  ob (f_X3_cleanIn g M) fun r_86 M_86 =>
  some (r_86, M_86))))))
set_option maxHeartbeats 4000000 in
set_option maxRecDepth 100000 in
theorem w_X3_reasonOfDoing {p : Program} {l : Launch} {e : Env} {s : State} {m : MethodId} {args : Array Value} {below : List Frame} {meth : Method} {c : Code} {G : GG} {sz : Nat} {ns : Nat} {g : Nat} {r : Int32} {M' : Mem} (E : Cx p s m args meth c cX3_reasonOfDoing (some .int) 4 RX3 G) (hg : pg ns g) {x2 : Int32} {x3 : Int32} {M : Mem} {H : Heap} {locs : List Loc} {ls : Array Slot} (hf : f_X3_reasonOfDoing g x2 x3 M = some (r, M')) (hP : PW G (AC G) (XC G ns) sz M s H) (hS : va_S (AC G) s.heap H locs) (hl : lv_has ls 4 [(0, .ref (adC G 0 3)), (1, .ref (adC G g 0)), (2, .int x2), (3, .int x3)]) : W p l e rm_X3_reasonOfDoing s m args below meth c H locs 0 0 (MQ below (va_Qi (fun (r2 : Int32) (_ : Unit) => r2 = r) (fun _ t => PW G (AC G) (XC G ns) sz M' t t.heap) (AC G)) args s 0 0 (AC G)) (F0 m 0 ls []) := by
  obtain ⟨hx, hb, hr, hlocks, hml, hown, hts, hK⟩ := id E
  unfold f_X3_reasonOfDoing at hf
  refine lv_iload_n hx hb dX3_reasonOfDoing_0 rfl (lv_at hl 2 rfl) ?_
  by_cases hc100 : x2 = 100
  · have hf := if_t hf hc100
    refine kr_lk hx hb hc100 (tgt := 58) dX3_reasonOfDoing_1 (by decide) (by decide) ?_
    refine lv_aload_n hx hb dX3_reasonOfDoing_58 rfl (lv_at hl 0 rfl) ?_
    refine lv_aload_n hx hb dX3_reasonOfDoing_59 rfl (lv_at hl 1 rfl) ?_
    refine lv_iload_n hx hb dX3_reasonOfDoing_60 rfl (lv_at hl 3 rfl) ?_
    refine lv_iconst (v := 0) hx hb dX3_reasonOfDoing_61 (by decide) ?_
    refine ob_e hf (fun r_62 M_62 hq hf => ?_)
    refine cv_X3_drawIn E hP hS hg hq w_766 ⟨Nat.le_of_ble_eq_true rfl, Nat.le_of_ble_eq_true rfl⟩ hl (Nat.le_of_ble_eq_true rfl) dX3_reasonOfDoing_62 ⟨Nat.le_of_ble_eq_true rfl, Nat.le_of_ble_eq_true rfl⟩ (fun H locs hP hS => ?_)
    exact en_i hf hx hb hr rfl hlocks hP hS dX3_reasonOfDoing_65
  have hf := if_f hf hc100
  by_cases hc104 : x2 = 104
  · have hf := if_t hf hc104
    refine kr_lk hx hb hc104 (tgt := 74) dX3_reasonOfDoing_1 (by decide) (by decide) ?_
    refine lv_aload_n hx hb dX3_reasonOfDoing_74 rfl (lv_at hl 1 rfl) ?_
    refine ob_e hf (fun r_75 M_75 hq hf => ?_)
    refine cv_X3_goHomeIn E hP hS hg hq w_773 ⟨Nat.le_of_ble_eq_true rfl, Nat.le_of_ble_eq_true rfl⟩ hl (Nat.le_of_ble_eq_true rfl) dX3_reasonOfDoing_75 ⟨Nat.le_of_ble_eq_true rfl, Nat.le_of_ble_eq_true rfl⟩ (fun H locs hP hS => ?_)
    exact en_i hf hx hb hr rfl hlocks hP hS dX3_reasonOfDoing_78
  have hf := if_f hf hc104
  by_cases hc112 : x2 = 112
  · have hf := if_t hf hc112
    refine kr_lk hx hb hc112 (tgt := 52) dX3_reasonOfDoing_1 (by decide) (by decide) ?_
    refine lv_aload_n hx hb dX3_reasonOfDoing_52 rfl (lv_at hl 1 rfl) ?_
    refine lv_iload_n hx hb dX3_reasonOfDoing_53 rfl (lv_at hl 3 rfl) ?_
    refine ob_e hf (fun r_54 M_54 hq hf => ?_)
    refine cv_X3_takeIn E hP hS hg hq w_760 ⟨Nat.le_of_ble_eq_true rfl, Nat.le_of_ble_eq_true rfl⟩ hl (Nat.le_of_ble_eq_true rfl) dX3_reasonOfDoing_54 ⟨Nat.le_of_ble_eq_true rfl, Nat.le_of_ble_eq_true rfl⟩ (fun H locs hP hS => ?_)
    exact en_i hf hx hb hr rfl hlocks hP hS dX3_reasonOfDoing_57
  have hf := if_f hf hc112
  by_cases hc114 : x2 = 114
  · have hf := if_t hf hc114
    refine kr_lk hx hb hc114 (tgt := 66) dX3_reasonOfDoing_1 (by decide) (by decide) ?_
    refine lv_aload_n hx hb dX3_reasonOfDoing_66 rfl (lv_at hl 0 rfl) ?_
    refine lv_aload_n hx hb dX3_reasonOfDoing_67 rfl (lv_at hl 1 rfl) ?_
    refine lv_iload_n hx hb dX3_reasonOfDoing_68 rfl (lv_at hl 3 rfl) ?_
    refine lv_iconst (v := 1) hx hb dX3_reasonOfDoing_69 (by decide) ?_
    refine ob_e hf (fun r_70 M_70 hq hf => ?_)
    refine cv_X3_drawIn E hP hS hg hq w_766 ⟨Nat.le_of_ble_eq_true rfl, Nat.le_of_ble_eq_true rfl⟩ hl (Nat.le_of_ble_eq_true rfl) dX3_reasonOfDoing_70 ⟨Nat.le_of_ble_eq_true rfl, Nat.le_of_ble_eq_true rfl⟩ (fun H locs hP hS => ?_)
    exact en_i hf hx hb hr rfl hlocks hP hS dX3_reasonOfDoing_73
  have hf := if_f hf hc114
  by_cases hc119 : x2 = 119
  · have hf := if_t hf hc119
    refine kr_lk hx hb hc119 (tgt := 79) dX3_reasonOfDoing_1 (by decide) (by decide) ?_
    refine lv_aload_n hx hb dX3_reasonOfDoing_79 rfl (lv_at hl 1 rfl) ?_
    refine lv_iload_n hx hb dX3_reasonOfDoing_80 rfl (lv_at hl 3 rfl) ?_
    refine ob_e hf (fun r_81 M_81 hq hf => ?_)
    refine cv_X3_waitIn E hP hS hg hq w_777 ⟨Nat.le_of_ble_eq_true rfl, Nat.le_of_ble_eq_true rfl⟩ hl (Nat.le_of_ble_eq_true rfl) dX3_reasonOfDoing_81 ⟨Nat.le_of_ble_eq_true rfl, Nat.le_of_ble_eq_true rfl⟩ (fun H locs hP hS => ?_)
    exact en_i hf hx hb hr rfl hlocks hP hS dX3_reasonOfDoing_84
  have hf := if_f hf hc119
  have hn100 := lv_neT hc100 (a := 100) (by decide)
  have hn104 := lv_neT hc104 (a := 104) (by decide)
  have hn112 := lv_neT hc112 (a := 112) (by decide)
  have hn114 := lv_neT hc114 (a := 114) (by decide)
  have hn119 := lv_neT hc119 (a := 119) (by decide)
  refine lv_lookup (tgt := 85) (off := 84) hx hb dX3_reasonOfDoing_1 (by decide) (by rw [show (Array.toList _ : List (Int × Int)) = _ from rfl, lv_osw hc100 (by decide), lv_osw hc104 (by decide), lv_osw hc112 (by decide), lv_osw hc114 (by decide), lv_osw hc119 (by decide)] <;> rfl) (by decide) ?_
  refine lv_aload_n hx hb dX3_reasonOfDoing_85 rfl (lv_at hl 1 rfl) ?_
  refine ob_e hf (fun r_86 M_86 hq hf => ?_)
  refine cv_X3_cleanIn E hP hS hg hq w_782 ⟨Nat.le_of_ble_eq_true rfl, Nat.le_of_ble_eq_true rfl⟩ hl (Nat.le_of_ble_eq_true rfl) dX3_reasonOfDoing_86 ⟨Nat.le_of_ble_eq_true rfl, Nat.le_of_ble_eq_true rfl⟩ (fun H locs hP hS => ?_)
  exact en_i hf hx hb hr rfl hlocks hP hS dX3_reasonOfDoing_89
theorem c_X3_reasonOfDoing (l : Launch) {G : GG} {sz : Nat} {ns : Nat} {g : Nat} (hg : pg ns g) {x2 : Int32} {x3 : Int32} {M : Mem} {r : Int32} {M' : Mem} (hf : f_X3_reasonOfDoing g x2 x3 M = some (r, M')) : CtI l yX3_reasonOfDoing cX3_reasonOfDoing 4 (some .int) rm_X3_reasonOfDoing [.ref (adC G 0 3), .ref (adC G g 0), .int x2, .int x3] G (AC G) (XC G ns) sz M r (XC G ns) sz M' := by
  refine Ct_of (by decide) (Nat.le_of_ble_eq_true rfl) (fun p e s m below meth c ls hx hb hr hlocks hml hown hts hK hP hl => ?_)
  exact w_X3_reasonOfDoing ⟨hx, hb, hr, hlocks, hml, hown, hts, hK⟩ hg hf hP va_S.rf hl
set_option maxRecDepth 100000 in
theorem cv_X3_reasonOfDoing {p : Program} {l : Launch} {e : Env} {R : Room} {s : State} {m : MethodId} {args : Array Value} {below : List Frame} {meth : Method} {c : Code} {H : Heap} {locs : List Loc} {cells slots : Nat} {Q : State → Prop} {cc : ByteArray} {pc nL index : Nat} {ret : Option FieldType} {own : String} {ls : Array Slot} {rest : List Value} {l' : List (Nat × Value)} {G : GG} {sz : Nat} {ns : Nat} {g : Nat} {M : Mem} (E : Cx p s m args meth c cc ret nL own G) (hP : PW G (AC G) (XC G ns) sz M s H) (hS : va_S (AC G) s.heap H locs) (hg : pg ns g) {x2 : Int32} {x3 : Int32} {r : Int32} {M' : Mem} (hq : f_X3_reasonOfDoing g x2 x3 M = some (r, M')) (w1 : Cond.methodLink own index yX3_reasonOfDoing ∈ lw_all) (hR : 6 ≤ R.frames ∧ 149 ≤ R.locals) (hl : lv_has ls nL l') (hrest : (rest.map fun v => v.category).sum ≤ 8) (hdg : decode cc pc = .ok (.invokevirtual index, 3)) (hcs : cells ≤ R.cells ∧ slots ≤ R.slots)
    (kk : ∀ (H1 : Heap) (locs1 : List Loc), PW G (AC G) (XC G ns) sz M' s H1 → va_S (AC G) s.heap H1 locs1 → W p l e R s m args below meth c H1 locs1 cells slots Q (F0 m (pc + 3) ls (.int r :: rest))) : W p l e R s m args below meth c H locs cells slots Q (F0 m pc ls (.int x3 :: .int x2 :: .ref (adC G g 0) :: .ref (adC G 0 3) :: rest)) := by
  obtain ⟨hx, hb, hr, hlocks, hml, hown, hts, hK⟩ := E
  exact kc_i (kc_runV (na := 3) (q := (RX3, TX3, 5)) hx hb hml hts hown hK hP 0 3 (dm0 (by decide)) rfl rfl rfl (c_X3_reasonOfDoing l hg hq) w1 w_758 ws_17 w_6 w_759 (by decide +kernel) hR rfl hl rfl hrest hdg hcs) hS kk
/-! X3_doOn -/
abbrev rm_X3_doOn : Room := { frames := 6, cells := 0, slots := 0, locals := 149 }
def f_X3_doOn_b18 (g : Nat) : Nat → Int32 → Mem → Option (Int32 × Mem)
  | 0 => fun _ _ => none
  | fu + 1 => fun x2 M =>
(if 60 ≤ x2 then
  some (60, M)
else
  (if (M 0 3 2) < (M 0 3 0) then
    ob (f_X3_fittingSigns M) fun r_38 M_38 =>
    ob (f_X3_isClosedBehind r_38 M_38) fun r_44 M_44 =>
    (if r_44 = 0 then
      lt (up3 M_44 0 3 3 1) fun M_52 =>
      lt (up3 M_52 0 3 4 r_38) fun M_57 =>
      some (x2, M_57)
    else
      ck (ibd (M_44 0 3 2) 60) <|
      ob (f_X3_numberOf r_38 M_44) fun r_76 M_76 =>
      ob (f_X3_reasonOfDoing g (M_44 0 4 (ix (M_44 0 3 2))) r_76 M_76) fun r_79 M_79 =>
      lt (up3 M_79 0 3 3 r_79) fun M_82 =>
      (if (M_82 0 3 3) = 0 then
        lt (up3 M_82 0 3 2 ((M_82 0 3 2) + (r_38 + 1))) fun M_103 =>
        lt (x2 + 1) fun x2_106 =>
        f_X3_doOn_b18 g fu x2_106 M_103
      else
        some (x2, M_82)))
  else
    some (x2, M)))
def f_X3_doOn (g : Nat) (M : Mem) : Option (Int32 × Mem) :=
lt (up3 M 0 3 2 0) fun M_2 =>
lt (up3 M_2 0 3 3 0) fun M_7 =>
lt (up3 M_7 0 3 4 (-1000004)) fun M_13 =>
f_X3_doOn_b18 g 1000 0 M_13
set_option maxHeartbeats 4000000 in
set_option maxRecDepth 100000 in
theorem w_X3_doOn_b18 {p : Program} {l : Launch} {e : Env} {s : State} {m : MethodId} {args : Array Value} {below : List Frame} {meth : Method} {c : Code} {G : GG} {sz : Nat} {ns : Nat} {g : Nat} {r : Int32} {M' : Mem} (E : Cx p s m args meth c cX3_doOn (some .int) 4 RX3 G) (hg : pg ns g) : ∀ fu : Nat, ∀ (x2 : Int32) (M : Mem) (H : Heap) (locs : List Loc) (ls : Array Slot), f_X3_doOn_b18 g fu x2 M = some (r, M') → PW G (AC G) (XC G ns) sz M s H → va_S (AC G) s.heap H locs → lv_has ls 4 [(0, .ref (adC G 0 3)), (1, .ref (adC G g 0)), (2, .int x2)] → W p l e rm_X3_doOn s m args below meth c H locs 0 0 (MQ below (va_Qi (fun (r2 : Int32) (_ : Unit) => r2 = r) (fun _ t => PW G (AC G) (XC G ns) sz M' t t.heap) (AC G)) args s 0 0 (AC G)) (F0 m 18 ls []) := by
  obtain ⟨hx, hb, hr, hlocks, hml, hown, hts, hK⟩ := id E
  intro fu
  induction fu with
  | zero => intro x2 M H locs ls hf hP hS hl; cases hf
  | succ fu ih =>
    intro x2 M H locs ls hf hP hS hl
    rw [f_X3_doOn_b18.eq_2] at hf
    refine lv_iload_n hx hb dX3_doOn_18 rfl (lv_at hl 2 rfl) ?_
    refine lv_bipush (v := 60) hx hb dX3_doOn_19 (by decide) ?_
    refine lv_icmp_ge (tgt := 112) hx hb dX3_doOn_21 (by decide) (fun hc => ?_) (fun hc => ?_)
    · have hf := if_t hf hc
      refine lv_bipush (v := 60) hx hb dX3_doOn_112 (by decide) ?_
      exact en_i hf hx hb hr rfl hlocks hP hS dX3_doOn_114
    · have hf := if_f hf hc
      refine lv_aload_n hx hb dX3_doOn_24 rfl (lv_at hl 0 rfl) ?_
      refine gf_X3_position E hP w_214 dX3_doOn_25 ?_
      refine lv_aload_n hx hb dX3_doOn_28 rfl (lv_at hl 0 rfl) ?_
      refine gf_X3_length E hP w_211 dX3_doOn_29 ?_
      refine lv_icmp_lt (tgt := 37) hx hb dX3_doOn_32 (by decide) (fun hc => ?_) (fun hc => ?_)
      · have hf := if_t hf hc
        refine lv_aload_n hx hb dX3_doOn_37 rfl (lv_at hl 0 rfl) ?_
        refine ob_e hf (fun r_38 M_38 hq hf => ?_)
        refine cv_X3_fittingSigns E hP hS hq w_736 ⟨Nat.le_of_ble_eq_true rfl, Nat.le_of_ble_eq_true rfl⟩ hl (Nat.le_of_ble_eq_true rfl) dX3_doOn_38 ⟨Nat.le_of_ble_eq_true rfl, Nat.le_of_ble_eq_true rfl⟩ (fun H locs hP hS => ?_)
        refine lv_istore_n (lv' := [(3, .int r_38), (0, .ref (adC G 0 3)), (1, .ref (adC G g 0)), (2, .int x2)]) hx hb dX3_doOn_41 rfl hl (by decide) rfl (fun ls hl => ?_)
        refine lv_aload_n hx hb dX3_doOn_42 rfl (lv_at hl 1 rfl) ?_
        refine lv_iload_n hx hb dX3_doOn_43 rfl (lv_at hl 0 rfl) ?_
        refine ob_e hf (fun r_44 M_44 hq hf => ?_)
        refine cv_X3_isClosedBehind E hP hS hq w_748 ⟨Nat.le_of_ble_eq_true rfl, Nat.le_of_ble_eq_true rfl⟩ hl (Nat.le_of_ble_eq_true rfl) dX3_doOn_44 ⟨Nat.le_of_ble_eq_true rfl, Nat.le_of_ble_eq_true rfl⟩ (fun H locs hP hS => ?_)
        refine lv_if_ne (tgt := 62) hx hb dX3_doOn_47 (by decide) (fun hc => ?_) (fun hc => ?_)
        · have hf := if_f hf hc
          refine lv_aload_n hx hb dX3_doOn_62 rfl (lv_at hl 1 rfl) ?_
          refine lv_aload_n hx hb dX3_doOn_63 rfl (lv_at hl 1 rfl) ?_
          refine lv_aload_n hx hb dX3_doOn_64 rfl (lv_at hl 2 rfl) ?_
          refine lv_aload_n hx hb dX3_doOn_65 rfl (lv_at hl 1 rfl) ?_
          refine gf_X3_signs E hP w_213 dX3_doOn_66 ?_
          refine lv_aload_n hx hb dX3_doOn_69 rfl (lv_at hl 1 rfl) ?_
          refine gf_X3_position E hP w_214 dX3_doOn_70 ?_
          refine ck_e hf (fun hi hf => ?_)
          refine la_C4 E hP hi dX3_doOn_73 ?_
          refine lv_aload_n hx hb dX3_doOn_74 rfl (lv_at hl 1 rfl) ?_
          refine lv_iload_n hx hb dX3_doOn_75 rfl (lv_at hl 0 rfl) ?_
          refine ob_e hf (fun r_76 M_76 hq hf => ?_)
          refine cv_X3_numberOf E hP hS hq w_752 ⟨Nat.le_of_ble_eq_true rfl, Nat.le_of_ble_eq_true rfl⟩ hl (Nat.le_of_ble_eq_true rfl) dX3_doOn_76 ⟨Nat.le_of_ble_eq_true rfl, Nat.le_of_ble_eq_true rfl⟩ (fun H locs hP hS => ?_)
          refine ob_e hf (fun r_79 M_79 hq hf => ?_)
          refine cv_X3_reasonOfDoing E hP hS hg hq w_756 ⟨Nat.le_of_ble_eq_true rfl, Nat.le_of_ble_eq_true rfl⟩ hl (Nat.le_of_ble_eq_true rfl) dX3_doOn_79 ⟨Nat.le_of_ble_eq_true rfl, Nat.le_of_ble_eq_true rfl⟩ (fun H locs hP hS => ?_)
          refine lt_e hf (fun M_82 hM_82 hf => ?_)
          refine pf_X3_reason E hP hS hM_82 w_216 dX3_doOn_82 (fun H locs hP hS => ?_)
          refine lv_aload_n hx hb dX3_doOn_85 rfl (lv_at hl 1 rfl) ?_
          refine gf_X3_reason E hP w_216 dX3_doOn_86 ?_
          refine lv_if_eq (tgt := 94) hx hb dX3_doOn_89 (by decide) (fun hc => ?_) (fun hc => ?_)
          · have hf := if_t hf hc
            refine lv_aload_n hx hb dX3_doOn_94 rfl (lv_at hl 1 rfl) ?_
            refine lv_dup hx hb dX3_doOn_95 rfl ?_
            refine gf_X3_position E hP w_214 dX3_doOn_96 ?_
            refine lv_iload_n hx hb dX3_doOn_99 rfl (lv_at hl 0 rfl) ?_
            refine lv_iconst (v := 1) hx hb dX3_doOn_100 (by decide) ?_
            refine lv_iadd hx hb dX3_doOn_101 ?_
            refine lv_iadd hx hb dX3_doOn_102 ?_
            refine lt_e hf (fun M_103 hM_103 hf => ?_)
            refine pf_X3_position E hP hS hM_103 w_214 dX3_doOn_103 (fun H locs hP hS => ?_)
            refine lt_e hf (fun x2_106 hx2_106 hf => ?_)
            refine lv_iinc (v := x2_106) (lv' := [(2, .int x2_106), (3, .int r_38), (0, .ref (adC G 0 3)), (1, .ref (adC G g 0))]) hx hb dX3_doOn_106 hl (k := 3) rfl (by rw [hx2_106]; rfl) (by decide) rfl (fun ls hl => ?_)
            refine lv_goto (tgt := 18) hx hb dX3_doOn_109 (by decide) ?_
            exact ih _ _ _ _ _ hf hP hS (lv_sub hl [2, 3, 0] rfl)
          · have hf := if_f hf hc
            refine lv_iload_n hx hb dX3_doOn_92 rfl (lv_at hl 3 rfl) ?_
            exact en_i hf hx hb hr rfl hlocks hP hS dX3_doOn_93
        · have hf := if_t hf hc
          refine lv_aload_n hx hb dX3_doOn_50 rfl (lv_at hl 1 rfl) ?_
          refine lv_iconst (v := 1) hx hb dX3_doOn_51 (by decide) ?_
          refine lt_e hf (fun M_52 hM_52 hf => ?_)
          refine pf_X3_reason E hP hS hM_52 w_216 dX3_doOn_52 (fun H locs hP hS => ?_)
          refine lv_aload_n hx hb dX3_doOn_55 rfl (lv_at hl 1 rfl) ?_
          refine lv_iload_n hx hb dX3_doOn_56 rfl (lv_at hl 0 rfl) ?_
          refine lt_e hf (fun M_57 hM_57 hf => ?_)
          refine pf_X3_cause E hP hS hM_57 w_218 dX3_doOn_57 (fun H locs hP hS => ?_)
          refine lv_iload_n hx hb dX3_doOn_60 rfl (lv_at hl 3 rfl) ?_
          exact en_i hf hx hb hr rfl hlocks hP hS dX3_doOn_61
      · have hf := if_f hf hc
        refine lv_iload_n hx hb dX3_doOn_35 rfl (lv_at hl 2 rfl) ?_
        exact en_i hf hx hb hr rfl hlocks hP hS dX3_doOn_36
set_option maxHeartbeats 4000000 in
set_option maxRecDepth 100000 in
theorem w_X3_doOn {p : Program} {l : Launch} {e : Env} {s : State} {m : MethodId} {args : Array Value} {below : List Frame} {meth : Method} {c : Code} {G : GG} {sz : Nat} {ns : Nat} {g : Nat} {r : Int32} {M' : Mem} (E : Cx p s m args meth c cX3_doOn (some .int) 4 RX3 G) (hg : pg ns g) {M : Mem} {H : Heap} {locs : List Loc} {ls : Array Slot} (hf : f_X3_doOn g M = some (r, M')) (hP : PW G (AC G) (XC G ns) sz M s H) (hS : va_S (AC G) s.heap H locs) (hl : lv_has ls 4 [(0, .ref (adC G 0 3)), (1, .ref (adC G g 0))]) : W p l e rm_X3_doOn s m args below meth c H locs 0 0 (MQ below (va_Qi (fun (r2 : Int32) (_ : Unit) => r2 = r) (fun _ t => PW G (AC G) (XC G ns) sz M' t t.heap) (AC G)) args s 0 0 (AC G)) (F0 m 0 ls []) := by
  obtain ⟨hx, hb, hr, hlocks, hml, hown, hts, hK⟩ := id E
  unfold f_X3_doOn at hf
  refine lv_aload_n hx hb dX3_doOn_0 rfl (lv_at hl 0 rfl) ?_
  refine lv_iconst (v := 0) hx hb dX3_doOn_1 (by decide) ?_
  refine lt_e hf (fun M_2 hM_2 hf => ?_)
  refine pf_X3_position E hP hS hM_2 w_214 dX3_doOn_2 (fun H locs hP hS => ?_)
  refine lv_aload_n hx hb dX3_doOn_5 rfl (lv_at hl 0 rfl) ?_
  refine lv_iconst (v := 0) hx hb dX3_doOn_6 (by decide) ?_
  refine lt_e hf (fun M_7 hM_7 hf => ?_)
  refine pf_X3_reason E hP hS hM_7 w_216 dX3_doOn_7 (fun H locs hP hS => ?_)
  refine lv_aload_n hx hb dX3_doOn_10 rfl (lv_at hl 0 rfl) ?_
  refine lv_ldc (v := (-1000004)) hx hb hown (hts _ w_210) dX3_doOn_11 ?_
  refine lt_e hf (fun M_13 hM_13 hf => ?_)
  refine pf_X3_cause E hP hS hM_13 w_218 dX3_doOn_13 (fun H locs hP hS => ?_)
  refine lv_iconst (v := 0) hx hb dX3_doOn_16 (by decide) ?_
  refine lv_istore_n (lv' := [(2, .int 0), (0, .ref (adC G 0 3)), (1, .ref (adC G g 0))]) hx hb dX3_doOn_17 rfl hl (by decide) rfl (fun ls hl => ?_)
  exact w_X3_doOn_b18 E hg 1000 _ _ _ _ _ hf hP hS (lv_sub hl [1, 2, 0] rfl)
theorem c_X3_doOn (l : Launch) {G : GG} {sz : Nat} {ns : Nat} {g : Nat} (hg : pg ns g) {M : Mem} {r : Int32} {M' : Mem} (hf : f_X3_doOn g M = some (r, M')) : CtI l yX3_doOn cX3_doOn 4 (some .int) rm_X3_doOn [.ref (adC G 0 3), .ref (adC G g 0)] G (AC G) (XC G ns) sz M r (XC G ns) sz M' := by
  refine Ct_of (by decide) (Nat.le_of_ble_eq_true rfl) (fun p e s m below meth c ls hx hb hr hlocks hml hown hts hK hP hl => ?_)
  exact w_X3_doOn ⟨hx, hb, hr, hlocks, hml, hown, hts, hK⟩ hg hf hP va_S.rf hl
set_option maxRecDepth 100000 in
theorem cv_X3_doOn {p : Program} {l : Launch} {e : Env} {R : Room} {s : State} {m : MethodId} {args : Array Value} {below : List Frame} {meth : Method} {c : Code} {H : Heap} {locs : List Loc} {cells slots : Nat} {Q : State → Prop} {cc : ByteArray} {pc nL index : Nat} {ret : Option FieldType} {own : String} {ls : Array Slot} {rest : List Value} {l' : List (Nat × Value)} {G : GG} {sz : Nat} {ns : Nat} {g : Nat} {M : Mem} (E : Cx p s m args meth c cc ret nL own G) (hP : PW G (AC G) (XC G ns) sz M s H) (hS : va_S (AC G) s.heap H locs) (hg : pg ns g) {r : Int32} {M' : Mem} (hq : f_X3_doOn g M = some (r, M')) (w1 : Cond.methodLink own index yX3_doOn ∈ lw_all) (hR : 7 ≤ R.frames ∧ 172 ≤ R.locals) (hl : lv_has ls nL l') (hrest : (rest.map fun v => v.category).sum ≤ 8) (hdg : decode cc pc = .ok (.invokevirtual index, 3)) (hcs : cells ≤ R.cells ∧ slots ≤ R.slots)
    (kk : ∀ (H1 : Heap) (locs1 : List Loc), PW G (AC G) (XC G ns) sz M' s H1 → va_S (AC G) s.heap H1 locs1 → W p l e R s m args below meth c H1 locs1 cells slots Q (F0 m (pc + 3) ls (.int r :: rest))) : W p l e R s m args below meth c H locs cells slots Q (F0 m pc ls (.ref (adC G g 0) :: .ref (adC G 0 3) :: rest)) := by
  obtain ⟨hx, hb, hr, hlocks, hml, hown, hts, hK⟩ := E
  exact kc_i (kc_runV (na := 1) (q := (RX3, TX3, 5)) hx hb hml hts hown hK hP 0 3 (dm0 (by decide)) rfl rfl rfl (c_X3_doOn l hg hq) w1 w_733 w_734 w_6 w_735 (by decide +kernel) hR rfl hl rfl hrest hdg hcs) hS kk
