/-! X7_set -/
abbrev rm_X7_set : Room := { frames := 5, cells := 21, slots := 228, locals := 145 }
def f_X7_set_b26 (ns : Nat) (M : Mem) : Option ((Int32 × Nat) × Mem) :=
some (((-1000001), ns), M)
def f_X7_set (ns : Nat) (x1 : Int32) (x2 : Int32) (M : Mem) : Option ((Int32 × Nat) × Mem) :=
ob (f_X7_isIn x1 0 4 M) fun r_3 M_3 =>
(if r_3 = 0 then
  f_X7_set_b26 ns M_3
else
  ck (ibd x1 5) <|
  ck (ibd x1 5) <|
  ob (f_X7_isIn x2 (tabL (ix x1)) (tabG (ix x1)) M_3) fun r_20 M_20 =>
  (if r_20 = 0 then
    f_X7_set_b26 ns M_20
  else
    ob (f_X1_record 1 ns M_20) fun ns_37 M_37 =>
    ck (ibd x1 5) <|
    lt ((M_37 1 1 (ix x1))) fun x3_49 =>
    ck (ibd x1 5) <|
    lt (up3 M_37 1 1 (ix x1) x2) fun M_59 =>
    some ((x3_49, ns_37), M_59)))
set_option maxHeartbeats 4000000 in
set_option maxRecDepth 100000 in
theorem w_X7_set_b26 {p : Program} {l : Launch} {e : Env} {s : State} {m : MethodId} {args : Array Value} {below : List Frame} {meth : Method} {c : Code} {G : GG} {ns : Nat} {r : (Int32 × Nat)} {M' : Mem} (E : Cx p s m args meth c cX7_set (some .int) 4 RX7 G) (hST : ST G (AC G) s s.heap) {M : Mem} {H : Heap} {locs : List Loc} {ls : Array Slot} (hf : f_X7_set_b26 ns M = some (r, M')) (hP : PW G (AC G) (XC G ns) (szC G ns) M s H) (hS : va_S (AC G) s.heap H locs) (hl : lv_has ls 4 []) : W p l e rm_X7_set s m args below meth c H locs 0 0 (MQ below (va_Qi (fun (r2 : Int32) (_ : Unit) => r2 = r.1) (fun _ t => PW G (AC G) (XC G r.2) (szC G r.2) M' t t.heap) (AC G)) args s 21 228 (AC G)) (F0 m 26 ls []) := by
  obtain ⟨hx, hb, hr, hlocks, hml, hown, hts, hK⟩ := id E
  unfold f_X7_set_b26 at hf
  refine lv_ldc (v := (-1000001)) hx hb hown (hts _ w_286) dX7_set_26 ?_
  refine W.widen (k := 21) (n := 228) (Nat.le_of_ble_eq_true rfl) (Nat.le_of_ble_eq_true rfl) ?_
  exact en_ia hf hx hb hr rfl hlocks hP hS dX7_set_28
set_option maxHeartbeats 4000000 in
set_option maxRecDepth 100000 in
theorem w_X7_set {p : Program} {l : Launch} {e : Env} {s : State} {m : MethodId} {args : Array Value} {below : List Frame} {meth : Method} {c : Code} {G : GG} {ns : Nat} {r : (Int32 × Nat)} {M' : Mem} (E : Cx p s m args meth c cX7_set (some .int) 4 RX7 G) (hST : ST G (AC G) s s.heap) {x1 : Int32} {x2 : Int32} {M : Mem} {H : Heap} {locs : List Loc} {ls : Array Slot} (hf : f_X7_set ns x1 x2 M = some (r, M')) (hP : PW G (AC G) (XC G ns) (szC G ns) M s H) (hS : va_S (AC G) s.heap H locs) (hl : lv_has ls 4 [(0, .ref (adC G 0 0)), (1, .int x1), (2, .int x2)]) : W p l e rm_X7_set s m args below meth c H locs 0 0 (MQ below (va_Qi (fun (r2 : Int32) (_ : Unit) => r2 = r.1) (fun _ t => PW G (AC G) (XC G r.2) (szC G r.2) M' t t.heap) (AC G)) args s 21 228 (AC G)) (F0 m 0 ls []) := by
  obtain ⟨hx, hb, hr, hlocks, hml, hown, hts, hK⟩ := id E
  unfold f_X7_set at hf
  refine lv_iload_n hx hb dX7_set_0 rfl (lv_at hl 1 rfl) ?_
  refine lv_iconst (v := 0) hx hb dX7_set_1 (by decide) ?_
  refine lv_iconst (v := 4) hx hb dX7_set_2 (by decide) ?_
  refine ob_e hf (fun r_3 M_3 hq hf => ?_)
  refine cv_X7_isIn E hP hS hq w_279 ⟨Nat.le_of_ble_eq_true rfl, Nat.le_of_ble_eq_true rfl⟩ hl (Nat.le_of_ble_eq_true rfl) dX7_set_3 ⟨Nat.le_of_ble_eq_true rfl, Nat.le_of_ble_eq_true rfl⟩ (fun H locs hP hS => ?_)
  refine lv_if_eq (tgt := 26) hx hb dX7_set_6 (by decide) (fun hc => ?_) (fun hc => ?_)
  · have hf := if_t hf hc
    exact w_X7_set_b26 E hST hf hP hS (lv_sub hl [] rfl)
  · have hf := if_f hf hc
    refine lv_iload_n hx hb dX7_set_9 rfl (lv_at hl 2 rfl) ?_
    refine va_gets hx hb hST.2.1.1 hS hown (hts _ w_282) (fun _ h => h) dX7_set_10 ?_
    refine lv_iload_n hx hb dX7_set_13 rfl (lv_at hl 1 rfl) ?_
    refine ck_e hf (fun hi hf => ?_)
    refine va_ti hx hb hST.2.1.2.1 hS (ibd_in hi) (v := .int (tabL (ix x1))) rfl dX7_set_14 ?_
    refine va_gets hx hb hST.2.2.1 hS hown (hts _ w_284) (fun _ h => h) dX7_set_15 ?_
    refine lv_iload_n hx hb dX7_set_18 rfl (lv_at hl 1 rfl) ?_
    refine ck_e hf (fun hi hf => ?_)
    refine va_ti hx hb hST.2.2.2.1 hS (ibd_in hi) (v := .int (tabG (ix x1))) rfl dX7_set_19 ?_
    refine ob_e hf (fun r_20 M_20 hq hf => ?_)
    refine cv_X7_isIn E hP hS hq w_279 ⟨Nat.le_of_ble_eq_true rfl, Nat.le_of_ble_eq_true rfl⟩ hl (Nat.le_of_ble_eq_true rfl) dX7_set_20 ⟨Nat.le_of_ble_eq_true rfl, Nat.le_of_ble_eq_true rfl⟩ (fun H locs hP hS => ?_)
    refine lv_if_ne (tgt := 29) hx hb dX7_set_23 (by decide) (fun hc => ?_) (fun hc => ?_)
    · have hf := if_f hf hc
      refine lv_aload_n hx hb dX7_set_29 rfl (lv_at hl 0 rfl) ?_
      refine gf_X7_history E hP w_258 dX7_set_30 ?_
      refine lv_aload_n hx hb dX7_set_33 rfl (lv_at hl 0 rfl) ?_
      refine gf_X7_now E hP w_256 dX7_set_34 ?_
      refine ob_e hf (fun ns_37 M_37 hq hf => ?_)
      refine cv_X1_record E hP hS pg1 hq w_287 ⟨Nat.le_of_ble_eq_true rfl, Nat.le_of_ble_eq_true rfl⟩ hl (Nat.le_of_ble_eq_true rfl) dX7_set_37 ⟨Nat.le_of_ble_eq_true rfl, Nat.le_of_ble_eq_true rfl⟩ (fun H locs hP hS => ?_)
      refine lv_aload_n hx hb dX7_set_40 rfl (lv_at hl 0 rfl) ?_
      refine gf_X7_now E hP w_256 dX7_set_41 ?_
      refine gf_X5_settings E hP pg1 w_135 dX7_set_44 ?_
      refine lv_iload_n hx hb dX7_set_47 rfl (lv_at hl 1 rfl) ?_
      refine ck_e hf (fun hi hf => ?_)
      refine la_P1 E hP pg1 hi dX7_set_48 ?_
      refine lt_e hf (fun x3_49 hx3_49 hf => ?_)
      refine kr_nm hx3_49 ?_
      refine lv_istore_n (lv' := [(3, .int x3_49), (0, .ref (adC G 0 0)), (1, .int x1), (2, .int x2)]) hx hb dX7_set_49 rfl hl (by decide) rfl (fun ls hl => ?_)
      refine lv_aload_n hx hb dX7_set_50 rfl (lv_at hl 1 rfl) ?_
      refine gf_X7_now E hP w_256 dX7_set_51 ?_
      refine gf_X5_settings E hP pg1 w_135 dX7_set_54 ?_
      refine lv_iload_n hx hb dX7_set_57 rfl (lv_at hl 2 rfl) ?_
      refine lv_iload_n hx hb dX7_set_58 rfl (lv_at hl 3 rfl) ?_
      refine ck_e hf (fun hi hf => ?_)
      refine lt_e hf (fun M_59 hM_59 hf => ?_)
      refine sa_P1 E hP hS pg1 hi hM_59 dX7_set_59 (fun H locs hP hS => ?_)
      refine lv_iload_n hx hb dX7_set_60 rfl (lv_at hl 0 rfl) ?_
      exact en_ia hf hx hb hr rfl hlocks hP hS dX7_set_61
    · have hf := if_t hf hc
      exact w_X7_set_b26 E hST hf hP hS (lv_sub hl [] rfl)
theorem c_X7_set (l : Launch) {G : GG} {ns : Nat} {x1 : Int32} {x2 : Int32} {M : Mem} {r : (Int32 × Nat)} {M' : Mem} (hf : f_X7_set ns x1 x2 M = some (r, M')) : CtI l yX7_set cX7_set 4 (some .int) rm_X7_set [.ref (adC G 0 0), .int x1, .int x2] G (AC G) (XC G ns) (szC G ns) M r.1 (XC G r.2) (szC G r.2) M' := by
  refine Ct_of (by decide) (Nat.le_of_ble_eq_true rfl) (fun p e s m below meth c ls hx hb hr hlocks hml hown hts hK hP hl => ?_)
  exact w_X7_set ⟨hx, hb, hr, hlocks, hml, hown, hts, hK⟩ hP.2.2.2 hf hP va_S.rf hl
set_option maxRecDepth 100000 in
theorem cv_X7_set {p : Program} {l : Launch} {e : Env} {R : Room} {s : State} {m : MethodId} {args : Array Value} {below : List Frame} {meth : Method} {c : Code} {H : Heap} {locs : List Loc} {cells slots : Nat} {Q : State → Prop} {cc : ByteArray} {pc nL index : Nat} {ret : Option FieldType} {own : String} {ls : Array Slot} {rest : List Value} {l' : List (Nat × Value)} {G : GG} {ns : Nat} {M : Mem} (E : Cx p s m args meth c cc ret nL own G) (hP : PW G (AC G) (XC G ns) (szC G ns) M s H) (hS : va_S (AC G) s.heap H locs) {x1 : Int32} {x2 : Int32} {r : (Int32 × Nat)} {M' : Mem} (hq : f_X7_set ns x1 x2 M = some (r, M')) (w1 : Cond.methodLink own index yX7_set ∈ lw_all) (hR : 6 ≤ R.frames ∧ 168 ≤ R.locals) (hl : lv_has ls nL l') (hrest : (rest.map fun v => v.category).sum ≤ 8) (hdg : decode cc pc = .ok (.invokevirtual index, 3)) (hcs : cells + 21 ≤ R.cells ∧ slots + 228 ≤ R.slots)
    (kk : ∀ (H1 : Heap) (locs1 : List Loc), PW G (AC G) (XC G r.2) (szC G r.2) M' s H1 → va_S (AC G) s.heap H1 locs1 → W p l e R s m args below meth c H1 locs1 (cells + 21) (slots + 228) Q (F0 m (pc + 3) ls (.int r.1 :: rest))) : W p l e R s m args below meth c H locs cells slots Q (F0 m pc ls (.int x2 :: .int x1 :: .ref (adC G 0 0) :: rest)) := by
  obtain ⟨hx, hb, hr, hlocks, hml, hown, hts, hK⟩ := E
  exact kc_i (kc_runV (na := 2) (q := (RX7, TX7, 6)) hx hb hml hts hown hK hP 0 0 (dm0 (by decide)) rfl rfl rfl (c_X7_set l hq) w1 w_276 w_277 w_1 w_278 (by decide +kernel) hR rfl hl rfl hrest hdg hcs) hS kk
/-! X7_pen -/
abbrev rm_X7_pen : Room := { frames := 5, cells := 21, slots := 228, locals := 145 }
def f_X7_pen_b40 (ns : Nat) (M : Mem) : Option ((Int32 × Nat) × Mem) :=
some (((-1000001), ns), M)
def f_X7_pen_b75 (ns : Nat) (M : Mem) : Option ((Int32 × Nat) × Mem) :=
some (((-1000002), ns), M)
def f_X7_pen (ns : Nat) (x1 : Int32) (x2 : Int32) (x3 : Int32) (x4 : Int32) (M : Mem) : Option ((Int32 × Nat) × Mem) :=
ob (f_X7_isIn x1 0 1 M) fun r_3 M_3 =>
(if r_3 = 0 then
  f_X7_pen_b40 ns M_3
else
  ob (f_X7_isIn x2 10 5000 M_3) fun r_15 M_15 =>
  (if r_15 = 0 then
    f_X7_pen_b40 ns M_15
  else
    ob (f_X7_isIn x3 0 2 M_15) fun r_24 M_24 =>
    (if r_24 = 0 then
      f_X7_pen_b40 ns M_24
    else
      ob (f_X7_isIn x4 0 1 M_24) fun r_34 M_34 =>
      (if r_34 = 0 then
        f_X7_pen_b40 ns M_34
      else
        lt (((10 * x3) + x4)) fun x5_50 =>
        ob (f_X7_holderTakes x3 x1 M_34) fun r_54 M_54 =>
        (if r_54 = 0 then
          f_X7_pen_b75 ns M_54
        else
          ob (f_X4_isPlaceOfAny 1 x5_50 M_54) fun r_69 M_69 =>
          (if r_69 = 0 then
            (if (M_69 1 2 0) < 5 then
              ob (f_X1_record 1 ns M_69) fun ns_103 M_103 =>
              ob (f_X4_add 1 x1 x2 x5_50 M_103) fun r_117 M_117 =>
              some ((r_117, ns_103), M_117)
            else
              some (((-1000003), ns), M_69))
          else
            f_X7_pen_b75 ns M_69))))))
set_option maxHeartbeats 4000000 in
set_option maxRecDepth 100000 in
theorem w_X7_pen_b40 {p : Program} {l : Launch} {e : Env} {s : State} {m : MethodId} {args : Array Value} {below : List Frame} {meth : Method} {c : Code} {G : GG} {ns : Nat} {r : (Int32 × Nat)} {M' : Mem} (E : Cx p s m args meth c cX7_pen (some .int) 6 RX7 G) {M : Mem} {H : Heap} {locs : List Loc} {ls : Array Slot} (hf : f_X7_pen_b40 ns M = some (r, M')) (hP : PW G (AC G) (XC G ns) (szC G ns) M s H) (hS : va_S (AC G) s.heap H locs) (hl : lv_has ls 6 []) : W p l e rm_X7_pen s m args below meth c H locs 0 0 (MQ below (va_Qi (fun (r2 : Int32) (_ : Unit) => r2 = r.1) (fun _ t => PW G (AC G) (XC G r.2) (szC G r.2) M' t t.heap) (AC G)) args s 21 228 (AC G)) (F0 m 40 ls []) := by
  obtain ⟨hx, hb, hr, hlocks, hml, hown, hts, hK⟩ := id E
  unfold f_X7_pen_b40 at hf
  refine lv_ldc (v := (-1000001)) hx hb hown (hts _ w_286) dX7_pen_40 ?_
  refine W.widen (k := 21) (n := 228) (Nat.le_of_ble_eq_true rfl) (Nat.le_of_ble_eq_true rfl) ?_
  exact en_ia hf hx hb hr rfl hlocks hP hS dX7_pen_42
set_option maxHeartbeats 4000000 in
set_option maxRecDepth 100000 in
theorem w_X7_pen_b75 {p : Program} {l : Launch} {e : Env} {s : State} {m : MethodId} {args : Array Value} {below : List Frame} {meth : Method} {c : Code} {G : GG} {ns : Nat} {r : (Int32 × Nat)} {M' : Mem} (E : Cx p s m args meth c cX7_pen (some .int) 6 RX7 G) {M : Mem} {H : Heap} {locs : List Loc} {ls : Array Slot} (hf : f_X7_pen_b75 ns M = some (r, M')) (hP : PW G (AC G) (XC G ns) (szC G ns) M s H) (hS : va_S (AC G) s.heap H locs) (hl : lv_has ls 6 []) : W p l e rm_X7_pen s m args below meth c H locs 0 0 (MQ below (va_Qi (fun (r2 : Int32) (_ : Unit) => r2 = r.1) (fun _ t => PW G (AC G) (XC G r.2) (szC G r.2) M' t t.heap) (AC G)) args s 21 228 (AC G)) (F0 m 75 ls []) := by
  obtain ⟨hx, hb, hr, hlocks, hml, hown, hts, hK⟩ := id E
  unfold f_X7_pen_b75 at hf
  refine lv_ldc (v := (-1000002)) hx hb hown (hts _ w_327) dX7_pen_75 ?_
  refine W.widen (k := 21) (n := 228) (Nat.le_of_ble_eq_true rfl) (Nat.le_of_ble_eq_true rfl) ?_
  exact en_ia hf hx hb hr rfl hlocks hP hS dX7_pen_77
set_option maxHeartbeats 4000000 in
set_option maxRecDepth 100000 in
theorem w_X7_pen {p : Program} {l : Launch} {e : Env} {s : State} {m : MethodId} {args : Array Value} {below : List Frame} {meth : Method} {c : Code} {G : GG} {ns : Nat} {r : (Int32 × Nat)} {M' : Mem} (E : Cx p s m args meth c cX7_pen (some .int) 6 RX7 G) {x1 : Int32} {x2 : Int32} {x3 : Int32} {x4 : Int32} {M : Mem} {H : Heap} {locs : List Loc} {ls : Array Slot} (hf : f_X7_pen ns x1 x2 x3 x4 M = some (r, M')) (hP : PW G (AC G) (XC G ns) (szC G ns) M s H) (hS : va_S (AC G) s.heap H locs) (hl : lv_has ls 6 [(0, .ref (adC G 0 0)), (1, .int x1), (2, .int x2), (3, .int x3), (4, .int x4)]) : W p l e rm_X7_pen s m args below meth c H locs 0 0 (MQ below (va_Qi (fun (r2 : Int32) (_ : Unit) => r2 = r.1) (fun _ t => PW G (AC G) (XC G r.2) (szC G r.2) M' t t.heap) (AC G)) args s 21 228 (AC G)) (F0 m 0 ls []) := by
  obtain ⟨hx, hb, hr, hlocks, hml, hown, hts, hK⟩ := id E
  unfold f_X7_pen at hf
  refine lv_iload_n hx hb dX7_pen_0 rfl (lv_at hl 1 rfl) ?_
  refine lv_iconst (v := 0) hx hb dX7_pen_1 (by decide) ?_
  refine lv_iconst (v := 1) hx hb dX7_pen_2 (by decide) ?_
  refine ob_e hf (fun r_3 M_3 hq hf => ?_)
  refine cv_X7_isIn E hP hS hq w_279 ⟨Nat.le_of_ble_eq_true rfl, Nat.le_of_ble_eq_true rfl⟩ hl (Nat.le_of_ble_eq_true rfl) dX7_pen_3 ⟨Nat.le_of_ble_eq_true rfl, Nat.le_of_ble_eq_true rfl⟩ (fun H locs hP hS => ?_)
  refine lv_if_eq (tgt := 40) hx hb dX7_pen_6 (by decide) (fun hc => ?_) (fun hc => ?_)
  · have hf := if_t hf hc
    exact w_X7_pen_b40 E hf hP hS (lv_sub hl [] rfl)
  · have hf := if_f hf hc
    refine lv_iload_n hx hb dX7_pen_9 rfl (lv_at hl 2 rfl) ?_
    refine lv_bipush (v := 10) hx hb dX7_pen_10 (by decide) ?_
    refine lv_sipush (v := 5000) hx hb dX7_pen_12 (by decide) ?_
    refine ob_e hf (fun r_15 M_15 hq hf => ?_)
    refine cv_X7_isIn E hP hS hq w_279 ⟨Nat.le_of_ble_eq_true rfl, Nat.le_of_ble_eq_true rfl⟩ hl (Nat.le_of_ble_eq_true rfl) dX7_pen_15 ⟨Nat.le_of_ble_eq_true rfl, Nat.le_of_ble_eq_true rfl⟩ (fun H locs hP hS => ?_)
    refine lv_if_eq (tgt := 40) hx hb dX7_pen_18 (by decide) (fun hc => ?_) (fun hc => ?_)
    · have hf := if_t hf hc
      exact w_X7_pen_b40 E hf hP hS (lv_sub hl [] rfl)
    · have hf := if_f hf hc
      refine lv_iload_n hx hb dX7_pen_21 rfl (lv_at hl 3 rfl) ?_
      refine lv_iconst (v := 0) hx hb dX7_pen_22 (by decide) ?_
      refine lv_iconst (v := 2) hx hb dX7_pen_23 (by decide) ?_
      refine ob_e hf (fun r_24 M_24 hq hf => ?_)
      refine cv_X7_isIn E hP hS hq w_279 ⟨Nat.le_of_ble_eq_true rfl, Nat.le_of_ble_eq_true rfl⟩ hl (Nat.le_of_ble_eq_true rfl) dX7_pen_24 ⟨Nat.le_of_ble_eq_true rfl, Nat.le_of_ble_eq_true rfl⟩ (fun H locs hP hS => ?_)
      refine lv_if_eq (tgt := 40) hx hb dX7_pen_27 (by decide) (fun hc => ?_) (fun hc => ?_)
      · have hf := if_t hf hc
        exact w_X7_pen_b40 E hf hP hS (lv_sub hl [] rfl)
      · have hf := if_f hf hc
        refine lv_iload hx hb dX7_pen_30 (lv_at hl 4 rfl) ?_
        refine lv_iconst (v := 0) hx hb dX7_pen_32 (by decide) ?_
        refine lv_iconst (v := 1) hx hb dX7_pen_33 (by decide) ?_
        refine ob_e hf (fun r_34 M_34 hq hf => ?_)
        refine cv_X7_isIn E hP hS hq w_279 ⟨Nat.le_of_ble_eq_true rfl, Nat.le_of_ble_eq_true rfl⟩ hl (Nat.le_of_ble_eq_true rfl) dX7_pen_34 ⟨Nat.le_of_ble_eq_true rfl, Nat.le_of_ble_eq_true rfl⟩ (fun H locs hP hS => ?_)
        refine lv_if_ne (tgt := 43) hx hb dX7_pen_37 (by decide) (fun hc => ?_) (fun hc => ?_)
        · have hf := if_f hf hc
          refine lv_bipush (v := 10) hx hb dX7_pen_43 (by decide) ?_
          refine lv_iload_n hx hb dX7_pen_45 rfl (lv_at hl 3 rfl) ?_
          refine lv_imul hx hb dX7_pen_46 ?_
          refine lv_iload hx hb dX7_pen_47 (lv_at hl 4 rfl) ?_
          refine lv_iadd hx hb dX7_pen_49 ?_
          refine lt_e hf (fun x5_50 hx5_50 hf => ?_)
          refine kr_nm hx5_50 ?_
          refine lv_istore (lv' := [(5, .int x5_50), (0, .ref (adC G 0 0)), (1, .int x1), (2, .int x2), (3, .int x3), (4, .int x4)]) hx hb dX7_pen_50 hl (by decide) rfl (fun ls hl => ?_)
          refine lv_iload_n hx hb dX7_pen_52 rfl (lv_at hl 4 rfl) ?_
          refine lv_iload_n hx hb dX7_pen_53 rfl (lv_at hl 2 rfl) ?_
          refine ob_e hf (fun r_54 M_54 hq hf => ?_)
          refine cv_X7_holderTakes E hP hS hq w_320 ⟨Nat.le_of_ble_eq_true rfl, Nat.le_of_ble_eq_true rfl⟩ hl (Nat.le_of_ble_eq_true rfl) dX7_pen_54 ⟨Nat.le_of_ble_eq_true rfl, Nat.le_of_ble_eq_true rfl⟩ (fun H locs hP hS => ?_)
          refine lv_if_eq (tgt := 75) hx hb dX7_pen_57 (by decide) (fun hc => ?_) (fun hc => ?_)
          · have hf := if_t hf hc
            exact w_X7_pen_b75 E hf hP hS (lv_sub hl [] rfl)
          · have hf := if_f hf hc
            refine lv_aload_n hx hb dX7_pen_60 rfl (lv_at hl 1 rfl) ?_
            refine gf_X7_now E hP w_256 dX7_pen_61 ?_
            refine gf_X5_pens E hP pg1 w_137 dX7_pen_64 ?_
            refine lv_iload hx hb dX7_pen_67 (lv_at hl 0 rfl) ?_
            refine ob_e hf (fun r_69 M_69 hq hf => ?_)
            refine cv_X4_isPlaceOfAny E hP hS pg1 hq w_323 ⟨Nat.le_of_ble_eq_true rfl, Nat.le_of_ble_eq_true rfl⟩ hl (Nat.le_of_ble_eq_true rfl) dX7_pen_69 ⟨Nat.le_of_ble_eq_true rfl, Nat.le_of_ble_eq_true rfl⟩ (fun H locs hP hS => ?_)
            refine lv_if_eq (tgt := 78) hx hb dX7_pen_72 (by decide) (fun hc => ?_) (fun hc => ?_)
            · have hf := if_t hf hc
              refine lv_aload_n hx hb dX7_pen_78 rfl (lv_at hl 1 rfl) ?_
              refine gf_X7_now E hP w_256 dX7_pen_79 ?_
              refine gf_X5_pens E hP pg1 w_137 dX7_pen_82 ?_
              refine gf_X4_many E hP pg1 w_41 dX7_pen_85 ?_
              refine lv_iconst (v := 5) hx hb dX7_pen_88 (by decide) ?_
              refine lv_icmp_lt (tgt := 95) hx hb dX7_pen_89 (by decide) (fun hc => ?_) (fun hc => ?_)
              · have hf := if_t hf hc
                refine lv_aload_n hx hb dX7_pen_95 rfl (lv_at hl 1 rfl) ?_
                refine gf_X7_history E hP w_258 dX7_pen_96 ?_
                refine lv_aload_n hx hb dX7_pen_99 rfl (lv_at hl 1 rfl) ?_
                refine gf_X7_now E hP w_256 dX7_pen_100 ?_
                refine ob_e hf (fun ns_103 M_103 hq hf => ?_)
                refine cv_X1_record E hP hS pg1 hq w_287 ⟨Nat.le_of_ble_eq_true rfl, Nat.le_of_ble_eq_true rfl⟩ hl (Nat.le_of_ble_eq_true rfl) dX7_pen_103 ⟨Nat.le_of_ble_eq_true rfl, Nat.le_of_ble_eq_true rfl⟩ (fun H locs hP hS => ?_)
                refine lv_aload_n hx hb dX7_pen_106 rfl (lv_at hl 1 rfl) ?_
                refine gf_X7_now E hP w_256 dX7_pen_107 ?_
                refine gf_X5_pens E hP pg1 w_137 dX7_pen_110 ?_
                refine lv_iload_n hx hb dX7_pen_113 rfl (lv_at hl 2 rfl) ?_
                refine lv_iload_n hx hb dX7_pen_114 rfl (lv_at hl 3 rfl) ?_
                refine lv_iload hx hb dX7_pen_115 (lv_at hl 0 rfl) ?_
                refine ob_e hf (fun r_117 M_117 hq hf => ?_)
                refine cv_X4_add E hP hS pg1 hq w_329 ⟨Nat.le_of_ble_eq_true rfl, Nat.le_of_ble_eq_true rfl⟩ hl (Nat.le_of_ble_eq_true rfl) dX7_pen_117 ⟨Nat.le_of_ble_eq_true rfl, Nat.le_of_ble_eq_true rfl⟩ (fun H locs hP hS => ?_)
                exact en_ia hf hx hb hr rfl hlocks hP hS dX7_pen_120
              · have hf := if_f hf hc
                refine lv_ldc (v := (-1000003)) hx hb hown (hts _ w_328) dX7_pen_92 ?_
                refine W.widen (k := 21) (n := 228) (Nat.le_of_ble_eq_true rfl) (Nat.le_of_ble_eq_true rfl) ?_
                exact en_ia hf hx hb hr rfl hlocks hP hS dX7_pen_94
            · have hf := if_f hf hc
              exact w_X7_pen_b75 E hf hP hS (lv_sub hl [] rfl)
        · have hf := if_t hf hc
          exact w_X7_pen_b40 E hf hP hS (lv_sub hl [] rfl)
theorem c_X7_pen (l : Launch) {G : GG} {ns : Nat} {x1 : Int32} {x2 : Int32} {x3 : Int32} {x4 : Int32} {M : Mem} {r : (Int32 × Nat)} {M' : Mem} (hf : f_X7_pen ns x1 x2 x3 x4 M = some (r, M')) : CtI l yX7_pen cX7_pen 6 (some .int) rm_X7_pen [.ref (adC G 0 0), .int x1, .int x2, .int x3, .int x4] G (AC G) (XC G ns) (szC G ns) M r.1 (XC G r.2) (szC G r.2) M' := by
  refine Ct_of (by decide) (Nat.le_of_ble_eq_true rfl) (fun p e s m below meth c ls hx hb hr hlocks hml hown hts hK hP hl => ?_)
  exact w_X7_pen ⟨hx, hb, hr, hlocks, hml, hown, hts, hK⟩ hf hP va_S.rf hl
set_option maxRecDepth 100000 in
theorem cv_X7_pen {p : Program} {l : Launch} {e : Env} {R : Room} {s : State} {m : MethodId} {args : Array Value} {below : List Frame} {meth : Method} {c : Code} {H : Heap} {locs : List Loc} {cells slots : Nat} {Q : State → Prop} {cc : ByteArray} {pc nL index : Nat} {ret : Option FieldType} {own : String} {ls : Array Slot} {rest : List Value} {l' : List (Nat × Value)} {G : GG} {ns : Nat} {M : Mem} (E : Cx p s m args meth c cc ret nL own G) (hP : PW G (AC G) (XC G ns) (szC G ns) M s H) (hS : va_S (AC G) s.heap H locs) {x1 : Int32} {x2 : Int32} {x3 : Int32} {x4 : Int32} {r : (Int32 × Nat)} {M' : Mem} (hq : f_X7_pen ns x1 x2 x3 x4 M = some (r, M')) (w1 : Cond.methodLink own index yX7_pen ∈ lw_all) (hR : 6 ≤ R.frames ∧ 170 ≤ R.locals) (hl : lv_has ls nL l') (hrest : (rest.map fun v => v.category).sum ≤ 8) (hdg : decode cc pc = .ok (.invokevirtual index, 3)) (hcs : cells + 21 ≤ R.cells ∧ slots + 228 ≤ R.slots)
    (kk : ∀ (H1 : Heap) (locs1 : List Loc), PW G (AC G) (XC G r.2) (szC G r.2) M' s H1 → va_S (AC G) s.heap H1 locs1 → W p l e R s m args below meth c H1 locs1 (cells + 21) (slots + 228) Q (F0 m (pc + 3) ls (.int r.1 :: rest))) : W p l e R s m args below meth c H locs cells slots Q (F0 m pc ls (.int x4 :: .int x3 :: .int x2 :: .int x1 :: .ref (adC G 0 0) :: rest)) := by
  obtain ⟨hx, hb, hr, hlocks, hml, hown, hts, hK⟩ := E
  exact kc_i (kc_runV (na := 4) (q := (RX7, TX7, 6)) hx hb hml hts hown hK hP 0 0 (dm0 (by decide)) rfl rfl rfl (c_X7_pen l hq) w1 w_317 w_318 w_1 w_319 (by decide +kernel) hR rfl hl rfl hrest hdg hcs) hS kk
/-! X7_line -/
abbrev rm_X7_line : Room := { frames := 5, cells := 21, slots := 228, locals := 145 }
def f_X7_line_b28 (ns : Nat) (M : Mem) : Option ((Int32 × Nat) × Mem) :=
some (((-1000001), ns), M)
def f_X7_line_b31 (ns : Nat) (x1 : Int32) (x2 : Int32) (x3 : Int32) (x4 : Int32) (M : Mem) : Option ((Int32 × Nat) × Mem) :=
(if (M 1 10 0) < 16 then
  ob (f_X1_record 1 ns M) fun ns_57 M_57 =>
  ob (f_X2_add 1 x1 x2 x3 x4 M_57) fun r_72 M_72 =>
  some ((r_72, ns_57), M_72)
else
  some (((-1000003), ns), M))
def f_X7_line (ns : Nat) (x1 : Int32) (x2 : Int32) (x3 : Int32) (x4 : Int32) (M : Mem) : Option ((Int32 × Nat) × Mem) :=
ob (f_X7_isPoint x1 x2 M) fun r_2 M_2 =>
(if r_2 = 0 then
  f_X7_line_b28 ns M_2
else
  ob (f_X7_isPoint x3 x4 M_2) fun r_11 M_11 =>
  (if r_11 = 0 then
    f_X7_line_b28 ns M_11
  else
    (if x1 = x3 then
      (if x2 = x4 then
        f_X7_line_b28 ns M_11
      else
        f_X7_line_b31 ns x1 x2 x3 x4 M_11)
    else
      f_X7_line_b31 ns x1 x2 x3 x4 M_11)))
set_option maxHeartbeats 4000000 in
set_option maxRecDepth 100000 in
theorem w_X7_line_b28 {p : Program} {l : Launch} {e : Env} {s : State} {m : MethodId} {args : Array Value} {below : List Frame} {meth : Method} {c : Code} {G : GG} {ns : Nat} {r : (Int32 × Nat)} {M' : Mem} (E : Cx p s m args meth c cX7_line (some .int) 5 RX7 G) {M : Mem} {H : Heap} {locs : List Loc} {ls : Array Slot} (hf : f_X7_line_b28 ns M = some (r, M')) (hP : PW G (AC G) (XC G ns) (szC G ns) M s H) (hS : va_S (AC G) s.heap H locs) (hl : lv_has ls 5 []) : W p l e rm_X7_line s m args below meth c H locs 0 0 (MQ below (va_Qi (fun (r2 : Int32) (_ : Unit) => r2 = r.1) (fun _ t => PW G (AC G) (XC G r.2) (szC G r.2) M' t t.heap) (AC G)) args s 21 228 (AC G)) (F0 m 28 ls []) := by
  obtain ⟨hx, hb, hr, hlocks, hml, hown, hts, hK⟩ := id E
  unfold f_X7_line_b28 at hf
  refine lv_ldc (v := (-1000001)) hx hb hown (hts _ w_286) dX7_line_28 ?_
  refine W.widen (k := 21) (n := 228) (Nat.le_of_ble_eq_true rfl) (Nat.le_of_ble_eq_true rfl) ?_
  exact en_ia hf hx hb hr rfl hlocks hP hS dX7_line_30
set_option maxHeartbeats 4000000 in
set_option maxRecDepth 100000 in
theorem w_X7_line_b31 {p : Program} {l : Launch} {e : Env} {s : State} {m : MethodId} {args : Array Value} {below : List Frame} {meth : Method} {c : Code} {G : GG} {ns : Nat} {r : (Int32 × Nat)} {M' : Mem} (E : Cx p s m args meth c cX7_line (some .int) 5 RX7 G) {x1 : Int32} {x2 : Int32} {x3 : Int32} {x4 : Int32} {M : Mem} {H : Heap} {locs : List Loc} {ls : Array Slot} (hf : f_X7_line_b31 ns x1 x2 x3 x4 M = some (r, M')) (hP : PW G (AC G) (XC G ns) (szC G ns) M s H) (hS : va_S (AC G) s.heap H locs) (hl : lv_has ls 5 [(0, .ref (adC G 0 0)), (1, .int x1), (2, .int x2), (3, .int x3), (4, .int x4)]) : W p l e rm_X7_line s m args below meth c H locs 0 0 (MQ below (va_Qi (fun (r2 : Int32) (_ : Unit) => r2 = r.1) (fun _ t => PW G (AC G) (XC G r.2) (szC G r.2) M' t t.heap) (AC G)) args s 21 228 (AC G)) (F0 m 31 ls []) := by
  obtain ⟨hx, hb, hr, hlocks, hml, hown, hts, hK⟩ := id E
  unfold f_X7_line_b31 at hf
  refine lv_aload_n hx hb dX7_line_31 rfl (lv_at hl 0 rfl) ?_
  refine gf_X7_now E hP w_256 dX7_line_32 ?_
  refine gf_X5_lines E hP pg1 w_139 dX7_line_35 ?_
  refine gf_X2_many E hP pg1 w_86 dX7_line_38 ?_
  refine lv_bipush (v := 16) hx hb dX7_line_41 (by decide) ?_
  refine lv_icmp_lt (tgt := 49) hx hb dX7_line_43 (by decide) (fun hc => ?_) (fun hc => ?_)
  · have hf := if_t hf hc
    refine lv_aload_n hx hb dX7_line_49 rfl (lv_at hl 0 rfl) ?_
    refine gf_X7_history E hP w_258 dX7_line_50 ?_
    refine lv_aload_n hx hb dX7_line_53 rfl (lv_at hl 0 rfl) ?_
    refine gf_X7_now E hP w_256 dX7_line_54 ?_
    refine ob_e hf (fun ns_57 M_57 hq hf => ?_)
    refine cv_X1_record E hP hS pg1 hq w_287 ⟨Nat.le_of_ble_eq_true rfl, Nat.le_of_ble_eq_true rfl⟩ hl (Nat.le_of_ble_eq_true rfl) dX7_line_57 ⟨Nat.le_of_ble_eq_true rfl, Nat.le_of_ble_eq_true rfl⟩ (fun H locs hP hS => ?_)
    refine lv_aload_n hx hb dX7_line_60 rfl (lv_at hl 0 rfl) ?_
    refine gf_X7_now E hP w_256 dX7_line_61 ?_
    refine gf_X5_lines E hP pg1 w_139 dX7_line_64 ?_
    refine lv_iload_n hx hb dX7_line_67 rfl (lv_at hl 1 rfl) ?_
    refine lv_iload_n hx hb dX7_line_68 rfl (lv_at hl 2 rfl) ?_
    refine lv_iload_n hx hb dX7_line_69 rfl (lv_at hl 3 rfl) ?_
    refine lv_iload hx hb dX7_line_70 (lv_at hl 4 rfl) ?_
    refine ob_e hf (fun r_72 M_72 hq hf => ?_)
    refine cv_X2_add E hP hS pg1 hq w_340 ⟨Nat.le_of_ble_eq_true rfl, Nat.le_of_ble_eq_true rfl⟩ hl (Nat.le_of_ble_eq_true rfl) dX7_line_72 ⟨Nat.le_of_ble_eq_true rfl, Nat.le_of_ble_eq_true rfl⟩ (fun H locs hP hS => ?_)
    exact en_ia hf hx hb hr rfl hlocks hP hS dX7_line_75
  · have hf := if_f hf hc
    refine lv_ldc (v := (-1000003)) hx hb hown (hts _ w_328) dX7_line_46 ?_
    refine W.widen (k := 21) (n := 228) (Nat.le_of_ble_eq_true rfl) (Nat.le_of_ble_eq_true rfl) ?_
    exact en_ia hf hx hb hr rfl hlocks hP hS dX7_line_48
set_option maxHeartbeats 4000000 in
set_option maxRecDepth 100000 in
theorem w_X7_line {p : Program} {l : Launch} {e : Env} {s : State} {m : MethodId} {args : Array Value} {below : List Frame} {meth : Method} {c : Code} {G : GG} {ns : Nat} {r : (Int32 × Nat)} {M' : Mem} (E : Cx p s m args meth c cX7_line (some .int) 5 RX7 G) {x1 : Int32} {x2 : Int32} {x3 : Int32} {x4 : Int32} {M : Mem} {H : Heap} {locs : List Loc} {ls : Array Slot} (hf : f_X7_line ns x1 x2 x3 x4 M = some (r, M')) (hP : PW G (AC G) (XC G ns) (szC G ns) M s H) (hS : va_S (AC G) s.heap H locs) (hl : lv_has ls 5 [(0, .ref (adC G 0 0)), (1, .int x1), (2, .int x2), (3, .int x3), (4, .int x4)]) : W p l e rm_X7_line s m args below meth c H locs 0 0 (MQ below (va_Qi (fun (r2 : Int32) (_ : Unit) => r2 = r.1) (fun _ t => PW G (AC G) (XC G r.2) (szC G r.2) M' t t.heap) (AC G)) args s 21 228 (AC G)) (F0 m 0 ls []) := by
  obtain ⟨hx, hb, hr, hlocks, hml, hown, hts, hK⟩ := id E
  unfold f_X7_line at hf
  refine lv_iload_n hx hb dX7_line_0 rfl (lv_at hl 1 rfl) ?_
  refine lv_iload_n hx hb dX7_line_1 rfl (lv_at hl 2 rfl) ?_
  refine ob_e hf (fun r_2 M_2 hq hf => ?_)
  refine cv_X7_isPoint E hP hS hq w_337 ⟨Nat.le_of_ble_eq_true rfl, Nat.le_of_ble_eq_true rfl⟩ hl (Nat.le_of_ble_eq_true rfl) dX7_line_2 ⟨Nat.le_of_ble_eq_true rfl, Nat.le_of_ble_eq_true rfl⟩ (fun H locs hP hS => ?_)
  refine lv_if_eq (tgt := 28) hx hb dX7_line_5 (by decide) (fun hc => ?_) (fun hc => ?_)
  · have hf := if_t hf hc
    exact w_X7_line_b28 E hf hP hS (lv_sub hl [] rfl)
  · have hf := if_f hf hc
    refine lv_iload_n hx hb dX7_line_8 rfl (lv_at hl 3 rfl) ?_
    refine lv_iload hx hb dX7_line_9 (lv_at hl 4 rfl) ?_
    refine ob_e hf (fun r_11 M_11 hq hf => ?_)
    refine cv_X7_isPoint E hP hS hq w_337 ⟨Nat.le_of_ble_eq_true rfl, Nat.le_of_ble_eq_true rfl⟩ hl (Nat.le_of_ble_eq_true rfl) dX7_line_11 ⟨Nat.le_of_ble_eq_true rfl, Nat.le_of_ble_eq_true rfl⟩ (fun H locs hP hS => ?_)
    refine lv_if_eq (tgt := 28) hx hb dX7_line_14 (by decide) (fun hc => ?_) (fun hc => ?_)
    · have hf := if_t hf hc
      exact w_X7_line_b28 E hf hP hS (lv_sub hl [] rfl)
    · have hf := if_f hf hc
      refine lv_iload_n hx hb dX7_line_17 rfl (lv_at hl 1 rfl) ?_
      refine lv_iload_n hx hb dX7_line_18 rfl (lv_at hl 3 rfl) ?_
      refine lv_icmp_ne (tgt := 31) hx hb dX7_line_19 (by decide) (fun hc => ?_) (fun hc => ?_)
      · have hf := if_f hf hc
        exact w_X7_line_b31 E hf hP hS (lv_sub hl [0, 1, 2, 3, 4] rfl)
      · have hf := if_t hf hc
        refine lv_iload_n hx hb dX7_line_22 rfl (lv_at hl 2 rfl) ?_
        refine lv_iload hx hb dX7_line_23 (lv_at hl 4 rfl) ?_
        refine lv_icmp_ne (tgt := 31) hx hb dX7_line_25 (by decide) (fun hc => ?_) (fun hc => ?_)
        · have hf := if_f hf hc
          exact w_X7_line_b31 E hf hP hS (lv_sub hl [0, 1, 2, 3, 4] rfl)
        · have hf := if_t hf hc
          exact w_X7_line_b28 E hf hP hS (lv_sub hl [] rfl)
theorem c_X7_line (l : Launch) {G : GG} {ns : Nat} {x1 : Int32} {x2 : Int32} {x3 : Int32} {x4 : Int32} {M : Mem} {r : (Int32 × Nat)} {M' : Mem} (hf : f_X7_line ns x1 x2 x3 x4 M = some (r, M')) : CtI l yX7_line cX7_line 5 (some .int) rm_X7_line [.ref (adC G 0 0), .int x1, .int x2, .int x3, .int x4] G (AC G) (XC G ns) (szC G ns) M r.1 (XC G r.2) (szC G r.2) M' := by
  refine Ct_of (by decide) (Nat.le_of_ble_eq_true rfl) (fun p e s m below meth c ls hx hb hr hlocks hml hown hts hK hP hl => ?_)
  exact w_X7_line ⟨hx, hb, hr, hlocks, hml, hown, hts, hK⟩ hf hP va_S.rf hl
set_option maxRecDepth 100000 in
theorem cv_X7_line {p : Program} {l : Launch} {e : Env} {R : Room} {s : State} {m : MethodId} {args : Array Value} {below : List Frame} {meth : Method} {c : Code} {H : Heap} {locs : List Loc} {cells slots : Nat} {Q : State → Prop} {cc : ByteArray} {pc nL index : Nat} {ret : Option FieldType} {own : String} {ls : Array Slot} {rest : List Value} {l' : List (Nat × Value)} {G : GG} {ns : Nat} {M : Mem} (E : Cx p s m args meth c cc ret nL own G) (hP : PW G (AC G) (XC G ns) (szC G ns) M s H) (hS : va_S (AC G) s.heap H locs) {x1 : Int32} {x2 : Int32} {x3 : Int32} {x4 : Int32} {r : (Int32 × Nat)} {M' : Mem} (hq : f_X7_line ns x1 x2 x3 x4 M = some (r, M')) (w1 : Cond.methodLink own index yX7_line ∈ lw_all) (hR : 6 ≤ R.frames ∧ 169 ≤ R.locals) (hl : lv_has ls nL l') (hrest : (rest.map fun v => v.category).sum ≤ 8) (hdg : decode cc pc = .ok (.invokevirtual index, 3)) (hcs : cells + 21 ≤ R.cells ∧ slots + 228 ≤ R.slots)
    (kk : ∀ (H1 : Heap) (locs1 : List Loc), PW G (AC G) (XC G r.2) (szC G r.2) M' s H1 → va_S (AC G) s.heap H1 locs1 → W p l e R s m args below meth c H1 locs1 (cells + 21) (slots + 228) Q (F0 m (pc + 3) ls (.int r.1 :: rest))) : W p l e R s m args below meth c H locs cells slots Q (F0 m pc ls (.int x4 :: .int x3 :: .int x2 :: .int x1 :: .ref (adC G 0 0) :: rest)) := by
  obtain ⟨hx, hb, hr, hlocks, hml, hown, hts, hK⟩ := E
  exact kc_i (kc_runV (na := 4) (q := (RX7, TX7, 6)) hx hb hml hts hown hK hP 0 0 (dm0 (by decide)) rfl rfl rfl (c_X7_line l hq) w1 w_334 w_335 w_1 w_336 (by decide +kernel) hR rfl hl rfl hrest hdg hcs) hS kk
/-! X7_leave -/
abbrev rm_X7_leave : Room := { frames := 5, cells := 21, slots := 228, locals := 145 }
def f_X7_leave_b23 (ns : Nat) (M : Mem) : Option ((Int32 × Nat) × Mem) :=
some (((-1000001), ns), M)
def f_X7_leave_b53 (ns : Nat) (M : Mem) : Option ((Int32 × Nat) × Mem) :=
some (((-1000002), ns), M)
def f_X7_leave (ns : Nat) (x1 : Int32) (x2 : Int32) (M : Mem) : Option ((Int32 × Nat) × Mem) :=
ob (f_X4_has 1 x1 M) fun r_8 M_8 =>
(if r_8 = 0 then
  f_X7_leave_b23 ns M_8
else
  ob (f_X7_isIn x2 0 1 M_8) fun r_17 M_17 =>
  (if r_17 = 0 then
    f_X7_leave_b23 ns M_17
  else
    ck (ibd x1 5) <|
    (if (M_17 1 9 (ix x1)) = x2 then
      f_X7_leave_b53 ns M_17
    else
      (if (M_17 1 0 4) = x1 then
        f_X7_leave_b53 ns M_17
      else
        ob (f_X1_record 1 ns M_17) fun ns_64 M_64 =>
        ck (ibd x1 5) <|
        lt (up3 M_64 1 9 (ix x1) x2) fun M_79 =>
        ob (f_X4_howManyPresent 1 M_79) fun r_87 M_87 =>
        some ((r_87, ns_64), M_87)))))
set_option maxHeartbeats 4000000 in
set_option maxRecDepth 100000 in
theorem w_X7_leave_b23 {p : Program} {l : Launch} {e : Env} {s : State} {m : MethodId} {args : Array Value} {below : List Frame} {meth : Method} {c : Code} {G : GG} {ns : Nat} {r : (Int32 × Nat)} {M' : Mem} (E : Cx p s m args meth c cX7_leave (some .int) 3 RX7 G) {M : Mem} {H : Heap} {locs : List Loc} {ls : Array Slot} (hf : f_X7_leave_b23 ns M = some (r, M')) (hP : PW G (AC G) (XC G ns) (szC G ns) M s H) (hS : va_S (AC G) s.heap H locs) (hl : lv_has ls 3 []) : W p l e rm_X7_leave s m args below meth c H locs 0 0 (MQ below (va_Qi (fun (r2 : Int32) (_ : Unit) => r2 = r.1) (fun _ t => PW G (AC G) (XC G r.2) (szC G r.2) M' t t.heap) (AC G)) args s 21 228 (AC G)) (F0 m 23 ls []) := by
  obtain ⟨hx, hb, hr, hlocks, hml, hown, hts, hK⟩ := id E
  unfold f_X7_leave_b23 at hf
  refine lv_ldc (v := (-1000001)) hx hb hown (hts _ w_286) dX7_leave_23 ?_
  refine W.widen (k := 21) (n := 228) (Nat.le_of_ble_eq_true rfl) (Nat.le_of_ble_eq_true rfl) ?_
  exact en_ia hf hx hb hr rfl hlocks hP hS dX7_leave_25
set_option maxHeartbeats 4000000 in
set_option maxRecDepth 100000 in
theorem w_X7_leave_b53 {p : Program} {l : Launch} {e : Env} {s : State} {m : MethodId} {args : Array Value} {below : List Frame} {meth : Method} {c : Code} {G : GG} {ns : Nat} {r : (Int32 × Nat)} {M' : Mem} (E : Cx p s m args meth c cX7_leave (some .int) 3 RX7 G) {M : Mem} {H : Heap} {locs : List Loc} {ls : Array Slot} (hf : f_X7_leave_b53 ns M = some (r, M')) (hP : PW G (AC G) (XC G ns) (szC G ns) M s H) (hS : va_S (AC G) s.heap H locs) (hl : lv_has ls 3 []) : W p l e rm_X7_leave s m args below meth c H locs 0 0 (MQ below (va_Qi (fun (r2 : Int32) (_ : Unit) => r2 = r.1) (fun _ t => PW G (AC G) (XC G r.2) (szC G r.2) M' t t.heap) (AC G)) args s 21 228 (AC G)) (F0 m 53 ls []) := by
  obtain ⟨hx, hb, hr, hlocks, hml, hown, hts, hK⟩ := id E
  unfold f_X7_leave_b53 at hf
  refine lv_ldc (v := (-1000002)) hx hb hown (hts _ w_327) dX7_leave_53 ?_
  refine W.widen (k := 21) (n := 228) (Nat.le_of_ble_eq_true rfl) (Nat.le_of_ble_eq_true rfl) ?_
  exact en_ia hf hx hb hr rfl hlocks hP hS dX7_leave_55
set_option maxHeartbeats 4000000 in
set_option maxRecDepth 100000 in
theorem w_X7_leave {p : Program} {l : Launch} {e : Env} {s : State} {m : MethodId} {args : Array Value} {below : List Frame} {meth : Method} {c : Code} {G : GG} {ns : Nat} {r : (Int32 × Nat)} {M' : Mem} (E : Cx p s m args meth c cX7_leave (some .int) 3 RX7 G) {x1 : Int32} {x2 : Int32} {M : Mem} {H : Heap} {locs : List Loc} {ls : Array Slot} (hf : f_X7_leave ns x1 x2 M = some (r, M')) (hP : PW G (AC G) (XC G ns) (szC G ns) M s H) (hS : va_S (AC G) s.heap H locs) (hl : lv_has ls 3 [(0, .ref (adC G 0 0)), (1, .int x1), (2, .int x2)]) : W p l e rm_X7_leave s m args below meth c H locs 0 0 (MQ below (va_Qi (fun (r2 : Int32) (_ : Unit) => r2 = r.1) (fun _ t => PW G (AC G) (XC G r.2) (szC G r.2) M' t t.heap) (AC G)) args s 21 228 (AC G)) (F0 m 0 ls []) := by
  obtain ⟨hx, hb, hr, hlocks, hml, hown, hts, hK⟩ := id E
  unfold f_X7_leave at hf
  refine lv_aload_n hx hb dX7_leave_0 rfl (lv_at hl 0 rfl) ?_
  refine gf_X7_now E hP w_256 dX7_leave_1 ?_
  refine gf_X5_pens E hP pg1 w_137 dX7_leave_4 ?_
  refine lv_iload_n hx hb dX7_leave_7 rfl (lv_at hl 1 rfl) ?_
  refine ob_e hf (fun r_8 M_8 hq hf => ?_)
  refine cv_X4_has E hP hS pg1 hq w_374 ⟨Nat.le_of_ble_eq_true rfl, Nat.le_of_ble_eq_true rfl⟩ hl (Nat.le_of_ble_eq_true rfl) dX7_leave_8 ⟨Nat.le_of_ble_eq_true rfl, Nat.le_of_ble_eq_true rfl⟩ (fun H locs hP hS => ?_)
  refine lv_if_eq (tgt := 23) hx hb dX7_leave_11 (by decide) (fun hc => ?_) (fun hc => ?_)
  · have hf := if_t hf hc
    exact w_X7_leave_b23 E hf hP hS (lv_sub hl [] rfl)
  · have hf := if_f hf hc
    refine lv_iload_n hx hb dX7_leave_14 rfl (lv_at hl 2 rfl) ?_
    refine lv_iconst (v := 0) hx hb dX7_leave_15 (by decide) ?_
    refine lv_iconst (v := 1) hx hb dX7_leave_16 (by decide) ?_
    refine ob_e hf (fun r_17 M_17 hq hf => ?_)
    refine cv_X7_isIn E hP hS hq w_279 ⟨Nat.le_of_ble_eq_true rfl, Nat.le_of_ble_eq_true rfl⟩ hl (Nat.le_of_ble_eq_true rfl) dX7_leave_17 ⟨Nat.le_of_ble_eq_true rfl, Nat.le_of_ble_eq_true rfl⟩ (fun H locs hP hS => ?_)
    refine lv_if_ne (tgt := 26) hx hb dX7_leave_20 (by decide) (fun hc => ?_) (fun hc => ?_)
    · have hf := if_f hf hc
      refine lv_aload_n hx hb dX7_leave_26 rfl (lv_at hl 0 rfl) ?_
      refine gf_X7_now E hP w_256 dX7_leave_27 ?_
      refine gf_X5_pens E hP pg1 w_137 dX7_leave_30 ?_
      refine gf_X4_away E hP pg1 w_60 dX7_leave_33 ?_
      refine lv_iload_n hx hb dX7_leave_36 rfl (lv_at hl 1 rfl) ?_
      refine ck_e hf (fun hi hf => ?_)
      refine la_P9 E hP pg1 hi dX7_leave_37 ?_
      refine lv_iload_n hx hb dX7_leave_38 rfl (lv_at hl 2 rfl) ?_
      refine lv_icmp_eq (tgt := 53) hx hb dX7_leave_39 (by decide) (fun hc => ?_) (fun hc => ?_)
      · have hf := if_t hf hc
        exact w_X7_leave_b53 E hf hP hS (lv_sub hl [] rfl)
      · have hf := if_f hf hc
        refine lv_aload_n hx hb dX7_leave_42 rfl (lv_at hl 0 rfl) ?_
        refine gf_X7_now E hP w_256 dX7_leave_43 ?_
        refine gf_X5_hand E hP pg1 w_143 dX7_leave_46 ?_
        refine lv_iload_n hx hb dX7_leave_49 rfl (lv_at hl 1 rfl) ?_
        refine lv_icmp_ne (tgt := 56) hx hb dX7_leave_50 (by decide) (fun hc => ?_) (fun hc => ?_)
        · have hf := if_f hf hc
          refine lv_aload_n hx hb dX7_leave_56 rfl (lv_at hl 0 rfl) ?_
          refine gf_X7_history E hP w_258 dX7_leave_57 ?_
          refine lv_aload_n hx hb dX7_leave_60 rfl (lv_at hl 0 rfl) ?_
          refine gf_X7_now E hP w_256 dX7_leave_61 ?_
          refine ob_e hf (fun ns_64 M_64 hq hf => ?_)
          refine cv_X1_record E hP hS pg1 hq w_287 ⟨Nat.le_of_ble_eq_true rfl, Nat.le_of_ble_eq_true rfl⟩ hl (Nat.le_of_ble_eq_true rfl) dX7_leave_64 ⟨Nat.le_of_ble_eq_true rfl, Nat.le_of_ble_eq_true rfl⟩ (fun H locs hP hS => ?_)
          refine lv_aload_n hx hb dX7_leave_67 rfl (lv_at hl 0 rfl) ?_
          refine gf_X7_now E hP w_256 dX7_leave_68 ?_
          refine gf_X5_pens E hP pg1 w_137 dX7_leave_71 ?_
          refine gf_X4_away E hP pg1 w_60 dX7_leave_74 ?_
          refine lv_iload_n hx hb dX7_leave_77 rfl (lv_at hl 1 rfl) ?_
          refine lv_iload_n hx hb dX7_leave_78 rfl (lv_at hl 2 rfl) ?_
          refine ck_e hf (fun hi hf => ?_)
          refine lt_e hf (fun M_79 hM_79 hf => ?_)
          refine sa_P9 E hP hS pg1 hi hM_79 dX7_leave_79 (fun H locs hP hS => ?_)
          refine lv_aload_n hx hb dX7_leave_80 rfl (lv_at hl 0 rfl) ?_
          refine gf_X7_now E hP w_256 dX7_leave_81 ?_
          refine gf_X5_pens E hP pg1 w_137 dX7_leave_84 ?_
          refine ob_e hf (fun r_87 M_87 hq hf => ?_)
          refine cv_X4_howManyPresent E hP hS pg1 hq w_576 ⟨Nat.le_of_ble_eq_true rfl, Nat.le_of_ble_eq_true rfl⟩ hl (Nat.le_of_ble_eq_true rfl) dX7_leave_87 ⟨Nat.le_of_ble_eq_true rfl, Nat.le_of_ble_eq_true rfl⟩ (fun H locs hP hS => ?_)
          exact en_ia hf hx hb hr rfl hlocks hP hS dX7_leave_90
        · have hf := if_t hf hc
          exact w_X7_leave_b53 E hf hP hS (lv_sub hl [] rfl)
    · have hf := if_t hf hc
      exact w_X7_leave_b23 E hf hP hS (lv_sub hl [] rfl)
theorem c_X7_leave (l : Launch) {G : GG} {ns : Nat} {x1 : Int32} {x2 : Int32} {M : Mem} {r : (Int32 × Nat)} {M' : Mem} (hf : f_X7_leave ns x1 x2 M = some (r, M')) : CtI l yX7_leave cX7_leave 3 (some .int) rm_X7_leave [.ref (adC G 0 0), .int x1, .int x2] G (AC G) (XC G ns) (szC G ns) M r.1 (XC G r.2) (szC G r.2) M' := by
  refine Ct_of (by decide) (Nat.le_of_ble_eq_true rfl) (fun p e s m below meth c ls hx hb hr hlocks hml hown hts hK hP hl => ?_)
  exact w_X7_leave ⟨hx, hb, hr, hlocks, hml, hown, hts, hK⟩ hf hP va_S.rf hl
set_option maxRecDepth 100000 in
theorem cv_X7_leave {p : Program} {l : Launch} {e : Env} {R : Room} {s : State} {m : MethodId} {args : Array Value} {below : List Frame} {meth : Method} {c : Code} {H : Heap} {locs : List Loc} {cells slots : Nat} {Q : State → Prop} {cc : ByteArray} {pc nL index : Nat} {ret : Option FieldType} {own : String} {ls : Array Slot} {rest : List Value} {l' : List (Nat × Value)} {G : GG} {ns : Nat} {M : Mem} (E : Cx p s m args meth c cc ret nL own G) (hP : PW G (AC G) (XC G ns) (szC G ns) M s H) (hS : va_S (AC G) s.heap H locs) {x1 : Int32} {x2 : Int32} {r : (Int32 × Nat)} {M' : Mem} (hq : f_X7_leave ns x1 x2 M = some (r, M')) (w1 : Cond.methodLink own index yX7_leave ∈ lw_all) (hR : 6 ≤ R.frames ∧ 167 ≤ R.locals) (hl : lv_has ls nL l') (hrest : (rest.map fun v => v.category).sum ≤ 8) (hdg : decode cc pc = .ok (.invokevirtual index, 3)) (hcs : cells + 21 ≤ R.cells ∧ slots + 228 ≤ R.slots)
    (kk : ∀ (H1 : Heap) (locs1 : List Loc), PW G (AC G) (XC G r.2) (szC G r.2) M' s H1 → va_S (AC G) s.heap H1 locs1 → W p l e R s m args below meth c H1 locs1 (cells + 21) (slots + 228) Q (F0 m (pc + 3) ls (.int r.1 :: rest))) : W p l e R s m args below meth c H locs cells slots Q (F0 m pc ls (.int x2 :: .int x1 :: .ref (adC G 0 0) :: rest)) := by
  obtain ⟨hx, hb, hr, hlocks, hml, hown, hts, hK⟩ := E
  exact kc_i (kc_runV (na := 2) (q := (RX7, TX7, 6)) hx hb hml hts hown hK hP 0 0 (dm0 (by decide)) rfl rfl rfl (c_X7_leave l hq) w1 w_573 w_574 w_1 w_575 (by decide +kernel) hR rfl hl rfl hrest hdg hcs) hS kk
/-! X7_refill -/
abbrev rm_X7_refill : Room := { frames := 5, cells := 21, slots := 228, locals := 145 }
def f_X7_refill (ns : Nat) (x1 : Int32) (M : Mem) : Option ((Int32 × Nat) × Mem) :=
ob (f_X4_has 1 x1 M) fun r_8 M_8 =>
(if r_8 = 0 then
  some (((-1000001), ns), M_8)
else
  ck (ibd x1 5) <|
  ck (ibd x1 5) <|
  lt (((M_8 1 4 (ix x1)) - (M_8 1 6 (ix x1)))) fun x2_42 =>
  (if x2_42 = 0 then
    some (((-1000002), ns), M_8)
  else
    ob (f_X1_record 1 ns M_8) fun ns_58 M_58 =>
    ck (ibd x1 5) <|
    ck (ibd x1 5) <|
    lt (up3 M_58 1 6 (ix x1) (M_58 1 4 (ix x1))) fun M_84 =>
    some ((x2_42, ns_58), M_84)))
set_option maxHeartbeats 4000000 in
set_option maxRecDepth 100000 in
theorem w_X7_refill {p : Program} {l : Launch} {e : Env} {s : State} {m : MethodId} {args : Array Value} {below : List Frame} {meth : Method} {c : Code} {G : GG} {ns : Nat} {r : (Int32 × Nat)} {M' : Mem} (E : Cx p s m args meth c cX7_refill (some .int) 3 RX7 G) {x1 : Int32} {M : Mem} {H : Heap} {locs : List Loc} {ls : Array Slot} (hf : f_X7_refill ns x1 M = some (r, M')) (hP : PW G (AC G) (XC G ns) (szC G ns) M s H) (hS : va_S (AC G) s.heap H locs) (hl : lv_has ls 3 [(0, .ref (adC G 0 0)), (1, .int x1)]) : W p l e rm_X7_refill s m args below meth c H locs 0 0 (MQ below (va_Qi (fun (r2 : Int32) (_ : Unit) => r2 = r.1) (fun _ t => PW G (AC G) (XC G r.2) (szC G r.2) M' t t.heap) (AC G)) args s 21 228 (AC G)) (F0 m 0 ls []) := by
  obtain ⟨hx, hb, hr, hlocks, hml, hown, hts, hK⟩ := id E
  unfold f_X7_refill at hf
  refine lv_aload_n hx hb dX7_refill_0 rfl (lv_at hl 0 rfl) ?_
  refine gf_X7_now E hP w_256 dX7_refill_1 ?_
  refine gf_X5_pens E hP pg1 w_137 dX7_refill_4 ?_
  refine lv_iload_n hx hb dX7_refill_7 rfl (lv_at hl 1 rfl) ?_
  refine ob_e hf (fun r_8 M_8 hq hf => ?_)
  refine cv_X4_has E hP hS pg1 hq w_374 ⟨Nat.le_of_ble_eq_true rfl, Nat.le_of_ble_eq_true rfl⟩ hl (Nat.le_of_ble_eq_true rfl) dX7_refill_8 ⟨Nat.le_of_ble_eq_true rfl, Nat.le_of_ble_eq_true rfl⟩ (fun H locs hP hS => ?_)
  refine lv_if_ne (tgt := 17) hx hb dX7_refill_11 (by decide) (fun hc => ?_) (fun hc => ?_)
  · have hf := if_f hf hc
    refine lv_aload_n hx hb dX7_refill_17 rfl (lv_at hl 0 rfl) ?_
    refine gf_X7_now E hP w_256 dX7_refill_18 ?_
    refine gf_X5_pens E hP pg1 w_137 dX7_refill_21 ?_
    refine gf_X4_capacity E hP pg1 w_46 dX7_refill_24 ?_
    refine lv_iload_n hx hb dX7_refill_27 rfl (lv_at hl 1 rfl) ?_
    refine ck_e hf (fun hi hf => ?_)
    refine la_P4 E hP pg1 hi dX7_refill_28 ?_
    refine lv_aload_n hx hb dX7_refill_29 rfl (lv_at hl 0 rfl) ?_
    refine gf_X7_now E hP w_256 dX7_refill_30 ?_
    refine gf_X5_pens E hP pg1 w_137 dX7_refill_33 ?_
    refine gf_X4_ink E hP pg1 w_51 dX7_refill_36 ?_
    refine lv_iload_n hx hb dX7_refill_39 rfl (lv_at hl 1 rfl) ?_
    refine ck_e hf (fun hi hf => ?_)
    refine la_P6 E hP pg1 hi dX7_refill_40 ?_
    refine lv_isub hx hb dX7_refill_41 ?_
    refine lt_e hf (fun x2_42 hx2_42 hf => ?_)
    refine kr_nm hx2_42 ?_
    refine lv_istore_n (lv' := [(2, .int x2_42), (0, .ref (adC G 0 0)), (1, .int x1)]) hx hb dX7_refill_42 rfl hl (by decide) rfl (fun ls hl => ?_)
    refine lv_iload_n hx hb dX7_refill_43 rfl (lv_at hl 0 rfl) ?_
    refine lv_if_ne (tgt := 50) hx hb dX7_refill_44 (by decide) (fun hc => ?_) (fun hc => ?_)
    · have hf := if_f hf hc
      refine lv_aload_n hx hb dX7_refill_50 rfl (lv_at hl 1 rfl) ?_
      refine gf_X7_history E hP w_258 dX7_refill_51 ?_
      refine lv_aload_n hx hb dX7_refill_54 rfl (lv_at hl 1 rfl) ?_
      refine gf_X7_now E hP w_256 dX7_refill_55 ?_
      refine ob_e hf (fun ns_58 M_58 hq hf => ?_)
      refine cv_X1_record E hP hS pg1 hq w_287 ⟨Nat.le_of_ble_eq_true rfl, Nat.le_of_ble_eq_true rfl⟩ hl (Nat.le_of_ble_eq_true rfl) dX7_refill_58 ⟨Nat.le_of_ble_eq_true rfl, Nat.le_of_ble_eq_true rfl⟩ (fun H locs hP hS => ?_)
      refine lv_aload_n hx hb dX7_refill_61 rfl (lv_at hl 1 rfl) ?_
      refine gf_X7_now E hP w_256 dX7_refill_62 ?_
      refine gf_X5_pens E hP pg1 w_137 dX7_refill_65 ?_
      refine gf_X4_ink E hP pg1 w_51 dX7_refill_68 ?_
      refine lv_iload_n hx hb dX7_refill_71 rfl (lv_at hl 2 rfl) ?_
      refine lv_aload_n hx hb dX7_refill_72 rfl (lv_at hl 1 rfl) ?_
      refine gf_X7_now E hP w_256 dX7_refill_73 ?_
      refine gf_X5_pens E hP pg1 w_137 dX7_refill_76 ?_
      refine gf_X4_capacity E hP pg1 w_46 dX7_refill_79 ?_
      refine lv_iload_n hx hb dX7_refill_82 rfl (lv_at hl 2 rfl) ?_
      refine ck_e hf (fun hi hf => ?_)
      refine la_P4 E hP pg1 hi dX7_refill_83 ?_
      refine ck_e hf (fun hi hf => ?_)
      refine lt_e hf (fun M_84 hM_84 hf => ?_)
      refine sa_P6 E hP hS pg1 hi hM_84 dX7_refill_84 (fun H locs hP hS => ?_)
      refine lv_iload_n hx hb dX7_refill_85 rfl (lv_at hl 0 rfl) ?_
      exact en_ia hf hx hb hr rfl hlocks hP hS dX7_refill_86
    · have hf := if_t hf hc
      refine lv_ldc (v := (-1000002)) hx hb hown (hts _ w_327) dX7_refill_47 ?_
      refine W.widen (k := 21) (n := 228) (Nat.le_of_ble_eq_true rfl) (Nat.le_of_ble_eq_true rfl) ?_
      exact en_ia hf hx hb hr rfl hlocks hP hS dX7_refill_49
  · have hf := if_t hf hc
    refine lv_ldc (v := (-1000001)) hx hb hown (hts _ w_286) dX7_refill_14 ?_
    refine W.widen (k := 21) (n := 228) (Nat.le_of_ble_eq_true rfl) (Nat.le_of_ble_eq_true rfl) ?_
    exact en_ia hf hx hb hr rfl hlocks hP hS dX7_refill_16
theorem c_X7_refill (l : Launch) {G : GG} {ns : Nat} {x1 : Int32} {M : Mem} {r : (Int32 × Nat)} {M' : Mem} (hf : f_X7_refill ns x1 M = some (r, M')) : CtI l yX7_refill cX7_refill 3 (some .int) rm_X7_refill [.ref (adC G 0 0), .int x1] G (AC G) (XC G ns) (szC G ns) M r.1 (XC G r.2) (szC G r.2) M' := by
  refine Ct_of (by decide) (Nat.le_of_ble_eq_true rfl) (fun p e s m below meth c ls hx hb hr hlocks hml hown hts hK hP hl => ?_)
  exact w_X7_refill ⟨hx, hb, hr, hlocks, hml, hown, hts, hK⟩ hf hP va_S.rf hl
set_option maxRecDepth 100000 in
theorem cv_X7_refill {p : Program} {l : Launch} {e : Env} {R : Room} {s : State} {m : MethodId} {args : Array Value} {below : List Frame} {meth : Method} {c : Code} {H : Heap} {locs : List Loc} {cells slots : Nat} {Q : State → Prop} {cc : ByteArray} {pc nL index : Nat} {ret : Option FieldType} {own : String} {ls : Array Slot} {rest : List Value} {l' : List (Nat × Value)} {G : GG} {ns : Nat} {M : Mem} (E : Cx p s m args meth c cc ret nL own G) (hP : PW G (AC G) (XC G ns) (szC G ns) M s H) (hS : va_S (AC G) s.heap H locs) {x1 : Int32} {r : (Int32 × Nat)} {M' : Mem} (hq : f_X7_refill ns x1 M = some (r, M')) (w1 : Cond.methodLink own index yX7_refill ∈ lw_all) (hR : 6 ≤ R.frames ∧ 167 ≤ R.locals) (hl : lv_has ls nL l') (hrest : (rest.map fun v => v.category).sum ≤ 8) (hdg : decode cc pc = .ok (.invokevirtual index, 3)) (hcs : cells + 21 ≤ R.cells ∧ slots + 228 ≤ R.slots)
    (kk : ∀ (H1 : Heap) (locs1 : List Loc), PW G (AC G) (XC G r.2) (szC G r.2) M' s H1 → va_S (AC G) s.heap H1 locs1 → W p l e R s m args below meth c H1 locs1 (cells + 21) (slots + 228) Q (F0 m (pc + 3) ls (.int r.1 :: rest))) : W p l e R s m args below meth c H locs cells slots Q (F0 m pc ls (.int x1 :: .ref (adC G 0 0) :: rest)) := by
  obtain ⟨hx, hb, hr, hlocks, hml, hown, hts, hK⟩ := E
  exact kc_i (kc_runV (na := 1) (q := (RX7, TX7, 6)) hx hb hml hts hown hK hP 0 0 (dm0 (by decide)) rfl rfl rfl (c_X7_refill l hq) w1 w_581 w_582 w_1 w_583 (by decide +kernel) hR rfl hl rfl hrest hdg hcs) hS kk
/-! X7_penOf -/
abbrev rm_X7_penOf : Room := { frames := 3, cells := 0, slots := 0, locals := 65 }
def f_X7_penOf_b170 (s0 : Int32) (M : Mem) : Option (Int32 × Mem) :=
ob (f_X7_asBit s0 M) fun r_170 M_170 =>
some (r_170, M_170)
def f_X7_penOf (x1 : Int32) (x2 : Int32) (M : Mem) : Option (Int32 × Mem) :=
ob (f_X4_has 1 x1 M) fun r_8 M_8 =>
(if r_8 = 0 then
  some ((-1000001), M_8)
else
  (if x2 = 0 then
    ck (ibd x1 5) <|
    some ((M_8 1 3 (ix x1)), M_8)
  else
  (if x2 = 1 then
    ck (ibd x1 5) <|
    some ((M_8 1 4 (ix x1)), M_8)
  else
  (if x2 = 2 then
    ck (ibd x1 5) <|
    some ((M_8 1 6 (ix x1)), M_8)
  else
  (if x2 = 3 then
    ck (ibd x1 5) <|
    some ((M_8 1 7 (ix x1)), M_8)
  else
  (if x2 = 4 then
    ck (ibd x1 5) <|
    some ((M_8 1 8 (ix x1)), M_8)
  else
  (if x2 = 5 then
    ck (ibd x1 5) <|
    some ((M_8 1 5 (ix x1)), M_8)
  else
  (if x2 = 6 then
    (if (M_8 1 0 4) = x1 then
      f_X7_penOf_b170 1 M_8
    else
      f_X7_penOf_b170 0 M_8)
  else
  (if x2 = 7 then
    ck (ibd x1 5) <|
    some ((M_8 1 9 (ix x1)), M_8)
  else
  (if x2 = 8 then
    ob (f_X5_isStriking 1 x1 M_8) fun r_192 M_192 =>
    ob (f_X7_asBit r_192 M_192) fun r_195 M_195 =>
    some (r_195, M_195)
  else
  (if x2 = 9 then
    ob (f_X5_isClogged 1 x1 M_8) fun r_204 M_204 =>
    ob (f_X7_asBit r_204 M_204) fun r_207 M_207 =>
    some (r_207, M_207)
  else
  (if x2 = 10 then
    ob (f_X2_howManyDrawnBy 1 x1 M_8) fun r_219 M_219 =>
    some (r_219, M_219)
  else
    some ((-1000001), M_8)))))))))))))
set_option maxHeartbeats 4000000 in
set_option maxRecDepth 100000 in
theorem w_X7_penOf_b170 {p : Program} {l : Launch} {e : Env} {s : State} {m : MethodId} {args : Array Value} {below : List Frame} {meth : Method} {c : Code} {G : GG} {sz : Nat} {ns : Nat} {r : Int32} {M' : Mem} (E : Cx p s m args meth c cX7_penOf (some .int) 3 RX7 G) {s0 : Int32} {M : Mem} {H : Heap} {locs : List Loc} {ls : Array Slot} (hf : f_X7_penOf_b170 s0 M = some (r, M')) (hP : PW G (AC G) (XC G ns) sz M s H) (hS : va_S (AC G) s.heap H locs) (hl : lv_has ls 3 []) : W p l e rm_X7_penOf s m args below meth c H locs 0 0 (MQ below (va_Qi (fun (r2 : Int32) (_ : Unit) => r2 = r) (fun _ t => PW G (AC G) (XC G ns) sz M' t t.heap) (AC G)) args s 0 0 (AC G)) (F0 m 170 ls [.int s0]) := by
  obtain ⟨hx, hb, hr, hlocks, hml, hown, hts, hK⟩ := id E
  unfold f_X7_penOf_b170 at hf
  refine ob_e hf (fun r_170 M_170 hq hf => ?_)
  refine cv_X7_asBit E hP hS hq w_465 ⟨Nat.le_of_ble_eq_true rfl, Nat.le_of_ble_eq_true rfl⟩ hl (Nat.le_of_ble_eq_true rfl) dX7_penOf_170 ⟨Nat.le_of_ble_eq_true rfl, Nat.le_of_ble_eq_true rfl⟩ (fun H locs hP hS => ?_)
  exact en_i hf hx hb hr rfl hlocks hP hS dX7_penOf_173
set_option maxHeartbeats 4000000 in
set_option maxRecDepth 100000 in
theorem w_X7_penOf {p : Program} {l : Launch} {e : Env} {s : State} {m : MethodId} {args : Array Value} {below : List Frame} {meth : Method} {c : Code} {G : GG} {sz : Nat} {ns : Nat} {r : Int32} {M' : Mem} (E : Cx p s m args meth c cX7_penOf (some .int) 3 RX7 G) {x1 : Int32} {x2 : Int32} {M : Mem} {H : Heap} {locs : List Loc} {ls : Array Slot} (hf : f_X7_penOf x1 x2 M = some (r, M')) (hP : PW G (AC G) (XC G ns) sz M s H) (hS : va_S (AC G) s.heap H locs) (hl : lv_has ls 3 [(0, .ref (adC G 0 0)), (1, .int x1), (2, .int x2)]) : W p l e rm_X7_penOf s m args below meth c H locs 0 0 (MQ below (va_Qi (fun (r2 : Int32) (_ : Unit) => r2 = r) (fun _ t => PW G (AC G) (XC G ns) sz M' t t.heap) (AC G)) args s 0 0 (AC G)) (F0 m 0 ls []) := by
  obtain ⟨hx, hb, hr, hlocks, hml, hown, hts, hK⟩ := id E
  unfold f_X7_penOf at hf
  refine lv_aload_n hx hb dX7_penOf_0 rfl (lv_at hl 0 rfl) ?_
  refine gf_X7_now E hP w_256 dX7_penOf_1 ?_
  refine gf_X5_pens E hP pg1 w_137 dX7_penOf_4 ?_
  refine lv_iload_n hx hb dX7_penOf_7 rfl (lv_at hl 1 rfl) ?_
  refine ob_e hf (fun r_8 M_8 hq hf => ?_)
  refine cv_X4_has E hP hS pg1 hq w_374 ⟨Nat.le_of_ble_eq_true rfl, Nat.le_of_ble_eq_true rfl⟩ hl (Nat.le_of_ble_eq_true rfl) dX7_penOf_8 ⟨Nat.le_of_ble_eq_true rfl, Nat.le_of_ble_eq_true rfl⟩ (fun H locs hP hS => ?_)
  refine lv_if_ne (tgt := 17) hx hb dX7_penOf_11 (by decide) (fun hc => ?_) (fun hc => ?_)
  · have hf := if_f hf hc
    refine lv_iload_n hx hb dX7_penOf_17 rfl (lv_at hl 2 rfl) ?_
    by_cases hc0 : x2 = 0
    · have hf := if_t hf hc0
      refine kr_tin hx hb hc0 (tgt := 76) dX7_penOf_18 (by decide) (by decide) rfl (by decide) ?_
      refine lv_aload_n hx hb dX7_penOf_76 rfl (lv_at hl 0 rfl) ?_
      refine gf_X7_now E hP w_256 dX7_penOf_77 ?_
      refine gf_X5_pens E hP pg1 w_137 dX7_penOf_80 ?_
      refine gf_X4_kind E hP pg1 w_43 dX7_penOf_83 ?_
      refine lv_iload_n hx hb dX7_penOf_86 rfl (lv_at hl 1 rfl) ?_
      refine ck_e hf (fun hi hf => ?_)
      refine la_P3 E hP pg1 hi dX7_penOf_87 ?_
      exact en_i hf hx hb hr rfl hlocks hP hS dX7_penOf_88
    have hf := if_f hf hc0
    by_cases hc1 : x2 = 1
    · have hf := if_t hf hc1
      refine kr_tin hx hb hc1 (tgt := 89) dX7_penOf_18 (by decide) (by decide) rfl (by decide) ?_
      refine lv_aload_n hx hb dX7_penOf_89 rfl (lv_at hl 0 rfl) ?_
      refine gf_X7_now E hP w_256 dX7_penOf_90 ?_
      refine gf_X5_pens E hP pg1 w_137 dX7_penOf_93 ?_
      refine gf_X4_capacity E hP pg1 w_46 dX7_penOf_96 ?_
      refine lv_iload_n hx hb dX7_penOf_99 rfl (lv_at hl 1 rfl) ?_
      refine ck_e hf (fun hi hf => ?_)
      refine la_P4 E hP pg1 hi dX7_penOf_100 ?_
      exact en_i hf hx hb hr rfl hlocks hP hS dX7_penOf_101
    have hf := if_f hf hc1
    by_cases hc2 : x2 = 2
    · have hf := if_t hf hc2
      refine kr_tin hx hb hc2 (tgt := 102) dX7_penOf_18 (by decide) (by decide) rfl (by decide) ?_
      refine lv_aload_n hx hb dX7_penOf_102 rfl (lv_at hl 0 rfl) ?_
      refine gf_X7_now E hP w_256 dX7_penOf_103 ?_
      refine gf_X5_pens E hP pg1 w_137 dX7_penOf_106 ?_
      refine gf_X4_ink E hP pg1 w_51 dX7_penOf_109 ?_
      refine lv_iload_n hx hb dX7_penOf_112 rfl (lv_at hl 1 rfl) ?_
      refine ck_e hf (fun hi hf => ?_)
      refine la_P6 E hP pg1 hi dX7_penOf_113 ?_
      exact en_i hf hx hb hr rfl hlocks hP hS dX7_penOf_114
    have hf := if_f hf hc2
    by_cases hc3 : x2 = 3
    · have hf := if_t hf hc3
      refine kr_tin hx hb hc3 (tgt := 115) dX7_penOf_18 (by decide) (by decide) rfl (by decide) ?_
      refine lv_aload_n hx hb dX7_penOf_115 rfl (lv_at hl 0 rfl) ?_
      refine gf_X7_now E hP w_256 dX7_penOf_116 ?_
      refine gf_X5_pens E hP pg1 w_137 dX7_penOf_119 ?_
      refine gf_X4_drawn E hP pg1 w_55 dX7_penOf_122 ?_
      refine lv_iload_n hx hb dX7_penOf_125 rfl (lv_at hl 1 rfl) ?_
      refine ck_e hf (fun hi hf => ?_)
      refine la_P7 E hP pg1 hi dX7_penOf_126 ?_
      exact en_i hf hx hb hr rfl hlocks hP hS dX7_penOf_127
    have hf := if_f hf hc3
    by_cases hc4 : x2 = 4
    · have hf := if_t hf hc4
      refine kr_tin hx hb hc4 (tgt := 128) dX7_penOf_18 (by decide) (by decide) rfl (by decide) ?_
      refine lv_aload_n hx hb dX7_penOf_128 rfl (lv_at hl 0 rfl) ?_
      refine gf_X7_now E hP w_256 dX7_penOf_129 ?_
      refine gf_X5_pens E hP pg1 w_137 dX7_penOf_132 ?_
      refine gf_X4_idle E hP pg1 w_58 dX7_penOf_135 ?_
      refine lv_iload_n hx hb dX7_penOf_138 rfl (lv_at hl 1 rfl) ?_
      refine ck_e hf (fun hi hf => ?_)
      refine la_P8 E hP pg1 hi dX7_penOf_139 ?_
      exact en_i hf hx hb hr rfl hlocks hP hS dX7_penOf_140
    have hf := if_f hf hc4
    by_cases hc5 : x2 = 5
    · have hf := if_t hf hc5
      refine kr_tin hx hb hc5 (tgt := 141) dX7_penOf_18 (by decide) (by decide) rfl (by decide) ?_
      refine lv_aload_n hx hb dX7_penOf_141 rfl (lv_at hl 0 rfl) ?_
      refine gf_X7_now E hP w_256 dX7_penOf_142 ?_
      refine gf_X5_pens E hP pg1 w_137 dX7_penOf_145 ?_
      refine gf_X4_place E hP pg1 w_49 dX7_penOf_148 ?_
      refine lv_iload_n hx hb dX7_penOf_151 rfl (lv_at hl 1 rfl) ?_
      refine ck_e hf (fun hi hf => ?_)
      refine la_P5 E hP pg1 hi dX7_penOf_152 ?_
      exact en_i hf hx hb hr rfl hlocks hP hS dX7_penOf_153
    have hf := if_f hf hc5
    by_cases hc6 : x2 = 6
    · have hf := if_t hf hc6
      refine kr_tin hx hb hc6 (tgt := 154) dX7_penOf_18 (by decide) (by decide) rfl (by decide) ?_
      refine lv_aload_n hx hb dX7_penOf_154 rfl (lv_at hl 0 rfl) ?_
      refine gf_X7_now E hP w_256 dX7_penOf_155 ?_
      refine gf_X5_hand E hP pg1 w_143 dX7_penOf_158 ?_
      refine lv_iload_n hx hb dX7_penOf_161 rfl (lv_at hl 1 rfl) ?_
      refine lv_icmp_ne (tgt := 169) hx hb dX7_penOf_162 (by decide) (fun hc => ?_) (fun hc => ?_)
      · have hf := if_f hf hc
        refine lv_iconst (v := 0) hx hb dX7_penOf_169 (by decide) ?_
        exact w_X7_penOf_b170 E hf hP hS (lv_sub hl [] rfl)
      · have hf := if_t hf hc
        refine lv_iconst (v := 1) hx hb dX7_penOf_165 (by decide) ?_
        refine lv_goto (tgt := 170) hx hb dX7_penOf_166 (by decide) ?_
        exact w_X7_penOf_b170 E hf hP hS (lv_sub hl [] rfl)
    have hf := if_f hf hc6
    by_cases hc7 : x2 = 7
    · have hf := if_t hf hc7
      refine kr_tin hx hb hc7 (tgt := 174) dX7_penOf_18 (by decide) (by decide) rfl (by decide) ?_
      refine lv_aload_n hx hb dX7_penOf_174 rfl (lv_at hl 0 rfl) ?_
      refine gf_X7_now E hP w_256 dX7_penOf_175 ?_
      refine gf_X5_pens E hP pg1 w_137 dX7_penOf_178 ?_
      refine gf_X4_away E hP pg1 w_60 dX7_penOf_181 ?_
      refine lv_iload_n hx hb dX7_penOf_184 rfl (lv_at hl 1 rfl) ?_
      refine ck_e hf (fun hi hf => ?_)
      refine la_P9 E hP pg1 hi dX7_penOf_185 ?_
      exact en_i hf hx hb hr rfl hlocks hP hS dX7_penOf_186
    have hf := if_f hf hc7
    by_cases hc8 : x2 = 8
    · have hf := if_t hf hc8
      refine kr_tin hx hb hc8 (tgt := 187) dX7_penOf_18 (by decide) (by decide) rfl (by decide) ?_
      refine lv_aload_n hx hb dX7_penOf_187 rfl (lv_at hl 0 rfl) ?_
      refine gf_X7_now E hP w_256 dX7_penOf_188 ?_
      refine lv_iload_n hx hb dX7_penOf_191 rfl (lv_at hl 1 rfl) ?_
      refine ob_e hf (fun r_192 M_192 hq hf => ?_)
      refine cv_X5_isStriking E hP hS pg1 hq w_466 ⟨Nat.le_of_ble_eq_true rfl, Nat.le_of_ble_eq_true rfl⟩ hl (Nat.le_of_ble_eq_true rfl) dX7_penOf_192 ⟨Nat.le_of_ble_eq_true rfl, Nat.le_of_ble_eq_true rfl⟩ (fun H locs hP hS => ?_)
      refine ob_e hf (fun r_195 M_195 hq hf => ?_)
      refine cv_X7_asBit E hP hS hq w_465 ⟨Nat.le_of_ble_eq_true rfl, Nat.le_of_ble_eq_true rfl⟩ hl (Nat.le_of_ble_eq_true rfl) dX7_penOf_195 ⟨Nat.le_of_ble_eq_true rfl, Nat.le_of_ble_eq_true rfl⟩ (fun H locs hP hS => ?_)
      exact en_i hf hx hb hr rfl hlocks hP hS dX7_penOf_198
    have hf := if_f hf hc8
    by_cases hc9 : x2 = 9
    · have hf := if_t hf hc9
      refine kr_tin hx hb hc9 (tgt := 199) dX7_penOf_18 (by decide) (by decide) rfl (by decide) ?_
      refine lv_aload_n hx hb dX7_penOf_199 rfl (lv_at hl 0 rfl) ?_
      refine gf_X7_now E hP w_256 dX7_penOf_200 ?_
      refine lv_iload_n hx hb dX7_penOf_203 rfl (lv_at hl 1 rfl) ?_
      refine ob_e hf (fun r_204 M_204 hq hf => ?_)
      refine cv_X5_isClogged E hP hS pg1 hq w_475 ⟨Nat.le_of_ble_eq_true rfl, Nat.le_of_ble_eq_true rfl⟩ hl (Nat.le_of_ble_eq_true rfl) dX7_penOf_204 ⟨Nat.le_of_ble_eq_true rfl, Nat.le_of_ble_eq_true rfl⟩ (fun H locs hP hS => ?_)
      refine ob_e hf (fun r_207 M_207 hq hf => ?_)
      refine cv_X7_asBit E hP hS hq w_465 ⟨Nat.le_of_ble_eq_true rfl, Nat.le_of_ble_eq_true rfl⟩ hl (Nat.le_of_ble_eq_true rfl) dX7_penOf_207 ⟨Nat.le_of_ble_eq_true rfl, Nat.le_of_ble_eq_true rfl⟩ (fun H locs hP hS => ?_)
      exact en_i hf hx hb hr rfl hlocks hP hS dX7_penOf_210
    have hf := if_f hf hc9
    by_cases hc10 : x2 = 10
    · have hf := if_t hf hc10
      refine kr_tin hx hb hc10 (tgt := 211) dX7_penOf_18 (by decide) (by decide) rfl (by decide) ?_
      refine lv_aload_n hx hb dX7_penOf_211 rfl (lv_at hl 0 rfl) ?_
      refine gf_X7_now E hP w_256 dX7_penOf_212 ?_
      refine gf_X5_lines E hP pg1 w_139 dX7_penOf_215 ?_
      refine lv_iload_n hx hb dX7_penOf_218 rfl (lv_at hl 1 rfl) ?_
      refine ob_e hf (fun r_219 M_219 hq hf => ?_)
      refine cv_X2_howManyDrawnBy E hP hS pg1 hq w_479 ⟨Nat.le_of_ble_eq_true rfl, Nat.le_of_ble_eq_true rfl⟩ hl (Nat.le_of_ble_eq_true rfl) dX7_penOf_219 ⟨Nat.le_of_ble_eq_true rfl, Nat.le_of_ble_eq_true rfl⟩ (fun H locs hP hS => ?_)
      exact en_i hf hx hb hr rfl hlocks hP hS dX7_penOf_222
    have hf := if_f hf hc10
    have hn0 := lv_neT hc0 (a := 0) (by decide)
    have hn1 := lv_neT hc1 (a := 1) (by decide)
    have hn2 := lv_neT hc2 (a := 2) (by decide)
    have hn3 := lv_neT hc3 (a := 3) (by decide)
    have hn4 := lv_neT hc4 (a := 4) (by decide)
    have hn5 := lv_neT hc5 (a := 5) (by decide)
    have hn6 := lv_neT hc6 (a := 6) (by decide)
    have hn7 := lv_neT hc7 (a := 7) (by decide)
    have hn8 := lv_neT hc8 (a := 8) (by decide)
    have hn9 := lv_neT hc9 (a := 9) (by decide)
    have hn10 := lv_neT hc10 (a := 10) (by decide)
    refine lv_tableOut (tgt := 223) hx hb dX7_penOf_18 (by omega) (by decide) ?_
    refine lv_ldc (v := (-1000001)) hx hb hown (hts _ w_286) dX7_penOf_223 ?_
    exact en_i hf hx hb hr rfl hlocks hP hS dX7_penOf_225
  · have hf := if_t hf hc
    refine lv_ldc (v := (-1000001)) hx hb hown (hts _ w_286) dX7_penOf_14 ?_
    exact en_i hf hx hb hr rfl hlocks hP hS dX7_penOf_16
theorem c_X7_penOf (l : Launch) {G : GG} {sz : Nat} {ns : Nat} {x1 : Int32} {x2 : Int32} {M : Mem} {r : Int32} {M' : Mem} (hf : f_X7_penOf x1 x2 M = some (r, M')) : CtI l yX7_penOf cX7_penOf 3 (some .int) rm_X7_penOf [.ref (adC G 0 0), .int x1, .int x2] G (AC G) (XC G ns) sz M r (XC G ns) sz M' := by
  refine Ct_of (by decide) (Nat.le_of_ble_eq_true rfl) (fun p e s m below meth c ls hx hb hr hlocks hml hown hts hK hP hl => ?_)
  exact w_X7_penOf ⟨hx, hb, hr, hlocks, hml, hown, hts, hK⟩ hf hP va_S.rf hl
set_option maxRecDepth 100000 in
theorem cv_X7_penOf {p : Program} {l : Launch} {e : Env} {R : Room} {s : State} {m : MethodId} {args : Array Value} {below : List Frame} {meth : Method} {c : Code} {H : Heap} {locs : List Loc} {cells slots : Nat} {Q : State → Prop} {cc : ByteArray} {pc nL index : Nat} {ret : Option FieldType} {own : String} {ls : Array Slot} {rest : List Value} {l' : List (Nat × Value)} {G : GG} {sz : Nat} {ns : Nat} {M : Mem} (E : Cx p s m args meth c cc ret nL own G) (hP : PW G (AC G) (XC G ns) sz M s H) (hS : va_S (AC G) s.heap H locs) {x1 : Int32} {x2 : Int32} {r : Int32} {M' : Mem} (hq : f_X7_penOf x1 x2 M = some (r, M')) (w1 : Cond.methodLink own index yX7_penOf ∈ lw_all) (hR : 4 ≤ R.frames ∧ 87 ≤ R.locals) (hl : lv_has ls nL l') (hrest : (rest.map fun v => v.category).sum ≤ 8) (hdg : decode cc pc = .ok (.invokevirtual index, 3)) (hcs : cells ≤ R.cells ∧ slots ≤ R.slots)
    (kk : ∀ (H1 : Heap) (locs1 : List Loc), PW G (AC G) (XC G ns) sz M' s H1 → va_S (AC G) s.heap H1 locs1 → W p l e R s m args below meth c H1 locs1 cells slots Q (F0 m (pc + 3) ls (.int r :: rest))) : W p l e R s m args below meth c H locs cells slots Q (F0 m pc ls (.int x2 :: .int x1 :: .ref (adC G 0 0) :: rest)) := by
  obtain ⟨hx, hb, hr, hlocks, hml, hown, hts, hK⟩ := E
  exact kc_i (kc_runV (na := 2) (q := (RX7, TX7, 6)) hx hb hml hts hown hK hP 0 0 (dm0 (by decide)) rfl rfl rfl (c_X7_penOf l hq) w1 w_462 w_463 w_1 w_464 (by decide +kernel) hR rfl hl rfl hrest hdg hcs) hS kk
/-! X7_lineOf -/
abbrev rm_X7_lineOf : Room := { frames := 3, cells := 0, slots := 0, locals := 66 }
def f_X7_lineOf_b24 (M : Mem) : Option (Int32 × Mem) :=
some ((-1000001), M)
def f_X7_lineOf_b72 (x1 : Int32) (x2 : Int32) (M : Mem) : Option (Int32 × Mem) :=
(if x2 = 0 then
  ck (ibd x1 16) <|
  some ((M 1 11 (ix x1)), M)
else
(if x2 = 1 then
  ck (ibd x1 16) <|
  some ((M 1 12 (ix x1)), M)
else
(if x2 = 2 then
  ck (ibd x1 16) <|
  some ((M 1 13 (ix x1)), M)
else
(if x2 = 3 then
  ck (ibd x1 16) <|
  some ((M 1 14 (ix x1)), M)
else
(if x2 = 4 then
  ck (ibd x1 16) <|
  some ((M 1 15 (ix x1)), M)
else
(if x2 = 5 then
  ob (f_X2_isDrawn 1 x1 M) fun r_197 M_197 =>
  ob (f_X7_asBit r_197 M_197) fun r_200 M_200 =>
  some (r_200, M_200)
else
(if x2 = 6 then
  ck (ibd x1 16) <|
  some ((M 1 17 (ix x1)), M)
else
(if x2 = 7 then
  ck (ibd x1 16) <|
  some ((M 1 18 (ix x1)), M)
else
(if x2 = 8 then
  ob (f_X5_isWet 1 x1 M) fun r_235 M_235 =>
  ob (f_X7_asBit r_235 M_235) fun r_238 M_238 =>
  some (r_238, M_238)
else
  ob (f_X5_shadeOf 1 x1 M) fun r_247 M_247 =>
  ob (f_X7_bitsOf r_247 M_247) fun r_250 M_250 =>
  some (r_250, M_250))))))))))
def f_X7_lineOf_b50 (x1 : Int32) (x2 : Int32) (s0 : Int32) (M : Mem) : Option (Int32 × Mem) :=
(if s0 = 0 then
  f_X7_lineOf_b72 x1 x2 M
else
  ob (f_X2_isDrawn 1 x1 M) fun r_63 M_63 =>
  (if r_63 = 0 then
    some ((-1000004), M_63)
  else
    f_X7_lineOf_b72 x1 x2 M_63))
def f_X7_lineOf_b45 (x1 : Int32) (x2 : Int32) (M : Mem) : Option (Int32 × Mem) :=
f_X7_lineOf_b50 x1 x2 1 M
def f_X7_lineOf (x1 : Int32) (x2 : Int32) (M : Mem) : Option (Int32 × Mem) :=
ob (f_X2_has 1 x1 M) fun r_8 M_8 =>
(if r_8 = 0 then
  f_X7_lineOf_b24 M_8
else
  ob (f_X7_isIn x2 0 9 M_8) fun r_18 M_18 =>
  (if r_18 = 0 then
    f_X7_lineOf_b24 M_18
  else
    (if x2 = 6 then
      f_X7_lineOf_b45 x1 x2 M_18
    else
      (if x2 = 7 then
        f_X7_lineOf_b45 x1 x2 M_18
      else
        (if x2 = 9 then
          f_X7_lineOf_b45 x1 x2 M_18
        else
          f_X7_lineOf_b50 x1 x2 0 M_18)))))
set_option maxHeartbeats 4000000 in
set_option maxRecDepth 100000 in
theorem w_X7_lineOf_b24 {p : Program} {l : Launch} {e : Env} {s : State} {m : MethodId} {args : Array Value} {below : List Frame} {meth : Method} {c : Code} {G : GG} {sz : Nat} {ns : Nat} {r : Int32} {M' : Mem} (E : Cx p s m args meth c cX7_lineOf (some .int) 4 RX7 G) {M : Mem} {H : Heap} {locs : List Loc} {ls : Array Slot} (hf : f_X7_lineOf_b24 M = some (r, M')) (hP : PW G (AC G) (XC G ns) sz M s H) (hS : va_S (AC G) s.heap H locs) (hl : lv_has ls 4 []) : W p l e rm_X7_lineOf s m args below meth c H locs 0 0 (MQ below (va_Qi (fun (r2 : Int32) (_ : Unit) => r2 = r) (fun _ t => PW G (AC G) (XC G ns) sz M' t t.heap) (AC G)) args s 0 0 (AC G)) (F0 m 24 ls []) := by
  obtain ⟨hx, hb, hr, hlocks, hml, hown, hts, hK⟩ := id E
  unfold f_X7_lineOf_b24 at hf
  refine lv_ldc (v := (-1000001)) hx hb hown (hts _ w_286) dX7_lineOf_24 ?_
  exact en_i hf hx hb hr rfl hlocks hP hS dX7_lineOf_26
set_option maxHeartbeats 4000000 in
set_option maxRecDepth 100000 in
theorem w_X7_lineOf_b72 {p : Program} {l : Launch} {e : Env} {s : State} {m : MethodId} {args : Array Value} {below : List Frame} {meth : Method} {c : Code} {G : GG} {sz : Nat} {ns : Nat} {r : Int32} {M' : Mem} (E : Cx p s m args meth c cX7_lineOf (some .int) 4 RX7 G) {x1 : Int32} {x2 : Int32} {M : Mem} {H : Heap} {locs : List Loc} {ls : Array Slot} (hf : f_X7_lineOf_b72 x1 x2 M = some (r, M')) (hP : PW G (AC G) (XC G ns) sz M s H) (hS : va_S (AC G) s.heap H locs) (hl : lv_has ls 4 [(0, .ref (adC G 0 0)), (1, .int x1), (2, .int x2)]) : W p l e rm_X7_lineOf s m args below meth c H locs 0 0 (MQ below (va_Qi (fun (r2 : Int32) (_ : Unit) => r2 = r) (fun _ t => PW G (AC G) (XC G ns) sz M' t t.heap) (AC G)) args s 0 0 (AC G)) (F0 m 72 ls []) := by
  obtain ⟨hx, hb, hr, hlocks, hml, hown, hts, hK⟩ := id E
  unfold f_X7_lineOf_b72 at hf
  refine lv_iload_n hx hb dX7_lineOf_72 rfl (lv_at hl 2 rfl) ?_
  by_cases hc0 : x2 = 0
  · have hf := if_t hf hc0
    refine kr_tin hx hb hc0 (tgt := 124) dX7_lineOf_73 (by decide) (by decide) rfl (by decide) ?_
    refine lv_aload_n hx hb dX7_lineOf_124 rfl (lv_at hl 0 rfl) ?_
    refine gf_X7_now E hP w_256 dX7_lineOf_125 ?_
    refine gf_X5_lines E hP pg1 w_139 dX7_lineOf_128 ?_
    refine gf_X2_x E hP pg1 w_89 dX7_lineOf_131 ?_
    refine lv_iload_n hx hb dX7_lineOf_134 rfl (lv_at hl 1 rfl) ?_
    refine ck_e hf (fun hi hf => ?_)
    refine la_P11 E hP pg1 hi dX7_lineOf_135 ?_
    exact en_i hf hx hb hr rfl hlocks hP hS dX7_lineOf_136
  have hf := if_f hf hc0
  by_cases hc1 : x2 = 1
  · have hf := if_t hf hc1
    refine kr_tin hx hb hc1 (tgt := 137) dX7_lineOf_73 (by decide) (by decide) rfl (by decide) ?_
    refine lv_aload_n hx hb dX7_lineOf_137 rfl (lv_at hl 0 rfl) ?_
    refine gf_X7_now E hP w_256 dX7_lineOf_138 ?_
    refine gf_X5_lines E hP pg1 w_139 dX7_lineOf_141 ?_
    refine gf_X2_y E hP pg1 w_91 dX7_lineOf_144 ?_
    refine lv_iload_n hx hb dX7_lineOf_147 rfl (lv_at hl 1 rfl) ?_
    refine ck_e hf (fun hi hf => ?_)
    refine la_P12 E hP pg1 hi dX7_lineOf_148 ?_
    exact en_i hf hx hb hr rfl hlocks hP hS dX7_lineOf_149
  have hf := if_f hf hc1
  by_cases hc2 : x2 = 2
  · have hf := if_t hf hc2
    refine kr_tin hx hb hc2 (tgt := 150) dX7_lineOf_73 (by decide) (by decide) rfl (by decide) ?_
    refine lv_aload_n hx hb dX7_lineOf_150 rfl (lv_at hl 0 rfl) ?_
    refine gf_X7_now E hP w_256 dX7_lineOf_151 ?_
    refine gf_X5_lines E hP pg1 w_139 dX7_lineOf_154 ?_
    refine gf_X2_x2 E hP pg1 w_93 dX7_lineOf_157 ?_
    refine lv_iload_n hx hb dX7_lineOf_160 rfl (lv_at hl 1 rfl) ?_
    refine ck_e hf (fun hi hf => ?_)
    refine la_P13 E hP pg1 hi dX7_lineOf_161 ?_
    exact en_i hf hx hb hr rfl hlocks hP hS dX7_lineOf_162
  have hf := if_f hf hc2
  by_cases hc3 : x2 = 3
  · have hf := if_t hf hc3
    refine kr_tin hx hb hc3 (tgt := 163) dX7_lineOf_73 (by decide) (by decide) rfl (by decide) ?_
    refine lv_aload_n hx hb dX7_lineOf_163 rfl (lv_at hl 0 rfl) ?_
    refine gf_X7_now E hP w_256 dX7_lineOf_164 ?_
    refine gf_X5_lines E hP pg1 w_139 dX7_lineOf_167 ?_
    refine gf_X2_y2 E hP pg1 w_95 dX7_lineOf_170 ?_
    refine lv_iload_n hx hb dX7_lineOf_173 rfl (lv_at hl 1 rfl) ?_
    refine ck_e hf (fun hi hf => ?_)
    refine la_P14 E hP pg1 hi dX7_lineOf_174 ?_
    exact en_i hf hx hb hr rfl hlocks hP hS dX7_lineOf_175
  have hf := if_f hf hc3
  by_cases hc4 : x2 = 4
  · have hf := if_t hf hc4
    refine kr_tin hx hb hc4 (tgt := 176) dX7_lineOf_73 (by decide) (by decide) rfl (by decide) ?_
    refine lv_aload_n hx hb dX7_lineOf_176 rfl (lv_at hl 0 rfl) ?_
    refine gf_X7_now E hP w_256 dX7_lineOf_177 ?_
    refine gf_X5_lines E hP pg1 w_139 dX7_lineOf_180 ?_
    refine gf_X2_length E hP pg1 w_98 dX7_lineOf_183 ?_
    refine lv_iload_n hx hb dX7_lineOf_186 rfl (lv_at hl 1 rfl) ?_
    refine ck_e hf (fun hi hf => ?_)
    refine la_P15 E hP pg1 hi dX7_lineOf_187 ?_
    exact en_i hf hx hb hr rfl hlocks hP hS dX7_lineOf_188
  have hf := if_f hf hc4
  by_cases hc5 : x2 = 5
  · have hf := if_t hf hc5
    refine kr_tin hx hb hc5 (tgt := 189) dX7_lineOf_73 (by decide) (by decide) rfl (by decide) ?_
    refine lv_aload_n hx hb dX7_lineOf_189 rfl (lv_at hl 0 rfl) ?_
    refine gf_X7_now E hP w_256 dX7_lineOf_190 ?_
    refine gf_X5_lines E hP pg1 w_139 dX7_lineOf_193 ?_
    refine lv_iload_n hx hb dX7_lineOf_196 rfl (lv_at hl 1 rfl) ?_
    refine ob_e hf (fun r_197 M_197 hq hf => ?_)
    refine cv_X2_isDrawn E hP hS pg1 hq w_518 ⟨Nat.le_of_ble_eq_true rfl, Nat.le_of_ble_eq_true rfl⟩ hl (Nat.le_of_ble_eq_true rfl) dX7_lineOf_197 ⟨Nat.le_of_ble_eq_true rfl, Nat.le_of_ble_eq_true rfl⟩ (fun H locs hP hS => ?_)
    refine ob_e hf (fun r_200 M_200 hq hf => ?_)
    refine cv_X7_asBit E hP hS hq w_465 ⟨Nat.le_of_ble_eq_true rfl, Nat.le_of_ble_eq_true rfl⟩ hl (Nat.le_of_ble_eq_true rfl) dX7_lineOf_200 ⟨Nat.le_of_ble_eq_true rfl, Nat.le_of_ble_eq_true rfl⟩ (fun H locs hP hS => ?_)
    exact en_i hf hx hb hr rfl hlocks hP hS dX7_lineOf_203
  have hf := if_f hf hc5
  by_cases hc6 : x2 = 6
  · have hf := if_t hf hc6
    refine kr_tin hx hb hc6 (tgt := 204) dX7_lineOf_73 (by decide) (by decide) rfl (by decide) ?_
    refine lv_aload_n hx hb dX7_lineOf_204 rfl (lv_at hl 0 rfl) ?_
    refine gf_X7_now E hP w_256 dX7_lineOf_205 ?_
    refine gf_X5_lines E hP pg1 w_139 dX7_lineOf_208 ?_
    refine gf_X2_drawnBy E hP pg1 w_103 dX7_lineOf_211 ?_
    refine lv_iload_n hx hb dX7_lineOf_214 rfl (lv_at hl 1 rfl) ?_
    refine ck_e hf (fun hi hf => ?_)
    refine la_P17 E hP pg1 hi dX7_lineOf_215 ?_
    exact en_i hf hx hb hr rfl hlocks hP hS dX7_lineOf_216
  have hf := if_f hf hc6
  by_cases hc7 : x2 = 7
  · have hf := if_t hf hc7
    refine kr_tin hx hb hc7 (tgt := 217) dX7_lineOf_73 (by decide) (by decide) rfl (by decide) ?_
    refine lv_aload_n hx hb dX7_lineOf_217 rfl (lv_at hl 0 rfl) ?_
    refine gf_X7_now E hP w_256 dX7_lineOf_218 ?_
    refine gf_X5_lines E hP pg1 w_139 dX7_lineOf_221 ?_
    refine gf_X2_doneAt E hP pg1 w_105 dX7_lineOf_224 ?_
    refine lv_iload_n hx hb dX7_lineOf_227 rfl (lv_at hl 1 rfl) ?_
    refine ck_e hf (fun hi hf => ?_)
    refine la_P18 E hP pg1 hi dX7_lineOf_228 ?_
    exact en_i hf hx hb hr rfl hlocks hP hS dX7_lineOf_229
  have hf := if_f hf hc7
  by_cases hc8 : x2 = 8
  · have hf := if_t hf hc8
    refine kr_tin hx hb hc8 (tgt := 230) dX7_lineOf_73 (by decide) (by decide) rfl (by decide) ?_
    refine lv_aload_n hx hb dX7_lineOf_230 rfl (lv_at hl 0 rfl) ?_
    refine gf_X7_now E hP w_256 dX7_lineOf_231 ?_
    refine lv_iload_n hx hb dX7_lineOf_234 rfl (lv_at hl 1 rfl) ?_
    refine ob_e hf (fun r_235 M_235 hq hf => ?_)
    refine cv_X5_isWet E hP hS pg1 hq w_519 ⟨Nat.le_of_ble_eq_true rfl, Nat.le_of_ble_eq_true rfl⟩ hl (Nat.le_of_ble_eq_true rfl) dX7_lineOf_235 ⟨Nat.le_of_ble_eq_true rfl, Nat.le_of_ble_eq_true rfl⟩ (fun H locs hP hS => ?_)
    refine ob_e hf (fun r_238 M_238 hq hf => ?_)
    refine cv_X7_asBit E hP hS hq w_465 ⟨Nat.le_of_ble_eq_true rfl, Nat.le_of_ble_eq_true rfl⟩ hl (Nat.le_of_ble_eq_true rfl) dX7_lineOf_238 ⟨Nat.le_of_ble_eq_true rfl, Nat.le_of_ble_eq_true rfl⟩ (fun H locs hP hS => ?_)
    exact en_i hf hx hb hr rfl hlocks hP hS dX7_lineOf_241
  have hf := if_f hf hc8
  have hn0 := lv_neT hc0 (a := 0) (by decide)
  have hn1 := lv_neT hc1 (a := 1) (by decide)
  have hn2 := lv_neT hc2 (a := 2) (by decide)
  have hn3 := lv_neT hc3 (a := 3) (by decide)
  have hn4 := lv_neT hc4 (a := 4) (by decide)
  have hn5 := lv_neT hc5 (a := 5) (by decide)
  have hn6 := lv_neT hc6 (a := 6) (by decide)
  have hn7 := lv_neT hc7 (a := 7) (by decide)
  have hn8 := lv_neT hc8 (a := 8) (by decide)
  refine lv_tableOut (tgt := 242) hx hb dX7_lineOf_73 (by omega) (by decide) ?_
  refine lv_aload_n hx hb dX7_lineOf_242 rfl (lv_at hl 0 rfl) ?_
  refine gf_X7_now E hP w_256 dX7_lineOf_243 ?_
  refine lv_iload_n hx hb dX7_lineOf_246 rfl (lv_at hl 1 rfl) ?_
  refine ob_e hf (fun r_247 M_247 hq hf => ?_)
  refine cv_X5_shadeOf E hP hS pg1 hq w_520 ⟨Nat.le_of_ble_eq_true rfl, Nat.le_of_ble_eq_true rfl⟩ hl (Nat.le_of_ble_eq_true rfl) dX7_lineOf_247 ⟨Nat.le_of_ble_eq_true rfl, Nat.le_of_ble_eq_true rfl⟩ (fun H locs hP hS => ?_)
  refine ob_e hf (fun r_250 M_250 hq hf => ?_)
  refine cv_X7_bitsOf E hP hS hq w_524 ⟨Nat.le_of_ble_eq_true rfl, Nat.le_of_ble_eq_true rfl⟩ hl (Nat.le_of_ble_eq_true rfl) dX7_lineOf_250 ⟨Nat.le_of_ble_eq_true rfl, Nat.le_of_ble_eq_true rfl⟩ (fun H locs hP hS => ?_)
  exact en_i hf hx hb hr rfl hlocks hP hS dX7_lineOf_253
set_option maxHeartbeats 4000000 in
set_option maxRecDepth 100000 in
theorem w_X7_lineOf_b50 {p : Program} {l : Launch} {e : Env} {s : State} {m : MethodId} {args : Array Value} {below : List Frame} {meth : Method} {c : Code} {G : GG} {sz : Nat} {ns : Nat} {r : Int32} {M' : Mem} (E : Cx p s m args meth c cX7_lineOf (some .int) 4 RX7 G) {x1 : Int32} {x2 : Int32} {s0 : Int32} {M : Mem} {H : Heap} {locs : List Loc} {ls : Array Slot} (hf : f_X7_lineOf_b50 x1 x2 s0 M = some (r, M')) (hP : PW G (AC G) (XC G ns) sz M s H) (hS : va_S (AC G) s.heap H locs) (hl : lv_has ls 4 [(0, .ref (adC G 0 0)), (1, .int x1), (2, .int x2)]) : W p l e rm_X7_lineOf s m args below meth c H locs 0 0 (MQ below (va_Qi (fun (r2 : Int32) (_ : Unit) => r2 = r) (fun _ t => PW G (AC G) (XC G ns) sz M' t t.heap) (AC G)) args s 0 0 (AC G)) (F0 m 50 ls [.int s0]) := by
  obtain ⟨hx, hb, hr, hlocks, hml, hown, hts, hK⟩ := id E
  unfold f_X7_lineOf_b50 at hf
  refine lv_istore_n (lv' := [(3, .int s0), (0, .ref (adC G 0 0)), (1, .int x1), (2, .int x2)]) hx hb dX7_lineOf_50 rfl hl (by decide) rfl (fun ls hl => ?_)
  refine lv_iload_n hx hb dX7_lineOf_51 rfl (lv_at hl 0 rfl) ?_
  refine lv_if_eq (tgt := 72) hx hb dX7_lineOf_52 (by decide) (fun hc => ?_) (fun hc => ?_)
  · have hf := if_t hf hc
    exact w_X7_lineOf_b72 E hf hP hS (lv_sub hl [1, 2, 3] rfl)
  · have hf := if_f hf hc
    refine lv_aload_n hx hb dX7_lineOf_55 rfl (lv_at hl 1 rfl) ?_
    refine gf_X7_now E hP w_256 dX7_lineOf_56 ?_
    refine gf_X5_lines E hP pg1 w_139 dX7_lineOf_59 ?_
    refine lv_iload_n hx hb dX7_lineOf_62 rfl (lv_at hl 2 rfl) ?_
    refine ob_e hf (fun r_63 M_63 hq hf => ?_)
    refine cv_X2_isDrawn E hP hS pg1 hq w_518 ⟨Nat.le_of_ble_eq_true rfl, Nat.le_of_ble_eq_true rfl⟩ hl (Nat.le_of_ble_eq_true rfl) dX7_lineOf_63 ⟨Nat.le_of_ble_eq_true rfl, Nat.le_of_ble_eq_true rfl⟩ (fun H locs hP hS => ?_)
    refine lv_if_ne (tgt := 72) hx hb dX7_lineOf_66 (by decide) (fun hc => ?_) (fun hc => ?_)
    · have hf := if_f hf hc
      exact w_X7_lineOf_b72 E hf hP hS (lv_sub hl [1, 2, 3] rfl)
    · have hf := if_t hf hc
      refine lv_ldc (v := (-1000004)) hx hb hown (hts _ w_439) dX7_lineOf_69 ?_
      exact en_i hf hx hb hr rfl hlocks hP hS dX7_lineOf_71
set_option maxHeartbeats 4000000 in
set_option maxRecDepth 100000 in
theorem w_X7_lineOf_b45 {p : Program} {l : Launch} {e : Env} {s : State} {m : MethodId} {args : Array Value} {below : List Frame} {meth : Method} {c : Code} {G : GG} {sz : Nat} {ns : Nat} {r : Int32} {M' : Mem} (E : Cx p s m args meth c cX7_lineOf (some .int) 4 RX7 G) {x1 : Int32} {x2 : Int32} {M : Mem} {H : Heap} {locs : List Loc} {ls : Array Slot} (hf : f_X7_lineOf_b45 x1 x2 M = some (r, M')) (hP : PW G (AC G) (XC G ns) sz M s H) (hS : va_S (AC G) s.heap H locs) (hl : lv_has ls 4 [(0, .ref (adC G 0 0)), (1, .int x1), (2, .int x2)]) : W p l e rm_X7_lineOf s m args below meth c H locs 0 0 (MQ below (va_Qi (fun (r2 : Int32) (_ : Unit) => r2 = r) (fun _ t => PW G (AC G) (XC G ns) sz M' t t.heap) (AC G)) args s 0 0 (AC G)) (F0 m 45 ls []) := by
  obtain ⟨hx, hb, hr, hlocks, hml, hown, hts, hK⟩ := id E
  unfold f_X7_lineOf_b45 at hf
  refine lv_iconst (v := 1) hx hb dX7_lineOf_45 (by decide) ?_
  refine lv_goto (tgt := 50) hx hb dX7_lineOf_46 (by decide) ?_
  exact w_X7_lineOf_b50 E hf hP hS (lv_sub hl [0, 1, 2] rfl)
set_option maxHeartbeats 4000000 in
set_option maxRecDepth 100000 in
theorem w_X7_lineOf {p : Program} {l : Launch} {e : Env} {s : State} {m : MethodId} {args : Array Value} {below : List Frame} {meth : Method} {c : Code} {G : GG} {sz : Nat} {ns : Nat} {r : Int32} {M' : Mem} (E : Cx p s m args meth c cX7_lineOf (some .int) 4 RX7 G) {x1 : Int32} {x2 : Int32} {M : Mem} {H : Heap} {locs : List Loc} {ls : Array Slot} (hf : f_X7_lineOf x1 x2 M = some (r, M')) (hP : PW G (AC G) (XC G ns) sz M s H) (hS : va_S (AC G) s.heap H locs) (hl : lv_has ls 4 [(0, .ref (adC G 0 0)), (1, .int x1), (2, .int x2)]) : W p l e rm_X7_lineOf s m args below meth c H locs 0 0 (MQ below (va_Qi (fun (r2 : Int32) (_ : Unit) => r2 = r) (fun _ t => PW G (AC G) (XC G ns) sz M' t t.heap) (AC G)) args s 0 0 (AC G)) (F0 m 0 ls []) := by
  obtain ⟨hx, hb, hr, hlocks, hml, hown, hts, hK⟩ := id E
  unfold f_X7_lineOf at hf
  refine lv_aload_n hx hb dX7_lineOf_0 rfl (lv_at hl 0 rfl) ?_
  refine gf_X7_now E hP w_256 dX7_lineOf_1 ?_
  refine gf_X5_lines E hP pg1 w_139 dX7_lineOf_4 ?_
  refine lv_iload_n hx hb dX7_lineOf_7 rfl (lv_at hl 1 rfl) ?_
  refine ob_e hf (fun r_8 M_8 hq hf => ?_)
  refine cv_X2_has E hP hS pg1 hq w_513 ⟨Nat.le_of_ble_eq_true rfl, Nat.le_of_ble_eq_true rfl⟩ hl (Nat.le_of_ble_eq_true rfl) dX7_lineOf_8 ⟨Nat.le_of_ble_eq_true rfl, Nat.le_of_ble_eq_true rfl⟩ (fun H locs hP hS => ?_)
  refine lv_if_eq (tgt := 24) hx hb dX7_lineOf_11 (by decide) (fun hc => ?_) (fun hc => ?_)
  · have hf := if_t hf hc
    exact w_X7_lineOf_b24 E hf hP hS (lv_sub hl [] rfl)
  · have hf := if_f hf hc
    refine lv_iload_n hx hb dX7_lineOf_14 rfl (lv_at hl 2 rfl) ?_
    refine lv_iconst (v := 0) hx hb dX7_lineOf_15 (by decide) ?_
    refine lv_bipush (v := 9) hx hb dX7_lineOf_16 (by decide) ?_
    refine ob_e hf (fun r_18 M_18 hq hf => ?_)
    refine cv_X7_isIn E hP hS hq w_279 ⟨Nat.le_of_ble_eq_true rfl, Nat.le_of_ble_eq_true rfl⟩ hl (Nat.le_of_ble_eq_true rfl) dX7_lineOf_18 ⟨Nat.le_of_ble_eq_true rfl, Nat.le_of_ble_eq_true rfl⟩ (fun H locs hP hS => ?_)
    refine lv_if_ne (tgt := 27) hx hb dX7_lineOf_21 (by decide) (fun hc => ?_) (fun hc => ?_)
    · have hf := if_f hf hc
      refine lv_iload_n hx hb dX7_lineOf_27 rfl (lv_at hl 2 rfl) ?_
      refine lv_bipush (v := 6) hx hb dX7_lineOf_28 (by decide) ?_
      refine lv_icmp_eq (tgt := 45) hx hb dX7_lineOf_30 (by decide) (fun hc => ?_) (fun hc => ?_)
      · have hf := if_t hf hc
        exact w_X7_lineOf_b45 E hf hP hS (lv_sub hl [0, 1, 2] rfl)
      · have hf := if_f hf hc
        refine lv_iload_n hx hb dX7_lineOf_33 rfl (lv_at hl 2 rfl) ?_
        refine lv_bipush (v := 7) hx hb dX7_lineOf_34 (by decide) ?_
        refine lv_icmp_eq (tgt := 45) hx hb dX7_lineOf_36 (by decide) (fun hc => ?_) (fun hc => ?_)
        · have hf := if_t hf hc
          exact w_X7_lineOf_b45 E hf hP hS (lv_sub hl [0, 1, 2] rfl)
        · have hf := if_f hf hc
          refine lv_iload_n hx hb dX7_lineOf_39 rfl (lv_at hl 2 rfl) ?_
          refine lv_bipush (v := 9) hx hb dX7_lineOf_40 (by decide) ?_
          refine lv_icmp_ne (tgt := 49) hx hb dX7_lineOf_42 (by decide) (fun hc => ?_) (fun hc => ?_)
          · have hf := if_f hf hc
            refine lv_iconst (v := 0) hx hb dX7_lineOf_49 (by decide) ?_
            exact w_X7_lineOf_b50 E hf hP hS (lv_sub hl [0, 1, 2] rfl)
          · have hf := if_t hf hc
            exact w_X7_lineOf_b45 E hf hP hS (lv_sub hl [0, 1, 2] rfl)
    · have hf := if_t hf hc
      exact w_X7_lineOf_b24 E hf hP hS (lv_sub hl [] rfl)
theorem c_X7_lineOf (l : Launch) {G : GG} {sz : Nat} {ns : Nat} {x1 : Int32} {x2 : Int32} {M : Mem} {r : Int32} {M' : Mem} (hf : f_X7_lineOf x1 x2 M = some (r, M')) : CtI l yX7_lineOf cX7_lineOf 4 (some .int) rm_X7_lineOf [.ref (adC G 0 0), .int x1, .int x2] G (AC G) (XC G ns) sz M r (XC G ns) sz M' := by
  refine Ct_of (by decide) (Nat.le_of_ble_eq_true rfl) (fun p e s m below meth c ls hx hb hr hlocks hml hown hts hK hP hl => ?_)
  exact w_X7_lineOf ⟨hx, hb, hr, hlocks, hml, hown, hts, hK⟩ hf hP va_S.rf hl
set_option maxRecDepth 100000 in
theorem cv_X7_lineOf {p : Program} {l : Launch} {e : Env} {R : Room} {s : State} {m : MethodId} {args : Array Value} {below : List Frame} {meth : Method} {c : Code} {H : Heap} {locs : List Loc} {cells slots : Nat} {Q : State → Prop} {cc : ByteArray} {pc nL index : Nat} {ret : Option FieldType} {own : String} {ls : Array Slot} {rest : List Value} {l' : List (Nat × Value)} {G : GG} {sz : Nat} {ns : Nat} {M : Mem} (E : Cx p s m args meth c cc ret nL own G) (hP : PW G (AC G) (XC G ns) sz M s H) (hS : va_S (AC G) s.heap H locs) {x1 : Int32} {x2 : Int32} {r : Int32} {M' : Mem} (hq : f_X7_lineOf x1 x2 M = some (r, M')) (w1 : Cond.methodLink own index yX7_lineOf ∈ lw_all) (hR : 4 ≤ R.frames ∧ 89 ≤ R.locals) (hl : lv_has ls nL l') (hrest : (rest.map fun v => v.category).sum ≤ 8) (hdg : decode cc pc = .ok (.invokevirtual index, 3)) (hcs : cells ≤ R.cells ∧ slots ≤ R.slots)
    (kk : ∀ (H1 : Heap) (locs1 : List Loc), PW G (AC G) (XC G ns) sz M' s H1 → va_S (AC G) s.heap H1 locs1 → W p l e R s m args below meth c H1 locs1 cells slots Q (F0 m (pc + 3) ls (.int r :: rest))) : W p l e R s m args below meth c H locs cells slots Q (F0 m pc ls (.int x2 :: .int x1 :: .ref (adC G 0 0) :: rest)) := by
  obtain ⟨hx, hb, hr, hlocks, hml, hown, hts, hK⟩ := E
  exact kc_i (kc_runV (na := 2) (q := (RX7, TX7, 6)) hx hb hml hts hown hK hP 0 0 (dm0 (by decide)) rfl rfl rfl (c_X7_lineOf l hq) w1 w_510 w_511 w_1 w_512 (by decide +kernel) hR rfl hl rfl hrest hdg hcs) hS kk
/-! X7_take -/
abbrev rm_X7_take : Room := { frames := 5, cells := 21, slots := 228, locals := 145 }
def f_X7_take (ns : Nat) (x1 : Int32) (M : Mem) : Option ((Int32 × Nat) × Mem) :=
ob (f_X4_has 1 x1 M) fun r_8 M_8 =>
(if r_8 = 0 then
  some (((-1000001), ns), M_8)
else
  ob (f_X5_errorOfTaking 1 x1 M_8) fun r_22 M_22 =>
  (if r_22 = 0 then
    ob (f_X1_record 1 ns M_22) fun ns_40 M_40 =>
    ob (f_X5_swapTo 1 x1 M_40) fun r_49 M_49 =>
    some (((1 + r_49), ns_40), M_49)
  else
    some ((r_22, ns), M_22)))
set_option maxHeartbeats 4000000 in
set_option maxRecDepth 100000 in
theorem w_X7_take {p : Program} {l : Launch} {e : Env} {s : State} {m : MethodId} {args : Array Value} {below : List Frame} {meth : Method} {c : Code} {G : GG} {ns : Nat} {r : (Int32 × Nat)} {M' : Mem} (E : Cx p s m args meth c cX7_take (some .int) 3 RX7 G) {x1 : Int32} {M : Mem} {H : Heap} {locs : List Loc} {ls : Array Slot} (hf : f_X7_take ns x1 M = some (r, M')) (hP : PW G (AC G) (XC G ns) (szC G ns) M s H) (hS : va_S (AC G) s.heap H locs) (hl : lv_has ls 3 [(0, .ref (adC G 0 0)), (1, .int x1)]) : W p l e rm_X7_take s m args below meth c H locs 0 0 (MQ below (va_Qi (fun (r2 : Int32) (_ : Unit) => r2 = r.1) (fun _ t => PW G (AC G) (XC G r.2) (szC G r.2) M' t t.heap) (AC G)) args s 21 228 (AC G)) (F0 m 0 ls []) := by
  obtain ⟨hx, hb, hr, hlocks, hml, hown, hts, hK⟩ := id E
  unfold f_X7_take at hf
  refine lv_aload_n hx hb dX7_take_0 rfl (lv_at hl 0 rfl) ?_
  refine gf_X7_now E hP w_256 dX7_take_1 ?_
  refine gf_X5_pens E hP pg1 w_137 dX7_take_4 ?_
  refine lv_iload_n hx hb dX7_take_7 rfl (lv_at hl 1 rfl) ?_
  refine ob_e hf (fun r_8 M_8 hq hf => ?_)
  refine cv_X4_has E hP hS pg1 hq w_374 ⟨Nat.le_of_ble_eq_true rfl, Nat.le_of_ble_eq_true rfl⟩ hl (Nat.le_of_ble_eq_true rfl) dX7_take_8 ⟨Nat.le_of_ble_eq_true rfl, Nat.le_of_ble_eq_true rfl⟩ (fun H locs hP hS => ?_)
  refine lv_if_ne (tgt := 17) hx hb dX7_take_11 (by decide) (fun hc => ?_) (fun hc => ?_)
  · have hf := if_f hf hc
    refine lv_aload_n hx hb dX7_take_17 rfl (lv_at hl 0 rfl) ?_
    refine gf_X7_now E hP w_256 dX7_take_18 ?_
    refine lv_iload_n hx hb dX7_take_21 rfl (lv_at hl 1 rfl) ?_
    refine ob_e hf (fun r_22 M_22 hq hf => ?_)
    refine cv_X5_errorOfTaking E hP hS pg1 hq w_379 ⟨Nat.le_of_ble_eq_true rfl, Nat.le_of_ble_eq_true rfl⟩ hl (Nat.le_of_ble_eq_true rfl) dX7_take_22 ⟨Nat.le_of_ble_eq_true rfl, Nat.le_of_ble_eq_true rfl⟩ (fun H locs hP hS => ?_)
    refine lv_istore_n (lv' := [(2, .int r_22), (0, .ref (adC G 0 0)), (1, .int x1)]) hx hb dX7_take_25 rfl hl (by decide) rfl (fun ls hl => ?_)
    refine lv_iload_n hx hb dX7_take_26 rfl (lv_at hl 0 rfl) ?_
    refine lv_if_eq (tgt := 32) hx hb dX7_take_27 (by decide) (fun hc => ?_) (fun hc => ?_)
    · have hf := if_t hf hc
      refine lv_aload_n hx hb dX7_take_32 rfl (lv_at hl 1 rfl) ?_
      refine gf_X7_history E hP w_258 dX7_take_33 ?_
      refine lv_aload_n hx hb dX7_take_36 rfl (lv_at hl 1 rfl) ?_
      refine gf_X7_now E hP w_256 dX7_take_37 ?_
      refine ob_e hf (fun ns_40 M_40 hq hf => ?_)
      refine cv_X1_record E hP hS pg1 hq w_287 ⟨Nat.le_of_ble_eq_true rfl, Nat.le_of_ble_eq_true rfl⟩ hl (Nat.le_of_ble_eq_true rfl) dX7_take_40 ⟨Nat.le_of_ble_eq_true rfl, Nat.le_of_ble_eq_true rfl⟩ (fun H locs hP hS => ?_)
      refine lv_iconst (v := 1) hx hb dX7_take_43 (by decide) ?_
      refine lv_aload_n hx hb dX7_take_44 rfl (lv_at hl 1 rfl) ?_
      refine gf_X7_now E hP w_256 dX7_take_45 ?_
      refine lv_iload_n hx hb dX7_take_48 rfl (lv_at hl 2 rfl) ?_
      refine ob_e hf (fun r_49 M_49 hq hf => ?_)
      refine cv_X5_swapTo E hP hS pg1 hq w_394 ⟨Nat.le_of_ble_eq_true rfl, Nat.le_of_ble_eq_true rfl⟩ hl (Nat.le_of_ble_eq_true rfl) dX7_take_49 ⟨Nat.le_of_ble_eq_true rfl, Nat.le_of_ble_eq_true rfl⟩ (fun H locs hP hS => ?_)
      refine lv_iadd hx hb dX7_take_52 ?_
      exact en_ia hf hx hb hr rfl hlocks hP hS dX7_take_53
    · have hf := if_f hf hc
      refine lv_iload_n hx hb dX7_take_30 rfl (lv_at hl 0 rfl) ?_
      refine W.widen (k := 21) (n := 228) (Nat.le_of_ble_eq_true rfl) (Nat.le_of_ble_eq_true rfl) ?_
      exact en_ia hf hx hb hr rfl hlocks hP hS dX7_take_31
  · have hf := if_t hf hc
    refine lv_ldc (v := (-1000001)) hx hb hown (hts _ w_286) dX7_take_14 ?_
    refine W.widen (k := 21) (n := 228) (Nat.le_of_ble_eq_true rfl) (Nat.le_of_ble_eq_true rfl) ?_
    exact en_ia hf hx hb hr rfl hlocks hP hS dX7_take_16
theorem c_X7_take (l : Launch) {G : GG} {ns : Nat} {x1 : Int32} {M : Mem} {r : (Int32 × Nat)} {M' : Mem} (hf : f_X7_take ns x1 M = some (r, M')) : CtI l yX7_take cX7_take 3 (some .int) rm_X7_take [.ref (adC G 0 0), .int x1] G (AC G) (XC G ns) (szC G ns) M r.1 (XC G r.2) (szC G r.2) M' := by
  refine Ct_of (by decide) (Nat.le_of_ble_eq_true rfl) (fun p e s m below meth c ls hx hb hr hlocks hml hown hts hK hP hl => ?_)
  exact w_X7_take ⟨hx, hb, hr, hlocks, hml, hown, hts, hK⟩ hf hP va_S.rf hl
set_option maxRecDepth 100000 in
theorem cv_X7_take {p : Program} {l : Launch} {e : Env} {R : Room} {s : State} {m : MethodId} {args : Array Value} {below : List Frame} {meth : Method} {c : Code} {H : Heap} {locs : List Loc} {cells slots : Nat} {Q : State → Prop} {cc : ByteArray} {pc nL index : Nat} {ret : Option FieldType} {own : String} {ls : Array Slot} {rest : List Value} {l' : List (Nat × Value)} {G : GG} {ns : Nat} {M : Mem} (E : Cx p s m args meth c cc ret nL own G) (hP : PW G (AC G) (XC G ns) (szC G ns) M s H) (hS : va_S (AC G) s.heap H locs) {x1 : Int32} {r : (Int32 × Nat)} {M' : Mem} (hq : f_X7_take ns x1 M = some (r, M')) (w1 : Cond.methodLink own index yX7_take ∈ lw_all) (hR : 6 ≤ R.frames ∧ 167 ≤ R.locals) (hl : lv_has ls nL l') (hrest : (rest.map fun v => v.category).sum ≤ 8) (hdg : decode cc pc = .ok (.invokevirtual index, 3)) (hcs : cells + 21 ≤ R.cells ∧ slots + 228 ≤ R.slots)
    (kk : ∀ (H1 : Heap) (locs1 : List Loc), PW G (AC G) (XC G r.2) (szC G r.2) M' s H1 → va_S (AC G) s.heap H1 locs1 → W p l e R s m args below meth c H1 locs1 (cells + 21) (slots + 228) Q (F0 m (pc + 3) ls (.int r.1 :: rest))) : W p l e R s m args below meth c H locs cells slots Q (F0 m pc ls (.int x1 :: .ref (adC G 0 0) :: rest)) := by
  obtain ⟨hx, hb, hr, hlocks, hml, hown, hts, hK⟩ := E
  exact kc_i (kc_runV (na := 1) (q := (RX7, TX7, 6)) hx hb hml hts hown hK hP 0 0 (dm0 (by decide)) rfl rfl rfl (c_X7_take l hq) w1 w_371 w_372 w_1 w_373 (by decide +kernel) hR rfl hl rfl hrest hdg hcs) hS kk
/-! X7_draw -/
abbrev rm_X7_draw : Room := { frames := 5, cells := 21, slots := 228, locals := 145 }
def f_X7_draw_b23 (ns : Nat) (M : Mem) : Option ((Int32 × Nat) × Mem) :=
some (((-1000001), ns), M)
def f_X7_draw (ns : Nat) (x1 : Int32) (x2 : Int32) (M : Mem) : Option ((Int32 × Nat) × Mem) :=
ob (f_X2_has 1 x1 M) fun r_8 M_8 =>
(if r_8 = 0 then
  f_X7_draw_b23 ns M_8
else
  ob (f_X7_isIn x2 0 1 M_8) fun r_17 M_17 =>
  (if r_17 = 0 then
    f_X7_draw_b23 ns M_17
  else
    ob (f_X5_reasonAgainst 1 x1 x2 0 M_17) fun r_33 M_33 =>
    (if r_33 = 0 then
      ob (f_X1_record 1 ns M_33) fun ns_50 M_50 =>
      ob (f_X5_drawByHand 1 x1 x2 M_50) fun _ M_59 =>
      some (((M_59 1 0 3), ns_50), M_59)
    else
      some (((-1000002), ns), M_33))))
set_option maxHeartbeats 4000000 in
set_option maxRecDepth 100000 in
theorem w_X7_draw_b23 {p : Program} {l : Launch} {e : Env} {s : State} {m : MethodId} {args : Array Value} {below : List Frame} {meth : Method} {c : Code} {G : GG} {ns : Nat} {r : (Int32 × Nat)} {M' : Mem} (E : Cx p s m args meth c cX7_draw (some .int) 3 RX7 G) {M : Mem} {H : Heap} {locs : List Loc} {ls : Array Slot} (hf : f_X7_draw_b23 ns M = some (r, M')) (hP : PW G (AC G) (XC G ns) (szC G ns) M s H) (hS : va_S (AC G) s.heap H locs) (hl : lv_has ls 3 []) : W p l e rm_X7_draw s m args below meth c H locs 0 0 (MQ below (va_Qi (fun (r2 : Int32) (_ : Unit) => r2 = r.1) (fun _ t => PW G (AC G) (XC G r.2) (szC G r.2) M' t t.heap) (AC G)) args s 21 228 (AC G)) (F0 m 23 ls []) := by
  obtain ⟨hx, hb, hr, hlocks, hml, hown, hts, hK⟩ := id E
  unfold f_X7_draw_b23 at hf
  refine lv_ldc (v := (-1000001)) hx hb hown (hts _ w_286) dX7_draw_23 ?_
  refine W.widen (k := 21) (n := 228) (Nat.le_of_ble_eq_true rfl) (Nat.le_of_ble_eq_true rfl) ?_
  exact en_ia hf hx hb hr rfl hlocks hP hS dX7_draw_25
set_option maxHeartbeats 4000000 in
set_option maxRecDepth 100000 in
theorem w_X7_draw {p : Program} {l : Launch} {e : Env} {s : State} {m : MethodId} {args : Array Value} {below : List Frame} {meth : Method} {c : Code} {G : GG} {ns : Nat} {r : (Int32 × Nat)} {M' : Mem} (E : Cx p s m args meth c cX7_draw (some .int) 3 RX7 G) {x1 : Int32} {x2 : Int32} {M : Mem} {H : Heap} {locs : List Loc} {ls : Array Slot} (hf : f_X7_draw ns x1 x2 M = some (r, M')) (hP : PW G (AC G) (XC G ns) (szC G ns) M s H) (hS : va_S (AC G) s.heap H locs) (hl : lv_has ls 3 [(0, .ref (adC G 0 0)), (1, .int x1), (2, .int x2)]) : W p l e rm_X7_draw s m args below meth c H locs 0 0 (MQ below (va_Qi (fun (r2 : Int32) (_ : Unit) => r2 = r.1) (fun _ t => PW G (AC G) (XC G r.2) (szC G r.2) M' t t.heap) (AC G)) args s 21 228 (AC G)) (F0 m 0 ls []) := by
  obtain ⟨hx, hb, hr, hlocks, hml, hown, hts, hK⟩ := id E
  unfold f_X7_draw at hf
  refine lv_aload_n hx hb dX7_draw_0 rfl (lv_at hl 0 rfl) ?_
  refine gf_X7_now E hP w_256 dX7_draw_1 ?_
  refine gf_X5_lines E hP pg1 w_139 dX7_draw_4 ?_
  refine lv_iload_n hx hb dX7_draw_7 rfl (lv_at hl 1 rfl) ?_
  refine ob_e hf (fun r_8 M_8 hq hf => ?_)
  refine cv_X2_has E hP hS pg1 hq w_513 ⟨Nat.le_of_ble_eq_true rfl, Nat.le_of_ble_eq_true rfl⟩ hl (Nat.le_of_ble_eq_true rfl) dX7_draw_8 ⟨Nat.le_of_ble_eq_true rfl, Nat.le_of_ble_eq_true rfl⟩ (fun H locs hP hS => ?_)
  refine lv_if_eq (tgt := 23) hx hb dX7_draw_11 (by decide) (fun hc => ?_) (fun hc => ?_)
  · have hf := if_t hf hc
    exact w_X7_draw_b23 E hf hP hS (lv_sub hl [] rfl)
  · have hf := if_f hf hc
    refine lv_iload_n hx hb dX7_draw_14 rfl (lv_at hl 2 rfl) ?_
    refine lv_iconst (v := 0) hx hb dX7_draw_15 (by decide) ?_
    refine lv_iconst (v := 1) hx hb dX7_draw_16 (by decide) ?_
    refine ob_e hf (fun r_17 M_17 hq hf => ?_)
    refine cv_X7_isIn E hP hS hq w_279 ⟨Nat.le_of_ble_eq_true rfl, Nat.le_of_ble_eq_true rfl⟩ hl (Nat.le_of_ble_eq_true rfl) dX7_draw_17 ⟨Nat.le_of_ble_eq_true rfl, Nat.le_of_ble_eq_true rfl⟩ (fun H locs hP hS => ?_)
    refine lv_if_ne (tgt := 26) hx hb dX7_draw_20 (by decide) (fun hc => ?_) (fun hc => ?_)
    · have hf := if_f hf hc
      refine lv_aload_n hx hb dX7_draw_26 rfl (lv_at hl 0 rfl) ?_
      refine gf_X7_now E hP w_256 dX7_draw_27 ?_
      refine lv_iload_n hx hb dX7_draw_30 rfl (lv_at hl 1 rfl) ?_
      refine lv_iload_n hx hb dX7_draw_31 rfl (lv_at hl 2 rfl) ?_
      refine lv_iconst (v := 0) hx hb dX7_draw_32 (by decide) ?_
      refine ob_e hf (fun r_33 M_33 hq hf => ?_)
      refine cv_X5_reasonAgainst E hP hS pg1 hq w_607 ⟨Nat.le_of_ble_eq_true rfl, Nat.le_of_ble_eq_true rfl⟩ hl (Nat.le_of_ble_eq_true rfl) dX7_draw_33 ⟨Nat.le_of_ble_eq_true rfl, Nat.le_of_ble_eq_true rfl⟩ (fun H locs hP hS => ?_)
      refine lv_if_eq (tgt := 42) hx hb dX7_draw_36 (by decide) (fun hc => ?_) (fun hc => ?_)
      · have hf := if_t hf hc
        refine lv_aload_n hx hb dX7_draw_42 rfl (lv_at hl 0 rfl) ?_
        refine gf_X7_history E hP w_258 dX7_draw_43 ?_
        refine lv_aload_n hx hb dX7_draw_46 rfl (lv_at hl 0 rfl) ?_
        refine gf_X7_now E hP w_256 dX7_draw_47 ?_
        refine ob_e hf (fun ns_50 M_50 hq hf => ?_)
        refine cv_X1_record E hP hS pg1 hq w_287 ⟨Nat.le_of_ble_eq_true rfl, Nat.le_of_ble_eq_true rfl⟩ hl (Nat.le_of_ble_eq_true rfl) dX7_draw_50 ⟨Nat.le_of_ble_eq_true rfl, Nat.le_of_ble_eq_true rfl⟩ (fun H locs hP hS => ?_)
        refine lv_aload_n hx hb dX7_draw_53 rfl (lv_at hl 0 rfl) ?_
        refine gf_X7_now E hP w_256 dX7_draw_54 ?_
        refine lv_iload_n hx hb dX7_draw_57 rfl (lv_at hl 1 rfl) ?_
        refine lv_iload_n hx hb dX7_draw_58 rfl (lv_at hl 2 rfl) ?_
        refine ob_e hf (fun r_59 M_59 hq hf => ?_)
        refine cv_X5_drawByHand E hP hS pg1 hq w_639 ⟨Nat.le_of_ble_eq_true rfl, Nat.le_of_ble_eq_true rfl⟩ hl (Nat.le_of_ble_eq_true rfl) dX7_draw_59 ⟨Nat.le_of_ble_eq_true rfl, Nat.le_of_ble_eq_true rfl⟩ (fun H locs hP hS => ?_)
        refine lv_aload_n hx hb dX7_draw_62 rfl (lv_at hl 0 rfl) ?_
        refine gf_X7_now E hP w_256 dX7_draw_63 ?_
        refine gf_X5_time E hP pg1 w_141 dX7_draw_66 ?_
        exact en_ia hf hx hb hr rfl hlocks hP hS dX7_draw_69
      · have hf := if_f hf hc
        refine lv_ldc (v := (-1000002)) hx hb hown (hts _ w_327) dX7_draw_39 ?_
        refine W.widen (k := 21) (n := 228) (Nat.le_of_ble_eq_true rfl) (Nat.le_of_ble_eq_true rfl) ?_
        exact en_ia hf hx hb hr rfl hlocks hP hS dX7_draw_41
    · have hf := if_t hf hc
      exact w_X7_draw_b23 E hf hP hS (lv_sub hl [] rfl)
theorem c_X7_draw (l : Launch) {G : GG} {ns : Nat} {x1 : Int32} {x2 : Int32} {M : Mem} {r : (Int32 × Nat)} {M' : Mem} (hf : f_X7_draw ns x1 x2 M = some (r, M')) : CtI l yX7_draw cX7_draw 3 (some .int) rm_X7_draw [.ref (adC G 0 0), .int x1, .int x2] G (AC G) (XC G ns) (szC G ns) M r.1 (XC G r.2) (szC G r.2) M' := by
  refine Ct_of (by decide) (Nat.le_of_ble_eq_true rfl) (fun p e s m below meth c ls hx hb hr hlocks hml hown hts hK hP hl => ?_)
  exact w_X7_draw ⟨hx, hb, hr, hlocks, hml, hown, hts, hK⟩ hf hP va_S.rf hl
set_option maxRecDepth 100000 in
theorem cv_X7_draw {p : Program} {l : Launch} {e : Env} {R : Room} {s : State} {m : MethodId} {args : Array Value} {below : List Frame} {meth : Method} {c : Code} {H : Heap} {locs : List Loc} {cells slots : Nat} {Q : State → Prop} {cc : ByteArray} {pc nL index : Nat} {ret : Option FieldType} {own : String} {ls : Array Slot} {rest : List Value} {l' : List (Nat × Value)} {G : GG} {ns : Nat} {M : Mem} (E : Cx p s m args meth c cc ret nL own G) (hP : PW G (AC G) (XC G ns) (szC G ns) M s H) (hS : va_S (AC G) s.heap H locs) {x1 : Int32} {x2 : Int32} {r : (Int32 × Nat)} {M' : Mem} (hq : f_X7_draw ns x1 x2 M = some (r, M')) (w1 : Cond.methodLink own index yX7_draw ∈ lw_all) (hR : 6 ≤ R.frames ∧ 167 ≤ R.locals) (hl : lv_has ls nL l') (hrest : (rest.map fun v => v.category).sum ≤ 8) (hdg : decode cc pc = .ok (.invokevirtual index, 3)) (hcs : cells + 21 ≤ R.cells ∧ slots + 228 ≤ R.slots)
    (kk : ∀ (H1 : Heap) (locs1 : List Loc), PW G (AC G) (XC G r.2) (szC G r.2) M' s H1 → va_S (AC G) s.heap H1 locs1 → W p l e R s m args below meth c H1 locs1 (cells + 21) (slots + 228) Q (F0 m (pc + 3) ls (.int r.1 :: rest))) : W p l e R s m args below meth c H locs cells slots Q (F0 m pc ls (.int x2 :: .int x1 :: .ref (adC G 0 0) :: rest)) := by
  obtain ⟨hx, hb, hr, hlocks, hml, hown, hts, hK⟩ := E
  exact kc_i (kc_runV (na := 2) (q := (RX7, TX7, 6)) hx hb hml hts hown hK hP 0 0 (dm0 (by decide)) rfl rfl rfl (c_X7_draw l hq) w1 w_636 w_637 w_1 w_638 (by decide +kernel) hR rfl hl rfl hrest hdg hcs) hS kk
/-! X7_erase -/
abbrev rm_X7_erase : Room := { frames := 5, cells := 21, slots := 228, locals := 145 }
def f_X7_erase (ns : Nat) (x1 : Int32) (M : Mem) : Option ((Int32 × Nat) × Mem) :=
ob (f_X2_has 1 x1 M) fun r_8 M_8 =>
(if r_8 = 0 then
  some (((-1000001), ns), M_8)
else
  ob (f_X2_isDrawn 1 x1 M_8) fun r_25 M_25 =>
  (if r_25 = 0 then
    some (((-1000002), ns), M_25)
  else
    ob (f_X1_record 1 ns M_25) fun ns_42 M_42 =>
    ck (ibd x1 16) <|
    lt ((M_42 1 17 (ix x1))) fun x2_57 =>
    ck (ibd x1 16) <|
    lt (up3 M_42 1 17 (ix x1) (-1)) fun M_70 =>
    some ((x2_57, ns_42), M_70)))
set_option maxHeartbeats 4000000 in
set_option maxRecDepth 100000 in
theorem w_X7_erase {p : Program} {l : Launch} {e : Env} {s : State} {m : MethodId} {args : Array Value} {below : List Frame} {meth : Method} {c : Code} {G : GG} {ns : Nat} {r : (Int32 × Nat)} {M' : Mem} (E : Cx p s m args meth c cX7_erase (some .int) 3 RX7 G) {x1 : Int32} {M : Mem} {H : Heap} {locs : List Loc} {ls : Array Slot} (hf : f_X7_erase ns x1 M = some (r, M')) (hP : PW G (AC G) (XC G ns) (szC G ns) M s H) (hS : va_S (AC G) s.heap H locs) (hl : lv_has ls 3 [(0, .ref (adC G 0 0)), (1, .int x1)]) : W p l e rm_X7_erase s m args below meth c H locs 0 0 (MQ below (va_Qi (fun (r2 : Int32) (_ : Unit) => r2 = r.1) (fun _ t => PW G (AC G) (XC G r.2) (szC G r.2) M' t t.heap) (AC G)) args s 21 228 (AC G)) (F0 m 0 ls []) := by
  obtain ⟨hx, hb, hr, hlocks, hml, hown, hts, hK⟩ := id E
  unfold f_X7_erase at hf
  refine lv_aload_n hx hb dX7_erase_0 rfl (lv_at hl 0 rfl) ?_
  refine gf_X7_now E hP w_256 dX7_erase_1 ?_
  refine gf_X5_lines E hP pg1 w_139 dX7_erase_4 ?_
  refine lv_iload_n hx hb dX7_erase_7 rfl (lv_at hl 1 rfl) ?_
  refine ob_e hf (fun r_8 M_8 hq hf => ?_)
  refine cv_X2_has E hP hS pg1 hq w_513 ⟨Nat.le_of_ble_eq_true rfl, Nat.le_of_ble_eq_true rfl⟩ hl (Nat.le_of_ble_eq_true rfl) dX7_erase_8 ⟨Nat.le_of_ble_eq_true rfl, Nat.le_of_ble_eq_true rfl⟩ (fun H locs hP hS => ?_)
  refine lv_if_ne (tgt := 17) hx hb dX7_erase_11 (by decide) (fun hc => ?_) (fun hc => ?_)
  · have hf := if_f hf hc
    refine lv_aload_n hx hb dX7_erase_17 rfl (lv_at hl 0 rfl) ?_
    refine gf_X7_now E hP w_256 dX7_erase_18 ?_
    refine gf_X5_lines E hP pg1 w_139 dX7_erase_21 ?_
    refine lv_iload_n hx hb dX7_erase_24 rfl (lv_at hl 1 rfl) ?_
    refine ob_e hf (fun r_25 M_25 hq hf => ?_)
    refine cv_X2_isDrawn E hP hS pg1 hq w_518 ⟨Nat.le_of_ble_eq_true rfl, Nat.le_of_ble_eq_true rfl⟩ hl (Nat.le_of_ble_eq_true rfl) dX7_erase_25 ⟨Nat.le_of_ble_eq_true rfl, Nat.le_of_ble_eq_true rfl⟩ (fun H locs hP hS => ?_)
    refine lv_if_ne (tgt := 34) hx hb dX7_erase_28 (by decide) (fun hc => ?_) (fun hc => ?_)
    · have hf := if_f hf hc
      refine lv_aload_n hx hb dX7_erase_34 rfl (lv_at hl 0 rfl) ?_
      refine gf_X7_history E hP w_258 dX7_erase_35 ?_
      refine lv_aload_n hx hb dX7_erase_38 rfl (lv_at hl 0 rfl) ?_
      refine gf_X7_now E hP w_256 dX7_erase_39 ?_
      refine ob_e hf (fun ns_42 M_42 hq hf => ?_)
      refine cv_X1_record E hP hS pg1 hq w_287 ⟨Nat.le_of_ble_eq_true rfl, Nat.le_of_ble_eq_true rfl⟩ hl (Nat.le_of_ble_eq_true rfl) dX7_erase_42 ⟨Nat.le_of_ble_eq_true rfl, Nat.le_of_ble_eq_true rfl⟩ (fun H locs hP hS => ?_)
      refine lv_aload_n hx hb dX7_erase_45 rfl (lv_at hl 0 rfl) ?_
      refine gf_X7_now E hP w_256 dX7_erase_46 ?_
      refine gf_X5_lines E hP pg1 w_139 dX7_erase_49 ?_
      refine gf_X2_drawnBy E hP pg1 w_103 dX7_erase_52 ?_
      refine lv_iload_n hx hb dX7_erase_55 rfl (lv_at hl 1 rfl) ?_
      refine ck_e hf (fun hi hf => ?_)
      refine la_P17 E hP pg1 hi dX7_erase_56 ?_
      refine lt_e hf (fun x2_57 hx2_57 hf => ?_)
      refine kr_nm hx2_57 ?_
      refine lv_istore_n (lv' := [(2, .int x2_57), (0, .ref (adC G 0 0)), (1, .int x1)]) hx hb dX7_erase_57 rfl hl (by decide) rfl (fun ls hl => ?_)
      refine lv_aload_n hx hb dX7_erase_58 rfl (lv_at hl 1 rfl) ?_
      refine gf_X7_now E hP w_256 dX7_erase_59 ?_
      refine gf_X5_lines E hP pg1 w_139 dX7_erase_62 ?_
      refine gf_X2_drawnBy E hP pg1 w_103 dX7_erase_65 ?_
      refine lv_iload_n hx hb dX7_erase_68 rfl (lv_at hl 2 rfl) ?_
      refine lv_iconst (v := (-1)) hx hb dX7_erase_69 (by decide) ?_
      refine ck_e hf (fun hi hf => ?_)
      refine lt_e hf (fun M_70 hM_70 hf => ?_)
      refine sa_P17 E hP hS pg1 hi hM_70 dX7_erase_70 (fun H locs hP hS => ?_)
      refine lv_iload_n hx hb dX7_erase_71 rfl (lv_at hl 0 rfl) ?_
      exact en_ia hf hx hb hr rfl hlocks hP hS dX7_erase_72
    · have hf := if_t hf hc
      refine lv_ldc (v := (-1000002)) hx hb hown (hts _ w_327) dX7_erase_31 ?_
      refine W.widen (k := 21) (n := 228) (Nat.le_of_ble_eq_true rfl) (Nat.le_of_ble_eq_true rfl) ?_
      exact en_ia hf hx hb hr rfl hlocks hP hS dX7_erase_33
  · have hf := if_t hf hc
    refine lv_ldc (v := (-1000001)) hx hb hown (hts _ w_286) dX7_erase_14 ?_
    refine W.widen (k := 21) (n := 228) (Nat.le_of_ble_eq_true rfl) (Nat.le_of_ble_eq_true rfl) ?_
    exact en_ia hf hx hb hr rfl hlocks hP hS dX7_erase_16
theorem c_X7_erase (l : Launch) {G : GG} {ns : Nat} {x1 : Int32} {M : Mem} {r : (Int32 × Nat)} {M' : Mem} (hf : f_X7_erase ns x1 M = some (r, M')) : CtI l yX7_erase cX7_erase 3 (some .int) rm_X7_erase [.ref (adC G 0 0), .int x1] G (AC G) (XC G ns) (szC G ns) M r.1 (XC G r.2) (szC G r.2) M' := by
  refine Ct_of (by decide) (Nat.le_of_ble_eq_true rfl) (fun p e s m below meth c ls hx hb hr hlocks hml hown hts hK hP hl => ?_)
  exact w_X7_erase ⟨hx, hb, hr, hlocks, hml, hown, hts, hK⟩ hf hP va_S.rf hl
set_option maxRecDepth 100000 in
theorem cv_X7_erase {p : Program} {l : Launch} {e : Env} {R : Room} {s : State} {m : MethodId} {args : Array Value} {below : List Frame} {meth : Method} {c : Code} {H : Heap} {locs : List Loc} {cells slots : Nat} {Q : State → Prop} {cc : ByteArray} {pc nL index : Nat} {ret : Option FieldType} {own : String} {ls : Array Slot} {rest : List Value} {l' : List (Nat × Value)} {G : GG} {ns : Nat} {M : Mem} (E : Cx p s m args meth c cc ret nL own G) (hP : PW G (AC G) (XC G ns) (szC G ns) M s H) (hS : va_S (AC G) s.heap H locs) {x1 : Int32} {r : (Int32 × Nat)} {M' : Mem} (hq : f_X7_erase ns x1 M = some (r, M')) (w1 : Cond.methodLink own index yX7_erase ∈ lw_all) (hR : 6 ≤ R.frames ∧ 167 ≤ R.locals) (hl : lv_has ls nL l') (hrest : (rest.map fun v => v.category).sum ≤ 8) (hdg : decode cc pc = .ok (.invokevirtual index, 3)) (hcs : cells + 21 ≤ R.cells ∧ slots + 228 ≤ R.slots)
    (kk : ∀ (H1 : Heap) (locs1 : List Loc), PW G (AC G) (XC G r.2) (szC G r.2) M' s H1 → va_S (AC G) s.heap H1 locs1 → W p l e R s m args below meth c H1 locs1 (cells + 21) (slots + 228) Q (F0 m (pc + 3) ls (.int r.1 :: rest))) : W p l e R s m args below meth c H locs cells slots Q (F0 m pc ls (.int x1 :: .ref (adC G 0 0) :: rest)) := by
  obtain ⟨hx, hb, hr, hlocks, hml, hown, hts, hK⟩ := E
  exact kc_i (kc_runV (na := 1) (q := (RX7, TX7, 6)) hx hb hml hts hown hK hP 0 0 (dm0 (by decide)) rfl rfl rfl (c_X7_erase l hq) w1 w_585 w_586 w_1 w_587 (by decide +kernel) hR rfl hl rfl hrest hdg hcs) hS kk
/-! X7_waits -/
abbrev rm_X7_waits : Room := { frames := 5, cells := 21, slots := 228, locals := 145 }
def f_X7_waits (ns : Nat) (x1 : Int32) (M : Mem) : Option ((Int32 × Nat) × Mem) :=
ob (f_X5_errorOfWaiting 1 x1 M) fun r_5 M_5 =>
(if r_5 = 0 then
  ob (f_X1_record 1 ns M_5) fun ns_23 M_23 =>
  ob (f_X5_passIdly 1 x1 M_23) fun _ M_31 =>
  some (((M_31 1 0 3), ns_23), M_31)
else
  some ((r_5, ns), M_5))
set_option maxHeartbeats 4000000 in
set_option maxRecDepth 100000 in
theorem w_X7_waits {p : Program} {l : Launch} {e : Env} {s : State} {m : MethodId} {args : Array Value} {below : List Frame} {meth : Method} {c : Code} {G : GG} {ns : Nat} {r : (Int32 × Nat)} {M' : Mem} (E : Cx p s m args meth c cX7_waits (some .int) 3 RX7 G) {x1 : Int32} {M : Mem} {H : Heap} {locs : List Loc} {ls : Array Slot} (hf : f_X7_waits ns x1 M = some (r, M')) (hP : PW G (AC G) (XC G ns) (szC G ns) M s H) (hS : va_S (AC G) s.heap H locs) (hl : lv_has ls 3 [(0, .ref (adC G 0 0)), (1, .int x1)]) : W p l e rm_X7_waits s m args below meth c H locs 0 0 (MQ below (va_Qi (fun (r2 : Int32) (_ : Unit) => r2 = r.1) (fun _ t => PW G (AC G) (XC G r.2) (szC G r.2) M' t t.heap) (AC G)) args s 21 228 (AC G)) (F0 m 0 ls []) := by
  obtain ⟨hx, hb, hr, hlocks, hml, hown, hts, hK⟩ := id E
  unfold f_X7_waits at hf
  refine lv_aload_n hx hb dX7_waits_0 rfl (lv_at hl 0 rfl) ?_
  refine gf_X7_now E hP w_256 dX7_waits_1 ?_
  refine lv_iload_n hx hb dX7_waits_4 rfl (lv_at hl 1 rfl) ?_
  refine ob_e hf (fun r_5 M_5 hq hf => ?_)
  refine cv_X5_errorOfWaiting E hP hS pg1 hq w_407 ⟨Nat.le_of_ble_eq_true rfl, Nat.le_of_ble_eq_true rfl⟩ hl (Nat.le_of_ble_eq_true rfl) dX7_waits_5 ⟨Nat.le_of_ble_eq_true rfl, Nat.le_of_ble_eq_true rfl⟩ (fun H locs hP hS => ?_)
  refine lv_istore_n (lv' := [(2, .int r_5), (0, .ref (adC G 0 0)), (1, .int x1)]) hx hb dX7_waits_8 rfl hl (by decide) rfl (fun ls hl => ?_)
  refine lv_iload_n hx hb dX7_waits_9 rfl (lv_at hl 0 rfl) ?_
  refine lv_if_eq (tgt := 15) hx hb dX7_waits_10 (by decide) (fun hc => ?_) (fun hc => ?_)
  · have hf := if_t hf hc
    refine lv_aload_n hx hb dX7_waits_15 rfl (lv_at hl 1 rfl) ?_
    refine gf_X7_history E hP w_258 dX7_waits_16 ?_
    refine lv_aload_n hx hb dX7_waits_19 rfl (lv_at hl 1 rfl) ?_
    refine gf_X7_now E hP w_256 dX7_waits_20 ?_
    refine ob_e hf (fun ns_23 M_23 hq hf => ?_)
    refine cv_X1_record E hP hS pg1 hq w_287 ⟨Nat.le_of_ble_eq_true rfl, Nat.le_of_ble_eq_true rfl⟩ hl (Nat.le_of_ble_eq_true rfl) dX7_waits_23 ⟨Nat.le_of_ble_eq_true rfl, Nat.le_of_ble_eq_true rfl⟩ (fun H locs hP hS => ?_)
    refine lv_aload_n hx hb dX7_waits_26 rfl (lv_at hl 1 rfl) ?_
    refine gf_X7_now E hP w_256 dX7_waits_27 ?_
    refine lv_iload_n hx hb dX7_waits_30 rfl (lv_at hl 2 rfl) ?_
    refine ob_e hf (fun r_31 M_31 hq hf => ?_)
    refine cv_X5_passIdly E hP hS pg1 hq w_413 ⟨Nat.le_of_ble_eq_true rfl, Nat.le_of_ble_eq_true rfl⟩ hl (Nat.le_of_ble_eq_true rfl) dX7_waits_31 ⟨Nat.le_of_ble_eq_true rfl, Nat.le_of_ble_eq_true rfl⟩ (fun H locs hP hS => ?_)
    refine lv_aload_n hx hb dX7_waits_34 rfl (lv_at hl 1 rfl) ?_
    refine gf_X7_now E hP w_256 dX7_waits_35 ?_
    refine gf_X5_time E hP pg1 w_141 dX7_waits_38 ?_
    exact en_ia hf hx hb hr rfl hlocks hP hS dX7_waits_41
  · have hf := if_f hf hc
    refine lv_iload_n hx hb dX7_waits_13 rfl (lv_at hl 0 rfl) ?_
    refine W.widen (k := 21) (n := 228) (Nat.le_of_ble_eq_true rfl) (Nat.le_of_ble_eq_true rfl) ?_
    exact en_ia hf hx hb hr rfl hlocks hP hS dX7_waits_14
theorem c_X7_waits (l : Launch) {G : GG} {ns : Nat} {x1 : Int32} {M : Mem} {r : (Int32 × Nat)} {M' : Mem} (hf : f_X7_waits ns x1 M = some (r, M')) : CtI l yX7_waits cX7_waits 3 (some .int) rm_X7_waits [.ref (adC G 0 0), .int x1] G (AC G) (XC G ns) (szC G ns) M r.1 (XC G r.2) (szC G r.2) M' := by
  refine Ct_of (by decide) (Nat.le_of_ble_eq_true rfl) (fun p e s m below meth c ls hx hb hr hlocks hml hown hts hK hP hl => ?_)
  exact w_X7_waits ⟨hx, hb, hr, hlocks, hml, hown, hts, hK⟩ hf hP va_S.rf hl
set_option maxRecDepth 100000 in
theorem cv_X7_waits {p : Program} {l : Launch} {e : Env} {R : Room} {s : State} {m : MethodId} {args : Array Value} {below : List Frame} {meth : Method} {c : Code} {H : Heap} {locs : List Loc} {cells slots : Nat} {Q : State → Prop} {cc : ByteArray} {pc nL index : Nat} {ret : Option FieldType} {own : String} {ls : Array Slot} {rest : List Value} {l' : List (Nat × Value)} {G : GG} {ns : Nat} {M : Mem} (E : Cx p s m args meth c cc ret nL own G) (hP : PW G (AC G) (XC G ns) (szC G ns) M s H) (hS : va_S (AC G) s.heap H locs) {x1 : Int32} {r : (Int32 × Nat)} {M' : Mem} (hq : f_X7_waits ns x1 M = some (r, M')) (w1 : Cond.methodLink own index yX7_waits ∈ lw_all) (hR : 6 ≤ R.frames ∧ 167 ≤ R.locals) (hl : lv_has ls nL l') (hrest : (rest.map fun v => v.category).sum ≤ 8) (hdg : decode cc pc = .ok (.invokevirtual index, 3)) (hcs : cells + 21 ≤ R.cells ∧ slots + 228 ≤ R.slots)
    (kk : ∀ (H1 : Heap) (locs1 : List Loc), PW G (AC G) (XC G r.2) (szC G r.2) M' s H1 → va_S (AC G) s.heap H1 locs1 → W p l e R s m args below meth c H1 locs1 (cells + 21) (slots + 228) Q (F0 m (pc + 3) ls (.int r.1 :: rest))) : W p l e R s m args below meth c H locs cells slots Q (F0 m pc ls (.int x1 :: .ref (adC G 0 0) :: rest)) := by
  obtain ⟨hx, hb, hr, hlocks, hml, hown, hts, hK⟩ := E
  exact kc_i (kc_runV (na := 1) (q := (RX7, TX7, 6)) hx hb hml hts hown hK hP 0 0 (dm0 (by decide)) rfl rfl rfl (c_X7_waits l hq) w1 w_404 w_405 w_1 w_406 (by decide +kernel) hR rfl hl rfl hrest hdg hcs) hS kk
/-! X7_clean -/
abbrev rm_X7_clean : Room := { frames := 5, cells := 21, slots := 228, locals := 145 }
def f_X7_clean (ns : Nat) (M : Mem) : Option ((Int32 × Nat) × Mem) :=
ob (f_X5_errorOfCleaning 1 M) fun r_4 M_4 =>
(if r_4 = 0 then
  ob (f_X1_record 1 ns M_4) fun ns_22 M_22 =>
  ob (f_X5_cleanHand 1 M_22) fun r_29 M_29 =>
  some ((r_29, ns_22), M_29)
else
  some ((r_4, ns), M_4))
set_option maxHeartbeats 4000000 in
set_option maxRecDepth 100000 in
theorem w_X7_clean {p : Program} {l : Launch} {e : Env} {s : State} {m : MethodId} {args : Array Value} {below : List Frame} {meth : Method} {c : Code} {G : GG} {ns : Nat} {r : (Int32 × Nat)} {M' : Mem} (E : Cx p s m args meth c cX7_clean (some .int) 2 RX7 G) {M : Mem} {H : Heap} {locs : List Loc} {ls : Array Slot} (hf : f_X7_clean ns M = some (r, M')) (hP : PW G (AC G) (XC G ns) (szC G ns) M s H) (hS : va_S (AC G) s.heap H locs) (hl : lv_has ls 2 [(0, .ref (adC G 0 0))]) : W p l e rm_X7_clean s m args below meth c H locs 0 0 (MQ below (va_Qi (fun (r2 : Int32) (_ : Unit) => r2 = r.1) (fun _ t => PW G (AC G) (XC G r.2) (szC G r.2) M' t t.heap) (AC G)) args s 21 228 (AC G)) (F0 m 0 ls []) := by
  obtain ⟨hx, hb, hr, hlocks, hml, hown, hts, hK⟩ := id E
  unfold f_X7_clean at hf
  refine lv_aload_n hx hb dX7_clean_0 rfl (lv_at hl 0 rfl) ?_
  refine gf_X7_now E hP w_256 dX7_clean_1 ?_
  refine ob_e hf (fun r_4 M_4 hq hf => ?_)
  refine cv_X5_errorOfCleaning E hP hS pg1 hq w_592 ⟨Nat.le_of_ble_eq_true rfl, Nat.le_of_ble_eq_true rfl⟩ hl (Nat.le_of_ble_eq_true rfl) dX7_clean_4 ⟨Nat.le_of_ble_eq_true rfl, Nat.le_of_ble_eq_true rfl⟩ (fun H locs hP hS => ?_)
  refine lv_istore_n (lv' := [(1, .int r_4), (0, .ref (adC G 0 0))]) hx hb dX7_clean_7 rfl hl (by decide) rfl (fun ls hl => ?_)
  refine lv_iload_n hx hb dX7_clean_8 rfl (lv_at hl 0 rfl) ?_
  refine lv_if_eq (tgt := 14) hx hb dX7_clean_9 (by decide) (fun hc => ?_) (fun hc => ?_)
  · have hf := if_t hf hc
    refine lv_aload_n hx hb dX7_clean_14 rfl (lv_at hl 1 rfl) ?_
    refine gf_X7_history E hP w_258 dX7_clean_15 ?_
    refine lv_aload_n hx hb dX7_clean_18 rfl (lv_at hl 1 rfl) ?_
    refine gf_X7_now E hP w_256 dX7_clean_19 ?_
    refine ob_e hf (fun ns_22 M_22 hq hf => ?_)
    refine cv_X1_record E hP hS pg1 hq w_287 ⟨Nat.le_of_ble_eq_true rfl, Nat.le_of_ble_eq_true rfl⟩ hl (Nat.le_of_ble_eq_true rfl) dX7_clean_22 ⟨Nat.le_of_ble_eq_true rfl, Nat.le_of_ble_eq_true rfl⟩ (fun H locs hP hS => ?_)
    refine lv_aload_n hx hb dX7_clean_25 rfl (lv_at hl 1 rfl) ?_
    refine gf_X7_now E hP w_256 dX7_clean_26 ?_
    refine ob_e hf (fun r_29 M_29 hq hf => ?_)
    refine cv_X5_cleanHand E hP hS pg1 hq w_596 ⟨Nat.le_of_ble_eq_true rfl, Nat.le_of_ble_eq_true rfl⟩ hl (Nat.le_of_ble_eq_true rfl) dX7_clean_29 ⟨Nat.le_of_ble_eq_true rfl, Nat.le_of_ble_eq_true rfl⟩ (fun H locs hP hS => ?_)
    exact en_ia hf hx hb hr rfl hlocks hP hS dX7_clean_32
  · have hf := if_f hf hc
    refine lv_iload_n hx hb dX7_clean_12 rfl (lv_at hl 0 rfl) ?_
    refine W.widen (k := 21) (n := 228) (Nat.le_of_ble_eq_true rfl) (Nat.le_of_ble_eq_true rfl) ?_
    exact en_ia hf hx hb hr rfl hlocks hP hS dX7_clean_13
theorem c_X7_clean (l : Launch) {G : GG} {ns : Nat} {M : Mem} {r : (Int32 × Nat)} {M' : Mem} (hf : f_X7_clean ns M = some (r, M')) : CtI l yX7_clean cX7_clean 2 (some .int) rm_X7_clean [.ref (adC G 0 0)] G (AC G) (XC G ns) (szC G ns) M r.1 (XC G r.2) (szC G r.2) M' := by
  refine Ct_of (by decide) (Nat.le_of_ble_eq_true rfl) (fun p e s m below meth c ls hx hb hr hlocks hml hown hts hK hP hl => ?_)
  exact w_X7_clean ⟨hx, hb, hr, hlocks, hml, hown, hts, hK⟩ hf hP va_S.rf hl
set_option maxRecDepth 100000 in
theorem cv_X7_clean {p : Program} {l : Launch} {e : Env} {R : Room} {s : State} {m : MethodId} {args : Array Value} {below : List Frame} {meth : Method} {c : Code} {H : Heap} {locs : List Loc} {cells slots : Nat} {Q : State → Prop} {cc : ByteArray} {pc nL index : Nat} {ret : Option FieldType} {own : String} {ls : Array Slot} {rest : List Value} {l' : List (Nat × Value)} {G : GG} {ns : Nat} {M : Mem} (E : Cx p s m args meth c cc ret nL own G) (hP : PW G (AC G) (XC G ns) (szC G ns) M s H) (hS : va_S (AC G) s.heap H locs) {r : (Int32 × Nat)} {M' : Mem} (hq : f_X7_clean ns M = some (r, M')) (w1 : Cond.methodLink own index yX7_clean ∈ lw_all) (hR : 6 ≤ R.frames ∧ 166 ≤ R.locals) (hl : lv_has ls nL l') (hrest : (rest.map fun v => v.category).sum ≤ 8) (hdg : decode cc pc = .ok (.invokevirtual index, 3)) (hcs : cells + 21 ≤ R.cells ∧ slots + 228 ≤ R.slots)
    (kk : ∀ (H1 : Heap) (locs1 : List Loc), PW G (AC G) (XC G r.2) (szC G r.2) M' s H1 → va_S (AC G) s.heap H1 locs1 → W p l e R s m args below meth c H1 locs1 (cells + 21) (slots + 228) Q (F0 m (pc + 3) ls (.int r.1 :: rest))) : W p l e R s m args below meth c H locs cells slots Q (F0 m pc ls (.ref (adC G 0 0) :: rest)) := by
  obtain ⟨hx, hb, hr, hlocks, hml, hown, hts, hK⟩ := E
  exact kc_i (kc_runV (na := 0) (q := (RX7, TX7, 6)) hx hb hml hts hown hK hP 0 0 (dm0 (by decide)) rfl rfl rfl (c_X7_clean l hq) w1 w_589 w_590 w_1 w_591 (by decide +kernel) hR rfl hl rfl hrest hdg hcs) hS kk
/-! X7_whyNot -/
abbrev rm_X7_whyNot : Room := { frames := 4, cells := 0, slots := 0, locals := 102 }
def f_X7_whyNot_b23 (M : Mem) : Option (Int32 × Mem) :=
some ((-1000001), M)
def f_X7_whyNot (x1 : Int32) (x2 : Int32) (M : Mem) : Option (Int32 × Mem) :=
ob (f_X2_has 1 x1 M) fun r_8 M_8 =>
(if r_8 = 0 then
  f_X7_whyNot_b23 M_8
else
  ob (f_X7_isIn x2 0 1 M_8) fun r_17 M_17 =>
  (if r_17 = 0 then
    f_X7_whyNot_b23 M_17
  else
    ob (f_X5_reasonAgainst 1 x1 x2 0 M_17) fun r_33 M_33 =>
    some (r_33, M_33)))
set_option maxHeartbeats 4000000 in
set_option maxRecDepth 100000 in
theorem w_X7_whyNot_b23 {p : Program} {l : Launch} {e : Env} {s : State} {m : MethodId} {args : Array Value} {below : List Frame} {meth : Method} {c : Code} {G : GG} {sz : Nat} {ns : Nat} {r : Int32} {M' : Mem} (E : Cx p s m args meth c cX7_whyNot (some .int) 3 RX7 G) {M : Mem} {H : Heap} {locs : List Loc} {ls : Array Slot} (hf : f_X7_whyNot_b23 M = some (r, M')) (hP : PW G (AC G) (XC G ns) sz M s H) (hS : va_S (AC G) s.heap H locs) (hl : lv_has ls 3 []) : W p l e rm_X7_whyNot s m args below meth c H locs 0 0 (MQ below (va_Qi (fun (r2 : Int32) (_ : Unit) => r2 = r) (fun _ t => PW G (AC G) (XC G ns) sz M' t t.heap) (AC G)) args s 0 0 (AC G)) (F0 m 23 ls []) := by
  obtain ⟨hx, hb, hr, hlocks, hml, hown, hts, hK⟩ := id E
  unfold f_X7_whyNot_b23 at hf
  refine lv_ldc (v := (-1000001)) hx hb hown (hts _ w_286) dX7_whyNot_23 ?_
  exact en_i hf hx hb hr rfl hlocks hP hS dX7_whyNot_25
set_option maxHeartbeats 4000000 in
set_option maxRecDepth 100000 in
theorem w_X7_whyNot {p : Program} {l : Launch} {e : Env} {s : State} {m : MethodId} {args : Array Value} {below : List Frame} {meth : Method} {c : Code} {G : GG} {sz : Nat} {ns : Nat} {r : Int32} {M' : Mem} (E : Cx p s m args meth c cX7_whyNot (some .int) 3 RX7 G) {x1 : Int32} {x2 : Int32} {M : Mem} {H : Heap} {locs : List Loc} {ls : Array Slot} (hf : f_X7_whyNot x1 x2 M = some (r, M')) (hP : PW G (AC G) (XC G ns) sz M s H) (hS : va_S (AC G) s.heap H locs) (hl : lv_has ls 3 [(0, .ref (adC G 0 0)), (1, .int x1), (2, .int x2)]) : W p l e rm_X7_whyNot s m args below meth c H locs 0 0 (MQ below (va_Qi (fun (r2 : Int32) (_ : Unit) => r2 = r) (fun _ t => PW G (AC G) (XC G ns) sz M' t t.heap) (AC G)) args s 0 0 (AC G)) (F0 m 0 ls []) := by
  obtain ⟨hx, hb, hr, hlocks, hml, hown, hts, hK⟩ := id E
  unfold f_X7_whyNot at hf
  refine lv_aload_n hx hb dX7_whyNot_0 rfl (lv_at hl 0 rfl) ?_
  refine gf_X7_now E hP w_256 dX7_whyNot_1 ?_
  refine gf_X5_lines E hP pg1 w_139 dX7_whyNot_4 ?_
  refine lv_iload_n hx hb dX7_whyNot_7 rfl (lv_at hl 1 rfl) ?_
  refine ob_e hf (fun r_8 M_8 hq hf => ?_)
  refine cv_X2_has E hP hS pg1 hq w_513 ⟨Nat.le_of_ble_eq_true rfl, Nat.le_of_ble_eq_true rfl⟩ hl (Nat.le_of_ble_eq_true rfl) dX7_whyNot_8 ⟨Nat.le_of_ble_eq_true rfl, Nat.le_of_ble_eq_true rfl⟩ (fun H locs hP hS => ?_)
  refine lv_if_eq (tgt := 23) hx hb dX7_whyNot_11 (by decide) (fun hc => ?_) (fun hc => ?_)
  · have hf := if_t hf hc
    exact w_X7_whyNot_b23 E hf hP hS (lv_sub hl [] rfl)
  · have hf := if_f hf hc
    refine lv_iload_n hx hb dX7_whyNot_14 rfl (lv_at hl 2 rfl) ?_
    refine lv_iconst (v := 0) hx hb dX7_whyNot_15 (by decide) ?_
    refine lv_iconst (v := 1) hx hb dX7_whyNot_16 (by decide) ?_
    refine ob_e hf (fun r_17 M_17 hq hf => ?_)
    refine cv_X7_isIn E hP hS hq w_279 ⟨Nat.le_of_ble_eq_true rfl, Nat.le_of_ble_eq_true rfl⟩ hl (Nat.le_of_ble_eq_true rfl) dX7_whyNot_17 ⟨Nat.le_of_ble_eq_true rfl, Nat.le_of_ble_eq_true rfl⟩ (fun H locs hP hS => ?_)
    refine lv_if_ne (tgt := 26) hx hb dX7_whyNot_20 (by decide) (fun hc => ?_) (fun hc => ?_)
    · have hf := if_f hf hc
      refine lv_aload_n hx hb dX7_whyNot_26 rfl (lv_at hl 0 rfl) ?_
      refine gf_X7_now E hP w_256 dX7_whyNot_27 ?_
      refine lv_iload_n hx hb dX7_whyNot_30 rfl (lv_at hl 1 rfl) ?_
      refine lv_iload_n hx hb dX7_whyNot_31 rfl (lv_at hl 2 rfl) ?_
      refine lv_iconst (v := 0) hx hb dX7_whyNot_32 (by decide) ?_
      refine ob_e hf (fun r_33 M_33 hq hf => ?_)
      refine cv_X5_reasonAgainst E hP hS pg1 hq w_607 ⟨Nat.le_of_ble_eq_true rfl, Nat.le_of_ble_eq_true rfl⟩ hl (Nat.le_of_ble_eq_true rfl) dX7_whyNot_33 ⟨Nat.le_of_ble_eq_true rfl, Nat.le_of_ble_eq_true rfl⟩ (fun H locs hP hS => ?_)
      exact en_i hf hx hb hr rfl hlocks hP hS dX7_whyNot_36
    · have hf := if_t hf hc
      exact w_X7_whyNot_b23 E hf hP hS (lv_sub hl [] rfl)
theorem c_X7_whyNot (l : Launch) {G : GG} {sz : Nat} {ns : Nat} {x1 : Int32} {x2 : Int32} {M : Mem} {r : Int32} {M' : Mem} (hf : f_X7_whyNot x1 x2 M = some (r, M')) : CtI l yX7_whyNot cX7_whyNot 3 (some .int) rm_X7_whyNot [.ref (adC G 0 0), .int x1, .int x2] G (AC G) (XC G ns) sz M r (XC G ns) sz M' := by
  refine Ct_of (by decide) (Nat.le_of_ble_eq_true rfl) (fun p e s m below meth c ls hx hb hr hlocks hml hown hts hK hP hl => ?_)
  exact w_X7_whyNot ⟨hx, hb, hr, hlocks, hml, hown, hts, hK⟩ hf hP va_S.rf hl
set_option maxRecDepth 100000 in
theorem cv_X7_whyNot {p : Program} {l : Launch} {e : Env} {R : Room} {s : State} {m : MethodId} {args : Array Value} {below : List Frame} {meth : Method} {c : Code} {H : Heap} {locs : List Loc} {cells slots : Nat} {Q : State → Prop} {cc : ByteArray} {pc nL index : Nat} {ret : Option FieldType} {own : String} {ls : Array Slot} {rest : List Value} {l' : List (Nat × Value)} {G : GG} {sz : Nat} {ns : Nat} {M : Mem} (E : Cx p s m args meth c cc ret nL own G) (hP : PW G (AC G) (XC G ns) sz M s H) (hS : va_S (AC G) s.heap H locs) {x1 : Int32} {x2 : Int32} {r : Int32} {M' : Mem} (hq : f_X7_whyNot x1 x2 M = some (r, M')) (w1 : Cond.methodLink own index yX7_whyNot ∈ lw_all) (hR : 5 ≤ R.frames ∧ 124 ≤ R.locals) (hl : lv_has ls nL l') (hrest : (rest.map fun v => v.category).sum ≤ 8) (hdg : decode cc pc = .ok (.invokevirtual index, 3)) (hcs : cells ≤ R.cells ∧ slots ≤ R.slots)
    (kk : ∀ (H1 : Heap) (locs1 : List Loc), PW G (AC G) (XC G ns) sz M' s H1 → va_S (AC G) s.heap H1 locs1 → W p l e R s m args below meth c H1 locs1 cells slots Q (F0 m (pc + 3) ls (.int r :: rest))) : W p l e R s m args below meth c H locs cells slots Q (F0 m pc ls (.int x2 :: .int x1 :: .ref (adC G 0 0) :: rest)) := by
  obtain ⟨hx, hb, hr, hlocks, hml, hown, hts, hK⟩ := E
  exact kc_i (kc_runV (na := 2) (q := (RX7, TX7, 6)) hx hb hml hts hown hK hP 0 0 (dm0 (by decide)) rfl rfl rfl (c_X7_whyNot l hq) w1 w_604 w_605 w_1 w_606 (by decide +kernel) hR rfl hl rfl hrest hdg hcs) hS kk
/-! X7_strikers -/
abbrev rm_X7_strikers : Room := { frames := 3, cells := 0, slots := 0, locals := 65 }
def f_X7_strikers_b35 (L4 : Int32 → Int32 → Mem → Option (Int32 × Mem)) (x1 : Int32) (x2 : Int32) (M : Mem) : Option (Int32 × Mem) :=
lt (x2 + 1) fun x2_35 =>
L4 x1 x2_35 M
def f_X7_strikers_b4 : Nat → Int32 → Int32 → Mem → Option (Int32 × Mem)
  | 0 => fun _ _ _ => none
  | fu + 1 => fun x1 x2 M =>
(if (M 1 2 0) ≤ x2 then
  some (x1, M)
else
  ob (f_X5_isStriking 1 x2 M) fun r_23 M_23 =>
  (if r_23 = 0 then
    f_X7_strikers_b35 (f_X7_strikers_b4 fu) x1 x2 M_23
  else
    lt ((x1 ||| (1 <<< (x2 &&& 31)))) fun x1_34 =>
    f_X7_strikers_b35 (f_X7_strikers_b4 fu) x1_34 x2 M_23))
def f_X7_strikers (M : Mem) : Option (Int32 × Mem) :=
f_X7_strikers_b4 1000 0 0 M
set_option maxHeartbeats 4000000 in
set_option maxRecDepth 100000 in
theorem w_X7_strikers_b35 {p : Program} {l : Launch} {e : Env} {s : State} {m : MethodId} {args : Array Value} {below : List Frame} {meth : Method} {c : Code} {G : GG} {sz : Nat} {ns : Nat} {r : Int32} {M' : Mem} (E : Cx p s m args meth c cX7_strikers (some .int) 3 RX7 G) {L4 : Int32 → Int32 → Mem → Option (Int32 × Mem)} (hL4 : ∀ (x1 : Int32) (x2 : Int32) (M : Mem) (H : Heap) (locs : List Loc) (ls : Array Slot), L4 x1 x2 M = some (r, M') → PW G (AC G) (XC G ns) sz M s H → va_S (AC G) s.heap H locs → lv_has ls 3 [(0, .ref (adC G 0 0)), (1, .int x1), (2, .int x2)] → W p l e rm_X7_strikers s m args below meth c H locs 0 0 (MQ below (va_Qi (fun (r2 : Int32) (_ : Unit) => r2 = r) (fun _ t => PW G (AC G) (XC G ns) sz M' t t.heap) (AC G)) args s 0 0 (AC G)) (F0 m 4 ls [])) {x1 : Int32} {x2 : Int32} {M : Mem} {H : Heap} {locs : List Loc} {ls : Array Slot} (hf : f_X7_strikers_b35 L4 x1 x2 M = some (r, M')) (hP : PW G (AC G) (XC G ns) sz M s H) (hS : va_S (AC G) s.heap H locs) (hl : lv_has ls 3 [(0, .ref (adC G 0 0)), (1, .int x1), (2, .int x2)]) : W p l e rm_X7_strikers s m args below meth c H locs 0 0 (MQ below (va_Qi (fun (r2 : Int32) (_ : Unit) => r2 = r) (fun _ t => PW G (AC G) (XC G ns) sz M' t t.heap) (AC G)) args s 0 0 (AC G)) (F0 m 35 ls []) := by
  obtain ⟨hx, hb, hr, hlocks, hml, hown, hts, hK⟩ := id E
  unfold f_X7_strikers_b35 at hf
  refine lt_e hf (fun x2_35 hx2_35 hf => ?_)
  refine lv_iinc (v := x2_35) (lv' := [(2, .int x2_35), (0, .ref (adC G 0 0)), (1, .int x1)]) hx hb dX7_strikers_35 hl (k := 2) rfl (by rw [hx2_35]; rfl) (by decide) rfl (fun ls hl => ?_)
  refine lv_goto (tgt := 4) hx hb dX7_strikers_38 (by decide) ?_
  exact hL4 _ _ _ _ _ _ hf hP hS (lv_sub hl [1, 2, 0] rfl)
set_option maxHeartbeats 4000000 in
set_option maxRecDepth 100000 in
theorem w_X7_strikers_b4 {p : Program} {l : Launch} {e : Env} {s : State} {m : MethodId} {args : Array Value} {below : List Frame} {meth : Method} {c : Code} {G : GG} {sz : Nat} {ns : Nat} {r : Int32} {M' : Mem} (E : Cx p s m args meth c cX7_strikers (some .int) 3 RX7 G) : ∀ fu : Nat, ∀ (x1 : Int32) (x2 : Int32) (M : Mem) (H : Heap) (locs : List Loc) (ls : Array Slot), f_X7_strikers_b4 fu x1 x2 M = some (r, M') → PW G (AC G) (XC G ns) sz M s H → va_S (AC G) s.heap H locs → lv_has ls 3 [(0, .ref (adC G 0 0)), (1, .int x1), (2, .int x2)] → W p l e rm_X7_strikers s m args below meth c H locs 0 0 (MQ below (va_Qi (fun (r2 : Int32) (_ : Unit) => r2 = r) (fun _ t => PW G (AC G) (XC G ns) sz M' t t.heap) (AC G)) args s 0 0 (AC G)) (F0 m 4 ls []) := by
  obtain ⟨hx, hb, hr, hlocks, hml, hown, hts, hK⟩ := id E
  intro fu
  induction fu with
  | zero => intro x1 x2 M H locs ls hf hP hS hl; cases hf
  | succ fu ih =>
    intro x1 x2 M H locs ls hf hP hS hl
    rw [f_X7_strikers_b4.eq_2] at hf
    refine lv_iload_n hx hb dX7_strikers_4 rfl (lv_at hl 2 rfl) ?_
    refine lv_aload_n hx hb dX7_strikers_5 rfl (lv_at hl 0 rfl) ?_
    refine gf_X7_now E hP w_256 dX7_strikers_6 ?_
    refine gf_X5_pens E hP pg1 w_137 dX7_strikers_9 ?_
    refine gf_X4_many E hP pg1 w_41 dX7_strikers_12 ?_
    refine lv_icmp_ge (tgt := 41) hx hb dX7_strikers_15 (by decide) (fun hc => ?_) (fun hc => ?_)
    · have hf := if_t hf hc
      refine lv_iload_n hx hb dX7_strikers_41 rfl (lv_at hl 1 rfl) ?_
      exact en_i hf hx hb hr rfl hlocks hP hS dX7_strikers_42
    · have hf := if_f hf hc
      refine lv_aload_n hx hb dX7_strikers_18 rfl (lv_at hl 0 rfl) ?_
      refine gf_X7_now E hP w_256 dX7_strikers_19 ?_
      refine lv_iload_n hx hb dX7_strikers_22 rfl (lv_at hl 2 rfl) ?_
      refine ob_e hf (fun r_23 M_23 hq hf => ?_)
      refine cv_X5_isStriking E hP hS pg1 hq w_466 ⟨Nat.le_of_ble_eq_true rfl, Nat.le_of_ble_eq_true rfl⟩ hl (Nat.le_of_ble_eq_true rfl) dX7_strikers_23 ⟨Nat.le_of_ble_eq_true rfl, Nat.le_of_ble_eq_true rfl⟩ (fun H locs hP hS => ?_)
      refine lv_if_eq (tgt := 35) hx hb dX7_strikers_26 (by decide) (fun hc => ?_) (fun hc => ?_)
      · have hf := if_t hf hc
        exact w_X7_strikers_b35 E ih hf hP hS (lv_sub hl [0, 1, 2] rfl)
      · have hf := if_f hf hc
        refine lv_iload_n hx hb dX7_strikers_29 rfl (lv_at hl 1 rfl) ?_
        refine lv_iconst (v := 1) hx hb dX7_strikers_30 (by decide) ?_
        refine lv_iload_n hx hb dX7_strikers_31 rfl (lv_at hl 2 rfl) ?_
        refine lv_ishl hx hb dX7_strikers_32 ?_
        refine lv_ior hx hb dX7_strikers_33 ?_
        refine lt_e hf (fun x1_34 hx1_34 hf => ?_)
        refine kr_nm hx1_34 ?_
        refine lv_istore_n (lv' := [(1, .int x1_34), (0, .ref (adC G 0 0)), (2, .int x2)]) hx hb dX7_strikers_34 rfl hl (by decide) rfl (fun ls hl => ?_)
        exact w_X7_strikers_b35 E ih hf hP hS (lv_sub hl [1, 0, 2] rfl)
set_option maxHeartbeats 4000000 in
set_option maxRecDepth 100000 in
theorem w_X7_strikers {p : Program} {l : Launch} {e : Env} {s : State} {m : MethodId} {args : Array Value} {below : List Frame} {meth : Method} {c : Code} {G : GG} {sz : Nat} {ns : Nat} {r : Int32} {M' : Mem} (E : Cx p s m args meth c cX7_strikers (some .int) 3 RX7 G) {M : Mem} {H : Heap} {locs : List Loc} {ls : Array Slot} (hf : f_X7_strikers M = some (r, M')) (hP : PW G (AC G) (XC G ns) sz M s H) (hS : va_S (AC G) s.heap H locs) (hl : lv_has ls 3 [(0, .ref (adC G 0 0))]) : W p l e rm_X7_strikers s m args below meth c H locs 0 0 (MQ below (va_Qi (fun (r2 : Int32) (_ : Unit) => r2 = r) (fun _ t => PW G (AC G) (XC G ns) sz M' t t.heap) (AC G)) args s 0 0 (AC G)) (F0 m 0 ls []) := by
  obtain ⟨hx, hb, hr, hlocks, hml, hown, hts, hK⟩ := id E
  unfold f_X7_strikers at hf
  refine lv_iconst (v := 0) hx hb dX7_strikers_0 (by decide) ?_
  refine lv_istore_n (lv' := [(1, .int 0), (0, .ref (adC G 0 0))]) hx hb dX7_strikers_1 rfl hl (by decide) rfl (fun ls hl => ?_)
  refine lv_iconst (v := 0) hx hb dX7_strikers_2 (by decide) ?_
  refine lv_istore_n (lv' := [(2, .int 0), (1, .int 0), (0, .ref (adC G 0 0))]) hx hb dX7_strikers_3 rfl hl (by decide) rfl (fun ls hl => ?_)
  exact w_X7_strikers_b4 E 1000 _ _ _ _ _ _ hf hP hS (lv_sub hl [2, 1, 0] rfl)
theorem c_X7_strikers (l : Launch) {G : GG} {sz : Nat} {ns : Nat} {M : Mem} {r : Int32} {M' : Mem} (hf : f_X7_strikers M = some (r, M')) : CtI l yX7_strikers cX7_strikers 3 (some .int) rm_X7_strikers [.ref (adC G 0 0)] G (AC G) (XC G ns) sz M r (XC G ns) sz M' := by
  refine Ct_of (by decide) (Nat.le_of_ble_eq_true rfl) (fun p e s m below meth c ls hx hb hr hlocks hml hown hts hK hP hl => ?_)
  exact w_X7_strikers ⟨hx, hb, hr, hlocks, hml, hown, hts, hK⟩ hf hP va_S.rf hl
set_option maxRecDepth 100000 in
theorem cv_X7_strikers {p : Program} {l : Launch} {e : Env} {R : Room} {s : State} {m : MethodId} {args : Array Value} {below : List Frame} {meth : Method} {c : Code} {H : Heap} {locs : List Loc} {cells slots : Nat} {Q : State → Prop} {cc : ByteArray} {pc nL index : Nat} {ret : Option FieldType} {own : String} {ls : Array Slot} {rest : List Value} {l' : List (Nat × Value)} {G : GG} {sz : Nat} {ns : Nat} {M : Mem} (E : Cx p s m args meth c cc ret nL own G) (hP : PW G (AC G) (XC G ns) sz M s H) (hS : va_S (AC G) s.heap H locs) {r : Int32} {M' : Mem} (hq : f_X7_strikers M = some (r, M')) (w1 : Cond.methodLink own index yX7_strikers ∈ lw_all) (hR : 4 ≤ R.frames ∧ 87 ≤ R.locals) (hl : lv_has ls nL l') (hrest : (rest.map fun v => v.category).sum ≤ 8) (hdg : decode cc pc = .ok (.invokevirtual index, 3)) (hcs : cells ≤ R.cells ∧ slots ≤ R.slots)
    (kk : ∀ (H1 : Heap) (locs1 : List Loc), PW G (AC G) (XC G ns) sz M' s H1 → va_S (AC G) s.heap H1 locs1 → W p l e R s m args below meth c H1 locs1 cells slots Q (F0 m (pc + 3) ls (.int r :: rest))) : W p l e R s m args below meth c H locs cells slots Q (F0 m pc ls (.ref (adC G 0 0) :: rest)) := by
  obtain ⟨hx, hb, hr, hlocks, hml, hown, hts, hK⟩ := E
  exact kc_i (kc_runV (na := 0) (q := (RX7, TX7, 6)) hx hb hml hts hown hK hP 0 0 (dm0 (by decide)) rfl rfl rfl (c_X7_strikers l hq) w1 w_492 w_493 w_1 w_494 (by decide +kernel) hR rfl hl rfl hrest hdg hcs) hS kk
/-! X7_room -/
abbrev rm_X7_room : Room := { frames := 2, cells := 0, slots := 0, locals := 44 }
def f_X7_room (x1 : Int32) (M : Mem) : Option (Int32 × Mem) :=
ob (f_X4_has 1 x1 M) fun r_8 M_8 =>
(if r_8 = 0 then
  some ((-1000001), M_8)
else
  ob (f_X4_isAway 1 x1 M_8) fun r_25 M_25 =>
  (if r_25 = 0 then
    ob (f_X4_leastDrawnBut 1 x1 M_25) fun r_42 M_42 =>
    (if r_42 = (-1) then
      some ((-1000004), M_42)
    else
      ck (ibd x1 5) <|
      some (((r_42 + (M_42 1 1 (ix 0))) - (M_42 1 7 (ix x1))), M_42))
  else
    some ((-1000002), M_25)))
set_option maxHeartbeats 4000000 in
set_option maxRecDepth 100000 in
theorem w_X7_room {p : Program} {l : Launch} {e : Env} {s : State} {m : MethodId} {args : Array Value} {below : List Frame} {meth : Method} {c : Code} {G : GG} {sz : Nat} {ns : Nat} {r : Int32} {M' : Mem} (E : Cx p s m args meth c cX7_room (some .int) 3 RX7 G) {x1 : Int32} {M : Mem} {H : Heap} {locs : List Loc} {ls : Array Slot} (hf : f_X7_room x1 M = some (r, M')) (hP : PW G (AC G) (XC G ns) sz M s H) (hS : va_S (AC G) s.heap H locs) (hl : lv_has ls 3 [(0, .ref (adC G 0 0)), (1, .int x1)]) : W p l e rm_X7_room s m args below meth c H locs 0 0 (MQ below (va_Qi (fun (r2 : Int32) (_ : Unit) => r2 = r) (fun _ t => PW G (AC G) (XC G ns) sz M' t t.heap) (AC G)) args s 0 0 (AC G)) (F0 m 0 ls []) := by
  obtain ⟨hx, hb, hr, hlocks, hml, hown, hts, hK⟩ := id E
  unfold f_X7_room at hf
  refine lv_aload_n hx hb dX7_room_0 rfl (lv_at hl 0 rfl) ?_
  refine gf_X7_now E hP w_256 dX7_room_1 ?_
  refine gf_X5_pens E hP pg1 w_137 dX7_room_4 ?_
  refine lv_iload_n hx hb dX7_room_7 rfl (lv_at hl 1 rfl) ?_
  refine ob_e hf (fun r_8 M_8 hq hf => ?_)
  refine cv_X4_has E hP hS pg1 hq w_374 ⟨Nat.le_of_ble_eq_true rfl, Nat.le_of_ble_eq_true rfl⟩ hl (Nat.le_of_ble_eq_true rfl) dX7_room_8 ⟨Nat.le_of_ble_eq_true rfl, Nat.le_of_ble_eq_true rfl⟩ (fun H locs hP hS => ?_)
  refine lv_if_ne (tgt := 17) hx hb dX7_room_11 (by decide) (fun hc => ?_) (fun hc => ?_)
  · have hf := if_f hf hc
    refine lv_aload_n hx hb dX7_room_17 rfl (lv_at hl 0 rfl) ?_
    refine gf_X7_now E hP w_256 dX7_room_18 ?_
    refine gf_X5_pens E hP pg1 w_137 dX7_room_21 ?_
    refine lv_iload_n hx hb dX7_room_24 rfl (lv_at hl 1 rfl) ?_
    refine ob_e hf (fun r_25 M_25 hq hf => ?_)
    refine cv_X4_isAway E hP hS pg1 hq w_487 ⟨Nat.le_of_ble_eq_true rfl, Nat.le_of_ble_eq_true rfl⟩ hl (Nat.le_of_ble_eq_true rfl) dX7_room_25 ⟨Nat.le_of_ble_eq_true rfl, Nat.le_of_ble_eq_true rfl⟩ (fun H locs hP hS => ?_)
    refine lv_if_eq (tgt := 34) hx hb dX7_room_28 (by decide) (fun hc => ?_) (fun hc => ?_)
    · have hf := if_t hf hc
      refine lv_aload_n hx hb dX7_room_34 rfl (lv_at hl 0 rfl) ?_
      refine gf_X7_now E hP w_256 dX7_room_35 ?_
      refine gf_X5_pens E hP pg1 w_137 dX7_room_38 ?_
      refine lv_iload_n hx hb dX7_room_41 rfl (lv_at hl 1 rfl) ?_
      refine ob_e hf (fun r_42 M_42 hq hf => ?_)
      refine cv_X4_leastDrawnBut E hP hS pg1 hq w_488 ⟨Nat.le_of_ble_eq_true rfl, Nat.le_of_ble_eq_true rfl⟩ hl (Nat.le_of_ble_eq_true rfl) dX7_room_42 ⟨Nat.le_of_ble_eq_true rfl, Nat.le_of_ble_eq_true rfl⟩ (fun H locs hP hS => ?_)
      refine lv_istore_n (lv' := [(2, .int r_42), (0, .ref (adC G 0 0)), (1, .int x1)]) hx hb dX7_room_45 rfl hl (by decide) rfl (fun ls hl => ?_)
      refine lv_iload_n hx hb dX7_room_46 rfl (lv_at hl 0 rfl) ?_
      refine lv_iconst (v := (-1)) hx hb dX7_room_47 (by decide) ?_
      refine lv_icmp_ne (tgt := 54) hx hb dX7_room_48 (by decide) (fun hc => ?_) (fun hc => ?_)
      · have hf := if_f hf hc
        refine lv_iload_n hx hb dX7_room_54 rfl (lv_at hl 0 rfl) ?_
        refine lv_aload_n hx hb dX7_room_55 rfl (lv_at hl 1 rfl) ?_
        refine gf_X7_now E hP w_256 dX7_room_56 ?_
        refine gf_X5_settings E hP pg1 w_135 dX7_room_59 ?_
        refine lv_iconst (v := 0) hx hb dX7_room_62 (by decide) ?_
        refine la_P1 E hP pg1 (by decide) dX7_room_63 ?_
        refine lv_iadd hx hb dX7_room_64 ?_
        refine lv_aload_n hx hb dX7_room_65 rfl (lv_at hl 1 rfl) ?_
        refine gf_X7_now E hP w_256 dX7_room_66 ?_
        refine gf_X5_pens E hP pg1 w_137 dX7_room_69 ?_
        refine gf_X4_drawn E hP pg1 w_55 dX7_room_72 ?_
        refine lv_iload_n hx hb dX7_room_75 rfl (lv_at hl 2 rfl) ?_
        refine ck_e hf (fun hi hf => ?_)
        refine la_P7 E hP pg1 hi dX7_room_76 ?_
        refine lv_isub hx hb dX7_room_77 ?_
        exact en_i hf hx hb hr rfl hlocks hP hS dX7_room_78
      · have hf := if_t hf hc
        refine lv_ldc (v := (-1000004)) hx hb hown (hts _ w_439) dX7_room_51 ?_
        exact en_i hf hx hb hr rfl hlocks hP hS dX7_room_53
    · have hf := if_f hf hc
      refine lv_ldc (v := (-1000002)) hx hb hown (hts _ w_327) dX7_room_31 ?_
      exact en_i hf hx hb hr rfl hlocks hP hS dX7_room_33
  · have hf := if_t hf hc
    refine lv_ldc (v := (-1000001)) hx hb hown (hts _ w_286) dX7_room_14 ?_
    exact en_i hf hx hb hr rfl hlocks hP hS dX7_room_16
theorem c_X7_room (l : Launch) {G : GG} {sz : Nat} {ns : Nat} {x1 : Int32} {M : Mem} {r : Int32} {M' : Mem} (hf : f_X7_room x1 M = some (r, M')) : CtI l yX7_room cX7_room 3 (some .int) rm_X7_room [.ref (adC G 0 0), .int x1] G (AC G) (XC G ns) sz M r (XC G ns) sz M' := by
  refine Ct_of (by decide) (Nat.le_of_ble_eq_true rfl) (fun p e s m below meth c ls hx hb hr hlocks hml hown hts hK hP hl => ?_)
  exact w_X7_room ⟨hx, hb, hr, hlocks, hml, hown, hts, hK⟩ hf hP va_S.rf hl
set_option maxRecDepth 100000 in
theorem cv_X7_room {p : Program} {l : Launch} {e : Env} {R : Room} {s : State} {m : MethodId} {args : Array Value} {below : List Frame} {meth : Method} {c : Code} {H : Heap} {locs : List Loc} {cells slots : Nat} {Q : State → Prop} {cc : ByteArray} {pc nL index : Nat} {ret : Option FieldType} {own : String} {ls : Array Slot} {rest : List Value} {l' : List (Nat × Value)} {G : GG} {sz : Nat} {ns : Nat} {M : Mem} (E : Cx p s m args meth c cc ret nL own G) (hP : PW G (AC G) (XC G ns) sz M s H) (hS : va_S (AC G) s.heap H locs) {x1 : Int32} {r : Int32} {M' : Mem} (hq : f_X7_room x1 M = some (r, M')) (w1 : Cond.methodLink own index yX7_room ∈ lw_all) (hR : 3 ≤ R.frames ∧ 66 ≤ R.locals) (hl : lv_has ls nL l') (hrest : (rest.map fun v => v.category).sum ≤ 8) (hdg : decode cc pc = .ok (.invokevirtual index, 3)) (hcs : cells ≤ R.cells ∧ slots ≤ R.slots)
    (kk : ∀ (H1 : Heap) (locs1 : List Loc), PW G (AC G) (XC G ns) sz M' s H1 → va_S (AC G) s.heap H1 locs1 → W p l e R s m args below meth c H1 locs1 cells slots Q (F0 m (pc + 3) ls (.int r :: rest))) : W p l e R s m args below meth c H locs cells slots Q (F0 m pc ls (.int x1 :: .ref (adC G 0 0) :: rest)) := by
  obtain ⟨hx, hb, hr, hlocks, hml, hown, hts, hK⟩ := E
  exact kc_i (kc_runV (na := 1) (q := (RX7, TX7, 6)) hx hb hml hts hown hK hP 0 0 (dm0 (by decide)) rfl rfl rfl (c_X7_room l hq) w1 w_484 w_485 w_1 w_486 (by decide +kernel) hR rfl hl rfl hrest hdg hcs) hS kk
/-! X7_spread -/
abbrev rm_X7_spread : Room := { frames := 2, cells := 0, slots := 0, locals := 57 }
def f_X7_spread (M : Mem) : Option (Int32 × Mem) :=
ob (f_X4_spreadOf 1 1 7 5 M) fun r_17 M_17 =>
some (r_17, M_17)
set_option maxHeartbeats 4000000 in
set_option maxRecDepth 100000 in
theorem w_X7_spread {p : Program} {l : Launch} {e : Env} {s : State} {m : MethodId} {args : Array Value} {below : List Frame} {meth : Method} {c : Code} {G : GG} {sz : Nat} {ns : Nat} {r : Int32} {M' : Mem} (E : Cx p s m args meth c cX7_spread (some .int) 1 RX7 G) {M : Mem} {H : Heap} {locs : List Loc} {ls : Array Slot} (hf : f_X7_spread M = some (r, M')) (hP : PW G (AC G) (XC G ns) sz M s H) (hS : va_S (AC G) s.heap H locs) (hl : lv_has ls 1 [(0, .ref (adC G 0 0))]) : W p l e rm_X7_spread s m args below meth c H locs 0 0 (MQ below (va_Qi (fun (r2 : Int32) (_ : Unit) => r2 = r) (fun _ t => PW G (AC G) (XC G ns) sz M' t t.heap) (AC G)) args s 0 0 (AC G)) (F0 m 0 ls []) := by
  obtain ⟨hx, hb, hr, hlocks, hml, hown, hts, hK⟩ := id E
  unfold f_X7_spread at hf
  refine lv_aload_n hx hb dX7_spread_0 rfl (lv_at hl 0 rfl) ?_
  refine gf_X7_now E hP w_256 dX7_spread_1 ?_
  refine gf_X5_pens E hP pg1 w_137 dX7_spread_4 ?_
  refine lv_aload_n hx hb dX7_spread_7 rfl (lv_at hl 0 rfl) ?_
  refine gf_X7_now E hP w_256 dX7_spread_8 ?_
  refine gf_X5_pens E hP pg1 w_137 dX7_spread_11 ?_
  refine gf_X4_drawn E hP pg1 w_55 dX7_spread_14 ?_
  refine ob_e hf (fun r_17 M_17 hq hf => ?_)
  refine cv_X4_spreadOf E hP hS pg1 (dmP pg1 (by decide)) (ea_P7 pg1) hq w_499 ⟨Nat.le_of_ble_eq_true rfl, Nat.le_of_ble_eq_true rfl⟩ hl (Nat.le_of_ble_eq_true rfl) dX7_spread_17 ⟨Nat.le_of_ble_eq_true rfl, Nat.le_of_ble_eq_true rfl⟩ (fun H locs hP hS => ?_)
  exact en_i hf hx hb hr rfl hlocks hP hS dX7_spread_20
theorem c_X7_spread (l : Launch) {G : GG} {sz : Nat} {ns : Nat} {M : Mem} {r : Int32} {M' : Mem} (hf : f_X7_spread M = some (r, M')) : CtI l yX7_spread cX7_spread 1 (some .int) rm_X7_spread [.ref (adC G 0 0)] G (AC G) (XC G ns) sz M r (XC G ns) sz M' := by
  refine Ct_of (by decide) (Nat.le_of_ble_eq_true rfl) (fun p e s m below meth c ls hx hb hr hlocks hml hown hts hK hP hl => ?_)
  exact w_X7_spread ⟨hx, hb, hr, hlocks, hml, hown, hts, hK⟩ hf hP va_S.rf hl
set_option maxRecDepth 100000 in
theorem cv_X7_spread {p : Program} {l : Launch} {e : Env} {R : Room} {s : State} {m : MethodId} {args : Array Value} {below : List Frame} {meth : Method} {c : Code} {H : Heap} {locs : List Loc} {cells slots : Nat} {Q : State → Prop} {cc : ByteArray} {pc nL index : Nat} {ret : Option FieldType} {own : String} {ls : Array Slot} {rest : List Value} {l' : List (Nat × Value)} {G : GG} {sz : Nat} {ns : Nat} {M : Mem} (E : Cx p s m args meth c cc ret nL own G) (hP : PW G (AC G) (XC G ns) sz M s H) (hS : va_S (AC G) s.heap H locs) {r : Int32} {M' : Mem} (hq : f_X7_spread M = some (r, M')) (w1 : Cond.methodLink own index yX7_spread ∈ lw_all) (hR : 3 ≤ R.frames ∧ 77 ≤ R.locals) (hl : lv_has ls nL l') (hrest : (rest.map fun v => v.category).sum ≤ 8) (hdg : decode cc pc = .ok (.invokevirtual index, 3)) (hcs : cells ≤ R.cells ∧ slots ≤ R.slots)
    (kk : ∀ (H1 : Heap) (locs1 : List Loc), PW G (AC G) (XC G ns) sz M' s H1 → va_S (AC G) s.heap H1 locs1 → W p l e R s m args below meth c H1 locs1 cells slots Q (F0 m (pc + 3) ls (.int r :: rest))) : W p l e R s m args below meth c H locs cells slots Q (F0 m pc ls (.ref (adC G 0 0) :: rest)) := by
  obtain ⟨hx, hb, hr, hlocks, hml, hown, hts, hK⟩ := E
  exact kc_i (kc_runV (na := 0) (q := (RX7, TX7, 6)) hx hb hml hts hown hK hP 0 0 (dm0 (by decide)) rfl rfl rfl (c_X7_spread l hq) w1 w_496 w_497 w_1 w_498 (by decide +kernel) hR rfl hl rfl hrest hdg hcs) hS kk
/-! X7_touch -/
abbrev rm_X7_touch : Room := { frames := 2, cells := 0, slots := 0, locals := 43 }
def f_X7_touch_b28 (M : Mem) : Option (Int32 × Mem) :=
some ((-1000001), M)
def f_X7_touch_b56 (s0 : Int32) (M : Mem) : Option (Int32 × Mem) :=
ob (f_X7_asBit s0 M) fun r_56 M_56 =>
some (r_56, M_56)
def f_X7_touch_b51 (M : Mem) : Option (Int32 × Mem) :=
f_X7_touch_b56 1 M
def f_X7_touch (x1 : Int32) (x2 : Int32) (M : Mem) : Option (Int32 × Mem) :=
ob (f_X2_has 1 x1 M) fun r_8 M_8 =>
(if r_8 = 0 then
  f_X7_touch_b28 M_8
else
  ob (f_X2_has 1 x2 M_8) fun r_22 M_22 =>
  (if r_22 = 0 then
    f_X7_touch_b28 M_22
  else
    (if x1 = x2 then
      f_X7_touch_b51 M_22
    else
      ob (f_X2_isTouching 1 x1 x2 M_22) fun r_45 M_45 =>
      (if r_45 = 0 then
        f_X7_touch_b56 0 M_45
      else
        f_X7_touch_b51 M_45))))
set_option maxHeartbeats 4000000 in
set_option maxRecDepth 100000 in
theorem w_X7_touch_b28 {p : Program} {l : Launch} {e : Env} {s : State} {m : MethodId} {args : Array Value} {below : List Frame} {meth : Method} {c : Code} {G : GG} {sz : Nat} {ns : Nat} {r : Int32} {M' : Mem} (E : Cx p s m args meth c cX7_touch (some .int) 3 RX7 G) {M : Mem} {H : Heap} {locs : List Loc} {ls : Array Slot} (hf : f_X7_touch_b28 M = some (r, M')) (hP : PW G (AC G) (XC G ns) sz M s H) (hS : va_S (AC G) s.heap H locs) (hl : lv_has ls 3 []) : W p l e rm_X7_touch s m args below meth c H locs 0 0 (MQ below (va_Qi (fun (r2 : Int32) (_ : Unit) => r2 = r) (fun _ t => PW G (AC G) (XC G ns) sz M' t t.heap) (AC G)) args s 0 0 (AC G)) (F0 m 28 ls []) := by
  obtain ⟨hx, hb, hr, hlocks, hml, hown, hts, hK⟩ := id E
  unfold f_X7_touch_b28 at hf
  refine lv_ldc (v := (-1000001)) hx hb hown (hts _ w_286) dX7_touch_28 ?_
  exact en_i hf hx hb hr rfl hlocks hP hS dX7_touch_30
set_option maxHeartbeats 4000000 in
set_option maxRecDepth 100000 in
theorem w_X7_touch_b56 {p : Program} {l : Launch} {e : Env} {s : State} {m : MethodId} {args : Array Value} {below : List Frame} {meth : Method} {c : Code} {G : GG} {sz : Nat} {ns : Nat} {r : Int32} {M' : Mem} (E : Cx p s m args meth c cX7_touch (some .int) 3 RX7 G) {s0 : Int32} {M : Mem} {H : Heap} {locs : List Loc} {ls : Array Slot} (hf : f_X7_touch_b56 s0 M = some (r, M')) (hP : PW G (AC G) (XC G ns) sz M s H) (hS : va_S (AC G) s.heap H locs) (hl : lv_has ls 3 []) : W p l e rm_X7_touch s m args below meth c H locs 0 0 (MQ below (va_Qi (fun (r2 : Int32) (_ : Unit) => r2 = r) (fun _ t => PW G (AC G) (XC G ns) sz M' t t.heap) (AC G)) args s 0 0 (AC G)) (F0 m 56 ls [.int s0]) := by
  obtain ⟨hx, hb, hr, hlocks, hml, hown, hts, hK⟩ := id E
  unfold f_X7_touch_b56 at hf
  refine ob_e hf (fun r_56 M_56 hq hf => ?_)
  refine cv_X7_asBit E hP hS hq w_465 ⟨Nat.le_of_ble_eq_true rfl, Nat.le_of_ble_eq_true rfl⟩ hl (Nat.le_of_ble_eq_true rfl) dX7_touch_56 ⟨Nat.le_of_ble_eq_true rfl, Nat.le_of_ble_eq_true rfl⟩ (fun H locs hP hS => ?_)
  exact en_i hf hx hb hr rfl hlocks hP hS dX7_touch_59
set_option maxHeartbeats 4000000 in
set_option maxRecDepth 100000 in
theorem w_X7_touch_b51 {p : Program} {l : Launch} {e : Env} {s : State} {m : MethodId} {args : Array Value} {below : List Frame} {meth : Method} {c : Code} {G : GG} {sz : Nat} {ns : Nat} {r : Int32} {M' : Mem} (E : Cx p s m args meth c cX7_touch (some .int) 3 RX7 G) {M : Mem} {H : Heap} {locs : List Loc} {ls : Array Slot} (hf : f_X7_touch_b51 M = some (r, M')) (hP : PW G (AC G) (XC G ns) sz M s H) (hS : va_S (AC G) s.heap H locs) (hl : lv_has ls 3 []) : W p l e rm_X7_touch s m args below meth c H locs 0 0 (MQ below (va_Qi (fun (r2 : Int32) (_ : Unit) => r2 = r) (fun _ t => PW G (AC G) (XC G ns) sz M' t t.heap) (AC G)) args s 0 0 (AC G)) (F0 m 51 ls []) := by
  obtain ⟨hx, hb, hr, hlocks, hml, hown, hts, hK⟩ := id E
  unfold f_X7_touch_b51 at hf
  refine lv_iconst (v := 1) hx hb dX7_touch_51 (by decide) ?_
  refine lv_goto (tgt := 56) hx hb dX7_touch_52 (by decide) ?_
  exact w_X7_touch_b56 E hf hP hS (lv_sub hl [] rfl)
set_option maxHeartbeats 4000000 in
set_option maxRecDepth 100000 in
theorem w_X7_touch {p : Program} {l : Launch} {e : Env} {s : State} {m : MethodId} {args : Array Value} {below : List Frame} {meth : Method} {c : Code} {G : GG} {sz : Nat} {ns : Nat} {r : Int32} {M' : Mem} (E : Cx p s m args meth c cX7_touch (some .int) 3 RX7 G) {x1 : Int32} {x2 : Int32} {M : Mem} {H : Heap} {locs : List Loc} {ls : Array Slot} (hf : f_X7_touch x1 x2 M = some (r, M')) (hP : PW G (AC G) (XC G ns) sz M s H) (hS : va_S (AC G) s.heap H locs) (hl : lv_has ls 3 [(0, .ref (adC G 0 0)), (1, .int x1), (2, .int x2)]) : W p l e rm_X7_touch s m args below meth c H locs 0 0 (MQ below (va_Qi (fun (r2 : Int32) (_ : Unit) => r2 = r) (fun _ t => PW G (AC G) (XC G ns) sz M' t t.heap) (AC G)) args s 0 0 (AC G)) (F0 m 0 ls []) := by
  obtain ⟨hx, hb, hr, hlocks, hml, hown, hts, hK⟩ := id E
  unfold f_X7_touch at hf
  refine lv_aload_n hx hb dX7_touch_0 rfl (lv_at hl 0 rfl) ?_
  refine gf_X7_now E hP w_256 dX7_touch_1 ?_
  refine gf_X5_lines E hP pg1 w_139 dX7_touch_4 ?_
  refine lv_iload_n hx hb dX7_touch_7 rfl (lv_at hl 1 rfl) ?_
  refine ob_e hf (fun r_8 M_8 hq hf => ?_)
  refine cv_X2_has E hP hS pg1 hq w_513 ⟨Nat.le_of_ble_eq_true rfl, Nat.le_of_ble_eq_true rfl⟩ hl (Nat.le_of_ble_eq_true rfl) dX7_touch_8 ⟨Nat.le_of_ble_eq_true rfl, Nat.le_of_ble_eq_true rfl⟩ (fun H locs hP hS => ?_)
  refine lv_if_eq (tgt := 28) hx hb dX7_touch_11 (by decide) (fun hc => ?_) (fun hc => ?_)
  · have hf := if_t hf hc
    exact w_X7_touch_b28 E hf hP hS (lv_sub hl [] rfl)
  · have hf := if_f hf hc
    refine lv_aload_n hx hb dX7_touch_14 rfl (lv_at hl 0 rfl) ?_
    refine gf_X7_now E hP w_256 dX7_touch_15 ?_
    refine gf_X5_lines E hP pg1 w_139 dX7_touch_18 ?_
    refine lv_iload_n hx hb dX7_touch_21 rfl (lv_at hl 2 rfl) ?_
    refine ob_e hf (fun r_22 M_22 hq hf => ?_)
    refine cv_X2_has E hP hS pg1 hq w_513 ⟨Nat.le_of_ble_eq_true rfl, Nat.le_of_ble_eq_true rfl⟩ hl (Nat.le_of_ble_eq_true rfl) dX7_touch_22 ⟨Nat.le_of_ble_eq_true rfl, Nat.le_of_ble_eq_true rfl⟩ (fun H locs hP hS => ?_)
    refine lv_if_ne (tgt := 31) hx hb dX7_touch_25 (by decide) (fun hc => ?_) (fun hc => ?_)
    · have hf := if_f hf hc
      refine lv_iload_n hx hb dX7_touch_31 rfl (lv_at hl 1 rfl) ?_
      refine lv_iload_n hx hb dX7_touch_32 rfl (lv_at hl 2 rfl) ?_
      refine lv_icmp_eq (tgt := 51) hx hb dX7_touch_33 (by decide) (fun hc => ?_) (fun hc => ?_)
      · have hf := if_t hf hc
        exact w_X7_touch_b51 E hf hP hS (lv_sub hl [] rfl)
      · have hf := if_f hf hc
        refine lv_aload_n hx hb dX7_touch_36 rfl (lv_at hl 0 rfl) ?_
        refine gf_X7_now E hP w_256 dX7_touch_37 ?_
        refine gf_X5_lines E hP pg1 w_139 dX7_touch_40 ?_
        refine lv_iload_n hx hb dX7_touch_43 rfl (lv_at hl 1 rfl) ?_
        refine lv_iload_n hx hb dX7_touch_44 rfl (lv_at hl 2 rfl) ?_
        refine ob_e hf (fun r_45 M_45 hq hf => ?_)
        refine cv_X2_isTouching E hP hS pg1 hq w_533 ⟨Nat.le_of_ble_eq_true rfl, Nat.le_of_ble_eq_true rfl⟩ hl (Nat.le_of_ble_eq_true rfl) dX7_touch_45 ⟨Nat.le_of_ble_eq_true rfl, Nat.le_of_ble_eq_true rfl⟩ (fun H locs hP hS => ?_)
        refine lv_if_eq (tgt := 55) hx hb dX7_touch_48 (by decide) (fun hc => ?_) (fun hc => ?_)
        · have hf := if_t hf hc
          refine lv_iconst (v := 0) hx hb dX7_touch_55 (by decide) ?_
          exact w_X7_touch_b56 E hf hP hS (lv_sub hl [] rfl)
        · have hf := if_f hf hc
          exact w_X7_touch_b51 E hf hP hS (lv_sub hl [] rfl)
    · have hf := if_t hf hc
      exact w_X7_touch_b28 E hf hP hS (lv_sub hl [] rfl)
theorem c_X7_touch (l : Launch) {G : GG} {sz : Nat} {ns : Nat} {x1 : Int32} {x2 : Int32} {M : Mem} {r : Int32} {M' : Mem} (hf : f_X7_touch x1 x2 M = some (r, M')) : CtI l yX7_touch cX7_touch 3 (some .int) rm_X7_touch [.ref (adC G 0 0), .int x1, .int x2] G (AC G) (XC G ns) sz M r (XC G ns) sz M' := by
  refine Ct_of (by decide) (Nat.le_of_ble_eq_true rfl) (fun p e s m below meth c ls hx hb hr hlocks hml hown hts hK hP hl => ?_)
  exact w_X7_touch ⟨hx, hb, hr, hlocks, hml, hown, hts, hK⟩ hf hP va_S.rf hl
set_option maxRecDepth 100000 in
theorem cv_X7_touch {p : Program} {l : Launch} {e : Env} {R : Room} {s : State} {m : MethodId} {args : Array Value} {below : List Frame} {meth : Method} {c : Code} {H : Heap} {locs : List Loc} {cells slots : Nat} {Q : State → Prop} {cc : ByteArray} {pc nL index : Nat} {ret : Option FieldType} {own : String} {ls : Array Slot} {rest : List Value} {l' : List (Nat × Value)} {G : GG} {sz : Nat} {ns : Nat} {M : Mem} (E : Cx p s m args meth c cc ret nL own G) (hP : PW G (AC G) (XC G ns) sz M s H) (hS : va_S (AC G) s.heap H locs) {x1 : Int32} {x2 : Int32} {r : Int32} {M' : Mem} (hq : f_X7_touch x1 x2 M = some (r, M')) (w1 : Cond.methodLink own index yX7_touch ∈ lw_all) (hR : 3 ≤ R.frames ∧ 65 ≤ R.locals) (hl : lv_has ls nL l') (hrest : (rest.map fun v => v.category).sum ≤ 8) (hdg : decode cc pc = .ok (.invokevirtual index, 3)) (hcs : cells ≤ R.cells ∧ slots ≤ R.slots)
    (kk : ∀ (H1 : Heap) (locs1 : List Loc), PW G (AC G) (XC G ns) sz M' s H1 → va_S (AC G) s.heap H1 locs1 → W p l e R s m args below meth c H1 locs1 cells slots Q (F0 m (pc + 3) ls (.int r :: rest))) : W p l e R s m args below meth c H locs cells slots Q (F0 m pc ls (.int x2 :: .int x1 :: .ref (adC G 0 0) :: rest)) := by
  obtain ⟨hx, hb, hr, hlocks, hml, hown, hts, hK⟩ := E
  exact kc_i (kc_runV (na := 2) (q := (RX7, TX7, 6)) hx hb hml hts hown hK hP 0 0 (dm0 (by decide)) rfl rfl rfl (c_X7_touch l hq) w1 w_530 w_531 w_1 w_532 (by decide +kernel) hR rfl hl rfl hrest hdg hcs) hS kk
/-! X7_touching -/
abbrev rm_X7_touching : Room := { frames := 2, cells := 0, slots := 0, locals := 43 }
def f_X7_touching (x1 : Int32) (M : Mem) : Option (Int32 × Mem) :=
ob (f_X2_has 1 x1 M) fun r_8 M_8 =>
(if r_8 = 0 then
  some ((-1000001), M_8)
else
  ck (ibd x1 16) <|
  some ((M_8 1 16 (ix x1)), M_8))
set_option maxHeartbeats 4000000 in
set_option maxRecDepth 100000 in
theorem w_X7_touching {p : Program} {l : Launch} {e : Env} {s : State} {m : MethodId} {args : Array Value} {below : List Frame} {meth : Method} {c : Code} {G : GG} {sz : Nat} {ns : Nat} {r : Int32} {M' : Mem} (E : Cx p s m args meth c cX7_touching (some .int) 2 RX7 G) {x1 : Int32} {M : Mem} {H : Heap} {locs : List Loc} {ls : Array Slot} (hf : f_X7_touching x1 M = some (r, M')) (hP : PW G (AC G) (XC G ns) sz M s H) (hS : va_S (AC G) s.heap H locs) (hl : lv_has ls 2 [(0, .ref (adC G 0 0)), (1, .int x1)]) : W p l e rm_X7_touching s m args below meth c H locs 0 0 (MQ below (va_Qi (fun (r2 : Int32) (_ : Unit) => r2 = r) (fun _ t => PW G (AC G) (XC G ns) sz M' t t.heap) (AC G)) args s 0 0 (AC G)) (F0 m 0 ls []) := by
  obtain ⟨hx, hb, hr, hlocks, hml, hown, hts, hK⟩ := id E
  unfold f_X7_touching at hf
  refine lv_aload_n hx hb dX7_touching_0 rfl (lv_at hl 0 rfl) ?_
  refine gf_X7_now E hP w_256 dX7_touching_1 ?_
  refine gf_X5_lines E hP pg1 w_139 dX7_touching_4 ?_
  refine lv_iload_n hx hb dX7_touching_7 rfl (lv_at hl 1 rfl) ?_
  refine ob_e hf (fun r_8 M_8 hq hf => ?_)
  refine cv_X2_has E hP hS pg1 hq w_513 ⟨Nat.le_of_ble_eq_true rfl, Nat.le_of_ble_eq_true rfl⟩ hl (Nat.le_of_ble_eq_true rfl) dX7_touching_8 ⟨Nat.le_of_ble_eq_true rfl, Nat.le_of_ble_eq_true rfl⟩ (fun H locs hP hS => ?_)
  refine lv_if_ne (tgt := 17) hx hb dX7_touching_11 (by decide) (fun hc => ?_) (fun hc => ?_)
  · have hf := if_f hf hc
    refine lv_aload_n hx hb dX7_touching_17 rfl (lv_at hl 0 rfl) ?_
    refine gf_X7_now E hP w_256 dX7_touching_18 ?_
    refine gf_X5_lines E hP pg1 w_139 dX7_touching_21 ?_
    refine gf_X2_touchingSet E hP pg1 w_100 dX7_touching_24 ?_
    refine lv_iload_n hx hb dX7_touching_27 rfl (lv_at hl 1 rfl) ?_
    refine ck_e hf (fun hi hf => ?_)
    refine la_P16 E hP pg1 hi dX7_touching_28 ?_
    exact en_i hf hx hb hr rfl hlocks hP hS dX7_touching_29
  · have hf := if_t hf hc
    refine lv_ldc (v := (-1000001)) hx hb hown (hts _ w_286) dX7_touching_14 ?_
    exact en_i hf hx hb hr rfl hlocks hP hS dX7_touching_16
theorem c_X7_touching (l : Launch) {G : GG} {sz : Nat} {ns : Nat} {x1 : Int32} {M : Mem} {r : Int32} {M' : Mem} (hf : f_X7_touching x1 M = some (r, M')) : CtI l yX7_touching cX7_touching 2 (some .int) rm_X7_touching [.ref (adC G 0 0), .int x1] G (AC G) (XC G ns) sz M r (XC G ns) sz M' := by
  refine Ct_of (by decide) (Nat.le_of_ble_eq_true rfl) (fun p e s m below meth c ls hx hb hr hlocks hml hown hts hK hP hl => ?_)
  exact w_X7_touching ⟨hx, hb, hr, hlocks, hml, hown, hts, hK⟩ hf hP va_S.rf hl
set_option maxRecDepth 100000 in
theorem cv_X7_touching {p : Program} {l : Launch} {e : Env} {R : Room} {s : State} {m : MethodId} {args : Array Value} {below : List Frame} {meth : Method} {c : Code} {H : Heap} {locs : List Loc} {cells slots : Nat} {Q : State → Prop} {cc : ByteArray} {pc nL index : Nat} {ret : Option FieldType} {own : String} {ls : Array Slot} {rest : List Value} {l' : List (Nat × Value)} {G : GG} {sz : Nat} {ns : Nat} {M : Mem} (E : Cx p s m args meth c cc ret nL own G) (hP : PW G (AC G) (XC G ns) sz M s H) (hS : va_S (AC G) s.heap H locs) {x1 : Int32} {r : Int32} {M' : Mem} (hq : f_X7_touching x1 M = some (r, M')) (w1 : Cond.methodLink own index yX7_touching ∈ lw_all) (hR : 3 ≤ R.frames ∧ 64 ≤ R.locals) (hl : lv_has ls nL l') (hrest : (rest.map fun v => v.category).sum ≤ 8) (hdg : decode cc pc = .ok (.invokevirtual index, 3)) (hcs : cells ≤ R.cells ∧ slots ≤ R.slots)
    (kk : ∀ (H1 : Heap) (locs1 : List Loc), PW G (AC G) (XC G ns) sz M' s H1 → va_S (AC G) s.heap H1 locs1 → W p l e R s m args below meth c H1 locs1 cells slots Q (F0 m (pc + 3) ls (.int r :: rest))) : W p l e R s m args below meth c H locs cells slots Q (F0 m pc ls (.int x1 :: .ref (adC G 0 0) :: rest)) := by
  obtain ⟨hx, hb, hr, hlocks, hml, hown, hts, hK⟩ := E
  exact kc_i (kc_runV (na := 1) (q := (RX7, TX7, 6)) hx hb hml hts hown hK hP 0 0 (dm0 (by decide)) rfl rfl rfl (c_X7_touching l hq) w1 w_538 w_539 w_1 w_540 (by decide +kernel) hR rfl hl rfl hrest hdg hcs) hS kk
/-! X7_seams -/
abbrev rm_X7_seams : Room := { frames := 5, cells := 0, slots := 0, locals := 112 }
def f_X7_seams_b4 : Nat → Int32 → Int32 → Mem → Option (Int32 × Mem)
  | 0 => fun _ _ _ => none
  | fu + 1 => fun x1 x2 M =>
(if (M 1 10 0) ≤ x2 then
  some (x1, M)
else
  ob (f_X2_seamsFirstMetAt 1 x2 M) fun r_27 M_27 =>
  lt ((x1 + r_27)) fun x1_31 =>
  lt (x2 + 1) fun x2_32 =>
  f_X7_seams_b4 fu x1_31 x2_32 M_27)
def f_X7_seams (M : Mem) : Option (Int32 × Mem) :=
f_X7_seams_b4 1000 0 0 M
set_option maxHeartbeats 4000000 in
set_option maxRecDepth 100000 in
theorem w_X7_seams_b4 {p : Program} {l : Launch} {e : Env} {s : State} {m : MethodId} {args : Array Value} {below : List Frame} {meth : Method} {c : Code} {G : GG} {sz : Nat} {ns : Nat} {r : Int32} {M' : Mem} (E : Cx p s m args meth c cX7_seams (some .int) 3 RX7 G) : ∀ fu : Nat, ∀ (x1 : Int32) (x2 : Int32) (M : Mem) (H : Heap) (locs : List Loc) (ls : Array Slot), f_X7_seams_b4 fu x1 x2 M = some (r, M') → PW G (AC G) (XC G ns) sz M s H → va_S (AC G) s.heap H locs → lv_has ls 3 [(0, .ref (adC G 0 0)), (1, .int x1), (2, .int x2)] → W p l e rm_X7_seams s m args below meth c H locs 0 0 (MQ below (va_Qi (fun (r2 : Int32) (_ : Unit) => r2 = r) (fun _ t => PW G (AC G) (XC G ns) sz M' t t.heap) (AC G)) args s 0 0 (AC G)) (F0 m 4 ls []) := by
  obtain ⟨hx, hb, hr, hlocks, hml, hown, hts, hK⟩ := id E
  intro fu
  induction fu with
  | zero => intro x1 x2 M H locs ls hf hP hS hl; cases hf
  | succ fu ih =>
    intro x1 x2 M H locs ls hf hP hS hl
    rw [f_X7_seams_b4.eq_2] at hf
    refine lv_iload_n hx hb dX7_seams_4 rfl (lv_at hl 2 rfl) ?_
    refine lv_aload_n hx hb dX7_seams_5 rfl (lv_at hl 0 rfl) ?_
    refine gf_X7_now E hP w_256 dX7_seams_6 ?_
    refine gf_X5_lines E hP pg1 w_139 dX7_seams_9 ?_
    refine gf_X2_many E hP pg1 w_86 dX7_seams_12 ?_
    refine lv_icmp_ge (tgt := 38) hx hb dX7_seams_15 (by decide) (fun hc => ?_) (fun hc => ?_)
    · have hf := if_t hf hc
      refine lv_iload_n hx hb dX7_seams_38 rfl (lv_at hl 1 rfl) ?_
      exact en_i hf hx hb hr rfl hlocks hP hS dX7_seams_39
    · have hf := if_f hf hc
      refine lv_iload_n hx hb dX7_seams_18 rfl (lv_at hl 1 rfl) ?_
      refine lv_aload_n hx hb dX7_seams_19 rfl (lv_at hl 0 rfl) ?_
      refine gf_X7_now E hP w_256 dX7_seams_20 ?_
      refine gf_X5_lines E hP pg1 w_139 dX7_seams_23 ?_
      refine lv_iload_n hx hb dX7_seams_26 rfl (lv_at hl 2 rfl) ?_
      refine ob_e hf (fun r_27 M_27 hq hf => ?_)
      refine cv_X2_seamsFirstMetAt E hP hS pg1 hq w_545 ⟨Nat.le_of_ble_eq_true rfl, Nat.le_of_ble_eq_true rfl⟩ hl (Nat.le_of_ble_eq_true rfl) dX7_seams_27 ⟨Nat.le_of_ble_eq_true rfl, Nat.le_of_ble_eq_true rfl⟩ (fun H locs hP hS => ?_)
      refine lv_iadd hx hb dX7_seams_30 ?_
      refine lt_e hf (fun x1_31 hx1_31 hf => ?_)
      refine kr_nm hx1_31 ?_
      refine lv_istore_n (lv' := [(1, .int x1_31), (0, .ref (adC G 0 0)), (2, .int x2)]) hx hb dX7_seams_31 rfl hl (by decide) rfl (fun ls hl => ?_)
      refine lt_e hf (fun x2_32 hx2_32 hf => ?_)
      refine lv_iinc (v := x2_32) (lv' := [(2, .int x2_32), (1, .int x1_31), (0, .ref (adC G 0 0))]) hx hb dX7_seams_32 hl (k := 2) rfl (by rw [hx2_32]; rfl) (by decide) rfl (fun ls hl => ?_)
      refine lv_goto (tgt := 4) hx hb dX7_seams_35 (by decide) ?_
      exact ih _ _ _ _ _ _ hf hP hS (lv_sub hl [2, 1, 0] rfl)
set_option maxHeartbeats 4000000 in
set_option maxRecDepth 100000 in
theorem w_X7_seams {p : Program} {l : Launch} {e : Env} {s : State} {m : MethodId} {args : Array Value} {below : List Frame} {meth : Method} {c : Code} {G : GG} {sz : Nat} {ns : Nat} {r : Int32} {M' : Mem} (E : Cx p s m args meth c cX7_seams (some .int) 3 RX7 G) {M : Mem} {H : Heap} {locs : List Loc} {ls : Array Slot} (hf : f_X7_seams M = some (r, M')) (hP : PW G (AC G) (XC G ns) sz M s H) (hS : va_S (AC G) s.heap H locs) (hl : lv_has ls 3 [(0, .ref (adC G 0 0))]) : W p l e rm_X7_seams s m args below meth c H locs 0 0 (MQ below (va_Qi (fun (r2 : Int32) (_ : Unit) => r2 = r) (fun _ t => PW G (AC G) (XC G ns) sz M' t t.heap) (AC G)) args s 0 0 (AC G)) (F0 m 0 ls []) := by
  obtain ⟨hx, hb, hr, hlocks, hml, hown, hts, hK⟩ := id E
  unfold f_X7_seams at hf
  refine lv_iconst (v := 0) hx hb dX7_seams_0 (by decide) ?_
  refine lv_istore_n (lv' := [(1, .int 0), (0, .ref (adC G 0 0))]) hx hb dX7_seams_1 rfl hl (by decide) rfl (fun ls hl => ?_)
  refine lv_iconst (v := 0) hx hb dX7_seams_2 (by decide) ?_
  refine lv_istore_n (lv' := [(2, .int 0), (1, .int 0), (0, .ref (adC G 0 0))]) hx hb dX7_seams_3 rfl hl (by decide) rfl (fun ls hl => ?_)
  exact w_X7_seams_b4 E 1000 _ _ _ _ _ _ hf hP hS (lv_sub hl [2, 1, 0] rfl)
theorem c_X7_seams (l : Launch) {G : GG} {sz : Nat} {ns : Nat} {M : Mem} {r : Int32} {M' : Mem} (hf : f_X7_seams M = some (r, M')) : CtI l yX7_seams cX7_seams 3 (some .int) rm_X7_seams [.ref (adC G 0 0)] G (AC G) (XC G ns) sz M r (XC G ns) sz M' := by
  refine Ct_of (by decide) (Nat.le_of_ble_eq_true rfl) (fun p e s m below meth c ls hx hb hr hlocks hml hown hts hK hP hl => ?_)
  exact w_X7_seams ⟨hx, hb, hr, hlocks, hml, hown, hts, hK⟩ hf hP va_S.rf hl
set_option maxRecDepth 100000 in
theorem cv_X7_seams {p : Program} {l : Launch} {e : Env} {R : Room} {s : State} {m : MethodId} {args : Array Value} {below : List Frame} {meth : Method} {c : Code} {H : Heap} {locs : List Loc} {cells slots : Nat} {Q : State → Prop} {cc : ByteArray} {pc nL index : Nat} {ret : Option FieldType} {own : String} {ls : Array Slot} {rest : List Value} {l' : List (Nat × Value)} {G : GG} {sz : Nat} {ns : Nat} {M : Mem} (E : Cx p s m args meth c cc ret nL own G) (hP : PW G (AC G) (XC G ns) sz M s H) (hS : va_S (AC G) s.heap H locs) {r : Int32} {M' : Mem} (hq : f_X7_seams M = some (r, M')) (w1 : Cond.methodLink own index yX7_seams ∈ lw_all) (hR : 6 ≤ R.frames ∧ 134 ≤ R.locals) (hl : lv_has ls nL l') (hrest : (rest.map fun v => v.category).sum ≤ 8) (hdg : decode cc pc = .ok (.invokevirtual index, 3)) (hcs : cells ≤ R.cells ∧ slots ≤ R.slots)
    (kk : ∀ (H1 : Heap) (locs1 : List Loc), PW G (AC G) (XC G ns) sz M' s H1 → va_S (AC G) s.heap H1 locs1 → W p l e R s m args below meth c H1 locs1 cells slots Q (F0 m (pc + 3) ls (.int r :: rest))) : W p l e R s m args below meth c H locs cells slots Q (F0 m pc ls (.ref (adC G 0 0) :: rest)) := by
  obtain ⟨hx, hb, hr, hlocks, hml, hown, hts, hK⟩ := E
  exact kc_i (kc_runV (na := 0) (q := (RX7, TX7, 6)) hx hb hml hts hown hK hP 0 0 (dm0 (by decide)) rfl rfl rfl (c_X7_seams l hq) w1 w_542 w_543 w_1 w_544 (by decide +kernel) hR rfl hl rfl hrest hdg hcs) hS kk
/-! X7_meanShade -/
abbrev rm_X7_meanShade : Room := { frames := 3, cells := 0, slots := 0, locals := 66 }
def f_X7_meanShade_b53 (L7 : UInt64 → Int32 → Int32 → Mem → Option (Int32 × Mem)) (x1 : UInt64) (x3 : Int32) (x4 : Int32) (M : Mem) : Option (Int32 × Mem) :=
lt (x4 + 1) fun x4_53 =>
L7 x1 x3 x4_53 M
def f_X7_meanShade_b7 : Nat → UInt64 → Int32 → Int32 → Mem → Option (Int32 × Mem)
  | 0 => fun _ _ _ _ => none
  | fu + 1 => fun x1 x3 x4 M =>
(if (M 1 10 0) ≤ x4 then
  (if x3 = 0 then
    some ((-1000004), M)
  else
    ck (dok (FP.ddiv x1 (FP.i2d x3))) <|
    ck (fok (FP.d2f (FP.ddiv x1 (FP.i2d x3)))) <|
    ob (f_X7_bitsOf (FP.d2f (FP.ddiv x1 (FP.i2d x3))) M) fun r_71 M_71 =>
    some (r_71, M_71))
else
  ob (f_X2_isDrawn 1 x4 M) fun r_31 M_31 =>
  (if r_31 = 0 then
    f_X7_meanShade_b53 (f_X7_meanShade_b7 fu) x1 x3 x4 M_31
  else
    ob (f_X5_shadeOf 1 x4 M_31) fun r_44 M_44 =>
    ck (dok (FP.f2d r_44)) <|
    ck (dok (FP.dadd x1 (FP.f2d r_44))) <|
    lt ((FP.dadd x1 (FP.f2d r_44))) fun x1_49 =>
    lt (x3 + 1) fun x3_50 =>
    f_X7_meanShade_b53 (f_X7_meanShade_b7 fu) x1_49 x3_50 x4 M_44))
def f_X7_meanShade (M : Mem) : Option (Int32 × Mem) :=
lt (FP.dconst0) fun x1_1 =>
f_X7_meanShade_b7 1000 x1_1 0 0 M
set_option maxHeartbeats 4000000 in
set_option maxRecDepth 100000 in
theorem w_X7_meanShade_b53 {p : Program} {l : Launch} {e : Env} {s : State} {m : MethodId} {args : Array Value} {below : List Frame} {meth : Method} {c : Code} {G : GG} {sz : Nat} {ns : Nat} {r : Int32} {M' : Mem} (E : Cx p s m args meth c cX7_meanShade (some .int) 5 RX7 G) {L7 : UInt64 → Int32 → Int32 → Mem → Option (Int32 × Mem)} (hL7 : ∀ (x1 : UInt64) (x3 : Int32) (x4 : Int32) (M : Mem) (H : Heap) (locs : List Loc) (ls : Array Slot), L7 x1 x3 x4 M = some (r, M') → PW G (AC G) (XC G ns) sz M s H → va_S (AC G) s.heap H locs → lv_has ls 5 [(0, .ref (adC G 0 0)), (1, .double x1), (3, .int x3), (4, .int x4)] → W p l e rm_X7_meanShade s m args below meth c H locs 0 0 (MQ below (va_Qi (fun (r2 : Int32) (_ : Unit) => r2 = r) (fun _ t => PW G (AC G) (XC G ns) sz M' t t.heap) (AC G)) args s 0 0 (AC G)) (F0 m 7 ls [])) {x1 : UInt64} {x3 : Int32} {x4 : Int32} {M : Mem} {H : Heap} {locs : List Loc} {ls : Array Slot} (hf : f_X7_meanShade_b53 L7 x1 x3 x4 M = some (r, M')) (hP : PW G (AC G) (XC G ns) sz M s H) (hS : va_S (AC G) s.heap H locs) (hl : lv_has ls 5 [(0, .ref (adC G 0 0)), (1, .double x1), (3, .int x3), (4, .int x4)]) : W p l e rm_X7_meanShade s m args below meth c H locs 0 0 (MQ below (va_Qi (fun (r2 : Int32) (_ : Unit) => r2 = r) (fun _ t => PW G (AC G) (XC G ns) sz M' t t.heap) (AC G)) args s 0 0 (AC G)) (F0 m 53 ls []) := by
  obtain ⟨hx, hb, hr, hlocks, hml, hown, hts, hK⟩ := id E
  unfold f_X7_meanShade_b53 at hf
  refine lt_e hf (fun x4_53 hx4_53 hf => ?_)
  refine lv_iinc (v := x4_53) (lv' := [(4, .int x4_53), (0, .ref (adC G 0 0)), (1, .double x1), (3, .int x3)]) hx hb dX7_meanShade_53 hl (k := 3) rfl (by rw [hx4_53]; rfl) (by decide) rfl (fun ls hl => ?_)
  refine lv_goto (tgt := 7) hx hb dX7_meanShade_56 (by decide) ?_
  exact hL7 _ _ _ _ _ _ _ hf hP hS (lv_sub hl [1, 2, 3, 0] rfl)
set_option maxHeartbeats 4000000 in
set_option maxRecDepth 100000 in
theorem w_X7_meanShade_b7 {p : Program} {l : Launch} {e : Env} {s : State} {m : MethodId} {args : Array Value} {below : List Frame} {meth : Method} {c : Code} {G : GG} {sz : Nat} {ns : Nat} {r : Int32} {M' : Mem} (E : Cx p s m args meth c cX7_meanShade (some .int) 5 RX7 G) : ∀ fu : Nat, ∀ (x1 : UInt64) (x3 : Int32) (x4 : Int32) (M : Mem) (H : Heap) (locs : List Loc) (ls : Array Slot), f_X7_meanShade_b7 fu x1 x3 x4 M = some (r, M') → PW G (AC G) (XC G ns) sz M s H → va_S (AC G) s.heap H locs → lv_has ls 5 [(0, .ref (adC G 0 0)), (1, .double x1), (3, .int x3), (4, .int x4)] → W p l e rm_X7_meanShade s m args below meth c H locs 0 0 (MQ below (va_Qi (fun (r2 : Int32) (_ : Unit) => r2 = r) (fun _ t => PW G (AC G) (XC G ns) sz M' t t.heap) (AC G)) args s 0 0 (AC G)) (F0 m 7 ls []) := by
  obtain ⟨hx, hb, hr, hlocks, hml, hown, hts, hK⟩ := id E
  intro fu
  induction fu with
  | zero => intro x1 x3 x4 M H locs ls hf hP hS hl; cases hf
  | succ fu ih =>
    intro x1 x3 x4 M H locs ls hf hP hS hl
    rw [f_X7_meanShade_b7.eq_2] at hf
    refine lv_iload hx hb dX7_meanShade_7 (lv_at hl 3 rfl) ?_
    refine lv_aload_n hx hb dX7_meanShade_9 rfl (lv_at hl 0 rfl) ?_
    refine gf_X7_now E hP w_256 dX7_meanShade_10 ?_
    refine gf_X5_lines E hP pg1 w_139 dX7_meanShade_13 ?_
    refine gf_X2_many E hP pg1 w_86 dX7_meanShade_16 ?_
    refine lv_icmp_ge (tgt := 59) hx hb dX7_meanShade_19 (by decide) (fun hc => ?_) (fun hc => ?_)
    · have hf := if_t hf hc
      refine lv_iload_n hx hb dX7_meanShade_59 rfl (lv_at hl 2 rfl) ?_
      refine lv_if_ne (tgt := 66) hx hb dX7_meanShade_60 (by decide) (fun hc => ?_) (fun hc => ?_)
      · have hf := if_f hf hc
        refine lv_dload_n hx hb dX7_meanShade_66 rfl (lv_at hl 1 rfl) ?_
        refine lv_iload_n hx hb dX7_meanShade_67 rfl (lv_at hl 2 rfl) ?_
        refine lv_i2d hx hb dX7_meanShade_68 ?_
        refine ck_e hf (fun hi hf => ?_)
        refine lv_ddiv hx hb dX7_meanShade_69 (dok_n hi) ?_
        refine ck_e hf (fun hi hf => ?_)
        refine lv_d2f hx hb dX7_meanShade_70 (fok_n hi) ?_
        refine ob_e hf (fun r_71 M_71 hq hf => ?_)
        refine cv_X7_bitsOf E hP hS hq w_524 ⟨Nat.le_of_ble_eq_true rfl, Nat.le_of_ble_eq_true rfl⟩ hl (Nat.le_of_ble_eq_true rfl) dX7_meanShade_71 ⟨Nat.le_of_ble_eq_true rfl, Nat.le_of_ble_eq_true rfl⟩ (fun H locs hP hS => ?_)
        exact en_i hf hx hb hr rfl hlocks hP hS dX7_meanShade_74
      · have hf := if_t hf hc
        refine lv_ldc (v := (-1000004)) hx hb hown (hts _ w_439) dX7_meanShade_63 ?_
        exact en_i hf hx hb hr rfl hlocks hP hS dX7_meanShade_65
    · have hf := if_f hf hc
      refine lv_aload_n hx hb dX7_meanShade_22 rfl (lv_at hl 0 rfl) ?_
      refine gf_X7_now E hP w_256 dX7_meanShade_23 ?_
      refine gf_X5_lines E hP pg1 w_139 dX7_meanShade_26 ?_
      refine lv_iload hx hb dX7_meanShade_29 (lv_at hl 3 rfl) ?_
      refine ob_e hf (fun r_31 M_31 hq hf => ?_)
      refine cv_X2_isDrawn E hP hS pg1 hq w_518 ⟨Nat.le_of_ble_eq_true rfl, Nat.le_of_ble_eq_true rfl⟩ hl (Nat.le_of_ble_eq_true rfl) dX7_meanShade_31 ⟨Nat.le_of_ble_eq_true rfl, Nat.le_of_ble_eq_true rfl⟩ (fun H locs hP hS => ?_)
      refine lv_if_eq (tgt := 53) hx hb dX7_meanShade_34 (by decide) (fun hc => ?_) (fun hc => ?_)
      · have hf := if_t hf hc
        exact w_X7_meanShade_b53 E ih hf hP hS (lv_sub hl [0, 1, 2, 3] rfl)
      · have hf := if_f hf hc
        refine lv_dload_n hx hb dX7_meanShade_37 rfl (lv_at hl 1 rfl) ?_
        refine lv_aload_n hx hb dX7_meanShade_38 rfl (lv_at hl 0 rfl) ?_
        refine gf_X7_now E hP w_256 dX7_meanShade_39 ?_
        refine lv_iload hx hb dX7_meanShade_42 (lv_at hl 3 rfl) ?_
        refine ob_e hf (fun r_44 M_44 hq hf => ?_)
        refine cv_X5_shadeOf E hP hS pg1 hq w_520 ⟨Nat.le_of_ble_eq_true rfl, Nat.le_of_ble_eq_true rfl⟩ hl (Nat.le_of_ble_eq_true rfl) dX7_meanShade_44 ⟨Nat.le_of_ble_eq_true rfl, Nat.le_of_ble_eq_true rfl⟩ (fun H locs hP hS => ?_)
        refine ck_e hf (fun hi hf => ?_)
        refine lv_f2d hx hb dX7_meanShade_47 (dok_n hi) ?_
        refine ck_e hf (fun hi hf => ?_)
        refine lv_dadd hx hb dX7_meanShade_48 (dok_n hi) ?_
        refine lt_e hf (fun x1_49 hx1_49 hf => ?_)
        refine kr_nmd hx1_49 ?_
        refine lv_dstore_n (lv' := [(1, .double x1_49), (0, .ref (adC G 0 0)), (3, .int x3), (4, .int x4)]) hx hb dX7_meanShade_49 rfl hl (by decide) rfl (fun ls hl => ?_)
        refine lt_e hf (fun x3_50 hx3_50 hf => ?_)
        refine lv_iinc (v := x3_50) (lv' := [(3, .int x3_50), (1, .double x1_49), (0, .ref (adC G 0 0)), (4, .int x4)]) hx hb dX7_meanShade_50 hl (k := 2) rfl (by rw [hx3_50]; rfl) (by decide) rfl (fun ls hl => ?_)
        exact w_X7_meanShade_b53 E ih hf hP hS (lv_sub hl [2, 1, 0, 3] rfl)
set_option maxHeartbeats 4000000 in
set_option maxRecDepth 100000 in
theorem w_X7_meanShade {p : Program} {l : Launch} {e : Env} {s : State} {m : MethodId} {args : Array Value} {below : List Frame} {meth : Method} {c : Code} {G : GG} {sz : Nat} {ns : Nat} {r : Int32} {M' : Mem} (E : Cx p s m args meth c cX7_meanShade (some .int) 5 RX7 G) {M : Mem} {H : Heap} {locs : List Loc} {ls : Array Slot} (hf : f_X7_meanShade M = some (r, M')) (hP : PW G (AC G) (XC G ns) sz M s H) (hS : va_S (AC G) s.heap H locs) (hl : lv_has ls 5 [(0, .ref (adC G 0 0))]) : W p l e rm_X7_meanShade s m args below meth c H locs 0 0 (MQ below (va_Qi (fun (r2 : Int32) (_ : Unit) => r2 = r) (fun _ t => PW G (AC G) (XC G ns) sz M' t t.heap) (AC G)) args s 0 0 (AC G)) (F0 m 0 ls []) := by
  obtain ⟨hx, hb, hr, hlocks, hml, hown, hts, hK⟩ := id E
  unfold f_X7_meanShade at hf
  refine lv_dconst0 hx hb dX7_meanShade_0 ?_
  refine lt_e hf (fun x1_1 hx1_1 hf => ?_)
  refine kr_nmd hx1_1 ?_
  refine lv_dstore_n (lv' := [(1, .double x1_1), (0, .ref (adC G 0 0))]) hx hb dX7_meanShade_1 rfl hl (by decide) rfl (fun ls hl => ?_)
  refine lv_iconst (v := 0) hx hb dX7_meanShade_2 (by decide) ?_
  refine lv_istore_n (lv' := [(3, .int 0), (1, .double x1_1), (0, .ref (adC G 0 0))]) hx hb dX7_meanShade_3 rfl hl (by decide) rfl (fun ls hl => ?_)
  refine lv_iconst (v := 0) hx hb dX7_meanShade_4 (by decide) ?_
  refine lv_istore (lv' := [(4, .int 0), (3, .int 0), (1, .double x1_1), (0, .ref (adC G 0 0))]) hx hb dX7_meanShade_5 hl (by decide) rfl (fun ls hl => ?_)
  exact w_X7_meanShade_b7 E 1000 _ _ _ _ _ _ _ hf hP hS (lv_sub hl [3, 2, 1, 0] rfl)
theorem c_X7_meanShade (l : Launch) {G : GG} {sz : Nat} {ns : Nat} {M : Mem} {r : Int32} {M' : Mem} (hf : f_X7_meanShade M = some (r, M')) : CtI l yX7_meanShade cX7_meanShade 5 (some .int) rm_X7_meanShade [.ref (adC G 0 0)] G (AC G) (XC G ns) sz M r (XC G ns) sz M' := by
  refine Ct_of (by decide) (Nat.le_of_ble_eq_true rfl) (fun p e s m below meth c ls hx hb hr hlocks hml hown hts hK hP hl => ?_)
  exact w_X7_meanShade ⟨hx, hb, hr, hlocks, hml, hown, hts, hK⟩ hf hP va_S.rf hl
set_option maxRecDepth 100000 in
theorem cv_X7_meanShade {p : Program} {l : Launch} {e : Env} {R : Room} {s : State} {m : MethodId} {args : Array Value} {below : List Frame} {meth : Method} {c : Code} {H : Heap} {locs : List Loc} {cells slots : Nat} {Q : State → Prop} {cc : ByteArray} {pc nL index : Nat} {ret : Option FieldType} {own : String} {ls : Array Slot} {rest : List Value} {l' : List (Nat × Value)} {G : GG} {sz : Nat} {ns : Nat} {M : Mem} (E : Cx p s m args meth c cc ret nL own G) (hP : PW G (AC G) (XC G ns) sz M s H) (hS : va_S (AC G) s.heap H locs) {r : Int32} {M' : Mem} (hq : f_X7_meanShade M = some (r, M')) (w1 : Cond.methodLink own index yX7_meanShade ∈ lw_all) (hR : 4 ≤ R.frames ∧ 90 ≤ R.locals) (hl : lv_has ls nL l') (hrest : (rest.map fun v => v.category).sum ≤ 8) (hdg : decode cc pc = .ok (.invokevirtual index, 3)) (hcs : cells ≤ R.cells ∧ slots ≤ R.slots)
    (kk : ∀ (H1 : Heap) (locs1 : List Loc), PW G (AC G) (XC G ns) sz M' s H1 → va_S (AC G) s.heap H1 locs1 → W p l e R s m args below meth c H1 locs1 cells slots Q (F0 m (pc + 3) ls (.int r :: rest))) : W p l e R s m args below meth c H locs cells slots Q (F0 m pc ls (.ref (adC G 0 0) :: rest)) := by
  obtain ⟨hx, hb, hr, hlocks, hml, hown, hts, hK⟩ := E
  exact kc_i (kc_runV (na := 0) (q := (RX7, TX7, 6)) hx hb hml hts hown hK hP 0 0 (dm0 (by decide)) rfl rfl rfl (c_X7_meanShade l hq) w1 w_566 w_567 w_1 w_568 (by decide +kernel) hR rfl hl rfl hrest hdg hcs) hS kk
/-! X7_count -/
abbrev rm_X7_count : Room := { frames := 3, cells := 0, slots := 0, locals := 64 }
def f_X7_count_b140 (s0 : Int32) (M : Mem) : Option (Int32 × Mem) :=
some (s0, M)
def f_X7_count_b228 (s0 : Int32) (M : Mem) : Option (Int32 × Mem) :=
some (s0, M)
def f_X7_count (x1 : Int32) (M : Mem) : Option (Int32 × Mem) :=
(if x1 = 0 then
  some ((M 1 2 0), M)
else
(if x1 = 1 then
  some ((M 1 10 0), M)
else
(if x1 = 2 then
  ob (f_X2_howManyDrawn 1 M) fun r_97 M_97 =>
  some (r_97, M_97)
else
(if x1 = 3 then
  ob (f_X5_howManyWet 1 M) fun r_105 M_105 =>
  some (r_105, M_105)
else
(if x1 = 4 then
  some ((M 1 0 3), M)
else
(if x1 = 5 then
  (if (M 1 0 4) = (-1) then
    f_X7_count_b140 (-1000004) M
  else
    f_X7_count_b140 ((M 1 0 4)) M)
else
(if x1 = 6 then
  some ((M 1 0 5), M)
else
(if x1 = 7 then
  some ((M 1 0 6), M)
else
(if x1 = 8 then
  ob (f_X2_lengthNotDrawn 1 M) fun r_164 M_164 =>
  some (r_164, M_164)
else
(if x1 = 9 then
  some ((M 1 0 7), M)
else
(if x1 = 10 then
  some ((M 1 0 8), M)
else
(if x1 = 11 then
  some ((M 0 1 2), M)
else
(if x1 = 12 then
  some ((M 0 3 0), M)
else
  ob (f_X7_isIn x1 20 24 M) fun r_205 M_205 =>
  (if r_205 = 0 then
    f_X7_count_b228 (-1000001) M_205
  else
    ck (ibd (x1 - 20) 5) <|
    f_X7_count_b228 ((M_205 1 1 (ix (x1 - 20)))) M_205))))))))))))))
set_option maxHeartbeats 4000000 in
set_option maxRecDepth 100000 in
theorem w_X7_count_b140 {p : Program} {l : Launch} {e : Env} {s : State} {m : MethodId} {args : Array Value} {below : List Frame} {meth : Method} {c : Code} {G : GG} {sz : Nat} {ns : Nat} {r : Int32} {M' : Mem} (E : Cx p s m args meth c cX7_count (some .int) 2 RX7 G) {s0 : Int32} {M : Mem} {H : Heap} {locs : List Loc} {ls : Array Slot} (hf : f_X7_count_b140 s0 M = some (r, M')) (hP : PW G (AC G) (XC G ns) sz M s H) (hS : va_S (AC G) s.heap H locs) (hl : lv_has ls 2 []) : W p l e rm_X7_count s m args below meth c H locs 0 0 (MQ below (va_Qi (fun (r2 : Int32) (_ : Unit) => r2 = r) (fun _ t => PW G (AC G) (XC G ns) sz M' t t.heap) (AC G)) args s 0 0 (AC G)) (F0 m 140 ls [.int s0]) := by
  obtain ⟨hx, hb, hr, hlocks, hml, hown, hts, hK⟩ := id E
  unfold f_X7_count_b140 at hf
  exact en_i hf hx hb hr rfl hlocks hP hS dX7_count_140
set_option maxHeartbeats 4000000 in
set_option maxRecDepth 100000 in
theorem w_X7_count_b228 {p : Program} {l : Launch} {e : Env} {s : State} {m : MethodId} {args : Array Value} {below : List Frame} {meth : Method} {c : Code} {G : GG} {sz : Nat} {ns : Nat} {r : Int32} {M' : Mem} (E : Cx p s m args meth c cX7_count (some .int) 2 RX7 G) {s0 : Int32} {M : Mem} {H : Heap} {locs : List Loc} {ls : Array Slot} (hf : f_X7_count_b228 s0 M = some (r, M')) (hP : PW G (AC G) (XC G ns) sz M s H) (hS : va_S (AC G) s.heap H locs) (hl : lv_has ls 2 []) : W p l e rm_X7_count s m args below meth c H locs 0 0 (MQ below (va_Qi (fun (r2 : Int32) (_ : Unit) => r2 = r) (fun _ t => PW G (AC G) (XC G ns) sz M' t t.heap) (AC G)) args s 0 0 (AC G)) (F0 m 228 ls [.int s0]) := by
  obtain ⟨hx, hb, hr, hlocks, hml, hown, hts, hK⟩ := id E
  unfold f_X7_count_b228 at hf
  exact en_i hf hx hb hr rfl hlocks hP hS dX7_count_228
set_option maxHeartbeats 4000000 in
set_option maxRecDepth 100000 in
theorem w_X7_count {p : Program} {l : Launch} {e : Env} {s : State} {m : MethodId} {args : Array Value} {below : List Frame} {meth : Method} {c : Code} {G : GG} {sz : Nat} {ns : Nat} {r : Int32} {M' : Mem} (E : Cx p s m args meth c cX7_count (some .int) 2 RX7 G) {x1 : Int32} {M : Mem} {H : Heap} {locs : List Loc} {ls : Array Slot} (hf : f_X7_count x1 M = some (r, M')) (hP : PW G (AC G) (XC G ns) sz M s H) (hS : va_S (AC G) s.heap H locs) (hl : lv_has ls 2 [(0, .ref (adC G 0 0)), (1, .int x1)]) : W p l e rm_X7_count s m args below meth c H locs 0 0 (MQ below (va_Qi (fun (r2 : Int32) (_ : Unit) => r2 = r) (fun _ t => PW G (AC G) (XC G ns) sz M' t t.heap) (AC G)) args s 0 0 (AC G)) (F0 m 0 ls []) := by
  obtain ⟨hx, hb, hr, hlocks, hml, hown, hts, hK⟩ := id E
  unfold f_X7_count at hf
  refine lv_iload_n hx hb dX7_count_0 rfl (lv_at hl 1 rfl) ?_
  by_cases hc0 : x1 = 0
  · have hf := if_t hf hc0
    refine kr_tin hx hb hc0 (tgt := 68) dX7_count_1 (by decide) (by decide) rfl (by decide) ?_
    refine lv_aload_n hx hb dX7_count_68 rfl (lv_at hl 0 rfl) ?_
    refine gf_X7_now E hP w_256 dX7_count_69 ?_
    refine gf_X5_pens E hP pg1 w_137 dX7_count_72 ?_
    refine gf_X4_many E hP pg1 w_41 dX7_count_75 ?_
    exact en_i hf hx hb hr rfl hlocks hP hS dX7_count_78
  have hf := if_f hf hc0
  by_cases hc1 : x1 = 1
  · have hf := if_t hf hc1
    refine kr_tin hx hb hc1 (tgt := 79) dX7_count_1 (by decide) (by decide) rfl (by decide) ?_
    refine lv_aload_n hx hb dX7_count_79 rfl (lv_at hl 0 rfl) ?_
    refine gf_X7_now E hP w_256 dX7_count_80 ?_
    refine gf_X5_lines E hP pg1 w_139 dX7_count_83 ?_
    refine gf_X2_many E hP pg1 w_86 dX7_count_86 ?_
    exact en_i hf hx hb hr rfl hlocks hP hS dX7_count_89
  have hf := if_f hf hc1
  by_cases hc2 : x1 = 2
  · have hf := if_t hf hc2
    refine kr_tin hx hb hc2 (tgt := 90) dX7_count_1 (by decide) (by decide) rfl (by decide) ?_
    refine lv_aload_n hx hb dX7_count_90 rfl (lv_at hl 0 rfl) ?_
    refine gf_X7_now E hP w_256 dX7_count_91 ?_
    refine gf_X5_lines E hP pg1 w_139 dX7_count_94 ?_
    refine ob_e hf (fun r_97 M_97 hq hf => ?_)
    refine cv_X2_howManyDrawn E hP hS pg1 hq w_418 ⟨Nat.le_of_ble_eq_true rfl, Nat.le_of_ble_eq_true rfl⟩ hl (Nat.le_of_ble_eq_true rfl) dX7_count_97 ⟨Nat.le_of_ble_eq_true rfl, Nat.le_of_ble_eq_true rfl⟩ (fun H locs hP hS => ?_)
    exact en_i hf hx hb hr rfl hlocks hP hS dX7_count_100
  have hf := if_f hf hc2
  by_cases hc3 : x1 = 3
  · have hf := if_t hf hc3
    refine kr_tin hx hb hc3 (tgt := 101) dX7_count_1 (by decide) (by decide) rfl (by decide) ?_
    refine lv_aload_n hx hb dX7_count_101 rfl (lv_at hl 0 rfl) ?_
    refine gf_X7_now E hP w_256 dX7_count_102 ?_
    refine ob_e hf (fun r_105 M_105 hq hf => ?_)
    refine cv_X5_howManyWet E hP hS pg1 hq w_429 ⟨Nat.le_of_ble_eq_true rfl, Nat.le_of_ble_eq_true rfl⟩ hl (Nat.le_of_ble_eq_true rfl) dX7_count_105 ⟨Nat.le_of_ble_eq_true rfl, Nat.le_of_ble_eq_true rfl⟩ (fun H locs hP hS => ?_)
    exact en_i hf hx hb hr rfl hlocks hP hS dX7_count_108
  have hf := if_f hf hc3
  by_cases hc4 : x1 = 4
  · have hf := if_t hf hc4
    refine kr_tin hx hb hc4 (tgt := 109) dX7_count_1 (by decide) (by decide) rfl (by decide) ?_
    refine lv_aload_n hx hb dX7_count_109 rfl (lv_at hl 0 rfl) ?_
    refine gf_X7_now E hP w_256 dX7_count_110 ?_
    refine gf_X5_time E hP pg1 w_141 dX7_count_113 ?_
    exact en_i hf hx hb hr rfl hlocks hP hS dX7_count_116
  have hf := if_f hf hc4
  by_cases hc5 : x1 = 5
  · have hf := if_t hf hc5
    refine kr_tin hx hb hc5 (tgt := 117) dX7_count_1 (by decide) (by decide) rfl (by decide) ?_
    refine lv_aload_n hx hb dX7_count_117 rfl (lv_at hl 0 rfl) ?_
    refine gf_X7_now E hP w_256 dX7_count_118 ?_
    refine gf_X5_hand E hP pg1 w_143 dX7_count_121 ?_
    refine lv_iconst (v := (-1)) hx hb dX7_count_124 (by decide) ?_
    refine lv_icmp_ne (tgt := 133) hx hb dX7_count_125 (by decide) (fun hc => ?_) (fun hc => ?_)
    · have hf := if_f hf hc
      refine lv_aload_n hx hb dX7_count_133 rfl (lv_at hl 0 rfl) ?_
      refine gf_X7_now E hP w_256 dX7_count_134 ?_
      refine gf_X5_hand E hP pg1 w_143 dX7_count_137 ?_
      exact w_X7_count_b140 E hf hP hS (lv_sub hl [] rfl)
    · have hf := if_t hf hc
      refine lv_ldc (v := (-1000004)) hx hb hown (hts _ w_439) dX7_count_128 ?_
      refine lv_goto (tgt := 140) hx hb dX7_count_130 (by decide) ?_
      exact w_X7_count_b140 E hf hP hS (lv_sub hl [] rfl)
  have hf := if_f hf hc5
  by_cases hc6 : x1 = 6
  · have hf := if_t hf hc6
    refine kr_tin hx hb hc6 (tgt := 141) dX7_count_1 (by decide) (by decide) rfl (by decide) ?_
    refine lv_aload_n hx hb dX7_count_141 rfl (lv_at hl 0 rfl) ?_
    refine gf_X7_now E hP w_256 dX7_count_142 ?_
    refine gf_X5_x E hP pg1 w_145 dX7_count_145 ?_
    exact en_i hf hx hb hr rfl hlocks hP hS dX7_count_148
  have hf := if_f hf hc6
  by_cases hc7 : x1 = 7
  · have hf := if_t hf hc7
    refine kr_tin hx hb hc7 (tgt := 149) dX7_count_1 (by decide) (by decide) rfl (by decide) ?_
    refine lv_aload_n hx hb dX7_count_149 rfl (lv_at hl 0 rfl) ?_
    refine gf_X7_now E hP w_256 dX7_count_150 ?_
    refine gf_X5_y E hP pg1 w_147 dX7_count_153 ?_
    exact en_i hf hx hb hr rfl hlocks hP hS dX7_count_156
  have hf := if_f hf hc7
  by_cases hc8 : x1 = 8
  · have hf := if_t hf hc8
    refine kr_tin hx hb hc8 (tgt := 157) dX7_count_1 (by decide) (by decide) rfl (by decide) ?_
    refine lv_aload_n hx hb dX7_count_157 rfl (lv_at hl 0 rfl) ?_
    refine gf_X7_now E hP w_256 dX7_count_158 ?_
    refine gf_X5_lines E hP pg1 w_139 dX7_count_161 ?_
    refine ob_e hf (fun r_164 M_164 hq hf => ?_)
    refine cv_X2_lengthNotDrawn E hP hS pg1 hq w_440 ⟨Nat.le_of_ble_eq_true rfl, Nat.le_of_ble_eq_true rfl⟩ hl (Nat.le_of_ble_eq_true rfl) dX7_count_164 ⟨Nat.le_of_ble_eq_true rfl, Nat.le_of_ble_eq_true rfl⟩ (fun H locs hP hS => ?_)
    exact en_i hf hx hb hr rfl hlocks hP hS dX7_count_167
  have hf := if_f hf hc8
  by_cases hc9 : x1 = 9
  · have hf := if_t hf hc9
    refine kr_tin hx hb hc9 (tgt := 168) dX7_count_1 (by decide) (by decide) rfl (by decide) ?_
    refine lv_aload_n hx hb dX7_count_168 rfl (lv_at hl 0 rfl) ?_
    refine gf_X7_now E hP w_256 dX7_count_169 ?_
    refine gf_X5_swaps E hP pg1 w_149 dX7_count_172 ?_
    exact en_i hf hx hb hr rfl hlocks hP hS dX7_count_175
  have hf := if_f hf hc9
  by_cases hc10 : x1 = 10
  · have hf := if_t hf hc10
    refine kr_tin hx hb hc10 (tgt := 176) dX7_count_1 (by decide) (by decide) rfl (by decide) ?_
    refine lv_aload_n hx hb dX7_count_176 rfl (lv_at hl 0 rfl) ?_
    refine gf_X7_now E hP w_256 dX7_count_177 ?_
    refine gf_X5_travelled E hP pg1 w_151 dX7_count_180 ?_
    exact en_i hf hx hb hr rfl hlocks hP hS dX7_count_183
  have hf := if_f hf hc10
  by_cases hc11 : x1 = 11
  · have hf := if_t hf hc11
    refine kr_tin hx hb hc11 (tgt := 184) dX7_count_1 (by decide) (by decide) rfl (by decide) ?_
    refine lv_aload_n hx hb dX7_count_184 rfl (lv_at hl 0 rfl) ?_
    refine gf_X7_history E hP w_258 dX7_count_185 ?_
    refine gf_X1_many E hP w_182 dX7_count_188 ?_
    exact en_i hf hx hb hr rfl hlocks hP hS dX7_count_191
  have hf := if_f hf hc11
  by_cases hc12 : x1 = 12
  · have hf := if_t hf hc12
    refine kr_tin hx hb hc12 (tgt := 192) dX7_count_1 (by decide) (by decide) rfl (by decide) ?_
    refine lv_aload_n hx hb dX7_count_192 rfl (lv_at hl 0 rfl) ?_
    refine gf_X7_orders E hP w_259 dX7_count_193 ?_
    refine gf_X3_length E hP w_198 dX7_count_196 ?_
    exact en_i hf hx hb hr rfl hlocks hP hS dX7_count_199
  have hf := if_f hf hc12
  have hn0 := lv_neT hc0 (a := 0) (by decide)
  have hn1 := lv_neT hc1 (a := 1) (by decide)
  have hn2 := lv_neT hc2 (a := 2) (by decide)
  have hn3 := lv_neT hc3 (a := 3) (by decide)
  have hn4 := lv_neT hc4 (a := 4) (by decide)
  have hn5 := lv_neT hc5 (a := 5) (by decide)
  have hn6 := lv_neT hc6 (a := 6) (by decide)
  have hn7 := lv_neT hc7 (a := 7) (by decide)
  have hn8 := lv_neT hc8 (a := 8) (by decide)
  have hn9 := lv_neT hc9 (a := 9) (by decide)
  have hn10 := lv_neT hc10 (a := 10) (by decide)
  have hn11 := lv_neT hc11 (a := 11) (by decide)
  have hn12 := lv_neT hc12 (a := 12) (by decide)
  refine lv_tableOut (tgt := 200) hx hb dX7_count_1 (by omega) (by decide) ?_
  refine lv_iload_n hx hb dX7_count_200 rfl (lv_at hl 1 rfl) ?_
  refine lv_bipush (v := 20) hx hb dX7_count_201 (by decide) ?_
  refine lv_bipush (v := 24) hx hb dX7_count_203 (by decide) ?_
  refine ob_e hf (fun r_205 M_205 hq hf => ?_)
  refine cv_X7_isIn E hP hS hq w_279 ⟨Nat.le_of_ble_eq_true rfl, Nat.le_of_ble_eq_true rfl⟩ hl (Nat.le_of_ble_eq_true rfl) dX7_count_205 ⟨Nat.le_of_ble_eq_true rfl, Nat.le_of_ble_eq_true rfl⟩ (fun H locs hP hS => ?_)
  refine lv_if_eq (tgt := 226) hx hb dX7_count_208 (by decide) (fun hc => ?_) (fun hc => ?_)
  · have hf := if_t hf hc
    refine lv_ldc (v := (-1000001)) hx hb hown (hts _ w_286) dX7_count_226 ?_
    exact w_X7_count_b228 E hf hP hS (lv_sub hl [] rfl)
  · have hf := if_f hf hc
    refine lv_aload_n hx hb dX7_count_211 rfl (lv_at hl 0 rfl) ?_
    refine gf_X7_now E hP w_256 dX7_count_212 ?_
    refine gf_X5_settings E hP pg1 w_135 dX7_count_215 ?_
    refine lv_iload_n hx hb dX7_count_218 rfl (lv_at hl 1 rfl) ?_
    refine lv_bipush (v := 20) hx hb dX7_count_219 (by decide) ?_
    refine lv_isub hx hb dX7_count_221 ?_
    refine ck_e hf (fun hi hf => ?_)
    refine la_P1 E hP pg1 hi dX7_count_222 ?_
    refine lv_goto (tgt := 228) hx hb dX7_count_223 (by decide) ?_
    exact w_X7_count_b228 E hf hP hS (lv_sub hl [] rfl)
theorem c_X7_count (l : Launch) {G : GG} {sz : Nat} {ns : Nat} {x1 : Int32} {M : Mem} {r : Int32} {M' : Mem} (hf : f_X7_count x1 M = some (r, M')) : CtI l yX7_count cX7_count 2 (some .int) rm_X7_count [.ref (adC G 0 0), .int x1] G (AC G) (XC G ns) sz M r (XC G ns) sz M' := by
  refine Ct_of (by decide) (Nat.le_of_ble_eq_true rfl) (fun p e s m below meth c ls hx hb hr hlocks hml hown hts hK hP hl => ?_)
  exact w_X7_count ⟨hx, hb, hr, hlocks, hml, hown, hts, hK⟩ hf hP va_S.rf hl
set_option maxRecDepth 100000 in
theorem cv_X7_count {p : Program} {l : Launch} {e : Env} {R : Room} {s : State} {m : MethodId} {args : Array Value} {below : List Frame} {meth : Method} {c : Code} {H : Heap} {locs : List Loc} {cells slots : Nat} {Q : State → Prop} {cc : ByteArray} {pc nL index : Nat} {ret : Option FieldType} {own : String} {ls : Array Slot} {rest : List Value} {l' : List (Nat × Value)} {G : GG} {sz : Nat} {ns : Nat} {M : Mem} (E : Cx p s m args meth c cc ret nL own G) (hP : PW G (AC G) (XC G ns) sz M s H) (hS : va_S (AC G) s.heap H locs) {x1 : Int32} {r : Int32} {M' : Mem} (hq : f_X7_count x1 M = some (r, M')) (w1 : Cond.methodLink own index yX7_count ∈ lw_all) (hR : 4 ≤ R.frames ∧ 85 ≤ R.locals) (hl : lv_has ls nL l') (hrest : (rest.map fun v => v.category).sum ≤ 8) (hdg : decode cc pc = .ok (.invokevirtual index, 3)) (hcs : cells ≤ R.cells ∧ slots ≤ R.slots)
    (kk : ∀ (H1 : Heap) (locs1 : List Loc), PW G (AC G) (XC G ns) sz M' s H1 → va_S (AC G) s.heap H1 locs1 → W p l e R s m args below meth c H1 locs1 cells slots Q (F0 m (pc + 3) ls (.int r :: rest))) : W p l e R s m args below meth c H locs cells slots Q (F0 m pc ls (.int x1 :: .ref (adC G 0 0) :: rest)) := by
  obtain ⟨hx, hb, hr, hlocks, hml, hown, hts, hK⟩ := E
  exact kc_i (kc_runV (na := 1) (q := (RX7, TX7, 6)) hx hb hml hts hown hK hP 0 0 (dm0 (by decide)) rfl rfl rfl (c_X7_count l hq) w1 w_415 w_416 w_1 w_417 (by decide +kernel) hR rfl hl rfl hrest hdg hcs) hS kk
/-! X7_undo -/
abbrev rm_X7_undo : Room := { frames := 5, cells := 0, slots := 0, locals := 146 }
def f_X7_undo (ns : Nat) (M : Mem) : Option (Int32 × Mem) :=
(if (M 0 1 2) = 0 then
  some ((-1000002), M)
else
  ob (f_X1_restoreTo 1 ns M) fun _ M_21 =>
  some ((M_21 0 1 2), M_21))
set_option maxHeartbeats 4000000 in
set_option maxRecDepth 100000 in
theorem w_X7_undo {p : Program} {l : Launch} {e : Env} {s : State} {m : MethodId} {args : Array Value} {below : List Frame} {meth : Method} {c : Code} {G : GG} {sz : Nat} {ns : Nat} {r : Int32} {M' : Mem} (E : Cx p s m args meth c cX7_undo (some .int) 1 RX7 G) {M : Mem} {H : Heap} {locs : List Loc} {ls : Array Slot} (hf : f_X7_undo ns M = some (r, M')) (hP : PW G (AC G) (XC G ns) sz M s H) (hS : va_S (AC G) s.heap H locs) (hl : lv_has ls 1 [(0, .ref (adC G 0 0))]) : W p l e rm_X7_undo s m args below meth c H locs 0 0 (MQ below (va_Qi (fun (r2 : Int32) (_ : Unit) => r2 = r) (fun _ t => PW G (AC G) (XC G ns) sz M' t t.heap) (AC G)) args s 0 0 (AC G)) (F0 m 0 ls []) := by
  obtain ⟨hx, hb, hr, hlocks, hml, hown, hts, hK⟩ := id E
  unfold f_X7_undo at hf
  refine lv_aload_n hx hb dX7_undo_0 rfl (lv_at hl 0 rfl) ?_
  refine gf_X7_history E hP w_258 dX7_undo_1 ?_
  refine gf_X1_many E hP w_182 dX7_undo_4 ?_
  refine lv_if_ne (tgt := 13) hx hb dX7_undo_7 (by decide) (fun hc => ?_) (fun hc => ?_)
  · have hf := if_f hf hc
    refine lv_aload_n hx hb dX7_undo_13 rfl (lv_at hl 0 rfl) ?_
    refine gf_X7_history E hP w_258 dX7_undo_14 ?_
    refine lv_aload_n hx hb dX7_undo_17 rfl (lv_at hl 0 rfl) ?_
    refine gf_X7_now E hP w_256 dX7_undo_18 ?_
    refine ob_e hf (fun r_21 M_21 hq hf => ?_)
    refine cv_X1_restoreTo E hP hS pg1 hq w_448 ⟨Nat.le_of_ble_eq_true rfl, Nat.le_of_ble_eq_true rfl⟩ hl (Nat.le_of_ble_eq_true rfl) dX7_undo_21 ⟨Nat.le_of_ble_eq_true rfl, Nat.le_of_ble_eq_true rfl⟩ (fun H locs hP hS => ?_)
    refine lv_aload_n hx hb dX7_undo_24 rfl (lv_at hl 0 rfl) ?_
    refine gf_X7_history E hP w_258 dX7_undo_25 ?_
    refine gf_X1_many E hP w_182 dX7_undo_28 ?_
    exact en_i hf hx hb hr rfl hlocks hP hS dX7_undo_31
  · have hf := if_t hf hc
    refine lv_ldc (v := (-1000002)) hx hb hown (hts _ w_327) dX7_undo_10 ?_
    exact en_i hf hx hb hr rfl hlocks hP hS dX7_undo_12
theorem c_X7_undo (l : Launch) {G : GG} {sz : Nat} {ns : Nat} {M : Mem} {r : Int32} {M' : Mem} (hf : f_X7_undo ns M = some (r, M')) : CtI l yX7_undo cX7_undo 1 (some .int) rm_X7_undo [.ref (adC G 0 0)] G (AC G) (XC G ns) sz M r (XC G ns) sz M' := by
  refine Ct_of (by decide) (Nat.le_of_ble_eq_true rfl) (fun p e s m below meth c ls hx hb hr hlocks hml hown hts hK hP hl => ?_)
  exact w_X7_undo ⟨hx, hb, hr, hlocks, hml, hown, hts, hK⟩ hf hP va_S.rf hl
set_option maxRecDepth 100000 in
theorem cv_X7_undo {p : Program} {l : Launch} {e : Env} {R : Room} {s : State} {m : MethodId} {args : Array Value} {below : List Frame} {meth : Method} {c : Code} {H : Heap} {locs : List Loc} {cells slots : Nat} {Q : State → Prop} {cc : ByteArray} {pc nL index : Nat} {ret : Option FieldType} {own : String} {ls : Array Slot} {rest : List Value} {l' : List (Nat × Value)} {G : GG} {sz : Nat} {ns : Nat} {M : Mem} (E : Cx p s m args meth c cc ret nL own G) (hP : PW G (AC G) (XC G ns) sz M s H) (hS : va_S (AC G) s.heap H locs) {r : Int32} {M' : Mem} (hq : f_X7_undo ns M = some (r, M')) (w1 : Cond.methodLink own index yX7_undo ∈ lw_all) (hR : 6 ≤ R.frames ∧ 166 ≤ R.locals) (hl : lv_has ls nL l') (hrest : (rest.map fun v => v.category).sum ≤ 8) (hdg : decode cc pc = .ok (.invokevirtual index, 3)) (hcs : cells ≤ R.cells ∧ slots ≤ R.slots)
    (kk : ∀ (H1 : Heap) (locs1 : List Loc), PW G (AC G) (XC G ns) sz M' s H1 → va_S (AC G) s.heap H1 locs1 → W p l e R s m args below meth c H1 locs1 cells slots Q (F0 m (pc + 3) ls (.int r :: rest))) : W p l e R s m args below meth c H locs cells slots Q (F0 m pc ls (.ref (adC G 0 0) :: rest)) := by
  obtain ⟨hx, hb, hr, hlocks, hml, hown, hts, hK⟩ := E
  exact kc_i (kc_runV (na := 0) (q := (RX7, TX7, 6)) hx hb hml hts hown hK hP 0 0 (dm0 (by decide)) rfl rfl rfl (c_X7_undo l hq) w1 w_445 w_446 w_1 w_447 (by decide +kernel) hR rfl hl rfl hrest hdg hcs) hS kk
