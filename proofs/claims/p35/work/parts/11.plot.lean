/-! X5_copyFrom -/
abbrev rm_X5_copyFrom : Room := { frames := 3, cells := 0, slots := 0, locals := 102 }
def f_X5_copyFrom (g g2 : Nat) (M : Mem) : Option (Unit × Mem) :=
ob (f_X7_copy g2 1 5 g 1 5 M) fun _ M_8 =>
ob (f_X4_copyFrom g g2 M_8) fun _ M_19 =>
ob (f_X2_copyFrom g g2 M_19) fun _ M_30 =>
lt (up3 M_30 g 0 3 (M_30 g2 0 3)) fun M_38 =>
lt (up3 M_38 g 0 4 (M_38 g2 0 4)) fun M_46 =>
lt (up3 M_46 g 0 5 (M_46 g2 0 5)) fun M_54 =>
lt (up3 M_54 g 0 6 (M_54 g2 0 6)) fun M_62 =>
lt (up3 M_62 g 0 7 (M_62 g2 0 7)) fun M_70 =>
lt (up3 M_70 g 0 8 (M_70 g2 0 8)) fun M_78 =>
some ((), M_78)
set_option maxHeartbeats 4000000 in
set_option maxRecDepth 100000 in
theorem w_X5_copyFrom {p : Program} {l : Launch} {e : Env} {s : State} {m : MethodId} {args : Array Value} {below : List Frame} {meth : Method} {c : Code} {G : GG} {sz : Nat} {ns : Nat} {g g2 : Nat} {r : Unit} {M' : Mem} (E : Cx p s m args meth c cX5_copyFrom none 2 RX5 G) (hg : pg ns g) (hg2 : pg ns g2) {M : Mem} {H : Heap} {locs : List Loc} {ls : Array Slot} (hf : f_X5_copyFrom g g2 M = some (r, M')) (hP : PW G (AC G) (XC G ns) sz M s H) (hS : va_S (AC G) s.heap H locs) (hl : lv_has ls 2 [(0, .ref (adC G g 0)), (1, .ref (adC G g2 0))]) : W p l e rm_X5_copyFrom s m args below meth c H locs 0 0 (MQ below (va_Qv (fun (_ : Unit) => True) (fun _ t => PW G (AC G) (XC G ns) sz M' t t.heap) (AC G)) args s 0 0 (AC G)) (F0 m 0 ls []) := by
  obtain ⟨hx, hb, hr, hlocks, hml, hown, hts, hK⟩ := id E
  unfold f_X5_copyFrom at hf
  refine lv_aload_n hx hb dX5_copyFrom_0 rfl (lv_at hl 1 rfl) ?_
  refine gf_X5_settings E hP hg2 w_134 dX5_copyFrom_1 ?_
  refine lv_aload_n hx hb dX5_copyFrom_4 rfl (lv_at hl 0 rfl) ?_
  refine gf_X5_settings E hP hg w_134 dX5_copyFrom_5 ?_
  refine ob_e hf (fun r_8 M_8 hq hf => ?_)
  refine cn_X7_copy E hP hS (dmP hg2 (by decide)) (ea_P1 hg2) (dmP hg (by decide)) (ea_P1 hg) hq w_296 ⟨Nat.le_of_ble_eq_true rfl, Nat.le_of_ble_eq_true rfl⟩ hl (Nat.le_of_ble_eq_true rfl) dX5_copyFrom_8 ⟨Nat.le_of_ble_eq_true rfl, Nat.le_of_ble_eq_true rfl⟩ (fun H locs hP hS => ?_)
  refine lv_aload_n hx hb dX5_copyFrom_11 rfl (lv_at hl 0 rfl) ?_
  refine gf_X5_pens E hP hg w_136 dX5_copyFrom_12 ?_
  refine lv_aload_n hx hb dX5_copyFrom_15 rfl (lv_at hl 1 rfl) ?_
  refine gf_X5_pens E hP hg2 w_136 dX5_copyFrom_16 ?_
  refine ob_e hf (fun r_19 M_19 hq hf => ?_)
  refine cv_X4_copyFrom E hP hS hg hg2 hq w_305 ⟨Nat.le_of_ble_eq_true rfl, Nat.le_of_ble_eq_true rfl⟩ hl (Nat.le_of_ble_eq_true rfl) dX5_copyFrom_19 ⟨Nat.le_of_ble_eq_true rfl, Nat.le_of_ble_eq_true rfl⟩ (fun H locs hP hS => ?_)
  refine lv_aload_n hx hb dX5_copyFrom_22 rfl (lv_at hl 0 rfl) ?_
  refine gf_X5_lines E hP hg w_138 dX5_copyFrom_23 ?_
  refine lv_aload_n hx hb dX5_copyFrom_26 rfl (lv_at hl 1 rfl) ?_
  refine gf_X5_lines E hP hg2 w_138 dX5_copyFrom_27 ?_
  refine ob_e hf (fun r_30 M_30 hq hf => ?_)
  refine cv_X2_copyFrom E hP hS hg hg2 hq w_310 ⟨Nat.le_of_ble_eq_true rfl, Nat.le_of_ble_eq_true rfl⟩ hl (Nat.le_of_ble_eq_true rfl) dX5_copyFrom_30 ⟨Nat.le_of_ble_eq_true rfl, Nat.le_of_ble_eq_true rfl⟩ (fun H locs hP hS => ?_)
  refine lv_aload_n hx hb dX5_copyFrom_33 rfl (lv_at hl 0 rfl) ?_
  refine lv_aload_n hx hb dX5_copyFrom_34 rfl (lv_at hl 1 rfl) ?_
  refine gf_X5_time E hP hg2 w_140 dX5_copyFrom_35 ?_
  refine lt_e hf (fun M_38 hM_38 hf => ?_)
  refine pf_X5_time E hP hS hg hM_38 w_140 dX5_copyFrom_38 (fun H locs hP hS => ?_)
  refine lv_aload_n hx hb dX5_copyFrom_41 rfl (lv_at hl 0 rfl) ?_
  refine lv_aload_n hx hb dX5_copyFrom_42 rfl (lv_at hl 1 rfl) ?_
  refine gf_X5_hand E hP hg2 w_142 dX5_copyFrom_43 ?_
  refine lt_e hf (fun M_46 hM_46 hf => ?_)
  refine pf_X5_hand E hP hS hg hM_46 w_142 dX5_copyFrom_46 (fun H locs hP hS => ?_)
  refine lv_aload_n hx hb dX5_copyFrom_49 rfl (lv_at hl 0 rfl) ?_
  refine lv_aload_n hx hb dX5_copyFrom_50 rfl (lv_at hl 1 rfl) ?_
  refine gf_X5_x E hP hg2 w_144 dX5_copyFrom_51 ?_
  refine lt_e hf (fun M_54 hM_54 hf => ?_)
  refine pf_X5_x E hP hS hg hM_54 w_144 dX5_copyFrom_54 (fun H locs hP hS => ?_)
  refine lv_aload_n hx hb dX5_copyFrom_57 rfl (lv_at hl 0 rfl) ?_
  refine lv_aload_n hx hb dX5_copyFrom_58 rfl (lv_at hl 1 rfl) ?_
  refine gf_X5_y E hP hg2 w_146 dX5_copyFrom_59 ?_
  refine lt_e hf (fun M_62 hM_62 hf => ?_)
  refine pf_X5_y E hP hS hg hM_62 w_146 dX5_copyFrom_62 (fun H locs hP hS => ?_)
  refine lv_aload_n hx hb dX5_copyFrom_65 rfl (lv_at hl 0 rfl) ?_
  refine lv_aload_n hx hb dX5_copyFrom_66 rfl (lv_at hl 1 rfl) ?_
  refine gf_X5_swaps E hP hg2 w_148 dX5_copyFrom_67 ?_
  refine lt_e hf (fun M_70 hM_70 hf => ?_)
  refine pf_X5_swaps E hP hS hg hM_70 w_148 dX5_copyFrom_70 (fun H locs hP hS => ?_)
  refine lv_aload_n hx hb dX5_copyFrom_73 rfl (lv_at hl 0 rfl) ?_
  refine lv_aload_n hx hb dX5_copyFrom_74 rfl (lv_at hl 1 rfl) ?_
  refine gf_X5_travelled E hP hg2 w_150 dX5_copyFrom_75 ?_
  refine lt_e hf (fun M_78 hM_78 hf => ?_)
  refine pf_X5_travelled E hP hS hg hM_78 w_150 dX5_copyFrom_78 (fun H locs hP hS => ?_)
  exact en_v hf hx hb hr hlocks hP hS dX5_copyFrom_81
theorem c_X5_copyFrom (l : Launch) {G : GG} {sz : Nat} {ns : Nat} {g g2 : Nat} (hg : pg ns g) (hg2 : pg ns g2) {M : Mem} {r : Unit} {M' : Mem} (hf : f_X5_copyFrom g g2 M = some (r, M')) : CtV l yX5_copyFrom cX5_copyFrom 2 none rm_X5_copyFrom [.ref (adC G g 0), .ref (adC G g2 0)] G (AC G) (XC G ns) sz M r (XC G ns) sz M' := by
  refine Ct_of (by decide) (Nat.le_of_ble_eq_true rfl) (fun p e s m below meth c ls hx hb hr hlocks hml hown hts hK hP hl => ?_)
  exact w_X5_copyFrom ⟨hx, hb, hr, hlocks, hml, hown, hts, hK⟩ hg hg2 hf hP va_S.rf hl
set_option maxRecDepth 100000 in
theorem cv_X5_copyFrom {p : Program} {l : Launch} {e : Env} {R : Room} {s : State} {m : MethodId} {args : Array Value} {below : List Frame} {meth : Method} {c : Code} {H : Heap} {locs : List Loc} {cells slots : Nat} {Q : State → Prop} {cc : ByteArray} {pc nL index : Nat} {ret : Option FieldType} {own : String} {ls : Array Slot} {rest : List Value} {l' : List (Nat × Value)} {G : GG} {sz : Nat} {ns : Nat} {g g2 : Nat} {M : Mem} (E : Cx p s m args meth c cc ret nL own G) (hP : PW G (AC G) (XC G ns) sz M s H) (hS : va_S (AC G) s.heap H locs) (hg : pg ns g) (hg2 : pg ns g2) {r : Unit} {M' : Mem} (hq : f_X5_copyFrom g g2 M = some (r, M')) (w1 : Cond.methodLink own index yX5_copyFrom ∈ lw_all) (hR : 4 ≤ R.frames ∧ 123 ≤ R.locals) (hl : lv_has ls nL l') (hrest : (rest.map fun v => v.category).sum ≤ 8) (hdg : decode cc pc = .ok (.invokevirtual index, 3)) (hcs : cells ≤ R.cells ∧ slots ≤ R.slots)
    (kk : ∀ (H1 : Heap) (locs1 : List Loc), PW G (AC G) (XC G ns) sz M' s H1 → va_S (AC G) s.heap H1 locs1 → W p l e R s m args below meth c H1 locs1 cells slots Q (F0 m (pc + 3) ls (rest))) : W p l e R s m args below meth c H locs cells slots Q (F0 m pc ls (.ref (adC G g2 0) :: .ref (adC G g 0) :: rest)) := by
  obtain ⟨hx, hb, hr, hlocks, hml, hown, hts, hK⟩ := E
  obtain ⟨g0, rfl⟩ := pg_s hg
  exact kc_v (kc_runV (na := 1) (q := (RX5, TX5, 9)) hx hb hml hts hown hK hP (g0 + 1) 0 (dmP hg (by decide)) rfl rfl rfl (c_X5_copyFrom l hg hg2 hq) w1 w_293 w_294 w_2 w_295 (by decide +kernel) hR rfl hl rfl hrest hdg hcs) hS kk
/-! X5_isStriking -/
abbrev rm_X5_isStriking : Room := { frames := 2, cells := 0, slots := 0, locals := 44 }
def f_X5_isStriking_b43 (g : Nat) (s0 : Int32) (M : Mem) : Option (Int32 × Mem) :=
ck (bl s0) <|
some (s0, M)
def f_X5_isStriking_b42 (g : Nat) (M : Mem) : Option (Int32 × Mem) :=
f_X5_isStriking_b43 g 0 M
def f_X5_isStriking (g : Nat) (x1 : Int32) (M : Mem) : Option (Int32 × Mem) :=
ob (f_X4_isAway g x1 M) fun r_5 M_5 =>
(if r_5 = 0 then
  ck (ibd x1 5) <|
  ob (f_X4_leastDrawnBut g (-1) M_5) fun r_25 M_25 =>
  (if ((M_5 g 7 (ix x1)) - r_25) ≤ (M_25 g 1 (ix 0)) then
    f_X5_isStriking_b42 g M_25
  else
    f_X5_isStriking_b43 g 1 M_25)
else
  f_X5_isStriking_b42 g M_5)
set_option maxHeartbeats 4000000 in
set_option maxRecDepth 100000 in
theorem w_X5_isStriking_b43 {p : Program} {l : Launch} {e : Env} {s : State} {m : MethodId} {args : Array Value} {below : List Frame} {meth : Method} {c : Code} {G : GG} {sz : Nat} {ns : Nat} {g : Nat} {r : Int32} {M' : Mem} (E : Cx p s m args meth c cX5_isStriking (some .boolean) 2 RX5 G) (hg : pg ns g) {s0 : Int32} {M : Mem} {H : Heap} {locs : List Loc} {ls : Array Slot} (hf : f_X5_isStriking_b43 g s0 M = some (r, M')) (hP : PW G (AC G) (XC G ns) sz M s H) (hS : va_S (AC G) s.heap H locs) (hl : lv_has ls 2 []) : W p l e rm_X5_isStriking s m args below meth c H locs 0 0 (MQ below (va_Qi (fun (r2 : Int32) (_ : Unit) => r2 = r) (fun _ t => PW G (AC G) (XC G ns) sz M' t t.heap) (AC G)) args s 0 0 (AC G)) (F0 m 43 ls [.int s0]) := by
  obtain ⟨hx, hb, hr, hlocks, hml, hown, hts, hK⟩ := id E
  unfold f_X5_isStriking_b43 at hf
  refine ck_e hf (fun hn hf => ?_)
  exact en_i hf hx hb hr (bl_nar hn) hlocks hP hS dX5_isStriking_43
set_option maxHeartbeats 4000000 in
set_option maxRecDepth 100000 in
theorem w_X5_isStriking_b42 {p : Program} {l : Launch} {e : Env} {s : State} {m : MethodId} {args : Array Value} {below : List Frame} {meth : Method} {c : Code} {G : GG} {sz : Nat} {ns : Nat} {g : Nat} {r : Int32} {M' : Mem} (E : Cx p s m args meth c cX5_isStriking (some .boolean) 2 RX5 G) (hg : pg ns g) {M : Mem} {H : Heap} {locs : List Loc} {ls : Array Slot} (hf : f_X5_isStriking_b42 g M = some (r, M')) (hP : PW G (AC G) (XC G ns) sz M s H) (hS : va_S (AC G) s.heap H locs) (hl : lv_has ls 2 []) : W p l e rm_X5_isStriking s m args below meth c H locs 0 0 (MQ below (va_Qi (fun (r2 : Int32) (_ : Unit) => r2 = r) (fun _ t => PW G (AC G) (XC G ns) sz M' t t.heap) (AC G)) args s 0 0 (AC G)) (F0 m 42 ls []) := by
  obtain ⟨hx, hb, hr, hlocks, hml, hown, hts, hK⟩ := id E
  unfold f_X5_isStriking_b42 at hf
  refine lv_iconst (v := 0) hx hb dX5_isStriking_42 (by decide) ?_
  exact w_X5_isStriking_b43 E hg hf hP hS (lv_sub hl [] rfl)
set_option maxHeartbeats 4000000 in
set_option maxRecDepth 100000 in
theorem w_X5_isStriking {p : Program} {l : Launch} {e : Env} {s : State} {m : MethodId} {args : Array Value} {below : List Frame} {meth : Method} {c : Code} {G : GG} {sz : Nat} {ns : Nat} {g : Nat} {r : Int32} {M' : Mem} (E : Cx p s m args meth c cX5_isStriking (some .boolean) 2 RX5 G) (hg : pg ns g) {x1 : Int32} {M : Mem} {H : Heap} {locs : List Loc} {ls : Array Slot} (hf : f_X5_isStriking g x1 M = some (r, M')) (hP : PW G (AC G) (XC G ns) sz M s H) (hS : va_S (AC G) s.heap H locs) (hl : lv_has ls 2 [(0, .ref (adC G g 0)), (1, .int x1)]) : W p l e rm_X5_isStriking s m args below meth c H locs 0 0 (MQ below (va_Qi (fun (r2 : Int32) (_ : Unit) => r2 = r) (fun _ t => PW G (AC G) (XC G ns) sz M' t t.heap) (AC G)) args s 0 0 (AC G)) (F0 m 0 ls []) := by
  obtain ⟨hx, hb, hr, hlocks, hml, hown, hts, hK⟩ := id E
  unfold f_X5_isStriking at hf
  refine lv_aload_n hx hb dX5_isStriking_0 rfl (lv_at hl 0 rfl) ?_
  refine gf_X5_pens E hP hg w_136 dX5_isStriking_1 ?_
  refine lv_iload_n hx hb dX5_isStriking_4 rfl (lv_at hl 1 rfl) ?_
  refine ob_e hf (fun r_5 M_5 hq hf => ?_)
  refine cv_X4_isAway E hP hS hg hq w_383 ⟨Nat.le_of_ble_eq_true rfl, Nat.le_of_ble_eq_true rfl⟩ hl (Nat.le_of_ble_eq_true rfl) dX5_isStriking_5 ⟨Nat.le_of_ble_eq_true rfl, Nat.le_of_ble_eq_true rfl⟩ (fun H locs hP hS => ?_)
  refine lv_if_ne (tgt := 42) hx hb dX5_isStriking_8 (by decide) (fun hc => ?_) (fun hc => ?_)
  · have hf := if_f hf hc
    exact w_X5_isStriking_b42 E hg hf hP hS (lv_sub hl [] rfl)
  · have hf := if_t hf hc
    refine lv_aload_n hx hb dX5_isStriking_11 rfl (lv_at hl 0 rfl) ?_
    refine gf_X5_pens E hP hg w_136 dX5_isStriking_12 ?_
    refine gf_X4_drawn E hP hg w_54 dX5_isStriking_15 ?_
    refine lv_iload_n hx hb dX5_isStriking_18 rfl (lv_at hl 1 rfl) ?_
    refine ck_e hf (fun hi hf => ?_)
    refine la_P7 E hP hg hi dX5_isStriking_19 ?_
    refine lv_aload_n hx hb dX5_isStriking_20 rfl (lv_at hl 0 rfl) ?_
    refine gf_X5_pens E hP hg w_136 dX5_isStriking_21 ?_
    refine lv_iconst (v := (-1)) hx hb dX5_isStriking_24 (by decide) ?_
    refine ob_e hf (fun r_25 M_25 hq hf => ?_)
    refine cv_X4_leastDrawnBut E hP hS hg hq w_470 ⟨Nat.le_of_ble_eq_true rfl, Nat.le_of_ble_eq_true rfl⟩ hl (Nat.le_of_ble_eq_true rfl) dX5_isStriking_25 ⟨Nat.le_of_ble_eq_true rfl, Nat.le_of_ble_eq_true rfl⟩ (fun H locs hP hS => ?_)
    refine lv_isub hx hb dX5_isStriking_28 ?_
    refine lv_aload_n hx hb dX5_isStriking_29 rfl (lv_at hl 0 rfl) ?_
    refine gf_X5_settings E hP hg w_134 dX5_isStriking_30 ?_
    refine lv_iconst (v := 0) hx hb dX5_isStriking_33 (by decide) ?_
    refine la_P1 E hP hg (by decide) dX5_isStriking_34 ?_
    refine lv_icmp_le (tgt := 42) hx hb dX5_isStriking_35 (by decide) (fun hc => ?_) (fun hc => ?_)
    · have hf := if_t hf hc
      exact w_X5_isStriking_b42 E hg hf hP hS (lv_sub hl [] rfl)
    · have hf := if_f hf hc
      refine lv_iconst (v := 1) hx hb dX5_isStriking_38 (by decide) ?_
      refine lv_goto (tgt := 43) hx hb dX5_isStriking_39 (by decide) ?_
      exact w_X5_isStriking_b43 E hg hf hP hS (lv_sub hl [] rfl)
theorem c_X5_isStriking (l : Launch) {G : GG} {sz : Nat} {ns : Nat} {g : Nat} (hg : pg ns g) {x1 : Int32} {M : Mem} {r : Int32} {M' : Mem} (hf : f_X5_isStriking g x1 M = some (r, M')) : CtI l yX5_isStriking cX5_isStriking 2 (some .boolean) rm_X5_isStriking [.ref (adC G g 0), .int x1] G (AC G) (XC G ns) sz M r (XC G ns) sz M' := by
  refine Ct_of (by decide) (Nat.le_of_ble_eq_true rfl) (fun p e s m below meth c ls hx hb hr hlocks hml hown hts hK hP hl => ?_)
  exact w_X5_isStriking ⟨hx, hb, hr, hlocks, hml, hown, hts, hK⟩ hg hf hP va_S.rf hl
set_option maxRecDepth 100000 in
theorem cv_X5_isStriking {p : Program} {l : Launch} {e : Env} {R : Room} {s : State} {m : MethodId} {args : Array Value} {below : List Frame} {meth : Method} {c : Code} {H : Heap} {locs : List Loc} {cells slots : Nat} {Q : State → Prop} {cc : ByteArray} {pc nL index : Nat} {ret : Option FieldType} {own : String} {ls : Array Slot} {rest : List Value} {l' : List (Nat × Value)} {G : GG} {sz : Nat} {ns : Nat} {g : Nat} {M : Mem} (E : Cx p s m args meth c cc ret nL own G) (hP : PW G (AC G) (XC G ns) sz M s H) (hS : va_S (AC G) s.heap H locs) (hg : pg ns g) {x1 : Int32} {r : Int32} {M' : Mem} (hq : f_X5_isStriking g x1 M = some (r, M')) (w1 : Cond.methodLink own index yX5_isStriking ∈ lw_all) (hR : 3 ≤ R.frames ∧ 65 ≤ R.locals) (hl : lv_has ls nL l') (hrest : (rest.map fun v => v.category).sum ≤ 8) (hdg : decode cc pc = .ok (.invokevirtual index, 3)) (hcs : cells ≤ R.cells ∧ slots ≤ R.slots)
    (kk : ∀ (H1 : Heap) (locs1 : List Loc), PW G (AC G) (XC G ns) sz M' s H1 → va_S (AC G) s.heap H1 locs1 → W p l e R s m args below meth c H1 locs1 cells slots Q (F0 m (pc + 3) ls (.int r :: rest))) : W p l e R s m args below meth c H locs cells slots Q (F0 m pc ls (.int x1 :: .ref (adC G g 0) :: rest)) := by
  obtain ⟨hx, hb, hr, hlocks, hml, hown, hts, hK⟩ := E
  obtain ⟨g0, rfl⟩ := pg_s hg
  exact kc_i (kc_runV (na := 1) (q := (RX5, TX5, 9)) hx hb hml hts hown hK hP (g0 + 1) 0 (dmP hg (by decide)) rfl rfl rfl (c_X5_isStriking l hg hq) w1 w_467 w_468 w_2 w_469 (by decide +kernel) hR rfl hl rfl hrest hdg hcs) hS kk
/-! X5_isClogged -/
abbrev rm_X5_isClogged : Room := { frames := 0, cells := 0, slots := 0, locals := 0 }
def f_X5_isClogged_b23 (g : Nat) (s0 : Int32) (M : Mem) : Option (Int32 × Mem) :=
ck (bl s0) <|
some (s0, M)
def f_X5_isClogged (g : Nat) (x1 : Int32) (M : Mem) : Option (Int32 × Mem) :=
ck (ibd x1 5) <|
(if (M g 8 (ix x1)) ≤ (M g 1 (ix 1)) then
  f_X5_isClogged_b23 g 0 M
else
  f_X5_isClogged_b23 g 1 M)
set_option maxHeartbeats 4000000 in
set_option maxRecDepth 100000 in
theorem w_X5_isClogged_b23 {p : Program} {l : Launch} {e : Env} {s : State} {m : MethodId} {args : Array Value} {below : List Frame} {meth : Method} {c : Code} {G : GG} {sz : Nat} {ns : Nat} {g : Nat} {r : Int32} {M' : Mem} (E : Cx p s m args meth c cX5_isClogged (some .boolean) 2 RX5 G) (hg : pg ns g) {s0 : Int32} {M : Mem} {H : Heap} {locs : List Loc} {ls : Array Slot} (hf : f_X5_isClogged_b23 g s0 M = some (r, M')) (hP : PW G (AC G) (XC G ns) sz M s H) (hS : va_S (AC G) s.heap H locs) (hl : lv_has ls 2 []) : W p l e rm_X5_isClogged s m args below meth c H locs 0 0 (MQ below (va_Qi (fun (r2 : Int32) (_ : Unit) => r2 = r) (fun _ t => PW G (AC G) (XC G ns) sz M' t t.heap) (AC G)) args s 0 0 (AC G)) (F0 m 23 ls [.int s0]) := by
  obtain ⟨hx, hb, hr, hlocks, hml, hown, hts, hK⟩ := id E
  unfold f_X5_isClogged_b23 at hf
  refine ck_e hf (fun hn hf => ?_)
  exact en_i hf hx hb hr (bl_nar hn) hlocks hP hS dX5_isClogged_23
set_option maxHeartbeats 4000000 in
set_option maxRecDepth 100000 in
theorem w_X5_isClogged {p : Program} {l : Launch} {e : Env} {s : State} {m : MethodId} {args : Array Value} {below : List Frame} {meth : Method} {c : Code} {G : GG} {sz : Nat} {ns : Nat} {g : Nat} {r : Int32} {M' : Mem} (E : Cx p s m args meth c cX5_isClogged (some .boolean) 2 RX5 G) (hg : pg ns g) {x1 : Int32} {M : Mem} {H : Heap} {locs : List Loc} {ls : Array Slot} (hf : f_X5_isClogged g x1 M = some (r, M')) (hP : PW G (AC G) (XC G ns) sz M s H) (hS : va_S (AC G) s.heap H locs) (hl : lv_has ls 2 [(0, .ref (adC G g 0)), (1, .int x1)]) : W p l e rm_X5_isClogged s m args below meth c H locs 0 0 (MQ below (va_Qi (fun (r2 : Int32) (_ : Unit) => r2 = r) (fun _ t => PW G (AC G) (XC G ns) sz M' t t.heap) (AC G)) args s 0 0 (AC G)) (F0 m 0 ls []) := by
  obtain ⟨hx, hb, hr, hlocks, hml, hown, hts, hK⟩ := id E
  unfold f_X5_isClogged at hf
  refine lv_aload_n hx hb dX5_isClogged_0 rfl (lv_at hl 0 rfl) ?_
  refine gf_X5_pens E hP hg w_136 dX5_isClogged_1 ?_
  refine gf_X4_idle E hP hg w_57 dX5_isClogged_4 ?_
  refine lv_iload_n hx hb dX5_isClogged_7 rfl (lv_at hl 1 rfl) ?_
  refine ck_e hf (fun hi hf => ?_)
  refine la_P8 E hP hg hi dX5_isClogged_8 ?_
  refine lv_aload_n hx hb dX5_isClogged_9 rfl (lv_at hl 0 rfl) ?_
  refine gf_X5_settings E hP hg w_134 dX5_isClogged_10 ?_
  refine lv_iconst (v := 1) hx hb dX5_isClogged_13 (by decide) ?_
  refine la_P1 E hP hg (by decide) dX5_isClogged_14 ?_
  refine lv_icmp_le (tgt := 22) hx hb dX5_isClogged_15 (by decide) (fun hc => ?_) (fun hc => ?_)
  · have hf := if_t hf hc
    refine lv_iconst (v := 0) hx hb dX5_isClogged_22 (by decide) ?_
    exact w_X5_isClogged_b23 E hg hf hP hS (lv_sub hl [] rfl)
  · have hf := if_f hf hc
    refine lv_iconst (v := 1) hx hb dX5_isClogged_18 (by decide) ?_
    refine lv_goto (tgt := 23) hx hb dX5_isClogged_19 (by decide) ?_
    exact w_X5_isClogged_b23 E hg hf hP hS (lv_sub hl [] rfl)
theorem c_X5_isClogged (l : Launch) {G : GG} {sz : Nat} {ns : Nat} {g : Nat} (hg : pg ns g) {x1 : Int32} {M : Mem} {r : Int32} {M' : Mem} (hf : f_X5_isClogged g x1 M = some (r, M')) : CtI l yX5_isClogged cX5_isClogged 2 (some .boolean) rm_X5_isClogged [.ref (adC G g 0), .int x1] G (AC G) (XC G ns) sz M r (XC G ns) sz M' := by
  refine Ct_of (by decide) (Nat.le_of_ble_eq_true rfl) (fun p e s m below meth c ls hx hb hr hlocks hml hown hts hK hP hl => ?_)
  exact w_X5_isClogged ⟨hx, hb, hr, hlocks, hml, hown, hts, hK⟩ hg hf hP va_S.rf hl
set_option maxRecDepth 100000 in
theorem cv_X5_isClogged {p : Program} {l : Launch} {e : Env} {R : Room} {s : State} {m : MethodId} {args : Array Value} {below : List Frame} {meth : Method} {c : Code} {H : Heap} {locs : List Loc} {cells slots : Nat} {Q : State → Prop} {cc : ByteArray} {pc nL index : Nat} {ret : Option FieldType} {own : String} {ls : Array Slot} {rest : List Value} {l' : List (Nat × Value)} {G : GG} {sz : Nat} {ns : Nat} {g : Nat} {M : Mem} (E : Cx p s m args meth c cc ret nL own G) (hP : PW G (AC G) (XC G ns) sz M s H) (hS : va_S (AC G) s.heap H locs) (hg : pg ns g) {x1 : Int32} {r : Int32} {M' : Mem} (hq : f_X5_isClogged g x1 M = some (r, M')) (w1 : Cond.methodLink own index yX5_isClogged ∈ lw_all) (hR : 1 ≤ R.frames ∧ 21 ≤ R.locals) (hl : lv_has ls nL l') (hrest : (rest.map fun v => v.category).sum ≤ 8) (hdg : decode cc pc = .ok (.invokevirtual index, 3)) (hcs : cells ≤ R.cells ∧ slots ≤ R.slots)
    (kk : ∀ (H1 : Heap) (locs1 : List Loc), PW G (AC G) (XC G ns) sz M' s H1 → va_S (AC G) s.heap H1 locs1 → W p l e R s m args below meth c H1 locs1 cells slots Q (F0 m (pc + 3) ls (.int r :: rest))) : W p l e R s m args below meth c H locs cells slots Q (F0 m pc ls (.int x1 :: .ref (adC G g 0) :: rest)) := by
  obtain ⟨hx, hb, hr, hlocks, hml, hown, hts, hK⟩ := E
  obtain ⟨g0, rfl⟩ := pg_s hg
  exact kc_i (kc_runV (na := 1) (q := (RX5, TX5, 9)) hx hb hml hts hown hK hP (g0 + 1) 0 (dmP hg (by decide)) rfl rfl rfl (c_X5_isClogged l hg hq) w1 w_476 w_477 w_2 w_478 (by decide +kernel) hR rfl hl rfl hrest hdg hcs) hS kk
/-! X5_isWet -/
abbrev rm_X5_isWet : Room := { frames := 1, cells := 0, slots := 0, locals := 21 }
def f_X5_isWet_b32 (g : Nat) (s0 : Int32) (M : Mem) : Option (Int32 × Mem) :=
ck (bl s0) <|
some (s0, M)
def f_X5_isWet_b31 (g : Nat) (M : Mem) : Option (Int32 × Mem) :=
f_X5_isWet_b32 g 0 M
def f_X5_isWet (g : Nat) (x1 : Int32) (M : Mem) : Option (Int32 × Mem) :=
ob (f_X2_isDrawn g x1 M) fun r_5 M_5 =>
(if r_5 = 0 then
  f_X5_isWet_b31 g M_5
else
  ck (ibd x1 16) <|
  (if (M_5 g 19 (ix x1)) ≤ (M_5 g 0 3) then
    f_X5_isWet_b31 g M_5
  else
    f_X5_isWet_b32 g 1 M_5))
set_option maxHeartbeats 4000000 in
set_option maxRecDepth 100000 in
theorem w_X5_isWet_b32 {p : Program} {l : Launch} {e : Env} {s : State} {m : MethodId} {args : Array Value} {below : List Frame} {meth : Method} {c : Code} {G : GG} {sz : Nat} {ns : Nat} {g : Nat} {r : Int32} {M' : Mem} (E : Cx p s m args meth c cX5_isWet (some .boolean) 2 RX5 G) (hg : pg ns g) {s0 : Int32} {M : Mem} {H : Heap} {locs : List Loc} {ls : Array Slot} (hf : f_X5_isWet_b32 g s0 M = some (r, M')) (hP : PW G (AC G) (XC G ns) sz M s H) (hS : va_S (AC G) s.heap H locs) (hl : lv_has ls 2 []) : W p l e rm_X5_isWet s m args below meth c H locs 0 0 (MQ below (va_Qi (fun (r2 : Int32) (_ : Unit) => r2 = r) (fun _ t => PW G (AC G) (XC G ns) sz M' t t.heap) (AC G)) args s 0 0 (AC G)) (F0 m 32 ls [.int s0]) := by
  obtain ⟨hx, hb, hr, hlocks, hml, hown, hts, hK⟩ := id E
  unfold f_X5_isWet_b32 at hf
  refine ck_e hf (fun hn hf => ?_)
  exact en_i hf hx hb hr (bl_nar hn) hlocks hP hS dX5_isWet_32
set_option maxHeartbeats 4000000 in
set_option maxRecDepth 100000 in
theorem w_X5_isWet_b31 {p : Program} {l : Launch} {e : Env} {s : State} {m : MethodId} {args : Array Value} {below : List Frame} {meth : Method} {c : Code} {G : GG} {sz : Nat} {ns : Nat} {g : Nat} {r : Int32} {M' : Mem} (E : Cx p s m args meth c cX5_isWet (some .boolean) 2 RX5 G) (hg : pg ns g) {M : Mem} {H : Heap} {locs : List Loc} {ls : Array Slot} (hf : f_X5_isWet_b31 g M = some (r, M')) (hP : PW G (AC G) (XC G ns) sz M s H) (hS : va_S (AC G) s.heap H locs) (hl : lv_has ls 2 []) : W p l e rm_X5_isWet s m args below meth c H locs 0 0 (MQ below (va_Qi (fun (r2 : Int32) (_ : Unit) => r2 = r) (fun _ t => PW G (AC G) (XC G ns) sz M' t t.heap) (AC G)) args s 0 0 (AC G)) (F0 m 31 ls []) := by
  obtain ⟨hx, hb, hr, hlocks, hml, hown, hts, hK⟩ := id E
  unfold f_X5_isWet_b31 at hf
  refine lv_iconst (v := 0) hx hb dX5_isWet_31 (by decide) ?_
  exact w_X5_isWet_b32 E hg hf hP hS (lv_sub hl [] rfl)
set_option maxHeartbeats 4000000 in
set_option maxRecDepth 100000 in
theorem w_X5_isWet {p : Program} {l : Launch} {e : Env} {s : State} {m : MethodId} {args : Array Value} {below : List Frame} {meth : Method} {c : Code} {G : GG} {sz : Nat} {ns : Nat} {g : Nat} {r : Int32} {M' : Mem} (E : Cx p s m args meth c cX5_isWet (some .boolean) 2 RX5 G) (hg : pg ns g) {x1 : Int32} {M : Mem} {H : Heap} {locs : List Loc} {ls : Array Slot} (hf : f_X5_isWet g x1 M = some (r, M')) (hP : PW G (AC G) (XC G ns) sz M s H) (hS : va_S (AC G) s.heap H locs) (hl : lv_has ls 2 [(0, .ref (adC G g 0)), (1, .int x1)]) : W p l e rm_X5_isWet s m args below meth c H locs 0 0 (MQ below (va_Qi (fun (r2 : Int32) (_ : Unit) => r2 = r) (fun _ t => PW G (AC G) (XC G ns) sz M' t t.heap) (AC G)) args s 0 0 (AC G)) (F0 m 0 ls []) := by
  obtain ⟨hx, hb, hr, hlocks, hml, hown, hts, hK⟩ := id E
  unfold f_X5_isWet at hf
  refine lv_aload_n hx hb dX5_isWet_0 rfl (lv_at hl 0 rfl) ?_
  refine gf_X5_lines E hP hg w_138 dX5_isWet_1 ?_
  refine lv_iload_n hx hb dX5_isWet_4 rfl (lv_at hl 1 rfl) ?_
  refine ob_e hf (fun r_5 M_5 hq hf => ?_)
  refine cv_X2_isDrawn E hP hS hg hq w_437 ⟨Nat.le_of_ble_eq_true rfl, Nat.le_of_ble_eq_true rfl⟩ hl (Nat.le_of_ble_eq_true rfl) dX5_isWet_5 ⟨Nat.le_of_ble_eq_true rfl, Nat.le_of_ble_eq_true rfl⟩ (fun H locs hP hS => ?_)
  refine lv_if_eq (tgt := 31) hx hb dX5_isWet_8 (by decide) (fun hc => ?_) (fun hc => ?_)
  · have hf := if_t hf hc
    exact w_X5_isWet_b31 E hg hf hP hS (lv_sub hl [] rfl)
  · have hf := if_f hf hc
    refine lv_aload_n hx hb dX5_isWet_11 rfl (lv_at hl 0 rfl) ?_
    refine gf_X5_time E hP hg w_140 dX5_isWet_12 ?_
    refine lv_aload_n hx hb dX5_isWet_15 rfl (lv_at hl 0 rfl) ?_
    refine gf_X5_lines E hP hg w_138 dX5_isWet_16 ?_
    refine gf_X2_dryAt E hP hg w_108 dX5_isWet_19 ?_
    refine lv_iload_n hx hb dX5_isWet_22 rfl (lv_at hl 1 rfl) ?_
    refine ck_e hf (fun hi hf => ?_)
    refine la_P19 E hP hg hi dX5_isWet_23 ?_
    refine lv_icmp_ge (tgt := 31) hx hb dX5_isWet_24 (by decide) (fun hc => ?_) (fun hc => ?_)
    · have hf := if_t hf hc
      exact w_X5_isWet_b31 E hg hf hP hS (lv_sub hl [] rfl)
    · have hf := if_f hf hc
      refine lv_iconst (v := 1) hx hb dX5_isWet_27 (by decide) ?_
      refine lv_goto (tgt := 32) hx hb dX5_isWet_28 (by decide) ?_
      exact w_X5_isWet_b32 E hg hf hP hS (lv_sub hl [] rfl)
theorem c_X5_isWet (l : Launch) {G : GG} {sz : Nat} {ns : Nat} {g : Nat} (hg : pg ns g) {x1 : Int32} {M : Mem} {r : Int32} {M' : Mem} (hf : f_X5_isWet g x1 M = some (r, M')) : CtI l yX5_isWet cX5_isWet 2 (some .boolean) rm_X5_isWet [.ref (adC G g 0), .int x1] G (AC G) (XC G ns) sz M r (XC G ns) sz M' := by
  refine Ct_of (by decide) (Nat.le_of_ble_eq_true rfl) (fun p e s m below meth c ls hx hb hr hlocks hml hown hts hK hP hl => ?_)
  exact w_X5_isWet ⟨hx, hb, hr, hlocks, hml, hown, hts, hK⟩ hg hf hP va_S.rf hl
set_option maxRecDepth 100000 in
theorem cv_X5_isWet {p : Program} {l : Launch} {e : Env} {R : Room} {s : State} {m : MethodId} {args : Array Value} {below : List Frame} {meth : Method} {c : Code} {H : Heap} {locs : List Loc} {cells slots : Nat} {Q : State → Prop} {cc : ByteArray} {pc nL index : Nat} {ret : Option FieldType} {own : String} {ls : Array Slot} {rest : List Value} {l' : List (Nat × Value)} {G : GG} {sz : Nat} {ns : Nat} {g : Nat} {M : Mem} (E : Cx p s m args meth c cc ret nL own G) (hP : PW G (AC G) (XC G ns) sz M s H) (hS : va_S (AC G) s.heap H locs) (hg : pg ns g) {x1 : Int32} {r : Int32} {M' : Mem} (hq : f_X5_isWet g x1 M = some (r, M')) (w1 : Cond.methodLink own index yX5_isWet ∈ lw_all) (hR : 2 ≤ R.frames ∧ 42 ≤ R.locals) (hl : lv_has ls nL l') (hrest : (rest.map fun v => v.category).sum ≤ 8) (hdg : decode cc pc = .ok (.invokevirtual index, 3)) (hcs : cells ≤ R.cells ∧ slots ≤ R.slots)
    (kk : ∀ (H1 : Heap) (locs1 : List Loc), PW G (AC G) (XC G ns) sz M' s H1 → va_S (AC G) s.heap H1 locs1 → W p l e R s m args below meth c H1 locs1 cells slots Q (F0 m (pc + 3) ls (.int r :: rest))) : W p l e R s m args below meth c H locs cells slots Q (F0 m pc ls (.int x1 :: .ref (adC G g 0) :: rest)) := by
  obtain ⟨hx, hb, hr, hlocks, hml, hown, hts, hK⟩ := E
  obtain ⟨g0, rfl⟩ := pg_s hg
  exact kc_i (kc_runV (na := 1) (q := (RX5, TX5, 9)) hx hb hml hts hown hK hP (g0 + 1) 0 (dmP hg (by decide)) rfl rfl rfl (c_X5_isWet l hg hq) w1 w_434 w_435 w_2 w_436 (by decide +kernel) hR rfl hl rfl hrest hdg hcs) hS kk
/-! X5_howManyWet -/
abbrev rm_X5_howManyWet : Room := { frames := 2, cells := 0, slots := 0, locals := 42 }
def f_X5_howManyWet_b4 (g : Nat) : Nat → Int32 → Int32 → Mem → Option (Int32 × Mem)
  | 0 => fun _ _ _ => none
  | fu + 1 => fun x1 x2 M =>
(if (M g 10 0) ≤ x2 then
  some (x1, M)
else
  ob (f_X5_isWet g x2 M) fun r_18 M_18 =>
  ob (f_X7_asBit r_18 M_18) fun r_21 M_21 =>
  lt ((x1 + r_21)) fun x1_25 =>
  lt (x2 + 1) fun x2_26 =>
  f_X5_howManyWet_b4 g fu x1_25 x2_26 M_21)
def f_X5_howManyWet (g : Nat) (M : Mem) : Option (Int32 × Mem) :=
f_X5_howManyWet_b4 g 1000 0 0 M
set_option maxHeartbeats 4000000 in
set_option maxRecDepth 100000 in
theorem w_X5_howManyWet_b4 {p : Program} {l : Launch} {e : Env} {s : State} {m : MethodId} {args : Array Value} {below : List Frame} {meth : Method} {c : Code} {G : GG} {sz : Nat} {ns : Nat} {g : Nat} {r : Int32} {M' : Mem} (E : Cx p s m args meth c cX5_howManyWet (some .int) 3 RX5 G) (hg : pg ns g) : ∀ fu : Nat, ∀ (x1 : Int32) (x2 : Int32) (M : Mem) (H : Heap) (locs : List Loc) (ls : Array Slot), f_X5_howManyWet_b4 g fu x1 x2 M = some (r, M') → PW G (AC G) (XC G ns) sz M s H → va_S (AC G) s.heap H locs → lv_has ls 3 [(0, .ref (adC G g 0)), (1, .int x1), (2, .int x2)] → W p l e rm_X5_howManyWet s m args below meth c H locs 0 0 (MQ below (va_Qi (fun (r2 : Int32) (_ : Unit) => r2 = r) (fun _ t => PW G (AC G) (XC G ns) sz M' t t.heap) (AC G)) args s 0 0 (AC G)) (F0 m 4 ls []) := by
  obtain ⟨hx, hb, hr, hlocks, hml, hown, hts, hK⟩ := id E
  intro fu
  induction fu with
  | zero => intro x1 x2 M H locs ls hf hP hS hl; cases hf
  | succ fu ih =>
    intro x1 x2 M H locs ls hf hP hS hl
    rw [f_X5_howManyWet_b4.eq_2] at hf
    refine lv_iload_n hx hb dX5_howManyWet_4 rfl (lv_at hl 2 rfl) ?_
    refine lv_aload_n hx hb dX5_howManyWet_5 rfl (lv_at hl 0 rfl) ?_
    refine gf_X5_lines E hP hg w_138 dX5_howManyWet_6 ?_
    refine gf_X2_many E hP hg w_87 dX5_howManyWet_9 ?_
    refine lv_icmp_ge (tgt := 32) hx hb dX5_howManyWet_12 (by decide) (fun hc => ?_) (fun hc => ?_)
    · have hf := if_t hf hc
      refine lv_iload_n hx hb dX5_howManyWet_32 rfl (lv_at hl 1 rfl) ?_
      exact en_i hf hx hb hr rfl hlocks hP hS dX5_howManyWet_33
    · have hf := if_f hf hc
      refine lv_iload_n hx hb dX5_howManyWet_15 rfl (lv_at hl 1 rfl) ?_
      refine lv_aload_n hx hb dX5_howManyWet_16 rfl (lv_at hl 0 rfl) ?_
      refine lv_iload_n hx hb dX5_howManyWet_17 rfl (lv_at hl 2 rfl) ?_
      refine ob_e hf (fun r_18 M_18 hq hf => ?_)
      refine cv_X5_isWet E hP hS hg hq w_433 ⟨Nat.le_of_ble_eq_true rfl, Nat.le_of_ble_eq_true rfl⟩ hl (Nat.le_of_ble_eq_true rfl) dX5_howManyWet_18 ⟨Nat.le_of_ble_eq_true rfl, Nat.le_of_ble_eq_true rfl⟩ (fun H locs hP hS => ?_)
      refine ob_e hf (fun r_21 M_21 hq hf => ?_)
      refine cn_X7_asBit E hP hS hq w_438 ⟨Nat.le_of_ble_eq_true rfl, Nat.le_of_ble_eq_true rfl⟩ hl (Nat.le_of_ble_eq_true rfl) dX5_howManyWet_21 ⟨Nat.le_of_ble_eq_true rfl, Nat.le_of_ble_eq_true rfl⟩ (fun H locs hP hS => ?_)
      refine lv_iadd hx hb dX5_howManyWet_24 ?_
      refine lt_e hf (fun x1_25 hx1_25 hf => ?_)
      refine kr_nm hx1_25 ?_
      refine lv_istore_n (lv' := [(1, .int x1_25), (0, .ref (adC G g 0)), (2, .int x2)]) hx hb dX5_howManyWet_25 rfl hl (by decide) rfl (fun ls hl => ?_)
      refine lt_e hf (fun x2_26 hx2_26 hf => ?_)
      refine lv_iinc (v := x2_26) (lv' := [(2, .int x2_26), (1, .int x1_25), (0, .ref (adC G g 0))]) hx hb dX5_howManyWet_26 hl (k := 2) rfl (by rw [hx2_26]; rfl) (by decide) rfl (fun ls hl => ?_)
      refine lv_goto (tgt := 4) hx hb dX5_howManyWet_29 (by decide) ?_
      exact ih _ _ _ _ _ _ hf hP hS (lv_sub hl [2, 1, 0] rfl)
set_option maxHeartbeats 4000000 in
set_option maxRecDepth 100000 in
theorem w_X5_howManyWet {p : Program} {l : Launch} {e : Env} {s : State} {m : MethodId} {args : Array Value} {below : List Frame} {meth : Method} {c : Code} {G : GG} {sz : Nat} {ns : Nat} {g : Nat} {r : Int32} {M' : Mem} (E : Cx p s m args meth c cX5_howManyWet (some .int) 3 RX5 G) (hg : pg ns g) {M : Mem} {H : Heap} {locs : List Loc} {ls : Array Slot} (hf : f_X5_howManyWet g M = some (r, M')) (hP : PW G (AC G) (XC G ns) sz M s H) (hS : va_S (AC G) s.heap H locs) (hl : lv_has ls 3 [(0, .ref (adC G g 0))]) : W p l e rm_X5_howManyWet s m args below meth c H locs 0 0 (MQ below (va_Qi (fun (r2 : Int32) (_ : Unit) => r2 = r) (fun _ t => PW G (AC G) (XC G ns) sz M' t t.heap) (AC G)) args s 0 0 (AC G)) (F0 m 0 ls []) := by
  obtain ⟨hx, hb, hr, hlocks, hml, hown, hts, hK⟩ := id E
  unfold f_X5_howManyWet at hf
  refine lv_iconst (v := 0) hx hb dX5_howManyWet_0 (by decide) ?_
  refine lv_istore_n (lv' := [(1, .int 0), (0, .ref (adC G g 0))]) hx hb dX5_howManyWet_1 rfl hl (by decide) rfl (fun ls hl => ?_)
  refine lv_iconst (v := 0) hx hb dX5_howManyWet_2 (by decide) ?_
  refine lv_istore_n (lv' := [(2, .int 0), (1, .int 0), (0, .ref (adC G g 0))]) hx hb dX5_howManyWet_3 rfl hl (by decide) rfl (fun ls hl => ?_)
  exact w_X5_howManyWet_b4 E hg 1000 _ _ _ _ _ _ hf hP hS (lv_sub hl [2, 1, 0] rfl)
theorem c_X5_howManyWet (l : Launch) {G : GG} {sz : Nat} {ns : Nat} {g : Nat} (hg : pg ns g) {M : Mem} {r : Int32} {M' : Mem} (hf : f_X5_howManyWet g M = some (r, M')) : CtI l yX5_howManyWet cX5_howManyWet 3 (some .int) rm_X5_howManyWet [.ref (adC G g 0)] G (AC G) (XC G ns) sz M r (XC G ns) sz M' := by
  refine Ct_of (by decide) (Nat.le_of_ble_eq_true rfl) (fun p e s m below meth c ls hx hb hr hlocks hml hown hts hK hP hl => ?_)
  exact w_X5_howManyWet ⟨hx, hb, hr, hlocks, hml, hown, hts, hK⟩ hg hf hP va_S.rf hl
set_option maxRecDepth 100000 in
theorem cv_X5_howManyWet {p : Program} {l : Launch} {e : Env} {R : Room} {s : State} {m : MethodId} {args : Array Value} {below : List Frame} {meth : Method} {c : Code} {H : Heap} {locs : List Loc} {cells slots : Nat} {Q : State → Prop} {cc : ByteArray} {pc nL index : Nat} {ret : Option FieldType} {own : String} {ls : Array Slot} {rest : List Value} {l' : List (Nat × Value)} {G : GG} {sz : Nat} {ns : Nat} {g : Nat} {M : Mem} (E : Cx p s m args meth c cc ret nL own G) (hP : PW G (AC G) (XC G ns) sz M s H) (hS : va_S (AC G) s.heap H locs) (hg : pg ns g) {r : Int32} {M' : Mem} (hq : f_X5_howManyWet g M = some (r, M')) (w1 : Cond.methodLink own index yX5_howManyWet ∈ lw_all) (hR : 3 ≤ R.frames ∧ 64 ≤ R.locals) (hl : lv_has ls nL l') (hrest : (rest.map fun v => v.category).sum ≤ 8) (hdg : decode cc pc = .ok (.invokevirtual index, 3)) (hcs : cells ≤ R.cells ∧ slots ≤ R.slots)
    (kk : ∀ (H1 : Heap) (locs1 : List Loc), PW G (AC G) (XC G ns) sz M' s H1 → va_S (AC G) s.heap H1 locs1 → W p l e R s m args below meth c H1 locs1 cells slots Q (F0 m (pc + 3) ls (.int r :: rest))) : W p l e R s m args below meth c H locs cells slots Q (F0 m pc ls (.ref (adC G g 0) :: rest)) := by
  obtain ⟨hx, hb, hr, hlocks, hml, hown, hts, hK⟩ := E
  obtain ⟨g0, rfl⟩ := pg_s hg
  exact kc_i (kc_runV (na := 0) (q := (RX5, TX5, 9)) hx hb hml hts hown hK hP (g0 + 1) 0 (dmP hg (by decide)) rfl rfl rfl (c_X5_howManyWet l hg hq) w1 w_430 w_431 w_2 w_432 (by decide +kernel) hR rfl hl rfl hrest hdg hcs) hS kk
/-! X5_shadeOf -/
abbrev rm_X5_shadeOf : Room := { frames := 2, cells := 0, slots := 0, locals := 43 }
def f_X5_shadeOf_b56 (g : Nat) (s0 : UInt32) (M : Mem) : Option (UInt32 × Mem) :=
some (s0, M)
def f_X5_shadeOf_b34 (g : Nat) (x1 : Int32) (s0 : Int32) (M : Mem) : Option (UInt32 × Mem) :=
(if s0 = 0 then
  f_X5_shadeOf_b56 g (FP.fconst0) M
else
  ck (ibd x1 16) <|
  ck (fok (FP.fdiv (FP.i2f (M g 20 (ix x1))) (FP.i2f s0))) <|
  f_X5_shadeOf_b56 g ((FP.fdiv (FP.i2f (M g 20 (ix x1))) (FP.i2f s0))) M)
def f_X5_shadeOf (g : Nat) (x1 : Int32) (M : Mem) : Option (UInt32 × Mem) :=
ck (ibd x1 16) <|
lt ((M g 17 (ix x1))) fun x2_9 =>
ob (f_X4_has g x2_9 M) fun r_15 M_15 =>
(if r_15 = 0 then
  f_X5_shadeOf_b34 g x1 0 M_15
else
  ck (ibd x2_9 5) <|
  f_X5_shadeOf_b34 g x1 ((M_15 g 4 (ix x2_9))) M_15)
set_option maxHeartbeats 4000000 in
set_option maxRecDepth 100000 in
theorem w_X5_shadeOf_b56 {p : Program} {l : Launch} {e : Env} {s : State} {m : MethodId} {args : Array Value} {below : List Frame} {meth : Method} {c : Code} {G : GG} {sz : Nat} {ns : Nat} {g : Nat} {r : UInt32} {M' : Mem} (E : Cx p s m args meth c cX5_shadeOf (some .float) 4 RX5 G) (hg : pg ns g) {s0 : UInt32} {M : Mem} {H : Heap} {locs : List Loc} {ls : Array Slot} (hf : f_X5_shadeOf_b56 g s0 M = some (r, M')) (hP : PW G (AC G) (XC G ns) sz M s H) (hS : va_S (AC G) s.heap H locs) (hl : lv_has ls 4 []) : W p l e rm_X5_shadeOf s m args below meth c H locs 0 0 (MQ below (va_Qf (fun (r2 : UInt32) (_ : Unit) => r2 = r) (fun _ t => PW G (AC G) (XC G ns) sz M' t t.heap) (AC G)) args s 0 0 (AC G)) (F0 m 56 ls [.float s0]) := by
  obtain ⟨hx, hb, hr, hlocks, hml, hown, hts, hK⟩ := id E
  unfold f_X5_shadeOf_b56 at hf
  exact en_f hf hx hb hr hlocks hP hS dX5_shadeOf_56
set_option maxHeartbeats 4000000 in
set_option maxRecDepth 100000 in
theorem w_X5_shadeOf_b34 {p : Program} {l : Launch} {e : Env} {s : State} {m : MethodId} {args : Array Value} {below : List Frame} {meth : Method} {c : Code} {G : GG} {sz : Nat} {ns : Nat} {g : Nat} {r : UInt32} {M' : Mem} (E : Cx p s m args meth c cX5_shadeOf (some .float) 4 RX5 G) (hg : pg ns g) {x1 : Int32} {s0 : Int32} {M : Mem} {H : Heap} {locs : List Loc} {ls : Array Slot} (hf : f_X5_shadeOf_b34 g x1 s0 M = some (r, M')) (hP : PW G (AC G) (XC G ns) sz M s H) (hS : va_S (AC G) s.heap H locs) (hl : lv_has ls 4 [(0, .ref (adC G g 0)), (1, .int x1)]) : W p l e rm_X5_shadeOf s m args below meth c H locs 0 0 (MQ below (va_Qf (fun (r2 : UInt32) (_ : Unit) => r2 = r) (fun _ t => PW G (AC G) (XC G ns) sz M' t t.heap) (AC G)) args s 0 0 (AC G)) (F0 m 34 ls [.int s0]) := by
  obtain ⟨hx, hb, hr, hlocks, hml, hown, hts, hK⟩ := id E
  unfold f_X5_shadeOf_b34 at hf
  refine lv_istore_n (lv' := [(3, .int s0), (0, .ref (adC G g 0)), (1, .int x1)]) hx hb dX5_shadeOf_34 rfl hl (by decide) rfl (fun ls hl => ?_)
  refine lv_iload_n hx hb dX5_shadeOf_35 rfl (lv_at hl 0 rfl) ?_
  refine lv_if_ne (tgt := 43) hx hb dX5_shadeOf_36 (by decide) (fun hc => ?_) (fun hc => ?_)
  · have hf := if_f hf hc
    refine lv_aload_n hx hb dX5_shadeOf_43 rfl (lv_at hl 1 rfl) ?_
    refine gf_X5_lines E hP hg w_138 dX5_shadeOf_44 ?_
    refine gf_X2_inkAtBegin E hP hg w_110 dX5_shadeOf_47 ?_
    refine lv_iload_n hx hb dX5_shadeOf_50 rfl (lv_at hl 2 rfl) ?_
    refine ck_e hf (fun hi hf => ?_)
    refine la_P20 E hP hg hi dX5_shadeOf_51 ?_
    refine lv_i2f hx hb dX5_shadeOf_52 ?_
    refine lv_iload_n hx hb dX5_shadeOf_53 rfl (lv_at hl 0 rfl) ?_
    refine lv_i2f hx hb dX5_shadeOf_54 ?_
    refine ck_e hf (fun hi hf => ?_)
    refine lv_fdiv hx hb dX5_shadeOf_55 (fok_n hi) ?_
    exact w_X5_shadeOf_b56 E hg hf hP hS (lv_sub hl [] rfl)
  · have hf := if_t hf hc
    refine lv_fconst0 hx hb dX5_shadeOf_39 ?_
    refine lv_goto (tgt := 56) hx hb dX5_shadeOf_40 (by decide) ?_
    exact w_X5_shadeOf_b56 E hg hf hP hS (lv_sub hl [] rfl)
set_option maxHeartbeats 4000000 in
set_option maxRecDepth 100000 in
theorem w_X5_shadeOf {p : Program} {l : Launch} {e : Env} {s : State} {m : MethodId} {args : Array Value} {below : List Frame} {meth : Method} {c : Code} {G : GG} {sz : Nat} {ns : Nat} {g : Nat} {r : UInt32} {M' : Mem} (E : Cx p s m args meth c cX5_shadeOf (some .float) 4 RX5 G) (hg : pg ns g) {x1 : Int32} {M : Mem} {H : Heap} {locs : List Loc} {ls : Array Slot} (hf : f_X5_shadeOf g x1 M = some (r, M')) (hP : PW G (AC G) (XC G ns) sz M s H) (hS : va_S (AC G) s.heap H locs) (hl : lv_has ls 4 [(0, .ref (adC G g 0)), (1, .int x1)]) : W p l e rm_X5_shadeOf s m args below meth c H locs 0 0 (MQ below (va_Qf (fun (r2 : UInt32) (_ : Unit) => r2 = r) (fun _ t => PW G (AC G) (XC G ns) sz M' t t.heap) (AC G)) args s 0 0 (AC G)) (F0 m 0 ls []) := by
  obtain ⟨hx, hb, hr, hlocks, hml, hown, hts, hK⟩ := id E
  unfold f_X5_shadeOf at hf
  refine lv_aload_n hx hb dX5_shadeOf_0 rfl (lv_at hl 0 rfl) ?_
  refine gf_X5_lines E hP hg w_138 dX5_shadeOf_1 ?_
  refine gf_X2_drawnBy E hP hg w_102 dX5_shadeOf_4 ?_
  refine lv_iload_n hx hb dX5_shadeOf_7 rfl (lv_at hl 1 rfl) ?_
  refine ck_e hf (fun hi hf => ?_)
  refine la_P17 E hP hg hi dX5_shadeOf_8 ?_
  refine lt_e hf (fun x2_9 hx2_9 hf => ?_)
  refine kr_nm hx2_9 ?_
  refine lv_istore_n (lv' := [(2, .int x2_9), (0, .ref (adC G g 0)), (1, .int x1)]) hx hb dX5_shadeOf_9 rfl hl (by decide) rfl (fun ls hl => ?_)
  refine lv_aload_n hx hb dX5_shadeOf_10 rfl (lv_at hl 1 rfl) ?_
  refine gf_X5_pens E hP hg w_136 dX5_shadeOf_11 ?_
  refine lv_iload_n hx hb dX5_shadeOf_14 rfl (lv_at hl 0 rfl) ?_
  refine ob_e hf (fun r_15 M_15 hq hf => ?_)
  refine cv_X4_has E hP hS hg hq w_402 ⟨Nat.le_of_ble_eq_true rfl, Nat.le_of_ble_eq_true rfl⟩ hl (Nat.le_of_ble_eq_true rfl) dX5_shadeOf_15 ⟨Nat.le_of_ble_eq_true rfl, Nat.le_of_ble_eq_true rfl⟩ (fun H locs hP hS => ?_)
  refine lv_if_eq (tgt := 33) hx hb dX5_shadeOf_18 (by decide) (fun hc => ?_) (fun hc => ?_)
  · have hf := if_t hf hc
    refine lv_iconst (v := 0) hx hb dX5_shadeOf_33 (by decide) ?_
    exact w_X5_shadeOf_b34 E hg hf hP hS (lv_sub hl [1, 2] rfl)
  · have hf := if_f hf hc
    refine lv_aload_n hx hb dX5_shadeOf_21 rfl (lv_at hl 1 rfl) ?_
    refine gf_X5_pens E hP hg w_136 dX5_shadeOf_22 ?_
    refine gf_X4_capacity E hP hg w_47 dX5_shadeOf_25 ?_
    refine lv_iload_n hx hb dX5_shadeOf_28 rfl (lv_at hl 0 rfl) ?_
    refine ck_e hf (fun hi hf => ?_)
    refine la_P4 E hP hg hi dX5_shadeOf_29 ?_
    refine lv_goto (tgt := 34) hx hb dX5_shadeOf_30 (by decide) ?_
    exact w_X5_shadeOf_b34 E hg hf hP hS (lv_sub hl [1, 2] rfl)
theorem c_X5_shadeOf (l : Launch) {G : GG} {sz : Nat} {ns : Nat} {g : Nat} (hg : pg ns g) {x1 : Int32} {M : Mem} {r : UInt32} {M' : Mem} (hf : f_X5_shadeOf g x1 M = some (r, M')) : CtF l yX5_shadeOf cX5_shadeOf 4 (some .float) rm_X5_shadeOf [.ref (adC G g 0), .int x1] G (AC G) (XC G ns) sz M r (XC G ns) sz M' := by
  refine Ct_of (by decide) (Nat.le_of_ble_eq_true rfl) (fun p e s m below meth c ls hx hb hr hlocks hml hown hts hK hP hl => ?_)
  exact w_X5_shadeOf ⟨hx, hb, hr, hlocks, hml, hown, hts, hK⟩ hg hf hP va_S.rf hl
set_option maxRecDepth 100000 in
theorem cv_X5_shadeOf {p : Program} {l : Launch} {e : Env} {R : Room} {s : State} {m : MethodId} {args : Array Value} {below : List Frame} {meth : Method} {c : Code} {H : Heap} {locs : List Loc} {cells slots : Nat} {Q : State → Prop} {cc : ByteArray} {pc nL index : Nat} {ret : Option FieldType} {own : String} {ls : Array Slot} {rest : List Value} {l' : List (Nat × Value)} {G : GG} {sz : Nat} {ns : Nat} {g : Nat} {M : Mem} (E : Cx p s m args meth c cc ret nL own G) (hP : PW G (AC G) (XC G ns) sz M s H) (hS : va_S (AC G) s.heap H locs) (hg : pg ns g) {x1 : Int32} {r : UInt32} {M' : Mem} (hq : f_X5_shadeOf g x1 M = some (r, M')) (w1 : Cond.methodLink own index yX5_shadeOf ∈ lw_all) (hR : 3 ≤ R.frames ∧ 66 ≤ R.locals) (hl : lv_has ls nL l') (hrest : (rest.map fun v => v.category).sum ≤ 8) (hdg : decode cc pc = .ok (.invokevirtual index, 3)) (hcs : cells ≤ R.cells ∧ slots ≤ R.slots)
    (kk : ∀ (H1 : Heap) (locs1 : List Loc), PW G (AC G) (XC G ns) sz M' s H1 → va_S (AC G) s.heap H1 locs1 → W p l e R s m args below meth c H1 locs1 cells slots Q (F0 m (pc + 3) ls (.float r :: rest))) : W p l e R s m args below meth c H locs cells slots Q (F0 m pc ls (.int x1 :: .ref (adC G g 0) :: rest)) := by
  obtain ⟨hx, hb, hr, hlocks, hml, hown, hts, hK⟩ := E
  obtain ⟨g0, rfl⟩ := pg_s hg
  exact kc_f (kc_runV (na := 1) (q := (RX5, TX5, 9)) hx hb hml hts hown hK hP (g0 + 1) 0 (dmP hg (by decide)) rfl rfl rfl (c_X5_shadeOf l hg hq) w1 w_521 w_522 w_2 w_523 (by decide +kernel) hR rfl hl rfl hrest hdg hcs) hS kk
/-! X5_inkFor -/
abbrev rm_X5_inkFor : Room := { frames := 0, cells := 0, slots := 0, locals := 0 }
def f_X5_inkFor_b36 (g : Nat) (s0 : Int32) (M : Mem) : Option (Int32 × Mem) :=
some (s0, M)
def f_X5_inkFor (g : Nat) (x1 : Int32) (x2 : Int32) (M : Mem) : Option (Int32 × Mem) :=
ck (ibd x1 5) <|
(if (M g 3 (ix x1)) = 1 then
  ck (ibd x2 16) <|
  f_X5_inkFor_b36 g ((2 * (M g 15 (ix x2)))) M
else
  ck (ibd x2 16) <|
  f_X5_inkFor_b36 g ((M g 15 (ix x2))) M)
set_option maxHeartbeats 4000000 in
set_option maxRecDepth 100000 in
theorem w_X5_inkFor_b36 {p : Program} {l : Launch} {e : Env} {s : State} {m : MethodId} {args : Array Value} {below : List Frame} {meth : Method} {c : Code} {G : GG} {sz : Nat} {ns : Nat} {g : Nat} {r : Int32} {M' : Mem} (E : Cx p s m args meth c cX5_inkFor (some .int) 3 RX5 G) (hg : pg ns g) {s0 : Int32} {M : Mem} {H : Heap} {locs : List Loc} {ls : Array Slot} (hf : f_X5_inkFor_b36 g s0 M = some (r, M')) (hP : PW G (AC G) (XC G ns) sz M s H) (hS : va_S (AC G) s.heap H locs) (hl : lv_has ls 3 []) : W p l e rm_X5_inkFor s m args below meth c H locs 0 0 (MQ below (va_Qi (fun (r2 : Int32) (_ : Unit) => r2 = r) (fun _ t => PW G (AC G) (XC G ns) sz M' t t.heap) (AC G)) args s 0 0 (AC G)) (F0 m 36 ls [.int s0]) := by
  obtain ⟨hx, hb, hr, hlocks, hml, hown, hts, hK⟩ := id E
  unfold f_X5_inkFor_b36 at hf
  exact en_i hf hx hb hr rfl hlocks hP hS dX5_inkFor_36
set_option maxHeartbeats 4000000 in
set_option maxRecDepth 100000 in
theorem w_X5_inkFor {p : Program} {l : Launch} {e : Env} {s : State} {m : MethodId} {args : Array Value} {below : List Frame} {meth : Method} {c : Code} {G : GG} {sz : Nat} {ns : Nat} {g : Nat} {r : Int32} {M' : Mem} (E : Cx p s m args meth c cX5_inkFor (some .int) 3 RX5 G) (hg : pg ns g) {x1 : Int32} {x2 : Int32} {M : Mem} {H : Heap} {locs : List Loc} {ls : Array Slot} (hf : f_X5_inkFor g x1 x2 M = some (r, M')) (hP : PW G (AC G) (XC G ns) sz M s H) (hS : va_S (AC G) s.heap H locs) (hl : lv_has ls 3 [(0, .ref (adC G g 0)), (1, .int x1), (2, .int x2)]) : W p l e rm_X5_inkFor s m args below meth c H locs 0 0 (MQ below (va_Qi (fun (r2 : Int32) (_ : Unit) => r2 = r) (fun _ t => PW G (AC G) (XC G ns) sz M' t t.heap) (AC G)) args s 0 0 (AC G)) (F0 m 0 ls []) := by
  obtain ⟨hx, hb, hr, hlocks, hml, hown, hts, hK⟩ := id E
  unfold f_X5_inkFor at hf
  refine lv_aload_n hx hb dX5_inkFor_0 rfl (lv_at hl 0 rfl) ?_
  refine gf_X5_pens E hP hg w_136 dX5_inkFor_1 ?_
  refine gf_X4_kind E hP hg w_44 dX5_inkFor_4 ?_
  refine lv_iload_n hx hb dX5_inkFor_7 rfl (lv_at hl 1 rfl) ?_
  refine ck_e hf (fun hi hf => ?_)
  refine la_P3 E hP hg hi dX5_inkFor_8 ?_
  refine lv_iconst (v := 1) hx hb dX5_inkFor_9 (by decide) ?_
  refine lv_icmp_ne (tgt := 27) hx hb dX5_inkFor_10 (by decide) (fun hc => ?_) (fun hc => ?_)
  · have hf := if_f hf hc
    refine lv_aload_n hx hb dX5_inkFor_27 rfl (lv_at hl 0 rfl) ?_
    refine gf_X5_lines E hP hg w_138 dX5_inkFor_28 ?_
    refine gf_X2_length E hP hg w_97 dX5_inkFor_31 ?_
    refine lv_iload_n hx hb dX5_inkFor_34 rfl (lv_at hl 2 rfl) ?_
    refine ck_e hf (fun hi hf => ?_)
    refine la_P15 E hP hg hi dX5_inkFor_35 ?_
    exact w_X5_inkFor_b36 E hg hf hP hS (lv_sub hl [] rfl)
  · have hf := if_t hf hc
    refine lv_iconst (v := 2) hx hb dX5_inkFor_13 (by decide) ?_
    refine lv_aload_n hx hb dX5_inkFor_14 rfl (lv_at hl 0 rfl) ?_
    refine gf_X5_lines E hP hg w_138 dX5_inkFor_15 ?_
    refine gf_X2_length E hP hg w_97 dX5_inkFor_18 ?_
    refine lv_iload_n hx hb dX5_inkFor_21 rfl (lv_at hl 2 rfl) ?_
    refine ck_e hf (fun hi hf => ?_)
    refine la_P15 E hP hg hi dX5_inkFor_22 ?_
    refine lv_imul hx hb dX5_inkFor_23 ?_
    refine lv_goto (tgt := 36) hx hb dX5_inkFor_24 (by decide) ?_
    exact w_X5_inkFor_b36 E hg hf hP hS (lv_sub hl [] rfl)
theorem c_X5_inkFor (l : Launch) {G : GG} {sz : Nat} {ns : Nat} {g : Nat} (hg : pg ns g) {x1 : Int32} {x2 : Int32} {M : Mem} {r : Int32} {M' : Mem} (hf : f_X5_inkFor g x1 x2 M = some (r, M')) : CtI l yX5_inkFor cX5_inkFor 3 (some .int) rm_X5_inkFor [.ref (adC G g 0), .int x1, .int x2] G (AC G) (XC G ns) sz M r (XC G ns) sz M' := by
  refine Ct_of (by decide) (Nat.le_of_ble_eq_true rfl) (fun p e s m below meth c ls hx hb hr hlocks hml hown hts hK hP hl => ?_)
  exact w_X5_inkFor ⟨hx, hb, hr, hlocks, hml, hown, hts, hK⟩ hg hf hP va_S.rf hl
set_option maxRecDepth 100000 in
theorem cv_X5_inkFor {p : Program} {l : Launch} {e : Env} {R : Room} {s : State} {m : MethodId} {args : Array Value} {below : List Frame} {meth : Method} {c : Code} {H : Heap} {locs : List Loc} {cells slots : Nat} {Q : State → Prop} {cc : ByteArray} {pc nL index : Nat} {ret : Option FieldType} {own : String} {ls : Array Slot} {rest : List Value} {l' : List (Nat × Value)} {G : GG} {sz : Nat} {ns : Nat} {g : Nat} {M : Mem} (E : Cx p s m args meth c cc ret nL own G) (hP : PW G (AC G) (XC G ns) sz M s H) (hS : va_S (AC G) s.heap H locs) (hg : pg ns g) {x1 : Int32} {x2 : Int32} {r : Int32} {M' : Mem} (hq : f_X5_inkFor g x1 x2 M = some (r, M')) (w1 : Cond.methodLink own index yX5_inkFor ∈ lw_all) (hR : 1 ≤ R.frames ∧ 22 ≤ R.locals) (hl : lv_has ls nL l') (hrest : (rest.map fun v => v.category).sum ≤ 8) (hdg : decode cc pc = .ok (.invokevirtual index, 3)) (hcs : cells ≤ R.cells ∧ slots ≤ R.slots)
    (kk : ∀ (H1 : Heap) (locs1 : List Loc), PW G (AC G) (XC G ns) sz M' s H1 → va_S (AC G) s.heap H1 locs1 → W p l e R s m args below meth c H1 locs1 cells slots Q (F0 m (pc + 3) ls (.int r :: rest))) : W p l e R s m args below meth c H locs cells slots Q (F0 m pc ls (.int x2 :: .int x1 :: .ref (adC G g 0) :: rest)) := by
  obtain ⟨hx, hb, hr, hlocks, hml, hown, hts, hK⟩ := E
  obtain ⟨g0, rfl⟩ := pg_s hg
  exact kc_i (kc_runV (na := 2) (q := (RX5, TX5, 9)) hx hb hml hts hown hK hP (g0 + 1) 0 (dmP hg (by decide)) rfl rfl rfl (c_X5_inkFor l hg hq) w1 w_613 w_614 w_2 w_615 (by decide +kernel) hR rfl hl rfl hrest hdg hcs) hS kk
/-! X5_travelTo -/
abbrev rm_X5_travelTo : Room := { frames := 2, cells := 0, slots := 0, locals := 56 }
def f_X5_travelTo (g : Nat) (x1 : Int32) (x2 : Int32) (M : Mem) : Option (Int32 × Mem) :=
ob (f_X2_beginX g x1 x2 M) fun r_14 M_14 =>
ob (f_X2_beginY g x1 x2 M_14) fun r_23 M_23 =>
ob (f_X7_distance (M g 0 5) (M g 0 6) r_14 r_23 M_23) fun r_26 M_26 =>
some (r_26, M_26)
set_option maxHeartbeats 4000000 in
set_option maxRecDepth 100000 in
theorem w_X5_travelTo {p : Program} {l : Launch} {e : Env} {s : State} {m : MethodId} {args : Array Value} {below : List Frame} {meth : Method} {c : Code} {G : GG} {sz : Nat} {ns : Nat} {g : Nat} {r : Int32} {M' : Mem} (E : Cx p s m args meth c cX5_travelTo (some .int) 3 RX5 G) (hg : pg ns g) {x1 : Int32} {x2 : Int32} {M : Mem} {H : Heap} {locs : List Loc} {ls : Array Slot} (hf : f_X5_travelTo g x1 x2 M = some (r, M')) (hP : PW G (AC G) (XC G ns) sz M s H) (hS : va_S (AC G) s.heap H locs) (hl : lv_has ls 3 [(0, .ref (adC G g 0)), (1, .int x1), (2, .int x2)]) : W p l e rm_X5_travelTo s m args below meth c H locs 0 0 (MQ below (va_Qi (fun (r2 : Int32) (_ : Unit) => r2 = r) (fun _ t => PW G (AC G) (XC G ns) sz M' t t.heap) (AC G)) args s 0 0 (AC G)) (F0 m 0 ls []) := by
  obtain ⟨hx, hb, hr, hlocks, hml, hown, hts, hK⟩ := id E
  unfold f_X5_travelTo at hf
  refine lv_aload_n hx hb dX5_travelTo_0 rfl (lv_at hl 0 rfl) ?_
  refine gf_X5_x E hP hg w_144 dX5_travelTo_1 ?_
  refine lv_aload_n hx hb dX5_travelTo_4 rfl (lv_at hl 0 rfl) ?_
  refine gf_X5_y E hP hg w_146 dX5_travelTo_5 ?_
  refine lv_aload_n hx hb dX5_travelTo_8 rfl (lv_at hl 0 rfl) ?_
  refine gf_X5_lines E hP hg w_138 dX5_travelTo_9 ?_
  refine lv_iload_n hx hb dX5_travelTo_12 rfl (lv_at hl 1 rfl) ?_
  refine lv_iload_n hx hb dX5_travelTo_13 rfl (lv_at hl 2 rfl) ?_
  refine ob_e hf (fun r_14 M_14 hq hf => ?_)
  refine cv_X2_beginX E hP hS hg hq w_620 ⟨Nat.le_of_ble_eq_true rfl, Nat.le_of_ble_eq_true rfl⟩ hl (Nat.le_of_ble_eq_true rfl) dX5_travelTo_14 ⟨Nat.le_of_ble_eq_true rfl, Nat.le_of_ble_eq_true rfl⟩ (fun H locs hP hS => ?_)
  refine lv_aload_n hx hb dX5_travelTo_17 rfl (lv_at hl 0 rfl) ?_
  refine gf_X5_lines E hP hg w_138 dX5_travelTo_18 ?_
  refine lv_iload_n hx hb dX5_travelTo_21 rfl (lv_at hl 1 rfl) ?_
  refine lv_iload_n hx hb dX5_travelTo_22 rfl (lv_at hl 2 rfl) ?_
  refine ob_e hf (fun r_23 M_23 hq hf => ?_)
  refine cv_X2_beginY E hP hS hg hq w_624 ⟨Nat.le_of_ble_eq_true rfl, Nat.le_of_ble_eq_true rfl⟩ hl (Nat.le_of_ble_eq_true rfl) dX5_travelTo_23 ⟨Nat.le_of_ble_eq_true rfl, Nat.le_of_ble_eq_true rfl⟩ (fun H locs hP hS => ?_)
  refine ob_e hf (fun r_26 M_26 hq hf => ?_)
  refine cn_X7_distance E hP hS hq w_628 ⟨Nat.le_of_ble_eq_true rfl, Nat.le_of_ble_eq_true rfl⟩ hl (Nat.le_of_ble_eq_true rfl) dX5_travelTo_26 ⟨Nat.le_of_ble_eq_true rfl, Nat.le_of_ble_eq_true rfl⟩ (fun H locs hP hS => ?_)
  exact en_i hf hx hb hr rfl hlocks hP hS dX5_travelTo_29
theorem c_X5_travelTo (l : Launch) {G : GG} {sz : Nat} {ns : Nat} {g : Nat} (hg : pg ns g) {x1 : Int32} {x2 : Int32} {M : Mem} {r : Int32} {M' : Mem} (hf : f_X5_travelTo g x1 x2 M = some (r, M')) : CtI l yX5_travelTo cX5_travelTo 3 (some .int) rm_X5_travelTo [.ref (adC G g 0), .int x1, .int x2] G (AC G) (XC G ns) sz M r (XC G ns) sz M' := by
  refine Ct_of (by decide) (Nat.le_of_ble_eq_true rfl) (fun p e s m below meth c ls hx hb hr hlocks hml hown hts hK hP hl => ?_)
  exact w_X5_travelTo ⟨hx, hb, hr, hlocks, hml, hown, hts, hK⟩ hg hf hP va_S.rf hl
set_option maxRecDepth 100000 in
theorem cv_X5_travelTo {p : Program} {l : Launch} {e : Env} {R : Room} {s : State} {m : MethodId} {args : Array Value} {below : List Frame} {meth : Method} {c : Code} {H : Heap} {locs : List Loc} {cells slots : Nat} {Q : State → Prop} {cc : ByteArray} {pc nL index : Nat} {ret : Option FieldType} {own : String} {ls : Array Slot} {rest : List Value} {l' : List (Nat × Value)} {G : GG} {sz : Nat} {ns : Nat} {g : Nat} {M : Mem} (E : Cx p s m args meth c cc ret nL own G) (hP : PW G (AC G) (XC G ns) sz M s H) (hS : va_S (AC G) s.heap H locs) (hg : pg ns g) {x1 : Int32} {x2 : Int32} {r : Int32} {M' : Mem} (hq : f_X5_travelTo g x1 x2 M = some (r, M')) (w1 : Cond.methodLink own index yX5_travelTo ∈ lw_all) (hR : 3 ≤ R.frames ∧ 78 ≤ R.locals) (hl : lv_has ls nL l') (hrest : (rest.map fun v => v.category).sum ≤ 8) (hdg : decode cc pc = .ok (.invokevirtual index, 3)) (hcs : cells ≤ R.cells ∧ slots ≤ R.slots)
    (kk : ∀ (H1 : Heap) (locs1 : List Loc), PW G (AC G) (XC G ns) sz M' s H1 → va_S (AC G) s.heap H1 locs1 → W p l e R s m args below meth c H1 locs1 cells slots Q (F0 m (pc + 3) ls (.int r :: rest))) : W p l e R s m args below meth c H locs cells slots Q (F0 m pc ls (.int x2 :: .int x1 :: .ref (adC G g 0) :: rest)) := by
  obtain ⟨hx, hb, hr, hlocks, hml, hown, hts, hK⟩ := E
  obtain ⟨g0, rfl⟩ := pg_s hg
  exact kc_i (kc_runV (na := 2) (q := (RX5, TX5, 9)) hx hb hml hts hown hK hP (g0 + 1) 0 (dmP hg (by decide)) rfl rfl rfl (c_X5_travelTo l hg hq) w1 w_617 w_618 w_2 w_619 (by decide +kernel) hR rfl hl rfl hrest hdg hcs) hS kk
/-! X5_dryTimeFor -/
abbrev rm_X5_dryTimeFor : Room := { frames := 1, cells := 0, slots := 0, locals := 33 }
def f_X5_dryTimeFor_b68 (g : Nat) (L4 : Int32 → Int32 → Int32 → Mem → Option (Int32 × Mem)) (x1 : Int32) (x2 : Int32) (x3 : Int32) (M : Mem) : Option (Int32 × Mem) :=
lt (x3 + 1) fun x3_68 =>
L4 x1 x2 x3_68 M
def f_X5_dryTimeFor_b4 (g : Nat) : Nat → Int32 → Int32 → Int32 → Mem → Option (Int32 × Mem)
  | 0 => fun _ _ _ _ => none
  | fu + 1 => fun x1 x2 x3 M =>
(if (M g 10 0) ≤ x3 then
  some (x2, M)
else
  ob (f_X2_isDrawn g x3 M) fun r_20 M_20 =>
  (if r_20 = 0 then
    f_X5_dryTimeFor_b68 g (f_X5_dryTimeFor_b4 g fu) x1 x2 x3 M_20
  else
    ck (ibd x3 16) <|
    (if (M_20 g 17 (ix x3)) = (M_20 g 0 4) then
      f_X5_dryTimeFor_b68 g (f_X5_dryTimeFor_b4 g fu) x1 x2 x3 M_20
    else
      ob (f_X2_isTouching g x1 x3 M_20) fun r_48 M_48 =>
      (if r_48 = 0 then
        f_X5_dryTimeFor_b68 g (f_X5_dryTimeFor_b4 g fu) x1 x2 x3 M_48
      else
        ck (ibd x3 16) <|
        lt ((mx x2 (M_48 g 19 (ix x3)))) fun x2_67 =>
        f_X5_dryTimeFor_b68 g (f_X5_dryTimeFor_b4 g fu) x1 x2_67 x3 M_48))))
def f_X5_dryTimeFor (g : Nat) (x1 : Int32) (M : Mem) : Option (Int32 × Mem) :=
f_X5_dryTimeFor_b4 g 1000 x1 0 0 M
set_option maxHeartbeats 4000000 in
set_option maxRecDepth 100000 in
theorem w_X5_dryTimeFor_b68 {p : Program} {l : Launch} {e : Env} {s : State} {m : MethodId} {args : Array Value} {below : List Frame} {meth : Method} {c : Code} {G : GG} {sz : Nat} {ns : Nat} {g : Nat} {r : Int32} {M' : Mem} (E : Cx p s m args meth c cX5_dryTimeFor (some .int) 4 RX5 G) (hg : pg ns g) {L4 : Int32 → Int32 → Int32 → Mem → Option (Int32 × Mem)} (hL4 : ∀ (x1 : Int32) (x2 : Int32) (x3 : Int32) (M : Mem) (H : Heap) (locs : List Loc) (ls : Array Slot), L4 x1 x2 x3 M = some (r, M') → PW G (AC G) (XC G ns) sz M s H → va_S (AC G) s.heap H locs → lv_has ls 4 [(0, .ref (adC G g 0)), (1, .int x1), (2, .int x2), (3, .int x3)] → W p l e rm_X5_dryTimeFor s m args below meth c H locs 0 0 (MQ below (va_Qi (fun (r2 : Int32) (_ : Unit) => r2 = r) (fun _ t => PW G (AC G) (XC G ns) sz M' t t.heap) (AC G)) args s 0 0 (AC G)) (F0 m 4 ls [])) {x1 : Int32} {x2 : Int32} {x3 : Int32} {M : Mem} {H : Heap} {locs : List Loc} {ls : Array Slot} (hf : f_X5_dryTimeFor_b68 g L4 x1 x2 x3 M = some (r, M')) (hP : PW G (AC G) (XC G ns) sz M s H) (hS : va_S (AC G) s.heap H locs) (hl : lv_has ls 4 [(0, .ref (adC G g 0)), (1, .int x1), (2, .int x2), (3, .int x3)]) : W p l e rm_X5_dryTimeFor s m args below meth c H locs 0 0 (MQ below (va_Qi (fun (r2 : Int32) (_ : Unit) => r2 = r) (fun _ t => PW G (AC G) (XC G ns) sz M' t t.heap) (AC G)) args s 0 0 (AC G)) (F0 m 68 ls []) := by
  obtain ⟨hx, hb, hr, hlocks, hml, hown, hts, hK⟩ := id E
  unfold f_X5_dryTimeFor_b68 at hf
  refine lt_e hf (fun x3_68 hx3_68 hf => ?_)
  refine lv_iinc (v := x3_68) (lv' := [(3, .int x3_68), (0, .ref (adC G g 0)), (1, .int x1), (2, .int x2)]) hx hb dX5_dryTimeFor_68 hl (k := 3) rfl (by rw [hx3_68]; rfl) (by decide) rfl (fun ls hl => ?_)
  refine lv_goto (tgt := 4) hx hb dX5_dryTimeFor_71 (by decide) ?_
  exact hL4 _ _ _ _ _ _ _ hf hP hS (lv_sub hl [1, 2, 3, 0] rfl)
set_option maxHeartbeats 4000000 in
set_option maxRecDepth 100000 in
theorem w_X5_dryTimeFor_b4 {p : Program} {l : Launch} {e : Env} {s : State} {m : MethodId} {args : Array Value} {below : List Frame} {meth : Method} {c : Code} {G : GG} {sz : Nat} {ns : Nat} {g : Nat} {r : Int32} {M' : Mem} (E : Cx p s m args meth c cX5_dryTimeFor (some .int) 4 RX5 G) (hg : pg ns g) : ∀ fu : Nat, ∀ (x1 : Int32) (x2 : Int32) (x3 : Int32) (M : Mem) (H : Heap) (locs : List Loc) (ls : Array Slot), f_X5_dryTimeFor_b4 g fu x1 x2 x3 M = some (r, M') → PW G (AC G) (XC G ns) sz M s H → va_S (AC G) s.heap H locs → lv_has ls 4 [(0, .ref (adC G g 0)), (1, .int x1), (2, .int x2), (3, .int x3)] → W p l e rm_X5_dryTimeFor s m args below meth c H locs 0 0 (MQ below (va_Qi (fun (r2 : Int32) (_ : Unit) => r2 = r) (fun _ t => PW G (AC G) (XC G ns) sz M' t t.heap) (AC G)) args s 0 0 (AC G)) (F0 m 4 ls []) := by
  obtain ⟨hx, hb, hr, hlocks, hml, hown, hts, hK⟩ := id E
  intro fu
  induction fu with
  | zero => intro x1 x2 x3 M H locs ls hf hP hS hl; cases hf
  | succ fu ih =>
    intro x1 x2 x3 M H locs ls hf hP hS hl
    rw [f_X5_dryTimeFor_b4.eq_2] at hf
    refine lv_iload_n hx hb dX5_dryTimeFor_4 rfl (lv_at hl 3 rfl) ?_
    refine lv_aload_n hx hb dX5_dryTimeFor_5 rfl (lv_at hl 0 rfl) ?_
    refine gf_X5_lines E hP hg w_138 dX5_dryTimeFor_6 ?_
    refine gf_X2_many E hP hg w_87 dX5_dryTimeFor_9 ?_
    refine lv_icmp_ge (tgt := 74) hx hb dX5_dryTimeFor_12 (by decide) (fun hc => ?_) (fun hc => ?_)
    · have hf := if_t hf hc
      refine lv_iload_n hx hb dX5_dryTimeFor_74 rfl (lv_at hl 2 rfl) ?_
      exact en_i hf hx hb hr rfl hlocks hP hS dX5_dryTimeFor_75
    · have hf := if_f hf hc
      refine lv_aload_n hx hb dX5_dryTimeFor_15 rfl (lv_at hl 0 rfl) ?_
      refine gf_X5_lines E hP hg w_138 dX5_dryTimeFor_16 ?_
      refine lv_iload_n hx hb dX5_dryTimeFor_19 rfl (lv_at hl 3 rfl) ?_
      refine ob_e hf (fun r_20 M_20 hq hf => ?_)
      refine cv_X2_isDrawn E hP hS hg hq w_437 ⟨Nat.le_of_ble_eq_true rfl, Nat.le_of_ble_eq_true rfl⟩ hl (Nat.le_of_ble_eq_true rfl) dX5_dryTimeFor_20 ⟨Nat.le_of_ble_eq_true rfl, Nat.le_of_ble_eq_true rfl⟩ (fun H locs hP hS => ?_)
      refine lv_if_eq (tgt := 68) hx hb dX5_dryTimeFor_23 (by decide) (fun hc => ?_) (fun hc => ?_)
      · have hf := if_t hf hc
        exact w_X5_dryTimeFor_b68 E hg ih hf hP hS (lv_sub hl [0, 1, 2, 3] rfl)
      · have hf := if_f hf hc
        refine lv_aload_n hx hb dX5_dryTimeFor_26 rfl (lv_at hl 0 rfl) ?_
        refine gf_X5_lines E hP hg w_138 dX5_dryTimeFor_27 ?_
        refine gf_X2_drawnBy E hP hg w_102 dX5_dryTimeFor_30 ?_
        refine lv_iload_n hx hb dX5_dryTimeFor_33 rfl (lv_at hl 3 rfl) ?_
        refine ck_e hf (fun hi hf => ?_)
        refine la_P17 E hP hg hi dX5_dryTimeFor_34 ?_
        refine lv_aload_n hx hb dX5_dryTimeFor_35 rfl (lv_at hl 0 rfl) ?_
        refine gf_X5_hand E hP hg w_142 dX5_dryTimeFor_36 ?_
        refine lv_icmp_eq (tgt := 68) hx hb dX5_dryTimeFor_39 (by decide) (fun hc => ?_) (fun hc => ?_)
        · have hf := if_t hf hc
          exact w_X5_dryTimeFor_b68 E hg ih hf hP hS (lv_sub hl [0, 1, 2, 3] rfl)
        · have hf := if_f hf hc
          refine lv_aload_n hx hb dX5_dryTimeFor_42 rfl (lv_at hl 0 rfl) ?_
          refine gf_X5_lines E hP hg w_138 dX5_dryTimeFor_43 ?_
          refine lv_iload_n hx hb dX5_dryTimeFor_46 rfl (lv_at hl 1 rfl) ?_
          refine lv_iload_n hx hb dX5_dryTimeFor_47 rfl (lv_at hl 3 rfl) ?_
          refine ob_e hf (fun r_48 M_48 hq hf => ?_)
          refine cv_X2_isTouching E hP hS hg hq w_633 ⟨Nat.le_of_ble_eq_true rfl, Nat.le_of_ble_eq_true rfl⟩ hl (Nat.le_of_ble_eq_true rfl) dX5_dryTimeFor_48 ⟨Nat.le_of_ble_eq_true rfl, Nat.le_of_ble_eq_true rfl⟩ (fun H locs hP hS => ?_)
          refine lv_if_eq (tgt := 68) hx hb dX5_dryTimeFor_51 (by decide) (fun hc => ?_) (fun hc => ?_)
          · have hf := if_t hf hc
            exact w_X5_dryTimeFor_b68 E hg ih hf hP hS (lv_sub hl [0, 1, 2, 3] rfl)
          · have hf := if_f hf hc
            refine lv_iload_n hx hb dX5_dryTimeFor_54 rfl (lv_at hl 2 rfl) ?_
            refine lv_aload_n hx hb dX5_dryTimeFor_55 rfl (lv_at hl 0 rfl) ?_
            refine gf_X5_lines E hP hg w_138 dX5_dryTimeFor_56 ?_
            refine gf_X2_dryAt E hP hg w_108 dX5_dryTimeFor_59 ?_
            refine lv_iload_n hx hb dX5_dryTimeFor_62 rfl (lv_at hl 3 rfl) ?_
            refine ck_e hf (fun hi hf => ?_)
            refine la_P19 E hP hg hi dX5_dryTimeFor_63 ?_
            refine va_mmax hx hb (hml.trans hl.1.symm) hown (hts _ w_634) (hts _ w_351) (hts _ w_9) (hts _ w_352) (Nat.le_of_ble_eq_true rfl) (Nat.le_of_ble_eq_true rfl) (Nat.le_of_ble_eq_true rfl) (Nat.le_of_ble_eq_true rfl) dX5_dryTimeFor_64 ?_
            refine kr_nm (y := (mx x2 (M_48 g 19 (ix x3)))) rfl ?_
            refine lt_e hf (fun x2_67 hx2_67 hf => ?_)
            refine kr_nm hx2_67 ?_
            refine lv_istore_n (lv' := [(2, .int x2_67), (0, .ref (adC G g 0)), (1, .int x1), (3, .int x3)]) hx hb dX5_dryTimeFor_67 rfl hl (by decide) rfl (fun ls hl => ?_)
            exact w_X5_dryTimeFor_b68 E hg ih hf hP hS (lv_sub hl [1, 2, 0, 3] rfl)
set_option maxHeartbeats 4000000 in
set_option maxRecDepth 100000 in
theorem w_X5_dryTimeFor {p : Program} {l : Launch} {e : Env} {s : State} {m : MethodId} {args : Array Value} {below : List Frame} {meth : Method} {c : Code} {G : GG} {sz : Nat} {ns : Nat} {g : Nat} {r : Int32} {M' : Mem} (E : Cx p s m args meth c cX5_dryTimeFor (some .int) 4 RX5 G) (hg : pg ns g) {x1 : Int32} {M : Mem} {H : Heap} {locs : List Loc} {ls : Array Slot} (hf : f_X5_dryTimeFor g x1 M = some (r, M')) (hP : PW G (AC G) (XC G ns) sz M s H) (hS : va_S (AC G) s.heap H locs) (hl : lv_has ls 4 [(0, .ref (adC G g 0)), (1, .int x1)]) : W p l e rm_X5_dryTimeFor s m args below meth c H locs 0 0 (MQ below (va_Qi (fun (r2 : Int32) (_ : Unit) => r2 = r) (fun _ t => PW G (AC G) (XC G ns) sz M' t t.heap) (AC G)) args s 0 0 (AC G)) (F0 m 0 ls []) := by
  obtain ⟨hx, hb, hr, hlocks, hml, hown, hts, hK⟩ := id E
  unfold f_X5_dryTimeFor at hf
  refine lv_iconst (v := 0) hx hb dX5_dryTimeFor_0 (by decide) ?_
  refine lv_istore_n (lv' := [(2, .int 0), (0, .ref (adC G g 0)), (1, .int x1)]) hx hb dX5_dryTimeFor_1 rfl hl (by decide) rfl (fun ls hl => ?_)
  refine lv_iconst (v := 0) hx hb dX5_dryTimeFor_2 (by decide) ?_
  refine lv_istore_n (lv' := [(3, .int 0), (2, .int 0), (0, .ref (adC G g 0)), (1, .int x1)]) hx hb dX5_dryTimeFor_3 rfl hl (by decide) rfl (fun ls hl => ?_)
  exact w_X5_dryTimeFor_b4 E hg 1000 _ _ _ _ _ _ _ hf hP hS (lv_sub hl [2, 3, 1, 0] rfl)
theorem c_X5_dryTimeFor (l : Launch) {G : GG} {sz : Nat} {ns : Nat} {g : Nat} (hg : pg ns g) {x1 : Int32} {M : Mem} {r : Int32} {M' : Mem} (hf : f_X5_dryTimeFor g x1 M = some (r, M')) : CtI l yX5_dryTimeFor cX5_dryTimeFor 4 (some .int) rm_X5_dryTimeFor [.ref (adC G g 0), .int x1] G (AC G) (XC G ns) sz M r (XC G ns) sz M' := by
  refine Ct_of (by decide) (Nat.le_of_ble_eq_true rfl) (fun p e s m below meth c ls hx hb hr hlocks hml hown hts hK hP hl => ?_)
  exact w_X5_dryTimeFor ⟨hx, hb, hr, hlocks, hml, hown, hts, hK⟩ hg hf hP va_S.rf hl
set_option maxRecDepth 100000 in
theorem cv_X5_dryTimeFor {p : Program} {l : Launch} {e : Env} {R : Room} {s : State} {m : MethodId} {args : Array Value} {below : List Frame} {meth : Method} {c : Code} {H : Heap} {locs : List Loc} {cells slots : Nat} {Q : State → Prop} {cc : ByteArray} {pc nL index : Nat} {ret : Option FieldType} {own : String} {ls : Array Slot} {rest : List Value} {l' : List (Nat × Value)} {G : GG} {sz : Nat} {ns : Nat} {g : Nat} {M : Mem} (E : Cx p s m args meth c cc ret nL own G) (hP : PW G (AC G) (XC G ns) sz M s H) (hS : va_S (AC G) s.heap H locs) (hg : pg ns g) {x1 : Int32} {r : Int32} {M' : Mem} (hq : f_X5_dryTimeFor g x1 M = some (r, M')) (w1 : Cond.methodLink own index yX5_dryTimeFor ∈ lw_all) (hR : 2 ≤ R.frames ∧ 56 ≤ R.locals) (hl : lv_has ls nL l') (hrest : (rest.map fun v => v.category).sum ≤ 8) (hdg : decode cc pc = .ok (.invokevirtual index, 3)) (hcs : cells ≤ R.cells ∧ slots ≤ R.slots)
    (kk : ∀ (H1 : Heap) (locs1 : List Loc), PW G (AC G) (XC G ns) sz M' s H1 → va_S (AC G) s.heap H1 locs1 → W p l e R s m args below meth c H1 locs1 cells slots Q (F0 m (pc + 3) ls (.int r :: rest))) : W p l e R s m args below meth c H locs cells slots Q (F0 m pc ls (.int x1 :: .ref (adC G g 0) :: rest)) := by
  obtain ⟨hx, hb, hr, hlocks, hml, hown, hts, hK⟩ := E
  obtain ⟨g0, rfl⟩ := pg_s hg
  exact kc_i (kc_runV (na := 1) (q := (RX5, TX5, 9)) hx hb hml hts hown hK hP (g0 + 1) 0 (dmP hg (by decide)) rfl rfl rfl (c_X5_dryTimeFor l hg hq) w1 w_630 w_631 w_2 w_632 (by decide +kernel) hR rfl hl rfl hrest hdg hcs) hS kk
/-! X5_reasonAgainst -/
abbrev rm_X5_reasonAgainst : Room := { frames := 3, cells := 0, slots := 0, locals := 78 }
def f_X5_reasonAgainst (g : Nat) (x1 : Int32) (x2 : Int32) (x3 : Int32) (M : Mem) : Option (Int32 × Mem) :=
ob (f_X4_has g (M g 0 4) M) fun r_8 M_8 =>
(if r_8 = 0 then
  some (1, M_8)
else
  ob (f_X2_isDrawn g x1 M_8) fun r_21 M_21 =>
  (if r_21 = 0 then
    ob (f_X5_isStriking g (M_21 g 0 4) M_21) fun r_34 M_34 =>
    (if r_34 = 0 then
      ck (ibd (M_34 g 0 4) 5) <|
      ob (f_X5_inkFor g (M_34 g 0 4) x1 M_34) fun r_60 M_60 =>
      (if r_60 ≤ (M_34 g 6 (ix (M_34 g 0 4))) then
        ob (f_X5_travelTo g x1 x2 M_60) fun r_72 M_72 =>
        lt ((x3 + r_72)) fun x4_76 =>
        ck (ibd (M_72 g 0 4) 5) <|
        (if ((M_72 g 8 (ix (M_72 g 0 4))) + x4_76) ≤ (M_72 g 1 (ix 1)) then
          ob (f_X5_dryTimeFor g x1 M_72) fun r_113 M_113 =>
          (if r_113 ≤ ((M_72 g 0 3) + x4_76) then
            ck (ibd x1 16) <|
            (if (((M_113 g 0 3) + x4_76) + (M_113 g 15 (ix x1))) ≤ 100000 then
              some (0, M_113)
            else
              some (7, M_113))
          else
            some (6, M_113))
        else
          some (5, M_72))
      else
        some (4, M_60))
    else
      some (3, M_34))
  else
    some (2, M_21)))
set_option maxHeartbeats 4000000 in
set_option maxRecDepth 100000 in
theorem w_X5_reasonAgainst {p : Program} {l : Launch} {e : Env} {s : State} {m : MethodId} {args : Array Value} {below : List Frame} {meth : Method} {c : Code} {G : GG} {sz : Nat} {ns : Nat} {g : Nat} {r : Int32} {M' : Mem} (E : Cx p s m args meth c cX5_reasonAgainst (some .int) 5 RX5 G) (hg : pg ns g) {x1 : Int32} {x2 : Int32} {x3 : Int32} {M : Mem} {H : Heap} {locs : List Loc} {ls : Array Slot} (hf : f_X5_reasonAgainst g x1 x2 x3 M = some (r, M')) (hP : PW G (AC G) (XC G ns) sz M s H) (hS : va_S (AC G) s.heap H locs) (hl : lv_has ls 5 [(0, .ref (adC G g 0)), (1, .int x1), (2, .int x2), (3, .int x3)]) : W p l e rm_X5_reasonAgainst s m args below meth c H locs 0 0 (MQ below (va_Qi (fun (r2 : Int32) (_ : Unit) => r2 = r) (fun _ t => PW G (AC G) (XC G ns) sz M' t t.heap) (AC G)) args s 0 0 (AC G)) (F0 m 0 ls []) := by
  obtain ⟨hx, hb, hr, hlocks, hml, hown, hts, hK⟩ := id E
  unfold f_X5_reasonAgainst at hf
  refine lv_aload_n hx hb dX5_reasonAgainst_0 rfl (lv_at hl 0 rfl) ?_
  refine gf_X5_pens E hP hg w_136 dX5_reasonAgainst_1 ?_
  refine lv_aload_n hx hb dX5_reasonAgainst_4 rfl (lv_at hl 0 rfl) ?_
  refine gf_X5_hand E hP hg w_142 dX5_reasonAgainst_5 ?_
  refine ob_e hf (fun r_8 M_8 hq hf => ?_)
  refine cv_X4_has E hP hS hg hq w_402 ⟨Nat.le_of_ble_eq_true rfl, Nat.le_of_ble_eq_true rfl⟩ hl (Nat.le_of_ble_eq_true rfl) dX5_reasonAgainst_8 ⟨Nat.le_of_ble_eq_true rfl, Nat.le_of_ble_eq_true rfl⟩ (fun H locs hP hS => ?_)
  refine lv_if_ne (tgt := 16) hx hb dX5_reasonAgainst_11 (by decide) (fun hc => ?_) (fun hc => ?_)
  · have hf := if_f hf hc
    refine lv_aload_n hx hb dX5_reasonAgainst_16 rfl (lv_at hl 0 rfl) ?_
    refine gf_X5_lines E hP hg w_138 dX5_reasonAgainst_17 ?_
    refine lv_iload_n hx hb dX5_reasonAgainst_20 rfl (lv_at hl 1 rfl) ?_
    refine ob_e hf (fun r_21 M_21 hq hf => ?_)
    refine cv_X2_isDrawn E hP hS hg hq w_437 ⟨Nat.le_of_ble_eq_true rfl, Nat.le_of_ble_eq_true rfl⟩ hl (Nat.le_of_ble_eq_true rfl) dX5_reasonAgainst_21 ⟨Nat.le_of_ble_eq_true rfl, Nat.le_of_ble_eq_true rfl⟩ (fun H locs hP hS => ?_)
    refine lv_if_eq (tgt := 29) hx hb dX5_reasonAgainst_24 (by decide) (fun hc => ?_) (fun hc => ?_)
    · have hf := if_t hf hc
      refine lv_aload_n hx hb dX5_reasonAgainst_29 rfl (lv_at hl 0 rfl) ?_
      refine lv_aload_n hx hb dX5_reasonAgainst_30 rfl (lv_at hl 0 rfl) ?_
      refine gf_X5_hand E hP hg w_142 dX5_reasonAgainst_31 ?_
      refine ob_e hf (fun r_34 M_34 hq hf => ?_)
      refine cv_X5_isStriking E hP hS hg hq w_611 ⟨Nat.le_of_ble_eq_true rfl, Nat.le_of_ble_eq_true rfl⟩ hl (Nat.le_of_ble_eq_true rfl) dX5_reasonAgainst_34 ⟨Nat.le_of_ble_eq_true rfl, Nat.le_of_ble_eq_true rfl⟩ (fun H locs hP hS => ?_)
      refine lv_if_eq (tgt := 42) hx hb dX5_reasonAgainst_37 (by decide) (fun hc => ?_) (fun hc => ?_)
      · have hf := if_t hf hc
        refine lv_aload_n hx hb dX5_reasonAgainst_42 rfl (lv_at hl 0 rfl) ?_
        refine gf_X5_pens E hP hg w_136 dX5_reasonAgainst_43 ?_
        refine gf_X4_ink E hP hg w_52 dX5_reasonAgainst_46 ?_
        refine lv_aload_n hx hb dX5_reasonAgainst_49 rfl (lv_at hl 0 rfl) ?_
        refine gf_X5_hand E hP hg w_142 dX5_reasonAgainst_50 ?_
        refine ck_e hf (fun hi hf => ?_)
        refine la_P6 E hP hg hi dX5_reasonAgainst_53 ?_
        refine lv_aload_n hx hb dX5_reasonAgainst_54 rfl (lv_at hl 0 rfl) ?_
        refine lv_aload_n hx hb dX5_reasonAgainst_55 rfl (lv_at hl 0 rfl) ?_
        refine gf_X5_hand E hP hg w_142 dX5_reasonAgainst_56 ?_
        refine lv_iload_n hx hb dX5_reasonAgainst_59 rfl (lv_at hl 1 rfl) ?_
        refine ob_e hf (fun r_60 M_60 hq hf => ?_)
        refine cv_X5_inkFor E hP hS hg hq w_612 ⟨Nat.le_of_ble_eq_true rfl, Nat.le_of_ble_eq_true rfl⟩ hl (Nat.le_of_ble_eq_true rfl) dX5_reasonAgainst_60 ⟨Nat.le_of_ble_eq_true rfl, Nat.le_of_ble_eq_true rfl⟩ (fun H locs hP hS => ?_)
        refine lv_icmp_ge (tgt := 68) hx hb dX5_reasonAgainst_63 (by decide) (fun hc => ?_) (fun hc => ?_)
        · have hf := if_t hf hc
          refine lv_iload_n hx hb dX5_reasonAgainst_68 rfl (lv_at hl 3 rfl) ?_
          refine lv_aload_n hx hb dX5_reasonAgainst_69 rfl (lv_at hl 0 rfl) ?_
          refine lv_iload_n hx hb dX5_reasonAgainst_70 rfl (lv_at hl 1 rfl) ?_
          refine lv_iload_n hx hb dX5_reasonAgainst_71 rfl (lv_at hl 2 rfl) ?_
          refine ob_e hf (fun r_72 M_72 hq hf => ?_)
          refine cv_X5_travelTo E hP hS hg hq w_616 ⟨Nat.le_of_ble_eq_true rfl, Nat.le_of_ble_eq_true rfl⟩ hl (Nat.le_of_ble_eq_true rfl) dX5_reasonAgainst_72 ⟨Nat.le_of_ble_eq_true rfl, Nat.le_of_ble_eq_true rfl⟩ (fun H locs hP hS => ?_)
          refine lv_iadd hx hb dX5_reasonAgainst_75 ?_
          refine lt_e hf (fun x4_76 hx4_76 hf => ?_)
          refine kr_nm hx4_76 ?_
          refine lv_istore (lv' := [(4, .int x4_76), (0, .ref (adC G g 0)), (1, .int x1), (2, .int x2), (3, .int x3)]) hx hb dX5_reasonAgainst_76 hl (by decide) rfl (fun ls hl => ?_)
          refine lv_aload_n hx hb dX5_reasonAgainst_78 rfl (lv_at hl 1 rfl) ?_
          refine gf_X5_pens E hP hg w_136 dX5_reasonAgainst_79 ?_
          refine gf_X4_idle E hP hg w_57 dX5_reasonAgainst_82 ?_
          refine lv_aload_n hx hb dX5_reasonAgainst_85 rfl (lv_at hl 1 rfl) ?_
          refine gf_X5_hand E hP hg w_142 dX5_reasonAgainst_86 ?_
          refine ck_e hf (fun hi hf => ?_)
          refine la_P8 E hP hg hi dX5_reasonAgainst_89 ?_
          refine lv_iload hx hb dX5_reasonAgainst_90 (lv_at hl 0 rfl) ?_
          refine lv_iadd hx hb dX5_reasonAgainst_92 ?_
          refine lv_aload_n hx hb dX5_reasonAgainst_93 rfl (lv_at hl 1 rfl) ?_
          refine gf_X5_settings E hP hg w_134 dX5_reasonAgainst_94 ?_
          refine lv_iconst (v := 1) hx hb dX5_reasonAgainst_97 (by decide) ?_
          refine la_P1 E hP hg (by decide) dX5_reasonAgainst_98 ?_
          refine lv_icmp_le (tgt := 104) hx hb dX5_reasonAgainst_99 (by decide) (fun hc => ?_) (fun hc => ?_)
          · have hf := if_t hf hc
            refine lv_aload_n hx hb dX5_reasonAgainst_104 rfl (lv_at hl 1 rfl) ?_
            refine gf_X5_time E hP hg w_140 dX5_reasonAgainst_105 ?_
            refine lv_iload hx hb dX5_reasonAgainst_108 (lv_at hl 0 rfl) ?_
            refine lv_iadd hx hb dX5_reasonAgainst_110 ?_
            refine lv_aload_n hx hb dX5_reasonAgainst_111 rfl (lv_at hl 1 rfl) ?_
            refine lv_iload_n hx hb dX5_reasonAgainst_112 rfl (lv_at hl 2 rfl) ?_
            refine ob_e hf (fun r_113 M_113 hq hf => ?_)
            refine cv_X5_dryTimeFor E hP hS hg hq w_629 ⟨Nat.le_of_ble_eq_true rfl, Nat.le_of_ble_eq_true rfl⟩ hl (Nat.le_of_ble_eq_true rfl) dX5_reasonAgainst_113 ⟨Nat.le_of_ble_eq_true rfl, Nat.le_of_ble_eq_true rfl⟩ (fun H locs hP hS => ?_)
            refine lv_icmp_ge (tgt := 122) hx hb dX5_reasonAgainst_116 (by decide) (fun hc => ?_) (fun hc => ?_)
            · have hf := if_t hf hc
              refine lv_aload_n hx hb dX5_reasonAgainst_122 rfl (lv_at hl 1 rfl) ?_
              refine gf_X5_time E hP hg w_140 dX5_reasonAgainst_123 ?_
              refine lv_iload hx hb dX5_reasonAgainst_126 (lv_at hl 0 rfl) ?_
              refine lv_iadd hx hb dX5_reasonAgainst_128 ?_
              refine lv_aload_n hx hb dX5_reasonAgainst_129 rfl (lv_at hl 1 rfl) ?_
              refine gf_X5_lines E hP hg w_138 dX5_reasonAgainst_130 ?_
              refine gf_X2_length E hP hg w_97 dX5_reasonAgainst_133 ?_
              refine lv_iload_n hx hb dX5_reasonAgainst_136 rfl (lv_at hl 2 rfl) ?_
              refine ck_e hf (fun hi hf => ?_)
              refine la_P15 E hP hg hi dX5_reasonAgainst_137 ?_
              refine lv_iadd hx hb dX5_reasonAgainst_138 ?_
              refine lv_ldc (v := 100000) hx hb hown (hts _ w_392) dX5_reasonAgainst_139 ?_
              refine lv_icmp_le (tgt := 147) hx hb dX5_reasonAgainst_141 (by decide) (fun hc => ?_) (fun hc => ?_)
              · have hf := if_t hf hc
                refine lv_iconst (v := 0) hx hb dX5_reasonAgainst_147 (by decide) ?_
                exact en_i hf hx hb hr rfl hlocks hP hS dX5_reasonAgainst_148
              · have hf := if_f hf hc
                refine lv_bipush (v := 7) hx hb dX5_reasonAgainst_144 (by decide) ?_
                exact en_i hf hx hb hr rfl hlocks hP hS dX5_reasonAgainst_146
            · have hf := if_f hf hc
              refine lv_bipush (v := 6) hx hb dX5_reasonAgainst_119 (by decide) ?_
              exact en_i hf hx hb hr rfl hlocks hP hS dX5_reasonAgainst_121
          · have hf := if_f hf hc
            refine lv_iconst (v := 5) hx hb dX5_reasonAgainst_102 (by decide) ?_
            exact en_i hf hx hb hr rfl hlocks hP hS dX5_reasonAgainst_103
        · have hf := if_f hf hc
          refine lv_iconst (v := 4) hx hb dX5_reasonAgainst_66 (by decide) ?_
          exact en_i hf hx hb hr rfl hlocks hP hS dX5_reasonAgainst_67
      · have hf := if_f hf hc
        refine lv_iconst (v := 3) hx hb dX5_reasonAgainst_40 (by decide) ?_
        exact en_i hf hx hb hr rfl hlocks hP hS dX5_reasonAgainst_41
    · have hf := if_f hf hc
      refine lv_iconst (v := 2) hx hb dX5_reasonAgainst_27 (by decide) ?_
      exact en_i hf hx hb hr rfl hlocks hP hS dX5_reasonAgainst_28
  · have hf := if_t hf hc
    refine lv_iconst (v := 1) hx hb dX5_reasonAgainst_14 (by decide) ?_
    exact en_i hf hx hb hr rfl hlocks hP hS dX5_reasonAgainst_15
theorem c_X5_reasonAgainst (l : Launch) {G : GG} {sz : Nat} {ns : Nat} {g : Nat} (hg : pg ns g) {x1 : Int32} {x2 : Int32} {x3 : Int32} {M : Mem} {r : Int32} {M' : Mem} (hf : f_X5_reasonAgainst g x1 x2 x3 M = some (r, M')) : CtI l yX5_reasonAgainst cX5_reasonAgainst 5 (some .int) rm_X5_reasonAgainst [.ref (adC G g 0), .int x1, .int x2, .int x3] G (AC G) (XC G ns) sz M r (XC G ns) sz M' := by
  refine Ct_of (by decide) (Nat.le_of_ble_eq_true rfl) (fun p e s m below meth c ls hx hb hr hlocks hml hown hts hK hP hl => ?_)
  exact w_X5_reasonAgainst ⟨hx, hb, hr, hlocks, hml, hown, hts, hK⟩ hg hf hP va_S.rf hl
set_option maxRecDepth 100000 in
theorem cv_X5_reasonAgainst {p : Program} {l : Launch} {e : Env} {R : Room} {s : State} {m : MethodId} {args : Array Value} {below : List Frame} {meth : Method} {c : Code} {H : Heap} {locs : List Loc} {cells slots : Nat} {Q : State → Prop} {cc : ByteArray} {pc nL index : Nat} {ret : Option FieldType} {own : String} {ls : Array Slot} {rest : List Value} {l' : List (Nat × Value)} {G : GG} {sz : Nat} {ns : Nat} {g : Nat} {M : Mem} (E : Cx p s m args meth c cc ret nL own G) (hP : PW G (AC G) (XC G ns) sz M s H) (hS : va_S (AC G) s.heap H locs) (hg : pg ns g) {x1 : Int32} {x2 : Int32} {x3 : Int32} {r : Int32} {M' : Mem} (hq : f_X5_reasonAgainst g x1 x2 x3 M = some (r, M')) (w1 : Cond.methodLink own index yX5_reasonAgainst ∈ lw_all) (hR : 4 ≤ R.frames ∧ 102 ≤ R.locals) (hl : lv_has ls nL l') (hrest : (rest.map fun v => v.category).sum ≤ 8) (hdg : decode cc pc = .ok (.invokevirtual index, 3)) (hcs : cells ≤ R.cells ∧ slots ≤ R.slots)
    (kk : ∀ (H1 : Heap) (locs1 : List Loc), PW G (AC G) (XC G ns) sz M' s H1 → va_S (AC G) s.heap H1 locs1 → W p l e R s m args below meth c H1 locs1 cells slots Q (F0 m (pc + 3) ls (.int r :: rest))) : W p l e R s m args below meth c H locs cells slots Q (F0 m pc ls (.int x3 :: .int x2 :: .int x1 :: .ref (adC G g 0) :: rest)) := by
  obtain ⟨hx, hb, hr, hlocks, hml, hown, hts, hK⟩ := E
  obtain ⟨g0, rfl⟩ := pg_s hg
  exact kc_i (kc_runV (na := 3) (q := (RX5, TX5, 9)) hx hb hml hts hown hK hP (g0 + 1) 0 (dmP hg (by decide)) rfl rfl rfl (c_X5_reasonAgainst l hg hq) w1 w_608 w_609 w_2 w_610 (by decide +kernel) hR rfl hl rfl hrest hdg hcs) hS kk
/-! X5_drawByHand -/
abbrev rm_X5_drawByHand : Room := { frames := 3, cells := 0, slots := 0, locals := 78 }
def f_X5_drawByHand (g : Nat) (x1 : Int32) (x2 : Int32) (M : Mem) : Option (Unit × Mem) :=
ob (f_X5_travelTo g x1 x2 M) fun r_3 M_3 =>
ck (ibd x1 16) <|
lt ((M_3 g 15 (ix x1))) fun x4_16 =>
lt (up3 M_3 g 0 3 ((M_3 g 0 3) + (r_3 + x4_16))) fun M_28 =>
lt (up3 M_28 g 0 8 ((M_28 g 0 8) + r_3)) fun M_38 =>
ob (f_X2_beginX g x1 (1 - x2) M_38) fun r_50 M_50 =>
lt (up3 M_50 g 0 5 r_50) fun M_53 =>
ob (f_X2_beginY g x1 (1 - x2) M_53) fun r_65 M_65 =>
lt (up3 M_65 g 0 6 r_65) fun M_68 =>
ck (ibd x1 16) <|
lt (up3 M_68 g 17 (ix x1) (M_68 g 0 4)) fun M_83 =>
ck (ibd x1 16) <|
lt (up3 M_83 g 18 (ix x1) (M_83 g 0 3)) fun M_96 =>
ck (ibd x1 16) <|
lt (up3 M_96 g 19 (ix x1) ((M_96 g 0 3) + (M_96 g 1 (ix 2)))) fun M_116 =>
ck (ibd (M_116 g 0 4) 5) <|
ck (ibd x1 16) <|
lt (up3 M_116 g 20 (ix x1) (M_116 g 6 (ix (M_116 g 0 4)))) fun M_137 =>
ck (ibd (M_137 g 0 4) 5) <|
ob (f_X5_inkFor g (M_137 g 0 4) x1 M_137) fun r_157 M_157 =>
ck (ibd (M_137 g 0 4) 5) <|
lt (up3 M_157 g 6 (ix (M_137 g 0 4)) ((M_137 g 6 (ix (M_137 g 0 4))) - r_157)) fun M_161 =>
ck (ibd (M_161 g 0 4) 5) <|
ck (ibd (M_161 g 0 4) 5) <|
lt (up3 M_161 g 7 (ix (M_161 g 0 4)) ((M_161 g 7 (ix (M_161 g 0 4))) + x4_16)) fun M_178 =>
ck (ibd (M_178 g 0 4) 5) <|
lt (up3 M_178 g 8 (ix (M_178 g 0 4)) 0) fun M_191 =>
some ((), M_191)
set_option maxHeartbeats 4000000 in
set_option maxRecDepth 100000 in
theorem w_X5_drawByHand {p : Program} {l : Launch} {e : Env} {s : State} {m : MethodId} {args : Array Value} {below : List Frame} {meth : Method} {c : Code} {G : GG} {sz : Nat} {ns : Nat} {g : Nat} {r : Unit} {M' : Mem} (E : Cx p s m args meth c cX5_drawByHand none 5 RX5 G) (hg : pg ns g) {x1 : Int32} {x2 : Int32} {M : Mem} {H : Heap} {locs : List Loc} {ls : Array Slot} (hf : f_X5_drawByHand g x1 x2 M = some (r, M')) (hP : PW G (AC G) (XC G ns) sz M s H) (hS : va_S (AC G) s.heap H locs) (hl : lv_has ls 5 [(0, .ref (adC G g 0)), (1, .int x1), (2, .int x2)]) : W p l e rm_X5_drawByHand s m args below meth c H locs 0 0 (MQ below (va_Qv (fun (_ : Unit) => True) (fun _ t => PW G (AC G) (XC G ns) sz M' t t.heap) (AC G)) args s 0 0 (AC G)) (F0 m 0 ls []) := by
  obtain ⟨hx, hb, hr, hlocks, hml, hown, hts, hK⟩ := id E
  unfold f_X5_drawByHand at hf
  refine lv_aload_n hx hb dX5_drawByHand_0 rfl (lv_at hl 0 rfl) ?_
  refine lv_iload_n hx hb dX5_drawByHand_1 rfl (lv_at hl 1 rfl) ?_
  refine lv_iload_n hx hb dX5_drawByHand_2 rfl (lv_at hl 2 rfl) ?_
  refine ob_e hf (fun r_3 M_3 hq hf => ?_)
  refine cv_X5_travelTo E hP hS hg hq w_616 ⟨Nat.le_of_ble_eq_true rfl, Nat.le_of_ble_eq_true rfl⟩ hl (Nat.le_of_ble_eq_true rfl) dX5_drawByHand_3 ⟨Nat.le_of_ble_eq_true rfl, Nat.le_of_ble_eq_true rfl⟩ (fun H locs hP hS => ?_)
  refine lv_istore_n (lv' := [(3, .int r_3), (0, .ref (adC G g 0)), (1, .int x1), (2, .int x2)]) hx hb dX5_drawByHand_6 rfl hl (by decide) rfl (fun ls hl => ?_)
  refine lv_aload_n hx hb dX5_drawByHand_7 rfl (lv_at hl 1 rfl) ?_
  refine gf_X5_lines E hP hg w_138 dX5_drawByHand_8 ?_
  refine gf_X2_length E hP hg w_97 dX5_drawByHand_11 ?_
  refine lv_iload_n hx hb dX5_drawByHand_14 rfl (lv_at hl 2 rfl) ?_
  refine ck_e hf (fun hi hf => ?_)
  refine la_P15 E hP hg hi dX5_drawByHand_15 ?_
  refine lt_e hf (fun x4_16 hx4_16 hf => ?_)
  refine kr_nm hx4_16 ?_
  refine lv_istore (lv' := [(4, .int x4_16), (3, .int r_3), (0, .ref (adC G g 0)), (1, .int x1), (2, .int x2)]) hx hb dX5_drawByHand_16 hl (by decide) rfl (fun ls hl => ?_)
  refine lv_aload_n hx hb dX5_drawByHand_18 rfl (lv_at hl 2 rfl) ?_
  refine lv_dup hx hb dX5_drawByHand_19 rfl ?_
  refine gf_X5_time E hP hg w_140 dX5_drawByHand_20 ?_
  refine lv_iload_n hx hb dX5_drawByHand_23 rfl (lv_at hl 1 rfl) ?_
  refine lv_iload hx hb dX5_drawByHand_24 (lv_at hl 0 rfl) ?_
  refine lv_iadd hx hb dX5_drawByHand_26 ?_
  refine lv_iadd hx hb dX5_drawByHand_27 ?_
  refine lt_e hf (fun M_28 hM_28 hf => ?_)
  refine pf_X5_time E hP hS hg hM_28 w_140 dX5_drawByHand_28 (fun H locs hP hS => ?_)
  refine lv_aload_n hx hb dX5_drawByHand_31 rfl (lv_at hl 2 rfl) ?_
  refine lv_dup hx hb dX5_drawByHand_32 rfl ?_
  refine gf_X5_travelled E hP hg w_150 dX5_drawByHand_33 ?_
  refine lv_iload_n hx hb dX5_drawByHand_36 rfl (lv_at hl 1 rfl) ?_
  refine lv_iadd hx hb dX5_drawByHand_37 ?_
  refine lt_e hf (fun M_38 hM_38 hf => ?_)
  refine pf_X5_travelled E hP hS hg hM_38 w_150 dX5_drawByHand_38 (fun H locs hP hS => ?_)
  refine lv_aload_n hx hb dX5_drawByHand_41 rfl (lv_at hl 2 rfl) ?_
  refine lv_aload_n hx hb dX5_drawByHand_42 rfl (lv_at hl 2 rfl) ?_
  refine gf_X5_lines E hP hg w_138 dX5_drawByHand_43 ?_
  refine lv_iload_n hx hb dX5_drawByHand_46 rfl (lv_at hl 3 rfl) ?_
  refine lv_iconst (v := 1) hx hb dX5_drawByHand_47 (by decide) ?_
  refine lv_iload_n hx hb dX5_drawByHand_48 rfl (lv_at hl 4 rfl) ?_
  refine lv_isub hx hb dX5_drawByHand_49 ?_
  refine ob_e hf (fun r_50 M_50 hq hf => ?_)
  refine cv_X2_beginX E hP hS hg hq w_620 ⟨Nat.le_of_ble_eq_true rfl, Nat.le_of_ble_eq_true rfl⟩ hl (Nat.le_of_ble_eq_true rfl) dX5_drawByHand_50 ⟨Nat.le_of_ble_eq_true rfl, Nat.le_of_ble_eq_true rfl⟩ (fun H locs hP hS => ?_)
  refine lt_e hf (fun M_53 hM_53 hf => ?_)
  refine pf_X5_x E hP hS hg hM_53 w_144 dX5_drawByHand_53 (fun H locs hP hS => ?_)
  refine lv_aload_n hx hb dX5_drawByHand_56 rfl (lv_at hl 2 rfl) ?_
  refine lv_aload_n hx hb dX5_drawByHand_57 rfl (lv_at hl 2 rfl) ?_
  refine gf_X5_lines E hP hg w_138 dX5_drawByHand_58 ?_
  refine lv_iload_n hx hb dX5_drawByHand_61 rfl (lv_at hl 3 rfl) ?_
  refine lv_iconst (v := 1) hx hb dX5_drawByHand_62 (by decide) ?_
  refine lv_iload_n hx hb dX5_drawByHand_63 rfl (lv_at hl 4 rfl) ?_
  refine lv_isub hx hb dX5_drawByHand_64 ?_
  refine ob_e hf (fun r_65 M_65 hq hf => ?_)
  refine cv_X2_beginY E hP hS hg hq w_624 ⟨Nat.le_of_ble_eq_true rfl, Nat.le_of_ble_eq_true rfl⟩ hl (Nat.le_of_ble_eq_true rfl) dX5_drawByHand_65 ⟨Nat.le_of_ble_eq_true rfl, Nat.le_of_ble_eq_true rfl⟩ (fun H locs hP hS => ?_)
  refine lt_e hf (fun M_68 hM_68 hf => ?_)
  refine pf_X5_y E hP hS hg hM_68 w_146 dX5_drawByHand_68 (fun H locs hP hS => ?_)
  refine lv_aload_n hx hb dX5_drawByHand_71 rfl (lv_at hl 2 rfl) ?_
  refine gf_X5_lines E hP hg w_138 dX5_drawByHand_72 ?_
  refine gf_X2_drawnBy E hP hg w_102 dX5_drawByHand_75 ?_
  refine lv_iload_n hx hb dX5_drawByHand_78 rfl (lv_at hl 3 rfl) ?_
  refine lv_aload_n hx hb dX5_drawByHand_79 rfl (lv_at hl 2 rfl) ?_
  refine gf_X5_hand E hP hg w_142 dX5_drawByHand_80 ?_
  refine ck_e hf (fun hi hf => ?_)
  refine lt_e hf (fun M_83 hM_83 hf => ?_)
  refine sa_P17 E hP hS hg hi hM_83 dX5_drawByHand_83 (fun H locs hP hS => ?_)
  refine lv_aload_n hx hb dX5_drawByHand_84 rfl (lv_at hl 2 rfl) ?_
  refine gf_X5_lines E hP hg w_138 dX5_drawByHand_85 ?_
  refine gf_X2_doneAt E hP hg w_106 dX5_drawByHand_88 ?_
  refine lv_iload_n hx hb dX5_drawByHand_91 rfl (lv_at hl 3 rfl) ?_
  refine lv_aload_n hx hb dX5_drawByHand_92 rfl (lv_at hl 2 rfl) ?_
  refine gf_X5_time E hP hg w_140 dX5_drawByHand_93 ?_
  refine ck_e hf (fun hi hf => ?_)
  refine lt_e hf (fun M_96 hM_96 hf => ?_)
  refine sa_P18 E hP hS hg hi hM_96 dX5_drawByHand_96 (fun H locs hP hS => ?_)
  refine lv_aload_n hx hb dX5_drawByHand_97 rfl (lv_at hl 2 rfl) ?_
  refine gf_X5_lines E hP hg w_138 dX5_drawByHand_98 ?_
  refine gf_X2_dryAt E hP hg w_108 dX5_drawByHand_101 ?_
  refine lv_iload_n hx hb dX5_drawByHand_104 rfl (lv_at hl 3 rfl) ?_
  refine lv_aload_n hx hb dX5_drawByHand_105 rfl (lv_at hl 2 rfl) ?_
  refine gf_X5_time E hP hg w_140 dX5_drawByHand_106 ?_
  refine lv_aload_n hx hb dX5_drawByHand_109 rfl (lv_at hl 2 rfl) ?_
  refine gf_X5_settings E hP hg w_134 dX5_drawByHand_110 ?_
  refine lv_iconst (v := 2) hx hb dX5_drawByHand_113 (by decide) ?_
  refine la_P1 E hP hg (by decide) dX5_drawByHand_114 ?_
  refine lv_iadd hx hb dX5_drawByHand_115 ?_
  refine ck_e hf (fun hi hf => ?_)
  refine lt_e hf (fun M_116 hM_116 hf => ?_)
  refine sa_P19 E hP hS hg hi hM_116 dX5_drawByHand_116 (fun H locs hP hS => ?_)
  refine lv_aload_n hx hb dX5_drawByHand_117 rfl (lv_at hl 2 rfl) ?_
  refine gf_X5_lines E hP hg w_138 dX5_drawByHand_118 ?_
  refine gf_X2_inkAtBegin E hP hg w_110 dX5_drawByHand_121 ?_
  refine lv_iload_n hx hb dX5_drawByHand_124 rfl (lv_at hl 3 rfl) ?_
  refine lv_aload_n hx hb dX5_drawByHand_125 rfl (lv_at hl 2 rfl) ?_
  refine gf_X5_pens E hP hg w_136 dX5_drawByHand_126 ?_
  refine gf_X4_ink E hP hg w_52 dX5_drawByHand_129 ?_
  refine lv_aload_n hx hb dX5_drawByHand_132 rfl (lv_at hl 2 rfl) ?_
  refine gf_X5_hand E hP hg w_142 dX5_drawByHand_133 ?_
  refine ck_e hf (fun hi hf => ?_)
  refine la_P6 E hP hg hi dX5_drawByHand_136 ?_
  refine ck_e hf (fun hi hf => ?_)
  refine lt_e hf (fun M_137 hM_137 hf => ?_)
  refine sa_P20 E hP hS hg hi hM_137 dX5_drawByHand_137 (fun H locs hP hS => ?_)
  refine lv_aload_n hx hb dX5_drawByHand_138 rfl (lv_at hl 2 rfl) ?_
  refine gf_X5_pens E hP hg w_136 dX5_drawByHand_139 ?_
  refine gf_X4_ink E hP hg w_52 dX5_drawByHand_142 ?_
  refine lv_aload_n hx hb dX5_drawByHand_145 rfl (lv_at hl 2 rfl) ?_
  refine gf_X5_hand E hP hg w_142 dX5_drawByHand_146 ?_
  refine lv_dup2_11 hx hb dX5_drawByHand_149 rfl rfl ?_
  refine ck_e hf (fun hi hf => ?_)
  refine la_P6 E hP hg hi dX5_drawByHand_150 ?_
  refine lv_aload_n hx hb dX5_drawByHand_151 rfl (lv_at hl 2 rfl) ?_
  refine lv_aload_n hx hb dX5_drawByHand_152 rfl (lv_at hl 2 rfl) ?_
  refine gf_X5_hand E hP hg w_142 dX5_drawByHand_153 ?_
  refine lv_iload_n hx hb dX5_drawByHand_156 rfl (lv_at hl 3 rfl) ?_
  refine ob_e hf (fun r_157 M_157 hq hf => ?_)
  refine cv_X5_inkFor E hP hS hg hq w_612 ⟨Nat.le_of_ble_eq_true rfl, Nat.le_of_ble_eq_true rfl⟩ hl (Nat.le_of_ble_eq_true rfl) dX5_drawByHand_157 ⟨Nat.le_of_ble_eq_true rfl, Nat.le_of_ble_eq_true rfl⟩ (fun H locs hP hS => ?_)
  refine lv_isub hx hb dX5_drawByHand_160 ?_
  refine ck_e hf (fun hi hf => ?_)
  refine lt_e hf (fun M_161 hM_161 hf => ?_)
  refine sa_P6 E hP hS hg hi hM_161 dX5_drawByHand_161 (fun H locs hP hS => ?_)
  refine lv_aload_n hx hb dX5_drawByHand_162 rfl (lv_at hl 2 rfl) ?_
  refine gf_X5_pens E hP hg w_136 dX5_drawByHand_163 ?_
  refine gf_X4_drawn E hP hg w_54 dX5_drawByHand_166 ?_
  refine lv_aload_n hx hb dX5_drawByHand_169 rfl (lv_at hl 2 rfl) ?_
  refine gf_X5_hand E hP hg w_142 dX5_drawByHand_170 ?_
  refine lv_dup2_11 hx hb dX5_drawByHand_173 rfl rfl ?_
  refine ck_e hf (fun hi hf => ?_)
  refine la_P7 E hP hg hi dX5_drawByHand_174 ?_
  refine lv_iload hx hb dX5_drawByHand_175 (lv_at hl 0 rfl) ?_
  refine lv_iadd hx hb dX5_drawByHand_177 ?_
  refine ck_e hf (fun hi hf => ?_)
  refine lt_e hf (fun M_178 hM_178 hf => ?_)
  refine sa_P7 E hP hS hg hi hM_178 dX5_drawByHand_178 (fun H locs hP hS => ?_)
  refine lv_aload_n hx hb dX5_drawByHand_179 rfl (lv_at hl 2 rfl) ?_
  refine gf_X5_pens E hP hg w_136 dX5_drawByHand_180 ?_
  refine gf_X4_idle E hP hg w_57 dX5_drawByHand_183 ?_
  refine lv_aload_n hx hb dX5_drawByHand_186 rfl (lv_at hl 2 rfl) ?_
  refine gf_X5_hand E hP hg w_142 dX5_drawByHand_187 ?_
  refine lv_iconst (v := 0) hx hb dX5_drawByHand_190 (by decide) ?_
  refine ck_e hf (fun hi hf => ?_)
  refine lt_e hf (fun M_191 hM_191 hf => ?_)
  refine sa_P8 E hP hS hg hi hM_191 dX5_drawByHand_191 (fun H locs hP hS => ?_)
  exact en_v hf hx hb hr hlocks hP hS dX5_drawByHand_192
theorem c_X5_drawByHand (l : Launch) {G : GG} {sz : Nat} {ns : Nat} {g : Nat} (hg : pg ns g) {x1 : Int32} {x2 : Int32} {M : Mem} {r : Unit} {M' : Mem} (hf : f_X5_drawByHand g x1 x2 M = some (r, M')) : CtV l yX5_drawByHand cX5_drawByHand 5 none rm_X5_drawByHand [.ref (adC G g 0), .int x1, .int x2] G (AC G) (XC G ns) sz M r (XC G ns) sz M' := by
  refine Ct_of (by decide) (Nat.le_of_ble_eq_true rfl) (fun p e s m below meth c ls hx hb hr hlocks hml hown hts hK hP hl => ?_)
  exact w_X5_drawByHand ⟨hx, hb, hr, hlocks, hml, hown, hts, hK⟩ hg hf hP va_S.rf hl
set_option maxRecDepth 100000 in
theorem cv_X5_drawByHand {p : Program} {l : Launch} {e : Env} {R : Room} {s : State} {m : MethodId} {args : Array Value} {below : List Frame} {meth : Method} {c : Code} {H : Heap} {locs : List Loc} {cells slots : Nat} {Q : State → Prop} {cc : ByteArray} {pc nL index : Nat} {ret : Option FieldType} {own : String} {ls : Array Slot} {rest : List Value} {l' : List (Nat × Value)} {G : GG} {sz : Nat} {ns : Nat} {g : Nat} {M : Mem} (E : Cx p s m args meth c cc ret nL own G) (hP : PW G (AC G) (XC G ns) sz M s H) (hS : va_S (AC G) s.heap H locs) (hg : pg ns g) {x1 : Int32} {x2 : Int32} {r : Unit} {M' : Mem} (hq : f_X5_drawByHand g x1 x2 M = some (r, M')) (w1 : Cond.methodLink own index yX5_drawByHand ∈ lw_all) (hR : 4 ≤ R.frames ∧ 102 ≤ R.locals) (hl : lv_has ls nL l') (hrest : (rest.map fun v => v.category).sum ≤ 8) (hdg : decode cc pc = .ok (.invokevirtual index, 3)) (hcs : cells ≤ R.cells ∧ slots ≤ R.slots)
    (kk : ∀ (H1 : Heap) (locs1 : List Loc), PW G (AC G) (XC G ns) sz M' s H1 → va_S (AC G) s.heap H1 locs1 → W p l e R s m args below meth c H1 locs1 cells slots Q (F0 m (pc + 3) ls (rest))) : W p l e R s m args below meth c H locs cells slots Q (F0 m pc ls (.int x2 :: .int x1 :: .ref (adC G g 0) :: rest)) := by
  obtain ⟨hx, hb, hr, hlocks, hml, hown, hts, hK⟩ := E
  obtain ⟨g0, rfl⟩ := pg_s hg
  exact kc_v (kc_runV (na := 2) (q := (RX5, TX5, 9)) hx hb hml hts hown hK hP (g0 + 1) 0 (dmP hg (by decide)) rfl rfl rfl (c_X5_drawByHand l hg hq) w1 w_640 w_641 w_2 w_642 (by decide +kernel) hR rfl hl rfl hrest hdg hcs) hS kk
/-! X5_passIdly -/
abbrev rm_X5_passIdly : Room := { frames := 2, cells := 0, slots := 0, locals := 43 }
def f_X5_passIdly_b40 (g : Nat) (M : Mem) : Option (Unit × Mem) :=
some ((), M)
def f_X5_passIdly (g : Nat) (x1 : Int32) (M : Mem) : Option (Unit × Mem) :=
lt (up3 M g 0 3 ((M g 0 3) + x1)) fun M_7 =>
ob (f_X4_has g (M_7 g 0 4) M_7) fun r_18 M_18 =>
(if r_18 = 0 then
  f_X5_passIdly_b40 g M_18
else
  ck (ibd (M_18 g 0 4) 5) <|
  ck (ibd (M_18 g 0 4) 5) <|
  lt (up3 M_18 g 8 (ix (M_18 g 0 4)) ((M_18 g 8 (ix (M_18 g 0 4))) + x1)) fun M_39 =>
  f_X5_passIdly_b40 g M_39)
set_option maxHeartbeats 4000000 in
set_option maxRecDepth 100000 in
theorem w_X5_passIdly_b40 {p : Program} {l : Launch} {e : Env} {s : State} {m : MethodId} {args : Array Value} {below : List Frame} {meth : Method} {c : Code} {G : GG} {sz : Nat} {ns : Nat} {g : Nat} {r : Unit} {M' : Mem} (E : Cx p s m args meth c cX5_passIdly none 2 RX5 G) (hg : pg ns g) {M : Mem} {H : Heap} {locs : List Loc} {ls : Array Slot} (hf : f_X5_passIdly_b40 g M = some (r, M')) (hP : PW G (AC G) (XC G ns) sz M s H) (hS : va_S (AC G) s.heap H locs) (hl : lv_has ls 2 []) : W p l e rm_X5_passIdly s m args below meth c H locs 0 0 (MQ below (va_Qv (fun (_ : Unit) => True) (fun _ t => PW G (AC G) (XC G ns) sz M' t t.heap) (AC G)) args s 0 0 (AC G)) (F0 m 40 ls []) := by
  obtain ⟨hx, hb, hr, hlocks, hml, hown, hts, hK⟩ := id E
  unfold f_X5_passIdly_b40 at hf
  exact en_v hf hx hb hr hlocks hP hS dX5_passIdly_40
set_option maxHeartbeats 4000000 in
set_option maxRecDepth 100000 in
theorem w_X5_passIdly {p : Program} {l : Launch} {e : Env} {s : State} {m : MethodId} {args : Array Value} {below : List Frame} {meth : Method} {c : Code} {G : GG} {sz : Nat} {ns : Nat} {g : Nat} {r : Unit} {M' : Mem} (E : Cx p s m args meth c cX5_passIdly none 2 RX5 G) (hg : pg ns g) {x1 : Int32} {M : Mem} {H : Heap} {locs : List Loc} {ls : Array Slot} (hf : f_X5_passIdly g x1 M = some (r, M')) (hP : PW G (AC G) (XC G ns) sz M s H) (hS : va_S (AC G) s.heap H locs) (hl : lv_has ls 2 [(0, .ref (adC G g 0)), (1, .int x1)]) : W p l e rm_X5_passIdly s m args below meth c H locs 0 0 (MQ below (va_Qv (fun (_ : Unit) => True) (fun _ t => PW G (AC G) (XC G ns) sz M' t t.heap) (AC G)) args s 0 0 (AC G)) (F0 m 0 ls []) := by
  obtain ⟨hx, hb, hr, hlocks, hml, hown, hts, hK⟩ := id E
  unfold f_X5_passIdly at hf
  refine lv_aload_n hx hb dX5_passIdly_0 rfl (lv_at hl 0 rfl) ?_
  refine lv_dup hx hb dX5_passIdly_1 rfl ?_
  refine gf_X5_time E hP hg w_140 dX5_passIdly_2 ?_
  refine lv_iload_n hx hb dX5_passIdly_5 rfl (lv_at hl 1 rfl) ?_
  refine lv_iadd hx hb dX5_passIdly_6 ?_
  refine lt_e hf (fun M_7 hM_7 hf => ?_)
  refine pf_X5_time E hP hS hg hM_7 w_140 dX5_passIdly_7 (fun H locs hP hS => ?_)
  refine lv_aload_n hx hb dX5_passIdly_10 rfl (lv_at hl 0 rfl) ?_
  refine gf_X5_pens E hP hg w_136 dX5_passIdly_11 ?_
  refine lv_aload_n hx hb dX5_passIdly_14 rfl (lv_at hl 0 rfl) ?_
  refine gf_X5_hand E hP hg w_142 dX5_passIdly_15 ?_
  refine ob_e hf (fun r_18 M_18 hq hf => ?_)
  refine cv_X4_has E hP hS hg hq w_402 ⟨Nat.le_of_ble_eq_true rfl, Nat.le_of_ble_eq_true rfl⟩ hl (Nat.le_of_ble_eq_true rfl) dX5_passIdly_18 ⟨Nat.le_of_ble_eq_true rfl, Nat.le_of_ble_eq_true rfl⟩ (fun H locs hP hS => ?_)
  refine lv_if_eq (tgt := 40) hx hb dX5_passIdly_21 (by decide) (fun hc => ?_) (fun hc => ?_)
  · have hf := if_t hf hc
    exact w_X5_passIdly_b40 E hg hf hP hS (lv_sub hl [] rfl)
  · have hf := if_f hf hc
    refine lv_aload_n hx hb dX5_passIdly_24 rfl (lv_at hl 0 rfl) ?_
    refine gf_X5_pens E hP hg w_136 dX5_passIdly_25 ?_
    refine gf_X4_idle E hP hg w_57 dX5_passIdly_28 ?_
    refine lv_aload_n hx hb dX5_passIdly_31 rfl (lv_at hl 0 rfl) ?_
    refine gf_X5_hand E hP hg w_142 dX5_passIdly_32 ?_
    refine lv_dup2_11 hx hb dX5_passIdly_35 rfl rfl ?_
    refine ck_e hf (fun hi hf => ?_)
    refine la_P8 E hP hg hi dX5_passIdly_36 ?_
    refine lv_iload_n hx hb dX5_passIdly_37 rfl (lv_at hl 1 rfl) ?_
    refine lv_iadd hx hb dX5_passIdly_38 ?_
    refine ck_e hf (fun hi hf => ?_)
    refine lt_e hf (fun M_39 hM_39 hf => ?_)
    refine sa_P8 E hP hS hg hi hM_39 dX5_passIdly_39 (fun H locs hP hS => ?_)
    exact w_X5_passIdly_b40 E hg hf hP hS (lv_sub hl [] rfl)
theorem c_X5_passIdly (l : Launch) {G : GG} {sz : Nat} {ns : Nat} {g : Nat} (hg : pg ns g) {x1 : Int32} {M : Mem} {r : Unit} {M' : Mem} (hf : f_X5_passIdly g x1 M = some (r, M')) : CtV l yX5_passIdly cX5_passIdly 2 none rm_X5_passIdly [.ref (adC G g 0), .int x1] G (AC G) (XC G ns) sz M r (XC G ns) sz M' := by
  refine Ct_of (by decide) (Nat.le_of_ble_eq_true rfl) (fun p e s m below meth c ls hx hb hr hlocks hml hown hts hK hP hl => ?_)
  exact w_X5_passIdly ⟨hx, hb, hr, hlocks, hml, hown, hts, hK⟩ hg hf hP va_S.rf hl
set_option maxRecDepth 100000 in
theorem cv_X5_passIdly {p : Program} {l : Launch} {e : Env} {R : Room} {s : State} {m : MethodId} {args : Array Value} {below : List Frame} {meth : Method} {c : Code} {H : Heap} {locs : List Loc} {cells slots : Nat} {Q : State → Prop} {cc : ByteArray} {pc nL index : Nat} {ret : Option FieldType} {own : String} {ls : Array Slot} {rest : List Value} {l' : List (Nat × Value)} {G : GG} {sz : Nat} {ns : Nat} {g : Nat} {M : Mem} (E : Cx p s m args meth c cc ret nL own G) (hP : PW G (AC G) (XC G ns) sz M s H) (hS : va_S (AC G) s.heap H locs) (hg : pg ns g) {x1 : Int32} {r : Unit} {M' : Mem} (hq : f_X5_passIdly g x1 M = some (r, M')) (w1 : Cond.methodLink own index yX5_passIdly ∈ lw_all) (hR : 3 ≤ R.frames ∧ 64 ≤ R.locals) (hl : lv_has ls nL l') (hrest : (rest.map fun v => v.category).sum ≤ 8) (hdg : decode cc pc = .ok (.invokevirtual index, 3)) (hcs : cells ≤ R.cells ∧ slots ≤ R.slots)
    (kk : ∀ (H1 : Heap) (locs1 : List Loc), PW G (AC G) (XC G ns) sz M' s H1 → va_S (AC G) s.heap H1 locs1 → W p l e R s m args below meth c H1 locs1 cells slots Q (F0 m (pc + 3) ls (rest))) : W p l e R s m args below meth c H locs cells slots Q (F0 m pc ls (.int x1 :: .ref (adC G g 0) :: rest)) := by
  obtain ⟨hx, hb, hr, hlocks, hml, hown, hts, hK⟩ := E
  obtain ⟨g0, rfl⟩ := pg_s hg
  exact kc_v (kc_runV (na := 1) (q := (RX5, TX5, 9)) hx hb hml hts hown hK hP (g0 + 1) 0 (dmP hg (by decide)) rfl rfl rfl (c_X5_passIdly l hg hq) w1 w_399 w_400 w_2 w_401 (by decide +kernel) hR rfl hl rfl hrest hdg hcs) hS kk
/-! X5_errorOfPassing -/
abbrev rm_X5_errorOfPassing : Room := { frames := 0, cells := 0, slots := 0, locals := 0 }
def f_X5_errorOfPassing_b17 (g : Nat) (s0 : Int32) (M : Mem) : Option (Int32 × Mem) :=
some (s0, M)
def f_X5_errorOfPassing (g : Nat) (x1 : Int32) (M : Mem) : Option (Int32 × Mem) :=
(if ((M g 0 3) + x1) ≤ 100000 then
  f_X5_errorOfPassing_b17 g 0 M
else
  f_X5_errorOfPassing_b17 g (-1000003) M)
set_option maxHeartbeats 4000000 in
set_option maxRecDepth 100000 in
theorem w_X5_errorOfPassing_b17 {p : Program} {l : Launch} {e : Env} {s : State} {m : MethodId} {args : Array Value} {below : List Frame} {meth : Method} {c : Code} {G : GG} {sz : Nat} {ns : Nat} {g : Nat} {r : Int32} {M' : Mem} (E : Cx p s m args meth c cX5_errorOfPassing (some .int) 2 RX5 G) (hg : pg ns g) {s0 : Int32} {M : Mem} {H : Heap} {locs : List Loc} {ls : Array Slot} (hf : f_X5_errorOfPassing_b17 g s0 M = some (r, M')) (hP : PW G (AC G) (XC G ns) sz M s H) (hS : va_S (AC G) s.heap H locs) (hl : lv_has ls 2 []) : W p l e rm_X5_errorOfPassing s m args below meth c H locs 0 0 (MQ below (va_Qi (fun (r2 : Int32) (_ : Unit) => r2 = r) (fun _ t => PW G (AC G) (XC G ns) sz M' t t.heap) (AC G)) args s 0 0 (AC G)) (F0 m 17 ls [.int s0]) := by
  obtain ⟨hx, hb, hr, hlocks, hml, hown, hts, hK⟩ := id E
  unfold f_X5_errorOfPassing_b17 at hf
  exact en_i hf hx hb hr rfl hlocks hP hS dX5_errorOfPassing_17
set_option maxHeartbeats 4000000 in
set_option maxRecDepth 100000 in
theorem w_X5_errorOfPassing {p : Program} {l : Launch} {e : Env} {s : State} {m : MethodId} {args : Array Value} {below : List Frame} {meth : Method} {c : Code} {G : GG} {sz : Nat} {ns : Nat} {g : Nat} {r : Int32} {M' : Mem} (E : Cx p s m args meth c cX5_errorOfPassing (some .int) 2 RX5 G) (hg : pg ns g) {x1 : Int32} {M : Mem} {H : Heap} {locs : List Loc} {ls : Array Slot} (hf : f_X5_errorOfPassing g x1 M = some (r, M')) (hP : PW G (AC G) (XC G ns) sz M s H) (hS : va_S (AC G) s.heap H locs) (hl : lv_has ls 2 [(0, .ref (adC G g 0)), (1, .int x1)]) : W p l e rm_X5_errorOfPassing s m args below meth c H locs 0 0 (MQ below (va_Qi (fun (r2 : Int32) (_ : Unit) => r2 = r) (fun _ t => PW G (AC G) (XC G ns) sz M' t t.heap) (AC G)) args s 0 0 (AC G)) (F0 m 0 ls []) := by
  obtain ⟨hx, hb, hr, hlocks, hml, hown, hts, hK⟩ := id E
  unfold f_X5_errorOfPassing at hf
  refine lv_aload_n hx hb dX5_errorOfPassing_0 rfl (lv_at hl 0 rfl) ?_
  refine gf_X5_time E hP hg w_140 dX5_errorOfPassing_1 ?_
  refine lv_iload_n hx hb dX5_errorOfPassing_4 rfl (lv_at hl 1 rfl) ?_
  refine lv_iadd hx hb dX5_errorOfPassing_5 ?_
  refine lv_ldc (v := 100000) hx hb hown (hts _ w_392) dX5_errorOfPassing_6 ?_
  refine lv_icmp_le (tgt := 16) hx hb dX5_errorOfPassing_8 (by decide) (fun hc => ?_) (fun hc => ?_)
  · have hf := if_t hf hc
    refine lv_iconst (v := 0) hx hb dX5_errorOfPassing_16 (by decide) ?_
    exact w_X5_errorOfPassing_b17 E hg hf hP hS (lv_sub hl [] rfl)
  · have hf := if_f hf hc
    refine lv_ldc (v := (-1000003)) hx hb hown (hts _ w_393) dX5_errorOfPassing_11 ?_
    refine lv_goto (tgt := 17) hx hb dX5_errorOfPassing_13 (by decide) ?_
    exact w_X5_errorOfPassing_b17 E hg hf hP hS (lv_sub hl [] rfl)
theorem c_X5_errorOfPassing (l : Launch) {G : GG} {sz : Nat} {ns : Nat} {g : Nat} (hg : pg ns g) {x1 : Int32} {M : Mem} {r : Int32} {M' : Mem} (hf : f_X5_errorOfPassing g x1 M = some (r, M')) : CtI l yX5_errorOfPassing cX5_errorOfPassing 2 (some .int) rm_X5_errorOfPassing [.ref (adC G g 0), .int x1] G (AC G) (XC G ns) sz M r (XC G ns) sz M' := by
  refine Ct_of (by decide) (Nat.le_of_ble_eq_true rfl) (fun p e s m below meth c ls hx hb hr hlocks hml hown hts hK hP hl => ?_)
  exact w_X5_errorOfPassing ⟨hx, hb, hr, hlocks, hml, hown, hts, hK⟩ hg hf hP va_S.rf hl
set_option maxRecDepth 100000 in
theorem cv_X5_errorOfPassing {p : Program} {l : Launch} {e : Env} {R : Room} {s : State} {m : MethodId} {args : Array Value} {below : List Frame} {meth : Method} {c : Code} {H : Heap} {locs : List Loc} {cells slots : Nat} {Q : State → Prop} {cc : ByteArray} {pc nL index : Nat} {ret : Option FieldType} {own : String} {ls : Array Slot} {rest : List Value} {l' : List (Nat × Value)} {G : GG} {sz : Nat} {ns : Nat} {g : Nat} {M : Mem} (E : Cx p s m args meth c cc ret nL own G) (hP : PW G (AC G) (XC G ns) sz M s H) (hS : va_S (AC G) s.heap H locs) (hg : pg ns g) {x1 : Int32} {r : Int32} {M' : Mem} (hq : f_X5_errorOfPassing g x1 M = some (r, M')) (w1 : Cond.methodLink own index yX5_errorOfPassing ∈ lw_all) (hR : 1 ≤ R.frames ∧ 21 ≤ R.locals) (hl : lv_has ls nL l') (hrest : (rest.map fun v => v.category).sum ≤ 8) (hdg : decode cc pc = .ok (.invokevirtual index, 3)) (hcs : cells ≤ R.cells ∧ slots ≤ R.slots)
    (kk : ∀ (H1 : Heap) (locs1 : List Loc), PW G (AC G) (XC G ns) sz M' s H1 → va_S (AC G) s.heap H1 locs1 → W p l e R s m args below meth c H1 locs1 cells slots Q (F0 m (pc + 3) ls (.int r :: rest))) : W p l e R s m args below meth c H locs cells slots Q (F0 m pc ls (.int x1 :: .ref (adC G g 0) :: rest)) := by
  obtain ⟨hx, hb, hr, hlocks, hml, hown, hts, hK⟩ := E
  obtain ⟨g0, rfl⟩ := pg_s hg
  exact kc_i (kc_runV (na := 1) (q := (RX5, TX5, 9)) hx hb hml hts hown hK hP (g0 + 1) 0 (dmP hg (by decide)) rfl rfl rfl (c_X5_errorOfPassing l hg hq) w1 w_390 ws_3 w_2 w_391 (by decide +kernel) hR rfl hl rfl hrest hdg hcs) hS kk
/-! X5_errorOfTaking -/
abbrev rm_X5_errorOfTaking : Room := { frames := 1, cells := 0, slots := 0, locals := 21 }
def f_X5_errorOfTaking_b19 (g : Nat) (M : Mem) : Option (Int32 × Mem) :=
some ((-1000002), M)
def f_X5_errorOfTaking (g : Nat) (x1 : Int32) (M : Mem) : Option (Int32 × Mem) :=
(if x1 = (M g 0 4) then
  f_X5_errorOfTaking_b19 g M
else
  ob (f_X4_isAway g x1 M) fun r_13 M_13 =>
  (if r_13 = 0 then
    ob (f_X5_errorOfPassing g (M_13 g 1 (ix 3)) M_13) fun r_29 M_29 =>
    some (r_29, M_29)
  else
    f_X5_errorOfTaking_b19 g M_13))
set_option maxHeartbeats 4000000 in
set_option maxRecDepth 100000 in
theorem w_X5_errorOfTaking_b19 {p : Program} {l : Launch} {e : Env} {s : State} {m : MethodId} {args : Array Value} {below : List Frame} {meth : Method} {c : Code} {G : GG} {sz : Nat} {ns : Nat} {g : Nat} {r : Int32} {M' : Mem} (E : Cx p s m args meth c cX5_errorOfTaking (some .int) 2 RX5 G) (hg : pg ns g) {M : Mem} {H : Heap} {locs : List Loc} {ls : Array Slot} (hf : f_X5_errorOfTaking_b19 g M = some (r, M')) (hP : PW G (AC G) (XC G ns) sz M s H) (hS : va_S (AC G) s.heap H locs) (hl : lv_has ls 2 []) : W p l e rm_X5_errorOfTaking s m args below meth c H locs 0 0 (MQ below (va_Qi (fun (r2 : Int32) (_ : Unit) => r2 = r) (fun _ t => PW G (AC G) (XC G ns) sz M' t t.heap) (AC G)) args s 0 0 (AC G)) (F0 m 19 ls []) := by
  obtain ⟨hx, hb, hr, hlocks, hml, hown, hts, hK⟩ := id E
  unfold f_X5_errorOfTaking_b19 at hf
  refine lv_ldc (v := (-1000002)) hx hb hown (hts _ w_387) dX5_errorOfTaking_19 ?_
  exact en_i hf hx hb hr rfl hlocks hP hS dX5_errorOfTaking_21
set_option maxHeartbeats 4000000 in
set_option maxRecDepth 100000 in
theorem w_X5_errorOfTaking {p : Program} {l : Launch} {e : Env} {s : State} {m : MethodId} {args : Array Value} {below : List Frame} {meth : Method} {c : Code} {G : GG} {sz : Nat} {ns : Nat} {g : Nat} {r : Int32} {M' : Mem} (E : Cx p s m args meth c cX5_errorOfTaking (some .int) 2 RX5 G) (hg : pg ns g) {x1 : Int32} {M : Mem} {H : Heap} {locs : List Loc} {ls : Array Slot} (hf : f_X5_errorOfTaking g x1 M = some (r, M')) (hP : PW G (AC G) (XC G ns) sz M s H) (hS : va_S (AC G) s.heap H locs) (hl : lv_has ls 2 [(0, .ref (adC G g 0)), (1, .int x1)]) : W p l e rm_X5_errorOfTaking s m args below meth c H locs 0 0 (MQ below (va_Qi (fun (r2 : Int32) (_ : Unit) => r2 = r) (fun _ t => PW G (AC G) (XC G ns) sz M' t t.heap) (AC G)) args s 0 0 (AC G)) (F0 m 0 ls []) := by
  obtain ⟨hx, hb, hr, hlocks, hml, hown, hts, hK⟩ := id E
  unfold f_X5_errorOfTaking at hf
  refine lv_iload_n hx hb dX5_errorOfTaking_0 rfl (lv_at hl 1 rfl) ?_
  refine lv_aload_n hx hb dX5_errorOfTaking_1 rfl (lv_at hl 0 rfl) ?_
  refine gf_X5_hand E hP hg w_142 dX5_errorOfTaking_2 ?_
  refine lv_icmp_eq (tgt := 19) hx hb dX5_errorOfTaking_5 (by decide) (fun hc => ?_) (fun hc => ?_)
  · have hf := if_t hf hc
    exact w_X5_errorOfTaking_b19 E hg hf hP hS (lv_sub hl [] rfl)
  · have hf := if_f hf hc
    refine lv_aload_n hx hb dX5_errorOfTaking_8 rfl (lv_at hl 0 rfl) ?_
    refine gf_X5_pens E hP hg w_136 dX5_errorOfTaking_9 ?_
    refine lv_iload_n hx hb dX5_errorOfTaking_12 rfl (lv_at hl 1 rfl) ?_
    refine ob_e hf (fun r_13 M_13 hq hf => ?_)
    refine cv_X4_isAway E hP hS hg hq w_383 ⟨Nat.le_of_ble_eq_true rfl, Nat.le_of_ble_eq_true rfl⟩ hl (Nat.le_of_ble_eq_true rfl) dX5_errorOfTaking_13 ⟨Nat.le_of_ble_eq_true rfl, Nat.le_of_ble_eq_true rfl⟩ (fun H locs hP hS => ?_)
    refine lv_if_eq (tgt := 22) hx hb dX5_errorOfTaking_16 (by decide) (fun hc => ?_) (fun hc => ?_)
    · have hf := if_t hf hc
      refine lv_aload_n hx hb dX5_errorOfTaking_22 rfl (lv_at hl 0 rfl) ?_
      refine lv_aload_n hx hb dX5_errorOfTaking_23 rfl (lv_at hl 0 rfl) ?_
      refine gf_X5_settings E hP hg w_134 dX5_errorOfTaking_24 ?_
      refine lv_iconst (v := 3) hx hb dX5_errorOfTaking_27 (by decide) ?_
      refine la_P1 E hP hg (by decide) dX5_errorOfTaking_28 ?_
      refine ob_e hf (fun r_29 M_29 hq hf => ?_)
      refine cv_X5_errorOfPassing E hP hS hg hq w_388 ⟨Nat.le_of_ble_eq_true rfl, Nat.le_of_ble_eq_true rfl⟩ hl (Nat.le_of_ble_eq_true rfl) dX5_errorOfTaking_29 ⟨Nat.le_of_ble_eq_true rfl, Nat.le_of_ble_eq_true rfl⟩ (fun H locs hP hS => ?_)
      exact en_i hf hx hb hr rfl hlocks hP hS dX5_errorOfTaking_32
    · have hf := if_f hf hc
      exact w_X5_errorOfTaking_b19 E hg hf hP hS (lv_sub hl [] rfl)
theorem c_X5_errorOfTaking (l : Launch) {G : GG} {sz : Nat} {ns : Nat} {g : Nat} (hg : pg ns g) {x1 : Int32} {M : Mem} {r : Int32} {M' : Mem} (hf : f_X5_errorOfTaking g x1 M = some (r, M')) : CtI l yX5_errorOfTaking cX5_errorOfTaking 2 (some .int) rm_X5_errorOfTaking [.ref (adC G g 0), .int x1] G (AC G) (XC G ns) sz M r (XC G ns) sz M' := by
  refine Ct_of (by decide) (Nat.le_of_ble_eq_true rfl) (fun p e s m below meth c ls hx hb hr hlocks hml hown hts hK hP hl => ?_)
  exact w_X5_errorOfTaking ⟨hx, hb, hr, hlocks, hml, hown, hts, hK⟩ hg hf hP va_S.rf hl
set_option maxRecDepth 100000 in
theorem cv_X5_errorOfTaking {p : Program} {l : Launch} {e : Env} {R : Room} {s : State} {m : MethodId} {args : Array Value} {below : List Frame} {meth : Method} {c : Code} {H : Heap} {locs : List Loc} {cells slots : Nat} {Q : State → Prop} {cc : ByteArray} {pc nL index : Nat} {ret : Option FieldType} {own : String} {ls : Array Slot} {rest : List Value} {l' : List (Nat × Value)} {G : GG} {sz : Nat} {ns : Nat} {g : Nat} {M : Mem} (E : Cx p s m args meth c cc ret nL own G) (hP : PW G (AC G) (XC G ns) sz M s H) (hS : va_S (AC G) s.heap H locs) (hg : pg ns g) {x1 : Int32} {r : Int32} {M' : Mem} (hq : f_X5_errorOfTaking g x1 M = some (r, M')) (w1 : Cond.methodLink own index yX5_errorOfTaking ∈ lw_all) (hR : 2 ≤ R.frames ∧ 42 ≤ R.locals) (hl : lv_has ls nL l') (hrest : (rest.map fun v => v.category).sum ≤ 8) (hdg : decode cc pc = .ok (.invokevirtual index, 3)) (hcs : cells ≤ R.cells ∧ slots ≤ R.slots)
    (kk : ∀ (H1 : Heap) (locs1 : List Loc), PW G (AC G) (XC G ns) sz M' s H1 → va_S (AC G) s.heap H1 locs1 → W p l e R s m args below meth c H1 locs1 cells slots Q (F0 m (pc + 3) ls (.int r :: rest))) : W p l e R s m args below meth c H locs cells slots Q (F0 m pc ls (.int x1 :: .ref (adC G g 0) :: rest)) := by
  obtain ⟨hx, hb, hr, hlocks, hml, hown, hts, hK⟩ := E
  obtain ⟨g0, rfl⟩ := pg_s hg
  exact kc_i (kc_runV (na := 1) (q := (RX5, TX5, 9)) hx hb hml hts hown hK hP (g0 + 1) 0 (dmP hg (by decide)) rfl rfl rfl (c_X5_errorOfTaking l hg hq) w1 w_380 w_381 w_2 w_382 (by decide +kernel) hR rfl hl rfl hrest hdg hcs) hS kk
/-! X5_errorOfWaiting -/
abbrev rm_X5_errorOfWaiting : Room := { frames := 1, cells := 0, slots := 0, locals := 22 }
def f_X5_errorOfWaiting_b21 (g : Nat) (s0 : Int32) (M : Mem) : Option (Int32 × Mem) :=
some (s0, M)
def f_X5_errorOfWaiting (g : Nat) (x1 : Int32) (M : Mem) : Option (Int32 × Mem) :=
ob (f_X7_isIn x1 1 200 M) fun r_5 M_5 =>
(if r_5 = 0 then
  f_X5_errorOfWaiting_b21 g (-1000001) M_5
else
  ob (f_X5_errorOfPassing g x1 M_5) fun r_13 M_13 =>
  f_X5_errorOfWaiting_b21 g r_13 M_13)
set_option maxHeartbeats 4000000 in
set_option maxRecDepth 100000 in
theorem w_X5_errorOfWaiting_b21 {p : Program} {l : Launch} {e : Env} {s : State} {m : MethodId} {args : Array Value} {below : List Frame} {meth : Method} {c : Code} {G : GG} {sz : Nat} {ns : Nat} {g : Nat} {r : Int32} {M' : Mem} (E : Cx p s m args meth c cX5_errorOfWaiting (some .int) 2 RX5 G) (hg : pg ns g) {s0 : Int32} {M : Mem} {H : Heap} {locs : List Loc} {ls : Array Slot} (hf : f_X5_errorOfWaiting_b21 g s0 M = some (r, M')) (hP : PW G (AC G) (XC G ns) sz M s H) (hS : va_S (AC G) s.heap H locs) (hl : lv_has ls 2 []) : W p l e rm_X5_errorOfWaiting s m args below meth c H locs 0 0 (MQ below (va_Qi (fun (r2 : Int32) (_ : Unit) => r2 = r) (fun _ t => PW G (AC G) (XC G ns) sz M' t t.heap) (AC G)) args s 0 0 (AC G)) (F0 m 21 ls [.int s0]) := by
  obtain ⟨hx, hb, hr, hlocks, hml, hown, hts, hK⟩ := id E
  unfold f_X5_errorOfWaiting_b21 at hf
  exact en_i hf hx hb hr rfl hlocks hP hS dX5_errorOfWaiting_21
set_option maxHeartbeats 4000000 in
set_option maxRecDepth 100000 in
theorem w_X5_errorOfWaiting {p : Program} {l : Launch} {e : Env} {s : State} {m : MethodId} {args : Array Value} {below : List Frame} {meth : Method} {c : Code} {G : GG} {sz : Nat} {ns : Nat} {g : Nat} {r : Int32} {M' : Mem} (E : Cx p s m args meth c cX5_errorOfWaiting (some .int) 2 RX5 G) (hg : pg ns g) {x1 : Int32} {M : Mem} {H : Heap} {locs : List Loc} {ls : Array Slot} (hf : f_X5_errorOfWaiting g x1 M = some (r, M')) (hP : PW G (AC G) (XC G ns) sz M s H) (hS : va_S (AC G) s.heap H locs) (hl : lv_has ls 2 [(0, .ref (adC G g 0)), (1, .int x1)]) : W p l e rm_X5_errorOfWaiting s m args below meth c H locs 0 0 (MQ below (va_Qi (fun (r2 : Int32) (_ : Unit) => r2 = r) (fun _ t => PW G (AC G) (XC G ns) sz M' t t.heap) (AC G)) args s 0 0 (AC G)) (F0 m 0 ls []) := by
  obtain ⟨hx, hb, hr, hlocks, hml, hown, hts, hK⟩ := id E
  unfold f_X5_errorOfWaiting at hf
  refine lv_iload_n hx hb dX5_errorOfWaiting_0 rfl (lv_at hl 1 rfl) ?_
  refine lv_iconst (v := 1) hx hb dX5_errorOfWaiting_1 (by decide) ?_
  refine lv_sipush (v := 200) hx hb dX5_errorOfWaiting_2 (by decide) ?_
  refine ob_e hf (fun r_5 M_5 hq hf => ?_)
  refine cn_X7_isIn E hP hS hq w_411 ⟨Nat.le_of_ble_eq_true rfl, Nat.le_of_ble_eq_true rfl⟩ hl (Nat.le_of_ble_eq_true rfl) dX5_errorOfWaiting_5 ⟨Nat.le_of_ble_eq_true rfl, Nat.le_of_ble_eq_true rfl⟩ (fun H locs hP hS => ?_)
  refine lv_if_eq (tgt := 19) hx hb dX5_errorOfWaiting_8 (by decide) (fun hc => ?_) (fun hc => ?_)
  · have hf := if_t hf hc
    refine lv_ldc (v := (-1000001)) hx hb hown (hts _ w_412) dX5_errorOfWaiting_19 ?_
    exact w_X5_errorOfWaiting_b21 E hg hf hP hS (lv_sub hl [] rfl)
  · have hf := if_f hf hc
    refine lv_aload_n hx hb dX5_errorOfWaiting_11 rfl (lv_at hl 0 rfl) ?_
    refine lv_iload_n hx hb dX5_errorOfWaiting_12 rfl (lv_at hl 1 rfl) ?_
    refine ob_e hf (fun r_13 M_13 hq hf => ?_)
    refine cv_X5_errorOfPassing E hP hS hg hq w_388 ⟨Nat.le_of_ble_eq_true rfl, Nat.le_of_ble_eq_true rfl⟩ hl (Nat.le_of_ble_eq_true rfl) dX5_errorOfWaiting_13 ⟨Nat.le_of_ble_eq_true rfl, Nat.le_of_ble_eq_true rfl⟩ (fun H locs hP hS => ?_)
    refine lv_goto (tgt := 21) hx hb dX5_errorOfWaiting_16 (by decide) ?_
    exact w_X5_errorOfWaiting_b21 E hg hf hP hS (lv_sub hl [] rfl)
theorem c_X5_errorOfWaiting (l : Launch) {G : GG} {sz : Nat} {ns : Nat} {g : Nat} (hg : pg ns g) {x1 : Int32} {M : Mem} {r : Int32} {M' : Mem} (hf : f_X5_errorOfWaiting g x1 M = some (r, M')) : CtI l yX5_errorOfWaiting cX5_errorOfWaiting 2 (some .int) rm_X5_errorOfWaiting [.ref (adC G g 0), .int x1] G (AC G) (XC G ns) sz M r (XC G ns) sz M' := by
  refine Ct_of (by decide) (Nat.le_of_ble_eq_true rfl) (fun p e s m below meth c ls hx hb hr hlocks hml hown hts hK hP hl => ?_)
  exact w_X5_errorOfWaiting ⟨hx, hb, hr, hlocks, hml, hown, hts, hK⟩ hg hf hP va_S.rf hl
set_option maxRecDepth 100000 in
theorem cv_X5_errorOfWaiting {p : Program} {l : Launch} {e : Env} {R : Room} {s : State} {m : MethodId} {args : Array Value} {below : List Frame} {meth : Method} {c : Code} {H : Heap} {locs : List Loc} {cells slots : Nat} {Q : State → Prop} {cc : ByteArray} {pc nL index : Nat} {ret : Option FieldType} {own : String} {ls : Array Slot} {rest : List Value} {l' : List (Nat × Value)} {G : GG} {sz : Nat} {ns : Nat} {g : Nat} {M : Mem} (E : Cx p s m args meth c cc ret nL own G) (hP : PW G (AC G) (XC G ns) sz M s H) (hS : va_S (AC G) s.heap H locs) (hg : pg ns g) {x1 : Int32} {r : Int32} {M' : Mem} (hq : f_X5_errorOfWaiting g x1 M = some (r, M')) (w1 : Cond.methodLink own index yX5_errorOfWaiting ∈ lw_all) (hR : 2 ≤ R.frames ∧ 43 ≤ R.locals) (hl : lv_has ls nL l') (hrest : (rest.map fun v => v.category).sum ≤ 8) (hdg : decode cc pc = .ok (.invokevirtual index, 3)) (hcs : cells ≤ R.cells ∧ slots ≤ R.slots)
    (kk : ∀ (H1 : Heap) (locs1 : List Loc), PW G (AC G) (XC G ns) sz M' s H1 → va_S (AC G) s.heap H1 locs1 → W p l e R s m args below meth c H1 locs1 cells slots Q (F0 m (pc + 3) ls (.int r :: rest))) : W p l e R s m args below meth c H locs cells slots Q (F0 m pc ls (.int x1 :: .ref (adC G g 0) :: rest)) := by
  obtain ⟨hx, hb, hr, hlocks, hml, hown, hts, hK⟩ := E
  obtain ⟨g0, rfl⟩ := pg_s hg
  exact kc_i (kc_runV (na := 1) (q := (RX5, TX5, 9)) hx hb hml hts hown hK hP (g0 + 1) 0 (dmP hg (by decide)) rfl rfl rfl (c_X5_errorOfWaiting l hg hq) w1 w_408 w_409 w_2 w_410 (by decide +kernel) hR rfl hl rfl hrest hdg hcs) hS kk
/-! X5_errorOfCleaning -/
abbrev rm_X5_errorOfCleaning : Room := { frames := 1, cells := 0, slots := 0, locals := 21 }
def f_X5_errorOfCleaning_b23 (g : Nat) (s0 : Int32) (M : Mem) : Option (Int32 × Mem) :=
some (s0, M)
def f_X5_errorOfCleaning (g : Nat) (M : Mem) : Option (Int32 × Mem) :=
(if (M g 0 4) = (-1) then
  f_X5_errorOfCleaning_b23 g (-1000002) M
else
  ob (f_X5_errorOfPassing g (M g 1 (ix 4)) M) fun r_20 M_20 =>
  f_X5_errorOfCleaning_b23 g r_20 M_20)
set_option maxHeartbeats 4000000 in
set_option maxRecDepth 100000 in
theorem w_X5_errorOfCleaning_b23 {p : Program} {l : Launch} {e : Env} {s : State} {m : MethodId} {args : Array Value} {below : List Frame} {meth : Method} {c : Code} {G : GG} {sz : Nat} {ns : Nat} {g : Nat} {r : Int32} {M' : Mem} (E : Cx p s m args meth c cX5_errorOfCleaning (some .int) 1 RX5 G) (hg : pg ns g) {s0 : Int32} {M : Mem} {H : Heap} {locs : List Loc} {ls : Array Slot} (hf : f_X5_errorOfCleaning_b23 g s0 M = some (r, M')) (hP : PW G (AC G) (XC G ns) sz M s H) (hS : va_S (AC G) s.heap H locs) (hl : lv_has ls 1 []) : W p l e rm_X5_errorOfCleaning s m args below meth c H locs 0 0 (MQ below (va_Qi (fun (r2 : Int32) (_ : Unit) => r2 = r) (fun _ t => PW G (AC G) (XC G ns) sz M' t t.heap) (AC G)) args s 0 0 (AC G)) (F0 m 23 ls [.int s0]) := by
  obtain ⟨hx, hb, hr, hlocks, hml, hown, hts, hK⟩ := id E
  unfold f_X5_errorOfCleaning_b23 at hf
  exact en_i hf hx hb hr rfl hlocks hP hS dX5_errorOfCleaning_23
set_option maxHeartbeats 4000000 in
set_option maxRecDepth 100000 in
theorem w_X5_errorOfCleaning {p : Program} {l : Launch} {e : Env} {s : State} {m : MethodId} {args : Array Value} {below : List Frame} {meth : Method} {c : Code} {G : GG} {sz : Nat} {ns : Nat} {g : Nat} {r : Int32} {M' : Mem} (E : Cx p s m args meth c cX5_errorOfCleaning (some .int) 1 RX5 G) (hg : pg ns g) {M : Mem} {H : Heap} {locs : List Loc} {ls : Array Slot} (hf : f_X5_errorOfCleaning g M = some (r, M')) (hP : PW G (AC G) (XC G ns) sz M s H) (hS : va_S (AC G) s.heap H locs) (hl : lv_has ls 1 [(0, .ref (adC G g 0))]) : W p l e rm_X5_errorOfCleaning s m args below meth c H locs 0 0 (MQ below (va_Qi (fun (r2 : Int32) (_ : Unit) => r2 = r) (fun _ t => PW G (AC G) (XC G ns) sz M' t t.heap) (AC G)) args s 0 0 (AC G)) (F0 m 0 ls []) := by
  obtain ⟨hx, hb, hr, hlocks, hml, hown, hts, hK⟩ := id E
  unfold f_X5_errorOfCleaning at hf
  refine lv_aload_n hx hb dX5_errorOfCleaning_0 rfl (lv_at hl 0 rfl) ?_
  refine gf_X5_hand E hP hg w_142 dX5_errorOfCleaning_1 ?_
  refine lv_iconst (v := (-1)) hx hb dX5_errorOfCleaning_4 (by decide) ?_
  refine lv_icmp_ne (tgt := 13) hx hb dX5_errorOfCleaning_5 (by decide) (fun hc => ?_) (fun hc => ?_)
  · have hf := if_f hf hc
    refine lv_aload_n hx hb dX5_errorOfCleaning_13 rfl (lv_at hl 0 rfl) ?_
    refine lv_aload_n hx hb dX5_errorOfCleaning_14 rfl (lv_at hl 0 rfl) ?_
    refine gf_X5_settings E hP hg w_134 dX5_errorOfCleaning_15 ?_
    refine lv_iconst (v := 4) hx hb dX5_errorOfCleaning_18 (by decide) ?_
    refine la_P1 E hP hg (by decide) dX5_errorOfCleaning_19 ?_
    refine ob_e hf (fun r_20 M_20 hq hf => ?_)
    refine cv_X5_errorOfPassing E hP hS hg hq w_388 ⟨Nat.le_of_ble_eq_true rfl, Nat.le_of_ble_eq_true rfl⟩ hl (Nat.le_of_ble_eq_true rfl) dX5_errorOfCleaning_20 ⟨Nat.le_of_ble_eq_true rfl, Nat.le_of_ble_eq_true rfl⟩ (fun H locs hP hS => ?_)
    exact w_X5_errorOfCleaning_b23 E hg hf hP hS (lv_sub hl [] rfl)
  · have hf := if_t hf hc
    refine lv_ldc (v := (-1000002)) hx hb hown (hts _ w_387) dX5_errorOfCleaning_8 ?_
    refine lv_goto (tgt := 23) hx hb dX5_errorOfCleaning_10 (by decide) ?_
    exact w_X5_errorOfCleaning_b23 E hg hf hP hS (lv_sub hl [] rfl)
theorem c_X5_errorOfCleaning (l : Launch) {G : GG} {sz : Nat} {ns : Nat} {g : Nat} (hg : pg ns g) {M : Mem} {r : Int32} {M' : Mem} (hf : f_X5_errorOfCleaning g M = some (r, M')) : CtI l yX5_errorOfCleaning cX5_errorOfCleaning 1 (some .int) rm_X5_errorOfCleaning [.ref (adC G g 0)] G (AC G) (XC G ns) sz M r (XC G ns) sz M' := by
  refine Ct_of (by decide) (Nat.le_of_ble_eq_true rfl) (fun p e s m below meth c ls hx hb hr hlocks hml hown hts hK hP hl => ?_)
  exact w_X5_errorOfCleaning ⟨hx, hb, hr, hlocks, hml, hown, hts, hK⟩ hg hf hP va_S.rf hl
set_option maxRecDepth 100000 in
theorem cv_X5_errorOfCleaning {p : Program} {l : Launch} {e : Env} {R : Room} {s : State} {m : MethodId} {args : Array Value} {below : List Frame} {meth : Method} {c : Code} {H : Heap} {locs : List Loc} {cells slots : Nat} {Q : State → Prop} {cc : ByteArray} {pc nL index : Nat} {ret : Option FieldType} {own : String} {ls : Array Slot} {rest : List Value} {l' : List (Nat × Value)} {G : GG} {sz : Nat} {ns : Nat} {g : Nat} {M : Mem} (E : Cx p s m args meth c cc ret nL own G) (hP : PW G (AC G) (XC G ns) sz M s H) (hS : va_S (AC G) s.heap H locs) (hg : pg ns g) {r : Int32} {M' : Mem} (hq : f_X5_errorOfCleaning g M = some (r, M')) (w1 : Cond.methodLink own index yX5_errorOfCleaning ∈ lw_all) (hR : 2 ≤ R.frames ∧ 41 ≤ R.locals) (hl : lv_has ls nL l') (hrest : (rest.map fun v => v.category).sum ≤ 8) (hdg : decode cc pc = .ok (.invokevirtual index, 3)) (hcs : cells ≤ R.cells ∧ slots ≤ R.slots)
    (kk : ∀ (H1 : Heap) (locs1 : List Loc), PW G (AC G) (XC G ns) sz M' s H1 → va_S (AC G) s.heap H1 locs1 → W p l e R s m args below meth c H1 locs1 cells slots Q (F0 m (pc + 3) ls (.int r :: rest))) : W p l e R s m args below meth c H locs cells slots Q (F0 m pc ls (.ref (adC G g 0) :: rest)) := by
  obtain ⟨hx, hb, hr, hlocks, hml, hown, hts, hK⟩ := E
  obtain ⟨g0, rfl⟩ := pg_s hg
  exact kc_i (kc_runV (na := 0) (q := (RX5, TX5, 9)) hx hb hml hts hown hK hP (g0 + 1) 0 (dmP hg (by decide)) rfl rfl rfl (c_X5_errorOfCleaning l hg hq) w1 w_593 w_594 w_2 w_595 (by decide +kernel) hR rfl hl rfl hrest hdg hcs) hS kk
/-! X5_swapTo -/
abbrev rm_X5_swapTo : Room := { frames := 3, cells := 0, slots := 0, locals := 64 }
def f_X5_swapTo (g : Nat) (x1 : Int32) (M : Mem) : Option (Int32 × Mem) :=
lt ((M g 0 4)) fun x2_4 =>
ob (f_X5_passIdly g (M g 1 (ix 3)) M) fun _ M_12 =>
lt (up3 M_12 g 0 4 x1) fun M_17 =>
lt (up3 M_17 g 0 7 ((M_17 g 0 7) + 1)) fun M_27 =>
some (x2_4, M_27)
set_option maxHeartbeats 4000000 in
set_option maxRecDepth 100000 in
theorem w_X5_swapTo {p : Program} {l : Launch} {e : Env} {s : State} {m : MethodId} {args : Array Value} {below : List Frame} {meth : Method} {c : Code} {G : GG} {sz : Nat} {ns : Nat} {g : Nat} {r : Int32} {M' : Mem} (E : Cx p s m args meth c cX5_swapTo (some .int) 3 RX5 G) (hg : pg ns g) {x1 : Int32} {M : Mem} {H : Heap} {locs : List Loc} {ls : Array Slot} (hf : f_X5_swapTo g x1 M = some (r, M')) (hP : PW G (AC G) (XC G ns) sz M s H) (hS : va_S (AC G) s.heap H locs) (hl : lv_has ls 3 [(0, .ref (adC G g 0)), (1, .int x1)]) : W p l e rm_X5_swapTo s m args below meth c H locs 0 0 (MQ below (va_Qi (fun (r2 : Int32) (_ : Unit) => r2 = r) (fun _ t => PW G (AC G) (XC G ns) sz M' t t.heap) (AC G)) args s 0 0 (AC G)) (F0 m 0 ls []) := by
  obtain ⟨hx, hb, hr, hlocks, hml, hown, hts, hK⟩ := id E
  unfold f_X5_swapTo at hf
  refine lv_aload_n hx hb dX5_swapTo_0 rfl (lv_at hl 0 rfl) ?_
  refine gf_X5_hand E hP hg w_142 dX5_swapTo_1 ?_
  refine lt_e hf (fun x2_4 hx2_4 hf => ?_)
  refine kr_nm hx2_4 ?_
  refine lv_istore_n (lv' := [(2, .int x2_4), (0, .ref (adC G g 0)), (1, .int x1)]) hx hb dX5_swapTo_4 rfl hl (by decide) rfl (fun ls hl => ?_)
  refine lv_aload_n hx hb dX5_swapTo_5 rfl (lv_at hl 1 rfl) ?_
  refine lv_aload_n hx hb dX5_swapTo_6 rfl (lv_at hl 1 rfl) ?_
  refine gf_X5_settings E hP hg w_134 dX5_swapTo_7 ?_
  refine lv_iconst (v := 3) hx hb dX5_swapTo_10 (by decide) ?_
  refine la_P1 E hP hg (by decide) dX5_swapTo_11 ?_
  refine ob_e hf (fun r_12 M_12 hq hf => ?_)
  refine cv_X5_passIdly E hP hS hg hq w_398 ⟨Nat.le_of_ble_eq_true rfl, Nat.le_of_ble_eq_true rfl⟩ hl (Nat.le_of_ble_eq_true rfl) dX5_swapTo_12 ⟨Nat.le_of_ble_eq_true rfl, Nat.le_of_ble_eq_true rfl⟩ (fun H locs hP hS => ?_)
  refine lv_aload_n hx hb dX5_swapTo_15 rfl (lv_at hl 1 rfl) ?_
  refine lv_iload_n hx hb dX5_swapTo_16 rfl (lv_at hl 2 rfl) ?_
  refine lt_e hf (fun M_17 hM_17 hf => ?_)
  refine pf_X5_hand E hP hS hg hM_17 w_142 dX5_swapTo_17 (fun H locs hP hS => ?_)
  refine lv_aload_n hx hb dX5_swapTo_20 rfl (lv_at hl 1 rfl) ?_
  refine lv_dup hx hb dX5_swapTo_21 rfl ?_
  refine gf_X5_swaps E hP hg w_148 dX5_swapTo_22 ?_
  refine lv_iconst (v := 1) hx hb dX5_swapTo_25 (by decide) ?_
  refine lv_iadd hx hb dX5_swapTo_26 ?_
  refine lt_e hf (fun M_27 hM_27 hf => ?_)
  refine pf_X5_swaps E hP hS hg hM_27 w_148 dX5_swapTo_27 (fun H locs hP hS => ?_)
  refine lv_iload_n hx hb dX5_swapTo_30 rfl (lv_at hl 0 rfl) ?_
  exact en_i hf hx hb hr rfl hlocks hP hS dX5_swapTo_31
theorem c_X5_swapTo (l : Launch) {G : GG} {sz : Nat} {ns : Nat} {g : Nat} (hg : pg ns g) {x1 : Int32} {M : Mem} {r : Int32} {M' : Mem} (hf : f_X5_swapTo g x1 M = some (r, M')) : CtI l yX5_swapTo cX5_swapTo 3 (some .int) rm_X5_swapTo [.ref (adC G g 0), .int x1] G (AC G) (XC G ns) sz M r (XC G ns) sz M' := by
  refine Ct_of (by decide) (Nat.le_of_ble_eq_true rfl) (fun p e s m below meth c ls hx hb hr hlocks hml hown hts hK hP hl => ?_)
  exact w_X5_swapTo ⟨hx, hb, hr, hlocks, hml, hown, hts, hK⟩ hg hf hP va_S.rf hl
set_option maxRecDepth 100000 in
theorem cv_X5_swapTo {p : Program} {l : Launch} {e : Env} {R : Room} {s : State} {m : MethodId} {args : Array Value} {below : List Frame} {meth : Method} {c : Code} {H : Heap} {locs : List Loc} {cells slots : Nat} {Q : State → Prop} {cc : ByteArray} {pc nL index : Nat} {ret : Option FieldType} {own : String} {ls : Array Slot} {rest : List Value} {l' : List (Nat × Value)} {G : GG} {sz : Nat} {ns : Nat} {g : Nat} {M : Mem} (E : Cx p s m args meth c cc ret nL own G) (hP : PW G (AC G) (XC G ns) sz M s H) (hS : va_S (AC G) s.heap H locs) (hg : pg ns g) {x1 : Int32} {r : Int32} {M' : Mem} (hq : f_X5_swapTo g x1 M = some (r, M')) (w1 : Cond.methodLink own index yX5_swapTo ∈ lw_all) (hR : 4 ≤ R.frames ∧ 86 ≤ R.locals) (hl : lv_has ls nL l') (hrest : (rest.map fun v => v.category).sum ≤ 8) (hdg : decode cc pc = .ok (.invokevirtual index, 3)) (hcs : cells ≤ R.cells ∧ slots ≤ R.slots)
    (kk : ∀ (H1 : Heap) (locs1 : List Loc), PW G (AC G) (XC G ns) sz M' s H1 → va_S (AC G) s.heap H1 locs1 → W p l e R s m args below meth c H1 locs1 cells slots Q (F0 m (pc + 3) ls (.int r :: rest))) : W p l e R s m args below meth c H locs cells slots Q (F0 m pc ls (.int x1 :: .ref (adC G g 0) :: rest)) := by
  obtain ⟨hx, hb, hr, hlocks, hml, hown, hts, hK⟩ := E
  obtain ⟨g0, rfl⟩ := pg_s hg
  exact kc_i (kc_runV (na := 1) (q := (RX5, TX5, 9)) hx hb hml hts hown hK hP (g0 + 1) 0 (dmP hg (by decide)) rfl rfl rfl (c_X5_swapTo l hg hq) w1 w_395 w_396 w_2 w_397 (by decide +kernel) hR rfl hl rfl hrest hdg hcs) hS kk
/-! X5_cleanHand -/
abbrev rm_X5_cleanHand : Room := { frames := 3, cells := 0, slots := 0, locals := 64 }
def f_X5_cleanHand (g : Nat) (M : Mem) : Option (Int32 × Mem) :=
ob (f_X4_has g (M g 0 4) M) fun r_8 M_8 =>
(if r_8 = 0 then
  some ((-1000002), M_8)
else
  ck (ibd (M_8 g 0 4) 5) <|
  lt ((M_8 g 8 (ix (M_8 g 0 4)))) fun x1_29 =>
  ob (f_X5_passIdly g (M_8 g 1 (ix 4)) M_8) fun _ M_37 =>
  ck (ibd (M_37 g 0 4) 5) <|
  lt (up3 M_37 g 8 (ix (M_37 g 0 4)) 0) fun M_52 =>
  some (x1_29, M_52))
set_option maxHeartbeats 4000000 in
set_option maxRecDepth 100000 in
theorem w_X5_cleanHand {p : Program} {l : Launch} {e : Env} {s : State} {m : MethodId} {args : Array Value} {below : List Frame} {meth : Method} {c : Code} {G : GG} {sz : Nat} {ns : Nat} {g : Nat} {r : Int32} {M' : Mem} (E : Cx p s m args meth c cX5_cleanHand (some .int) 2 RX5 G) (hg : pg ns g) {M : Mem} {H : Heap} {locs : List Loc} {ls : Array Slot} (hf : f_X5_cleanHand g M = some (r, M')) (hP : PW G (AC G) (XC G ns) sz M s H) (hS : va_S (AC G) s.heap H locs) (hl : lv_has ls 2 [(0, .ref (adC G g 0))]) : W p l e rm_X5_cleanHand s m args below meth c H locs 0 0 (MQ below (va_Qi (fun (r2 : Int32) (_ : Unit) => r2 = r) (fun _ t => PW G (AC G) (XC G ns) sz M' t t.heap) (AC G)) args s 0 0 (AC G)) (F0 m 0 ls []) := by
  obtain ⟨hx, hb, hr, hlocks, hml, hown, hts, hK⟩ := id E
  unfold f_X5_cleanHand at hf
  refine lv_aload_n hx hb dX5_cleanHand_0 rfl (lv_at hl 0 rfl) ?_
  refine gf_X5_pens E hP hg w_136 dX5_cleanHand_1 ?_
  refine lv_aload_n hx hb dX5_cleanHand_4 rfl (lv_at hl 0 rfl) ?_
  refine gf_X5_hand E hP hg w_142 dX5_cleanHand_5 ?_
  refine ob_e hf (fun r_8 M_8 hq hf => ?_)
  refine cv_X4_has E hP hS hg hq w_402 ⟨Nat.le_of_ble_eq_true rfl, Nat.le_of_ble_eq_true rfl⟩ hl (Nat.le_of_ble_eq_true rfl) dX5_cleanHand_8 ⟨Nat.le_of_ble_eq_true rfl, Nat.le_of_ble_eq_true rfl⟩ (fun H locs hP hS => ?_)
  refine lv_if_ne (tgt := 17) hx hb dX5_cleanHand_11 (by decide) (fun hc => ?_) (fun hc => ?_)
  · have hf := if_f hf hc
    refine lv_aload_n hx hb dX5_cleanHand_17 rfl (lv_at hl 0 rfl) ?_
    refine gf_X5_pens E hP hg w_136 dX5_cleanHand_18 ?_
    refine gf_X4_idle E hP hg w_57 dX5_cleanHand_21 ?_
    refine lv_aload_n hx hb dX5_cleanHand_24 rfl (lv_at hl 0 rfl) ?_
    refine gf_X5_hand E hP hg w_142 dX5_cleanHand_25 ?_
    refine ck_e hf (fun hi hf => ?_)
    refine la_P8 E hP hg hi dX5_cleanHand_28 ?_
    refine lt_e hf (fun x1_29 hx1_29 hf => ?_)
    refine kr_nm hx1_29 ?_
    refine lv_istore_n (lv' := [(1, .int x1_29), (0, .ref (adC G g 0))]) hx hb dX5_cleanHand_29 rfl hl (by decide) rfl (fun ls hl => ?_)
    refine lv_aload_n hx hb dX5_cleanHand_30 rfl (lv_at hl 1 rfl) ?_
    refine lv_aload_n hx hb dX5_cleanHand_31 rfl (lv_at hl 1 rfl) ?_
    refine gf_X5_settings E hP hg w_134 dX5_cleanHand_32 ?_
    refine lv_iconst (v := 4) hx hb dX5_cleanHand_35 (by decide) ?_
    refine la_P1 E hP hg (by decide) dX5_cleanHand_36 ?_
    refine ob_e hf (fun r_37 M_37 hq hf => ?_)
    refine cv_X5_passIdly E hP hS hg hq w_398 ⟨Nat.le_of_ble_eq_true rfl, Nat.le_of_ble_eq_true rfl⟩ hl (Nat.le_of_ble_eq_true rfl) dX5_cleanHand_37 ⟨Nat.le_of_ble_eq_true rfl, Nat.le_of_ble_eq_true rfl⟩ (fun H locs hP hS => ?_)
    refine lv_aload_n hx hb dX5_cleanHand_40 rfl (lv_at hl 1 rfl) ?_
    refine gf_X5_pens E hP hg w_136 dX5_cleanHand_41 ?_
    refine gf_X4_idle E hP hg w_57 dX5_cleanHand_44 ?_
    refine lv_aload_n hx hb dX5_cleanHand_47 rfl (lv_at hl 1 rfl) ?_
    refine gf_X5_hand E hP hg w_142 dX5_cleanHand_48 ?_
    refine lv_iconst (v := 0) hx hb dX5_cleanHand_51 (by decide) ?_
    refine ck_e hf (fun hi hf => ?_)
    refine lt_e hf (fun M_52 hM_52 hf => ?_)
    refine sa_P8 E hP hS hg hi hM_52 dX5_cleanHand_52 (fun H locs hP hS => ?_)
    refine lv_iload_n hx hb dX5_cleanHand_53 rfl (lv_at hl 0 rfl) ?_
    exact en_i hf hx hb hr rfl hlocks hP hS dX5_cleanHand_54
  · have hf := if_t hf hc
    refine lv_ldc (v := (-1000002)) hx hb hown (hts _ w_387) dX5_cleanHand_14 ?_
    exact en_i hf hx hb hr rfl hlocks hP hS dX5_cleanHand_16
theorem c_X5_cleanHand (l : Launch) {G : GG} {sz : Nat} {ns : Nat} {g : Nat} (hg : pg ns g) {M : Mem} {r : Int32} {M' : Mem} (hf : f_X5_cleanHand g M = some (r, M')) : CtI l yX5_cleanHand cX5_cleanHand 2 (some .int) rm_X5_cleanHand [.ref (adC G g 0)] G (AC G) (XC G ns) sz M r (XC G ns) sz M' := by
  refine Ct_of (by decide) (Nat.le_of_ble_eq_true rfl) (fun p e s m below meth c ls hx hb hr hlocks hml hown hts hK hP hl => ?_)
  exact w_X5_cleanHand ⟨hx, hb, hr, hlocks, hml, hown, hts, hK⟩ hg hf hP va_S.rf hl
set_option maxRecDepth 100000 in
theorem cv_X5_cleanHand {p : Program} {l : Launch} {e : Env} {R : Room} {s : State} {m : MethodId} {args : Array Value} {below : List Frame} {meth : Method} {c : Code} {H : Heap} {locs : List Loc} {cells slots : Nat} {Q : State → Prop} {cc : ByteArray} {pc nL index : Nat} {ret : Option FieldType} {own : String} {ls : Array Slot} {rest : List Value} {l' : List (Nat × Value)} {G : GG} {sz : Nat} {ns : Nat} {g : Nat} {M : Mem} (E : Cx p s m args meth c cc ret nL own G) (hP : PW G (AC G) (XC G ns) sz M s H) (hS : va_S (AC G) s.heap H locs) (hg : pg ns g) {r : Int32} {M' : Mem} (hq : f_X5_cleanHand g M = some (r, M')) (w1 : Cond.methodLink own index yX5_cleanHand ∈ lw_all) (hR : 4 ≤ R.frames ∧ 85 ≤ R.locals) (hl : lv_has ls nL l') (hrest : (rest.map fun v => v.category).sum ≤ 8) (hdg : decode cc pc = .ok (.invokevirtual index, 3)) (hcs : cells ≤ R.cells ∧ slots ≤ R.slots)
    (kk : ∀ (H1 : Heap) (locs1 : List Loc), PW G (AC G) (XC G ns) sz M' s H1 → va_S (AC G) s.heap H1 locs1 → W p l e R s m args below meth c H1 locs1 cells slots Q (F0 m (pc + 3) ls (.int r :: rest))) : W p l e R s m args below meth c H locs cells slots Q (F0 m pc ls (.ref (adC G g 0) :: rest)) := by
  obtain ⟨hx, hb, hr, hlocks, hml, hown, hts, hK⟩ := E
  obtain ⟨g0, rfl⟩ := pg_s hg
  exact kc_i (kc_runV (na := 0) (q := (RX5, TX5, 9)) hx hb hml hts hown hK hP (g0 + 1) 0 (dmP hg (by decide)) rfl rfl rfl (c_X5_cleanHand l hg hq) w1 w_597 w_598 w_2 w_599 (by decide +kernel) hR rfl hl rfl hrest hdg hcs) hS kk
