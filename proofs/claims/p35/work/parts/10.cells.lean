/-! X7_copy -/
abbrev rm_X7_copy : Room := { frames := 1, cells := 0, slots := 0, locals := 60 }
def f_X7_copy (ga0 ka0 na0 : Nat) (ga1 ka1 na1 : Nat) (M : Mem) : Option (Unit × Mem) :=
ck (cok (mn (Int32.ofNat na0) (Int32.ofNat na1)) na0 na1) <|
lt (cp3 M ga1 ka1 (va_cpy (M ga0 ka0) (M ga1 ka1) 0 0 (ix (mn (Int32.ofNat na0) (Int32.ofNat na1))))) fun M_11 =>
some ((), M_11)
set_option maxHeartbeats 4000000 in
set_option maxRecDepth 100000 in
theorem w_X7_copy {p : Program} {l : Launch} {e : Env} {s : State} {m : MethodId} {args : Array Value} {below : List Frame} {meth : Method} {c : Code} {G : GG} {sz : Nat} {ns : Nat} {ga0 ka0 na0 : Nat} {ga1 ka1 na1 : Nat} {r : Unit} {M' : Mem} (E : Cx p s m args meth c cX7_copy none 2 RX7 G) (hda0 : dmC ns ga0 ka0) (hea0 : ∀ m, entC G ns ga0 ka0 m = .inl (G.2.1.1, na0, .inl m)) (hda1 : dmC ns ga1 ka1) (hea1 : ∀ m, entC G ns ga1 ka1 m = .inl (G.2.1.1, na1, .inl m)) {M : Mem} {H : Heap} {locs : List Loc} {ls : Array Slot} (hf : f_X7_copy ga0 ka0 na0 ga1 ka1 na1 M = some (r, M')) (hP : PW G (AC G) (XC G ns) sz M s H) (hS : va_S (AC G) s.heap H locs) (hl : lv_has ls 2 [(0, .ref (adC G ga0 ka0)), (1, .ref (adC G ga1 ka1))]) : W p l e rm_X7_copy s m args below meth c H locs 0 0 (MQ below (va_Qv (fun (_ : Unit) => True) (fun _ t => PW G (AC G) (XC G ns) sz M' t t.heap) (AC G)) args s 0 0 (AC G)) (F0 m 0 ls []) := by
  obtain ⟨hx, hb, hr, hlocks, hml, hown, hts, hK⟩ := id E
  unfold f_X7_copy at hf
  refine lv_aload_n hx hb dX7_copy_0 rfl (lv_at hl 0 rfl) ?_
  refine lv_iconst (v := 0) hx hb dX7_copy_1 (by decide) ?_
  refine lv_aload_n hx hb dX7_copy_2 rfl (lv_at hl 1 rfl) ?_
  refine lv_iconst (v := 0) hx hb dX7_copy_3 (by decide) ?_
  refine lv_aload_n hx hb dX7_copy_4 rfl (lv_at hl 0 rfl) ?_
  refine kr_alen hx hb hK hP ga0 ka0 hda0 rfl hea0 dX7_copy_5 ?_
  refine lv_aload_n hx hb dX7_copy_6 rfl (lv_at hl 1 rfl) ?_
  refine kr_alen hx hb hK hP ga1 ka1 hda1 rfl hea1 dX7_copy_7 ?_
  refine va_mmin hx hb (hml.trans hl.1.symm) hown (hts _ w_299) (hts _ w_300) (hts _ w_9) (hts _ w_301) (Nat.le_of_ble_eq_true rfl) (Nat.le_of_ble_eq_true rfl) (Nat.le_of_ble_eq_true rfl) (Nat.le_of_ble_eq_true rfl) dX7_copy_8 ?_
  refine kr_nm (y := (mn (Int32.ofNat na0) (Int32.ofNat na1))) rfl ?_
  refine ck_e hf (fun hi hf => ?_)
  refine lt_e hf (fun M_11 hM_11 hf => ?_)
  refine kr_copy hx hb (hml.trans hl.1.symm) hown (hts _ w_302) (hts _ w_304) (hts _ w_303) (hts _ w_10) hK hP hS ga0 ka0 hda0 rfl hea0 ga1 ka1 hda1 rfl hea1 hi hM_11 (Nat.le_of_ble_eq_true rfl) (Nat.le_of_ble_eq_true rfl) dX7_copy_11 (fun H locs hP hS => ?_)
  exact en_v hf hx hb hr hlocks hP hS dX7_copy_14
theorem c_X7_copy (l : Launch) {G : GG} {sz : Nat} {ns : Nat} {ga0 ka0 na0 : Nat} {ga1 ka1 na1 : Nat} (hda0 : dmC ns ga0 ka0) (hea0 : ∀ m, entC G ns ga0 ka0 m = .inl (G.2.1.1, na0, .inl m)) (hda1 : dmC ns ga1 ka1) (hea1 : ∀ m, entC G ns ga1 ka1 m = .inl (G.2.1.1, na1, .inl m)) {M : Mem} {r : Unit} {M' : Mem} (hf : f_X7_copy ga0 ka0 na0 ga1 ka1 na1 M = some (r, M')) : CtV l yX7_copy cX7_copy 2 none rm_X7_copy [.ref (adC G ga0 ka0), .ref (adC G ga1 ka1)] G (AC G) (XC G ns) sz M r (XC G ns) sz M' := by
  refine Ct_of (by decide) (Nat.le_of_ble_eq_true rfl) (fun p e s m below meth c ls hx hb hr hlocks hml hown hts hK hP hl => ?_)
  exact w_X7_copy ⟨hx, hb, hr, hlocks, hml, hown, hts, hK⟩ hda0 hea0 hda1 hea1 hf hP va_S.rf hl
set_option maxRecDepth 100000 in
theorem cn_X7_copy {p : Program} {l : Launch} {e : Env} {R : Room} {s : State} {m : MethodId} {args : Array Value} {below : List Frame} {meth : Method} {c : Code} {H : Heap} {locs : List Loc} {cells slots : Nat} {Q : State → Prop} {cc : ByteArray} {pc nL index : Nat} {ret : Option FieldType} {own : String} {ls : Array Slot} {rest : List Value} {l' : List (Nat × Value)} {G : GG} {sz : Nat} {ns : Nat} {ga0 ka0 na0 : Nat} {ga1 ka1 na1 : Nat} {M : Mem} (E : Cx p s m args meth c cc ret nL own G) (hP : PW G (AC G) (XC G ns) sz M s H) (hS : va_S (AC G) s.heap H locs) (hda0 : dmC ns ga0 ka0) (hea0 : ∀ m, entC G ns ga0 ka0 m = .inl (G.2.1.1, na0, .inl m)) (hda1 : dmC ns ga1 ka1) (hea1 : ∀ m, entC G ns ga1 ka1 m = .inl (G.2.1.1, na1, .inl m)) {r : Unit} {M' : Mem} (hq : f_X7_copy ga0 ka0 na0 ga1 ka1 na1 M = some (r, M')) {host : String} (w1 : Cond.methodLinkNest own index yX7_copy host ∈ nwl) (hR : 2 ≤ R.frames ∧ 81 ≤ R.locals) (hl : lv_has ls nL l') (hrest : (rest.map fun v => v.category).sum ≤ 8) (hdg : decode cc pc = .ok (.invokestatic index, 3)) (hcs : cells ≤ R.cells ∧ slots ≤ R.slots)
    (kk : ∀ (H1 : Heap) (locs1 : List Loc), PW G (AC G) (XC G ns) sz M' s H1 → va_S (AC G) s.heap H1 locs1 → W p l e R s m args below meth c H1 locs1 cells slots Q (F0 m (pc + 3) ls (rest))) : W p l e R s m args below meth c H locs cells slots Q (F0 m pc ls (.ref (adC G ga1 ka1) :: .ref (adC G ga0 ka0) :: rest)) := by
  obtain ⟨hx, hb, hr, hlocks, hml, hown, hts, hK⟩ := E
  exact kc_v (kc_runSN (na := 2) hx hb hml hts hown hK hP (c_X7_copy l hda0 hea0 hda1 hea1 hq) w1 w_297 w_1 w_298 (by decide +kernel) hR rfl hl rfl hrest hdg hcs) hS kk
/-! X2_copyFrom -/
abbrev rm_X2_copyFrom : Room := { frames := 2, cells := 0, slots := 0, locals := 81 }
def f_X2_copyFrom (g g2 : Nat) (M : Mem) : Option (Unit × Mem) :=
lt (up3 M g 10 0 (M g2 10 0)) fun M_5 =>
ob (f_X7_copy g2 11 16 g 11 16 M_5) fun _ M_16 =>
ob (f_X7_copy g2 12 16 g 12 16 M_16) fun _ M_27 =>
ob (f_X7_copy g2 13 16 g 13 16 M_27) fun _ M_38 =>
ob (f_X7_copy g2 14 16 g 14 16 M_38) fun _ M_49 =>
ob (f_X7_copy g2 15 16 g 15 16 M_49) fun _ M_60 =>
ob (f_X7_copy g2 16 16 g 16 16 M_60) fun _ M_71 =>
ob (f_X7_copy g2 17 16 g 17 16 M_71) fun _ M_82 =>
ob (f_X7_copy g2 18 16 g 18 16 M_82) fun _ M_93 =>
ob (f_X7_copy g2 19 16 g 19 16 M_93) fun _ M_104 =>
ob (f_X7_copy g2 20 16 g 20 16 M_104) fun _ M_115 =>
some ((), M_115)
set_option maxHeartbeats 4000000 in
set_option maxRecDepth 100000 in
theorem w_X2_copyFrom {p : Program} {l : Launch} {e : Env} {s : State} {m : MethodId} {args : Array Value} {below : List Frame} {meth : Method} {c : Code} {G : GG} {sz : Nat} {ns : Nat} {g g2 : Nat} {r : Unit} {M' : Mem} (E : Cx p s m args meth c cX2_copyFrom none 2 RX2 G) (hg : pg ns g) (hg2 : pg ns g2) {M : Mem} {H : Heap} {locs : List Loc} {ls : Array Slot} (hf : f_X2_copyFrom g g2 M = some (r, M')) (hP : PW G (AC G) (XC G ns) sz M s H) (hS : va_S (AC G) s.heap H locs) (hl : lv_has ls 2 [(0, .ref (adC G g 10)), (1, .ref (adC G g2 10))]) : W p l e rm_X2_copyFrom s m args below meth c H locs 0 0 (MQ below (va_Qv (fun (_ : Unit) => True) (fun _ t => PW G (AC G) (XC G ns) sz M' t t.heap) (AC G)) args s 0 0 (AC G)) (F0 m 0 ls []) := by
  obtain ⟨hx, hb, hr, hlocks, hml, hown, hts, hK⟩ := id E
  unfold f_X2_copyFrom at hf
  refine lv_aload_n hx hb dX2_copyFrom_0 rfl (lv_at hl 0 rfl) ?_
  refine lv_aload_n hx hb dX2_copyFrom_1 rfl (lv_at hl 1 rfl) ?_
  refine gf_X2_many E hP hg2 w_85 dX2_copyFrom_2 ?_
  refine lt_e hf (fun M_5 hM_5 hf => ?_)
  refine pf_X2_many E hP hS hg hM_5 w_85 dX2_copyFrom_5 (fun H locs hP hS => ?_)
  refine lv_aload_n hx hb dX2_copyFrom_8 rfl (lv_at hl 1 rfl) ?_
  refine gf_X2_x E hP hg2 w_88 dX2_copyFrom_9 ?_
  refine lv_aload_n hx hb dX2_copyFrom_12 rfl (lv_at hl 0 rfl) ?_
  refine gf_X2_x E hP hg w_88 dX2_copyFrom_13 ?_
  refine ob_e hf (fun r_16 M_16 hq hf => ?_)
  refine cn_X7_copy E hP hS (dmP hg2 (by decide)) (ea_P11 hg2) (dmP hg (by decide)) (ea_P11 hg) hq w_314 ⟨Nat.le_of_ble_eq_true rfl, Nat.le_of_ble_eq_true rfl⟩ hl (Nat.le_of_ble_eq_true rfl) dX2_copyFrom_16 ⟨Nat.le_of_ble_eq_true rfl, Nat.le_of_ble_eq_true rfl⟩ (fun H locs hP hS => ?_)
  refine lv_aload_n hx hb dX2_copyFrom_19 rfl (lv_at hl 1 rfl) ?_
  refine gf_X2_y E hP hg2 w_90 dX2_copyFrom_20 ?_
  refine lv_aload_n hx hb dX2_copyFrom_23 rfl (lv_at hl 0 rfl) ?_
  refine gf_X2_y E hP hg w_90 dX2_copyFrom_24 ?_
  refine ob_e hf (fun r_27 M_27 hq hf => ?_)
  refine cn_X7_copy E hP hS (dmP hg2 (by decide)) (ea_P12 hg2) (dmP hg (by decide)) (ea_P12 hg) hq w_314 ⟨Nat.le_of_ble_eq_true rfl, Nat.le_of_ble_eq_true rfl⟩ hl (Nat.le_of_ble_eq_true rfl) dX2_copyFrom_27 ⟨Nat.le_of_ble_eq_true rfl, Nat.le_of_ble_eq_true rfl⟩ (fun H locs hP hS => ?_)
  refine lv_aload_n hx hb dX2_copyFrom_30 rfl (lv_at hl 1 rfl) ?_
  refine gf_X2_x2 E hP hg2 w_92 dX2_copyFrom_31 ?_
  refine lv_aload_n hx hb dX2_copyFrom_34 rfl (lv_at hl 0 rfl) ?_
  refine gf_X2_x2 E hP hg w_92 dX2_copyFrom_35 ?_
  refine ob_e hf (fun r_38 M_38 hq hf => ?_)
  refine cn_X7_copy E hP hS (dmP hg2 (by decide)) (ea_P13 hg2) (dmP hg (by decide)) (ea_P13 hg) hq w_314 ⟨Nat.le_of_ble_eq_true rfl, Nat.le_of_ble_eq_true rfl⟩ hl (Nat.le_of_ble_eq_true rfl) dX2_copyFrom_38 ⟨Nat.le_of_ble_eq_true rfl, Nat.le_of_ble_eq_true rfl⟩ (fun H locs hP hS => ?_)
  refine lv_aload_n hx hb dX2_copyFrom_41 rfl (lv_at hl 1 rfl) ?_
  refine gf_X2_y2 E hP hg2 w_94 dX2_copyFrom_42 ?_
  refine lv_aload_n hx hb dX2_copyFrom_45 rfl (lv_at hl 0 rfl) ?_
  refine gf_X2_y2 E hP hg w_94 dX2_copyFrom_46 ?_
  refine ob_e hf (fun r_49 M_49 hq hf => ?_)
  refine cn_X7_copy E hP hS (dmP hg2 (by decide)) (ea_P14 hg2) (dmP hg (by decide)) (ea_P14 hg) hq w_314 ⟨Nat.le_of_ble_eq_true rfl, Nat.le_of_ble_eq_true rfl⟩ hl (Nat.le_of_ble_eq_true rfl) dX2_copyFrom_49 ⟨Nat.le_of_ble_eq_true rfl, Nat.le_of_ble_eq_true rfl⟩ (fun H locs hP hS => ?_)
  refine lv_aload_n hx hb dX2_copyFrom_52 rfl (lv_at hl 1 rfl) ?_
  refine gf_X2_length E hP hg2 w_96 dX2_copyFrom_53 ?_
  refine lv_aload_n hx hb dX2_copyFrom_56 rfl (lv_at hl 0 rfl) ?_
  refine gf_X2_length E hP hg w_96 dX2_copyFrom_57 ?_
  refine ob_e hf (fun r_60 M_60 hq hf => ?_)
  refine cn_X7_copy E hP hS (dmP hg2 (by decide)) (ea_P15 hg2) (dmP hg (by decide)) (ea_P15 hg) hq w_314 ⟨Nat.le_of_ble_eq_true rfl, Nat.le_of_ble_eq_true rfl⟩ hl (Nat.le_of_ble_eq_true rfl) dX2_copyFrom_60 ⟨Nat.le_of_ble_eq_true rfl, Nat.le_of_ble_eq_true rfl⟩ (fun H locs hP hS => ?_)
  refine lv_aload_n hx hb dX2_copyFrom_63 rfl (lv_at hl 1 rfl) ?_
  refine gf_X2_touchingSet E hP hg2 w_99 dX2_copyFrom_64 ?_
  refine lv_aload_n hx hb dX2_copyFrom_67 rfl (lv_at hl 0 rfl) ?_
  refine gf_X2_touchingSet E hP hg w_99 dX2_copyFrom_68 ?_
  refine ob_e hf (fun r_71 M_71 hq hf => ?_)
  refine cn_X7_copy E hP hS (dmP hg2 (by decide)) (ea_P16 hg2) (dmP hg (by decide)) (ea_P16 hg) hq w_314 ⟨Nat.le_of_ble_eq_true rfl, Nat.le_of_ble_eq_true rfl⟩ hl (Nat.le_of_ble_eq_true rfl) dX2_copyFrom_71 ⟨Nat.le_of_ble_eq_true rfl, Nat.le_of_ble_eq_true rfl⟩ (fun H locs hP hS => ?_)
  refine lv_aload_n hx hb dX2_copyFrom_74 rfl (lv_at hl 1 rfl) ?_
  refine gf_X2_drawnBy E hP hg2 w_101 dX2_copyFrom_75 ?_
  refine lv_aload_n hx hb dX2_copyFrom_78 rfl (lv_at hl 0 rfl) ?_
  refine gf_X2_drawnBy E hP hg w_101 dX2_copyFrom_79 ?_
  refine ob_e hf (fun r_82 M_82 hq hf => ?_)
  refine cn_X7_copy E hP hS (dmP hg2 (by decide)) (ea_P17 hg2) (dmP hg (by decide)) (ea_P17 hg) hq w_314 ⟨Nat.le_of_ble_eq_true rfl, Nat.le_of_ble_eq_true rfl⟩ hl (Nat.le_of_ble_eq_true rfl) dX2_copyFrom_82 ⟨Nat.le_of_ble_eq_true rfl, Nat.le_of_ble_eq_true rfl⟩ (fun H locs hP hS => ?_)
  refine lv_aload_n hx hb dX2_copyFrom_85 rfl (lv_at hl 1 rfl) ?_
  refine gf_X2_doneAt E hP hg2 w_104 dX2_copyFrom_86 ?_
  refine lv_aload_n hx hb dX2_copyFrom_89 rfl (lv_at hl 0 rfl) ?_
  refine gf_X2_doneAt E hP hg w_104 dX2_copyFrom_90 ?_
  refine ob_e hf (fun r_93 M_93 hq hf => ?_)
  refine cn_X7_copy E hP hS (dmP hg2 (by decide)) (ea_P18 hg2) (dmP hg (by decide)) (ea_P18 hg) hq w_314 ⟨Nat.le_of_ble_eq_true rfl, Nat.le_of_ble_eq_true rfl⟩ hl (Nat.le_of_ble_eq_true rfl) dX2_copyFrom_93 ⟨Nat.le_of_ble_eq_true rfl, Nat.le_of_ble_eq_true rfl⟩ (fun H locs hP hS => ?_)
  refine lv_aload_n hx hb dX2_copyFrom_96 rfl (lv_at hl 1 rfl) ?_
  refine gf_X2_dryAt E hP hg2 w_107 dX2_copyFrom_97 ?_
  refine lv_aload_n hx hb dX2_copyFrom_100 rfl (lv_at hl 0 rfl) ?_
  refine gf_X2_dryAt E hP hg w_107 dX2_copyFrom_101 ?_
  refine ob_e hf (fun r_104 M_104 hq hf => ?_)
  refine cn_X7_copy E hP hS (dmP hg2 (by decide)) (ea_P19 hg2) (dmP hg (by decide)) (ea_P19 hg) hq w_314 ⟨Nat.le_of_ble_eq_true rfl, Nat.le_of_ble_eq_true rfl⟩ hl (Nat.le_of_ble_eq_true rfl) dX2_copyFrom_104 ⟨Nat.le_of_ble_eq_true rfl, Nat.le_of_ble_eq_true rfl⟩ (fun H locs hP hS => ?_)
  refine lv_aload_n hx hb dX2_copyFrom_107 rfl (lv_at hl 1 rfl) ?_
  refine gf_X2_inkAtBegin E hP hg2 w_109 dX2_copyFrom_108 ?_
  refine lv_aload_n hx hb dX2_copyFrom_111 rfl (lv_at hl 0 rfl) ?_
  refine gf_X2_inkAtBegin E hP hg w_109 dX2_copyFrom_112 ?_
  refine ob_e hf (fun r_115 M_115 hq hf => ?_)
  refine cn_X7_copy E hP hS (dmP hg2 (by decide)) (ea_P20 hg2) (dmP hg (by decide)) (ea_P20 hg) hq w_314 ⟨Nat.le_of_ble_eq_true rfl, Nat.le_of_ble_eq_true rfl⟩ hl (Nat.le_of_ble_eq_true rfl) dX2_copyFrom_115 ⟨Nat.le_of_ble_eq_true rfl, Nat.le_of_ble_eq_true rfl⟩ (fun H locs hP hS => ?_)
  exact en_v hf hx hb hr hlocks hP hS dX2_copyFrom_118
theorem c_X2_copyFrom (l : Launch) {G : GG} {sz : Nat} {ns : Nat} {g g2 : Nat} (hg : pg ns g) (hg2 : pg ns g2) {M : Mem} {r : Unit} {M' : Mem} (hf : f_X2_copyFrom g g2 M = some (r, M')) : CtV l yX2_copyFrom cX2_copyFrom 2 none rm_X2_copyFrom [.ref (adC G g 10), .ref (adC G g2 10)] G (AC G) (XC G ns) sz M r (XC G ns) sz M' := by
  refine Ct_of (by decide) (Nat.le_of_ble_eq_true rfl) (fun p e s m below meth c ls hx hb hr hlocks hml hown hts hK hP hl => ?_)
  exact w_X2_copyFrom ⟨hx, hb, hr, hlocks, hml, hown, hts, hK⟩ hg hg2 hf hP va_S.rf hl
set_option maxRecDepth 100000 in
theorem cv_X2_copyFrom {p : Program} {l : Launch} {e : Env} {R : Room} {s : State} {m : MethodId} {args : Array Value} {below : List Frame} {meth : Method} {c : Code} {H : Heap} {locs : List Loc} {cells slots : Nat} {Q : State → Prop} {cc : ByteArray} {pc nL index : Nat} {ret : Option FieldType} {own : String} {ls : Array Slot} {rest : List Value} {l' : List (Nat × Value)} {G : GG} {sz : Nat} {ns : Nat} {g g2 : Nat} {M : Mem} (E : Cx p s m args meth c cc ret nL own G) (hP : PW G (AC G) (XC G ns) sz M s H) (hS : va_S (AC G) s.heap H locs) (hg : pg ns g) (hg2 : pg ns g2) {r : Unit} {M' : Mem} (hq : f_X2_copyFrom g g2 M = some (r, M')) (w1 : Cond.methodLink own index yX2_copyFrom ∈ lw_all) (hR : 3 ≤ R.frames ∧ 102 ≤ R.locals) (hl : lv_has ls nL l') (hrest : (rest.map fun v => v.category).sum ≤ 8) (hdg : decode cc pc = .ok (.invokevirtual index, 3)) (hcs : cells ≤ R.cells ∧ slots ≤ R.slots)
    (kk : ∀ (H1 : Heap) (locs1 : List Loc), PW G (AC G) (XC G ns) sz M' s H1 → va_S (AC G) s.heap H1 locs1 → W p l e R s m args below meth c H1 locs1 cells slots Q (F0 m (pc + 3) ls (rest))) : W p l e R s m args below meth c H locs cells slots Q (F0 m pc ls (.ref (adC G g2 10) :: .ref (adC G g 10) :: rest)) := by
  obtain ⟨hx, hb, hr, hlocks, hml, hown, hts, hK⟩ := E
  obtain ⟨g0, rfl⟩ := pg_s hg
  exact kc_v (kc_runV (na := 1) (q := (RX2, TX2, 11)) hx hb hml hts hown hK hP (g0 + 1) 10 (dmP hg (by decide)) rfl rfl rfl (c_X2_copyFrom l hg hg2 hq) w1 w_311 w_312 w_4 w_313 (by decide +kernel) hR rfl hl rfl hrest hdg hcs) hS kk
/-! X7_isIn -/
abbrev rm_X7_isIn : Room := { frames := 0, cells := 0, slots := 0, locals := 0 }
def f_X7_isIn_b15 (s0 : Int32) (M : Mem) : Option (Int32 × Mem) :=
ck (bl s0) <|
some (s0, M)
def f_X7_isIn_b14 (M : Mem) : Option (Int32 × Mem) :=
f_X7_isIn_b15 0 M
def f_X7_isIn (x0 : Int32) (x1 : Int32) (x2 : Int32) (M : Mem) : Option (Int32 × Mem) :=
(if x0 < x1 then
  f_X7_isIn_b14 M
else
  (if x2 < x0 then
    f_X7_isIn_b14 M
  else
    f_X7_isIn_b15 1 M))
set_option maxHeartbeats 4000000 in
set_option maxRecDepth 100000 in
theorem w_X7_isIn_b15 {p : Program} {l : Launch} {e : Env} {s : State} {m : MethodId} {args : Array Value} {below : List Frame} {meth : Method} {c : Code} {G : GG} {sz : Nat} {ns : Nat} {r : Int32} {M' : Mem} (E : Cx p s m args meth c cX7_isIn (some .boolean) 3 RX7 G) {s0 : Int32} {M : Mem} {H : Heap} {locs : List Loc} {ls : Array Slot} (hf : f_X7_isIn_b15 s0 M = some (r, M')) (hP : PW G (AC G) (XC G ns) sz M s H) (hS : va_S (AC G) s.heap H locs) (hl : lv_has ls 3 []) : W p l e rm_X7_isIn s m args below meth c H locs 0 0 (MQ below (va_Qi (fun (r2 : Int32) (_ : Unit) => r2 = r) (fun _ t => PW G (AC G) (XC G ns) sz M' t t.heap) (AC G)) args s 0 0 (AC G)) (F0 m 15 ls [.int s0]) := by
  obtain ⟨hx, hb, hr, hlocks, hml, hown, hts, hK⟩ := id E
  unfold f_X7_isIn_b15 at hf
  refine ck_e hf (fun hn hf => ?_)
  exact en_i hf hx hb hr (bl_nar hn) hlocks hP hS dX7_isIn_15
set_option maxHeartbeats 4000000 in
set_option maxRecDepth 100000 in
theorem w_X7_isIn_b14 {p : Program} {l : Launch} {e : Env} {s : State} {m : MethodId} {args : Array Value} {below : List Frame} {meth : Method} {c : Code} {G : GG} {sz : Nat} {ns : Nat} {r : Int32} {M' : Mem} (E : Cx p s m args meth c cX7_isIn (some .boolean) 3 RX7 G) {M : Mem} {H : Heap} {locs : List Loc} {ls : Array Slot} (hf : f_X7_isIn_b14 M = some (r, M')) (hP : PW G (AC G) (XC G ns) sz M s H) (hS : va_S (AC G) s.heap H locs) (hl : lv_has ls 3 []) : W p l e rm_X7_isIn s m args below meth c H locs 0 0 (MQ below (va_Qi (fun (r2 : Int32) (_ : Unit) => r2 = r) (fun _ t => PW G (AC G) (XC G ns) sz M' t t.heap) (AC G)) args s 0 0 (AC G)) (F0 m 14 ls []) := by
  obtain ⟨hx, hb, hr, hlocks, hml, hown, hts, hK⟩ := id E
  unfold f_X7_isIn_b14 at hf
  refine lv_iconst (v := 0) hx hb dX7_isIn_14 (by decide) ?_
  exact w_X7_isIn_b15 E hf hP hS (lv_sub hl [] rfl)
set_option maxHeartbeats 4000000 in
set_option maxRecDepth 100000 in
theorem w_X7_isIn {p : Program} {l : Launch} {e : Env} {s : State} {m : MethodId} {args : Array Value} {below : List Frame} {meth : Method} {c : Code} {G : GG} {sz : Nat} {ns : Nat} {r : Int32} {M' : Mem} (E : Cx p s m args meth c cX7_isIn (some .boolean) 3 RX7 G) {x0 : Int32} {x1 : Int32} {x2 : Int32} {M : Mem} {H : Heap} {locs : List Loc} {ls : Array Slot} (hf : f_X7_isIn x0 x1 x2 M = some (r, M')) (hP : PW G (AC G) (XC G ns) sz M s H) (hS : va_S (AC G) s.heap H locs) (hl : lv_has ls 3 [(0, .int x0), (1, .int x1), (2, .int x2)]) : W p l e rm_X7_isIn s m args below meth c H locs 0 0 (MQ below (va_Qi (fun (r2 : Int32) (_ : Unit) => r2 = r) (fun _ t => PW G (AC G) (XC G ns) sz M' t t.heap) (AC G)) args s 0 0 (AC G)) (F0 m 0 ls []) := by
  obtain ⟨hx, hb, hr, hlocks, hml, hown, hts, hK⟩ := id E
  unfold f_X7_isIn at hf
  refine lv_iload_n hx hb dX7_isIn_0 rfl (lv_at hl 0 rfl) ?_
  refine lv_iload_n hx hb dX7_isIn_1 rfl (lv_at hl 1 rfl) ?_
  refine lv_icmp_lt (tgt := 14) hx hb dX7_isIn_2 (by decide) (fun hc => ?_) (fun hc => ?_)
  · have hf := if_t hf hc
    exact w_X7_isIn_b14 E hf hP hS (lv_sub hl [] rfl)
  · have hf := if_f hf hc
    refine lv_iload_n hx hb dX7_isIn_5 rfl (lv_at hl 0 rfl) ?_
    refine lv_iload_n hx hb dX7_isIn_6 rfl (lv_at hl 2 rfl) ?_
    refine lv_icmp_gt (tgt := 14) hx hb dX7_isIn_7 (by decide) (fun hc => ?_) (fun hc => ?_)
    · have hf := if_t hf hc
      exact w_X7_isIn_b14 E hf hP hS (lv_sub hl [] rfl)
    · have hf := if_f hf hc
      refine lv_iconst (v := 1) hx hb dX7_isIn_10 (by decide) ?_
      refine lv_goto (tgt := 15) hx hb dX7_isIn_11 (by decide) ?_
      exact w_X7_isIn_b15 E hf hP hS (lv_sub hl [] rfl)
theorem c_X7_isIn (l : Launch) {G : GG} {sz : Nat} {ns : Nat} {x0 : Int32} {x1 : Int32} {x2 : Int32} {M : Mem} {r : Int32} {M' : Mem} (hf : f_X7_isIn x0 x1 x2 M = some (r, M')) : CtI l yX7_isIn cX7_isIn 3 (some .boolean) rm_X7_isIn [.int x0, .int x1, .int x2] G (AC G) (XC G ns) sz M r (XC G ns) sz M' := by
  refine Ct_of (by decide) (Nat.le_of_ble_eq_true rfl) (fun p e s m below meth c ls hx hb hr hlocks hml hown hts hK hP hl => ?_)
  exact w_X7_isIn ⟨hx, hb, hr, hlocks, hml, hown, hts, hK⟩ hf hP va_S.rf hl
set_option maxRecDepth 100000 in
theorem cn_X7_isIn {p : Program} {l : Launch} {e : Env} {R : Room} {s : State} {m : MethodId} {args : Array Value} {below : List Frame} {meth : Method} {c : Code} {H : Heap} {locs : List Loc} {cells slots : Nat} {Q : State → Prop} {cc : ByteArray} {pc nL index : Nat} {ret : Option FieldType} {own : String} {ls : Array Slot} {rest : List Value} {l' : List (Nat × Value)} {G : GG} {sz : Nat} {ns : Nat} {M : Mem} (E : Cx p s m args meth c cc ret nL own G) (hP : PW G (AC G) (XC G ns) sz M s H) (hS : va_S (AC G) s.heap H locs) {x0 : Int32} {x1 : Int32} {x2 : Int32} {r : Int32} {M' : Mem} (hq : f_X7_isIn x0 x1 x2 M = some (r, M')) {host : String} (w1 : Cond.methodLinkNest own index yX7_isIn host ∈ nwl) (hR : 1 ≤ R.frames ∧ 22 ≤ R.locals) (hl : lv_has ls nL l') (hrest : (rest.map fun v => v.category).sum ≤ 8) (hdg : decode cc pc = .ok (.invokestatic index, 3)) (hcs : cells ≤ R.cells ∧ slots ≤ R.slots)
    (kk : ∀ (H1 : Heap) (locs1 : List Loc), PW G (AC G) (XC G ns) sz M' s H1 → va_S (AC G) s.heap H1 locs1 → W p l e R s m args below meth c H1 locs1 cells slots Q (F0 m (pc + 3) ls (.int r :: rest))) : W p l e R s m args below meth c H locs cells slots Q (F0 m pc ls (.int x2 :: .int x1 :: .int x0 :: rest)) := by
  obtain ⟨hx, hb, hr, hlocks, hml, hown, hts, hK⟩ := E
  exact kc_i (kc_runSN (na := 3) hx hb hml hts hown hK hP (c_X7_isIn l hq) w1 w_280 w_1 w_281 (by decide +kernel) hR rfl hl rfl hrest hdg hcs) hS kk
set_option maxRecDepth 100000 in
theorem cv_X7_isIn {p : Program} {l : Launch} {e : Env} {R : Room} {s : State} {m : MethodId} {args : Array Value} {below : List Frame} {meth : Method} {c : Code} {H : Heap} {locs : List Loc} {cells slots : Nat} {Q : State → Prop} {cc : ByteArray} {pc nL index : Nat} {ret : Option FieldType} {own : String} {ls : Array Slot} {rest : List Value} {l' : List (Nat × Value)} {G : GG} {sz : Nat} {ns : Nat} {M : Mem} (E : Cx p s m args meth c cc ret nL own G) (hP : PW G (AC G) (XC G ns) sz M s H) (hS : va_S (AC G) s.heap H locs) {x0 : Int32} {x1 : Int32} {x2 : Int32} {r : Int32} {M' : Mem} (hq : f_X7_isIn x0 x1 x2 M = some (r, M')) (w1 : Cond.methodLink own index yX7_isIn ∈ lw_all) (hR : 1 ≤ R.frames ∧ 22 ≤ R.locals) (hl : lv_has ls nL l') (hrest : (rest.map fun v => v.category).sum ≤ 8) (hdg : decode cc pc = .ok (.invokestatic index, 3)) (hcs : cells ≤ R.cells ∧ slots ≤ R.slots)
    (kk : ∀ (H1 : Heap) (locs1 : List Loc), PW G (AC G) (XC G ns) sz M' s H1 → va_S (AC G) s.heap H1 locs1 → W p l e R s m args below meth c H1 locs1 cells slots Q (F0 m (pc + 3) ls (.int r :: rest))) : W p l e R s m args below meth c H locs cells slots Q (F0 m pc ls (.int x2 :: .int x1 :: .int x0 :: rest)) := by
  obtain ⟨hx, hb, hr, hlocks, hml, hown, hts, hK⟩ := E
  exact kc_i (kc_runS (na := 3) hx hb hml hts hown hK hP (c_X7_isIn l hq) w1 w_280 w_1 w_281 (by decide +kernel) hR rfl hl rfl hrest hdg hcs) hS kk
/-! X2_has -/
abbrev rm_X2_has : Room := { frames := 1, cells := 0, slots := 0, locals := 22 }
def f_X2_has (g : Nat) (x1 : Int32) (M : Mem) : Option (Int32 × Mem) :=
ob (f_X7_isIn x1 0 ((M g 10 0) - 1) M) fun r_8 M_8 =>
ck (bl r_8) <|
some (r_8, M_8)
set_option maxHeartbeats 4000000 in
set_option maxRecDepth 100000 in
theorem w_X2_has {p : Program} {l : Launch} {e : Env} {s : State} {m : MethodId} {args : Array Value} {below : List Frame} {meth : Method} {c : Code} {G : GG} {sz : Nat} {ns : Nat} {g : Nat} {r : Int32} {M' : Mem} (E : Cx p s m args meth c cX2_has (some .boolean) 2 RX2 G) (hg : pg ns g) {x1 : Int32} {M : Mem} {H : Heap} {locs : List Loc} {ls : Array Slot} (hf : f_X2_has g x1 M = some (r, M')) (hP : PW G (AC G) (XC G ns) sz M s H) (hS : va_S (AC G) s.heap H locs) (hl : lv_has ls 2 [(0, .ref (adC G g 10)), (1, .int x1)]) : W p l e rm_X2_has s m args below meth c H locs 0 0 (MQ below (va_Qi (fun (r2 : Int32) (_ : Unit) => r2 = r) (fun _ t => PW G (AC G) (XC G ns) sz M' t t.heap) (AC G)) args s 0 0 (AC G)) (F0 m 0 ls []) := by
  obtain ⟨hx, hb, hr, hlocks, hml, hown, hts, hK⟩ := id E
  unfold f_X2_has at hf
  refine lv_iload_n hx hb dX2_has_0 rfl (lv_at hl 1 rfl) ?_
  refine lv_iconst (v := 0) hx hb dX2_has_1 (by decide) ?_
  refine lv_aload_n hx hb dX2_has_2 rfl (lv_at hl 0 rfl) ?_
  refine gf_X2_many E hP hg w_85 dX2_has_3 ?_
  refine lv_iconst (v := 1) hx hb dX2_has_6 (by decide) ?_
  refine lv_isub hx hb dX2_has_7 ?_
  refine ob_e hf (fun r_8 M_8 hq hf => ?_)
  refine cn_X7_isIn E hP hS hq w_517 ⟨Nat.le_of_ble_eq_true rfl, Nat.le_of_ble_eq_true rfl⟩ hl (Nat.le_of_ble_eq_true rfl) dX2_has_8 ⟨Nat.le_of_ble_eq_true rfl, Nat.le_of_ble_eq_true rfl⟩ (fun H locs hP hS => ?_)
  refine ck_e hf (fun hn hf => ?_)
  exact en_i hf hx hb hr (bl_nar hn) hlocks hP hS dX2_has_11
theorem c_X2_has (l : Launch) {G : GG} {sz : Nat} {ns : Nat} {g : Nat} (hg : pg ns g) {x1 : Int32} {M : Mem} {r : Int32} {M' : Mem} (hf : f_X2_has g x1 M = some (r, M')) : CtI l yX2_has cX2_has 2 (some .boolean) rm_X2_has [.ref (adC G g 10), .int x1] G (AC G) (XC G ns) sz M r (XC G ns) sz M' := by
  refine Ct_of (by decide) (Nat.le_of_ble_eq_true rfl) (fun p e s m below meth c ls hx hb hr hlocks hml hown hts hK hP hl => ?_)
  exact w_X2_has ⟨hx, hb, hr, hlocks, hml, hown, hts, hK⟩ hg hf hP va_S.rf hl
set_option maxRecDepth 100000 in
theorem cv_X2_has {p : Program} {l : Launch} {e : Env} {R : Room} {s : State} {m : MethodId} {args : Array Value} {below : List Frame} {meth : Method} {c : Code} {H : Heap} {locs : List Loc} {cells slots : Nat} {Q : State → Prop} {cc : ByteArray} {pc nL index : Nat} {ret : Option FieldType} {own : String} {ls : Array Slot} {rest : List Value} {l' : List (Nat × Value)} {G : GG} {sz : Nat} {ns : Nat} {g : Nat} {M : Mem} (E : Cx p s m args meth c cc ret nL own G) (hP : PW G (AC G) (XC G ns) sz M s H) (hS : va_S (AC G) s.heap H locs) (hg : pg ns g) {x1 : Int32} {r : Int32} {M' : Mem} (hq : f_X2_has g x1 M = some (r, M')) (w1 : Cond.methodLink own index yX2_has ∈ lw_all) (hR : 2 ≤ R.frames ∧ 43 ≤ R.locals) (hl : lv_has ls nL l') (hrest : (rest.map fun v => v.category).sum ≤ 8) (hdg : decode cc pc = .ok (.invokevirtual index, 3)) (hcs : cells ≤ R.cells ∧ slots ≤ R.slots)
    (kk : ∀ (H1 : Heap) (locs1 : List Loc), PW G (AC G) (XC G ns) sz M' s H1 → va_S (AC G) s.heap H1 locs1 → W p l e R s m args below meth c H1 locs1 cells slots Q (F0 m (pc + 3) ls (.int r :: rest))) : W p l e R s m args below meth c H locs cells slots Q (F0 m pc ls (.int x1 :: .ref (adC G g 10) :: rest)) := by
  obtain ⟨hx, hb, hr, hlocks, hml, hown, hts, hK⟩ := E
  obtain ⟨g0, rfl⟩ := pg_s hg
  exact kc_i (kc_runV (na := 1) (q := (RX2, TX2, 11)) hx hb hml hts hown hK hP (g0 + 1) 10 (dmP hg (by decide)) rfl rfl rfl (c_X2_has l hg hq) w1 w_514 w_515 w_4 w_516 (by decide +kernel) hR rfl hl rfl hrest hdg hcs) hS kk
/-! X2_isDrawn -/
abbrev rm_X2_isDrawn : Room := { frames := 0, cells := 0, slots := 0, locals := 0 }
def f_X2_isDrawn_b15 (g : Nat) (s0 : Int32) (M : Mem) : Option (Int32 × Mem) :=
ck (bl s0) <|
some (s0, M)
def f_X2_isDrawn (g : Nat) (x1 : Int32) (M : Mem) : Option (Int32 × Mem) :=
ck (ibd x1 16) <|
(if (M g 17 (ix x1)) = (-1) then
  f_X2_isDrawn_b15 g 0 M
else
  f_X2_isDrawn_b15 g 1 M)
set_option maxHeartbeats 4000000 in
set_option maxRecDepth 100000 in
theorem w_X2_isDrawn_b15 {p : Program} {l : Launch} {e : Env} {s : State} {m : MethodId} {args : Array Value} {below : List Frame} {meth : Method} {c : Code} {G : GG} {sz : Nat} {ns : Nat} {g : Nat} {r : Int32} {M' : Mem} (E : Cx p s m args meth c cX2_isDrawn (some .boolean) 2 RX2 G) (hg : pg ns g) {s0 : Int32} {M : Mem} {H : Heap} {locs : List Loc} {ls : Array Slot} (hf : f_X2_isDrawn_b15 g s0 M = some (r, M')) (hP : PW G (AC G) (XC G ns) sz M s H) (hS : va_S (AC G) s.heap H locs) (hl : lv_has ls 2 []) : W p l e rm_X2_isDrawn s m args below meth c H locs 0 0 (MQ below (va_Qi (fun (r2 : Int32) (_ : Unit) => r2 = r) (fun _ t => PW G (AC G) (XC G ns) sz M' t t.heap) (AC G)) args s 0 0 (AC G)) (F0 m 15 ls [.int s0]) := by
  obtain ⟨hx, hb, hr, hlocks, hml, hown, hts, hK⟩ := id E
  unfold f_X2_isDrawn_b15 at hf
  refine ck_e hf (fun hn hf => ?_)
  exact en_i hf hx hb hr (bl_nar hn) hlocks hP hS dX2_isDrawn_15
set_option maxHeartbeats 4000000 in
set_option maxRecDepth 100000 in
theorem w_X2_isDrawn {p : Program} {l : Launch} {e : Env} {s : State} {m : MethodId} {args : Array Value} {below : List Frame} {meth : Method} {c : Code} {G : GG} {sz : Nat} {ns : Nat} {g : Nat} {r : Int32} {M' : Mem} (E : Cx p s m args meth c cX2_isDrawn (some .boolean) 2 RX2 G) (hg : pg ns g) {x1 : Int32} {M : Mem} {H : Heap} {locs : List Loc} {ls : Array Slot} (hf : f_X2_isDrawn g x1 M = some (r, M')) (hP : PW G (AC G) (XC G ns) sz M s H) (hS : va_S (AC G) s.heap H locs) (hl : lv_has ls 2 [(0, .ref (adC G g 10)), (1, .int x1)]) : W p l e rm_X2_isDrawn s m args below meth c H locs 0 0 (MQ below (va_Qi (fun (r2 : Int32) (_ : Unit) => r2 = r) (fun _ t => PW G (AC G) (XC G ns) sz M' t t.heap) (AC G)) args s 0 0 (AC G)) (F0 m 0 ls []) := by
  obtain ⟨hx, hb, hr, hlocks, hml, hown, hts, hK⟩ := id E
  unfold f_X2_isDrawn at hf
  refine lv_aload_n hx hb dX2_isDrawn_0 rfl (lv_at hl 0 rfl) ?_
  refine gf_X2_drawnBy E hP hg w_101 dX2_isDrawn_1 ?_
  refine lv_iload_n hx hb dX2_isDrawn_4 rfl (lv_at hl 1 rfl) ?_
  refine ck_e hf (fun hi hf => ?_)
  refine la_P17 E hP hg hi dX2_isDrawn_5 ?_
  refine lv_iconst (v := (-1)) hx hb dX2_isDrawn_6 (by decide) ?_
  refine lv_icmp_eq (tgt := 14) hx hb dX2_isDrawn_7 (by decide) (fun hc => ?_) (fun hc => ?_)
  · have hf := if_t hf hc
    refine lv_iconst (v := 0) hx hb dX2_isDrawn_14 (by decide) ?_
    exact w_X2_isDrawn_b15 E hg hf hP hS (lv_sub hl [] rfl)
  · have hf := if_f hf hc
    refine lv_iconst (v := 1) hx hb dX2_isDrawn_10 (by decide) ?_
    refine lv_goto (tgt := 15) hx hb dX2_isDrawn_11 (by decide) ?_
    exact w_X2_isDrawn_b15 E hg hf hP hS (lv_sub hl [] rfl)
theorem c_X2_isDrawn (l : Launch) {G : GG} {sz : Nat} {ns : Nat} {g : Nat} (hg : pg ns g) {x1 : Int32} {M : Mem} {r : Int32} {M' : Mem} (hf : f_X2_isDrawn g x1 M = some (r, M')) : CtI l yX2_isDrawn cX2_isDrawn 2 (some .boolean) rm_X2_isDrawn [.ref (adC G g 10), .int x1] G (AC G) (XC G ns) sz M r (XC G ns) sz M' := by
  refine Ct_of (by decide) (Nat.le_of_ble_eq_true rfl) (fun p e s m below meth c ls hx hb hr hlocks hml hown hts hK hP hl => ?_)
  exact w_X2_isDrawn ⟨hx, hb, hr, hlocks, hml, hown, hts, hK⟩ hg hf hP va_S.rf hl
set_option maxRecDepth 100000 in
theorem cv_X2_isDrawn {p : Program} {l : Launch} {e : Env} {R : Room} {s : State} {m : MethodId} {args : Array Value} {below : List Frame} {meth : Method} {c : Code} {H : Heap} {locs : List Loc} {cells slots : Nat} {Q : State → Prop} {cc : ByteArray} {pc nL index : Nat} {ret : Option FieldType} {own : String} {ls : Array Slot} {rest : List Value} {l' : List (Nat × Value)} {G : GG} {sz : Nat} {ns : Nat} {g : Nat} {M : Mem} (E : Cx p s m args meth c cc ret nL own G) (hP : PW G (AC G) (XC G ns) sz M s H) (hS : va_S (AC G) s.heap H locs) (hg : pg ns g) {x1 : Int32} {r : Int32} {M' : Mem} (hq : f_X2_isDrawn g x1 M = some (r, M')) (w1 : Cond.methodLink own index yX2_isDrawn ∈ lw_all) (hR : 1 ≤ R.frames ∧ 21 ≤ R.locals) (hl : lv_has ls nL l') (hrest : (rest.map fun v => v.category).sum ≤ 8) (hdg : decode cc pc = .ok (.invokevirtual index, 3)) (hcs : cells ≤ R.cells ∧ slots ≤ R.slots)
    (kk : ∀ (H1 : Heap) (locs1 : List Loc), PW G (AC G) (XC G ns) sz M' s H1 → va_S (AC G) s.heap H1 locs1 → W p l e R s m args below meth c H1 locs1 cells slots Q (F0 m (pc + 3) ls (.int r :: rest))) : W p l e R s m args below meth c H locs cells slots Q (F0 m pc ls (.int x1 :: .ref (adC G g 10) :: rest)) := by
  obtain ⟨hx, hb, hr, hlocks, hml, hown, hts, hK⟩ := E
  obtain ⟨g0, rfl⟩ := pg_s hg
  exact kc_i (kc_runV (na := 1) (q := (RX2, TX2, 11)) hx hb hml hts hown hK hP (g0 + 1) 10 (dmP hg (by decide)) rfl rfl rfl (c_X2_isDrawn l hg hq) w1 w_423 w_424 w_4 w_425 (by decide +kernel) hR rfl hl rfl hrest hdg hcs) hS kk
/-! X7_distance -/
abbrev rm_X7_distance : Room := { frames := 1, cells := 0, slots := 0, locals := 33 }
def f_X7_distance (x0 : Int32) (x1 : Int32) (x2 : Int32) (x3 : Int32) (M : Mem) : Option (Int32 × Mem) :=
some ((mx (ab (x0 - x2)) (ab (x1 - x3))), M)
set_option maxHeartbeats 4000000 in
set_option maxRecDepth 100000 in
theorem w_X7_distance {p : Program} {l : Launch} {e : Env} {s : State} {m : MethodId} {args : Array Value} {below : List Frame} {meth : Method} {c : Code} {G : GG} {sz : Nat} {ns : Nat} {r : Int32} {M' : Mem} (E : Cx p s m args meth c cX7_distance (some .int) 4 RX7 G) {x0 : Int32} {x1 : Int32} {x2 : Int32} {x3 : Int32} {M : Mem} {H : Heap} {locs : List Loc} {ls : Array Slot} (hf : f_X7_distance x0 x1 x2 x3 M = some (r, M')) (hP : PW G (AC G) (XC G ns) sz M s H) (hS : va_S (AC G) s.heap H locs) (hl : lv_has ls 4 [(0, .int x0), (1, .int x1), (2, .int x2), (3, .int x3)]) : W p l e rm_X7_distance s m args below meth c H locs 0 0 (MQ below (va_Qi (fun (r2 : Int32) (_ : Unit) => r2 = r) (fun _ t => PW G (AC G) (XC G ns) sz M' t t.heap) (AC G)) args s 0 0 (AC G)) (F0 m 0 ls []) := by
  obtain ⟨hx, hb, hr, hlocks, hml, hown, hts, hK⟩ := id E
  unfold f_X7_distance at hf
  refine lv_iload_n hx hb dX7_distance_0 rfl (lv_at hl 0 rfl) ?_
  refine lv_iload_n hx hb dX7_distance_1 rfl (lv_at hl 2 rfl) ?_
  refine lv_isub hx hb dX7_distance_2 ?_
  refine va_mabs hx hb (hml.trans hl.1.symm) hown (hts _ w_347) (hts _ w_348) (hts _ w_9) (hts _ w_349) (Nat.le_of_ble_eq_true rfl) (Nat.le_of_ble_eq_true rfl) (Nat.le_of_ble_eq_true rfl) (Nat.le_of_ble_eq_true rfl) dX7_distance_3 ?_
  refine kr_nm (y := (ab (x0 - x2))) rfl ?_
  refine lv_iload_n hx hb dX7_distance_6 rfl (lv_at hl 1 rfl) ?_
  refine lv_iload_n hx hb dX7_distance_7 rfl (lv_at hl 3 rfl) ?_
  refine lv_isub hx hb dX7_distance_8 ?_
  refine va_mabs hx hb (hml.trans hl.1.symm) hown (hts _ w_347) (hts _ w_348) (hts _ w_9) (hts _ w_349) (Nat.le_of_ble_eq_true rfl) (Nat.le_of_ble_eq_true rfl) (Nat.le_of_ble_eq_true rfl) (Nat.le_of_ble_eq_true rfl) dX7_distance_9 ?_
  refine kr_nm (y := (ab (x1 - x3))) rfl ?_
  refine va_mmax hx hb (hml.trans hl.1.symm) hown (hts _ w_350) (hts _ w_351) (hts _ w_9) (hts _ w_352) (Nat.le_of_ble_eq_true rfl) (Nat.le_of_ble_eq_true rfl) (Nat.le_of_ble_eq_true rfl) (Nat.le_of_ble_eq_true rfl) dX7_distance_12 ?_
  refine kr_nm (y := (mx (ab (x0 - x2)) (ab (x1 - x3)))) rfl ?_
  exact en_i hf hx hb hr rfl hlocks hP hS dX7_distance_15
theorem c_X7_distance (l : Launch) {G : GG} {sz : Nat} {ns : Nat} {x0 : Int32} {x1 : Int32} {x2 : Int32} {x3 : Int32} {M : Mem} {r : Int32} {M' : Mem} (hf : f_X7_distance x0 x1 x2 x3 M = some (r, M')) : CtI l yX7_distance cX7_distance 4 (some .int) rm_X7_distance [.int x0, .int x1, .int x2, .int x3] G (AC G) (XC G ns) sz M r (XC G ns) sz M' := by
  refine Ct_of (by decide) (Nat.le_of_ble_eq_true rfl) (fun p e s m below meth c ls hx hb hr hlocks hml hown hts hK hP hl => ?_)
  exact w_X7_distance ⟨hx, hb, hr, hlocks, hml, hown, hts, hK⟩ hf hP va_S.rf hl
set_option maxRecDepth 100000 in
theorem cn_X7_distance {p : Program} {l : Launch} {e : Env} {R : Room} {s : State} {m : MethodId} {args : Array Value} {below : List Frame} {meth : Method} {c : Code} {H : Heap} {locs : List Loc} {cells slots : Nat} {Q : State → Prop} {cc : ByteArray} {pc nL index : Nat} {ret : Option FieldType} {own : String} {ls : Array Slot} {rest : List Value} {l' : List (Nat × Value)} {G : GG} {sz : Nat} {ns : Nat} {M : Mem} (E : Cx p s m args meth c cc ret nL own G) (hP : PW G (AC G) (XC G ns) sz M s H) (hS : va_S (AC G) s.heap H locs) {x0 : Int32} {x1 : Int32} {x2 : Int32} {x3 : Int32} {r : Int32} {M' : Mem} (hq : f_X7_distance x0 x1 x2 x3 M = some (r, M')) {host : String} (w1 : Cond.methodLinkNest own index yX7_distance host ∈ nwl) (hR : 2 ≤ R.frames ∧ 56 ≤ R.locals) (hl : lv_has ls nL l') (hrest : (rest.map fun v => v.category).sum ≤ 8) (hdg : decode cc pc = .ok (.invokestatic index, 3)) (hcs : cells ≤ R.cells ∧ slots ≤ R.slots)
    (kk : ∀ (H1 : Heap) (locs1 : List Loc), PW G (AC G) (XC G ns) sz M' s H1 → va_S (AC G) s.heap H1 locs1 → W p l e R s m args below meth c H1 locs1 cells slots Q (F0 m (pc + 3) ls (.int r :: rest))) : W p l e R s m args below meth c H locs cells slots Q (F0 m pc ls (.int x3 :: .int x2 :: .int x1 :: .int x0 :: rest)) := by
  obtain ⟨hx, hb, hr, hlocks, hml, hown, hts, hK⟩ := E
  exact kc_i (kc_runSN (na := 4) hx hb hml hts hown hK hP (c_X7_distance l hq) w1 w_345 w_1 w_346 (by decide +kernel) hR rfl hl rfl hrest hdg hcs) hS kk
/-! X2_spansMeet -/
abbrev rm_X2_spansMeet : Room := { frames := 1, cells := 0, slots := 0, locals := 33 }
def f_X2_spansMeet_b34 (s0 : Int32) (M : Mem) : Option (Int32 × Mem) :=
ck (bl s0) <|
some (s0, M)
def f_X2_spansMeet (x0 : Int32) (x1 : Int32) (x2 : Int32) (x3 : Int32) (M : Mem) : Option (Int32 × Mem) :=
(if (mn (mx x0 x1) (mx x2 x3)) < (mx (mn x0 x1) (mn x2 x3)) then
  f_X2_spansMeet_b34 0 M
else
  f_X2_spansMeet_b34 1 M)
set_option maxHeartbeats 4000000 in
set_option maxRecDepth 100000 in
theorem w_X2_spansMeet_b34 {p : Program} {l : Launch} {e : Env} {s : State} {m : MethodId} {args : Array Value} {below : List Frame} {meth : Method} {c : Code} {G : GG} {sz : Nat} {ns : Nat} {r : Int32} {M' : Mem} (E : Cx p s m args meth c cX2_spansMeet (some .boolean) 4 RX2 G) {s0 : Int32} {M : Mem} {H : Heap} {locs : List Loc} {ls : Array Slot} (hf : f_X2_spansMeet_b34 s0 M = some (r, M')) (hP : PW G (AC G) (XC G ns) sz M s H) (hS : va_S (AC G) s.heap H locs) (hl : lv_has ls 4 []) : W p l e rm_X2_spansMeet s m args below meth c H locs 0 0 (MQ below (va_Qi (fun (r2 : Int32) (_ : Unit) => r2 = r) (fun _ t => PW G (AC G) (XC G ns) sz M' t t.heap) (AC G)) args s 0 0 (AC G)) (F0 m 34 ls [.int s0]) := by
  obtain ⟨hx, hb, hr, hlocks, hml, hown, hts, hK⟩ := id E
  unfold f_X2_spansMeet_b34 at hf
  refine ck_e hf (fun hn hf => ?_)
  exact en_i hf hx hb hr (bl_nar hn) hlocks hP hS dX2_spansMeet_34
set_option maxHeartbeats 4000000 in
set_option maxRecDepth 100000 in
theorem w_X2_spansMeet {p : Program} {l : Launch} {e : Env} {s : State} {m : MethodId} {args : Array Value} {below : List Frame} {meth : Method} {c : Code} {G : GG} {sz : Nat} {ns : Nat} {r : Int32} {M' : Mem} (E : Cx p s m args meth c cX2_spansMeet (some .boolean) 4 RX2 G) {x0 : Int32} {x1 : Int32} {x2 : Int32} {x3 : Int32} {M : Mem} {H : Heap} {locs : List Loc} {ls : Array Slot} (hf : f_X2_spansMeet x0 x1 x2 x3 M = some (r, M')) (hP : PW G (AC G) (XC G ns) sz M s H) (hS : va_S (AC G) s.heap H locs) (hl : lv_has ls 4 [(0, .int x0), (1, .int x1), (2, .int x2), (3, .int x3)]) : W p l e rm_X2_spansMeet s m args below meth c H locs 0 0 (MQ below (va_Qi (fun (r2 : Int32) (_ : Unit) => r2 = r) (fun _ t => PW G (AC G) (XC G ns) sz M' t t.heap) (AC G)) args s 0 0 (AC G)) (F0 m 0 ls []) := by
  obtain ⟨hx, hb, hr, hlocks, hml, hown, hts, hK⟩ := id E
  unfold f_X2_spansMeet at hf
  refine lv_iload_n hx hb dX2_spansMeet_0 rfl (lv_at hl 0 rfl) ?_
  refine lv_iload_n hx hb dX2_spansMeet_1 rfl (lv_at hl 1 rfl) ?_
  refine va_mmin hx hb (hml.trans hl.1.symm) hown (hts _ w_364) (hts _ w_300) (hts _ w_9) (hts _ w_301) (Nat.le_of_ble_eq_true rfl) (Nat.le_of_ble_eq_true rfl) (Nat.le_of_ble_eq_true rfl) (Nat.le_of_ble_eq_true rfl) dX2_spansMeet_2 ?_
  refine kr_nm (y := (mn x0 x1)) rfl ?_
  refine lv_iload_n hx hb dX2_spansMeet_5 rfl (lv_at hl 2 rfl) ?_
  refine lv_iload_n hx hb dX2_spansMeet_6 rfl (lv_at hl 3 rfl) ?_
  refine va_mmin hx hb (hml.trans hl.1.symm) hown (hts _ w_364) (hts _ w_300) (hts _ w_9) (hts _ w_301) (Nat.le_of_ble_eq_true rfl) (Nat.le_of_ble_eq_true rfl) (Nat.le_of_ble_eq_true rfl) (Nat.le_of_ble_eq_true rfl) dX2_spansMeet_7 ?_
  refine kr_nm (y := (mn x2 x3)) rfl ?_
  refine va_mmax hx hb (hml.trans hl.1.symm) hown (hts _ w_365) (hts _ w_351) (hts _ w_9) (hts _ w_352) (Nat.le_of_ble_eq_true rfl) (Nat.le_of_ble_eq_true rfl) (Nat.le_of_ble_eq_true rfl) (Nat.le_of_ble_eq_true rfl) dX2_spansMeet_10 ?_
  refine kr_nm (y := (mx (mn x0 x1) (mn x2 x3))) rfl ?_
  refine lv_iload_n hx hb dX2_spansMeet_13 rfl (lv_at hl 0 rfl) ?_
  refine lv_iload_n hx hb dX2_spansMeet_14 rfl (lv_at hl 1 rfl) ?_
  refine va_mmax hx hb (hml.trans hl.1.symm) hown (hts _ w_365) (hts _ w_351) (hts _ w_9) (hts _ w_352) (Nat.le_of_ble_eq_true rfl) (Nat.le_of_ble_eq_true rfl) (Nat.le_of_ble_eq_true rfl) (Nat.le_of_ble_eq_true rfl) dX2_spansMeet_15 ?_
  refine kr_nm (y := (mx x0 x1)) rfl ?_
  refine lv_iload_n hx hb dX2_spansMeet_18 rfl (lv_at hl 2 rfl) ?_
  refine lv_iload_n hx hb dX2_spansMeet_19 rfl (lv_at hl 3 rfl) ?_
  refine va_mmax hx hb (hml.trans hl.1.symm) hown (hts _ w_365) (hts _ w_351) (hts _ w_9) (hts _ w_352) (Nat.le_of_ble_eq_true rfl) (Nat.le_of_ble_eq_true rfl) (Nat.le_of_ble_eq_true rfl) (Nat.le_of_ble_eq_true rfl) dX2_spansMeet_20 ?_
  refine kr_nm (y := (mx x2 x3)) rfl ?_
  refine va_mmin hx hb (hml.trans hl.1.symm) hown (hts _ w_364) (hts _ w_300) (hts _ w_9) (hts _ w_301) (Nat.le_of_ble_eq_true rfl) (Nat.le_of_ble_eq_true rfl) (Nat.le_of_ble_eq_true rfl) (Nat.le_of_ble_eq_true rfl) dX2_spansMeet_23 ?_
  refine kr_nm (y := (mn (mx x0 x1) (mx x2 x3))) rfl ?_
  refine lv_icmp_gt (tgt := 33) hx hb dX2_spansMeet_26 (by decide) (fun hc => ?_) (fun hc => ?_)
  · have hf := if_t hf hc
    refine lv_iconst (v := 0) hx hb dX2_spansMeet_33 (by decide) ?_
    exact w_X2_spansMeet_b34 E hf hP hS (lv_sub hl [] rfl)
  · have hf := if_f hf hc
    refine lv_iconst (v := 1) hx hb dX2_spansMeet_29 (by decide) ?_
    refine lv_goto (tgt := 34) hx hb dX2_spansMeet_30 (by decide) ?_
    exact w_X2_spansMeet_b34 E hf hP hS (lv_sub hl [] rfl)
theorem c_X2_spansMeet (l : Launch) {G : GG} {sz : Nat} {ns : Nat} {x0 : Int32} {x1 : Int32} {x2 : Int32} {x3 : Int32} {M : Mem} {r : Int32} {M' : Mem} (hf : f_X2_spansMeet x0 x1 x2 x3 M = some (r, M')) : CtI l yX2_spansMeet cX2_spansMeet 4 (some .boolean) rm_X2_spansMeet [.int x0, .int x1, .int x2, .int x3] G (AC G) (XC G ns) sz M r (XC G ns) sz M' := by
  refine Ct_of (by decide) (Nat.le_of_ble_eq_true rfl) (fun p e s m below meth c ls hx hb hr hlocks hml hown hts hK hP hl => ?_)
  exact w_X2_spansMeet ⟨hx, hb, hr, hlocks, hml, hown, hts, hK⟩ hf hP va_S.rf hl
set_option maxRecDepth 100000 in
theorem cv_X2_spansMeet {p : Program} {l : Launch} {e : Env} {R : Room} {s : State} {m : MethodId} {args : Array Value} {below : List Frame} {meth : Method} {c : Code} {H : Heap} {locs : List Loc} {cells slots : Nat} {Q : State → Prop} {cc : ByteArray} {pc nL index : Nat} {ret : Option FieldType} {own : String} {ls : Array Slot} {rest : List Value} {l' : List (Nat × Value)} {G : GG} {sz : Nat} {ns : Nat} {M : Mem} (E : Cx p s m args meth c cc ret nL own G) (hP : PW G (AC G) (XC G ns) sz M s H) (hS : va_S (AC G) s.heap H locs) {x0 : Int32} {x1 : Int32} {x2 : Int32} {x3 : Int32} {r : Int32} {M' : Mem} (hq : f_X2_spansMeet x0 x1 x2 x3 M = some (r, M')) (w1 : Cond.methodLink own index yX2_spansMeet ∈ lw_all) (hR : 2 ≤ R.frames ∧ 56 ≤ R.locals) (hl : lv_has ls nL l') (hrest : (rest.map fun v => v.category).sum ≤ 8) (hdg : decode cc pc = .ok (.invokestatic index, 3)) (hcs : cells ≤ R.cells ∧ slots ≤ R.slots)
    (kk : ∀ (H1 : Heap) (locs1 : List Loc), PW G (AC G) (XC G ns) sz M' s H1 → va_S (AC G) s.heap H1 locs1 → W p l e R s m args below meth c H1 locs1 cells slots Q (F0 m (pc + 3) ls (.int r :: rest))) : W p l e R s m args below meth c H locs cells slots Q (F0 m pc ls (.int x3 :: .int x2 :: .int x1 :: .int x0 :: rest)) := by
  obtain ⟨hx, hb, hr, hlocks, hml, hown, hts, hK⟩ := E
  exact kc_i (kc_runS (na := 4) hx hb hml hts hown hK hP (c_X2_spansMeet l hq) w1 w_362 w_4 w_363 (by decide +kernel) hR rfl hl rfl hrest hdg hcs) hS kk
/-! X2_reachesAcross -/
abbrev rm_X2_reachesAcross : Room := { frames := 0, cells := 0, slots := 0, locals := 0 }
def f_X2_reachesAcross_b110 (g : Nat) (s0 : Int32) (M : Mem) : Option (Int32 × Mem) :=
ck (bl s0) <|
some (s0, M)
def f_X2_reachesAcross (g : Nat) (x1 : Int32) (x2 : Int32) (M : Mem) : Option (Int32 × Mem) :=
ck (ibd x2 16) <|
ck (ibd x2 16) <|
lt (((M g 13 (ix x2)) - (M g 11 (ix x2)))) fun x3_13 =>
ck (ibd x2 16) <|
ck (ibd x2 16) <|
lt (((M g 14 (ix x2)) - (M g 12 (ix x2)))) fun x4_27 =>
ck (ibd x1 16) <|
ck (ibd x2 16) <|
ck (ibd x1 16) <|
ck (ibd x2 16) <|
lt (((x3_13 * ((M g 12 (ix x1)) - (M g 12 (ix x2)))) - (x4_27 * ((M g 11 (ix x1)) - (M g 11 (ix x2)))))) fun x5_61 =>
ck (ibd x1 16) <|
ck (ibd x2 16) <|
ck (ibd x1 16) <|
ck (ibd x2 16) <|
lt (((x3_13 * ((M g 14 (ix x1)) - (M g 12 (ix x2)))) - (x4_27 * ((M g 13 (ix x1)) - (M g 11 (ix x2)))))) fun x6_95 =>
(if 0 < (x5_61 * x6_95) then
  f_X2_reachesAcross_b110 g 0 M
else
  f_X2_reachesAcross_b110 g 1 M)
set_option maxHeartbeats 4000000 in
set_option maxRecDepth 100000 in
theorem w_X2_reachesAcross_b110 {p : Program} {l : Launch} {e : Env} {s : State} {m : MethodId} {args : Array Value} {below : List Frame} {meth : Method} {c : Code} {G : GG} {sz : Nat} {ns : Nat} {g : Nat} {r : Int32} {M' : Mem} (E : Cx p s m args meth c cX2_reachesAcross (some .boolean) 7 RX2 G) (hg : pg ns g) {s0 : Int32} {M : Mem} {H : Heap} {locs : List Loc} {ls : Array Slot} (hf : f_X2_reachesAcross_b110 g s0 M = some (r, M')) (hP : PW G (AC G) (XC G ns) sz M s H) (hS : va_S (AC G) s.heap H locs) (hl : lv_has ls 7 []) : W p l e rm_X2_reachesAcross s m args below meth c H locs 0 0 (MQ below (va_Qi (fun (r2 : Int32) (_ : Unit) => r2 = r) (fun _ t => PW G (AC G) (XC G ns) sz M' t t.heap) (AC G)) args s 0 0 (AC G)) (F0 m 110 ls [.int s0]) := by
  obtain ⟨hx, hb, hr, hlocks, hml, hown, hts, hK⟩ := id E
  unfold f_X2_reachesAcross_b110 at hf
  refine ck_e hf (fun hn hf => ?_)
  exact en_i hf hx hb hr (bl_nar hn) hlocks hP hS dX2_reachesAcross_110
set_option maxHeartbeats 4000000 in
set_option maxRecDepth 100000 in
theorem w_X2_reachesAcross {p : Program} {l : Launch} {e : Env} {s : State} {m : MethodId} {args : Array Value} {below : List Frame} {meth : Method} {c : Code} {G : GG} {sz : Nat} {ns : Nat} {g : Nat} {r : Int32} {M' : Mem} (E : Cx p s m args meth c cX2_reachesAcross (some .boolean) 7 RX2 G) (hg : pg ns g) {x1 : Int32} {x2 : Int32} {M : Mem} {H : Heap} {locs : List Loc} {ls : Array Slot} (hf : f_X2_reachesAcross g x1 x2 M = some (r, M')) (hP : PW G (AC G) (XC G ns) sz M s H) (hS : va_S (AC G) s.heap H locs) (hl : lv_has ls 7 [(0, .ref (adC G g 10)), (1, .int x1), (2, .int x2)]) : W p l e rm_X2_reachesAcross s m args below meth c H locs 0 0 (MQ below (va_Qi (fun (r2 : Int32) (_ : Unit) => r2 = r) (fun _ t => PW G (AC G) (XC G ns) sz M' t t.heap) (AC G)) args s 0 0 (AC G)) (F0 m 0 ls []) := by
  obtain ⟨hx, hb, hr, hlocks, hml, hown, hts, hK⟩ := id E
  unfold f_X2_reachesAcross at hf
  refine lv_aload_n hx hb dX2_reachesAcross_0 rfl (lv_at hl 0 rfl) ?_
  refine gf_X2_x2 E hP hg w_92 dX2_reachesAcross_1 ?_
  refine lv_iload_n hx hb dX2_reachesAcross_4 rfl (lv_at hl 2 rfl) ?_
  refine ck_e hf (fun hi hf => ?_)
  refine la_P13 E hP hg hi dX2_reachesAcross_5 ?_
  refine lv_aload_n hx hb dX2_reachesAcross_6 rfl (lv_at hl 0 rfl) ?_
  refine gf_X2_x E hP hg w_88 dX2_reachesAcross_7 ?_
  refine lv_iload_n hx hb dX2_reachesAcross_10 rfl (lv_at hl 2 rfl) ?_
  refine ck_e hf (fun hi hf => ?_)
  refine la_P11 E hP hg hi dX2_reachesAcross_11 ?_
  refine lv_isub hx hb dX2_reachesAcross_12 ?_
  refine lt_e hf (fun x3_13 hx3_13 hf => ?_)
  refine kr_nm hx3_13 ?_
  refine lv_istore_n (lv' := [(3, .int x3_13), (0, .ref (adC G g 10)), (1, .int x1), (2, .int x2)]) hx hb dX2_reachesAcross_13 rfl hl (by decide) rfl (fun ls hl => ?_)
  refine lv_aload_n hx hb dX2_reachesAcross_14 rfl (lv_at hl 1 rfl) ?_
  refine gf_X2_y2 E hP hg w_94 dX2_reachesAcross_15 ?_
  refine lv_iload_n hx hb dX2_reachesAcross_18 rfl (lv_at hl 3 rfl) ?_
  refine ck_e hf (fun hi hf => ?_)
  refine la_P14 E hP hg hi dX2_reachesAcross_19 ?_
  refine lv_aload_n hx hb dX2_reachesAcross_20 rfl (lv_at hl 1 rfl) ?_
  refine gf_X2_y E hP hg w_90 dX2_reachesAcross_21 ?_
  refine lv_iload_n hx hb dX2_reachesAcross_24 rfl (lv_at hl 3 rfl) ?_
  refine ck_e hf (fun hi hf => ?_)
  refine la_P12 E hP hg hi dX2_reachesAcross_25 ?_
  refine lv_isub hx hb dX2_reachesAcross_26 ?_
  refine lt_e hf (fun x4_27 hx4_27 hf => ?_)
  refine kr_nm hx4_27 ?_
  refine lv_istore (lv' := [(4, .int x4_27), (3, .int x3_13), (0, .ref (adC G g 10)), (1, .int x1), (2, .int x2)]) hx hb dX2_reachesAcross_27 hl (by decide) rfl (fun ls hl => ?_)
  refine lv_iload_n hx hb dX2_reachesAcross_29 rfl (lv_at hl 1 rfl) ?_
  refine lv_aload_n hx hb dX2_reachesAcross_30 rfl (lv_at hl 2 rfl) ?_
  refine gf_X2_y E hP hg w_90 dX2_reachesAcross_31 ?_
  refine lv_iload_n hx hb dX2_reachesAcross_34 rfl (lv_at hl 3 rfl) ?_
  refine ck_e hf (fun hi hf => ?_)
  refine la_P12 E hP hg hi dX2_reachesAcross_35 ?_
  refine lv_aload_n hx hb dX2_reachesAcross_36 rfl (lv_at hl 2 rfl) ?_
  refine gf_X2_y E hP hg w_90 dX2_reachesAcross_37 ?_
  refine lv_iload_n hx hb dX2_reachesAcross_40 rfl (lv_at hl 4 rfl) ?_
  refine ck_e hf (fun hi hf => ?_)
  refine la_P12 E hP hg hi dX2_reachesAcross_41 ?_
  refine lv_isub hx hb dX2_reachesAcross_42 ?_
  refine lv_imul hx hb dX2_reachesAcross_43 ?_
  refine lv_iload hx hb dX2_reachesAcross_44 (lv_at hl 0 rfl) ?_
  refine lv_aload_n hx hb dX2_reachesAcross_46 rfl (lv_at hl 2 rfl) ?_
  refine gf_X2_x E hP hg w_88 dX2_reachesAcross_47 ?_
  refine lv_iload_n hx hb dX2_reachesAcross_50 rfl (lv_at hl 3 rfl) ?_
  refine ck_e hf (fun hi hf => ?_)
  refine la_P11 E hP hg hi dX2_reachesAcross_51 ?_
  refine lv_aload_n hx hb dX2_reachesAcross_52 rfl (lv_at hl 2 rfl) ?_
  refine gf_X2_x E hP hg w_88 dX2_reachesAcross_53 ?_
  refine lv_iload_n hx hb dX2_reachesAcross_56 rfl (lv_at hl 4 rfl) ?_
  refine ck_e hf (fun hi hf => ?_)
  refine la_P11 E hP hg hi dX2_reachesAcross_57 ?_
  refine lv_isub hx hb dX2_reachesAcross_58 ?_
  refine lv_imul hx hb dX2_reachesAcross_59 ?_
  refine lv_isub hx hb dX2_reachesAcross_60 ?_
  refine lt_e hf (fun x5_61 hx5_61 hf => ?_)
  refine kr_nm hx5_61 ?_
  refine lv_istore (lv' := [(5, .int x5_61), (4, .int x4_27), (3, .int x3_13), (0, .ref (adC G g 10)), (1, .int x1), (2, .int x2)]) hx hb dX2_reachesAcross_61 hl (by decide) rfl (fun ls hl => ?_)
  refine lv_iload_n hx hb dX2_reachesAcross_63 rfl (lv_at hl 2 rfl) ?_
  refine lv_aload_n hx hb dX2_reachesAcross_64 rfl (lv_at hl 3 rfl) ?_
  refine gf_X2_y2 E hP hg w_94 dX2_reachesAcross_65 ?_
  refine lv_iload_n hx hb dX2_reachesAcross_68 rfl (lv_at hl 4 rfl) ?_
  refine ck_e hf (fun hi hf => ?_)
  refine la_P14 E hP hg hi dX2_reachesAcross_69 ?_
  refine lv_aload_n hx hb dX2_reachesAcross_70 rfl (lv_at hl 3 rfl) ?_
  refine gf_X2_y E hP hg w_90 dX2_reachesAcross_71 ?_
  refine lv_iload_n hx hb dX2_reachesAcross_74 rfl (lv_at hl 5 rfl) ?_
  refine ck_e hf (fun hi hf => ?_)
  refine la_P12 E hP hg hi dX2_reachesAcross_75 ?_
  refine lv_isub hx hb dX2_reachesAcross_76 ?_
  refine lv_imul hx hb dX2_reachesAcross_77 ?_
  refine lv_iload hx hb dX2_reachesAcross_78 (lv_at hl 1 rfl) ?_
  refine lv_aload_n hx hb dX2_reachesAcross_80 rfl (lv_at hl 3 rfl) ?_
  refine gf_X2_x2 E hP hg w_92 dX2_reachesAcross_81 ?_
  refine lv_iload_n hx hb dX2_reachesAcross_84 rfl (lv_at hl 4 rfl) ?_
  refine ck_e hf (fun hi hf => ?_)
  refine la_P13 E hP hg hi dX2_reachesAcross_85 ?_
  refine lv_aload_n hx hb dX2_reachesAcross_86 rfl (lv_at hl 3 rfl) ?_
  refine gf_X2_x E hP hg w_88 dX2_reachesAcross_87 ?_
  refine lv_iload_n hx hb dX2_reachesAcross_90 rfl (lv_at hl 5 rfl) ?_
  refine ck_e hf (fun hi hf => ?_)
  refine la_P11 E hP hg hi dX2_reachesAcross_91 ?_
  refine lv_isub hx hb dX2_reachesAcross_92 ?_
  refine lv_imul hx hb dX2_reachesAcross_93 ?_
  refine lv_isub hx hb dX2_reachesAcross_94 ?_
  refine lt_e hf (fun x6_95 hx6_95 hf => ?_)
  refine kr_nm hx6_95 ?_
  refine lv_istore (lv' := [(6, .int x6_95), (5, .int x5_61), (4, .int x4_27), (3, .int x3_13), (0, .ref (adC G g 10)), (1, .int x1), (2, .int x2)]) hx hb dX2_reachesAcross_95 hl (by decide) rfl (fun ls hl => ?_)
  refine lv_iload hx hb dX2_reachesAcross_97 (lv_at hl 1 rfl) ?_
  refine lv_iload hx hb dX2_reachesAcross_99 (lv_at hl 0 rfl) ?_
  refine lv_imul hx hb dX2_reachesAcross_101 ?_
  refine lv_if_gt (tgt := 109) hx hb dX2_reachesAcross_102 (by decide) (fun hc => ?_) (fun hc => ?_)
  · have hf := if_t hf hc
    refine lv_iconst (v := 0) hx hb dX2_reachesAcross_109 (by decide) ?_
    exact w_X2_reachesAcross_b110 E hg hf hP hS (lv_sub hl [] rfl)
  · have hf := if_f hf hc
    refine lv_iconst (v := 1) hx hb dX2_reachesAcross_105 (by decide) ?_
    refine lv_goto (tgt := 110) hx hb dX2_reachesAcross_106 (by decide) ?_
    exact w_X2_reachesAcross_b110 E hg hf hP hS (lv_sub hl [] rfl)
theorem c_X2_reachesAcross (l : Launch) {G : GG} {sz : Nat} {ns : Nat} {g : Nat} (hg : pg ns g) {x1 : Int32} {x2 : Int32} {M : Mem} {r : Int32} {M' : Mem} (hf : f_X2_reachesAcross g x1 x2 M = some (r, M')) : CtI l yX2_reachesAcross cX2_reachesAcross 7 (some .boolean) rm_X2_reachesAcross [.ref (adC G g 10), .int x1, .int x2] G (AC G) (XC G ns) sz M r (XC G ns) sz M' := by
  refine Ct_of (by decide) (Nat.le_of_ble_eq_true rfl) (fun p e s m below meth c ls hx hb hr hlocks hml hown hts hK hP hl => ?_)
  exact w_X2_reachesAcross ⟨hx, hb, hr, hlocks, hml, hown, hts, hK⟩ hg hf hP va_S.rf hl
set_option maxRecDepth 100000 in
theorem cv_X2_reachesAcross {p : Program} {l : Launch} {e : Env} {R : Room} {s : State} {m : MethodId} {args : Array Value} {below : List Frame} {meth : Method} {c : Code} {H : Heap} {locs : List Loc} {cells slots : Nat} {Q : State → Prop} {cc : ByteArray} {pc nL index : Nat} {ret : Option FieldType} {own : String} {ls : Array Slot} {rest : List Value} {l' : List (Nat × Value)} {G : GG} {sz : Nat} {ns : Nat} {g : Nat} {M : Mem} (E : Cx p s m args meth c cc ret nL own G) (hP : PW G (AC G) (XC G ns) sz M s H) (hS : va_S (AC G) s.heap H locs) (hg : pg ns g) {x1 : Int32} {x2 : Int32} {r : Int32} {M' : Mem} (hq : f_X2_reachesAcross g x1 x2 M = some (r, M')) (w1 : Cond.methodLink own index yX2_reachesAcross ∈ lw_all) (hR : 1 ≤ R.frames ∧ 26 ≤ R.locals) (hl : lv_has ls nL l') (hrest : (rest.map fun v => v.category).sum ≤ 8) (hdg : decode cc pc = .ok (.invokevirtual index, 3)) (hcs : cells ≤ R.cells ∧ slots ≤ R.slots)
    (kk : ∀ (H1 : Heap) (locs1 : List Loc), PW G (AC G) (XC G ns) sz M' s H1 → va_S (AC G) s.heap H1 locs1 → W p l e R s m args below meth c H1 locs1 cells slots Q (F0 m (pc + 3) ls (.int r :: rest))) : W p l e R s m args below meth c H locs cells slots Q (F0 m pc ls (.int x2 :: .int x1 :: .ref (adC G g 10) :: rest)) := by
  obtain ⟨hx, hb, hr, hlocks, hml, hown, hts, hK⟩ := E
  obtain ⟨g0, rfl⟩ := pg_s hg
  exact kc_i (kc_runV (na := 2) (q := (RX2, TX2, 11)) hx hb hml hts hown hK hP (g0 + 1) 10 (dmP hg (by decide)) rfl rfl rfl (c_X2_reachesAcross l hg hq) w1 w_368 ws_2 w_4 w_369 (by decide +kernel) hR rfl hl rfl hrest hdg hcs) hS kk
/-! X2_meet -/
abbrev rm_X2_meet : Room := { frames := 2, cells := 0, slots := 0, locals := 56 }
def f_X2_meet_b83 (g : Nat) (s0 : Int32) (M : Mem) : Option (Int32 × Mem) :=
ck (bl s0) <|
some (s0, M)
def f_X2_meet_b82 (g : Nat) (M : Mem) : Option (Int32 × Mem) :=
f_X2_meet_b83 g 0 M
def f_X2_meet (g : Nat) (x1 : Int32) (x2 : Int32) (M : Mem) : Option (Int32 × Mem) :=
ck (ibd x1 16) <|
ck (ibd x1 16) <|
ck (ibd x2 16) <|
ck (ibd x2 16) <|
ob (f_X2_spansMeet (M g 11 (ix x1)) (M g 13 (ix x1)) (M g 11 (ix x2)) (M g 13 (ix x2)) M) fun r_24 M_24 =>
(if r_24 = 0 then
  f_X2_meet_b82 g M_24
else
  ck (ibd x1 16) <|
  ck (ibd x1 16) <|
  ck (ibd x2 16) <|
  ck (ibd x2 16) <|
  ob (f_X2_spansMeet (M_24 g 12 (ix x1)) (M_24 g 14 (ix x1)) (M_24 g 12 (ix x2)) (M_24 g 14 (ix x2)) M_24) fun r_54 M_54 =>
  (if r_54 = 0 then
    f_X2_meet_b82 g M_54
  else
    ob (f_X2_reachesAcross g x1 x2 M_54) fun r_63 M_63 =>
    (if r_63 = 0 then
      f_X2_meet_b82 g M_63
    else
      ob (f_X2_reachesAcross g x2 x1 M_63) fun r_72 M_72 =>
      (if r_72 = 0 then
        f_X2_meet_b82 g M_72
      else
        f_X2_meet_b83 g 1 M_72))))
set_option maxHeartbeats 4000000 in
set_option maxRecDepth 100000 in
theorem w_X2_meet_b83 {p : Program} {l : Launch} {e : Env} {s : State} {m : MethodId} {args : Array Value} {below : List Frame} {meth : Method} {c : Code} {G : GG} {sz : Nat} {ns : Nat} {g : Nat} {r : Int32} {M' : Mem} (E : Cx p s m args meth c cX2_meet (some .boolean) 3 RX2 G) (hg : pg ns g) {s0 : Int32} {M : Mem} {H : Heap} {locs : List Loc} {ls : Array Slot} (hf : f_X2_meet_b83 g s0 M = some (r, M')) (hP : PW G (AC G) (XC G ns) sz M s H) (hS : va_S (AC G) s.heap H locs) (hl : lv_has ls 3 []) : W p l e rm_X2_meet s m args below meth c H locs 0 0 (MQ below (va_Qi (fun (r2 : Int32) (_ : Unit) => r2 = r) (fun _ t => PW G (AC G) (XC G ns) sz M' t t.heap) (AC G)) args s 0 0 (AC G)) (F0 m 83 ls [.int s0]) := by
  obtain ⟨hx, hb, hr, hlocks, hml, hown, hts, hK⟩ := id E
  unfold f_X2_meet_b83 at hf
  refine ck_e hf (fun hn hf => ?_)
  exact en_i hf hx hb hr (bl_nar hn) hlocks hP hS dX2_meet_83
set_option maxHeartbeats 4000000 in
set_option maxRecDepth 100000 in
theorem w_X2_meet_b82 {p : Program} {l : Launch} {e : Env} {s : State} {m : MethodId} {args : Array Value} {below : List Frame} {meth : Method} {c : Code} {G : GG} {sz : Nat} {ns : Nat} {g : Nat} {r : Int32} {M' : Mem} (E : Cx p s m args meth c cX2_meet (some .boolean) 3 RX2 G) (hg : pg ns g) {M : Mem} {H : Heap} {locs : List Loc} {ls : Array Slot} (hf : f_X2_meet_b82 g M = some (r, M')) (hP : PW G (AC G) (XC G ns) sz M s H) (hS : va_S (AC G) s.heap H locs) (hl : lv_has ls 3 []) : W p l e rm_X2_meet s m args below meth c H locs 0 0 (MQ below (va_Qi (fun (r2 : Int32) (_ : Unit) => r2 = r) (fun _ t => PW G (AC G) (XC G ns) sz M' t t.heap) (AC G)) args s 0 0 (AC G)) (F0 m 82 ls []) := by
  obtain ⟨hx, hb, hr, hlocks, hml, hown, hts, hK⟩ := id E
  unfold f_X2_meet_b82 at hf
  refine lv_iconst (v := 0) hx hb dX2_meet_82 (by decide) ?_
  exact w_X2_meet_b83 E hg hf hP hS (lv_sub hl [] rfl)
set_option maxHeartbeats 4000000 in
set_option maxRecDepth 100000 in
theorem w_X2_meet {p : Program} {l : Launch} {e : Env} {s : State} {m : MethodId} {args : Array Value} {below : List Frame} {meth : Method} {c : Code} {G : GG} {sz : Nat} {ns : Nat} {g : Nat} {r : Int32} {M' : Mem} (E : Cx p s m args meth c cX2_meet (some .boolean) 3 RX2 G) (hg : pg ns g) {x1 : Int32} {x2 : Int32} {M : Mem} {H : Heap} {locs : List Loc} {ls : Array Slot} (hf : f_X2_meet g x1 x2 M = some (r, M')) (hP : PW G (AC G) (XC G ns) sz M s H) (hS : va_S (AC G) s.heap H locs) (hl : lv_has ls 3 [(0, .ref (adC G g 10)), (1, .int x1), (2, .int x2)]) : W p l e rm_X2_meet s m args below meth c H locs 0 0 (MQ below (va_Qi (fun (r2 : Int32) (_ : Unit) => r2 = r) (fun _ t => PW G (AC G) (XC G ns) sz M' t t.heap) (AC G)) args s 0 0 (AC G)) (F0 m 0 ls []) := by
  obtain ⟨hx, hb, hr, hlocks, hml, hown, hts, hK⟩ := id E
  unfold f_X2_meet at hf
  refine lv_aload_n hx hb dX2_meet_0 rfl (lv_at hl 0 rfl) ?_
  refine gf_X2_x E hP hg w_88 dX2_meet_1 ?_
  refine lv_iload_n hx hb dX2_meet_4 rfl (lv_at hl 1 rfl) ?_
  refine ck_e hf (fun hi hf => ?_)
  refine la_P11 E hP hg hi dX2_meet_5 ?_
  refine lv_aload_n hx hb dX2_meet_6 rfl (lv_at hl 0 rfl) ?_
  refine gf_X2_x2 E hP hg w_92 dX2_meet_7 ?_
  refine lv_iload_n hx hb dX2_meet_10 rfl (lv_at hl 1 rfl) ?_
  refine ck_e hf (fun hi hf => ?_)
  refine la_P13 E hP hg hi dX2_meet_11 ?_
  refine lv_aload_n hx hb dX2_meet_12 rfl (lv_at hl 0 rfl) ?_
  refine gf_X2_x E hP hg w_88 dX2_meet_13 ?_
  refine lv_iload_n hx hb dX2_meet_16 rfl (lv_at hl 2 rfl) ?_
  refine ck_e hf (fun hi hf => ?_)
  refine la_P11 E hP hg hi dX2_meet_17 ?_
  refine lv_aload_n hx hb dX2_meet_18 rfl (lv_at hl 0 rfl) ?_
  refine gf_X2_x2 E hP hg w_92 dX2_meet_19 ?_
  refine lv_iload_n hx hb dX2_meet_22 rfl (lv_at hl 2 rfl) ?_
  refine ck_e hf (fun hi hf => ?_)
  refine la_P13 E hP hg hi dX2_meet_23 ?_
  refine ob_e hf (fun r_24 M_24 hq hf => ?_)
  refine cv_X2_spansMeet E hP hS hq w_361 ⟨Nat.le_of_ble_eq_true rfl, Nat.le_of_ble_eq_true rfl⟩ hl (Nat.le_of_ble_eq_true rfl) dX2_meet_24 ⟨Nat.le_of_ble_eq_true rfl, Nat.le_of_ble_eq_true rfl⟩ (fun H locs hP hS => ?_)
  refine lv_if_eq (tgt := 82) hx hb dX2_meet_27 (by decide) (fun hc => ?_) (fun hc => ?_)
  · have hf := if_t hf hc
    exact w_X2_meet_b82 E hg hf hP hS (lv_sub hl [] rfl)
  · have hf := if_f hf hc
    refine lv_aload_n hx hb dX2_meet_30 rfl (lv_at hl 0 rfl) ?_
    refine gf_X2_y E hP hg w_90 dX2_meet_31 ?_
    refine lv_iload_n hx hb dX2_meet_34 rfl (lv_at hl 1 rfl) ?_
    refine ck_e hf (fun hi hf => ?_)
    refine la_P12 E hP hg hi dX2_meet_35 ?_
    refine lv_aload_n hx hb dX2_meet_36 rfl (lv_at hl 0 rfl) ?_
    refine gf_X2_y2 E hP hg w_94 dX2_meet_37 ?_
    refine lv_iload_n hx hb dX2_meet_40 rfl (lv_at hl 1 rfl) ?_
    refine ck_e hf (fun hi hf => ?_)
    refine la_P14 E hP hg hi dX2_meet_41 ?_
    refine lv_aload_n hx hb dX2_meet_42 rfl (lv_at hl 0 rfl) ?_
    refine gf_X2_y E hP hg w_90 dX2_meet_43 ?_
    refine lv_iload_n hx hb dX2_meet_46 rfl (lv_at hl 2 rfl) ?_
    refine ck_e hf (fun hi hf => ?_)
    refine la_P12 E hP hg hi dX2_meet_47 ?_
    refine lv_aload_n hx hb dX2_meet_48 rfl (lv_at hl 0 rfl) ?_
    refine gf_X2_y2 E hP hg w_94 dX2_meet_49 ?_
    refine lv_iload_n hx hb dX2_meet_52 rfl (lv_at hl 2 rfl) ?_
    refine ck_e hf (fun hi hf => ?_)
    refine la_P14 E hP hg hi dX2_meet_53 ?_
    refine ob_e hf (fun r_54 M_54 hq hf => ?_)
    refine cv_X2_spansMeet E hP hS hq w_361 ⟨Nat.le_of_ble_eq_true rfl, Nat.le_of_ble_eq_true rfl⟩ hl (Nat.le_of_ble_eq_true rfl) dX2_meet_54 ⟨Nat.le_of_ble_eq_true rfl, Nat.le_of_ble_eq_true rfl⟩ (fun H locs hP hS => ?_)
    refine lv_if_eq (tgt := 82) hx hb dX2_meet_57 (by decide) (fun hc => ?_) (fun hc => ?_)
    · have hf := if_t hf hc
      exact w_X2_meet_b82 E hg hf hP hS (lv_sub hl [] rfl)
    · have hf := if_f hf hc
      refine lv_aload_n hx hb dX2_meet_60 rfl (lv_at hl 0 rfl) ?_
      refine lv_iload_n hx hb dX2_meet_61 rfl (lv_at hl 1 rfl) ?_
      refine lv_iload_n hx hb dX2_meet_62 rfl (lv_at hl 2 rfl) ?_
      refine ob_e hf (fun r_63 M_63 hq hf => ?_)
      refine cv_X2_reachesAcross E hP hS hg hq w_366 ⟨Nat.le_of_ble_eq_true rfl, Nat.le_of_ble_eq_true rfl⟩ hl (Nat.le_of_ble_eq_true rfl) dX2_meet_63 ⟨Nat.le_of_ble_eq_true rfl, Nat.le_of_ble_eq_true rfl⟩ (fun H locs hP hS => ?_)
      refine lv_if_eq (tgt := 82) hx hb dX2_meet_66 (by decide) (fun hc => ?_) (fun hc => ?_)
      · have hf := if_t hf hc
        exact w_X2_meet_b82 E hg hf hP hS (lv_sub hl [] rfl)
      · have hf := if_f hf hc
        refine lv_aload_n hx hb dX2_meet_69 rfl (lv_at hl 0 rfl) ?_
        refine lv_iload_n hx hb dX2_meet_70 rfl (lv_at hl 2 rfl) ?_
        refine lv_iload_n hx hb dX2_meet_71 rfl (lv_at hl 1 rfl) ?_
        refine ob_e hf (fun r_72 M_72 hq hf => ?_)
        refine cv_X2_reachesAcross E hP hS hg hq w_366 ⟨Nat.le_of_ble_eq_true rfl, Nat.le_of_ble_eq_true rfl⟩ hl (Nat.le_of_ble_eq_true rfl) dX2_meet_72 ⟨Nat.le_of_ble_eq_true rfl, Nat.le_of_ble_eq_true rfl⟩ (fun H locs hP hS => ?_)
        refine lv_if_eq (tgt := 82) hx hb dX2_meet_75 (by decide) (fun hc => ?_) (fun hc => ?_)
        · have hf := if_t hf hc
          exact w_X2_meet_b82 E hg hf hP hS (lv_sub hl [] rfl)
        · have hf := if_f hf hc
          refine lv_iconst (v := 1) hx hb dX2_meet_78 (by decide) ?_
          refine lv_goto (tgt := 83) hx hb dX2_meet_79 (by decide) ?_
          exact w_X2_meet_b83 E hg hf hP hS (lv_sub hl [] rfl)
theorem c_X2_meet (l : Launch) {G : GG} {sz : Nat} {ns : Nat} {g : Nat} (hg : pg ns g) {x1 : Int32} {x2 : Int32} {M : Mem} {r : Int32} {M' : Mem} (hf : f_X2_meet g x1 x2 M = some (r, M')) : CtI l yX2_meet cX2_meet 3 (some .boolean) rm_X2_meet [.ref (adC G g 10), .int x1, .int x2] G (AC G) (XC G ns) sz M r (XC G ns) sz M' := by
  refine Ct_of (by decide) (Nat.le_of_ble_eq_true rfl) (fun p e s m below meth c ls hx hb hr hlocks hml hown hts hK hP hl => ?_)
  exact w_X2_meet ⟨hx, hb, hr, hlocks, hml, hown, hts, hK⟩ hg hf hP va_S.rf hl
set_option maxRecDepth 100000 in
theorem cv_X2_meet {p : Program} {l : Launch} {e : Env} {R : Room} {s : State} {m : MethodId} {args : Array Value} {below : List Frame} {meth : Method} {c : Code} {H : Heap} {locs : List Loc} {cells slots : Nat} {Q : State → Prop} {cc : ByteArray} {pc nL index : Nat} {ret : Option FieldType} {own : String} {ls : Array Slot} {rest : List Value} {l' : List (Nat × Value)} {G : GG} {sz : Nat} {ns : Nat} {g : Nat} {M : Mem} (E : Cx p s m args meth c cc ret nL own G) (hP : PW G (AC G) (XC G ns) sz M s H) (hS : va_S (AC G) s.heap H locs) (hg : pg ns g) {x1 : Int32} {x2 : Int32} {r : Int32} {M' : Mem} (hq : f_X2_meet g x1 x2 M = some (r, M')) (w1 : Cond.methodLink own index yX2_meet ∈ lw_all) (hR : 3 ≤ R.frames ∧ 78 ≤ R.locals) (hl : lv_has ls nL l') (hrest : (rest.map fun v => v.category).sum ≤ 8) (hdg : decode cc pc = .ok (.invokevirtual index, 3)) (hcs : cells ≤ R.cells ∧ slots ≤ R.slots)
    (kk : ∀ (H1 : Heap) (locs1 : List Loc), PW G (AC G) (XC G ns) sz M' s H1 → va_S (AC G) s.heap H1 locs1 → W p l e R s m args below meth c H1 locs1 cells slots Q (F0 m (pc + 3) ls (.int r :: rest))) : W p l e R s m args below meth c H locs cells slots Q (F0 m pc ls (.int x2 :: .int x1 :: .ref (adC G g 10) :: rest)) := by
  obtain ⟨hx, hb, hr, hlocks, hml, hown, hts, hK⟩ := E
  obtain ⟨g0, rfl⟩ := pg_s hg
  exact kc_i (kc_runV (na := 2) (q := (RX2, TX2, 11)) hx hb hml hts hown hK hP (g0 + 1) 10 (dmP hg (by decide)) rfl rfl rfl (c_X2_meet l hg hq) w1 w_359 ws_1 w_4 w_360 (by decide +kernel) hR rfl hl rfl hrest hdg hcs) hS kk
/-! X2_noteTouching -/
abbrev rm_X2_noteTouching : Room := { frames := 3, cells := 0, slots := 0, locals := 78 }
def f_X2_noteTouching_b47 (g : Nat) (L9 : Int32 → Int32 → Mem → Option (Unit × Mem)) (x1 : Int32) (x2 : Int32) (M : Mem) : Option (Unit × Mem) :=
lt (x2 + 1) fun x2_47 =>
L9 x1 x2_47 M
def f_X2_noteTouching_b9 (g : Nat) : Nat → Int32 → Int32 → Mem → Option (Unit × Mem)
  | 0 => fun _ _ _ => none
  | fu + 1 => fun x1 x2 M =>
(if x1 ≤ x2 then
  some ((), M)
else
  ob (f_X2_meet g x1 x2 M) fun r_17 M_17 =>
  (if r_17 = 0 then
    f_X2_noteTouching_b47 g (f_X2_noteTouching_b9 g fu) x1 x2 M_17
  else
    ck (ibd x1 16) <|
    ck (ibd x1 16) <|
    lt (up3 M_17 g 16 (ix x1) ((M_17 g 16 (ix x1)) ||| (1 <<< (x2 &&& 31)))) fun M_34 =>
    ck (ibd x2 16) <|
    ck (ibd x2 16) <|
    lt (up3 M_34 g 16 (ix x2) ((M_34 g 16 (ix x2)) ||| (1 <<< (x1 &&& 31)))) fun M_46 =>
    f_X2_noteTouching_b47 g (f_X2_noteTouching_b9 g fu) x1 x2 M_46))
def f_X2_noteTouching (g : Nat) (x1 : Int32) (M : Mem) : Option (Unit × Mem) :=
ck (ibd x1 16) <|
lt (up3 M g 16 (ix x1) 0) fun M_6 =>
f_X2_noteTouching_b9 g 1000 x1 0 M_6
set_option maxHeartbeats 4000000 in
set_option maxRecDepth 100000 in
theorem w_X2_noteTouching_b47 {p : Program} {l : Launch} {e : Env} {s : State} {m : MethodId} {args : Array Value} {below : List Frame} {meth : Method} {c : Code} {G : GG} {sz : Nat} {ns : Nat} {g : Nat} {r : Unit} {M' : Mem} (E : Cx p s m args meth c cX2_noteTouching none 3 RX2 G) (hg : pg ns g) {L9 : Int32 → Int32 → Mem → Option (Unit × Mem)} (hL9 : ∀ (x1 : Int32) (x2 : Int32) (M : Mem) (H : Heap) (locs : List Loc) (ls : Array Slot), L9 x1 x2 M = some (r, M') → PW G (AC G) (XC G ns) sz M s H → va_S (AC G) s.heap H locs → lv_has ls 3 [(0, .ref (adC G g 10)), (1, .int x1), (2, .int x2)] → W p l e rm_X2_noteTouching s m args below meth c H locs 0 0 (MQ below (va_Qv (fun (_ : Unit) => True) (fun _ t => PW G (AC G) (XC G ns) sz M' t t.heap) (AC G)) args s 0 0 (AC G)) (F0 m 9 ls [])) {x1 : Int32} {x2 : Int32} {M : Mem} {H : Heap} {locs : List Loc} {ls : Array Slot} (hf : f_X2_noteTouching_b47 g L9 x1 x2 M = some (r, M')) (hP : PW G (AC G) (XC G ns) sz M s H) (hS : va_S (AC G) s.heap H locs) (hl : lv_has ls 3 [(0, .ref (adC G g 10)), (1, .int x1), (2, .int x2)]) : W p l e rm_X2_noteTouching s m args below meth c H locs 0 0 (MQ below (va_Qv (fun (_ : Unit) => True) (fun _ t => PW G (AC G) (XC G ns) sz M' t t.heap) (AC G)) args s 0 0 (AC G)) (F0 m 47 ls []) := by
  obtain ⟨hx, hb, hr, hlocks, hml, hown, hts, hK⟩ := id E
  unfold f_X2_noteTouching_b47 at hf
  refine lt_e hf (fun x2_47 hx2_47 hf => ?_)
  refine lv_iinc (v := x2_47) (lv' := [(2, .int x2_47), (0, .ref (adC G g 10)), (1, .int x1)]) hx hb dX2_noteTouching_47 hl (k := 2) rfl (by rw [hx2_47]; rfl) (by decide) rfl (fun ls hl => ?_)
  refine lv_goto (tgt := 9) hx hb dX2_noteTouching_50 (by decide) ?_
  exact hL9 _ _ _ _ _ _ hf hP hS (lv_sub hl [1, 2, 0] rfl)
set_option maxHeartbeats 4000000 in
set_option maxRecDepth 100000 in
theorem w_X2_noteTouching_b9 {p : Program} {l : Launch} {e : Env} {s : State} {m : MethodId} {args : Array Value} {below : List Frame} {meth : Method} {c : Code} {G : GG} {sz : Nat} {ns : Nat} {g : Nat} {r : Unit} {M' : Mem} (E : Cx p s m args meth c cX2_noteTouching none 3 RX2 G) (hg : pg ns g) : ∀ fu : Nat, ∀ (x1 : Int32) (x2 : Int32) (M : Mem) (H : Heap) (locs : List Loc) (ls : Array Slot), f_X2_noteTouching_b9 g fu x1 x2 M = some (r, M') → PW G (AC G) (XC G ns) sz M s H → va_S (AC G) s.heap H locs → lv_has ls 3 [(0, .ref (adC G g 10)), (1, .int x1), (2, .int x2)] → W p l e rm_X2_noteTouching s m args below meth c H locs 0 0 (MQ below (va_Qv (fun (_ : Unit) => True) (fun _ t => PW G (AC G) (XC G ns) sz M' t t.heap) (AC G)) args s 0 0 (AC G)) (F0 m 9 ls []) := by
  obtain ⟨hx, hb, hr, hlocks, hml, hown, hts, hK⟩ := id E
  intro fu
  induction fu with
  | zero => intro x1 x2 M H locs ls hf hP hS hl; cases hf
  | succ fu ih =>
    intro x1 x2 M H locs ls hf hP hS hl
    rw [f_X2_noteTouching_b9.eq_2] at hf
    refine lv_iload_n hx hb dX2_noteTouching_9 rfl (lv_at hl 2 rfl) ?_
    refine lv_iload_n hx hb dX2_noteTouching_10 rfl (lv_at hl 1 rfl) ?_
    refine lv_icmp_ge (tgt := 53) hx hb dX2_noteTouching_11 (by decide) (fun hc => ?_) (fun hc => ?_)
    · have hf := if_t hf hc
      exact en_v hf hx hb hr hlocks hP hS dX2_noteTouching_53
    · have hf := if_f hf hc
      refine lv_aload_n hx hb dX2_noteTouching_14 rfl (lv_at hl 0 rfl) ?_
      refine lv_iload_n hx hb dX2_noteTouching_15 rfl (lv_at hl 1 rfl) ?_
      refine lv_iload_n hx hb dX2_noteTouching_16 rfl (lv_at hl 2 rfl) ?_
      refine ob_e hf (fun r_17 M_17 hq hf => ?_)
      refine cv_X2_meet E hP hS hg hq w_357 ⟨Nat.le_of_ble_eq_true rfl, Nat.le_of_ble_eq_true rfl⟩ hl (Nat.le_of_ble_eq_true rfl) dX2_noteTouching_17 ⟨Nat.le_of_ble_eq_true rfl, Nat.le_of_ble_eq_true rfl⟩ (fun H locs hP hS => ?_)
      refine lv_if_eq (tgt := 47) hx hb dX2_noteTouching_20 (by decide) (fun hc => ?_) (fun hc => ?_)
      · have hf := if_t hf hc
        exact w_X2_noteTouching_b47 E hg ih hf hP hS (lv_sub hl [0, 1, 2] rfl)
      · have hf := if_f hf hc
        refine lv_aload_n hx hb dX2_noteTouching_23 rfl (lv_at hl 0 rfl) ?_
        refine gf_X2_touchingSet E hP hg w_99 dX2_noteTouching_24 ?_
        refine lv_iload_n hx hb dX2_noteTouching_27 rfl (lv_at hl 1 rfl) ?_
        refine lv_dup2_11 hx hb dX2_noteTouching_28 rfl rfl ?_
        refine ck_e hf (fun hi hf => ?_)
        refine la_P16 E hP hg hi dX2_noteTouching_29 ?_
        refine lv_iconst (v := 1) hx hb dX2_noteTouching_30 (by decide) ?_
        refine lv_iload_n hx hb dX2_noteTouching_31 rfl (lv_at hl 2 rfl) ?_
        refine lv_ishl hx hb dX2_noteTouching_32 ?_
        refine lv_ior hx hb dX2_noteTouching_33 ?_
        refine ck_e hf (fun hi hf => ?_)
        refine lt_e hf (fun M_34 hM_34 hf => ?_)
        refine sa_P16 E hP hS hg hi hM_34 dX2_noteTouching_34 (fun H locs hP hS => ?_)
        refine lv_aload_n hx hb dX2_noteTouching_35 rfl (lv_at hl 0 rfl) ?_
        refine gf_X2_touchingSet E hP hg w_99 dX2_noteTouching_36 ?_
        refine lv_iload_n hx hb dX2_noteTouching_39 rfl (lv_at hl 2 rfl) ?_
        refine lv_dup2_11 hx hb dX2_noteTouching_40 rfl rfl ?_
        refine ck_e hf (fun hi hf => ?_)
        refine la_P16 E hP hg hi dX2_noteTouching_41 ?_
        refine lv_iconst (v := 1) hx hb dX2_noteTouching_42 (by decide) ?_
        refine lv_iload_n hx hb dX2_noteTouching_43 rfl (lv_at hl 1 rfl) ?_
        refine lv_ishl hx hb dX2_noteTouching_44 ?_
        refine lv_ior hx hb dX2_noteTouching_45 ?_
        refine ck_e hf (fun hi hf => ?_)
        refine lt_e hf (fun M_46 hM_46 hf => ?_)
        refine sa_P16 E hP hS hg hi hM_46 dX2_noteTouching_46 (fun H locs hP hS => ?_)
        exact w_X2_noteTouching_b47 E hg ih hf hP hS (lv_sub hl [0, 1, 2] rfl)
set_option maxHeartbeats 4000000 in
set_option maxRecDepth 100000 in
theorem w_X2_noteTouching {p : Program} {l : Launch} {e : Env} {s : State} {m : MethodId} {args : Array Value} {below : List Frame} {meth : Method} {c : Code} {G : GG} {sz : Nat} {ns : Nat} {g : Nat} {r : Unit} {M' : Mem} (E : Cx p s m args meth c cX2_noteTouching none 3 RX2 G) (hg : pg ns g) {x1 : Int32} {M : Mem} {H : Heap} {locs : List Loc} {ls : Array Slot} (hf : f_X2_noteTouching g x1 M = some (r, M')) (hP : PW G (AC G) (XC G ns) sz M s H) (hS : va_S (AC G) s.heap H locs) (hl : lv_has ls 3 [(0, .ref (adC G g 10)), (1, .int x1)]) : W p l e rm_X2_noteTouching s m args below meth c H locs 0 0 (MQ below (va_Qv (fun (_ : Unit) => True) (fun _ t => PW G (AC G) (XC G ns) sz M' t t.heap) (AC G)) args s 0 0 (AC G)) (F0 m 0 ls []) := by
  obtain ⟨hx, hb, hr, hlocks, hml, hown, hts, hK⟩ := id E
  unfold f_X2_noteTouching at hf
  refine lv_aload_n hx hb dX2_noteTouching_0 rfl (lv_at hl 0 rfl) ?_
  refine gf_X2_touchingSet E hP hg w_99 dX2_noteTouching_1 ?_
  refine lv_iload_n hx hb dX2_noteTouching_4 rfl (lv_at hl 1 rfl) ?_
  refine lv_iconst (v := 0) hx hb dX2_noteTouching_5 (by decide) ?_
  refine ck_e hf (fun hi hf => ?_)
  refine lt_e hf (fun M_6 hM_6 hf => ?_)
  refine sa_P16 E hP hS hg hi hM_6 dX2_noteTouching_6 (fun H locs hP hS => ?_)
  refine lv_iconst (v := 0) hx hb dX2_noteTouching_7 (by decide) ?_
  refine lv_istore_n (lv' := [(2, .int 0), (0, .ref (adC G g 10)), (1, .int x1)]) hx hb dX2_noteTouching_8 rfl hl (by decide) rfl (fun ls hl => ?_)
  exact w_X2_noteTouching_b9 E hg 1000 _ _ _ _ _ _ hf hP hS (lv_sub hl [1, 2, 0] rfl)
theorem c_X2_noteTouching (l : Launch) {G : GG} {sz : Nat} {ns : Nat} {g : Nat} (hg : pg ns g) {x1 : Int32} {M : Mem} {r : Unit} {M' : Mem} (hf : f_X2_noteTouching g x1 M = some (r, M')) : CtV l yX2_noteTouching cX2_noteTouching 3 none rm_X2_noteTouching [.ref (adC G g 10), .int x1] G (AC G) (XC G ns) sz M r (XC G ns) sz M' := by
  refine Ct_of (by decide) (Nat.le_of_ble_eq_true rfl) (fun p e s m below meth c ls hx hb hr hlocks hml hown hts hK hP hl => ?_)
  exact w_X2_noteTouching ⟨hx, hb, hr, hlocks, hml, hown, hts, hK⟩ hg hf hP va_S.rf hl
set_option maxRecDepth 100000 in
theorem cv_X2_noteTouching {p : Program} {l : Launch} {e : Env} {R : Room} {s : State} {m : MethodId} {args : Array Value} {below : List Frame} {meth : Method} {c : Code} {H : Heap} {locs : List Loc} {cells slots : Nat} {Q : State → Prop} {cc : ByteArray} {pc nL index : Nat} {ret : Option FieldType} {own : String} {ls : Array Slot} {rest : List Value} {l' : List (Nat × Value)} {G : GG} {sz : Nat} {ns : Nat} {g : Nat} {M : Mem} (E : Cx p s m args meth c cc ret nL own G) (hP : PW G (AC G) (XC G ns) sz M s H) (hS : va_S (AC G) s.heap H locs) (hg : pg ns g) {x1 : Int32} {r : Unit} {M' : Mem} (hq : f_X2_noteTouching g x1 M = some (r, M')) (w1 : Cond.methodLink own index yX2_noteTouching ∈ lw_all) (hR : 4 ≤ R.frames ∧ 100 ≤ R.locals) (hl : lv_has ls nL l') (hrest : (rest.map fun v => v.category).sum ≤ 8) (hdg : decode cc pc = .ok (.invokevirtual index, 3)) (hcs : cells ≤ R.cells ∧ slots ≤ R.slots)
    (kk : ∀ (H1 : Heap) (locs1 : List Loc), PW G (AC G) (XC G ns) sz M' s H1 → va_S (AC G) s.heap H1 locs1 → W p l e R s m args below meth c H1 locs1 cells slots Q (F0 m (pc + 3) ls (rest))) : W p l e R s m args below meth c H locs cells slots Q (F0 m pc ls (.int x1 :: .ref (adC G g 10) :: rest)) := by
  obtain ⟨hx, hb, hr, hlocks, hml, hown, hts, hK⟩ := E
  obtain ⟨g0, rfl⟩ := pg_s hg
  exact kc_v (kc_runV (na := 1) (q := (RX2, TX2, 11)) hx hb hml hts hown hK hP (g0 + 1) 10 (dmP hg (by decide)) rfl rfl rfl (c_X2_noteTouching l hg hq) w1 w_355 ws_0 w_4 w_356 (by decide +kernel) hR rfl hl rfl hrest hdg hcs) hS kk
/-! X2_add -/
abbrev rm_X2_add : Room := { frames := 4, cells := 0, slots := 0, locals := 100 }
def f_X2_add (g : Nat) (x1 : Int32) (x2 : Int32) (x3 : Int32) (x4 : Int32) (M : Mem) : Option (Int32 × Mem) :=
lt ((M g 10 0)) fun x5_4 =>
ck (ibd x5_4 16) <|
lt (up3 M g 11 (ix x5_4) x1) fun M_13 =>
ck (ibd x5_4 16) <|
lt (up3 M_13 g 12 (ix x5_4) x2) fun M_21 =>
ck (ibd x5_4 16) <|
lt (up3 M_21 g 13 (ix x5_4) x3) fun M_29 =>
ck (ibd x5_4 16) <|
lt (up3 M_29 g 14 (ix x5_4) x4) fun M_38 =>
ob (f_X7_distance x1 x2 x3 x4 M_38) fun r_50 M_50 =>
ck (ibd x5_4 16) <|
lt (up3 M_50 g 15 (ix x5_4) r_50) fun M_53 =>
ck (ibd x5_4 16) <|
lt (up3 M_53 g 17 (ix x5_4) (-1)) fun M_61 =>
ob (f_X2_noteTouching g x5_4 M_61) fun _ M_65 =>
lt (up3 M_65 g 10 0 ((M_65 g 10 0) + 1)) fun M_75 =>
some (x5_4, M_75)
set_option maxHeartbeats 4000000 in
set_option maxRecDepth 100000 in
theorem w_X2_add {p : Program} {l : Launch} {e : Env} {s : State} {m : MethodId} {args : Array Value} {below : List Frame} {meth : Method} {c : Code} {G : GG} {sz : Nat} {ns : Nat} {g : Nat} {r : Int32} {M' : Mem} (E : Cx p s m args meth c cX2_add (some .int) 6 RX2 G) (hg : pg ns g) {x1 : Int32} {x2 : Int32} {x3 : Int32} {x4 : Int32} {M : Mem} {H : Heap} {locs : List Loc} {ls : Array Slot} (hf : f_X2_add g x1 x2 x3 x4 M = some (r, M')) (hP : PW G (AC G) (XC G ns) sz M s H) (hS : va_S (AC G) s.heap H locs) (hl : lv_has ls 6 [(0, .ref (adC G g 10)), (1, .int x1), (2, .int x2), (3, .int x3), (4, .int x4)]) : W p l e rm_X2_add s m args below meth c H locs 0 0 (MQ below (va_Qi (fun (r2 : Int32) (_ : Unit) => r2 = r) (fun _ t => PW G (AC G) (XC G ns) sz M' t t.heap) (AC G)) args s 0 0 (AC G)) (F0 m 0 ls []) := by
  obtain ⟨hx, hb, hr, hlocks, hml, hown, hts, hK⟩ := id E
  unfold f_X2_add at hf
  refine lv_aload_n hx hb dX2_add_0 rfl (lv_at hl 0 rfl) ?_
  refine gf_X2_many E hP hg w_85 dX2_add_1 ?_
  refine lt_e hf (fun x5_4 hx5_4 hf => ?_)
  refine kr_nm hx5_4 ?_
  refine lv_istore (lv' := [(5, .int x5_4), (0, .ref (adC G g 10)), (1, .int x1), (2, .int x2), (3, .int x3), (4, .int x4)]) hx hb dX2_add_4 hl (by decide) rfl (fun ls hl => ?_)
  refine lv_aload_n hx hb dX2_add_6 rfl (lv_at hl 1 rfl) ?_
  refine gf_X2_x E hP hg w_88 dX2_add_7 ?_
  refine lv_iload hx hb dX2_add_10 (lv_at hl 0 rfl) ?_
  refine lv_iload_n hx hb dX2_add_12 rfl (lv_at hl 2 rfl) ?_
  refine ck_e hf (fun hi hf => ?_)
  refine lt_e hf (fun M_13 hM_13 hf => ?_)
  refine sa_P11 E hP hS hg hi hM_13 dX2_add_13 (fun H locs hP hS => ?_)
  refine lv_aload_n hx hb dX2_add_14 rfl (lv_at hl 1 rfl) ?_
  refine gf_X2_y E hP hg w_90 dX2_add_15 ?_
  refine lv_iload hx hb dX2_add_18 (lv_at hl 0 rfl) ?_
  refine lv_iload_n hx hb dX2_add_20 rfl (lv_at hl 3 rfl) ?_
  refine ck_e hf (fun hi hf => ?_)
  refine lt_e hf (fun M_21 hM_21 hf => ?_)
  refine sa_P12 E hP hS hg hi hM_21 dX2_add_21 (fun H locs hP hS => ?_)
  refine lv_aload_n hx hb dX2_add_22 rfl (lv_at hl 1 rfl) ?_
  refine gf_X2_x2 E hP hg w_92 dX2_add_23 ?_
  refine lv_iload hx hb dX2_add_26 (lv_at hl 0 rfl) ?_
  refine lv_iload_n hx hb dX2_add_28 rfl (lv_at hl 4 rfl) ?_
  refine ck_e hf (fun hi hf => ?_)
  refine lt_e hf (fun M_29 hM_29 hf => ?_)
  refine sa_P13 E hP hS hg hi hM_29 dX2_add_29 (fun H locs hP hS => ?_)
  refine lv_aload_n hx hb dX2_add_30 rfl (lv_at hl 1 rfl) ?_
  refine gf_X2_y2 E hP hg w_94 dX2_add_31 ?_
  refine lv_iload hx hb dX2_add_34 (lv_at hl 0 rfl) ?_
  refine lv_iload hx hb dX2_add_36 (lv_at hl 5 rfl) ?_
  refine ck_e hf (fun hi hf => ?_)
  refine lt_e hf (fun M_38 hM_38 hf => ?_)
  refine sa_P14 E hP hS hg hi hM_38 dX2_add_38 (fun H locs hP hS => ?_)
  refine lv_aload_n hx hb dX2_add_39 rfl (lv_at hl 1 rfl) ?_
  refine gf_X2_length E hP hg w_96 dX2_add_40 ?_
  refine lv_iload hx hb dX2_add_43 (lv_at hl 0 rfl) ?_
  refine lv_iload_n hx hb dX2_add_45 rfl (lv_at hl 2 rfl) ?_
  refine lv_iload_n hx hb dX2_add_46 rfl (lv_at hl 3 rfl) ?_
  refine lv_iload_n hx hb dX2_add_47 rfl (lv_at hl 4 rfl) ?_
  refine lv_iload hx hb dX2_add_48 (lv_at hl 5 rfl) ?_
  refine ob_e hf (fun r_50 M_50 hq hf => ?_)
  refine cn_X7_distance E hP hS hq w_344 ⟨Nat.le_of_ble_eq_true rfl, Nat.le_of_ble_eq_true rfl⟩ hl (Nat.le_of_ble_eq_true rfl) dX2_add_50 ⟨Nat.le_of_ble_eq_true rfl, Nat.le_of_ble_eq_true rfl⟩ (fun H locs hP hS => ?_)
  refine ck_e hf (fun hi hf => ?_)
  refine lt_e hf (fun M_53 hM_53 hf => ?_)
  refine sa_P15 E hP hS hg hi hM_53 dX2_add_53 (fun H locs hP hS => ?_)
  refine lv_aload_n hx hb dX2_add_54 rfl (lv_at hl 1 rfl) ?_
  refine gf_X2_drawnBy E hP hg w_101 dX2_add_55 ?_
  refine lv_iload hx hb dX2_add_58 (lv_at hl 0 rfl) ?_
  refine lv_iconst (v := (-1)) hx hb dX2_add_60 (by decide) ?_
  refine ck_e hf (fun hi hf => ?_)
  refine lt_e hf (fun M_61 hM_61 hf => ?_)
  refine sa_P17 E hP hS hg hi hM_61 dX2_add_61 (fun H locs hP hS => ?_)
  refine lv_aload_n hx hb dX2_add_62 rfl (lv_at hl 1 rfl) ?_
  refine lv_iload hx hb dX2_add_63 (lv_at hl 0 rfl) ?_
  refine ob_e hf (fun r_65 M_65 hq hf => ?_)
  refine cv_X2_noteTouching E hP hS hg hq w_353 ⟨Nat.le_of_ble_eq_true rfl, Nat.le_of_ble_eq_true rfl⟩ hl (Nat.le_of_ble_eq_true rfl) dX2_add_65 ⟨Nat.le_of_ble_eq_true rfl, Nat.le_of_ble_eq_true rfl⟩ (fun H locs hP hS => ?_)
  refine lv_aload_n hx hb dX2_add_68 rfl (lv_at hl 1 rfl) ?_
  refine lv_dup hx hb dX2_add_69 rfl ?_
  refine gf_X2_many E hP hg w_85 dX2_add_70 ?_
  refine lv_iconst (v := 1) hx hb dX2_add_73 (by decide) ?_
  refine lv_iadd hx hb dX2_add_74 ?_
  refine lt_e hf (fun M_75 hM_75 hf => ?_)
  refine pf_X2_many E hP hS hg hM_75 w_85 dX2_add_75 (fun H locs hP hS => ?_)
  refine lv_iload hx hb dX2_add_78 (lv_at hl 0 rfl) ?_
  exact en_i hf hx hb hr rfl hlocks hP hS dX2_add_80
theorem c_X2_add (l : Launch) {G : GG} {sz : Nat} {ns : Nat} {g : Nat} (hg : pg ns g) {x1 : Int32} {x2 : Int32} {x3 : Int32} {x4 : Int32} {M : Mem} {r : Int32} {M' : Mem} (hf : f_X2_add g x1 x2 x3 x4 M = some (r, M')) : CtI l yX2_add cX2_add 6 (some .int) rm_X2_add [.ref (adC G g 10), .int x1, .int x2, .int x3, .int x4] G (AC G) (XC G ns) sz M r (XC G ns) sz M' := by
  refine Ct_of (by decide) (Nat.le_of_ble_eq_true rfl) (fun p e s m below meth c ls hx hb hr hlocks hml hown hts hK hP hl => ?_)
  exact w_X2_add ⟨hx, hb, hr, hlocks, hml, hown, hts, hK⟩ hg hf hP va_S.rf hl
set_option maxRecDepth 100000 in
theorem cv_X2_add {p : Program} {l : Launch} {e : Env} {R : Room} {s : State} {m : MethodId} {args : Array Value} {below : List Frame} {meth : Method} {c : Code} {H : Heap} {locs : List Loc} {cells slots : Nat} {Q : State → Prop} {cc : ByteArray} {pc nL index : Nat} {ret : Option FieldType} {own : String} {ls : Array Slot} {rest : List Value} {l' : List (Nat × Value)} {G : GG} {sz : Nat} {ns : Nat} {g : Nat} {M : Mem} (E : Cx p s m args meth c cc ret nL own G) (hP : PW G (AC G) (XC G ns) sz M s H) (hS : va_S (AC G) s.heap H locs) (hg : pg ns g) {x1 : Int32} {x2 : Int32} {x3 : Int32} {x4 : Int32} {r : Int32} {M' : Mem} (hq : f_X2_add g x1 x2 x3 x4 M = some (r, M')) (w1 : Cond.methodLink own index yX2_add ∈ lw_all) (hR : 5 ≤ R.frames ∧ 125 ≤ R.locals) (hl : lv_has ls nL l') (hrest : (rest.map fun v => v.category).sum ≤ 8) (hdg : decode cc pc = .ok (.invokevirtual index, 3)) (hcs : cells ≤ R.cells ∧ slots ≤ R.slots)
    (kk : ∀ (H1 : Heap) (locs1 : List Loc), PW G (AC G) (XC G ns) sz M' s H1 → va_S (AC G) s.heap H1 locs1 → W p l e R s m args below meth c H1 locs1 cells slots Q (F0 m (pc + 3) ls (.int r :: rest))) : W p l e R s m args below meth c H locs cells slots Q (F0 m pc ls (.int x4 :: .int x3 :: .int x2 :: .int x1 :: .ref (adC G g 10) :: rest)) := by
  obtain ⟨hx, hb, hr, hlocks, hml, hown, hts, hK⟩ := E
  obtain ⟨g0, rfl⟩ := pg_s hg
  exact kc_i (kc_runV (na := 4) (q := (RX2, TX2, 11)) hx hb hml hts hown hK hP (g0 + 1) 10 (dmP hg (by decide)) rfl rfl rfl (c_X2_add l hg hq) w1 w_341 w_342 w_4 w_343 (by decide +kernel) hR rfl hl rfl hrest hdg hcs) hS kk
/-! X2_isTouching -/
abbrev rm_X2_isTouching : Room := { frames := 0, cells := 0, slots := 0, locals := 0 }
def f_X2_isTouching_b18 (g : Nat) (s0 : Int32) (M : Mem) : Option (Int32 × Mem) :=
ck (bl s0) <|
some (s0, M)
def f_X2_isTouching (g : Nat) (x1 : Int32) (x2 : Int32) (M : Mem) : Option (Int32 × Mem) :=
ck (ibd x1 16) <|
(if ((M g 16 (ix x1)) &&& (1 <<< (x2 &&& 31))) = 0 then
  f_X2_isTouching_b18 g 0 M
else
  f_X2_isTouching_b18 g 1 M)
set_option maxHeartbeats 4000000 in
set_option maxRecDepth 100000 in
theorem w_X2_isTouching_b18 {p : Program} {l : Launch} {e : Env} {s : State} {m : MethodId} {args : Array Value} {below : List Frame} {meth : Method} {c : Code} {G : GG} {sz : Nat} {ns : Nat} {g : Nat} {r : Int32} {M' : Mem} (E : Cx p s m args meth c cX2_isTouching (some .boolean) 3 RX2 G) (hg : pg ns g) {s0 : Int32} {M : Mem} {H : Heap} {locs : List Loc} {ls : Array Slot} (hf : f_X2_isTouching_b18 g s0 M = some (r, M')) (hP : PW G (AC G) (XC G ns) sz M s H) (hS : va_S (AC G) s.heap H locs) (hl : lv_has ls 3 []) : W p l e rm_X2_isTouching s m args below meth c H locs 0 0 (MQ below (va_Qi (fun (r2 : Int32) (_ : Unit) => r2 = r) (fun _ t => PW G (AC G) (XC G ns) sz M' t t.heap) (AC G)) args s 0 0 (AC G)) (F0 m 18 ls [.int s0]) := by
  obtain ⟨hx, hb, hr, hlocks, hml, hown, hts, hK⟩ := id E
  unfold f_X2_isTouching_b18 at hf
  refine ck_e hf (fun hn hf => ?_)
  exact en_i hf hx hb hr (bl_nar hn) hlocks hP hS dX2_isTouching_18
set_option maxHeartbeats 4000000 in
set_option maxRecDepth 100000 in
theorem w_X2_isTouching {p : Program} {l : Launch} {e : Env} {s : State} {m : MethodId} {args : Array Value} {below : List Frame} {meth : Method} {c : Code} {G : GG} {sz : Nat} {ns : Nat} {g : Nat} {r : Int32} {M' : Mem} (E : Cx p s m args meth c cX2_isTouching (some .boolean) 3 RX2 G) (hg : pg ns g) {x1 : Int32} {x2 : Int32} {M : Mem} {H : Heap} {locs : List Loc} {ls : Array Slot} (hf : f_X2_isTouching g x1 x2 M = some (r, M')) (hP : PW G (AC G) (XC G ns) sz M s H) (hS : va_S (AC G) s.heap H locs) (hl : lv_has ls 3 [(0, .ref (adC G g 10)), (1, .int x1), (2, .int x2)]) : W p l e rm_X2_isTouching s m args below meth c H locs 0 0 (MQ below (va_Qi (fun (r2 : Int32) (_ : Unit) => r2 = r) (fun _ t => PW G (AC G) (XC G ns) sz M' t t.heap) (AC G)) args s 0 0 (AC G)) (F0 m 0 ls []) := by
  obtain ⟨hx, hb, hr, hlocks, hml, hown, hts, hK⟩ := id E
  unfold f_X2_isTouching at hf
  refine lv_aload_n hx hb dX2_isTouching_0 rfl (lv_at hl 0 rfl) ?_
  refine gf_X2_touchingSet E hP hg w_99 dX2_isTouching_1 ?_
  refine lv_iload_n hx hb dX2_isTouching_4 rfl (lv_at hl 1 rfl) ?_
  refine ck_e hf (fun hi hf => ?_)
  refine la_P16 E hP hg hi dX2_isTouching_5 ?_
  refine lv_iconst (v := 1) hx hb dX2_isTouching_6 (by decide) ?_
  refine lv_iload_n hx hb dX2_isTouching_7 rfl (lv_at hl 2 rfl) ?_
  refine lv_ishl hx hb dX2_isTouching_8 ?_
  refine lv_iand hx hb dX2_isTouching_9 ?_
  refine lv_if_eq (tgt := 17) hx hb dX2_isTouching_10 (by decide) (fun hc => ?_) (fun hc => ?_)
  · have hf := if_t hf hc
    refine lv_iconst (v := 0) hx hb dX2_isTouching_17 (by decide) ?_
    exact w_X2_isTouching_b18 E hg hf hP hS (lv_sub hl [] rfl)
  · have hf := if_f hf hc
    refine lv_iconst (v := 1) hx hb dX2_isTouching_13 (by decide) ?_
    refine lv_goto (tgt := 18) hx hb dX2_isTouching_14 (by decide) ?_
    exact w_X2_isTouching_b18 E hg hf hP hS (lv_sub hl [] rfl)
theorem c_X2_isTouching (l : Launch) {G : GG} {sz : Nat} {ns : Nat} {g : Nat} (hg : pg ns g) {x1 : Int32} {x2 : Int32} {M : Mem} {r : Int32} {M' : Mem} (hf : f_X2_isTouching g x1 x2 M = some (r, M')) : CtI l yX2_isTouching cX2_isTouching 3 (some .boolean) rm_X2_isTouching [.ref (adC G g 10), .int x1, .int x2] G (AC G) (XC G ns) sz M r (XC G ns) sz M' := by
  refine Ct_of (by decide) (Nat.le_of_ble_eq_true rfl) (fun p e s m below meth c ls hx hb hr hlocks hml hown hts hK hP hl => ?_)
  exact w_X2_isTouching ⟨hx, hb, hr, hlocks, hml, hown, hts, hK⟩ hg hf hP va_S.rf hl
set_option maxRecDepth 100000 in
theorem cv_X2_isTouching {p : Program} {l : Launch} {e : Env} {R : Room} {s : State} {m : MethodId} {args : Array Value} {below : List Frame} {meth : Method} {c : Code} {H : Heap} {locs : List Loc} {cells slots : Nat} {Q : State → Prop} {cc : ByteArray} {pc nL index : Nat} {ret : Option FieldType} {own : String} {ls : Array Slot} {rest : List Value} {l' : List (Nat × Value)} {G : GG} {sz : Nat} {ns : Nat} {g : Nat} {M : Mem} (E : Cx p s m args meth c cc ret nL own G) (hP : PW G (AC G) (XC G ns) sz M s H) (hS : va_S (AC G) s.heap H locs) (hg : pg ns g) {x1 : Int32} {x2 : Int32} {r : Int32} {M' : Mem} (hq : f_X2_isTouching g x1 x2 M = some (r, M')) (w1 : Cond.methodLink own index yX2_isTouching ∈ lw_all) (hR : 1 ≤ R.frames ∧ 22 ≤ R.locals) (hl : lv_has ls nL l') (hrest : (rest.map fun v => v.category).sum ≤ 8) (hdg : decode cc pc = .ok (.invokevirtual index, 3)) (hcs : cells ≤ R.cells ∧ slots ≤ R.slots)
    (kk : ∀ (H1 : Heap) (locs1 : List Loc), PW G (AC G) (XC G ns) sz M' s H1 → va_S (AC G) s.heap H1 locs1 → W p l e R s m args below meth c H1 locs1 cells slots Q (F0 m (pc + 3) ls (.int r :: rest))) : W p l e R s m args below meth c H locs cells slots Q (F0 m pc ls (.int x2 :: .int x1 :: .ref (adC G g 10) :: rest)) := by
  obtain ⟨hx, hb, hr, hlocks, hml, hown, hts, hK⟩ := E
  obtain ⟨g0, rfl⟩ := pg_s hg
  exact kc_i (kc_runV (na := 2) (q := (RX2, TX2, 11)) hx hb hml hts hown hK hP (g0 + 1) 10 (dmP hg (by decide)) rfl rfl rfl (c_X2_isTouching l hg hq) w1 w_534 w_535 w_4 w_536 (by decide +kernel) hR rfl hl rfl hrest hdg hcs) hS kk
/-! X2_beginX -/
abbrev rm_X2_beginX : Room := { frames := 0, cells := 0, slots := 0, locals := 0 }
def f_X2_beginX_b19 (g : Nat) (s0 : Int32) (M : Mem) : Option (Int32 × Mem) :=
some (s0, M)
def f_X2_beginX (g : Nat) (x1 : Int32) (x2 : Int32) (M : Mem) : Option (Int32 × Mem) :=
(if x2 = 0 then
  ck (ibd x1 16) <|
  f_X2_beginX_b19 g ((M g 11 (ix x1))) M
else
  ck (ibd x1 16) <|
  f_X2_beginX_b19 g ((M g 13 (ix x1))) M)
set_option maxHeartbeats 4000000 in
set_option maxRecDepth 100000 in
theorem w_X2_beginX_b19 {p : Program} {l : Launch} {e : Env} {s : State} {m : MethodId} {args : Array Value} {below : List Frame} {meth : Method} {c : Code} {G : GG} {sz : Nat} {ns : Nat} {g : Nat} {r : Int32} {M' : Mem} (E : Cx p s m args meth c cX2_beginX (some .int) 3 RX2 G) (hg : pg ns g) {s0 : Int32} {M : Mem} {H : Heap} {locs : List Loc} {ls : Array Slot} (hf : f_X2_beginX_b19 g s0 M = some (r, M')) (hP : PW G (AC G) (XC G ns) sz M s H) (hS : va_S (AC G) s.heap H locs) (hl : lv_has ls 3 []) : W p l e rm_X2_beginX s m args below meth c H locs 0 0 (MQ below (va_Qi (fun (r2 : Int32) (_ : Unit) => r2 = r) (fun _ t => PW G (AC G) (XC G ns) sz M' t t.heap) (AC G)) args s 0 0 (AC G)) (F0 m 19 ls [.int s0]) := by
  obtain ⟨hx, hb, hr, hlocks, hml, hown, hts, hK⟩ := id E
  unfold f_X2_beginX_b19 at hf
  exact en_i hf hx hb hr rfl hlocks hP hS dX2_beginX_19
set_option maxHeartbeats 4000000 in
set_option maxRecDepth 100000 in
theorem w_X2_beginX {p : Program} {l : Launch} {e : Env} {s : State} {m : MethodId} {args : Array Value} {below : List Frame} {meth : Method} {c : Code} {G : GG} {sz : Nat} {ns : Nat} {g : Nat} {r : Int32} {M' : Mem} (E : Cx p s m args meth c cX2_beginX (some .int) 3 RX2 G) (hg : pg ns g) {x1 : Int32} {x2 : Int32} {M : Mem} {H : Heap} {locs : List Loc} {ls : Array Slot} (hf : f_X2_beginX g x1 x2 M = some (r, M')) (hP : PW G (AC G) (XC G ns) sz M s H) (hS : va_S (AC G) s.heap H locs) (hl : lv_has ls 3 [(0, .ref (adC G g 10)), (1, .int x1), (2, .int x2)]) : W p l e rm_X2_beginX s m args below meth c H locs 0 0 (MQ below (va_Qi (fun (r2 : Int32) (_ : Unit) => r2 = r) (fun _ t => PW G (AC G) (XC G ns) sz M' t t.heap) (AC G)) args s 0 0 (AC G)) (F0 m 0 ls []) := by
  obtain ⟨hx, hb, hr, hlocks, hml, hown, hts, hK⟩ := id E
  unfold f_X2_beginX at hf
  refine lv_iload_n hx hb dX2_beginX_0 rfl (lv_at hl 2 rfl) ?_
  refine lv_if_ne (tgt := 13) hx hb dX2_beginX_1 (by decide) (fun hc => ?_) (fun hc => ?_)
  · have hf := if_f hf hc
    refine lv_aload_n hx hb dX2_beginX_13 rfl (lv_at hl 0 rfl) ?_
    refine gf_X2_x2 E hP hg w_92 dX2_beginX_14 ?_
    refine lv_iload_n hx hb dX2_beginX_17 rfl (lv_at hl 1 rfl) ?_
    refine ck_e hf (fun hi hf => ?_)
    refine la_P13 E hP hg hi dX2_beginX_18 ?_
    exact w_X2_beginX_b19 E hg hf hP hS (lv_sub hl [] rfl)
  · have hf := if_t hf hc
    refine lv_aload_n hx hb dX2_beginX_4 rfl (lv_at hl 0 rfl) ?_
    refine gf_X2_x E hP hg w_88 dX2_beginX_5 ?_
    refine lv_iload_n hx hb dX2_beginX_8 rfl (lv_at hl 1 rfl) ?_
    refine ck_e hf (fun hi hf => ?_)
    refine la_P11 E hP hg hi dX2_beginX_9 ?_
    refine lv_goto (tgt := 19) hx hb dX2_beginX_10 (by decide) ?_
    exact w_X2_beginX_b19 E hg hf hP hS (lv_sub hl [] rfl)
theorem c_X2_beginX (l : Launch) {G : GG} {sz : Nat} {ns : Nat} {g : Nat} (hg : pg ns g) {x1 : Int32} {x2 : Int32} {M : Mem} {r : Int32} {M' : Mem} (hf : f_X2_beginX g x1 x2 M = some (r, M')) : CtI l yX2_beginX cX2_beginX 3 (some .int) rm_X2_beginX [.ref (adC G g 10), .int x1, .int x2] G (AC G) (XC G ns) sz M r (XC G ns) sz M' := by
  refine Ct_of (by decide) (Nat.le_of_ble_eq_true rfl) (fun p e s m below meth c ls hx hb hr hlocks hml hown hts hK hP hl => ?_)
  exact w_X2_beginX ⟨hx, hb, hr, hlocks, hml, hown, hts, hK⟩ hg hf hP va_S.rf hl
set_option maxRecDepth 100000 in
theorem cv_X2_beginX {p : Program} {l : Launch} {e : Env} {R : Room} {s : State} {m : MethodId} {args : Array Value} {below : List Frame} {meth : Method} {c : Code} {H : Heap} {locs : List Loc} {cells slots : Nat} {Q : State → Prop} {cc : ByteArray} {pc nL index : Nat} {ret : Option FieldType} {own : String} {ls : Array Slot} {rest : List Value} {l' : List (Nat × Value)} {G : GG} {sz : Nat} {ns : Nat} {g : Nat} {M : Mem} (E : Cx p s m args meth c cc ret nL own G) (hP : PW G (AC G) (XC G ns) sz M s H) (hS : va_S (AC G) s.heap H locs) (hg : pg ns g) {x1 : Int32} {x2 : Int32} {r : Int32} {M' : Mem} (hq : f_X2_beginX g x1 x2 M = some (r, M')) (w1 : Cond.methodLink own index yX2_beginX ∈ lw_all) (hR : 1 ≤ R.frames ∧ 22 ≤ R.locals) (hl : lv_has ls nL l') (hrest : (rest.map fun v => v.category).sum ≤ 8) (hdg : decode cc pc = .ok (.invokevirtual index, 3)) (hcs : cells ≤ R.cells ∧ slots ≤ R.slots)
    (kk : ∀ (H1 : Heap) (locs1 : List Loc), PW G (AC G) (XC G ns) sz M' s H1 → va_S (AC G) s.heap H1 locs1 → W p l e R s m args below meth c H1 locs1 cells slots Q (F0 m (pc + 3) ls (.int r :: rest))) : W p l e R s m args below meth c H locs cells slots Q (F0 m pc ls (.int x2 :: .int x1 :: .ref (adC G g 10) :: rest)) := by
  obtain ⟨hx, hb, hr, hlocks, hml, hown, hts, hK⟩ := E
  obtain ⟨g0, rfl⟩ := pg_s hg
  exact kc_i (kc_runV (na := 2) (q := (RX2, TX2, 11)) hx hb hml hts hown hK hP (g0 + 1) 10 (dmP hg (by decide)) rfl rfl rfl (c_X2_beginX l hg hq) w1 w_621 w_622 w_4 w_623 (by decide +kernel) hR rfl hl rfl hrest hdg hcs) hS kk
/-! X2_beginY -/
abbrev rm_X2_beginY : Room := { frames := 0, cells := 0, slots := 0, locals := 0 }
def f_X2_beginY_b19 (g : Nat) (s0 : Int32) (M : Mem) : Option (Int32 × Mem) :=
some (s0, M)
def f_X2_beginY (g : Nat) (x1 : Int32) (x2 : Int32) (M : Mem) : Option (Int32 × Mem) :=
(if x2 = 0 then
  ck (ibd x1 16) <|
  f_X2_beginY_b19 g ((M g 12 (ix x1))) M
else
  ck (ibd x1 16) <|
  f_X2_beginY_b19 g ((M g 14 (ix x1))) M)
set_option maxHeartbeats 4000000 in
set_option maxRecDepth 100000 in
theorem w_X2_beginY_b19 {p : Program} {l : Launch} {e : Env} {s : State} {m : MethodId} {args : Array Value} {below : List Frame} {meth : Method} {c : Code} {G : GG} {sz : Nat} {ns : Nat} {g : Nat} {r : Int32} {M' : Mem} (E : Cx p s m args meth c cX2_beginY (some .int) 3 RX2 G) (hg : pg ns g) {s0 : Int32} {M : Mem} {H : Heap} {locs : List Loc} {ls : Array Slot} (hf : f_X2_beginY_b19 g s0 M = some (r, M')) (hP : PW G (AC G) (XC G ns) sz M s H) (hS : va_S (AC G) s.heap H locs) (hl : lv_has ls 3 []) : W p l e rm_X2_beginY s m args below meth c H locs 0 0 (MQ below (va_Qi (fun (r2 : Int32) (_ : Unit) => r2 = r) (fun _ t => PW G (AC G) (XC G ns) sz M' t t.heap) (AC G)) args s 0 0 (AC G)) (F0 m 19 ls [.int s0]) := by
  obtain ⟨hx, hb, hr, hlocks, hml, hown, hts, hK⟩ := id E
  unfold f_X2_beginY_b19 at hf
  exact en_i hf hx hb hr rfl hlocks hP hS dX2_beginY_19
set_option maxHeartbeats 4000000 in
set_option maxRecDepth 100000 in
theorem w_X2_beginY {p : Program} {l : Launch} {e : Env} {s : State} {m : MethodId} {args : Array Value} {below : List Frame} {meth : Method} {c : Code} {G : GG} {sz : Nat} {ns : Nat} {g : Nat} {r : Int32} {M' : Mem} (E : Cx p s m args meth c cX2_beginY (some .int) 3 RX2 G) (hg : pg ns g) {x1 : Int32} {x2 : Int32} {M : Mem} {H : Heap} {locs : List Loc} {ls : Array Slot} (hf : f_X2_beginY g x1 x2 M = some (r, M')) (hP : PW G (AC G) (XC G ns) sz M s H) (hS : va_S (AC G) s.heap H locs) (hl : lv_has ls 3 [(0, .ref (adC G g 10)), (1, .int x1), (2, .int x2)]) : W p l e rm_X2_beginY s m args below meth c H locs 0 0 (MQ below (va_Qi (fun (r2 : Int32) (_ : Unit) => r2 = r) (fun _ t => PW G (AC G) (XC G ns) sz M' t t.heap) (AC G)) args s 0 0 (AC G)) (F0 m 0 ls []) := by
  obtain ⟨hx, hb, hr, hlocks, hml, hown, hts, hK⟩ := id E
  unfold f_X2_beginY at hf
  refine lv_iload_n hx hb dX2_beginY_0 rfl (lv_at hl 2 rfl) ?_
  refine lv_if_ne (tgt := 13) hx hb dX2_beginY_1 (by decide) (fun hc => ?_) (fun hc => ?_)
  · have hf := if_f hf hc
    refine lv_aload_n hx hb dX2_beginY_13 rfl (lv_at hl 0 rfl) ?_
    refine gf_X2_y2 E hP hg w_94 dX2_beginY_14 ?_
    refine lv_iload_n hx hb dX2_beginY_17 rfl (lv_at hl 1 rfl) ?_
    refine ck_e hf (fun hi hf => ?_)
    refine la_P14 E hP hg hi dX2_beginY_18 ?_
    exact w_X2_beginY_b19 E hg hf hP hS (lv_sub hl [] rfl)
  · have hf := if_t hf hc
    refine lv_aload_n hx hb dX2_beginY_4 rfl (lv_at hl 0 rfl) ?_
    refine gf_X2_y E hP hg w_90 dX2_beginY_5 ?_
    refine lv_iload_n hx hb dX2_beginY_8 rfl (lv_at hl 1 rfl) ?_
    refine ck_e hf (fun hi hf => ?_)
    refine la_P12 E hP hg hi dX2_beginY_9 ?_
    refine lv_goto (tgt := 19) hx hb dX2_beginY_10 (by decide) ?_
    exact w_X2_beginY_b19 E hg hf hP hS (lv_sub hl [] rfl)
theorem c_X2_beginY (l : Launch) {G : GG} {sz : Nat} {ns : Nat} {g : Nat} (hg : pg ns g) {x1 : Int32} {x2 : Int32} {M : Mem} {r : Int32} {M' : Mem} (hf : f_X2_beginY g x1 x2 M = some (r, M')) : CtI l yX2_beginY cX2_beginY 3 (some .int) rm_X2_beginY [.ref (adC G g 10), .int x1, .int x2] G (AC G) (XC G ns) sz M r (XC G ns) sz M' := by
  refine Ct_of (by decide) (Nat.le_of_ble_eq_true rfl) (fun p e s m below meth c ls hx hb hr hlocks hml hown hts hK hP hl => ?_)
  exact w_X2_beginY ⟨hx, hb, hr, hlocks, hml, hown, hts, hK⟩ hg hf hP va_S.rf hl
set_option maxRecDepth 100000 in
theorem cv_X2_beginY {p : Program} {l : Launch} {e : Env} {R : Room} {s : State} {m : MethodId} {args : Array Value} {below : List Frame} {meth : Method} {c : Code} {H : Heap} {locs : List Loc} {cells slots : Nat} {Q : State → Prop} {cc : ByteArray} {pc nL index : Nat} {ret : Option FieldType} {own : String} {ls : Array Slot} {rest : List Value} {l' : List (Nat × Value)} {G : GG} {sz : Nat} {ns : Nat} {g : Nat} {M : Mem} (E : Cx p s m args meth c cc ret nL own G) (hP : PW G (AC G) (XC G ns) sz M s H) (hS : va_S (AC G) s.heap H locs) (hg : pg ns g) {x1 : Int32} {x2 : Int32} {r : Int32} {M' : Mem} (hq : f_X2_beginY g x1 x2 M = some (r, M')) (w1 : Cond.methodLink own index yX2_beginY ∈ lw_all) (hR : 1 ≤ R.frames ∧ 22 ≤ R.locals) (hl : lv_has ls nL l') (hrest : (rest.map fun v => v.category).sum ≤ 8) (hdg : decode cc pc = .ok (.invokevirtual index, 3)) (hcs : cells ≤ R.cells ∧ slots ≤ R.slots)
    (kk : ∀ (H1 : Heap) (locs1 : List Loc), PW G (AC G) (XC G ns) sz M' s H1 → va_S (AC G) s.heap H1 locs1 → W p l e R s m args below meth c H1 locs1 cells slots Q (F0 m (pc + 3) ls (.int r :: rest))) : W p l e R s m args below meth c H locs cells slots Q (F0 m pc ls (.int x2 :: .int x1 :: .ref (adC G g 10) :: rest)) := by
  obtain ⟨hx, hb, hr, hlocks, hml, hown, hts, hK⟩ := E
  obtain ⟨g0, rfl⟩ := pg_s hg
  exact kc_i (kc_runV (na := 2) (q := (RX2, TX2, 11)) hx hb hml hts hown hK hP (g0 + 1) 10 (dmP hg (by decide)) rfl rfl rfl (c_X2_beginY l hg hq) w1 w_625 w_626 w_4 w_627 (by decide +kernel) hR rfl hl rfl hrest hdg hcs) hS kk
/-! X2_lengthNotDrawn -/
abbrev rm_X2_lengthNotDrawn : Room := { frames := 1, cells := 0, slots := 0, locals := 21 }
def f_X2_lengthNotDrawn_b31 (g : Nat) (L4 : Int32 → Int32 → Mem → Option (Int32 × Mem)) (x2 : Int32) (s0 : Int32) (s1 : Int32) (M : Mem) : Option (Int32 × Mem) :=
lt ((s0 + s1)) fun x1_32 =>
lt (x2 + 1) fun x2_33 =>
L4 x1_32 x2_33 M
def f_X2_lengthNotDrawn_b4 (g : Nat) : Nat → Int32 → Int32 → Mem → Option (Int32 × Mem)
  | 0 => fun _ _ _ => none
  | fu + 1 => fun x1 x2 M =>
(if (M g 10 0) ≤ x2 then
  some (x1, M)
else
  ob (f_X2_isDrawn g x2 M) fun r_15 M_15 =>
  (if r_15 = 0 then
    ck (ibd x2 16) <|
    f_X2_lengthNotDrawn_b31 g (f_X2_lengthNotDrawn_b4 g fu) x2 x1 ((M_15 g 15 (ix x2))) M_15
  else
    f_X2_lengthNotDrawn_b31 g (f_X2_lengthNotDrawn_b4 g fu) x2 x1 0 M_15))
def f_X2_lengthNotDrawn (g : Nat) (M : Mem) : Option (Int32 × Mem) :=
f_X2_lengthNotDrawn_b4 g 1000 0 0 M
set_option maxHeartbeats 4000000 in
set_option maxRecDepth 100000 in
theorem w_X2_lengthNotDrawn_b31 {p : Program} {l : Launch} {e : Env} {s : State} {m : MethodId} {args : Array Value} {below : List Frame} {meth : Method} {c : Code} {G : GG} {sz : Nat} {ns : Nat} {g : Nat} {r : Int32} {M' : Mem} (E : Cx p s m args meth c cX2_lengthNotDrawn (some .int) 3 RX2 G) (hg : pg ns g) {L4 : Int32 → Int32 → Mem → Option (Int32 × Mem)} (hL4 : ∀ (x1 : Int32) (x2 : Int32) (M : Mem) (H : Heap) (locs : List Loc) (ls : Array Slot), L4 x1 x2 M = some (r, M') → PW G (AC G) (XC G ns) sz M s H → va_S (AC G) s.heap H locs → lv_has ls 3 [(0, .ref (adC G g 10)), (1, .int x1), (2, .int x2)] → W p l e rm_X2_lengthNotDrawn s m args below meth c H locs 0 0 (MQ below (va_Qi (fun (r2 : Int32) (_ : Unit) => r2 = r) (fun _ t => PW G (AC G) (XC G ns) sz M' t t.heap) (AC G)) args s 0 0 (AC G)) (F0 m 4 ls [])) {x2 : Int32} {s0 : Int32} {s1 : Int32} {M : Mem} {H : Heap} {locs : List Loc} {ls : Array Slot} (hf : f_X2_lengthNotDrawn_b31 g L4 x2 s0 s1 M = some (r, M')) (hP : PW G (AC G) (XC G ns) sz M s H) (hS : va_S (AC G) s.heap H locs) (hl : lv_has ls 3 [(0, .ref (adC G g 10)), (2, .int x2)]) : W p l e rm_X2_lengthNotDrawn s m args below meth c H locs 0 0 (MQ below (va_Qi (fun (r2 : Int32) (_ : Unit) => r2 = r) (fun _ t => PW G (AC G) (XC G ns) sz M' t t.heap) (AC G)) args s 0 0 (AC G)) (F0 m 31 ls [.int s1, .int s0]) := by
  obtain ⟨hx, hb, hr, hlocks, hml, hown, hts, hK⟩ := id E
  unfold f_X2_lengthNotDrawn_b31 at hf
  refine lv_iadd hx hb dX2_lengthNotDrawn_31 ?_
  refine lt_e hf (fun x1_32 hx1_32 hf => ?_)
  refine kr_nm hx1_32 ?_
  refine lv_istore_n (lv' := [(1, .int x1_32), (0, .ref (adC G g 10)), (2, .int x2)]) hx hb dX2_lengthNotDrawn_32 rfl hl (by decide) rfl (fun ls hl => ?_)
  refine lt_e hf (fun x2_33 hx2_33 hf => ?_)
  refine lv_iinc (v := x2_33) (lv' := [(2, .int x2_33), (1, .int x1_32), (0, .ref (adC G g 10))]) hx hb dX2_lengthNotDrawn_33 hl (k := 2) rfl (by rw [hx2_33]; rfl) (by decide) rfl (fun ls hl => ?_)
  refine lv_goto (tgt := 4) hx hb dX2_lengthNotDrawn_36 (by decide) ?_
  exact hL4 _ _ _ _ _ _ hf hP hS (lv_sub hl [2, 1, 0] rfl)
set_option maxHeartbeats 4000000 in
set_option maxRecDepth 100000 in
theorem w_X2_lengthNotDrawn_b4 {p : Program} {l : Launch} {e : Env} {s : State} {m : MethodId} {args : Array Value} {below : List Frame} {meth : Method} {c : Code} {G : GG} {sz : Nat} {ns : Nat} {g : Nat} {r : Int32} {M' : Mem} (E : Cx p s m args meth c cX2_lengthNotDrawn (some .int) 3 RX2 G) (hg : pg ns g) : ∀ fu : Nat, ∀ (x1 : Int32) (x2 : Int32) (M : Mem) (H : Heap) (locs : List Loc) (ls : Array Slot), f_X2_lengthNotDrawn_b4 g fu x1 x2 M = some (r, M') → PW G (AC G) (XC G ns) sz M s H → va_S (AC G) s.heap H locs → lv_has ls 3 [(0, .ref (adC G g 10)), (1, .int x1), (2, .int x2)] → W p l e rm_X2_lengthNotDrawn s m args below meth c H locs 0 0 (MQ below (va_Qi (fun (r2 : Int32) (_ : Unit) => r2 = r) (fun _ t => PW G (AC G) (XC G ns) sz M' t t.heap) (AC G)) args s 0 0 (AC G)) (F0 m 4 ls []) := by
  obtain ⟨hx, hb, hr, hlocks, hml, hown, hts, hK⟩ := id E
  intro fu
  induction fu with
  | zero => intro x1 x2 M H locs ls hf hP hS hl; cases hf
  | succ fu ih =>
    intro x1 x2 M H locs ls hf hP hS hl
    rw [f_X2_lengthNotDrawn_b4.eq_2] at hf
    refine lv_iload_n hx hb dX2_lengthNotDrawn_4 rfl (lv_at hl 2 rfl) ?_
    refine lv_aload_n hx hb dX2_lengthNotDrawn_5 rfl (lv_at hl 0 rfl) ?_
    refine gf_X2_many E hP hg w_85 dX2_lengthNotDrawn_6 ?_
    refine lv_icmp_ge (tgt := 39) hx hb dX2_lengthNotDrawn_9 (by decide) (fun hc => ?_) (fun hc => ?_)
    · have hf := if_t hf hc
      refine lv_iload_n hx hb dX2_lengthNotDrawn_39 rfl (lv_at hl 1 rfl) ?_
      exact en_i hf hx hb hr rfl hlocks hP hS dX2_lengthNotDrawn_40
    · have hf := if_f hf hc
      refine lv_iload_n hx hb dX2_lengthNotDrawn_12 rfl (lv_at hl 1 rfl) ?_
      refine lv_aload_n hx hb dX2_lengthNotDrawn_13 rfl (lv_at hl 0 rfl) ?_
      refine lv_iload_n hx hb dX2_lengthNotDrawn_14 rfl (lv_at hl 2 rfl) ?_
      refine ob_e hf (fun r_15 M_15 hq hf => ?_)
      refine cv_X2_isDrawn E hP hS hg hq w_422 ⟨Nat.le_of_ble_eq_true rfl, Nat.le_of_ble_eq_true rfl⟩ hl (Nat.le_of_ble_eq_true rfl) dX2_lengthNotDrawn_15 ⟨Nat.le_of_ble_eq_true rfl, Nat.le_of_ble_eq_true rfl⟩ (fun H locs hP hS => ?_)
      refine lv_if_eq (tgt := 25) hx hb dX2_lengthNotDrawn_18 (by decide) (fun hc => ?_) (fun hc => ?_)
      · have hf := if_t hf hc
        refine lv_aload_n hx hb dX2_lengthNotDrawn_25 rfl (lv_at hl 0 rfl) ?_
        refine gf_X2_length E hP hg w_96 dX2_lengthNotDrawn_26 ?_
        refine lv_iload_n hx hb dX2_lengthNotDrawn_29 rfl (lv_at hl 2 rfl) ?_
        refine ck_e hf (fun hi hf => ?_)
        refine la_P15 E hP hg hi dX2_lengthNotDrawn_30 ?_
        exact w_X2_lengthNotDrawn_b31 E hg ih hf hP hS (lv_sub hl [0, 2] rfl)
      · have hf := if_f hf hc
        refine lv_iconst (v := 0) hx hb dX2_lengthNotDrawn_21 (by decide) ?_
        refine lv_goto (tgt := 31) hx hb dX2_lengthNotDrawn_22 (by decide) ?_
        exact w_X2_lengthNotDrawn_b31 E hg ih hf hP hS (lv_sub hl [0, 2] rfl)
set_option maxHeartbeats 4000000 in
set_option maxRecDepth 100000 in
theorem w_X2_lengthNotDrawn {p : Program} {l : Launch} {e : Env} {s : State} {m : MethodId} {args : Array Value} {below : List Frame} {meth : Method} {c : Code} {G : GG} {sz : Nat} {ns : Nat} {g : Nat} {r : Int32} {M' : Mem} (E : Cx p s m args meth c cX2_lengthNotDrawn (some .int) 3 RX2 G) (hg : pg ns g) {M : Mem} {H : Heap} {locs : List Loc} {ls : Array Slot} (hf : f_X2_lengthNotDrawn g M = some (r, M')) (hP : PW G (AC G) (XC G ns) sz M s H) (hS : va_S (AC G) s.heap H locs) (hl : lv_has ls 3 [(0, .ref (adC G g 10))]) : W p l e rm_X2_lengthNotDrawn s m args below meth c H locs 0 0 (MQ below (va_Qi (fun (r2 : Int32) (_ : Unit) => r2 = r) (fun _ t => PW G (AC G) (XC G ns) sz M' t t.heap) (AC G)) args s 0 0 (AC G)) (F0 m 0 ls []) := by
  obtain ⟨hx, hb, hr, hlocks, hml, hown, hts, hK⟩ := id E
  unfold f_X2_lengthNotDrawn at hf
  refine lv_iconst (v := 0) hx hb dX2_lengthNotDrawn_0 (by decide) ?_
  refine lv_istore_n (lv' := [(1, .int 0), (0, .ref (adC G g 10))]) hx hb dX2_lengthNotDrawn_1 rfl hl (by decide) rfl (fun ls hl => ?_)
  refine lv_iconst (v := 0) hx hb dX2_lengthNotDrawn_2 (by decide) ?_
  refine lv_istore_n (lv' := [(2, .int 0), (1, .int 0), (0, .ref (adC G g 10))]) hx hb dX2_lengthNotDrawn_3 rfl hl (by decide) rfl (fun ls hl => ?_)
  exact w_X2_lengthNotDrawn_b4 E hg 1000 _ _ _ _ _ _ hf hP hS (lv_sub hl [2, 1, 0] rfl)
theorem c_X2_lengthNotDrawn (l : Launch) {G : GG} {sz : Nat} {ns : Nat} {g : Nat} (hg : pg ns g) {M : Mem} {r : Int32} {M' : Mem} (hf : f_X2_lengthNotDrawn g M = some (r, M')) : CtI l yX2_lengthNotDrawn cX2_lengthNotDrawn 3 (some .int) rm_X2_lengthNotDrawn [.ref (adC G g 10)] G (AC G) (XC G ns) sz M r (XC G ns) sz M' := by
  refine Ct_of (by decide) (Nat.le_of_ble_eq_true rfl) (fun p e s m below meth c ls hx hb hr hlocks hml hown hts hK hP hl => ?_)
  exact w_X2_lengthNotDrawn ⟨hx, hb, hr, hlocks, hml, hown, hts, hK⟩ hg hf hP va_S.rf hl
set_option maxRecDepth 100000 in
theorem cv_X2_lengthNotDrawn {p : Program} {l : Launch} {e : Env} {R : Room} {s : State} {m : MethodId} {args : Array Value} {below : List Frame} {meth : Method} {c : Code} {H : Heap} {locs : List Loc} {cells slots : Nat} {Q : State → Prop} {cc : ByteArray} {pc nL index : Nat} {ret : Option FieldType} {own : String} {ls : Array Slot} {rest : List Value} {l' : List (Nat × Value)} {G : GG} {sz : Nat} {ns : Nat} {g : Nat} {M : Mem} (E : Cx p s m args meth c cc ret nL own G) (hP : PW G (AC G) (XC G ns) sz M s H) (hS : va_S (AC G) s.heap H locs) (hg : pg ns g) {r : Int32} {M' : Mem} (hq : f_X2_lengthNotDrawn g M = some (r, M')) (w1 : Cond.methodLink own index yX2_lengthNotDrawn ∈ lw_all) (hR : 2 ≤ R.frames ∧ 43 ≤ R.locals) (hl : lv_has ls nL l') (hrest : (rest.map fun v => v.category).sum ≤ 8) (hdg : decode cc pc = .ok (.invokevirtual index, 3)) (hcs : cells ≤ R.cells ∧ slots ≤ R.slots)
    (kk : ∀ (H1 : Heap) (locs1 : List Loc), PW G (AC G) (XC G ns) sz M' s H1 → va_S (AC G) s.heap H1 locs1 → W p l e R s m args below meth c H1 locs1 cells slots Q (F0 m (pc + 3) ls (.int r :: rest))) : W p l e R s m args below meth c H locs cells slots Q (F0 m pc ls (.ref (adC G g 10) :: rest)) := by
  obtain ⟨hx, hb, hr, hlocks, hml, hown, hts, hK⟩ := E
  obtain ⟨g0, rfl⟩ := pg_s hg
  exact kc_i (kc_runV (na := 0) (q := (RX2, TX2, 11)) hx hb hml hts hown hK hP (g0 + 1) 10 (dmP hg (by decide)) rfl rfl rfl (c_X2_lengthNotDrawn l hg hq) w1 w_441 w_442 w_4 w_443 (by decide +kernel) hR rfl hl rfl hrest hdg hcs) hS kk
/-! X7_asBit -/
abbrev rm_X7_asBit : Room := { frames := 0, cells := 0, slots := 0, locals := 0 }
def f_X7_asBit_b9 (s0 : Int32) (M : Mem) : Option (Int32 × Mem) :=
some (s0, M)
def f_X7_asBit (x0 : Int32) (M : Mem) : Option (Int32 × Mem) :=
(if x0 = 0 then
  f_X7_asBit_b9 0 M
else
  f_X7_asBit_b9 1 M)
set_option maxHeartbeats 4000000 in
set_option maxRecDepth 100000 in
theorem w_X7_asBit_b9 {p : Program} {l : Launch} {e : Env} {s : State} {m : MethodId} {args : Array Value} {below : List Frame} {meth : Method} {c : Code} {G : GG} {sz : Nat} {ns : Nat} {r : Int32} {M' : Mem} (E : Cx p s m args meth c cX7_asBit (some .int) 1 RX7 G) {s0 : Int32} {M : Mem} {H : Heap} {locs : List Loc} {ls : Array Slot} (hf : f_X7_asBit_b9 s0 M = some (r, M')) (hP : PW G (AC G) (XC G ns) sz M s H) (hS : va_S (AC G) s.heap H locs) (hl : lv_has ls 1 []) : W p l e rm_X7_asBit s m args below meth c H locs 0 0 (MQ below (va_Qi (fun (r2 : Int32) (_ : Unit) => r2 = r) (fun _ t => PW G (AC G) (XC G ns) sz M' t t.heap) (AC G)) args s 0 0 (AC G)) (F0 m 9 ls [.int s0]) := by
  obtain ⟨hx, hb, hr, hlocks, hml, hown, hts, hK⟩ := id E
  unfold f_X7_asBit_b9 at hf
  exact en_i hf hx hb hr rfl hlocks hP hS dX7_asBit_9
set_option maxHeartbeats 4000000 in
set_option maxRecDepth 100000 in
theorem w_X7_asBit {p : Program} {l : Launch} {e : Env} {s : State} {m : MethodId} {args : Array Value} {below : List Frame} {meth : Method} {c : Code} {G : GG} {sz : Nat} {ns : Nat} {r : Int32} {M' : Mem} (E : Cx p s m args meth c cX7_asBit (some .int) 1 RX7 G) {x0 : Int32} {M : Mem} {H : Heap} {locs : List Loc} {ls : Array Slot} (hf : f_X7_asBit x0 M = some (r, M')) (hP : PW G (AC G) (XC G ns) sz M s H) (hS : va_S (AC G) s.heap H locs) (hl : lv_has ls 1 [(0, .int x0)]) : W p l e rm_X7_asBit s m args below meth c H locs 0 0 (MQ below (va_Qi (fun (r2 : Int32) (_ : Unit) => r2 = r) (fun _ t => PW G (AC G) (XC G ns) sz M' t t.heap) (AC G)) args s 0 0 (AC G)) (F0 m 0 ls []) := by
  obtain ⟨hx, hb, hr, hlocks, hml, hown, hts, hK⟩ := id E
  unfold f_X7_asBit at hf
  refine lv_iload_n hx hb dX7_asBit_0 rfl (lv_at hl 0 rfl) ?_
  refine lv_if_eq (tgt := 8) hx hb dX7_asBit_1 (by decide) (fun hc => ?_) (fun hc => ?_)
  · have hf := if_t hf hc
    refine lv_iconst (v := 0) hx hb dX7_asBit_8 (by decide) ?_
    exact w_X7_asBit_b9 E hf hP hS (lv_sub hl [] rfl)
  · have hf := if_f hf hc
    refine lv_iconst (v := 1) hx hb dX7_asBit_4 (by decide) ?_
    refine lv_goto (tgt := 9) hx hb dX7_asBit_5 (by decide) ?_
    exact w_X7_asBit_b9 E hf hP hS (lv_sub hl [] rfl)
theorem c_X7_asBit (l : Launch) {G : GG} {sz : Nat} {ns : Nat} {x0 : Int32} {M : Mem} {r : Int32} {M' : Mem} (hf : f_X7_asBit x0 M = some (r, M')) : CtI l yX7_asBit cX7_asBit 1 (some .int) rm_X7_asBit [.int x0] G (AC G) (XC G ns) sz M r (XC G ns) sz M' := by
  refine Ct_of (by decide) (Nat.le_of_ble_eq_true rfl) (fun p e s m below meth c ls hx hb hr hlocks hml hown hts hK hP hl => ?_)
  exact w_X7_asBit ⟨hx, hb, hr, hlocks, hml, hown, hts, hK⟩ hf hP va_S.rf hl
set_option maxRecDepth 100000 in
theorem cn_X7_asBit {p : Program} {l : Launch} {e : Env} {R : Room} {s : State} {m : MethodId} {args : Array Value} {below : List Frame} {meth : Method} {c : Code} {H : Heap} {locs : List Loc} {cells slots : Nat} {Q : State → Prop} {cc : ByteArray} {pc nL index : Nat} {ret : Option FieldType} {own : String} {ls : Array Slot} {rest : List Value} {l' : List (Nat × Value)} {G : GG} {sz : Nat} {ns : Nat} {M : Mem} (E : Cx p s m args meth c cc ret nL own G) (hP : PW G (AC G) (XC G ns) sz M s H) (hS : va_S (AC G) s.heap H locs) {x0 : Int32} {r : Int32} {M' : Mem} (hq : f_X7_asBit x0 M = some (r, M')) {host : String} (w1 : Cond.methodLinkNest own index yX7_asBit host ∈ nwl) (hR : 1 ≤ R.frames ∧ 20 ≤ R.locals) (hl : lv_has ls nL l') (hrest : (rest.map fun v => v.category).sum ≤ 8) (hdg : decode cc pc = .ok (.invokestatic index, 3)) (hcs : cells ≤ R.cells ∧ slots ≤ R.slots)
    (kk : ∀ (H1 : Heap) (locs1 : List Loc), PW G (AC G) (XC G ns) sz M' s H1 → va_S (AC G) s.heap H1 locs1 → W p l e R s m args below meth c H1 locs1 cells slots Q (F0 m (pc + 3) ls (.int r :: rest))) : W p l e R s m args below meth c H locs cells slots Q (F0 m pc ls (.int x0 :: rest)) := by
  obtain ⟨hx, hb, hr, hlocks, hml, hown, hts, hK⟩ := E
  exact kc_i (kc_runSN (na := 1) hx hb hml hts hown hK hP (c_X7_asBit l hq) w1 w_427 w_1 w_428 (by decide +kernel) hR rfl hl rfl hrest hdg hcs) hS kk
set_option maxRecDepth 100000 in
theorem cv_X7_asBit {p : Program} {l : Launch} {e : Env} {R : Room} {s : State} {m : MethodId} {args : Array Value} {below : List Frame} {meth : Method} {c : Code} {H : Heap} {locs : List Loc} {cells slots : Nat} {Q : State → Prop} {cc : ByteArray} {pc nL index : Nat} {ret : Option FieldType} {own : String} {ls : Array Slot} {rest : List Value} {l' : List (Nat × Value)} {G : GG} {sz : Nat} {ns : Nat} {M : Mem} (E : Cx p s m args meth c cc ret nL own G) (hP : PW G (AC G) (XC G ns) sz M s H) (hS : va_S (AC G) s.heap H locs) {x0 : Int32} {r : Int32} {M' : Mem} (hq : f_X7_asBit x0 M = some (r, M')) (w1 : Cond.methodLink own index yX7_asBit ∈ lw_all) (hR : 1 ≤ R.frames ∧ 20 ≤ R.locals) (hl : lv_has ls nL l') (hrest : (rest.map fun v => v.category).sum ≤ 8) (hdg : decode cc pc = .ok (.invokestatic index, 3)) (hcs : cells ≤ R.cells ∧ slots ≤ R.slots)
    (kk : ∀ (H1 : Heap) (locs1 : List Loc), PW G (AC G) (XC G ns) sz M' s H1 → va_S (AC G) s.heap H1 locs1 → W p l e R s m args below meth c H1 locs1 cells slots Q (F0 m (pc + 3) ls (.int r :: rest))) : W p l e R s m args below meth c H locs cells slots Q (F0 m pc ls (.int x0 :: rest)) := by
  obtain ⟨hx, hb, hr, hlocks, hml, hown, hts, hK⟩ := E
  exact kc_i (kc_runS (na := 1) hx hb hml hts hown hK hP (c_X7_asBit l hq) w1 w_427 w_1 w_428 (by decide +kernel) hR rfl hl rfl hrest hdg hcs) hS kk
/-! X2_howManyDrawn -/
abbrev rm_X2_howManyDrawn : Room := { frames := 1, cells := 0, slots := 0, locals := 21 }
def f_X2_howManyDrawn_b4 (g : Nat) : Nat → Int32 → Int32 → Mem → Option (Int32 × Mem)
  | 0 => fun _ _ _ => none
  | fu + 1 => fun x1 x2 M =>
(if (M g 10 0) ≤ x2 then
  some (x1, M)
else
  ob (f_X2_isDrawn g x2 M) fun r_15 M_15 =>
  ob (f_X7_asBit r_15 M_15) fun r_18 M_18 =>
  lt ((x1 + r_18)) fun x1_22 =>
  lt (x2 + 1) fun x2_23 =>
  f_X2_howManyDrawn_b4 g fu x1_22 x2_23 M_18)
def f_X2_howManyDrawn (g : Nat) (M : Mem) : Option (Int32 × Mem) :=
f_X2_howManyDrawn_b4 g 1000 0 0 M
set_option maxHeartbeats 4000000 in
set_option maxRecDepth 100000 in
theorem w_X2_howManyDrawn_b4 {p : Program} {l : Launch} {e : Env} {s : State} {m : MethodId} {args : Array Value} {below : List Frame} {meth : Method} {c : Code} {G : GG} {sz : Nat} {ns : Nat} {g : Nat} {r : Int32} {M' : Mem} (E : Cx p s m args meth c cX2_howManyDrawn (some .int) 3 RX2 G) (hg : pg ns g) : ∀ fu : Nat, ∀ (x1 : Int32) (x2 : Int32) (M : Mem) (H : Heap) (locs : List Loc) (ls : Array Slot), f_X2_howManyDrawn_b4 g fu x1 x2 M = some (r, M') → PW G (AC G) (XC G ns) sz M s H → va_S (AC G) s.heap H locs → lv_has ls 3 [(0, .ref (adC G g 10)), (1, .int x1), (2, .int x2)] → W p l e rm_X2_howManyDrawn s m args below meth c H locs 0 0 (MQ below (va_Qi (fun (r2 : Int32) (_ : Unit) => r2 = r) (fun _ t => PW G (AC G) (XC G ns) sz M' t t.heap) (AC G)) args s 0 0 (AC G)) (F0 m 4 ls []) := by
  obtain ⟨hx, hb, hr, hlocks, hml, hown, hts, hK⟩ := id E
  intro fu
  induction fu with
  | zero => intro x1 x2 M H locs ls hf hP hS hl; cases hf
  | succ fu ih =>
    intro x1 x2 M H locs ls hf hP hS hl
    rw [f_X2_howManyDrawn_b4.eq_2] at hf
    refine lv_iload_n hx hb dX2_howManyDrawn_4 rfl (lv_at hl 2 rfl) ?_
    refine lv_aload_n hx hb dX2_howManyDrawn_5 rfl (lv_at hl 0 rfl) ?_
    refine gf_X2_many E hP hg w_85 dX2_howManyDrawn_6 ?_
    refine lv_icmp_ge (tgt := 29) hx hb dX2_howManyDrawn_9 (by decide) (fun hc => ?_) (fun hc => ?_)
    · have hf := if_t hf hc
      refine lv_iload_n hx hb dX2_howManyDrawn_29 rfl (lv_at hl 1 rfl) ?_
      exact en_i hf hx hb hr rfl hlocks hP hS dX2_howManyDrawn_30
    · have hf := if_f hf hc
      refine lv_iload_n hx hb dX2_howManyDrawn_12 rfl (lv_at hl 1 rfl) ?_
      refine lv_aload_n hx hb dX2_howManyDrawn_13 rfl (lv_at hl 0 rfl) ?_
      refine lv_iload_n hx hb dX2_howManyDrawn_14 rfl (lv_at hl 2 rfl) ?_
      refine ob_e hf (fun r_15 M_15 hq hf => ?_)
      refine cv_X2_isDrawn E hP hS hg hq w_422 ⟨Nat.le_of_ble_eq_true rfl, Nat.le_of_ble_eq_true rfl⟩ hl (Nat.le_of_ble_eq_true rfl) dX2_howManyDrawn_15 ⟨Nat.le_of_ble_eq_true rfl, Nat.le_of_ble_eq_true rfl⟩ (fun H locs hP hS => ?_)
      refine ob_e hf (fun r_18 M_18 hq hf => ?_)
      refine cn_X7_asBit E hP hS hq w_426 ⟨Nat.le_of_ble_eq_true rfl, Nat.le_of_ble_eq_true rfl⟩ hl (Nat.le_of_ble_eq_true rfl) dX2_howManyDrawn_18 ⟨Nat.le_of_ble_eq_true rfl, Nat.le_of_ble_eq_true rfl⟩ (fun H locs hP hS => ?_)
      refine lv_iadd hx hb dX2_howManyDrawn_21 ?_
      refine lt_e hf (fun x1_22 hx1_22 hf => ?_)
      refine kr_nm hx1_22 ?_
      refine lv_istore_n (lv' := [(1, .int x1_22), (0, .ref (adC G g 10)), (2, .int x2)]) hx hb dX2_howManyDrawn_22 rfl hl (by decide) rfl (fun ls hl => ?_)
      refine lt_e hf (fun x2_23 hx2_23 hf => ?_)
      refine lv_iinc (v := x2_23) (lv' := [(2, .int x2_23), (1, .int x1_22), (0, .ref (adC G g 10))]) hx hb dX2_howManyDrawn_23 hl (k := 2) rfl (by rw [hx2_23]; rfl) (by decide) rfl (fun ls hl => ?_)
      refine lv_goto (tgt := 4) hx hb dX2_howManyDrawn_26 (by decide) ?_
      exact ih _ _ _ _ _ _ hf hP hS (lv_sub hl [2, 1, 0] rfl)
set_option maxHeartbeats 4000000 in
set_option maxRecDepth 100000 in
theorem w_X2_howManyDrawn {p : Program} {l : Launch} {e : Env} {s : State} {m : MethodId} {args : Array Value} {below : List Frame} {meth : Method} {c : Code} {G : GG} {sz : Nat} {ns : Nat} {g : Nat} {r : Int32} {M' : Mem} (E : Cx p s m args meth c cX2_howManyDrawn (some .int) 3 RX2 G) (hg : pg ns g) {M : Mem} {H : Heap} {locs : List Loc} {ls : Array Slot} (hf : f_X2_howManyDrawn g M = some (r, M')) (hP : PW G (AC G) (XC G ns) sz M s H) (hS : va_S (AC G) s.heap H locs) (hl : lv_has ls 3 [(0, .ref (adC G g 10))]) : W p l e rm_X2_howManyDrawn s m args below meth c H locs 0 0 (MQ below (va_Qi (fun (r2 : Int32) (_ : Unit) => r2 = r) (fun _ t => PW G (AC G) (XC G ns) sz M' t t.heap) (AC G)) args s 0 0 (AC G)) (F0 m 0 ls []) := by
  obtain ⟨hx, hb, hr, hlocks, hml, hown, hts, hK⟩ := id E
  unfold f_X2_howManyDrawn at hf
  refine lv_iconst (v := 0) hx hb dX2_howManyDrawn_0 (by decide) ?_
  refine lv_istore_n (lv' := [(1, .int 0), (0, .ref (adC G g 10))]) hx hb dX2_howManyDrawn_1 rfl hl (by decide) rfl (fun ls hl => ?_)
  refine lv_iconst (v := 0) hx hb dX2_howManyDrawn_2 (by decide) ?_
  refine lv_istore_n (lv' := [(2, .int 0), (1, .int 0), (0, .ref (adC G g 10))]) hx hb dX2_howManyDrawn_3 rfl hl (by decide) rfl (fun ls hl => ?_)
  exact w_X2_howManyDrawn_b4 E hg 1000 _ _ _ _ _ _ hf hP hS (lv_sub hl [2, 1, 0] rfl)
theorem c_X2_howManyDrawn (l : Launch) {G : GG} {sz : Nat} {ns : Nat} {g : Nat} (hg : pg ns g) {M : Mem} {r : Int32} {M' : Mem} (hf : f_X2_howManyDrawn g M = some (r, M')) : CtI l yX2_howManyDrawn cX2_howManyDrawn 3 (some .int) rm_X2_howManyDrawn [.ref (adC G g 10)] G (AC G) (XC G ns) sz M r (XC G ns) sz M' := by
  refine Ct_of (by decide) (Nat.le_of_ble_eq_true rfl) (fun p e s m below meth c ls hx hb hr hlocks hml hown hts hK hP hl => ?_)
  exact w_X2_howManyDrawn ⟨hx, hb, hr, hlocks, hml, hown, hts, hK⟩ hg hf hP va_S.rf hl
set_option maxRecDepth 100000 in
theorem cv_X2_howManyDrawn {p : Program} {l : Launch} {e : Env} {R : Room} {s : State} {m : MethodId} {args : Array Value} {below : List Frame} {meth : Method} {c : Code} {H : Heap} {locs : List Loc} {cells slots : Nat} {Q : State → Prop} {cc : ByteArray} {pc nL index : Nat} {ret : Option FieldType} {own : String} {ls : Array Slot} {rest : List Value} {l' : List (Nat × Value)} {G : GG} {sz : Nat} {ns : Nat} {g : Nat} {M : Mem} (E : Cx p s m args meth c cc ret nL own G) (hP : PW G (AC G) (XC G ns) sz M s H) (hS : va_S (AC G) s.heap H locs) (hg : pg ns g) {r : Int32} {M' : Mem} (hq : f_X2_howManyDrawn g M = some (r, M')) (w1 : Cond.methodLink own index yX2_howManyDrawn ∈ lw_all) (hR : 2 ≤ R.frames ∧ 43 ≤ R.locals) (hl : lv_has ls nL l') (hrest : (rest.map fun v => v.category).sum ≤ 8) (hdg : decode cc pc = .ok (.invokevirtual index, 3)) (hcs : cells ≤ R.cells ∧ slots ≤ R.slots)
    (kk : ∀ (H1 : Heap) (locs1 : List Loc), PW G (AC G) (XC G ns) sz M' s H1 → va_S (AC G) s.heap H1 locs1 → W p l e R s m args below meth c H1 locs1 cells slots Q (F0 m (pc + 3) ls (.int r :: rest))) : W p l e R s m args below meth c H locs cells slots Q (F0 m pc ls (.ref (adC G g 10) :: rest)) := by
  obtain ⟨hx, hb, hr, hlocks, hml, hown, hts, hK⟩ := E
  obtain ⟨g0, rfl⟩ := pg_s hg
  exact kc_i (kc_runV (na := 0) (q := (RX2, TX2, 11)) hx hb hml hts hown hK hP (g0 + 1) 10 (dmP hg (by decide)) rfl rfl rfl (c_X2_howManyDrawn l hg hq) w1 w_419 w_420 w_4 w_421 (by decide +kernel) hR rfl hl rfl hrest hdg hcs) hS kk
/-! X2_howManyDrawnBy -/
abbrev rm_X2_howManyDrawnBy : Room := { frames := 1, cells := 0, slots := 0, locals := 20 }
def f_X2_howManyDrawnBy_b28 (g : Nat) (L4 : Int32 → Int32 → Int32 → Mem → Option (Int32 × Mem)) (x1 : Int32) (x3 : Int32) (s0 : Int32) (s1 : Int32) (M : Mem) : Option (Int32 × Mem) :=
ob (f_X7_asBit s1 M) fun r_28 M_28 =>
lt ((s0 + r_28)) fun x2_32 =>
lt (x3 + 1) fun x3_33 =>
L4 x1 x2_32 x3_33 M_28
def f_X2_howManyDrawnBy_b4 (g : Nat) : Nat → Int32 → Int32 → Int32 → Mem → Option (Int32 × Mem)
  | 0 => fun _ _ _ _ => none
  | fu + 1 => fun x1 x2 x3 M =>
(if (M g 10 0) ≤ x3 then
  some (x2, M)
else
  ck (ibd x3 16) <|
  (if (M g 17 (ix x3)) = x1 then
    f_X2_howManyDrawnBy_b28 g (f_X2_howManyDrawnBy_b4 g fu) x1 x3 x2 1 M
  else
    f_X2_howManyDrawnBy_b28 g (f_X2_howManyDrawnBy_b4 g fu) x1 x3 x2 0 M))
def f_X2_howManyDrawnBy (g : Nat) (x1 : Int32) (M : Mem) : Option (Int32 × Mem) :=
f_X2_howManyDrawnBy_b4 g 1000 x1 0 0 M
set_option maxHeartbeats 4000000 in
set_option maxRecDepth 100000 in
theorem w_X2_howManyDrawnBy_b28 {p : Program} {l : Launch} {e : Env} {s : State} {m : MethodId} {args : Array Value} {below : List Frame} {meth : Method} {c : Code} {G : GG} {sz : Nat} {ns : Nat} {g : Nat} {r : Int32} {M' : Mem} (E : Cx p s m args meth c cX2_howManyDrawnBy (some .int) 4 RX2 G) (hg : pg ns g) {L4 : Int32 → Int32 → Int32 → Mem → Option (Int32 × Mem)} (hL4 : ∀ (x1 : Int32) (x2 : Int32) (x3 : Int32) (M : Mem) (H : Heap) (locs : List Loc) (ls : Array Slot), L4 x1 x2 x3 M = some (r, M') → PW G (AC G) (XC G ns) sz M s H → va_S (AC G) s.heap H locs → lv_has ls 4 [(0, .ref (adC G g 10)), (1, .int x1), (2, .int x2), (3, .int x3)] → W p l e rm_X2_howManyDrawnBy s m args below meth c H locs 0 0 (MQ below (va_Qi (fun (r2 : Int32) (_ : Unit) => r2 = r) (fun _ t => PW G (AC G) (XC G ns) sz M' t t.heap) (AC G)) args s 0 0 (AC G)) (F0 m 4 ls [])) {x1 : Int32} {x3 : Int32} {s0 : Int32} {s1 : Int32} {M : Mem} {H : Heap} {locs : List Loc} {ls : Array Slot} (hf : f_X2_howManyDrawnBy_b28 g L4 x1 x3 s0 s1 M = some (r, M')) (hP : PW G (AC G) (XC G ns) sz M s H) (hS : va_S (AC G) s.heap H locs) (hl : lv_has ls 4 [(0, .ref (adC G g 10)), (1, .int x1), (3, .int x3)]) : W p l e rm_X2_howManyDrawnBy s m args below meth c H locs 0 0 (MQ below (va_Qi (fun (r2 : Int32) (_ : Unit) => r2 = r) (fun _ t => PW G (AC G) (XC G ns) sz M' t t.heap) (AC G)) args s 0 0 (AC G)) (F0 m 28 ls [.int s1, .int s0]) := by
  obtain ⟨hx, hb, hr, hlocks, hml, hown, hts, hK⟩ := id E
  unfold f_X2_howManyDrawnBy_b28 at hf
  refine ob_e hf (fun r_28 M_28 hq hf => ?_)
  refine cn_X7_asBit E hP hS hq w_426 ⟨Nat.le_of_ble_eq_true rfl, Nat.le_of_ble_eq_true rfl⟩ hl (Nat.le_of_ble_eq_true rfl) dX2_howManyDrawnBy_28 ⟨Nat.le_of_ble_eq_true rfl, Nat.le_of_ble_eq_true rfl⟩ (fun H locs hP hS => ?_)
  refine lv_iadd hx hb dX2_howManyDrawnBy_31 ?_
  refine lt_e hf (fun x2_32 hx2_32 hf => ?_)
  refine kr_nm hx2_32 ?_
  refine lv_istore_n (lv' := [(2, .int x2_32), (0, .ref (adC G g 10)), (1, .int x1), (3, .int x3)]) hx hb dX2_howManyDrawnBy_32 rfl hl (by decide) rfl (fun ls hl => ?_)
  refine lt_e hf (fun x3_33 hx3_33 hf => ?_)
  refine lv_iinc (v := x3_33) (lv' := [(3, .int x3_33), (2, .int x2_32), (0, .ref (adC G g 10)), (1, .int x1)]) hx hb dX2_howManyDrawnBy_33 hl (k := 3) rfl (by rw [hx3_33]; rfl) (by decide) rfl (fun ls hl => ?_)
  refine lv_goto (tgt := 4) hx hb dX2_howManyDrawnBy_36 (by decide) ?_
  exact hL4 _ _ _ _ _ _ _ hf hP hS (lv_sub hl [2, 3, 1, 0] rfl)
set_option maxHeartbeats 4000000 in
set_option maxRecDepth 100000 in
theorem w_X2_howManyDrawnBy_b4 {p : Program} {l : Launch} {e : Env} {s : State} {m : MethodId} {args : Array Value} {below : List Frame} {meth : Method} {c : Code} {G : GG} {sz : Nat} {ns : Nat} {g : Nat} {r : Int32} {M' : Mem} (E : Cx p s m args meth c cX2_howManyDrawnBy (some .int) 4 RX2 G) (hg : pg ns g) : ∀ fu : Nat, ∀ (x1 : Int32) (x2 : Int32) (x3 : Int32) (M : Mem) (H : Heap) (locs : List Loc) (ls : Array Slot), f_X2_howManyDrawnBy_b4 g fu x1 x2 x3 M = some (r, M') → PW G (AC G) (XC G ns) sz M s H → va_S (AC G) s.heap H locs → lv_has ls 4 [(0, .ref (adC G g 10)), (1, .int x1), (2, .int x2), (3, .int x3)] → W p l e rm_X2_howManyDrawnBy s m args below meth c H locs 0 0 (MQ below (va_Qi (fun (r2 : Int32) (_ : Unit) => r2 = r) (fun _ t => PW G (AC G) (XC G ns) sz M' t t.heap) (AC G)) args s 0 0 (AC G)) (F0 m 4 ls []) := by
  obtain ⟨hx, hb, hr, hlocks, hml, hown, hts, hK⟩ := id E
  intro fu
  induction fu with
  | zero => intro x1 x2 x3 M H locs ls hf hP hS hl; cases hf
  | succ fu ih =>
    intro x1 x2 x3 M H locs ls hf hP hS hl
    rw [f_X2_howManyDrawnBy_b4.eq_2] at hf
    refine lv_iload_n hx hb dX2_howManyDrawnBy_4 rfl (lv_at hl 3 rfl) ?_
    refine lv_aload_n hx hb dX2_howManyDrawnBy_5 rfl (lv_at hl 0 rfl) ?_
    refine gf_X2_many E hP hg w_85 dX2_howManyDrawnBy_6 ?_
    refine lv_icmp_ge (tgt := 39) hx hb dX2_howManyDrawnBy_9 (by decide) (fun hc => ?_) (fun hc => ?_)
    · have hf := if_t hf hc
      refine lv_iload_n hx hb dX2_howManyDrawnBy_39 rfl (lv_at hl 2 rfl) ?_
      exact en_i hf hx hb hr rfl hlocks hP hS dX2_howManyDrawnBy_40
    · have hf := if_f hf hc
      refine lv_iload_n hx hb dX2_howManyDrawnBy_12 rfl (lv_at hl 2 rfl) ?_
      refine lv_aload_n hx hb dX2_howManyDrawnBy_13 rfl (lv_at hl 0 rfl) ?_
      refine gf_X2_drawnBy E hP hg w_101 dX2_howManyDrawnBy_14 ?_
      refine lv_iload_n hx hb dX2_howManyDrawnBy_17 rfl (lv_at hl 3 rfl) ?_
      refine ck_e hf (fun hi hf => ?_)
      refine la_P17 E hP hg hi dX2_howManyDrawnBy_18 ?_
      refine lv_iload_n hx hb dX2_howManyDrawnBy_19 rfl (lv_at hl 1 rfl) ?_
      refine lv_icmp_ne (tgt := 27) hx hb dX2_howManyDrawnBy_20 (by decide) (fun hc => ?_) (fun hc => ?_)
      · have hf := if_f hf hc
        refine lv_iconst (v := 0) hx hb dX2_howManyDrawnBy_27 (by decide) ?_
        exact w_X2_howManyDrawnBy_b28 E hg ih hf hP hS (lv_sub hl [0, 1, 3] rfl)
      · have hf := if_t hf hc
        refine lv_iconst (v := 1) hx hb dX2_howManyDrawnBy_23 (by decide) ?_
        refine lv_goto (tgt := 28) hx hb dX2_howManyDrawnBy_24 (by decide) ?_
        exact w_X2_howManyDrawnBy_b28 E hg ih hf hP hS (lv_sub hl [0, 1, 3] rfl)
set_option maxHeartbeats 4000000 in
set_option maxRecDepth 100000 in
theorem w_X2_howManyDrawnBy {p : Program} {l : Launch} {e : Env} {s : State} {m : MethodId} {args : Array Value} {below : List Frame} {meth : Method} {c : Code} {G : GG} {sz : Nat} {ns : Nat} {g : Nat} {r : Int32} {M' : Mem} (E : Cx p s m args meth c cX2_howManyDrawnBy (some .int) 4 RX2 G) (hg : pg ns g) {x1 : Int32} {M : Mem} {H : Heap} {locs : List Loc} {ls : Array Slot} (hf : f_X2_howManyDrawnBy g x1 M = some (r, M')) (hP : PW G (AC G) (XC G ns) sz M s H) (hS : va_S (AC G) s.heap H locs) (hl : lv_has ls 4 [(0, .ref (adC G g 10)), (1, .int x1)]) : W p l e rm_X2_howManyDrawnBy s m args below meth c H locs 0 0 (MQ below (va_Qi (fun (r2 : Int32) (_ : Unit) => r2 = r) (fun _ t => PW G (AC G) (XC G ns) sz M' t t.heap) (AC G)) args s 0 0 (AC G)) (F0 m 0 ls []) := by
  obtain ⟨hx, hb, hr, hlocks, hml, hown, hts, hK⟩ := id E
  unfold f_X2_howManyDrawnBy at hf
  refine lv_iconst (v := 0) hx hb dX2_howManyDrawnBy_0 (by decide) ?_
  refine lv_istore_n (lv' := [(2, .int 0), (0, .ref (adC G g 10)), (1, .int x1)]) hx hb dX2_howManyDrawnBy_1 rfl hl (by decide) rfl (fun ls hl => ?_)
  refine lv_iconst (v := 0) hx hb dX2_howManyDrawnBy_2 (by decide) ?_
  refine lv_istore_n (lv' := [(3, .int 0), (2, .int 0), (0, .ref (adC G g 10)), (1, .int x1)]) hx hb dX2_howManyDrawnBy_3 rfl hl (by decide) rfl (fun ls hl => ?_)
  exact w_X2_howManyDrawnBy_b4 E hg 1000 _ _ _ _ _ _ _ hf hP hS (lv_sub hl [2, 3, 1, 0] rfl)
theorem c_X2_howManyDrawnBy (l : Launch) {G : GG} {sz : Nat} {ns : Nat} {g : Nat} (hg : pg ns g) {x1 : Int32} {M : Mem} {r : Int32} {M' : Mem} (hf : f_X2_howManyDrawnBy g x1 M = some (r, M')) : CtI l yX2_howManyDrawnBy cX2_howManyDrawnBy 4 (some .int) rm_X2_howManyDrawnBy [.ref (adC G g 10), .int x1] G (AC G) (XC G ns) sz M r (XC G ns) sz M' := by
  refine Ct_of (by decide) (Nat.le_of_ble_eq_true rfl) (fun p e s m below meth c ls hx hb hr hlocks hml hown hts hK hP hl => ?_)
  exact w_X2_howManyDrawnBy ⟨hx, hb, hr, hlocks, hml, hown, hts, hK⟩ hg hf hP va_S.rf hl
set_option maxRecDepth 100000 in
theorem cv_X2_howManyDrawnBy {p : Program} {l : Launch} {e : Env} {R : Room} {s : State} {m : MethodId} {args : Array Value} {below : List Frame} {meth : Method} {c : Code} {H : Heap} {locs : List Loc} {cells slots : Nat} {Q : State → Prop} {cc : ByteArray} {pc nL index : Nat} {ret : Option FieldType} {own : String} {ls : Array Slot} {rest : List Value} {l' : List (Nat × Value)} {G : GG} {sz : Nat} {ns : Nat} {g : Nat} {M : Mem} (E : Cx p s m args meth c cc ret nL own G) (hP : PW G (AC G) (XC G ns) sz M s H) (hS : va_S (AC G) s.heap H locs) (hg : pg ns g) {x1 : Int32} {r : Int32} {M' : Mem} (hq : f_X2_howManyDrawnBy g x1 M = some (r, M')) (w1 : Cond.methodLink own index yX2_howManyDrawnBy ∈ lw_all) (hR : 2 ≤ R.frames ∧ 43 ≤ R.locals) (hl : lv_has ls nL l') (hrest : (rest.map fun v => v.category).sum ≤ 8) (hdg : decode cc pc = .ok (.invokevirtual index, 3)) (hcs : cells ≤ R.cells ∧ slots ≤ R.slots)
    (kk : ∀ (H1 : Heap) (locs1 : List Loc), PW G (AC G) (XC G ns) sz M' s H1 → va_S (AC G) s.heap H1 locs1 → W p l e R s m args below meth c H1 locs1 cells slots Q (F0 m (pc + 3) ls (.int r :: rest))) : W p l e R s m args below meth c H locs cells slots Q (F0 m pc ls (.int x1 :: .ref (adC G g 10) :: rest)) := by
  obtain ⟨hx, hb, hr, hlocks, hml, hown, hts, hK⟩ := E
  obtain ⟨g0, rfl⟩ := pg_s hg
  exact kc_i (kc_runV (na := 1) (q := (RX2, TX2, 11)) hx hb hml hts hown hK hP (g0 + 1) 10 (dmP hg (by decide)) rfl rfl rfl (c_X2_howManyDrawnBy l hg hq) w1 w_480 w_481 w_4 w_482 (by decide +kernel) hR rfl hl rfl hrest hdg hcs) hS kk
/-! X2_isDrawnWithEnd -/
abbrev rm_X2_isDrawnWithEnd : Room := { frames := 1, cells := 0, slots := 0, locals := 21 }
def f_X2_isDrawnWithEnd_b53 (g : Nat) (s0 : Int32) (M : Mem) : Option (Int32 × Mem) :=
ck (bl s0) <|
some (s0, M)
def f_X2_isDrawnWithEnd_b52 (g : Nat) (M : Mem) : Option (Int32 × Mem) :=
f_X2_isDrawnWithEnd_b53 g 0 M
def f_X2_isDrawnWithEnd_b48 (g : Nat) (M : Mem) : Option (Int32 × Mem) :=
f_X2_isDrawnWithEnd_b53 g 1 M
def f_X2_isDrawnWithEnd_b28 (g : Nat) (x1 : Int32) (x2 : Int32) (x3 : Int32) (M : Mem) : Option (Int32 × Mem) :=
ck (ibd x1 16) <|
(if (M g 13 (ix x1)) = x2 then
  ck (ibd x1 16) <|
  (if (M g 14 (ix x1)) = x3 then
    f_X2_isDrawnWithEnd_b48 g M
  else
    f_X2_isDrawnWithEnd_b52 g M)
else
  f_X2_isDrawnWithEnd_b52 g M)
def f_X2_isDrawnWithEnd (g : Nat) (x1 : Int32) (x2 : Int32) (x3 : Int32) (M : Mem) : Option (Int32 × Mem) :=
ob (f_X2_isDrawn g x1 M) fun r_2 M_2 =>
(if r_2 = 0 then
  f_X2_isDrawnWithEnd_b52 g M_2
else
  ck (ibd x1 16) <|
  (if (M_2 g 11 (ix x1)) = x2 then
    ck (ibd x1 16) <|
    (if (M_2 g 12 (ix x1)) = x3 then
      f_X2_isDrawnWithEnd_b48 g M_2
    else
      f_X2_isDrawnWithEnd_b28 g x1 x2 x3 M_2)
  else
    f_X2_isDrawnWithEnd_b28 g x1 x2 x3 M_2))
set_option maxHeartbeats 4000000 in
set_option maxRecDepth 100000 in
theorem w_X2_isDrawnWithEnd_b53 {p : Program} {l : Launch} {e : Env} {s : State} {m : MethodId} {args : Array Value} {below : List Frame} {meth : Method} {c : Code} {G : GG} {sz : Nat} {ns : Nat} {g : Nat} {r : Int32} {M' : Mem} (E : Cx p s m args meth c cX2_isDrawnWithEnd (some .boolean) 4 RX2 G) (hg : pg ns g) {s0 : Int32} {M : Mem} {H : Heap} {locs : List Loc} {ls : Array Slot} (hf : f_X2_isDrawnWithEnd_b53 g s0 M = some (r, M')) (hP : PW G (AC G) (XC G ns) sz M s H) (hS : va_S (AC G) s.heap H locs) (hl : lv_has ls 4 []) : W p l e rm_X2_isDrawnWithEnd s m args below meth c H locs 0 0 (MQ below (va_Qi (fun (r2 : Int32) (_ : Unit) => r2 = r) (fun _ t => PW G (AC G) (XC G ns) sz M' t t.heap) (AC G)) args s 0 0 (AC G)) (F0 m 53 ls [.int s0]) := by
  obtain ⟨hx, hb, hr, hlocks, hml, hown, hts, hK⟩ := id E
  unfold f_X2_isDrawnWithEnd_b53 at hf
  refine ck_e hf (fun hn hf => ?_)
  exact en_i hf hx hb hr (bl_nar hn) hlocks hP hS dX2_isDrawnWithEnd_53
set_option maxHeartbeats 4000000 in
set_option maxRecDepth 100000 in
theorem w_X2_isDrawnWithEnd_b52 {p : Program} {l : Launch} {e : Env} {s : State} {m : MethodId} {args : Array Value} {below : List Frame} {meth : Method} {c : Code} {G : GG} {sz : Nat} {ns : Nat} {g : Nat} {r : Int32} {M' : Mem} (E : Cx p s m args meth c cX2_isDrawnWithEnd (some .boolean) 4 RX2 G) (hg : pg ns g) {M : Mem} {H : Heap} {locs : List Loc} {ls : Array Slot} (hf : f_X2_isDrawnWithEnd_b52 g M = some (r, M')) (hP : PW G (AC G) (XC G ns) sz M s H) (hS : va_S (AC G) s.heap H locs) (hl : lv_has ls 4 []) : W p l e rm_X2_isDrawnWithEnd s m args below meth c H locs 0 0 (MQ below (va_Qi (fun (r2 : Int32) (_ : Unit) => r2 = r) (fun _ t => PW G (AC G) (XC G ns) sz M' t t.heap) (AC G)) args s 0 0 (AC G)) (F0 m 52 ls []) := by
  obtain ⟨hx, hb, hr, hlocks, hml, hown, hts, hK⟩ := id E
  unfold f_X2_isDrawnWithEnd_b52 at hf
  refine lv_iconst (v := 0) hx hb dX2_isDrawnWithEnd_52 (by decide) ?_
  exact w_X2_isDrawnWithEnd_b53 E hg hf hP hS (lv_sub hl [] rfl)
set_option maxHeartbeats 4000000 in
set_option maxRecDepth 100000 in
theorem w_X2_isDrawnWithEnd_b48 {p : Program} {l : Launch} {e : Env} {s : State} {m : MethodId} {args : Array Value} {below : List Frame} {meth : Method} {c : Code} {G : GG} {sz : Nat} {ns : Nat} {g : Nat} {r : Int32} {M' : Mem} (E : Cx p s m args meth c cX2_isDrawnWithEnd (some .boolean) 4 RX2 G) (hg : pg ns g) {M : Mem} {H : Heap} {locs : List Loc} {ls : Array Slot} (hf : f_X2_isDrawnWithEnd_b48 g M = some (r, M')) (hP : PW G (AC G) (XC G ns) sz M s H) (hS : va_S (AC G) s.heap H locs) (hl : lv_has ls 4 []) : W p l e rm_X2_isDrawnWithEnd s m args below meth c H locs 0 0 (MQ below (va_Qi (fun (r2 : Int32) (_ : Unit) => r2 = r) (fun _ t => PW G (AC G) (XC G ns) sz M' t t.heap) (AC G)) args s 0 0 (AC G)) (F0 m 48 ls []) := by
  obtain ⟨hx, hb, hr, hlocks, hml, hown, hts, hK⟩ := id E
  unfold f_X2_isDrawnWithEnd_b48 at hf
  refine lv_iconst (v := 1) hx hb dX2_isDrawnWithEnd_48 (by decide) ?_
  refine lv_goto (tgt := 53) hx hb dX2_isDrawnWithEnd_49 (by decide) ?_
  exact w_X2_isDrawnWithEnd_b53 E hg hf hP hS (lv_sub hl [] rfl)
set_option maxHeartbeats 4000000 in
set_option maxRecDepth 100000 in
theorem w_X2_isDrawnWithEnd_b28 {p : Program} {l : Launch} {e : Env} {s : State} {m : MethodId} {args : Array Value} {below : List Frame} {meth : Method} {c : Code} {G : GG} {sz : Nat} {ns : Nat} {g : Nat} {r : Int32} {M' : Mem} (E : Cx p s m args meth c cX2_isDrawnWithEnd (some .boolean) 4 RX2 G) (hg : pg ns g) {x1 : Int32} {x2 : Int32} {x3 : Int32} {M : Mem} {H : Heap} {locs : List Loc} {ls : Array Slot} (hf : f_X2_isDrawnWithEnd_b28 g x1 x2 x3 M = some (r, M')) (hP : PW G (AC G) (XC G ns) sz M s H) (hS : va_S (AC G) s.heap H locs) (hl : lv_has ls 4 [(0, .ref (adC G g 10)), (1, .int x1), (2, .int x2), (3, .int x3)]) : W p l e rm_X2_isDrawnWithEnd s m args below meth c H locs 0 0 (MQ below (va_Qi (fun (r2 : Int32) (_ : Unit) => r2 = r) (fun _ t => PW G (AC G) (XC G ns) sz M' t t.heap) (AC G)) args s 0 0 (AC G)) (F0 m 28 ls []) := by
  obtain ⟨hx, hb, hr, hlocks, hml, hown, hts, hK⟩ := id E
  unfold f_X2_isDrawnWithEnd_b28 at hf
  refine lv_aload_n hx hb dX2_isDrawnWithEnd_28 rfl (lv_at hl 0 rfl) ?_
  refine gf_X2_x2 E hP hg w_92 dX2_isDrawnWithEnd_29 ?_
  refine lv_iload_n hx hb dX2_isDrawnWithEnd_32 rfl (lv_at hl 1 rfl) ?_
  refine ck_e hf (fun hi hf => ?_)
  refine la_P13 E hP hg hi dX2_isDrawnWithEnd_33 ?_
  refine lv_iload_n hx hb dX2_isDrawnWithEnd_34 rfl (lv_at hl 2 rfl) ?_
  refine lv_icmp_ne (tgt := 52) hx hb dX2_isDrawnWithEnd_35 (by decide) (fun hc => ?_) (fun hc => ?_)
  · have hf := if_f hf hc
    exact w_X2_isDrawnWithEnd_b52 E hg hf hP hS (lv_sub hl [] rfl)
  · have hf := if_t hf hc
    refine lv_aload_n hx hb dX2_isDrawnWithEnd_38 rfl (lv_at hl 0 rfl) ?_
    refine gf_X2_y2 E hP hg w_94 dX2_isDrawnWithEnd_39 ?_
    refine lv_iload_n hx hb dX2_isDrawnWithEnd_42 rfl (lv_at hl 1 rfl) ?_
    refine ck_e hf (fun hi hf => ?_)
    refine la_P14 E hP hg hi dX2_isDrawnWithEnd_43 ?_
    refine lv_iload_n hx hb dX2_isDrawnWithEnd_44 rfl (lv_at hl 3 rfl) ?_
    refine lv_icmp_ne (tgt := 52) hx hb dX2_isDrawnWithEnd_45 (by decide) (fun hc => ?_) (fun hc => ?_)
    · have hf := if_f hf hc
      exact w_X2_isDrawnWithEnd_b52 E hg hf hP hS (lv_sub hl [] rfl)
    · have hf := if_t hf hc
      exact w_X2_isDrawnWithEnd_b48 E hg hf hP hS (lv_sub hl [] rfl)
set_option maxHeartbeats 4000000 in
set_option maxRecDepth 100000 in
theorem w_X2_isDrawnWithEnd {p : Program} {l : Launch} {e : Env} {s : State} {m : MethodId} {args : Array Value} {below : List Frame} {meth : Method} {c : Code} {G : GG} {sz : Nat} {ns : Nat} {g : Nat} {r : Int32} {M' : Mem} (E : Cx p s m args meth c cX2_isDrawnWithEnd (some .boolean) 4 RX2 G) (hg : pg ns g) {x1 : Int32} {x2 : Int32} {x3 : Int32} {M : Mem} {H : Heap} {locs : List Loc} {ls : Array Slot} (hf : f_X2_isDrawnWithEnd g x1 x2 x3 M = some (r, M')) (hP : PW G (AC G) (XC G ns) sz M s H) (hS : va_S (AC G) s.heap H locs) (hl : lv_has ls 4 [(0, .ref (adC G g 10)), (1, .int x1), (2, .int x2), (3, .int x3)]) : W p l e rm_X2_isDrawnWithEnd s m args below meth c H locs 0 0 (MQ below (va_Qi (fun (r2 : Int32) (_ : Unit) => r2 = r) (fun _ t => PW G (AC G) (XC G ns) sz M' t t.heap) (AC G)) args s 0 0 (AC G)) (F0 m 0 ls []) := by
  obtain ⟨hx, hb, hr, hlocks, hml, hown, hts, hK⟩ := id E
  unfold f_X2_isDrawnWithEnd at hf
  refine lv_aload_n hx hb dX2_isDrawnWithEnd_0 rfl (lv_at hl 0 rfl) ?_
  refine lv_iload_n hx hb dX2_isDrawnWithEnd_1 rfl (lv_at hl 1 rfl) ?_
  refine ob_e hf (fun r_2 M_2 hq hf => ?_)
  refine cv_X2_isDrawn E hP hS hg hq w_422 ⟨Nat.le_of_ble_eq_true rfl, Nat.le_of_ble_eq_true rfl⟩ hl (Nat.le_of_ble_eq_true rfl) dX2_isDrawnWithEnd_2 ⟨Nat.le_of_ble_eq_true rfl, Nat.le_of_ble_eq_true rfl⟩ (fun H locs hP hS => ?_)
  refine lv_if_eq (tgt := 52) hx hb dX2_isDrawnWithEnd_5 (by decide) (fun hc => ?_) (fun hc => ?_)
  · have hf := if_t hf hc
    exact w_X2_isDrawnWithEnd_b52 E hg hf hP hS (lv_sub hl [] rfl)
  · have hf := if_f hf hc
    refine lv_aload_n hx hb dX2_isDrawnWithEnd_8 rfl (lv_at hl 0 rfl) ?_
    refine gf_X2_x E hP hg w_88 dX2_isDrawnWithEnd_9 ?_
    refine lv_iload_n hx hb dX2_isDrawnWithEnd_12 rfl (lv_at hl 1 rfl) ?_
    refine ck_e hf (fun hi hf => ?_)
    refine la_P11 E hP hg hi dX2_isDrawnWithEnd_13 ?_
    refine lv_iload_n hx hb dX2_isDrawnWithEnd_14 rfl (lv_at hl 2 rfl) ?_
    refine lv_icmp_ne (tgt := 28) hx hb dX2_isDrawnWithEnd_15 (by decide) (fun hc => ?_) (fun hc => ?_)
    · have hf := if_f hf hc
      exact w_X2_isDrawnWithEnd_b28 E hg hf hP hS (lv_sub hl [0, 1, 2, 3] rfl)
    · have hf := if_t hf hc
      refine lv_aload_n hx hb dX2_isDrawnWithEnd_18 rfl (lv_at hl 0 rfl) ?_
      refine gf_X2_y E hP hg w_90 dX2_isDrawnWithEnd_19 ?_
      refine lv_iload_n hx hb dX2_isDrawnWithEnd_22 rfl (lv_at hl 1 rfl) ?_
      refine ck_e hf (fun hi hf => ?_)
      refine la_P12 E hP hg hi dX2_isDrawnWithEnd_23 ?_
      refine lv_iload_n hx hb dX2_isDrawnWithEnd_24 rfl (lv_at hl 3 rfl) ?_
      refine lv_icmp_eq (tgt := 48) hx hb dX2_isDrawnWithEnd_25 (by decide) (fun hc => ?_) (fun hc => ?_)
      · have hf := if_t hf hc
        exact w_X2_isDrawnWithEnd_b48 E hg hf hP hS (lv_sub hl [] rfl)
      · have hf := if_f hf hc
        exact w_X2_isDrawnWithEnd_b28 E hg hf hP hS (lv_sub hl [0, 1, 2, 3] rfl)
theorem c_X2_isDrawnWithEnd (l : Launch) {G : GG} {sz : Nat} {ns : Nat} {g : Nat} (hg : pg ns g) {x1 : Int32} {x2 : Int32} {x3 : Int32} {M : Mem} {r : Int32} {M' : Mem} (hf : f_X2_isDrawnWithEnd g x1 x2 x3 M = some (r, M')) : CtI l yX2_isDrawnWithEnd cX2_isDrawnWithEnd 4 (some .boolean) rm_X2_isDrawnWithEnd [.ref (adC G g 10), .int x1, .int x2, .int x3] G (AC G) (XC G ns) sz M r (XC G ns) sz M' := by
  refine Ct_of (by decide) (Nat.le_of_ble_eq_true rfl) (fun p e s m below meth c ls hx hb hr hlocks hml hown hts hK hP hl => ?_)
  exact w_X2_isDrawnWithEnd ⟨hx, hb, hr, hlocks, hml, hown, hts, hK⟩ hg hf hP va_S.rf hl
set_option maxRecDepth 100000 in
theorem cv_X2_isDrawnWithEnd {p : Program} {l : Launch} {e : Env} {R : Room} {s : State} {m : MethodId} {args : Array Value} {below : List Frame} {meth : Method} {c : Code} {H : Heap} {locs : List Loc} {cells slots : Nat} {Q : State → Prop} {cc : ByteArray} {pc nL index : Nat} {ret : Option FieldType} {own : String} {ls : Array Slot} {rest : List Value} {l' : List (Nat × Value)} {G : GG} {sz : Nat} {ns : Nat} {g : Nat} {M : Mem} (E : Cx p s m args meth c cc ret nL own G) (hP : PW G (AC G) (XC G ns) sz M s H) (hS : va_S (AC G) s.heap H locs) (hg : pg ns g) {x1 : Int32} {x2 : Int32} {x3 : Int32} {r : Int32} {M' : Mem} (hq : f_X2_isDrawnWithEnd g x1 x2 x3 M = some (r, M')) (w1 : Cond.methodLink own index yX2_isDrawnWithEnd ∈ lw_all) (hR : 2 ≤ R.frames ∧ 44 ≤ R.locals) (hl : lv_has ls nL l') (hrest : (rest.map fun v => v.category).sum ≤ 8) (hdg : decode cc pc = .ok (.invokevirtual index, 3)) (hcs : cells ≤ R.cells ∧ slots ≤ R.slots)
    (kk : ∀ (H1 : Heap) (locs1 : List Loc), PW G (AC G) (XC G ns) sz M' s H1 → va_S (AC G) s.heap H1 locs1 → W p l e R s m args below meth c H1 locs1 cells slots Q (F0 m (pc + 3) ls (.int r :: rest))) : W p l e R s m args below meth c H locs cells slots Q (F0 m pc ls (.int x3 :: .int x2 :: .int x1 :: .ref (adC G g 10) :: rest)) := by
  obtain ⟨hx, hb, hr, hlocks, hml, hown, hts, hK⟩ := E
  obtain ⟨g0, rfl⟩ := pg_s hg
  exact kc_i (kc_runV (na := 3) (q := (RX2, TX2, 11)) hx hb hml hts hown hK hP (g0 + 1) 10 (dmP hg (by decide)) rfl rfl rfl (c_X2_isDrawnWithEnd l hg hq) w1 w_555 ws_5 w_4 w_556 (by decide +kernel) hR rfl hl rfl hrest hdg hcs) hS kk
/-! X2_firstDrawnWithEnd -/
abbrev rm_X2_firstDrawnWithEnd : Room := { frames := 2, cells := 0, slots := 0, locals := 44 }
def f_X2_firstDrawnWithEnd_b2 (g : Nat) : Nat → Int32 → Int32 → Int32 → Mem → Option (Int32 × Mem)
  | 0 => fun _ _ _ _ => none
  | fu + 1 => fun x1 x2 x3 M =>
(if (M g 10 0) ≤ x3 then
  some ((-1), M)
else
  ob (f_X2_isDrawnWithEnd g x3 x1 x2 M) fun r_14 M_14 =>
  (if r_14 = 0 then
    lt (x3 + 1) fun x3_22 =>
    f_X2_firstDrawnWithEnd_b2 g fu x1 x2 x3_22 M_14
  else
    some (x3, M_14)))
def f_X2_firstDrawnWithEnd (g : Nat) (x1 : Int32) (x2 : Int32) (M : Mem) : Option (Int32 × Mem) :=
f_X2_firstDrawnWithEnd_b2 g 1000 x1 x2 0 M
set_option maxHeartbeats 4000000 in
set_option maxRecDepth 100000 in
theorem w_X2_firstDrawnWithEnd_b2 {p : Program} {l : Launch} {e : Env} {s : State} {m : MethodId} {args : Array Value} {below : List Frame} {meth : Method} {c : Code} {G : GG} {sz : Nat} {ns : Nat} {g : Nat} {r : Int32} {M' : Mem} (E : Cx p s m args meth c cX2_firstDrawnWithEnd (some .int) 4 RX2 G) (hg : pg ns g) : ∀ fu : Nat, ∀ (x1 : Int32) (x2 : Int32) (x3 : Int32) (M : Mem) (H : Heap) (locs : List Loc) (ls : Array Slot), f_X2_firstDrawnWithEnd_b2 g fu x1 x2 x3 M = some (r, M') → PW G (AC G) (XC G ns) sz M s H → va_S (AC G) s.heap H locs → lv_has ls 4 [(0, .ref (adC G g 10)), (1, .int x1), (2, .int x2), (3, .int x3)] → W p l e rm_X2_firstDrawnWithEnd s m args below meth c H locs 0 0 (MQ below (va_Qi (fun (r2 : Int32) (_ : Unit) => r2 = r) (fun _ t => PW G (AC G) (XC G ns) sz M' t t.heap) (AC G)) args s 0 0 (AC G)) (F0 m 2 ls []) := by
  obtain ⟨hx, hb, hr, hlocks, hml, hown, hts, hK⟩ := id E
  intro fu
  induction fu with
  | zero => intro x1 x2 x3 M H locs ls hf hP hS hl; cases hf
  | succ fu ih =>
    intro x1 x2 x3 M H locs ls hf hP hS hl
    rw [f_X2_firstDrawnWithEnd_b2.eq_2] at hf
    refine lv_iload_n hx hb dX2_firstDrawnWithEnd_2 rfl (lv_at hl 3 rfl) ?_
    refine lv_aload_n hx hb dX2_firstDrawnWithEnd_3 rfl (lv_at hl 0 rfl) ?_
    refine gf_X2_many E hP hg w_85 dX2_firstDrawnWithEnd_4 ?_
    refine lv_icmp_ge (tgt := 28) hx hb dX2_firstDrawnWithEnd_7 (by decide) (fun hc => ?_) (fun hc => ?_)
    · have hf := if_t hf hc
      refine lv_iconst (v := (-1)) hx hb dX2_firstDrawnWithEnd_28 (by decide) ?_
      exact en_i hf hx hb hr rfl hlocks hP hS dX2_firstDrawnWithEnd_29
    · have hf := if_f hf hc
      refine lv_aload_n hx hb dX2_firstDrawnWithEnd_10 rfl (lv_at hl 0 rfl) ?_
      refine lv_iload_n hx hb dX2_firstDrawnWithEnd_11 rfl (lv_at hl 3 rfl) ?_
      refine lv_iload_n hx hb dX2_firstDrawnWithEnd_12 rfl (lv_at hl 1 rfl) ?_
      refine lv_iload_n hx hb dX2_firstDrawnWithEnd_13 rfl (lv_at hl 2 rfl) ?_
      refine ob_e hf (fun r_14 M_14 hq hf => ?_)
      refine cv_X2_isDrawnWithEnd E hP hS hg hq w_553 ⟨Nat.le_of_ble_eq_true rfl, Nat.le_of_ble_eq_true rfl⟩ hl (Nat.le_of_ble_eq_true rfl) dX2_firstDrawnWithEnd_14 ⟨Nat.le_of_ble_eq_true rfl, Nat.le_of_ble_eq_true rfl⟩ (fun H locs hP hS => ?_)
      refine lv_if_eq (tgt := 22) hx hb dX2_firstDrawnWithEnd_17 (by decide) (fun hc => ?_) (fun hc => ?_)
      · have hf := if_t hf hc
        refine lt_e hf (fun x3_22 hx3_22 hf => ?_)
        refine lv_iinc (v := x3_22) (lv' := [(3, .int x3_22), (0, .ref (adC G g 10)), (1, .int x1), (2, .int x2)]) hx hb dX2_firstDrawnWithEnd_22 hl (k := 3) rfl (by rw [hx3_22]; rfl) (by decide) rfl (fun ls hl => ?_)
        refine lv_goto (tgt := 2) hx hb dX2_firstDrawnWithEnd_25 (by decide) ?_
        exact ih _ _ _ _ _ _ _ hf hP hS (lv_sub hl [1, 2, 3, 0] rfl)
      · have hf := if_f hf hc
        refine lv_iload_n hx hb dX2_firstDrawnWithEnd_20 rfl (lv_at hl 3 rfl) ?_
        exact en_i hf hx hb hr rfl hlocks hP hS dX2_firstDrawnWithEnd_21
set_option maxHeartbeats 4000000 in
set_option maxRecDepth 100000 in
theorem w_X2_firstDrawnWithEnd {p : Program} {l : Launch} {e : Env} {s : State} {m : MethodId} {args : Array Value} {below : List Frame} {meth : Method} {c : Code} {G : GG} {sz : Nat} {ns : Nat} {g : Nat} {r : Int32} {M' : Mem} (E : Cx p s m args meth c cX2_firstDrawnWithEnd (some .int) 4 RX2 G) (hg : pg ns g) {x1 : Int32} {x2 : Int32} {M : Mem} {H : Heap} {locs : List Loc} {ls : Array Slot} (hf : f_X2_firstDrawnWithEnd g x1 x2 M = some (r, M')) (hP : PW G (AC G) (XC G ns) sz M s H) (hS : va_S (AC G) s.heap H locs) (hl : lv_has ls 4 [(0, .ref (adC G g 10)), (1, .int x1), (2, .int x2)]) : W p l e rm_X2_firstDrawnWithEnd s m args below meth c H locs 0 0 (MQ below (va_Qi (fun (r2 : Int32) (_ : Unit) => r2 = r) (fun _ t => PW G (AC G) (XC G ns) sz M' t t.heap) (AC G)) args s 0 0 (AC G)) (F0 m 0 ls []) := by
  obtain ⟨hx, hb, hr, hlocks, hml, hown, hts, hK⟩ := id E
  unfold f_X2_firstDrawnWithEnd at hf
  refine lv_iconst (v := 0) hx hb dX2_firstDrawnWithEnd_0 (by decide) ?_
  refine lv_istore_n (lv' := [(3, .int 0), (0, .ref (adC G g 10)), (1, .int x1), (2, .int x2)]) hx hb dX2_firstDrawnWithEnd_1 rfl hl (by decide) rfl (fun ls hl => ?_)
  exact w_X2_firstDrawnWithEnd_b2 E hg 1000 _ _ _ _ _ _ _ hf hP hS (lv_sub hl [1, 2, 3, 0] rfl)
theorem c_X2_firstDrawnWithEnd (l : Launch) {G : GG} {sz : Nat} {ns : Nat} {g : Nat} (hg : pg ns g) {x1 : Int32} {x2 : Int32} {M : Mem} {r : Int32} {M' : Mem} (hf : f_X2_firstDrawnWithEnd g x1 x2 M = some (r, M')) : CtI l yX2_firstDrawnWithEnd cX2_firstDrawnWithEnd 4 (some .int) rm_X2_firstDrawnWithEnd [.ref (adC G g 10), .int x1, .int x2] G (AC G) (XC G ns) sz M r (XC G ns) sz M' := by
  refine Ct_of (by decide) (Nat.le_of_ble_eq_true rfl) (fun p e s m below meth c ls hx hb hr hlocks hml hown hts hK hP hl => ?_)
  exact w_X2_firstDrawnWithEnd ⟨hx, hb, hr, hlocks, hml, hown, hts, hK⟩ hg hf hP va_S.rf hl
set_option maxRecDepth 100000 in
theorem cv_X2_firstDrawnWithEnd {p : Program} {l : Launch} {e : Env} {R : Room} {s : State} {m : MethodId} {args : Array Value} {below : List Frame} {meth : Method} {c : Code} {H : Heap} {locs : List Loc} {cells slots : Nat} {Q : State → Prop} {cc : ByteArray} {pc nL index : Nat} {ret : Option FieldType} {own : String} {ls : Array Slot} {rest : List Value} {l' : List (Nat × Value)} {G : GG} {sz : Nat} {ns : Nat} {g : Nat} {M : Mem} (E : Cx p s m args meth c cc ret nL own G) (hP : PW G (AC G) (XC G ns) sz M s H) (hS : va_S (AC G) s.heap H locs) (hg : pg ns g) {x1 : Int32} {x2 : Int32} {r : Int32} {M' : Mem} (hq : f_X2_firstDrawnWithEnd g x1 x2 M = some (r, M')) (w1 : Cond.methodLink own index yX2_firstDrawnWithEnd ∈ lw_all) (hR : 3 ≤ R.frames ∧ 67 ≤ R.locals) (hl : lv_has ls nL l') (hrest : (rest.map fun v => v.category).sum ≤ 8) (hdg : decode cc pc = .ok (.invokevirtual index, 3)) (hcs : cells ≤ R.cells ∧ slots ≤ R.slots)
    (kk : ∀ (H1 : Heap) (locs1 : List Loc), PW G (AC G) (XC G ns) sz M' s H1 → va_S (AC G) s.heap H1 locs1 → W p l e R s m args below meth c H1 locs1 cells slots Q (F0 m (pc + 3) ls (.int r :: rest))) : W p l e R s m args below meth c H locs cells slots Q (F0 m pc ls (.int x2 :: .int x1 :: .ref (adC G g 10) :: rest)) := by
  obtain ⟨hx, hb, hr, hlocks, hml, hown, hts, hK⟩ := E
  obtain ⟨g0, rfl⟩ := pg_s hg
  exact kc_i (kc_runV (na := 2) (q := (RX2, TX2, 11)) hx hb hml hts hown hK hP (g0 + 1) 10 (dmP hg (by decide)) rfl rfl rfl (c_X2_firstDrawnWithEnd l hg hq) w1 w_551 ws_4 w_4 w_552 (by decide +kernel) hR rfl hl rfl hrest hdg hcs) hS kk
/-! X2_endsThereByAnother -/
abbrev rm_X2_endsThereByAnother : Room := { frames := 2, cells := 0, slots := 0, locals := 44 }
def f_X2_endsThereByAnother_b36 (g : Nat) (L3 : Int32 → Int32 → Int32 → Int32 → Mem → Option (Int32 × Mem)) (x1 : Int32) (x2 : Int32) (x3 : Int32) (x4 : Int32) (M : Mem) : Option (Int32 × Mem) :=
lt (x4 + 1) fun x4_36 =>
L3 x1 x2 x3 x4_36 M
def f_X2_endsThereByAnother_b3 (g : Nat) : Nat → Int32 → Int32 → Int32 → Int32 → Mem → Option (Int32 × Mem)
  | 0 => fun _ _ _ _ _ => none
  | fu + 1 => fun x1 x2 x3 x4 M =>
(if (M g 10 0) ≤ x4 then
  some (0, M)
else
  ob (f_X2_isDrawnWithEnd g x4 x1 x2 M) fun r_17 M_17 =>
  (if r_17 = 0 then
    f_X2_endsThereByAnother_b36 g (f_X2_endsThereByAnother_b3 g fu) x1 x2 x3 x4 M_17
  else
    ck (ibd x4 16) <|
    (if (M_17 g 17 (ix x4)) = x3 then
      f_X2_endsThereByAnother_b36 g (f_X2_endsThereByAnother_b3 g fu) x1 x2 x3 x4 M_17
    else
      some (1, M_17))))
def f_X2_endsThereByAnother (g : Nat) (x1 : Int32) (x2 : Int32) (x3 : Int32) (M : Mem) : Option (Int32 × Mem) :=
f_X2_endsThereByAnother_b3 g 1000 x1 x2 x3 0 M
set_option maxHeartbeats 4000000 in
set_option maxRecDepth 100000 in
theorem w_X2_endsThereByAnother_b36 {p : Program} {l : Launch} {e : Env} {s : State} {m : MethodId} {args : Array Value} {below : List Frame} {meth : Method} {c : Code} {G : GG} {sz : Nat} {ns : Nat} {g : Nat} {r : Int32} {M' : Mem} (E : Cx p s m args meth c cX2_endsThereByAnother (some .boolean) 5 RX2 G) (hg : pg ns g) {L3 : Int32 → Int32 → Int32 → Int32 → Mem → Option (Int32 × Mem)} (hL3 : ∀ (x1 : Int32) (x2 : Int32) (x3 : Int32) (x4 : Int32) (M : Mem) (H : Heap) (locs : List Loc) (ls : Array Slot), L3 x1 x2 x3 x4 M = some (r, M') → PW G (AC G) (XC G ns) sz M s H → va_S (AC G) s.heap H locs → lv_has ls 5 [(0, .ref (adC G g 10)), (1, .int x1), (2, .int x2), (3, .int x3), (4, .int x4)] → W p l e rm_X2_endsThereByAnother s m args below meth c H locs 0 0 (MQ below (va_Qi (fun (r2 : Int32) (_ : Unit) => r2 = r) (fun _ t => PW G (AC G) (XC G ns) sz M' t t.heap) (AC G)) args s 0 0 (AC G)) (F0 m 3 ls [])) {x1 : Int32} {x2 : Int32} {x3 : Int32} {x4 : Int32} {M : Mem} {H : Heap} {locs : List Loc} {ls : Array Slot} (hf : f_X2_endsThereByAnother_b36 g L3 x1 x2 x3 x4 M = some (r, M')) (hP : PW G (AC G) (XC G ns) sz M s H) (hS : va_S (AC G) s.heap H locs) (hl : lv_has ls 5 [(0, .ref (adC G g 10)), (1, .int x1), (2, .int x2), (3, .int x3), (4, .int x4)]) : W p l e rm_X2_endsThereByAnother s m args below meth c H locs 0 0 (MQ below (va_Qi (fun (r2 : Int32) (_ : Unit) => r2 = r) (fun _ t => PW G (AC G) (XC G ns) sz M' t t.heap) (AC G)) args s 0 0 (AC G)) (F0 m 36 ls []) := by
  obtain ⟨hx, hb, hr, hlocks, hml, hown, hts, hK⟩ := id E
  unfold f_X2_endsThereByAnother_b36 at hf
  refine lt_e hf (fun x4_36 hx4_36 hf => ?_)
  refine lv_iinc (v := x4_36) (lv' := [(4, .int x4_36), (0, .ref (adC G g 10)), (1, .int x1), (2, .int x2), (3, .int x3)]) hx hb dX2_endsThereByAnother_36 hl (k := 4) rfl (by rw [hx4_36]; rfl) (by decide) rfl (fun ls hl => ?_)
  refine lv_goto (tgt := 3) hx hb dX2_endsThereByAnother_39 (by decide) ?_
  exact hL3 _ _ _ _ _ _ _ _ hf hP hS (lv_sub hl [1, 2, 3, 4, 0] rfl)
set_option maxHeartbeats 4000000 in
set_option maxRecDepth 100000 in
theorem w_X2_endsThereByAnother_b3 {p : Program} {l : Launch} {e : Env} {s : State} {m : MethodId} {args : Array Value} {below : List Frame} {meth : Method} {c : Code} {G : GG} {sz : Nat} {ns : Nat} {g : Nat} {r : Int32} {M' : Mem} (E : Cx p s m args meth c cX2_endsThereByAnother (some .boolean) 5 RX2 G) (hg : pg ns g) : ∀ fu : Nat, ∀ (x1 : Int32) (x2 : Int32) (x3 : Int32) (x4 : Int32) (M : Mem) (H : Heap) (locs : List Loc) (ls : Array Slot), f_X2_endsThereByAnother_b3 g fu x1 x2 x3 x4 M = some (r, M') → PW G (AC G) (XC G ns) sz M s H → va_S (AC G) s.heap H locs → lv_has ls 5 [(0, .ref (adC G g 10)), (1, .int x1), (2, .int x2), (3, .int x3), (4, .int x4)] → W p l e rm_X2_endsThereByAnother s m args below meth c H locs 0 0 (MQ below (va_Qi (fun (r2 : Int32) (_ : Unit) => r2 = r) (fun _ t => PW G (AC G) (XC G ns) sz M' t t.heap) (AC G)) args s 0 0 (AC G)) (F0 m 3 ls []) := by
  obtain ⟨hx, hb, hr, hlocks, hml, hown, hts, hK⟩ := id E
  intro fu
  induction fu with
  | zero => intro x1 x2 x3 x4 M H locs ls hf hP hS hl; cases hf
  | succ fu ih =>
    intro x1 x2 x3 x4 M H locs ls hf hP hS hl
    rw [f_X2_endsThereByAnother_b3.eq_2] at hf
    refine lv_iload hx hb dX2_endsThereByAnother_3 (lv_at hl 4 rfl) ?_
    refine lv_aload_n hx hb dX2_endsThereByAnother_5 rfl (lv_at hl 0 rfl) ?_
    refine gf_X2_many E hP hg w_85 dX2_endsThereByAnother_6 ?_
    refine lv_icmp_ge (tgt := 42) hx hb dX2_endsThereByAnother_9 (by decide) (fun hc => ?_) (fun hc => ?_)
    · have hf := if_t hf hc
      refine lv_iconst (v := 0) hx hb dX2_endsThereByAnother_42 (by decide) ?_
      exact en_i hf hx hb hr rfl hlocks hP hS dX2_endsThereByAnother_43
    · have hf := if_f hf hc
      refine lv_aload_n hx hb dX2_endsThereByAnother_12 rfl (lv_at hl 0 rfl) ?_
      refine lv_iload hx hb dX2_endsThereByAnother_13 (lv_at hl 4 rfl) ?_
      refine lv_iload_n hx hb dX2_endsThereByAnother_15 rfl (lv_at hl 1 rfl) ?_
      refine lv_iload_n hx hb dX2_endsThereByAnother_16 rfl (lv_at hl 2 rfl) ?_
      refine ob_e hf (fun r_17 M_17 hq hf => ?_)
      refine cv_X2_isDrawnWithEnd E hP hS hg hq w_553 ⟨Nat.le_of_ble_eq_true rfl, Nat.le_of_ble_eq_true rfl⟩ hl (Nat.le_of_ble_eq_true rfl) dX2_endsThereByAnother_17 ⟨Nat.le_of_ble_eq_true rfl, Nat.le_of_ble_eq_true rfl⟩ (fun H locs hP hS => ?_)
      refine lv_if_eq (tgt := 36) hx hb dX2_endsThereByAnother_20 (by decide) (fun hc => ?_) (fun hc => ?_)
      · have hf := if_t hf hc
        exact w_X2_endsThereByAnother_b36 E hg ih hf hP hS (lv_sub hl [0, 1, 2, 3, 4] rfl)
      · have hf := if_f hf hc
        refine lv_aload_n hx hb dX2_endsThereByAnother_23 rfl (lv_at hl 0 rfl) ?_
        refine gf_X2_drawnBy E hP hg w_101 dX2_endsThereByAnother_24 ?_
        refine lv_iload hx hb dX2_endsThereByAnother_27 (lv_at hl 4 rfl) ?_
        refine ck_e hf (fun hi hf => ?_)
        refine la_P17 E hP hg hi dX2_endsThereByAnother_29 ?_
        refine lv_iload_n hx hb dX2_endsThereByAnother_30 rfl (lv_at hl 3 rfl) ?_
        refine lv_icmp_eq (tgt := 36) hx hb dX2_endsThereByAnother_31 (by decide) (fun hc => ?_) (fun hc => ?_)
        · have hf := if_t hf hc
          exact w_X2_endsThereByAnother_b36 E hg ih hf hP hS (lv_sub hl [0, 1, 2, 3, 4] rfl)
        · have hf := if_f hf hc
          refine lv_iconst (v := 1) hx hb dX2_endsThereByAnother_34 (by decide) ?_
          exact en_i hf hx hb hr rfl hlocks hP hS dX2_endsThereByAnother_35
set_option maxHeartbeats 4000000 in
set_option maxRecDepth 100000 in
theorem w_X2_endsThereByAnother {p : Program} {l : Launch} {e : Env} {s : State} {m : MethodId} {args : Array Value} {below : List Frame} {meth : Method} {c : Code} {G : GG} {sz : Nat} {ns : Nat} {g : Nat} {r : Int32} {M' : Mem} (E : Cx p s m args meth c cX2_endsThereByAnother (some .boolean) 5 RX2 G) (hg : pg ns g) {x1 : Int32} {x2 : Int32} {x3 : Int32} {M : Mem} {H : Heap} {locs : List Loc} {ls : Array Slot} (hf : f_X2_endsThereByAnother g x1 x2 x3 M = some (r, M')) (hP : PW G (AC G) (XC G ns) sz M s H) (hS : va_S (AC G) s.heap H locs) (hl : lv_has ls 5 [(0, .ref (adC G g 10)), (1, .int x1), (2, .int x2), (3, .int x3)]) : W p l e rm_X2_endsThereByAnother s m args below meth c H locs 0 0 (MQ below (va_Qi (fun (r2 : Int32) (_ : Unit) => r2 = r) (fun _ t => PW G (AC G) (XC G ns) sz M' t t.heap) (AC G)) args s 0 0 (AC G)) (F0 m 0 ls []) := by
  obtain ⟨hx, hb, hr, hlocks, hml, hown, hts, hK⟩ := id E
  unfold f_X2_endsThereByAnother at hf
  refine lv_iconst (v := 0) hx hb dX2_endsThereByAnother_0 (by decide) ?_
  refine lv_istore (lv' := [(4, .int 0), (0, .ref (adC G g 10)), (1, .int x1), (2, .int x2), (3, .int x3)]) hx hb dX2_endsThereByAnother_1 hl (by decide) rfl (fun ls hl => ?_)
  exact w_X2_endsThereByAnother_b3 E hg 1000 _ _ _ _ _ _ _ _ hf hP hS (lv_sub hl [1, 2, 3, 4, 0] rfl)
theorem c_X2_endsThereByAnother (l : Launch) {G : GG} {sz : Nat} {ns : Nat} {g : Nat} (hg : pg ns g) {x1 : Int32} {x2 : Int32} {x3 : Int32} {M : Mem} {r : Int32} {M' : Mem} (hf : f_X2_endsThereByAnother g x1 x2 x3 M = some (r, M')) : CtI l yX2_endsThereByAnother cX2_endsThereByAnother 5 (some .boolean) rm_X2_endsThereByAnother [.ref (adC G g 10), .int x1, .int x2, .int x3] G (AC G) (XC G ns) sz M r (XC G ns) sz M' := by
  refine Ct_of (by decide) (Nat.le_of_ble_eq_true rfl) (fun p e s m below meth c ls hx hb hr hlocks hml hown hts hK hP hl => ?_)
  exact w_X2_endsThereByAnother ⟨hx, hb, hr, hlocks, hml, hown, hts, hK⟩ hg hf hP va_S.rf hl
set_option maxRecDepth 100000 in
theorem cv_X2_endsThereByAnother {p : Program} {l : Launch} {e : Env} {R : Room} {s : State} {m : MethodId} {args : Array Value} {below : List Frame} {meth : Method} {c : Code} {H : Heap} {locs : List Loc} {cells slots : Nat} {Q : State → Prop} {cc : ByteArray} {pc nL index : Nat} {ret : Option FieldType} {own : String} {ls : Array Slot} {rest : List Value} {l' : List (Nat × Value)} {G : GG} {sz : Nat} {ns : Nat} {g : Nat} {M : Mem} (E : Cx p s m args meth c cc ret nL own G) (hP : PW G (AC G) (XC G ns) sz M s H) (hS : va_S (AC G) s.heap H locs) (hg : pg ns g) {x1 : Int32} {x2 : Int32} {x3 : Int32} {r : Int32} {M' : Mem} (hq : f_X2_endsThereByAnother g x1 x2 x3 M = some (r, M')) (w1 : Cond.methodLink own index yX2_endsThereByAnother ∈ lw_all) (hR : 3 ≤ R.frames ∧ 68 ≤ R.locals) (hl : lv_has ls nL l') (hrest : (rest.map fun v => v.category).sum ≤ 8) (hdg : decode cc pc = .ok (.invokevirtual index, 3)) (hcs : cells ≤ R.cells ∧ slots ≤ R.slots)
    (kk : ∀ (H1 : Heap) (locs1 : List Loc), PW G (AC G) (XC G ns) sz M' s H1 → va_S (AC G) s.heap H1 locs1 → W p l e R s m args below meth c H1 locs1 cells slots Q (F0 m (pc + 3) ls (.int r :: rest))) : W p l e R s m args below meth c H locs cells slots Q (F0 m pc ls (.int x3 :: .int x2 :: .int x1 :: .ref (adC G g 10) :: rest)) := by
  obtain ⟨hx, hb, hr, hlocks, hml, hown, hts, hK⟩ := E
  obtain ⟨g0, rfl⟩ := pg_s hg
  exact kc_i (kc_runV (na := 3) (q := (RX2, TX2, 11)) hx hb hml hts hown hK hP (g0 + 1) 10 (dmP hg (by decide)) rfl rfl rfl (c_X2_endsThereByAnother l hg hq) w1 w_563 ws_7 w_4 w_564 (by decide +kernel) hR rfl hl rfl hrest hdg hcs) hS kk
/-! X2_isSeam -/
abbrev rm_X2_isSeam : Room := { frames := 3, cells := 0, slots := 0, locals := 68 }
def f_X2_isSeam_b32 (g : Nat) (s0 : Int32) (M : Mem) : Option (Int32 × Mem) :=
ck (bl s0) <|
some (s0, M)
def f_X2_isSeam_b31 (g : Nat) (M : Mem) : Option (Int32 × Mem) :=
f_X2_isSeam_b32 g 0 M
def f_X2_isSeam (g : Nat) (x1 : Int32) (x2 : Int32) (M : Mem) : Option (Int32 × Mem) :=
ob (f_X2_firstDrawnWithEnd g x1 x2 M) fun r_3 M_3 =>
(if r_3 = (-1) then
  f_X2_isSeam_b31 g M_3
else
  ck (ibd r_3 16) <|
  ob (f_X2_endsThereByAnother g x1 x2 (M_3 g 17 (ix r_3)) M_3) fun r_21 M_21 =>
  (if r_21 = 0 then
    f_X2_isSeam_b31 g M_21
  else
    f_X2_isSeam_b32 g 1 M_21))
set_option maxHeartbeats 4000000 in
set_option maxRecDepth 100000 in
theorem w_X2_isSeam_b32 {p : Program} {l : Launch} {e : Env} {s : State} {m : MethodId} {args : Array Value} {below : List Frame} {meth : Method} {c : Code} {G : GG} {sz : Nat} {ns : Nat} {g : Nat} {r : Int32} {M' : Mem} (E : Cx p s m args meth c cX2_isSeam (some .boolean) 4 RX2 G) (hg : pg ns g) {s0 : Int32} {M : Mem} {H : Heap} {locs : List Loc} {ls : Array Slot} (hf : f_X2_isSeam_b32 g s0 M = some (r, M')) (hP : PW G (AC G) (XC G ns) sz M s H) (hS : va_S (AC G) s.heap H locs) (hl : lv_has ls 4 []) : W p l e rm_X2_isSeam s m args below meth c H locs 0 0 (MQ below (va_Qi (fun (r2 : Int32) (_ : Unit) => r2 = r) (fun _ t => PW G (AC G) (XC G ns) sz M' t t.heap) (AC G)) args s 0 0 (AC G)) (F0 m 32 ls [.int s0]) := by
  obtain ⟨hx, hb, hr, hlocks, hml, hown, hts, hK⟩ := id E
  unfold f_X2_isSeam_b32 at hf
  refine ck_e hf (fun hn hf => ?_)
  exact en_i hf hx hb hr (bl_nar hn) hlocks hP hS dX2_isSeam_32
set_option maxHeartbeats 4000000 in
set_option maxRecDepth 100000 in
theorem w_X2_isSeam_b31 {p : Program} {l : Launch} {e : Env} {s : State} {m : MethodId} {args : Array Value} {below : List Frame} {meth : Method} {c : Code} {G : GG} {sz : Nat} {ns : Nat} {g : Nat} {r : Int32} {M' : Mem} (E : Cx p s m args meth c cX2_isSeam (some .boolean) 4 RX2 G) (hg : pg ns g) {M : Mem} {H : Heap} {locs : List Loc} {ls : Array Slot} (hf : f_X2_isSeam_b31 g M = some (r, M')) (hP : PW G (AC G) (XC G ns) sz M s H) (hS : va_S (AC G) s.heap H locs) (hl : lv_has ls 4 []) : W p l e rm_X2_isSeam s m args below meth c H locs 0 0 (MQ below (va_Qi (fun (r2 : Int32) (_ : Unit) => r2 = r) (fun _ t => PW G (AC G) (XC G ns) sz M' t t.heap) (AC G)) args s 0 0 (AC G)) (F0 m 31 ls []) := by
  obtain ⟨hx, hb, hr, hlocks, hml, hown, hts, hK⟩ := id E
  unfold f_X2_isSeam_b31 at hf
  refine lv_iconst (v := 0) hx hb dX2_isSeam_31 (by decide) ?_
  exact w_X2_isSeam_b32 E hg hf hP hS (lv_sub hl [] rfl)
set_option maxHeartbeats 4000000 in
set_option maxRecDepth 100000 in
theorem w_X2_isSeam {p : Program} {l : Launch} {e : Env} {s : State} {m : MethodId} {args : Array Value} {below : List Frame} {meth : Method} {c : Code} {G : GG} {sz : Nat} {ns : Nat} {g : Nat} {r : Int32} {M' : Mem} (E : Cx p s m args meth c cX2_isSeam (some .boolean) 4 RX2 G) (hg : pg ns g) {x1 : Int32} {x2 : Int32} {M : Mem} {H : Heap} {locs : List Loc} {ls : Array Slot} (hf : f_X2_isSeam g x1 x2 M = some (r, M')) (hP : PW G (AC G) (XC G ns) sz M s H) (hS : va_S (AC G) s.heap H locs) (hl : lv_has ls 4 [(0, .ref (adC G g 10)), (1, .int x1), (2, .int x2)]) : W p l e rm_X2_isSeam s m args below meth c H locs 0 0 (MQ below (va_Qi (fun (r2 : Int32) (_ : Unit) => r2 = r) (fun _ t => PW G (AC G) (XC G ns) sz M' t t.heap) (AC G)) args s 0 0 (AC G)) (F0 m 0 ls []) := by
  obtain ⟨hx, hb, hr, hlocks, hml, hown, hts, hK⟩ := id E
  unfold f_X2_isSeam at hf
  refine lv_aload_n hx hb dX2_isSeam_0 rfl (lv_at hl 0 rfl) ?_
  refine lv_iload_n hx hb dX2_isSeam_1 rfl (lv_at hl 1 rfl) ?_
  refine lv_iload_n hx hb dX2_isSeam_2 rfl (lv_at hl 2 rfl) ?_
  refine ob_e hf (fun r_3 M_3 hq hf => ?_)
  refine cv_X2_firstDrawnWithEnd E hP hS hg hq w_549 ⟨Nat.le_of_ble_eq_true rfl, Nat.le_of_ble_eq_true rfl⟩ hl (Nat.le_of_ble_eq_true rfl) dX2_isSeam_3 ⟨Nat.le_of_ble_eq_true rfl, Nat.le_of_ble_eq_true rfl⟩ (fun H locs hP hS => ?_)
  refine lv_istore_n (lv' := [(3, .int r_3), (0, .ref (adC G g 10)), (1, .int x1), (2, .int x2)]) hx hb dX2_isSeam_6 rfl hl (by decide) rfl (fun ls hl => ?_)
  refine lv_iload_n hx hb dX2_isSeam_7 rfl (lv_at hl 0 rfl) ?_
  refine lv_iconst (v := (-1)) hx hb dX2_isSeam_8 (by decide) ?_
  refine lv_icmp_eq (tgt := 31) hx hb dX2_isSeam_9 (by decide) (fun hc => ?_) (fun hc => ?_)
  · have hf := if_t hf hc
    exact w_X2_isSeam_b31 E hg hf hP hS (lv_sub hl [] rfl)
  · have hf := if_f hf hc
    refine lv_aload_n hx hb dX2_isSeam_12 rfl (lv_at hl 1 rfl) ?_
    refine lv_iload_n hx hb dX2_isSeam_13 rfl (lv_at hl 2 rfl) ?_
    refine lv_iload_n hx hb dX2_isSeam_14 rfl (lv_at hl 3 rfl) ?_
    refine lv_aload_n hx hb dX2_isSeam_15 rfl (lv_at hl 1 rfl) ?_
    refine gf_X2_drawnBy E hP hg w_101 dX2_isSeam_16 ?_
    refine lv_iload_n hx hb dX2_isSeam_19 rfl (lv_at hl 0 rfl) ?_
    refine ck_e hf (fun hi hf => ?_)
    refine la_P17 E hP hg hi dX2_isSeam_20 ?_
    refine ob_e hf (fun r_21 M_21 hq hf => ?_)
    refine cv_X2_endsThereByAnother E hP hS hg hq w_561 ⟨Nat.le_of_ble_eq_true rfl, Nat.le_of_ble_eq_true rfl⟩ hl (Nat.le_of_ble_eq_true rfl) dX2_isSeam_21 ⟨Nat.le_of_ble_eq_true rfl, Nat.le_of_ble_eq_true rfl⟩ (fun H locs hP hS => ?_)
    refine lv_if_eq (tgt := 31) hx hb dX2_isSeam_24 (by decide) (fun hc => ?_) (fun hc => ?_)
    · have hf := if_t hf hc
      exact w_X2_isSeam_b31 E hg hf hP hS (lv_sub hl [] rfl)
    · have hf := if_f hf hc
      refine lv_iconst (v := 1) hx hb dX2_isSeam_27 (by decide) ?_
      refine lv_goto (tgt := 32) hx hb dX2_isSeam_28 (by decide) ?_
      exact w_X2_isSeam_b32 E hg hf hP hS (lv_sub hl [] rfl)
theorem c_X2_isSeam (l : Launch) {G : GG} {sz : Nat} {ns : Nat} {g : Nat} (hg : pg ns g) {x1 : Int32} {x2 : Int32} {M : Mem} {r : Int32} {M' : Mem} (hf : f_X2_isSeam g x1 x2 M = some (r, M')) : CtI l yX2_isSeam cX2_isSeam 4 (some .boolean) rm_X2_isSeam [.ref (adC G g 10), .int x1, .int x2] G (AC G) (XC G ns) sz M r (XC G ns) sz M' := by
  refine Ct_of (by decide) (Nat.le_of_ble_eq_true rfl) (fun p e s m below meth c ls hx hb hr hlocks hml hown hts hK hP hl => ?_)
  exact w_X2_isSeam ⟨hx, hb, hr, hlocks, hml, hown, hts, hK⟩ hg hf hP va_S.rf hl
set_option maxRecDepth 100000 in
theorem cv_X2_isSeam {p : Program} {l : Launch} {e : Env} {R : Room} {s : State} {m : MethodId} {args : Array Value} {below : List Frame} {meth : Method} {c : Code} {H : Heap} {locs : List Loc} {cells slots : Nat} {Q : State → Prop} {cc : ByteArray} {pc nL index : Nat} {ret : Option FieldType} {own : String} {ls : Array Slot} {rest : List Value} {l' : List (Nat × Value)} {G : GG} {sz : Nat} {ns : Nat} {g : Nat} {M : Mem} (E : Cx p s m args meth c cc ret nL own G) (hP : PW G (AC G) (XC G ns) sz M s H) (hS : va_S (AC G) s.heap H locs) (hg : pg ns g) {x1 : Int32} {x2 : Int32} {r : Int32} {M' : Mem} (hq : f_X2_isSeam g x1 x2 M = some (r, M')) (w1 : Cond.methodLink own index yX2_isSeam ∈ lw_all) (hR : 4 ≤ R.frames ∧ 91 ≤ R.locals) (hl : lv_has ls nL l') (hrest : (rest.map fun v => v.category).sum ≤ 8) (hdg : decode cc pc = .ok (.invokevirtual index, 3)) (hcs : cells ≤ R.cells ∧ slots ≤ R.slots)
    (kk : ∀ (H1 : Heap) (locs1 : List Loc), PW G (AC G) (XC G ns) sz M' s H1 → va_S (AC G) s.heap H1 locs1 → W p l e R s m args below meth c H1 locs1 cells slots Q (F0 m (pc + 3) ls (.int r :: rest))) : W p l e R s m args below meth c H locs cells slots Q (F0 m pc ls (.int x2 :: .int x1 :: .ref (adC G g 10) :: rest)) := by
  obtain ⟨hx, hb, hr, hlocks, hml, hown, hts, hK⟩ := E
  obtain ⟨g0, rfl⟩ := pg_s hg
  exact kc_i (kc_runV (na := 2) (q := (RX2, TX2, 11)) hx hb hml hts hown hK hP (g0 + 1) 10 (dmP hg (by decide)) rfl rfl rfl (c_X2_isSeam l hg hq) w1 w_559 ws_6 w_4 w_560 (by decide +kernel) hR rfl hl rfl hrest hdg hcs) hS kk
/-! X2_seamsFirstMetAt -/
abbrev rm_X2_seamsFirstMetAt : Room := { frames := 4, cells := 0, slots := 0, locals := 91 }
def f_X2_seamsFirstMetAt_b91 (g : Nat) (s0 : Int32) (s1 : Int32) (M : Mem) : Option (Int32 × Mem) :=
ob (f_X7_asBit s1 M) fun r_91 M_91 =>
some ((s0 + r_91), M_91)
def f_X2_seamsFirstMetAt_b90 (g : Nat) (s0 : Int32) (M : Mem) : Option (Int32 × Mem) :=
f_X2_seamsFirstMetAt_b91 g s0 0 M
def f_X2_seamsFirstMetAt_b44 (g : Nat) (x1 : Int32) (s0 : Int32) (M : Mem) : Option (Int32 × Mem) :=
ob (f_X7_asBit s0 M) fun r_44 M_44 =>
ck (ibd x1 16) <|
ck (ibd x1 16) <|
ob (f_X2_firstDrawnWithEnd g (M_44 g 13 (ix x1)) (M_44 g 14 (ix x1)) M_44) fun r_60 M_60 =>
(if r_60 = x1 then
  ck (ibd x1 16) <|
  ck (ibd x1 16) <|
  ob (f_X2_isSeam g (M_60 g 13 (ix x1)) (M_60 g 14 (ix x1)) M_60) fun r_80 M_80 =>
  (if r_80 = 0 then
    f_X2_seamsFirstMetAt_b90 g r_44 M_80
  else
    f_X2_seamsFirstMetAt_b91 g r_44 1 M_80)
else
  f_X2_seamsFirstMetAt_b90 g r_44 M_60)
def f_X2_seamsFirstMetAt_b43 (g : Nat) (x1 : Int32) (M : Mem) : Option (Int32 × Mem) :=
f_X2_seamsFirstMetAt_b44 g x1 0 M
def f_X2_seamsFirstMetAt (g : Nat) (x1 : Int32) (M : Mem) : Option (Int32 × Mem) :=
ck (ibd x1 16) <|
ck (ibd x1 16) <|
ob (f_X2_firstDrawnWithEnd g (M g 11 (ix x1)) (M g 12 (ix x1)) M) fun r_13 M_13 =>
(if r_13 = x1 then
  ck (ibd x1 16) <|
  ck (ibd x1 16) <|
  ob (f_X2_isSeam g (M_13 g 11 (ix x1)) (M_13 g 12 (ix x1)) M_13) fun r_33 M_33 =>
  (if r_33 = 0 then
    f_X2_seamsFirstMetAt_b43 g x1 M_33
  else
    f_X2_seamsFirstMetAt_b44 g x1 1 M_33)
else
  f_X2_seamsFirstMetAt_b43 g x1 M_13)
set_option maxHeartbeats 4000000 in
set_option maxRecDepth 100000 in
theorem w_X2_seamsFirstMetAt_b91 {p : Program} {l : Launch} {e : Env} {s : State} {m : MethodId} {args : Array Value} {below : List Frame} {meth : Method} {c : Code} {G : GG} {sz : Nat} {ns : Nat} {g : Nat} {r : Int32} {M' : Mem} (E : Cx p s m args meth c cX2_seamsFirstMetAt (some .int) 2 RX2 G) (hg : pg ns g) {s0 : Int32} {s1 : Int32} {M : Mem} {H : Heap} {locs : List Loc} {ls : Array Slot} (hf : f_X2_seamsFirstMetAt_b91 g s0 s1 M = some (r, M')) (hP : PW G (AC G) (XC G ns) sz M s H) (hS : va_S (AC G) s.heap H locs) (hl : lv_has ls 2 []) : W p l e rm_X2_seamsFirstMetAt s m args below meth c H locs 0 0 (MQ below (va_Qi (fun (r2 : Int32) (_ : Unit) => r2 = r) (fun _ t => PW G (AC G) (XC G ns) sz M' t t.heap) (AC G)) args s 0 0 (AC G)) (F0 m 91 ls [.int s1, .int s0]) := by
  obtain ⟨hx, hb, hr, hlocks, hml, hown, hts, hK⟩ := id E
  unfold f_X2_seamsFirstMetAt_b91 at hf
  refine ob_e hf (fun r_91 M_91 hq hf => ?_)
  refine cn_X7_asBit E hP hS hq w_426 ⟨Nat.le_of_ble_eq_true rfl, Nat.le_of_ble_eq_true rfl⟩ hl (Nat.le_of_ble_eq_true rfl) dX2_seamsFirstMetAt_91 ⟨Nat.le_of_ble_eq_true rfl, Nat.le_of_ble_eq_true rfl⟩ (fun H locs hP hS => ?_)
  refine lv_iadd hx hb dX2_seamsFirstMetAt_94 ?_
  exact en_i hf hx hb hr rfl hlocks hP hS dX2_seamsFirstMetAt_95
set_option maxHeartbeats 4000000 in
set_option maxRecDepth 100000 in
theorem w_X2_seamsFirstMetAt_b90 {p : Program} {l : Launch} {e : Env} {s : State} {m : MethodId} {args : Array Value} {below : List Frame} {meth : Method} {c : Code} {G : GG} {sz : Nat} {ns : Nat} {g : Nat} {r : Int32} {M' : Mem} (E : Cx p s m args meth c cX2_seamsFirstMetAt (some .int) 2 RX2 G) (hg : pg ns g) {s0 : Int32} {M : Mem} {H : Heap} {locs : List Loc} {ls : Array Slot} (hf : f_X2_seamsFirstMetAt_b90 g s0 M = some (r, M')) (hP : PW G (AC G) (XC G ns) sz M s H) (hS : va_S (AC G) s.heap H locs) (hl : lv_has ls 2 []) : W p l e rm_X2_seamsFirstMetAt s m args below meth c H locs 0 0 (MQ below (va_Qi (fun (r2 : Int32) (_ : Unit) => r2 = r) (fun _ t => PW G (AC G) (XC G ns) sz M' t t.heap) (AC G)) args s 0 0 (AC G)) (F0 m 90 ls [.int s0]) := by
  obtain ⟨hx, hb, hr, hlocks, hml, hown, hts, hK⟩ := id E
  unfold f_X2_seamsFirstMetAt_b90 at hf
  refine lv_iconst (v := 0) hx hb dX2_seamsFirstMetAt_90 (by decide) ?_
  exact w_X2_seamsFirstMetAt_b91 E hg hf hP hS (lv_sub hl [] rfl)
set_option maxHeartbeats 4000000 in
set_option maxRecDepth 100000 in
theorem w_X2_seamsFirstMetAt_b44 {p : Program} {l : Launch} {e : Env} {s : State} {m : MethodId} {args : Array Value} {below : List Frame} {meth : Method} {c : Code} {G : GG} {sz : Nat} {ns : Nat} {g : Nat} {r : Int32} {M' : Mem} (E : Cx p s m args meth c cX2_seamsFirstMetAt (some .int) 2 RX2 G) (hg : pg ns g) {x1 : Int32} {s0 : Int32} {M : Mem} {H : Heap} {locs : List Loc} {ls : Array Slot} (hf : f_X2_seamsFirstMetAt_b44 g x1 s0 M = some (r, M')) (hP : PW G (AC G) (XC G ns) sz M s H) (hS : va_S (AC G) s.heap H locs) (hl : lv_has ls 2 [(0, .ref (adC G g 10)), (1, .int x1)]) : W p l e rm_X2_seamsFirstMetAt s m args below meth c H locs 0 0 (MQ below (va_Qi (fun (r2 : Int32) (_ : Unit) => r2 = r) (fun _ t => PW G (AC G) (XC G ns) sz M' t t.heap) (AC G)) args s 0 0 (AC G)) (F0 m 44 ls [.int s0]) := by
  obtain ⟨hx, hb, hr, hlocks, hml, hown, hts, hK⟩ := id E
  unfold f_X2_seamsFirstMetAt_b44 at hf
  refine ob_e hf (fun r_44 M_44 hq hf => ?_)
  refine cn_X7_asBit E hP hS hq w_426 ⟨Nat.le_of_ble_eq_true rfl, Nat.le_of_ble_eq_true rfl⟩ hl (Nat.le_of_ble_eq_true rfl) dX2_seamsFirstMetAt_44 ⟨Nat.le_of_ble_eq_true rfl, Nat.le_of_ble_eq_true rfl⟩ (fun H locs hP hS => ?_)
  refine lv_aload_n hx hb dX2_seamsFirstMetAt_47 rfl (lv_at hl 0 rfl) ?_
  refine lv_aload_n hx hb dX2_seamsFirstMetAt_48 rfl (lv_at hl 0 rfl) ?_
  refine gf_X2_x2 E hP hg w_92 dX2_seamsFirstMetAt_49 ?_
  refine lv_iload_n hx hb dX2_seamsFirstMetAt_52 rfl (lv_at hl 1 rfl) ?_
  refine ck_e hf (fun hi hf => ?_)
  refine la_P13 E hP hg hi dX2_seamsFirstMetAt_53 ?_
  refine lv_aload_n hx hb dX2_seamsFirstMetAt_54 rfl (lv_at hl 0 rfl) ?_
  refine gf_X2_y2 E hP hg w_94 dX2_seamsFirstMetAt_55 ?_
  refine lv_iload_n hx hb dX2_seamsFirstMetAt_58 rfl (lv_at hl 1 rfl) ?_
  refine ck_e hf (fun hi hf => ?_)
  refine la_P14 E hP hg hi dX2_seamsFirstMetAt_59 ?_
  refine ob_e hf (fun r_60 M_60 hq hf => ?_)
  refine cv_X2_firstDrawnWithEnd E hP hS hg hq w_549 ⟨Nat.le_of_ble_eq_true rfl, Nat.le_of_ble_eq_true rfl⟩ hl (Nat.le_of_ble_eq_true rfl) dX2_seamsFirstMetAt_60 ⟨Nat.le_of_ble_eq_true rfl, Nat.le_of_ble_eq_true rfl⟩ (fun H locs hP hS => ?_)
  refine lv_iload_n hx hb dX2_seamsFirstMetAt_63 rfl (lv_at hl 1 rfl) ?_
  refine lv_icmp_ne (tgt := 90) hx hb dX2_seamsFirstMetAt_64 (by decide) (fun hc => ?_) (fun hc => ?_)
  · have hf := if_f hf hc
    exact w_X2_seamsFirstMetAt_b90 E hg hf hP hS (lv_sub hl [] rfl)
  · have hf := if_t hf hc
    refine lv_aload_n hx hb dX2_seamsFirstMetAt_67 rfl (lv_at hl 0 rfl) ?_
    refine lv_aload_n hx hb dX2_seamsFirstMetAt_68 rfl (lv_at hl 0 rfl) ?_
    refine gf_X2_x2 E hP hg w_92 dX2_seamsFirstMetAt_69 ?_
    refine lv_iload_n hx hb dX2_seamsFirstMetAt_72 rfl (lv_at hl 1 rfl) ?_
    refine ck_e hf (fun hi hf => ?_)
    refine la_P13 E hP hg hi dX2_seamsFirstMetAt_73 ?_
    refine lv_aload_n hx hb dX2_seamsFirstMetAt_74 rfl (lv_at hl 0 rfl) ?_
    refine gf_X2_y2 E hP hg w_94 dX2_seamsFirstMetAt_75 ?_
    refine lv_iload_n hx hb dX2_seamsFirstMetAt_78 rfl (lv_at hl 1 rfl) ?_
    refine ck_e hf (fun hi hf => ?_)
    refine la_P14 E hP hg hi dX2_seamsFirstMetAt_79 ?_
    refine ob_e hf (fun r_80 M_80 hq hf => ?_)
    refine cv_X2_isSeam E hP hS hg hq w_557 ⟨Nat.le_of_ble_eq_true rfl, Nat.le_of_ble_eq_true rfl⟩ hl (Nat.le_of_ble_eq_true rfl) dX2_seamsFirstMetAt_80 ⟨Nat.le_of_ble_eq_true rfl, Nat.le_of_ble_eq_true rfl⟩ (fun H locs hP hS => ?_)
    refine lv_if_eq (tgt := 90) hx hb dX2_seamsFirstMetAt_83 (by decide) (fun hc => ?_) (fun hc => ?_)
    · have hf := if_t hf hc
      exact w_X2_seamsFirstMetAt_b90 E hg hf hP hS (lv_sub hl [] rfl)
    · have hf := if_f hf hc
      refine lv_iconst (v := 1) hx hb dX2_seamsFirstMetAt_86 (by decide) ?_
      refine lv_goto (tgt := 91) hx hb dX2_seamsFirstMetAt_87 (by decide) ?_
      exact w_X2_seamsFirstMetAt_b91 E hg hf hP hS (lv_sub hl [] rfl)
set_option maxHeartbeats 4000000 in
set_option maxRecDepth 100000 in
theorem w_X2_seamsFirstMetAt_b43 {p : Program} {l : Launch} {e : Env} {s : State} {m : MethodId} {args : Array Value} {below : List Frame} {meth : Method} {c : Code} {G : GG} {sz : Nat} {ns : Nat} {g : Nat} {r : Int32} {M' : Mem} (E : Cx p s m args meth c cX2_seamsFirstMetAt (some .int) 2 RX2 G) (hg : pg ns g) {x1 : Int32} {M : Mem} {H : Heap} {locs : List Loc} {ls : Array Slot} (hf : f_X2_seamsFirstMetAt_b43 g x1 M = some (r, M')) (hP : PW G (AC G) (XC G ns) sz M s H) (hS : va_S (AC G) s.heap H locs) (hl : lv_has ls 2 [(0, .ref (adC G g 10)), (1, .int x1)]) : W p l e rm_X2_seamsFirstMetAt s m args below meth c H locs 0 0 (MQ below (va_Qi (fun (r2 : Int32) (_ : Unit) => r2 = r) (fun _ t => PW G (AC G) (XC G ns) sz M' t t.heap) (AC G)) args s 0 0 (AC G)) (F0 m 43 ls []) := by
  obtain ⟨hx, hb, hr, hlocks, hml, hown, hts, hK⟩ := id E
  unfold f_X2_seamsFirstMetAt_b43 at hf
  refine lv_iconst (v := 0) hx hb dX2_seamsFirstMetAt_43 (by decide) ?_
  exact w_X2_seamsFirstMetAt_b44 E hg hf hP hS (lv_sub hl [0, 1] rfl)
set_option maxHeartbeats 4000000 in
set_option maxRecDepth 100000 in
theorem w_X2_seamsFirstMetAt {p : Program} {l : Launch} {e : Env} {s : State} {m : MethodId} {args : Array Value} {below : List Frame} {meth : Method} {c : Code} {G : GG} {sz : Nat} {ns : Nat} {g : Nat} {r : Int32} {M' : Mem} (E : Cx p s m args meth c cX2_seamsFirstMetAt (some .int) 2 RX2 G) (hg : pg ns g) {x1 : Int32} {M : Mem} {H : Heap} {locs : List Loc} {ls : Array Slot} (hf : f_X2_seamsFirstMetAt g x1 M = some (r, M')) (hP : PW G (AC G) (XC G ns) sz M s H) (hS : va_S (AC G) s.heap H locs) (hl : lv_has ls 2 [(0, .ref (adC G g 10)), (1, .int x1)]) : W p l e rm_X2_seamsFirstMetAt s m args below meth c H locs 0 0 (MQ below (va_Qi (fun (r2 : Int32) (_ : Unit) => r2 = r) (fun _ t => PW G (AC G) (XC G ns) sz M' t t.heap) (AC G)) args s 0 0 (AC G)) (F0 m 0 ls []) := by
  obtain ⟨hx, hb, hr, hlocks, hml, hown, hts, hK⟩ := id E
  unfold f_X2_seamsFirstMetAt at hf
  refine lv_aload_n hx hb dX2_seamsFirstMetAt_0 rfl (lv_at hl 0 rfl) ?_
  refine lv_aload_n hx hb dX2_seamsFirstMetAt_1 rfl (lv_at hl 0 rfl) ?_
  refine gf_X2_x E hP hg w_88 dX2_seamsFirstMetAt_2 ?_
  refine lv_iload_n hx hb dX2_seamsFirstMetAt_5 rfl (lv_at hl 1 rfl) ?_
  refine ck_e hf (fun hi hf => ?_)
  refine la_P11 E hP hg hi dX2_seamsFirstMetAt_6 ?_
  refine lv_aload_n hx hb dX2_seamsFirstMetAt_7 rfl (lv_at hl 0 rfl) ?_
  refine gf_X2_y E hP hg w_90 dX2_seamsFirstMetAt_8 ?_
  refine lv_iload_n hx hb dX2_seamsFirstMetAt_11 rfl (lv_at hl 1 rfl) ?_
  refine ck_e hf (fun hi hf => ?_)
  refine la_P12 E hP hg hi dX2_seamsFirstMetAt_12 ?_
  refine ob_e hf (fun r_13 M_13 hq hf => ?_)
  refine cv_X2_firstDrawnWithEnd E hP hS hg hq w_549 ⟨Nat.le_of_ble_eq_true rfl, Nat.le_of_ble_eq_true rfl⟩ hl (Nat.le_of_ble_eq_true rfl) dX2_seamsFirstMetAt_13 ⟨Nat.le_of_ble_eq_true rfl, Nat.le_of_ble_eq_true rfl⟩ (fun H locs hP hS => ?_)
  refine lv_iload_n hx hb dX2_seamsFirstMetAt_16 rfl (lv_at hl 1 rfl) ?_
  refine lv_icmp_ne (tgt := 43) hx hb dX2_seamsFirstMetAt_17 (by decide) (fun hc => ?_) (fun hc => ?_)
  · have hf := if_f hf hc
    exact w_X2_seamsFirstMetAt_b43 E hg hf hP hS (lv_sub hl [0, 1] rfl)
  · have hf := if_t hf hc
    refine lv_aload_n hx hb dX2_seamsFirstMetAt_20 rfl (lv_at hl 0 rfl) ?_
    refine lv_aload_n hx hb dX2_seamsFirstMetAt_21 rfl (lv_at hl 0 rfl) ?_
    refine gf_X2_x E hP hg w_88 dX2_seamsFirstMetAt_22 ?_
    refine lv_iload_n hx hb dX2_seamsFirstMetAt_25 rfl (lv_at hl 1 rfl) ?_
    refine ck_e hf (fun hi hf => ?_)
    refine la_P11 E hP hg hi dX2_seamsFirstMetAt_26 ?_
    refine lv_aload_n hx hb dX2_seamsFirstMetAt_27 rfl (lv_at hl 0 rfl) ?_
    refine gf_X2_y E hP hg w_90 dX2_seamsFirstMetAt_28 ?_
    refine lv_iload_n hx hb dX2_seamsFirstMetAt_31 rfl (lv_at hl 1 rfl) ?_
    refine ck_e hf (fun hi hf => ?_)
    refine la_P12 E hP hg hi dX2_seamsFirstMetAt_32 ?_
    refine ob_e hf (fun r_33 M_33 hq hf => ?_)
    refine cv_X2_isSeam E hP hS hg hq w_557 ⟨Nat.le_of_ble_eq_true rfl, Nat.le_of_ble_eq_true rfl⟩ hl (Nat.le_of_ble_eq_true rfl) dX2_seamsFirstMetAt_33 ⟨Nat.le_of_ble_eq_true rfl, Nat.le_of_ble_eq_true rfl⟩ (fun H locs hP hS => ?_)
    refine lv_if_eq (tgt := 43) hx hb dX2_seamsFirstMetAt_36 (by decide) (fun hc => ?_) (fun hc => ?_)
    · have hf := if_t hf hc
      exact w_X2_seamsFirstMetAt_b43 E hg hf hP hS (lv_sub hl [0, 1] rfl)
    · have hf := if_f hf hc
      refine lv_iconst (v := 1) hx hb dX2_seamsFirstMetAt_39 (by decide) ?_
      refine lv_goto (tgt := 44) hx hb dX2_seamsFirstMetAt_40 (by decide) ?_
      exact w_X2_seamsFirstMetAt_b44 E hg hf hP hS (lv_sub hl [0, 1] rfl)
theorem c_X2_seamsFirstMetAt (l : Launch) {G : GG} {sz : Nat} {ns : Nat} {g : Nat} (hg : pg ns g) {x1 : Int32} {M : Mem} {r : Int32} {M' : Mem} (hf : f_X2_seamsFirstMetAt g x1 M = some (r, M')) : CtI l yX2_seamsFirstMetAt cX2_seamsFirstMetAt 2 (some .int) rm_X2_seamsFirstMetAt [.ref (adC G g 10), .int x1] G (AC G) (XC G ns) sz M r (XC G ns) sz M' := by
  refine Ct_of (by decide) (Nat.le_of_ble_eq_true rfl) (fun p e s m below meth c ls hx hb hr hlocks hml hown hts hK hP hl => ?_)
  exact w_X2_seamsFirstMetAt ⟨hx, hb, hr, hlocks, hml, hown, hts, hK⟩ hg hf hP va_S.rf hl
set_option maxRecDepth 100000 in
theorem cv_X2_seamsFirstMetAt {p : Program} {l : Launch} {e : Env} {R : Room} {s : State} {m : MethodId} {args : Array Value} {below : List Frame} {meth : Method} {c : Code} {H : Heap} {locs : List Loc} {cells slots : Nat} {Q : State → Prop} {cc : ByteArray} {pc nL index : Nat} {ret : Option FieldType} {own : String} {ls : Array Slot} {rest : List Value} {l' : List (Nat × Value)} {G : GG} {sz : Nat} {ns : Nat} {g : Nat} {M : Mem} (E : Cx p s m args meth c cc ret nL own G) (hP : PW G (AC G) (XC G ns) sz M s H) (hS : va_S (AC G) s.heap H locs) (hg : pg ns g) {x1 : Int32} {r : Int32} {M' : Mem} (hq : f_X2_seamsFirstMetAt g x1 M = some (r, M')) (w1 : Cond.methodLink own index yX2_seamsFirstMetAt ∈ lw_all) (hR : 5 ≤ R.frames ∧ 112 ≤ R.locals) (hl : lv_has ls nL l') (hrest : (rest.map fun v => v.category).sum ≤ 8) (hdg : decode cc pc = .ok (.invokevirtual index, 3)) (hcs : cells ≤ R.cells ∧ slots ≤ R.slots)
    (kk : ∀ (H1 : Heap) (locs1 : List Loc), PW G (AC G) (XC G ns) sz M' s H1 → va_S (AC G) s.heap H1 locs1 → W p l e R s m args below meth c H1 locs1 cells slots Q (F0 m (pc + 3) ls (.int r :: rest))) : W p l e R s m args below meth c H locs cells slots Q (F0 m pc ls (.int x1 :: .ref (adC G g 10) :: rest)) := by
  obtain ⟨hx, hb, hr, hlocks, hml, hown, hts, hK⟩ := E
  obtain ⟨g0, rfl⟩ := pg_s hg
  exact kc_i (kc_runV (na := 1) (q := (RX2, TX2, 11)) hx hb hml hts hown hK hP (g0 + 1) 10 (dmP hg (by decide)) rfl rfl rfl (c_X2_seamsFirstMetAt l hg hq) w1 w_546 w_547 w_4 w_548 (by decide +kernel) hR rfl hl rfl hrest hdg hcs) hS kk
/-! X4_copyFrom -/
abbrev rm_X4_copyFrom : Room := { frames := 2, cells := 0, slots := 0, locals := 81 }
def f_X4_copyFrom (g g2 : Nat) (M : Mem) : Option (Unit × Mem) :=
lt (up3 M g 2 0 (M g2 2 0)) fun M_5 =>
ob (f_X7_copy g2 3 5 g 3 5 M_5) fun _ M_16 =>
ob (f_X7_copy g2 4 5 g 4 5 M_16) fun _ M_27 =>
ob (f_X7_copy g2 5 5 g 5 5 M_27) fun _ M_38 =>
ob (f_X7_copy g2 6 5 g 6 5 M_38) fun _ M_49 =>
ob (f_X7_copy g2 7 5 g 7 5 M_49) fun _ M_60 =>
ob (f_X7_copy g2 8 5 g 8 5 M_60) fun _ M_71 =>
ob (f_X7_copy g2 9 5 g 9 5 M_71) fun _ M_82 =>
some ((), M_82)
set_option maxHeartbeats 4000000 in
set_option maxRecDepth 100000 in
theorem w_X4_copyFrom {p : Program} {l : Launch} {e : Env} {s : State} {m : MethodId} {args : Array Value} {below : List Frame} {meth : Method} {c : Code} {G : GG} {sz : Nat} {ns : Nat} {g g2 : Nat} {r : Unit} {M' : Mem} (E : Cx p s m args meth c cX4_copyFrom none 2 RX4 G) (hg : pg ns g) (hg2 : pg ns g2) {M : Mem} {H : Heap} {locs : List Loc} {ls : Array Slot} (hf : f_X4_copyFrom g g2 M = some (r, M')) (hP : PW G (AC G) (XC G ns) sz M s H) (hS : va_S (AC G) s.heap H locs) (hl : lv_has ls 2 [(0, .ref (adC G g 2)), (1, .ref (adC G g2 2))]) : W p l e rm_X4_copyFrom s m args below meth c H locs 0 0 (MQ below (va_Qv (fun (_ : Unit) => True) (fun _ t => PW G (AC G) (XC G ns) sz M' t t.heap) (AC G)) args s 0 0 (AC G)) (F0 m 0 ls []) := by
  obtain ⟨hx, hb, hr, hlocks, hml, hown, hts, hK⟩ := id E
  unfold f_X4_copyFrom at hf
  refine lv_aload_n hx hb dX4_copyFrom_0 rfl (lv_at hl 0 rfl) ?_
  refine lv_aload_n hx hb dX4_copyFrom_1 rfl (lv_at hl 1 rfl) ?_
  refine gf_X4_many E hP hg2 w_40 dX4_copyFrom_2 ?_
  refine lt_e hf (fun M_5 hM_5 hf => ?_)
  refine pf_X4_many E hP hS hg hM_5 w_40 dX4_copyFrom_5 (fun H locs hP hS => ?_)
  refine lv_aload_n hx hb dX4_copyFrom_8 rfl (lv_at hl 1 rfl) ?_
  refine gf_X4_kind E hP hg2 w_42 dX4_copyFrom_9 ?_
  refine lv_aload_n hx hb dX4_copyFrom_12 rfl (lv_at hl 0 rfl) ?_
  refine gf_X4_kind E hP hg w_42 dX4_copyFrom_13 ?_
  refine ob_e hf (fun r_16 M_16 hq hf => ?_)
  refine cn_X7_copy E hP hS (dmP hg2 (by decide)) (ea_P3 hg2) (dmP hg (by decide)) (ea_P3 hg) hq w_309 ⟨Nat.le_of_ble_eq_true rfl, Nat.le_of_ble_eq_true rfl⟩ hl (Nat.le_of_ble_eq_true rfl) dX4_copyFrom_16 ⟨Nat.le_of_ble_eq_true rfl, Nat.le_of_ble_eq_true rfl⟩ (fun H locs hP hS => ?_)
  refine lv_aload_n hx hb dX4_copyFrom_19 rfl (lv_at hl 1 rfl) ?_
  refine gf_X4_capacity E hP hg2 w_45 dX4_copyFrom_20 ?_
  refine lv_aload_n hx hb dX4_copyFrom_23 rfl (lv_at hl 0 rfl) ?_
  refine gf_X4_capacity E hP hg w_45 dX4_copyFrom_24 ?_
  refine ob_e hf (fun r_27 M_27 hq hf => ?_)
  refine cn_X7_copy E hP hS (dmP hg2 (by decide)) (ea_P4 hg2) (dmP hg (by decide)) (ea_P4 hg) hq w_309 ⟨Nat.le_of_ble_eq_true rfl, Nat.le_of_ble_eq_true rfl⟩ hl (Nat.le_of_ble_eq_true rfl) dX4_copyFrom_27 ⟨Nat.le_of_ble_eq_true rfl, Nat.le_of_ble_eq_true rfl⟩ (fun H locs hP hS => ?_)
  refine lv_aload_n hx hb dX4_copyFrom_30 rfl (lv_at hl 1 rfl) ?_
  refine gf_X4_place E hP hg2 w_48 dX4_copyFrom_31 ?_
  refine lv_aload_n hx hb dX4_copyFrom_34 rfl (lv_at hl 0 rfl) ?_
  refine gf_X4_place E hP hg w_48 dX4_copyFrom_35 ?_
  refine ob_e hf (fun r_38 M_38 hq hf => ?_)
  refine cn_X7_copy E hP hS (dmP hg2 (by decide)) (ea_P5 hg2) (dmP hg (by decide)) (ea_P5 hg) hq w_309 ⟨Nat.le_of_ble_eq_true rfl, Nat.le_of_ble_eq_true rfl⟩ hl (Nat.le_of_ble_eq_true rfl) dX4_copyFrom_38 ⟨Nat.le_of_ble_eq_true rfl, Nat.le_of_ble_eq_true rfl⟩ (fun H locs hP hS => ?_)
  refine lv_aload_n hx hb dX4_copyFrom_41 rfl (lv_at hl 1 rfl) ?_
  refine gf_X4_ink E hP hg2 w_50 dX4_copyFrom_42 ?_
  refine lv_aload_n hx hb dX4_copyFrom_45 rfl (lv_at hl 0 rfl) ?_
  refine gf_X4_ink E hP hg w_50 dX4_copyFrom_46 ?_
  refine ob_e hf (fun r_49 M_49 hq hf => ?_)
  refine cn_X7_copy E hP hS (dmP hg2 (by decide)) (ea_P6 hg2) (dmP hg (by decide)) (ea_P6 hg) hq w_309 ⟨Nat.le_of_ble_eq_true rfl, Nat.le_of_ble_eq_true rfl⟩ hl (Nat.le_of_ble_eq_true rfl) dX4_copyFrom_49 ⟨Nat.le_of_ble_eq_true rfl, Nat.le_of_ble_eq_true rfl⟩ (fun H locs hP hS => ?_)
  refine lv_aload_n hx hb dX4_copyFrom_52 rfl (lv_at hl 1 rfl) ?_
  refine gf_X4_drawn E hP hg2 w_53 dX4_copyFrom_53 ?_
  refine lv_aload_n hx hb dX4_copyFrom_56 rfl (lv_at hl 0 rfl) ?_
  refine gf_X4_drawn E hP hg w_53 dX4_copyFrom_57 ?_
  refine ob_e hf (fun r_60 M_60 hq hf => ?_)
  refine cn_X7_copy E hP hS (dmP hg2 (by decide)) (ea_P7 hg2) (dmP hg (by decide)) (ea_P7 hg) hq w_309 ⟨Nat.le_of_ble_eq_true rfl, Nat.le_of_ble_eq_true rfl⟩ hl (Nat.le_of_ble_eq_true rfl) dX4_copyFrom_60 ⟨Nat.le_of_ble_eq_true rfl, Nat.le_of_ble_eq_true rfl⟩ (fun H locs hP hS => ?_)
  refine lv_aload_n hx hb dX4_copyFrom_63 rfl (lv_at hl 1 rfl) ?_
  refine gf_X4_idle E hP hg2 w_56 dX4_copyFrom_64 ?_
  refine lv_aload_n hx hb dX4_copyFrom_67 rfl (lv_at hl 0 rfl) ?_
  refine gf_X4_idle E hP hg w_56 dX4_copyFrom_68 ?_
  refine ob_e hf (fun r_71 M_71 hq hf => ?_)
  refine cn_X7_copy E hP hS (dmP hg2 (by decide)) (ea_P8 hg2) (dmP hg (by decide)) (ea_P8 hg) hq w_309 ⟨Nat.le_of_ble_eq_true rfl, Nat.le_of_ble_eq_true rfl⟩ hl (Nat.le_of_ble_eq_true rfl) dX4_copyFrom_71 ⟨Nat.le_of_ble_eq_true rfl, Nat.le_of_ble_eq_true rfl⟩ (fun H locs hP hS => ?_)
  refine lv_aload_n hx hb dX4_copyFrom_74 rfl (lv_at hl 1 rfl) ?_
  refine gf_X4_away E hP hg2 w_59 dX4_copyFrom_75 ?_
  refine lv_aload_n hx hb dX4_copyFrom_78 rfl (lv_at hl 0 rfl) ?_
  refine gf_X4_away E hP hg w_59 dX4_copyFrom_79 ?_
  refine ob_e hf (fun r_82 M_82 hq hf => ?_)
  refine cn_X7_copy E hP hS (dmP hg2 (by decide)) (ea_P9 hg2) (dmP hg (by decide)) (ea_P9 hg) hq w_309 ⟨Nat.le_of_ble_eq_true rfl, Nat.le_of_ble_eq_true rfl⟩ hl (Nat.le_of_ble_eq_true rfl) dX4_copyFrom_82 ⟨Nat.le_of_ble_eq_true rfl, Nat.le_of_ble_eq_true rfl⟩ (fun H locs hP hS => ?_)
  exact en_v hf hx hb hr hlocks hP hS dX4_copyFrom_85
theorem c_X4_copyFrom (l : Launch) {G : GG} {sz : Nat} {ns : Nat} {g g2 : Nat} (hg : pg ns g) (hg2 : pg ns g2) {M : Mem} {r : Unit} {M' : Mem} (hf : f_X4_copyFrom g g2 M = some (r, M')) : CtV l yX4_copyFrom cX4_copyFrom 2 none rm_X4_copyFrom [.ref (adC G g 2), .ref (adC G g2 2)] G (AC G) (XC G ns) sz M r (XC G ns) sz M' := by
  refine Ct_of (by decide) (Nat.le_of_ble_eq_true rfl) (fun p e s m below meth c ls hx hb hr hlocks hml hown hts hK hP hl => ?_)
  exact w_X4_copyFrom ⟨hx, hb, hr, hlocks, hml, hown, hts, hK⟩ hg hg2 hf hP va_S.rf hl
set_option maxRecDepth 100000 in
theorem cv_X4_copyFrom {p : Program} {l : Launch} {e : Env} {R : Room} {s : State} {m : MethodId} {args : Array Value} {below : List Frame} {meth : Method} {c : Code} {H : Heap} {locs : List Loc} {cells slots : Nat} {Q : State → Prop} {cc : ByteArray} {pc nL index : Nat} {ret : Option FieldType} {own : String} {ls : Array Slot} {rest : List Value} {l' : List (Nat × Value)} {G : GG} {sz : Nat} {ns : Nat} {g g2 : Nat} {M : Mem} (E : Cx p s m args meth c cc ret nL own G) (hP : PW G (AC G) (XC G ns) sz M s H) (hS : va_S (AC G) s.heap H locs) (hg : pg ns g) (hg2 : pg ns g2) {r : Unit} {M' : Mem} (hq : f_X4_copyFrom g g2 M = some (r, M')) (w1 : Cond.methodLink own index yX4_copyFrom ∈ lw_all) (hR : 3 ≤ R.frames ∧ 102 ≤ R.locals) (hl : lv_has ls nL l') (hrest : (rest.map fun v => v.category).sum ≤ 8) (hdg : decode cc pc = .ok (.invokevirtual index, 3)) (hcs : cells ≤ R.cells ∧ slots ≤ R.slots)
    (kk : ∀ (H1 : Heap) (locs1 : List Loc), PW G (AC G) (XC G ns) sz M' s H1 → va_S (AC G) s.heap H1 locs1 → W p l e R s m args below meth c H1 locs1 cells slots Q (F0 m (pc + 3) ls (rest))) : W p l e R s m args below meth c H locs cells slots Q (F0 m pc ls (.ref (adC G g2 2) :: .ref (adC G g 2) :: rest)) := by
  obtain ⟨hx, hb, hr, hlocks, hml, hown, hts, hK⟩ := E
  obtain ⟨g0, rfl⟩ := pg_s hg
  exact kc_v (kc_runV (na := 1) (q := (RX4, TX4, 8)) hx hb hml hts hown hK hP (g0 + 1) 2 (dmP hg (by decide)) rfl rfl rfl (c_X4_copyFrom l hg hg2 hq) w1 w_306 w_307 w_3 w_308 (by decide +kernel) hR rfl hl rfl hrest hdg hcs) hS kk
/-! X4_has -/
abbrev rm_X4_has : Room := { frames := 1, cells := 0, slots := 0, locals := 22 }
def f_X4_has (g : Nat) (x1 : Int32) (M : Mem) : Option (Int32 × Mem) :=
ob (f_X7_isIn x1 0 ((M g 2 0) - 1) M) fun r_8 M_8 =>
ck (bl r_8) <|
some (r_8, M_8)
set_option maxHeartbeats 4000000 in
set_option maxRecDepth 100000 in
theorem w_X4_has {p : Program} {l : Launch} {e : Env} {s : State} {m : MethodId} {args : Array Value} {below : List Frame} {meth : Method} {c : Code} {G : GG} {sz : Nat} {ns : Nat} {g : Nat} {r : Int32} {M' : Mem} (E : Cx p s m args meth c cX4_has (some .boolean) 2 RX4 G) (hg : pg ns g) {x1 : Int32} {M : Mem} {H : Heap} {locs : List Loc} {ls : Array Slot} (hf : f_X4_has g x1 M = some (r, M')) (hP : PW G (AC G) (XC G ns) sz M s H) (hS : va_S (AC G) s.heap H locs) (hl : lv_has ls 2 [(0, .ref (adC G g 2)), (1, .int x1)]) : W p l e rm_X4_has s m args below meth c H locs 0 0 (MQ below (va_Qi (fun (r2 : Int32) (_ : Unit) => r2 = r) (fun _ t => PW G (AC G) (XC G ns) sz M' t t.heap) (AC G)) args s 0 0 (AC G)) (F0 m 0 ls []) := by
  obtain ⟨hx, hb, hr, hlocks, hml, hown, hts, hK⟩ := id E
  unfold f_X4_has at hf
  refine lv_iload_n hx hb dX4_has_0 rfl (lv_at hl 1 rfl) ?_
  refine lv_iconst (v := 0) hx hb dX4_has_1 (by decide) ?_
  refine lv_aload_n hx hb dX4_has_2 rfl (lv_at hl 0 rfl) ?_
  refine gf_X4_many E hP hg w_40 dX4_has_3 ?_
  refine lv_iconst (v := 1) hx hb dX4_has_6 (by decide) ?_
  refine lv_isub hx hb dX4_has_7 ?_
  refine ob_e hf (fun r_8 M_8 hq hf => ?_)
  refine cn_X7_isIn E hP hS hq w_378 ⟨Nat.le_of_ble_eq_true rfl, Nat.le_of_ble_eq_true rfl⟩ hl (Nat.le_of_ble_eq_true rfl) dX4_has_8 ⟨Nat.le_of_ble_eq_true rfl, Nat.le_of_ble_eq_true rfl⟩ (fun H locs hP hS => ?_)
  refine ck_e hf (fun hn hf => ?_)
  exact en_i hf hx hb hr (bl_nar hn) hlocks hP hS dX4_has_11
theorem c_X4_has (l : Launch) {G : GG} {sz : Nat} {ns : Nat} {g : Nat} (hg : pg ns g) {x1 : Int32} {M : Mem} {r : Int32} {M' : Mem} (hf : f_X4_has g x1 M = some (r, M')) : CtI l yX4_has cX4_has 2 (some .boolean) rm_X4_has [.ref (adC G g 2), .int x1] G (AC G) (XC G ns) sz M r (XC G ns) sz M' := by
  refine Ct_of (by decide) (Nat.le_of_ble_eq_true rfl) (fun p e s m below meth c ls hx hb hr hlocks hml hown hts hK hP hl => ?_)
  exact w_X4_has ⟨hx, hb, hr, hlocks, hml, hown, hts, hK⟩ hg hf hP va_S.rf hl
set_option maxRecDepth 100000 in
theorem cv_X4_has {p : Program} {l : Launch} {e : Env} {R : Room} {s : State} {m : MethodId} {args : Array Value} {below : List Frame} {meth : Method} {c : Code} {H : Heap} {locs : List Loc} {cells slots : Nat} {Q : State → Prop} {cc : ByteArray} {pc nL index : Nat} {ret : Option FieldType} {own : String} {ls : Array Slot} {rest : List Value} {l' : List (Nat × Value)} {G : GG} {sz : Nat} {ns : Nat} {g : Nat} {M : Mem} (E : Cx p s m args meth c cc ret nL own G) (hP : PW G (AC G) (XC G ns) sz M s H) (hS : va_S (AC G) s.heap H locs) (hg : pg ns g) {x1 : Int32} {r : Int32} {M' : Mem} (hq : f_X4_has g x1 M = some (r, M')) (w1 : Cond.methodLink own index yX4_has ∈ lw_all) (hR : 2 ≤ R.frames ∧ 43 ≤ R.locals) (hl : lv_has ls nL l') (hrest : (rest.map fun v => v.category).sum ≤ 8) (hdg : decode cc pc = .ok (.invokevirtual index, 3)) (hcs : cells ≤ R.cells ∧ slots ≤ R.slots)
    (kk : ∀ (H1 : Heap) (locs1 : List Loc), PW G (AC G) (XC G ns) sz M' s H1 → va_S (AC G) s.heap H1 locs1 → W p l e R s m args below meth c H1 locs1 cells slots Q (F0 m (pc + 3) ls (.int r :: rest))) : W p l e R s m args below meth c H locs cells slots Q (F0 m pc ls (.int x1 :: .ref (adC G g 2) :: rest)) := by
  obtain ⟨hx, hb, hr, hlocks, hml, hown, hts, hK⟩ := E
  obtain ⟨g0, rfl⟩ := pg_s hg
  exact kc_i (kc_runV (na := 1) (q := (RX4, TX4, 8)) hx hb hml hts hown hK hP (g0 + 1) 2 (dmP hg (by decide)) rfl rfl rfl (c_X4_has l hg hq) w1 w_375 w_376 w_3 w_377 (by decide +kernel) hR rfl hl rfl hrest hdg hcs) hS kk
/-! X4_isAway -/
abbrev rm_X4_isAway : Room := { frames := 0, cells := 0, slots := 0, locals := 0 }
def f_X4_isAway_b15 (g : Nat) (s0 : Int32) (M : Mem) : Option (Int32 × Mem) :=
ck (bl s0) <|
some (s0, M)
def f_X4_isAway (g : Nat) (x1 : Int32) (M : Mem) : Option (Int32 × Mem) :=
ck (ibd x1 5) <|
(if (M g 9 (ix x1)) = 1 then
  f_X4_isAway_b15 g 1 M
else
  f_X4_isAway_b15 g 0 M)
set_option maxHeartbeats 4000000 in
set_option maxRecDepth 100000 in
theorem w_X4_isAway_b15 {p : Program} {l : Launch} {e : Env} {s : State} {m : MethodId} {args : Array Value} {below : List Frame} {meth : Method} {c : Code} {G : GG} {sz : Nat} {ns : Nat} {g : Nat} {r : Int32} {M' : Mem} (E : Cx p s m args meth c cX4_isAway (some .boolean) 2 RX4 G) (hg : pg ns g) {s0 : Int32} {M : Mem} {H : Heap} {locs : List Loc} {ls : Array Slot} (hf : f_X4_isAway_b15 g s0 M = some (r, M')) (hP : PW G (AC G) (XC G ns) sz M s H) (hS : va_S (AC G) s.heap H locs) (hl : lv_has ls 2 []) : W p l e rm_X4_isAway s m args below meth c H locs 0 0 (MQ below (va_Qi (fun (r2 : Int32) (_ : Unit) => r2 = r) (fun _ t => PW G (AC G) (XC G ns) sz M' t t.heap) (AC G)) args s 0 0 (AC G)) (F0 m 15 ls [.int s0]) := by
  obtain ⟨hx, hb, hr, hlocks, hml, hown, hts, hK⟩ := id E
  unfold f_X4_isAway_b15 at hf
  refine ck_e hf (fun hn hf => ?_)
  exact en_i hf hx hb hr (bl_nar hn) hlocks hP hS dX4_isAway_15
set_option maxHeartbeats 4000000 in
set_option maxRecDepth 100000 in
theorem w_X4_isAway {p : Program} {l : Launch} {e : Env} {s : State} {m : MethodId} {args : Array Value} {below : List Frame} {meth : Method} {c : Code} {G : GG} {sz : Nat} {ns : Nat} {g : Nat} {r : Int32} {M' : Mem} (E : Cx p s m args meth c cX4_isAway (some .boolean) 2 RX4 G) (hg : pg ns g) {x1 : Int32} {M : Mem} {H : Heap} {locs : List Loc} {ls : Array Slot} (hf : f_X4_isAway g x1 M = some (r, M')) (hP : PW G (AC G) (XC G ns) sz M s H) (hS : va_S (AC G) s.heap H locs) (hl : lv_has ls 2 [(0, .ref (adC G g 2)), (1, .int x1)]) : W p l e rm_X4_isAway s m args below meth c H locs 0 0 (MQ below (va_Qi (fun (r2 : Int32) (_ : Unit) => r2 = r) (fun _ t => PW G (AC G) (XC G ns) sz M' t t.heap) (AC G)) args s 0 0 (AC G)) (F0 m 0 ls []) := by
  obtain ⟨hx, hb, hr, hlocks, hml, hown, hts, hK⟩ := id E
  unfold f_X4_isAway at hf
  refine lv_aload_n hx hb dX4_isAway_0 rfl (lv_at hl 0 rfl) ?_
  refine gf_X4_away E hP hg w_59 dX4_isAway_1 ?_
  refine lv_iload_n hx hb dX4_isAway_4 rfl (lv_at hl 1 rfl) ?_
  refine ck_e hf (fun hi hf => ?_)
  refine la_P9 E hP hg hi dX4_isAway_5 ?_
  refine lv_iconst (v := 1) hx hb dX4_isAway_6 (by decide) ?_
  refine lv_icmp_ne (tgt := 14) hx hb dX4_isAway_7 (by decide) (fun hc => ?_) (fun hc => ?_)
  · have hf := if_f hf hc
    refine lv_iconst (v := 0) hx hb dX4_isAway_14 (by decide) ?_
    exact w_X4_isAway_b15 E hg hf hP hS (lv_sub hl [] rfl)
  · have hf := if_t hf hc
    refine lv_iconst (v := 1) hx hb dX4_isAway_10 (by decide) ?_
    refine lv_goto (tgt := 15) hx hb dX4_isAway_11 (by decide) ?_
    exact w_X4_isAway_b15 E hg hf hP hS (lv_sub hl [] rfl)
theorem c_X4_isAway (l : Launch) {G : GG} {sz : Nat} {ns : Nat} {g : Nat} (hg : pg ns g) {x1 : Int32} {M : Mem} {r : Int32} {M' : Mem} (hf : f_X4_isAway g x1 M = some (r, M')) : CtI l yX4_isAway cX4_isAway 2 (some .boolean) rm_X4_isAway [.ref (adC G g 2), .int x1] G (AC G) (XC G ns) sz M r (XC G ns) sz M' := by
  refine Ct_of (by decide) (Nat.le_of_ble_eq_true rfl) (fun p e s m below meth c ls hx hb hr hlocks hml hown hts hK hP hl => ?_)
  exact w_X4_isAway ⟨hx, hb, hr, hlocks, hml, hown, hts, hK⟩ hg hf hP va_S.rf hl
set_option maxRecDepth 100000 in
theorem cv_X4_isAway {p : Program} {l : Launch} {e : Env} {R : Room} {s : State} {m : MethodId} {args : Array Value} {below : List Frame} {meth : Method} {c : Code} {H : Heap} {locs : List Loc} {cells slots : Nat} {Q : State → Prop} {cc : ByteArray} {pc nL index : Nat} {ret : Option FieldType} {own : String} {ls : Array Slot} {rest : List Value} {l' : List (Nat × Value)} {G : GG} {sz : Nat} {ns : Nat} {g : Nat} {M : Mem} (E : Cx p s m args meth c cc ret nL own G) (hP : PW G (AC G) (XC G ns) sz M s H) (hS : va_S (AC G) s.heap H locs) (hg : pg ns g) {x1 : Int32} {r : Int32} {M' : Mem} (hq : f_X4_isAway g x1 M = some (r, M')) (w1 : Cond.methodLink own index yX4_isAway ∈ lw_all) (hR : 1 ≤ R.frames ∧ 21 ≤ R.locals) (hl : lv_has ls nL l') (hrest : (rest.map fun v => v.category).sum ≤ 8) (hdg : decode cc pc = .ok (.invokevirtual index, 3)) (hcs : cells ≤ R.cells ∧ slots ≤ R.slots)
    (kk : ∀ (H1 : Heap) (locs1 : List Loc), PW G (AC G) (XC G ns) sz M' s H1 → va_S (AC G) s.heap H1 locs1 → W p l e R s m args below meth c H1 locs1 cells slots Q (F0 m (pc + 3) ls (.int r :: rest))) : W p l e R s m args below meth c H locs cells slots Q (F0 m pc ls (.int x1 :: .ref (adC G g 2) :: rest)) := by
  obtain ⟨hx, hb, hr, hlocks, hml, hown, hts, hK⟩ := E
  obtain ⟨g0, rfl⟩ := pg_s hg
  exact kc_i (kc_runV (na := 1) (q := (RX4, TX4, 8)) hx hb hml hts hown hK hP (g0 + 1) 2 (dmP hg (by decide)) rfl rfl rfl (c_X4_isAway l hg hq) w1 w_384 w_385 w_3 w_386 (by decide +kernel) hR rfl hl rfl hrest hdg hcs) hS kk
/-! X4_isPlaceOfAny -/
abbrev rm_X4_isPlaceOfAny : Room := { frames := 0, cells := 0, slots := 0, locals := 0 }
def f_X4_isPlaceOfAny_b2 (g : Nat) : Nat → Int32 → Int32 → Mem → Option (Int32 × Mem)
  | 0 => fun _ _ _ => none
  | fu + 1 => fun x1 x2 M =>
(if (M g 2 0) ≤ x2 then
  some (0, M)
else
  ck (ibd x2 5) <|
  (if (M g 5 (ix x2)) = x1 then
    some (1, M)
  else
    lt (x2 + 1) fun x2_22 =>
    f_X4_isPlaceOfAny_b2 g fu x1 x2_22 M))
def f_X4_isPlaceOfAny (g : Nat) (x1 : Int32) (M : Mem) : Option (Int32 × Mem) :=
f_X4_isPlaceOfAny_b2 g 1000 x1 0 M
set_option maxHeartbeats 4000000 in
set_option maxRecDepth 100000 in
theorem w_X4_isPlaceOfAny_b2 {p : Program} {l : Launch} {e : Env} {s : State} {m : MethodId} {args : Array Value} {below : List Frame} {meth : Method} {c : Code} {G : GG} {sz : Nat} {ns : Nat} {g : Nat} {r : Int32} {M' : Mem} (E : Cx p s m args meth c cX4_isPlaceOfAny (some .boolean) 3 RX4 G) (hg : pg ns g) : ∀ fu : Nat, ∀ (x1 : Int32) (x2 : Int32) (M : Mem) (H : Heap) (locs : List Loc) (ls : Array Slot), f_X4_isPlaceOfAny_b2 g fu x1 x2 M = some (r, M') → PW G (AC G) (XC G ns) sz M s H → va_S (AC G) s.heap H locs → lv_has ls 3 [(0, .ref (adC G g 2)), (1, .int x1), (2, .int x2)] → W p l e rm_X4_isPlaceOfAny s m args below meth c H locs 0 0 (MQ below (va_Qi (fun (r2 : Int32) (_ : Unit) => r2 = r) (fun _ t => PW G (AC G) (XC G ns) sz M' t t.heap) (AC G)) args s 0 0 (AC G)) (F0 m 2 ls []) := by
  obtain ⟨hx, hb, hr, hlocks, hml, hown, hts, hK⟩ := id E
  intro fu
  induction fu with
  | zero => intro x1 x2 M H locs ls hf hP hS hl; cases hf
  | succ fu ih =>
    intro x1 x2 M H locs ls hf hP hS hl
    rw [f_X4_isPlaceOfAny_b2.eq_2] at hf
    refine lv_iload_n hx hb dX4_isPlaceOfAny_2 rfl (lv_at hl 2 rfl) ?_
    refine lv_aload_n hx hb dX4_isPlaceOfAny_3 rfl (lv_at hl 0 rfl) ?_
    refine gf_X4_many E hP hg w_40 dX4_isPlaceOfAny_4 ?_
    refine lv_icmp_ge (tgt := 28) hx hb dX4_isPlaceOfAny_7 (by decide) (fun hc => ?_) (fun hc => ?_)
    · have hf := if_t hf hc
      refine lv_iconst (v := 0) hx hb dX4_isPlaceOfAny_28 (by decide) ?_
      exact en_i hf hx hb hr rfl hlocks hP hS dX4_isPlaceOfAny_29
    · have hf := if_f hf hc
      refine lv_aload_n hx hb dX4_isPlaceOfAny_10 rfl (lv_at hl 0 rfl) ?_
      refine gf_X4_place E hP hg w_48 dX4_isPlaceOfAny_11 ?_
      refine lv_iload_n hx hb dX4_isPlaceOfAny_14 rfl (lv_at hl 2 rfl) ?_
      refine ck_e hf (fun hi hf => ?_)
      refine la_P5 E hP hg hi dX4_isPlaceOfAny_15 ?_
      refine lv_iload_n hx hb dX4_isPlaceOfAny_16 rfl (lv_at hl 1 rfl) ?_
      refine lv_icmp_ne (tgt := 22) hx hb dX4_isPlaceOfAny_17 (by decide) (fun hc => ?_) (fun hc => ?_)
      · have hf := if_f hf hc
        refine lt_e hf (fun x2_22 hx2_22 hf => ?_)
        refine lv_iinc (v := x2_22) (lv' := [(2, .int x2_22), (0, .ref (adC G g 2)), (1, .int x1)]) hx hb dX4_isPlaceOfAny_22 hl (k := 2) rfl (by rw [hx2_22]; rfl) (by decide) rfl (fun ls hl => ?_)
        refine lv_goto (tgt := 2) hx hb dX4_isPlaceOfAny_25 (by decide) ?_
        exact ih _ _ _ _ _ _ hf hP hS (lv_sub hl [1, 2, 0] rfl)
      · have hf := if_t hf hc
        refine lv_iconst (v := 1) hx hb dX4_isPlaceOfAny_20 (by decide) ?_
        exact en_i hf hx hb hr rfl hlocks hP hS dX4_isPlaceOfAny_21
set_option maxHeartbeats 4000000 in
set_option maxRecDepth 100000 in
theorem w_X4_isPlaceOfAny {p : Program} {l : Launch} {e : Env} {s : State} {m : MethodId} {args : Array Value} {below : List Frame} {meth : Method} {c : Code} {G : GG} {sz : Nat} {ns : Nat} {g : Nat} {r : Int32} {M' : Mem} (E : Cx p s m args meth c cX4_isPlaceOfAny (some .boolean) 3 RX4 G) (hg : pg ns g) {x1 : Int32} {M : Mem} {H : Heap} {locs : List Loc} {ls : Array Slot} (hf : f_X4_isPlaceOfAny g x1 M = some (r, M')) (hP : PW G (AC G) (XC G ns) sz M s H) (hS : va_S (AC G) s.heap H locs) (hl : lv_has ls 3 [(0, .ref (adC G g 2)), (1, .int x1)]) : W p l e rm_X4_isPlaceOfAny s m args below meth c H locs 0 0 (MQ below (va_Qi (fun (r2 : Int32) (_ : Unit) => r2 = r) (fun _ t => PW G (AC G) (XC G ns) sz M' t t.heap) (AC G)) args s 0 0 (AC G)) (F0 m 0 ls []) := by
  obtain ⟨hx, hb, hr, hlocks, hml, hown, hts, hK⟩ := id E
  unfold f_X4_isPlaceOfAny at hf
  refine lv_iconst (v := 0) hx hb dX4_isPlaceOfAny_0 (by decide) ?_
  refine lv_istore_n (lv' := [(2, .int 0), (0, .ref (adC G g 2)), (1, .int x1)]) hx hb dX4_isPlaceOfAny_1 rfl hl (by decide) rfl (fun ls hl => ?_)
  exact w_X4_isPlaceOfAny_b2 E hg 1000 _ _ _ _ _ _ hf hP hS (lv_sub hl [1, 2, 0] rfl)
theorem c_X4_isPlaceOfAny (l : Launch) {G : GG} {sz : Nat} {ns : Nat} {g : Nat} (hg : pg ns g) {x1 : Int32} {M : Mem} {r : Int32} {M' : Mem} (hf : f_X4_isPlaceOfAny g x1 M = some (r, M')) : CtI l yX4_isPlaceOfAny cX4_isPlaceOfAny 3 (some .boolean) rm_X4_isPlaceOfAny [.ref (adC G g 2), .int x1] G (AC G) (XC G ns) sz M r (XC G ns) sz M' := by
  refine Ct_of (by decide) (Nat.le_of_ble_eq_true rfl) (fun p e s m below meth c ls hx hb hr hlocks hml hown hts hK hP hl => ?_)
  exact w_X4_isPlaceOfAny ⟨hx, hb, hr, hlocks, hml, hown, hts, hK⟩ hg hf hP va_S.rf hl
set_option maxRecDepth 100000 in
theorem cv_X4_isPlaceOfAny {p : Program} {l : Launch} {e : Env} {R : Room} {s : State} {m : MethodId} {args : Array Value} {below : List Frame} {meth : Method} {c : Code} {H : Heap} {locs : List Loc} {cells slots : Nat} {Q : State → Prop} {cc : ByteArray} {pc nL index : Nat} {ret : Option FieldType} {own : String} {ls : Array Slot} {rest : List Value} {l' : List (Nat × Value)} {G : GG} {sz : Nat} {ns : Nat} {g : Nat} {M : Mem} (E : Cx p s m args meth c cc ret nL own G) (hP : PW G (AC G) (XC G ns) sz M s H) (hS : va_S (AC G) s.heap H locs) (hg : pg ns g) {x1 : Int32} {r : Int32} {M' : Mem} (hq : f_X4_isPlaceOfAny g x1 M = some (r, M')) (w1 : Cond.methodLink own index yX4_isPlaceOfAny ∈ lw_all) (hR : 1 ≤ R.frames ∧ 22 ≤ R.locals) (hl : lv_has ls nL l') (hrest : (rest.map fun v => v.category).sum ≤ 8) (hdg : decode cc pc = .ok (.invokevirtual index, 3)) (hcs : cells ≤ R.cells ∧ slots ≤ R.slots)
    (kk : ∀ (H1 : Heap) (locs1 : List Loc), PW G (AC G) (XC G ns) sz M' s H1 → va_S (AC G) s.heap H1 locs1 → W p l e R s m args below meth c H1 locs1 cells slots Q (F0 m (pc + 3) ls (.int r :: rest))) : W p l e R s m args below meth c H locs cells slots Q (F0 m pc ls (.int x1 :: .ref (adC G g 2) :: rest)) := by
  obtain ⟨hx, hb, hr, hlocks, hml, hown, hts, hK⟩ := E
  obtain ⟨g0, rfl⟩ := pg_s hg
  exact kc_i (kc_runV (na := 1) (q := (RX4, TX4, 8)) hx hb hml hts hown hK hP (g0 + 1) 2 (dmP hg (by decide)) rfl rfl rfl (c_X4_isPlaceOfAny l hg hq) w1 w_324 w_325 w_3 w_326 (by decide +kernel) hR rfl hl rfl hrest hdg hcs) hS kk
/-! X4_add -/
abbrev rm_X4_add : Room := { frames := 0, cells := 0, slots := 0, locals := 0 }
def f_X4_add (g : Nat) (x1 : Int32) (x2 : Int32) (x3 : Int32) (M : Mem) : Option (Int32 × Mem) :=
lt ((M g 2 0)) fun x4_4 =>
ck (ibd x4_4 5) <|
lt (up3 M g 3 (ix x4_4) x1) fun M_13 =>
ck (ibd x4_4 5) <|
lt (up3 M_13 g 4 (ix x4_4) x2) fun M_21 =>
ck (ibd x4_4 5) <|
lt (up3 M_21 g 5 (ix x4_4) x3) fun M_29 =>
ck (ibd x4_4 5) <|
lt (up3 M_29 g 6 (ix x4_4) x2) fun M_37 =>
ck (ibd x4_4 5) <|
lt (up3 M_37 g 7 (ix x4_4) 0) fun M_45 =>
ck (ibd x4_4 5) <|
lt (up3 M_45 g 8 (ix x4_4) 0) fun M_53 =>
ck (ibd x4_4 5) <|
lt (up3 M_53 g 9 (ix x4_4) 0) fun M_61 =>
lt (up3 M_61 g 2 0 ((M_61 g 2 0) + 1)) fun M_69 =>
some (x4_4, M_69)
set_option maxHeartbeats 4000000 in
set_option maxRecDepth 100000 in
theorem w_X4_add {p : Program} {l : Launch} {e : Env} {s : State} {m : MethodId} {args : Array Value} {below : List Frame} {meth : Method} {c : Code} {G : GG} {sz : Nat} {ns : Nat} {g : Nat} {r : Int32} {M' : Mem} (E : Cx p s m args meth c cX4_add (some .int) 5 RX4 G) (hg : pg ns g) {x1 : Int32} {x2 : Int32} {x3 : Int32} {M : Mem} {H : Heap} {locs : List Loc} {ls : Array Slot} (hf : f_X4_add g x1 x2 x3 M = some (r, M')) (hP : PW G (AC G) (XC G ns) sz M s H) (hS : va_S (AC G) s.heap H locs) (hl : lv_has ls 5 [(0, .ref (adC G g 2)), (1, .int x1), (2, .int x2), (3, .int x3)]) : W p l e rm_X4_add s m args below meth c H locs 0 0 (MQ below (va_Qi (fun (r2 : Int32) (_ : Unit) => r2 = r) (fun _ t => PW G (AC G) (XC G ns) sz M' t t.heap) (AC G)) args s 0 0 (AC G)) (F0 m 0 ls []) := by
  obtain ⟨hx, hb, hr, hlocks, hml, hown, hts, hK⟩ := id E
  unfold f_X4_add at hf
  refine lv_aload_n hx hb dX4_add_0 rfl (lv_at hl 0 rfl) ?_
  refine gf_X4_many E hP hg w_40 dX4_add_1 ?_
  refine lt_e hf (fun x4_4 hx4_4 hf => ?_)
  refine kr_nm hx4_4 ?_
  refine lv_istore (lv' := [(4, .int x4_4), (0, .ref (adC G g 2)), (1, .int x1), (2, .int x2), (3, .int x3)]) hx hb dX4_add_4 hl (by decide) rfl (fun ls hl => ?_)
  refine lv_aload_n hx hb dX4_add_6 rfl (lv_at hl 1 rfl) ?_
  refine gf_X4_kind E hP hg w_42 dX4_add_7 ?_
  refine lv_iload hx hb dX4_add_10 (lv_at hl 0 rfl) ?_
  refine lv_iload_n hx hb dX4_add_12 rfl (lv_at hl 2 rfl) ?_
  refine ck_e hf (fun hi hf => ?_)
  refine lt_e hf (fun M_13 hM_13 hf => ?_)
  refine sa_P3 E hP hS hg hi hM_13 dX4_add_13 (fun H locs hP hS => ?_)
  refine lv_aload_n hx hb dX4_add_14 rfl (lv_at hl 1 rfl) ?_
  refine gf_X4_capacity E hP hg w_45 dX4_add_15 ?_
  refine lv_iload hx hb dX4_add_18 (lv_at hl 0 rfl) ?_
  refine lv_iload_n hx hb dX4_add_20 rfl (lv_at hl 3 rfl) ?_
  refine ck_e hf (fun hi hf => ?_)
  refine lt_e hf (fun M_21 hM_21 hf => ?_)
  refine sa_P4 E hP hS hg hi hM_21 dX4_add_21 (fun H locs hP hS => ?_)
  refine lv_aload_n hx hb dX4_add_22 rfl (lv_at hl 1 rfl) ?_
  refine gf_X4_place E hP hg w_48 dX4_add_23 ?_
  refine lv_iload hx hb dX4_add_26 (lv_at hl 0 rfl) ?_
  refine lv_iload_n hx hb dX4_add_28 rfl (lv_at hl 4 rfl) ?_
  refine ck_e hf (fun hi hf => ?_)
  refine lt_e hf (fun M_29 hM_29 hf => ?_)
  refine sa_P5 E hP hS hg hi hM_29 dX4_add_29 (fun H locs hP hS => ?_)
  refine lv_aload_n hx hb dX4_add_30 rfl (lv_at hl 1 rfl) ?_
  refine gf_X4_ink E hP hg w_50 dX4_add_31 ?_
  refine lv_iload hx hb dX4_add_34 (lv_at hl 0 rfl) ?_
  refine lv_iload_n hx hb dX4_add_36 rfl (lv_at hl 3 rfl) ?_
  refine ck_e hf (fun hi hf => ?_)
  refine lt_e hf (fun M_37 hM_37 hf => ?_)
  refine sa_P6 E hP hS hg hi hM_37 dX4_add_37 (fun H locs hP hS => ?_)
  refine lv_aload_n hx hb dX4_add_38 rfl (lv_at hl 1 rfl) ?_
  refine gf_X4_drawn E hP hg w_53 dX4_add_39 ?_
  refine lv_iload hx hb dX4_add_42 (lv_at hl 0 rfl) ?_
  refine lv_iconst (v := 0) hx hb dX4_add_44 (by decide) ?_
  refine ck_e hf (fun hi hf => ?_)
  refine lt_e hf (fun M_45 hM_45 hf => ?_)
  refine sa_P7 E hP hS hg hi hM_45 dX4_add_45 (fun H locs hP hS => ?_)
  refine lv_aload_n hx hb dX4_add_46 rfl (lv_at hl 1 rfl) ?_
  refine gf_X4_idle E hP hg w_56 dX4_add_47 ?_
  refine lv_iload hx hb dX4_add_50 (lv_at hl 0 rfl) ?_
  refine lv_iconst (v := 0) hx hb dX4_add_52 (by decide) ?_
  refine ck_e hf (fun hi hf => ?_)
  refine lt_e hf (fun M_53 hM_53 hf => ?_)
  refine sa_P8 E hP hS hg hi hM_53 dX4_add_53 (fun H locs hP hS => ?_)
  refine lv_aload_n hx hb dX4_add_54 rfl (lv_at hl 1 rfl) ?_
  refine gf_X4_away E hP hg w_59 dX4_add_55 ?_
  refine lv_iload hx hb dX4_add_58 (lv_at hl 0 rfl) ?_
  refine lv_iconst (v := 0) hx hb dX4_add_60 (by decide) ?_
  refine ck_e hf (fun hi hf => ?_)
  refine lt_e hf (fun M_61 hM_61 hf => ?_)
  refine sa_P9 E hP hS hg hi hM_61 dX4_add_61 (fun H locs hP hS => ?_)
  refine lv_aload_n hx hb dX4_add_62 rfl (lv_at hl 1 rfl) ?_
  refine lv_dup hx hb dX4_add_63 rfl ?_
  refine gf_X4_many E hP hg w_40 dX4_add_64 ?_
  refine lv_iconst (v := 1) hx hb dX4_add_67 (by decide) ?_
  refine lv_iadd hx hb dX4_add_68 ?_
  refine lt_e hf (fun M_69 hM_69 hf => ?_)
  refine pf_X4_many E hP hS hg hM_69 w_40 dX4_add_69 (fun H locs hP hS => ?_)
  refine lv_iload hx hb dX4_add_72 (lv_at hl 0 rfl) ?_
  exact en_i hf hx hb hr rfl hlocks hP hS dX4_add_74
theorem c_X4_add (l : Launch) {G : GG} {sz : Nat} {ns : Nat} {g : Nat} (hg : pg ns g) {x1 : Int32} {x2 : Int32} {x3 : Int32} {M : Mem} {r : Int32} {M' : Mem} (hf : f_X4_add g x1 x2 x3 M = some (r, M')) : CtI l yX4_add cX4_add 5 (some .int) rm_X4_add [.ref (adC G g 2), .int x1, .int x2, .int x3] G (AC G) (XC G ns) sz M r (XC G ns) sz M' := by
  refine Ct_of (by decide) (Nat.le_of_ble_eq_true rfl) (fun p e s m below meth c ls hx hb hr hlocks hml hown hts hK hP hl => ?_)
  exact w_X4_add ⟨hx, hb, hr, hlocks, hml, hown, hts, hK⟩ hg hf hP va_S.rf hl
set_option maxRecDepth 100000 in
theorem cv_X4_add {p : Program} {l : Launch} {e : Env} {R : Room} {s : State} {m : MethodId} {args : Array Value} {below : List Frame} {meth : Method} {c : Code} {H : Heap} {locs : List Loc} {cells slots : Nat} {Q : State → Prop} {cc : ByteArray} {pc nL index : Nat} {ret : Option FieldType} {own : String} {ls : Array Slot} {rest : List Value} {l' : List (Nat × Value)} {G : GG} {sz : Nat} {ns : Nat} {g : Nat} {M : Mem} (E : Cx p s m args meth c cc ret nL own G) (hP : PW G (AC G) (XC G ns) sz M s H) (hS : va_S (AC G) s.heap H locs) (hg : pg ns g) {x1 : Int32} {x2 : Int32} {x3 : Int32} {r : Int32} {M' : Mem} (hq : f_X4_add g x1 x2 x3 M = some (r, M')) (w1 : Cond.methodLink own index yX4_add ∈ lw_all) (hR : 1 ≤ R.frames ∧ 24 ≤ R.locals) (hl : lv_has ls nL l') (hrest : (rest.map fun v => v.category).sum ≤ 8) (hdg : decode cc pc = .ok (.invokevirtual index, 3)) (hcs : cells ≤ R.cells ∧ slots ≤ R.slots)
    (kk : ∀ (H1 : Heap) (locs1 : List Loc), PW G (AC G) (XC G ns) sz M' s H1 → va_S (AC G) s.heap H1 locs1 → W p l e R s m args below meth c H1 locs1 cells slots Q (F0 m (pc + 3) ls (.int r :: rest))) : W p l e R s m args below meth c H locs cells slots Q (F0 m pc ls (.int x3 :: .int x2 :: .int x1 :: .ref (adC G g 2) :: rest)) := by
  obtain ⟨hx, hb, hr, hlocks, hml, hown, hts, hK⟩ := E
  obtain ⟨g0, rfl⟩ := pg_s hg
  exact kc_i (kc_runV (na := 3) (q := (RX4, TX4, 8)) hx hb hml hts hown hK hP (g0 + 1) 2 (dmP hg (by decide)) rfl rfl rfl (c_X4_add l hg hq) w1 w_330 w_331 w_3 w_332 (by decide +kernel) hR rfl hl rfl hrest hdg hcs) hS kk
/-! X4_howManyPresent -/
abbrev rm_X4_howManyPresent : Room := { frames := 0, cells := 0, slots := 0, locals := 0 }
def f_X4_howManyPresent_b4 (g : Nat) : Nat → Int32 → Int32 → Mem → Option (Int32 × Mem)
  | 0 => fun _ _ _ => none
  | fu + 1 => fun x1 x2 M =>
(if (M g 2 0) ≤ x2 then
  some (x1, M)
else
  ck (ibd x2 5) <|
  lt ((x1 + (1 - (M g 9 (ix x2))))) fun x1_22 =>
  lt (x2 + 1) fun x2_23 =>
  f_X4_howManyPresent_b4 g fu x1_22 x2_23 M)
def f_X4_howManyPresent (g : Nat) (M : Mem) : Option (Int32 × Mem) :=
f_X4_howManyPresent_b4 g 1000 0 0 M
set_option maxHeartbeats 4000000 in
set_option maxRecDepth 100000 in
theorem w_X4_howManyPresent_b4 {p : Program} {l : Launch} {e : Env} {s : State} {m : MethodId} {args : Array Value} {below : List Frame} {meth : Method} {c : Code} {G : GG} {sz : Nat} {ns : Nat} {g : Nat} {r : Int32} {M' : Mem} (E : Cx p s m args meth c cX4_howManyPresent (some .int) 3 RX4 G) (hg : pg ns g) : ∀ fu : Nat, ∀ (x1 : Int32) (x2 : Int32) (M : Mem) (H : Heap) (locs : List Loc) (ls : Array Slot), f_X4_howManyPresent_b4 g fu x1 x2 M = some (r, M') → PW G (AC G) (XC G ns) sz M s H → va_S (AC G) s.heap H locs → lv_has ls 3 [(0, .ref (adC G g 2)), (1, .int x1), (2, .int x2)] → W p l e rm_X4_howManyPresent s m args below meth c H locs 0 0 (MQ below (va_Qi (fun (r2 : Int32) (_ : Unit) => r2 = r) (fun _ t => PW G (AC G) (XC G ns) sz M' t t.heap) (AC G)) args s 0 0 (AC G)) (F0 m 4 ls []) := by
  obtain ⟨hx, hb, hr, hlocks, hml, hown, hts, hK⟩ := id E
  intro fu
  induction fu with
  | zero => intro x1 x2 M H locs ls hf hP hS hl; cases hf
  | succ fu ih =>
    intro x1 x2 M H locs ls hf hP hS hl
    rw [f_X4_howManyPresent_b4.eq_2] at hf
    refine lv_iload_n hx hb dX4_howManyPresent_4 rfl (lv_at hl 2 rfl) ?_
    refine lv_aload_n hx hb dX4_howManyPresent_5 rfl (lv_at hl 0 rfl) ?_
    refine gf_X4_many E hP hg w_40 dX4_howManyPresent_6 ?_
    refine lv_icmp_ge (tgt := 29) hx hb dX4_howManyPresent_9 (by decide) (fun hc => ?_) (fun hc => ?_)
    · have hf := if_t hf hc
      refine lv_iload_n hx hb dX4_howManyPresent_29 rfl (lv_at hl 1 rfl) ?_
      exact en_i hf hx hb hr rfl hlocks hP hS dX4_howManyPresent_30
    · have hf := if_f hf hc
      refine lv_iload_n hx hb dX4_howManyPresent_12 rfl (lv_at hl 1 rfl) ?_
      refine lv_iconst (v := 1) hx hb dX4_howManyPresent_13 (by decide) ?_
      refine lv_aload_n hx hb dX4_howManyPresent_14 rfl (lv_at hl 0 rfl) ?_
      refine gf_X4_away E hP hg w_59 dX4_howManyPresent_15 ?_
      refine lv_iload_n hx hb dX4_howManyPresent_18 rfl (lv_at hl 2 rfl) ?_
      refine ck_e hf (fun hi hf => ?_)
      refine la_P9 E hP hg hi dX4_howManyPresent_19 ?_
      refine lv_isub hx hb dX4_howManyPresent_20 ?_
      refine lv_iadd hx hb dX4_howManyPresent_21 ?_
      refine lt_e hf (fun x1_22 hx1_22 hf => ?_)
      refine kr_nm hx1_22 ?_
      refine lv_istore_n (lv' := [(1, .int x1_22), (0, .ref (adC G g 2)), (2, .int x2)]) hx hb dX4_howManyPresent_22 rfl hl (by decide) rfl (fun ls hl => ?_)
      refine lt_e hf (fun x2_23 hx2_23 hf => ?_)
      refine lv_iinc (v := x2_23) (lv' := [(2, .int x2_23), (1, .int x1_22), (0, .ref (adC G g 2))]) hx hb dX4_howManyPresent_23 hl (k := 2) rfl (by rw [hx2_23]; rfl) (by decide) rfl (fun ls hl => ?_)
      refine lv_goto (tgt := 4) hx hb dX4_howManyPresent_26 (by decide) ?_
      exact ih _ _ _ _ _ _ hf hP hS (lv_sub hl [2, 1, 0] rfl)
set_option maxHeartbeats 4000000 in
set_option maxRecDepth 100000 in
theorem w_X4_howManyPresent {p : Program} {l : Launch} {e : Env} {s : State} {m : MethodId} {args : Array Value} {below : List Frame} {meth : Method} {c : Code} {G : GG} {sz : Nat} {ns : Nat} {g : Nat} {r : Int32} {M' : Mem} (E : Cx p s m args meth c cX4_howManyPresent (some .int) 3 RX4 G) (hg : pg ns g) {M : Mem} {H : Heap} {locs : List Loc} {ls : Array Slot} (hf : f_X4_howManyPresent g M = some (r, M')) (hP : PW G (AC G) (XC G ns) sz M s H) (hS : va_S (AC G) s.heap H locs) (hl : lv_has ls 3 [(0, .ref (adC G g 2))]) : W p l e rm_X4_howManyPresent s m args below meth c H locs 0 0 (MQ below (va_Qi (fun (r2 : Int32) (_ : Unit) => r2 = r) (fun _ t => PW G (AC G) (XC G ns) sz M' t t.heap) (AC G)) args s 0 0 (AC G)) (F0 m 0 ls []) := by
  obtain ⟨hx, hb, hr, hlocks, hml, hown, hts, hK⟩ := id E
  unfold f_X4_howManyPresent at hf
  refine lv_iconst (v := 0) hx hb dX4_howManyPresent_0 (by decide) ?_
  refine lv_istore_n (lv' := [(1, .int 0), (0, .ref (adC G g 2))]) hx hb dX4_howManyPresent_1 rfl hl (by decide) rfl (fun ls hl => ?_)
  refine lv_iconst (v := 0) hx hb dX4_howManyPresent_2 (by decide) ?_
  refine lv_istore_n (lv' := [(2, .int 0), (1, .int 0), (0, .ref (adC G g 2))]) hx hb dX4_howManyPresent_3 rfl hl (by decide) rfl (fun ls hl => ?_)
  exact w_X4_howManyPresent_b4 E hg 1000 _ _ _ _ _ _ hf hP hS (lv_sub hl [2, 1, 0] rfl)
theorem c_X4_howManyPresent (l : Launch) {G : GG} {sz : Nat} {ns : Nat} {g : Nat} (hg : pg ns g) {M : Mem} {r : Int32} {M' : Mem} (hf : f_X4_howManyPresent g M = some (r, M')) : CtI l yX4_howManyPresent cX4_howManyPresent 3 (some .int) rm_X4_howManyPresent [.ref (adC G g 2)] G (AC G) (XC G ns) sz M r (XC G ns) sz M' := by
  refine Ct_of (by decide) (Nat.le_of_ble_eq_true rfl) (fun p e s m below meth c ls hx hb hr hlocks hml hown hts hK hP hl => ?_)
  exact w_X4_howManyPresent ⟨hx, hb, hr, hlocks, hml, hown, hts, hK⟩ hg hf hP va_S.rf hl
set_option maxRecDepth 100000 in
theorem cv_X4_howManyPresent {p : Program} {l : Launch} {e : Env} {R : Room} {s : State} {m : MethodId} {args : Array Value} {below : List Frame} {meth : Method} {c : Code} {H : Heap} {locs : List Loc} {cells slots : Nat} {Q : State → Prop} {cc : ByteArray} {pc nL index : Nat} {ret : Option FieldType} {own : String} {ls : Array Slot} {rest : List Value} {l' : List (Nat × Value)} {G : GG} {sz : Nat} {ns : Nat} {g : Nat} {M : Mem} (E : Cx p s m args meth c cc ret nL own G) (hP : PW G (AC G) (XC G ns) sz M s H) (hS : va_S (AC G) s.heap H locs) (hg : pg ns g) {r : Int32} {M' : Mem} (hq : f_X4_howManyPresent g M = some (r, M')) (w1 : Cond.methodLink own index yX4_howManyPresent ∈ lw_all) (hR : 1 ≤ R.frames ∧ 22 ≤ R.locals) (hl : lv_has ls nL l') (hrest : (rest.map fun v => v.category).sum ≤ 8) (hdg : decode cc pc = .ok (.invokevirtual index, 3)) (hcs : cells ≤ R.cells ∧ slots ≤ R.slots)
    (kk : ∀ (H1 : Heap) (locs1 : List Loc), PW G (AC G) (XC G ns) sz M' s H1 → va_S (AC G) s.heap H1 locs1 → W p l e R s m args below meth c H1 locs1 cells slots Q (F0 m (pc + 3) ls (.int r :: rest))) : W p l e R s m args below meth c H locs cells slots Q (F0 m pc ls (.ref (adC G g 2) :: rest)) := by
  obtain ⟨hx, hb, hr, hlocks, hml, hown, hts, hK⟩ := E
  obtain ⟨g0, rfl⟩ := pg_s hg
  exact kc_i (kc_runV (na := 0) (q := (RX4, TX4, 8)) hx hb hml hts hown hK hP (g0 + 1) 2 (dmP hg (by decide)) rfl rfl rfl (c_X4_howManyPresent l hg hq) w1 w_577 w_578 w_3 w_579 (by decide +kernel) hR rfl hl rfl hrest hdg hcs) hS kk
/-! X4_leastDrawnBut -/
abbrev rm_X4_leastDrawnBut : Room := { frames := 1, cells := 0, slots := 0, locals := 21 }
def f_X4_leastDrawnBut_b47 (g : Nat) (L4 : Int32 → Int32 → Int32 → Mem → Option (Int32 × Mem)) (x1 : Int32) (x2 : Int32) (x3 : Int32) (M : Mem) : Option (Int32 × Mem) :=
lt (x3 + 1) fun x3_47 =>
L4 x1 x2 x3_47 M
def f_X4_leastDrawnBut_b40 (g : Nat) (L4 : Int32 → Int32 → Int32 → Mem → Option (Int32 × Mem)) (x1 : Int32) (x3 : Int32) (M : Mem) : Option (Int32 × Mem) :=
ck (ibd x3 5) <|
lt ((M g 7 (ix x3))) fun x2_46 =>
f_X4_leastDrawnBut_b47 g L4 x1 x2_46 x3 M
def f_X4_leastDrawnBut_b4 (g : Nat) : Nat → Int32 → Int32 → Int32 → Mem → Option (Int32 × Mem)
  | 0 => fun _ _ _ _ => none
  | fu + 1 => fun x1 x2 x3 M =>
(if (M g 2 0) ≤ x3 then
  some (x2, M)
else
  (if x3 = x1 then
    f_X4_leastDrawnBut_b47 g (f_X4_leastDrawnBut_b4 g fu) x1 x2 x3 M
  else
    ob (f_X4_isAway g x3 M) fun r_19 M_19 =>
    (if r_19 = 0 then
      (if x2 = (-1) then
        f_X4_leastDrawnBut_b40 g (f_X4_leastDrawnBut_b4 g fu) x1 x3 M_19
      else
        ck (ibd x3 5) <|
        (if x2 ≤ (M_19 g 7 (ix x3)) then
          f_X4_leastDrawnBut_b47 g (f_X4_leastDrawnBut_b4 g fu) x1 x2 x3 M_19
        else
          f_X4_leastDrawnBut_b40 g (f_X4_leastDrawnBut_b4 g fu) x1 x3 M_19))
    else
      f_X4_leastDrawnBut_b47 g (f_X4_leastDrawnBut_b4 g fu) x1 x2 x3 M_19)))
def f_X4_leastDrawnBut (g : Nat) (x1 : Int32) (M : Mem) : Option (Int32 × Mem) :=
f_X4_leastDrawnBut_b4 g 1000 x1 (-1) 0 M
set_option maxHeartbeats 4000000 in
set_option maxRecDepth 100000 in
theorem w_X4_leastDrawnBut_b47 {p : Program} {l : Launch} {e : Env} {s : State} {m : MethodId} {args : Array Value} {below : List Frame} {meth : Method} {c : Code} {G : GG} {sz : Nat} {ns : Nat} {g : Nat} {r : Int32} {M' : Mem} (E : Cx p s m args meth c cX4_leastDrawnBut (some .int) 4 RX4 G) (hg : pg ns g) {L4 : Int32 → Int32 → Int32 → Mem → Option (Int32 × Mem)} (hL4 : ∀ (x1 : Int32) (x2 : Int32) (x3 : Int32) (M : Mem) (H : Heap) (locs : List Loc) (ls : Array Slot), L4 x1 x2 x3 M = some (r, M') → PW G (AC G) (XC G ns) sz M s H → va_S (AC G) s.heap H locs → lv_has ls 4 [(0, .ref (adC G g 2)), (1, .int x1), (2, .int x2), (3, .int x3)] → W p l e rm_X4_leastDrawnBut s m args below meth c H locs 0 0 (MQ below (va_Qi (fun (r2 : Int32) (_ : Unit) => r2 = r) (fun _ t => PW G (AC G) (XC G ns) sz M' t t.heap) (AC G)) args s 0 0 (AC G)) (F0 m 4 ls [])) {x1 : Int32} {x2 : Int32} {x3 : Int32} {M : Mem} {H : Heap} {locs : List Loc} {ls : Array Slot} (hf : f_X4_leastDrawnBut_b47 g L4 x1 x2 x3 M = some (r, M')) (hP : PW G (AC G) (XC G ns) sz M s H) (hS : va_S (AC G) s.heap H locs) (hl : lv_has ls 4 [(0, .ref (adC G g 2)), (1, .int x1), (2, .int x2), (3, .int x3)]) : W p l e rm_X4_leastDrawnBut s m args below meth c H locs 0 0 (MQ below (va_Qi (fun (r2 : Int32) (_ : Unit) => r2 = r) (fun _ t => PW G (AC G) (XC G ns) sz M' t t.heap) (AC G)) args s 0 0 (AC G)) (F0 m 47 ls []) := by
  obtain ⟨hx, hb, hr, hlocks, hml, hown, hts, hK⟩ := id E
  unfold f_X4_leastDrawnBut_b47 at hf
  refine lt_e hf (fun x3_47 hx3_47 hf => ?_)
  refine lv_iinc (v := x3_47) (lv' := [(3, .int x3_47), (0, .ref (adC G g 2)), (1, .int x1), (2, .int x2)]) hx hb dX4_leastDrawnBut_47 hl (k := 3) rfl (by rw [hx3_47]; rfl) (by decide) rfl (fun ls hl => ?_)
  refine lv_goto (tgt := 4) hx hb dX4_leastDrawnBut_50 (by decide) ?_
  exact hL4 _ _ _ _ _ _ _ hf hP hS (lv_sub hl [1, 2, 3, 0] rfl)
set_option maxHeartbeats 4000000 in
set_option maxRecDepth 100000 in
theorem w_X4_leastDrawnBut_b40 {p : Program} {l : Launch} {e : Env} {s : State} {m : MethodId} {args : Array Value} {below : List Frame} {meth : Method} {c : Code} {G : GG} {sz : Nat} {ns : Nat} {g : Nat} {r : Int32} {M' : Mem} (E : Cx p s m args meth c cX4_leastDrawnBut (some .int) 4 RX4 G) (hg : pg ns g) {L4 : Int32 → Int32 → Int32 → Mem → Option (Int32 × Mem)} (hL4 : ∀ (x1 : Int32) (x2 : Int32) (x3 : Int32) (M : Mem) (H : Heap) (locs : List Loc) (ls : Array Slot), L4 x1 x2 x3 M = some (r, M') → PW G (AC G) (XC G ns) sz M s H → va_S (AC G) s.heap H locs → lv_has ls 4 [(0, .ref (adC G g 2)), (1, .int x1), (2, .int x2), (3, .int x3)] → W p l e rm_X4_leastDrawnBut s m args below meth c H locs 0 0 (MQ below (va_Qi (fun (r2 : Int32) (_ : Unit) => r2 = r) (fun _ t => PW G (AC G) (XC G ns) sz M' t t.heap) (AC G)) args s 0 0 (AC G)) (F0 m 4 ls [])) {x1 : Int32} {x3 : Int32} {M : Mem} {H : Heap} {locs : List Loc} {ls : Array Slot} (hf : f_X4_leastDrawnBut_b40 g L4 x1 x3 M = some (r, M')) (hP : PW G (AC G) (XC G ns) sz M s H) (hS : va_S (AC G) s.heap H locs) (hl : lv_has ls 4 [(0, .ref (adC G g 2)), (1, .int x1), (3, .int x3)]) : W p l e rm_X4_leastDrawnBut s m args below meth c H locs 0 0 (MQ below (va_Qi (fun (r2 : Int32) (_ : Unit) => r2 = r) (fun _ t => PW G (AC G) (XC G ns) sz M' t t.heap) (AC G)) args s 0 0 (AC G)) (F0 m 40 ls []) := by
  obtain ⟨hx, hb, hr, hlocks, hml, hown, hts, hK⟩ := id E
  unfold f_X4_leastDrawnBut_b40 at hf
  refine lv_aload_n hx hb dX4_leastDrawnBut_40 rfl (lv_at hl 0 rfl) ?_
  refine gf_X4_drawn E hP hg w_53 dX4_leastDrawnBut_41 ?_
  refine lv_iload_n hx hb dX4_leastDrawnBut_44 rfl (lv_at hl 2 rfl) ?_
  refine ck_e hf (fun hi hf => ?_)
  refine la_P7 E hP hg hi dX4_leastDrawnBut_45 ?_
  refine lt_e hf (fun x2_46 hx2_46 hf => ?_)
  refine kr_nm hx2_46 ?_
  refine lv_istore_n (lv' := [(2, .int x2_46), (0, .ref (adC G g 2)), (1, .int x1), (3, .int x3)]) hx hb dX4_leastDrawnBut_46 rfl hl (by decide) rfl (fun ls hl => ?_)
  exact w_X4_leastDrawnBut_b47 E hg hL4 hf hP hS (lv_sub hl [1, 2, 0, 3] rfl)
set_option maxHeartbeats 4000000 in
set_option maxRecDepth 100000 in
theorem w_X4_leastDrawnBut_b4 {p : Program} {l : Launch} {e : Env} {s : State} {m : MethodId} {args : Array Value} {below : List Frame} {meth : Method} {c : Code} {G : GG} {sz : Nat} {ns : Nat} {g : Nat} {r : Int32} {M' : Mem} (E : Cx p s m args meth c cX4_leastDrawnBut (some .int) 4 RX4 G) (hg : pg ns g) : ∀ fu : Nat, ∀ (x1 : Int32) (x2 : Int32) (x3 : Int32) (M : Mem) (H : Heap) (locs : List Loc) (ls : Array Slot), f_X4_leastDrawnBut_b4 g fu x1 x2 x3 M = some (r, M') → PW G (AC G) (XC G ns) sz M s H → va_S (AC G) s.heap H locs → lv_has ls 4 [(0, .ref (adC G g 2)), (1, .int x1), (2, .int x2), (3, .int x3)] → W p l e rm_X4_leastDrawnBut s m args below meth c H locs 0 0 (MQ below (va_Qi (fun (r2 : Int32) (_ : Unit) => r2 = r) (fun _ t => PW G (AC G) (XC G ns) sz M' t t.heap) (AC G)) args s 0 0 (AC G)) (F0 m 4 ls []) := by
  obtain ⟨hx, hb, hr, hlocks, hml, hown, hts, hK⟩ := id E
  intro fu
  induction fu with
  | zero => intro x1 x2 x3 M H locs ls hf hP hS hl; cases hf
  | succ fu ih =>
    intro x1 x2 x3 M H locs ls hf hP hS hl
    rw [f_X4_leastDrawnBut_b4.eq_2] at hf
    refine lv_iload_n hx hb dX4_leastDrawnBut_4 rfl (lv_at hl 3 rfl) ?_
    refine lv_aload_n hx hb dX4_leastDrawnBut_5 rfl (lv_at hl 0 rfl) ?_
    refine gf_X4_many E hP hg w_40 dX4_leastDrawnBut_6 ?_
    refine lv_icmp_ge (tgt := 53) hx hb dX4_leastDrawnBut_9 (by decide) (fun hc => ?_) (fun hc => ?_)
    · have hf := if_t hf hc
      refine lv_iload_n hx hb dX4_leastDrawnBut_53 rfl (lv_at hl 2 rfl) ?_
      exact en_i hf hx hb hr rfl hlocks hP hS dX4_leastDrawnBut_54
    · have hf := if_f hf hc
      refine lv_iload_n hx hb dX4_leastDrawnBut_12 rfl (lv_at hl 3 rfl) ?_
      refine lv_iload_n hx hb dX4_leastDrawnBut_13 rfl (lv_at hl 1 rfl) ?_
      refine lv_icmp_eq (tgt := 47) hx hb dX4_leastDrawnBut_14 (by decide) (fun hc => ?_) (fun hc => ?_)
      · have hf := if_t hf hc
        exact w_X4_leastDrawnBut_b47 E hg ih hf hP hS (lv_sub hl [0, 1, 2, 3] rfl)
      · have hf := if_f hf hc
        refine lv_aload_n hx hb dX4_leastDrawnBut_17 rfl (lv_at hl 0 rfl) ?_
        refine lv_iload_n hx hb dX4_leastDrawnBut_18 rfl (lv_at hl 3 rfl) ?_
        refine ob_e hf (fun r_19 M_19 hq hf => ?_)
        refine cv_X4_isAway E hP hS hg hq w_474 ⟨Nat.le_of_ble_eq_true rfl, Nat.le_of_ble_eq_true rfl⟩ hl (Nat.le_of_ble_eq_true rfl) dX4_leastDrawnBut_19 ⟨Nat.le_of_ble_eq_true rfl, Nat.le_of_ble_eq_true rfl⟩ (fun H locs hP hS => ?_)
        refine lv_if_ne (tgt := 47) hx hb dX4_leastDrawnBut_22 (by decide) (fun hc => ?_) (fun hc => ?_)
        · have hf := if_f hf hc
          exact w_X4_leastDrawnBut_b47 E hg ih hf hP hS (lv_sub hl [0, 1, 2, 3] rfl)
        · have hf := if_t hf hc
          refine lv_iload_n hx hb dX4_leastDrawnBut_25 rfl (lv_at hl 2 rfl) ?_
          refine lv_iconst (v := (-1)) hx hb dX4_leastDrawnBut_26 (by decide) ?_
          refine lv_icmp_eq (tgt := 40) hx hb dX4_leastDrawnBut_27 (by decide) (fun hc => ?_) (fun hc => ?_)
          · have hf := if_t hf hc
            exact w_X4_leastDrawnBut_b40 E hg ih hf hP hS (lv_sub hl [0, 1, 3] rfl)
          · have hf := if_f hf hc
            refine lv_aload_n hx hb dX4_leastDrawnBut_30 rfl (lv_at hl 0 rfl) ?_
            refine gf_X4_drawn E hP hg w_53 dX4_leastDrawnBut_31 ?_
            refine lv_iload_n hx hb dX4_leastDrawnBut_34 rfl (lv_at hl 3 rfl) ?_
            refine ck_e hf (fun hi hf => ?_)
            refine la_P7 E hP hg hi dX4_leastDrawnBut_35 ?_
            refine lv_iload_n hx hb dX4_leastDrawnBut_36 rfl (lv_at hl 2 rfl) ?_
            refine lv_icmp_ge (tgt := 47) hx hb dX4_leastDrawnBut_37 (by decide) (fun hc => ?_) (fun hc => ?_)
            · have hf := if_t hf hc
              exact w_X4_leastDrawnBut_b47 E hg ih hf hP hS (lv_sub hl [0, 1, 2, 3] rfl)
            · have hf := if_f hf hc
              exact w_X4_leastDrawnBut_b40 E hg ih hf hP hS (lv_sub hl [0, 1, 3] rfl)
set_option maxHeartbeats 4000000 in
set_option maxRecDepth 100000 in
theorem w_X4_leastDrawnBut {p : Program} {l : Launch} {e : Env} {s : State} {m : MethodId} {args : Array Value} {below : List Frame} {meth : Method} {c : Code} {G : GG} {sz : Nat} {ns : Nat} {g : Nat} {r : Int32} {M' : Mem} (E : Cx p s m args meth c cX4_leastDrawnBut (some .int) 4 RX4 G) (hg : pg ns g) {x1 : Int32} {M : Mem} {H : Heap} {locs : List Loc} {ls : Array Slot} (hf : f_X4_leastDrawnBut g x1 M = some (r, M')) (hP : PW G (AC G) (XC G ns) sz M s H) (hS : va_S (AC G) s.heap H locs) (hl : lv_has ls 4 [(0, .ref (adC G g 2)), (1, .int x1)]) : W p l e rm_X4_leastDrawnBut s m args below meth c H locs 0 0 (MQ below (va_Qi (fun (r2 : Int32) (_ : Unit) => r2 = r) (fun _ t => PW G (AC G) (XC G ns) sz M' t t.heap) (AC G)) args s 0 0 (AC G)) (F0 m 0 ls []) := by
  obtain ⟨hx, hb, hr, hlocks, hml, hown, hts, hK⟩ := id E
  unfold f_X4_leastDrawnBut at hf
  refine lv_iconst (v := (-1)) hx hb dX4_leastDrawnBut_0 (by decide) ?_
  refine lv_istore_n (lv' := [(2, .int (-1)), (0, .ref (adC G g 2)), (1, .int x1)]) hx hb dX4_leastDrawnBut_1 rfl hl (by decide) rfl (fun ls hl => ?_)
  refine lv_iconst (v := 0) hx hb dX4_leastDrawnBut_2 (by decide) ?_
  refine lv_istore_n (lv' := [(3, .int 0), (2, .int (-1)), (0, .ref (adC G g 2)), (1, .int x1)]) hx hb dX4_leastDrawnBut_3 rfl hl (by decide) rfl (fun ls hl => ?_)
  exact w_X4_leastDrawnBut_b4 E hg 1000 _ _ _ _ _ _ _ hf hP hS (lv_sub hl [2, 3, 1, 0] rfl)
theorem c_X4_leastDrawnBut (l : Launch) {G : GG} {sz : Nat} {ns : Nat} {g : Nat} (hg : pg ns g) {x1 : Int32} {M : Mem} {r : Int32} {M' : Mem} (hf : f_X4_leastDrawnBut g x1 M = some (r, M')) : CtI l yX4_leastDrawnBut cX4_leastDrawnBut 4 (some .int) rm_X4_leastDrawnBut [.ref (adC G g 2), .int x1] G (AC G) (XC G ns) sz M r (XC G ns) sz M' := by
  refine Ct_of (by decide) (Nat.le_of_ble_eq_true rfl) (fun p e s m below meth c ls hx hb hr hlocks hml hown hts hK hP hl => ?_)
  exact w_X4_leastDrawnBut ⟨hx, hb, hr, hlocks, hml, hown, hts, hK⟩ hg hf hP va_S.rf hl
set_option maxRecDepth 100000 in
theorem cv_X4_leastDrawnBut {p : Program} {l : Launch} {e : Env} {R : Room} {s : State} {m : MethodId} {args : Array Value} {below : List Frame} {meth : Method} {c : Code} {H : Heap} {locs : List Loc} {cells slots : Nat} {Q : State → Prop} {cc : ByteArray} {pc nL index : Nat} {ret : Option FieldType} {own : String} {ls : Array Slot} {rest : List Value} {l' : List (Nat × Value)} {G : GG} {sz : Nat} {ns : Nat} {g : Nat} {M : Mem} (E : Cx p s m args meth c cc ret nL own G) (hP : PW G (AC G) (XC G ns) sz M s H) (hS : va_S (AC G) s.heap H locs) (hg : pg ns g) {x1 : Int32} {r : Int32} {M' : Mem} (hq : f_X4_leastDrawnBut g x1 M = some (r, M')) (w1 : Cond.methodLink own index yX4_leastDrawnBut ∈ lw_all) (hR : 2 ≤ R.frames ∧ 44 ≤ R.locals) (hl : lv_has ls nL l') (hrest : (rest.map fun v => v.category).sum ≤ 8) (hdg : decode cc pc = .ok (.invokevirtual index, 3)) (hcs : cells ≤ R.cells ∧ slots ≤ R.slots)
    (kk : ∀ (H1 : Heap) (locs1 : List Loc), PW G (AC G) (XC G ns) sz M' s H1 → va_S (AC G) s.heap H1 locs1 → W p l e R s m args below meth c H1 locs1 cells slots Q (F0 m (pc + 3) ls (.int r :: rest))) : W p l e R s m args below meth c H locs cells slots Q (F0 m pc ls (.int x1 :: .ref (adC G g 2) :: rest)) := by
  obtain ⟨hx, hb, hr, hlocks, hml, hown, hts, hK⟩ := E
  obtain ⟨g0, rfl⟩ := pg_s hg
  exact kc_i (kc_runV (na := 1) (q := (RX4, TX4, 8)) hx hb hml hts hown hK hP (g0 + 1) 2 (dmP hg (by decide)) rfl rfl rfl (c_X4_leastDrawnBut l hg hq) w1 w_471 w_472 w_3 w_473 (by decide +kernel) hR rfl hl rfl hrest hdg hcs) hS kk
/-! X4_spreadOf -/
abbrev rm_X4_spreadOf : Room := { frames := 1, cells := 0, slots := 0, locals := 33 }
def f_X4_spreadOf_b81 (g : Nat) (ga1 ka1 na1 : Nat) (s0 : Int32) (M : Mem) : Option (Int32 × Mem) :=
some (s0, M)
def f_X4_spreadOf_b68 (g : Nat) (ga1 ka1 na1 : Nat) (x2 : Int32) (x3 : Int32) (M : Mem) : Option (Int32 × Mem) :=
(if x2 = (-1) then
  f_X4_spreadOf_b81 g ga1 ka1 na1 (-1000004) M
else
  f_X4_spreadOf_b81 g ga1 ka1 na1 ((x3 - x2)) M)
def f_X4_spreadOf_b62 (g : Nat) (ga1 ka1 na1 : Nat) (L7 : Int32 → Int32 → Int32 → Mem → Option (Int32 × Mem)) (x2 : Int32) (x3 : Int32) (x4 : Int32) (M : Mem) : Option (Int32 × Mem) :=
lt (x4 + 1) fun x4_62 =>
L7 x2 x3 x4_62 M
def f_X4_spreadOf_b52 (g : Nat) (ga1 ka1 na1 : Nat) (L7 : Int32 → Int32 → Int32 → Mem → Option (Int32 × Mem)) (x3 : Int32) (x4 : Int32) (s0 : Int32) (M : Mem) : Option (Int32 × Mem) :=
ck (ibd x4 na1) <|
lt ((mx x3 (M ga1 ka1 (ix x4)))) fun x3_61 =>
f_X4_spreadOf_b62 g ga1 ka1 na1 L7 s0 x3_61 x4 M
def f_X4_spreadOf_b7 (g : Nat) (ga1 ka1 na1 : Nat) : Nat → Int32 → Int32 → Int32 → Mem → Option (Int32 × Mem)
  | 0 => fun _ _ _ _ => none
  | fu + 1 => fun x2 x3 x4 M =>
(if (M g 2 0) ≤ x4 then
  f_X4_spreadOf_b68 g ga1 ka1 na1 x2 x3 M
else
  (if (Int32.ofNat na1) ≤ x4 then
    f_X4_spreadOf_b68 g ga1 ka1 na1 x2 x3 M
  else
    ob (f_X4_isAway g x4 M) fun r_26 M_26 =>
    (if r_26 = 0 then
      (if x2 = (-1) then
        ck (ibd x4 na1) <|
        f_X4_spreadOf_b52 g ga1 ka1 na1 (f_X4_spreadOf_b7 g ga1 ka1 na1 fu) x3 x4 ((M_26 ga1 ka1 (ix x4))) M_26
      else
        ck (ibd x4 na1) <|
        f_X4_spreadOf_b52 g ga1 ka1 na1 (f_X4_spreadOf_b7 g ga1 ka1 na1 fu) x3 x4 ((mn x2 (M_26 ga1 ka1 (ix x4)))) M_26)
    else
      f_X4_spreadOf_b62 g ga1 ka1 na1 (f_X4_spreadOf_b7 g ga1 ka1 na1 fu) x2 x3 x4 M_26)))
def f_X4_spreadOf (g : Nat) (ga1 ka1 na1 : Nat) (M : Mem) : Option (Int32 × Mem) :=
f_X4_spreadOf_b7 g ga1 ka1 na1 1000 (-1) (-1) 0 M
set_option maxHeartbeats 4000000 in
set_option maxRecDepth 100000 in
theorem w_X4_spreadOf_b81 {p : Program} {l : Launch} {e : Env} {s : State} {m : MethodId} {args : Array Value} {below : List Frame} {meth : Method} {c : Code} {G : GG} {sz : Nat} {ns : Nat} {g : Nat} {ga1 ka1 na1 : Nat} {r : Int32} {M' : Mem} (E : Cx p s m args meth c cX4_spreadOf (some .int) 5 RX4 G) (hg : pg ns g) (hda1 : dmC ns ga1 ka1) (hea1 : ∀ m, entC G ns ga1 ka1 m = .inl (G.2.1.1, na1, .inl m)) {s0 : Int32} {M : Mem} {H : Heap} {locs : List Loc} {ls : Array Slot} (hf : f_X4_spreadOf_b81 g ga1 ka1 na1 s0 M = some (r, M')) (hP : PW G (AC G) (XC G ns) sz M s H) (hS : va_S (AC G) s.heap H locs) (hl : lv_has ls 5 []) : W p l e rm_X4_spreadOf s m args below meth c H locs 0 0 (MQ below (va_Qi (fun (r2 : Int32) (_ : Unit) => r2 = r) (fun _ t => PW G (AC G) (XC G ns) sz M' t t.heap) (AC G)) args s 0 0 (AC G)) (F0 m 81 ls [.int s0]) := by
  obtain ⟨hx, hb, hr, hlocks, hml, hown, hts, hK⟩ := id E
  unfold f_X4_spreadOf_b81 at hf
  exact en_i hf hx hb hr rfl hlocks hP hS dX4_spreadOf_81
set_option maxHeartbeats 4000000 in
set_option maxRecDepth 100000 in
theorem w_X4_spreadOf_b68 {p : Program} {l : Launch} {e : Env} {s : State} {m : MethodId} {args : Array Value} {below : List Frame} {meth : Method} {c : Code} {G : GG} {sz : Nat} {ns : Nat} {g : Nat} {ga1 ka1 na1 : Nat} {r : Int32} {M' : Mem} (E : Cx p s m args meth c cX4_spreadOf (some .int) 5 RX4 G) (hg : pg ns g) (hda1 : dmC ns ga1 ka1) (hea1 : ∀ m, entC G ns ga1 ka1 m = .inl (G.2.1.1, na1, .inl m)) {x2 : Int32} {x3 : Int32} {M : Mem} {H : Heap} {locs : List Loc} {ls : Array Slot} (hf : f_X4_spreadOf_b68 g ga1 ka1 na1 x2 x3 M = some (r, M')) (hP : PW G (AC G) (XC G ns) sz M s H) (hS : va_S (AC G) s.heap H locs) (hl : lv_has ls 5 [(2, .int x2), (3, .int x3)]) : W p l e rm_X4_spreadOf s m args below meth c H locs 0 0 (MQ below (va_Qi (fun (r2 : Int32) (_ : Unit) => r2 = r) (fun _ t => PW G (AC G) (XC G ns) sz M' t t.heap) (AC G)) args s 0 0 (AC G)) (F0 m 68 ls []) := by
  obtain ⟨hx, hb, hr, hlocks, hml, hown, hts, hK⟩ := id E
  unfold f_X4_spreadOf_b68 at hf
  refine lv_iload_n hx hb dX4_spreadOf_68 rfl (lv_at hl 0 rfl) ?_
  refine lv_iconst (v := (-1)) hx hb dX4_spreadOf_69 (by decide) ?_
  refine lv_icmp_ne (tgt := 78) hx hb dX4_spreadOf_70 (by decide) (fun hc => ?_) (fun hc => ?_)
  · have hf := if_f hf hc
    refine lv_iload_n hx hb dX4_spreadOf_78 rfl (lv_at hl 1 rfl) ?_
    refine lv_iload_n hx hb dX4_spreadOf_79 rfl (lv_at hl 0 rfl) ?_
    refine lv_isub hx hb dX4_spreadOf_80 ?_
    exact w_X4_spreadOf_b81 E hg hda1 hea1 hf hP hS (lv_sub hl [] rfl)
  · have hf := if_t hf hc
    refine lv_ldc (v := (-1000004)) hx hb hown (hts _ w_505) dX4_spreadOf_73 ?_
    refine lv_goto (tgt := 81) hx hb dX4_spreadOf_75 (by decide) ?_
    exact w_X4_spreadOf_b81 E hg hda1 hea1 hf hP hS (lv_sub hl [] rfl)
set_option maxHeartbeats 4000000 in
set_option maxRecDepth 100000 in
theorem w_X4_spreadOf_b62 {p : Program} {l : Launch} {e : Env} {s : State} {m : MethodId} {args : Array Value} {below : List Frame} {meth : Method} {c : Code} {G : GG} {sz : Nat} {ns : Nat} {g : Nat} {ga1 ka1 na1 : Nat} {r : Int32} {M' : Mem} (E : Cx p s m args meth c cX4_spreadOf (some .int) 5 RX4 G) (hg : pg ns g) (hda1 : dmC ns ga1 ka1) (hea1 : ∀ m, entC G ns ga1 ka1 m = .inl (G.2.1.1, na1, .inl m)) {L7 : Int32 → Int32 → Int32 → Mem → Option (Int32 × Mem)} (hL7 : ∀ (x2 : Int32) (x3 : Int32) (x4 : Int32) (M : Mem) (H : Heap) (locs : List Loc) (ls : Array Slot), L7 x2 x3 x4 M = some (r, M') → PW G (AC G) (XC G ns) sz M s H → va_S (AC G) s.heap H locs → lv_has ls 5 [(0, .ref (adC G g 2)), (1, .ref (adC G ga1 ka1)), (2, .int x2), (3, .int x3), (4, .int x4)] → W p l e rm_X4_spreadOf s m args below meth c H locs 0 0 (MQ below (va_Qi (fun (r2 : Int32) (_ : Unit) => r2 = r) (fun _ t => PW G (AC G) (XC G ns) sz M' t t.heap) (AC G)) args s 0 0 (AC G)) (F0 m 7 ls [])) {x2 : Int32} {x3 : Int32} {x4 : Int32} {M : Mem} {H : Heap} {locs : List Loc} {ls : Array Slot} (hf : f_X4_spreadOf_b62 g ga1 ka1 na1 L7 x2 x3 x4 M = some (r, M')) (hP : PW G (AC G) (XC G ns) sz M s H) (hS : va_S (AC G) s.heap H locs) (hl : lv_has ls 5 [(0, .ref (adC G g 2)), (1, .ref (adC G ga1 ka1)), (2, .int x2), (3, .int x3), (4, .int x4)]) : W p l e rm_X4_spreadOf s m args below meth c H locs 0 0 (MQ below (va_Qi (fun (r2 : Int32) (_ : Unit) => r2 = r) (fun _ t => PW G (AC G) (XC G ns) sz M' t t.heap) (AC G)) args s 0 0 (AC G)) (F0 m 62 ls []) := by
  obtain ⟨hx, hb, hr, hlocks, hml, hown, hts, hK⟩ := id E
  unfold f_X4_spreadOf_b62 at hf
  refine lt_e hf (fun x4_62 hx4_62 hf => ?_)
  refine lv_iinc (v := x4_62) (lv' := [(4, .int x4_62), (0, .ref (adC G g 2)), (1, .ref (adC G ga1 ka1)), (2, .int x2), (3, .int x3)]) hx hb dX4_spreadOf_62 hl (k := 4) rfl (by rw [hx4_62]; rfl) (by decide) rfl (fun ls hl => ?_)
  refine lv_goto (tgt := 7) hx hb dX4_spreadOf_65 (by decide) ?_
  exact hL7 _ _ _ _ _ _ _ hf hP hS (lv_sub hl [1, 2, 3, 4, 0] rfl)
set_option maxHeartbeats 4000000 in
set_option maxRecDepth 100000 in
theorem w_X4_spreadOf_b52 {p : Program} {l : Launch} {e : Env} {s : State} {m : MethodId} {args : Array Value} {below : List Frame} {meth : Method} {c : Code} {G : GG} {sz : Nat} {ns : Nat} {g : Nat} {ga1 ka1 na1 : Nat} {r : Int32} {M' : Mem} (E : Cx p s m args meth c cX4_spreadOf (some .int) 5 RX4 G) (hg : pg ns g) (hda1 : dmC ns ga1 ka1) (hea1 : ∀ m, entC G ns ga1 ka1 m = .inl (G.2.1.1, na1, .inl m)) {L7 : Int32 → Int32 → Int32 → Mem → Option (Int32 × Mem)} (hL7 : ∀ (x2 : Int32) (x3 : Int32) (x4 : Int32) (M : Mem) (H : Heap) (locs : List Loc) (ls : Array Slot), L7 x2 x3 x4 M = some (r, M') → PW G (AC G) (XC G ns) sz M s H → va_S (AC G) s.heap H locs → lv_has ls 5 [(0, .ref (adC G g 2)), (1, .ref (adC G ga1 ka1)), (2, .int x2), (3, .int x3), (4, .int x4)] → W p l e rm_X4_spreadOf s m args below meth c H locs 0 0 (MQ below (va_Qi (fun (r2 : Int32) (_ : Unit) => r2 = r) (fun _ t => PW G (AC G) (XC G ns) sz M' t t.heap) (AC G)) args s 0 0 (AC G)) (F0 m 7 ls [])) {x3 : Int32} {x4 : Int32} {s0 : Int32} {M : Mem} {H : Heap} {locs : List Loc} {ls : Array Slot} (hf : f_X4_spreadOf_b52 g ga1 ka1 na1 L7 x3 x4 s0 M = some (r, M')) (hP : PW G (AC G) (XC G ns) sz M s H) (hS : va_S (AC G) s.heap H locs) (hl : lv_has ls 5 [(0, .ref (adC G g 2)), (1, .ref (adC G ga1 ka1)), (3, .int x3), (4, .int x4)]) : W p l e rm_X4_spreadOf s m args below meth c H locs 0 0 (MQ below (va_Qi (fun (r2 : Int32) (_ : Unit) => r2 = r) (fun _ t => PW G (AC G) (XC G ns) sz M' t t.heap) (AC G)) args s 0 0 (AC G)) (F0 m 52 ls [.int s0]) := by
  obtain ⟨hx, hb, hr, hlocks, hml, hown, hts, hK⟩ := id E
  unfold f_X4_spreadOf_b52 at hf
  refine lv_istore_n (lv' := [(2, .int s0), (0, .ref (adC G g 2)), (1, .ref (adC G ga1 ka1)), (3, .int x3), (4, .int x4)]) hx hb dX4_spreadOf_52 rfl hl (by decide) rfl (fun ls hl => ?_)
  refine lv_iload_n hx hb dX4_spreadOf_53 rfl (lv_at hl 3 rfl) ?_
  refine lv_aload_n hx hb dX4_spreadOf_54 rfl (lv_at hl 2 rfl) ?_
  refine lv_iload hx hb dX4_spreadOf_55 (lv_at hl 4 rfl) ?_
  refine ck_e hf (fun hi hf => ?_)
  refine kr_iald hx hb hK hP ga1 ka1 hda1 rfl hea1 hi dX4_spreadOf_57 ?_
  refine va_mmax hx hb (hml.trans hl.1.symm) hown (hts _ w_504) (hts _ w_351) (hts _ w_9) (hts _ w_352) (Nat.le_of_ble_eq_true rfl) (Nat.le_of_ble_eq_true rfl) (Nat.le_of_ble_eq_true rfl) (Nat.le_of_ble_eq_true rfl) dX4_spreadOf_58 ?_
  refine kr_nm (y := (mx x3 (M ga1 ka1 (ix x4)))) rfl ?_
  refine lt_e hf (fun x3_61 hx3_61 hf => ?_)
  refine kr_nm hx3_61 ?_
  refine lv_istore_n (lv' := [(3, .int x3_61), (2, .int s0), (0, .ref (adC G g 2)), (1, .ref (adC G ga1 ka1)), (4, .int x4)]) hx hb dX4_spreadOf_61 rfl hl (by decide) rfl (fun ls hl => ?_)
  exact w_X4_spreadOf_b62 E hg hda1 hea1 hL7 hf hP hS (lv_sub hl [2, 3, 1, 0, 4] rfl)
set_option maxHeartbeats 4000000 in
set_option maxRecDepth 100000 in
theorem w_X4_spreadOf_b7 {p : Program} {l : Launch} {e : Env} {s : State} {m : MethodId} {args : Array Value} {below : List Frame} {meth : Method} {c : Code} {G : GG} {sz : Nat} {ns : Nat} {g : Nat} {ga1 ka1 na1 : Nat} {r : Int32} {M' : Mem} (E : Cx p s m args meth c cX4_spreadOf (some .int) 5 RX4 G) (hg : pg ns g) (hda1 : dmC ns ga1 ka1) (hea1 : ∀ m, entC G ns ga1 ka1 m = .inl (G.2.1.1, na1, .inl m)) : ∀ fu : Nat, ∀ (x2 : Int32) (x3 : Int32) (x4 : Int32) (M : Mem) (H : Heap) (locs : List Loc) (ls : Array Slot), f_X4_spreadOf_b7 g ga1 ka1 na1 fu x2 x3 x4 M = some (r, M') → PW G (AC G) (XC G ns) sz M s H → va_S (AC G) s.heap H locs → lv_has ls 5 [(0, .ref (adC G g 2)), (1, .ref (adC G ga1 ka1)), (2, .int x2), (3, .int x3), (4, .int x4)] → W p l e rm_X4_spreadOf s m args below meth c H locs 0 0 (MQ below (va_Qi (fun (r2 : Int32) (_ : Unit) => r2 = r) (fun _ t => PW G (AC G) (XC G ns) sz M' t t.heap) (AC G)) args s 0 0 (AC G)) (F0 m 7 ls []) := by
  obtain ⟨hx, hb, hr, hlocks, hml, hown, hts, hK⟩ := id E
  intro fu
  induction fu with
  | zero => intro x2 x3 x4 M H locs ls hf hP hS hl; cases hf
  | succ fu ih =>
    intro x2 x3 x4 M H locs ls hf hP hS hl
    rw [f_X4_spreadOf_b7.eq_2] at hf
    refine lv_iload hx hb dX4_spreadOf_7 (lv_at hl 4 rfl) ?_
    refine lv_aload_n hx hb dX4_spreadOf_9 rfl (lv_at hl 0 rfl) ?_
    refine gf_X4_many E hP hg w_40 dX4_spreadOf_10 ?_
    refine lv_icmp_ge (tgt := 68) hx hb dX4_spreadOf_13 (by decide) (fun hc => ?_) (fun hc => ?_)
    · have hf := if_t hf hc
      exact w_X4_spreadOf_b68 E hg hda1 hea1 hf hP hS (lv_sub hl [2, 3] rfl)
    · have hf := if_f hf hc
      refine lv_iload hx hb dX4_spreadOf_16 (lv_at hl 4 rfl) ?_
      refine lv_aload_n hx hb dX4_spreadOf_18 rfl (lv_at hl 1 rfl) ?_
      refine kr_alen hx hb hK hP ga1 ka1 hda1 rfl hea1 dX4_spreadOf_19 ?_
      refine lv_icmp_ge (tgt := 68) hx hb dX4_spreadOf_20 (by decide) (fun hc => ?_) (fun hc => ?_)
      · have hf := if_t hf hc
        exact w_X4_spreadOf_b68 E hg hda1 hea1 hf hP hS (lv_sub hl [2, 3] rfl)
      · have hf := if_f hf hc
        refine lv_aload_n hx hb dX4_spreadOf_23 rfl (lv_at hl 0 rfl) ?_
        refine lv_iload hx hb dX4_spreadOf_24 (lv_at hl 4 rfl) ?_
        refine ob_e hf (fun r_26 M_26 hq hf => ?_)
        refine cv_X4_isAway E hP hS hg hq w_474 ⟨Nat.le_of_ble_eq_true rfl, Nat.le_of_ble_eq_true rfl⟩ hl (Nat.le_of_ble_eq_true rfl) dX4_spreadOf_26 ⟨Nat.le_of_ble_eq_true rfl, Nat.le_of_ble_eq_true rfl⟩ (fun H locs hP hS => ?_)
        refine lv_if_ne (tgt := 62) hx hb dX4_spreadOf_29 (by decide) (fun hc => ?_) (fun hc => ?_)
        · have hf := if_f hf hc
          exact w_X4_spreadOf_b62 E hg hda1 hea1 ih hf hP hS (lv_sub hl [0, 1, 2, 3, 4] rfl)
        · have hf := if_t hf hc
          refine lv_iload_n hx hb dX4_spreadOf_32 rfl (lv_at hl 2 rfl) ?_
          refine lv_iconst (v := (-1)) hx hb dX4_spreadOf_33 (by decide) ?_
          refine lv_icmp_ne (tgt := 44) hx hb dX4_spreadOf_34 (by decide) (fun hc => ?_) (fun hc => ?_)
          · have hf := if_f hf hc
            refine lv_iload_n hx hb dX4_spreadOf_44 rfl (lv_at hl 2 rfl) ?_
            refine lv_aload_n hx hb dX4_spreadOf_45 rfl (lv_at hl 1 rfl) ?_
            refine lv_iload hx hb dX4_spreadOf_46 (lv_at hl 4 rfl) ?_
            refine ck_e hf (fun hi hf => ?_)
            refine kr_iald hx hb hK hP ga1 ka1 hda1 rfl hea1 hi dX4_spreadOf_48 ?_
            refine va_mmin hx hb (hml.trans hl.1.symm) hown (hts _ w_503) (hts _ w_300) (hts _ w_9) (hts _ w_301) (Nat.le_of_ble_eq_true rfl) (Nat.le_of_ble_eq_true rfl) (Nat.le_of_ble_eq_true rfl) (Nat.le_of_ble_eq_true rfl) dX4_spreadOf_49 ?_
            refine kr_nm (y := (mn x2 (M_26 ga1 ka1 (ix x4)))) rfl ?_
            exact w_X4_spreadOf_b52 E hg hda1 hea1 ih hf hP hS (lv_sub hl [0, 1, 3, 4] rfl)
          · have hf := if_t hf hc
            refine lv_aload_n hx hb dX4_spreadOf_37 rfl (lv_at hl 1 rfl) ?_
            refine lv_iload hx hb dX4_spreadOf_38 (lv_at hl 4 rfl) ?_
            refine ck_e hf (fun hi hf => ?_)
            refine kr_iald hx hb hK hP ga1 ka1 hda1 rfl hea1 hi dX4_spreadOf_40 ?_
            refine lv_goto (tgt := 52) hx hb dX4_spreadOf_41 (by decide) ?_
            exact w_X4_spreadOf_b52 E hg hda1 hea1 ih hf hP hS (lv_sub hl [0, 1, 3, 4] rfl)
set_option maxHeartbeats 4000000 in
set_option maxRecDepth 100000 in
theorem w_X4_spreadOf {p : Program} {l : Launch} {e : Env} {s : State} {m : MethodId} {args : Array Value} {below : List Frame} {meth : Method} {c : Code} {G : GG} {sz : Nat} {ns : Nat} {g : Nat} {ga1 ka1 na1 : Nat} {r : Int32} {M' : Mem} (E : Cx p s m args meth c cX4_spreadOf (some .int) 5 RX4 G) (hg : pg ns g) (hda1 : dmC ns ga1 ka1) (hea1 : ∀ m, entC G ns ga1 ka1 m = .inl (G.2.1.1, na1, .inl m)) {M : Mem} {H : Heap} {locs : List Loc} {ls : Array Slot} (hf : f_X4_spreadOf g ga1 ka1 na1 M = some (r, M')) (hP : PW G (AC G) (XC G ns) sz M s H) (hS : va_S (AC G) s.heap H locs) (hl : lv_has ls 5 [(0, .ref (adC G g 2)), (1, .ref (adC G ga1 ka1))]) : W p l e rm_X4_spreadOf s m args below meth c H locs 0 0 (MQ below (va_Qi (fun (r2 : Int32) (_ : Unit) => r2 = r) (fun _ t => PW G (AC G) (XC G ns) sz M' t t.heap) (AC G)) args s 0 0 (AC G)) (F0 m 0 ls []) := by
  obtain ⟨hx, hb, hr, hlocks, hml, hown, hts, hK⟩ := id E
  unfold f_X4_spreadOf at hf
  refine lv_iconst (v := (-1)) hx hb dX4_spreadOf_0 (by decide) ?_
  refine lv_istore_n (lv' := [(2, .int (-1)), (0, .ref (adC G g 2)), (1, .ref (adC G ga1 ka1))]) hx hb dX4_spreadOf_1 rfl hl (by decide) rfl (fun ls hl => ?_)
  refine lv_iconst (v := (-1)) hx hb dX4_spreadOf_2 (by decide) ?_
  refine lv_istore_n (lv' := [(3, .int (-1)), (2, .int (-1)), (0, .ref (adC G g 2)), (1, .ref (adC G ga1 ka1))]) hx hb dX4_spreadOf_3 rfl hl (by decide) rfl (fun ls hl => ?_)
  refine lv_iconst (v := 0) hx hb dX4_spreadOf_4 (by decide) ?_
  refine lv_istore (lv' := [(4, .int 0), (3, .int (-1)), (2, .int (-1)), (0, .ref (adC G g 2)), (1, .ref (adC G ga1 ka1))]) hx hb dX4_spreadOf_5 hl (by decide) rfl (fun ls hl => ?_)
  exact w_X4_spreadOf_b7 E hg hda1 hea1 1000 _ _ _ _ _ _ _ hf hP hS (lv_sub hl [3, 4, 2, 1, 0] rfl)
theorem c_X4_spreadOf (l : Launch) {G : GG} {sz : Nat} {ns : Nat} {g : Nat} {ga1 ka1 na1 : Nat} (hg : pg ns g) (hda1 : dmC ns ga1 ka1) (hea1 : ∀ m, entC G ns ga1 ka1 m = .inl (G.2.1.1, na1, .inl m)) {M : Mem} {r : Int32} {M' : Mem} (hf : f_X4_spreadOf g ga1 ka1 na1 M = some (r, M')) : CtI l yX4_spreadOf cX4_spreadOf 5 (some .int) rm_X4_spreadOf [.ref (adC G g 2), .ref (adC G ga1 ka1)] G (AC G) (XC G ns) sz M r (XC G ns) sz M' := by
  refine Ct_of (by decide) (Nat.le_of_ble_eq_true rfl) (fun p e s m below meth c ls hx hb hr hlocks hml hown hts hK hP hl => ?_)
  exact w_X4_spreadOf ⟨hx, hb, hr, hlocks, hml, hown, hts, hK⟩ hg hda1 hea1 hf hP va_S.rf hl
set_option maxRecDepth 100000 in
theorem cv_X4_spreadOf {p : Program} {l : Launch} {e : Env} {R : Room} {s : State} {m : MethodId} {args : Array Value} {below : List Frame} {meth : Method} {c : Code} {H : Heap} {locs : List Loc} {cells slots : Nat} {Q : State → Prop} {cc : ByteArray} {pc nL index : Nat} {ret : Option FieldType} {own : String} {ls : Array Slot} {rest : List Value} {l' : List (Nat × Value)} {G : GG} {sz : Nat} {ns : Nat} {g : Nat} {ga1 ka1 na1 : Nat} {M : Mem} (E : Cx p s m args meth c cc ret nL own G) (hP : PW G (AC G) (XC G ns) sz M s H) (hS : va_S (AC G) s.heap H locs) (hg : pg ns g) (hda1 : dmC ns ga1 ka1) (hea1 : ∀ m, entC G ns ga1 ka1 m = .inl (G.2.1.1, na1, .inl m)) {r : Int32} {M' : Mem} (hq : f_X4_spreadOf g ga1 ka1 na1 M = some (r, M')) (w1 : Cond.methodLink own index yX4_spreadOf ∈ lw_all) (hR : 2 ≤ R.frames ∧ 57 ≤ R.locals) (hl : lv_has ls nL l') (hrest : (rest.map fun v => v.category).sum ≤ 8) (hdg : decode cc pc = .ok (.invokevirtual index, 3)) (hcs : cells ≤ R.cells ∧ slots ≤ R.slots)
    (kk : ∀ (H1 : Heap) (locs1 : List Loc), PW G (AC G) (XC G ns) sz M' s H1 → va_S (AC G) s.heap H1 locs1 → W p l e R s m args below meth c H1 locs1 cells slots Q (F0 m (pc + 3) ls (.int r :: rest))) : W p l e R s m args below meth c H locs cells slots Q (F0 m pc ls (.ref (adC G ga1 ka1) :: .ref (adC G g 2) :: rest)) := by
  obtain ⟨hx, hb, hr, hlocks, hml, hown, hts, hK⟩ := E
  obtain ⟨g0, rfl⟩ := pg_s hg
  exact kc_i (kc_runV (na := 1) (q := (RX4, TX4, 8)) hx hb hml hts hown hK hP (g0 + 1) 2 (dmP hg (by decide)) rfl rfl rfl (c_X4_spreadOf l hg hda1 hea1 hq) w1 w_500 w_501 w_3 w_502 (by decide +kernel) hR rfl hl rfl hrest hdg hcs) hS kk
/-! X7_holderTakes -/
abbrev rm_X7_holderTakes : Room := { frames := 0, cells := 0, slots := 0, locals := 0 }
def f_X7_holderTakes_b13 (s0 : Int32) (M : Mem) : Option (Int32 × Mem) :=
ck (bl s0) <|
some (s0, M)
def f_X7_holderTakes_b29 (s0 : Int32) (M : Mem) : Option (Int32 × Mem) :=
ck (bl s0) <|
some (s0, M)
def f_X7_holderTakes_b24 (M : Mem) : Option (Int32 × Mem) :=
f_X7_holderTakes_b29 1 M
def f_X7_holderTakes (x0 : Int32) (x1 : Int32) (M : Mem) : Option (Int32 × Mem) :=
(if x0 = 0 then
  (if x1 = 0 then
    f_X7_holderTakes_b13 1 M
  else
    f_X7_holderTakes_b13 0 M)
else
  (if x0 = 1 then
    (if x1 = 1 then
      f_X7_holderTakes_b24 M
    else
      f_X7_holderTakes_b29 0 M)
  else
    f_X7_holderTakes_b24 M))
set_option maxHeartbeats 4000000 in
set_option maxRecDepth 100000 in
theorem w_X7_holderTakes_b13 {p : Program} {l : Launch} {e : Env} {s : State} {m : MethodId} {args : Array Value} {below : List Frame} {meth : Method} {c : Code} {G : GG} {sz : Nat} {ns : Nat} {r : Int32} {M' : Mem} (E : Cx p s m args meth c cX7_holderTakes (some .boolean) 2 RX7 G) {s0 : Int32} {M : Mem} {H : Heap} {locs : List Loc} {ls : Array Slot} (hf : f_X7_holderTakes_b13 s0 M = some (r, M')) (hP : PW G (AC G) (XC G ns) sz M s H) (hS : va_S (AC G) s.heap H locs) (hl : lv_has ls 2 []) : W p l e rm_X7_holderTakes s m args below meth c H locs 0 0 (MQ below (va_Qi (fun (r2 : Int32) (_ : Unit) => r2 = r) (fun _ t => PW G (AC G) (XC G ns) sz M' t t.heap) (AC G)) args s 0 0 (AC G)) (F0 m 13 ls [.int s0]) := by
  obtain ⟨hx, hb, hr, hlocks, hml, hown, hts, hK⟩ := id E
  unfold f_X7_holderTakes_b13 at hf
  refine ck_e hf (fun hn hf => ?_)
  exact en_i hf hx hb hr (bl_nar hn) hlocks hP hS dX7_holderTakes_13
set_option maxHeartbeats 4000000 in
set_option maxRecDepth 100000 in
theorem w_X7_holderTakes_b29 {p : Program} {l : Launch} {e : Env} {s : State} {m : MethodId} {args : Array Value} {below : List Frame} {meth : Method} {c : Code} {G : GG} {sz : Nat} {ns : Nat} {r : Int32} {M' : Mem} (E : Cx p s m args meth c cX7_holderTakes (some .boolean) 2 RX7 G) {s0 : Int32} {M : Mem} {H : Heap} {locs : List Loc} {ls : Array Slot} (hf : f_X7_holderTakes_b29 s0 M = some (r, M')) (hP : PW G (AC G) (XC G ns) sz M s H) (hS : va_S (AC G) s.heap H locs) (hl : lv_has ls 2 []) : W p l e rm_X7_holderTakes s m args below meth c H locs 0 0 (MQ below (va_Qi (fun (r2 : Int32) (_ : Unit) => r2 = r) (fun _ t => PW G (AC G) (XC G ns) sz M' t t.heap) (AC G)) args s 0 0 (AC G)) (F0 m 29 ls [.int s0]) := by
  obtain ⟨hx, hb, hr, hlocks, hml, hown, hts, hK⟩ := id E
  unfold f_X7_holderTakes_b29 at hf
  refine ck_e hf (fun hn hf => ?_)
  exact en_i hf hx hb hr (bl_nar hn) hlocks hP hS dX7_holderTakes_29
set_option maxHeartbeats 4000000 in
set_option maxRecDepth 100000 in
theorem w_X7_holderTakes_b24 {p : Program} {l : Launch} {e : Env} {s : State} {m : MethodId} {args : Array Value} {below : List Frame} {meth : Method} {c : Code} {G : GG} {sz : Nat} {ns : Nat} {r : Int32} {M' : Mem} (E : Cx p s m args meth c cX7_holderTakes (some .boolean) 2 RX7 G) {M : Mem} {H : Heap} {locs : List Loc} {ls : Array Slot} (hf : f_X7_holderTakes_b24 M = some (r, M')) (hP : PW G (AC G) (XC G ns) sz M s H) (hS : va_S (AC G) s.heap H locs) (hl : lv_has ls 2 []) : W p l e rm_X7_holderTakes s m args below meth c H locs 0 0 (MQ below (va_Qi (fun (r2 : Int32) (_ : Unit) => r2 = r) (fun _ t => PW G (AC G) (XC G ns) sz M' t t.heap) (AC G)) args s 0 0 (AC G)) (F0 m 24 ls []) := by
  obtain ⟨hx, hb, hr, hlocks, hml, hown, hts, hK⟩ := id E
  unfold f_X7_holderTakes_b24 at hf
  refine lv_iconst (v := 1) hx hb dX7_holderTakes_24 (by decide) ?_
  refine lv_goto (tgt := 29) hx hb dX7_holderTakes_25 (by decide) ?_
  exact w_X7_holderTakes_b29 E hf hP hS (lv_sub hl [] rfl)
set_option maxHeartbeats 4000000 in
set_option maxRecDepth 100000 in
theorem w_X7_holderTakes {p : Program} {l : Launch} {e : Env} {s : State} {m : MethodId} {args : Array Value} {below : List Frame} {meth : Method} {c : Code} {G : GG} {sz : Nat} {ns : Nat} {r : Int32} {M' : Mem} (E : Cx p s m args meth c cX7_holderTakes (some .boolean) 2 RX7 G) {x0 : Int32} {x1 : Int32} {M : Mem} {H : Heap} {locs : List Loc} {ls : Array Slot} (hf : f_X7_holderTakes x0 x1 M = some (r, M')) (hP : PW G (AC G) (XC G ns) sz M s H) (hS : va_S (AC G) s.heap H locs) (hl : lv_has ls 2 [(0, .int x0), (1, .int x1)]) : W p l e rm_X7_holderTakes s m args below meth c H locs 0 0 (MQ below (va_Qi (fun (r2 : Int32) (_ : Unit) => r2 = r) (fun _ t => PW G (AC G) (XC G ns) sz M' t t.heap) (AC G)) args s 0 0 (AC G)) (F0 m 0 ls []) := by
  obtain ⟨hx, hb, hr, hlocks, hml, hown, hts, hK⟩ := id E
  unfold f_X7_holderTakes at hf
  refine lv_iload_n hx hb dX7_holderTakes_0 rfl (lv_at hl 0 rfl) ?_
  refine lv_if_ne (tgt := 14) hx hb dX7_holderTakes_1 (by decide) (fun hc => ?_) (fun hc => ?_)
  · have hf := if_f hf hc
    refine lv_iload_n hx hb dX7_holderTakes_14 rfl (lv_at hl 0 rfl) ?_
    refine lv_iconst (v := 1) hx hb dX7_holderTakes_15 (by decide) ?_
    refine lv_icmp_ne (tgt := 24) hx hb dX7_holderTakes_16 (by decide) (fun hc => ?_) (fun hc => ?_)
    · have hf := if_f hf hc
      exact w_X7_holderTakes_b24 E hf hP hS (lv_sub hl [] rfl)
    · have hf := if_t hf hc
      refine lv_iload_n hx hb dX7_holderTakes_19 rfl (lv_at hl 1 rfl) ?_
      refine lv_iconst (v := 1) hx hb dX7_holderTakes_20 (by decide) ?_
      refine lv_icmp_ne (tgt := 28) hx hb dX7_holderTakes_21 (by decide) (fun hc => ?_) (fun hc => ?_)
      · have hf := if_f hf hc
        refine lv_iconst (v := 0) hx hb dX7_holderTakes_28 (by decide) ?_
        exact w_X7_holderTakes_b29 E hf hP hS (lv_sub hl [] rfl)
      · have hf := if_t hf hc
        exact w_X7_holderTakes_b24 E hf hP hS (lv_sub hl [] rfl)
  · have hf := if_t hf hc
    refine lv_iload_n hx hb dX7_holderTakes_4 rfl (lv_at hl 1 rfl) ?_
    refine lv_if_ne (tgt := 12) hx hb dX7_holderTakes_5 (by decide) (fun hc => ?_) (fun hc => ?_)
    · have hf := if_f hf hc
      refine lv_iconst (v := 0) hx hb dX7_holderTakes_12 (by decide) ?_
      exact w_X7_holderTakes_b13 E hf hP hS (lv_sub hl [] rfl)
    · have hf := if_t hf hc
      refine lv_iconst (v := 1) hx hb dX7_holderTakes_8 (by decide) ?_
      refine lv_goto (tgt := 13) hx hb dX7_holderTakes_9 (by decide) ?_
      exact w_X7_holderTakes_b13 E hf hP hS (lv_sub hl [] rfl)
theorem c_X7_holderTakes (l : Launch) {G : GG} {sz : Nat} {ns : Nat} {x0 : Int32} {x1 : Int32} {M : Mem} {r : Int32} {M' : Mem} (hf : f_X7_holderTakes x0 x1 M = some (r, M')) : CtI l yX7_holderTakes cX7_holderTakes 2 (some .boolean) rm_X7_holderTakes [.int x0, .int x1] G (AC G) (XC G ns) sz M r (XC G ns) sz M' := by
  refine Ct_of (by decide) (Nat.le_of_ble_eq_true rfl) (fun p e s m below meth c ls hx hb hr hlocks hml hown hts hK hP hl => ?_)
  exact w_X7_holderTakes ⟨hx, hb, hr, hlocks, hml, hown, hts, hK⟩ hf hP va_S.rf hl
set_option maxRecDepth 100000 in
theorem cv_X7_holderTakes {p : Program} {l : Launch} {e : Env} {R : Room} {s : State} {m : MethodId} {args : Array Value} {below : List Frame} {meth : Method} {c : Code} {H : Heap} {locs : List Loc} {cells slots : Nat} {Q : State → Prop} {cc : ByteArray} {pc nL index : Nat} {ret : Option FieldType} {own : String} {ls : Array Slot} {rest : List Value} {l' : List (Nat × Value)} {G : GG} {sz : Nat} {ns : Nat} {M : Mem} (E : Cx p s m args meth c cc ret nL own G) (hP : PW G (AC G) (XC G ns) sz M s H) (hS : va_S (AC G) s.heap H locs) {x0 : Int32} {x1 : Int32} {r : Int32} {M' : Mem} (hq : f_X7_holderTakes x0 x1 M = some (r, M')) (w1 : Cond.methodLink own index yX7_holderTakes ∈ lw_all) (hR : 1 ≤ R.frames ∧ 21 ≤ R.locals) (hl : lv_has ls nL l') (hrest : (rest.map fun v => v.category).sum ≤ 8) (hdg : decode cc pc = .ok (.invokestatic index, 3)) (hcs : cells ≤ R.cells ∧ slots ≤ R.slots)
    (kk : ∀ (H1 : Heap) (locs1 : List Loc), PW G (AC G) (XC G ns) sz M' s H1 → va_S (AC G) s.heap H1 locs1 → W p l e R s m args below meth c H1 locs1 cells slots Q (F0 m (pc + 3) ls (.int r :: rest))) : W p l e R s m args below meth c H locs cells slots Q (F0 m pc ls (.int x1 :: .int x0 :: rest)) := by
  obtain ⟨hx, hb, hr, hlocks, hml, hown, hts, hK⟩ := E
  exact kc_i (kc_runS (na := 2) hx hb hml hts hown hK hP (c_X7_holderTakes l hq) w1 w_321 w_1 w_322 (by decide +kernel) hR rfl hl rfl hrest hdg hcs) hS kk
/-! X7_isPoint -/
abbrev rm_X7_isPoint : Room := { frames := 1, cells := 0, slots := 0, locals := 22 }
def f_X7_isPoint_b25 (s0 : Int32) (M : Mem) : Option (Int32 × Mem) :=
ck (bl s0) <|
some (s0, M)
def f_X7_isPoint_b24 (M : Mem) : Option (Int32 × Mem) :=
f_X7_isPoint_b25 0 M
def f_X7_isPoint (x0 : Int32) (x1 : Int32) (M : Mem) : Option (Int32 × Mem) :=
ob (f_X7_isIn x0 0 99 M) fun r_4 M_4 =>
(if r_4 = 0 then
  f_X7_isPoint_b24 M_4
else
  ob (f_X7_isIn x1 0 99 M_4) fun r_14 M_14 =>
  (if r_14 = 0 then
    f_X7_isPoint_b24 M_14
  else
    f_X7_isPoint_b25 1 M_14))
set_option maxHeartbeats 4000000 in
set_option maxRecDepth 100000 in
theorem w_X7_isPoint_b25 {p : Program} {l : Launch} {e : Env} {s : State} {m : MethodId} {args : Array Value} {below : List Frame} {meth : Method} {c : Code} {G : GG} {sz : Nat} {ns : Nat} {r : Int32} {M' : Mem} (E : Cx p s m args meth c cX7_isPoint (some .boolean) 2 RX7 G) {s0 : Int32} {M : Mem} {H : Heap} {locs : List Loc} {ls : Array Slot} (hf : f_X7_isPoint_b25 s0 M = some (r, M')) (hP : PW G (AC G) (XC G ns) sz M s H) (hS : va_S (AC G) s.heap H locs) (hl : lv_has ls 2 []) : W p l e rm_X7_isPoint s m args below meth c H locs 0 0 (MQ below (va_Qi (fun (r2 : Int32) (_ : Unit) => r2 = r) (fun _ t => PW G (AC G) (XC G ns) sz M' t t.heap) (AC G)) args s 0 0 (AC G)) (F0 m 25 ls [.int s0]) := by
  obtain ⟨hx, hb, hr, hlocks, hml, hown, hts, hK⟩ := id E
  unfold f_X7_isPoint_b25 at hf
  refine ck_e hf (fun hn hf => ?_)
  exact en_i hf hx hb hr (bl_nar hn) hlocks hP hS dX7_isPoint_25
set_option maxHeartbeats 4000000 in
set_option maxRecDepth 100000 in
theorem w_X7_isPoint_b24 {p : Program} {l : Launch} {e : Env} {s : State} {m : MethodId} {args : Array Value} {below : List Frame} {meth : Method} {c : Code} {G : GG} {sz : Nat} {ns : Nat} {r : Int32} {M' : Mem} (E : Cx p s m args meth c cX7_isPoint (some .boolean) 2 RX7 G) {M : Mem} {H : Heap} {locs : List Loc} {ls : Array Slot} (hf : f_X7_isPoint_b24 M = some (r, M')) (hP : PW G (AC G) (XC G ns) sz M s H) (hS : va_S (AC G) s.heap H locs) (hl : lv_has ls 2 []) : W p l e rm_X7_isPoint s m args below meth c H locs 0 0 (MQ below (va_Qi (fun (r2 : Int32) (_ : Unit) => r2 = r) (fun _ t => PW G (AC G) (XC G ns) sz M' t t.heap) (AC G)) args s 0 0 (AC G)) (F0 m 24 ls []) := by
  obtain ⟨hx, hb, hr, hlocks, hml, hown, hts, hK⟩ := id E
  unfold f_X7_isPoint_b24 at hf
  refine lv_iconst (v := 0) hx hb dX7_isPoint_24 (by decide) ?_
  exact w_X7_isPoint_b25 E hf hP hS (lv_sub hl [] rfl)
set_option maxHeartbeats 4000000 in
set_option maxRecDepth 100000 in
theorem w_X7_isPoint {p : Program} {l : Launch} {e : Env} {s : State} {m : MethodId} {args : Array Value} {below : List Frame} {meth : Method} {c : Code} {G : GG} {sz : Nat} {ns : Nat} {r : Int32} {M' : Mem} (E : Cx p s m args meth c cX7_isPoint (some .boolean) 2 RX7 G) {x0 : Int32} {x1 : Int32} {M : Mem} {H : Heap} {locs : List Loc} {ls : Array Slot} (hf : f_X7_isPoint x0 x1 M = some (r, M')) (hP : PW G (AC G) (XC G ns) sz M s H) (hS : va_S (AC G) s.heap H locs) (hl : lv_has ls 2 [(0, .int x0), (1, .int x1)]) : W p l e rm_X7_isPoint s m args below meth c H locs 0 0 (MQ below (va_Qi (fun (r2 : Int32) (_ : Unit) => r2 = r) (fun _ t => PW G (AC G) (XC G ns) sz M' t t.heap) (AC G)) args s 0 0 (AC G)) (F0 m 0 ls []) := by
  obtain ⟨hx, hb, hr, hlocks, hml, hown, hts, hK⟩ := id E
  unfold f_X7_isPoint at hf
  refine lv_iload_n hx hb dX7_isPoint_0 rfl (lv_at hl 0 rfl) ?_
  refine lv_iconst (v := 0) hx hb dX7_isPoint_1 (by decide) ?_
  refine lv_bipush (v := 99) hx hb dX7_isPoint_2 (by decide) ?_
  refine ob_e hf (fun r_4 M_4 hq hf => ?_)
  refine cv_X7_isIn E hP hS hq w_279 ⟨Nat.le_of_ble_eq_true rfl, Nat.le_of_ble_eq_true rfl⟩ hl (Nat.le_of_ble_eq_true rfl) dX7_isPoint_4 ⟨Nat.le_of_ble_eq_true rfl, Nat.le_of_ble_eq_true rfl⟩ (fun H locs hP hS => ?_)
  refine lv_if_eq (tgt := 24) hx hb dX7_isPoint_7 (by decide) (fun hc => ?_) (fun hc => ?_)
  · have hf := if_t hf hc
    exact w_X7_isPoint_b24 E hf hP hS (lv_sub hl [] rfl)
  · have hf := if_f hf hc
    refine lv_iload_n hx hb dX7_isPoint_10 rfl (lv_at hl 1 rfl) ?_
    refine lv_iconst (v := 0) hx hb dX7_isPoint_11 (by decide) ?_
    refine lv_bipush (v := 99) hx hb dX7_isPoint_12 (by decide) ?_
    refine ob_e hf (fun r_14 M_14 hq hf => ?_)
    refine cv_X7_isIn E hP hS hq w_279 ⟨Nat.le_of_ble_eq_true rfl, Nat.le_of_ble_eq_true rfl⟩ hl (Nat.le_of_ble_eq_true rfl) dX7_isPoint_14 ⟨Nat.le_of_ble_eq_true rfl, Nat.le_of_ble_eq_true rfl⟩ (fun H locs hP hS => ?_)
    refine lv_if_eq (tgt := 24) hx hb dX7_isPoint_17 (by decide) (fun hc => ?_) (fun hc => ?_)
    · have hf := if_t hf hc
      exact w_X7_isPoint_b24 E hf hP hS (lv_sub hl [] rfl)
    · have hf := if_f hf hc
      refine lv_iconst (v := 1) hx hb dX7_isPoint_20 (by decide) ?_
      refine lv_goto (tgt := 25) hx hb dX7_isPoint_21 (by decide) ?_
      exact w_X7_isPoint_b25 E hf hP hS (lv_sub hl [] rfl)
theorem c_X7_isPoint (l : Launch) {G : GG} {sz : Nat} {ns : Nat} {x0 : Int32} {x1 : Int32} {M : Mem} {r : Int32} {M' : Mem} (hf : f_X7_isPoint x0 x1 M = some (r, M')) : CtI l yX7_isPoint cX7_isPoint 2 (some .boolean) rm_X7_isPoint [.int x0, .int x1] G (AC G) (XC G ns) sz M r (XC G ns) sz M' := by
  refine Ct_of (by decide) (Nat.le_of_ble_eq_true rfl) (fun p e s m below meth c ls hx hb hr hlocks hml hown hts hK hP hl => ?_)
  exact w_X7_isPoint ⟨hx, hb, hr, hlocks, hml, hown, hts, hK⟩ hf hP va_S.rf hl
set_option maxRecDepth 100000 in
theorem cv_X7_isPoint {p : Program} {l : Launch} {e : Env} {R : Room} {s : State} {m : MethodId} {args : Array Value} {below : List Frame} {meth : Method} {c : Code} {H : Heap} {locs : List Loc} {cells slots : Nat} {Q : State → Prop} {cc : ByteArray} {pc nL index : Nat} {ret : Option FieldType} {own : String} {ls : Array Slot} {rest : List Value} {l' : List (Nat × Value)} {G : GG} {sz : Nat} {ns : Nat} {M : Mem} (E : Cx p s m args meth c cc ret nL own G) (hP : PW G (AC G) (XC G ns) sz M s H) (hS : va_S (AC G) s.heap H locs) {x0 : Int32} {x1 : Int32} {r : Int32} {M' : Mem} (hq : f_X7_isPoint x0 x1 M = some (r, M')) (w1 : Cond.methodLink own index yX7_isPoint ∈ lw_all) (hR : 2 ≤ R.frames ∧ 43 ≤ R.locals) (hl : lv_has ls nL l') (hrest : (rest.map fun v => v.category).sum ≤ 8) (hdg : decode cc pc = .ok (.invokestatic index, 3)) (hcs : cells ≤ R.cells ∧ slots ≤ R.slots)
    (kk : ∀ (H1 : Heap) (locs1 : List Loc), PW G (AC G) (XC G ns) sz M' s H1 → va_S (AC G) s.heap H1 locs1 → W p l e R s m args below meth c H1 locs1 cells slots Q (F0 m (pc + 3) ls (.int r :: rest))) : W p l e R s m args below meth c H locs cells slots Q (F0 m pc ls (.int x1 :: .int x0 :: rest)) := by
  obtain ⟨hx, hb, hr, hlocks, hml, hown, hts, hK⟩ := E
  exact kc_i (kc_runS (na := 2) hx hb hml hts hown hK hP (c_X7_isPoint l hq) w1 w_338 w_1 w_339 (by decide +kernel) hR rfl hl rfl hrest hdg hcs) hS kk
/-! X7_bitsOf -/
abbrev rm_X7_bitsOf : Room := { frames := 0, cells := 0, slots := 0, locals := 0 }
def f_X7_bitsOf_b32 (x1 : UInt32) (x2 : Int32) (M : Mem) : Option (Int32 × Mem) :=
ck (fok (FP.fsub x1 (FP.fconst1))) <|
ck (fok (FP.fmul (FP.fsub x1 (FP.fconst1)) 1258291200)) <|
some (((x2 <<< (23 &&& 31)) ||| (FP.f2i (FP.fmul (FP.fsub x1 (FP.fconst1)) 1258291200))), M)
def f_X7_bitsOf_b7 : Nat → UInt32 → Int32 → Int32 → Mem → Option (Int32 × Mem)
  | 0 => fun _ _ _ _ => none
  | fu + 1 => fun x1 x2 x3 M =>
(if 126 ≤ x3 then
  f_X7_bitsOf_b32 x1 x2 M
else
  (if 0 ≤ (Op.cmpValue (FP.fcmp x1 (FP.fconst1)) .g) then
    f_X7_bitsOf_b32 x1 x2 M
  else
    ck (fok (FP.fmul x1 (FP.fconst2))) <|
    lt ((FP.fmul x1 (FP.fconst2))) fun x1_22 =>
    lt (x2 + (-1)) fun x2_23 =>
    lt (x3 + 1) fun x3_26 =>
    f_X7_bitsOf_b7 fu x1_22 x2_23 x3_26 M))
def f_X7_bitsOf (x0 : UInt32) (M : Mem) : Option (Int32 × Mem) :=
f_X7_bitsOf_b7 1000 x0 127 0 M
set_option maxHeartbeats 4000000 in
set_option maxRecDepth 100000 in
theorem w_X7_bitsOf_b32 {p : Program} {l : Launch} {e : Env} {s : State} {m : MethodId} {args : Array Value} {below : List Frame} {meth : Method} {c : Code} {G : GG} {sz : Nat} {ns : Nat} {r : Int32} {M' : Mem} (E : Cx p s m args meth c cX7_bitsOf (some .int) 4 RX7 G) {x1 : UInt32} {x2 : Int32} {M : Mem} {H : Heap} {locs : List Loc} {ls : Array Slot} (hf : f_X7_bitsOf_b32 x1 x2 M = some (r, M')) (hP : PW G (AC G) (XC G ns) sz M s H) (hS : va_S (AC G) s.heap H locs) (hl : lv_has ls 4 [(1, .float x1), (2, .int x2)]) : W p l e rm_X7_bitsOf s m args below meth c H locs 0 0 (MQ below (va_Qi (fun (r2 : Int32) (_ : Unit) => r2 = r) (fun _ t => PW G (AC G) (XC G ns) sz M' t t.heap) (AC G)) args s 0 0 (AC G)) (F0 m 32 ls []) := by
  obtain ⟨hx, hb, hr, hlocks, hml, hown, hts, hK⟩ := id E
  unfold f_X7_bitsOf_b32 at hf
  refine lv_iload_n hx hb dX7_bitsOf_32 rfl (lv_at hl 1 rfl) ?_
  refine lv_bipush (v := 23) hx hb dX7_bitsOf_33 (by decide) ?_
  refine lv_ishl hx hb dX7_bitsOf_35 ?_
  refine lv_fload_n hx hb dX7_bitsOf_36 rfl (lv_at hl 0 rfl) ?_
  refine lv_fconst1 hx hb dX7_bitsOf_37 ?_
  refine ck_e hf (fun hi hf => ?_)
  refine lv_fsub hx hb dX7_bitsOf_38 (fok_n hi) ?_
  refine kr_ldcwf (v := 1258291200) hx hb hown (hts _ w_527) dX7_bitsOf_39 ?_
  refine ck_e hf (fun hi hf => ?_)
  refine lv_fmul hx hb dX7_bitsOf_42 (fok_n hi) ?_
  refine lv_f2i hx hb dX7_bitsOf_43 ?_
  refine lv_ior hx hb dX7_bitsOf_44 ?_
  exact en_i hf hx hb hr rfl hlocks hP hS dX7_bitsOf_45
set_option maxHeartbeats 4000000 in
set_option maxRecDepth 100000 in
theorem w_X7_bitsOf_b7 {p : Program} {l : Launch} {e : Env} {s : State} {m : MethodId} {args : Array Value} {below : List Frame} {meth : Method} {c : Code} {G : GG} {sz : Nat} {ns : Nat} {r : Int32} {M' : Mem} (E : Cx p s m args meth c cX7_bitsOf (some .int) 4 RX7 G) : ∀ fu : Nat, ∀ (x1 : UInt32) (x2 : Int32) (x3 : Int32) (M : Mem) (H : Heap) (locs : List Loc) (ls : Array Slot), f_X7_bitsOf_b7 fu x1 x2 x3 M = some (r, M') → PW G (AC G) (XC G ns) sz M s H → va_S (AC G) s.heap H locs → lv_has ls 4 [(1, .float x1), (2, .int x2), (3, .int x3)] → W p l e rm_X7_bitsOf s m args below meth c H locs 0 0 (MQ below (va_Qi (fun (r2 : Int32) (_ : Unit) => r2 = r) (fun _ t => PW G (AC G) (XC G ns) sz M' t t.heap) (AC G)) args s 0 0 (AC G)) (F0 m 7 ls []) := by
  obtain ⟨hx, hb, hr, hlocks, hml, hown, hts, hK⟩ := id E
  intro fu
  induction fu with
  | zero => intro x1 x2 x3 M H locs ls hf hP hS hl; cases hf
  | succ fu ih =>
    intro x1 x2 x3 M H locs ls hf hP hS hl
    rw [f_X7_bitsOf_b7.eq_2] at hf
    refine lv_iload_n hx hb dX7_bitsOf_7 rfl (lv_at hl 2 rfl) ?_
    refine lv_bipush (v := 126) hx hb dX7_bitsOf_8 (by decide) ?_
    refine lv_icmp_ge (tgt := 32) hx hb dX7_bitsOf_10 (by decide) (fun hc => ?_) (fun hc => ?_)
    · have hf := if_t hf hc
      exact w_X7_bitsOf_b32 E hf hP hS (lv_sub hl [0, 1] rfl)
    · have hf := if_f hf hc
      refine lv_fload_n hx hb dX7_bitsOf_13 rfl (lv_at hl 0 rfl) ?_
      refine lv_fconst1 hx hb dX7_bitsOf_14 ?_
      refine lv_fcmp hx hb dX7_bitsOf_15 ?_
      refine lv_if_ge (tgt := 32) hx hb dX7_bitsOf_16 (by decide) (fun hc => ?_) (fun hc => ?_)
      · have hf := if_t hf hc
        exact w_X7_bitsOf_b32 E hf hP hS (lv_sub hl [0, 1] rfl)
      · have hf := if_f hf hc
        refine lv_fload_n hx hb dX7_bitsOf_19 rfl (lv_at hl 0 rfl) ?_
        refine lv_fconst2 hx hb dX7_bitsOf_20 ?_
        refine ck_e hf (fun hi hf => ?_)
        refine lv_fmul hx hb dX7_bitsOf_21 (fok_n hi) ?_
        refine lt_e hf (fun x1_22 hx1_22 hf => ?_)
        refine kr_nmf hx1_22 ?_
        refine lv_fstore_n (lv' := [(1, .float x1_22), (2, .int x2), (3, .int x3)]) hx hb dX7_bitsOf_22 rfl hl (by decide) rfl (fun ls hl => ?_)
        refine lt_e hf (fun x2_23 hx2_23 hf => ?_)
        refine lv_iinc (v := x2_23) (lv' := [(2, .int x2_23), (1, .float x1_22), (3, .int x3)]) hx hb dX7_bitsOf_23 hl (k := 1) rfl (by rw [hx2_23]; rfl) (by decide) rfl (fun ls hl => ?_)
        refine lt_e hf (fun x3_26 hx3_26 hf => ?_)
        refine lv_iinc (v := x3_26) (lv' := [(3, .int x3_26), (2, .int x2_23), (1, .float x1_22)]) hx hb dX7_bitsOf_26 hl (k := 2) rfl (by rw [hx3_26]; rfl) (by decide) rfl (fun ls hl => ?_)
        refine lv_goto (tgt := 7) hx hb dX7_bitsOf_29 (by decide) ?_
        exact ih _ _ _ _ _ _ _ hf hP hS (lv_sub hl [2, 1, 0] rfl)
set_option maxHeartbeats 4000000 in
set_option maxRecDepth 100000 in
theorem w_X7_bitsOf {p : Program} {l : Launch} {e : Env} {s : State} {m : MethodId} {args : Array Value} {below : List Frame} {meth : Method} {c : Code} {G : GG} {sz : Nat} {ns : Nat} {r : Int32} {M' : Mem} (E : Cx p s m args meth c cX7_bitsOf (some .int) 4 RX7 G) {x0 : UInt32} {M : Mem} {H : Heap} {locs : List Loc} {ls : Array Slot} (hf : f_X7_bitsOf x0 M = some (r, M')) (hP : PW G (AC G) (XC G ns) sz M s H) (hS : va_S (AC G) s.heap H locs) (hl : lv_has ls 4 [(0, .float x0)]) : W p l e rm_X7_bitsOf s m args below meth c H locs 0 0 (MQ below (va_Qi (fun (r2 : Int32) (_ : Unit) => r2 = r) (fun _ t => PW G (AC G) (XC G ns) sz M' t t.heap) (AC G)) args s 0 0 (AC G)) (F0 m 0 ls []) := by
  obtain ⟨hx, hb, hr, hlocks, hml, hown, hts, hK⟩ := id E
  unfold f_X7_bitsOf at hf
  refine lv_fload_n hx hb dX7_bitsOf_0 rfl (lv_at hl 0 rfl) ?_
  refine lv_fstore_n (lv' := [(1, .float x0), (0, .float x0)]) hx hb dX7_bitsOf_1 rfl hl (by decide) rfl (fun ls hl => ?_)
  refine lv_bipush (v := 127) hx hb dX7_bitsOf_2 (by decide) ?_
  refine lv_istore_n (lv' := [(2, .int 127), (1, .float x0), (0, .float x0)]) hx hb dX7_bitsOf_4 rfl hl (by decide) rfl (fun ls hl => ?_)
  refine lv_iconst (v := 0) hx hb dX7_bitsOf_5 (by decide) ?_
  refine lv_istore_n (lv' := [(3, .int 0), (2, .int 127), (1, .float x0), (0, .float x0)]) hx hb dX7_bitsOf_6 rfl hl (by decide) rfl (fun ls hl => ?_)
  exact w_X7_bitsOf_b7 E 1000 _ _ _ _ _ _ _ hf hP hS (lv_sub hl [2, 1, 0] rfl)
theorem c_X7_bitsOf (l : Launch) {G : GG} {sz : Nat} {ns : Nat} {x0 : UInt32} {M : Mem} {r : Int32} {M' : Mem} (hf : f_X7_bitsOf x0 M = some (r, M')) : CtI l yX7_bitsOf cX7_bitsOf 4 (some .int) rm_X7_bitsOf [.float x0] G (AC G) (XC G ns) sz M r (XC G ns) sz M' := by
  refine Ct_of (by decide) (Nat.le_of_ble_eq_true rfl) (fun p e s m below meth c ls hx hb hr hlocks hml hown hts hK hP hl => ?_)
  exact w_X7_bitsOf ⟨hx, hb, hr, hlocks, hml, hown, hts, hK⟩ hf hP va_S.rf hl
set_option maxRecDepth 100000 in
theorem cv_X7_bitsOf {p : Program} {l : Launch} {e : Env} {R : Room} {s : State} {m : MethodId} {args : Array Value} {below : List Frame} {meth : Method} {c : Code} {H : Heap} {locs : List Loc} {cells slots : Nat} {Q : State → Prop} {cc : ByteArray} {pc nL index : Nat} {ret : Option FieldType} {own : String} {ls : Array Slot} {rest : List Value} {l' : List (Nat × Value)} {G : GG} {sz : Nat} {ns : Nat} {M : Mem} (E : Cx p s m args meth c cc ret nL own G) (hP : PW G (AC G) (XC G ns) sz M s H) (hS : va_S (AC G) s.heap H locs) {x0 : UInt32} {r : Int32} {M' : Mem} (hq : f_X7_bitsOf x0 M = some (r, M')) (w1 : Cond.methodLink own index yX7_bitsOf ∈ lw_all) (hR : 1 ≤ R.frames ∧ 23 ≤ R.locals) (hl : lv_has ls nL l') (hrest : (rest.map fun v => v.category).sum ≤ 8) (hdg : decode cc pc = .ok (.invokestatic index, 3)) (hcs : cells ≤ R.cells ∧ slots ≤ R.slots)
    (kk : ∀ (H1 : Heap) (locs1 : List Loc), PW G (AC G) (XC G ns) sz M' s H1 → va_S (AC G) s.heap H1 locs1 → W p l e R s m args below meth c H1 locs1 cells slots Q (F0 m (pc + 3) ls (.int r :: rest))) : W p l e R s m args below meth c H locs cells slots Q (F0 m pc ls (.float x0 :: rest)) := by
  obtain ⟨hx, hb, hr, hlocks, hml, hown, hts, hK⟩ := E
  exact kc_i (kc_runS (na := 1) hx hb hml hts hown hK hP (c_X7_bitsOf l hq) w1 w_525 w_1 w_526 (by decide +kernel) hR rfl hl rfl hrest hdg hcs) hS kk
