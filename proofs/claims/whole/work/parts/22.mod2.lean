/-! X8_draws -/
abbrev rm_X8_draws : Room := { frames := 5, cells := 0, slots := 0, locals := 125 }
def f_X8_draws_b17 (M : Mem) : Option (Int32 × Mem) :=
some ((-1000001), M)
def f_X8_draws (x1 : Int32) (x2 : Int32) (M : Mem) : Option (Int32 × Mem) :=
ob (f_X8_isLine x1 M) fun r_2 M_2 =>
(if r_2 = 0 then
  f_X8_draws_b17 M_2
else
  ob (f_X8_in x2 0 1 M_2) fun r_11 M_11 =>
  (if r_11 = 0 then
    f_X8_draws_b17 M_11
  else
    ob (f_X8_why x1 x2 0 M_11) fun r_24 M_24 =>
    (if r_24 = 0 then
      lt ((M_24 0 1 (ix 8))) fun x3_40 =>
      ob (f_X8_far (M_24 0 1 (ix 9)) (M_24 0 1 (ix 10)) x1 x2 M_24) fun r_58 M_58 =>
      lt ((53 + (8 * x1))) fun x5_70 =>
      lt (up3 M_58 0 1 (ix 12) ((M_58 0 1 (ix 12)) + r_58)) fun M_83 =>
      ob (f_X8_length x1 M_83) fun r_96 M_96 =>
      lt (up3 M_96 0 1 (ix 7) ((M_83 0 1 (ix 7)) + (r_58 + r_96))) fun M_101 =>
      ob (f_X8_ln x1 (2 - (2 * x2)) M_101) fun r_115 M_115 =>
      lt (up3 M_115 0 1 (ix 9) r_115) fun M_118 =>
      ob (f_X8_ln x1 (3 - (2 * x2)) M_118) fun r_132 M_132 =>
      lt (up3 M_132 0 1 (ix 10) r_132) fun M_135 =>
      ob (f_X8_pn x3_40 2 M_135) fun r_148 M_148 =>
      ob (f_X8_pn x3_40 1 M_148) fun r_155 M_155 =>
      ck (fok (FP.fdiv (FP.i2f r_148) (FP.i2f r_155))) <|
      ob (f_Jxf58ca_floatToIntBits_5c35a (FP.fdiv (FP.i2f r_148) (FP.i2f r_155)) M_155) fun r_160 M_160 =>
      ck (ibd (x5_70 + 7) 181) <|
      lt (up3 M_160 0 1 (ix (x5_70 + 7)) r_160) fun M_163 =>
      ob (f_X8_pn x3_40 2 M_163) fun r_170 M_170 =>
      ob (f_X8_uses x1 M_170) fun r_175 M_175 =>
      ob (f_X8_lays x3_40 2 (r_170 - r_175) M_175) fun _ M_179 =>
      ob (f_X8_pn x3_40 3 M_179) fun r_188 M_188 =>
      ob (f_X8_length x1 M_188) fun r_193 M_193 =>
      ob (f_X8_lays x3_40 3 (r_188 + r_193) M_193) fun _ M_197 =>
      ob (f_X8_lays x3_40 4 0 M_197) fun _ M_204 =>
      ck (ibd (x5_70 + 4) 181) <|
      lt (up3 M_204 0 1 (ix (x5_70 + 4)) x3_40) fun M_216 =>
      ck (ibd (x5_70 + 5) 181) <|
      lt (up3 M_216 0 1 (ix (x5_70 + 5)) (M_216 0 1 (ix 7))) fun M_232 =>
      ck (ibd (x5_70 + 6) 181) <|
      lt (up3 M_232 0 1 (ix (x5_70 + 6)) ((M_232 0 1 (ix 7)) + (M_232 0 1 (ix 4)))) fun M_256 =>
      some ((M_256 0 1 (ix 7)), M_256)
    else
      some ((-1000002), M_24))))
set_option maxHeartbeats 4000000 in
set_option maxRecDepth 100000 in
theorem w_X8_draws_b17 {p : Program} {l : Launch} {e : Env} {s : State} {m : MethodId} {args : Array Value} {below : List Frame} {meth : Method} {c : Code} {G : GG} {sz : Nat} {r : Int32} {M' : Mem} (E : Cx p s m args meth c cX8_draws (some .int) 6 RX8 G) {M : Mem} {H : Heap} {locs : List Loc} {ls : Array Slot} (hf : f_X8_draws_b17 M = some (r, M')) (hP : PW G (AM G) (XM G) sz M s H) (hS : va_S (AM G) s.heap H locs) (hl : lv_has ls 6 []) : W p l e rm_X8_draws s m args below meth c H locs 0 0 (MQ below (va_Qi (fun (r2 : Int32) (_ : Unit) => r2 = r) (fun _ t => PW G (AM G) (XM G) sz M' t t.heap) (AM G)) args s 0 0 (AM G)) (F0 m 17 ls []) := by
  obtain ⟨hx, hb, hr, hlocks, hml, hown, hts, hK⟩ := id E
  unfold f_X8_draws_b17 at hf
  refine lv_ldc (v := (-1000001)) hx hb hown (hts _ w_854) dX8_draws_17 ?_
  exact en_i hf hx hb hr rfl hlocks hP hS dX8_draws_19
set_option maxHeartbeats 4000000 in
set_option maxRecDepth 100000 in
theorem w_X8_draws {p : Program} {l : Launch} {e : Env} {s : State} {m : MethodId} {args : Array Value} {below : List Frame} {meth : Method} {c : Code} {G : GG} {sz : Nat} {r : Int32} {M' : Mem} (E : Cx p s m args meth c cX8_draws (some .int) 6 RX8 G) {x1 : Int32} {x2 : Int32} {M : Mem} {H : Heap} {locs : List Loc} {ls : Array Slot} (hf : f_X8_draws x1 x2 M = some (r, M')) (hP : PW G (AM G) (XM G) sz M s H) (hS : va_S (AM G) s.heap H locs) (hl : lv_has ls 6 [(0, .ref (adM G 0 0)), (1, .int x1), (2, .int x2)]) : W p l e rm_X8_draws s m args below meth c H locs 0 0 (MQ below (va_Qi (fun (r2 : Int32) (_ : Unit) => r2 = r) (fun _ t => PW G (AM G) (XM G) sz M' t t.heap) (AM G)) args s 0 0 (AM G)) (F0 m 0 ls []) := by
  obtain ⟨hx, hb, hr, hlocks, hml, hown, hts, hK⟩ := id E
  unfold f_X8_draws at hf
  refine lv_aload_n hx hb dX8_draws_0 rfl (lv_at hl 0 rfl) ?_
  refine lv_iload_n hx hb dX8_draws_1 rfl (lv_at hl 1 rfl) ?_
  refine ob_e hf (fun r_2 M_2 hq hf => ?_)
  refine cv_X8_isLine E hP hS hq w_924 ⟨Nat.le_of_ble_eq_true rfl, Nat.le_of_ble_eq_true rfl⟩ hl (Nat.le_of_ble_eq_true rfl) dX8_draws_2 ⟨Nat.le_of_ble_eq_true rfl, Nat.le_of_ble_eq_true rfl⟩ (fun H locs hP hS => ?_)
  refine lv_if_eq (tgt := 17) hx hb dX8_draws_5 (by decide) (fun hc => ?_) (fun hc => ?_)
  · have hf := if_t hf hc
    exact w_X8_draws_b17 E hf hP hS (lv_sub hl [] rfl)
  · have hf := if_f hf hc
    refine lv_iload_n hx hb dX8_draws_8 rfl (lv_at hl 2 rfl) ?_
    refine lv_iconst (v := 0) hx hb dX8_draws_9 (by decide) ?_
    refine lv_iconst (v := 1) hx hb dX8_draws_10 (by decide) ?_
    refine ob_e hf (fun r_11 M_11 hq hf => ?_)
    refine cv_X8_in E hP hS hq w_851 ⟨Nat.le_of_ble_eq_true rfl, Nat.le_of_ble_eq_true rfl⟩ hl (Nat.le_of_ble_eq_true rfl) dX8_draws_11 ⟨Nat.le_of_ble_eq_true rfl, Nat.le_of_ble_eq_true rfl⟩ (fun H locs hP hS => ?_)
    refine lv_if_ne (tgt := 20) hx hb dX8_draws_14 (by decide) (fun hc => ?_) (fun hc => ?_)
    · have hf := if_f hf hc
      refine lv_aload_n hx hb dX8_draws_20 rfl (lv_at hl 0 rfl) ?_
      refine lv_iload_n hx hb dX8_draws_21 rfl (lv_at hl 1 rfl) ?_
      refine lv_iload_n hx hb dX8_draws_22 rfl (lv_at hl 2 rfl) ?_
      refine lv_iconst (v := 0) hx hb dX8_draws_23 (by decide) ?_
      refine ob_e hf (fun r_24 M_24 hq hf => ?_)
      refine cv_X8_why E hP hS hq w_973 ⟨Nat.le_of_ble_eq_true rfl, Nat.le_of_ble_eq_true rfl⟩ hl (Nat.le_of_ble_eq_true rfl) dX8_draws_24 ⟨Nat.le_of_ble_eq_true rfl, Nat.le_of_ble_eq_true rfl⟩ (fun H locs hP hS => ?_)
      refine lv_if_eq (tgt := 33) hx hb dX8_draws_27 (by decide) (fun hc => ?_) (fun hc => ?_)
      · have hf := if_t hf hc
        refine lv_aload_n hx hb dX8_draws_33 rfl (lv_at hl 0 rfl) ?_
        refine gf_X8_s E hP w_797 dX8_draws_34 ?_
        refine lv_bipush (v := 8) hx hb dX8_draws_37 (by decide) ?_
        refine la_M1 E hP (by decide) dX8_draws_39 ?_
        refine lt_e hf (fun x3_40 hx3_40 hf => ?_)
        refine kr_nm hx3_40 ?_
        refine lv_istore_n (lv' := [(3, .int x3_40), (0, .ref (adM G 0 0)), (1, .int x1), (2, .int x2)]) hx hb dX8_draws_40 rfl hl (by decide) rfl (fun ls hl => ?_)
        refine lv_aload_n hx hb dX8_draws_41 rfl (lv_at hl 1 rfl) ?_
        refine lv_aload_n hx hb dX8_draws_42 rfl (lv_at hl 1 rfl) ?_
        refine gf_X8_s E hP w_797 dX8_draws_43 ?_
        refine lv_bipush (v := 9) hx hb dX8_draws_46 (by decide) ?_
        refine la_M1 E hP (by decide) dX8_draws_48 ?_
        refine lv_aload_n hx hb dX8_draws_49 rfl (lv_at hl 1 rfl) ?_
        refine gf_X8_s E hP w_797 dX8_draws_50 ?_
        refine lv_bipush (v := 10) hx hb dX8_draws_53 (by decide) ?_
        refine la_M1 E hP (by decide) dX8_draws_55 ?_
        refine lv_iload_n hx hb dX8_draws_56 rfl (lv_at hl 2 rfl) ?_
        refine lv_iload_n hx hb dX8_draws_57 rfl (lv_at hl 3 rfl) ?_
        refine ob_e hf (fun r_58 M_58 hq hf => ?_)
        refine cv_X8_far E hP hS hq w_977 ⟨Nat.le_of_ble_eq_true rfl, Nat.le_of_ble_eq_true rfl⟩ hl (Nat.le_of_ble_eq_true rfl) dX8_draws_58 ⟨Nat.le_of_ble_eq_true rfl, Nat.le_of_ble_eq_true rfl⟩ (fun H locs hP hS => ?_)
        refine lv_istore (lv' := [(4, .int r_58), (3, .int x3_40), (0, .ref (adM G 0 0)), (1, .int x1), (2, .int x2)]) hx hb dX8_draws_61 hl (by decide) rfl (fun ls hl => ?_)
        refine lv_bipush (v := 53) hx hb dX8_draws_63 (by decide) ?_
        refine lv_bipush (v := 8) hx hb dX8_draws_65 (by decide) ?_
        refine lv_iload_n hx hb dX8_draws_67 rfl (lv_at hl 3 rfl) ?_
        refine lv_imul hx hb dX8_draws_68 ?_
        refine lv_iadd hx hb dX8_draws_69 ?_
        refine lt_e hf (fun x5_70 hx5_70 hf => ?_)
        refine kr_nm hx5_70 ?_
        refine lv_istore (lv' := [(5, .int x5_70), (4, .int r_58), (3, .int x3_40), (0, .ref (adM G 0 0)), (1, .int x1), (2, .int x2)]) hx hb dX8_draws_70 hl (by decide) rfl (fun ls hl => ?_)
        refine lv_aload_n hx hb dX8_draws_72 rfl (lv_at hl 3 rfl) ?_
        refine gf_X8_s E hP w_797 dX8_draws_73 ?_
        refine lv_bipush (v := 12) hx hb dX8_draws_76 (by decide) ?_
        refine lv_dup2_11 hx hb dX8_draws_78 rfl rfl ?_
        refine la_M1 E hP (by decide) dX8_draws_79 ?_
        refine lv_iload hx hb dX8_draws_80 (lv_at hl 1 rfl) ?_
        refine lv_iadd hx hb dX8_draws_82 ?_
        refine lt_e hf (fun M_83 hM_83 hf => ?_)
        refine sa_M1 E hP hS (by decide) hM_83 dX8_draws_83 (fun H locs hP hS => ?_)
        refine lv_aload_n hx hb dX8_draws_84 rfl (lv_at hl 3 rfl) ?_
        refine gf_X8_s E hP w_797 dX8_draws_85 ?_
        refine lv_bipush (v := 7) hx hb dX8_draws_88 (by decide) ?_
        refine lv_dup2_11 hx hb dX8_draws_90 rfl rfl ?_
        refine la_M1 E hP (by decide) dX8_draws_91 ?_
        refine lv_iload hx hb dX8_draws_92 (lv_at hl 1 rfl) ?_
        refine lv_aload_n hx hb dX8_draws_94 rfl (lv_at hl 3 rfl) ?_
        refine lv_iload_n hx hb dX8_draws_95 rfl (lv_at hl 4 rfl) ?_
        refine ob_e hf (fun r_96 M_96 hq hf => ?_)
        refine cv_X8_length E hP hS hq w_928 ⟨Nat.le_of_ble_eq_true rfl, Nat.le_of_ble_eq_true rfl⟩ hl (Nat.le_of_ble_eq_true rfl) dX8_draws_96 ⟨Nat.le_of_ble_eq_true rfl, Nat.le_of_ble_eq_true rfl⟩ (fun H locs hP hS => ?_)
        refine lv_iadd hx hb dX8_draws_99 ?_
        refine lv_iadd hx hb dX8_draws_100 ?_
        refine lt_e hf (fun M_101 hM_101 hf => ?_)
        refine sa_M1 E hP hS (by decide) hM_101 dX8_draws_101 (fun H locs hP hS => ?_)
        refine lv_aload_n hx hb dX8_draws_102 rfl (lv_at hl 3 rfl) ?_
        refine gf_X8_s E hP w_797 dX8_draws_103 ?_
        refine lv_bipush (v := 9) hx hb dX8_draws_106 (by decide) ?_
        refine lv_aload_n hx hb dX8_draws_108 rfl (lv_at hl 3 rfl) ?_
        refine lv_iload_n hx hb dX8_draws_109 rfl (lv_at hl 4 rfl) ?_
        refine lv_iconst (v := 2) hx hb dX8_draws_110 (by decide) ?_
        refine lv_iconst (v := 2) hx hb dX8_draws_111 (by decide) ?_
        refine lv_iload_n hx hb dX8_draws_112 rfl (lv_at hl 5 rfl) ?_
        refine lv_imul hx hb dX8_draws_113 ?_
        refine lv_isub hx hb dX8_draws_114 ?_
        refine ob_e hf (fun r_115 M_115 hq hf => ?_)
        refine cv_X8_ln E hP hS hq w_916 ⟨Nat.le_of_ble_eq_true rfl, Nat.le_of_ble_eq_true rfl⟩ hl (Nat.le_of_ble_eq_true rfl) dX8_draws_115 ⟨Nat.le_of_ble_eq_true rfl, Nat.le_of_ble_eq_true rfl⟩ (fun H locs hP hS => ?_)
        refine lt_e hf (fun M_118 hM_118 hf => ?_)
        refine sa_M1 E hP hS (by decide) hM_118 dX8_draws_118 (fun H locs hP hS => ?_)
        refine lv_aload_n hx hb dX8_draws_119 rfl (lv_at hl 3 rfl) ?_
        refine gf_X8_s E hP w_797 dX8_draws_120 ?_
        refine lv_bipush (v := 10) hx hb dX8_draws_123 (by decide) ?_
        refine lv_aload_n hx hb dX8_draws_125 rfl (lv_at hl 3 rfl) ?_
        refine lv_iload_n hx hb dX8_draws_126 rfl (lv_at hl 4 rfl) ?_
        refine lv_iconst (v := 3) hx hb dX8_draws_127 (by decide) ?_
        refine lv_iconst (v := 2) hx hb dX8_draws_128 (by decide) ?_
        refine lv_iload_n hx hb dX8_draws_129 rfl (lv_at hl 5 rfl) ?_
        refine lv_imul hx hb dX8_draws_130 ?_
        refine lv_isub hx hb dX8_draws_131 ?_
        refine ob_e hf (fun r_132 M_132 hq hf => ?_)
        refine cv_X8_ln E hP hS hq w_916 ⟨Nat.le_of_ble_eq_true rfl, Nat.le_of_ble_eq_true rfl⟩ hl (Nat.le_of_ble_eq_true rfl) dX8_draws_132 ⟨Nat.le_of_ble_eq_true rfl, Nat.le_of_ble_eq_true rfl⟩ (fun H locs hP hS => ?_)
        refine lt_e hf (fun M_135 hM_135 hf => ?_)
        refine sa_M1 E hP hS (by decide) hM_135 dX8_draws_135 (fun H locs hP hS => ?_)
        refine lv_aload_n hx hb dX8_draws_136 rfl (lv_at hl 3 rfl) ?_
        refine gf_X8_s E hP w_797 dX8_draws_137 ?_
        refine lv_iload hx hb dX8_draws_140 (lv_at hl 0 rfl) ?_
        refine lv_bipush (v := 7) hx hb dX8_draws_142 (by decide) ?_
        refine lv_iadd hx hb dX8_draws_144 ?_
        refine lv_aload_n hx hb dX8_draws_145 rfl (lv_at hl 3 rfl) ?_
        refine lv_iload_n hx hb dX8_draws_146 rfl (lv_at hl 2 rfl) ?_
        refine lv_iconst (v := 2) hx hb dX8_draws_147 (by decide) ?_
        refine ob_e hf (fun r_148 M_148 hq hf => ?_)
        refine cv_X8_pn E hP hS hq w_867 ⟨Nat.le_of_ble_eq_true rfl, Nat.le_of_ble_eq_true rfl⟩ hl (Nat.le_of_ble_eq_true rfl) dX8_draws_148 ⟨Nat.le_of_ble_eq_true rfl, Nat.le_of_ble_eq_true rfl⟩ (fun H locs hP hS => ?_)
        refine lv_i2f hx hb dX8_draws_151 ?_
        refine lv_aload_n hx hb dX8_draws_152 rfl (lv_at hl 3 rfl) ?_
        refine lv_iload_n hx hb dX8_draws_153 rfl (lv_at hl 2 rfl) ?_
        refine lv_iconst (v := 1) hx hb dX8_draws_154 (by decide) ?_
        refine ob_e hf (fun r_155 M_155 hq hf => ?_)
        refine cv_X8_pn E hP hS hq w_867 ⟨Nat.le_of_ble_eq_true rfl, Nat.le_of_ble_eq_true rfl⟩ hl (Nat.le_of_ble_eq_true rfl) dX8_draws_155 ⟨Nat.le_of_ble_eq_true rfl, Nat.le_of_ble_eq_true rfl⟩ (fun H locs hP hS => ?_)
        refine lv_i2f hx hb dX8_draws_158 ?_
        refine ck_e hf (fun hi hf => ?_)
        refine lv_fdiv hx hb dX8_draws_159 (fok_n hi) ?_
        refine ob_e hf (fun r_160 M_160 hq hf => ?_)
        refine cv_Jxf58ca_floatToIntBits_5c35a E hP hS hq w_1000 ⟨Nat.le_of_ble_eq_true rfl, Nat.le_of_ble_eq_true rfl⟩ hl (Nat.le_of_ble_eq_true rfl) dX8_draws_160 ⟨Nat.le_of_ble_eq_true rfl, Nat.le_of_ble_eq_true rfl⟩ (fun H locs hP hS => ?_)
        refine ck_e hf (fun hi hf => ?_)
        refine lt_e hf (fun M_163 hM_163 hf => ?_)
        refine sa_M1 E hP hS hi hM_163 dX8_draws_163 (fun H locs hP hS => ?_)
        refine lv_aload_n hx hb dX8_draws_164 rfl (lv_at hl 3 rfl) ?_
        refine lv_iload_n hx hb dX8_draws_165 rfl (lv_at hl 2 rfl) ?_
        refine lv_iconst (v := 2) hx hb dX8_draws_166 (by decide) ?_
        refine lv_aload_n hx hb dX8_draws_167 rfl (lv_at hl 3 rfl) ?_
        refine lv_iload_n hx hb dX8_draws_168 rfl (lv_at hl 2 rfl) ?_
        refine lv_iconst (v := 2) hx hb dX8_draws_169 (by decide) ?_
        refine ob_e hf (fun r_170 M_170 hq hf => ?_)
        refine cv_X8_pn E hP hS hq w_867 ⟨Nat.le_of_ble_eq_true rfl, Nat.le_of_ble_eq_true rfl⟩ hl (Nat.le_of_ble_eq_true rfl) dX8_draws_170 ⟨Nat.le_of_ble_eq_true rfl, Nat.le_of_ble_eq_true rfl⟩ (fun H locs hP hS => ?_)
        refine lv_aload_n hx hb dX8_draws_173 rfl (lv_at hl 3 rfl) ?_
        refine lv_iload_n hx hb dX8_draws_174 rfl (lv_at hl 4 rfl) ?_
        refine ob_e hf (fun r_175 M_175 hq hf => ?_)
        refine cv_X8_uses E hP hS hq w_981 ⟨Nat.le_of_ble_eq_true rfl, Nat.le_of_ble_eq_true rfl⟩ hl (Nat.le_of_ble_eq_true rfl) dX8_draws_175 ⟨Nat.le_of_ble_eq_true rfl, Nat.le_of_ble_eq_true rfl⟩ (fun H locs hP hS => ?_)
        refine lv_isub hx hb dX8_draws_178 ?_
        refine ob_e hf (fun r_179 M_179 hq hf => ?_)
        refine cv_X8_lays E hP hS hq w_873 ⟨Nat.le_of_ble_eq_true rfl, Nat.le_of_ble_eq_true rfl⟩ hl (Nat.le_of_ble_eq_true rfl) dX8_draws_179 ⟨Nat.le_of_ble_eq_true rfl, Nat.le_of_ble_eq_true rfl⟩ (fun H locs hP hS => ?_)
        refine lv_aload_n hx hb dX8_draws_182 rfl (lv_at hl 3 rfl) ?_
        refine lv_iload_n hx hb dX8_draws_183 rfl (lv_at hl 2 rfl) ?_
        refine lv_iconst (v := 3) hx hb dX8_draws_184 (by decide) ?_
        refine lv_aload_n hx hb dX8_draws_185 rfl (lv_at hl 3 rfl) ?_
        refine lv_iload_n hx hb dX8_draws_186 rfl (lv_at hl 2 rfl) ?_
        refine lv_iconst (v := 3) hx hb dX8_draws_187 (by decide) ?_
        refine ob_e hf (fun r_188 M_188 hq hf => ?_)
        refine cv_X8_pn E hP hS hq w_867 ⟨Nat.le_of_ble_eq_true rfl, Nat.le_of_ble_eq_true rfl⟩ hl (Nat.le_of_ble_eq_true rfl) dX8_draws_188 ⟨Nat.le_of_ble_eq_true rfl, Nat.le_of_ble_eq_true rfl⟩ (fun H locs hP hS => ?_)
        refine lv_aload_n hx hb dX8_draws_191 rfl (lv_at hl 3 rfl) ?_
        refine lv_iload_n hx hb dX8_draws_192 rfl (lv_at hl 4 rfl) ?_
        refine ob_e hf (fun r_193 M_193 hq hf => ?_)
        refine cv_X8_length E hP hS hq w_928 ⟨Nat.le_of_ble_eq_true rfl, Nat.le_of_ble_eq_true rfl⟩ hl (Nat.le_of_ble_eq_true rfl) dX8_draws_193 ⟨Nat.le_of_ble_eq_true rfl, Nat.le_of_ble_eq_true rfl⟩ (fun H locs hP hS => ?_)
        refine lv_iadd hx hb dX8_draws_196 ?_
        refine ob_e hf (fun r_197 M_197 hq hf => ?_)
        refine cv_X8_lays E hP hS hq w_873 ⟨Nat.le_of_ble_eq_true rfl, Nat.le_of_ble_eq_true rfl⟩ hl (Nat.le_of_ble_eq_true rfl) dX8_draws_197 ⟨Nat.le_of_ble_eq_true rfl, Nat.le_of_ble_eq_true rfl⟩ (fun H locs hP hS => ?_)
        refine lv_aload_n hx hb dX8_draws_200 rfl (lv_at hl 3 rfl) ?_
        refine lv_iload_n hx hb dX8_draws_201 rfl (lv_at hl 2 rfl) ?_
        refine lv_iconst (v := 4) hx hb dX8_draws_202 (by decide) ?_
        refine lv_iconst (v := 0) hx hb dX8_draws_203 (by decide) ?_
        refine ob_e hf (fun r_204 M_204 hq hf => ?_)
        refine cv_X8_lays E hP hS hq w_873 ⟨Nat.le_of_ble_eq_true rfl, Nat.le_of_ble_eq_true rfl⟩ hl (Nat.le_of_ble_eq_true rfl) dX8_draws_204 ⟨Nat.le_of_ble_eq_true rfl, Nat.le_of_ble_eq_true rfl⟩ (fun H locs hP hS => ?_)
        refine lv_aload_n hx hb dX8_draws_207 rfl (lv_at hl 3 rfl) ?_
        refine gf_X8_s E hP w_797 dX8_draws_208 ?_
        refine lv_iload hx hb dX8_draws_211 (lv_at hl 0 rfl) ?_
        refine lv_iconst (v := 4) hx hb dX8_draws_213 (by decide) ?_
        refine lv_iadd hx hb dX8_draws_214 ?_
        refine lv_iload_n hx hb dX8_draws_215 rfl (lv_at hl 2 rfl) ?_
        refine ck_e hf (fun hi hf => ?_)
        refine lt_e hf (fun M_216 hM_216 hf => ?_)
        refine sa_M1 E hP hS hi hM_216 dX8_draws_216 (fun H locs hP hS => ?_)
        refine lv_aload_n hx hb dX8_draws_217 rfl (lv_at hl 3 rfl) ?_
        refine gf_X8_s E hP w_797 dX8_draws_218 ?_
        refine lv_iload hx hb dX8_draws_221 (lv_at hl 0 rfl) ?_
        refine lv_iconst (v := 5) hx hb dX8_draws_223 (by decide) ?_
        refine lv_iadd hx hb dX8_draws_224 ?_
        refine lv_aload_n hx hb dX8_draws_225 rfl (lv_at hl 3 rfl) ?_
        refine gf_X8_s E hP w_797 dX8_draws_226 ?_
        refine lv_bipush (v := 7) hx hb dX8_draws_229 (by decide) ?_
        refine la_M1 E hP (by decide) dX8_draws_231 ?_
        refine ck_e hf (fun hi hf => ?_)
        refine lt_e hf (fun M_232 hM_232 hf => ?_)
        refine sa_M1 E hP hS hi hM_232 dX8_draws_232 (fun H locs hP hS => ?_)
        refine lv_aload_n hx hb dX8_draws_233 rfl (lv_at hl 3 rfl) ?_
        refine gf_X8_s E hP w_797 dX8_draws_234 ?_
        refine lv_iload hx hb dX8_draws_237 (lv_at hl 0 rfl) ?_
        refine lv_bipush (v := 6) hx hb dX8_draws_239 (by decide) ?_
        refine lv_iadd hx hb dX8_draws_241 ?_
        refine lv_aload_n hx hb dX8_draws_242 rfl (lv_at hl 3 rfl) ?_
        refine gf_X8_s E hP w_797 dX8_draws_243 ?_
        refine lv_bipush (v := 7) hx hb dX8_draws_246 (by decide) ?_
        refine la_M1 E hP (by decide) dX8_draws_248 ?_
        refine lv_aload_n hx hb dX8_draws_249 rfl (lv_at hl 3 rfl) ?_
        refine gf_X8_s E hP w_797 dX8_draws_250 ?_
        refine lv_iconst (v := 4) hx hb dX8_draws_253 (by decide) ?_
        refine la_M1 E hP (by decide) dX8_draws_254 ?_
        refine lv_iadd hx hb dX8_draws_255 ?_
        refine ck_e hf (fun hi hf => ?_)
        refine lt_e hf (fun M_256 hM_256 hf => ?_)
        refine sa_M1 E hP hS hi hM_256 dX8_draws_256 (fun H locs hP hS => ?_)
        refine lv_aload_n hx hb dX8_draws_257 rfl (lv_at hl 3 rfl) ?_
        refine gf_X8_s E hP w_797 dX8_draws_258 ?_
        refine lv_bipush (v := 7) hx hb dX8_draws_261 (by decide) ?_
        refine la_M1 E hP (by decide) dX8_draws_263 ?_
        exact en_i hf hx hb hr rfl hlocks hP hS dX8_draws_264
      · have hf := if_f hf hc
        refine lv_ldc (v := (-1000002)) hx hb hown (hts _ w_871) dX8_draws_30 ?_
        exact en_i hf hx hb hr rfl hlocks hP hS dX8_draws_32
    · have hf := if_t hf hc
      exact w_X8_draws_b17 E hf hP hS (lv_sub hl [] rfl)
theorem c_X8_draws (l : Launch) {G : GG} {sz : Nat} {x1 : Int32} {x2 : Int32} {M : Mem} {r : Int32} {M' : Mem} (hf : f_X8_draws x1 x2 M = some (r, M')) : CtI l yX8_draws cX8_draws 6 (some .int) rm_X8_draws [.ref (adM G 0 0), .int x1, .int x2] G (AM G) (XM G) sz M r (XM G) sz M' := by
  refine Ct_of (by decide) (Nat.le_of_ble_eq_true rfl) (fun p e s m below meth c ls hx hb hr hlocks hml hown hts hK hP hl => ?_)
  exact w_X8_draws ⟨hx, hb, hr, hlocks, hml, hown, hts, hK⟩ hf hP va_S.rf hl
set_option maxRecDepth 100000 in
theorem cv_X8_draws {p : Program} {l : Launch} {e : Env} {R : Room} {s : State} {m : MethodId} {args : Array Value} {below : List Frame} {meth : Method} {c : Code} {H : Heap} {locs : List Loc} {cells slots : Nat} {Q : State → Prop} {cc : ByteArray} {pc nL index : Nat} {ret : Option FieldType} {own : String} {ls : Array Slot} {rest : List Value} {l' : List (Nat × Value)} {G : GG} {sz : Nat} {M : Mem} (E : Cx p s m args meth c cc ret nL own G) (hP : PW G (AM G) (XM G) sz M s H) (hS : va_S (AM G) s.heap H locs) {x1 : Int32} {x2 : Int32} {r : Int32} {M' : Mem} (hq : f_X8_draws x1 x2 M = some (r, M')) (w1 : Cond.methodLink own index yX8_draws ∈ lw_all) (hR : 6 ≤ R.frames ∧ 150 ≤ R.locals) (hl : lv_has ls nL l') (hrest : (rest.map fun v => v.category).sum ≤ 8) (hdg : decode cc pc = .ok (.invokevirtual index, 3)) (hcs : cells ≤ R.cells ∧ slots ≤ R.slots)
    (kk : ∀ (H1 : Heap) (locs1 : List Loc), PW G (AM G) (XM G) sz M' s H1 → va_S (AM G) s.heap H1 locs1 → W p l e R s m args below meth c H1 locs1 cells slots Q (F0 m (pc + 3) ls (.int r :: rest))) : W p l e R s m args below meth c H locs cells slots Q (F0 m pc ls (.int x2 :: .int x1 :: .ref (adM G 0 0) :: rest)) := by
  obtain ⟨hx, hb, hr, hlocks, hml, hown, hts, hK⟩ := E
  exact kc_i (kc_runV (na := 2) (q := (RX8, TX8, 16)) hx hb hml hts hown hK hP 0 0 ⟨rfl, by decide⟩ rfl rfl rfl (c_X8_draws l hq) w1 w_971 ws_36 w_9 w_972 (by decide +kernel) hR rfl hl rfl hrest hdg hcs) hS kk
/-! X8_draw -/
abbrev rm_X8_draw : Room := { frames := 6, cells := 0, slots := 0, locals := 150 }
def f_X8_draw (x1 : Int32) (x2 : Int32) (M : Mem) : Option (Int32 × Mem) :=
ob (f_X8_keeps M) fun _ M_1 =>
ob (f_X8_draws x1 x2 M_1) fun r_8 M_8 =>
ob (f_X8_acted r_8 M_8) fun r_11 M_11 =>
some (r_11, M_11)
set_option maxHeartbeats 4000000 in
set_option maxRecDepth 100000 in
theorem w_X8_draw {p : Program} {l : Launch} {e : Env} {s : State} {m : MethodId} {args : Array Value} {below : List Frame} {meth : Method} {c : Code} {G : GG} {sz : Nat} {r : Int32} {M' : Mem} (E : Cx p s m args meth c cX8_draw (some .int) 3 RX8 G) {x1 : Int32} {x2 : Int32} {M : Mem} {H : Heap} {locs : List Loc} {ls : Array Slot} (hf : f_X8_draw x1 x2 M = some (r, M')) (hP : PW G (AM G) (XM G) sz M s H) (hS : va_S (AM G) s.heap H locs) (hl : lv_has ls 3 [(0, .ref (adM G 0 0)), (1, .int x1), (2, .int x2)]) : W p l e rm_X8_draw s m args below meth c H locs 0 0 (MQ below (va_Qi (fun (r2 : Int32) (_ : Unit) => r2 = r) (fun _ t => PW G (AM G) (XM G) sz M' t t.heap) (AM G)) args s 0 0 (AM G)) (F0 m 0 ls []) := by
  obtain ⟨hx, hb, hr, hlocks, hml, hown, hts, hK⟩ := id E
  unfold f_X8_draw at hf
  refine lv_aload_n hx hb dX8_draw_0 rfl (lv_at hl 0 rfl) ?_
  refine ob_e hf (fun r_1 M_1 hq hf => ?_)
  refine cv_X8_keeps E hP hS hq w_855 ⟨Nat.le_of_ble_eq_true rfl, Nat.le_of_ble_eq_true rfl⟩ hl (Nat.le_of_ble_eq_true rfl) dX8_draw_1 ⟨Nat.le_of_ble_eq_true rfl, Nat.le_of_ble_eq_true rfl⟩ (fun H locs hP hS => ?_)
  refine lv_aload_n hx hb dX8_draw_4 rfl (lv_at hl 0 rfl) ?_
  refine lv_aload_n hx hb dX8_draw_5 rfl (lv_at hl 0 rfl) ?_
  refine lv_iload_n hx hb dX8_draw_6 rfl (lv_at hl 1 rfl) ?_
  refine lv_iload_n hx hb dX8_draw_7 rfl (lv_at hl 2 rfl) ?_
  refine ob_e hf (fun r_8 M_8 hq hf => ?_)
  refine cv_X8_draws E hP hS hq w_969 ⟨Nat.le_of_ble_eq_true rfl, Nat.le_of_ble_eq_true rfl⟩ hl (Nat.le_of_ble_eq_true rfl) dX8_draw_8 ⟨Nat.le_of_ble_eq_true rfl, Nat.le_of_ble_eq_true rfl⟩ (fun H locs hP hS => ?_)
  refine ob_e hf (fun r_11 M_11 hq hf => ?_)
  refine cv_X8_acted E hP hS hq w_859 ⟨Nat.le_of_ble_eq_true rfl, Nat.le_of_ble_eq_true rfl⟩ hl (Nat.le_of_ble_eq_true rfl) dX8_draw_11 ⟨Nat.le_of_ble_eq_true rfl, Nat.le_of_ble_eq_true rfl⟩ (fun H locs hP hS => ?_)
  exact en_i hf hx hb hr rfl hlocks hP hS dX8_draw_14
theorem c_X8_draw (l : Launch) {G : GG} {sz : Nat} {x1 : Int32} {x2 : Int32} {M : Mem} {r : Int32} {M' : Mem} (hf : f_X8_draw x1 x2 M = some (r, M')) : CtI l yX8_draw cX8_draw 3 (some .int) rm_X8_draw [.ref (adM G 0 0), .int x1, .int x2] G (AM G) (XM G) sz M r (XM G) sz M' := by
  refine Ct_of (by decide) (Nat.le_of_ble_eq_true rfl) (fun p e s m below meth c ls hx hb hr hlocks hml hown hts hK hP hl => ?_)
  exact w_X8_draw ⟨hx, hb, hr, hlocks, hml, hown, hts, hK⟩ hf hP va_S.rf hl
set_option maxRecDepth 100000 in
theorem cv_X8_draw {p : Program} {l : Launch} {e : Env} {R : Room} {s : State} {m : MethodId} {args : Array Value} {below : List Frame} {meth : Method} {c : Code} {H : Heap} {locs : List Loc} {cells slots : Nat} {Q : State → Prop} {cc : ByteArray} {pc nL index : Nat} {ret : Option FieldType} {own : String} {ls : Array Slot} {rest : List Value} {l' : List (Nat × Value)} {G : GG} {sz : Nat} {M : Mem} (E : Cx p s m args meth c cc ret nL own G) (hP : PW G (AM G) (XM G) sz M s H) (hS : va_S (AM G) s.heap H locs) {x1 : Int32} {x2 : Int32} {r : Int32} {M' : Mem} (hq : f_X8_draw x1 x2 M = some (r, M')) (w1 : Cond.methodLink own index yX8_draw ∈ lw_all) (hR : 7 ≤ R.frames ∧ 172 ≤ R.locals) (hl : lv_has ls nL l') (hrest : (rest.map fun v => v.category).sum ≤ 8) (hdg : decode cc pc = .ok (.invokevirtual index, 3)) (hcs : cells ≤ R.cells ∧ slots ≤ R.slots)
    (kk : ∀ (H1 : Heap) (locs1 : List Loc), PW G (AM G) (XM G) sz M' s H1 → va_S (AM G) s.heap H1 locs1 → W p l e R s m args below meth c H1 locs1 cells slots Q (F0 m (pc + 3) ls (.int r :: rest))) : W p l e R s m args below meth c H locs cells slots Q (F0 m pc ls (.int x2 :: .int x1 :: .ref (adM G 0 0) :: rest)) := by
  obtain ⟨hx, hb, hr, hlocks, hml, hown, hts, hK⟩ := E
  exact kc_i (kc_runV (na := 2) (q := (RX8, TX8, 16)) hx hb hml hts hown hK hP 0 0 ⟨rfl, by decide⟩ rfl rfl rfl (c_X8_draw l hq) w1 w_966 w_967 w_9 w_968 (by decide +kernel) hR rfl hl rfl hrest hdg hcs) hS kk
/-! X8_erase -/
abbrev rm_X8_erase : Room := { frames := 2, cells := 0, slots := 0, locals := 43 }
def f_X8_erase (x1 : Int32) (M : Mem) : Option (Int32 × Mem) :=
ob (f_X8_isLine x1 M) fun r_2 M_2 =>
(if r_2 = 0 then
  some ((-1000001), M_2)
else
  ob (f_X8_isDrawn x1 M_2) fun r_13 M_13 =>
  (if r_13 = 0 then
    some ((-1000002), M_13)
  else
    ob (f_X8_keeps M_13) fun _ M_23 =>
    ob (f_X8_ln x1 4 M_23) fun r_29 M_29 =>
    ck (ibd ((53 + (8 * x1)) + 4) 181) <|
    lt (up3 M_29 0 1 (ix ((53 + (8 * x1)) + 4)) (-1)) fun M_47 =>
    ob (f_X8_acted r_29 M_47) fun r_50 M_50 =>
    some (r_50, M_50)))
set_option maxHeartbeats 4000000 in
set_option maxRecDepth 100000 in
theorem w_X8_erase {p : Program} {l : Launch} {e : Env} {s : State} {m : MethodId} {args : Array Value} {below : List Frame} {meth : Method} {c : Code} {G : GG} {sz : Nat} {r : Int32} {M' : Mem} (E : Cx p s m args meth c cX8_erase (some .int) 3 RX8 G) {x1 : Int32} {M : Mem} {H : Heap} {locs : List Loc} {ls : Array Slot} (hf : f_X8_erase x1 M = some (r, M')) (hP : PW G (AM G) (XM G) sz M s H) (hS : va_S (AM G) s.heap H locs) (hl : lv_has ls 3 [(0, .ref (adM G 0 0)), (1, .int x1)]) : W p l e rm_X8_erase s m args below meth c H locs 0 0 (MQ below (va_Qi (fun (r2 : Int32) (_ : Unit) => r2 = r) (fun _ t => PW G (AM G) (XM G) sz M' t t.heap) (AM G)) args s 0 0 (AM G)) (F0 m 0 ls []) := by
  obtain ⟨hx, hb, hr, hlocks, hml, hown, hts, hK⟩ := id E
  unfold f_X8_erase at hf
  refine lv_aload_n hx hb dX8_erase_0 rfl (lv_at hl 0 rfl) ?_
  refine lv_iload_n hx hb dX8_erase_1 rfl (lv_at hl 1 rfl) ?_
  refine ob_e hf (fun r_2 M_2 hq hf => ?_)
  refine cv_X8_isLine E hP hS hq w_924 ⟨Nat.le_of_ble_eq_true rfl, Nat.le_of_ble_eq_true rfl⟩ hl (Nat.le_of_ble_eq_true rfl) dX8_erase_2 ⟨Nat.le_of_ble_eq_true rfl, Nat.le_of_ble_eq_true rfl⟩ (fun H locs hP hS => ?_)
  refine lv_if_ne (tgt := 11) hx hb dX8_erase_5 (by decide) (fun hc => ?_) (fun hc => ?_)
  · have hf := if_f hf hc
    refine lv_aload_n hx hb dX8_erase_11 rfl (lv_at hl 0 rfl) ?_
    refine lv_iload_n hx hb dX8_erase_12 rfl (lv_at hl 1 rfl) ?_
    refine ob_e hf (fun r_13 M_13 hq hf => ?_)
    refine cv_X8_isDrawn E hP hS hq w_935 ⟨Nat.le_of_ble_eq_true rfl, Nat.le_of_ble_eq_true rfl⟩ hl (Nat.le_of_ble_eq_true rfl) dX8_erase_13 ⟨Nat.le_of_ble_eq_true rfl, Nat.le_of_ble_eq_true rfl⟩ (fun H locs hP hS => ?_)
    refine lv_if_ne (tgt := 22) hx hb dX8_erase_16 (by decide) (fun hc => ?_) (fun hc => ?_)
    · have hf := if_f hf hc
      refine lv_aload_n hx hb dX8_erase_22 rfl (lv_at hl 0 rfl) ?_
      refine ob_e hf (fun r_23 M_23 hq hf => ?_)
      refine cv_X8_keeps E hP hS hq w_855 ⟨Nat.le_of_ble_eq_true rfl, Nat.le_of_ble_eq_true rfl⟩ hl (Nat.le_of_ble_eq_true rfl) dX8_erase_23 ⟨Nat.le_of_ble_eq_true rfl, Nat.le_of_ble_eq_true rfl⟩ (fun H locs hP hS => ?_)
      refine lv_aload_n hx hb dX8_erase_26 rfl (lv_at hl 0 rfl) ?_
      refine lv_iload_n hx hb dX8_erase_27 rfl (lv_at hl 1 rfl) ?_
      refine lv_iconst (v := 4) hx hb dX8_erase_28 (by decide) ?_
      refine ob_e hf (fun r_29 M_29 hq hf => ?_)
      refine cv_X8_ln E hP hS hq w_916 ⟨Nat.le_of_ble_eq_true rfl, Nat.le_of_ble_eq_true rfl⟩ hl (Nat.le_of_ble_eq_true rfl) dX8_erase_29 ⟨Nat.le_of_ble_eq_true rfl, Nat.le_of_ble_eq_true rfl⟩ (fun H locs hP hS => ?_)
      refine lv_istore_n (lv' := [(2, .int r_29), (0, .ref (adM G 0 0)), (1, .int x1)]) hx hb dX8_erase_32 rfl hl (by decide) rfl (fun ls hl => ?_)
      refine lv_aload_n hx hb dX8_erase_33 rfl (lv_at hl 1 rfl) ?_
      refine gf_X8_s E hP w_797 dX8_erase_34 ?_
      refine lv_bipush (v := 53) hx hb dX8_erase_37 (by decide) ?_
      refine lv_bipush (v := 8) hx hb dX8_erase_39 (by decide) ?_
      refine lv_iload_n hx hb dX8_erase_41 rfl (lv_at hl 2 rfl) ?_
      refine lv_imul hx hb dX8_erase_42 ?_
      refine lv_iadd hx hb dX8_erase_43 ?_
      refine lv_iconst (v := 4) hx hb dX8_erase_44 (by decide) ?_
      refine lv_iadd hx hb dX8_erase_45 ?_
      refine lv_iconst (v := (-1)) hx hb dX8_erase_46 (by decide) ?_
      refine ck_e hf (fun hi hf => ?_)
      refine lt_e hf (fun M_47 hM_47 hf => ?_)
      refine sa_M1 E hP hS hi hM_47 dX8_erase_47 (fun H locs hP hS => ?_)
      refine lv_aload_n hx hb dX8_erase_48 rfl (lv_at hl 1 rfl) ?_
      refine lv_iload_n hx hb dX8_erase_49 rfl (lv_at hl 0 rfl) ?_
      refine ob_e hf (fun r_50 M_50 hq hf => ?_)
      refine cv_X8_acted E hP hS hq w_859 ⟨Nat.le_of_ble_eq_true rfl, Nat.le_of_ble_eq_true rfl⟩ hl (Nat.le_of_ble_eq_true rfl) dX8_erase_50 ⟨Nat.le_of_ble_eq_true rfl, Nat.le_of_ble_eq_true rfl⟩ (fun H locs hP hS => ?_)
      exact en_i hf hx hb hr rfl hlocks hP hS dX8_erase_53
    · have hf := if_t hf hc
      refine lv_ldc (v := (-1000002)) hx hb hown (hts _ w_871) dX8_erase_19 ?_
      exact en_i hf hx hb hr rfl hlocks hP hS dX8_erase_21
  · have hf := if_t hf hc
    refine lv_ldc (v := (-1000001)) hx hb hown (hts _ w_854) dX8_erase_8 ?_
    exact en_i hf hx hb hr rfl hlocks hP hS dX8_erase_10
theorem c_X8_erase (l : Launch) {G : GG} {sz : Nat} {x1 : Int32} {M : Mem} {r : Int32} {M' : Mem} (hf : f_X8_erase x1 M = some (r, M')) : CtI l yX8_erase cX8_erase 3 (some .int) rm_X8_erase [.ref (adM G 0 0), .int x1] G (AM G) (XM G) sz M r (XM G) sz M' := by
  refine Ct_of (by decide) (Nat.le_of_ble_eq_true rfl) (fun p e s m below meth c ls hx hb hr hlocks hml hown hts hK hP hl => ?_)
  exact w_X8_erase ⟨hx, hb, hr, hlocks, hml, hown, hts, hK⟩ hf hP va_S.rf hl
set_option maxRecDepth 100000 in
theorem cv_X8_erase {p : Program} {l : Launch} {e : Env} {R : Room} {s : State} {m : MethodId} {args : Array Value} {below : List Frame} {meth : Method} {c : Code} {H : Heap} {locs : List Loc} {cells slots : Nat} {Q : State → Prop} {cc : ByteArray} {pc nL index : Nat} {ret : Option FieldType} {own : String} {ls : Array Slot} {rest : List Value} {l' : List (Nat × Value)} {G : GG} {sz : Nat} {M : Mem} (E : Cx p s m args meth c cc ret nL own G) (hP : PW G (AM G) (XM G) sz M s H) (hS : va_S (AM G) s.heap H locs) {x1 : Int32} {r : Int32} {M' : Mem} (hq : f_X8_erase x1 M = some (r, M')) (w1 : Cond.methodLink own index yX8_erase ∈ lw_all) (hR : 3 ≤ R.frames ∧ 65 ≤ R.locals) (hl : lv_has ls nL l') (hrest : (rest.map fun v => v.category).sum ≤ 8) (hdg : decode cc pc = .ok (.invokevirtual index, 3)) (hcs : cells ≤ R.cells ∧ slots ≤ R.slots)
    (kk : ∀ (H1 : Heap) (locs1 : List Loc), PW G (AM G) (XM G) sz M' s H1 → va_S (AM G) s.heap H1 locs1 → W p l e R s m args below meth c H1 locs1 cells slots Q (F0 m (pc + 3) ls (.int r :: rest))) : W p l e R s m args below meth c H locs cells slots Q (F0 m pc ls (.int x1 :: .ref (adM G 0 0) :: rest)) := by
  obtain ⟨hx, hb, hr, hlocks, hml, hown, hts, hK⟩ := E
  exact kc_i (kc_runV (na := 1) (q := (RX8, TX8, 16)) hx hb hml hts hown hK hP 0 0 ⟨rfl, by decide⟩ rfl rfl rfl (c_X8_erase l hq) w1 w_1011 w_1012 w_9 w_1013 (by decide +kernel) hR rfl hl rfl hrest hdg hcs) hS kk
/-! X8_waited -/
abbrev rm_X8_waited : Room := { frames := 2, cells := 0, slots := 0, locals := 44 }
def f_X8_waited (x1 : Int32) (M : Mem) : Option (Int32 × Mem) :=
ob (f_X8_in x1 1 200 M) fun r_5 M_5 =>
(if r_5 = 0 then
  some ((-1000001), M_5)
else
  (if ((M_5 0 1 (ix 7)) + x1) ≤ 100000 then
    ob (f_X8_passes x1 M_5) fun _ M_33 =>
    some ((M_33 0 1 (ix 7)), M_33)
  else
    some ((-1000003), M_5)))
set_option maxHeartbeats 4000000 in
set_option maxRecDepth 100000 in
theorem w_X8_waited {p : Program} {l : Launch} {e : Env} {s : State} {m : MethodId} {args : Array Value} {below : List Frame} {meth : Method} {c : Code} {G : GG} {sz : Nat} {r : Int32} {M' : Mem} (E : Cx p s m args meth c cX8_waited (some .int) 2 RX8 G) {x1 : Int32} {M : Mem} {H : Heap} {locs : List Loc} {ls : Array Slot} (hf : f_X8_waited x1 M = some (r, M')) (hP : PW G (AM G) (XM G) sz M s H) (hS : va_S (AM G) s.heap H locs) (hl : lv_has ls 2 [(0, .ref (adM G 0 0)), (1, .int x1)]) : W p l e rm_X8_waited s m args below meth c H locs 0 0 (MQ below (va_Qi (fun (r2 : Int32) (_ : Unit) => r2 = r) (fun _ t => PW G (AM G) (XM G) sz M' t t.heap) (AM G)) args s 0 0 (AM G)) (F0 m 0 ls []) := by
  obtain ⟨hx, hb, hr, hlocks, hml, hown, hts, hK⟩ := id E
  unfold f_X8_waited at hf
  refine lv_iload_n hx hb dX8_waited_0 rfl (lv_at hl 1 rfl) ?_
  refine lv_iconst (v := 1) hx hb dX8_waited_1 (by decide) ?_
  refine lv_sipush (v := 200) hx hb dX8_waited_2 (by decide) ?_
  refine ob_e hf (fun r_5 M_5 hq hf => ?_)
  refine cv_X8_in E hP hS hq w_851 ⟨Nat.le_of_ble_eq_true rfl, Nat.le_of_ble_eq_true rfl⟩ hl (Nat.le_of_ble_eq_true rfl) dX8_waited_5 ⟨Nat.le_of_ble_eq_true rfl, Nat.le_of_ble_eq_true rfl⟩ (fun H locs hP hS => ?_)
  refine lv_if_ne (tgt := 14) hx hb dX8_waited_8 (by decide) (fun hc => ?_) (fun hc => ?_)
  · have hf := if_f hf hc
    refine lv_aload_n hx hb dX8_waited_14 rfl (lv_at hl 0 rfl) ?_
    refine gf_X8_s E hP w_797 dX8_waited_15 ?_
    refine lv_bipush (v := 7) hx hb dX8_waited_18 (by decide) ?_
    refine la_M1 E hP (by decide) dX8_waited_20 ?_
    refine lv_iload_n hx hb dX8_waited_21 rfl (lv_at hl 1 rfl) ?_
    refine lv_iadd hx hb dX8_waited_22 ?_
    refine lv_ldc (v := 100000) hx hb hown (hts _ w_952) dX8_waited_23 ?_
    refine lv_icmp_le (tgt := 31) hx hb dX8_waited_25 (by decide) (fun hc => ?_) (fun hc => ?_)
    · have hf := if_t hf hc
      refine lv_aload_n hx hb dX8_waited_31 rfl (lv_at hl 0 rfl) ?_
      refine lv_iload_n hx hb dX8_waited_32 rfl (lv_at hl 1 rfl) ?_
      refine ob_e hf (fun r_33 M_33 hq hf => ?_)
      refine cv_X8_passes E hP hS hq w_953 ⟨Nat.le_of_ble_eq_true rfl, Nat.le_of_ble_eq_true rfl⟩ hl (Nat.le_of_ble_eq_true rfl) dX8_waited_33 ⟨Nat.le_of_ble_eq_true rfl, Nat.le_of_ble_eq_true rfl⟩ (fun H locs hP hS => ?_)
      refine lv_aload_n hx hb dX8_waited_36 rfl (lv_at hl 0 rfl) ?_
      refine gf_X8_s E hP w_797 dX8_waited_37 ?_
      refine lv_bipush (v := 7) hx hb dX8_waited_40 (by decide) ?_
      refine la_M1 E hP (by decide) dX8_waited_42 ?_
      exact en_i hf hx hb hr rfl hlocks hP hS dX8_waited_43
    · have hf := if_f hf hc
      refine lv_ldc (v := (-1000003)) hx hb hown (hts _ w_872) dX8_waited_28 ?_
      exact en_i hf hx hb hr rfl hlocks hP hS dX8_waited_30
  · have hf := if_t hf hc
    refine lv_ldc (v := (-1000001)) hx hb hown (hts _ w_854) dX8_waited_11 ?_
    exact en_i hf hx hb hr rfl hlocks hP hS dX8_waited_13
theorem c_X8_waited (l : Launch) {G : GG} {sz : Nat} {x1 : Int32} {M : Mem} {r : Int32} {M' : Mem} (hf : f_X8_waited x1 M = some (r, M')) : CtI l yX8_waited cX8_waited 2 (some .int) rm_X8_waited [.ref (adM G 0 0), .int x1] G (AM G) (XM G) sz M r (XM G) sz M' := by
  refine Ct_of (by decide) (Nat.le_of_ble_eq_true rfl) (fun p e s m below meth c ls hx hb hr hlocks hml hown hts hK hP hl => ?_)
  exact w_X8_waited ⟨hx, hb, hr, hlocks, hml, hown, hts, hK⟩ hf hP va_S.rf hl
set_option maxRecDepth 100000 in
theorem cv_X8_waited {p : Program} {l : Launch} {e : Env} {R : Room} {s : State} {m : MethodId} {args : Array Value} {below : List Frame} {meth : Method} {c : Code} {H : Heap} {locs : List Loc} {cells slots : Nat} {Q : State → Prop} {cc : ByteArray} {pc nL index : Nat} {ret : Option FieldType} {own : String} {ls : Array Slot} {rest : List Value} {l' : List (Nat × Value)} {G : GG} {sz : Nat} {M : Mem} (E : Cx p s m args meth c cc ret nL own G) (hP : PW G (AM G) (XM G) sz M s H) (hS : va_S (AM G) s.heap H locs) {x1 : Int32} {r : Int32} {M' : Mem} (hq : f_X8_waited x1 M = some (r, M')) (w1 : Cond.methodLink own index yX8_waited ∈ lw_all) (hR : 3 ≤ R.frames ∧ 65 ≤ R.locals) (hl : lv_has ls nL l') (hrest : (rest.map fun v => v.category).sum ≤ 8) (hdg : decode cc pc = .ok (.invokevirtual index, 3)) (hcs : cells ≤ R.cells ∧ slots ≤ R.slots)
    (kk : ∀ (H1 : Heap) (locs1 : List Loc), PW G (AM G) (XM G) sz M' s H1 → va_S (AM G) s.heap H1 locs1 → W p l e R s m args below meth c H1 locs1 cells slots Q (F0 m (pc + 3) ls (.int r :: rest))) : W p l e R s m args below meth c H locs cells slots Q (F0 m pc ls (.int x1 :: .ref (adM G 0 0) :: rest)) := by
  obtain ⟨hx, hb, hr, hlocks, hml, hown, hts, hK⟩ := E
  exact kc_i (kc_runV (na := 1) (q := (RX8, TX8, 16)) hx hb hml hts hown hK hP 0 0 ⟨rfl, by decide⟩ rfl rfl rfl (c_X8_waited l hq) w1 w_1020 ws_43 w_9 w_1021 (by decide +kernel) hR rfl hl rfl hrest hdg hcs) hS kk
/-! X8_waits -/
abbrev rm_X8_waits : Room := { frames := 3, cells := 0, slots := 0, locals := 65 }
def f_X8_waits (x1 : Int32) (M : Mem) : Option (Int32 × Mem) :=
ob (f_X8_keeps M) fun _ M_1 =>
ob (f_X8_waited x1 M_1) fun r_7 M_7 =>
ob (f_X8_acted r_7 M_7) fun r_10 M_10 =>
some (r_10, M_10)
set_option maxHeartbeats 4000000 in
set_option maxRecDepth 100000 in
theorem w_X8_waits {p : Program} {l : Launch} {e : Env} {s : State} {m : MethodId} {args : Array Value} {below : List Frame} {meth : Method} {c : Code} {G : GG} {sz : Nat} {r : Int32} {M' : Mem} (E : Cx p s m args meth c cX8_waits (some .int) 2 RX8 G) {x1 : Int32} {M : Mem} {H : Heap} {locs : List Loc} {ls : Array Slot} (hf : f_X8_waits x1 M = some (r, M')) (hP : PW G (AM G) (XM G) sz M s H) (hS : va_S (AM G) s.heap H locs) (hl : lv_has ls 2 [(0, .ref (adM G 0 0)), (1, .int x1)]) : W p l e rm_X8_waits s m args below meth c H locs 0 0 (MQ below (va_Qi (fun (r2 : Int32) (_ : Unit) => r2 = r) (fun _ t => PW G (AM G) (XM G) sz M' t t.heap) (AM G)) args s 0 0 (AM G)) (F0 m 0 ls []) := by
  obtain ⟨hx, hb, hr, hlocks, hml, hown, hts, hK⟩ := id E
  unfold f_X8_waits at hf
  refine lv_aload_n hx hb dX8_waits_0 rfl (lv_at hl 0 rfl) ?_
  refine ob_e hf (fun r_1 M_1 hq hf => ?_)
  refine cv_X8_keeps E hP hS hq w_855 ⟨Nat.le_of_ble_eq_true rfl, Nat.le_of_ble_eq_true rfl⟩ hl (Nat.le_of_ble_eq_true rfl) dX8_waits_1 ⟨Nat.le_of_ble_eq_true rfl, Nat.le_of_ble_eq_true rfl⟩ (fun H locs hP hS => ?_)
  refine lv_aload_n hx hb dX8_waits_4 rfl (lv_at hl 0 rfl) ?_
  refine lv_aload_n hx hb dX8_waits_5 rfl (lv_at hl 0 rfl) ?_
  refine lv_iload_n hx hb dX8_waits_6 rfl (lv_at hl 1 rfl) ?_
  refine ob_e hf (fun r_7 M_7 hq hf => ?_)
  refine cv_X8_waited E hP hS hq w_1018 ⟨Nat.le_of_ble_eq_true rfl, Nat.le_of_ble_eq_true rfl⟩ hl (Nat.le_of_ble_eq_true rfl) dX8_waits_7 ⟨Nat.le_of_ble_eq_true rfl, Nat.le_of_ble_eq_true rfl⟩ (fun H locs hP hS => ?_)
  refine ob_e hf (fun r_10 M_10 hq hf => ?_)
  refine cv_X8_acted E hP hS hq w_859 ⟨Nat.le_of_ble_eq_true rfl, Nat.le_of_ble_eq_true rfl⟩ hl (Nat.le_of_ble_eq_true rfl) dX8_waits_10 ⟨Nat.le_of_ble_eq_true rfl, Nat.le_of_ble_eq_true rfl⟩ (fun H locs hP hS => ?_)
  exact en_i hf hx hb hr rfl hlocks hP hS dX8_waits_13
theorem c_X8_waits (l : Launch) {G : GG} {sz : Nat} {x1 : Int32} {M : Mem} {r : Int32} {M' : Mem} (hf : f_X8_waits x1 M = some (r, M')) : CtI l yX8_waits cX8_waits 2 (some .int) rm_X8_waits [.ref (adM G 0 0), .int x1] G (AM G) (XM G) sz M r (XM G) sz M' := by
  refine Ct_of (by decide) (Nat.le_of_ble_eq_true rfl) (fun p e s m below meth c ls hx hb hr hlocks hml hown hts hK hP hl => ?_)
  exact w_X8_waits ⟨hx, hb, hr, hlocks, hml, hown, hts, hK⟩ hf hP va_S.rf hl
set_option maxRecDepth 100000 in
theorem cv_X8_waits {p : Program} {l : Launch} {e : Env} {R : Room} {s : State} {m : MethodId} {args : Array Value} {below : List Frame} {meth : Method} {c : Code} {H : Heap} {locs : List Loc} {cells slots : Nat} {Q : State → Prop} {cc : ByteArray} {pc nL index : Nat} {ret : Option FieldType} {own : String} {ls : Array Slot} {rest : List Value} {l' : List (Nat × Value)} {G : GG} {sz : Nat} {M : Mem} (E : Cx p s m args meth c cc ret nL own G) (hP : PW G (AM G) (XM G) sz M s H) (hS : va_S (AM G) s.heap H locs) {x1 : Int32} {r : Int32} {M' : Mem} (hq : f_X8_waits x1 M = some (r, M')) (w1 : Cond.methodLink own index yX8_waits ∈ lw_all) (hR : 4 ≤ R.frames ∧ 86 ≤ R.locals) (hl : lv_has ls nL l') (hrest : (rest.map fun v => v.category).sum ≤ 8) (hdg : decode cc pc = .ok (.invokevirtual index, 3)) (hcs : cells ≤ R.cells ∧ slots ≤ R.slots)
    (kk : ∀ (H1 : Heap) (locs1 : List Loc), PW G (AM G) (XM G) sz M' s H1 → va_S (AM G) s.heap H1 locs1 → W p l e R s m args below meth c H1 locs1 cells slots Q (F0 m (pc + 3) ls (.int r :: rest))) : W p l e R s m args below meth c H locs cells slots Q (F0 m pc ls (.int x1 :: .ref (adM G 0 0) :: rest)) := by
  obtain ⟨hx, hb, hr, hlocks, hml, hown, hts, hK⟩ := E
  exact kc_i (kc_runV (na := 1) (q := (RX8, TX8, 16)) hx hb hml hts hown hK hP 0 0 ⟨rfl, by decide⟩ rfl rfl rfl (c_X8_waits l hq) w1 w_1015 w_1016 w_9 w_1017 (by decide +kernel) hR rfl hl rfl hrest hdg hcs) hS kk
/-! X8_cleans -/
abbrev rm_X8_cleans : Room := { frames := 2, cells := 0, slots := 0, locals := 44 }
def f_X8_cleans (M : Mem) : Option (Int32 × Mem) :=
(if 0 ≤ (M 0 1 (ix 8)) then
  (if ((M 0 1 (ix 7)) + (M 0 1 (ix 6))) ≤ 100000 then
    ob (f_X8_pn (M 0 1 (ix 8)) 4 M) fun r_45 M_45 =>
    ob (f_X8_passes (M_45 0 1 (ix 6)) M_45) fun _ M_57 =>
    ob (f_X8_lays (M_57 0 1 (ix 8)) 4 0 M_57) fun _ M_70 =>
    some (r_45, M_70)
  else
    some ((-1000003), M))
else
  some ((-1000002), M))
set_option maxHeartbeats 4000000 in
set_option maxRecDepth 100000 in
theorem w_X8_cleans {p : Program} {l : Launch} {e : Env} {s : State} {m : MethodId} {args : Array Value} {below : List Frame} {meth : Method} {c : Code} {G : GG} {sz : Nat} {r : Int32} {M' : Mem} (E : Cx p s m args meth c cX8_cleans (some .int) 2 RX8 G) {M : Mem} {H : Heap} {locs : List Loc} {ls : Array Slot} (hf : f_X8_cleans M = some (r, M')) (hP : PW G (AM G) (XM G) sz M s H) (hS : va_S (AM G) s.heap H locs) (hl : lv_has ls 2 [(0, .ref (adM G 0 0))]) : W p l e rm_X8_cleans s m args below meth c H locs 0 0 (MQ below (va_Qi (fun (r2 : Int32) (_ : Unit) => r2 = r) (fun _ t => PW G (AM G) (XM G) sz M' t t.heap) (AM G)) args s 0 0 (AM G)) (F0 m 0 ls []) := by
  obtain ⟨hx, hb, hr, hlocks, hml, hown, hts, hK⟩ := id E
  unfold f_X8_cleans at hf
  refine lv_aload_n hx hb dX8_cleans_0 rfl (lv_at hl 0 rfl) ?_
  refine gf_X8_s E hP w_797 dX8_cleans_1 ?_
  refine lv_bipush (v := 8) hx hb dX8_cleans_4 (by decide) ?_
  refine la_M1 E hP (by decide) dX8_cleans_6 ?_
  refine lv_if_ge (tgt := 13) hx hb dX8_cleans_7 (by decide) (fun hc => ?_) (fun hc => ?_)
  · have hf := if_t hf hc
    refine lv_aload_n hx hb dX8_cleans_13 rfl (lv_at hl 0 rfl) ?_
    refine gf_X8_s E hP w_797 dX8_cleans_14 ?_
    refine lv_bipush (v := 7) hx hb dX8_cleans_17 (by decide) ?_
    refine la_M1 E hP (by decide) dX8_cleans_19 ?_
    refine lv_aload_n hx hb dX8_cleans_20 rfl (lv_at hl 0 rfl) ?_
    refine gf_X8_s E hP w_797 dX8_cleans_21 ?_
    refine lv_bipush (v := 6) hx hb dX8_cleans_24 (by decide) ?_
    refine la_M1 E hP (by decide) dX8_cleans_26 ?_
    refine lv_iadd hx hb dX8_cleans_27 ?_
    refine lv_ldc (v := 100000) hx hb hown (hts _ w_952) dX8_cleans_28 ?_
    refine lv_icmp_le (tgt := 36) hx hb dX8_cleans_30 (by decide) (fun hc => ?_) (fun hc => ?_)
    · have hf := if_t hf hc
      refine lv_aload_n hx hb dX8_cleans_36 rfl (lv_at hl 0 rfl) ?_
      refine lv_aload_n hx hb dX8_cleans_37 rfl (lv_at hl 0 rfl) ?_
      refine gf_X8_s E hP w_797 dX8_cleans_38 ?_
      refine lv_bipush (v := 8) hx hb dX8_cleans_41 (by decide) ?_
      refine la_M1 E hP (by decide) dX8_cleans_43 ?_
      refine lv_iconst (v := 4) hx hb dX8_cleans_44 (by decide) ?_
      refine ob_e hf (fun r_45 M_45 hq hf => ?_)
      refine cv_X8_pn E hP hS hq w_867 ⟨Nat.le_of_ble_eq_true rfl, Nat.le_of_ble_eq_true rfl⟩ hl (Nat.le_of_ble_eq_true rfl) dX8_cleans_45 ⟨Nat.le_of_ble_eq_true rfl, Nat.le_of_ble_eq_true rfl⟩ (fun H locs hP hS => ?_)
      refine lv_istore_n (lv' := [(1, .int r_45), (0, .ref (adM G 0 0))]) hx hb dX8_cleans_48 rfl hl (by decide) rfl (fun ls hl => ?_)
      refine lv_aload_n hx hb dX8_cleans_49 rfl (lv_at hl 1 rfl) ?_
      refine lv_aload_n hx hb dX8_cleans_50 rfl (lv_at hl 1 rfl) ?_
      refine gf_X8_s E hP w_797 dX8_cleans_51 ?_
      refine lv_bipush (v := 6) hx hb dX8_cleans_54 (by decide) ?_
      refine la_M1 E hP (by decide) dX8_cleans_56 ?_
      refine ob_e hf (fun r_57 M_57 hq hf => ?_)
      refine cv_X8_passes E hP hS hq w_953 ⟨Nat.le_of_ble_eq_true rfl, Nat.le_of_ble_eq_true rfl⟩ hl (Nat.le_of_ble_eq_true rfl) dX8_cleans_57 ⟨Nat.le_of_ble_eq_true rfl, Nat.le_of_ble_eq_true rfl⟩ (fun H locs hP hS => ?_)
      refine lv_aload_n hx hb dX8_cleans_60 rfl (lv_at hl 1 rfl) ?_
      refine lv_aload_n hx hb dX8_cleans_61 rfl (lv_at hl 1 rfl) ?_
      refine gf_X8_s E hP w_797 dX8_cleans_62 ?_
      refine lv_bipush (v := 8) hx hb dX8_cleans_65 (by decide) ?_
      refine la_M1 E hP (by decide) dX8_cleans_67 ?_
      refine lv_iconst (v := 4) hx hb dX8_cleans_68 (by decide) ?_
      refine lv_iconst (v := 0) hx hb dX8_cleans_69 (by decide) ?_
      refine ob_e hf (fun r_70 M_70 hq hf => ?_)
      refine cv_X8_lays E hP hS hq w_873 ⟨Nat.le_of_ble_eq_true rfl, Nat.le_of_ble_eq_true rfl⟩ hl (Nat.le_of_ble_eq_true rfl) dX8_cleans_70 ⟨Nat.le_of_ble_eq_true rfl, Nat.le_of_ble_eq_true rfl⟩ (fun H locs hP hS => ?_)
      refine lv_iload_n hx hb dX8_cleans_73 rfl (lv_at hl 0 rfl) ?_
      exact en_i hf hx hb hr rfl hlocks hP hS dX8_cleans_74
    · have hf := if_f hf hc
      refine lv_ldc (v := (-1000003)) hx hb hown (hts _ w_872) dX8_cleans_33 ?_
      exact en_i hf hx hb hr rfl hlocks hP hS dX8_cleans_35
  · have hf := if_f hf hc
    refine lv_ldc (v := (-1000002)) hx hb hown (hts _ w_871) dX8_cleans_10 ?_
    exact en_i hf hx hb hr rfl hlocks hP hS dX8_cleans_12
theorem c_X8_cleans (l : Launch) {G : GG} {sz : Nat} {M : Mem} {r : Int32} {M' : Mem} (hf : f_X8_cleans M = some (r, M')) : CtI l yX8_cleans cX8_cleans 2 (some .int) rm_X8_cleans [.ref (adM G 0 0)] G (AM G) (XM G) sz M r (XM G) sz M' := by
  refine Ct_of (by decide) (Nat.le_of_ble_eq_true rfl) (fun p e s m below meth c ls hx hb hr hlocks hml hown hts hK hP hl => ?_)
  exact w_X8_cleans ⟨hx, hb, hr, hlocks, hml, hown, hts, hK⟩ hf hP va_S.rf hl
set_option maxRecDepth 100000 in
theorem cv_X8_cleans {p : Program} {l : Launch} {e : Env} {R : Room} {s : State} {m : MethodId} {args : Array Value} {below : List Frame} {meth : Method} {c : Code} {H : Heap} {locs : List Loc} {cells slots : Nat} {Q : State → Prop} {cc : ByteArray} {pc nL index : Nat} {ret : Option FieldType} {own : String} {ls : Array Slot} {rest : List Value} {l' : List (Nat × Value)} {G : GG} {sz : Nat} {M : Mem} (E : Cx p s m args meth c cc ret nL own G) (hP : PW G (AM G) (XM G) sz M s H) (hS : va_S (AM G) s.heap H locs) {r : Int32} {M' : Mem} (hq : f_X8_cleans M = some (r, M')) (w1 : Cond.methodLink own index yX8_cleans ∈ lw_all) (hR : 3 ≤ R.frames ∧ 65 ≤ R.locals) (hl : lv_has ls nL l') (hrest : (rest.map fun v => v.category).sum ≤ 8) (hdg : decode cc pc = .ok (.invokevirtual index, 3)) (hcs : cells ≤ R.cells ∧ slots ≤ R.slots)
    (kk : ∀ (H1 : Heap) (locs1 : List Loc), PW G (AM G) (XM G) sz M' s H1 → va_S (AM G) s.heap H1 locs1 → W p l e R s m args below meth c H1 locs1 cells slots Q (F0 m (pc + 3) ls (.int r :: rest))) : W p l e R s m args below meth c H locs cells slots Q (F0 m pc ls (.ref (adM G 0 0) :: rest)) := by
  obtain ⟨hx, hb, hr, hlocks, hml, hown, hts, hK⟩ := E
  exact kc_i (kc_runV (na := 0) (q := (RX8, TX8, 16)) hx hb hml hts hown hK hP 0 0 ⟨rfl, by decide⟩ rfl rfl rfl (c_X8_cleans l hq) w1 w_1028 ws_44 w_9 w_1029 (by decide +kernel) hR rfl hl rfl hrest hdg hcs) hS kk
/-! X8_clean -/
abbrev rm_X8_clean : Room := { frames := 3, cells := 0, slots := 0, locals := 65 }
def f_X8_clean (M : Mem) : Option (Int32 × Mem) :=
ob (f_X8_keeps M) fun _ M_1 =>
ob (f_X8_cleans M_1) fun r_6 M_6 =>
ob (f_X8_acted r_6 M_6) fun r_9 M_9 =>
some (r_9, M_9)
set_option maxHeartbeats 4000000 in
set_option maxRecDepth 100000 in
theorem w_X8_clean {p : Program} {l : Launch} {e : Env} {s : State} {m : MethodId} {args : Array Value} {below : List Frame} {meth : Method} {c : Code} {G : GG} {sz : Nat} {r : Int32} {M' : Mem} (E : Cx p s m args meth c cX8_clean (some .int) 1 RX8 G) {M : Mem} {H : Heap} {locs : List Loc} {ls : Array Slot} (hf : f_X8_clean M = some (r, M')) (hP : PW G (AM G) (XM G) sz M s H) (hS : va_S (AM G) s.heap H locs) (hl : lv_has ls 1 [(0, .ref (adM G 0 0))]) : W p l e rm_X8_clean s m args below meth c H locs 0 0 (MQ below (va_Qi (fun (r2 : Int32) (_ : Unit) => r2 = r) (fun _ t => PW G (AM G) (XM G) sz M' t t.heap) (AM G)) args s 0 0 (AM G)) (F0 m 0 ls []) := by
  obtain ⟨hx, hb, hr, hlocks, hml, hown, hts, hK⟩ := id E
  unfold f_X8_clean at hf
  refine lv_aload_n hx hb dX8_clean_0 rfl (lv_at hl 0 rfl) ?_
  refine ob_e hf (fun r_1 M_1 hq hf => ?_)
  refine cv_X8_keeps E hP hS hq w_855 ⟨Nat.le_of_ble_eq_true rfl, Nat.le_of_ble_eq_true rfl⟩ hl (Nat.le_of_ble_eq_true rfl) dX8_clean_1 ⟨Nat.le_of_ble_eq_true rfl, Nat.le_of_ble_eq_true rfl⟩ (fun H locs hP hS => ?_)
  refine lv_aload_n hx hb dX8_clean_4 rfl (lv_at hl 0 rfl) ?_
  refine lv_aload_n hx hb dX8_clean_5 rfl (lv_at hl 0 rfl) ?_
  refine ob_e hf (fun r_6 M_6 hq hf => ?_)
  refine cv_X8_cleans E hP hS hq w_1026 ⟨Nat.le_of_ble_eq_true rfl, Nat.le_of_ble_eq_true rfl⟩ hl (Nat.le_of_ble_eq_true rfl) dX8_clean_6 ⟨Nat.le_of_ble_eq_true rfl, Nat.le_of_ble_eq_true rfl⟩ (fun H locs hP hS => ?_)
  refine ob_e hf (fun r_9 M_9 hq hf => ?_)
  refine cv_X8_acted E hP hS hq w_859 ⟨Nat.le_of_ble_eq_true rfl, Nat.le_of_ble_eq_true rfl⟩ hl (Nat.le_of_ble_eq_true rfl) dX8_clean_9 ⟨Nat.le_of_ble_eq_true rfl, Nat.le_of_ble_eq_true rfl⟩ (fun H locs hP hS => ?_)
  exact en_i hf hx hb hr rfl hlocks hP hS dX8_clean_12
theorem c_X8_clean (l : Launch) {G : GG} {sz : Nat} {M : Mem} {r : Int32} {M' : Mem} (hf : f_X8_clean M = some (r, M')) : CtI l yX8_clean cX8_clean 1 (some .int) rm_X8_clean [.ref (adM G 0 0)] G (AM G) (XM G) sz M r (XM G) sz M' := by
  refine Ct_of (by decide) (Nat.le_of_ble_eq_true rfl) (fun p e s m below meth c ls hx hb hr hlocks hml hown hts hK hP hl => ?_)
  exact w_X8_clean ⟨hx, hb, hr, hlocks, hml, hown, hts, hK⟩ hf hP va_S.rf hl
set_option maxRecDepth 100000 in
theorem cv_X8_clean {p : Program} {l : Launch} {e : Env} {R : Room} {s : State} {m : MethodId} {args : Array Value} {below : List Frame} {meth : Method} {c : Code} {H : Heap} {locs : List Loc} {cells slots : Nat} {Q : State → Prop} {cc : ByteArray} {pc nL index : Nat} {ret : Option FieldType} {own : String} {ls : Array Slot} {rest : List Value} {l' : List (Nat × Value)} {G : GG} {sz : Nat} {M : Mem} (E : Cx p s m args meth c cc ret nL own G) (hP : PW G (AM G) (XM G) sz M s H) (hS : va_S (AM G) s.heap H locs) {r : Int32} {M' : Mem} (hq : f_X8_clean M = some (r, M')) (w1 : Cond.methodLink own index yX8_clean ∈ lw_all) (hR : 4 ≤ R.frames ∧ 85 ≤ R.locals) (hl : lv_has ls nL l') (hrest : (rest.map fun v => v.category).sum ≤ 8) (hdg : decode cc pc = .ok (.invokevirtual index, 3)) (hcs : cells ≤ R.cells ∧ slots ≤ R.slots)
    (kk : ∀ (H1 : Heap) (locs1 : List Loc), PW G (AM G) (XM G) sz M' s H1 → va_S (AM G) s.heap H1 locs1 → W p l e R s m args below meth c H1 locs1 cells slots Q (F0 m (pc + 3) ls (.int r :: rest))) : W p l e R s m args below meth c H locs cells slots Q (F0 m pc ls (.ref (adM G 0 0) :: rest)) := by
  obtain ⟨hx, hb, hr, hlocks, hml, hown, hts, hK⟩ := E
  exact kc_i (kc_runV (na := 0) (q := (RX8, TX8, 16)) hx hb hml hts hown hK hP 0 0 ⟨rfl, by decide⟩ rfl rfl rfl (c_X8_clean l hq) w1 w_1023 w_1024 w_9 w_1025 (by decide +kernel) hR rfl hl rfl hrest hdg hcs) hS kk
/-! X8_whyNot -/
abbrev rm_X8_whyNot : Room := { frames := 5, cells := 0, slots := 0, locals := 125 }
def f_X8_whyNot_b29 (s0 : Int32) (M : Mem) : Option (Int32 × Mem) :=
some (s0, M)
def f_X8_whyNot_b27 (M : Mem) : Option (Int32 × Mem) :=
f_X8_whyNot_b29 (-1000001) M
def f_X8_whyNot (x1 : Int32) (x2 : Int32) (M : Mem) : Option (Int32 × Mem) :=
ob (f_X8_isLine x1 M) fun r_2 M_2 =>
(if r_2 = 0 then
  f_X8_whyNot_b27 M_2
else
  ob (f_X8_in x2 0 1 M_2) fun r_11 M_11 =>
  (if r_11 = 0 then
    f_X8_whyNot_b27 M_11
  else
    ob (f_X8_why x1 x2 0 M_11) fun r_21 M_21 =>
    f_X8_whyNot_b29 r_21 M_21))
set_option maxHeartbeats 4000000 in
set_option maxRecDepth 100000 in
theorem w_X8_whyNot_b29 {p : Program} {l : Launch} {e : Env} {s : State} {m : MethodId} {args : Array Value} {below : List Frame} {meth : Method} {c : Code} {G : GG} {sz : Nat} {r : Int32} {M' : Mem} (E : Cx p s m args meth c cX8_whyNot (some .int) 3 RX8 G) {s0 : Int32} {M : Mem} {H : Heap} {locs : List Loc} {ls : Array Slot} (hf : f_X8_whyNot_b29 s0 M = some (r, M')) (hP : PW G (AM G) (XM G) sz M s H) (hS : va_S (AM G) s.heap H locs) (hl : lv_has ls 3 []) : W p l e rm_X8_whyNot s m args below meth c H locs 0 0 (MQ below (va_Qi (fun (r2 : Int32) (_ : Unit) => r2 = r) (fun _ t => PW G (AM G) (XM G) sz M' t t.heap) (AM G)) args s 0 0 (AM G)) (F0 m 29 ls [.int s0]) := by
  obtain ⟨hx, hb, hr, hlocks, hml, hown, hts, hK⟩ := id E
  unfold f_X8_whyNot_b29 at hf
  exact en_i hf hx hb hr rfl hlocks hP hS dX8_whyNot_29
set_option maxHeartbeats 4000000 in
set_option maxRecDepth 100000 in
theorem w_X8_whyNot_b27 {p : Program} {l : Launch} {e : Env} {s : State} {m : MethodId} {args : Array Value} {below : List Frame} {meth : Method} {c : Code} {G : GG} {sz : Nat} {r : Int32} {M' : Mem} (E : Cx p s m args meth c cX8_whyNot (some .int) 3 RX8 G) {M : Mem} {H : Heap} {locs : List Loc} {ls : Array Slot} (hf : f_X8_whyNot_b27 M = some (r, M')) (hP : PW G (AM G) (XM G) sz M s H) (hS : va_S (AM G) s.heap H locs) (hl : lv_has ls 3 []) : W p l e rm_X8_whyNot s m args below meth c H locs 0 0 (MQ below (va_Qi (fun (r2 : Int32) (_ : Unit) => r2 = r) (fun _ t => PW G (AM G) (XM G) sz M' t t.heap) (AM G)) args s 0 0 (AM G)) (F0 m 27 ls []) := by
  obtain ⟨hx, hb, hr, hlocks, hml, hown, hts, hK⟩ := id E
  unfold f_X8_whyNot_b27 at hf
  refine lv_ldc (v := (-1000001)) hx hb hown (hts _ w_854) dX8_whyNot_27 ?_
  exact w_X8_whyNot_b29 E hf hP hS (lv_sub hl [] rfl)
set_option maxHeartbeats 4000000 in
set_option maxRecDepth 100000 in
theorem w_X8_whyNot {p : Program} {l : Launch} {e : Env} {s : State} {m : MethodId} {args : Array Value} {below : List Frame} {meth : Method} {c : Code} {G : GG} {sz : Nat} {r : Int32} {M' : Mem} (E : Cx p s m args meth c cX8_whyNot (some .int) 3 RX8 G) {x1 : Int32} {x2 : Int32} {M : Mem} {H : Heap} {locs : List Loc} {ls : Array Slot} (hf : f_X8_whyNot x1 x2 M = some (r, M')) (hP : PW G (AM G) (XM G) sz M s H) (hS : va_S (AM G) s.heap H locs) (hl : lv_has ls 3 [(0, .ref (adM G 0 0)), (1, .int x1), (2, .int x2)]) : W p l e rm_X8_whyNot s m args below meth c H locs 0 0 (MQ below (va_Qi (fun (r2 : Int32) (_ : Unit) => r2 = r) (fun _ t => PW G (AM G) (XM G) sz M' t t.heap) (AM G)) args s 0 0 (AM G)) (F0 m 0 ls []) := by
  obtain ⟨hx, hb, hr, hlocks, hml, hown, hts, hK⟩ := id E
  unfold f_X8_whyNot at hf
  refine lv_aload_n hx hb dX8_whyNot_0 rfl (lv_at hl 0 rfl) ?_
  refine lv_iload_n hx hb dX8_whyNot_1 rfl (lv_at hl 1 rfl) ?_
  refine ob_e hf (fun r_2 M_2 hq hf => ?_)
  refine cv_X8_isLine E hP hS hq w_924 ⟨Nat.le_of_ble_eq_true rfl, Nat.le_of_ble_eq_true rfl⟩ hl (Nat.le_of_ble_eq_true rfl) dX8_whyNot_2 ⟨Nat.le_of_ble_eq_true rfl, Nat.le_of_ble_eq_true rfl⟩ (fun H locs hP hS => ?_)
  refine lv_if_eq (tgt := 27) hx hb dX8_whyNot_5 (by decide) (fun hc => ?_) (fun hc => ?_)
  · have hf := if_t hf hc
    exact w_X8_whyNot_b27 E hf hP hS (lv_sub hl [] rfl)
  · have hf := if_f hf hc
    refine lv_iload_n hx hb dX8_whyNot_8 rfl (lv_at hl 2 rfl) ?_
    refine lv_iconst (v := 0) hx hb dX8_whyNot_9 (by decide) ?_
    refine lv_iconst (v := 1) hx hb dX8_whyNot_10 (by decide) ?_
    refine ob_e hf (fun r_11 M_11 hq hf => ?_)
    refine cv_X8_in E hP hS hq w_851 ⟨Nat.le_of_ble_eq_true rfl, Nat.le_of_ble_eq_true rfl⟩ hl (Nat.le_of_ble_eq_true rfl) dX8_whyNot_11 ⟨Nat.le_of_ble_eq_true rfl, Nat.le_of_ble_eq_true rfl⟩ (fun H locs hP hS => ?_)
    refine lv_if_eq (tgt := 27) hx hb dX8_whyNot_14 (by decide) (fun hc => ?_) (fun hc => ?_)
    · have hf := if_t hf hc
      exact w_X8_whyNot_b27 E hf hP hS (lv_sub hl [] rfl)
    · have hf := if_f hf hc
      refine lv_aload_n hx hb dX8_whyNot_17 rfl (lv_at hl 0 rfl) ?_
      refine lv_iload_n hx hb dX8_whyNot_18 rfl (lv_at hl 1 rfl) ?_
      refine lv_iload_n hx hb dX8_whyNot_19 rfl (lv_at hl 2 rfl) ?_
      refine lv_iconst (v := 0) hx hb dX8_whyNot_20 (by decide) ?_
      refine ob_e hf (fun r_21 M_21 hq hf => ?_)
      refine cv_X8_why E hP hS hq w_973 ⟨Nat.le_of_ble_eq_true rfl, Nat.le_of_ble_eq_true rfl⟩ hl (Nat.le_of_ble_eq_true rfl) dX8_whyNot_21 ⟨Nat.le_of_ble_eq_true rfl, Nat.le_of_ble_eq_true rfl⟩ (fun H locs hP hS => ?_)
      refine lv_goto (tgt := 29) hx hb dX8_whyNot_24 (by decide) ?_
      exact w_X8_whyNot_b29 E hf hP hS (lv_sub hl [] rfl)
theorem c_X8_whyNot (l : Launch) {G : GG} {sz : Nat} {x1 : Int32} {x2 : Int32} {M : Mem} {r : Int32} {M' : Mem} (hf : f_X8_whyNot x1 x2 M = some (r, M')) : CtI l yX8_whyNot cX8_whyNot 3 (some .int) rm_X8_whyNot [.ref (adM G 0 0), .int x1, .int x2] G (AM G) (XM G) sz M r (XM G) sz M' := by
  refine Ct_of (by decide) (Nat.le_of_ble_eq_true rfl) (fun p e s m below meth c ls hx hb hr hlocks hml hown hts hK hP hl => ?_)
  exact w_X8_whyNot ⟨hx, hb, hr, hlocks, hml, hown, hts, hK⟩ hf hP va_S.rf hl
set_option maxRecDepth 100000 in
theorem cv_X8_whyNot {p : Program} {l : Launch} {e : Env} {R : Room} {s : State} {m : MethodId} {args : Array Value} {below : List Frame} {meth : Method} {c : Code} {H : Heap} {locs : List Loc} {cells slots : Nat} {Q : State → Prop} {cc : ByteArray} {pc nL index : Nat} {ret : Option FieldType} {own : String} {ls : Array Slot} {rest : List Value} {l' : List (Nat × Value)} {G : GG} {sz : Nat} {M : Mem} (E : Cx p s m args meth c cc ret nL own G) (hP : PW G (AM G) (XM G) sz M s H) (hS : va_S (AM G) s.heap H locs) {x1 : Int32} {x2 : Int32} {r : Int32} {M' : Mem} (hq : f_X8_whyNot x1 x2 M = some (r, M')) (w1 : Cond.methodLink own index yX8_whyNot ∈ lw_all) (hR : 6 ≤ R.frames ∧ 147 ≤ R.locals) (hl : lv_has ls nL l') (hrest : (rest.map fun v => v.category).sum ≤ 8) (hdg : decode cc pc = .ok (.invokevirtual index, 3)) (hcs : cells ≤ R.cells ∧ slots ≤ R.slots)
    (kk : ∀ (H1 : Heap) (locs1 : List Loc), PW G (AM G) (XM G) sz M' s H1 → va_S (AM G) s.heap H1 locs1 → W p l e R s m args below meth c H1 locs1 cells slots Q (F0 m (pc + 3) ls (.int r :: rest))) : W p l e R s m args below meth c H locs cells slots Q (F0 m pc ls (.int x2 :: .int x1 :: .ref (adM G 0 0) :: rest)) := by
  obtain ⟨hx, hb, hr, hlocks, hml, hown, hts, hK⟩ := E
  exact kc_i (kc_runV (na := 2) (q := (RX8, TX8, 16)) hx hb hml hts hown hK hP 0 0 ⟨rfl, by decide⟩ rfl rfl rfl (c_X8_whyNot l hq) w1 w_1031 w_1032 w_9 w_1033 (by decide +kernel) hR rfl hl rfl hrest hdg hcs) hS kk
/-! X8_waitFor -/
abbrev rm_X8_waitFor : Room := { frames := 5, cells := 0, slots := 0, locals := 125 }
def f_X8_waitFor_b17 (M : Mem) : Option (Int32 × Mem) :=
some ((-1000001), M)
def f_X8_waitFor_b22 : Nat → Int32 → Int32 → Int32 → Mem → Option (Int32 × Mem)
  | 0 => fun _ _ _ _ => none
  | fu + 1 => fun x1 x2 x3 M =>
(if 200 < x3 then
  some ((-1000004), M)
else
  ob (f_X8_why x1 x2 x3 M) fun r_33 M_33 =>
  (if r_33 = 0 then
    some (x3, M_33)
  else
    lt (x3 + 1) fun x3_41 =>
    f_X8_waitFor_b22 fu x1 x2 x3_41 M_33))
def f_X8_waitFor (x1 : Int32) (x2 : Int32) (M : Mem) : Option (Int32 × Mem) :=
ob (f_X8_isLine x1 M) fun r_2 M_2 =>
(if r_2 = 0 then
  f_X8_waitFor_b17 M_2
else
  ob (f_X8_in x2 0 1 M_2) fun r_11 M_11 =>
  (if r_11 = 0 then
    f_X8_waitFor_b17 M_11
  else
    f_X8_waitFor_b22 1000 x1 x2 0 M_11))
set_option maxHeartbeats 4000000 in
set_option maxRecDepth 100000 in
theorem w_X8_waitFor_b17 {p : Program} {l : Launch} {e : Env} {s : State} {m : MethodId} {args : Array Value} {below : List Frame} {meth : Method} {c : Code} {G : GG} {sz : Nat} {r : Int32} {M' : Mem} (E : Cx p s m args meth c cX8_waitFor (some .int) 4 RX8 G) {M : Mem} {H : Heap} {locs : List Loc} {ls : Array Slot} (hf : f_X8_waitFor_b17 M = some (r, M')) (hP : PW G (AM G) (XM G) sz M s H) (hS : va_S (AM G) s.heap H locs) (hl : lv_has ls 4 []) : W p l e rm_X8_waitFor s m args below meth c H locs 0 0 (MQ below (va_Qi (fun (r2 : Int32) (_ : Unit) => r2 = r) (fun _ t => PW G (AM G) (XM G) sz M' t t.heap) (AM G)) args s 0 0 (AM G)) (F0 m 17 ls []) := by
  obtain ⟨hx, hb, hr, hlocks, hml, hown, hts, hK⟩ := id E
  unfold f_X8_waitFor_b17 at hf
  refine lv_ldc (v := (-1000001)) hx hb hown (hts _ w_854) dX8_waitFor_17 ?_
  exact en_i hf hx hb hr rfl hlocks hP hS dX8_waitFor_19
set_option maxHeartbeats 4000000 in
set_option maxRecDepth 100000 in
theorem w_X8_waitFor_b22 {p : Program} {l : Launch} {e : Env} {s : State} {m : MethodId} {args : Array Value} {below : List Frame} {meth : Method} {c : Code} {G : GG} {sz : Nat} {r : Int32} {M' : Mem} (E : Cx p s m args meth c cX8_waitFor (some .int) 4 RX8 G) : ∀ fu : Nat, ∀ (x1 : Int32) (x2 : Int32) (x3 : Int32) (M : Mem) (H : Heap) (locs : List Loc) (ls : Array Slot), f_X8_waitFor_b22 fu x1 x2 x3 M = some (r, M') → PW G (AM G) (XM G) sz M s H → va_S (AM G) s.heap H locs → lv_has ls 4 [(0, .ref (adM G 0 0)), (1, .int x1), (2, .int x2), (3, .int x3)] → W p l e rm_X8_waitFor s m args below meth c H locs 0 0 (MQ below (va_Qi (fun (r2 : Int32) (_ : Unit) => r2 = r) (fun _ t => PW G (AM G) (XM G) sz M' t t.heap) (AM G)) args s 0 0 (AM G)) (F0 m 22 ls []) := by
  obtain ⟨hx, hb, hr, hlocks, hml, hown, hts, hK⟩ := id E
  intro fu
  induction fu with
  | zero => intro x1 x2 x3 M H locs ls hf hP hS hl; cases hf
  | succ fu ih =>
    intro x1 x2 x3 M H locs ls hf hP hS hl
    rw [f_X8_waitFor_b22.eq_2] at hf
    refine lv_iload_n hx hb dX8_waitFor_22 rfl (lv_at hl 3 rfl) ?_
    refine lv_sipush (v := 200) hx hb dX8_waitFor_23 (by decide) ?_
    refine lv_icmp_gt (tgt := 47) hx hb dX8_waitFor_26 (by decide) (fun hc => ?_) (fun hc => ?_)
    · have hf := if_t hf hc
      refine lv_ldc (v := (-1000004)) hx hb hown (hts _ w_939) dX8_waitFor_47 ?_
      exact en_i hf hx hb hr rfl hlocks hP hS dX8_waitFor_49
    · have hf := if_f hf hc
      refine lv_aload_n hx hb dX8_waitFor_29 rfl (lv_at hl 0 rfl) ?_
      refine lv_iload_n hx hb dX8_waitFor_30 rfl (lv_at hl 1 rfl) ?_
      refine lv_iload_n hx hb dX8_waitFor_31 rfl (lv_at hl 2 rfl) ?_
      refine lv_iload_n hx hb dX8_waitFor_32 rfl (lv_at hl 3 rfl) ?_
      refine ob_e hf (fun r_33 M_33 hq hf => ?_)
      refine cv_X8_why E hP hS hq w_973 ⟨Nat.le_of_ble_eq_true rfl, Nat.le_of_ble_eq_true rfl⟩ hl (Nat.le_of_ble_eq_true rfl) dX8_waitFor_33 ⟨Nat.le_of_ble_eq_true rfl, Nat.le_of_ble_eq_true rfl⟩ (fun H locs hP hS => ?_)
      refine lv_if_ne (tgt := 41) hx hb dX8_waitFor_36 (by decide) (fun hc => ?_) (fun hc => ?_)
      · have hf := if_f hf hc
        refine lt_e hf (fun x3_41 hx3_41 hf => ?_)
        refine lv_iinc (v := x3_41) (lv' := [(3, .int x3_41), (0, .ref (adM G 0 0)), (1, .int x1), (2, .int x2)]) hx hb dX8_waitFor_41 hl (k := 3) rfl (by rw [hx3_41]; rfl) (by decide) rfl (fun ls hl => ?_)
        refine lv_goto (tgt := 22) hx hb dX8_waitFor_44 (by decide) ?_
        exact ih _ _ _ _ _ _ _ hf hP hS (lv_sub hl [1, 2, 3, 0] rfl)
      · have hf := if_t hf hc
        refine lv_iload_n hx hb dX8_waitFor_39 rfl (lv_at hl 3 rfl) ?_
        exact en_i hf hx hb hr rfl hlocks hP hS dX8_waitFor_40
set_option maxHeartbeats 4000000 in
set_option maxRecDepth 100000 in
theorem w_X8_waitFor {p : Program} {l : Launch} {e : Env} {s : State} {m : MethodId} {args : Array Value} {below : List Frame} {meth : Method} {c : Code} {G : GG} {sz : Nat} {r : Int32} {M' : Mem} (E : Cx p s m args meth c cX8_waitFor (some .int) 4 RX8 G) {x1 : Int32} {x2 : Int32} {M : Mem} {H : Heap} {locs : List Loc} {ls : Array Slot} (hf : f_X8_waitFor x1 x2 M = some (r, M')) (hP : PW G (AM G) (XM G) sz M s H) (hS : va_S (AM G) s.heap H locs) (hl : lv_has ls 4 [(0, .ref (adM G 0 0)), (1, .int x1), (2, .int x2)]) : W p l e rm_X8_waitFor s m args below meth c H locs 0 0 (MQ below (va_Qi (fun (r2 : Int32) (_ : Unit) => r2 = r) (fun _ t => PW G (AM G) (XM G) sz M' t t.heap) (AM G)) args s 0 0 (AM G)) (F0 m 0 ls []) := by
  obtain ⟨hx, hb, hr, hlocks, hml, hown, hts, hK⟩ := id E
  unfold f_X8_waitFor at hf
  refine lv_aload_n hx hb dX8_waitFor_0 rfl (lv_at hl 0 rfl) ?_
  refine lv_iload_n hx hb dX8_waitFor_1 rfl (lv_at hl 1 rfl) ?_
  refine ob_e hf (fun r_2 M_2 hq hf => ?_)
  refine cv_X8_isLine E hP hS hq w_924 ⟨Nat.le_of_ble_eq_true rfl, Nat.le_of_ble_eq_true rfl⟩ hl (Nat.le_of_ble_eq_true rfl) dX8_waitFor_2 ⟨Nat.le_of_ble_eq_true rfl, Nat.le_of_ble_eq_true rfl⟩ (fun H locs hP hS => ?_)
  refine lv_if_eq (tgt := 17) hx hb dX8_waitFor_5 (by decide) (fun hc => ?_) (fun hc => ?_)
  · have hf := if_t hf hc
    exact w_X8_waitFor_b17 E hf hP hS (lv_sub hl [] rfl)
  · have hf := if_f hf hc
    refine lv_iload_n hx hb dX8_waitFor_8 rfl (lv_at hl 2 rfl) ?_
    refine lv_iconst (v := 0) hx hb dX8_waitFor_9 (by decide) ?_
    refine lv_iconst (v := 1) hx hb dX8_waitFor_10 (by decide) ?_
    refine ob_e hf (fun r_11 M_11 hq hf => ?_)
    refine cv_X8_in E hP hS hq w_851 ⟨Nat.le_of_ble_eq_true rfl, Nat.le_of_ble_eq_true rfl⟩ hl (Nat.le_of_ble_eq_true rfl) dX8_waitFor_11 ⟨Nat.le_of_ble_eq_true rfl, Nat.le_of_ble_eq_true rfl⟩ (fun H locs hP hS => ?_)
    refine lv_if_ne (tgt := 20) hx hb dX8_waitFor_14 (by decide) (fun hc => ?_) (fun hc => ?_)
    · have hf := if_f hf hc
      refine lv_iconst (v := 0) hx hb dX8_waitFor_20 (by decide) ?_
      refine lv_istore_n (lv' := [(3, .int 0), (0, .ref (adM G 0 0)), (1, .int x1), (2, .int x2)]) hx hb dX8_waitFor_21 rfl hl (by decide) rfl (fun ls hl => ?_)
      exact w_X8_waitFor_b22 E 1000 _ _ _ _ _ _ _ hf hP hS (lv_sub hl [1, 2, 3, 0] rfl)
    · have hf := if_t hf hc
      exact w_X8_waitFor_b17 E hf hP hS (lv_sub hl [] rfl)
theorem c_X8_waitFor (l : Launch) {G : GG} {sz : Nat} {x1 : Int32} {x2 : Int32} {M : Mem} {r : Int32} {M' : Mem} (hf : f_X8_waitFor x1 x2 M = some (r, M')) : CtI l yX8_waitFor cX8_waitFor 4 (some .int) rm_X8_waitFor [.ref (adM G 0 0), .int x1, .int x2] G (AM G) (XM G) sz M r (XM G) sz M' := by
  refine Ct_of (by decide) (Nat.le_of_ble_eq_true rfl) (fun p e s m below meth c ls hx hb hr hlocks hml hown hts hK hP hl => ?_)
  exact w_X8_waitFor ⟨hx, hb, hr, hlocks, hml, hown, hts, hK⟩ hf hP va_S.rf hl
set_option maxRecDepth 100000 in
theorem cv_X8_waitFor {p : Program} {l : Launch} {e : Env} {R : Room} {s : State} {m : MethodId} {args : Array Value} {below : List Frame} {meth : Method} {c : Code} {H : Heap} {locs : List Loc} {cells slots : Nat} {Q : State → Prop} {cc : ByteArray} {pc nL index : Nat} {ret : Option FieldType} {own : String} {ls : Array Slot} {rest : List Value} {l' : List (Nat × Value)} {G : GG} {sz : Nat} {M : Mem} (E : Cx p s m args meth c cc ret nL own G) (hP : PW G (AM G) (XM G) sz M s H) (hS : va_S (AM G) s.heap H locs) {x1 : Int32} {x2 : Int32} {r : Int32} {M' : Mem} (hq : f_X8_waitFor x1 x2 M = some (r, M')) (w1 : Cond.methodLink own index yX8_waitFor ∈ lw_all) (hR : 6 ≤ R.frames ∧ 148 ≤ R.locals) (hl : lv_has ls nL l') (hrest : (rest.map fun v => v.category).sum ≤ 8) (hdg : decode cc pc = .ok (.invokevirtual index, 3)) (hcs : cells ≤ R.cells ∧ slots ≤ R.slots)
    (kk : ∀ (H1 : Heap) (locs1 : List Loc), PW G (AM G) (XM G) sz M' s H1 → va_S (AM G) s.heap H1 locs1 → W p l e R s m args below meth c H1 locs1 cells slots Q (F0 m (pc + 3) ls (.int r :: rest))) : W p l e R s m args below meth c H locs cells slots Q (F0 m pc ls (.int x2 :: .int x1 :: .ref (adM G 0 0) :: rest)) := by
  obtain ⟨hx, hb, hr, hlocks, hml, hown, hts, hK⟩ := E
  exact kc_i (kc_runV (na := 2) (q := (RX8, TX8, 16)) hx hb hml hts hown hK hP 0 0 ⟨rfl, by decide⟩ rfl rfl rfl (c_X8_waitFor l hq) w1 w_1035 w_1036 w_9 w_1037 (by decide +kernel) hR rfl hl rfl hrest hdg hcs) hS kk
/-! X8_strikers -/
abbrev rm_X8_strikers : Room := { frames := 3, cells := 0, slots := 0, locals := 67 }
def f_X8_strikers_b30 (L4 : Int32 → Int32 → Mem → Option (Int32 × Mem)) (x2 : Int32) (s0 : Int32) (s1 : Int32) (M : Mem) : Option (Int32 × Mem) :=
lt ((s0 ||| s1)) fun x1_31 =>
lt (x2 + 1) fun x2_32 =>
L4 x1_31 x2_32 M
def f_X8_strikers_b4 : Nat → Int32 → Int32 → Mem → Option (Int32 × Mem)
  | 0 => fun _ _ _ => none
  | fu + 1 => fun x1 x2 M =>
(if (M 0 1 (ix 0)) ≤ x2 then
  some (x1, M)
else
  ob (f_X8_strikes x2 M) fun r_17 M_17 =>
  (if r_17 = 0 then
    f_X8_strikers_b30 (f_X8_strikers_b4 fu) x2 x1 0 M_17
  else
    f_X8_strikers_b30 (f_X8_strikers_b4 fu) x2 x1 ((1 <<< (x2 &&& 31))) M_17))
def f_X8_strikers (M : Mem) : Option (Int32 × Mem) :=
f_X8_strikers_b4 1000 0 0 M
set_option maxHeartbeats 4000000 in
set_option maxRecDepth 100000 in
theorem w_X8_strikers_b30 {p : Program} {l : Launch} {e : Env} {s : State} {m : MethodId} {args : Array Value} {below : List Frame} {meth : Method} {c : Code} {G : GG} {sz : Nat} {r : Int32} {M' : Mem} (E : Cx p s m args meth c cX8_strikers (some .int) 3 RX8 G) {L4 : Int32 → Int32 → Mem → Option (Int32 × Mem)} (hL4 : ∀ (x1 : Int32) (x2 : Int32) (M : Mem) (H : Heap) (locs : List Loc) (ls : Array Slot), L4 x1 x2 M = some (r, M') → PW G (AM G) (XM G) sz M s H → va_S (AM G) s.heap H locs → lv_has ls 3 [(0, .ref (adM G 0 0)), (1, .int x1), (2, .int x2)] → W p l e rm_X8_strikers s m args below meth c H locs 0 0 (MQ below (va_Qi (fun (r2 : Int32) (_ : Unit) => r2 = r) (fun _ t => PW G (AM G) (XM G) sz M' t t.heap) (AM G)) args s 0 0 (AM G)) (F0 m 4 ls [])) {x2 : Int32} {s0 : Int32} {s1 : Int32} {M : Mem} {H : Heap} {locs : List Loc} {ls : Array Slot} (hf : f_X8_strikers_b30 L4 x2 s0 s1 M = some (r, M')) (hP : PW G (AM G) (XM G) sz M s H) (hS : va_S (AM G) s.heap H locs) (hl : lv_has ls 3 [(0, .ref (adM G 0 0)), (2, .int x2)]) : W p l e rm_X8_strikers s m args below meth c H locs 0 0 (MQ below (va_Qi (fun (r2 : Int32) (_ : Unit) => r2 = r) (fun _ t => PW G (AM G) (XM G) sz M' t t.heap) (AM G)) args s 0 0 (AM G)) (F0 m 30 ls [.int s1, .int s0]) := by
  obtain ⟨hx, hb, hr, hlocks, hml, hown, hts, hK⟩ := id E
  unfold f_X8_strikers_b30 at hf
  refine lv_ior hx hb dX8_strikers_30 ?_
  refine lt_e hf (fun x1_31 hx1_31 hf => ?_)
  refine kr_nm hx1_31 ?_
  refine lv_istore_n (lv' := [(1, .int x1_31), (0, .ref (adM G 0 0)), (2, .int x2)]) hx hb dX8_strikers_31 rfl hl (by decide) rfl (fun ls hl => ?_)
  refine lt_e hf (fun x2_32 hx2_32 hf => ?_)
  refine lv_iinc (v := x2_32) (lv' := [(2, .int x2_32), (1, .int x1_31), (0, .ref (adM G 0 0))]) hx hb dX8_strikers_32 hl (k := 2) rfl (by rw [hx2_32]; rfl) (by decide) rfl (fun ls hl => ?_)
  refine lv_goto (tgt := 4) hx hb dX8_strikers_35 (by decide) ?_
  exact hL4 _ _ _ _ _ _ hf hP hS (lv_sub hl [2, 1, 0] rfl)
set_option maxHeartbeats 4000000 in
set_option maxRecDepth 100000 in
theorem w_X8_strikers_b4 {p : Program} {l : Launch} {e : Env} {s : State} {m : MethodId} {args : Array Value} {below : List Frame} {meth : Method} {c : Code} {G : GG} {sz : Nat} {r : Int32} {M' : Mem} (E : Cx p s m args meth c cX8_strikers (some .int) 3 RX8 G) : ∀ fu : Nat, ∀ (x1 : Int32) (x2 : Int32) (M : Mem) (H : Heap) (locs : List Loc) (ls : Array Slot), f_X8_strikers_b4 fu x1 x2 M = some (r, M') → PW G (AM G) (XM G) sz M s H → va_S (AM G) s.heap H locs → lv_has ls 3 [(0, .ref (adM G 0 0)), (1, .int x1), (2, .int x2)] → W p l e rm_X8_strikers s m args below meth c H locs 0 0 (MQ below (va_Qi (fun (r2 : Int32) (_ : Unit) => r2 = r) (fun _ t => PW G (AM G) (XM G) sz M' t t.heap) (AM G)) args s 0 0 (AM G)) (F0 m 4 ls []) := by
  obtain ⟨hx, hb, hr, hlocks, hml, hown, hts, hK⟩ := id E
  intro fu
  induction fu with
  | zero => intro x1 x2 M H locs ls hf hP hS hl; cases hf
  | succ fu ih =>
    intro x1 x2 M H locs ls hf hP hS hl
    rw [f_X8_strikers_b4.eq_2] at hf
    refine lv_iload_n hx hb dX8_strikers_4 rfl (lv_at hl 2 rfl) ?_
    refine lv_aload_n hx hb dX8_strikers_5 rfl (lv_at hl 0 rfl) ?_
    refine gf_X8_s E hP w_797 dX8_strikers_6 ?_
    refine lv_iconst (v := 0) hx hb dX8_strikers_9 (by decide) ?_
    refine la_M1 E hP (by decide) dX8_strikers_10 ?_
    refine lv_icmp_ge (tgt := 38) hx hb dX8_strikers_11 (by decide) (fun hc => ?_) (fun hc => ?_)
    · have hf := if_t hf hc
      refine lv_iload_n hx hb dX8_strikers_38 rfl (lv_at hl 1 rfl) ?_
      exact en_i hf hx hb hr rfl hlocks hP hS dX8_strikers_39
    · have hf := if_f hf hc
      refine lv_iload_n hx hb dX8_strikers_14 rfl (lv_at hl 1 rfl) ?_
      refine lv_aload_n hx hb dX8_strikers_15 rfl (lv_at hl 0 rfl) ?_
      refine lv_iload_n hx hb dX8_strikers_16 rfl (lv_at hl 2 rfl) ?_
      refine ob_e hf (fun r_17 M_17 hq hf => ?_)
      refine cv_X8_strikes E hP hS hq w_904 ⟨Nat.le_of_ble_eq_true rfl, Nat.le_of_ble_eq_true rfl⟩ hl (Nat.le_of_ble_eq_true rfl) dX8_strikers_17 ⟨Nat.le_of_ble_eq_true rfl, Nat.le_of_ble_eq_true rfl⟩ (fun H locs hP hS => ?_)
      refine lv_if_eq (tgt := 29) hx hb dX8_strikers_20 (by decide) (fun hc => ?_) (fun hc => ?_)
      · have hf := if_t hf hc
        refine lv_iconst (v := 0) hx hb dX8_strikers_29 (by decide) ?_
        exact w_X8_strikers_b30 E ih hf hP hS (lv_sub hl [0, 2] rfl)
      · have hf := if_f hf hc
        refine lv_iconst (v := 1) hx hb dX8_strikers_23 (by decide) ?_
        refine lv_iload_n hx hb dX8_strikers_24 rfl (lv_at hl 2 rfl) ?_
        refine lv_ishl hx hb dX8_strikers_25 ?_
        refine lv_goto (tgt := 30) hx hb dX8_strikers_26 (by decide) ?_
        exact w_X8_strikers_b30 E ih hf hP hS (lv_sub hl [0, 2] rfl)
set_option maxHeartbeats 4000000 in
set_option maxRecDepth 100000 in
theorem w_X8_strikers {p : Program} {l : Launch} {e : Env} {s : State} {m : MethodId} {args : Array Value} {below : List Frame} {meth : Method} {c : Code} {G : GG} {sz : Nat} {r : Int32} {M' : Mem} (E : Cx p s m args meth c cX8_strikers (some .int) 3 RX8 G) {M : Mem} {H : Heap} {locs : List Loc} {ls : Array Slot} (hf : f_X8_strikers M = some (r, M')) (hP : PW G (AM G) (XM G) sz M s H) (hS : va_S (AM G) s.heap H locs) (hl : lv_has ls 3 [(0, .ref (adM G 0 0))]) : W p l e rm_X8_strikers s m args below meth c H locs 0 0 (MQ below (va_Qi (fun (r2 : Int32) (_ : Unit) => r2 = r) (fun _ t => PW G (AM G) (XM G) sz M' t t.heap) (AM G)) args s 0 0 (AM G)) (F0 m 0 ls []) := by
  obtain ⟨hx, hb, hr, hlocks, hml, hown, hts, hK⟩ := id E
  unfold f_X8_strikers at hf
  refine lv_iconst (v := 0) hx hb dX8_strikers_0 (by decide) ?_
  refine lv_istore_n (lv' := [(1, .int 0), (0, .ref (adM G 0 0))]) hx hb dX8_strikers_1 rfl hl (by decide) rfl (fun ls hl => ?_)
  refine lv_iconst (v := 0) hx hb dX8_strikers_2 (by decide) ?_
  refine lv_istore_n (lv' := [(2, .int 0), (1, .int 0), (0, .ref (adM G 0 0))]) hx hb dX8_strikers_3 rfl hl (by decide) rfl (fun ls hl => ?_)
  exact w_X8_strikers_b4 E 1000 _ _ _ _ _ _ hf hP hS (lv_sub hl [2, 1, 0] rfl)
theorem c_X8_strikers (l : Launch) {G : GG} {sz : Nat} {M : Mem} {r : Int32} {M' : Mem} (hf : f_X8_strikers M = some (r, M')) : CtI l yX8_strikers cX8_strikers 3 (some .int) rm_X8_strikers [.ref (adM G 0 0)] G (AM G) (XM G) sz M r (XM G) sz M' := by
  refine Ct_of (by decide) (Nat.le_of_ble_eq_true rfl) (fun p e s m below meth c ls hx hb hr hlocks hml hown hts hK hP hl => ?_)
  exact w_X8_strikers ⟨hx, hb, hr, hlocks, hml, hown, hts, hK⟩ hf hP va_S.rf hl
set_option maxRecDepth 100000 in
theorem cv_X8_strikers {p : Program} {l : Launch} {e : Env} {R : Room} {s : State} {m : MethodId} {args : Array Value} {below : List Frame} {meth : Method} {c : Code} {H : Heap} {locs : List Loc} {cells slots : Nat} {Q : State → Prop} {cc : ByteArray} {pc nL index : Nat} {ret : Option FieldType} {own : String} {ls : Array Slot} {rest : List Value} {l' : List (Nat × Value)} {G : GG} {sz : Nat} {M : Mem} (E : Cx p s m args meth c cc ret nL own G) (hP : PW G (AM G) (XM G) sz M s H) (hS : va_S (AM G) s.heap H locs) {r : Int32} {M' : Mem} (hq : f_X8_strikers M = some (r, M')) (w1 : Cond.methodLink own index yX8_strikers ∈ lw_all) (hR : 4 ≤ R.frames ∧ 89 ≤ R.locals) (hl : lv_has ls nL l') (hrest : (rest.map fun v => v.category).sum ≤ 8) (hdg : decode cc pc = .ok (.invokevirtual index, 3)) (hcs : cells ≤ R.cells ∧ slots ≤ R.slots)
    (kk : ∀ (H1 : Heap) (locs1 : List Loc), PW G (AM G) (XM G) sz M' s H1 → va_S (AM G) s.heap H1 locs1 → W p l e R s m args below meth c H1 locs1 cells slots Q (F0 m (pc + 3) ls (.int r :: rest))) : W p l e R s m args below meth c H locs cells slots Q (F0 m pc ls (.ref (adM G 0 0) :: rest)) := by
  obtain ⟨hx, hb, hr, hlocks, hml, hown, hts, hK⟩ := E
  exact kc_i (kc_runV (na := 0) (q := (RX8, TX8, 16)) hx hb hml hts hown hK hP 0 0 ⟨rfl, by decide⟩ rfl rfl rfl (c_X8_strikers l hq) w1 w_1039 w_1040 w_9 w_1041 (by decide +kernel) hR rfl hl rfl hrest hdg hcs) hS kk
/-! X8_room -/
abbrev rm_X8_room : Room := { frames := 2, cells := 0, slots := 0, locals := 46 }
def f_X8_room_b55 (s0 : Int32) (M : Mem) : Option (Int32 × Mem) :=
some (s0, M)
def f_X8_room (x1 : Int32) (M : Mem) : Option (Int32 × Mem) :=
ob (f_X8_isPen x1 M) fun r_2 M_2 =>
(if r_2 = 0 then
  some ((-1000001), M_2)
else
  ob (f_X8_pn x1 6 M_2) fun r_15 M_15 =>
  (if r_15 = 1 then
    some ((-1000002), M_15)
  else
    ob (f_X8_least x1 M_15) fun r_27 M_27 =>
    (if 0 ≤ r_27 then
      ob (f_X8_pn x1 3 M_27) fun r_51 M_51 =>
      f_X8_room_b55 (((r_27 + (M_27 0 1 (ix 2))) - r_51)) M_51
    else
      f_X8_room_b55 (-1000004) M_27)))
set_option maxHeartbeats 4000000 in
set_option maxRecDepth 100000 in
theorem w_X8_room_b55 {p : Program} {l : Launch} {e : Env} {s : State} {m : MethodId} {args : Array Value} {below : List Frame} {meth : Method} {c : Code} {G : GG} {sz : Nat} {r : Int32} {M' : Mem} (E : Cx p s m args meth c cX8_room (some .int) 3 RX8 G) {s0 : Int32} {M : Mem} {H : Heap} {locs : List Loc} {ls : Array Slot} (hf : f_X8_room_b55 s0 M = some (r, M')) (hP : PW G (AM G) (XM G) sz M s H) (hS : va_S (AM G) s.heap H locs) (hl : lv_has ls 3 []) : W p l e rm_X8_room s m args below meth c H locs 0 0 (MQ below (va_Qi (fun (r2 : Int32) (_ : Unit) => r2 = r) (fun _ t => PW G (AM G) (XM G) sz M' t t.heap) (AM G)) args s 0 0 (AM G)) (F0 m 55 ls [.int s0]) := by
  obtain ⟨hx, hb, hr, hlocks, hml, hown, hts, hK⟩ := id E
  unfold f_X8_room_b55 at hf
  exact en_i hf hx hb hr rfl hlocks hP hS dX8_room_55
set_option maxHeartbeats 4000000 in
set_option maxRecDepth 100000 in
theorem w_X8_room {p : Program} {l : Launch} {e : Env} {s : State} {m : MethodId} {args : Array Value} {below : List Frame} {meth : Method} {c : Code} {G : GG} {sz : Nat} {r : Int32} {M' : Mem} (E : Cx p s m args meth c cX8_room (some .int) 3 RX8 G) {x1 : Int32} {M : Mem} {H : Heap} {locs : List Loc} {ls : Array Slot} (hf : f_X8_room x1 M = some (r, M')) (hP : PW G (AM G) (XM G) sz M s H) (hS : va_S (AM G) s.heap H locs) (hl : lv_has ls 3 [(0, .ref (adM G 0 0)), (1, .int x1)]) : W p l e rm_X8_room s m args below meth c H locs 0 0 (MQ below (va_Qi (fun (r2 : Int32) (_ : Unit) => r2 = r) (fun _ t => PW G (AM G) (XM G) sz M' t t.heap) (AM G)) args s 0 0 (AM G)) (F0 m 0 ls []) := by
  obtain ⟨hx, hb, hr, hlocks, hml, hown, hts, hK⟩ := id E
  unfold f_X8_room at hf
  refine lv_aload_n hx hb dX8_room_0 rfl (lv_at hl 0 rfl) ?_
  refine lv_iload_n hx hb dX8_room_1 rfl (lv_at hl 1 rfl) ?_
  refine ob_e hf (fun r_2 M_2 hq hf => ?_)
  refine cv_X8_isPen E hP hS hq w_888 ⟨Nat.le_of_ble_eq_true rfl, Nat.le_of_ble_eq_true rfl⟩ hl (Nat.le_of_ble_eq_true rfl) dX8_room_2 ⟨Nat.le_of_ble_eq_true rfl, Nat.le_of_ble_eq_true rfl⟩ (fun H locs hP hS => ?_)
  refine lv_if_ne (tgt := 11) hx hb dX8_room_5 (by decide) (fun hc => ?_) (fun hc => ?_)
  · have hf := if_f hf hc
    refine lv_aload_n hx hb dX8_room_11 rfl (lv_at hl 0 rfl) ?_
    refine lv_iload_n hx hb dX8_room_12 rfl (lv_at hl 1 rfl) ?_
    refine lv_bipush (v := 6) hx hb dX8_room_13 (by decide) ?_
    refine ob_e hf (fun r_15 M_15 hq hf => ?_)
    refine cv_X8_pn E hP hS hq w_867 ⟨Nat.le_of_ble_eq_true rfl, Nat.le_of_ble_eq_true rfl⟩ hl (Nat.le_of_ble_eq_true rfl) dX8_room_15 ⟨Nat.le_of_ble_eq_true rfl, Nat.le_of_ble_eq_true rfl⟩ (fun H locs hP hS => ?_)
    refine lv_iconst (v := 1) hx hb dX8_room_18 (by decide) ?_
    refine lv_icmp_ne (tgt := 25) hx hb dX8_room_19 (by decide) (fun hc => ?_) (fun hc => ?_)
    · have hf := if_f hf hc
      refine lv_aload_n hx hb dX8_room_25 rfl (lv_at hl 0 rfl) ?_
      refine lv_iload_n hx hb dX8_room_26 rfl (lv_at hl 1 rfl) ?_
      refine ob_e hf (fun r_27 M_27 hq hf => ?_)
      refine cv_X8_least E hP hS hq w_908 ⟨Nat.le_of_ble_eq_true rfl, Nat.le_of_ble_eq_true rfl⟩ hl (Nat.le_of_ble_eq_true rfl) dX8_room_27 ⟨Nat.le_of_ble_eq_true rfl, Nat.le_of_ble_eq_true rfl⟩ (fun H locs hP hS => ?_)
      refine lv_istore_n (lv' := [(2, .int r_27), (0, .ref (adM G 0 0)), (1, .int x1)]) hx hb dX8_room_30 rfl hl (by decide) rfl (fun ls hl => ?_)
      refine lv_iload_n hx hb dX8_room_31 rfl (lv_at hl 0 rfl) ?_
      refine lv_if_ge (tgt := 40) hx hb dX8_room_32 (by decide) (fun hc => ?_) (fun hc => ?_)
      · have hf := if_t hf hc
        refine lv_iload_n hx hb dX8_room_40 rfl (lv_at hl 0 rfl) ?_
        refine lv_aload_n hx hb dX8_room_41 rfl (lv_at hl 1 rfl) ?_
        refine gf_X8_s E hP w_797 dX8_room_42 ?_
        refine lv_iconst (v := 2) hx hb dX8_room_45 (by decide) ?_
        refine la_M1 E hP (by decide) dX8_room_46 ?_
        refine lv_iadd hx hb dX8_room_47 ?_
        refine lv_aload_n hx hb dX8_room_48 rfl (lv_at hl 1 rfl) ?_
        refine lv_iload_n hx hb dX8_room_49 rfl (lv_at hl 2 rfl) ?_
        refine lv_iconst (v := 3) hx hb dX8_room_50 (by decide) ?_
        refine ob_e hf (fun r_51 M_51 hq hf => ?_)
        refine cv_X8_pn E hP hS hq w_867 ⟨Nat.le_of_ble_eq_true rfl, Nat.le_of_ble_eq_true rfl⟩ hl (Nat.le_of_ble_eq_true rfl) dX8_room_51 ⟨Nat.le_of_ble_eq_true rfl, Nat.le_of_ble_eq_true rfl⟩ (fun H locs hP hS => ?_)
        refine lv_isub hx hb dX8_room_54 ?_
        exact w_X8_room_b55 E hf hP hS (lv_sub hl [] rfl)
      · have hf := if_f hf hc
        refine lv_ldc (v := (-1000004)) hx hb hown (hts _ w_939) dX8_room_35 ?_
        refine lv_goto (tgt := 55) hx hb dX8_room_37 (by decide) ?_
        exact w_X8_room_b55 E hf hP hS (lv_sub hl [] rfl)
    · have hf := if_t hf hc
      refine lv_ldc (v := (-1000002)) hx hb hown (hts _ w_871) dX8_room_22 ?_
      exact en_i hf hx hb hr rfl hlocks hP hS dX8_room_24
  · have hf := if_t hf hc
    refine lv_ldc (v := (-1000001)) hx hb hown (hts _ w_854) dX8_room_8 ?_
    exact en_i hf hx hb hr rfl hlocks hP hS dX8_room_10
theorem c_X8_room (l : Launch) {G : GG} {sz : Nat} {x1 : Int32} {M : Mem} {r : Int32} {M' : Mem} (hf : f_X8_room x1 M = some (r, M')) : CtI l yX8_room cX8_room 3 (some .int) rm_X8_room [.ref (adM G 0 0), .int x1] G (AM G) (XM G) sz M r (XM G) sz M' := by
  refine Ct_of (by decide) (Nat.le_of_ble_eq_true rfl) (fun p e s m below meth c ls hx hb hr hlocks hml hown hts hK hP hl => ?_)
  exact w_X8_room ⟨hx, hb, hr, hlocks, hml, hown, hts, hK⟩ hf hP va_S.rf hl
set_option maxRecDepth 100000 in
theorem cv_X8_room {p : Program} {l : Launch} {e : Env} {R : Room} {s : State} {m : MethodId} {args : Array Value} {below : List Frame} {meth : Method} {c : Code} {H : Heap} {locs : List Loc} {cells slots : Nat} {Q : State → Prop} {cc : ByteArray} {pc nL index : Nat} {ret : Option FieldType} {own : String} {ls : Array Slot} {rest : List Value} {l' : List (Nat × Value)} {G : GG} {sz : Nat} {M : Mem} (E : Cx p s m args meth c cc ret nL own G) (hP : PW G (AM G) (XM G) sz M s H) (hS : va_S (AM G) s.heap H locs) {x1 : Int32} {r : Int32} {M' : Mem} (hq : f_X8_room x1 M = some (r, M')) (w1 : Cond.methodLink own index yX8_room ∈ lw_all) (hR : 3 ≤ R.frames ∧ 68 ≤ R.locals) (hl : lv_has ls nL l') (hrest : (rest.map fun v => v.category).sum ≤ 8) (hdg : decode cc pc = .ok (.invokevirtual index, 3)) (hcs : cells ≤ R.cells ∧ slots ≤ R.slots)
    (kk : ∀ (H1 : Heap) (locs1 : List Loc), PW G (AM G) (XM G) sz M' s H1 → va_S (AM G) s.heap H1 locs1 → W p l e R s m args below meth c H1 locs1 cells slots Q (F0 m (pc + 3) ls (.int r :: rest))) : W p l e R s m args below meth c H locs cells slots Q (F0 m pc ls (.int x1 :: .ref (adM G 0 0) :: rest)) := by
  obtain ⟨hx, hb, hr, hlocks, hml, hown, hts, hK⟩ := E
  exact kc_i (kc_runV (na := 1) (q := (RX8, TX8, 16)) hx hb hml hts hown hK hP 0 0 ⟨rfl, by decide⟩ rfl rfl rfl (c_X8_room l hq) w1 w_1043 w_1044 w_9 w_1045 (by decide +kernel) hR rfl hl rfl hrest hdg hcs) hS kk
/-! X8_spread -/
abbrev rm_X8_spread : Room := { frames := 2, cells := 0, slots := 0, locals := 46 }
def f_X8_spread_b44 (L4 : Int32 → Int32 → Mem → Option (Int32 × Mem)) (x2 : Int32) (s0 : Int32) (M : Mem) : Option (Int32 × Mem) :=
lt (x2 + 1) fun x2_45 =>
L4 s0 x2_45 M
def f_X8_spread_b43 (L4 : Int32 → Int32 → Mem → Option (Int32 × Mem)) (x1 : Int32) (x2 : Int32) (M : Mem) : Option (Int32 × Mem) :=
f_X8_spread_b44 L4 x2 x1 M
def f_X8_spread_b67 (s0 : Int32) (M : Mem) : Option (Int32 × Mem) :=
some (s0, M)
def f_X8_spread_b4 : Nat → Int32 → Int32 → Mem → Option (Int32 × Mem)
  | 0 => fun _ _ _ => none
  | fu + 1 => fun x1 x2 M =>
(if (M 0 1 (ix 0)) ≤ x2 then
  (if 0 ≤ x1 then
    ob (f_X8_least (-1) M) fun r_63 M_63 =>
    f_X8_spread_b67 ((x1 - r_63)) M_63
  else
    f_X8_spread_b67 (-1000004) M)
else
  ob (f_X8_pn x2 6 M) fun r_18 M_18 =>
  (if r_18 = 0 then
    ob (f_X8_pn x2 3 M_18) fun r_27 M_27 =>
    (if r_27 ≤ x1 then
      f_X8_spread_b43 (f_X8_spread_b4 fu) x1 x2 M_27
    else
      ob (f_X8_pn x2 3 M_27) fun r_37 M_37 =>
      f_X8_spread_b44 (f_X8_spread_b4 fu) x2 r_37 M_37)
  else
    f_X8_spread_b43 (f_X8_spread_b4 fu) x1 x2 M_18))
def f_X8_spread (M : Mem) : Option (Int32 × Mem) :=
f_X8_spread_b4 1000 (-1) 0 M
set_option maxHeartbeats 4000000 in
set_option maxRecDepth 100000 in
theorem w_X8_spread_b44 {p : Program} {l : Launch} {e : Env} {s : State} {m : MethodId} {args : Array Value} {below : List Frame} {meth : Method} {c : Code} {G : GG} {sz : Nat} {r : Int32} {M' : Mem} (E : Cx p s m args meth c cX8_spread (some .int) 3 RX8 G) {L4 : Int32 → Int32 → Mem → Option (Int32 × Mem)} (hL4 : ∀ (x1 : Int32) (x2 : Int32) (M : Mem) (H : Heap) (locs : List Loc) (ls : Array Slot), L4 x1 x2 M = some (r, M') → PW G (AM G) (XM G) sz M s H → va_S (AM G) s.heap H locs → lv_has ls 3 [(0, .ref (adM G 0 0)), (1, .int x1), (2, .int x2)] → W p l e rm_X8_spread s m args below meth c H locs 0 0 (MQ below (va_Qi (fun (r2 : Int32) (_ : Unit) => r2 = r) (fun _ t => PW G (AM G) (XM G) sz M' t t.heap) (AM G)) args s 0 0 (AM G)) (F0 m 4 ls [])) {x2 : Int32} {s0 : Int32} {M : Mem} {H : Heap} {locs : List Loc} {ls : Array Slot} (hf : f_X8_spread_b44 L4 x2 s0 M = some (r, M')) (hP : PW G (AM G) (XM G) sz M s H) (hS : va_S (AM G) s.heap H locs) (hl : lv_has ls 3 [(0, .ref (adM G 0 0)), (2, .int x2)]) : W p l e rm_X8_spread s m args below meth c H locs 0 0 (MQ below (va_Qi (fun (r2 : Int32) (_ : Unit) => r2 = r) (fun _ t => PW G (AM G) (XM G) sz M' t t.heap) (AM G)) args s 0 0 (AM G)) (F0 m 44 ls [.int s0]) := by
  obtain ⟨hx, hb, hr, hlocks, hml, hown, hts, hK⟩ := id E
  unfold f_X8_spread_b44 at hf
  refine lv_istore_n (lv' := [(1, .int s0), (0, .ref (adM G 0 0)), (2, .int x2)]) hx hb dX8_spread_44 rfl hl (by decide) rfl (fun ls hl => ?_)
  refine lt_e hf (fun x2_45 hx2_45 hf => ?_)
  refine lv_iinc (v := x2_45) (lv' := [(2, .int x2_45), (1, .int s0), (0, .ref (adM G 0 0))]) hx hb dX8_spread_45 hl (k := 2) rfl (by rw [hx2_45]; rfl) (by decide) rfl (fun ls hl => ?_)
  refine lv_goto (tgt := 4) hx hb dX8_spread_48 (by decide) ?_
  exact hL4 _ _ _ _ _ _ hf hP hS (lv_sub hl [2, 1, 0] rfl)
set_option maxHeartbeats 4000000 in
set_option maxRecDepth 100000 in
theorem w_X8_spread_b43 {p : Program} {l : Launch} {e : Env} {s : State} {m : MethodId} {args : Array Value} {below : List Frame} {meth : Method} {c : Code} {G : GG} {sz : Nat} {r : Int32} {M' : Mem} (E : Cx p s m args meth c cX8_spread (some .int) 3 RX8 G) {L4 : Int32 → Int32 → Mem → Option (Int32 × Mem)} (hL4 : ∀ (x1 : Int32) (x2 : Int32) (M : Mem) (H : Heap) (locs : List Loc) (ls : Array Slot), L4 x1 x2 M = some (r, M') → PW G (AM G) (XM G) sz M s H → va_S (AM G) s.heap H locs → lv_has ls 3 [(0, .ref (adM G 0 0)), (1, .int x1), (2, .int x2)] → W p l e rm_X8_spread s m args below meth c H locs 0 0 (MQ below (va_Qi (fun (r2 : Int32) (_ : Unit) => r2 = r) (fun _ t => PW G (AM G) (XM G) sz M' t t.heap) (AM G)) args s 0 0 (AM G)) (F0 m 4 ls [])) {x1 : Int32} {x2 : Int32} {M : Mem} {H : Heap} {locs : List Loc} {ls : Array Slot} (hf : f_X8_spread_b43 L4 x1 x2 M = some (r, M')) (hP : PW G (AM G) (XM G) sz M s H) (hS : va_S (AM G) s.heap H locs) (hl : lv_has ls 3 [(0, .ref (adM G 0 0)), (1, .int x1), (2, .int x2)]) : W p l e rm_X8_spread s m args below meth c H locs 0 0 (MQ below (va_Qi (fun (r2 : Int32) (_ : Unit) => r2 = r) (fun _ t => PW G (AM G) (XM G) sz M' t t.heap) (AM G)) args s 0 0 (AM G)) (F0 m 43 ls []) := by
  obtain ⟨hx, hb, hr, hlocks, hml, hown, hts, hK⟩ := id E
  unfold f_X8_spread_b43 at hf
  refine lv_iload_n hx hb dX8_spread_43 rfl (lv_at hl 1 rfl) ?_
  exact w_X8_spread_b44 E hL4 hf hP hS (lv_sub hl [0, 2] rfl)
set_option maxHeartbeats 4000000 in
set_option maxRecDepth 100000 in
theorem w_X8_spread_b67 {p : Program} {l : Launch} {e : Env} {s : State} {m : MethodId} {args : Array Value} {below : List Frame} {meth : Method} {c : Code} {G : GG} {sz : Nat} {r : Int32} {M' : Mem} (E : Cx p s m args meth c cX8_spread (some .int) 3 RX8 G) {s0 : Int32} {M : Mem} {H : Heap} {locs : List Loc} {ls : Array Slot} (hf : f_X8_spread_b67 s0 M = some (r, M')) (hP : PW G (AM G) (XM G) sz M s H) (hS : va_S (AM G) s.heap H locs) (hl : lv_has ls 3 []) : W p l e rm_X8_spread s m args below meth c H locs 0 0 (MQ below (va_Qi (fun (r2 : Int32) (_ : Unit) => r2 = r) (fun _ t => PW G (AM G) (XM G) sz M' t t.heap) (AM G)) args s 0 0 (AM G)) (F0 m 67 ls [.int s0]) := by
  obtain ⟨hx, hb, hr, hlocks, hml, hown, hts, hK⟩ := id E
  unfold f_X8_spread_b67 at hf
  exact en_i hf hx hb hr rfl hlocks hP hS dX8_spread_67
set_option maxHeartbeats 4000000 in
set_option maxRecDepth 100000 in
theorem w_X8_spread_b4 {p : Program} {l : Launch} {e : Env} {s : State} {m : MethodId} {args : Array Value} {below : List Frame} {meth : Method} {c : Code} {G : GG} {sz : Nat} {r : Int32} {M' : Mem} (E : Cx p s m args meth c cX8_spread (some .int) 3 RX8 G) : ∀ fu : Nat, ∀ (x1 : Int32) (x2 : Int32) (M : Mem) (H : Heap) (locs : List Loc) (ls : Array Slot), f_X8_spread_b4 fu x1 x2 M = some (r, M') → PW G (AM G) (XM G) sz M s H → va_S (AM G) s.heap H locs → lv_has ls 3 [(0, .ref (adM G 0 0)), (1, .int x1), (2, .int x2)] → W p l e rm_X8_spread s m args below meth c H locs 0 0 (MQ below (va_Qi (fun (r2 : Int32) (_ : Unit) => r2 = r) (fun _ t => PW G (AM G) (XM G) sz M' t t.heap) (AM G)) args s 0 0 (AM G)) (F0 m 4 ls []) := by
  obtain ⟨hx, hb, hr, hlocks, hml, hown, hts, hK⟩ := id E
  intro fu
  induction fu with
  | zero => intro x1 x2 M H locs ls hf hP hS hl; cases hf
  | succ fu ih =>
    intro x1 x2 M H locs ls hf hP hS hl
    rw [f_X8_spread_b4.eq_2] at hf
    refine lv_iload_n hx hb dX8_spread_4 rfl (lv_at hl 2 rfl) ?_
    refine lv_aload_n hx hb dX8_spread_5 rfl (lv_at hl 0 rfl) ?_
    refine gf_X8_s E hP w_797 dX8_spread_6 ?_
    refine lv_iconst (v := 0) hx hb dX8_spread_9 (by decide) ?_
    refine la_M1 E hP (by decide) dX8_spread_10 ?_
    refine lv_icmp_ge (tgt := 51) hx hb dX8_spread_11 (by decide) (fun hc => ?_) (fun hc => ?_)
    · have hf := if_t hf hc
      refine lv_iload_n hx hb dX8_spread_51 rfl (lv_at hl 1 rfl) ?_
      refine lv_if_ge (tgt := 60) hx hb dX8_spread_52 (by decide) (fun hc => ?_) (fun hc => ?_)
      · have hf := if_t hf hc
        refine lv_iload_n hx hb dX8_spread_60 rfl (lv_at hl 1 rfl) ?_
        refine lv_aload_n hx hb dX8_spread_61 rfl (lv_at hl 0 rfl) ?_
        refine lv_iconst (v := (-1)) hx hb dX8_spread_62 (by decide) ?_
        refine ob_e hf (fun r_63 M_63 hq hf => ?_)
        refine cv_X8_least E hP hS hq w_908 ⟨Nat.le_of_ble_eq_true rfl, Nat.le_of_ble_eq_true rfl⟩ hl (Nat.le_of_ble_eq_true rfl) dX8_spread_63 ⟨Nat.le_of_ble_eq_true rfl, Nat.le_of_ble_eq_true rfl⟩ (fun H locs hP hS => ?_)
        refine lv_isub hx hb dX8_spread_66 ?_
        exact w_X8_spread_b67 E hf hP hS (lv_sub hl [] rfl)
      · have hf := if_f hf hc
        refine lv_ldc (v := (-1000004)) hx hb hown (hts _ w_939) dX8_spread_55 ?_
        refine lv_goto (tgt := 67) hx hb dX8_spread_57 (by decide) ?_
        exact w_X8_spread_b67 E hf hP hS (lv_sub hl [] rfl)
    · have hf := if_f hf hc
      refine lv_aload_n hx hb dX8_spread_14 rfl (lv_at hl 0 rfl) ?_
      refine lv_iload_n hx hb dX8_spread_15 rfl (lv_at hl 2 rfl) ?_
      refine lv_bipush (v := 6) hx hb dX8_spread_16 (by decide) ?_
      refine ob_e hf (fun r_18 M_18 hq hf => ?_)
      refine cv_X8_pn E hP hS hq w_867 ⟨Nat.le_of_ble_eq_true rfl, Nat.le_of_ble_eq_true rfl⟩ hl (Nat.le_of_ble_eq_true rfl) dX8_spread_18 ⟨Nat.le_of_ble_eq_true rfl, Nat.le_of_ble_eq_true rfl⟩ (fun H locs hP hS => ?_)
      refine lv_if_ne (tgt := 43) hx hb dX8_spread_21 (by decide) (fun hc => ?_) (fun hc => ?_)
      · have hf := if_f hf hc
        exact w_X8_spread_b43 E ih hf hP hS (lv_sub hl [0, 1, 2] rfl)
      · have hf := if_t hf hc
        refine lv_aload_n hx hb dX8_spread_24 rfl (lv_at hl 0 rfl) ?_
        refine lv_iload_n hx hb dX8_spread_25 rfl (lv_at hl 2 rfl) ?_
        refine lv_iconst (v := 3) hx hb dX8_spread_26 (by decide) ?_
        refine ob_e hf (fun r_27 M_27 hq hf => ?_)
        refine cv_X8_pn E hP hS hq w_867 ⟨Nat.le_of_ble_eq_true rfl, Nat.le_of_ble_eq_true rfl⟩ hl (Nat.le_of_ble_eq_true rfl) dX8_spread_27 ⟨Nat.le_of_ble_eq_true rfl, Nat.le_of_ble_eq_true rfl⟩ (fun H locs hP hS => ?_)
        refine lv_iload_n hx hb dX8_spread_30 rfl (lv_at hl 1 rfl) ?_
        refine lv_icmp_le (tgt := 43) hx hb dX8_spread_31 (by decide) (fun hc => ?_) (fun hc => ?_)
        · have hf := if_t hf hc
          exact w_X8_spread_b43 E ih hf hP hS (lv_sub hl [0, 1, 2] rfl)
        · have hf := if_f hf hc
          refine lv_aload_n hx hb dX8_spread_34 rfl (lv_at hl 0 rfl) ?_
          refine lv_iload_n hx hb dX8_spread_35 rfl (lv_at hl 2 rfl) ?_
          refine lv_iconst (v := 3) hx hb dX8_spread_36 (by decide) ?_
          refine ob_e hf (fun r_37 M_37 hq hf => ?_)
          refine cv_X8_pn E hP hS hq w_867 ⟨Nat.le_of_ble_eq_true rfl, Nat.le_of_ble_eq_true rfl⟩ hl (Nat.le_of_ble_eq_true rfl) dX8_spread_37 ⟨Nat.le_of_ble_eq_true rfl, Nat.le_of_ble_eq_true rfl⟩ (fun H locs hP hS => ?_)
          refine lv_goto (tgt := 44) hx hb dX8_spread_40 (by decide) ?_
          exact w_X8_spread_b44 E ih hf hP hS (lv_sub hl [0, 2] rfl)
set_option maxHeartbeats 4000000 in
set_option maxRecDepth 100000 in
theorem w_X8_spread {p : Program} {l : Launch} {e : Env} {s : State} {m : MethodId} {args : Array Value} {below : List Frame} {meth : Method} {c : Code} {G : GG} {sz : Nat} {r : Int32} {M' : Mem} (E : Cx p s m args meth c cX8_spread (some .int) 3 RX8 G) {M : Mem} {H : Heap} {locs : List Loc} {ls : Array Slot} (hf : f_X8_spread M = some (r, M')) (hP : PW G (AM G) (XM G) sz M s H) (hS : va_S (AM G) s.heap H locs) (hl : lv_has ls 3 [(0, .ref (adM G 0 0))]) : W p l e rm_X8_spread s m args below meth c H locs 0 0 (MQ below (va_Qi (fun (r2 : Int32) (_ : Unit) => r2 = r) (fun _ t => PW G (AM G) (XM G) sz M' t t.heap) (AM G)) args s 0 0 (AM G)) (F0 m 0 ls []) := by
  obtain ⟨hx, hb, hr, hlocks, hml, hown, hts, hK⟩ := id E
  unfold f_X8_spread at hf
  refine lv_iconst (v := (-1)) hx hb dX8_spread_0 (by decide) ?_
  refine lv_istore_n (lv' := [(1, .int (-1)), (0, .ref (adM G 0 0))]) hx hb dX8_spread_1 rfl hl (by decide) rfl (fun ls hl => ?_)
  refine lv_iconst (v := 0) hx hb dX8_spread_2 (by decide) ?_
  refine lv_istore_n (lv' := [(2, .int 0), (1, .int (-1)), (0, .ref (adM G 0 0))]) hx hb dX8_spread_3 rfl hl (by decide) rfl (fun ls hl => ?_)
  exact w_X8_spread_b4 E 1000 _ _ _ _ _ _ hf hP hS (lv_sub hl [2, 1, 0] rfl)
theorem c_X8_spread (l : Launch) {G : GG} {sz : Nat} {M : Mem} {r : Int32} {M' : Mem} (hf : f_X8_spread M = some (r, M')) : CtI l yX8_spread cX8_spread 3 (some .int) rm_X8_spread [.ref (adM G 0 0)] G (AM G) (XM G) sz M r (XM G) sz M' := by
  refine Ct_of (by decide) (Nat.le_of_ble_eq_true rfl) (fun p e s m below meth c ls hx hb hr hlocks hml hown hts hK hP hl => ?_)
  exact w_X8_spread ⟨hx, hb, hr, hlocks, hml, hown, hts, hK⟩ hf hP va_S.rf hl
set_option maxRecDepth 100000 in
theorem cv_X8_spread {p : Program} {l : Launch} {e : Env} {R : Room} {s : State} {m : MethodId} {args : Array Value} {below : List Frame} {meth : Method} {c : Code} {H : Heap} {locs : List Loc} {cells slots : Nat} {Q : State → Prop} {cc : ByteArray} {pc nL index : Nat} {ret : Option FieldType} {own : String} {ls : Array Slot} {rest : List Value} {l' : List (Nat × Value)} {G : GG} {sz : Nat} {M : Mem} (E : Cx p s m args meth c cc ret nL own G) (hP : PW G (AM G) (XM G) sz M s H) (hS : va_S (AM G) s.heap H locs) {r : Int32} {M' : Mem} (hq : f_X8_spread M = some (r, M')) (w1 : Cond.methodLink own index yX8_spread ∈ lw_all) (hR : 3 ≤ R.frames ∧ 68 ≤ R.locals) (hl : lv_has ls nL l') (hrest : (rest.map fun v => v.category).sum ≤ 8) (hdg : decode cc pc = .ok (.invokevirtual index, 3)) (hcs : cells ≤ R.cells ∧ slots ≤ R.slots)
    (kk : ∀ (H1 : Heap) (locs1 : List Loc), PW G (AM G) (XM G) sz M' s H1 → va_S (AM G) s.heap H1 locs1 → W p l e R s m args below meth c H1 locs1 cells slots Q (F0 m (pc + 3) ls (.int r :: rest))) : W p l e R s m args below meth c H locs cells slots Q (F0 m pc ls (.ref (adM G 0 0) :: rest)) := by
  obtain ⟨hx, hb, hr, hlocks, hml, hown, hts, hK⟩ := E
  exact kc_i (kc_runV (na := 0) (q := (RX8, TX8, 16)) hx hb hml hts hown hK hP 0 0 ⟨rfl, by decide⟩ rfl rfl rfl (c_X8_spread l hq) w1 w_1047 w_1048 w_9 w_1049 (by decide +kernel) hR rfl hl rfl hrest hdg hcs) hS kk
/-! X8_touch -/
abbrev rm_X8_touch : Room := { frames := 3, cells := 0, slots := 0, locals := 75 }
def f_X8_touch_b35 (s0 : Int32) (M : Mem) : Option (Int32 × Mem) :=
some (s0, M)
def f_X8_touch_b33 (M : Mem) : Option (Int32 × Mem) :=
f_X8_touch_b35 (-1000001) M
def f_X8_touch (x1 : Int32) (x2 : Int32) (M : Mem) : Option (Int32 × Mem) :=
ob (f_X8_isLine x1 M) fun r_2 M_2 =>
(if r_2 = 0 then
  f_X8_touch_b33 M_2
else
  ob (f_X8_isLine x2 M_2) fun r_10 M_10 =>
  (if r_10 = 0 then
    f_X8_touch_b33 M_10
  else
    ob (f_X8_touches x1 x2 M_10) fun r_19 M_19 =>
    (if r_19 = 0 then
      f_X8_touch_b35 0 M_19
    else
      f_X8_touch_b35 1 M_19)))
set_option maxHeartbeats 4000000 in
set_option maxRecDepth 100000 in
theorem w_X8_touch_b35 {p : Program} {l : Launch} {e : Env} {s : State} {m : MethodId} {args : Array Value} {below : List Frame} {meth : Method} {c : Code} {G : GG} {sz : Nat} {r : Int32} {M' : Mem} (E : Cx p s m args meth c cX8_touch (some .int) 3 RX8 G) {s0 : Int32} {M : Mem} {H : Heap} {locs : List Loc} {ls : Array Slot} (hf : f_X8_touch_b35 s0 M = some (r, M')) (hP : PW G (AM G) (XM G) sz M s H) (hS : va_S (AM G) s.heap H locs) (hl : lv_has ls 3 []) : W p l e rm_X8_touch s m args below meth c H locs 0 0 (MQ below (va_Qi (fun (r2 : Int32) (_ : Unit) => r2 = r) (fun _ t => PW G (AM G) (XM G) sz M' t t.heap) (AM G)) args s 0 0 (AM G)) (F0 m 35 ls [.int s0]) := by
  obtain ⟨hx, hb, hr, hlocks, hml, hown, hts, hK⟩ := id E
  unfold f_X8_touch_b35 at hf
  exact en_i hf hx hb hr rfl hlocks hP hS dX8_touch_35
set_option maxHeartbeats 4000000 in
set_option maxRecDepth 100000 in
theorem w_X8_touch_b33 {p : Program} {l : Launch} {e : Env} {s : State} {m : MethodId} {args : Array Value} {below : List Frame} {meth : Method} {c : Code} {G : GG} {sz : Nat} {r : Int32} {M' : Mem} (E : Cx p s m args meth c cX8_touch (some .int) 3 RX8 G) {M : Mem} {H : Heap} {locs : List Loc} {ls : Array Slot} (hf : f_X8_touch_b33 M = some (r, M')) (hP : PW G (AM G) (XM G) sz M s H) (hS : va_S (AM G) s.heap H locs) (hl : lv_has ls 3 []) : W p l e rm_X8_touch s m args below meth c H locs 0 0 (MQ below (va_Qi (fun (r2 : Int32) (_ : Unit) => r2 = r) (fun _ t => PW G (AM G) (XM G) sz M' t t.heap) (AM G)) args s 0 0 (AM G)) (F0 m 33 ls []) := by
  obtain ⟨hx, hb, hr, hlocks, hml, hown, hts, hK⟩ := id E
  unfold f_X8_touch_b33 at hf
  refine lv_ldc (v := (-1000001)) hx hb hown (hts _ w_854) dX8_touch_33 ?_
  exact w_X8_touch_b35 E hf hP hS (lv_sub hl [] rfl)
set_option maxHeartbeats 4000000 in
set_option maxRecDepth 100000 in
theorem w_X8_touch {p : Program} {l : Launch} {e : Env} {s : State} {m : MethodId} {args : Array Value} {below : List Frame} {meth : Method} {c : Code} {G : GG} {sz : Nat} {r : Int32} {M' : Mem} (E : Cx p s m args meth c cX8_touch (some .int) 3 RX8 G) {x1 : Int32} {x2 : Int32} {M : Mem} {H : Heap} {locs : List Loc} {ls : Array Slot} (hf : f_X8_touch x1 x2 M = some (r, M')) (hP : PW G (AM G) (XM G) sz M s H) (hS : va_S (AM G) s.heap H locs) (hl : lv_has ls 3 [(0, .ref (adM G 0 0)), (1, .int x1), (2, .int x2)]) : W p l e rm_X8_touch s m args below meth c H locs 0 0 (MQ below (va_Qi (fun (r2 : Int32) (_ : Unit) => r2 = r) (fun _ t => PW G (AM G) (XM G) sz M' t t.heap) (AM G)) args s 0 0 (AM G)) (F0 m 0 ls []) := by
  obtain ⟨hx, hb, hr, hlocks, hml, hown, hts, hK⟩ := id E
  unfold f_X8_touch at hf
  refine lv_aload_n hx hb dX8_touch_0 rfl (lv_at hl 0 rfl) ?_
  refine lv_iload_n hx hb dX8_touch_1 rfl (lv_at hl 1 rfl) ?_
  refine ob_e hf (fun r_2 M_2 hq hf => ?_)
  refine cv_X8_isLine E hP hS hq w_924 ⟨Nat.le_of_ble_eq_true rfl, Nat.le_of_ble_eq_true rfl⟩ hl (Nat.le_of_ble_eq_true rfl) dX8_touch_2 ⟨Nat.le_of_ble_eq_true rfl, Nat.le_of_ble_eq_true rfl⟩ (fun H locs hP hS => ?_)
  refine lv_if_eq (tgt := 33) hx hb dX8_touch_5 (by decide) (fun hc => ?_) (fun hc => ?_)
  · have hf := if_t hf hc
    exact w_X8_touch_b33 E hf hP hS (lv_sub hl [] rfl)
  · have hf := if_f hf hc
    refine lv_aload_n hx hb dX8_touch_8 rfl (lv_at hl 0 rfl) ?_
    refine lv_iload_n hx hb dX8_touch_9 rfl (lv_at hl 2 rfl) ?_
    refine ob_e hf (fun r_10 M_10 hq hf => ?_)
    refine cv_X8_isLine E hP hS hq w_924 ⟨Nat.le_of_ble_eq_true rfl, Nat.le_of_ble_eq_true rfl⟩ hl (Nat.le_of_ble_eq_true rfl) dX8_touch_10 ⟨Nat.le_of_ble_eq_true rfl, Nat.le_of_ble_eq_true rfl⟩ (fun H locs hP hS => ?_)
    refine lv_if_eq (tgt := 33) hx hb dX8_touch_13 (by decide) (fun hc => ?_) (fun hc => ?_)
    · have hf := if_t hf hc
      exact w_X8_touch_b33 E hf hP hS (lv_sub hl [] rfl)
    · have hf := if_f hf hc
      refine lv_aload_n hx hb dX8_touch_16 rfl (lv_at hl 0 rfl) ?_
      refine lv_iload_n hx hb dX8_touch_17 rfl (lv_at hl 1 rfl) ?_
      refine lv_iload_n hx hb dX8_touch_18 rfl (lv_at hl 2 rfl) ?_
      refine ob_e hf (fun r_19 M_19 hq hf => ?_)
      refine cv_X8_touches E hP hS hq w_989 ⟨Nat.le_of_ble_eq_true rfl, Nat.le_of_ble_eq_true rfl⟩ hl (Nat.le_of_ble_eq_true rfl) dX8_touch_19 ⟨Nat.le_of_ble_eq_true rfl, Nat.le_of_ble_eq_true rfl⟩ (fun H locs hP hS => ?_)
      refine lv_if_eq (tgt := 29) hx hb dX8_touch_22 (by decide) (fun hc => ?_) (fun hc => ?_)
      · have hf := if_t hf hc
        refine lv_iconst (v := 0) hx hb dX8_touch_29 (by decide) ?_
        refine lv_goto (tgt := 35) hx hb dX8_touch_30 (by decide) ?_
        exact w_X8_touch_b35 E hf hP hS (lv_sub hl [] rfl)
      · have hf := if_f hf hc
        refine lv_iconst (v := 1) hx hb dX8_touch_25 (by decide) ?_
        refine lv_goto (tgt := 35) hx hb dX8_touch_26 (by decide) ?_
        exact w_X8_touch_b35 E hf hP hS (lv_sub hl [] rfl)
theorem c_X8_touch (l : Launch) {G : GG} {sz : Nat} {x1 : Int32} {x2 : Int32} {M : Mem} {r : Int32} {M' : Mem} (hf : f_X8_touch x1 x2 M = some (r, M')) : CtI l yX8_touch cX8_touch 3 (some .int) rm_X8_touch [.ref (adM G 0 0), .int x1, .int x2] G (AM G) (XM G) sz M r (XM G) sz M' := by
  refine Ct_of (by decide) (Nat.le_of_ble_eq_true rfl) (fun p e s m below meth c ls hx hb hr hlocks hml hown hts hK hP hl => ?_)
  exact w_X8_touch ⟨hx, hb, hr, hlocks, hml, hown, hts, hK⟩ hf hP va_S.rf hl
set_option maxRecDepth 100000 in
theorem cv_X8_touch {p : Program} {l : Launch} {e : Env} {R : Room} {s : State} {m : MethodId} {args : Array Value} {below : List Frame} {meth : Method} {c : Code} {H : Heap} {locs : List Loc} {cells slots : Nat} {Q : State → Prop} {cc : ByteArray} {pc nL index : Nat} {ret : Option FieldType} {own : String} {ls : Array Slot} {rest : List Value} {l' : List (Nat × Value)} {G : GG} {sz : Nat} {M : Mem} (E : Cx p s m args meth c cc ret nL own G) (hP : PW G (AM G) (XM G) sz M s H) (hS : va_S (AM G) s.heap H locs) {x1 : Int32} {x2 : Int32} {r : Int32} {M' : Mem} (hq : f_X8_touch x1 x2 M = some (r, M')) (w1 : Cond.methodLink own index yX8_touch ∈ lw_all) (hR : 4 ≤ R.frames ∧ 97 ≤ R.locals) (hl : lv_has ls nL l') (hrest : (rest.map fun v => v.category).sum ≤ 8) (hdg : decode cc pc = .ok (.invokevirtual index, 3)) (hcs : cells ≤ R.cells ∧ slots ≤ R.slots)
    (kk : ∀ (H1 : Heap) (locs1 : List Loc), PW G (AM G) (XM G) sz M' s H1 → va_S (AM G) s.heap H1 locs1 → W p l e R s m args below meth c H1 locs1 cells slots Q (F0 m (pc + 3) ls (.int r :: rest))) : W p l e R s m args below meth c H locs cells slots Q (F0 m pc ls (.int x2 :: .int x1 :: .ref (adM G 0 0) :: rest)) := by
  obtain ⟨hx, hb, hr, hlocks, hml, hown, hts, hK⟩ := E
  exact kc_i (kc_runV (na := 2) (q := (RX8, TX8, 16)) hx hb hml hts hown hK hP 0 0 ⟨rfl, by decide⟩ rfl rfl rfl (c_X8_touch l hq) w1 w_1051 w_1052 w_9 w_1053 (by decide +kernel) hR rfl hl rfl hrest hdg hcs) hS kk
/-! X8_touching -/
abbrev rm_X8_touching : Room := { frames := 3, cells := 0, slots := 0, locals := 75 }
def f_X8_touching_b47 (L15 : Int32 → Int32 → Int32 → Mem → Option (Int32 × Mem)) (x1 : Int32) (x3 : Int32) (s0 : Int32) (s1 : Int32) (M : Mem) : Option (Int32 × Mem) :=
lt ((s0 ||| s1)) fun x2_48 =>
lt (x3 + 1) fun x3_49 =>
L15 x1 x2_48 x3_49 M
def f_X8_touching_b46 (L15 : Int32 → Int32 → Int32 → Mem → Option (Int32 × Mem)) (x1 : Int32) (x3 : Int32) (s0 : Int32) (M : Mem) : Option (Int32 × Mem) :=
f_X8_touching_b47 L15 x1 x3 s0 0 M
def f_X8_touching_b15 : Nat → Int32 → Int32 → Int32 → Mem → Option (Int32 × Mem)
  | 0 => fun _ _ _ _ => none
  | fu + 1 => fun x1 x2 x3 M =>
(if (M 0 1 (ix 1)) ≤ x3 then
  some (x2, M)
else
  (if x3 = x1 then
    f_X8_touching_b46 (f_X8_touching_b15 fu) x1 x3 x2 M
  else
    ob (f_X8_touches x1 x3 M) fun r_34 M_34 =>
    (if r_34 = 0 then
      f_X8_touching_b46 (f_X8_touching_b15 fu) x1 x3 x2 M_34
    else
      f_X8_touching_b47 (f_X8_touching_b15 fu) x1 x3 x2 ((1 <<< (x3 &&& 31))) M_34)))
def f_X8_touching (x1 : Int32) (M : Mem) : Option (Int32 × Mem) :=
ob (f_X8_isLine x1 M) fun r_2 M_2 =>
(if r_2 = 0 then
  some ((-1000001), M_2)
else
  f_X8_touching_b15 1000 x1 0 0 M_2)
set_option maxHeartbeats 4000000 in
set_option maxRecDepth 100000 in
theorem w_X8_touching_b47 {p : Program} {l : Launch} {e : Env} {s : State} {m : MethodId} {args : Array Value} {below : List Frame} {meth : Method} {c : Code} {G : GG} {sz : Nat} {r : Int32} {M' : Mem} (E : Cx p s m args meth c cX8_touching (some .int) 4 RX8 G) {L15 : Int32 → Int32 → Int32 → Mem → Option (Int32 × Mem)} (hL15 : ∀ (x1 : Int32) (x2 : Int32) (x3 : Int32) (M : Mem) (H : Heap) (locs : List Loc) (ls : Array Slot), L15 x1 x2 x3 M = some (r, M') → PW G (AM G) (XM G) sz M s H → va_S (AM G) s.heap H locs → lv_has ls 4 [(0, .ref (adM G 0 0)), (1, .int x1), (2, .int x2), (3, .int x3)] → W p l e rm_X8_touching s m args below meth c H locs 0 0 (MQ below (va_Qi (fun (r2 : Int32) (_ : Unit) => r2 = r) (fun _ t => PW G (AM G) (XM G) sz M' t t.heap) (AM G)) args s 0 0 (AM G)) (F0 m 15 ls [])) {x1 : Int32} {x3 : Int32} {s0 : Int32} {s1 : Int32} {M : Mem} {H : Heap} {locs : List Loc} {ls : Array Slot} (hf : f_X8_touching_b47 L15 x1 x3 s0 s1 M = some (r, M')) (hP : PW G (AM G) (XM G) sz M s H) (hS : va_S (AM G) s.heap H locs) (hl : lv_has ls 4 [(0, .ref (adM G 0 0)), (1, .int x1), (3, .int x3)]) : W p l e rm_X8_touching s m args below meth c H locs 0 0 (MQ below (va_Qi (fun (r2 : Int32) (_ : Unit) => r2 = r) (fun _ t => PW G (AM G) (XM G) sz M' t t.heap) (AM G)) args s 0 0 (AM G)) (F0 m 47 ls [.int s1, .int s0]) := by
  obtain ⟨hx, hb, hr, hlocks, hml, hown, hts, hK⟩ := id E
  unfold f_X8_touching_b47 at hf
  refine lv_ior hx hb dX8_touching_47 ?_
  refine lt_e hf (fun x2_48 hx2_48 hf => ?_)
  refine kr_nm hx2_48 ?_
  refine lv_istore_n (lv' := [(2, .int x2_48), (0, .ref (adM G 0 0)), (1, .int x1), (3, .int x3)]) hx hb dX8_touching_48 rfl hl (by decide) rfl (fun ls hl => ?_)
  refine lt_e hf (fun x3_49 hx3_49 hf => ?_)
  refine lv_iinc (v := x3_49) (lv' := [(3, .int x3_49), (2, .int x2_48), (0, .ref (adM G 0 0)), (1, .int x1)]) hx hb dX8_touching_49 hl (k := 3) rfl (by rw [hx3_49]; rfl) (by decide) rfl (fun ls hl => ?_)
  refine lv_goto (tgt := 15) hx hb dX8_touching_52 (by decide) ?_
  exact hL15 _ _ _ _ _ _ _ hf hP hS (lv_sub hl [2, 3, 1, 0] rfl)
set_option maxHeartbeats 4000000 in
set_option maxRecDepth 100000 in
theorem w_X8_touching_b46 {p : Program} {l : Launch} {e : Env} {s : State} {m : MethodId} {args : Array Value} {below : List Frame} {meth : Method} {c : Code} {G : GG} {sz : Nat} {r : Int32} {M' : Mem} (E : Cx p s m args meth c cX8_touching (some .int) 4 RX8 G) {L15 : Int32 → Int32 → Int32 → Mem → Option (Int32 × Mem)} (hL15 : ∀ (x1 : Int32) (x2 : Int32) (x3 : Int32) (M : Mem) (H : Heap) (locs : List Loc) (ls : Array Slot), L15 x1 x2 x3 M = some (r, M') → PW G (AM G) (XM G) sz M s H → va_S (AM G) s.heap H locs → lv_has ls 4 [(0, .ref (adM G 0 0)), (1, .int x1), (2, .int x2), (3, .int x3)] → W p l e rm_X8_touching s m args below meth c H locs 0 0 (MQ below (va_Qi (fun (r2 : Int32) (_ : Unit) => r2 = r) (fun _ t => PW G (AM G) (XM G) sz M' t t.heap) (AM G)) args s 0 0 (AM G)) (F0 m 15 ls [])) {x1 : Int32} {x3 : Int32} {s0 : Int32} {M : Mem} {H : Heap} {locs : List Loc} {ls : Array Slot} (hf : f_X8_touching_b46 L15 x1 x3 s0 M = some (r, M')) (hP : PW G (AM G) (XM G) sz M s H) (hS : va_S (AM G) s.heap H locs) (hl : lv_has ls 4 [(0, .ref (adM G 0 0)), (1, .int x1), (3, .int x3)]) : W p l e rm_X8_touching s m args below meth c H locs 0 0 (MQ below (va_Qi (fun (r2 : Int32) (_ : Unit) => r2 = r) (fun _ t => PW G (AM G) (XM G) sz M' t t.heap) (AM G)) args s 0 0 (AM G)) (F0 m 46 ls [.int s0]) := by
  obtain ⟨hx, hb, hr, hlocks, hml, hown, hts, hK⟩ := id E
  unfold f_X8_touching_b46 at hf
  refine lv_iconst (v := 0) hx hb dX8_touching_46 (by decide) ?_
  exact w_X8_touching_b47 E hL15 hf hP hS (lv_sub hl [0, 1, 2] rfl)
set_option maxHeartbeats 4000000 in
set_option maxRecDepth 100000 in
theorem w_X8_touching_b15 {p : Program} {l : Launch} {e : Env} {s : State} {m : MethodId} {args : Array Value} {below : List Frame} {meth : Method} {c : Code} {G : GG} {sz : Nat} {r : Int32} {M' : Mem} (E : Cx p s m args meth c cX8_touching (some .int) 4 RX8 G) : ∀ fu : Nat, ∀ (x1 : Int32) (x2 : Int32) (x3 : Int32) (M : Mem) (H : Heap) (locs : List Loc) (ls : Array Slot), f_X8_touching_b15 fu x1 x2 x3 M = some (r, M') → PW G (AM G) (XM G) sz M s H → va_S (AM G) s.heap H locs → lv_has ls 4 [(0, .ref (adM G 0 0)), (1, .int x1), (2, .int x2), (3, .int x3)] → W p l e rm_X8_touching s m args below meth c H locs 0 0 (MQ below (va_Qi (fun (r2 : Int32) (_ : Unit) => r2 = r) (fun _ t => PW G (AM G) (XM G) sz M' t t.heap) (AM G)) args s 0 0 (AM G)) (F0 m 15 ls []) := by
  obtain ⟨hx, hb, hr, hlocks, hml, hown, hts, hK⟩ := id E
  intro fu
  induction fu with
  | zero => intro x1 x2 x3 M H locs ls hf hP hS hl; cases hf
  | succ fu ih =>
    intro x1 x2 x3 M H locs ls hf hP hS hl
    rw [f_X8_touching_b15.eq_2] at hf
    refine lv_iload_n hx hb dX8_touching_15 rfl (lv_at hl 3 rfl) ?_
    refine lv_aload_n hx hb dX8_touching_16 rfl (lv_at hl 0 rfl) ?_
    refine gf_X8_s E hP w_797 dX8_touching_17 ?_
    refine lv_iconst (v := 1) hx hb dX8_touching_20 (by decide) ?_
    refine la_M1 E hP (by decide) dX8_touching_21 ?_
    refine lv_icmp_ge (tgt := 55) hx hb dX8_touching_22 (by decide) (fun hc => ?_) (fun hc => ?_)
    · have hf := if_t hf hc
      refine lv_iload_n hx hb dX8_touching_55 rfl (lv_at hl 2 rfl) ?_
      exact en_i hf hx hb hr rfl hlocks hP hS dX8_touching_56
    · have hf := if_f hf hc
      refine lv_iload_n hx hb dX8_touching_25 rfl (lv_at hl 2 rfl) ?_
      refine lv_iload_n hx hb dX8_touching_26 rfl (lv_at hl 3 rfl) ?_
      refine lv_iload_n hx hb dX8_touching_27 rfl (lv_at hl 1 rfl) ?_
      refine lv_icmp_eq (tgt := 46) hx hb dX8_touching_28 (by decide) (fun hc => ?_) (fun hc => ?_)
      · have hf := if_t hf hc
        exact w_X8_touching_b46 E ih hf hP hS (lv_sub hl [0, 1, 3] rfl)
      · have hf := if_f hf hc
        refine lv_aload_n hx hb dX8_touching_31 rfl (lv_at hl 0 rfl) ?_
        refine lv_iload_n hx hb dX8_touching_32 rfl (lv_at hl 1 rfl) ?_
        refine lv_iload_n hx hb dX8_touching_33 rfl (lv_at hl 3 rfl) ?_
        refine ob_e hf (fun r_34 M_34 hq hf => ?_)
        refine cv_X8_touches E hP hS hq w_989 ⟨Nat.le_of_ble_eq_true rfl, Nat.le_of_ble_eq_true rfl⟩ hl (Nat.le_of_ble_eq_true rfl) dX8_touching_34 ⟨Nat.le_of_ble_eq_true rfl, Nat.le_of_ble_eq_true rfl⟩ (fun H locs hP hS => ?_)
        refine lv_if_eq (tgt := 46) hx hb dX8_touching_37 (by decide) (fun hc => ?_) (fun hc => ?_)
        · have hf := if_t hf hc
          exact w_X8_touching_b46 E ih hf hP hS (lv_sub hl [0, 1, 3] rfl)
        · have hf := if_f hf hc
          refine lv_iconst (v := 1) hx hb dX8_touching_40 (by decide) ?_
          refine lv_iload_n hx hb dX8_touching_41 rfl (lv_at hl 3 rfl) ?_
          refine lv_ishl hx hb dX8_touching_42 ?_
          refine lv_goto (tgt := 47) hx hb dX8_touching_43 (by decide) ?_
          exact w_X8_touching_b47 E ih hf hP hS (lv_sub hl [0, 1, 3] rfl)
set_option maxHeartbeats 4000000 in
set_option maxRecDepth 100000 in
theorem w_X8_touching {p : Program} {l : Launch} {e : Env} {s : State} {m : MethodId} {args : Array Value} {below : List Frame} {meth : Method} {c : Code} {G : GG} {sz : Nat} {r : Int32} {M' : Mem} (E : Cx p s m args meth c cX8_touching (some .int) 4 RX8 G) {x1 : Int32} {M : Mem} {H : Heap} {locs : List Loc} {ls : Array Slot} (hf : f_X8_touching x1 M = some (r, M')) (hP : PW G (AM G) (XM G) sz M s H) (hS : va_S (AM G) s.heap H locs) (hl : lv_has ls 4 [(0, .ref (adM G 0 0)), (1, .int x1)]) : W p l e rm_X8_touching s m args below meth c H locs 0 0 (MQ below (va_Qi (fun (r2 : Int32) (_ : Unit) => r2 = r) (fun _ t => PW G (AM G) (XM G) sz M' t t.heap) (AM G)) args s 0 0 (AM G)) (F0 m 0 ls []) := by
  obtain ⟨hx, hb, hr, hlocks, hml, hown, hts, hK⟩ := id E
  unfold f_X8_touching at hf
  refine lv_aload_n hx hb dX8_touching_0 rfl (lv_at hl 0 rfl) ?_
  refine lv_iload_n hx hb dX8_touching_1 rfl (lv_at hl 1 rfl) ?_
  refine ob_e hf (fun r_2 M_2 hq hf => ?_)
  refine cv_X8_isLine E hP hS hq w_924 ⟨Nat.le_of_ble_eq_true rfl, Nat.le_of_ble_eq_true rfl⟩ hl (Nat.le_of_ble_eq_true rfl) dX8_touching_2 ⟨Nat.le_of_ble_eq_true rfl, Nat.le_of_ble_eq_true rfl⟩ (fun H locs hP hS => ?_)
  refine lv_if_ne (tgt := 11) hx hb dX8_touching_5 (by decide) (fun hc => ?_) (fun hc => ?_)
  · have hf := if_f hf hc
    refine lv_iconst (v := 0) hx hb dX8_touching_11 (by decide) ?_
    refine lv_istore_n (lv' := [(2, .int 0), (0, .ref (adM G 0 0)), (1, .int x1)]) hx hb dX8_touching_12 rfl hl (by decide) rfl (fun ls hl => ?_)
    refine lv_iconst (v := 0) hx hb dX8_touching_13 (by decide) ?_
    refine lv_istore_n (lv' := [(3, .int 0), (2, .int 0), (0, .ref (adM G 0 0)), (1, .int x1)]) hx hb dX8_touching_14 rfl hl (by decide) rfl (fun ls hl => ?_)
    exact w_X8_touching_b15 E 1000 _ _ _ _ _ _ _ hf hP hS (lv_sub hl [2, 3, 1, 0] rfl)
  · have hf := if_t hf hc
    refine lv_ldc (v := (-1000001)) hx hb hown (hts _ w_854) dX8_touching_8 ?_
    exact en_i hf hx hb hr rfl hlocks hP hS dX8_touching_10
theorem c_X8_touching (l : Launch) {G : GG} {sz : Nat} {x1 : Int32} {M : Mem} {r : Int32} {M' : Mem} (hf : f_X8_touching x1 M = some (r, M')) : CtI l yX8_touching cX8_touching 4 (some .int) rm_X8_touching [.ref (adM G 0 0), .int x1] G (AM G) (XM G) sz M r (XM G) sz M' := by
  refine Ct_of (by decide) (Nat.le_of_ble_eq_true rfl) (fun p e s m below meth c ls hx hb hr hlocks hml hown hts hK hP hl => ?_)
  exact w_X8_touching ⟨hx, hb, hr, hlocks, hml, hown, hts, hK⟩ hf hP va_S.rf hl
set_option maxRecDepth 100000 in
theorem cv_X8_touching {p : Program} {l : Launch} {e : Env} {R : Room} {s : State} {m : MethodId} {args : Array Value} {below : List Frame} {meth : Method} {c : Code} {H : Heap} {locs : List Loc} {cells slots : Nat} {Q : State → Prop} {cc : ByteArray} {pc nL index : Nat} {ret : Option FieldType} {own : String} {ls : Array Slot} {rest : List Value} {l' : List (Nat × Value)} {G : GG} {sz : Nat} {M : Mem} (E : Cx p s m args meth c cc ret nL own G) (hP : PW G (AM G) (XM G) sz M s H) (hS : va_S (AM G) s.heap H locs) {x1 : Int32} {r : Int32} {M' : Mem} (hq : f_X8_touching x1 M = some (r, M')) (w1 : Cond.methodLink own index yX8_touching ∈ lw_all) (hR : 4 ≤ R.frames ∧ 98 ≤ R.locals) (hl : lv_has ls nL l') (hrest : (rest.map fun v => v.category).sum ≤ 8) (hdg : decode cc pc = .ok (.invokevirtual index, 3)) (hcs : cells ≤ R.cells ∧ slots ≤ R.slots)
    (kk : ∀ (H1 : Heap) (locs1 : List Loc), PW G (AM G) (XM G) sz M' s H1 → va_S (AM G) s.heap H1 locs1 → W p l e R s m args below meth c H1 locs1 cells slots Q (F0 m (pc + 3) ls (.int r :: rest))) : W p l e R s m args below meth c H locs cells slots Q (F0 m pc ls (.int x1 :: .ref (adM G 0 0) :: rest)) := by
  obtain ⟨hx, hb, hr, hlocks, hml, hown, hts, hK⟩ := E
  exact kc_i (kc_runV (na := 1) (q := (RX8, TX8, 16)) hx hb hml hts hown hK hP 0 0 ⟨rfl, by decide⟩ rfl rfl rfl (c_X8_touching l hq) w1 w_1055 w_1056 w_9 w_1057 (by decide +kernel) hR rfl hl rfl hrest hdg hcs) hS kk
/-! X8_pensAt -/
abbrev rm_X8_pensAt : Room := { frames := 2, cells := 0, slots := 0, locals := 43 }
def f_X8_pensAt_b95 (L5 : Int32 → Int32 → Int32 → Int32 → Mem → Option (Int32 × Mem)) (x1 : Int32) (x2 : Int32) (x4 : Int32) (s0 : Int32) (s1 : Int32) (M : Mem) : Option (Int32 × Mem) :=
lt ((s0 ||| s1)) fun x3_96 =>
lt (x4 + 1) fun x4_97 =>
L5 x1 x2 x3_96 x4_97 M
def f_X8_pensAt_b72 (L5 : Int32 → Int32 → Int32 → Int32 → Mem → Option (Int32 × Mem)) (x1 : Int32) (x2 : Int32) (x3 : Int32) (x4 : Int32) (s0 : Int32) (M : Mem) : Option (Int32 × Mem) :=
(if s0 = 0 then
  f_X8_pensAt_b95 L5 x1 x2 x4 x3 0 M
else
  ob (f_X8_ln (x4 / 2) 4 M) fun r_87 M_87 =>
  f_X8_pensAt_b95 L5 x1 x2 x4 x3 ((1 <<< (r_87 &&& 31))) M_87)
def f_X8_pensAt_b71 (L5 : Int32 → Int32 → Int32 → Int32 → Mem → Option (Int32 × Mem)) (x1 : Int32) (x2 : Int32) (x3 : Int32) (x4 : Int32) (M : Mem) : Option (Int32 × Mem) :=
f_X8_pensAt_b72 L5 x1 x2 x3 x4 0 M
def f_X8_pensAt_b5 : Nat → Int32 → Int32 → Int32 → Int32 → Mem → Option (Int32 × Mem)
  | 0 => fun _ _ _ _ _ => none
  | fu + 1 => fun x1 x2 x3 x4 M =>
(if (2 * (M 0 1 (ix 1))) ≤ x4 then
  some (x3, M)
else
  ob (f_X8_isDrawn (x4 / 2) M) fun r_23 M_23 =>
  (if r_23 = 0 then
    f_X8_pensAt_b71 (f_X8_pensAt_b5 fu) x1 x2 x3 x4 M_23
  else
    ob (f_X8_ln (x4 / 2) (2 * (x4 - x4 / 2 * 2)) M_23) fun r_40 M_40 =>
    (if r_40 = x1 then
      ob (f_X8_ln (x4 / 2) ((2 * (x4 - x4 / 2 * 2)) + 1) M_40) fun r_60 M_60 =>
      (if r_60 = x2 then
        f_X8_pensAt_b72 (f_X8_pensAt_b5 fu) x1 x2 x3 x4 1 M_60
      else
        f_X8_pensAt_b71 (f_X8_pensAt_b5 fu) x1 x2 x3 x4 M_60)
    else
      f_X8_pensAt_b71 (f_X8_pensAt_b5 fu) x1 x2 x3 x4 M_40)))
def f_X8_pensAt (x1 : Int32) (x2 : Int32) (M : Mem) : Option (Int32 × Mem) :=
f_X8_pensAt_b5 1000 x1 x2 0 0 M
set_option maxHeartbeats 4000000 in
set_option maxRecDepth 100000 in
theorem w_X8_pensAt_b95 {p : Program} {l : Launch} {e : Env} {s : State} {m : MethodId} {args : Array Value} {below : List Frame} {meth : Method} {c : Code} {G : GG} {sz : Nat} {r : Int32} {M' : Mem} (E : Cx p s m args meth c cX8_pensAt (some .int) 6 RX8 G) {L5 : Int32 → Int32 → Int32 → Int32 → Mem → Option (Int32 × Mem)} (hL5 : ∀ (x1 : Int32) (x2 : Int32) (x3 : Int32) (x4 : Int32) (M : Mem) (H : Heap) (locs : List Loc) (ls : Array Slot), L5 x1 x2 x3 x4 M = some (r, M') → PW G (AM G) (XM G) sz M s H → va_S (AM G) s.heap H locs → lv_has ls 6 [(0, .ref (adM G 0 0)), (1, .int x1), (2, .int x2), (3, .int x3), (4, .int x4)] → W p l e rm_X8_pensAt s m args below meth c H locs 0 0 (MQ below (va_Qi (fun (r2 : Int32) (_ : Unit) => r2 = r) (fun _ t => PW G (AM G) (XM G) sz M' t t.heap) (AM G)) args s 0 0 (AM G)) (F0 m 5 ls [])) {x1 : Int32} {x2 : Int32} {x4 : Int32} {s0 : Int32} {s1 : Int32} {M : Mem} {H : Heap} {locs : List Loc} {ls : Array Slot} (hf : f_X8_pensAt_b95 L5 x1 x2 x4 s0 s1 M = some (r, M')) (hP : PW G (AM G) (XM G) sz M s H) (hS : va_S (AM G) s.heap H locs) (hl : lv_has ls 6 [(0, .ref (adM G 0 0)), (1, .int x1), (2, .int x2), (4, .int x4)]) : W p l e rm_X8_pensAt s m args below meth c H locs 0 0 (MQ below (va_Qi (fun (r2 : Int32) (_ : Unit) => r2 = r) (fun _ t => PW G (AM G) (XM G) sz M' t t.heap) (AM G)) args s 0 0 (AM G)) (F0 m 95 ls [.int s1, .int s0]) := by
  obtain ⟨hx, hb, hr, hlocks, hml, hown, hts, hK⟩ := id E
  unfold f_X8_pensAt_b95 at hf
  refine lv_ior hx hb dX8_pensAt_95 ?_
  refine lt_e hf (fun x3_96 hx3_96 hf => ?_)
  refine kr_nm hx3_96 ?_
  refine lv_istore_n (lv' := [(3, .int x3_96), (0, .ref (adM G 0 0)), (1, .int x1), (2, .int x2), (4, .int x4)]) hx hb dX8_pensAt_96 rfl hl (by decide) rfl (fun ls hl => ?_)
  refine lt_e hf (fun x4_97 hx4_97 hf => ?_)
  refine lv_iinc (v := x4_97) (lv' := [(4, .int x4_97), (3, .int x3_96), (0, .ref (adM G 0 0)), (1, .int x1), (2, .int x2)]) hx hb dX8_pensAt_97 hl (k := 4) rfl (by rw [hx4_97]; rfl) (by decide) rfl (fun ls hl => ?_)
  refine lv_goto (tgt := 5) hx hb dX8_pensAt_100 (by decide) ?_
  exact hL5 _ _ _ _ _ _ _ _ hf hP hS (lv_sub hl [2, 3, 4, 1, 0] rfl)
set_option maxHeartbeats 4000000 in
set_option maxRecDepth 100000 in
theorem w_X8_pensAt_b72 {p : Program} {l : Launch} {e : Env} {s : State} {m : MethodId} {args : Array Value} {below : List Frame} {meth : Method} {c : Code} {G : GG} {sz : Nat} {r : Int32} {M' : Mem} (E : Cx p s m args meth c cX8_pensAt (some .int) 6 RX8 G) {L5 : Int32 → Int32 → Int32 → Int32 → Mem → Option (Int32 × Mem)} (hL5 : ∀ (x1 : Int32) (x2 : Int32) (x3 : Int32) (x4 : Int32) (M : Mem) (H : Heap) (locs : List Loc) (ls : Array Slot), L5 x1 x2 x3 x4 M = some (r, M') → PW G (AM G) (XM G) sz M s H → va_S (AM G) s.heap H locs → lv_has ls 6 [(0, .ref (adM G 0 0)), (1, .int x1), (2, .int x2), (3, .int x3), (4, .int x4)] → W p l e rm_X8_pensAt s m args below meth c H locs 0 0 (MQ below (va_Qi (fun (r2 : Int32) (_ : Unit) => r2 = r) (fun _ t => PW G (AM G) (XM G) sz M' t t.heap) (AM G)) args s 0 0 (AM G)) (F0 m 5 ls [])) {x1 : Int32} {x2 : Int32} {x3 : Int32} {x4 : Int32} {s0 : Int32} {M : Mem} {H : Heap} {locs : List Loc} {ls : Array Slot} (hf : f_X8_pensAt_b72 L5 x1 x2 x3 x4 s0 M = some (r, M')) (hP : PW G (AM G) (XM G) sz M s H) (hS : va_S (AM G) s.heap H locs) (hl : lv_has ls 6 [(0, .ref (adM G 0 0)), (1, .int x1), (2, .int x2), (3, .int x3), (4, .int x4)]) : W p l e rm_X8_pensAt s m args below meth c H locs 0 0 (MQ below (va_Qi (fun (r2 : Int32) (_ : Unit) => r2 = r) (fun _ t => PW G (AM G) (XM G) sz M' t t.heap) (AM G)) args s 0 0 (AM G)) (F0 m 72 ls [.int s0]) := by
  obtain ⟨hx, hb, hr, hlocks, hml, hown, hts, hK⟩ := id E
  unfold f_X8_pensAt_b72 at hf
  refine lv_istore (lv' := [(5, .int s0), (0, .ref (adM G 0 0)), (1, .int x1), (2, .int x2), (3, .int x3), (4, .int x4)]) hx hb dX8_pensAt_72 hl (by decide) rfl (fun ls hl => ?_)
  refine lv_iload_n hx hb dX8_pensAt_74 rfl (lv_at hl 4 rfl) ?_
  refine lv_iload hx hb dX8_pensAt_75 (lv_at hl 0 rfl) ?_
  refine lv_if_eq (tgt := 94) hx hb dX8_pensAt_77 (by decide) (fun hc => ?_) (fun hc => ?_)
  · have hf := if_t hf hc
    refine lv_iconst (v := 0) hx hb dX8_pensAt_94 (by decide) ?_
    exact w_X8_pensAt_b95 E hL5 hf hP hS (lv_sub hl [1, 2, 3, 5] rfl)
  · have hf := if_f hf hc
    refine lv_iconst (v := 1) hx hb dX8_pensAt_80 (by decide) ?_
    refine lv_aload_n hx hb dX8_pensAt_81 rfl (lv_at hl 1 rfl) ?_
    refine lv_iload hx hb dX8_pensAt_82 (lv_at hl 5 rfl) ?_
    refine lv_iconst (v := 2) hx hb dX8_pensAt_84 (by decide) ?_
    refine lv_idiv hx hb dX8_pensAt_85 (by decide) ?_
    refine lv_iconst (v := 4) hx hb dX8_pensAt_86 (by decide) ?_
    refine ob_e hf (fun r_87 M_87 hq hf => ?_)
    refine cv_X8_ln E hP hS hq w_916 ⟨Nat.le_of_ble_eq_true rfl, Nat.le_of_ble_eq_true rfl⟩ hl (Nat.le_of_ble_eq_true rfl) dX8_pensAt_87 ⟨Nat.le_of_ble_eq_true rfl, Nat.le_of_ble_eq_true rfl⟩ (fun H locs hP hS => ?_)
    refine lv_ishl hx hb dX8_pensAt_90 ?_
    refine lv_goto (tgt := 95) hx hb dX8_pensAt_91 (by decide) ?_
    exact w_X8_pensAt_b95 E hL5 hf hP hS (lv_sub hl [1, 2, 3, 5] rfl)
set_option maxHeartbeats 4000000 in
set_option maxRecDepth 100000 in
theorem w_X8_pensAt_b71 {p : Program} {l : Launch} {e : Env} {s : State} {m : MethodId} {args : Array Value} {below : List Frame} {meth : Method} {c : Code} {G : GG} {sz : Nat} {r : Int32} {M' : Mem} (E : Cx p s m args meth c cX8_pensAt (some .int) 6 RX8 G) {L5 : Int32 → Int32 → Int32 → Int32 → Mem → Option (Int32 × Mem)} (hL5 : ∀ (x1 : Int32) (x2 : Int32) (x3 : Int32) (x4 : Int32) (M : Mem) (H : Heap) (locs : List Loc) (ls : Array Slot), L5 x1 x2 x3 x4 M = some (r, M') → PW G (AM G) (XM G) sz M s H → va_S (AM G) s.heap H locs → lv_has ls 6 [(0, .ref (adM G 0 0)), (1, .int x1), (2, .int x2), (3, .int x3), (4, .int x4)] → W p l e rm_X8_pensAt s m args below meth c H locs 0 0 (MQ below (va_Qi (fun (r2 : Int32) (_ : Unit) => r2 = r) (fun _ t => PW G (AM G) (XM G) sz M' t t.heap) (AM G)) args s 0 0 (AM G)) (F0 m 5 ls [])) {x1 : Int32} {x2 : Int32} {x3 : Int32} {x4 : Int32} {M : Mem} {H : Heap} {locs : List Loc} {ls : Array Slot} (hf : f_X8_pensAt_b71 L5 x1 x2 x3 x4 M = some (r, M')) (hP : PW G (AM G) (XM G) sz M s H) (hS : va_S (AM G) s.heap H locs) (hl : lv_has ls 6 [(0, .ref (adM G 0 0)), (1, .int x1), (2, .int x2), (3, .int x3), (4, .int x4)]) : W p l e rm_X8_pensAt s m args below meth c H locs 0 0 (MQ below (va_Qi (fun (r2 : Int32) (_ : Unit) => r2 = r) (fun _ t => PW G (AM G) (XM G) sz M' t t.heap) (AM G)) args s 0 0 (AM G)) (F0 m 71 ls []) := by
  obtain ⟨hx, hb, hr, hlocks, hml, hown, hts, hK⟩ := id E
  unfold f_X8_pensAt_b71 at hf
  refine lv_iconst (v := 0) hx hb dX8_pensAt_71 (by decide) ?_
  exact w_X8_pensAt_b72 E hL5 hf hP hS (lv_sub hl [0, 1, 2, 3, 4] rfl)
set_option maxHeartbeats 4000000 in
set_option maxRecDepth 100000 in
theorem w_X8_pensAt_b5 {p : Program} {l : Launch} {e : Env} {s : State} {m : MethodId} {args : Array Value} {below : List Frame} {meth : Method} {c : Code} {G : GG} {sz : Nat} {r : Int32} {M' : Mem} (E : Cx p s m args meth c cX8_pensAt (some .int) 6 RX8 G) : ∀ fu : Nat, ∀ (x1 : Int32) (x2 : Int32) (x3 : Int32) (x4 : Int32) (M : Mem) (H : Heap) (locs : List Loc) (ls : Array Slot), f_X8_pensAt_b5 fu x1 x2 x3 x4 M = some (r, M') → PW G (AM G) (XM G) sz M s H → va_S (AM G) s.heap H locs → lv_has ls 6 [(0, .ref (adM G 0 0)), (1, .int x1), (2, .int x2), (3, .int x3), (4, .int x4)] → W p l e rm_X8_pensAt s m args below meth c H locs 0 0 (MQ below (va_Qi (fun (r2 : Int32) (_ : Unit) => r2 = r) (fun _ t => PW G (AM G) (XM G) sz M' t t.heap) (AM G)) args s 0 0 (AM G)) (F0 m 5 ls []) := by
  obtain ⟨hx, hb, hr, hlocks, hml, hown, hts, hK⟩ := id E
  intro fu
  induction fu with
  | zero => intro x1 x2 x3 x4 M H locs ls hf hP hS hl; cases hf
  | succ fu ih =>
    intro x1 x2 x3 x4 M H locs ls hf hP hS hl
    rw [f_X8_pensAt_b5.eq_2] at hf
    refine lv_iload hx hb dX8_pensAt_5 (lv_at hl 4 rfl) ?_
    refine lv_iconst (v := 2) hx hb dX8_pensAt_7 (by decide) ?_
    refine lv_aload_n hx hb dX8_pensAt_8 rfl (lv_at hl 0 rfl) ?_
    refine gf_X8_s E hP w_797 dX8_pensAt_9 ?_
    refine lv_iconst (v := 1) hx hb dX8_pensAt_12 (by decide) ?_
    refine la_M1 E hP (by decide) dX8_pensAt_13 ?_
    refine lv_imul hx hb dX8_pensAt_14 ?_
    refine lv_icmp_ge (tgt := 103) hx hb dX8_pensAt_15 (by decide) (fun hc => ?_) (fun hc => ?_)
    · have hf := if_t hf hc
      refine lv_iload_n hx hb dX8_pensAt_103 rfl (lv_at hl 3 rfl) ?_
      exact en_i hf hx hb hr rfl hlocks hP hS dX8_pensAt_104
    · have hf := if_f hf hc
      refine lv_aload_n hx hb dX8_pensAt_18 rfl (lv_at hl 0 rfl) ?_
      refine lv_iload hx hb dX8_pensAt_19 (lv_at hl 4 rfl) ?_
      refine lv_iconst (v := 2) hx hb dX8_pensAt_21 (by decide) ?_
      refine lv_idiv hx hb dX8_pensAt_22 (by decide) ?_
      refine ob_e hf (fun r_23 M_23 hq hf => ?_)
      refine cv_X8_isDrawn E hP hS hq w_935 ⟨Nat.le_of_ble_eq_true rfl, Nat.le_of_ble_eq_true rfl⟩ hl (Nat.le_of_ble_eq_true rfl) dX8_pensAt_23 ⟨Nat.le_of_ble_eq_true rfl, Nat.le_of_ble_eq_true rfl⟩ (fun H locs hP hS => ?_)
      refine lv_if_eq (tgt := 71) hx hb dX8_pensAt_26 (by decide) (fun hc => ?_) (fun hc => ?_)
      · have hf := if_t hf hc
        exact w_X8_pensAt_b71 E ih hf hP hS (lv_sub hl [0, 1, 2, 3, 4] rfl)
      · have hf := if_f hf hc
        refine lv_aload_n hx hb dX8_pensAt_29 rfl (lv_at hl 0 rfl) ?_
        refine lv_iload hx hb dX8_pensAt_30 (lv_at hl 4 rfl) ?_
        refine lv_iconst (v := 2) hx hb dX8_pensAt_32 (by decide) ?_
        refine lv_idiv hx hb dX8_pensAt_33 (by decide) ?_
        refine lv_iconst (v := 2) hx hb dX8_pensAt_34 (by decide) ?_
        refine lv_iload hx hb dX8_pensAt_35 (lv_at hl 4 rfl) ?_
        refine lv_iconst (v := 2) hx hb dX8_pensAt_37 (by decide) ?_
        refine lv_irem hx hb dX8_pensAt_38 (by decide) ?_
        refine lv_imul hx hb dX8_pensAt_39 ?_
        refine ob_e hf (fun r_40 M_40 hq hf => ?_)
        refine cv_X8_ln E hP hS hq w_916 ⟨Nat.le_of_ble_eq_true rfl, Nat.le_of_ble_eq_true rfl⟩ hl (Nat.le_of_ble_eq_true rfl) dX8_pensAt_40 ⟨Nat.le_of_ble_eq_true rfl, Nat.le_of_ble_eq_true rfl⟩ (fun H locs hP hS => ?_)
        refine lv_iload_n hx hb dX8_pensAt_43 rfl (lv_at hl 1 rfl) ?_
        refine lv_icmp_ne (tgt := 71) hx hb dX8_pensAt_44 (by decide) (fun hc => ?_) (fun hc => ?_)
        · have hf := if_f hf hc
          exact w_X8_pensAt_b71 E ih hf hP hS (lv_sub hl [0, 1, 2, 3, 4] rfl)
        · have hf := if_t hf hc
          refine lv_aload_n hx hb dX8_pensAt_47 rfl (lv_at hl 0 rfl) ?_
          refine lv_iload hx hb dX8_pensAt_48 (lv_at hl 4 rfl) ?_
          refine lv_iconst (v := 2) hx hb dX8_pensAt_50 (by decide) ?_
          refine lv_idiv hx hb dX8_pensAt_51 (by decide) ?_
          refine lv_iconst (v := 2) hx hb dX8_pensAt_52 (by decide) ?_
          refine lv_iload hx hb dX8_pensAt_53 (lv_at hl 4 rfl) ?_
          refine lv_iconst (v := 2) hx hb dX8_pensAt_55 (by decide) ?_
          refine lv_irem hx hb dX8_pensAt_56 (by decide) ?_
          refine lv_imul hx hb dX8_pensAt_57 ?_
          refine lv_iconst (v := 1) hx hb dX8_pensAt_58 (by decide) ?_
          refine lv_iadd hx hb dX8_pensAt_59 ?_
          refine ob_e hf (fun r_60 M_60 hq hf => ?_)
          refine cv_X8_ln E hP hS hq w_916 ⟨Nat.le_of_ble_eq_true rfl, Nat.le_of_ble_eq_true rfl⟩ hl (Nat.le_of_ble_eq_true rfl) dX8_pensAt_60 ⟨Nat.le_of_ble_eq_true rfl, Nat.le_of_ble_eq_true rfl⟩ (fun H locs hP hS => ?_)
          refine lv_iload_n hx hb dX8_pensAt_63 rfl (lv_at hl 2 rfl) ?_
          refine lv_icmp_ne (tgt := 71) hx hb dX8_pensAt_64 (by decide) (fun hc => ?_) (fun hc => ?_)
          · have hf := if_f hf hc
            exact w_X8_pensAt_b71 E ih hf hP hS (lv_sub hl [0, 1, 2, 3, 4] rfl)
          · have hf := if_t hf hc
            refine lv_iconst (v := 1) hx hb dX8_pensAt_67 (by decide) ?_
            refine lv_goto (tgt := 72) hx hb dX8_pensAt_68 (by decide) ?_
            exact w_X8_pensAt_b72 E ih hf hP hS (lv_sub hl [0, 1, 2, 3, 4] rfl)
set_option maxHeartbeats 4000000 in
set_option maxRecDepth 100000 in
theorem w_X8_pensAt {p : Program} {l : Launch} {e : Env} {s : State} {m : MethodId} {args : Array Value} {below : List Frame} {meth : Method} {c : Code} {G : GG} {sz : Nat} {r : Int32} {M' : Mem} (E : Cx p s m args meth c cX8_pensAt (some .int) 6 RX8 G) {x1 : Int32} {x2 : Int32} {M : Mem} {H : Heap} {locs : List Loc} {ls : Array Slot} (hf : f_X8_pensAt x1 x2 M = some (r, M')) (hP : PW G (AM G) (XM G) sz M s H) (hS : va_S (AM G) s.heap H locs) (hl : lv_has ls 6 [(0, .ref (adM G 0 0)), (1, .int x1), (2, .int x2)]) : W p l e rm_X8_pensAt s m args below meth c H locs 0 0 (MQ below (va_Qi (fun (r2 : Int32) (_ : Unit) => r2 = r) (fun _ t => PW G (AM G) (XM G) sz M' t t.heap) (AM G)) args s 0 0 (AM G)) (F0 m 0 ls []) := by
  obtain ⟨hx, hb, hr, hlocks, hml, hown, hts, hK⟩ := id E
  unfold f_X8_pensAt at hf
  refine lv_iconst (v := 0) hx hb dX8_pensAt_0 (by decide) ?_
  refine lv_istore_n (lv' := [(3, .int 0), (0, .ref (adM G 0 0)), (1, .int x1), (2, .int x2)]) hx hb dX8_pensAt_1 rfl hl (by decide) rfl (fun ls hl => ?_)
  refine lv_iconst (v := 0) hx hb dX8_pensAt_2 (by decide) ?_
  refine lv_istore (lv' := [(4, .int 0), (3, .int 0), (0, .ref (adM G 0 0)), (1, .int x1), (2, .int x2)]) hx hb dX8_pensAt_3 hl (by decide) rfl (fun ls hl => ?_)
  exact w_X8_pensAt_b5 E 1000 _ _ _ _ _ _ _ _ hf hP hS (lv_sub hl [2, 3, 4, 1, 0] rfl)
theorem c_X8_pensAt (l : Launch) {G : GG} {sz : Nat} {x1 : Int32} {x2 : Int32} {M : Mem} {r : Int32} {M' : Mem} (hf : f_X8_pensAt x1 x2 M = some (r, M')) : CtI l yX8_pensAt cX8_pensAt 6 (some .int) rm_X8_pensAt [.ref (adM G 0 0), .int x1, .int x2] G (AM G) (XM G) sz M r (XM G) sz M' := by
  refine Ct_of (by decide) (Nat.le_of_ble_eq_true rfl) (fun p e s m below meth c ls hx hb hr hlocks hml hown hts hK hP hl => ?_)
  exact w_X8_pensAt ⟨hx, hb, hr, hlocks, hml, hown, hts, hK⟩ hf hP va_S.rf hl
set_option maxRecDepth 100000 in
theorem cv_X8_pensAt {p : Program} {l : Launch} {e : Env} {R : Room} {s : State} {m : MethodId} {args : Array Value} {below : List Frame} {meth : Method} {c : Code} {H : Heap} {locs : List Loc} {cells slots : Nat} {Q : State → Prop} {cc : ByteArray} {pc nL index : Nat} {ret : Option FieldType} {own : String} {ls : Array Slot} {rest : List Value} {l' : List (Nat × Value)} {G : GG} {sz : Nat} {M : Mem} (E : Cx p s m args meth c cc ret nL own G) (hP : PW G (AM G) (XM G) sz M s H) (hS : va_S (AM G) s.heap H locs) {x1 : Int32} {x2 : Int32} {r : Int32} {M' : Mem} (hq : f_X8_pensAt x1 x2 M = some (r, M')) (w1 : Cond.methodLink own index yX8_pensAt ∈ lw_all) (hR : 3 ≤ R.frames ∧ 68 ≤ R.locals) (hl : lv_has ls nL l') (hrest : (rest.map fun v => v.category).sum ≤ 8) (hdg : decode cc pc = .ok (.invokevirtual index, 3)) (hcs : cells ≤ R.cells ∧ slots ≤ R.slots)
    (kk : ∀ (H1 : Heap) (locs1 : List Loc), PW G (AM G) (XM G) sz M' s H1 → va_S (AM G) s.heap H1 locs1 → W p l e R s m args below meth c H1 locs1 cells slots Q (F0 m (pc + 3) ls (.int r :: rest))) : W p l e R s m args below meth c H locs cells slots Q (F0 m pc ls (.int x2 :: .int x1 :: .ref (adM G 0 0) :: rest)) := by
  obtain ⟨hx, hb, hr, hlocks, hml, hown, hts, hK⟩ := E
  exact kc_i (kc_runV (na := 2) (q := (RX8, TX8, 16)) hx hb hml hts hown hK hP 0 0 ⟨rfl, by decide⟩ rfl rfl rfl (c_X8_pensAt l hq) w1 w_1064 ws_45 w_9 w_1065 (by decide +kernel) hR rfl hl rfl hrest hdg hcs) hS kk
/-! X8_isSome -/
abbrev rm_X8_isSome : Room := { frames := 0, cells := 0, slots := 0, locals := 0 }
def f_X8_isSome_b13 (s0 : Int32) (M : Mem) : Option (Int32 × Mem) :=
ck (bl s0) <|
some (s0, M)
def f_X8_isSome (x0 : Int32) (M : Mem) : Option (Int32 × Mem) :=
(if (x0 &&& (x0 - 1)) = 0 then
  f_X8_isSome_b13 0 M
else
  f_X8_isSome_b13 1 M)
set_option maxHeartbeats 4000000 in
set_option maxRecDepth 100000 in
theorem w_X8_isSome_b13 {p : Program} {l : Launch} {e : Env} {s : State} {m : MethodId} {args : Array Value} {below : List Frame} {meth : Method} {c : Code} {G : GG} {sz : Nat} {r : Int32} {M' : Mem} (E : Cx p s m args meth c cX8_isSome (some .boolean) 1 RX8 G) {s0 : Int32} {M : Mem} {H : Heap} {locs : List Loc} {ls : Array Slot} (hf : f_X8_isSome_b13 s0 M = some (r, M')) (hP : PW G (AM G) (XM G) sz M s H) (hS : va_S (AM G) s.heap H locs) (hl : lv_has ls 1 []) : W p l e rm_X8_isSome s m args below meth c H locs 0 0 (MQ below (va_Qi (fun (r2 : Int32) (_ : Unit) => r2 = r) (fun _ t => PW G (AM G) (XM G) sz M' t t.heap) (AM G)) args s 0 0 (AM G)) (F0 m 13 ls [.int s0]) := by
  obtain ⟨hx, hb, hr, hlocks, hml, hown, hts, hK⟩ := id E
  unfold f_X8_isSome_b13 at hf
  refine ck_e hf (fun hn hf => ?_)
  exact en_i hf hx hb hr (bl_nar hn) hlocks hP hS dX8_isSome_13
set_option maxHeartbeats 4000000 in
set_option maxRecDepth 100000 in
theorem w_X8_isSome {p : Program} {l : Launch} {e : Env} {s : State} {m : MethodId} {args : Array Value} {below : List Frame} {meth : Method} {c : Code} {G : GG} {sz : Nat} {r : Int32} {M' : Mem} (E : Cx p s m args meth c cX8_isSome (some .boolean) 1 RX8 G) {x0 : Int32} {M : Mem} {H : Heap} {locs : List Loc} {ls : Array Slot} (hf : f_X8_isSome x0 M = some (r, M')) (hP : PW G (AM G) (XM G) sz M s H) (hS : va_S (AM G) s.heap H locs) (hl : lv_has ls 1 [(0, .int x0)]) : W p l e rm_X8_isSome s m args below meth c H locs 0 0 (MQ below (va_Qi (fun (r2 : Int32) (_ : Unit) => r2 = r) (fun _ t => PW G (AM G) (XM G) sz M' t t.heap) (AM G)) args s 0 0 (AM G)) (F0 m 0 ls []) := by
  obtain ⟨hx, hb, hr, hlocks, hml, hown, hts, hK⟩ := id E
  unfold f_X8_isSome at hf
  refine lv_iload_n hx hb dX8_isSome_0 rfl (lv_at hl 0 rfl) ?_
  refine lv_iload_n hx hb dX8_isSome_1 rfl (lv_at hl 0 rfl) ?_
  refine lv_iconst (v := 1) hx hb dX8_isSome_2 (by decide) ?_
  refine lv_isub hx hb dX8_isSome_3 ?_
  refine lv_iand hx hb dX8_isSome_4 ?_
  refine lv_if_eq (tgt := 12) hx hb dX8_isSome_5 (by decide) (fun hc => ?_) (fun hc => ?_)
  · have hf := if_t hf hc
    refine lv_iconst (v := 0) hx hb dX8_isSome_12 (by decide) ?_
    exact w_X8_isSome_b13 E hf hP hS (lv_sub hl [] rfl)
  · have hf := if_f hf hc
    refine lv_iconst (v := 1) hx hb dX8_isSome_8 (by decide) ?_
    refine lv_goto (tgt := 13) hx hb dX8_isSome_9 (by decide) ?_
    exact w_X8_isSome_b13 E hf hP hS (lv_sub hl [] rfl)
theorem c_X8_isSome (l : Launch) {G : GG} {sz : Nat} {x0 : Int32} {M : Mem} {r : Int32} {M' : Mem} (hf : f_X8_isSome x0 M = some (r, M')) : CtI l yX8_isSome cX8_isSome 1 (some .boolean) rm_X8_isSome [.int x0] G (AM G) (XM G) sz M r (XM G) sz M' := by
  refine Ct_of (by decide) (Nat.le_of_ble_eq_true rfl) (fun p e s m below meth c ls hx hb hr hlocks hml hown hts hK hP hl => ?_)
  exact w_X8_isSome ⟨hx, hb, hr, hlocks, hml, hown, hts, hK⟩ hf hP va_S.rf hl
set_option maxRecDepth 100000 in
theorem cv_X8_isSome {p : Program} {l : Launch} {e : Env} {R : Room} {s : State} {m : MethodId} {args : Array Value} {below : List Frame} {meth : Method} {c : Code} {H : Heap} {locs : List Loc} {cells slots : Nat} {Q : State → Prop} {cc : ByteArray} {pc nL index : Nat} {ret : Option FieldType} {own : String} {ls : Array Slot} {rest : List Value} {l' : List (Nat × Value)} {G : GG} {sz : Nat} {M : Mem} (E : Cx p s m args meth c cc ret nL own G) (hP : PW G (AM G) (XM G) sz M s H) (hS : va_S (AM G) s.heap H locs) {x0 : Int32} {r : Int32} {M' : Mem} (hq : f_X8_isSome x0 M = some (r, M')) (w1 : Cond.methodLink own index yX8_isSome ∈ lw_all) (hR : 1 ≤ R.frames ∧ 20 ≤ R.locals) (hl : lv_has ls nL l') (hrest : (rest.map fun v => v.category).sum ≤ 8) (hdg : decode cc pc = .ok (.invokestatic index, 3)) (hcs : cells ≤ R.cells ∧ slots ≤ R.slots)
    (kk : ∀ (H1 : Heap) (locs1 : List Loc), PW G (AM G) (XM G) sz M' s H1 → va_S (AM G) s.heap H1 locs1 → W p l e R s m args below meth c H1 locs1 cells slots Q (F0 m (pc + 3) ls (.int r :: rest))) : W p l e R s m args below meth c H locs cells slots Q (F0 m pc ls (.int x0 :: rest)) := by
  obtain ⟨hx, hb, hr, hlocks, hml, hown, hts, hK⟩ := E
  exact kc_i (kc_runS (na := 1) hx hb hml hts hown hK hP (c_X8_isSome l hq) w1 w_1067 w_9 w_1068 (by decide +kernel) hR rfl hl rfl hrest hdg hcs) hS kk
/-! X8_seams -/
abbrev rm_X8_seams : Room := { frames := 3, cells := 0, slots := 0, locals := 68 }
def f_X8_seams_b144 (L78 : Int32 → Int32 → Int32 → Int32 → Int32 → Int32 → Mem → Option (Int32 × Mem)) (x1 : Int32) (x2 : Int32) (x3 : Int32) (x4 : Int32) (x6 : Int32) (s0 : Int32) (M : Mem) : Option (Int32 × Mem) :=
lt (x6 + 1) fun x6_146 =>
L78 x1 x2 x3 x4 s0 x6_146 M
def f_X8_seams_b143 (L78 : Int32 → Int32 → Int32 → Int32 → Int32 → Int32 → Mem → Option (Int32 × Mem)) (x1 : Int32) (x2 : Int32) (x3 : Int32) (x4 : Int32) (x6 : Int32) (M : Mem) : Option (Int32 × Mem) :=
f_X8_seams_b144 L78 x1 x2 x3 x4 x6 0 M
def f_X8_seams_b139 (L78 : Int32 → Int32 → Int32 → Int32 → Int32 → Int32 → Mem → Option (Int32 × Mem)) (x1 : Int32) (x2 : Int32) (x3 : Int32) (x4 : Int32) (x6 : Int32) (M : Mem) : Option (Int32 × Mem) :=
f_X8_seams_b144 L78 x1 x2 x3 x4 x6 1 M
def f_X8_seams_b163 (L4 : Int32 → Int32 → Mem → Option (Int32 × Mem)) (x2 : Int32) (s0 : Int32) (s1 : Int32) (M : Mem) : Option (Int32 × Mem) :=
lt ((s0 + s1)) fun x1_164 =>
lt (x2 + 1) fun x2_165 =>
L4 x1_164 x2_165 M
def f_X8_seams_b78 (L4 : Int32 → Int32 → Mem → Option (Int32 × Mem)) : Nat → Int32 → Int32 → Int32 → Int32 → Int32 → Int32 → Mem → Option (Int32 × Mem)
  | 0 => fun _ _ _ _ _ _ _ => none
  | fu + 1 => fun x1 x2 x3 x4 x5 x6 M =>
(if x2 ≤ x6 then
  (if x5 = 0 then
    f_X8_seams_b163 L4 x2 x1 0 M
  else
    f_X8_seams_b163 L4 x2 x1 1 M)
else
  (if x5 = 0 then
    f_X8_seams_b143 (f_X8_seams_b78 L4 fu) x1 x2 x3 x4 x6 M
  else
    ob (f_X8_isDrawn (x6 / 2) M) fun r_94 M_94 =>
    (if r_94 = 0 then
      f_X8_seams_b139 (f_X8_seams_b78 L4 fu) x1 x2 x3 x4 x6 M_94
    else
      ob (f_X8_ln (x6 / 2) (2 * (x6 - x6 / 2 * 2)) M_94) fun r_111 M_111 =>
      (if r_111 = x3 then
        ob (f_X8_ln (x6 / 2) ((2 * (x6 - x6 / 2 * 2)) + 1) M_111) fun r_131 M_131 =>
        (if r_131 = x4 then
          f_X8_seams_b143 (f_X8_seams_b78 L4 fu) x1 x2 x3 x4 x6 M_131
        else
          f_X8_seams_b139 (f_X8_seams_b78 L4 fu) x1 x2 x3 x4 x6 M_131)
      else
        f_X8_seams_b139 (f_X8_seams_b78 L4 fu) x1 x2 x3 x4 x6 M_111))))
def f_X8_seams_b73 (L4 : Int32 → Int32 → Mem → Option (Int32 × Mem)) (x1 : Int32) (x2 : Int32) (x3 : Int32) (x4 : Int32) (s0 : Int32) (M : Mem) : Option (Int32 × Mem) :=
f_X8_seams_b78 L4 1000 x1 x2 x3 x4 s0 0 M
def f_X8_seams_b72 (L4 : Int32 → Int32 → Mem → Option (Int32 × Mem)) (x1 : Int32) (x2 : Int32) (x3 : Int32) (x4 : Int32) (M : Mem) : Option (Int32 × Mem) :=
f_X8_seams_b73 L4 x1 x2 x3 x4 0 M
def f_X8_seams_b4 : Nat → Int32 → Int32 → Mem → Option (Int32 × Mem)
  | 0 => fun _ _ _ => none
  | fu + 1 => fun x1 x2 M =>
(if (2 * (M 0 1 (ix 1))) ≤ x2 then
  some (x1, M)
else
  ob (f_X8_ln (x2 / 2) (2 * (x2 - x2 / 2 * 2)) M) fun r_25 M_25 =>
  ob (f_X8_ln (x2 / 2) ((2 * (x2 - x2 / 2 * 2)) + 1) M_25) fun r_40 M_40 =>
  ob (f_X8_isDrawn (x2 / 2) M_40) fun r_49 M_49 =>
  (if r_49 = 0 then
    f_X8_seams_b72 (f_X8_seams_b4 fu) x1 x2 r_25 r_40 M_49
  else
    ob (f_X8_pensAt r_25 r_40 M_49) fun r_59 M_59 =>
    ob (f_X8_isSome r_59 M_59) fun r_62 M_62 =>
    (if r_62 = 0 then
      f_X8_seams_b72 (f_X8_seams_b4 fu) x1 x2 r_25 r_40 M_62
    else
      f_X8_seams_b73 (f_X8_seams_b4 fu) x1 x2 r_25 r_40 1 M_62)))
def f_X8_seams (M : Mem) : Option (Int32 × Mem) :=
f_X8_seams_b4 1000 0 0 M
set_option maxHeartbeats 4000000 in
set_option maxRecDepth 100000 in
theorem w_X8_seams_b144 {p : Program} {l : Launch} {e : Env} {s : State} {m : MethodId} {args : Array Value} {below : List Frame} {meth : Method} {c : Code} {G : GG} {sz : Nat} {r : Int32} {M' : Mem} (E : Cx p s m args meth c cX8_seams (some .int) 7 RX8 G) {L78 : Int32 → Int32 → Int32 → Int32 → Int32 → Int32 → Mem → Option (Int32 × Mem)} (hL78 : ∀ (x1 : Int32) (x2 : Int32) (x3 : Int32) (x4 : Int32) (x5 : Int32) (x6 : Int32) (M : Mem) (H : Heap) (locs : List Loc) (ls : Array Slot), L78 x1 x2 x3 x4 x5 x6 M = some (r, M') → PW G (AM G) (XM G) sz M s H → va_S (AM G) s.heap H locs → lv_has ls 7 [(0, .ref (adM G 0 0)), (1, .int x1), (2, .int x2), (3, .int x3), (4, .int x4), (5, .int x5), (6, .int x6)] → W p l e rm_X8_seams s m args below meth c H locs 0 0 (MQ below (va_Qi (fun (r2 : Int32) (_ : Unit) => r2 = r) (fun _ t => PW G (AM G) (XM G) sz M' t t.heap) (AM G)) args s 0 0 (AM G)) (F0 m 78 ls [])) {x1 : Int32} {x2 : Int32} {x3 : Int32} {x4 : Int32} {x6 : Int32} {s0 : Int32} {M : Mem} {H : Heap} {locs : List Loc} {ls : Array Slot} (hf : f_X8_seams_b144 L78 x1 x2 x3 x4 x6 s0 M = some (r, M')) (hP : PW G (AM G) (XM G) sz M s H) (hS : va_S (AM G) s.heap H locs) (hl : lv_has ls 7 [(0, .ref (adM G 0 0)), (1, .int x1), (2, .int x2), (3, .int x3), (4, .int x4), (6, .int x6)]) : W p l e rm_X8_seams s m args below meth c H locs 0 0 (MQ below (va_Qi (fun (r2 : Int32) (_ : Unit) => r2 = r) (fun _ t => PW G (AM G) (XM G) sz M' t t.heap) (AM G)) args s 0 0 (AM G)) (F0 m 144 ls [.int s0]) := by
  obtain ⟨hx, hb, hr, hlocks, hml, hown, hts, hK⟩ := id E
  unfold f_X8_seams_b144 at hf
  refine lv_istore (lv' := [(5, .int s0), (0, .ref (adM G 0 0)), (1, .int x1), (2, .int x2), (3, .int x3), (4, .int x4), (6, .int x6)]) hx hb dX8_seams_144 hl (by decide) rfl (fun ls hl => ?_)
  refine lt_e hf (fun x6_146 hx6_146 hf => ?_)
  refine lv_iinc (v := x6_146) (lv' := [(6, .int x6_146), (5, .int s0), (0, .ref (adM G 0 0)), (1, .int x1), (2, .int x2), (3, .int x3), (4, .int x4)]) hx hb dX8_seams_146 hl (k := 6) rfl (by rw [hx6_146]; rfl) (by decide) rfl (fun ls hl => ?_)
  refine lv_goto (tgt := 78) hx hb dX8_seams_149 (by decide) ?_
  exact hL78 _ _ _ _ _ _ _ _ _ _ hf hP hS (lv_sub hl [2, 3, 4, 5, 6, 1, 0] rfl)
set_option maxHeartbeats 4000000 in
set_option maxRecDepth 100000 in
theorem w_X8_seams_b143 {p : Program} {l : Launch} {e : Env} {s : State} {m : MethodId} {args : Array Value} {below : List Frame} {meth : Method} {c : Code} {G : GG} {sz : Nat} {r : Int32} {M' : Mem} (E : Cx p s m args meth c cX8_seams (some .int) 7 RX8 G) {L78 : Int32 → Int32 → Int32 → Int32 → Int32 → Int32 → Mem → Option (Int32 × Mem)} (hL78 : ∀ (x1 : Int32) (x2 : Int32) (x3 : Int32) (x4 : Int32) (x5 : Int32) (x6 : Int32) (M : Mem) (H : Heap) (locs : List Loc) (ls : Array Slot), L78 x1 x2 x3 x4 x5 x6 M = some (r, M') → PW G (AM G) (XM G) sz M s H → va_S (AM G) s.heap H locs → lv_has ls 7 [(0, .ref (adM G 0 0)), (1, .int x1), (2, .int x2), (3, .int x3), (4, .int x4), (5, .int x5), (6, .int x6)] → W p l e rm_X8_seams s m args below meth c H locs 0 0 (MQ below (va_Qi (fun (r2 : Int32) (_ : Unit) => r2 = r) (fun _ t => PW G (AM G) (XM G) sz M' t t.heap) (AM G)) args s 0 0 (AM G)) (F0 m 78 ls [])) {x1 : Int32} {x2 : Int32} {x3 : Int32} {x4 : Int32} {x6 : Int32} {M : Mem} {H : Heap} {locs : List Loc} {ls : Array Slot} (hf : f_X8_seams_b143 L78 x1 x2 x3 x4 x6 M = some (r, M')) (hP : PW G (AM G) (XM G) sz M s H) (hS : va_S (AM G) s.heap H locs) (hl : lv_has ls 7 [(0, .ref (adM G 0 0)), (1, .int x1), (2, .int x2), (3, .int x3), (4, .int x4), (6, .int x6)]) : W p l e rm_X8_seams s m args below meth c H locs 0 0 (MQ below (va_Qi (fun (r2 : Int32) (_ : Unit) => r2 = r) (fun _ t => PW G (AM G) (XM G) sz M' t t.heap) (AM G)) args s 0 0 (AM G)) (F0 m 143 ls []) := by
  obtain ⟨hx, hb, hr, hlocks, hml, hown, hts, hK⟩ := id E
  unfold f_X8_seams_b143 at hf
  refine lv_iconst (v := 0) hx hb dX8_seams_143 (by decide) ?_
  exact w_X8_seams_b144 E hL78 hf hP hS (lv_sub hl [0, 1, 2, 3, 4, 5] rfl)
set_option maxHeartbeats 4000000 in
set_option maxRecDepth 100000 in
theorem w_X8_seams_b139 {p : Program} {l : Launch} {e : Env} {s : State} {m : MethodId} {args : Array Value} {below : List Frame} {meth : Method} {c : Code} {G : GG} {sz : Nat} {r : Int32} {M' : Mem} (E : Cx p s m args meth c cX8_seams (some .int) 7 RX8 G) {L78 : Int32 → Int32 → Int32 → Int32 → Int32 → Int32 → Mem → Option (Int32 × Mem)} (hL78 : ∀ (x1 : Int32) (x2 : Int32) (x3 : Int32) (x4 : Int32) (x5 : Int32) (x6 : Int32) (M : Mem) (H : Heap) (locs : List Loc) (ls : Array Slot), L78 x1 x2 x3 x4 x5 x6 M = some (r, M') → PW G (AM G) (XM G) sz M s H → va_S (AM G) s.heap H locs → lv_has ls 7 [(0, .ref (adM G 0 0)), (1, .int x1), (2, .int x2), (3, .int x3), (4, .int x4), (5, .int x5), (6, .int x6)] → W p l e rm_X8_seams s m args below meth c H locs 0 0 (MQ below (va_Qi (fun (r2 : Int32) (_ : Unit) => r2 = r) (fun _ t => PW G (AM G) (XM G) sz M' t t.heap) (AM G)) args s 0 0 (AM G)) (F0 m 78 ls [])) {x1 : Int32} {x2 : Int32} {x3 : Int32} {x4 : Int32} {x6 : Int32} {M : Mem} {H : Heap} {locs : List Loc} {ls : Array Slot} (hf : f_X8_seams_b139 L78 x1 x2 x3 x4 x6 M = some (r, M')) (hP : PW G (AM G) (XM G) sz M s H) (hS : va_S (AM G) s.heap H locs) (hl : lv_has ls 7 [(0, .ref (adM G 0 0)), (1, .int x1), (2, .int x2), (3, .int x3), (4, .int x4), (6, .int x6)]) : W p l e rm_X8_seams s m args below meth c H locs 0 0 (MQ below (va_Qi (fun (r2 : Int32) (_ : Unit) => r2 = r) (fun _ t => PW G (AM G) (XM G) sz M' t t.heap) (AM G)) args s 0 0 (AM G)) (F0 m 139 ls []) := by
  obtain ⟨hx, hb, hr, hlocks, hml, hown, hts, hK⟩ := id E
  unfold f_X8_seams_b139 at hf
  refine lv_iconst (v := 1) hx hb dX8_seams_139 (by decide) ?_
  refine lv_goto (tgt := 144) hx hb dX8_seams_140 (by decide) ?_
  exact w_X8_seams_b144 E hL78 hf hP hS (lv_sub hl [0, 1, 2, 3, 4, 5] rfl)
set_option maxHeartbeats 4000000 in
set_option maxRecDepth 100000 in
theorem w_X8_seams_b163 {p : Program} {l : Launch} {e : Env} {s : State} {m : MethodId} {args : Array Value} {below : List Frame} {meth : Method} {c : Code} {G : GG} {sz : Nat} {r : Int32} {M' : Mem} (E : Cx p s m args meth c cX8_seams (some .int) 7 RX8 G) {L4 : Int32 → Int32 → Mem → Option (Int32 × Mem)} (hL4 : ∀ (x1 : Int32) (x2 : Int32) (M : Mem) (H : Heap) (locs : List Loc) (ls : Array Slot), L4 x1 x2 M = some (r, M') → PW G (AM G) (XM G) sz M s H → va_S (AM G) s.heap H locs → lv_has ls 7 [(0, .ref (adM G 0 0)), (1, .int x1), (2, .int x2)] → W p l e rm_X8_seams s m args below meth c H locs 0 0 (MQ below (va_Qi (fun (r2 : Int32) (_ : Unit) => r2 = r) (fun _ t => PW G (AM G) (XM G) sz M' t t.heap) (AM G)) args s 0 0 (AM G)) (F0 m 4 ls [])) {x2 : Int32} {s0 : Int32} {s1 : Int32} {M : Mem} {H : Heap} {locs : List Loc} {ls : Array Slot} (hf : f_X8_seams_b163 L4 x2 s0 s1 M = some (r, M')) (hP : PW G (AM G) (XM G) sz M s H) (hS : va_S (AM G) s.heap H locs) (hl : lv_has ls 7 [(0, .ref (adM G 0 0)), (2, .int x2)]) : W p l e rm_X8_seams s m args below meth c H locs 0 0 (MQ below (va_Qi (fun (r2 : Int32) (_ : Unit) => r2 = r) (fun _ t => PW G (AM G) (XM G) sz M' t t.heap) (AM G)) args s 0 0 (AM G)) (F0 m 163 ls [.int s1, .int s0]) := by
  obtain ⟨hx, hb, hr, hlocks, hml, hown, hts, hK⟩ := id E
  unfold f_X8_seams_b163 at hf
  refine lv_iadd hx hb dX8_seams_163 ?_
  refine lt_e hf (fun x1_164 hx1_164 hf => ?_)
  refine kr_nm hx1_164 ?_
  refine lv_istore_n (lv' := [(1, .int x1_164), (0, .ref (adM G 0 0)), (2, .int x2)]) hx hb dX8_seams_164 rfl hl (by decide) rfl (fun ls hl => ?_)
  refine lt_e hf (fun x2_165 hx2_165 hf => ?_)
  refine lv_iinc (v := x2_165) (lv' := [(2, .int x2_165), (1, .int x1_164), (0, .ref (adM G 0 0))]) hx hb dX8_seams_165 hl (k := 2) rfl (by rw [hx2_165]; rfl) (by decide) rfl (fun ls hl => ?_)
  refine lv_goto (tgt := 4) hx hb dX8_seams_168 (by decide) ?_
  exact hL4 _ _ _ _ _ _ hf hP hS (lv_sub hl [2, 1, 0] rfl)
set_option maxHeartbeats 4000000 in
set_option maxRecDepth 100000 in
theorem w_X8_seams_b78 {p : Program} {l : Launch} {e : Env} {s : State} {m : MethodId} {args : Array Value} {below : List Frame} {meth : Method} {c : Code} {G : GG} {sz : Nat} {r : Int32} {M' : Mem} (E : Cx p s m args meth c cX8_seams (some .int) 7 RX8 G) {L4 : Int32 → Int32 → Mem → Option (Int32 × Mem)} (hL4 : ∀ (x1 : Int32) (x2 : Int32) (M : Mem) (H : Heap) (locs : List Loc) (ls : Array Slot), L4 x1 x2 M = some (r, M') → PW G (AM G) (XM G) sz M s H → va_S (AM G) s.heap H locs → lv_has ls 7 [(0, .ref (adM G 0 0)), (1, .int x1), (2, .int x2)] → W p l e rm_X8_seams s m args below meth c H locs 0 0 (MQ below (va_Qi (fun (r2 : Int32) (_ : Unit) => r2 = r) (fun _ t => PW G (AM G) (XM G) sz M' t t.heap) (AM G)) args s 0 0 (AM G)) (F0 m 4 ls [])) : ∀ fu : Nat, ∀ (x1 : Int32) (x2 : Int32) (x3 : Int32) (x4 : Int32) (x5 : Int32) (x6 : Int32) (M : Mem) (H : Heap) (locs : List Loc) (ls : Array Slot), f_X8_seams_b78 L4 fu x1 x2 x3 x4 x5 x6 M = some (r, M') → PW G (AM G) (XM G) sz M s H → va_S (AM G) s.heap H locs → lv_has ls 7 [(0, .ref (adM G 0 0)), (1, .int x1), (2, .int x2), (3, .int x3), (4, .int x4), (5, .int x5), (6, .int x6)] → W p l e rm_X8_seams s m args below meth c H locs 0 0 (MQ below (va_Qi (fun (r2 : Int32) (_ : Unit) => r2 = r) (fun _ t => PW G (AM G) (XM G) sz M' t t.heap) (AM G)) args s 0 0 (AM G)) (F0 m 78 ls []) := by
  obtain ⟨hx, hb, hr, hlocks, hml, hown, hts, hK⟩ := id E
  intro fu
  induction fu with
  | zero => intro x1 x2 x3 x4 x5 x6 M H locs ls hf hP hS hl; cases hf
  | succ fu ih =>
    intro x1 x2 x3 x4 x5 x6 M H locs ls hf hP hS hl
    rw [f_X8_seams_b78.eq_2] at hf
    refine lv_iload hx hb dX8_seams_78 (lv_at hl 6 rfl) ?_
    refine lv_iload_n hx hb dX8_seams_80 rfl (lv_at hl 2 rfl) ?_
    refine lv_icmp_ge (tgt := 152) hx hb dX8_seams_81 (by decide) (fun hc => ?_) (fun hc => ?_)
    · have hf := if_t hf hc
      refine lv_iload_n hx hb dX8_seams_152 rfl (lv_at hl 1 rfl) ?_
      refine lv_iload hx hb dX8_seams_153 (lv_at hl 5 rfl) ?_
      refine lv_if_eq (tgt := 162) hx hb dX8_seams_155 (by decide) (fun hc => ?_) (fun hc => ?_)
      · have hf := if_t hf hc
        refine lv_iconst (v := 0) hx hb dX8_seams_162 (by decide) ?_
        exact w_X8_seams_b163 E hL4 hf hP hS (lv_sub hl [0, 2] rfl)
      · have hf := if_f hf hc
        refine lv_iconst (v := 1) hx hb dX8_seams_158 (by decide) ?_
        refine lv_goto (tgt := 163) hx hb dX8_seams_159 (by decide) ?_
        exact w_X8_seams_b163 E hL4 hf hP hS (lv_sub hl [0, 2] rfl)
    · have hf := if_f hf hc
      refine lv_iload hx hb dX8_seams_84 (lv_at hl 5 rfl) ?_
      refine lv_if_eq (tgt := 143) hx hb dX8_seams_86 (by decide) (fun hc => ?_) (fun hc => ?_)
      · have hf := if_t hf hc
        exact w_X8_seams_b143 E ih hf hP hS (lv_sub hl [0, 1, 2, 3, 4, 6] rfl)
      · have hf := if_f hf hc
        refine lv_aload_n hx hb dX8_seams_89 rfl (lv_at hl 0 rfl) ?_
        refine lv_iload hx hb dX8_seams_90 (lv_at hl 6 rfl) ?_
        refine lv_iconst (v := 2) hx hb dX8_seams_92 (by decide) ?_
        refine lv_idiv hx hb dX8_seams_93 (by decide) ?_
        refine ob_e hf (fun r_94 M_94 hq hf => ?_)
        refine cv_X8_isDrawn E hP hS hq w_935 ⟨Nat.le_of_ble_eq_true rfl, Nat.le_of_ble_eq_true rfl⟩ hl (Nat.le_of_ble_eq_true rfl) dX8_seams_94 ⟨Nat.le_of_ble_eq_true rfl, Nat.le_of_ble_eq_true rfl⟩ (fun H locs hP hS => ?_)
        refine lv_if_eq (tgt := 139) hx hb dX8_seams_97 (by decide) (fun hc => ?_) (fun hc => ?_)
        · have hf := if_t hf hc
          exact w_X8_seams_b139 E ih hf hP hS (lv_sub hl [0, 1, 2, 3, 4, 6] rfl)
        · have hf := if_f hf hc
          refine lv_aload_n hx hb dX8_seams_100 rfl (lv_at hl 0 rfl) ?_
          refine lv_iload hx hb dX8_seams_101 (lv_at hl 6 rfl) ?_
          refine lv_iconst (v := 2) hx hb dX8_seams_103 (by decide) ?_
          refine lv_idiv hx hb dX8_seams_104 (by decide) ?_
          refine lv_iconst (v := 2) hx hb dX8_seams_105 (by decide) ?_
          refine lv_iload hx hb dX8_seams_106 (lv_at hl 6 rfl) ?_
          refine lv_iconst (v := 2) hx hb dX8_seams_108 (by decide) ?_
          refine lv_irem hx hb dX8_seams_109 (by decide) ?_
          refine lv_imul hx hb dX8_seams_110 ?_
          refine ob_e hf (fun r_111 M_111 hq hf => ?_)
          refine cv_X8_ln E hP hS hq w_916 ⟨Nat.le_of_ble_eq_true rfl, Nat.le_of_ble_eq_true rfl⟩ hl (Nat.le_of_ble_eq_true rfl) dX8_seams_111 ⟨Nat.le_of_ble_eq_true rfl, Nat.le_of_ble_eq_true rfl⟩ (fun H locs hP hS => ?_)
          refine lv_iload_n hx hb dX8_seams_114 rfl (lv_at hl 3 rfl) ?_
          refine lv_icmp_ne (tgt := 139) hx hb dX8_seams_115 (by decide) (fun hc => ?_) (fun hc => ?_)
          · have hf := if_f hf hc
            exact w_X8_seams_b139 E ih hf hP hS (lv_sub hl [0, 1, 2, 3, 4, 6] rfl)
          · have hf := if_t hf hc
            refine lv_aload_n hx hb dX8_seams_118 rfl (lv_at hl 0 rfl) ?_
            refine lv_iload hx hb dX8_seams_119 (lv_at hl 6 rfl) ?_
            refine lv_iconst (v := 2) hx hb dX8_seams_121 (by decide) ?_
            refine lv_idiv hx hb dX8_seams_122 (by decide) ?_
            refine lv_iconst (v := 2) hx hb dX8_seams_123 (by decide) ?_
            refine lv_iload hx hb dX8_seams_124 (lv_at hl 6 rfl) ?_
            refine lv_iconst (v := 2) hx hb dX8_seams_126 (by decide) ?_
            refine lv_irem hx hb dX8_seams_127 (by decide) ?_
            refine lv_imul hx hb dX8_seams_128 ?_
            refine lv_iconst (v := 1) hx hb dX8_seams_129 (by decide) ?_
            refine lv_iadd hx hb dX8_seams_130 ?_
            refine ob_e hf (fun r_131 M_131 hq hf => ?_)
            refine cv_X8_ln E hP hS hq w_916 ⟨Nat.le_of_ble_eq_true rfl, Nat.le_of_ble_eq_true rfl⟩ hl (Nat.le_of_ble_eq_true rfl) dX8_seams_131 ⟨Nat.le_of_ble_eq_true rfl, Nat.le_of_ble_eq_true rfl⟩ (fun H locs hP hS => ?_)
            refine lv_iload hx hb dX8_seams_134 (lv_at hl 4 rfl) ?_
            refine lv_icmp_eq (tgt := 143) hx hb dX8_seams_136 (by decide) (fun hc => ?_) (fun hc => ?_)
            · have hf := if_t hf hc
              exact w_X8_seams_b143 E ih hf hP hS (lv_sub hl [0, 1, 2, 3, 4, 6] rfl)
            · have hf := if_f hf hc
              exact w_X8_seams_b139 E ih hf hP hS (lv_sub hl [0, 1, 2, 3, 4, 6] rfl)
set_option maxHeartbeats 4000000 in
set_option maxRecDepth 100000 in
theorem w_X8_seams_b73 {p : Program} {l : Launch} {e : Env} {s : State} {m : MethodId} {args : Array Value} {below : List Frame} {meth : Method} {c : Code} {G : GG} {sz : Nat} {r : Int32} {M' : Mem} (E : Cx p s m args meth c cX8_seams (some .int) 7 RX8 G) {L4 : Int32 → Int32 → Mem → Option (Int32 × Mem)} (hL4 : ∀ (x1 : Int32) (x2 : Int32) (M : Mem) (H : Heap) (locs : List Loc) (ls : Array Slot), L4 x1 x2 M = some (r, M') → PW G (AM G) (XM G) sz M s H → va_S (AM G) s.heap H locs → lv_has ls 7 [(0, .ref (adM G 0 0)), (1, .int x1), (2, .int x2)] → W p l e rm_X8_seams s m args below meth c H locs 0 0 (MQ below (va_Qi (fun (r2 : Int32) (_ : Unit) => r2 = r) (fun _ t => PW G (AM G) (XM G) sz M' t t.heap) (AM G)) args s 0 0 (AM G)) (F0 m 4 ls [])) {x1 : Int32} {x2 : Int32} {x3 : Int32} {x4 : Int32} {s0 : Int32} {M : Mem} {H : Heap} {locs : List Loc} {ls : Array Slot} (hf : f_X8_seams_b73 L4 x1 x2 x3 x4 s0 M = some (r, M')) (hP : PW G (AM G) (XM G) sz M s H) (hS : va_S (AM G) s.heap H locs) (hl : lv_has ls 7 [(0, .ref (adM G 0 0)), (1, .int x1), (2, .int x2), (3, .int x3), (4, .int x4)]) : W p l e rm_X8_seams s m args below meth c H locs 0 0 (MQ below (va_Qi (fun (r2 : Int32) (_ : Unit) => r2 = r) (fun _ t => PW G (AM G) (XM G) sz M' t t.heap) (AM G)) args s 0 0 (AM G)) (F0 m 73 ls [.int s0]) := by
  obtain ⟨hx, hb, hr, hlocks, hml, hown, hts, hK⟩ := id E
  unfold f_X8_seams_b73 at hf
  refine lv_istore (lv' := [(5, .int s0), (0, .ref (adM G 0 0)), (1, .int x1), (2, .int x2), (3, .int x3), (4, .int x4)]) hx hb dX8_seams_73 hl (by decide) rfl (fun ls hl => ?_)
  refine lv_iconst (v := 0) hx hb dX8_seams_75 (by decide) ?_
  refine lv_istore (lv' := [(6, .int 0), (5, .int s0), (0, .ref (adM G 0 0)), (1, .int x1), (2, .int x2), (3, .int x3), (4, .int x4)]) hx hb dX8_seams_76 hl (by decide) rfl (fun ls hl => ?_)
  exact w_X8_seams_b78 E hL4 1000 _ _ _ _ _ _ _ _ _ _ hf hP hS (lv_sub hl [2, 3, 4, 5, 6, 1, 0] rfl)
set_option maxHeartbeats 4000000 in
set_option maxRecDepth 100000 in
theorem w_X8_seams_b72 {p : Program} {l : Launch} {e : Env} {s : State} {m : MethodId} {args : Array Value} {below : List Frame} {meth : Method} {c : Code} {G : GG} {sz : Nat} {r : Int32} {M' : Mem} (E : Cx p s m args meth c cX8_seams (some .int) 7 RX8 G) {L4 : Int32 → Int32 → Mem → Option (Int32 × Mem)} (hL4 : ∀ (x1 : Int32) (x2 : Int32) (M : Mem) (H : Heap) (locs : List Loc) (ls : Array Slot), L4 x1 x2 M = some (r, M') → PW G (AM G) (XM G) sz M s H → va_S (AM G) s.heap H locs → lv_has ls 7 [(0, .ref (adM G 0 0)), (1, .int x1), (2, .int x2)] → W p l e rm_X8_seams s m args below meth c H locs 0 0 (MQ below (va_Qi (fun (r2 : Int32) (_ : Unit) => r2 = r) (fun _ t => PW G (AM G) (XM G) sz M' t t.heap) (AM G)) args s 0 0 (AM G)) (F0 m 4 ls [])) {x1 : Int32} {x2 : Int32} {x3 : Int32} {x4 : Int32} {M : Mem} {H : Heap} {locs : List Loc} {ls : Array Slot} (hf : f_X8_seams_b72 L4 x1 x2 x3 x4 M = some (r, M')) (hP : PW G (AM G) (XM G) sz M s H) (hS : va_S (AM G) s.heap H locs) (hl : lv_has ls 7 [(0, .ref (adM G 0 0)), (1, .int x1), (2, .int x2), (3, .int x3), (4, .int x4)]) : W p l e rm_X8_seams s m args below meth c H locs 0 0 (MQ below (va_Qi (fun (r2 : Int32) (_ : Unit) => r2 = r) (fun _ t => PW G (AM G) (XM G) sz M' t t.heap) (AM G)) args s 0 0 (AM G)) (F0 m 72 ls []) := by
  obtain ⟨hx, hb, hr, hlocks, hml, hown, hts, hK⟩ := id E
  unfold f_X8_seams_b72 at hf
  refine lv_iconst (v := 0) hx hb dX8_seams_72 (by decide) ?_
  exact w_X8_seams_b73 E hL4 hf hP hS (lv_sub hl [0, 1, 2, 3, 4] rfl)
set_option maxHeartbeats 4000000 in
set_option maxRecDepth 100000 in
theorem w_X8_seams_b4 {p : Program} {l : Launch} {e : Env} {s : State} {m : MethodId} {args : Array Value} {below : List Frame} {meth : Method} {c : Code} {G : GG} {sz : Nat} {r : Int32} {M' : Mem} (E : Cx p s m args meth c cX8_seams (some .int) 7 RX8 G) : ∀ fu : Nat, ∀ (x1 : Int32) (x2 : Int32) (M : Mem) (H : Heap) (locs : List Loc) (ls : Array Slot), f_X8_seams_b4 fu x1 x2 M = some (r, M') → PW G (AM G) (XM G) sz M s H → va_S (AM G) s.heap H locs → lv_has ls 7 [(0, .ref (adM G 0 0)), (1, .int x1), (2, .int x2)] → W p l e rm_X8_seams s m args below meth c H locs 0 0 (MQ below (va_Qi (fun (r2 : Int32) (_ : Unit) => r2 = r) (fun _ t => PW G (AM G) (XM G) sz M' t t.heap) (AM G)) args s 0 0 (AM G)) (F0 m 4 ls []) := by
  obtain ⟨hx, hb, hr, hlocks, hml, hown, hts, hK⟩ := id E
  intro fu
  induction fu with
  | zero => intro x1 x2 M H locs ls hf hP hS hl; cases hf
  | succ fu ih =>
    intro x1 x2 M H locs ls hf hP hS hl
    rw [f_X8_seams_b4.eq_2] at hf
    refine lv_iload_n hx hb dX8_seams_4 rfl (lv_at hl 2 rfl) ?_
    refine lv_iconst (v := 2) hx hb dX8_seams_5 (by decide) ?_
    refine lv_aload_n hx hb dX8_seams_6 rfl (lv_at hl 0 rfl) ?_
    refine gf_X8_s E hP w_797 dX8_seams_7 ?_
    refine lv_iconst (v := 1) hx hb dX8_seams_10 (by decide) ?_
    refine la_M1 E hP (by decide) dX8_seams_11 ?_
    refine lv_imul hx hb dX8_seams_12 ?_
    refine lv_icmp_ge (tgt := 171) hx hb dX8_seams_13 (by decide) (fun hc => ?_) (fun hc => ?_)
    · have hf := if_t hf hc
      refine lv_iload_n hx hb dX8_seams_171 rfl (lv_at hl 1 rfl) ?_
      exact en_i hf hx hb hr rfl hlocks hP hS dX8_seams_172
    · have hf := if_f hf hc
      refine lv_aload_n hx hb dX8_seams_16 rfl (lv_at hl 0 rfl) ?_
      refine lv_iload_n hx hb dX8_seams_17 rfl (lv_at hl 2 rfl) ?_
      refine lv_iconst (v := 2) hx hb dX8_seams_18 (by decide) ?_
      refine lv_idiv hx hb dX8_seams_19 (by decide) ?_
      refine lv_iconst (v := 2) hx hb dX8_seams_20 (by decide) ?_
      refine lv_iload_n hx hb dX8_seams_21 rfl (lv_at hl 2 rfl) ?_
      refine lv_iconst (v := 2) hx hb dX8_seams_22 (by decide) ?_
      refine lv_irem hx hb dX8_seams_23 (by decide) ?_
      refine lv_imul hx hb dX8_seams_24 ?_
      refine ob_e hf (fun r_25 M_25 hq hf => ?_)
      refine cv_X8_ln E hP hS hq w_916 ⟨Nat.le_of_ble_eq_true rfl, Nat.le_of_ble_eq_true rfl⟩ hl (Nat.le_of_ble_eq_true rfl) dX8_seams_25 ⟨Nat.le_of_ble_eq_true rfl, Nat.le_of_ble_eq_true rfl⟩ (fun H locs hP hS => ?_)
      refine lv_istore_n (lv' := [(3, .int r_25), (0, .ref (adM G 0 0)), (1, .int x1), (2, .int x2)]) hx hb dX8_seams_28 rfl hl (by decide) rfl (fun ls hl => ?_)
      refine lv_aload_n hx hb dX8_seams_29 rfl (lv_at hl 1 rfl) ?_
      refine lv_iload_n hx hb dX8_seams_30 rfl (lv_at hl 3 rfl) ?_
      refine lv_iconst (v := 2) hx hb dX8_seams_31 (by decide) ?_
      refine lv_idiv hx hb dX8_seams_32 (by decide) ?_
      refine lv_iconst (v := 2) hx hb dX8_seams_33 (by decide) ?_
      refine lv_iload_n hx hb dX8_seams_34 rfl (lv_at hl 3 rfl) ?_
      refine lv_iconst (v := 2) hx hb dX8_seams_35 (by decide) ?_
      refine lv_irem hx hb dX8_seams_36 (by decide) ?_
      refine lv_imul hx hb dX8_seams_37 ?_
      refine lv_iconst (v := 1) hx hb dX8_seams_38 (by decide) ?_
      refine lv_iadd hx hb dX8_seams_39 ?_
      refine ob_e hf (fun r_40 M_40 hq hf => ?_)
      refine cv_X8_ln E hP hS hq w_916 ⟨Nat.le_of_ble_eq_true rfl, Nat.le_of_ble_eq_true rfl⟩ hl (Nat.le_of_ble_eq_true rfl) dX8_seams_40 ⟨Nat.le_of_ble_eq_true rfl, Nat.le_of_ble_eq_true rfl⟩ (fun H locs hP hS => ?_)
      refine lv_istore (lv' := [(4, .int r_40), (3, .int r_25), (0, .ref (adM G 0 0)), (1, .int x1), (2, .int x2)]) hx hb dX8_seams_43 hl (by decide) rfl (fun ls hl => ?_)
      refine lv_aload_n hx hb dX8_seams_45 rfl (lv_at hl 2 rfl) ?_
      refine lv_iload_n hx hb dX8_seams_46 rfl (lv_at hl 4 rfl) ?_
      refine lv_iconst (v := 2) hx hb dX8_seams_47 (by decide) ?_
      refine lv_idiv hx hb dX8_seams_48 (by decide) ?_
      refine ob_e hf (fun r_49 M_49 hq hf => ?_)
      refine cv_X8_isDrawn E hP hS hq w_935 ⟨Nat.le_of_ble_eq_true rfl, Nat.le_of_ble_eq_true rfl⟩ hl (Nat.le_of_ble_eq_true rfl) dX8_seams_49 ⟨Nat.le_of_ble_eq_true rfl, Nat.le_of_ble_eq_true rfl⟩ (fun H locs hP hS => ?_)
      refine lv_if_eq (tgt := 72) hx hb dX8_seams_52 (by decide) (fun hc => ?_) (fun hc => ?_)
      · have hf := if_t hf hc
        exact w_X8_seams_b72 E ih hf hP hS (lv_sub hl [2, 3, 4, 1, 0] rfl)
      · have hf := if_f hf hc
        refine lv_aload_n hx hb dX8_seams_55 rfl (lv_at hl 2 rfl) ?_
        refine lv_iload_n hx hb dX8_seams_56 rfl (lv_at hl 1 rfl) ?_
        refine lv_iload hx hb dX8_seams_57 (lv_at hl 0 rfl) ?_
        refine ob_e hf (fun r_59 M_59 hq hf => ?_)
        refine cv_X8_pensAt E hP hS hq w_1062 ⟨Nat.le_of_ble_eq_true rfl, Nat.le_of_ble_eq_true rfl⟩ hl (Nat.le_of_ble_eq_true rfl) dX8_seams_59 ⟨Nat.le_of_ble_eq_true rfl, Nat.le_of_ble_eq_true rfl⟩ (fun H locs hP hS => ?_)
        refine ob_e hf (fun r_62 M_62 hq hf => ?_)
        refine cv_X8_isSome E hP hS hq w_1066 ⟨Nat.le_of_ble_eq_true rfl, Nat.le_of_ble_eq_true rfl⟩ hl (Nat.le_of_ble_eq_true rfl) dX8_seams_62 ⟨Nat.le_of_ble_eq_true rfl, Nat.le_of_ble_eq_true rfl⟩ (fun H locs hP hS => ?_)
        refine lv_if_eq (tgt := 72) hx hb dX8_seams_65 (by decide) (fun hc => ?_) (fun hc => ?_)
        · have hf := if_t hf hc
          exact w_X8_seams_b72 E ih hf hP hS (lv_sub hl [2, 3, 4, 1, 0] rfl)
        · have hf := if_f hf hc
          refine lv_iconst (v := 1) hx hb dX8_seams_68 (by decide) ?_
          refine lv_goto (tgt := 73) hx hb dX8_seams_69 (by decide) ?_
          exact w_X8_seams_b73 E ih hf hP hS (lv_sub hl [2, 3, 4, 1, 0] rfl)
set_option maxHeartbeats 4000000 in
set_option maxRecDepth 100000 in
theorem w_X8_seams {p : Program} {l : Launch} {e : Env} {s : State} {m : MethodId} {args : Array Value} {below : List Frame} {meth : Method} {c : Code} {G : GG} {sz : Nat} {r : Int32} {M' : Mem} (E : Cx p s m args meth c cX8_seams (some .int) 7 RX8 G) {M : Mem} {H : Heap} {locs : List Loc} {ls : Array Slot} (hf : f_X8_seams M = some (r, M')) (hP : PW G (AM G) (XM G) sz M s H) (hS : va_S (AM G) s.heap H locs) (hl : lv_has ls 7 [(0, .ref (adM G 0 0))]) : W p l e rm_X8_seams s m args below meth c H locs 0 0 (MQ below (va_Qi (fun (r2 : Int32) (_ : Unit) => r2 = r) (fun _ t => PW G (AM G) (XM G) sz M' t t.heap) (AM G)) args s 0 0 (AM G)) (F0 m 0 ls []) := by
  obtain ⟨hx, hb, hr, hlocks, hml, hown, hts, hK⟩ := id E
  unfold f_X8_seams at hf
  refine lv_iconst (v := 0) hx hb dX8_seams_0 (by decide) ?_
  refine lv_istore_n (lv' := [(1, .int 0), (0, .ref (adM G 0 0))]) hx hb dX8_seams_1 rfl hl (by decide) rfl (fun ls hl => ?_)
  refine lv_iconst (v := 0) hx hb dX8_seams_2 (by decide) ?_
  refine lv_istore_n (lv' := [(2, .int 0), (1, .int 0), (0, .ref (adM G 0 0))]) hx hb dX8_seams_3 rfl hl (by decide) rfl (fun ls hl => ?_)
  exact w_X8_seams_b4 E 1000 _ _ _ _ _ _ hf hP hS (lv_sub hl [2, 1, 0] rfl)
theorem c_X8_seams (l : Launch) {G : GG} {sz : Nat} {M : Mem} {r : Int32} {M' : Mem} (hf : f_X8_seams M = some (r, M')) : CtI l yX8_seams cX8_seams 7 (some .int) rm_X8_seams [.ref (adM G 0 0)] G (AM G) (XM G) sz M r (XM G) sz M' := by
  refine Ct_of (by decide) (Nat.le_of_ble_eq_true rfl) (fun p e s m below meth c ls hx hb hr hlocks hml hown hts hK hP hl => ?_)
  exact w_X8_seams ⟨hx, hb, hr, hlocks, hml, hown, hts, hK⟩ hf hP va_S.rf hl
set_option maxRecDepth 100000 in
theorem cv_X8_seams {p : Program} {l : Launch} {e : Env} {R : Room} {s : State} {m : MethodId} {args : Array Value} {below : List Frame} {meth : Method} {c : Code} {H : Heap} {locs : List Loc} {cells slots : Nat} {Q : State → Prop} {cc : ByteArray} {pc nL index : Nat} {ret : Option FieldType} {own : String} {ls : Array Slot} {rest : List Value} {l' : List (Nat × Value)} {G : GG} {sz : Nat} {M : Mem} (E : Cx p s m args meth c cc ret nL own G) (hP : PW G (AM G) (XM G) sz M s H) (hS : va_S (AM G) s.heap H locs) {r : Int32} {M' : Mem} (hq : f_X8_seams M = some (r, M')) (w1 : Cond.methodLink own index yX8_seams ∈ lw_all) (hR : 4 ≤ R.frames ∧ 94 ≤ R.locals) (hl : lv_has ls nL l') (hrest : (rest.map fun v => v.category).sum ≤ 8) (hdg : decode cc pc = .ok (.invokevirtual index, 3)) (hcs : cells ≤ R.cells ∧ slots ≤ R.slots)
    (kk : ∀ (H1 : Heap) (locs1 : List Loc), PW G (AM G) (XM G) sz M' s H1 → va_S (AM G) s.heap H1 locs1 → W p l e R s m args below meth c H1 locs1 cells slots Q (F0 m (pc + 3) ls (.int r :: rest))) : W p l e R s m args below meth c H locs cells slots Q (F0 m pc ls (.ref (adM G 0 0) :: rest)) := by
  obtain ⟨hx, hb, hr, hlocks, hml, hown, hts, hK⟩ := E
  exact kc_i (kc_runV (na := 0) (q := (RX8, TX8, 16)) hx hb hml hts hown hK hP 0 0 ⟨rfl, by decide⟩ rfl rfl rfl (c_X8_seams l hq) w1 w_1059 w_1060 w_9 w_1061 (by decide +kernel) hR rfl hl rfl hrest hdg hcs) hS kk
/-! X8_seamsBy -/
abbrev rm_X8_seamsBy : Room := { frames := 3, cells := 0, slots := 0, locals := 68 }
def f_X8_seamsBy_b16 (M : Mem) : Option (Int32 × Mem) :=
some ((-1000001), M)
def f_X8_seamsBy_b93 (L35 : Int32 → Int32 → Int32 → Int32 → Mem → Option (Int32 × Mem)) (x1 : Int32) (x2 : Int32) (x4 : Int32) (s0 : Int32) (s1 : Int32) (M : Mem) : Option (Int32 × Mem) :=
lt ((s0 + s1)) fun x3_94 =>
lt (x4 + 1) fun x4_95 =>
L35 x1 x2 x3_94 x4_95 M
def f_X8_seamsBy_b92 (L35 : Int32 → Int32 → Int32 → Int32 → Mem → Option (Int32 × Mem)) (x1 : Int32) (x2 : Int32) (x4 : Int32) (s0 : Int32) (M : Mem) : Option (Int32 × Mem) :=
f_X8_seamsBy_b93 L35 x1 x2 x4 s0 0 M
def f_X8_seamsBy_b35 : Nat → Int32 → Int32 → Int32 → Int32 → Mem → Option (Int32 × Mem)
  | 0 => fun _ _ _ _ _ => none
  | fu + 1 => fun x1 x2 x3 x4 M =>
(if 2 ≤ x4 then
  some (x3, M)
else
  ob (f_X8_ln x1 (2 * x4) M) fun r_48 M_48 =>
  ob (f_X8_ln x1 ((2 * x4) + 1) M_48) fun r_59 M_59 =>
  ob (f_X8_pensAt r_48 r_59 M_59) fun r_62 M_62 =>
  ob (f_X8_isSome r_62 M_62) fun r_70 M_70 =>
  (if r_70 = 0 then
    ob (f_X8_isSome (r_62 ||| (1 <<< (x2 &&& 31))) M_70) fun r_82 M_82 =>
    (if r_82 = 0 then
      f_X8_seamsBy_b92 (f_X8_seamsBy_b35 fu) x1 x2 x4 x3 M_82
    else
      f_X8_seamsBy_b93 (f_X8_seamsBy_b35 fu) x1 x2 x4 x3 1 M_82)
  else
    f_X8_seamsBy_b92 (f_X8_seamsBy_b35 fu) x1 x2 x4 x3 M_70))
def f_X8_seamsBy (x1 : Int32) (x2 : Int32) (M : Mem) : Option (Int32 × Mem) :=
ob (f_X8_isLine x1 M) fun r_2 M_2 =>
(if r_2 = 0 then
  f_X8_seamsBy_b16 M_2
else
  ob (f_X8_isPen x2 M_2) fun r_10 M_10 =>
  (if r_10 = 0 then
    f_X8_seamsBy_b16 M_10
  else
    ob (f_X8_isDrawn x1 M_10) fun r_21 M_21 =>
    (if r_21 = 0 then
      f_X8_seamsBy_b35 1000 x1 x2 0 0 M_21
    else
      some ((-1000002), M_21))))
set_option maxHeartbeats 4000000 in
set_option maxRecDepth 100000 in
theorem w_X8_seamsBy_b16 {p : Program} {l : Launch} {e : Env} {s : State} {m : MethodId} {args : Array Value} {below : List Frame} {meth : Method} {c : Code} {G : GG} {sz : Nat} {r : Int32} {M' : Mem} (E : Cx p s m args meth c cX8_seamsBy (some .int) 6 RX8 G) {M : Mem} {H : Heap} {locs : List Loc} {ls : Array Slot} (hf : f_X8_seamsBy_b16 M = some (r, M')) (hP : PW G (AM G) (XM G) sz M s H) (hS : va_S (AM G) s.heap H locs) (hl : lv_has ls 6 []) : W p l e rm_X8_seamsBy s m args below meth c H locs 0 0 (MQ below (va_Qi (fun (r2 : Int32) (_ : Unit) => r2 = r) (fun _ t => PW G (AM G) (XM G) sz M' t t.heap) (AM G)) args s 0 0 (AM G)) (F0 m 16 ls []) := by
  obtain ⟨hx, hb, hr, hlocks, hml, hown, hts, hK⟩ := id E
  unfold f_X8_seamsBy_b16 at hf
  refine lv_ldc (v := (-1000001)) hx hb hown (hts _ w_854) dX8_seamsBy_16 ?_
  exact en_i hf hx hb hr rfl hlocks hP hS dX8_seamsBy_18
set_option maxHeartbeats 4000000 in
set_option maxRecDepth 100000 in
theorem w_X8_seamsBy_b93 {p : Program} {l : Launch} {e : Env} {s : State} {m : MethodId} {args : Array Value} {below : List Frame} {meth : Method} {c : Code} {G : GG} {sz : Nat} {r : Int32} {M' : Mem} (E : Cx p s m args meth c cX8_seamsBy (some .int) 6 RX8 G) {L35 : Int32 → Int32 → Int32 → Int32 → Mem → Option (Int32 × Mem)} (hL35 : ∀ (x1 : Int32) (x2 : Int32) (x3 : Int32) (x4 : Int32) (M : Mem) (H : Heap) (locs : List Loc) (ls : Array Slot), L35 x1 x2 x3 x4 M = some (r, M') → PW G (AM G) (XM G) sz M s H → va_S (AM G) s.heap H locs → lv_has ls 6 [(0, .ref (adM G 0 0)), (1, .int x1), (2, .int x2), (3, .int x3), (4, .int x4)] → W p l e rm_X8_seamsBy s m args below meth c H locs 0 0 (MQ below (va_Qi (fun (r2 : Int32) (_ : Unit) => r2 = r) (fun _ t => PW G (AM G) (XM G) sz M' t t.heap) (AM G)) args s 0 0 (AM G)) (F0 m 35 ls [])) {x1 : Int32} {x2 : Int32} {x4 : Int32} {s0 : Int32} {s1 : Int32} {M : Mem} {H : Heap} {locs : List Loc} {ls : Array Slot} (hf : f_X8_seamsBy_b93 L35 x1 x2 x4 s0 s1 M = some (r, M')) (hP : PW G (AM G) (XM G) sz M s H) (hS : va_S (AM G) s.heap H locs) (hl : lv_has ls 6 [(0, .ref (adM G 0 0)), (1, .int x1), (2, .int x2), (4, .int x4)]) : W p l e rm_X8_seamsBy s m args below meth c H locs 0 0 (MQ below (va_Qi (fun (r2 : Int32) (_ : Unit) => r2 = r) (fun _ t => PW G (AM G) (XM G) sz M' t t.heap) (AM G)) args s 0 0 (AM G)) (F0 m 93 ls [.int s1, .int s0]) := by
  obtain ⟨hx, hb, hr, hlocks, hml, hown, hts, hK⟩ := id E
  unfold f_X8_seamsBy_b93 at hf
  refine lv_iadd hx hb dX8_seamsBy_93 ?_
  refine lt_e hf (fun x3_94 hx3_94 hf => ?_)
  refine kr_nm hx3_94 ?_
  refine lv_istore_n (lv' := [(3, .int x3_94), (0, .ref (adM G 0 0)), (1, .int x1), (2, .int x2), (4, .int x4)]) hx hb dX8_seamsBy_94 rfl hl (by decide) rfl (fun ls hl => ?_)
  refine lt_e hf (fun x4_95 hx4_95 hf => ?_)
  refine lv_iinc (v := x4_95) (lv' := [(4, .int x4_95), (3, .int x3_94), (0, .ref (adM G 0 0)), (1, .int x1), (2, .int x2)]) hx hb dX8_seamsBy_95 hl (k := 4) rfl (by rw [hx4_95]; rfl) (by decide) rfl (fun ls hl => ?_)
  refine lv_goto (tgt := 35) hx hb dX8_seamsBy_98 (by decide) ?_
  exact hL35 _ _ _ _ _ _ _ _ hf hP hS (lv_sub hl [2, 3, 4, 1, 0] rfl)
set_option maxHeartbeats 4000000 in
set_option maxRecDepth 100000 in
theorem w_X8_seamsBy_b92 {p : Program} {l : Launch} {e : Env} {s : State} {m : MethodId} {args : Array Value} {below : List Frame} {meth : Method} {c : Code} {G : GG} {sz : Nat} {r : Int32} {M' : Mem} (E : Cx p s m args meth c cX8_seamsBy (some .int) 6 RX8 G) {L35 : Int32 → Int32 → Int32 → Int32 → Mem → Option (Int32 × Mem)} (hL35 : ∀ (x1 : Int32) (x2 : Int32) (x3 : Int32) (x4 : Int32) (M : Mem) (H : Heap) (locs : List Loc) (ls : Array Slot), L35 x1 x2 x3 x4 M = some (r, M') → PW G (AM G) (XM G) sz M s H → va_S (AM G) s.heap H locs → lv_has ls 6 [(0, .ref (adM G 0 0)), (1, .int x1), (2, .int x2), (3, .int x3), (4, .int x4)] → W p l e rm_X8_seamsBy s m args below meth c H locs 0 0 (MQ below (va_Qi (fun (r2 : Int32) (_ : Unit) => r2 = r) (fun _ t => PW G (AM G) (XM G) sz M' t t.heap) (AM G)) args s 0 0 (AM G)) (F0 m 35 ls [])) {x1 : Int32} {x2 : Int32} {x4 : Int32} {s0 : Int32} {M : Mem} {H : Heap} {locs : List Loc} {ls : Array Slot} (hf : f_X8_seamsBy_b92 L35 x1 x2 x4 s0 M = some (r, M')) (hP : PW G (AM G) (XM G) sz M s H) (hS : va_S (AM G) s.heap H locs) (hl : lv_has ls 6 [(0, .ref (adM G 0 0)), (1, .int x1), (2, .int x2), (4, .int x4)]) : W p l e rm_X8_seamsBy s m args below meth c H locs 0 0 (MQ below (va_Qi (fun (r2 : Int32) (_ : Unit) => r2 = r) (fun _ t => PW G (AM G) (XM G) sz M' t t.heap) (AM G)) args s 0 0 (AM G)) (F0 m 92 ls [.int s0]) := by
  obtain ⟨hx, hb, hr, hlocks, hml, hown, hts, hK⟩ := id E
  unfold f_X8_seamsBy_b92 at hf
  refine lv_iconst (v := 0) hx hb dX8_seamsBy_92 (by decide) ?_
  exact w_X8_seamsBy_b93 E hL35 hf hP hS (lv_sub hl [0, 1, 2, 3] rfl)
set_option maxHeartbeats 4000000 in
set_option maxRecDepth 100000 in
theorem w_X8_seamsBy_b35 {p : Program} {l : Launch} {e : Env} {s : State} {m : MethodId} {args : Array Value} {below : List Frame} {meth : Method} {c : Code} {G : GG} {sz : Nat} {r : Int32} {M' : Mem} (E : Cx p s m args meth c cX8_seamsBy (some .int) 6 RX8 G) : ∀ fu : Nat, ∀ (x1 : Int32) (x2 : Int32) (x3 : Int32) (x4 : Int32) (M : Mem) (H : Heap) (locs : List Loc) (ls : Array Slot), f_X8_seamsBy_b35 fu x1 x2 x3 x4 M = some (r, M') → PW G (AM G) (XM G) sz M s H → va_S (AM G) s.heap H locs → lv_has ls 6 [(0, .ref (adM G 0 0)), (1, .int x1), (2, .int x2), (3, .int x3), (4, .int x4)] → W p l e rm_X8_seamsBy s m args below meth c H locs 0 0 (MQ below (va_Qi (fun (r2 : Int32) (_ : Unit) => r2 = r) (fun _ t => PW G (AM G) (XM G) sz M' t t.heap) (AM G)) args s 0 0 (AM G)) (F0 m 35 ls []) := by
  obtain ⟨hx, hb, hr, hlocks, hml, hown, hts, hK⟩ := id E
  intro fu
  induction fu with
  | zero => intro x1 x2 x3 x4 M H locs ls hf hP hS hl; cases hf
  | succ fu ih =>
    intro x1 x2 x3 x4 M H locs ls hf hP hS hl
    rw [f_X8_seamsBy_b35.eq_2] at hf
    refine lv_iload hx hb dX8_seamsBy_35 (lv_at hl 4 rfl) ?_
    refine lv_iconst (v := 2) hx hb dX8_seamsBy_37 (by decide) ?_
    refine lv_icmp_ge (tgt := 101) hx hb dX8_seamsBy_38 (by decide) (fun hc => ?_) (fun hc => ?_)
    · have hf := if_t hf hc
      refine lv_iload_n hx hb dX8_seamsBy_101 rfl (lv_at hl 3 rfl) ?_
      exact en_i hf hx hb hr rfl hlocks hP hS dX8_seamsBy_102
    · have hf := if_f hf hc
      refine lv_aload_n hx hb dX8_seamsBy_41 rfl (lv_at hl 0 rfl) ?_
      refine lv_aload_n hx hb dX8_seamsBy_42 rfl (lv_at hl 0 rfl) ?_
      refine lv_iload_n hx hb dX8_seamsBy_43 rfl (lv_at hl 1 rfl) ?_
      refine lv_iconst (v := 2) hx hb dX8_seamsBy_44 (by decide) ?_
      refine lv_iload hx hb dX8_seamsBy_45 (lv_at hl 4 rfl) ?_
      refine lv_imul hx hb dX8_seamsBy_47 ?_
      refine ob_e hf (fun r_48 M_48 hq hf => ?_)
      refine cv_X8_ln E hP hS hq w_916 ⟨Nat.le_of_ble_eq_true rfl, Nat.le_of_ble_eq_true rfl⟩ hl (Nat.le_of_ble_eq_true rfl) dX8_seamsBy_48 ⟨Nat.le_of_ble_eq_true rfl, Nat.le_of_ble_eq_true rfl⟩ (fun H locs hP hS => ?_)
      refine lv_aload_n hx hb dX8_seamsBy_51 rfl (lv_at hl 0 rfl) ?_
      refine lv_iload_n hx hb dX8_seamsBy_52 rfl (lv_at hl 1 rfl) ?_
      refine lv_iconst (v := 2) hx hb dX8_seamsBy_53 (by decide) ?_
      refine lv_iload hx hb dX8_seamsBy_54 (lv_at hl 4 rfl) ?_
      refine lv_imul hx hb dX8_seamsBy_56 ?_
      refine lv_iconst (v := 1) hx hb dX8_seamsBy_57 (by decide) ?_
      refine lv_iadd hx hb dX8_seamsBy_58 ?_
      refine ob_e hf (fun r_59 M_59 hq hf => ?_)
      refine cv_X8_ln E hP hS hq w_916 ⟨Nat.le_of_ble_eq_true rfl, Nat.le_of_ble_eq_true rfl⟩ hl (Nat.le_of_ble_eq_true rfl) dX8_seamsBy_59 ⟨Nat.le_of_ble_eq_true rfl, Nat.le_of_ble_eq_true rfl⟩ (fun H locs hP hS => ?_)
      refine ob_e hf (fun r_62 M_62 hq hf => ?_)
      refine cv_X8_pensAt E hP hS hq w_1062 ⟨Nat.le_of_ble_eq_true rfl, Nat.le_of_ble_eq_true rfl⟩ hl (Nat.le_of_ble_eq_true rfl) dX8_seamsBy_62 ⟨Nat.le_of_ble_eq_true rfl, Nat.le_of_ble_eq_true rfl⟩ (fun H locs hP hS => ?_)
      refine lv_istore (lv' := [(5, .int r_62), (0, .ref (adM G 0 0)), (1, .int x1), (2, .int x2), (3, .int x3), (4, .int x4)]) hx hb dX8_seamsBy_65 hl (by decide) rfl (fun ls hl => ?_)
      refine lv_iload_n hx hb dX8_seamsBy_67 rfl (lv_at hl 4 rfl) ?_
      refine lv_iload hx hb dX8_seamsBy_68 (lv_at hl 0 rfl) ?_
      refine ob_e hf (fun r_70 M_70 hq hf => ?_)
      refine cv_X8_isSome E hP hS hq w_1066 ⟨Nat.le_of_ble_eq_true rfl, Nat.le_of_ble_eq_true rfl⟩ hl (Nat.le_of_ble_eq_true rfl) dX8_seamsBy_70 ⟨Nat.le_of_ble_eq_true rfl, Nat.le_of_ble_eq_true rfl⟩ (fun H locs hP hS => ?_)
      refine lv_if_ne (tgt := 92) hx hb dX8_seamsBy_73 (by decide) (fun hc => ?_) (fun hc => ?_)
      · have hf := if_f hf hc
        exact w_X8_seamsBy_b92 E ih hf hP hS (lv_sub hl [1, 2, 3, 5] rfl)
      · have hf := if_t hf hc
        refine lv_iload hx hb dX8_seamsBy_76 (lv_at hl 0 rfl) ?_
        refine lv_iconst (v := 1) hx hb dX8_seamsBy_78 (by decide) ?_
        refine lv_iload_n hx hb dX8_seamsBy_79 rfl (lv_at hl 3 rfl) ?_
        refine lv_ishl hx hb dX8_seamsBy_80 ?_
        refine lv_ior hx hb dX8_seamsBy_81 ?_
        refine ob_e hf (fun r_82 M_82 hq hf => ?_)
        refine cv_X8_isSome E hP hS hq w_1066 ⟨Nat.le_of_ble_eq_true rfl, Nat.le_of_ble_eq_true rfl⟩ hl (Nat.le_of_ble_eq_true rfl) dX8_seamsBy_82 ⟨Nat.le_of_ble_eq_true rfl, Nat.le_of_ble_eq_true rfl⟩ (fun H locs hP hS => ?_)
        refine lv_if_eq (tgt := 92) hx hb dX8_seamsBy_85 (by decide) (fun hc => ?_) (fun hc => ?_)
        · have hf := if_t hf hc
          exact w_X8_seamsBy_b92 E ih hf hP hS (lv_sub hl [1, 2, 3, 5] rfl)
        · have hf := if_f hf hc
          refine lv_iconst (v := 1) hx hb dX8_seamsBy_88 (by decide) ?_
          refine lv_goto (tgt := 93) hx hb dX8_seamsBy_89 (by decide) ?_
          exact w_X8_seamsBy_b93 E ih hf hP hS (lv_sub hl [1, 2, 3, 5] rfl)
set_option maxHeartbeats 4000000 in
set_option maxRecDepth 100000 in
theorem w_X8_seamsBy {p : Program} {l : Launch} {e : Env} {s : State} {m : MethodId} {args : Array Value} {below : List Frame} {meth : Method} {c : Code} {G : GG} {sz : Nat} {r : Int32} {M' : Mem} (E : Cx p s m args meth c cX8_seamsBy (some .int) 6 RX8 G) {x1 : Int32} {x2 : Int32} {M : Mem} {H : Heap} {locs : List Loc} {ls : Array Slot} (hf : f_X8_seamsBy x1 x2 M = some (r, M')) (hP : PW G (AM G) (XM G) sz M s H) (hS : va_S (AM G) s.heap H locs) (hl : lv_has ls 6 [(0, .ref (adM G 0 0)), (1, .int x1), (2, .int x2)]) : W p l e rm_X8_seamsBy s m args below meth c H locs 0 0 (MQ below (va_Qi (fun (r2 : Int32) (_ : Unit) => r2 = r) (fun _ t => PW G (AM G) (XM G) sz M' t t.heap) (AM G)) args s 0 0 (AM G)) (F0 m 0 ls []) := by
  obtain ⟨hx, hb, hr, hlocks, hml, hown, hts, hK⟩ := id E
  unfold f_X8_seamsBy at hf
  refine lv_aload_n hx hb dX8_seamsBy_0 rfl (lv_at hl 0 rfl) ?_
  refine lv_iload_n hx hb dX8_seamsBy_1 rfl (lv_at hl 1 rfl) ?_
  refine ob_e hf (fun r_2 M_2 hq hf => ?_)
  refine cv_X8_isLine E hP hS hq w_924 ⟨Nat.le_of_ble_eq_true rfl, Nat.le_of_ble_eq_true rfl⟩ hl (Nat.le_of_ble_eq_true rfl) dX8_seamsBy_2 ⟨Nat.le_of_ble_eq_true rfl, Nat.le_of_ble_eq_true rfl⟩ (fun H locs hP hS => ?_)
  refine lv_if_eq (tgt := 16) hx hb dX8_seamsBy_5 (by decide) (fun hc => ?_) (fun hc => ?_)
  · have hf := if_t hf hc
    exact w_X8_seamsBy_b16 E hf hP hS (lv_sub hl [] rfl)
  · have hf := if_f hf hc
    refine lv_aload_n hx hb dX8_seamsBy_8 rfl (lv_at hl 0 rfl) ?_
    refine lv_iload_n hx hb dX8_seamsBy_9 rfl (lv_at hl 2 rfl) ?_
    refine ob_e hf (fun r_10 M_10 hq hf => ?_)
    refine cv_X8_isPen E hP hS hq w_888 ⟨Nat.le_of_ble_eq_true rfl, Nat.le_of_ble_eq_true rfl⟩ hl (Nat.le_of_ble_eq_true rfl) dX8_seamsBy_10 ⟨Nat.le_of_ble_eq_true rfl, Nat.le_of_ble_eq_true rfl⟩ (fun H locs hP hS => ?_)
    refine lv_if_ne (tgt := 19) hx hb dX8_seamsBy_13 (by decide) (fun hc => ?_) (fun hc => ?_)
    · have hf := if_f hf hc
      refine lv_aload_n hx hb dX8_seamsBy_19 rfl (lv_at hl 0 rfl) ?_
      refine lv_iload_n hx hb dX8_seamsBy_20 rfl (lv_at hl 1 rfl) ?_
      refine ob_e hf (fun r_21 M_21 hq hf => ?_)
      refine cv_X8_isDrawn E hP hS hq w_935 ⟨Nat.le_of_ble_eq_true rfl, Nat.le_of_ble_eq_true rfl⟩ hl (Nat.le_of_ble_eq_true rfl) dX8_seamsBy_21 ⟨Nat.le_of_ble_eq_true rfl, Nat.le_of_ble_eq_true rfl⟩ (fun H locs hP hS => ?_)
      refine lv_if_eq (tgt := 30) hx hb dX8_seamsBy_24 (by decide) (fun hc => ?_) (fun hc => ?_)
      · have hf := if_t hf hc
        refine lv_iconst (v := 0) hx hb dX8_seamsBy_30 (by decide) ?_
        refine lv_istore_n (lv' := [(3, .int 0), (0, .ref (adM G 0 0)), (1, .int x1), (2, .int x2)]) hx hb dX8_seamsBy_31 rfl hl (by decide) rfl (fun ls hl => ?_)
        refine lv_iconst (v := 0) hx hb dX8_seamsBy_32 (by decide) ?_
        refine lv_istore (lv' := [(4, .int 0), (3, .int 0), (0, .ref (adM G 0 0)), (1, .int x1), (2, .int x2)]) hx hb dX8_seamsBy_33 hl (by decide) rfl (fun ls hl => ?_)
        exact w_X8_seamsBy_b35 E 1000 _ _ _ _ _ _ _ _ hf hP hS (lv_sub hl [2, 3, 4, 1, 0] rfl)
      · have hf := if_f hf hc
        refine lv_ldc (v := (-1000002)) hx hb hown (hts _ w_871) dX8_seamsBy_27 ?_
        exact en_i hf hx hb hr rfl hlocks hP hS dX8_seamsBy_29
    · have hf := if_t hf hc
      exact w_X8_seamsBy_b16 E hf hP hS (lv_sub hl [] rfl)
theorem c_X8_seamsBy (l : Launch) {G : GG} {sz : Nat} {x1 : Int32} {x2 : Int32} {M : Mem} {r : Int32} {M' : Mem} (hf : f_X8_seamsBy x1 x2 M = some (r, M')) : CtI l yX8_seamsBy cX8_seamsBy 6 (some .int) rm_X8_seamsBy [.ref (adM G 0 0), .int x1, .int x2] G (AM G) (XM G) sz M r (XM G) sz M' := by
  refine Ct_of (by decide) (Nat.le_of_ble_eq_true rfl) (fun p e s m below meth c ls hx hb hr hlocks hml hown hts hK hP hl => ?_)
  exact w_X8_seamsBy ⟨hx, hb, hr, hlocks, hml, hown, hts, hK⟩ hf hP va_S.rf hl
set_option maxRecDepth 100000 in
theorem cv_X8_seamsBy {p : Program} {l : Launch} {e : Env} {R : Room} {s : State} {m : MethodId} {args : Array Value} {below : List Frame} {meth : Method} {c : Code} {H : Heap} {locs : List Loc} {cells slots : Nat} {Q : State → Prop} {cc : ByteArray} {pc nL index : Nat} {ret : Option FieldType} {own : String} {ls : Array Slot} {rest : List Value} {l' : List (Nat × Value)} {G : GG} {sz : Nat} {M : Mem} (E : Cx p s m args meth c cc ret nL own G) (hP : PW G (AM G) (XM G) sz M s H) (hS : va_S (AM G) s.heap H locs) {x1 : Int32} {x2 : Int32} {r : Int32} {M' : Mem} (hq : f_X8_seamsBy x1 x2 M = some (r, M')) (w1 : Cond.methodLink own index yX8_seamsBy ∈ lw_all) (hR : 4 ≤ R.frames ∧ 93 ≤ R.locals) (hl : lv_has ls nL l') (hrest : (rest.map fun v => v.category).sum ≤ 8) (hdg : decode cc pc = .ok (.invokevirtual index, 3)) (hcs : cells ≤ R.cells ∧ slots ≤ R.slots)
    (kk : ∀ (H1 : Heap) (locs1 : List Loc), PW G (AM G) (XM G) sz M' s H1 → va_S (AM G) s.heap H1 locs1 → W p l e R s m args below meth c H1 locs1 cells slots Q (F0 m (pc + 3) ls (.int r :: rest))) : W p l e R s m args below meth c H locs cells slots Q (F0 m pc ls (.int x2 :: .int x1 :: .ref (adM G 0 0) :: rest)) := by
  obtain ⟨hx, hb, hr, hlocks, hml, hown, hts, hK⟩ := E
  exact kc_i (kc_runV (na := 2) (q := (RX8, TX8, 16)) hx hb hml hts hown hK hP 0 0 ⟨rfl, by decide⟩ rfl rfl rfl (c_X8_seamsBy l hq) w1 w_1070 w_1071 w_9 w_1072 (by decide +kernel) hR rfl hl rfl hrest hdg hcs) hS kk
/-! X8_meanShade -/
abbrev rm_X8_meanShade : Room := { frames := 2, cells := 0, slots := 0, locals := 80 }
def f_X8_meanShade_b45 (L7 : UInt64 → Int32 → Int32 → Mem → Option (Int32 × Mem)) (x1 : UInt64) (x3 : Int32) (x4 : Int32) (M : Mem) : Option (Int32 × Mem) :=
lt (x4 + 1) fun x4_45 =>
L7 x1 x3 x4_45 M
def f_X8_meanShade_b68 (s0 : Int32) (M : Mem) : Option (Int32 × Mem) :=
some (s0, M)
def f_X8_meanShade_b7 : Nat → UInt64 → Int32 → Int32 → Mem → Option (Int32 × Mem)
  | 0 => fun _ _ _ _ => none
  | fu + 1 => fun x1 x3 x4 M =>
(if (M 0 1 (ix 1)) ≤ x4 then
  (if x3 = 0 then
    f_X8_meanShade_b68 (-1000004) M
  else
    ck (dok (FP.ddiv x1 (FP.i2d x3))) <|
    ck (fok (FP.d2f (FP.ddiv x1 (FP.i2d x3)))) <|
    ob (f_Jxf58ca_floatToIntBits_5c35a (FP.d2f (FP.ddiv x1 (FP.i2d x3))) M) fun r_65 M_65 =>
    f_X8_meanShade_b68 r_65 M_65)
else
  ob (f_X8_isDrawn x4 M) fun r_21 M_21 =>
  (if r_21 = 0 then
    f_X8_meanShade_b45 (f_X8_meanShade_b7 fu) x1 x3 x4 M_21
  else
    ob (f_X8_ln x4 7 M_21) fun r_33 M_33 =>
    ck (!(vn_sni2f r_33)) <|
    ck (dok (FP.f2d (r_33.toUInt32))) <|
    ck (dok (FP.dadd x1 (FP.f2d (r_33.toUInt32)))) <|
    lt ((FP.dadd x1 (FP.f2d (r_33.toUInt32)))) fun x1_41 =>
    lt (x3 + 1) fun x3_42 =>
    f_X8_meanShade_b45 (f_X8_meanShade_b7 fu) x1_41 x3_42 x4 M_33))
def f_X8_meanShade (M : Mem) : Option (Int32 × Mem) :=
lt (FP.dconst0) fun x1_1 =>
f_X8_meanShade_b7 1000 x1_1 0 0 M
set_option maxHeartbeats 4000000 in
set_option maxRecDepth 100000 in
theorem w_X8_meanShade_b45 {p : Program} {l : Launch} {e : Env} {s : State} {m : MethodId} {args : Array Value} {below : List Frame} {meth : Method} {c : Code} {G : GG} {sz : Nat} {r : Int32} {M' : Mem} (E : Cx p s m args meth c cX8_meanShade (some .int) 5 RX8 G) {L7 : UInt64 → Int32 → Int32 → Mem → Option (Int32 × Mem)} (hL7 : ∀ (x1 : UInt64) (x3 : Int32) (x4 : Int32) (M : Mem) (H : Heap) (locs : List Loc) (ls : Array Slot), L7 x1 x3 x4 M = some (r, M') → PW G (AM G) (XM G) sz M s H → va_S (AM G) s.heap H locs → lv_has ls 5 [(0, .ref (adM G 0 0)), (1, .double x1), (3, .int x3), (4, .int x4)] → W p l e rm_X8_meanShade s m args below meth c H locs 0 0 (MQ below (va_Qi (fun (r2 : Int32) (_ : Unit) => r2 = r) (fun _ t => PW G (AM G) (XM G) sz M' t t.heap) (AM G)) args s 0 0 (AM G)) (F0 m 7 ls [])) {x1 : UInt64} {x3 : Int32} {x4 : Int32} {M : Mem} {H : Heap} {locs : List Loc} {ls : Array Slot} (hf : f_X8_meanShade_b45 L7 x1 x3 x4 M = some (r, M')) (hP : PW G (AM G) (XM G) sz M s H) (hS : va_S (AM G) s.heap H locs) (hl : lv_has ls 5 [(0, .ref (adM G 0 0)), (1, .double x1), (3, .int x3), (4, .int x4)]) : W p l e rm_X8_meanShade s m args below meth c H locs 0 0 (MQ below (va_Qi (fun (r2 : Int32) (_ : Unit) => r2 = r) (fun _ t => PW G (AM G) (XM G) sz M' t t.heap) (AM G)) args s 0 0 (AM G)) (F0 m 45 ls []) := by
  obtain ⟨hx, hb, hr, hlocks, hml, hown, hts, hK⟩ := id E
  unfold f_X8_meanShade_b45 at hf
  refine lt_e hf (fun x4_45 hx4_45 hf => ?_)
  refine lv_iinc (v := x4_45) (lv' := [(4, .int x4_45), (0, .ref (adM G 0 0)), (1, .double x1), (3, .int x3)]) hx hb dX8_meanShade_45 hl (k := 3) rfl (by rw [hx4_45]; rfl) (by decide) rfl (fun ls hl => ?_)
  refine lv_goto (tgt := 7) hx hb dX8_meanShade_48 (by decide) ?_
  exact hL7 _ _ _ _ _ _ _ hf hP hS (lv_sub hl [1, 2, 3, 0] rfl)
set_option maxHeartbeats 4000000 in
set_option maxRecDepth 100000 in
theorem w_X8_meanShade_b68 {p : Program} {l : Launch} {e : Env} {s : State} {m : MethodId} {args : Array Value} {below : List Frame} {meth : Method} {c : Code} {G : GG} {sz : Nat} {r : Int32} {M' : Mem} (E : Cx p s m args meth c cX8_meanShade (some .int) 5 RX8 G) {s0 : Int32} {M : Mem} {H : Heap} {locs : List Loc} {ls : Array Slot} (hf : f_X8_meanShade_b68 s0 M = some (r, M')) (hP : PW G (AM G) (XM G) sz M s H) (hS : va_S (AM G) s.heap H locs) (hl : lv_has ls 5 []) : W p l e rm_X8_meanShade s m args below meth c H locs 0 0 (MQ below (va_Qi (fun (r2 : Int32) (_ : Unit) => r2 = r) (fun _ t => PW G (AM G) (XM G) sz M' t t.heap) (AM G)) args s 0 0 (AM G)) (F0 m 68 ls [.int s0]) := by
  obtain ⟨hx, hb, hr, hlocks, hml, hown, hts, hK⟩ := id E
  unfold f_X8_meanShade_b68 at hf
  exact en_i hf hx hb hr rfl hlocks hP hS dX8_meanShade_68
set_option maxHeartbeats 4000000 in
set_option maxRecDepth 100000 in
theorem w_X8_meanShade_b7 {p : Program} {l : Launch} {e : Env} {s : State} {m : MethodId} {args : Array Value} {below : List Frame} {meth : Method} {c : Code} {G : GG} {sz : Nat} {r : Int32} {M' : Mem} (E : Cx p s m args meth c cX8_meanShade (some .int) 5 RX8 G) : ∀ fu : Nat, ∀ (x1 : UInt64) (x3 : Int32) (x4 : Int32) (M : Mem) (H : Heap) (locs : List Loc) (ls : Array Slot), f_X8_meanShade_b7 fu x1 x3 x4 M = some (r, M') → PW G (AM G) (XM G) sz M s H → va_S (AM G) s.heap H locs → lv_has ls 5 [(0, .ref (adM G 0 0)), (1, .double x1), (3, .int x3), (4, .int x4)] → W p l e rm_X8_meanShade s m args below meth c H locs 0 0 (MQ below (va_Qi (fun (r2 : Int32) (_ : Unit) => r2 = r) (fun _ t => PW G (AM G) (XM G) sz M' t t.heap) (AM G)) args s 0 0 (AM G)) (F0 m 7 ls []) := by
  obtain ⟨hx, hb, hr, hlocks, hml, hown, hts, hK⟩ := id E
  intro fu
  induction fu with
  | zero => intro x1 x3 x4 M H locs ls hf hP hS hl; cases hf
  | succ fu ih =>
    intro x1 x3 x4 M H locs ls hf hP hS hl
    rw [f_X8_meanShade_b7.eq_2] at hf
    refine lv_iload hx hb dX8_meanShade_7 (lv_at hl 3 rfl) ?_
    refine lv_aload_n hx hb dX8_meanShade_9 rfl (lv_at hl 0 rfl) ?_
    refine gf_X8_s E hP w_797 dX8_meanShade_10 ?_
    refine lv_iconst (v := 1) hx hb dX8_meanShade_13 (by decide) ?_
    refine la_M1 E hP (by decide) dX8_meanShade_14 ?_
    refine lv_icmp_ge (tgt := 51) hx hb dX8_meanShade_15 (by decide) (fun hc => ?_) (fun hc => ?_)
    · have hf := if_t hf hc
      refine lv_iload_n hx hb dX8_meanShade_51 rfl (lv_at hl 2 rfl) ?_
      refine lv_if_ne (tgt := 60) hx hb dX8_meanShade_52 (by decide) (fun hc => ?_) (fun hc => ?_)
      · have hf := if_f hf hc
        refine lv_dload_n hx hb dX8_meanShade_60 rfl (lv_at hl 1 rfl) ?_
        refine lv_iload_n hx hb dX8_meanShade_61 rfl (lv_at hl 2 rfl) ?_
        refine lv_i2d hx hb dX8_meanShade_62 ?_
        refine ck_e hf (fun hi hf => ?_)
        refine lv_ddiv hx hb dX8_meanShade_63 (dok_n hi) ?_
        refine ck_e hf (fun hi hf => ?_)
        refine lv_d2f hx hb dX8_meanShade_64 (fok_n hi) ?_
        refine ob_e hf (fun r_65 M_65 hq hf => ?_)
        refine cv_Jxf58ca_floatToIntBits_5c35a E hP hS hq w_1000 ⟨Nat.le_of_ble_eq_true rfl, Nat.le_of_ble_eq_true rfl⟩ hl (Nat.le_of_ble_eq_true rfl) dX8_meanShade_65 ⟨Nat.le_of_ble_eq_true rfl, Nat.le_of_ble_eq_true rfl⟩ (fun H locs hP hS => ?_)
        exact w_X8_meanShade_b68 E hf hP hS (lv_sub hl [] rfl)
      · have hf := if_t hf hc
        refine lv_ldc (v := (-1000004)) hx hb hown (hts _ w_939) dX8_meanShade_55 ?_
        refine lv_goto (tgt := 68) hx hb dX8_meanShade_57 (by decide) ?_
        exact w_X8_meanShade_b68 E hf hP hS (lv_sub hl [] rfl)
    · have hf := if_f hf hc
      refine lv_aload_n hx hb dX8_meanShade_18 rfl (lv_at hl 0 rfl) ?_
      refine lv_iload hx hb dX8_meanShade_19 (lv_at hl 3 rfl) ?_
      refine ob_e hf (fun r_21 M_21 hq hf => ?_)
      refine cv_X8_isDrawn E hP hS hq w_935 ⟨Nat.le_of_ble_eq_true rfl, Nat.le_of_ble_eq_true rfl⟩ hl (Nat.le_of_ble_eq_true rfl) dX8_meanShade_21 ⟨Nat.le_of_ble_eq_true rfl, Nat.le_of_ble_eq_true rfl⟩ (fun H locs hP hS => ?_)
      refine lv_if_eq (tgt := 45) hx hb dX8_meanShade_24 (by decide) (fun hc => ?_) (fun hc => ?_)
      · have hf := if_t hf hc
        exact w_X8_meanShade_b45 E ih hf hP hS (lv_sub hl [0, 1, 2, 3] rfl)
      · have hf := if_f hf hc
        refine lv_dload_n hx hb dX8_meanShade_27 rfl (lv_at hl 1 rfl) ?_
        refine lv_aload_n hx hb dX8_meanShade_28 rfl (lv_at hl 0 rfl) ?_
        refine lv_iload hx hb dX8_meanShade_29 (lv_at hl 3 rfl) ?_
        refine lv_bipush (v := 7) hx hb dX8_meanShade_31 (by decide) ?_
        refine ob_e hf (fun r_33 M_33 hq hf => ?_)
        refine cv_X8_ln E hP hS hq w_916 ⟨Nat.le_of_ble_eq_true rfl, Nat.le_of_ble_eq_true rfl⟩ hl (Nat.le_of_ble_eq_true rfl) dX8_meanShade_33 ⟨Nat.le_of_ble_eq_true rfl, Nat.le_of_ble_eq_true rfl⟩ (fun H locs hP hS => ?_)
        refine ck_e hf (fun hi hf => ?_)
        refine vn_i2f hx hb (hml.trans hl.1.symm) hown (hts _ w_1077) (hts _ w_1079) (hts _ w_1078) (hts _ w_12) (by simpa using hi) (Nat.le_of_ble_eq_true rfl) (Nat.le_of_ble_eq_true rfl) dX8_meanShade_36 ?_
        refine ck_e hf (fun hi hf => ?_)
        refine lv_f2d hx hb dX8_meanShade_39 (dok_n hi) ?_
        refine ck_e hf (fun hi hf => ?_)
        refine lv_dadd hx hb dX8_meanShade_40 (dok_n hi) ?_
        refine lt_e hf (fun x1_41 hx1_41 hf => ?_)
        refine kr_nmd hx1_41 ?_
        refine lv_dstore_n (lv' := [(1, .double x1_41), (0, .ref (adM G 0 0)), (3, .int x3), (4, .int x4)]) hx hb dX8_meanShade_41 rfl hl (by decide) rfl (fun ls hl => ?_)
        refine lt_e hf (fun x3_42 hx3_42 hf => ?_)
        refine lv_iinc (v := x3_42) (lv' := [(3, .int x3_42), (1, .double x1_41), (0, .ref (adM G 0 0)), (4, .int x4)]) hx hb dX8_meanShade_42 hl (k := 2) rfl (by rw [hx3_42]; rfl) (by decide) rfl (fun ls hl => ?_)
        exact w_X8_meanShade_b45 E ih hf hP hS (lv_sub hl [2, 1, 0, 3] rfl)
set_option maxHeartbeats 4000000 in
set_option maxRecDepth 100000 in
theorem w_X8_meanShade {p : Program} {l : Launch} {e : Env} {s : State} {m : MethodId} {args : Array Value} {below : List Frame} {meth : Method} {c : Code} {G : GG} {sz : Nat} {r : Int32} {M' : Mem} (E : Cx p s m args meth c cX8_meanShade (some .int) 5 RX8 G) {M : Mem} {H : Heap} {locs : List Loc} {ls : Array Slot} (hf : f_X8_meanShade M = some (r, M')) (hP : PW G (AM G) (XM G) sz M s H) (hS : va_S (AM G) s.heap H locs) (hl : lv_has ls 5 [(0, .ref (adM G 0 0))]) : W p l e rm_X8_meanShade s m args below meth c H locs 0 0 (MQ below (va_Qi (fun (r2 : Int32) (_ : Unit) => r2 = r) (fun _ t => PW G (AM G) (XM G) sz M' t t.heap) (AM G)) args s 0 0 (AM G)) (F0 m 0 ls []) := by
  obtain ⟨hx, hb, hr, hlocks, hml, hown, hts, hK⟩ := id E
  unfold f_X8_meanShade at hf
  refine lv_dconst0 hx hb dX8_meanShade_0 ?_
  refine lt_e hf (fun x1_1 hx1_1 hf => ?_)
  refine kr_nmd hx1_1 ?_
  refine lv_dstore_n (lv' := [(1, .double x1_1), (0, .ref (adM G 0 0))]) hx hb dX8_meanShade_1 rfl hl (by decide) rfl (fun ls hl => ?_)
  refine lv_iconst (v := 0) hx hb dX8_meanShade_2 (by decide) ?_
  refine lv_istore_n (lv' := [(3, .int 0), (1, .double x1_1), (0, .ref (adM G 0 0))]) hx hb dX8_meanShade_3 rfl hl (by decide) rfl (fun ls hl => ?_)
  refine lv_iconst (v := 0) hx hb dX8_meanShade_4 (by decide) ?_
  refine lv_istore (lv' := [(4, .int 0), (3, .int 0), (1, .double x1_1), (0, .ref (adM G 0 0))]) hx hb dX8_meanShade_5 hl (by decide) rfl (fun ls hl => ?_)
  exact w_X8_meanShade_b7 E 1000 _ _ _ _ _ _ _ hf hP hS (lv_sub hl [3, 2, 1, 0] rfl)
theorem c_X8_meanShade (l : Launch) {G : GG} {sz : Nat} {M : Mem} {r : Int32} {M' : Mem} (hf : f_X8_meanShade M = some (r, M')) : CtI l yX8_meanShade cX8_meanShade 5 (some .int) rm_X8_meanShade [.ref (adM G 0 0)] G (AM G) (XM G) sz M r (XM G) sz M' := by
  refine Ct_of (by decide) (Nat.le_of_ble_eq_true rfl) (fun p e s m below meth c ls hx hb hr hlocks hml hown hts hK hP hl => ?_)
  exact w_X8_meanShade ⟨hx, hb, hr, hlocks, hml, hown, hts, hK⟩ hf hP va_S.rf hl
set_option maxRecDepth 100000 in
theorem cv_X8_meanShade {p : Program} {l : Launch} {e : Env} {R : Room} {s : State} {m : MethodId} {args : Array Value} {below : List Frame} {meth : Method} {c : Code} {H : Heap} {locs : List Loc} {cells slots : Nat} {Q : State → Prop} {cc : ByteArray} {pc nL index : Nat} {ret : Option FieldType} {own : String} {ls : Array Slot} {rest : List Value} {l' : List (Nat × Value)} {G : GG} {sz : Nat} {M : Mem} (E : Cx p s m args meth c cc ret nL own G) (hP : PW G (AM G) (XM G) sz M s H) (hS : va_S (AM G) s.heap H locs) {r : Int32} {M' : Mem} (hq : f_X8_meanShade M = some (r, M')) (w1 : Cond.methodLink own index yX8_meanShade ∈ lw_all) (hR : 3 ≤ R.frames ∧ 104 ≤ R.locals) (hl : lv_has ls nL l') (hrest : (rest.map fun v => v.category).sum ≤ 8) (hdg : decode cc pc = .ok (.invokevirtual index, 3)) (hcs : cells ≤ R.cells ∧ slots ≤ R.slots)
    (kk : ∀ (H1 : Heap) (locs1 : List Loc), PW G (AM G) (XM G) sz M' s H1 → va_S (AM G) s.heap H1 locs1 → W p l e R s m args below meth c H1 locs1 cells slots Q (F0 m (pc + 3) ls (.int r :: rest))) : W p l e R s m args below meth c H locs cells slots Q (F0 m pc ls (.ref (adM G 0 0) :: rest)) := by
  obtain ⟨hx, hb, hr, hlocks, hml, hown, hts, hK⟩ := E
  exact kc_i (kc_runV (na := 0) (q := (RX8, TX8, 16)) hx hb hml hts hown hK hP 0 0 ⟨rfl, by decide⟩ rfl rfl rfl (c_X8_meanShade l hq) w1 w_1074 w_1075 w_9 w_1076 (by decide +kernel) hR rfl hl rfl hrest hdg hcs) hS kk
/-! X8_plans -/
abbrev rm_X8_plans : Room := { frames := 2, cells := 0, slots := 0, locals := 45 }
def f_X8_plans_b32 (L2 : Int32 → Mem → Option (Int32 × Mem)) (x1 : Int32) (s1 : Int32) (s2 : Int32) (M : Mem) : Option (Int32 × Mem) :=
ck (ibd s1 5) <|
lt (up3 M 0 7 (ix s1) s2) fun M_32 =>
lt (x1 + 1) fun x1_33 =>
L2 x1_33 M_32
def f_X8_plans_b146 (L85 : Int32 → Int32 → Int32 → Mem → Option (Int32 × Mem)) (x1 : Int32) (x3 : Int32) (s0 : Int32) (M : Mem) : Option (Int32 × Mem) :=
lt (x3 + 1) fun x3_147 =>
L85 x1 s0 x3_147 M
def f_X8_plans_b134 (L85 : Int32 → Int32 → Int32 → Mem → Option (Int32 × Mem)) (x1 : Int32) (x2 : Int32) (x3 : Int32) (s0 : Int32) (M : Mem) : Option (Int32 × Mem) :=
(if s0 = 0 then
  f_X8_plans_b146 L85 x1 x3 x2 M
else
  f_X8_plans_b146 L85 x1 x3 x3 M)
def f_X8_plans_b133 (L85 : Int32 → Int32 → Int32 → Mem → Option (Int32 × Mem)) (x1 : Int32) (x2 : Int32) (x3 : Int32) (M : Mem) : Option (Int32 × Mem) :=
f_X8_plans_b134 L85 x1 x2 x3 0 M
def f_X8_plans_b129 (L85 : Int32 → Int32 → Int32 → Mem → Option (Int32 × Mem)) (x1 : Int32) (x2 : Int32) (x3 : Int32) (M : Mem) : Option (Int32 × Mem) :=
f_X8_plans_b134 L85 x1 x2 x3 1 M
def f_X8_plans_b238 (L71 : Int32 → Mem → Option (Int32 × Mem)) (x1 : Int32) (M : Mem) : Option (Int32 × Mem) :=
lt (x1 + 1) fun x1_238 =>
L71 x1_238 M
def f_X8_plans_b210 (L162 : Int32 → Int32 → Int32 → Int32 → Mem → Option (Int32 × Mem)) (x1 : Int32) (x2 : Int32) (x4 : Int32) (s0 : Int32) (M : Mem) : Option (Int32 × Mem) :=
lt (x4 + 1) fun x4_211 =>
L162 x1 x2 s0 x4_211 M
def f_X8_plans_b209 (L162 : Int32 → Int32 → Int32 → Int32 → Mem → Option (Int32 × Mem)) (x1 : Int32) (x2 : Int32) (x3 : Int32) (x4 : Int32) (M : Mem) : Option (Int32 × Mem) :=
f_X8_plans_b210 L162 x1 x2 x4 x3 M
def f_X8_plans_b204 (L162 : Int32 → Int32 → Int32 → Int32 → Mem → Option (Int32 × Mem)) (x1 : Int32) (x2 : Int32) (x4 : Int32) (M : Mem) : Option (Int32 × Mem) :=
f_X8_plans_b210 L162 x1 x2 x4 x4 M
def f_X8_plans_b162 (L71 : Int32 → Mem → Option (Int32 × Mem)) : Nat → Int32 → Int32 → Int32 → Int32 → Mem → Option (Int32 × Mem)
  | 0 => fun _ _ _ _ _ => none
  | fu + 1 => fun x1 x2 x3 x4 M =>
(if (M 0 1 (ix 0)) ≤ x4 then
  ck (ibd x2 16) <|
  lt (up3 M 0 6 (ix x2) x3) fun M_223 =>
  ck (ibd x3 5) <|
  ob (f_X8_length x2 M_223) fun r_233 M_233 =>
  ck (ibd x3 5) <|
  lt (up3 M_233 0 7 (ix x3) ((M_223 0 7 (ix x3)) + r_233)) fun M_237 =>
  f_X8_plans_b238 L71 x1 M_237
else
  ob (f_X8_pn x4 6 M) fun r_178 M_178 =>
  (if r_178 = 0 then
    (if x3 < 0 then
      f_X8_plans_b204 (f_X8_plans_b162 L71 fu) x1 x2 x4 M_178
    else
      ck (ibd x4 5) <|
      ck (ibd x3 5) <|
      (if (M_178 0 7 (ix x3)) ≤ (M_178 0 7 (ix x4)) then
        f_X8_plans_b209 (f_X8_plans_b162 L71 fu) x1 x2 x3 x4 M_178
      else
        f_X8_plans_b204 (f_X8_plans_b162 L71 fu) x1 x2 x4 M_178))
  else
    f_X8_plans_b209 (f_X8_plans_b162 L71 fu) x1 x2 x3 x4 M_178))
def f_X8_plans_b85 (L71 : Int32 → Mem → Option (Int32 × Mem)) : Nat → Int32 → Int32 → Int32 → Mem → Option (Int32 × Mem)
  | 0 => fun _ _ _ _ => none
  | fu + 1 => fun x1 x2 x3 M =>
(if (M 0 1 (ix 1)) ≤ x3 then
  (if x2 < 0 then
    f_X8_plans_b238 L71 x1 M
  else
    f_X8_plans_b162 L71 1000 x1 x2 (-1) 0 M)
else
  ob (f_X8_isDrawn x3 M) fun r_97 M_97 =>
  (if r_97 = 0 then
    ck (ibd x3 16) <|
    (if 0 ≤ (M_97 0 6 (ix x3)) then
      f_X8_plans_b133 (f_X8_plans_b85 L71 fu) x1 x2 x3 M_97
    else
      (if x2 < 0 then
        f_X8_plans_b129 (f_X8_plans_b85 L71 fu) x1 x2 x3 M_97
      else
        ob (f_X8_length x3 M_97) fun r_118 M_118 =>
        ob (f_X8_length x2 M_118) fun r_123 M_123 =>
        (if r_118 ≤ r_123 then
          f_X8_plans_b133 (f_X8_plans_b85 L71 fu) x1 x2 x3 M_123
        else
          f_X8_plans_b129 (f_X8_plans_b85 L71 fu) x1 x2 x3 M_123)))
  else
    f_X8_plans_b133 (f_X8_plans_b85 L71 fu) x1 x2 x3 M_97))
def f_X8_plans_b71 : Nat → Int32 → Mem → Option (Int32 × Mem)
  | 0 => fun _ _ => none
  | fu + 1 => fun x1 M =>
(if (M 0 1 (ix 1)) ≤ x1 then
  some (1, M)
else
  f_X8_plans_b85 (f_X8_plans_b71 fu) 1000 x1 (-1) 0 M)
def f_X8_plans_b41 : Nat → Int32 → Mem → Option (Int32 × Mem)
  | 0 => fun _ _ => none
  | fu + 1 => fun x1 M =>
(if 16 ≤ x1 then
  ob (f_X8_present M) fun r_61 M_61 =>
  (if r_61 = 0 then
    some (0, M_61)
  else
    f_X8_plans_b71 1000 0 M_61)
else
  ck (ibd x1 16) <|
  lt (up3 M 0 6 (ix x1) (-1)) fun M_53 =>
  lt (x1 + 1) fun x1_54 =>
  f_X8_plans_b41 fu x1_54 M_53)
def f_X8_plans_b2 : Nat → Int32 → Mem → Option (Int32 × Mem)
  | 0 => fun _ _ => none
  | fu + 1 => fun x1 M =>
(if 5 ≤ x1 then
  f_X8_plans_b41 1000 0 M
else
  (if (M 0 1 (ix 0)) ≤ x1 then
    f_X8_plans_b32 (f_X8_plans_b2 fu) x1 x1 0 M
  else
    ob (f_X8_pn x1 3 M) fun r_25 M_25 =>
    f_X8_plans_b32 (f_X8_plans_b2 fu) x1 x1 r_25 M_25))
def f_X8_plans (M : Mem) : Option (Int32 × Mem) :=
f_X8_plans_b2 1000 0 M
set_option maxHeartbeats 4000000 in
set_option maxRecDepth 100000 in
theorem w_X8_plans_b32 {p : Program} {l : Launch} {e : Env} {s : State} {m : MethodId} {args : Array Value} {below : List Frame} {meth : Method} {c : Code} {G : GG} {sz : Nat} {r : Int32} {M' : Mem} (E : Cx p s m args meth c cX8_plans (some .boolean) 5 RX8 G) {L2 : Int32 → Mem → Option (Int32 × Mem)} (hL2 : ∀ (x1 : Int32) (M : Mem) (H : Heap) (locs : List Loc) (ls : Array Slot), L2 x1 M = some (r, M') → PW G (AM G) (XM G) sz M s H → va_S (AM G) s.heap H locs → lv_has ls 5 [(0, .ref (adM G 0 0)), (1, .int x1)] → W p l e rm_X8_plans s m args below meth c H locs 0 0 (MQ below (va_Qi (fun (r2 : Int32) (_ : Unit) => r2 = r) (fun _ t => PW G (AM G) (XM G) sz M' t t.heap) (AM G)) args s 0 0 (AM G)) (F0 m 2 ls [])) {x1 : Int32} {s1 : Int32} {s2 : Int32} {M : Mem} {H : Heap} {locs : List Loc} {ls : Array Slot} (hf : f_X8_plans_b32 L2 x1 s1 s2 M = some (r, M')) (hP : PW G (AM G) (XM G) sz M s H) (hS : va_S (AM G) s.heap H locs) (hl : lv_has ls 5 [(0, .ref (adM G 0 0)), (1, .int x1)]) : W p l e rm_X8_plans s m args below meth c H locs 0 0 (MQ below (va_Qi (fun (r2 : Int32) (_ : Unit) => r2 = r) (fun _ t => PW G (AM G) (XM G) sz M' t t.heap) (AM G)) args s 0 0 (AM G)) (F0 m 32 ls [.int s2, .int s1, .ref (adM G 0 7)]) := by
  obtain ⟨hx, hb, hr, hlocks, hml, hown, hts, hK⟩ := id E
  unfold f_X8_plans_b32 at hf
  refine ck_e hf (fun hi hf => ?_)
  refine lt_e hf (fun M_32 hM_32 hf => ?_)
  refine sa_M7 E hP hS hi hM_32 dX8_plans_32 (fun H locs hP hS => ?_)
  refine lt_e hf (fun x1_33 hx1_33 hf => ?_)
  refine lv_iinc (v := x1_33) (lv' := [(1, .int x1_33), (0, .ref (adM G 0 0))]) hx hb dX8_plans_33 hl (k := 1) rfl (by rw [hx1_33]; rfl) (by decide) rfl (fun ls hl => ?_)
  refine lv_goto (tgt := 2) hx hb dX8_plans_36 (by decide) ?_
  exact hL2 _ _ _ _ _ hf hP hS (lv_sub hl [1, 0] rfl)
set_option maxHeartbeats 4000000 in
set_option maxRecDepth 100000 in
theorem w_X8_plans_b146 {p : Program} {l : Launch} {e : Env} {s : State} {m : MethodId} {args : Array Value} {below : List Frame} {meth : Method} {c : Code} {G : GG} {sz : Nat} {r : Int32} {M' : Mem} (E : Cx p s m args meth c cX8_plans (some .boolean) 5 RX8 G) {L85 : Int32 → Int32 → Int32 → Mem → Option (Int32 × Mem)} (hL85 : ∀ (x1 : Int32) (x2 : Int32) (x3 : Int32) (M : Mem) (H : Heap) (locs : List Loc) (ls : Array Slot), L85 x1 x2 x3 M = some (r, M') → PW G (AM G) (XM G) sz M s H → va_S (AM G) s.heap H locs → lv_has ls 5 [(0, .ref (adM G 0 0)), (1, .int x1), (2, .int x2), (3, .int x3)] → W p l e rm_X8_plans s m args below meth c H locs 0 0 (MQ below (va_Qi (fun (r2 : Int32) (_ : Unit) => r2 = r) (fun _ t => PW G (AM G) (XM G) sz M' t t.heap) (AM G)) args s 0 0 (AM G)) (F0 m 85 ls [])) {x1 : Int32} {x3 : Int32} {s0 : Int32} {M : Mem} {H : Heap} {locs : List Loc} {ls : Array Slot} (hf : f_X8_plans_b146 L85 x1 x3 s0 M = some (r, M')) (hP : PW G (AM G) (XM G) sz M s H) (hS : va_S (AM G) s.heap H locs) (hl : lv_has ls 5 [(0, .ref (adM G 0 0)), (1, .int x1), (3, .int x3)]) : W p l e rm_X8_plans s m args below meth c H locs 0 0 (MQ below (va_Qi (fun (r2 : Int32) (_ : Unit) => r2 = r) (fun _ t => PW G (AM G) (XM G) sz M' t t.heap) (AM G)) args s 0 0 (AM G)) (F0 m 146 ls [.int s0]) := by
  obtain ⟨hx, hb, hr, hlocks, hml, hown, hts, hK⟩ := id E
  unfold f_X8_plans_b146 at hf
  refine lv_istore_n (lv' := [(2, .int s0), (0, .ref (adM G 0 0)), (1, .int x1), (3, .int x3)]) hx hb dX8_plans_146 rfl hl (by decide) rfl (fun ls hl => ?_)
  refine lt_e hf (fun x3_147 hx3_147 hf => ?_)
  refine lv_iinc (v := x3_147) (lv' := [(3, .int x3_147), (2, .int s0), (0, .ref (adM G 0 0)), (1, .int x1)]) hx hb dX8_plans_147 hl (k := 3) rfl (by rw [hx3_147]; rfl) (by decide) rfl (fun ls hl => ?_)
  refine lv_goto (tgt := 85) hx hb dX8_plans_150 (by decide) ?_
  exact hL85 _ _ _ _ _ _ _ hf hP hS (lv_sub hl [2, 3, 1, 0] rfl)
set_option maxHeartbeats 4000000 in
set_option maxRecDepth 100000 in
theorem w_X8_plans_b134 {p : Program} {l : Launch} {e : Env} {s : State} {m : MethodId} {args : Array Value} {below : List Frame} {meth : Method} {c : Code} {G : GG} {sz : Nat} {r : Int32} {M' : Mem} (E : Cx p s m args meth c cX8_plans (some .boolean) 5 RX8 G) {L85 : Int32 → Int32 → Int32 → Mem → Option (Int32 × Mem)} (hL85 : ∀ (x1 : Int32) (x2 : Int32) (x3 : Int32) (M : Mem) (H : Heap) (locs : List Loc) (ls : Array Slot), L85 x1 x2 x3 M = some (r, M') → PW G (AM G) (XM G) sz M s H → va_S (AM G) s.heap H locs → lv_has ls 5 [(0, .ref (adM G 0 0)), (1, .int x1), (2, .int x2), (3, .int x3)] → W p l e rm_X8_plans s m args below meth c H locs 0 0 (MQ below (va_Qi (fun (r2 : Int32) (_ : Unit) => r2 = r) (fun _ t => PW G (AM G) (XM G) sz M' t t.heap) (AM G)) args s 0 0 (AM G)) (F0 m 85 ls [])) {x1 : Int32} {x2 : Int32} {x3 : Int32} {s0 : Int32} {M : Mem} {H : Heap} {locs : List Loc} {ls : Array Slot} (hf : f_X8_plans_b134 L85 x1 x2 x3 s0 M = some (r, M')) (hP : PW G (AM G) (XM G) sz M s H) (hS : va_S (AM G) s.heap H locs) (hl : lv_has ls 5 [(0, .ref (adM G 0 0)), (1, .int x1), (2, .int x2), (3, .int x3)]) : W p l e rm_X8_plans s m args below meth c H locs 0 0 (MQ below (va_Qi (fun (r2 : Int32) (_ : Unit) => r2 = r) (fun _ t => PW G (AM G) (XM G) sz M' t t.heap) (AM G)) args s 0 0 (AM G)) (F0 m 134 ls [.int s0]) := by
  obtain ⟨hx, hb, hr, hlocks, hml, hown, hts, hK⟩ := id E
  unfold f_X8_plans_b134 at hf
  refine lv_istore (lv' := [(4, .int s0), (0, .ref (adM G 0 0)), (1, .int x1), (2, .int x2), (3, .int x3)]) hx hb dX8_plans_134 hl (by decide) rfl (fun ls hl => ?_)
  refine lv_iload hx hb dX8_plans_136 (lv_at hl 0 rfl) ?_
  refine lv_if_eq (tgt := 145) hx hb dX8_plans_138 (by decide) (fun hc => ?_) (fun hc => ?_)
  · have hf := if_t hf hc
    refine lv_iload_n hx hb dX8_plans_145 rfl (lv_at hl 3 rfl) ?_
    exact w_X8_plans_b146 E hL85 hf hP hS (lv_sub hl [1, 2, 4] rfl)
  · have hf := if_f hf hc
    refine lv_iload_n hx hb dX8_plans_141 rfl (lv_at hl 4 rfl) ?_
    refine lv_goto (tgt := 146) hx hb dX8_plans_142 (by decide) ?_
    exact w_X8_plans_b146 E hL85 hf hP hS (lv_sub hl [1, 2, 4] rfl)
set_option maxHeartbeats 4000000 in
set_option maxRecDepth 100000 in
theorem w_X8_plans_b133 {p : Program} {l : Launch} {e : Env} {s : State} {m : MethodId} {args : Array Value} {below : List Frame} {meth : Method} {c : Code} {G : GG} {sz : Nat} {r : Int32} {M' : Mem} (E : Cx p s m args meth c cX8_plans (some .boolean) 5 RX8 G) {L85 : Int32 → Int32 → Int32 → Mem → Option (Int32 × Mem)} (hL85 : ∀ (x1 : Int32) (x2 : Int32) (x3 : Int32) (M : Mem) (H : Heap) (locs : List Loc) (ls : Array Slot), L85 x1 x2 x3 M = some (r, M') → PW G (AM G) (XM G) sz M s H → va_S (AM G) s.heap H locs → lv_has ls 5 [(0, .ref (adM G 0 0)), (1, .int x1), (2, .int x2), (3, .int x3)] → W p l e rm_X8_plans s m args below meth c H locs 0 0 (MQ below (va_Qi (fun (r2 : Int32) (_ : Unit) => r2 = r) (fun _ t => PW G (AM G) (XM G) sz M' t t.heap) (AM G)) args s 0 0 (AM G)) (F0 m 85 ls [])) {x1 : Int32} {x2 : Int32} {x3 : Int32} {M : Mem} {H : Heap} {locs : List Loc} {ls : Array Slot} (hf : f_X8_plans_b133 L85 x1 x2 x3 M = some (r, M')) (hP : PW G (AM G) (XM G) sz M s H) (hS : va_S (AM G) s.heap H locs) (hl : lv_has ls 5 [(0, .ref (adM G 0 0)), (1, .int x1), (2, .int x2), (3, .int x3)]) : W p l e rm_X8_plans s m args below meth c H locs 0 0 (MQ below (va_Qi (fun (r2 : Int32) (_ : Unit) => r2 = r) (fun _ t => PW G (AM G) (XM G) sz M' t t.heap) (AM G)) args s 0 0 (AM G)) (F0 m 133 ls []) := by
  obtain ⟨hx, hb, hr, hlocks, hml, hown, hts, hK⟩ := id E
  unfold f_X8_plans_b133 at hf
  refine lv_iconst (v := 0) hx hb dX8_plans_133 (by decide) ?_
  exact w_X8_plans_b134 E hL85 hf hP hS (lv_sub hl [0, 1, 2, 3] rfl)
set_option maxHeartbeats 4000000 in
set_option maxRecDepth 100000 in
theorem w_X8_plans_b129 {p : Program} {l : Launch} {e : Env} {s : State} {m : MethodId} {args : Array Value} {below : List Frame} {meth : Method} {c : Code} {G : GG} {sz : Nat} {r : Int32} {M' : Mem} (E : Cx p s m args meth c cX8_plans (some .boolean) 5 RX8 G) {L85 : Int32 → Int32 → Int32 → Mem → Option (Int32 × Mem)} (hL85 : ∀ (x1 : Int32) (x2 : Int32) (x3 : Int32) (M : Mem) (H : Heap) (locs : List Loc) (ls : Array Slot), L85 x1 x2 x3 M = some (r, M') → PW G (AM G) (XM G) sz M s H → va_S (AM G) s.heap H locs → lv_has ls 5 [(0, .ref (adM G 0 0)), (1, .int x1), (2, .int x2), (3, .int x3)] → W p l e rm_X8_plans s m args below meth c H locs 0 0 (MQ below (va_Qi (fun (r2 : Int32) (_ : Unit) => r2 = r) (fun _ t => PW G (AM G) (XM G) sz M' t t.heap) (AM G)) args s 0 0 (AM G)) (F0 m 85 ls [])) {x1 : Int32} {x2 : Int32} {x3 : Int32} {M : Mem} {H : Heap} {locs : List Loc} {ls : Array Slot} (hf : f_X8_plans_b129 L85 x1 x2 x3 M = some (r, M')) (hP : PW G (AM G) (XM G) sz M s H) (hS : va_S (AM G) s.heap H locs) (hl : lv_has ls 5 [(0, .ref (adM G 0 0)), (1, .int x1), (2, .int x2), (3, .int x3)]) : W p l e rm_X8_plans s m args below meth c H locs 0 0 (MQ below (va_Qi (fun (r2 : Int32) (_ : Unit) => r2 = r) (fun _ t => PW G (AM G) (XM G) sz M' t t.heap) (AM G)) args s 0 0 (AM G)) (F0 m 129 ls []) := by
  obtain ⟨hx, hb, hr, hlocks, hml, hown, hts, hK⟩ := id E
  unfold f_X8_plans_b129 at hf
  refine lv_iconst (v := 1) hx hb dX8_plans_129 (by decide) ?_
  refine lv_goto (tgt := 134) hx hb dX8_plans_130 (by decide) ?_
  exact w_X8_plans_b134 E hL85 hf hP hS (lv_sub hl [0, 1, 2, 3] rfl)
set_option maxHeartbeats 4000000 in
set_option maxRecDepth 100000 in
theorem w_X8_plans_b238 {p : Program} {l : Launch} {e : Env} {s : State} {m : MethodId} {args : Array Value} {below : List Frame} {meth : Method} {c : Code} {G : GG} {sz : Nat} {r : Int32} {M' : Mem} (E : Cx p s m args meth c cX8_plans (some .boolean) 5 RX8 G) {L71 : Int32 → Mem → Option (Int32 × Mem)} (hL71 : ∀ (x1 : Int32) (M : Mem) (H : Heap) (locs : List Loc) (ls : Array Slot), L71 x1 M = some (r, M') → PW G (AM G) (XM G) sz M s H → va_S (AM G) s.heap H locs → lv_has ls 5 [(0, .ref (adM G 0 0)), (1, .int x1)] → W p l e rm_X8_plans s m args below meth c H locs 0 0 (MQ below (va_Qi (fun (r2 : Int32) (_ : Unit) => r2 = r) (fun _ t => PW G (AM G) (XM G) sz M' t t.heap) (AM G)) args s 0 0 (AM G)) (F0 m 71 ls [])) {x1 : Int32} {M : Mem} {H : Heap} {locs : List Loc} {ls : Array Slot} (hf : f_X8_plans_b238 L71 x1 M = some (r, M')) (hP : PW G (AM G) (XM G) sz M s H) (hS : va_S (AM G) s.heap H locs) (hl : lv_has ls 5 [(0, .ref (adM G 0 0)), (1, .int x1)]) : W p l e rm_X8_plans s m args below meth c H locs 0 0 (MQ below (va_Qi (fun (r2 : Int32) (_ : Unit) => r2 = r) (fun _ t => PW G (AM G) (XM G) sz M' t t.heap) (AM G)) args s 0 0 (AM G)) (F0 m 238 ls []) := by
  obtain ⟨hx, hb, hr, hlocks, hml, hown, hts, hK⟩ := id E
  unfold f_X8_plans_b238 at hf
  refine lt_e hf (fun x1_238 hx1_238 hf => ?_)
  refine lv_iinc (v := x1_238) (lv' := [(1, .int x1_238), (0, .ref (adM G 0 0))]) hx hb dX8_plans_238 hl (k := 1) rfl (by rw [hx1_238]; rfl) (by decide) rfl (fun ls hl => ?_)
  refine lv_goto (tgt := 71) hx hb dX8_plans_241 (by decide) ?_
  exact hL71 _ _ _ _ _ hf hP hS (lv_sub hl [1, 0] rfl)
set_option maxHeartbeats 4000000 in
set_option maxRecDepth 100000 in
theorem w_X8_plans_b210 {p : Program} {l : Launch} {e : Env} {s : State} {m : MethodId} {args : Array Value} {below : List Frame} {meth : Method} {c : Code} {G : GG} {sz : Nat} {r : Int32} {M' : Mem} (E : Cx p s m args meth c cX8_plans (some .boolean) 5 RX8 G) {L162 : Int32 → Int32 → Int32 → Int32 → Mem → Option (Int32 × Mem)} (hL162 : ∀ (x1 : Int32) (x2 : Int32) (x3 : Int32) (x4 : Int32) (M : Mem) (H : Heap) (locs : List Loc) (ls : Array Slot), L162 x1 x2 x3 x4 M = some (r, M') → PW G (AM G) (XM G) sz M s H → va_S (AM G) s.heap H locs → lv_has ls 5 [(0, .ref (adM G 0 0)), (1, .int x1), (2, .int x2), (3, .int x3), (4, .int x4)] → W p l e rm_X8_plans s m args below meth c H locs 0 0 (MQ below (va_Qi (fun (r2 : Int32) (_ : Unit) => r2 = r) (fun _ t => PW G (AM G) (XM G) sz M' t t.heap) (AM G)) args s 0 0 (AM G)) (F0 m 162 ls [])) {x1 : Int32} {x2 : Int32} {x4 : Int32} {s0 : Int32} {M : Mem} {H : Heap} {locs : List Loc} {ls : Array Slot} (hf : f_X8_plans_b210 L162 x1 x2 x4 s0 M = some (r, M')) (hP : PW G (AM G) (XM G) sz M s H) (hS : va_S (AM G) s.heap H locs) (hl : lv_has ls 5 [(0, .ref (adM G 0 0)), (1, .int x1), (2, .int x2), (4, .int x4)]) : W p l e rm_X8_plans s m args below meth c H locs 0 0 (MQ below (va_Qi (fun (r2 : Int32) (_ : Unit) => r2 = r) (fun _ t => PW G (AM G) (XM G) sz M' t t.heap) (AM G)) args s 0 0 (AM G)) (F0 m 210 ls [.int s0]) := by
  obtain ⟨hx, hb, hr, hlocks, hml, hown, hts, hK⟩ := id E
  unfold f_X8_plans_b210 at hf
  refine lv_istore_n (lv' := [(3, .int s0), (0, .ref (adM G 0 0)), (1, .int x1), (2, .int x2), (4, .int x4)]) hx hb dX8_plans_210 rfl hl (by decide) rfl (fun ls hl => ?_)
  refine lt_e hf (fun x4_211 hx4_211 hf => ?_)
  refine lv_iinc (v := x4_211) (lv' := [(4, .int x4_211), (3, .int s0), (0, .ref (adM G 0 0)), (1, .int x1), (2, .int x2)]) hx hb dX8_plans_211 hl (k := 4) rfl (by rw [hx4_211]; rfl) (by decide) rfl (fun ls hl => ?_)
  refine lv_goto (tgt := 162) hx hb dX8_plans_214 (by decide) ?_
  exact hL162 _ _ _ _ _ _ _ _ hf hP hS (lv_sub hl [2, 3, 4, 1, 0] rfl)
set_option maxHeartbeats 4000000 in
set_option maxRecDepth 100000 in
theorem w_X8_plans_b209 {p : Program} {l : Launch} {e : Env} {s : State} {m : MethodId} {args : Array Value} {below : List Frame} {meth : Method} {c : Code} {G : GG} {sz : Nat} {r : Int32} {M' : Mem} (E : Cx p s m args meth c cX8_plans (some .boolean) 5 RX8 G) {L162 : Int32 → Int32 → Int32 → Int32 → Mem → Option (Int32 × Mem)} (hL162 : ∀ (x1 : Int32) (x2 : Int32) (x3 : Int32) (x4 : Int32) (M : Mem) (H : Heap) (locs : List Loc) (ls : Array Slot), L162 x1 x2 x3 x4 M = some (r, M') → PW G (AM G) (XM G) sz M s H → va_S (AM G) s.heap H locs → lv_has ls 5 [(0, .ref (adM G 0 0)), (1, .int x1), (2, .int x2), (3, .int x3), (4, .int x4)] → W p l e rm_X8_plans s m args below meth c H locs 0 0 (MQ below (va_Qi (fun (r2 : Int32) (_ : Unit) => r2 = r) (fun _ t => PW G (AM G) (XM G) sz M' t t.heap) (AM G)) args s 0 0 (AM G)) (F0 m 162 ls [])) {x1 : Int32} {x2 : Int32} {x3 : Int32} {x4 : Int32} {M : Mem} {H : Heap} {locs : List Loc} {ls : Array Slot} (hf : f_X8_plans_b209 L162 x1 x2 x3 x4 M = some (r, M')) (hP : PW G (AM G) (XM G) sz M s H) (hS : va_S (AM G) s.heap H locs) (hl : lv_has ls 5 [(0, .ref (adM G 0 0)), (1, .int x1), (2, .int x2), (3, .int x3), (4, .int x4)]) : W p l e rm_X8_plans s m args below meth c H locs 0 0 (MQ below (va_Qi (fun (r2 : Int32) (_ : Unit) => r2 = r) (fun _ t => PW G (AM G) (XM G) sz M' t t.heap) (AM G)) args s 0 0 (AM G)) (F0 m 209 ls []) := by
  obtain ⟨hx, hb, hr, hlocks, hml, hown, hts, hK⟩ := id E
  unfold f_X8_plans_b209 at hf
  refine lv_iload_n hx hb dX8_plans_209 rfl (lv_at hl 3 rfl) ?_
  exact w_X8_plans_b210 E hL162 hf hP hS (lv_sub hl [0, 1, 2, 4] rfl)
set_option maxHeartbeats 4000000 in
set_option maxRecDepth 100000 in
theorem w_X8_plans_b204 {p : Program} {l : Launch} {e : Env} {s : State} {m : MethodId} {args : Array Value} {below : List Frame} {meth : Method} {c : Code} {G : GG} {sz : Nat} {r : Int32} {M' : Mem} (E : Cx p s m args meth c cX8_plans (some .boolean) 5 RX8 G) {L162 : Int32 → Int32 → Int32 → Int32 → Mem → Option (Int32 × Mem)} (hL162 : ∀ (x1 : Int32) (x2 : Int32) (x3 : Int32) (x4 : Int32) (M : Mem) (H : Heap) (locs : List Loc) (ls : Array Slot), L162 x1 x2 x3 x4 M = some (r, M') → PW G (AM G) (XM G) sz M s H → va_S (AM G) s.heap H locs → lv_has ls 5 [(0, .ref (adM G 0 0)), (1, .int x1), (2, .int x2), (3, .int x3), (4, .int x4)] → W p l e rm_X8_plans s m args below meth c H locs 0 0 (MQ below (va_Qi (fun (r2 : Int32) (_ : Unit) => r2 = r) (fun _ t => PW G (AM G) (XM G) sz M' t t.heap) (AM G)) args s 0 0 (AM G)) (F0 m 162 ls [])) {x1 : Int32} {x2 : Int32} {x4 : Int32} {M : Mem} {H : Heap} {locs : List Loc} {ls : Array Slot} (hf : f_X8_plans_b204 L162 x1 x2 x4 M = some (r, M')) (hP : PW G (AM G) (XM G) sz M s H) (hS : va_S (AM G) s.heap H locs) (hl : lv_has ls 5 [(0, .ref (adM G 0 0)), (1, .int x1), (2, .int x2), (4, .int x4)]) : W p l e rm_X8_plans s m args below meth c H locs 0 0 (MQ below (va_Qi (fun (r2 : Int32) (_ : Unit) => r2 = r) (fun _ t => PW G (AM G) (XM G) sz M' t t.heap) (AM G)) args s 0 0 (AM G)) (F0 m 204 ls []) := by
  obtain ⟨hx, hb, hr, hlocks, hml, hown, hts, hK⟩ := id E
  unfold f_X8_plans_b204 at hf
  refine lv_iload hx hb dX8_plans_204 (lv_at hl 3 rfl) ?_
  refine lv_goto (tgt := 210) hx hb dX8_plans_206 (by decide) ?_
  exact w_X8_plans_b210 E hL162 hf hP hS (lv_sub hl [0, 1, 2, 3] rfl)
set_option maxHeartbeats 4000000 in
set_option maxRecDepth 100000 in
theorem w_X8_plans_b162 {p : Program} {l : Launch} {e : Env} {s : State} {m : MethodId} {args : Array Value} {below : List Frame} {meth : Method} {c : Code} {G : GG} {sz : Nat} {r : Int32} {M' : Mem} (E : Cx p s m args meth c cX8_plans (some .boolean) 5 RX8 G) {L71 : Int32 → Mem → Option (Int32 × Mem)} (hL71 : ∀ (x1 : Int32) (M : Mem) (H : Heap) (locs : List Loc) (ls : Array Slot), L71 x1 M = some (r, M') → PW G (AM G) (XM G) sz M s H → va_S (AM G) s.heap H locs → lv_has ls 5 [(0, .ref (adM G 0 0)), (1, .int x1)] → W p l e rm_X8_plans s m args below meth c H locs 0 0 (MQ below (va_Qi (fun (r2 : Int32) (_ : Unit) => r2 = r) (fun _ t => PW G (AM G) (XM G) sz M' t t.heap) (AM G)) args s 0 0 (AM G)) (F0 m 71 ls [])) : ∀ fu : Nat, ∀ (x1 : Int32) (x2 : Int32) (x3 : Int32) (x4 : Int32) (M : Mem) (H : Heap) (locs : List Loc) (ls : Array Slot), f_X8_plans_b162 L71 fu x1 x2 x3 x4 M = some (r, M') → PW G (AM G) (XM G) sz M s H → va_S (AM G) s.heap H locs → lv_has ls 5 [(0, .ref (adM G 0 0)), (1, .int x1), (2, .int x2), (3, .int x3), (4, .int x4)] → W p l e rm_X8_plans s m args below meth c H locs 0 0 (MQ below (va_Qi (fun (r2 : Int32) (_ : Unit) => r2 = r) (fun _ t => PW G (AM G) (XM G) sz M' t t.heap) (AM G)) args s 0 0 (AM G)) (F0 m 162 ls []) := by
  obtain ⟨hx, hb, hr, hlocks, hml, hown, hts, hK⟩ := id E
  intro fu
  induction fu with
  | zero => intro x1 x2 x3 x4 M H locs ls hf hP hS hl; cases hf
  | succ fu ih =>
    intro x1 x2 x3 x4 M H locs ls hf hP hS hl
    rw [f_X8_plans_b162.eq_2] at hf
    refine lv_iload hx hb dX8_plans_162 (lv_at hl 4 rfl) ?_
    refine lv_aload_n hx hb dX8_plans_164 rfl (lv_at hl 0 rfl) ?_
    refine gf_X8_s E hP w_797 dX8_plans_165 ?_
    refine lv_iconst (v := 0) hx hb dX8_plans_168 (by decide) ?_
    refine la_M1 E hP (by decide) dX8_plans_169 ?_
    refine lv_icmp_ge (tgt := 217) hx hb dX8_plans_170 (by decide) (fun hc => ?_) (fun hc => ?_)
    · have hf := if_t hf hc
      refine lv_aload_n hx hb dX8_plans_217 rfl (lv_at hl 0 rfl) ?_
      refine gf_X8_fair E hP w_808 dX8_plans_218 ?_
      refine lv_iload_n hx hb dX8_plans_221 rfl (lv_at hl 2 rfl) ?_
      refine lv_iload_n hx hb dX8_plans_222 rfl (lv_at hl 3 rfl) ?_
      refine ck_e hf (fun hi hf => ?_)
      refine lt_e hf (fun M_223 hM_223 hf => ?_)
      refine sa_M6 E hP hS hi hM_223 dX8_plans_223 (fun H locs hP hS => ?_)
      refine lv_aload_n hx hb dX8_plans_224 rfl (lv_at hl 0 rfl) ?_
      refine gf_X8_sums E hP w_809 dX8_plans_225 ?_
      refine lv_iload_n hx hb dX8_plans_228 rfl (lv_at hl 3 rfl) ?_
      refine lv_dup2_11 hx hb dX8_plans_229 rfl rfl ?_
      refine ck_e hf (fun hi hf => ?_)
      refine la_M7 E hP hi dX8_plans_230 ?_
      refine lv_aload_n hx hb dX8_plans_231 rfl (lv_at hl 0 rfl) ?_
      refine lv_iload_n hx hb dX8_plans_232 rfl (lv_at hl 2 rfl) ?_
      refine ob_e hf (fun r_233 M_233 hq hf => ?_)
      refine cv_X8_length E hP hS hq w_928 ⟨Nat.le_of_ble_eq_true rfl, Nat.le_of_ble_eq_true rfl⟩ hl (Nat.le_of_ble_eq_true rfl) dX8_plans_233 ⟨Nat.le_of_ble_eq_true rfl, Nat.le_of_ble_eq_true rfl⟩ (fun H locs hP hS => ?_)
      refine lv_iadd hx hb dX8_plans_236 ?_
      refine ck_e hf (fun hi hf => ?_)
      refine lt_e hf (fun M_237 hM_237 hf => ?_)
      refine sa_M7 E hP hS hi hM_237 dX8_plans_237 (fun H locs hP hS => ?_)
      exact w_X8_plans_b238 E hL71 hf hP hS (lv_sub hl [0, 1] rfl)
    · have hf := if_f hf hc
      refine lv_aload_n hx hb dX8_plans_173 rfl (lv_at hl 0 rfl) ?_
      refine lv_iload hx hb dX8_plans_174 (lv_at hl 4 rfl) ?_
      refine lv_bipush (v := 6) hx hb dX8_plans_176 (by decide) ?_
      refine ob_e hf (fun r_178 M_178 hq hf => ?_)
      refine cv_X8_pn E hP hS hq w_867 ⟨Nat.le_of_ble_eq_true rfl, Nat.le_of_ble_eq_true rfl⟩ hl (Nat.le_of_ble_eq_true rfl) dX8_plans_178 ⟨Nat.le_of_ble_eq_true rfl, Nat.le_of_ble_eq_true rfl⟩ (fun H locs hP hS => ?_)
      refine lv_if_ne (tgt := 209) hx hb dX8_plans_181 (by decide) (fun hc => ?_) (fun hc => ?_)
      · have hf := if_f hf hc
        exact w_X8_plans_b209 E ih hf hP hS (lv_sub hl [0, 1, 2, 3, 4] rfl)
      · have hf := if_t hf hc
        refine lv_iload_n hx hb dX8_plans_184 rfl (lv_at hl 3 rfl) ?_
        refine lv_if_lt (tgt := 204) hx hb dX8_plans_185 (by decide) (fun hc => ?_) (fun hc => ?_)
        · have hf := if_t hf hc
          exact w_X8_plans_b204 E ih hf hP hS (lv_sub hl [0, 1, 2, 4] rfl)
        · have hf := if_f hf hc
          refine lv_aload_n hx hb dX8_plans_188 rfl (lv_at hl 0 rfl) ?_
          refine gf_X8_sums E hP w_809 dX8_plans_189 ?_
          refine lv_iload hx hb dX8_plans_192 (lv_at hl 4 rfl) ?_
          refine ck_e hf (fun hi hf => ?_)
          refine la_M7 E hP hi dX8_plans_194 ?_
          refine lv_aload_n hx hb dX8_plans_195 rfl (lv_at hl 0 rfl) ?_
          refine gf_X8_sums E hP w_809 dX8_plans_196 ?_
          refine lv_iload_n hx hb dX8_plans_199 rfl (lv_at hl 3 rfl) ?_
          refine ck_e hf (fun hi hf => ?_)
          refine la_M7 E hP hi dX8_plans_200 ?_
          refine lv_icmp_ge (tgt := 209) hx hb dX8_plans_201 (by decide) (fun hc => ?_) (fun hc => ?_)
          · have hf := if_t hf hc
            exact w_X8_plans_b209 E ih hf hP hS (lv_sub hl [0, 1, 2, 3, 4] rfl)
          · have hf := if_f hf hc
            exact w_X8_plans_b204 E ih hf hP hS (lv_sub hl [0, 1, 2, 4] rfl)
set_option maxHeartbeats 4000000 in
set_option maxRecDepth 100000 in
theorem w_X8_plans_b85 {p : Program} {l : Launch} {e : Env} {s : State} {m : MethodId} {args : Array Value} {below : List Frame} {meth : Method} {c : Code} {G : GG} {sz : Nat} {r : Int32} {M' : Mem} (E : Cx p s m args meth c cX8_plans (some .boolean) 5 RX8 G) {L71 : Int32 → Mem → Option (Int32 × Mem)} (hL71 : ∀ (x1 : Int32) (M : Mem) (H : Heap) (locs : List Loc) (ls : Array Slot), L71 x1 M = some (r, M') → PW G (AM G) (XM G) sz M s H → va_S (AM G) s.heap H locs → lv_has ls 5 [(0, .ref (adM G 0 0)), (1, .int x1)] → W p l e rm_X8_plans s m args below meth c H locs 0 0 (MQ below (va_Qi (fun (r2 : Int32) (_ : Unit) => r2 = r) (fun _ t => PW G (AM G) (XM G) sz M' t t.heap) (AM G)) args s 0 0 (AM G)) (F0 m 71 ls [])) : ∀ fu : Nat, ∀ (x1 : Int32) (x2 : Int32) (x3 : Int32) (M : Mem) (H : Heap) (locs : List Loc) (ls : Array Slot), f_X8_plans_b85 L71 fu x1 x2 x3 M = some (r, M') → PW G (AM G) (XM G) sz M s H → va_S (AM G) s.heap H locs → lv_has ls 5 [(0, .ref (adM G 0 0)), (1, .int x1), (2, .int x2), (3, .int x3)] → W p l e rm_X8_plans s m args below meth c H locs 0 0 (MQ below (va_Qi (fun (r2 : Int32) (_ : Unit) => r2 = r) (fun _ t => PW G (AM G) (XM G) sz M' t t.heap) (AM G)) args s 0 0 (AM G)) (F0 m 85 ls []) := by
  obtain ⟨hx, hb, hr, hlocks, hml, hown, hts, hK⟩ := id E
  intro fu
  induction fu with
  | zero => intro x1 x2 x3 M H locs ls hf hP hS hl; cases hf
  | succ fu ih =>
    intro x1 x2 x3 M H locs ls hf hP hS hl
    rw [f_X8_plans_b85.eq_2] at hf
    refine lv_iload_n hx hb dX8_plans_85 rfl (lv_at hl 3 rfl) ?_
    refine lv_aload_n hx hb dX8_plans_86 rfl (lv_at hl 0 rfl) ?_
    refine gf_X8_s E hP w_797 dX8_plans_87 ?_
    refine lv_iconst (v := 1) hx hb dX8_plans_90 (by decide) ?_
    refine la_M1 E hP (by decide) dX8_plans_91 ?_
    refine lv_icmp_ge (tgt := 153) hx hb dX8_plans_92 (by decide) (fun hc => ?_) (fun hc => ?_)
    · have hf := if_t hf hc
      refine lv_iload_n hx hb dX8_plans_153 rfl (lv_at hl 2 rfl) ?_
      refine lv_if_lt (tgt := 238) hx hb dX8_plans_154 (by decide) (fun hc => ?_) (fun hc => ?_)
      · have hf := if_t hf hc
        exact w_X8_plans_b238 E hL71 hf hP hS (lv_sub hl [0, 1] rfl)
      · have hf := if_f hf hc
        refine lv_iconst (v := (-1)) hx hb dX8_plans_157 (by decide) ?_
        refine lv_istore_n (lv' := [(3, .int (-1)), (0, .ref (adM G 0 0)), (1, .int x1), (2, .int x2)]) hx hb dX8_plans_158 rfl hl (by decide) rfl (fun ls hl => ?_)
        refine lv_iconst (v := 0) hx hb dX8_plans_159 (by decide) ?_
        refine lv_istore (lv' := [(4, .int 0), (3, .int (-1)), (0, .ref (adM G 0 0)), (1, .int x1), (2, .int x2)]) hx hb dX8_plans_160 hl (by decide) rfl (fun ls hl => ?_)
        exact w_X8_plans_b162 E hL71 1000 _ _ _ _ _ _ _ _ hf hP hS (lv_sub hl [2, 3, 4, 1, 0] rfl)
    · have hf := if_f hf hc
      refine lv_aload_n hx hb dX8_plans_95 rfl (lv_at hl 0 rfl) ?_
      refine lv_iload_n hx hb dX8_plans_96 rfl (lv_at hl 3 rfl) ?_
      refine ob_e hf (fun r_97 M_97 hq hf => ?_)
      refine cv_X8_isDrawn E hP hS hq w_935 ⟨Nat.le_of_ble_eq_true rfl, Nat.le_of_ble_eq_true rfl⟩ hl (Nat.le_of_ble_eq_true rfl) dX8_plans_97 ⟨Nat.le_of_ble_eq_true rfl, Nat.le_of_ble_eq_true rfl⟩ (fun H locs hP hS => ?_)
      refine lv_if_ne (tgt := 133) hx hb dX8_plans_100 (by decide) (fun hc => ?_) (fun hc => ?_)
      · have hf := if_f hf hc
        exact w_X8_plans_b133 E ih hf hP hS (lv_sub hl [0, 1, 2, 3] rfl)
      · have hf := if_t hf hc
        refine lv_aload_n hx hb dX8_plans_103 rfl (lv_at hl 0 rfl) ?_
        refine gf_X8_fair E hP w_808 dX8_plans_104 ?_
        refine lv_iload_n hx hb dX8_plans_107 rfl (lv_at hl 3 rfl) ?_
        refine ck_e hf (fun hi hf => ?_)
        refine la_M6 E hP hi dX8_plans_108 ?_
        refine lv_if_ge (tgt := 133) hx hb dX8_plans_109 (by decide) (fun hc => ?_) (fun hc => ?_)
        · have hf := if_t hf hc
          exact w_X8_plans_b133 E ih hf hP hS (lv_sub hl [0, 1, 2, 3] rfl)
        · have hf := if_f hf hc
          refine lv_iload_n hx hb dX8_plans_112 rfl (lv_at hl 2 rfl) ?_
          refine lv_if_lt (tgt := 129) hx hb dX8_plans_113 (by decide) (fun hc => ?_) (fun hc => ?_)
          · have hf := if_t hf hc
            exact w_X8_plans_b129 E ih hf hP hS (lv_sub hl [0, 1, 2, 3] rfl)
          · have hf := if_f hf hc
            refine lv_aload_n hx hb dX8_plans_116 rfl (lv_at hl 0 rfl) ?_
            refine lv_iload_n hx hb dX8_plans_117 rfl (lv_at hl 3 rfl) ?_
            refine ob_e hf (fun r_118 M_118 hq hf => ?_)
            refine cv_X8_length E hP hS hq w_928 ⟨Nat.le_of_ble_eq_true rfl, Nat.le_of_ble_eq_true rfl⟩ hl (Nat.le_of_ble_eq_true rfl) dX8_plans_118 ⟨Nat.le_of_ble_eq_true rfl, Nat.le_of_ble_eq_true rfl⟩ (fun H locs hP hS => ?_)
            refine lv_aload_n hx hb dX8_plans_121 rfl (lv_at hl 0 rfl) ?_
            refine lv_iload_n hx hb dX8_plans_122 rfl (lv_at hl 2 rfl) ?_
            refine ob_e hf (fun r_123 M_123 hq hf => ?_)
            refine cv_X8_length E hP hS hq w_928 ⟨Nat.le_of_ble_eq_true rfl, Nat.le_of_ble_eq_true rfl⟩ hl (Nat.le_of_ble_eq_true rfl) dX8_plans_123 ⟨Nat.le_of_ble_eq_true rfl, Nat.le_of_ble_eq_true rfl⟩ (fun H locs hP hS => ?_)
            refine lv_icmp_le (tgt := 133) hx hb dX8_plans_126 (by decide) (fun hc => ?_) (fun hc => ?_)
            · have hf := if_t hf hc
              exact w_X8_plans_b133 E ih hf hP hS (lv_sub hl [0, 1, 2, 3] rfl)
            · have hf := if_f hf hc
              exact w_X8_plans_b129 E ih hf hP hS (lv_sub hl [0, 1, 2, 3] rfl)
set_option maxHeartbeats 4000000 in
set_option maxRecDepth 100000 in
theorem w_X8_plans_b71 {p : Program} {l : Launch} {e : Env} {s : State} {m : MethodId} {args : Array Value} {below : List Frame} {meth : Method} {c : Code} {G : GG} {sz : Nat} {r : Int32} {M' : Mem} (E : Cx p s m args meth c cX8_plans (some .boolean) 5 RX8 G) : ∀ fu : Nat, ∀ (x1 : Int32) (M : Mem) (H : Heap) (locs : List Loc) (ls : Array Slot), f_X8_plans_b71 fu x1 M = some (r, M') → PW G (AM G) (XM G) sz M s H → va_S (AM G) s.heap H locs → lv_has ls 5 [(0, .ref (adM G 0 0)), (1, .int x1)] → W p l e rm_X8_plans s m args below meth c H locs 0 0 (MQ below (va_Qi (fun (r2 : Int32) (_ : Unit) => r2 = r) (fun _ t => PW G (AM G) (XM G) sz M' t t.heap) (AM G)) args s 0 0 (AM G)) (F0 m 71 ls []) := by
  obtain ⟨hx, hb, hr, hlocks, hml, hown, hts, hK⟩ := id E
  intro fu
  induction fu with
  | zero => intro x1 M H locs ls hf hP hS hl; cases hf
  | succ fu ih =>
    intro x1 M H locs ls hf hP hS hl
    rw [f_X8_plans_b71.eq_2] at hf
    refine lv_iload_n hx hb dX8_plans_71 rfl (lv_at hl 1 rfl) ?_
    refine lv_aload_n hx hb dX8_plans_72 rfl (lv_at hl 0 rfl) ?_
    refine gf_X8_s E hP w_797 dX8_plans_73 ?_
    refine lv_iconst (v := 1) hx hb dX8_plans_76 (by decide) ?_
    refine la_M1 E hP (by decide) dX8_plans_77 ?_
    refine lv_icmp_ge (tgt := 244) hx hb dX8_plans_78 (by decide) (fun hc => ?_) (fun hc => ?_)
    · have hf := if_t hf hc
      refine lv_iconst (v := 1) hx hb dX8_plans_244 (by decide) ?_
      exact en_i hf hx hb hr rfl hlocks hP hS dX8_plans_245
    · have hf := if_f hf hc
      refine lv_iconst (v := (-1)) hx hb dX8_plans_81 (by decide) ?_
      refine lv_istore_n (lv' := [(2, .int (-1)), (0, .ref (adM G 0 0)), (1, .int x1)]) hx hb dX8_plans_82 rfl hl (by decide) rfl (fun ls hl => ?_)
      refine lv_iconst (v := 0) hx hb dX8_plans_83 (by decide) ?_
      refine lv_istore_n (lv' := [(3, .int 0), (2, .int (-1)), (0, .ref (adM G 0 0)), (1, .int x1)]) hx hb dX8_plans_84 rfl hl (by decide) rfl (fun ls hl => ?_)
      exact w_X8_plans_b85 E ih 1000 _ _ _ _ _ _ _ hf hP hS (lv_sub hl [2, 3, 1, 0] rfl)
set_option maxHeartbeats 4000000 in
set_option maxRecDepth 100000 in
theorem w_X8_plans_b41 {p : Program} {l : Launch} {e : Env} {s : State} {m : MethodId} {args : Array Value} {below : List Frame} {meth : Method} {c : Code} {G : GG} {sz : Nat} {r : Int32} {M' : Mem} (E : Cx p s m args meth c cX8_plans (some .boolean) 5 RX8 G) : ∀ fu : Nat, ∀ (x1 : Int32) (M : Mem) (H : Heap) (locs : List Loc) (ls : Array Slot), f_X8_plans_b41 fu x1 M = some (r, M') → PW G (AM G) (XM G) sz M s H → va_S (AM G) s.heap H locs → lv_has ls 5 [(0, .ref (adM G 0 0)), (1, .int x1)] → W p l e rm_X8_plans s m args below meth c H locs 0 0 (MQ below (va_Qi (fun (r2 : Int32) (_ : Unit) => r2 = r) (fun _ t => PW G (AM G) (XM G) sz M' t t.heap) (AM G)) args s 0 0 (AM G)) (F0 m 41 ls []) := by
  obtain ⟨hx, hb, hr, hlocks, hml, hown, hts, hK⟩ := id E
  intro fu
  induction fu with
  | zero => intro x1 M H locs ls hf hP hS hl; cases hf
  | succ fu ih =>
    intro x1 M H locs ls hf hP hS hl
    rw [f_X8_plans_b41.eq_2] at hf
    refine lv_iload_n hx hb dX8_plans_41 rfl (lv_at hl 1 rfl) ?_
    refine lv_bipush (v := 16) hx hb dX8_plans_42 (by decide) ?_
    refine lv_icmp_ge (tgt := 60) hx hb dX8_plans_44 (by decide) (fun hc => ?_) (fun hc => ?_)
    · have hf := if_t hf hc
      refine lv_aload_n hx hb dX8_plans_60 rfl (lv_at hl 0 rfl) ?_
      refine ob_e hf (fun r_61 M_61 hq hf => ?_)
      refine cv_X8_present E hP hS hq w_892 ⟨Nat.le_of_ble_eq_true rfl, Nat.le_of_ble_eq_true rfl⟩ hl (Nat.le_of_ble_eq_true rfl) dX8_plans_61 ⟨Nat.le_of_ble_eq_true rfl, Nat.le_of_ble_eq_true rfl⟩ (fun H locs hP hS => ?_)
      refine lv_if_ne (tgt := 69) hx hb dX8_plans_64 (by decide) (fun hc => ?_) (fun hc => ?_)
      · have hf := if_f hf hc
        refine lv_iconst (v := 0) hx hb dX8_plans_69 (by decide) ?_
        refine lv_istore_n (lv' := [(1, .int 0), (0, .ref (adM G 0 0))]) hx hb dX8_plans_70 rfl hl (by decide) rfl (fun ls hl => ?_)
        exact w_X8_plans_b71 E 1000 _ _ _ _ _ hf hP hS (lv_sub hl [1, 0] rfl)
      · have hf := if_t hf hc
        refine lv_iconst (v := 0) hx hb dX8_plans_67 (by decide) ?_
        exact en_i hf hx hb hr rfl hlocks hP hS dX8_plans_68
    · have hf := if_f hf hc
      refine lv_aload_n hx hb dX8_plans_47 rfl (lv_at hl 0 rfl) ?_
      refine gf_X8_fair E hP w_808 dX8_plans_48 ?_
      refine lv_iload_n hx hb dX8_plans_51 rfl (lv_at hl 1 rfl) ?_
      refine lv_iconst (v := (-1)) hx hb dX8_plans_52 (by decide) ?_
      refine ck_e hf (fun hi hf => ?_)
      refine lt_e hf (fun M_53 hM_53 hf => ?_)
      refine sa_M6 E hP hS hi hM_53 dX8_plans_53 (fun H locs hP hS => ?_)
      refine lt_e hf (fun x1_54 hx1_54 hf => ?_)
      refine lv_iinc (v := x1_54) (lv' := [(1, .int x1_54), (0, .ref (adM G 0 0))]) hx hb dX8_plans_54 hl (k := 1) rfl (by rw [hx1_54]; rfl) (by decide) rfl (fun ls hl => ?_)
      refine lv_goto (tgt := 41) hx hb dX8_plans_57 (by decide) ?_
      exact ih _ _ _ _ _ hf hP hS (lv_sub hl [1, 0] rfl)
set_option maxHeartbeats 4000000 in
set_option maxRecDepth 100000 in
theorem w_X8_plans_b2 {p : Program} {l : Launch} {e : Env} {s : State} {m : MethodId} {args : Array Value} {below : List Frame} {meth : Method} {c : Code} {G : GG} {sz : Nat} {r : Int32} {M' : Mem} (E : Cx p s m args meth c cX8_plans (some .boolean) 5 RX8 G) : ∀ fu : Nat, ∀ (x1 : Int32) (M : Mem) (H : Heap) (locs : List Loc) (ls : Array Slot), f_X8_plans_b2 fu x1 M = some (r, M') → PW G (AM G) (XM G) sz M s H → va_S (AM G) s.heap H locs → lv_has ls 5 [(0, .ref (adM G 0 0)), (1, .int x1)] → W p l e rm_X8_plans s m args below meth c H locs 0 0 (MQ below (va_Qi (fun (r2 : Int32) (_ : Unit) => r2 = r) (fun _ t => PW G (AM G) (XM G) sz M' t t.heap) (AM G)) args s 0 0 (AM G)) (F0 m 2 ls []) := by
  obtain ⟨hx, hb, hr, hlocks, hml, hown, hts, hK⟩ := id E
  intro fu
  induction fu with
  | zero => intro x1 M H locs ls hf hP hS hl; cases hf
  | succ fu ih =>
    intro x1 M H locs ls hf hP hS hl
    rw [f_X8_plans_b2.eq_2] at hf
    refine lv_iload_n hx hb dX8_plans_2 rfl (lv_at hl 1 rfl) ?_
    refine lv_iconst (v := 5) hx hb dX8_plans_3 (by decide) ?_
    refine lv_icmp_ge (tgt := 39) hx hb dX8_plans_4 (by decide) (fun hc => ?_) (fun hc => ?_)
    · have hf := if_t hf hc
      refine lv_iconst (v := 0) hx hb dX8_plans_39 (by decide) ?_
      refine lv_istore_n (lv' := [(1, .int 0), (0, .ref (adM G 0 0))]) hx hb dX8_plans_40 rfl hl (by decide) rfl (fun ls hl => ?_)
      exact w_X8_plans_b41 E 1000 _ _ _ _ _ hf hP hS (lv_sub hl [1, 0] rfl)
    · have hf := if_f hf hc
      refine lv_aload_n hx hb dX8_plans_7 rfl (lv_at hl 0 rfl) ?_
      refine gf_X8_sums E hP w_809 dX8_plans_8 ?_
      refine lv_iload_n hx hb dX8_plans_11 rfl (lv_at hl 1 rfl) ?_
      refine lv_iload_n hx hb dX8_plans_12 rfl (lv_at hl 1 rfl) ?_
      refine lv_aload_n hx hb dX8_plans_13 rfl (lv_at hl 0 rfl) ?_
      refine gf_X8_s E hP w_797 dX8_plans_14 ?_
      refine lv_iconst (v := 0) hx hb dX8_plans_17 (by decide) ?_
      refine la_M1 E hP (by decide) dX8_plans_18 ?_
      refine lv_icmp_ge (tgt := 31) hx hb dX8_plans_19 (by decide) (fun hc => ?_) (fun hc => ?_)
      · have hf := if_t hf hc
        refine lv_iconst (v := 0) hx hb dX8_plans_31 (by decide) ?_
        exact w_X8_plans_b32 E ih hf hP hS (lv_sub hl [0, 1] rfl)
      · have hf := if_f hf hc
        refine lv_aload_n hx hb dX8_plans_22 rfl (lv_at hl 0 rfl) ?_
        refine lv_iload_n hx hb dX8_plans_23 rfl (lv_at hl 1 rfl) ?_
        refine lv_iconst (v := 3) hx hb dX8_plans_24 (by decide) ?_
        refine ob_e hf (fun r_25 M_25 hq hf => ?_)
        refine cv_X8_pn E hP hS hq w_867 ⟨Nat.le_of_ble_eq_true rfl, Nat.le_of_ble_eq_true rfl⟩ hl (Nat.le_of_ble_eq_true rfl) dX8_plans_25 ⟨Nat.le_of_ble_eq_true rfl, Nat.le_of_ble_eq_true rfl⟩ (fun H locs hP hS => ?_)
        refine lv_goto (tgt := 32) hx hb dX8_plans_28 (by decide) ?_
        exact w_X8_plans_b32 E ih hf hP hS (lv_sub hl [0, 1] rfl)
set_option maxHeartbeats 4000000 in
set_option maxRecDepth 100000 in
theorem w_X8_plans {p : Program} {l : Launch} {e : Env} {s : State} {m : MethodId} {args : Array Value} {below : List Frame} {meth : Method} {c : Code} {G : GG} {sz : Nat} {r : Int32} {M' : Mem} (E : Cx p s m args meth c cX8_plans (some .boolean) 5 RX8 G) {M : Mem} {H : Heap} {locs : List Loc} {ls : Array Slot} (hf : f_X8_plans M = some (r, M')) (hP : PW G (AM G) (XM G) sz M s H) (hS : va_S (AM G) s.heap H locs) (hl : lv_has ls 5 [(0, .ref (adM G 0 0))]) : W p l e rm_X8_plans s m args below meth c H locs 0 0 (MQ below (va_Qi (fun (r2 : Int32) (_ : Unit) => r2 = r) (fun _ t => PW G (AM G) (XM G) sz M' t t.heap) (AM G)) args s 0 0 (AM G)) (F0 m 0 ls []) := by
  obtain ⟨hx, hb, hr, hlocks, hml, hown, hts, hK⟩ := id E
  unfold f_X8_plans at hf
  refine lv_iconst (v := 0) hx hb dX8_plans_0 (by decide) ?_
  refine lv_istore_n (lv' := [(1, .int 0), (0, .ref (adM G 0 0))]) hx hb dX8_plans_1 rfl hl (by decide) rfl (fun ls hl => ?_)
  exact w_X8_plans_b2 E 1000 _ _ _ _ _ hf hP hS (lv_sub hl [1, 0] rfl)
theorem c_X8_plans (l : Launch) {G : GG} {sz : Nat} {M : Mem} {r : Int32} {M' : Mem} (hf : f_X8_plans M = some (r, M')) : CtI l yX8_plans cX8_plans 5 (some .boolean) rm_X8_plans [.ref (adM G 0 0)] G (AM G) (XM G) sz M r (XM G) sz M' := by
  refine Ct_of (by decide) (Nat.le_of_ble_eq_true rfl) (fun p e s m below meth c ls hx hb hr hlocks hml hown hts hK hP hl => ?_)
  exact w_X8_plans ⟨hx, hb, hr, hlocks, hml, hown, hts, hK⟩ hf hP va_S.rf hl
set_option maxRecDepth 100000 in
theorem cv_X8_plans {p : Program} {l : Launch} {e : Env} {R : Room} {s : State} {m : MethodId} {args : Array Value} {below : List Frame} {meth : Method} {c : Code} {H : Heap} {locs : List Loc} {cells slots : Nat} {Q : State → Prop} {cc : ByteArray} {pc nL index : Nat} {ret : Option FieldType} {own : String} {ls : Array Slot} {rest : List Value} {l' : List (Nat × Value)} {G : GG} {sz : Nat} {M : Mem} (E : Cx p s m args meth c cc ret nL own G) (hP : PW G (AM G) (XM G) sz M s H) (hS : va_S (AM G) s.heap H locs) {r : Int32} {M' : Mem} (hq : f_X8_plans M = some (r, M')) (w1 : Cond.methodLink own index yX8_plans ∈ lw_all) (hR : 3 ≤ R.frames ∧ 69 ≤ R.locals) (hl : lv_has ls nL l') (hrest : (rest.map fun v => v.category).sum ≤ 8) (hdg : decode cc pc = .ok (.invokevirtual index, 3)) (hcs : cells ≤ R.cells ∧ slots ≤ R.slots)
    (kk : ∀ (H1 : Heap) (locs1 : List Loc), PW G (AM G) (XM G) sz M' s H1 → va_S (AM G) s.heap H1 locs1 → W p l e R s m args below meth c H1 locs1 cells slots Q (F0 m (pc + 3) ls (.int r :: rest))) : W p l e R s m args below meth c H locs cells slots Q (F0 m pc ls (.ref (adM G 0 0) :: rest)) := by
  obtain ⟨hx, hb, hr, hlocks, hml, hown, hts, hK⟩ := E
  exact kc_i (kc_runV (na := 0) (q := (RX8, TX8, 16)) hx hb hml hts hown hK hP 0 0 ⟨rfl, by decide⟩ rfl rfl rfl (c_X8_plans l hq) w1 w_1086 ws_46 w_9 w_1087 (by decide +kernel) hR rfl hl rfl hrest hdg hcs) hS kk
/-! X8_fair -/
abbrev rm_X8_fair : Room := { frames := 3, cells := 0, slots := 0, locals := 69 }
def f_X8_fair_b40 (s0 : Int32) (M : Mem) : Option (Int32 × Mem) :=
some (s0, M)
def f_X8_fair (x1 : Int32) (M : Mem) : Option (Int32 × Mem) :=
ob (f_X8_isLine x1 M) fun r_2 M_2 =>
(if r_2 = 0 then
  some ((-1000001), M_2)
else
  ob (f_X8_isDrawn x1 M_2) fun r_13 M_13 =>
  (if r_13 = 0 then
    ob (f_X8_plans M_13) fun r_23 M_23 =>
    (if r_23 = 0 then
      f_X8_fair_b40 (-1000004) M_23
    else
      ck (ibd x1 16) <|
      f_X8_fair_b40 ((M_23 0 6 (ix x1))) M_23)
  else
    some ((-1000002), M_13)))
set_option maxHeartbeats 4000000 in
set_option maxRecDepth 100000 in
theorem w_X8_fair_b40 {p : Program} {l : Launch} {e : Env} {s : State} {m : MethodId} {args : Array Value} {below : List Frame} {meth : Method} {c : Code} {G : GG} {sz : Nat} {r : Int32} {M' : Mem} (E : Cx p s m args meth c cX8_fair (some .int) 2 RX8 G) {s0 : Int32} {M : Mem} {H : Heap} {locs : List Loc} {ls : Array Slot} (hf : f_X8_fair_b40 s0 M = some (r, M')) (hP : PW G (AM G) (XM G) sz M s H) (hS : va_S (AM G) s.heap H locs) (hl : lv_has ls 2 []) : W p l e rm_X8_fair s m args below meth c H locs 0 0 (MQ below (va_Qi (fun (r2 : Int32) (_ : Unit) => r2 = r) (fun _ t => PW G (AM G) (XM G) sz M' t t.heap) (AM G)) args s 0 0 (AM G)) (F0 m 40 ls [.int s0]) := by
  obtain ⟨hx, hb, hr, hlocks, hml, hown, hts, hK⟩ := id E
  unfold f_X8_fair_b40 at hf
  exact en_i hf hx hb hr rfl hlocks hP hS dX8_fair_40
set_option maxHeartbeats 4000000 in
set_option maxRecDepth 100000 in
theorem w_X8_fair {p : Program} {l : Launch} {e : Env} {s : State} {m : MethodId} {args : Array Value} {below : List Frame} {meth : Method} {c : Code} {G : GG} {sz : Nat} {r : Int32} {M' : Mem} (E : Cx p s m args meth c cX8_fair (some .int) 2 RX8 G) {x1 : Int32} {M : Mem} {H : Heap} {locs : List Loc} {ls : Array Slot} (hf : f_X8_fair x1 M = some (r, M')) (hP : PW G (AM G) (XM G) sz M s H) (hS : va_S (AM G) s.heap H locs) (hl : lv_has ls 2 [(0, .ref (adM G 0 0)), (1, .int x1)]) : W p l e rm_X8_fair s m args below meth c H locs 0 0 (MQ below (va_Qi (fun (r2 : Int32) (_ : Unit) => r2 = r) (fun _ t => PW G (AM G) (XM G) sz M' t t.heap) (AM G)) args s 0 0 (AM G)) (F0 m 0 ls []) := by
  obtain ⟨hx, hb, hr, hlocks, hml, hown, hts, hK⟩ := id E
  unfold f_X8_fair at hf
  refine lv_aload_n hx hb dX8_fair_0 rfl (lv_at hl 0 rfl) ?_
  refine lv_iload_n hx hb dX8_fair_1 rfl (lv_at hl 1 rfl) ?_
  refine ob_e hf (fun r_2 M_2 hq hf => ?_)
  refine cv_X8_isLine E hP hS hq w_924 ⟨Nat.le_of_ble_eq_true rfl, Nat.le_of_ble_eq_true rfl⟩ hl (Nat.le_of_ble_eq_true rfl) dX8_fair_2 ⟨Nat.le_of_ble_eq_true rfl, Nat.le_of_ble_eq_true rfl⟩ (fun H locs hP hS => ?_)
  refine lv_if_ne (tgt := 11) hx hb dX8_fair_5 (by decide) (fun hc => ?_) (fun hc => ?_)
  · have hf := if_f hf hc
    refine lv_aload_n hx hb dX8_fair_11 rfl (lv_at hl 0 rfl) ?_
    refine lv_iload_n hx hb dX8_fair_12 rfl (lv_at hl 1 rfl) ?_
    refine ob_e hf (fun r_13 M_13 hq hf => ?_)
    refine cv_X8_isDrawn E hP hS hq w_935 ⟨Nat.le_of_ble_eq_true rfl, Nat.le_of_ble_eq_true rfl⟩ hl (Nat.le_of_ble_eq_true rfl) dX8_fair_13 ⟨Nat.le_of_ble_eq_true rfl, Nat.le_of_ble_eq_true rfl⟩ (fun H locs hP hS => ?_)
    refine lv_if_eq (tgt := 22) hx hb dX8_fair_16 (by decide) (fun hc => ?_) (fun hc => ?_)
    · have hf := if_t hf hc
      refine lv_aload_n hx hb dX8_fair_22 rfl (lv_at hl 0 rfl) ?_
      refine ob_e hf (fun r_23 M_23 hq hf => ?_)
      refine cv_X8_plans E hP hS hq w_1084 ⟨Nat.le_of_ble_eq_true rfl, Nat.le_of_ble_eq_true rfl⟩ hl (Nat.le_of_ble_eq_true rfl) dX8_fair_23 ⟨Nat.le_of_ble_eq_true rfl, Nat.le_of_ble_eq_true rfl⟩ (fun H locs hP hS => ?_)
      refine lv_if_eq (tgt := 38) hx hb dX8_fair_26 (by decide) (fun hc => ?_) (fun hc => ?_)
      · have hf := if_t hf hc
        refine lv_ldc (v := (-1000004)) hx hb hown (hts _ w_939) dX8_fair_38 ?_
        exact w_X8_fair_b40 E hf hP hS (lv_sub hl [] rfl)
      · have hf := if_f hf hc
        refine lv_aload_n hx hb dX8_fair_29 rfl (lv_at hl 0 rfl) ?_
        refine gf_X8_fair E hP w_808 dX8_fair_30 ?_
        refine lv_iload_n hx hb dX8_fair_33 rfl (lv_at hl 1 rfl) ?_
        refine ck_e hf (fun hi hf => ?_)
        refine la_M6 E hP hi dX8_fair_34 ?_
        refine lv_goto (tgt := 40) hx hb dX8_fair_35 (by decide) ?_
        exact w_X8_fair_b40 E hf hP hS (lv_sub hl [] rfl)
    · have hf := if_f hf hc
      refine lv_ldc (v := (-1000002)) hx hb hown (hts _ w_871) dX8_fair_19 ?_
      exact en_i hf hx hb hr rfl hlocks hP hS dX8_fair_21
  · have hf := if_t hf hc
    refine lv_ldc (v := (-1000001)) hx hb hown (hts _ w_854) dX8_fair_8 ?_
    exact en_i hf hx hb hr rfl hlocks hP hS dX8_fair_10
theorem c_X8_fair (l : Launch) {G : GG} {sz : Nat} {x1 : Int32} {M : Mem} {r : Int32} {M' : Mem} (hf : f_X8_fair x1 M = some (r, M')) : CtI l yX8_fair cX8_fair 2 (some .int) rm_X8_fair [.ref (adM G 0 0), .int x1] G (AM G) (XM G) sz M r (XM G) sz M' := by
  refine Ct_of (by decide) (Nat.le_of_ble_eq_true rfl) (fun p e s m below meth c ls hx hb hr hlocks hml hown hts hK hP hl => ?_)
  exact w_X8_fair ⟨hx, hb, hr, hlocks, hml, hown, hts, hK⟩ hf hP va_S.rf hl
set_option maxRecDepth 100000 in
theorem cv_X8_fair {p : Program} {l : Launch} {e : Env} {R : Room} {s : State} {m : MethodId} {args : Array Value} {below : List Frame} {meth : Method} {c : Code} {H : Heap} {locs : List Loc} {cells slots : Nat} {Q : State → Prop} {cc : ByteArray} {pc nL index : Nat} {ret : Option FieldType} {own : String} {ls : Array Slot} {rest : List Value} {l' : List (Nat × Value)} {G : GG} {sz : Nat} {M : Mem} (E : Cx p s m args meth c cc ret nL own G) (hP : PW G (AM G) (XM G) sz M s H) (hS : va_S (AM G) s.heap H locs) {x1 : Int32} {r : Int32} {M' : Mem} (hq : f_X8_fair x1 M = some (r, M')) (w1 : Cond.methodLink own index yX8_fair ∈ lw_all) (hR : 4 ≤ R.frames ∧ 90 ≤ R.locals) (hl : lv_has ls nL l') (hrest : (rest.map fun v => v.category).sum ≤ 8) (hdg : decode cc pc = .ok (.invokevirtual index, 3)) (hcs : cells ≤ R.cells ∧ slots ≤ R.slots)
    (kk : ∀ (H1 : Heap) (locs1 : List Loc), PW G (AM G) (XM G) sz M' s H1 → va_S (AM G) s.heap H1 locs1 → W p l e R s m args below meth c H1 locs1 cells slots Q (F0 m (pc + 3) ls (.int r :: rest))) : W p l e R s m args below meth c H locs cells slots Q (F0 m pc ls (.int x1 :: .ref (adM G 0 0) :: rest)) := by
  obtain ⟨hx, hb, hr, hlocks, hml, hown, hts, hK⟩ := E
  exact kc_i (kc_runV (na := 1) (q := (RX8, TX8, 16)) hx hb hml hts hown hK hP 0 0 ⟨rfl, by decide⟩ rfl rfl rfl (c_X8_fair l hq) w1 w_1081 w_1082 w_9 w_1083 (by decide +kernel) hR rfl hl rfl hrest hdg hcs) hS kk
/-! X8_fairSpread -/
abbrev rm_X8_fairSpread : Room := { frames := 3, cells := 0, slots := 0, locals := 69 }
def f_X8_fairSpread_b82 (L16 : Int32 → Int32 → Int32 → Mem → Option (Int32 × Mem)) (x1 : Int32) (x2 : Int32) (x3 : Int32) (M : Mem) : Option (Int32 × Mem) :=
lt (x3 + 1) fun x3_82 =>
L16 x1 x2 x3_82 M
def f_X8_fairSpread_b81 (L16 : Int32 → Int32 → Int32 → Mem → Option (Int32 × Mem)) (x1 : Int32) (x3 : Int32) (s0 : Int32) (M : Mem) : Option (Int32 × Mem) :=
f_X8_fairSpread_b82 L16 x1 s0 x3 M
def f_X8_fairSpread_b71 (L16 : Int32 → Int32 → Int32 → Mem → Option (Int32 × Mem)) (x1 : Int32) (x3 : Int32) (M : Mem) : Option (Int32 × Mem) :=
ck (ibd x3 5) <|
f_X8_fairSpread_b81 L16 x1 x3 ((M 0 7 (ix x3))) M
def f_X8_fairSpread_b56 (L16 : Int32 → Int32 → Int32 → Mem → Option (Int32 × Mem)) (x2 : Int32) (x3 : Int32) (s0 : Int32) (M : Mem) : Option (Int32 × Mem) :=
(if x2 < 0 then
  f_X8_fairSpread_b71 L16 s0 x3 M
else
  ck (ibd x3 5) <|
  (if x2 ≤ (M 0 7 (ix x3)) then
    f_X8_fairSpread_b81 L16 s0 x3 x2 M
  else
    f_X8_fairSpread_b71 L16 s0 x3 M))
def f_X8_fairSpread_b16 : Nat → Int32 → Int32 → Int32 → Mem → Option (Int32 × Mem)
  | 0 => fun _ _ _ _ => none
  | fu + 1 => fun x1 x2 x3 M =>
(if (M 0 1 (ix 0)) ≤ x3 then
  some ((x1 - x2), M)
else
  ob (f_X8_pn x3 6 M) fun r_30 M_30 =>
  (if r_30 = 0 then
    ck (ibd x3 5) <|
    (if (M_30 0 7 (ix x3)) ≤ x1 then
      f_X8_fairSpread_b56 (f_X8_fairSpread_b16 fu) x2 x3 x1 M_30
    else
      ck (ibd x3 5) <|
      f_X8_fairSpread_b56 (f_X8_fairSpread_b16 fu) x2 x3 ((M_30 0 7 (ix x3))) M_30)
  else
    f_X8_fairSpread_b82 (f_X8_fairSpread_b16 fu) x1 x2 x3 M_30))
def f_X8_fairSpread (M : Mem) : Option (Int32 × Mem) :=
ob (f_X8_plans M) fun r_1 M_1 =>
(if r_1 = 0 then
  some ((-1000004), M_1)
else
  f_X8_fairSpread_b16 1000 (-1) (-1) 0 M_1)
set_option maxHeartbeats 4000000 in
set_option maxRecDepth 100000 in
theorem w_X8_fairSpread_b82 {p : Program} {l : Launch} {e : Env} {s : State} {m : MethodId} {args : Array Value} {below : List Frame} {meth : Method} {c : Code} {G : GG} {sz : Nat} {r : Int32} {M' : Mem} (E : Cx p s m args meth c cX8_fairSpread (some .int) 4 RX8 G) {L16 : Int32 → Int32 → Int32 → Mem → Option (Int32 × Mem)} (hL16 : ∀ (x1 : Int32) (x2 : Int32) (x3 : Int32) (M : Mem) (H : Heap) (locs : List Loc) (ls : Array Slot), L16 x1 x2 x3 M = some (r, M') → PW G (AM G) (XM G) sz M s H → va_S (AM G) s.heap H locs → lv_has ls 4 [(0, .ref (adM G 0 0)), (1, .int x1), (2, .int x2), (3, .int x3)] → W p l e rm_X8_fairSpread s m args below meth c H locs 0 0 (MQ below (va_Qi (fun (r2 : Int32) (_ : Unit) => r2 = r) (fun _ t => PW G (AM G) (XM G) sz M' t t.heap) (AM G)) args s 0 0 (AM G)) (F0 m 16 ls [])) {x1 : Int32} {x2 : Int32} {x3 : Int32} {M : Mem} {H : Heap} {locs : List Loc} {ls : Array Slot} (hf : f_X8_fairSpread_b82 L16 x1 x2 x3 M = some (r, M')) (hP : PW G (AM G) (XM G) sz M s H) (hS : va_S (AM G) s.heap H locs) (hl : lv_has ls 4 [(0, .ref (adM G 0 0)), (1, .int x1), (2, .int x2), (3, .int x3)]) : W p l e rm_X8_fairSpread s m args below meth c H locs 0 0 (MQ below (va_Qi (fun (r2 : Int32) (_ : Unit) => r2 = r) (fun _ t => PW G (AM G) (XM G) sz M' t t.heap) (AM G)) args s 0 0 (AM G)) (F0 m 82 ls []) := by
  obtain ⟨hx, hb, hr, hlocks, hml, hown, hts, hK⟩ := id E
  unfold f_X8_fairSpread_b82 at hf
  refine lt_e hf (fun x3_82 hx3_82 hf => ?_)
  refine lv_iinc (v := x3_82) (lv' := [(3, .int x3_82), (0, .ref (adM G 0 0)), (1, .int x1), (2, .int x2)]) hx hb dX8_fairSpread_82 hl (k := 3) rfl (by rw [hx3_82]; rfl) (by decide) rfl (fun ls hl => ?_)
  refine lv_goto (tgt := 16) hx hb dX8_fairSpread_85 (by decide) ?_
  exact hL16 _ _ _ _ _ _ _ hf hP hS (lv_sub hl [1, 2, 3, 0] rfl)
set_option maxHeartbeats 4000000 in
set_option maxRecDepth 100000 in
theorem w_X8_fairSpread_b81 {p : Program} {l : Launch} {e : Env} {s : State} {m : MethodId} {args : Array Value} {below : List Frame} {meth : Method} {c : Code} {G : GG} {sz : Nat} {r : Int32} {M' : Mem} (E : Cx p s m args meth c cX8_fairSpread (some .int) 4 RX8 G) {L16 : Int32 → Int32 → Int32 → Mem → Option (Int32 × Mem)} (hL16 : ∀ (x1 : Int32) (x2 : Int32) (x3 : Int32) (M : Mem) (H : Heap) (locs : List Loc) (ls : Array Slot), L16 x1 x2 x3 M = some (r, M') → PW G (AM G) (XM G) sz M s H → va_S (AM G) s.heap H locs → lv_has ls 4 [(0, .ref (adM G 0 0)), (1, .int x1), (2, .int x2), (3, .int x3)] → W p l e rm_X8_fairSpread s m args below meth c H locs 0 0 (MQ below (va_Qi (fun (r2 : Int32) (_ : Unit) => r2 = r) (fun _ t => PW G (AM G) (XM G) sz M' t t.heap) (AM G)) args s 0 0 (AM G)) (F0 m 16 ls [])) {x1 : Int32} {x3 : Int32} {s0 : Int32} {M : Mem} {H : Heap} {locs : List Loc} {ls : Array Slot} (hf : f_X8_fairSpread_b81 L16 x1 x3 s0 M = some (r, M')) (hP : PW G (AM G) (XM G) sz M s H) (hS : va_S (AM G) s.heap H locs) (hl : lv_has ls 4 [(0, .ref (adM G 0 0)), (1, .int x1), (3, .int x3)]) : W p l e rm_X8_fairSpread s m args below meth c H locs 0 0 (MQ below (va_Qi (fun (r2 : Int32) (_ : Unit) => r2 = r) (fun _ t => PW G (AM G) (XM G) sz M' t t.heap) (AM G)) args s 0 0 (AM G)) (F0 m 81 ls [.int s0]) := by
  obtain ⟨hx, hb, hr, hlocks, hml, hown, hts, hK⟩ := id E
  unfold f_X8_fairSpread_b81 at hf
  refine lv_istore_n (lv' := [(2, .int s0), (0, .ref (adM G 0 0)), (1, .int x1), (3, .int x3)]) hx hb dX8_fairSpread_81 rfl hl (by decide) rfl (fun ls hl => ?_)
  exact w_X8_fairSpread_b82 E hL16 hf hP hS (lv_sub hl [1, 2, 0, 3] rfl)
set_option maxHeartbeats 4000000 in
set_option maxRecDepth 100000 in
theorem w_X8_fairSpread_b71 {p : Program} {l : Launch} {e : Env} {s : State} {m : MethodId} {args : Array Value} {below : List Frame} {meth : Method} {c : Code} {G : GG} {sz : Nat} {r : Int32} {M' : Mem} (E : Cx p s m args meth c cX8_fairSpread (some .int) 4 RX8 G) {L16 : Int32 → Int32 → Int32 → Mem → Option (Int32 × Mem)} (hL16 : ∀ (x1 : Int32) (x2 : Int32) (x3 : Int32) (M : Mem) (H : Heap) (locs : List Loc) (ls : Array Slot), L16 x1 x2 x3 M = some (r, M') → PW G (AM G) (XM G) sz M s H → va_S (AM G) s.heap H locs → lv_has ls 4 [(0, .ref (adM G 0 0)), (1, .int x1), (2, .int x2), (3, .int x3)] → W p l e rm_X8_fairSpread s m args below meth c H locs 0 0 (MQ below (va_Qi (fun (r2 : Int32) (_ : Unit) => r2 = r) (fun _ t => PW G (AM G) (XM G) sz M' t t.heap) (AM G)) args s 0 0 (AM G)) (F0 m 16 ls [])) {x1 : Int32} {x3 : Int32} {M : Mem} {H : Heap} {locs : List Loc} {ls : Array Slot} (hf : f_X8_fairSpread_b71 L16 x1 x3 M = some (r, M')) (hP : PW G (AM G) (XM G) sz M s H) (hS : va_S (AM G) s.heap H locs) (hl : lv_has ls 4 [(0, .ref (adM G 0 0)), (1, .int x1), (3, .int x3)]) : W p l e rm_X8_fairSpread s m args below meth c H locs 0 0 (MQ below (va_Qi (fun (r2 : Int32) (_ : Unit) => r2 = r) (fun _ t => PW G (AM G) (XM G) sz M' t t.heap) (AM G)) args s 0 0 (AM G)) (F0 m 71 ls []) := by
  obtain ⟨hx, hb, hr, hlocks, hml, hown, hts, hK⟩ := id E
  unfold f_X8_fairSpread_b71 at hf
  refine lv_aload_n hx hb dX8_fairSpread_71 rfl (lv_at hl 0 rfl) ?_
  refine gf_X8_sums E hP w_809 dX8_fairSpread_72 ?_
  refine lv_iload_n hx hb dX8_fairSpread_75 rfl (lv_at hl 2 rfl) ?_
  refine ck_e hf (fun hi hf => ?_)
  refine la_M7 E hP hi dX8_fairSpread_76 ?_
  refine lv_goto (tgt := 81) hx hb dX8_fairSpread_77 (by decide) ?_
  exact w_X8_fairSpread_b81 E hL16 hf hP hS (lv_sub hl [0, 1, 2] rfl)
set_option maxHeartbeats 4000000 in
set_option maxRecDepth 100000 in
theorem w_X8_fairSpread_b56 {p : Program} {l : Launch} {e : Env} {s : State} {m : MethodId} {args : Array Value} {below : List Frame} {meth : Method} {c : Code} {G : GG} {sz : Nat} {r : Int32} {M' : Mem} (E : Cx p s m args meth c cX8_fairSpread (some .int) 4 RX8 G) {L16 : Int32 → Int32 → Int32 → Mem → Option (Int32 × Mem)} (hL16 : ∀ (x1 : Int32) (x2 : Int32) (x3 : Int32) (M : Mem) (H : Heap) (locs : List Loc) (ls : Array Slot), L16 x1 x2 x3 M = some (r, M') → PW G (AM G) (XM G) sz M s H → va_S (AM G) s.heap H locs → lv_has ls 4 [(0, .ref (adM G 0 0)), (1, .int x1), (2, .int x2), (3, .int x3)] → W p l e rm_X8_fairSpread s m args below meth c H locs 0 0 (MQ below (va_Qi (fun (r2 : Int32) (_ : Unit) => r2 = r) (fun _ t => PW G (AM G) (XM G) sz M' t t.heap) (AM G)) args s 0 0 (AM G)) (F0 m 16 ls [])) {x2 : Int32} {x3 : Int32} {s0 : Int32} {M : Mem} {H : Heap} {locs : List Loc} {ls : Array Slot} (hf : f_X8_fairSpread_b56 L16 x2 x3 s0 M = some (r, M')) (hP : PW G (AM G) (XM G) sz M s H) (hS : va_S (AM G) s.heap H locs) (hl : lv_has ls 4 [(0, .ref (adM G 0 0)), (2, .int x2), (3, .int x3)]) : W p l e rm_X8_fairSpread s m args below meth c H locs 0 0 (MQ below (va_Qi (fun (r2 : Int32) (_ : Unit) => r2 = r) (fun _ t => PW G (AM G) (XM G) sz M' t t.heap) (AM G)) args s 0 0 (AM G)) (F0 m 56 ls [.int s0]) := by
  obtain ⟨hx, hb, hr, hlocks, hml, hown, hts, hK⟩ := id E
  unfold f_X8_fairSpread_b56 at hf
  refine lv_istore_n (lv' := [(1, .int s0), (0, .ref (adM G 0 0)), (2, .int x2), (3, .int x3)]) hx hb dX8_fairSpread_56 rfl hl (by decide) rfl (fun ls hl => ?_)
  refine lv_iload_n hx hb dX8_fairSpread_57 rfl (lv_at hl 2 rfl) ?_
  refine lv_if_lt (tgt := 71) hx hb dX8_fairSpread_58 (by decide) (fun hc => ?_) (fun hc => ?_)
  · have hf := if_t hf hc
    exact w_X8_fairSpread_b71 E hL16 hf hP hS (lv_sub hl [1, 0, 3] rfl)
  · have hf := if_f hf hc
    refine lv_aload_n hx hb dX8_fairSpread_61 rfl (lv_at hl 1 rfl) ?_
    refine gf_X8_sums E hP w_809 dX8_fairSpread_62 ?_
    refine lv_iload_n hx hb dX8_fairSpread_65 rfl (lv_at hl 3 rfl) ?_
    refine ck_e hf (fun hi hf => ?_)
    refine la_M7 E hP hi dX8_fairSpread_66 ?_
    refine lv_iload_n hx hb dX8_fairSpread_67 rfl (lv_at hl 2 rfl) ?_
    refine lv_icmp_ge (tgt := 80) hx hb dX8_fairSpread_68 (by decide) (fun hc => ?_) (fun hc => ?_)
    · have hf := if_t hf hc
      refine lv_iload_n hx hb dX8_fairSpread_80 rfl (lv_at hl 2 rfl) ?_
      exact w_X8_fairSpread_b81 E hL16 hf hP hS (lv_sub hl [1, 0, 3] rfl)
    · have hf := if_f hf hc
      exact w_X8_fairSpread_b71 E hL16 hf hP hS (lv_sub hl [1, 0, 3] rfl)
set_option maxHeartbeats 4000000 in
set_option maxRecDepth 100000 in
theorem w_X8_fairSpread_b16 {p : Program} {l : Launch} {e : Env} {s : State} {m : MethodId} {args : Array Value} {below : List Frame} {meth : Method} {c : Code} {G : GG} {sz : Nat} {r : Int32} {M' : Mem} (E : Cx p s m args meth c cX8_fairSpread (some .int) 4 RX8 G) : ∀ fu : Nat, ∀ (x1 : Int32) (x2 : Int32) (x3 : Int32) (M : Mem) (H : Heap) (locs : List Loc) (ls : Array Slot), f_X8_fairSpread_b16 fu x1 x2 x3 M = some (r, M') → PW G (AM G) (XM G) sz M s H → va_S (AM G) s.heap H locs → lv_has ls 4 [(0, .ref (adM G 0 0)), (1, .int x1), (2, .int x2), (3, .int x3)] → W p l e rm_X8_fairSpread s m args below meth c H locs 0 0 (MQ below (va_Qi (fun (r2 : Int32) (_ : Unit) => r2 = r) (fun _ t => PW G (AM G) (XM G) sz M' t t.heap) (AM G)) args s 0 0 (AM G)) (F0 m 16 ls []) := by
  obtain ⟨hx, hb, hr, hlocks, hml, hown, hts, hK⟩ := id E
  intro fu
  induction fu with
  | zero => intro x1 x2 x3 M H locs ls hf hP hS hl; cases hf
  | succ fu ih =>
    intro x1 x2 x3 M H locs ls hf hP hS hl
    rw [f_X8_fairSpread_b16.eq_2] at hf
    refine lv_iload_n hx hb dX8_fairSpread_16 rfl (lv_at hl 3 rfl) ?_
    refine lv_aload_n hx hb dX8_fairSpread_17 rfl (lv_at hl 0 rfl) ?_
    refine gf_X8_s E hP w_797 dX8_fairSpread_18 ?_
    refine lv_iconst (v := 0) hx hb dX8_fairSpread_21 (by decide) ?_
    refine la_M1 E hP (by decide) dX8_fairSpread_22 ?_
    refine lv_icmp_ge (tgt := 88) hx hb dX8_fairSpread_23 (by decide) (fun hc => ?_) (fun hc => ?_)
    · have hf := if_t hf hc
      refine lv_iload_n hx hb dX8_fairSpread_88 rfl (lv_at hl 1 rfl) ?_
      refine lv_iload_n hx hb dX8_fairSpread_89 rfl (lv_at hl 2 rfl) ?_
      refine lv_isub hx hb dX8_fairSpread_90 ?_
      exact en_i hf hx hb hr rfl hlocks hP hS dX8_fairSpread_91
    · have hf := if_f hf hc
      refine lv_aload_n hx hb dX8_fairSpread_26 rfl (lv_at hl 0 rfl) ?_
      refine lv_iload_n hx hb dX8_fairSpread_27 rfl (lv_at hl 3 rfl) ?_
      refine lv_bipush (v := 6) hx hb dX8_fairSpread_28 (by decide) ?_
      refine ob_e hf (fun r_30 M_30 hq hf => ?_)
      refine cv_X8_pn E hP hS hq w_867 ⟨Nat.le_of_ble_eq_true rfl, Nat.le_of_ble_eq_true rfl⟩ hl (Nat.le_of_ble_eq_true rfl) dX8_fairSpread_30 ⟨Nat.le_of_ble_eq_true rfl, Nat.le_of_ble_eq_true rfl⟩ (fun H locs hP hS => ?_)
      refine lv_if_ne (tgt := 82) hx hb dX8_fairSpread_33 (by decide) (fun hc => ?_) (fun hc => ?_)
      · have hf := if_f hf hc
        exact w_X8_fairSpread_b82 E ih hf hP hS (lv_sub hl [0, 1, 2, 3] rfl)
      · have hf := if_t hf hc
        refine lv_aload_n hx hb dX8_fairSpread_36 rfl (lv_at hl 0 rfl) ?_
        refine gf_X8_sums E hP w_809 dX8_fairSpread_37 ?_
        refine lv_iload_n hx hb dX8_fairSpread_40 rfl (lv_at hl 3 rfl) ?_
        refine ck_e hf (fun hi hf => ?_)
        refine la_M7 E hP hi dX8_fairSpread_41 ?_
        refine lv_iload_n hx hb dX8_fairSpread_42 rfl (lv_at hl 1 rfl) ?_
        refine lv_icmp_le (tgt := 55) hx hb dX8_fairSpread_43 (by decide) (fun hc => ?_) (fun hc => ?_)
        · have hf := if_t hf hc
          refine lv_iload_n hx hb dX8_fairSpread_55 rfl (lv_at hl 1 rfl) ?_
          exact w_X8_fairSpread_b56 E ih hf hP hS (lv_sub hl [0, 2, 3] rfl)
        · have hf := if_f hf hc
          refine lv_aload_n hx hb dX8_fairSpread_46 rfl (lv_at hl 0 rfl) ?_
          refine gf_X8_sums E hP w_809 dX8_fairSpread_47 ?_
          refine lv_iload_n hx hb dX8_fairSpread_50 rfl (lv_at hl 3 rfl) ?_
          refine ck_e hf (fun hi hf => ?_)
          refine la_M7 E hP hi dX8_fairSpread_51 ?_
          refine lv_goto (tgt := 56) hx hb dX8_fairSpread_52 (by decide) ?_
          exact w_X8_fairSpread_b56 E ih hf hP hS (lv_sub hl [0, 2, 3] rfl)
set_option maxHeartbeats 4000000 in
set_option maxRecDepth 100000 in
theorem w_X8_fairSpread {p : Program} {l : Launch} {e : Env} {s : State} {m : MethodId} {args : Array Value} {below : List Frame} {meth : Method} {c : Code} {G : GG} {sz : Nat} {r : Int32} {M' : Mem} (E : Cx p s m args meth c cX8_fairSpread (some .int) 4 RX8 G) {M : Mem} {H : Heap} {locs : List Loc} {ls : Array Slot} (hf : f_X8_fairSpread M = some (r, M')) (hP : PW G (AM G) (XM G) sz M s H) (hS : va_S (AM G) s.heap H locs) (hl : lv_has ls 4 [(0, .ref (adM G 0 0))]) : W p l e rm_X8_fairSpread s m args below meth c H locs 0 0 (MQ below (va_Qi (fun (r2 : Int32) (_ : Unit) => r2 = r) (fun _ t => PW G (AM G) (XM G) sz M' t t.heap) (AM G)) args s 0 0 (AM G)) (F0 m 0 ls []) := by
  obtain ⟨hx, hb, hr, hlocks, hml, hown, hts, hK⟩ := id E
  unfold f_X8_fairSpread at hf
  refine lv_aload_n hx hb dX8_fairSpread_0 rfl (lv_at hl 0 rfl) ?_
  refine ob_e hf (fun r_1 M_1 hq hf => ?_)
  refine cv_X8_plans E hP hS hq w_1084 ⟨Nat.le_of_ble_eq_true rfl, Nat.le_of_ble_eq_true rfl⟩ hl (Nat.le_of_ble_eq_true rfl) dX8_fairSpread_1 ⟨Nat.le_of_ble_eq_true rfl, Nat.le_of_ble_eq_true rfl⟩ (fun H locs hP hS => ?_)
  refine lv_if_ne (tgt := 10) hx hb dX8_fairSpread_4 (by decide) (fun hc => ?_) (fun hc => ?_)
  · have hf := if_f hf hc
    refine lv_iconst (v := (-1)) hx hb dX8_fairSpread_10 (by decide) ?_
    refine lv_istore_n (lv' := [(1, .int (-1)), (0, .ref (adM G 0 0))]) hx hb dX8_fairSpread_11 rfl hl (by decide) rfl (fun ls hl => ?_)
    refine lv_iconst (v := (-1)) hx hb dX8_fairSpread_12 (by decide) ?_
    refine lv_istore_n (lv' := [(2, .int (-1)), (1, .int (-1)), (0, .ref (adM G 0 0))]) hx hb dX8_fairSpread_13 rfl hl (by decide) rfl (fun ls hl => ?_)
    refine lv_iconst (v := 0) hx hb dX8_fairSpread_14 (by decide) ?_
    refine lv_istore_n (lv' := [(3, .int 0), (2, .int (-1)), (1, .int (-1)), (0, .ref (adM G 0 0))]) hx hb dX8_fairSpread_15 rfl hl (by decide) rfl (fun ls hl => ?_)
    exact w_X8_fairSpread_b16 E 1000 _ _ _ _ _ _ _ hf hP hS (lv_sub hl [3, 2, 1, 0] rfl)
  · have hf := if_t hf hc
    refine lv_ldc (v := (-1000004)) hx hb hown (hts _ w_939) dX8_fairSpread_7 ?_
    exact en_i hf hx hb hr rfl hlocks hP hS dX8_fairSpread_9
theorem c_X8_fairSpread (l : Launch) {G : GG} {sz : Nat} {M : Mem} {r : Int32} {M' : Mem} (hf : f_X8_fairSpread M = some (r, M')) : CtI l yX8_fairSpread cX8_fairSpread 4 (some .int) rm_X8_fairSpread [.ref (adM G 0 0)] G (AM G) (XM G) sz M r (XM G) sz M' := by
  refine Ct_of (by decide) (Nat.le_of_ble_eq_true rfl) (fun p e s m below meth c ls hx hb hr hlocks hml hown hts hK hP hl => ?_)
  exact w_X8_fairSpread ⟨hx, hb, hr, hlocks, hml, hown, hts, hK⟩ hf hP va_S.rf hl
set_option maxRecDepth 100000 in
theorem cv_X8_fairSpread {p : Program} {l : Launch} {e : Env} {R : Room} {s : State} {m : MethodId} {args : Array Value} {below : List Frame} {meth : Method} {c : Code} {H : Heap} {locs : List Loc} {cells slots : Nat} {Q : State → Prop} {cc : ByteArray} {pc nL index : Nat} {ret : Option FieldType} {own : String} {ls : Array Slot} {rest : List Value} {l' : List (Nat × Value)} {G : GG} {sz : Nat} {M : Mem} (E : Cx p s m args meth c cc ret nL own G) (hP : PW G (AM G) (XM G) sz M s H) (hS : va_S (AM G) s.heap H locs) {r : Int32} {M' : Mem} (hq : f_X8_fairSpread M = some (r, M')) (w1 : Cond.methodLink own index yX8_fairSpread ∈ lw_all) (hR : 4 ≤ R.frames ∧ 92 ≤ R.locals) (hl : lv_has ls nL l') (hrest : (rest.map fun v => v.category).sum ≤ 8) (hdg : decode cc pc = .ok (.invokevirtual index, 3)) (hcs : cells ≤ R.cells ∧ slots ≤ R.slots)
    (kk : ∀ (H1 : Heap) (locs1 : List Loc), PW G (AM G) (XM G) sz M' s H1 → va_S (AM G) s.heap H1 locs1 → W p l e R s m args below meth c H1 locs1 cells slots Q (F0 m (pc + 3) ls (.int r :: rest))) : W p l e R s m args below meth c H locs cells slots Q (F0 m pc ls (.ref (adM G 0 0) :: rest)) := by
  obtain ⟨hx, hb, hr, hlocks, hml, hown, hts, hK⟩ := E
  exact kc_i (kc_runV (na := 0) (q := (RX8, TX8, 16)) hx hb hml hts hown hK hP 0 0 ⟨rfl, by decide⟩ rfl rfl rfl (c_X8_fairSpread l hq) w1 w_1089 w_1090 w_9 w_1091 (by decide +kernel) hR rfl hl rfl hrest hdg hcs) hS kk
/-! X8_tours -/
abbrev rm_X8_tours : Room := { frames := 3, cells := 0, slots := 0, locals := 69 }
def f_X8_tours_b173 (L51 : Int32 → Int32 → Int32 → Int32 → Int32 → Int32 → Int32 → Int32 → Int32 → Mem → Option (Int32 × Mem)) (x1 : Int32) (x2 : Int32) (x3 : Int32) (x4 : Int32) (x5 : Int32) (x8 : Int32) (x9 : Int32) (x10 : Int32) (s0 : Int32) (M : Mem) : Option (Int32 × Mem) :=
lt (x10 + 1) fun x10_175 =>
L51 x1 x2 x3 x4 x5 s0 x8 x9 x10_175 M
def f_X8_tours_b159 (L51 : Int32 → Int32 → Int32 → Int32 → Int32 → Int32 → Int32 → Int32 → Int32 → Mem → Option (Int32 × Mem)) (x1 : Int32) (x2 : Int32) (x3 : Int32) (x4 : Int32) (x5 : Int32) (x7 : Int32) (x9 : Int32) (x10 : Int32) (x11 : Int32) (x12 : Int32) (s0 : Int32) (M : Mem) : Option (Int32 × Mem) :=
(if x12 = 0 then
  f_X8_tours_b173 L51 x1 x2 x3 x4 x5 s0 x9 x10 x7 M
else
  f_X8_tours_b173 L51 x1 x2 x3 x4 x5 s0 x9 x10 x11 M)
def f_X8_tours_b143 (L51 : Int32 → Int32 → Int32 → Int32 → Int32 → Int32 → Int32 → Int32 → Int32 → Mem → Option (Int32 × Mem)) (x1 : Int32) (x2 : Int32) (x3 : Int32) (x4 : Int32) (x5 : Int32) (x7 : Int32) (x8 : Int32) (x10 : Int32) (x11 : Int32) (x12 : Int32) (s0 : Int32) (M : Mem) : Option (Int32 × Mem) :=
(if x12 = 0 then
  f_X8_tours_b159 L51 x1 x2 x3 x4 x5 x7 s0 x10 x11 x12 x8 M
else
  f_X8_tours_b159 L51 x1 x2 x3 x4 x5 x7 s0 x10 x11 x12 ((x10 - x10 / 2 * 2)) M)
def f_X8_tours_b119 (L51 : Int32 → Int32 → Int32 → Int32 → Int32 → Int32 → Int32 → Int32 → Int32 → Mem → Option (Int32 × Mem)) (x1 : Int32) (x2 : Int32) (x3 : Int32) (x4 : Int32) (x5 : Int32) (x7 : Int32) (x8 : Int32) (x9 : Int32) (x10 : Int32) (x11 : Int32) (s0 : Int32) (M : Mem) : Option (Int32 × Mem) :=
(if s0 = 0 then
  f_X8_tours_b143 L51 x1 x2 x3 x4 x5 x7 x8 x10 x11 s0 x9 M
else
  ob (f_X8_far x1 x2 x11 (x10 - x10 / 2 * 2) M) fun r_135 M_135 =>
  f_X8_tours_b143 L51 x1 x2 x3 x4 x5 x7 x8 x10 x11 s0 r_135 M_135)
def f_X8_tours_b118 (L51 : Int32 → Int32 → Int32 → Int32 → Int32 → Int32 → Int32 → Int32 → Int32 → Mem → Option (Int32 × Mem)) (x1 : Int32) (x2 : Int32) (x3 : Int32) (x4 : Int32) (x5 : Int32) (x7 : Int32) (x8 : Int32) (x9 : Int32) (x10 : Int32) (x11 : Int32) (M : Mem) : Option (Int32 × Mem) :=
f_X8_tours_b119 L51 x1 x2 x3 x4 x5 x7 x8 x9 x10 x11 0 M
def f_X8_tours_b274 (L32 : Int32 → Int32 → Int32 → Int32 → Int32 → Int32 → Mem → Option (Int32 × Mem)) (x1 : Int32) (x2 : Int32) (x3 : Int32) (x4 : Int32) (x5 : Int32) (x6 : Int32) (M : Mem) : Option (Int32 × Mem) :=
L32 x1 x2 x3 x4 x5 x6 M
def f_X8_tours_b191 (L32 : Int32 → Int32 → Int32 → Int32 → Int32 → Int32 → Mem → Option (Int32 × Mem)) (x1 : Int32) (x2 : Int32) (x3 : Int32) (x4 : Int32) (x5 : Int32) (x7 : Int32) (x8 : Int32) (x9 : Int32) (s0 : Int32) (M : Mem) : Option (Int32 × Mem) :=
(if s0 = 0 then
  f_X8_tours_b274 L32 x1 x2 x3 x4 x5 s0 M
else
  lt ((x5 ||| (1 <<< (x7 &&& 31)))) fun x5_205 =>
  ob (f_X8_length x7 M) fun r_214 M_214 =>
  lt ((x4 + (x9 + r_214))) fun x4_219 =>
  ck (ibd x3 16) <|
  lt (up3 M_214 0 8 (ix x3) x7) fun M_228 =>
  ck (ibd x3 16) <|
  lt (up3 M_228 0 9 (ix x3) x8) fun M_236 =>
  ck (ibd x3 16) <|
  lt (up3 M_236 0 10 (ix x3) x4_219) fun M_244 =>
  lt (x3 + 1) fun x3_245 =>
  ob (f_X8_ln x7 (2 - (2 * x8)) M_244) fun r_257 M_257 =>
  ob (f_X8_ln x7 (3 - (2 * x8)) M_257) fun r_270 M_270 =>
  f_X8_tours_b274 L32 r_257 r_270 x3_245 x4_219 x5_205 s0 M_270)
def f_X8_tours_b51 (L32 : Int32 → Int32 → Int32 → Int32 → Int32 → Int32 → Mem → Option (Int32 × Mem)) : Nat → Int32 → Int32 → Int32 → Int32 → Int32 → Int32 → Int32 → Int32 → Int32 → Mem → Option (Int32 × Mem)
  | 0 => fun _ _ _ _ _ _ _ _ _ _ => none
  | fu + 1 => fun x1 x2 x3 x4 x5 x7 x8 x9 x10 M =>
(if (2 * (M 0 1 (ix 1))) ≤ x10 then
  (if x7 < 0 then
    f_X8_tours_b191 L32 x1 x2 x3 x4 x5 x7 x8 x9 0 M
  else
    f_X8_tours_b191 L32 x1 x2 x3 x4 x5 x7 x8 x9 1 M)
else
  lt ((x10 / 2)) fun x11_68 =>
  ck (ibd x11_68 16) <|
  (if (M 0 6 (ix x11_68)) = (M 0 1 (ix 8)) then
    (if ((x5 >>> (x11_68 &&& 31)) &&& 1) = 0 then
      ob (f_X8_far x1 x2 x11_68 (x10 - x10 / 2 * 2) M) fun r_106 M_106 =>
      (if x9 ≤ r_106 then
        f_X8_tours_b118 (f_X8_tours_b51 L32 fu) x1 x2 x3 x4 x5 x7 x8 x9 x10 x11_68 M_106
      else
        f_X8_tours_b119 (f_X8_tours_b51 L32 fu) x1 x2 x3 x4 x5 x7 x8 x9 x10 x11_68 1 M_106)
    else
      f_X8_tours_b118 (f_X8_tours_b51 L32 fu) x1 x2 x3 x4 x5 x7 x8 x9 x10 x11_68 M)
  else
    f_X8_tours_b118 (f_X8_tours_b51 L32 fu) x1 x2 x3 x4 x5 x7 x8 x9 x10 x11_68 M))
def f_X8_tours_b32 : Nat → Int32 → Int32 → Int32 → Int32 → Int32 → Int32 → Mem → Option (Int32 × Mem)
  | 0 => fun _ _ _ _ _ _ _ => none
  | fu + 1 => fun x1 x2 x3 x4 x5 x6 M =>
(if x6 = 0 then
  some (x3, M)
else
  f_X8_tours_b51 (f_X8_tours_b32 fu) 1000 x1 x2 x3 x4 x5 (-1) 0 999 0 M)
def f_X8_tours (M : Mem) : Option (Int32 × Mem) :=
ob (f_X8_plans M) fun r_1 M_1 =>
lt ((M_1 0 1 (ix 9))) fun x1_12 =>
lt ((M_1 0 1 (ix 10))) fun x2_20 =>
f_X8_tours_b32 1000 x1_12 x2_20 0 0 0 1 M_1
set_option maxHeartbeats 4000000 in
set_option maxRecDepth 100000 in
theorem w_X8_tours_b173 {p : Program} {l : Launch} {e : Env} {s : State} {m : MethodId} {args : Array Value} {below : List Frame} {meth : Method} {c : Code} {G : GG} {sz : Nat} {r : Int32} {M' : Mem} (E : Cx p s m args meth c cX8_tours (some .int) 13 RX8 G) {L51 : Int32 → Int32 → Int32 → Int32 → Int32 → Int32 → Int32 → Int32 → Int32 → Mem → Option (Int32 × Mem)} (hL51 : ∀ (x1 : Int32) (x2 : Int32) (x3 : Int32) (x4 : Int32) (x5 : Int32) (x7 : Int32) (x8 : Int32) (x9 : Int32) (x10 : Int32) (M : Mem) (H : Heap) (locs : List Loc) (ls : Array Slot), L51 x1 x2 x3 x4 x5 x7 x8 x9 x10 M = some (r, M') → PW G (AM G) (XM G) sz M s H → va_S (AM G) s.heap H locs → lv_has ls 13 [(0, .ref (adM G 0 0)), (1, .int x1), (2, .int x2), (3, .int x3), (4, .int x4), (5, .int x5), (7, .int x7), (8, .int x8), (9, .int x9), (10, .int x10)] → W p l e rm_X8_tours s m args below meth c H locs 0 0 (MQ below (va_Qi (fun (r2 : Int32) (_ : Unit) => r2 = r) (fun _ t => PW G (AM G) (XM G) sz M' t t.heap) (AM G)) args s 0 0 (AM G)) (F0 m 51 ls [])) {x1 : Int32} {x2 : Int32} {x3 : Int32} {x4 : Int32} {x5 : Int32} {x8 : Int32} {x9 : Int32} {x10 : Int32} {s0 : Int32} {M : Mem} {H : Heap} {locs : List Loc} {ls : Array Slot} (hf : f_X8_tours_b173 L51 x1 x2 x3 x4 x5 x8 x9 x10 s0 M = some (r, M')) (hP : PW G (AM G) (XM G) sz M s H) (hS : va_S (AM G) s.heap H locs) (hl : lv_has ls 13 [(0, .ref (adM G 0 0)), (1, .int x1), (2, .int x2), (3, .int x3), (4, .int x4), (5, .int x5), (8, .int x8), (9, .int x9), (10, .int x10)]) : W p l e rm_X8_tours s m args below meth c H locs 0 0 (MQ below (va_Qi (fun (r2 : Int32) (_ : Unit) => r2 = r) (fun _ t => PW G (AM G) (XM G) sz M' t t.heap) (AM G)) args s 0 0 (AM G)) (F0 m 173 ls [.int s0]) := by
  obtain ⟨hx, hb, hr, hlocks, hml, hown, hts, hK⟩ := id E
  unfold f_X8_tours_b173 at hf
  refine lv_istore (lv' := [(7, .int s0), (0, .ref (adM G 0 0)), (1, .int x1), (2, .int x2), (3, .int x3), (4, .int x4), (5, .int x5), (8, .int x8), (9, .int x9), (10, .int x10)]) hx hb dX8_tours_173 hl (by decide) rfl (fun ls hl => ?_)
  refine lt_e hf (fun x10_175 hx10_175 hf => ?_)
  refine lv_iinc (v := x10_175) (lv' := [(10, .int x10_175), (7, .int s0), (0, .ref (adM G 0 0)), (1, .int x1), (2, .int x2), (3, .int x3), (4, .int x4), (5, .int x5), (8, .int x8), (9, .int x9)]) hx hb dX8_tours_175 hl (k := 9) rfl (by rw [hx10_175]; rfl) (by decide) rfl (fun ls hl => ?_)
  refine lv_goto (tgt := 51) hx hb dX8_tours_178 (by decide) ?_
  exact hL51 _ _ _ _ _ _ _ _ _ _ _ _ _ hf hP hS (lv_sub hl [2, 3, 4, 5, 6, 7, 1, 8, 9, 0] rfl)
set_option maxHeartbeats 4000000 in
set_option maxRecDepth 100000 in
theorem w_X8_tours_b159 {p : Program} {l : Launch} {e : Env} {s : State} {m : MethodId} {args : Array Value} {below : List Frame} {meth : Method} {c : Code} {G : GG} {sz : Nat} {r : Int32} {M' : Mem} (E : Cx p s m args meth c cX8_tours (some .int) 13 RX8 G) {L51 : Int32 → Int32 → Int32 → Int32 → Int32 → Int32 → Int32 → Int32 → Int32 → Mem → Option (Int32 × Mem)} (hL51 : ∀ (x1 : Int32) (x2 : Int32) (x3 : Int32) (x4 : Int32) (x5 : Int32) (x7 : Int32) (x8 : Int32) (x9 : Int32) (x10 : Int32) (M : Mem) (H : Heap) (locs : List Loc) (ls : Array Slot), L51 x1 x2 x3 x4 x5 x7 x8 x9 x10 M = some (r, M') → PW G (AM G) (XM G) sz M s H → va_S (AM G) s.heap H locs → lv_has ls 13 [(0, .ref (adM G 0 0)), (1, .int x1), (2, .int x2), (3, .int x3), (4, .int x4), (5, .int x5), (7, .int x7), (8, .int x8), (9, .int x9), (10, .int x10)] → W p l e rm_X8_tours s m args below meth c H locs 0 0 (MQ below (va_Qi (fun (r2 : Int32) (_ : Unit) => r2 = r) (fun _ t => PW G (AM G) (XM G) sz M' t t.heap) (AM G)) args s 0 0 (AM G)) (F0 m 51 ls [])) {x1 : Int32} {x2 : Int32} {x3 : Int32} {x4 : Int32} {x5 : Int32} {x7 : Int32} {x9 : Int32} {x10 : Int32} {x11 : Int32} {x12 : Int32} {s0 : Int32} {M : Mem} {H : Heap} {locs : List Loc} {ls : Array Slot} (hf : f_X8_tours_b159 L51 x1 x2 x3 x4 x5 x7 x9 x10 x11 x12 s0 M = some (r, M')) (hP : PW G (AM G) (XM G) sz M s H) (hS : va_S (AM G) s.heap H locs) (hl : lv_has ls 13 [(0, .ref (adM G 0 0)), (1, .int x1), (2, .int x2), (3, .int x3), (4, .int x4), (5, .int x5), (7, .int x7), (9, .int x9), (10, .int x10), (11, .int x11), (12, .int x12)]) : W p l e rm_X8_tours s m args below meth c H locs 0 0 (MQ below (va_Qi (fun (r2 : Int32) (_ : Unit) => r2 = r) (fun _ t => PW G (AM G) (XM G) sz M' t t.heap) (AM G)) args s 0 0 (AM G)) (F0 m 159 ls [.int s0]) := by
  obtain ⟨hx, hb, hr, hlocks, hml, hown, hts, hK⟩ := id E
  unfold f_X8_tours_b159 at hf
  refine lv_istore (lv' := [(8, .int s0), (0, .ref (adM G 0 0)), (1, .int x1), (2, .int x2), (3, .int x3), (4, .int x4), (5, .int x5), (7, .int x7), (9, .int x9), (10, .int x10), (11, .int x11), (12, .int x12)]) hx hb dX8_tours_159 hl (by decide) rfl (fun ls hl => ?_)
  refine lv_iload hx hb dX8_tours_161 (lv_at hl 11 rfl) ?_
  refine lv_if_eq (tgt := 171) hx hb dX8_tours_163 (by decide) (fun hc => ?_) (fun hc => ?_)
  · have hf := if_t hf hc
    refine lv_iload hx hb dX8_tours_171 (lv_at hl 7 rfl) ?_
    exact w_X8_tours_b173 E hL51 hf hP hS (lv_sub hl [1, 2, 3, 4, 5, 6, 0, 8, 9] rfl)
  · have hf := if_f hf hc
    refine lv_iload hx hb dX8_tours_166 (lv_at hl 10 rfl) ?_
    refine lv_goto (tgt := 173) hx hb dX8_tours_168 (by decide) ?_
    exact w_X8_tours_b173 E hL51 hf hP hS (lv_sub hl [1, 2, 3, 4, 5, 6, 0, 8, 9] rfl)
set_option maxHeartbeats 4000000 in
set_option maxRecDepth 100000 in
theorem w_X8_tours_b143 {p : Program} {l : Launch} {e : Env} {s : State} {m : MethodId} {args : Array Value} {below : List Frame} {meth : Method} {c : Code} {G : GG} {sz : Nat} {r : Int32} {M' : Mem} (E : Cx p s m args meth c cX8_tours (some .int) 13 RX8 G) {L51 : Int32 → Int32 → Int32 → Int32 → Int32 → Int32 → Int32 → Int32 → Int32 → Mem → Option (Int32 × Mem)} (hL51 : ∀ (x1 : Int32) (x2 : Int32) (x3 : Int32) (x4 : Int32) (x5 : Int32) (x7 : Int32) (x8 : Int32) (x9 : Int32) (x10 : Int32) (M : Mem) (H : Heap) (locs : List Loc) (ls : Array Slot), L51 x1 x2 x3 x4 x5 x7 x8 x9 x10 M = some (r, M') → PW G (AM G) (XM G) sz M s H → va_S (AM G) s.heap H locs → lv_has ls 13 [(0, .ref (adM G 0 0)), (1, .int x1), (2, .int x2), (3, .int x3), (4, .int x4), (5, .int x5), (7, .int x7), (8, .int x8), (9, .int x9), (10, .int x10)] → W p l e rm_X8_tours s m args below meth c H locs 0 0 (MQ below (va_Qi (fun (r2 : Int32) (_ : Unit) => r2 = r) (fun _ t => PW G (AM G) (XM G) sz M' t t.heap) (AM G)) args s 0 0 (AM G)) (F0 m 51 ls [])) {x1 : Int32} {x2 : Int32} {x3 : Int32} {x4 : Int32} {x5 : Int32} {x7 : Int32} {x8 : Int32} {x10 : Int32} {x11 : Int32} {x12 : Int32} {s0 : Int32} {M : Mem} {H : Heap} {locs : List Loc} {ls : Array Slot} (hf : f_X8_tours_b143 L51 x1 x2 x3 x4 x5 x7 x8 x10 x11 x12 s0 M = some (r, M')) (hP : PW G (AM G) (XM G) sz M s H) (hS : va_S (AM G) s.heap H locs) (hl : lv_has ls 13 [(0, .ref (adM G 0 0)), (1, .int x1), (2, .int x2), (3, .int x3), (4, .int x4), (5, .int x5), (7, .int x7), (8, .int x8), (10, .int x10), (11, .int x11), (12, .int x12)]) : W p l e rm_X8_tours s m args below meth c H locs 0 0 (MQ below (va_Qi (fun (r2 : Int32) (_ : Unit) => r2 = r) (fun _ t => PW G (AM G) (XM G) sz M' t t.heap) (AM G)) args s 0 0 (AM G)) (F0 m 143 ls [.int s0]) := by
  obtain ⟨hx, hb, hr, hlocks, hml, hown, hts, hK⟩ := id E
  unfold f_X8_tours_b143 at hf
  refine lv_istore (lv' := [(9, .int s0), (0, .ref (adM G 0 0)), (1, .int x1), (2, .int x2), (3, .int x3), (4, .int x4), (5, .int x5), (7, .int x7), (8, .int x8), (10, .int x10), (11, .int x11), (12, .int x12)]) hx hb dX8_tours_143 hl (by decide) rfl (fun ls hl => ?_)
  refine lv_iload hx hb dX8_tours_145 (lv_at hl 11 rfl) ?_
  refine lv_if_eq (tgt := 157) hx hb dX8_tours_147 (by decide) (fun hc => ?_) (fun hc => ?_)
  · have hf := if_t hf hc
    refine lv_iload hx hb dX8_tours_157 (lv_at hl 8 rfl) ?_
    exact w_X8_tours_b159 E hL51 hf hP hS (lv_sub hl [1, 2, 3, 4, 5, 6, 7, 0, 9, 10, 11] rfl)
  · have hf := if_f hf hc
    refine lv_iload hx hb dX8_tours_150 (lv_at hl 9 rfl) ?_
    refine lv_iconst (v := 2) hx hb dX8_tours_152 (by decide) ?_
    refine lv_irem hx hb dX8_tours_153 (by decide) ?_
    refine lv_goto (tgt := 159) hx hb dX8_tours_154 (by decide) ?_
    exact w_X8_tours_b159 E hL51 hf hP hS (lv_sub hl [1, 2, 3, 4, 5, 6, 7, 0, 9, 10, 11] rfl)
set_option maxHeartbeats 4000000 in
set_option maxRecDepth 100000 in
theorem w_X8_tours_b119 {p : Program} {l : Launch} {e : Env} {s : State} {m : MethodId} {args : Array Value} {below : List Frame} {meth : Method} {c : Code} {G : GG} {sz : Nat} {r : Int32} {M' : Mem} (E : Cx p s m args meth c cX8_tours (some .int) 13 RX8 G) {L51 : Int32 → Int32 → Int32 → Int32 → Int32 → Int32 → Int32 → Int32 → Int32 → Mem → Option (Int32 × Mem)} (hL51 : ∀ (x1 : Int32) (x2 : Int32) (x3 : Int32) (x4 : Int32) (x5 : Int32) (x7 : Int32) (x8 : Int32) (x9 : Int32) (x10 : Int32) (M : Mem) (H : Heap) (locs : List Loc) (ls : Array Slot), L51 x1 x2 x3 x4 x5 x7 x8 x9 x10 M = some (r, M') → PW G (AM G) (XM G) sz M s H → va_S (AM G) s.heap H locs → lv_has ls 13 [(0, .ref (adM G 0 0)), (1, .int x1), (2, .int x2), (3, .int x3), (4, .int x4), (5, .int x5), (7, .int x7), (8, .int x8), (9, .int x9), (10, .int x10)] → W p l e rm_X8_tours s m args below meth c H locs 0 0 (MQ below (va_Qi (fun (r2 : Int32) (_ : Unit) => r2 = r) (fun _ t => PW G (AM G) (XM G) sz M' t t.heap) (AM G)) args s 0 0 (AM G)) (F0 m 51 ls [])) {x1 : Int32} {x2 : Int32} {x3 : Int32} {x4 : Int32} {x5 : Int32} {x7 : Int32} {x8 : Int32} {x9 : Int32} {x10 : Int32} {x11 : Int32} {s0 : Int32} {M : Mem} {H : Heap} {locs : List Loc} {ls : Array Slot} (hf : f_X8_tours_b119 L51 x1 x2 x3 x4 x5 x7 x8 x9 x10 x11 s0 M = some (r, M')) (hP : PW G (AM G) (XM G) sz M s H) (hS : va_S (AM G) s.heap H locs) (hl : lv_has ls 13 [(0, .ref (adM G 0 0)), (1, .int x1), (2, .int x2), (3, .int x3), (4, .int x4), (5, .int x5), (7, .int x7), (8, .int x8), (9, .int x9), (10, .int x10), (11, .int x11)]) : W p l e rm_X8_tours s m args below meth c H locs 0 0 (MQ below (va_Qi (fun (r2 : Int32) (_ : Unit) => r2 = r) (fun _ t => PW G (AM G) (XM G) sz M' t t.heap) (AM G)) args s 0 0 (AM G)) (F0 m 119 ls [.int s0]) := by
  obtain ⟨hx, hb, hr, hlocks, hml, hown, hts, hK⟩ := id E
  unfold f_X8_tours_b119 at hf
  refine lv_istore (lv' := [(12, .int s0), (0, .ref (adM G 0 0)), (1, .int x1), (2, .int x2), (3, .int x3), (4, .int x4), (5, .int x5), (7, .int x7), (8, .int x8), (9, .int x9), (10, .int x10), (11, .int x11)]) hx hb dX8_tours_119 hl (by decide) rfl (fun ls hl => ?_)
  refine lv_iload hx hb dX8_tours_121 (lv_at hl 0 rfl) ?_
  refine lv_if_eq (tgt := 141) hx hb dX8_tours_123 (by decide) (fun hc => ?_) (fun hc => ?_)
  · have hf := if_t hf hc
    refine lv_iload hx hb dX8_tours_141 (lv_at hl 9 rfl) ?_
    exact w_X8_tours_b143 E hL51 hf hP hS (lv_sub hl [1, 2, 3, 4, 5, 6, 7, 8, 10, 11, 0] rfl)
  · have hf := if_f hf hc
    refine lv_aload_n hx hb dX8_tours_126 rfl (lv_at hl 1 rfl) ?_
    refine lv_iload_n hx hb dX8_tours_127 rfl (lv_at hl 2 rfl) ?_
    refine lv_iload_n hx hb dX8_tours_128 rfl (lv_at hl 3 rfl) ?_
    refine lv_iload hx hb dX8_tours_129 (lv_at hl 11 rfl) ?_
    refine lv_iload hx hb dX8_tours_131 (lv_at hl 10 rfl) ?_
    refine lv_iconst (v := 2) hx hb dX8_tours_133 (by decide) ?_
    refine lv_irem hx hb dX8_tours_134 (by decide) ?_
    refine ob_e hf (fun r_135 M_135 hq hf => ?_)
    refine cv_X8_far E hP hS hq w_977 ⟨Nat.le_of_ble_eq_true rfl, Nat.le_of_ble_eq_true rfl⟩ hl (Nat.le_of_ble_eq_true rfl) dX8_tours_135 ⟨Nat.le_of_ble_eq_true rfl, Nat.le_of_ble_eq_true rfl⟩ (fun H locs hP hS => ?_)
    refine lv_goto (tgt := 143) hx hb dX8_tours_138 (by decide) ?_
    exact w_X8_tours_b143 E hL51 hf hP hS (lv_sub hl [1, 2, 3, 4, 5, 6, 7, 8, 10, 11, 0] rfl)
set_option maxHeartbeats 4000000 in
set_option maxRecDepth 100000 in
theorem w_X8_tours_b118 {p : Program} {l : Launch} {e : Env} {s : State} {m : MethodId} {args : Array Value} {below : List Frame} {meth : Method} {c : Code} {G : GG} {sz : Nat} {r : Int32} {M' : Mem} (E : Cx p s m args meth c cX8_tours (some .int) 13 RX8 G) {L51 : Int32 → Int32 → Int32 → Int32 → Int32 → Int32 → Int32 → Int32 → Int32 → Mem → Option (Int32 × Mem)} (hL51 : ∀ (x1 : Int32) (x2 : Int32) (x3 : Int32) (x4 : Int32) (x5 : Int32) (x7 : Int32) (x8 : Int32) (x9 : Int32) (x10 : Int32) (M : Mem) (H : Heap) (locs : List Loc) (ls : Array Slot), L51 x1 x2 x3 x4 x5 x7 x8 x9 x10 M = some (r, M') → PW G (AM G) (XM G) sz M s H → va_S (AM G) s.heap H locs → lv_has ls 13 [(0, .ref (adM G 0 0)), (1, .int x1), (2, .int x2), (3, .int x3), (4, .int x4), (5, .int x5), (7, .int x7), (8, .int x8), (9, .int x9), (10, .int x10)] → W p l e rm_X8_tours s m args below meth c H locs 0 0 (MQ below (va_Qi (fun (r2 : Int32) (_ : Unit) => r2 = r) (fun _ t => PW G (AM G) (XM G) sz M' t t.heap) (AM G)) args s 0 0 (AM G)) (F0 m 51 ls [])) {x1 : Int32} {x2 : Int32} {x3 : Int32} {x4 : Int32} {x5 : Int32} {x7 : Int32} {x8 : Int32} {x9 : Int32} {x10 : Int32} {x11 : Int32} {M : Mem} {H : Heap} {locs : List Loc} {ls : Array Slot} (hf : f_X8_tours_b118 L51 x1 x2 x3 x4 x5 x7 x8 x9 x10 x11 M = some (r, M')) (hP : PW G (AM G) (XM G) sz M s H) (hS : va_S (AM G) s.heap H locs) (hl : lv_has ls 13 [(0, .ref (adM G 0 0)), (1, .int x1), (2, .int x2), (3, .int x3), (4, .int x4), (5, .int x5), (7, .int x7), (8, .int x8), (9, .int x9), (10, .int x10), (11, .int x11)]) : W p l e rm_X8_tours s m args below meth c H locs 0 0 (MQ below (va_Qi (fun (r2 : Int32) (_ : Unit) => r2 = r) (fun _ t => PW G (AM G) (XM G) sz M' t t.heap) (AM G)) args s 0 0 (AM G)) (F0 m 118 ls []) := by
  obtain ⟨hx, hb, hr, hlocks, hml, hown, hts, hK⟩ := id E
  unfold f_X8_tours_b118 at hf
  refine lv_iconst (v := 0) hx hb dX8_tours_118 (by decide) ?_
  exact w_X8_tours_b119 E hL51 hf hP hS (lv_sub hl [0, 1, 2, 3, 4, 5, 6, 7, 8, 9, 10] rfl)
set_option maxHeartbeats 4000000 in
set_option maxRecDepth 100000 in
theorem w_X8_tours_b274 {p : Program} {l : Launch} {e : Env} {s : State} {m : MethodId} {args : Array Value} {below : List Frame} {meth : Method} {c : Code} {G : GG} {sz : Nat} {r : Int32} {M' : Mem} (E : Cx p s m args meth c cX8_tours (some .int) 13 RX8 G) {L32 : Int32 → Int32 → Int32 → Int32 → Int32 → Int32 → Mem → Option (Int32 × Mem)} (hL32 : ∀ (x1 : Int32) (x2 : Int32) (x3 : Int32) (x4 : Int32) (x5 : Int32) (x6 : Int32) (M : Mem) (H : Heap) (locs : List Loc) (ls : Array Slot), L32 x1 x2 x3 x4 x5 x6 M = some (r, M') → PW G (AM G) (XM G) sz M s H → va_S (AM G) s.heap H locs → lv_has ls 13 [(0, .ref (adM G 0 0)), (1, .int x1), (2, .int x2), (3, .int x3), (4, .int x4), (5, .int x5), (6, .int x6)] → W p l e rm_X8_tours s m args below meth c H locs 0 0 (MQ below (va_Qi (fun (r2 : Int32) (_ : Unit) => r2 = r) (fun _ t => PW G (AM G) (XM G) sz M' t t.heap) (AM G)) args s 0 0 (AM G)) (F0 m 32 ls [])) {x1 : Int32} {x2 : Int32} {x3 : Int32} {x4 : Int32} {x5 : Int32} {x6 : Int32} {M : Mem} {H : Heap} {locs : List Loc} {ls : Array Slot} (hf : f_X8_tours_b274 L32 x1 x2 x3 x4 x5 x6 M = some (r, M')) (hP : PW G (AM G) (XM G) sz M s H) (hS : va_S (AM G) s.heap H locs) (hl : lv_has ls 13 [(0, .ref (adM G 0 0)), (1, .int x1), (2, .int x2), (3, .int x3), (4, .int x4), (5, .int x5), (6, .int x6)]) : W p l e rm_X8_tours s m args below meth c H locs 0 0 (MQ below (va_Qi (fun (r2 : Int32) (_ : Unit) => r2 = r) (fun _ t => PW G (AM G) (XM G) sz M' t t.heap) (AM G)) args s 0 0 (AM G)) (F0 m 274 ls []) := by
  obtain ⟨hx, hb, hr, hlocks, hml, hown, hts, hK⟩ := id E
  unfold f_X8_tours_b274 at hf
  refine lv_goto (tgt := 32) hx hb dX8_tours_274 (by decide) ?_
  exact hL32 _ _ _ _ _ _ _ _ _ _ hf hP hS (lv_sub hl [0, 1, 2, 3, 4, 5, 6] rfl)
set_option maxHeartbeats 4000000 in
set_option maxRecDepth 100000 in
theorem w_X8_tours_b191 {p : Program} {l : Launch} {e : Env} {s : State} {m : MethodId} {args : Array Value} {below : List Frame} {meth : Method} {c : Code} {G : GG} {sz : Nat} {r : Int32} {M' : Mem} (E : Cx p s m args meth c cX8_tours (some .int) 13 RX8 G) {L32 : Int32 → Int32 → Int32 → Int32 → Int32 → Int32 → Mem → Option (Int32 × Mem)} (hL32 : ∀ (x1 : Int32) (x2 : Int32) (x3 : Int32) (x4 : Int32) (x5 : Int32) (x6 : Int32) (M : Mem) (H : Heap) (locs : List Loc) (ls : Array Slot), L32 x1 x2 x3 x4 x5 x6 M = some (r, M') → PW G (AM G) (XM G) sz M s H → va_S (AM G) s.heap H locs → lv_has ls 13 [(0, .ref (adM G 0 0)), (1, .int x1), (2, .int x2), (3, .int x3), (4, .int x4), (5, .int x5), (6, .int x6)] → W p l e rm_X8_tours s m args below meth c H locs 0 0 (MQ below (va_Qi (fun (r2 : Int32) (_ : Unit) => r2 = r) (fun _ t => PW G (AM G) (XM G) sz M' t t.heap) (AM G)) args s 0 0 (AM G)) (F0 m 32 ls [])) {x1 : Int32} {x2 : Int32} {x3 : Int32} {x4 : Int32} {x5 : Int32} {x7 : Int32} {x8 : Int32} {x9 : Int32} {s0 : Int32} {M : Mem} {H : Heap} {locs : List Loc} {ls : Array Slot} (hf : f_X8_tours_b191 L32 x1 x2 x3 x4 x5 x7 x8 x9 s0 M = some (r, M')) (hP : PW G (AM G) (XM G) sz M s H) (hS : va_S (AM G) s.heap H locs) (hl : lv_has ls 13 [(0, .ref (adM G 0 0)), (1, .int x1), (2, .int x2), (3, .int x3), (4, .int x4), (5, .int x5), (7, .int x7), (8, .int x8), (9, .int x9)]) : W p l e rm_X8_tours s m args below meth c H locs 0 0 (MQ below (va_Qi (fun (r2 : Int32) (_ : Unit) => r2 = r) (fun _ t => PW G (AM G) (XM G) sz M' t t.heap) (AM G)) args s 0 0 (AM G)) (F0 m 191 ls [.int s0]) := by
  obtain ⟨hx, hb, hr, hlocks, hml, hown, hts, hK⟩ := id E
  unfold f_X8_tours_b191 at hf
  refine lv_istore (lv' := [(6, .int s0), (0, .ref (adM G 0 0)), (1, .int x1), (2, .int x2), (3, .int x3), (4, .int x4), (5, .int x5), (7, .int x7), (8, .int x8), (9, .int x9)]) hx hb dX8_tours_191 hl (by decide) rfl (fun ls hl => ?_)
  refine lv_iload hx hb dX8_tours_193 (lv_at hl 0 rfl) ?_
  refine lv_if_eq (tgt := 274) hx hb dX8_tours_195 (by decide) (fun hc => ?_) (fun hc => ?_)
  · have hf := if_t hf hc
    exact w_X8_tours_b274 E hL32 hf hP hS (lv_sub hl [1, 2, 3, 4, 5, 6, 0] rfl)
  · have hf := if_f hf hc
    refine lv_iload hx hb dX8_tours_198 (lv_at hl 6 rfl) ?_
    refine lv_iconst (v := 1) hx hb dX8_tours_200 (by decide) ?_
    refine lv_iload hx hb dX8_tours_201 (lv_at hl 7 rfl) ?_
    refine lv_ishl hx hb dX8_tours_203 ?_
    refine lv_ior hx hb dX8_tours_204 ?_
    refine lt_e hf (fun x5_205 hx5_205 hf => ?_)
    refine kr_nm hx5_205 ?_
    refine lv_istore (lv' := [(5, .int x5_205), (6, .int s0), (0, .ref (adM G 0 0)), (1, .int x1), (2, .int x2), (3, .int x3), (4, .int x4), (7, .int x7), (8, .int x8), (9, .int x9)]) hx hb dX8_tours_205 hl (by decide) rfl (fun ls hl => ?_)
    refine lv_iload hx hb dX8_tours_207 (lv_at hl 6 rfl) ?_
    refine lv_iload hx hb dX8_tours_209 (lv_at hl 9 rfl) ?_
    refine lv_aload_n hx hb dX8_tours_211 rfl (lv_at hl 2 rfl) ?_
    refine lv_iload hx hb dX8_tours_212 (lv_at hl 7 rfl) ?_
    refine ob_e hf (fun r_214 M_214 hq hf => ?_)
    refine cv_X8_length E hP hS hq w_928 ⟨Nat.le_of_ble_eq_true rfl, Nat.le_of_ble_eq_true rfl⟩ hl (Nat.le_of_ble_eq_true rfl) dX8_tours_214 ⟨Nat.le_of_ble_eq_true rfl, Nat.le_of_ble_eq_true rfl⟩ (fun H locs hP hS => ?_)
    refine lv_iadd hx hb dX8_tours_217 ?_
    refine lv_iadd hx hb dX8_tours_218 ?_
    refine lt_e hf (fun x4_219 hx4_219 hf => ?_)
    refine kr_nm hx4_219 ?_
    refine lv_istore (lv' := [(4, .int x4_219), (5, .int x5_205), (6, .int s0), (0, .ref (adM G 0 0)), (1, .int x1), (2, .int x2), (3, .int x3), (7, .int x7), (8, .int x8), (9, .int x9)]) hx hb dX8_tours_219 hl (by decide) rfl (fun ls hl => ?_)
    refine lv_aload_n hx hb dX8_tours_221 rfl (lv_at hl 3 rfl) ?_
    refine gf_X8_row E hP w_810 dX8_tours_222 ?_
    refine lv_iload_n hx hb dX8_tours_225 rfl (lv_at hl 6 rfl) ?_
    refine lv_iload hx hb dX8_tours_226 (lv_at hl 7 rfl) ?_
    refine ck_e hf (fun hi hf => ?_)
    refine lt_e hf (fun M_228 hM_228 hf => ?_)
    refine sa_M8 E hP hS hi hM_228 dX8_tours_228 (fun H locs hP hS => ?_)
    refine lv_aload_n hx hb dX8_tours_229 rfl (lv_at hl 3 rfl) ?_
    refine gf_X8_way E hP w_811 dX8_tours_230 ?_
    refine lv_iload_n hx hb dX8_tours_233 rfl (lv_at hl 6 rfl) ?_
    refine lv_iload hx hb dX8_tours_234 (lv_at hl 8 rfl) ?_
    refine ck_e hf (fun hi hf => ?_)
    refine lt_e hf (fun M_236 hM_236 hf => ?_)
    refine sa_M9 E hP hS hi hM_236 dX8_tours_236 (fun H locs hP hS => ?_)
    refine lv_aload_n hx hb dX8_tours_237 rfl (lv_at hl 3 rfl) ?_
    refine gf_X8_ticks E hP w_812 dX8_tours_238 ?_
    refine lv_iload_n hx hb dX8_tours_241 rfl (lv_at hl 6 rfl) ?_
    refine lv_iload hx hb dX8_tours_242 (lv_at hl 0 rfl) ?_
    refine ck_e hf (fun hi hf => ?_)
    refine lt_e hf (fun M_244 hM_244 hf => ?_)
    refine sa_M10 E hP hS hi hM_244 dX8_tours_244 (fun H locs hP hS => ?_)
    refine lt_e hf (fun x3_245 hx3_245 hf => ?_)
    refine lv_iinc (v := x3_245) (lv' := [(3, .int x3_245), (4, .int x4_219), (5, .int x5_205), (6, .int s0), (0, .ref (adM G 0 0)), (1, .int x1), (2, .int x2), (7, .int x7), (8, .int x8), (9, .int x9)]) hx hb dX8_tours_245 hl (k := 6) rfl (by rw [hx3_245]; rfl) (by decide) rfl (fun ls hl => ?_)
    refine lv_aload_n hx hb dX8_tours_248 rfl (lv_at hl 4 rfl) ?_
    refine lv_iload hx hb dX8_tours_249 (lv_at hl 7 rfl) ?_
    refine lv_iconst (v := 2) hx hb dX8_tours_251 (by decide) ?_
    refine lv_iconst (v := 2) hx hb dX8_tours_252 (by decide) ?_
    refine lv_iload hx hb dX8_tours_253 (lv_at hl 8 rfl) ?_
    refine lv_imul hx hb dX8_tours_255 ?_
    refine lv_isub hx hb dX8_tours_256 ?_
    refine ob_e hf (fun r_257 M_257 hq hf => ?_)
    refine cv_X8_ln E hP hS hq w_916 ⟨Nat.le_of_ble_eq_true rfl, Nat.le_of_ble_eq_true rfl⟩ hl (Nat.le_of_ble_eq_true rfl) dX8_tours_257 ⟨Nat.le_of_ble_eq_true rfl, Nat.le_of_ble_eq_true rfl⟩ (fun H locs hP hS => ?_)
    refine lv_istore_n (lv' := [(1, .int r_257), (3, .int x3_245), (4, .int x4_219), (5, .int x5_205), (6, .int s0), (0, .ref (adM G 0 0)), (2, .int x2), (7, .int x7), (8, .int x8), (9, .int x9)]) hx hb dX8_tours_260 rfl hl (by decide) rfl (fun ls hl => ?_)
    refine lv_aload_n hx hb dX8_tours_261 rfl (lv_at hl 5 rfl) ?_
    refine lv_iload hx hb dX8_tours_262 (lv_at hl 7 rfl) ?_
    refine lv_iconst (v := 3) hx hb dX8_tours_264 (by decide) ?_
    refine lv_iconst (v := 2) hx hb dX8_tours_265 (by decide) ?_
    refine lv_iload hx hb dX8_tours_266 (lv_at hl 8 rfl) ?_
    refine lv_imul hx hb dX8_tours_268 ?_
    refine lv_isub hx hb dX8_tours_269 ?_
    refine ob_e hf (fun r_270 M_270 hq hf => ?_)
    refine cv_X8_ln E hP hS hq w_916 ⟨Nat.le_of_ble_eq_true rfl, Nat.le_of_ble_eq_true rfl⟩ hl (Nat.le_of_ble_eq_true rfl) dX8_tours_270 ⟨Nat.le_of_ble_eq_true rfl, Nat.le_of_ble_eq_true rfl⟩ (fun H locs hP hS => ?_)
    refine lv_istore_n (lv' := [(2, .int r_270), (1, .int r_257), (3, .int x3_245), (4, .int x4_219), (5, .int x5_205), (6, .int s0), (0, .ref (adM G 0 0)), (7, .int x7), (8, .int x8), (9, .int x9)]) hx hb dX8_tours_273 rfl hl (by decide) rfl (fun ls hl => ?_)
    exact w_X8_tours_b274 E hL32 hf hP hS (lv_sub hl [6, 1, 0, 2, 3, 4, 5] rfl)
set_option maxHeartbeats 4000000 in
set_option maxRecDepth 100000 in
theorem w_X8_tours_b51 {p : Program} {l : Launch} {e : Env} {s : State} {m : MethodId} {args : Array Value} {below : List Frame} {meth : Method} {c : Code} {G : GG} {sz : Nat} {r : Int32} {M' : Mem} (E : Cx p s m args meth c cX8_tours (some .int) 13 RX8 G) {L32 : Int32 → Int32 → Int32 → Int32 → Int32 → Int32 → Mem → Option (Int32 × Mem)} (hL32 : ∀ (x1 : Int32) (x2 : Int32) (x3 : Int32) (x4 : Int32) (x5 : Int32) (x6 : Int32) (M : Mem) (H : Heap) (locs : List Loc) (ls : Array Slot), L32 x1 x2 x3 x4 x5 x6 M = some (r, M') → PW G (AM G) (XM G) sz M s H → va_S (AM G) s.heap H locs → lv_has ls 13 [(0, .ref (adM G 0 0)), (1, .int x1), (2, .int x2), (3, .int x3), (4, .int x4), (5, .int x5), (6, .int x6)] → W p l e rm_X8_tours s m args below meth c H locs 0 0 (MQ below (va_Qi (fun (r2 : Int32) (_ : Unit) => r2 = r) (fun _ t => PW G (AM G) (XM G) sz M' t t.heap) (AM G)) args s 0 0 (AM G)) (F0 m 32 ls [])) : ∀ fu : Nat, ∀ (x1 : Int32) (x2 : Int32) (x3 : Int32) (x4 : Int32) (x5 : Int32) (x7 : Int32) (x8 : Int32) (x9 : Int32) (x10 : Int32) (M : Mem) (H : Heap) (locs : List Loc) (ls : Array Slot), f_X8_tours_b51 L32 fu x1 x2 x3 x4 x5 x7 x8 x9 x10 M = some (r, M') → PW G (AM G) (XM G) sz M s H → va_S (AM G) s.heap H locs → lv_has ls 13 [(0, .ref (adM G 0 0)), (1, .int x1), (2, .int x2), (3, .int x3), (4, .int x4), (5, .int x5), (7, .int x7), (8, .int x8), (9, .int x9), (10, .int x10)] → W p l e rm_X8_tours s m args below meth c H locs 0 0 (MQ below (va_Qi (fun (r2 : Int32) (_ : Unit) => r2 = r) (fun _ t => PW G (AM G) (XM G) sz M' t t.heap) (AM G)) args s 0 0 (AM G)) (F0 m 51 ls []) := by
  obtain ⟨hx, hb, hr, hlocks, hml, hown, hts, hK⟩ := id E
  intro fu
  induction fu with
  | zero => intro x1 x2 x3 x4 x5 x7 x8 x9 x10 M H locs ls hf hP hS hl; cases hf
  | succ fu ih =>
    intro x1 x2 x3 x4 x5 x7 x8 x9 x10 M H locs ls hf hP hS hl
    rw [f_X8_tours_b51.eq_2] at hf
    refine lv_iload hx hb dX8_tours_51 (lv_at hl 9 rfl) ?_
    refine lv_iconst (v := 2) hx hb dX8_tours_53 (by decide) ?_
    refine lv_aload_n hx hb dX8_tours_54 rfl (lv_at hl 0 rfl) ?_
    refine gf_X8_s E hP w_797 dX8_tours_55 ?_
    refine lv_iconst (v := 1) hx hb dX8_tours_58 (by decide) ?_
    refine la_M1 E hP (by decide) dX8_tours_59 ?_
    refine lv_imul hx hb dX8_tours_60 ?_
    refine lv_icmp_ge (tgt := 181) hx hb dX8_tours_61 (by decide) (fun hc => ?_) (fun hc => ?_)
    · have hf := if_t hf hc
      refine lv_iload hx hb dX8_tours_181 (lv_at hl 6 rfl) ?_
      refine lv_if_lt (tgt := 190) hx hb dX8_tours_183 (by decide) (fun hc => ?_) (fun hc => ?_)
      · have hf := if_t hf hc
        refine lv_iconst (v := 0) hx hb dX8_tours_190 (by decide) ?_
        exact w_X8_tours_b191 E hL32 hf hP hS (lv_sub hl [0, 1, 2, 3, 4, 5, 6, 7, 8] rfl)
      · have hf := if_f hf hc
        refine lv_iconst (v := 1) hx hb dX8_tours_186 (by decide) ?_
        refine lv_goto (tgt := 191) hx hb dX8_tours_187 (by decide) ?_
        exact w_X8_tours_b191 E hL32 hf hP hS (lv_sub hl [0, 1, 2, 3, 4, 5, 6, 7, 8] rfl)
    · have hf := if_f hf hc
      refine lv_iload hx hb dX8_tours_64 (lv_at hl 9 rfl) ?_
      refine lv_iconst (v := 2) hx hb dX8_tours_66 (by decide) ?_
      refine lv_idiv hx hb dX8_tours_67 (by decide) ?_
      refine lt_e hf (fun x11_68 hx11_68 hf => ?_)
      refine kr_nm hx11_68 ?_
      refine lv_istore (lv' := [(11, .int x11_68), (0, .ref (adM G 0 0)), (1, .int x1), (2, .int x2), (3, .int x3), (4, .int x4), (5, .int x5), (7, .int x7), (8, .int x8), (9, .int x9), (10, .int x10)]) hx hb dX8_tours_68 hl (by decide) rfl (fun ls hl => ?_)
      refine lv_aload_n hx hb dX8_tours_70 rfl (lv_at hl 1 rfl) ?_
      refine gf_X8_fair E hP w_808 dX8_tours_71 ?_
      refine lv_iload hx hb dX8_tours_74 (lv_at hl 0 rfl) ?_
      refine ck_e hf (fun hi hf => ?_)
      refine la_M6 E hP hi dX8_tours_76 ?_
      refine lv_aload_n hx hb dX8_tours_77 rfl (lv_at hl 1 rfl) ?_
      refine gf_X8_s E hP w_797 dX8_tours_78 ?_
      refine lv_bipush (v := 8) hx hb dX8_tours_81 (by decide) ?_
      refine la_M1 E hP (by decide) dX8_tours_83 ?_
      refine lv_icmp_ne (tgt := 118) hx hb dX8_tours_84 (by decide) (fun hc => ?_) (fun hc => ?_)
      · have hf := if_f hf hc
        exact w_X8_tours_b118 E ih hf hP hS (lv_sub hl [1, 2, 3, 4, 5, 6, 7, 8, 9, 10, 0] rfl)
      · have hf := if_t hf hc
        refine lv_iload hx hb dX8_tours_87 (lv_at hl 6 rfl) ?_
        refine lv_iload hx hb dX8_tours_89 (lv_at hl 0 rfl) ?_
        refine lv_ishr hx hb dX8_tours_91 ?_
        refine lv_iconst (v := 1) hx hb dX8_tours_92 (by decide) ?_
        refine lv_iand hx hb dX8_tours_93 ?_
        refine lv_if_ne (tgt := 118) hx hb dX8_tours_94 (by decide) (fun hc => ?_) (fun hc => ?_)
        · have hf := if_f hf hc
          exact w_X8_tours_b118 E ih hf hP hS (lv_sub hl [1, 2, 3, 4, 5, 6, 7, 8, 9, 10, 0] rfl)
        · have hf := if_t hf hc
          refine lv_aload_n hx hb dX8_tours_97 rfl (lv_at hl 1 rfl) ?_
          refine lv_iload_n hx hb dX8_tours_98 rfl (lv_at hl 2 rfl) ?_
          refine lv_iload_n hx hb dX8_tours_99 rfl (lv_at hl 3 rfl) ?_
          refine lv_iload hx hb dX8_tours_100 (lv_at hl 0 rfl) ?_
          refine lv_iload hx hb dX8_tours_102 (lv_at hl 10 rfl) ?_
          refine lv_iconst (v := 2) hx hb dX8_tours_104 (by decide) ?_
          refine lv_irem hx hb dX8_tours_105 (by decide) ?_
          refine ob_e hf (fun r_106 M_106 hq hf => ?_)
          refine cv_X8_far E hP hS hq w_977 ⟨Nat.le_of_ble_eq_true rfl, Nat.le_of_ble_eq_true rfl⟩ hl (Nat.le_of_ble_eq_true rfl) dX8_tours_106 ⟨Nat.le_of_ble_eq_true rfl, Nat.le_of_ble_eq_true rfl⟩ (fun H locs hP hS => ?_)
          refine lv_iload hx hb dX8_tours_109 (lv_at hl 9 rfl) ?_
          refine lv_icmp_ge (tgt := 118) hx hb dX8_tours_111 (by decide) (fun hc => ?_) (fun hc => ?_)
          · have hf := if_t hf hc
            exact w_X8_tours_b118 E ih hf hP hS (lv_sub hl [1, 2, 3, 4, 5, 6, 7, 8, 9, 10, 0] rfl)
          · have hf := if_f hf hc
            refine lv_iconst (v := 1) hx hb dX8_tours_114 (by decide) ?_
            refine lv_goto (tgt := 119) hx hb dX8_tours_115 (by decide) ?_
            exact w_X8_tours_b119 E ih hf hP hS (lv_sub hl [1, 2, 3, 4, 5, 6, 7, 8, 9, 10, 0] rfl)
set_option maxHeartbeats 4000000 in
set_option maxRecDepth 100000 in
theorem w_X8_tours_b32 {p : Program} {l : Launch} {e : Env} {s : State} {m : MethodId} {args : Array Value} {below : List Frame} {meth : Method} {c : Code} {G : GG} {sz : Nat} {r : Int32} {M' : Mem} (E : Cx p s m args meth c cX8_tours (some .int) 13 RX8 G) : ∀ fu : Nat, ∀ (x1 : Int32) (x2 : Int32) (x3 : Int32) (x4 : Int32) (x5 : Int32) (x6 : Int32) (M : Mem) (H : Heap) (locs : List Loc) (ls : Array Slot), f_X8_tours_b32 fu x1 x2 x3 x4 x5 x6 M = some (r, M') → PW G (AM G) (XM G) sz M s H → va_S (AM G) s.heap H locs → lv_has ls 13 [(0, .ref (adM G 0 0)), (1, .int x1), (2, .int x2), (3, .int x3), (4, .int x4), (5, .int x5), (6, .int x6)] → W p l e rm_X8_tours s m args below meth c H locs 0 0 (MQ below (va_Qi (fun (r2 : Int32) (_ : Unit) => r2 = r) (fun _ t => PW G (AM G) (XM G) sz M' t t.heap) (AM G)) args s 0 0 (AM G)) (F0 m 32 ls []) := by
  obtain ⟨hx, hb, hr, hlocks, hml, hown, hts, hK⟩ := id E
  intro fu
  induction fu with
  | zero => intro x1 x2 x3 x4 x5 x6 M H locs ls hf hP hS hl; cases hf
  | succ fu ih =>
    intro x1 x2 x3 x4 x5 x6 M H locs ls hf hP hS hl
    rw [f_X8_tours_b32.eq_2] at hf
    refine lv_iload hx hb dX8_tours_32 (lv_at hl 6 rfl) ?_
    refine lv_if_eq (tgt := 277) hx hb dX8_tours_34 (by decide) (fun hc => ?_) (fun hc => ?_)
    · have hf := if_t hf hc
      refine lv_iload_n hx hb dX8_tours_277 rfl (lv_at hl 3 rfl) ?_
      exact en_i hf hx hb hr rfl hlocks hP hS dX8_tours_278
    · have hf := if_f hf hc
      refine lv_iconst (v := (-1)) hx hb dX8_tours_37 (by decide) ?_
      refine lv_istore (lv' := [(7, .int (-1)), (0, .ref (adM G 0 0)), (1, .int x1), (2, .int x2), (3, .int x3), (4, .int x4), (5, .int x5), (6, .int x6)]) hx hb dX8_tours_38 hl (by decide) rfl (fun ls hl => ?_)
      refine lv_iconst (v := 0) hx hb dX8_tours_40 (by decide) ?_
      refine lv_istore (lv' := [(8, .int 0), (7, .int (-1)), (0, .ref (adM G 0 0)), (1, .int x1), (2, .int x2), (3, .int x3), (4, .int x4), (5, .int x5), (6, .int x6)]) hx hb dX8_tours_41 hl (by decide) rfl (fun ls hl => ?_)
      refine lv_sipush (v := 999) hx hb dX8_tours_43 (by decide) ?_
      refine lv_istore (lv' := [(9, .int 999), (8, .int 0), (7, .int (-1)), (0, .ref (adM G 0 0)), (1, .int x1), (2, .int x2), (3, .int x3), (4, .int x4), (5, .int x5), (6, .int x6)]) hx hb dX8_tours_46 hl (by decide) rfl (fun ls hl => ?_)
      refine lv_iconst (v := 0) hx hb dX8_tours_48 (by decide) ?_
      refine lv_istore (lv' := [(10, .int 0), (9, .int 999), (8, .int 0), (7, .int (-1)), (0, .ref (adM G 0 0)), (1, .int x1), (2, .int x2), (3, .int x3), (4, .int x4), (5, .int x5), (6, .int x6)]) hx hb dX8_tours_49 hl (by decide) rfl (fun ls hl => ?_)
      exact w_X8_tours_b51 E ih 1000 _ _ _ _ _ _ _ _ _ _ _ _ _ hf hP hS (lv_sub hl [4, 5, 6, 7, 8, 9, 3, 2, 1, 0] rfl)
set_option maxHeartbeats 4000000 in
set_option maxRecDepth 100000 in
theorem w_X8_tours {p : Program} {l : Launch} {e : Env} {s : State} {m : MethodId} {args : Array Value} {below : List Frame} {meth : Method} {c : Code} {G : GG} {sz : Nat} {r : Int32} {M' : Mem} (E : Cx p s m args meth c cX8_tours (some .int) 13 RX8 G) {M : Mem} {H : Heap} {locs : List Loc} {ls : Array Slot} (hf : f_X8_tours M = some (r, M')) (hP : PW G (AM G) (XM G) sz M s H) (hS : va_S (AM G) s.heap H locs) (hl : lv_has ls 13 [(0, .ref (adM G 0 0))]) : W p l e rm_X8_tours s m args below meth c H locs 0 0 (MQ below (va_Qi (fun (r2 : Int32) (_ : Unit) => r2 = r) (fun _ t => PW G (AM G) (XM G) sz M' t t.heap) (AM G)) args s 0 0 (AM G)) (F0 m 0 ls []) := by
  obtain ⟨hx, hb, hr, hlocks, hml, hown, hts, hK⟩ := id E
  unfold f_X8_tours at hf
  refine lv_aload_n hx hb dX8_tours_0 rfl (lv_at hl 0 rfl) ?_
  refine ob_e hf (fun r_1 M_1 hq hf => ?_)
  refine cv_X8_plans E hP hS hq w_1084 ⟨Nat.le_of_ble_eq_true rfl, Nat.le_of_ble_eq_true rfl⟩ hl (Nat.le_of_ble_eq_true rfl) dX8_tours_1 ⟨Nat.le_of_ble_eq_true rfl, Nat.le_of_ble_eq_true rfl⟩ (fun H locs hP hS => ?_)
  refine lv_pop hx hb dX8_tours_4 rfl ?_
  refine lv_aload_n hx hb dX8_tours_5 rfl (lv_at hl 0 rfl) ?_
  refine gf_X8_s E hP w_797 dX8_tours_6 ?_
  refine lv_bipush (v := 9) hx hb dX8_tours_9 (by decide) ?_
  refine la_M1 E hP (by decide) dX8_tours_11 ?_
  refine lt_e hf (fun x1_12 hx1_12 hf => ?_)
  refine kr_nm hx1_12 ?_
  refine lv_istore_n (lv' := [(1, .int x1_12), (0, .ref (adM G 0 0))]) hx hb dX8_tours_12 rfl hl (by decide) rfl (fun ls hl => ?_)
  refine lv_aload_n hx hb dX8_tours_13 rfl (lv_at hl 1 rfl) ?_
  refine gf_X8_s E hP w_797 dX8_tours_14 ?_
  refine lv_bipush (v := 10) hx hb dX8_tours_17 (by decide) ?_
  refine la_M1 E hP (by decide) dX8_tours_19 ?_
  refine lt_e hf (fun x2_20 hx2_20 hf => ?_)
  refine kr_nm hx2_20 ?_
  refine lv_istore_n (lv' := [(2, .int x2_20), (1, .int x1_12), (0, .ref (adM G 0 0))]) hx hb dX8_tours_20 rfl hl (by decide) rfl (fun ls hl => ?_)
  refine lv_iconst (v := 0) hx hb dX8_tours_21 (by decide) ?_
  refine lv_istore_n (lv' := [(3, .int 0), (2, .int x2_20), (1, .int x1_12), (0, .ref (adM G 0 0))]) hx hb dX8_tours_22 rfl hl (by decide) rfl (fun ls hl => ?_)
  refine lv_iconst (v := 0) hx hb dX8_tours_23 (by decide) ?_
  refine lv_istore (lv' := [(4, .int 0), (3, .int 0), (2, .int x2_20), (1, .int x1_12), (0, .ref (adM G 0 0))]) hx hb dX8_tours_24 hl (by decide) rfl (fun ls hl => ?_)
  refine lv_iconst (v := 0) hx hb dX8_tours_26 (by decide) ?_
  refine lv_istore (lv' := [(5, .int 0), (4, .int 0), (3, .int 0), (2, .int x2_20), (1, .int x1_12), (0, .ref (adM G 0 0))]) hx hb dX8_tours_27 hl (by decide) rfl (fun ls hl => ?_)
  refine lv_iconst (v := 1) hx hb dX8_tours_29 (by decide) ?_
  refine lv_istore (lv' := [(6, .int 1), (5, .int 0), (4, .int 0), (3, .int 0), (2, .int x2_20), (1, .int x1_12), (0, .ref (adM G 0 0))]) hx hb dX8_tours_30 hl (by decide) rfl (fun ls hl => ?_)
  exact w_X8_tours_b32 E 1000 _ _ _ _ _ _ _ _ _ _ hf hP hS (lv_sub hl [6, 5, 4, 3, 2, 1, 0] rfl)
theorem c_X8_tours (l : Launch) {G : GG} {sz : Nat} {M : Mem} {r : Int32} {M' : Mem} (hf : f_X8_tours M = some (r, M')) : CtI l yX8_tours cX8_tours 13 (some .int) rm_X8_tours [.ref (adM G 0 0)] G (AM G) (XM G) sz M r (XM G) sz M' := by
  refine Ct_of (by decide) (Nat.le_of_ble_eq_true rfl) (fun p e s m below meth c ls hx hb hr hlocks hml hown hts hK hP hl => ?_)
  exact w_X8_tours ⟨hx, hb, hr, hlocks, hml, hown, hts, hK⟩ hf hP va_S.rf hl
set_option maxRecDepth 100000 in
theorem cv_X8_tours {p : Program} {l : Launch} {e : Env} {R : Room} {s : State} {m : MethodId} {args : Array Value} {below : List Frame} {meth : Method} {c : Code} {H : Heap} {locs : List Loc} {cells slots : Nat} {Q : State → Prop} {cc : ByteArray} {pc nL index : Nat} {ret : Option FieldType} {own : String} {ls : Array Slot} {rest : List Value} {l' : List (Nat × Value)} {G : GG} {sz : Nat} {M : Mem} (E : Cx p s m args meth c cc ret nL own G) (hP : PW G (AM G) (XM G) sz M s H) (hS : va_S (AM G) s.heap H locs) {r : Int32} {M' : Mem} (hq : f_X8_tours M = some (r, M')) (w1 : Cond.methodLink own index yX8_tours ∈ lw_all) (hR : 4 ≤ R.frames ∧ 101 ≤ R.locals) (hl : lv_has ls nL l') (hrest : (rest.map fun v => v.category).sum ≤ 8) (hdg : decode cc pc = .ok (.invokevirtual index, 3)) (hcs : cells ≤ R.cells ∧ slots ≤ R.slots)
    (kk : ∀ (H1 : Heap) (locs1 : List Loc), PW G (AM G) (XM G) sz M' s H1 → va_S (AM G) s.heap H1 locs1 → W p l e R s m args below meth c H1 locs1 cells slots Q (F0 m (pc + 3) ls (.int r :: rest))) : W p l e R s m args below meth c H locs cells slots Q (F0 m pc ls (.ref (adM G 0 0) :: rest)) := by
  obtain ⟨hx, hb, hr, hlocks, hml, hown, hts, hK⟩ := E
  exact kc_i (kc_runV (na := 0) (q := (RX8, TX8, 16)) hx hb hml hts hown hK hP 0 0 ⟨rfl, by decide⟩ rfl rfl rfl (c_X8_tours l hq) w1 w_1098 ws_47 w_9 w_1099 (by decide +kernel) hR rfl hl rfl hrest hdg hcs) hS kk
/-! X8_tour -/
abbrev rm_X8_tour : Room := { frames := 4, cells := 0, slots := 0, locals := 101 }
def f_X8_tour_b13 (M : Mem) : Option (Int32 × Mem) :=
some ((-1000001), M)
def f_X8_tour_b73 (s0 : Int32) (M : Mem) : Option (Int32 × Mem) :=
some (s0, M)
def f_X8_tour (x1 : Int32) (x2 : Int32) (M : Mem) : Option (Int32 × Mem) :=
(if x1 < 0 then
  f_X8_tour_b13 M
else
  ob (f_X8_in x2 0 2 M) fun r_7 M_7 =>
  (if r_7 = 0 then
    f_X8_tour_b13 M_7
  else
    (if 0 ≤ (M_7 0 1 (ix 8)) then
      ob (f_X8_tours M_7) fun r_31 M_31 =>
      (if x1 < r_31 then
        (if x2 = 0 then
          ck (ibd x1 16) <|
          f_X8_tour_b73 ((M_31 0 8 (ix x1))) M_31
        else
          (if x2 = 1 then
            ck (ibd x1 16) <|
            f_X8_tour_b73 ((M_31 0 9 (ix x1))) M_31
          else
            ck (ibd x1 16) <|
            f_X8_tour_b73 ((M_31 0 10 (ix x1))) M_31))
      else
        some ((-1000004), M_31))
    else
      some ((-1000002), M_7))))
set_option maxHeartbeats 4000000 in
set_option maxRecDepth 100000 in
theorem w_X8_tour_b13 {p : Program} {l : Launch} {e : Env} {s : State} {m : MethodId} {args : Array Value} {below : List Frame} {meth : Method} {c : Code} {G : GG} {sz : Nat} {r : Int32} {M' : Mem} (E : Cx p s m args meth c cX8_tour (some .int) 3 RX8 G) {M : Mem} {H : Heap} {locs : List Loc} {ls : Array Slot} (hf : f_X8_tour_b13 M = some (r, M')) (hP : PW G (AM G) (XM G) sz M s H) (hS : va_S (AM G) s.heap H locs) (hl : lv_has ls 3 []) : W p l e rm_X8_tour s m args below meth c H locs 0 0 (MQ below (va_Qi (fun (r2 : Int32) (_ : Unit) => r2 = r) (fun _ t => PW G (AM G) (XM G) sz M' t t.heap) (AM G)) args s 0 0 (AM G)) (F0 m 13 ls []) := by
  obtain ⟨hx, hb, hr, hlocks, hml, hown, hts, hK⟩ := id E
  unfold f_X8_tour_b13 at hf
  refine lv_ldc (v := (-1000001)) hx hb hown (hts _ w_854) dX8_tour_13 ?_
  exact en_i hf hx hb hr rfl hlocks hP hS dX8_tour_15
set_option maxHeartbeats 4000000 in
set_option maxRecDepth 100000 in
theorem w_X8_tour_b73 {p : Program} {l : Launch} {e : Env} {s : State} {m : MethodId} {args : Array Value} {below : List Frame} {meth : Method} {c : Code} {G : GG} {sz : Nat} {r : Int32} {M' : Mem} (E : Cx p s m args meth c cX8_tour (some .int) 3 RX8 G) {s0 : Int32} {M : Mem} {H : Heap} {locs : List Loc} {ls : Array Slot} (hf : f_X8_tour_b73 s0 M = some (r, M')) (hP : PW G (AM G) (XM G) sz M s H) (hS : va_S (AM G) s.heap H locs) (hl : lv_has ls 3 []) : W p l e rm_X8_tour s m args below meth c H locs 0 0 (MQ below (va_Qi (fun (r2 : Int32) (_ : Unit) => r2 = r) (fun _ t => PW G (AM G) (XM G) sz M' t t.heap) (AM G)) args s 0 0 (AM G)) (F0 m 73 ls [.int s0]) := by
  obtain ⟨hx, hb, hr, hlocks, hml, hown, hts, hK⟩ := id E
  unfold f_X8_tour_b73 at hf
  exact en_i hf hx hb hr rfl hlocks hP hS dX8_tour_73
set_option maxHeartbeats 4000000 in
set_option maxRecDepth 100000 in
theorem w_X8_tour {p : Program} {l : Launch} {e : Env} {s : State} {m : MethodId} {args : Array Value} {below : List Frame} {meth : Method} {c : Code} {G : GG} {sz : Nat} {r : Int32} {M' : Mem} (E : Cx p s m args meth c cX8_tour (some .int) 3 RX8 G) {x1 : Int32} {x2 : Int32} {M : Mem} {H : Heap} {locs : List Loc} {ls : Array Slot} (hf : f_X8_tour x1 x2 M = some (r, M')) (hP : PW G (AM G) (XM G) sz M s H) (hS : va_S (AM G) s.heap H locs) (hl : lv_has ls 3 [(0, .ref (adM G 0 0)), (1, .int x1), (2, .int x2)]) : W p l e rm_X8_tour s m args below meth c H locs 0 0 (MQ below (va_Qi (fun (r2 : Int32) (_ : Unit) => r2 = r) (fun _ t => PW G (AM G) (XM G) sz M' t t.heap) (AM G)) args s 0 0 (AM G)) (F0 m 0 ls []) := by
  obtain ⟨hx, hb, hr, hlocks, hml, hown, hts, hK⟩ := id E
  unfold f_X8_tour at hf
  refine lv_iload_n hx hb dX8_tour_0 rfl (lv_at hl 1 rfl) ?_
  refine lv_if_lt (tgt := 13) hx hb dX8_tour_1 (by decide) (fun hc => ?_) (fun hc => ?_)
  · have hf := if_t hf hc
    exact w_X8_tour_b13 E hf hP hS (lv_sub hl [] rfl)
  · have hf := if_f hf hc
    refine lv_iload_n hx hb dX8_tour_4 rfl (lv_at hl 2 rfl) ?_
    refine lv_iconst (v := 0) hx hb dX8_tour_5 (by decide) ?_
    refine lv_iconst (v := 2) hx hb dX8_tour_6 (by decide) ?_
    refine ob_e hf (fun r_7 M_7 hq hf => ?_)
    refine cv_X8_in E hP hS hq w_851 ⟨Nat.le_of_ble_eq_true rfl, Nat.le_of_ble_eq_true rfl⟩ hl (Nat.le_of_ble_eq_true rfl) dX8_tour_7 ⟨Nat.le_of_ble_eq_true rfl, Nat.le_of_ble_eq_true rfl⟩ (fun H locs hP hS => ?_)
    refine lv_if_ne (tgt := 16) hx hb dX8_tour_10 (by decide) (fun hc => ?_) (fun hc => ?_)
    · have hf := if_f hf hc
      refine lv_aload_n hx hb dX8_tour_16 rfl (lv_at hl 0 rfl) ?_
      refine gf_X8_s E hP w_797 dX8_tour_17 ?_
      refine lv_bipush (v := 8) hx hb dX8_tour_20 (by decide) ?_
      refine la_M1 E hP (by decide) dX8_tour_22 ?_
      refine lv_if_ge (tgt := 29) hx hb dX8_tour_23 (by decide) (fun hc => ?_) (fun hc => ?_)
      · have hf := if_t hf hc
        refine lv_iload_n hx hb dX8_tour_29 rfl (lv_at hl 1 rfl) ?_
        refine lv_aload_n hx hb dX8_tour_30 rfl (lv_at hl 0 rfl) ?_
        refine ob_e hf (fun r_31 M_31 hq hf => ?_)
        refine cv_X8_tours E hP hS hq w_1096 ⟨Nat.le_of_ble_eq_true rfl, Nat.le_of_ble_eq_true rfl⟩ hl (Nat.le_of_ble_eq_true rfl) dX8_tour_31 ⟨Nat.le_of_ble_eq_true rfl, Nat.le_of_ble_eq_true rfl⟩ (fun H locs hP hS => ?_)
        refine lv_icmp_lt (tgt := 40) hx hb dX8_tour_34 (by decide) (fun hc => ?_) (fun hc => ?_)
        · have hf := if_t hf hc
          refine lv_iload_n hx hb dX8_tour_40 rfl (lv_at hl 2 rfl) ?_
          refine lv_if_ne (tgt := 53) hx hb dX8_tour_41 (by decide) (fun hc => ?_) (fun hc => ?_)
          · have hf := if_f hf hc
            refine lv_iload_n hx hb dX8_tour_53 rfl (lv_at hl 2 rfl) ?_
            refine lv_iconst (v := 1) hx hb dX8_tour_54 (by decide) ?_
            refine lv_icmp_ne (tgt := 67) hx hb dX8_tour_55 (by decide) (fun hc => ?_) (fun hc => ?_)
            · have hf := if_f hf hc
              refine lv_aload_n hx hb dX8_tour_67 rfl (lv_at hl 0 rfl) ?_
              refine gf_X8_ticks E hP w_812 dX8_tour_68 ?_
              refine lv_iload_n hx hb dX8_tour_71 rfl (lv_at hl 1 rfl) ?_
              refine ck_e hf (fun hi hf => ?_)
              refine la_M10 E hP hi dX8_tour_72 ?_
              exact w_X8_tour_b73 E hf hP hS (lv_sub hl [] rfl)
            · have hf := if_t hf hc
              refine lv_aload_n hx hb dX8_tour_58 rfl (lv_at hl 0 rfl) ?_
              refine gf_X8_way E hP w_811 dX8_tour_59 ?_
              refine lv_iload_n hx hb dX8_tour_62 rfl (lv_at hl 1 rfl) ?_
              refine ck_e hf (fun hi hf => ?_)
              refine la_M9 E hP hi dX8_tour_63 ?_
              refine lv_goto (tgt := 73) hx hb dX8_tour_64 (by decide) ?_
              exact w_X8_tour_b73 E hf hP hS (lv_sub hl [] rfl)
          · have hf := if_t hf hc
            refine lv_aload_n hx hb dX8_tour_44 rfl (lv_at hl 0 rfl) ?_
            refine gf_X8_row E hP w_810 dX8_tour_45 ?_
            refine lv_iload_n hx hb dX8_tour_48 rfl (lv_at hl 1 rfl) ?_
            refine ck_e hf (fun hi hf => ?_)
            refine la_M8 E hP hi dX8_tour_49 ?_
            refine lv_goto (tgt := 73) hx hb dX8_tour_50 (by decide) ?_
            exact w_X8_tour_b73 E hf hP hS (lv_sub hl [] rfl)
        · have hf := if_f hf hc
          refine lv_ldc (v := (-1000004)) hx hb hown (hts _ w_939) dX8_tour_37 ?_
          exact en_i hf hx hb hr rfl hlocks hP hS dX8_tour_39
      · have hf := if_f hf hc
        refine lv_ldc (v := (-1000002)) hx hb hown (hts _ w_871) dX8_tour_26 ?_
        exact en_i hf hx hb hr rfl hlocks hP hS dX8_tour_28
    · have hf := if_t hf hc
      exact w_X8_tour_b13 E hf hP hS (lv_sub hl [] rfl)
theorem c_X8_tour (l : Launch) {G : GG} {sz : Nat} {x1 : Int32} {x2 : Int32} {M : Mem} {r : Int32} {M' : Mem} (hf : f_X8_tour x1 x2 M = some (r, M')) : CtI l yX8_tour cX8_tour 3 (some .int) rm_X8_tour [.ref (adM G 0 0), .int x1, .int x2] G (AM G) (XM G) sz M r (XM G) sz M' := by
  refine Ct_of (by decide) (Nat.le_of_ble_eq_true rfl) (fun p e s m below meth c ls hx hb hr hlocks hml hown hts hK hP hl => ?_)
  exact w_X8_tour ⟨hx, hb, hr, hlocks, hml, hown, hts, hK⟩ hf hP va_S.rf hl
set_option maxRecDepth 100000 in
theorem cv_X8_tour {p : Program} {l : Launch} {e : Env} {R : Room} {s : State} {m : MethodId} {args : Array Value} {below : List Frame} {meth : Method} {c : Code} {H : Heap} {locs : List Loc} {cells slots : Nat} {Q : State → Prop} {cc : ByteArray} {pc nL index : Nat} {ret : Option FieldType} {own : String} {ls : Array Slot} {rest : List Value} {l' : List (Nat × Value)} {G : GG} {sz : Nat} {M : Mem} (E : Cx p s m args meth c cc ret nL own G) (hP : PW G (AM G) (XM G) sz M s H) (hS : va_S (AM G) s.heap H locs) {x1 : Int32} {x2 : Int32} {r : Int32} {M' : Mem} (hq : f_X8_tour x1 x2 M = some (r, M')) (w1 : Cond.methodLink own index yX8_tour ∈ lw_all) (hR : 5 ≤ R.frames ∧ 123 ≤ R.locals) (hl : lv_has ls nL l') (hrest : (rest.map fun v => v.category).sum ≤ 8) (hdg : decode cc pc = .ok (.invokevirtual index, 3)) (hcs : cells ≤ R.cells ∧ slots ≤ R.slots)
    (kk : ∀ (H1 : Heap) (locs1 : List Loc), PW G (AM G) (XM G) sz M' s H1 → va_S (AM G) s.heap H1 locs1 → W p l e R s m args below meth c H1 locs1 cells slots Q (F0 m (pc + 3) ls (.int r :: rest))) : W p l e R s m args below meth c H locs cells slots Q (F0 m pc ls (.int x2 :: .int x1 :: .ref (adM G 0 0) :: rest)) := by
  obtain ⟨hx, hb, hr, hlocks, hml, hown, hts, hK⟩ := E
  exact kc_i (kc_runV (na := 2) (q := (RX8, TX8, 16)) hx hb hml hts hown hK hP 0 0 ⟨rfl, by decide⟩ rfl rfl rfl (c_X8_tour l hq) w1 w_1093 w_1094 w_9 w_1095 (by decide +kernel) hR rfl hl rfl hrest hdg hcs) hS kk
/-! X8_count -/
abbrev rm_X8_count : Room := { frames := 3, cells := 0, slots := 0, locals := 65 }
def f_X8_count_b83 (L10 : Int32 → Int32 → Int32 → Int32 → Int32 → Mem → Option (Int32 × Mem)) (x1 : Int32) (x2 : Int32) (x3 : Int32) (x5 : Int32) (s0 : Int32) (s1 : Int32) (M : Mem) : Option (Int32 × Mem) :=
lt ((s0 + s1)) fun x4_84 =>
lt (x5 + 1) fun x5_86 =>
L10 x1 x2 x3 x4_84 x5_86 M
def f_X8_count_b60 (L10 : Int32 → Int32 → Int32 → Int32 → Int32 → Mem → Option (Int32 × Mem)) (x1 : Int32) (x2 : Int32) (x4 : Int32) (x5 : Int32) (s0 : Int32) (s1 : Int32) (M : Mem) : Option (Int32 × Mem) :=
lt ((s0 + s1)) fun x3_61 =>
ob (f_X8_isDrawn x5 M) fun r_67 M_67 =>
(if r_67 = 0 then
  ob (f_X8_length x5 M_67) fun r_80 M_80 =>
  f_X8_count_b83 L10 x1 x2 x3_61 x5 x4 r_80 M_80
else
  f_X8_count_b83 L10 x1 x2 x3_61 x5 x4 0 M_67)
def f_X8_count_b36 (L10 : Int32 → Int32 → Int32 → Int32 → Int32 → Mem → Option (Int32 × Mem)) (x1 : Int32) (x3 : Int32) (x4 : Int32) (x5 : Int32) (s0 : Int32) (s1 : Int32) (M : Mem) : Option (Int32 × Mem) :=
lt ((s0 + s1)) fun x2_37 =>
ob (f_X8_isWet x5 (M 0 1 (ix 7)) M) fun r_49 M_49 =>
(if r_49 = 0 then
  f_X8_count_b60 L10 x1 x2_37 x4 x5 x3 0 M_49
else
  f_X8_count_b60 L10 x1 x2_37 x4 x5 x3 1 M_49)
def f_X8_count_b160 (x1 : Int32) (M : Mem) : Option (Int32 × Mem) :=
ck (ibd x1 181) <|
some ((M 0 1 (ix x1)), M)
def f_X8_count_b202 (x1 : Int32) (M : Mem) : Option (Int32 × Mem) :=
ck (ibd ((9 + x1) - 6) 181) <|
some ((M 0 1 (ix ((9 + x1) - 6))), M)
def f_X8_count_b218 (x1 : Int32) (M : Mem) : Option (Int32 × Mem) :=
ck (ibd ((11 + x1) - 9) 181) <|
some ((M 0 1 (ix ((11 + x1) - 9))), M)
def f_X8_count_b201 (s0 : Int32) (M : Mem) : Option (Int32 × Mem) :=
some (s0, M)
def f_X8_count_b268 (s0 : Int32) (M : Mem) : Option (Int32 × Mem) :=
some (s0, M)
def f_X8_count_b10 : Nat → Int32 → Int32 → Int32 → Int32 → Int32 → Mem → Option (Int32 × Mem)
  | 0 => fun _ _ _ _ _ _ => none
  | fu + 1 => fun x1 x2 x3 x4 x5 M =>
(if (M 0 1 (ix 1)) ≤ x5 then
  (if x1 = 0 then
    f_X8_count_b160 x1 M
  else
  (if x1 = 1 then
    f_X8_count_b160 x1 M
  else
  (if x1 = 2 then
    some (x2, M)
  else
  (if x1 = 3 then
    some (x3, M)
  else
  (if x1 = 4 then
    some ((M 0 1 (ix 7)), M)
  else
  (if x1 = 5 then
    (if 0 ≤ (M 0 1 (ix 8)) then
      f_X8_count_b201 ((M 0 1 (ix 8))) M
    else
      f_X8_count_b201 (-1000004) M)
  else
  (if x1 = 6 then
    f_X8_count_b202 x1 M
  else
  (if x1 = 7 then
    f_X8_count_b202 x1 M
  else
  (if x1 = 8 then
    some (x4, M)
  else
  (if x1 = 9 then
    f_X8_count_b218 x1 M
  else
  (if x1 = 10 then
    f_X8_count_b218 x1 M
  else
  (if x1 = 11 then
    some ((M 0 0 4), M)
  else
  (if x1 = 12 then
    some ((M 0 0 6), M)
  else
    ob (f_X8_in x1 20 24 M) fun r_246 M_246 =>
    (if r_246 = 0 then
      f_X8_count_b268 (-1000001) M_246
    else
      ck (ibd ((2 + x1) - 20) 181) <|
      f_X8_count_b268 ((M_246 0 1 (ix ((2 + x1) - 20)))) M_246))))))))))))))
else
  ob (f_X8_isDrawn x5 M) fun r_25 M_25 =>
  (if r_25 = 0 then
    f_X8_count_b36 (f_X8_count_b10 fu) x1 x3 x4 x5 x2 0 M_25
  else
    f_X8_count_b36 (f_X8_count_b10 fu) x1 x3 x4 x5 x2 1 M_25))
def f_X8_count (x1 : Int32) (M : Mem) : Option (Int32 × Mem) :=
f_X8_count_b10 1000 x1 0 0 0 0 M
set_option maxHeartbeats 4000000 in
set_option maxRecDepth 100000 in
theorem w_X8_count_b83 {p : Program} {l : Launch} {e : Env} {s : State} {m : MethodId} {args : Array Value} {below : List Frame} {meth : Method} {c : Code} {G : GG} {sz : Nat} {r : Int32} {M' : Mem} (E : Cx p s m args meth c cX8_count (some .int) 6 RX8 G) {L10 : Int32 → Int32 → Int32 → Int32 → Int32 → Mem → Option (Int32 × Mem)} (hL10 : ∀ (x1 : Int32) (x2 : Int32) (x3 : Int32) (x4 : Int32) (x5 : Int32) (M : Mem) (H : Heap) (locs : List Loc) (ls : Array Slot), L10 x1 x2 x3 x4 x5 M = some (r, M') → PW G (AM G) (XM G) sz M s H → va_S (AM G) s.heap H locs → lv_has ls 6 [(0, .ref (adM G 0 0)), (1, .int x1), (2, .int x2), (3, .int x3), (4, .int x4), (5, .int x5)] → W p l e rm_X8_count s m args below meth c H locs 0 0 (MQ below (va_Qi (fun (r2 : Int32) (_ : Unit) => r2 = r) (fun _ t => PW G (AM G) (XM G) sz M' t t.heap) (AM G)) args s 0 0 (AM G)) (F0 m 10 ls [])) {x1 : Int32} {x2 : Int32} {x3 : Int32} {x5 : Int32} {s0 : Int32} {s1 : Int32} {M : Mem} {H : Heap} {locs : List Loc} {ls : Array Slot} (hf : f_X8_count_b83 L10 x1 x2 x3 x5 s0 s1 M = some (r, M')) (hP : PW G (AM G) (XM G) sz M s H) (hS : va_S (AM G) s.heap H locs) (hl : lv_has ls 6 [(0, .ref (adM G 0 0)), (1, .int x1), (2, .int x2), (3, .int x3), (5, .int x5)]) : W p l e rm_X8_count s m args below meth c H locs 0 0 (MQ below (va_Qi (fun (r2 : Int32) (_ : Unit) => r2 = r) (fun _ t => PW G (AM G) (XM G) sz M' t t.heap) (AM G)) args s 0 0 (AM G)) (F0 m 83 ls [.int s1, .int s0]) := by
  obtain ⟨hx, hb, hr, hlocks, hml, hown, hts, hK⟩ := id E
  unfold f_X8_count_b83 at hf
  refine lv_iadd hx hb dX8_count_83 ?_
  refine lt_e hf (fun x4_84 hx4_84 hf => ?_)
  refine kr_nm hx4_84 ?_
  refine lv_istore (lv' := [(4, .int x4_84), (0, .ref (adM G 0 0)), (1, .int x1), (2, .int x2), (3, .int x3), (5, .int x5)]) hx hb dX8_count_84 hl (by decide) rfl (fun ls hl => ?_)
  refine lt_e hf (fun x5_86 hx5_86 hf => ?_)
  refine lv_iinc (v := x5_86) (lv' := [(5, .int x5_86), (4, .int x4_84), (0, .ref (adM G 0 0)), (1, .int x1), (2, .int x2), (3, .int x3)]) hx hb dX8_count_86 hl (k := 5) rfl (by rw [hx5_86]; rfl) (by decide) rfl (fun ls hl => ?_)
  refine lv_goto (tgt := 10) hx hb dX8_count_89 (by decide) ?_
  exact hL10 _ _ _ _ _ _ _ _ _ hf hP hS (lv_sub hl [2, 3, 4, 5, 1, 0] rfl)
set_option maxHeartbeats 4000000 in
set_option maxRecDepth 100000 in
theorem w_X8_count_b60 {p : Program} {l : Launch} {e : Env} {s : State} {m : MethodId} {args : Array Value} {below : List Frame} {meth : Method} {c : Code} {G : GG} {sz : Nat} {r : Int32} {M' : Mem} (E : Cx p s m args meth c cX8_count (some .int) 6 RX8 G) {L10 : Int32 → Int32 → Int32 → Int32 → Int32 → Mem → Option (Int32 × Mem)} (hL10 : ∀ (x1 : Int32) (x2 : Int32) (x3 : Int32) (x4 : Int32) (x5 : Int32) (M : Mem) (H : Heap) (locs : List Loc) (ls : Array Slot), L10 x1 x2 x3 x4 x5 M = some (r, M') → PW G (AM G) (XM G) sz M s H → va_S (AM G) s.heap H locs → lv_has ls 6 [(0, .ref (adM G 0 0)), (1, .int x1), (2, .int x2), (3, .int x3), (4, .int x4), (5, .int x5)] → W p l e rm_X8_count s m args below meth c H locs 0 0 (MQ below (va_Qi (fun (r2 : Int32) (_ : Unit) => r2 = r) (fun _ t => PW G (AM G) (XM G) sz M' t t.heap) (AM G)) args s 0 0 (AM G)) (F0 m 10 ls [])) {x1 : Int32} {x2 : Int32} {x4 : Int32} {x5 : Int32} {s0 : Int32} {s1 : Int32} {M : Mem} {H : Heap} {locs : List Loc} {ls : Array Slot} (hf : f_X8_count_b60 L10 x1 x2 x4 x5 s0 s1 M = some (r, M')) (hP : PW G (AM G) (XM G) sz M s H) (hS : va_S (AM G) s.heap H locs) (hl : lv_has ls 6 [(0, .ref (adM G 0 0)), (1, .int x1), (2, .int x2), (4, .int x4), (5, .int x5)]) : W p l e rm_X8_count s m args below meth c H locs 0 0 (MQ below (va_Qi (fun (r2 : Int32) (_ : Unit) => r2 = r) (fun _ t => PW G (AM G) (XM G) sz M' t t.heap) (AM G)) args s 0 0 (AM G)) (F0 m 60 ls [.int s1, .int s0]) := by
  obtain ⟨hx, hb, hr, hlocks, hml, hown, hts, hK⟩ := id E
  unfold f_X8_count_b60 at hf
  refine lv_iadd hx hb dX8_count_60 ?_
  refine lt_e hf (fun x3_61 hx3_61 hf => ?_)
  refine kr_nm hx3_61 ?_
  refine lv_istore_n (lv' := [(3, .int x3_61), (0, .ref (adM G 0 0)), (1, .int x1), (2, .int x2), (4, .int x4), (5, .int x5)]) hx hb dX8_count_61 rfl hl (by decide) rfl (fun ls hl => ?_)
  refine lv_iload hx hb dX8_count_62 (lv_at hl 4 rfl) ?_
  refine lv_aload_n hx hb dX8_count_64 rfl (lv_at hl 1 rfl) ?_
  refine lv_iload hx hb dX8_count_65 (lv_at hl 5 rfl) ?_
  refine ob_e hf (fun r_67 M_67 hq hf => ?_)
  refine cv_X8_isDrawn E hP hS hq w_935 ⟨Nat.le_of_ble_eq_true rfl, Nat.le_of_ble_eq_true rfl⟩ hl (Nat.le_of_ble_eq_true rfl) dX8_count_67 ⟨Nat.le_of_ble_eq_true rfl, Nat.le_of_ble_eq_true rfl⟩ (fun H locs hP hS => ?_)
  refine lv_if_eq (tgt := 77) hx hb dX8_count_70 (by decide) (fun hc => ?_) (fun hc => ?_)
  · have hf := if_t hf hc
    refine lv_aload_n hx hb dX8_count_77 rfl (lv_at hl 1 rfl) ?_
    refine lv_iload hx hb dX8_count_78 (lv_at hl 5 rfl) ?_
    refine ob_e hf (fun r_80 M_80 hq hf => ?_)
    refine cv_X8_length E hP hS hq w_928 ⟨Nat.le_of_ble_eq_true rfl, Nat.le_of_ble_eq_true rfl⟩ hl (Nat.le_of_ble_eq_true rfl) dX8_count_80 ⟨Nat.le_of_ble_eq_true rfl, Nat.le_of_ble_eq_true rfl⟩ (fun H locs hP hS => ?_)
    exact w_X8_count_b83 E hL10 hf hP hS (lv_sub hl [1, 2, 3, 0, 5] rfl)
  · have hf := if_f hf hc
    refine lv_iconst (v := 0) hx hb dX8_count_73 (by decide) ?_
    refine lv_goto (tgt := 83) hx hb dX8_count_74 (by decide) ?_
    exact w_X8_count_b83 E hL10 hf hP hS (lv_sub hl [1, 2, 3, 0, 5] rfl)
set_option maxHeartbeats 4000000 in
set_option maxRecDepth 100000 in
theorem w_X8_count_b36 {p : Program} {l : Launch} {e : Env} {s : State} {m : MethodId} {args : Array Value} {below : List Frame} {meth : Method} {c : Code} {G : GG} {sz : Nat} {r : Int32} {M' : Mem} (E : Cx p s m args meth c cX8_count (some .int) 6 RX8 G) {L10 : Int32 → Int32 → Int32 → Int32 → Int32 → Mem → Option (Int32 × Mem)} (hL10 : ∀ (x1 : Int32) (x2 : Int32) (x3 : Int32) (x4 : Int32) (x5 : Int32) (M : Mem) (H : Heap) (locs : List Loc) (ls : Array Slot), L10 x1 x2 x3 x4 x5 M = some (r, M') → PW G (AM G) (XM G) sz M s H → va_S (AM G) s.heap H locs → lv_has ls 6 [(0, .ref (adM G 0 0)), (1, .int x1), (2, .int x2), (3, .int x3), (4, .int x4), (5, .int x5)] → W p l e rm_X8_count s m args below meth c H locs 0 0 (MQ below (va_Qi (fun (r2 : Int32) (_ : Unit) => r2 = r) (fun _ t => PW G (AM G) (XM G) sz M' t t.heap) (AM G)) args s 0 0 (AM G)) (F0 m 10 ls [])) {x1 : Int32} {x3 : Int32} {x4 : Int32} {x5 : Int32} {s0 : Int32} {s1 : Int32} {M : Mem} {H : Heap} {locs : List Loc} {ls : Array Slot} (hf : f_X8_count_b36 L10 x1 x3 x4 x5 s0 s1 M = some (r, M')) (hP : PW G (AM G) (XM G) sz M s H) (hS : va_S (AM G) s.heap H locs) (hl : lv_has ls 6 [(0, .ref (adM G 0 0)), (1, .int x1), (3, .int x3), (4, .int x4), (5, .int x5)]) : W p l e rm_X8_count s m args below meth c H locs 0 0 (MQ below (va_Qi (fun (r2 : Int32) (_ : Unit) => r2 = r) (fun _ t => PW G (AM G) (XM G) sz M' t t.heap) (AM G)) args s 0 0 (AM G)) (F0 m 36 ls [.int s1, .int s0]) := by
  obtain ⟨hx, hb, hr, hlocks, hml, hown, hts, hK⟩ := id E
  unfold f_X8_count_b36 at hf
  refine lv_iadd hx hb dX8_count_36 ?_
  refine lt_e hf (fun x2_37 hx2_37 hf => ?_)
  refine kr_nm hx2_37 ?_
  refine lv_istore_n (lv' := [(2, .int x2_37), (0, .ref (adM G 0 0)), (1, .int x1), (3, .int x3), (4, .int x4), (5, .int x5)]) hx hb dX8_count_37 rfl hl (by decide) rfl (fun ls hl => ?_)
  refine lv_iload_n hx hb dX8_count_38 rfl (lv_at hl 3 rfl) ?_
  refine lv_aload_n hx hb dX8_count_39 rfl (lv_at hl 1 rfl) ?_
  refine lv_iload hx hb dX8_count_40 (lv_at hl 5 rfl) ?_
  refine lv_aload_n hx hb dX8_count_42 rfl (lv_at hl 1 rfl) ?_
  refine gf_X8_s E hP w_797 dX8_count_43 ?_
  refine lv_bipush (v := 7) hx hb dX8_count_46 (by decide) ?_
  refine la_M1 E hP (by decide) dX8_count_48 ?_
  refine ob_e hf (fun r_49 M_49 hq hf => ?_)
  refine cv_X8_isWet E hP hS hq w_940 ⟨Nat.le_of_ble_eq_true rfl, Nat.le_of_ble_eq_true rfl⟩ hl (Nat.le_of_ble_eq_true rfl) dX8_count_49 ⟨Nat.le_of_ble_eq_true rfl, Nat.le_of_ble_eq_true rfl⟩ (fun H locs hP hS => ?_)
  refine lv_if_eq (tgt := 59) hx hb dX8_count_52 (by decide) (fun hc => ?_) (fun hc => ?_)
  · have hf := if_t hf hc
    refine lv_iconst (v := 0) hx hb dX8_count_59 (by decide) ?_
    exact w_X8_count_b60 E hL10 hf hP hS (lv_sub hl [1, 2, 0, 4, 5] rfl)
  · have hf := if_f hf hc
    refine lv_iconst (v := 1) hx hb dX8_count_55 (by decide) ?_
    refine lv_goto (tgt := 60) hx hb dX8_count_56 (by decide) ?_
    exact w_X8_count_b60 E hL10 hf hP hS (lv_sub hl [1, 2, 0, 4, 5] rfl)
set_option maxHeartbeats 4000000 in
set_option maxRecDepth 100000 in
theorem w_X8_count_b160 {p : Program} {l : Launch} {e : Env} {s : State} {m : MethodId} {args : Array Value} {below : List Frame} {meth : Method} {c : Code} {G : GG} {sz : Nat} {r : Int32} {M' : Mem} (E : Cx p s m args meth c cX8_count (some .int) 6 RX8 G) {x1 : Int32} {M : Mem} {H : Heap} {locs : List Loc} {ls : Array Slot} (hf : f_X8_count_b160 x1 M = some (r, M')) (hP : PW G (AM G) (XM G) sz M s H) (hS : va_S (AM G) s.heap H locs) (hl : lv_has ls 6 [(0, .ref (adM G 0 0)), (1, .int x1)]) : W p l e rm_X8_count s m args below meth c H locs 0 0 (MQ below (va_Qi (fun (r2 : Int32) (_ : Unit) => r2 = r) (fun _ t => PW G (AM G) (XM G) sz M' t t.heap) (AM G)) args s 0 0 (AM G)) (F0 m 160 ls []) := by
  obtain ⟨hx, hb, hr, hlocks, hml, hown, hts, hK⟩ := id E
  unfold f_X8_count_b160 at hf
  refine lv_aload_n hx hb dX8_count_160 rfl (lv_at hl 0 rfl) ?_
  refine gf_X8_s E hP w_797 dX8_count_161 ?_
  refine lv_iload_n hx hb dX8_count_164 rfl (lv_at hl 1 rfl) ?_
  refine ck_e hf (fun hi hf => ?_)
  refine la_M1 E hP hi dX8_count_165 ?_
  exact en_i hf hx hb hr rfl hlocks hP hS dX8_count_166
set_option maxHeartbeats 4000000 in
set_option maxRecDepth 100000 in
theorem w_X8_count_b202 {p : Program} {l : Launch} {e : Env} {s : State} {m : MethodId} {args : Array Value} {below : List Frame} {meth : Method} {c : Code} {G : GG} {sz : Nat} {r : Int32} {M' : Mem} (E : Cx p s m args meth c cX8_count (some .int) 6 RX8 G) {x1 : Int32} {M : Mem} {H : Heap} {locs : List Loc} {ls : Array Slot} (hf : f_X8_count_b202 x1 M = some (r, M')) (hP : PW G (AM G) (XM G) sz M s H) (hS : va_S (AM G) s.heap H locs) (hl : lv_has ls 6 [(0, .ref (adM G 0 0)), (1, .int x1)]) : W p l e rm_X8_count s m args below meth c H locs 0 0 (MQ below (va_Qi (fun (r2 : Int32) (_ : Unit) => r2 = r) (fun _ t => PW G (AM G) (XM G) sz M' t t.heap) (AM G)) args s 0 0 (AM G)) (F0 m 202 ls []) := by
  obtain ⟨hx, hb, hr, hlocks, hml, hown, hts, hK⟩ := id E
  unfold f_X8_count_b202 at hf
  refine lv_aload_n hx hb dX8_count_202 rfl (lv_at hl 0 rfl) ?_
  refine gf_X8_s E hP w_797 dX8_count_203 ?_
  refine lv_bipush (v := 9) hx hb dX8_count_206 (by decide) ?_
  refine lv_iload_n hx hb dX8_count_208 rfl (lv_at hl 1 rfl) ?_
  refine lv_iadd hx hb dX8_count_209 ?_
  refine lv_bipush (v := 6) hx hb dX8_count_210 (by decide) ?_
  refine lv_isub hx hb dX8_count_212 ?_
  refine ck_e hf (fun hi hf => ?_)
  refine la_M1 E hP hi dX8_count_213 ?_
  exact en_i hf hx hb hr rfl hlocks hP hS dX8_count_214
set_option maxHeartbeats 4000000 in
set_option maxRecDepth 100000 in
theorem w_X8_count_b218 {p : Program} {l : Launch} {e : Env} {s : State} {m : MethodId} {args : Array Value} {below : List Frame} {meth : Method} {c : Code} {G : GG} {sz : Nat} {r : Int32} {M' : Mem} (E : Cx p s m args meth c cX8_count (some .int) 6 RX8 G) {x1 : Int32} {M : Mem} {H : Heap} {locs : List Loc} {ls : Array Slot} (hf : f_X8_count_b218 x1 M = some (r, M')) (hP : PW G (AM G) (XM G) sz M s H) (hS : va_S (AM G) s.heap H locs) (hl : lv_has ls 6 [(0, .ref (adM G 0 0)), (1, .int x1)]) : W p l e rm_X8_count s m args below meth c H locs 0 0 (MQ below (va_Qi (fun (r2 : Int32) (_ : Unit) => r2 = r) (fun _ t => PW G (AM G) (XM G) sz M' t t.heap) (AM G)) args s 0 0 (AM G)) (F0 m 218 ls []) := by
  obtain ⟨hx, hb, hr, hlocks, hml, hown, hts, hK⟩ := id E
  unfold f_X8_count_b218 at hf
  refine lv_aload_n hx hb dX8_count_218 rfl (lv_at hl 0 rfl) ?_
  refine gf_X8_s E hP w_797 dX8_count_219 ?_
  refine lv_bipush (v := 11) hx hb dX8_count_222 (by decide) ?_
  refine lv_iload_n hx hb dX8_count_224 rfl (lv_at hl 1 rfl) ?_
  refine lv_iadd hx hb dX8_count_225 ?_
  refine lv_bipush (v := 9) hx hb dX8_count_226 (by decide) ?_
  refine lv_isub hx hb dX8_count_228 ?_
  refine ck_e hf (fun hi hf => ?_)
  refine la_M1 E hP hi dX8_count_229 ?_
  exact en_i hf hx hb hr rfl hlocks hP hS dX8_count_230
set_option maxHeartbeats 4000000 in
set_option maxRecDepth 100000 in
theorem w_X8_count_b201 {p : Program} {l : Launch} {e : Env} {s : State} {m : MethodId} {args : Array Value} {below : List Frame} {meth : Method} {c : Code} {G : GG} {sz : Nat} {r : Int32} {M' : Mem} (E : Cx p s m args meth c cX8_count (some .int) 6 RX8 G) {s0 : Int32} {M : Mem} {H : Heap} {locs : List Loc} {ls : Array Slot} (hf : f_X8_count_b201 s0 M = some (r, M')) (hP : PW G (AM G) (XM G) sz M s H) (hS : va_S (AM G) s.heap H locs) (hl : lv_has ls 6 []) : W p l e rm_X8_count s m args below meth c H locs 0 0 (MQ below (va_Qi (fun (r2 : Int32) (_ : Unit) => r2 = r) (fun _ t => PW G (AM G) (XM G) sz M' t t.heap) (AM G)) args s 0 0 (AM G)) (F0 m 201 ls [.int s0]) := by
  obtain ⟨hx, hb, hr, hlocks, hml, hown, hts, hK⟩ := id E
  unfold f_X8_count_b201 at hf
  exact en_i hf hx hb hr rfl hlocks hP hS dX8_count_201
set_option maxHeartbeats 4000000 in
set_option maxRecDepth 100000 in
theorem w_X8_count_b268 {p : Program} {l : Launch} {e : Env} {s : State} {m : MethodId} {args : Array Value} {below : List Frame} {meth : Method} {c : Code} {G : GG} {sz : Nat} {r : Int32} {M' : Mem} (E : Cx p s m args meth c cX8_count (some .int) 6 RX8 G) {s0 : Int32} {M : Mem} {H : Heap} {locs : List Loc} {ls : Array Slot} (hf : f_X8_count_b268 s0 M = some (r, M')) (hP : PW G (AM G) (XM G) sz M s H) (hS : va_S (AM G) s.heap H locs) (hl : lv_has ls 6 []) : W p l e rm_X8_count s m args below meth c H locs 0 0 (MQ below (va_Qi (fun (r2 : Int32) (_ : Unit) => r2 = r) (fun _ t => PW G (AM G) (XM G) sz M' t t.heap) (AM G)) args s 0 0 (AM G)) (F0 m 268 ls [.int s0]) := by
  obtain ⟨hx, hb, hr, hlocks, hml, hown, hts, hK⟩ := id E
  unfold f_X8_count_b268 at hf
  exact en_i hf hx hb hr rfl hlocks hP hS dX8_count_268
set_option maxHeartbeats 4000000 in
set_option maxRecDepth 100000 in
theorem w_X8_count_b10 {p : Program} {l : Launch} {e : Env} {s : State} {m : MethodId} {args : Array Value} {below : List Frame} {meth : Method} {c : Code} {G : GG} {sz : Nat} {r : Int32} {M' : Mem} (E : Cx p s m args meth c cX8_count (some .int) 6 RX8 G) : ∀ fu : Nat, ∀ (x1 : Int32) (x2 : Int32) (x3 : Int32) (x4 : Int32) (x5 : Int32) (M : Mem) (H : Heap) (locs : List Loc) (ls : Array Slot), f_X8_count_b10 fu x1 x2 x3 x4 x5 M = some (r, M') → PW G (AM G) (XM G) sz M s H → va_S (AM G) s.heap H locs → lv_has ls 6 [(0, .ref (adM G 0 0)), (1, .int x1), (2, .int x2), (3, .int x3), (4, .int x4), (5, .int x5)] → W p l e rm_X8_count s m args below meth c H locs 0 0 (MQ below (va_Qi (fun (r2 : Int32) (_ : Unit) => r2 = r) (fun _ t => PW G (AM G) (XM G) sz M' t t.heap) (AM G)) args s 0 0 (AM G)) (F0 m 10 ls []) := by
  obtain ⟨hx, hb, hr, hlocks, hml, hown, hts, hK⟩ := id E
  intro fu
  induction fu with
  | zero => intro x1 x2 x3 x4 x5 M H locs ls hf hP hS hl; cases hf
  | succ fu ih =>
    intro x1 x2 x3 x4 x5 M H locs ls hf hP hS hl
    rw [f_X8_count_b10.eq_2] at hf
    refine lv_iload hx hb dX8_count_10 (lv_at hl 5 rfl) ?_
    refine lv_aload_n hx hb dX8_count_12 rfl (lv_at hl 0 rfl) ?_
    refine gf_X8_s E hP w_797 dX8_count_13 ?_
    refine lv_iconst (v := 1) hx hb dX8_count_16 (by decide) ?_
    refine la_M1 E hP (by decide) dX8_count_17 ?_
    refine lv_icmp_ge (tgt := 92) hx hb dX8_count_18 (by decide) (fun hc => ?_) (fun hc => ?_)
    · have hf := if_t hf hc
      refine lv_iload_n hx hb dX8_count_92 rfl (lv_at hl 1 rfl) ?_
      by_cases hc0 : x1 = 0
      · have hf := if_t hf hc0
        refine kr_tin hx hb hc0 (tgt := 160) dX8_count_93 (by decide) (by decide) rfl (by decide) ?_
        exact w_X8_count_b160 E hf hP hS (lv_sub hl [0, 1] rfl)
      have hf := if_f hf hc0
      by_cases hc1 : x1 = 1
      · have hf := if_t hf hc1
        refine kr_tin hx hb hc1 (tgt := 160) dX8_count_93 (by decide) (by decide) rfl (by decide) ?_
        exact w_X8_count_b160 E hf hP hS (lv_sub hl [0, 1] rfl)
      have hf := if_f hf hc1
      by_cases hc2 : x1 = 2
      · have hf := if_t hf hc2
        refine kr_tin hx hb hc2 (tgt := 167) dX8_count_93 (by decide) (by decide) rfl (by decide) ?_
        refine lv_iload_n hx hb dX8_count_167 rfl (lv_at hl 2 rfl) ?_
        exact en_i hf hx hb hr rfl hlocks hP hS dX8_count_168
      have hf := if_f hf hc2
      by_cases hc3 : x1 = 3
      · have hf := if_t hf hc3
        refine kr_tin hx hb hc3 (tgt := 169) dX8_count_93 (by decide) (by decide) rfl (by decide) ?_
        refine lv_iload_n hx hb dX8_count_169 rfl (lv_at hl 3 rfl) ?_
        exact en_i hf hx hb hr rfl hlocks hP hS dX8_count_170
      have hf := if_f hf hc3
      by_cases hc4 : x1 = 4
      · have hf := if_t hf hc4
        refine kr_tin hx hb hc4 (tgt := 171) dX8_count_93 (by decide) (by decide) rfl (by decide) ?_
        refine lv_aload_n hx hb dX8_count_171 rfl (lv_at hl 0 rfl) ?_
        refine gf_X8_s E hP w_797 dX8_count_172 ?_
        refine lv_bipush (v := 7) hx hb dX8_count_175 (by decide) ?_
        refine la_M1 E hP (by decide) dX8_count_177 ?_
        exact en_i hf hx hb hr rfl hlocks hP hS dX8_count_178
      have hf := if_f hf hc4
      by_cases hc5 : x1 = 5
      · have hf := if_t hf hc5
        refine kr_tin hx hb hc5 (tgt := 179) dX8_count_93 (by decide) (by decide) rfl (by decide) ?_
        refine lv_aload_n hx hb dX8_count_179 rfl (lv_at hl 0 rfl) ?_
        refine gf_X8_s E hP w_797 dX8_count_180 ?_
        refine lv_bipush (v := 8) hx hb dX8_count_183 (by decide) ?_
        refine la_M1 E hP (by decide) dX8_count_185 ?_
        refine lv_if_ge (tgt := 194) hx hb dX8_count_186 (by decide) (fun hc => ?_) (fun hc => ?_)
        · have hf := if_t hf hc
          refine lv_aload_n hx hb dX8_count_194 rfl (lv_at hl 0 rfl) ?_
          refine gf_X8_s E hP w_797 dX8_count_195 ?_
          refine lv_bipush (v := 8) hx hb dX8_count_198 (by decide) ?_
          refine la_M1 E hP (by decide) dX8_count_200 ?_
          exact w_X8_count_b201 E hf hP hS (lv_sub hl [] rfl)
        · have hf := if_f hf hc
          refine lv_ldc (v := (-1000004)) hx hb hown (hts _ w_939) dX8_count_189 ?_
          refine lv_goto (tgt := 201) hx hb dX8_count_191 (by decide) ?_
          exact w_X8_count_b201 E hf hP hS (lv_sub hl [] rfl)
      have hf := if_f hf hc5
      by_cases hc6 : x1 = 6
      · have hf := if_t hf hc6
        refine kr_tin hx hb hc6 (tgt := 202) dX8_count_93 (by decide) (by decide) rfl (by decide) ?_
        exact w_X8_count_b202 E hf hP hS (lv_sub hl [0, 1] rfl)
      have hf := if_f hf hc6
      by_cases hc7 : x1 = 7
      · have hf := if_t hf hc7
        refine kr_tin hx hb hc7 (tgt := 202) dX8_count_93 (by decide) (by decide) rfl (by decide) ?_
        exact w_X8_count_b202 E hf hP hS (lv_sub hl [0, 1] rfl)
      have hf := if_f hf hc7
      by_cases hc8 : x1 = 8
      · have hf := if_t hf hc8
        refine kr_tin hx hb hc8 (tgt := 215) dX8_count_93 (by decide) (by decide) rfl (by decide) ?_
        refine lv_iload hx hb dX8_count_215 (lv_at hl 4 rfl) ?_
        exact en_i hf hx hb hr rfl hlocks hP hS dX8_count_217
      have hf := if_f hf hc8
      by_cases hc9 : x1 = 9
      · have hf := if_t hf hc9
        refine kr_tin hx hb hc9 (tgt := 218) dX8_count_93 (by decide) (by decide) rfl (by decide) ?_
        exact w_X8_count_b218 E hf hP hS (lv_sub hl [0, 1] rfl)
      have hf := if_f hf hc9
      by_cases hc10 : x1 = 10
      · have hf := if_t hf hc10
        refine kr_tin hx hb hc10 (tgt := 218) dX8_count_93 (by decide) (by decide) rfl (by decide) ?_
        exact w_X8_count_b218 E hf hP hS (lv_sub hl [0, 1] rfl)
      have hf := if_f hf hc10
      by_cases hc11 : x1 = 11
      · have hf := if_t hf hc11
        refine kr_tin hx hb hc11 (tgt := 231) dX8_count_93 (by decide) (by decide) rfl (by decide) ?_
        refine lv_aload_n hx hb dX8_count_231 rfl (lv_at hl 0 rfl) ?_
        refine gf_X8_states E hP w_801 dX8_count_232 ?_
        exact en_i hf hx hb hr rfl hlocks hP hS dX8_count_235
      have hf := if_f hf hc11
      by_cases hc12 : x1 = 12
      · have hf := if_t hf hc12
        refine kr_tin hx hb hc12 (tgt := 236) dX8_count_93 (by decide) (by decide) rfl (by decide) ?_
        refine lv_aload_n hx hb dX8_count_236 rfl (lv_at hl 0 rfl) ?_
        refine gf_X8_typed E hP w_803 dX8_count_237 ?_
        exact en_i hf hx hb hr rfl hlocks hP hS dX8_count_240
      have hf := if_f hf hc12
      have hn0 := lv_neT hc0 (a := 0) (by decide)
      have hn1 := lv_neT hc1 (a := 1) (by decide)
      have hn2 := lv_neT hc2 (a := 2) (by decide)
      have hn3 := lv_neT hc3 (a := 3) (by decide)
      have hn4 := lv_neT hc4 (a := 4) (by decide)
      have hn5 := lv_neT hc5 (a := 5) (by decide)
      have hn6 := lv_neT hc6 (a := 6) (by decide)
      have hn7 := lv_neT hc7 (a := 7) (by decide)
      have hn8 := lv_neT hc8 (a := 8) (by decide)
      have hn9 := lv_neT hc9 (a := 9) (by decide)
      have hn10 := lv_neT hc10 (a := 10) (by decide)
      have hn11 := lv_neT hc11 (a := 11) (by decide)
      have hn12 := lv_neT hc12 (a := 12) (by decide)
      refine lv_tableOut (tgt := 241) hx hb dX8_count_93 (by omega) (by decide) ?_
      refine lv_iload_n hx hb dX8_count_241 rfl (lv_at hl 1 rfl) ?_
      refine lv_bipush (v := 20) hx hb dX8_count_242 (by decide) ?_
      refine lv_bipush (v := 24) hx hb dX8_count_244 (by decide) ?_
      refine ob_e hf (fun r_246 M_246 hq hf => ?_)
      refine cv_X8_in E hP hS hq w_851 ⟨Nat.le_of_ble_eq_true rfl, Nat.le_of_ble_eq_true rfl⟩ hl (Nat.le_of_ble_eq_true rfl) dX8_count_246 ⟨Nat.le_of_ble_eq_true rfl, Nat.le_of_ble_eq_true rfl⟩ (fun H locs hP hS => ?_)
      refine lv_if_eq (tgt := 266) hx hb dX8_count_249 (by decide) (fun hc => ?_) (fun hc => ?_)
      · have hf := if_t hf hc
        refine lv_ldc (v := (-1000001)) hx hb hown (hts _ w_854) dX8_count_266 ?_
        exact w_X8_count_b268 E hf hP hS (lv_sub hl [] rfl)
      · have hf := if_f hf hc
        refine lv_aload_n hx hb dX8_count_252 rfl (lv_at hl 0 rfl) ?_
        refine gf_X8_s E hP w_797 dX8_count_253 ?_
        refine lv_iconst (v := 2) hx hb dX8_count_256 (by decide) ?_
        refine lv_iload_n hx hb dX8_count_257 rfl (lv_at hl 1 rfl) ?_
        refine lv_iadd hx hb dX8_count_258 ?_
        refine lv_bipush (v := 20) hx hb dX8_count_259 (by decide) ?_
        refine lv_isub hx hb dX8_count_261 ?_
        refine ck_e hf (fun hi hf => ?_)
        refine la_M1 E hP hi dX8_count_262 ?_
        refine lv_goto (tgt := 268) hx hb dX8_count_263 (by decide) ?_
        exact w_X8_count_b268 E hf hP hS (lv_sub hl [] rfl)
    · have hf := if_f hf hc
      refine lv_iload_n hx hb dX8_count_21 rfl (lv_at hl 2 rfl) ?_
      refine lv_aload_n hx hb dX8_count_22 rfl (lv_at hl 0 rfl) ?_
      refine lv_iload hx hb dX8_count_23 (lv_at hl 5 rfl) ?_
      refine ob_e hf (fun r_25 M_25 hq hf => ?_)
      refine cv_X8_isDrawn E hP hS hq w_935 ⟨Nat.le_of_ble_eq_true rfl, Nat.le_of_ble_eq_true rfl⟩ hl (Nat.le_of_ble_eq_true rfl) dX8_count_25 ⟨Nat.le_of_ble_eq_true rfl, Nat.le_of_ble_eq_true rfl⟩ (fun H locs hP hS => ?_)
      refine lv_if_eq (tgt := 35) hx hb dX8_count_28 (by decide) (fun hc => ?_) (fun hc => ?_)
      · have hf := if_t hf hc
        refine lv_iconst (v := 0) hx hb dX8_count_35 (by decide) ?_
        exact w_X8_count_b36 E ih hf hP hS (lv_sub hl [0, 1, 3, 4, 5] rfl)
      · have hf := if_f hf hc
        refine lv_iconst (v := 1) hx hb dX8_count_31 (by decide) ?_
        refine lv_goto (tgt := 36) hx hb dX8_count_32 (by decide) ?_
        exact w_X8_count_b36 E ih hf hP hS (lv_sub hl [0, 1, 3, 4, 5] rfl)
set_option maxHeartbeats 4000000 in
set_option maxRecDepth 100000 in
theorem w_X8_count {p : Program} {l : Launch} {e : Env} {s : State} {m : MethodId} {args : Array Value} {below : List Frame} {meth : Method} {c : Code} {G : GG} {sz : Nat} {r : Int32} {M' : Mem} (E : Cx p s m args meth c cX8_count (some .int) 6 RX8 G) {x1 : Int32} {M : Mem} {H : Heap} {locs : List Loc} {ls : Array Slot} (hf : f_X8_count x1 M = some (r, M')) (hP : PW G (AM G) (XM G) sz M s H) (hS : va_S (AM G) s.heap H locs) (hl : lv_has ls 6 [(0, .ref (adM G 0 0)), (1, .int x1)]) : W p l e rm_X8_count s m args below meth c H locs 0 0 (MQ below (va_Qi (fun (r2 : Int32) (_ : Unit) => r2 = r) (fun _ t => PW G (AM G) (XM G) sz M' t t.heap) (AM G)) args s 0 0 (AM G)) (F0 m 0 ls []) := by
  obtain ⟨hx, hb, hr, hlocks, hml, hown, hts, hK⟩ := id E
  unfold f_X8_count at hf
  refine lv_iconst (v := 0) hx hb dX8_count_0 (by decide) ?_
  refine lv_istore_n (lv' := [(2, .int 0), (0, .ref (adM G 0 0)), (1, .int x1)]) hx hb dX8_count_1 rfl hl (by decide) rfl (fun ls hl => ?_)
  refine lv_iconst (v := 0) hx hb dX8_count_2 (by decide) ?_
  refine lv_istore_n (lv' := [(3, .int 0), (2, .int 0), (0, .ref (adM G 0 0)), (1, .int x1)]) hx hb dX8_count_3 rfl hl (by decide) rfl (fun ls hl => ?_)
  refine lv_iconst (v := 0) hx hb dX8_count_4 (by decide) ?_
  refine lv_istore (lv' := [(4, .int 0), (3, .int 0), (2, .int 0), (0, .ref (adM G 0 0)), (1, .int x1)]) hx hb dX8_count_5 hl (by decide) rfl (fun ls hl => ?_)
  refine lv_iconst (v := 0) hx hb dX8_count_7 (by decide) ?_
  refine lv_istore (lv' := [(5, .int 0), (4, .int 0), (3, .int 0), (2, .int 0), (0, .ref (adM G 0 0)), (1, .int x1)]) hx hb dX8_count_8 hl (by decide) rfl (fun ls hl => ?_)
  exact w_X8_count_b10 E 1000 _ _ _ _ _ _ _ _ _ hf hP hS (lv_sub hl [4, 5, 3, 2, 1, 0] rfl)
theorem c_X8_count (l : Launch) {G : GG} {sz : Nat} {x1 : Int32} {M : Mem} {r : Int32} {M' : Mem} (hf : f_X8_count x1 M = some (r, M')) : CtI l yX8_count cX8_count 6 (some .int) rm_X8_count [.ref (adM G 0 0), .int x1] G (AM G) (XM G) sz M r (XM G) sz M' := by
  refine Ct_of (by decide) (Nat.le_of_ble_eq_true rfl) (fun p e s m below meth c ls hx hb hr hlocks hml hown hts hK hP hl => ?_)
  exact w_X8_count ⟨hx, hb, hr, hlocks, hml, hown, hts, hK⟩ hf hP va_S.rf hl
set_option maxRecDepth 100000 in
theorem cv_X8_count {p : Program} {l : Launch} {e : Env} {R : Room} {s : State} {m : MethodId} {args : Array Value} {below : List Frame} {meth : Method} {c : Code} {H : Heap} {locs : List Loc} {cells slots : Nat} {Q : State → Prop} {cc : ByteArray} {pc nL index : Nat} {ret : Option FieldType} {own : String} {ls : Array Slot} {rest : List Value} {l' : List (Nat × Value)} {G : GG} {sz : Nat} {M : Mem} (E : Cx p s m args meth c cc ret nL own G) (hP : PW G (AM G) (XM G) sz M s H) (hS : va_S (AM G) s.heap H locs) {x1 : Int32} {r : Int32} {M' : Mem} (hq : f_X8_count x1 M = some (r, M')) (w1 : Cond.methodLink own index yX8_count ∈ lw_all) (hR : 4 ≤ R.frames ∧ 90 ≤ R.locals) (hl : lv_has ls nL l') (hrest : (rest.map fun v => v.category).sum ≤ 8) (hdg : decode cc pc = .ok (.invokevirtual index, 3)) (hcs : cells ≤ R.cells ∧ slots ≤ R.slots)
    (kk : ∀ (H1 : Heap) (locs1 : List Loc), PW G (AM G) (XM G) sz M' s H1 → va_S (AM G) s.heap H1 locs1 → W p l e R s m args below meth c H1 locs1 cells slots Q (F0 m (pc + 3) ls (.int r :: rest))) : W p l e R s m args below meth c H locs cells slots Q (F0 m pc ls (.int x1 :: .ref (adM G 0 0) :: rest)) := by
  obtain ⟨hx, hb, hr, hlocks, hml, hown, hts, hK⟩ := E
  exact kc_i (kc_runV (na := 1) (q := (RX8, TX8, 16)) hx hb hml hts hown hK hP 0 0 ⟨rfl, by decide⟩ rfl rfl rfl (c_X8_count l hq) w1 w_1101 w_1102 w_9 w_1103 (by decide +kernel) hR rfl hl rfl hrest hdg hcs) hS kk
/-! X8_undo -/
abbrev rm_X8_undo : Room := { frames := 0, cells := 0, slots := 0, locals := 0 }
def f_X8_undo_b22 : Nat → Int32 → Mem → Option (Int32 × Mem)
  | 0 => fun _ _ => none
  | fu + 1 => fun x1 M =>
(if 181 ≤ x1 then
  some ((M 0 0 4), M)
else
  ck (ibd ((181 * (M 0 0 4)) + x1) 724) <|
  ck (ibd x1 181) <|
  lt (up3 M 0 1 (ix x1) (M 0 2 (ix ((181 * (M 0 0 4)) + x1)))) fun M_49 =>
  lt (x1 + 1) fun x1_50 =>
  f_X8_undo_b22 fu x1_50 M_49)
def f_X8_undo (M : Mem) : Option (Int32 × Mem) :=
(if (M 0 0 4) = 0 then
  some ((-1000002), M)
else
  lt (up3 M 0 0 4 ((M 0 0 4) - 1)) fun M_17 =>
  f_X8_undo_b22 1000 0 M_17)
set_option maxHeartbeats 4000000 in
set_option maxRecDepth 100000 in
theorem w_X8_undo_b22 {p : Program} {l : Launch} {e : Env} {s : State} {m : MethodId} {args : Array Value} {below : List Frame} {meth : Method} {c : Code} {G : GG} {sz : Nat} {r : Int32} {M' : Mem} (E : Cx p s m args meth c cX8_undo (some .int) 2 RX8 G) : ∀ fu : Nat, ∀ (x1 : Int32) (M : Mem) (H : Heap) (locs : List Loc) (ls : Array Slot), f_X8_undo_b22 fu x1 M = some (r, M') → PW G (AM G) (XM G) sz M s H → va_S (AM G) s.heap H locs → lv_has ls 2 [(0, .ref (adM G 0 0)), (1, .int x1)] → W p l e rm_X8_undo s m args below meth c H locs 0 0 (MQ below (va_Qi (fun (r2 : Int32) (_ : Unit) => r2 = r) (fun _ t => PW G (AM G) (XM G) sz M' t t.heap) (AM G)) args s 0 0 (AM G)) (F0 m 22 ls []) := by
  obtain ⟨hx, hb, hr, hlocks, hml, hown, hts, hK⟩ := id E
  intro fu
  induction fu with
  | zero => intro x1 M H locs ls hf hP hS hl; cases hf
  | succ fu ih =>
    intro x1 M H locs ls hf hP hS hl
    rw [f_X8_undo_b22.eq_2] at hf
    refine lv_iload_n hx hb dX8_undo_22 rfl (lv_at hl 1 rfl) ?_
    refine lv_sipush (v := 181) hx hb dX8_undo_23 (by decide) ?_
    refine lv_icmp_ge (tgt := 56) hx hb dX8_undo_26 (by decide) (fun hc => ?_) (fun hc => ?_)
    · have hf := if_t hf hc
      refine lv_aload_n hx hb dX8_undo_56 rfl (lv_at hl 0 rfl) ?_
      refine gf_X8_states E hP w_801 dX8_undo_57 ?_
      exact en_i hf hx hb hr rfl hlocks hP hS dX8_undo_60
    · have hf := if_f hf hc
      refine lv_aload_n hx hb dX8_undo_29 rfl (lv_at hl 0 rfl) ?_
      refine gf_X8_s E hP w_797 dX8_undo_30 ?_
      refine lv_iload_n hx hb dX8_undo_33 rfl (lv_at hl 1 rfl) ?_
      refine lv_aload_n hx hb dX8_undo_34 rfl (lv_at hl 0 rfl) ?_
      refine gf_X8_was E hP w_798 dX8_undo_35 ?_
      refine lv_sipush (v := 181) hx hb dX8_undo_38 (by decide) ?_
      refine lv_aload_n hx hb dX8_undo_41 rfl (lv_at hl 0 rfl) ?_
      refine gf_X8_states E hP w_801 dX8_undo_42 ?_
      refine lv_imul hx hb dX8_undo_45 ?_
      refine lv_iload_n hx hb dX8_undo_46 rfl (lv_at hl 1 rfl) ?_
      refine lv_iadd hx hb dX8_undo_47 ?_
      refine ck_e hf (fun hi hf => ?_)
      refine la_M2 E hP hi dX8_undo_48 ?_
      refine ck_e hf (fun hi hf => ?_)
      refine lt_e hf (fun M_49 hM_49 hf => ?_)
      refine sa_M1 E hP hS hi hM_49 dX8_undo_49 (fun H locs hP hS => ?_)
      refine lt_e hf (fun x1_50 hx1_50 hf => ?_)
      refine lv_iinc (v := x1_50) (lv' := [(1, .int x1_50), (0, .ref (adM G 0 0))]) hx hb dX8_undo_50 hl (k := 1) rfl (by rw [hx1_50]; rfl) (by decide) rfl (fun ls hl => ?_)
      refine lv_goto (tgt := 22) hx hb dX8_undo_53 (by decide) ?_
      exact ih _ _ _ _ _ hf hP hS (lv_sub hl [1, 0] rfl)
set_option maxHeartbeats 4000000 in
set_option maxRecDepth 100000 in
theorem w_X8_undo {p : Program} {l : Launch} {e : Env} {s : State} {m : MethodId} {args : Array Value} {below : List Frame} {meth : Method} {c : Code} {G : GG} {sz : Nat} {r : Int32} {M' : Mem} (E : Cx p s m args meth c cX8_undo (some .int) 2 RX8 G) {M : Mem} {H : Heap} {locs : List Loc} {ls : Array Slot} (hf : f_X8_undo M = some (r, M')) (hP : PW G (AM G) (XM G) sz M s H) (hS : va_S (AM G) s.heap H locs) (hl : lv_has ls 2 [(0, .ref (adM G 0 0))]) : W p l e rm_X8_undo s m args below meth c H locs 0 0 (MQ below (va_Qi (fun (r2 : Int32) (_ : Unit) => r2 = r) (fun _ t => PW G (AM G) (XM G) sz M' t t.heap) (AM G)) args s 0 0 (AM G)) (F0 m 0 ls []) := by
  obtain ⟨hx, hb, hr, hlocks, hml, hown, hts, hK⟩ := id E
  unfold f_X8_undo at hf
  refine lv_aload_n hx hb dX8_undo_0 rfl (lv_at hl 0 rfl) ?_
  refine gf_X8_states E hP w_801 dX8_undo_1 ?_
  refine lv_if_ne (tgt := 10) hx hb dX8_undo_4 (by decide) (fun hc => ?_) (fun hc => ?_)
  · have hf := if_f hf hc
    refine lv_aload_n hx hb dX8_undo_10 rfl (lv_at hl 0 rfl) ?_
    refine lv_dup hx hb dX8_undo_11 rfl ?_
    refine gf_X8_states E hP w_801 dX8_undo_12 ?_
    refine lv_iconst (v := 1) hx hb dX8_undo_15 (by decide) ?_
    refine lv_isub hx hb dX8_undo_16 ?_
    refine lt_e hf (fun M_17 hM_17 hf => ?_)
    refine pf_X8_states E hP hS hM_17 w_801 dX8_undo_17 (fun H locs hP hS => ?_)
    refine lv_iconst (v := 0) hx hb dX8_undo_20 (by decide) ?_
    refine lv_istore_n (lv' := [(1, .int 0), (0, .ref (adM G 0 0))]) hx hb dX8_undo_21 rfl hl (by decide) rfl (fun ls hl => ?_)
    exact w_X8_undo_b22 E 1000 _ _ _ _ _ hf hP hS (lv_sub hl [1, 0] rfl)
  · have hf := if_t hf hc
    refine lv_ldc (v := (-1000002)) hx hb hown (hts _ w_871) dX8_undo_7 ?_
    exact en_i hf hx hb hr rfl hlocks hP hS dX8_undo_9
theorem c_X8_undo (l : Launch) {G : GG} {sz : Nat} {M : Mem} {r : Int32} {M' : Mem} (hf : f_X8_undo M = some (r, M')) : CtI l yX8_undo cX8_undo 2 (some .int) rm_X8_undo [.ref (adM G 0 0)] G (AM G) (XM G) sz M r (XM G) sz M' := by
  refine Ct_of (by decide) (Nat.le_of_ble_eq_true rfl) (fun p e s m below meth c ls hx hb hr hlocks hml hown hts hK hP hl => ?_)
  exact w_X8_undo ⟨hx, hb, hr, hlocks, hml, hown, hts, hK⟩ hf hP va_S.rf hl
set_option maxRecDepth 100000 in
theorem cv_X8_undo {p : Program} {l : Launch} {e : Env} {R : Room} {s : State} {m : MethodId} {args : Array Value} {below : List Frame} {meth : Method} {c : Code} {H : Heap} {locs : List Loc} {cells slots : Nat} {Q : State → Prop} {cc : ByteArray} {pc nL index : Nat} {ret : Option FieldType} {own : String} {ls : Array Slot} {rest : List Value} {l' : List (Nat × Value)} {G : GG} {sz : Nat} {M : Mem} (E : Cx p s m args meth c cc ret nL own G) (hP : PW G (AM G) (XM G) sz M s H) (hS : va_S (AM G) s.heap H locs) {r : Int32} {M' : Mem} (hq : f_X8_undo M = some (r, M')) (w1 : Cond.methodLink own index yX8_undo ∈ lw_all) (hR : 1 ≤ R.frames ∧ 21 ≤ R.locals) (hl : lv_has ls nL l') (hrest : (rest.map fun v => v.category).sum ≤ 8) (hdg : decode cc pc = .ok (.invokevirtual index, 3)) (hcs : cells ≤ R.cells ∧ slots ≤ R.slots)
    (kk : ∀ (H1 : Heap) (locs1 : List Loc), PW G (AM G) (XM G) sz M' s H1 → va_S (AM G) s.heap H1 locs1 → W p l e R s m args below meth c H1 locs1 cells slots Q (F0 m (pc + 3) ls (.int r :: rest))) : W p l e R s m args below meth c H locs cells slots Q (F0 m pc ls (.ref (adM G 0 0) :: rest)) := by
  obtain ⟨hx, hb, hr, hlocks, hml, hown, hts, hK⟩ := E
  exact kc_i (kc_runV (na := 0) (q := (RX8, TX8, 16)) hx hb hml hts hown hK hP 0 0 ⟨rfl, by decide⟩ rfl rfl rfl (c_X8_undo l hq) w1 w_1105 w_1106 w_9 w_1107 (by decide +kernel) hR rfl hl rfl hrest hdg hcs) hS kk
/-! X8_type -/
abbrev rm_X8_type : Room := { frames := 1, cells := 0, slots := 0, locals := 22 }
def f_X8_type (x1 : Int32) (M : Mem) : Option (Int32 × Mem) :=
ob (f_X8_in x1 32 126 M) fun r_5 M_5 =>
(if r_5 = 0 then
  some ((-1000001), M_5)
else
  (if (M_5 0 0 6) = 60 then
    some ((-1000003), M_5)
  else
    ck (ibd (M_5 0 0 6) 60) <|
    lt (up3 M_5 0 5 (ix (M_5 0 0 6)) (vp_nar .char ((x1.toUInt32 % 65536).toInt32))) fun M_36 =>
    lt (up3 M_36 0 0 6 ((M_36 0 0 6) + 1)) fun M_44 =>
    some ((M_44 0 0 6), M_44)))
set_option maxHeartbeats 4000000 in
set_option maxRecDepth 100000 in
theorem w_X8_type {p : Program} {l : Launch} {e : Env} {s : State} {m : MethodId} {args : Array Value} {below : List Frame} {meth : Method} {c : Code} {G : GG} {sz : Nat} {r : Int32} {M' : Mem} (E : Cx p s m args meth c cX8_type (some .int) 2 RX8 G) {x1 : Int32} {M : Mem} {H : Heap} {locs : List Loc} {ls : Array Slot} (hf : f_X8_type x1 M = some (r, M')) (hP : PW G (AM G) (XM G) sz M s H) (hS : va_S (AM G) s.heap H locs) (hl : lv_has ls 2 [(0, .ref (adM G 0 0)), (1, .int x1)]) : W p l e rm_X8_type s m args below meth c H locs 0 0 (MQ below (va_Qi (fun (r2 : Int32) (_ : Unit) => r2 = r) (fun _ t => PW G (AM G) (XM G) sz M' t t.heap) (AM G)) args s 0 0 (AM G)) (F0 m 0 ls []) := by
  obtain ⟨hx, hb, hr, hlocks, hml, hown, hts, hK⟩ := id E
  unfold f_X8_type at hf
  refine lv_iload_n hx hb dX8_type_0 rfl (lv_at hl 1 rfl) ?_
  refine lv_bipush (v := 32) hx hb dX8_type_1 (by decide) ?_
  refine lv_bipush (v := 126) hx hb dX8_type_3 (by decide) ?_
  refine ob_e hf (fun r_5 M_5 hq hf => ?_)
  refine cv_X8_in E hP hS hq w_851 ⟨Nat.le_of_ble_eq_true rfl, Nat.le_of_ble_eq_true rfl⟩ hl (Nat.le_of_ble_eq_true rfl) dX8_type_5 ⟨Nat.le_of_ble_eq_true rfl, Nat.le_of_ble_eq_true rfl⟩ (fun H locs hP hS => ?_)
  refine lv_if_ne (tgt := 14) hx hb dX8_type_8 (by decide) (fun hc => ?_) (fun hc => ?_)
  · have hf := if_f hf hc
    refine lv_aload_n hx hb dX8_type_14 rfl (lv_at hl 0 rfl) ?_
    refine gf_X8_typed E hP w_803 dX8_type_15 ?_
    refine lv_bipush (v := 60) hx hb dX8_type_18 (by decide) ?_
    refine lv_icmp_ne (tgt := 26) hx hb dX8_type_20 (by decide) (fun hc => ?_) (fun hc => ?_)
    · have hf := if_f hf hc
      refine lv_aload_n hx hb dX8_type_26 rfl (lv_at hl 0 rfl) ?_
      refine gf_X8_text E hP w_802 dX8_type_27 ?_
      refine lv_aload_n hx hb dX8_type_30 rfl (lv_at hl 0 rfl) ?_
      refine gf_X8_typed E hP w_803 dX8_type_31 ?_
      refine lv_iload_n hx hb dX8_type_34 rfl (lv_at hl 1 rfl) ?_
      refine lv_i2c (v := (x1.toUInt32 % 65536).toInt32) hx hb dX8_type_35 rfl ?_
      refine ck_e hf (fun hi hf => ?_)
      refine lt_e hf (fun M_36 hM_36 hf => ?_)
      refine sa_M5 E hP hS hi hM_36 dX8_type_36 (fun H locs hP hS => ?_)
      refine lv_aload_n hx hb dX8_type_37 rfl (lv_at hl 0 rfl) ?_
      refine lv_dup hx hb dX8_type_38 rfl ?_
      refine gf_X8_typed E hP w_803 dX8_type_39 ?_
      refine lv_iconst (v := 1) hx hb dX8_type_42 (by decide) ?_
      refine lv_iadd hx hb dX8_type_43 ?_
      refine lt_e hf (fun M_44 hM_44 hf => ?_)
      refine pf_X8_typed E hP hS hM_44 w_803 dX8_type_44 (fun H locs hP hS => ?_)
      refine lv_aload_n hx hb dX8_type_47 rfl (lv_at hl 0 rfl) ?_
      refine gf_X8_typed E hP w_803 dX8_type_48 ?_
      exact en_i hf hx hb hr rfl hlocks hP hS dX8_type_51
    · have hf := if_t hf hc
      refine lv_ldc (v := (-1000003)) hx hb hown (hts _ w_872) dX8_type_23 ?_
      exact en_i hf hx hb hr rfl hlocks hP hS dX8_type_25
  · have hf := if_t hf hc
    refine lv_ldc (v := (-1000001)) hx hb hown (hts _ w_854) dX8_type_11 ?_
    exact en_i hf hx hb hr rfl hlocks hP hS dX8_type_13
theorem c_X8_type (l : Launch) {G : GG} {sz : Nat} {x1 : Int32} {M : Mem} {r : Int32} {M' : Mem} (hf : f_X8_type x1 M = some (r, M')) : CtI l yX8_type cX8_type 2 (some .int) rm_X8_type [.ref (adM G 0 0), .int x1] G (AM G) (XM G) sz M r (XM G) sz M' := by
  refine Ct_of (by decide) (Nat.le_of_ble_eq_true rfl) (fun p e s m below meth c ls hx hb hr hlocks hml hown hts hK hP hl => ?_)
  exact w_X8_type ⟨hx, hb, hr, hlocks, hml, hown, hts, hK⟩ hf hP va_S.rf hl
set_option maxRecDepth 100000 in
theorem cv_X8_type {p : Program} {l : Launch} {e : Env} {R : Room} {s : State} {m : MethodId} {args : Array Value} {below : List Frame} {meth : Method} {c : Code} {H : Heap} {locs : List Loc} {cells slots : Nat} {Q : State → Prop} {cc : ByteArray} {pc nL index : Nat} {ret : Option FieldType} {own : String} {ls : Array Slot} {rest : List Value} {l' : List (Nat × Value)} {G : GG} {sz : Nat} {M : Mem} (E : Cx p s m args meth c cc ret nL own G) (hP : PW G (AM G) (XM G) sz M s H) (hS : va_S (AM G) s.heap H locs) {x1 : Int32} {r : Int32} {M' : Mem} (hq : f_X8_type x1 M = some (r, M')) (w1 : Cond.methodLink own index yX8_type ∈ lw_all) (hR : 2 ≤ R.frames ∧ 43 ≤ R.locals) (hl : lv_has ls nL l') (hrest : (rest.map fun v => v.category).sum ≤ 8) (hdg : decode cc pc = .ok (.invokevirtual index, 3)) (hcs : cells ≤ R.cells ∧ slots ≤ R.slots)
    (kk : ∀ (H1 : Heap) (locs1 : List Loc), PW G (AM G) (XM G) sz M' s H1 → va_S (AM G) s.heap H1 locs1 → W p l e R s m args below meth c H1 locs1 cells slots Q (F0 m (pc + 3) ls (.int r :: rest))) : W p l e R s m args below meth c H locs cells slots Q (F0 m pc ls (.int x1 :: .ref (adM G 0 0) :: rest)) := by
  obtain ⟨hx, hb, hr, hlocks, hml, hown, hts, hK⟩ := E
  exact kc_i (kc_runV (na := 1) (q := (RX8, TX8, 16)) hx hb hml hts hown hK hP 0 0 ⟨rfl, by decide⟩ rfl rfl rfl (c_X8_type l hq) w1 w_1109 w_1110 w_9 w_1111 (by decide +kernel) hR rfl hl rfl hrest hdg hcs) hS kk
/-! X8_clearText -/
abbrev rm_X8_clearText : Room := { frames := 0, cells := 0, slots := 0, locals := 0 }
def f_X8_clearText (M : Mem) : Option (Int32 × Mem) :=
lt ((M 0 0 6)) fun x1_4 =>
lt (up3 M 0 0 6 0) fun M_7 =>
some (x1_4, M_7)
set_option maxHeartbeats 4000000 in
set_option maxRecDepth 100000 in
theorem w_X8_clearText {p : Program} {l : Launch} {e : Env} {s : State} {m : MethodId} {args : Array Value} {below : List Frame} {meth : Method} {c : Code} {G : GG} {sz : Nat} {r : Int32} {M' : Mem} (E : Cx p s m args meth c cX8_clearText (some .int) 2 RX8 G) {M : Mem} {H : Heap} {locs : List Loc} {ls : Array Slot} (hf : f_X8_clearText M = some (r, M')) (hP : PW G (AM G) (XM G) sz M s H) (hS : va_S (AM G) s.heap H locs) (hl : lv_has ls 2 [(0, .ref (adM G 0 0))]) : W p l e rm_X8_clearText s m args below meth c H locs 0 0 (MQ below (va_Qi (fun (r2 : Int32) (_ : Unit) => r2 = r) (fun _ t => PW G (AM G) (XM G) sz M' t t.heap) (AM G)) args s 0 0 (AM G)) (F0 m 0 ls []) := by
  obtain ⟨hx, hb, hr, hlocks, hml, hown, hts, hK⟩ := id E
  unfold f_X8_clearText at hf
  refine lv_aload_n hx hb dX8_clearText_0 rfl (lv_at hl 0 rfl) ?_
  refine gf_X8_typed E hP w_803 dX8_clearText_1 ?_
  refine lt_e hf (fun x1_4 hx1_4 hf => ?_)
  refine kr_nm hx1_4 ?_
  refine lv_istore_n (lv' := [(1, .int x1_4), (0, .ref (adM G 0 0))]) hx hb dX8_clearText_4 rfl hl (by decide) rfl (fun ls hl => ?_)
  refine lv_aload_n hx hb dX8_clearText_5 rfl (lv_at hl 1 rfl) ?_
  refine lv_iconst (v := 0) hx hb dX8_clearText_6 (by decide) ?_
  refine lt_e hf (fun M_7 hM_7 hf => ?_)
  refine pf_X8_typed E hP hS hM_7 w_803 dX8_clearText_7 (fun H locs hP hS => ?_)
  refine lv_iload_n hx hb dX8_clearText_10 rfl (lv_at hl 0 rfl) ?_
  exact en_i hf hx hb hr rfl hlocks hP hS dX8_clearText_11
theorem c_X8_clearText (l : Launch) {G : GG} {sz : Nat} {M : Mem} {r : Int32} {M' : Mem} (hf : f_X8_clearText M = some (r, M')) : CtI l yX8_clearText cX8_clearText 2 (some .int) rm_X8_clearText [.ref (adM G 0 0)] G (AM G) (XM G) sz M r (XM G) sz M' := by
  refine Ct_of (by decide) (Nat.le_of_ble_eq_true rfl) (fun p e s m below meth c ls hx hb hr hlocks hml hown hts hK hP hl => ?_)
  exact w_X8_clearText ⟨hx, hb, hr, hlocks, hml, hown, hts, hK⟩ hf hP va_S.rf hl
set_option maxRecDepth 100000 in
theorem cv_X8_clearText {p : Program} {l : Launch} {e : Env} {R : Room} {s : State} {m : MethodId} {args : Array Value} {below : List Frame} {meth : Method} {c : Code} {H : Heap} {locs : List Loc} {cells slots : Nat} {Q : State → Prop} {cc : ByteArray} {pc nL index : Nat} {ret : Option FieldType} {own : String} {ls : Array Slot} {rest : List Value} {l' : List (Nat × Value)} {G : GG} {sz : Nat} {M : Mem} (E : Cx p s m args meth c cc ret nL own G) (hP : PW G (AM G) (XM G) sz M s H) (hS : va_S (AM G) s.heap H locs) {r : Int32} {M' : Mem} (hq : f_X8_clearText M = some (r, M')) (w1 : Cond.methodLink own index yX8_clearText ∈ lw_all) (hR : 1 ≤ R.frames ∧ 21 ≤ R.locals) (hl : lv_has ls nL l') (hrest : (rest.map fun v => v.category).sum ≤ 8) (hdg : decode cc pc = .ok (.invokevirtual index, 3)) (hcs : cells ≤ R.cells ∧ slots ≤ R.slots)
    (kk : ∀ (H1 : Heap) (locs1 : List Loc), PW G (AM G) (XM G) sz M' s H1 → va_S (AM G) s.heap H1 locs1 → W p l e R s m args below meth c H1 locs1 cells slots Q (F0 m (pc + 3) ls (.int r :: rest))) : W p l e R s m args below meth c H locs cells slots Q (F0 m pc ls (.ref (adM G 0 0) :: rest)) := by
  obtain ⟨hx, hb, hr, hlocks, hml, hown, hts, hK⟩ := E
  exact kc_i (kc_runV (na := 0) (q := (RX8, TX8, 16)) hx hb hml hts hown hK hP 0 0 ⟨rfl, by decide⟩ rfl rfl rfl (c_X8_clearText l hq) w1 w_1113 w_1114 w_9 w_1115 (by decide +kernel) hR rfl hl rfl hrest hdg hcs) hS kk
/-! X8_sign -/
abbrev rm_X8_sign : Room := { frames := 0, cells := 0, slots := 0, locals := 0 }
def f_X8_sign_b24 (s0 : Int32) (M : Mem) : Option (Int32 × Mem) :=
some (s0, M)
def f_X8_sign (M : Mem) : Option (Int32 × Mem) :=
(if (M 0 0 6) ≤ (M 0 0 7) then
  f_X8_sign_b24 (-1) M
else
  ck (ibd (M 0 0 7) 60) <|
  f_X8_sign_b24 ((M 0 5 (ix (M 0 0 7)))) M)
set_option maxHeartbeats 4000000 in
set_option maxRecDepth 100000 in
theorem w_X8_sign_b24 {p : Program} {l : Launch} {e : Env} {s : State} {m : MethodId} {args : Array Value} {below : List Frame} {meth : Method} {c : Code} {G : GG} {sz : Nat} {r : Int32} {M' : Mem} (E : Cx p s m args meth c cX8_sign (some .int) 1 RX8 G) {s0 : Int32} {M : Mem} {H : Heap} {locs : List Loc} {ls : Array Slot} (hf : f_X8_sign_b24 s0 M = some (r, M')) (hP : PW G (AM G) (XM G) sz M s H) (hS : va_S (AM G) s.heap H locs) (hl : lv_has ls 1 []) : W p l e rm_X8_sign s m args below meth c H locs 0 0 (MQ below (va_Qi (fun (r2 : Int32) (_ : Unit) => r2 = r) (fun _ t => PW G (AM G) (XM G) sz M' t t.heap) (AM G)) args s 0 0 (AM G)) (F0 m 24 ls [.int s0]) := by
  obtain ⟨hx, hb, hr, hlocks, hml, hown, hts, hK⟩ := id E
  unfold f_X8_sign_b24 at hf
  exact en_i hf hx hb hr rfl hlocks hP hS dX8_sign_24
set_option maxHeartbeats 4000000 in
set_option maxRecDepth 100000 in
theorem w_X8_sign {p : Program} {l : Launch} {e : Env} {s : State} {m : MethodId} {args : Array Value} {below : List Frame} {meth : Method} {c : Code} {G : GG} {sz : Nat} {r : Int32} {M' : Mem} (E : Cx p s m args meth c cX8_sign (some .int) 1 RX8 G) {M : Mem} {H : Heap} {locs : List Loc} {ls : Array Slot} (hf : f_X8_sign M = some (r, M')) (hP : PW G (AM G) (XM G) sz M s H) (hS : va_S (AM G) s.heap H locs) (hl : lv_has ls 1 [(0, .ref (adM G 0 0))]) : W p l e rm_X8_sign s m args below meth c H locs 0 0 (MQ below (va_Qi (fun (r2 : Int32) (_ : Unit) => r2 = r) (fun _ t => PW G (AM G) (XM G) sz M' t t.heap) (AM G)) args s 0 0 (AM G)) (F0 m 0 ls []) := by
  obtain ⟨hx, hb, hr, hlocks, hml, hown, hts, hK⟩ := id E
  unfold f_X8_sign at hf
  refine lv_aload_n hx hb dX8_sign_0 rfl (lv_at hl 0 rfl) ?_
  refine gf_X8_at E hP w_804 dX8_sign_1 ?_
  refine lv_aload_n hx hb dX8_sign_4 rfl (lv_at hl 0 rfl) ?_
  refine gf_X8_typed E hP w_803 dX8_sign_5 ?_
  refine lv_icmp_ge (tgt := 23) hx hb dX8_sign_8 (by decide) (fun hc => ?_) (fun hc => ?_)
  · have hf := if_t hf hc
    refine lv_iconst (v := (-1)) hx hb dX8_sign_23 (by decide) ?_
    exact w_X8_sign_b24 E hf hP hS (lv_sub hl [] rfl)
  · have hf := if_f hf hc
    refine lv_aload_n hx hb dX8_sign_11 rfl (lv_at hl 0 rfl) ?_
    refine gf_X8_text E hP w_802 dX8_sign_12 ?_
    refine lv_aload_n hx hb dX8_sign_15 rfl (lv_at hl 0 rfl) ?_
    refine gf_X8_at E hP w_804 dX8_sign_16 ?_
    refine ck_e hf (fun hi hf => ?_)
    refine la_M5 E hP hi dX8_sign_19 ?_
    refine lv_goto (tgt := 24) hx hb dX8_sign_20 (by decide) ?_
    exact w_X8_sign_b24 E hf hP hS (lv_sub hl [] rfl)
theorem c_X8_sign (l : Launch) {G : GG} {sz : Nat} {M : Mem} {r : Int32} {M' : Mem} (hf : f_X8_sign M = some (r, M')) : CtI l yX8_sign cX8_sign 1 (some .int) rm_X8_sign [.ref (adM G 0 0)] G (AM G) (XM G) sz M r (XM G) sz M' := by
  refine Ct_of (by decide) (Nat.le_of_ble_eq_true rfl) (fun p e s m below meth c ls hx hb hr hlocks hml hown hts hK hP hl => ?_)
  exact w_X8_sign ⟨hx, hb, hr, hlocks, hml, hown, hts, hK⟩ hf hP va_S.rf hl
set_option maxRecDepth 100000 in
theorem cv_X8_sign {p : Program} {l : Launch} {e : Env} {R : Room} {s : State} {m : MethodId} {args : Array Value} {below : List Frame} {meth : Method} {c : Code} {H : Heap} {locs : List Loc} {cells slots : Nat} {Q : State → Prop} {cc : ByteArray} {pc nL index : Nat} {ret : Option FieldType} {own : String} {ls : Array Slot} {rest : List Value} {l' : List (Nat × Value)} {G : GG} {sz : Nat} {M : Mem} (E : Cx p s m args meth c cc ret nL own G) (hP : PW G (AM G) (XM G) sz M s H) (hS : va_S (AM G) s.heap H locs) {r : Int32} {M' : Mem} (hq : f_X8_sign M = some (r, M')) (w1 : Cond.methodLink own index yX8_sign ∈ lw_all) (hR : 1 ≤ R.frames ∧ 20 ≤ R.locals) (hl : lv_has ls nL l') (hrest : (rest.map fun v => v.category).sum ≤ 8) (hdg : decode cc pc = .ok (.invokevirtual index, 3)) (hcs : cells ≤ R.cells ∧ slots ≤ R.slots)
    (kk : ∀ (H1 : Heap) (locs1 : List Loc), PW G (AM G) (XM G) sz M' s H1 → va_S (AM G) s.heap H1 locs1 → W p l e R s m args below meth c H1 locs1 cells slots Q (F0 m (pc + 3) ls (.int r :: rest))) : W p l e R s m args below meth c H locs cells slots Q (F0 m pc ls (.ref (adM G 0 0) :: rest)) := by
  obtain ⟨hx, hb, hr, hlocks, hml, hown, hts, hK⟩ := E
  exact kc_i (kc_runV (na := 0) (q := (RX8, TX8, 16)) hx hb hml hts hown hK hP 0 0 ⟨rfl, by decide⟩ rfl rfl rfl (c_X8_sign l hq) w1 w_1130 ws_50 w_9 w_1131 (by decide +kernel) hR rfl hl rfl hrest hdg hcs) hS kk
/-! X8_readsForm -/
abbrev rm_X8_readsForm : Room := { frames := 1, cells := 0, slots := 0, locals := 22 }
def f_X8_readsForm_b154 (M : Mem) : Option (Int32 × Mem) :=
some (0, M)
def f_X8_readsForm_b145 (M : Mem) : Option (Int32 × Mem) :=
ob (f_X8_sign M) fun r_146 M_146 =>
(if r_146 = 59 then
  lt (up3 M_146 0 0 7 ((M_146 0 0 7) + 1)) fun M_163 =>
  some (1, M_163)
else
  f_X8_readsForm_b154 M_146)
def f_X8_readsForm_b133 (x2 : Int32) (x3 : Int32) (M : Mem) : Option (Int32 × Mem) :=
(if x2 = 0 then
  (if (M 0 0 7) = x3 then
    f_X8_readsForm_b154 M
  else
    f_X8_readsForm_b145 M)
else
  f_X8_readsForm_b145 M)
def f_X8_readsForm_b73 : Nat → Int32 → Int32 → Mem → Option (Int32 × Mem)
  | 0 => fun _ _ _ => none
  | fu + 1 => fun x2 x3 M =>
(if x2 = 0 then
  (if (x3 + 3) ≤ (M 0 0 7) then
    f_X8_readsForm_b133 x2 x3 M
  else
    ob (f_X8_sign M) fun r_88 M_88 =>
    ob (f_X8_in r_88 48 57 M_88) fun r_95 M_95 =>
    (if r_95 = 0 then
      f_X8_readsForm_b133 x2 x3 M_95
    else
      ob (f_X8_sign M_95) fun r_110 M_110 =>
      lt (up3 M_110 0 0 8 (((10 * (M_95 0 0 8)) + r_110) - 48)) fun M_117 =>
      lt (up3 M_117 0 0 7 ((M_117 0 0 7) + 1)) fun M_127 =>
      f_X8_readsForm_b73 fu x2 x3 M_127))
else
  f_X8_readsForm_b133 x2 x3 M)
def f_X8_readsForm_b53 (x2 : Int32) (M : Mem) : Option (Int32 × Mem) :=
lt (up3 M 0 0 7 ((M 0 0 7) + 1)) fun M_60 =>
lt (up3 M_60 0 0 8 0) fun M_65 =>
lt ((M_65 0 0 7)) fun x3_72 =>
f_X8_readsForm_b73 1000 x2 x3_72 M_65
def f_X8_readsForm_b22 (x1 : Int32) (s0 : Int32) (M : Mem) : Option (Int32 × Mem) :=
(if s0 = 0 then
  (if x1 = 112 then
    f_X8_readsForm_b53 s0 M
  else
    (if x1 = 100 then
      f_X8_readsForm_b53 s0 M
    else
      (if x1 = 114 then
        f_X8_readsForm_b53 s0 M
      else
        (if x1 = 119 then
          f_X8_readsForm_b53 s0 M
        else
          some (0, M)))))
else
  f_X8_readsForm_b53 s0 M)
def f_X8_readsForm_b17 (x1 : Int32) (M : Mem) : Option (Int32 × Mem) :=
f_X8_readsForm_b22 x1 1 M
def f_X8_readsForm (M : Mem) : Option (Int32 × Mem) :=
ob (f_X8_sign M) fun r_1 M_1 =>
(if r_1 = 104 then
  f_X8_readsForm_b17 r_1 M_1
else
  (if r_1 = 99 then
    f_X8_readsForm_b17 r_1 M_1
  else
    f_X8_readsForm_b22 r_1 0 M_1))
set_option maxHeartbeats 4000000 in
set_option maxRecDepth 100000 in
theorem w_X8_readsForm_b154 {p : Program} {l : Launch} {e : Env} {s : State} {m : MethodId} {args : Array Value} {below : List Frame} {meth : Method} {c : Code} {G : GG} {sz : Nat} {r : Int32} {M' : Mem} (E : Cx p s m args meth c cX8_readsForm (some .boolean) 4 RX8 G) {M : Mem} {H : Heap} {locs : List Loc} {ls : Array Slot} (hf : f_X8_readsForm_b154 M = some (r, M')) (hP : PW G (AM G) (XM G) sz M s H) (hS : va_S (AM G) s.heap H locs) (hl : lv_has ls 4 []) : W p l e rm_X8_readsForm s m args below meth c H locs 0 0 (MQ below (va_Qi (fun (r2 : Int32) (_ : Unit) => r2 = r) (fun _ t => PW G (AM G) (XM G) sz M' t t.heap) (AM G)) args s 0 0 (AM G)) (F0 m 154 ls []) := by
  obtain ⟨hx, hb, hr, hlocks, hml, hown, hts, hK⟩ := id E
  unfold f_X8_readsForm_b154 at hf
  refine lv_iconst (v := 0) hx hb dX8_readsForm_154 (by decide) ?_
  exact en_i hf hx hb hr rfl hlocks hP hS dX8_readsForm_155
set_option maxHeartbeats 4000000 in
set_option maxRecDepth 100000 in
theorem w_X8_readsForm_b145 {p : Program} {l : Launch} {e : Env} {s : State} {m : MethodId} {args : Array Value} {below : List Frame} {meth : Method} {c : Code} {G : GG} {sz : Nat} {r : Int32} {M' : Mem} (E : Cx p s m args meth c cX8_readsForm (some .boolean) 4 RX8 G) {M : Mem} {H : Heap} {locs : List Loc} {ls : Array Slot} (hf : f_X8_readsForm_b145 M = some (r, M')) (hP : PW G (AM G) (XM G) sz M s H) (hS : va_S (AM G) s.heap H locs) (hl : lv_has ls 4 [(0, .ref (adM G 0 0))]) : W p l e rm_X8_readsForm s m args below meth c H locs 0 0 (MQ below (va_Qi (fun (r2 : Int32) (_ : Unit) => r2 = r) (fun _ t => PW G (AM G) (XM G) sz M' t t.heap) (AM G)) args s 0 0 (AM G)) (F0 m 145 ls []) := by
  obtain ⟨hx, hb, hr, hlocks, hml, hown, hts, hK⟩ := id E
  unfold f_X8_readsForm_b145 at hf
  refine lv_aload_n hx hb dX8_readsForm_145 rfl (lv_at hl 0 rfl) ?_
  refine ob_e hf (fun r_146 M_146 hq hf => ?_)
  refine cv_X8_sign E hP hS hq w_1128 ⟨Nat.le_of_ble_eq_true rfl, Nat.le_of_ble_eq_true rfl⟩ hl (Nat.le_of_ble_eq_true rfl) dX8_readsForm_146 ⟨Nat.le_of_ble_eq_true rfl, Nat.le_of_ble_eq_true rfl⟩ (fun H locs hP hS => ?_)
  refine lv_bipush (v := 59) hx hb dX8_readsForm_149 (by decide) ?_
  refine lv_icmp_eq (tgt := 156) hx hb dX8_readsForm_151 (by decide) (fun hc => ?_) (fun hc => ?_)
  · have hf := if_t hf hc
    refine lv_aload_n hx hb dX8_readsForm_156 rfl (lv_at hl 0 rfl) ?_
    refine lv_dup hx hb dX8_readsForm_157 rfl ?_
    refine gf_X8_at E hP w_804 dX8_readsForm_158 ?_
    refine lv_iconst (v := 1) hx hb dX8_readsForm_161 (by decide) ?_
    refine lv_iadd hx hb dX8_readsForm_162 ?_
    refine lt_e hf (fun M_163 hM_163 hf => ?_)
    refine pf_X8_at E hP hS hM_163 w_804 dX8_readsForm_163 (fun H locs hP hS => ?_)
    refine lv_iconst (v := 1) hx hb dX8_readsForm_166 (by decide) ?_
    exact en_i hf hx hb hr rfl hlocks hP hS dX8_readsForm_167
  · have hf := if_f hf hc
    exact w_X8_readsForm_b154 E hf hP hS (lv_sub hl [] rfl)
set_option maxHeartbeats 4000000 in
set_option maxRecDepth 100000 in
theorem w_X8_readsForm_b133 {p : Program} {l : Launch} {e : Env} {s : State} {m : MethodId} {args : Array Value} {below : List Frame} {meth : Method} {c : Code} {G : GG} {sz : Nat} {r : Int32} {M' : Mem} (E : Cx p s m args meth c cX8_readsForm (some .boolean) 4 RX8 G) {x2 : Int32} {x3 : Int32} {M : Mem} {H : Heap} {locs : List Loc} {ls : Array Slot} (hf : f_X8_readsForm_b133 x2 x3 M = some (r, M')) (hP : PW G (AM G) (XM G) sz M s H) (hS : va_S (AM G) s.heap H locs) (hl : lv_has ls 4 [(0, .ref (adM G 0 0)), (2, .int x2), (3, .int x3)]) : W p l e rm_X8_readsForm s m args below meth c H locs 0 0 (MQ below (va_Qi (fun (r2 : Int32) (_ : Unit) => r2 = r) (fun _ t => PW G (AM G) (XM G) sz M' t t.heap) (AM G)) args s 0 0 (AM G)) (F0 m 133 ls []) := by
  obtain ⟨hx, hb, hr, hlocks, hml, hown, hts, hK⟩ := id E
  unfold f_X8_readsForm_b133 at hf
  refine lv_iload_n hx hb dX8_readsForm_133 rfl (lv_at hl 1 rfl) ?_
  refine lv_if_ne (tgt := 145) hx hb dX8_readsForm_134 (by decide) (fun hc => ?_) (fun hc => ?_)
  · have hf := if_f hf hc
    exact w_X8_readsForm_b145 E hf hP hS (lv_sub hl [0] rfl)
  · have hf := if_t hf hc
    refine lv_aload_n hx hb dX8_readsForm_137 rfl (lv_at hl 0 rfl) ?_
    refine gf_X8_at E hP w_804 dX8_readsForm_138 ?_
    refine lv_iload_n hx hb dX8_readsForm_141 rfl (lv_at hl 2 rfl) ?_
    refine lv_icmp_eq (tgt := 154) hx hb dX8_readsForm_142 (by decide) (fun hc => ?_) (fun hc => ?_)
    · have hf := if_t hf hc
      exact w_X8_readsForm_b154 E hf hP hS (lv_sub hl [] rfl)
    · have hf := if_f hf hc
      exact w_X8_readsForm_b145 E hf hP hS (lv_sub hl [0] rfl)
set_option maxHeartbeats 4000000 in
set_option maxRecDepth 100000 in
theorem w_X8_readsForm_b73 {p : Program} {l : Launch} {e : Env} {s : State} {m : MethodId} {args : Array Value} {below : List Frame} {meth : Method} {c : Code} {G : GG} {sz : Nat} {r : Int32} {M' : Mem} (E : Cx p s m args meth c cX8_readsForm (some .boolean) 4 RX8 G) : ∀ fu : Nat, ∀ (x2 : Int32) (x3 : Int32) (M : Mem) (H : Heap) (locs : List Loc) (ls : Array Slot), f_X8_readsForm_b73 fu x2 x3 M = some (r, M') → PW G (AM G) (XM G) sz M s H → va_S (AM G) s.heap H locs → lv_has ls 4 [(0, .ref (adM G 0 0)), (2, .int x2), (3, .int x3)] → W p l e rm_X8_readsForm s m args below meth c H locs 0 0 (MQ below (va_Qi (fun (r2 : Int32) (_ : Unit) => r2 = r) (fun _ t => PW G (AM G) (XM G) sz M' t t.heap) (AM G)) args s 0 0 (AM G)) (F0 m 73 ls []) := by
  obtain ⟨hx, hb, hr, hlocks, hml, hown, hts, hK⟩ := id E
  intro fu
  induction fu with
  | zero => intro x2 x3 M H locs ls hf hP hS hl; cases hf
  | succ fu ih =>
    intro x2 x3 M H locs ls hf hP hS hl
    rw [f_X8_readsForm_b73.eq_2] at hf
    refine lv_iload_n hx hb dX8_readsForm_73 rfl (lv_at hl 1 rfl) ?_
    refine lv_if_ne (tgt := 133) hx hb dX8_readsForm_74 (by decide) (fun hc => ?_) (fun hc => ?_)
    · have hf := if_f hf hc
      exact w_X8_readsForm_b133 E hf hP hS (lv_sub hl [0, 1, 2] rfl)
    · have hf := if_t hf hc
      refine lv_aload_n hx hb dX8_readsForm_77 rfl (lv_at hl 0 rfl) ?_
      refine gf_X8_at E hP w_804 dX8_readsForm_78 ?_
      refine lv_iload_n hx hb dX8_readsForm_81 rfl (lv_at hl 2 rfl) ?_
      refine lv_iconst (v := 3) hx hb dX8_readsForm_82 (by decide) ?_
      refine lv_iadd hx hb dX8_readsForm_83 ?_
      refine lv_icmp_ge (tgt := 133) hx hb dX8_readsForm_84 (by decide) (fun hc => ?_) (fun hc => ?_)
      · have hf := if_t hf hc
        exact w_X8_readsForm_b133 E hf hP hS (lv_sub hl [0, 1, 2] rfl)
      · have hf := if_f hf hc
        refine lv_aload_n hx hb dX8_readsForm_87 rfl (lv_at hl 0 rfl) ?_
        refine ob_e hf (fun r_88 M_88 hq hf => ?_)
        refine cv_X8_sign E hP hS hq w_1128 ⟨Nat.le_of_ble_eq_true rfl, Nat.le_of_ble_eq_true rfl⟩ hl (Nat.le_of_ble_eq_true rfl) dX8_readsForm_88 ⟨Nat.le_of_ble_eq_true rfl, Nat.le_of_ble_eq_true rfl⟩ (fun H locs hP hS => ?_)
        refine lv_bipush (v := 48) hx hb dX8_readsForm_91 (by decide) ?_
        refine lv_bipush (v := 57) hx hb dX8_readsForm_93 (by decide) ?_
        refine ob_e hf (fun r_95 M_95 hq hf => ?_)
        refine cv_X8_in E hP hS hq w_851 ⟨Nat.le_of_ble_eq_true rfl, Nat.le_of_ble_eq_true rfl⟩ hl (Nat.le_of_ble_eq_true rfl) dX8_readsForm_95 ⟨Nat.le_of_ble_eq_true rfl, Nat.le_of_ble_eq_true rfl⟩ (fun H locs hP hS => ?_)
        refine lv_if_eq (tgt := 133) hx hb dX8_readsForm_98 (by decide) (fun hc => ?_) (fun hc => ?_)
        · have hf := if_t hf hc
          exact w_X8_readsForm_b133 E hf hP hS (lv_sub hl [0, 1, 2] rfl)
        · have hf := if_f hf hc
          refine lv_aload_n hx hb dX8_readsForm_101 rfl (lv_at hl 0 rfl) ?_
          refine lv_bipush (v := 10) hx hb dX8_readsForm_102 (by decide) ?_
          refine lv_aload_n hx hb dX8_readsForm_104 rfl (lv_at hl 0 rfl) ?_
          refine gf_X8_got E hP w_805 dX8_readsForm_105 ?_
          refine lv_imul hx hb dX8_readsForm_108 ?_
          refine lv_aload_n hx hb dX8_readsForm_109 rfl (lv_at hl 0 rfl) ?_
          refine ob_e hf (fun r_110 M_110 hq hf => ?_)
          refine cv_X8_sign E hP hS hq w_1128 ⟨Nat.le_of_ble_eq_true rfl, Nat.le_of_ble_eq_true rfl⟩ hl (Nat.le_of_ble_eq_true rfl) dX8_readsForm_110 ⟨Nat.le_of_ble_eq_true rfl, Nat.le_of_ble_eq_true rfl⟩ (fun H locs hP hS => ?_)
          refine lv_iadd hx hb dX8_readsForm_113 ?_
          refine lv_bipush (v := 48) hx hb dX8_readsForm_114 (by decide) ?_
          refine lv_isub hx hb dX8_readsForm_116 ?_
          refine lt_e hf (fun M_117 hM_117 hf => ?_)
          refine pf_X8_got E hP hS hM_117 w_805 dX8_readsForm_117 (fun H locs hP hS => ?_)
          refine lv_aload_n hx hb dX8_readsForm_120 rfl (lv_at hl 0 rfl) ?_
          refine lv_dup hx hb dX8_readsForm_121 rfl ?_
          refine gf_X8_at E hP w_804 dX8_readsForm_122 ?_
          refine lv_iconst (v := 1) hx hb dX8_readsForm_125 (by decide) ?_
          refine lv_iadd hx hb dX8_readsForm_126 ?_
          refine lt_e hf (fun M_127 hM_127 hf => ?_)
          refine pf_X8_at E hP hS hM_127 w_804 dX8_readsForm_127 (fun H locs hP hS => ?_)
          refine lv_goto (tgt := 73) hx hb dX8_readsForm_130 (by decide) ?_
          exact ih _ _ _ _ _ _ hf hP hS (lv_sub hl [0, 1, 2] rfl)
set_option maxHeartbeats 4000000 in
set_option maxRecDepth 100000 in
theorem w_X8_readsForm_b53 {p : Program} {l : Launch} {e : Env} {s : State} {m : MethodId} {args : Array Value} {below : List Frame} {meth : Method} {c : Code} {G : GG} {sz : Nat} {r : Int32} {M' : Mem} (E : Cx p s m args meth c cX8_readsForm (some .boolean) 4 RX8 G) {x2 : Int32} {M : Mem} {H : Heap} {locs : List Loc} {ls : Array Slot} (hf : f_X8_readsForm_b53 x2 M = some (r, M')) (hP : PW G (AM G) (XM G) sz M s H) (hS : va_S (AM G) s.heap H locs) (hl : lv_has ls 4 [(0, .ref (adM G 0 0)), (2, .int x2)]) : W p l e rm_X8_readsForm s m args below meth c H locs 0 0 (MQ below (va_Qi (fun (r2 : Int32) (_ : Unit) => r2 = r) (fun _ t => PW G (AM G) (XM G) sz M' t t.heap) (AM G)) args s 0 0 (AM G)) (F0 m 53 ls []) := by
  obtain ⟨hx, hb, hr, hlocks, hml, hown, hts, hK⟩ := id E
  unfold f_X8_readsForm_b53 at hf
  refine lv_aload_n hx hb dX8_readsForm_53 rfl (lv_at hl 0 rfl) ?_
  refine lv_dup hx hb dX8_readsForm_54 rfl ?_
  refine gf_X8_at E hP w_804 dX8_readsForm_55 ?_
  refine lv_iconst (v := 1) hx hb dX8_readsForm_58 (by decide) ?_
  refine lv_iadd hx hb dX8_readsForm_59 ?_
  refine lt_e hf (fun M_60 hM_60 hf => ?_)
  refine pf_X8_at E hP hS hM_60 w_804 dX8_readsForm_60 (fun H locs hP hS => ?_)
  refine lv_aload_n hx hb dX8_readsForm_63 rfl (lv_at hl 0 rfl) ?_
  refine lv_iconst (v := 0) hx hb dX8_readsForm_64 (by decide) ?_
  refine lt_e hf (fun M_65 hM_65 hf => ?_)
  refine pf_X8_got E hP hS hM_65 w_805 dX8_readsForm_65 (fun H locs hP hS => ?_)
  refine lv_aload_n hx hb dX8_readsForm_68 rfl (lv_at hl 0 rfl) ?_
  refine gf_X8_at E hP w_804 dX8_readsForm_69 ?_
  refine lt_e hf (fun x3_72 hx3_72 hf => ?_)
  refine kr_nm hx3_72 ?_
  refine lv_istore_n (lv' := [(3, .int x3_72), (0, .ref (adM G 0 0)), (2, .int x2)]) hx hb dX8_readsForm_72 rfl hl (by decide) rfl (fun ls hl => ?_)
  exact w_X8_readsForm_b73 E 1000 _ _ _ _ _ _ hf hP hS (lv_sub hl [1, 2, 0] rfl)
set_option maxHeartbeats 4000000 in
set_option maxRecDepth 100000 in
theorem w_X8_readsForm_b22 {p : Program} {l : Launch} {e : Env} {s : State} {m : MethodId} {args : Array Value} {below : List Frame} {meth : Method} {c : Code} {G : GG} {sz : Nat} {r : Int32} {M' : Mem} (E : Cx p s m args meth c cX8_readsForm (some .boolean) 4 RX8 G) {x1 : Int32} {s0 : Int32} {M : Mem} {H : Heap} {locs : List Loc} {ls : Array Slot} (hf : f_X8_readsForm_b22 x1 s0 M = some (r, M')) (hP : PW G (AM G) (XM G) sz M s H) (hS : va_S (AM G) s.heap H locs) (hl : lv_has ls 4 [(0, .ref (adM G 0 0)), (1, .int x1)]) : W p l e rm_X8_readsForm s m args below meth c H locs 0 0 (MQ below (va_Qi (fun (r2 : Int32) (_ : Unit) => r2 = r) (fun _ t => PW G (AM G) (XM G) sz M' t t.heap) (AM G)) args s 0 0 (AM G)) (F0 m 22 ls [.int s0]) := by
  obtain ⟨hx, hb, hr, hlocks, hml, hown, hts, hK⟩ := id E
  unfold f_X8_readsForm_b22 at hf
  refine lv_istore_n (lv' := [(2, .int s0), (0, .ref (adM G 0 0)), (1, .int x1)]) hx hb dX8_readsForm_22 rfl hl (by decide) rfl (fun ls hl => ?_)
  refine lv_iload_n hx hb dX8_readsForm_23 rfl (lv_at hl 0 rfl) ?_
  refine lv_if_ne (tgt := 53) hx hb dX8_readsForm_24 (by decide) (fun hc => ?_) (fun hc => ?_)
  · have hf := if_f hf hc
    exact w_X8_readsForm_b53 E hf hP hS (lv_sub hl [1, 0] rfl)
  · have hf := if_t hf hc
    refine lv_iload_n hx hb dX8_readsForm_27 rfl (lv_at hl 2 rfl) ?_
    refine lv_bipush (v := 112) hx hb dX8_readsForm_28 (by decide) ?_
    refine lv_icmp_eq (tgt := 53) hx hb dX8_readsForm_30 (by decide) (fun hc => ?_) (fun hc => ?_)
    · have hf := if_t hf hc
      exact w_X8_readsForm_b53 E hf hP hS (lv_sub hl [1, 0] rfl)
    · have hf := if_f hf hc
      refine lv_iload_n hx hb dX8_readsForm_33 rfl (lv_at hl 2 rfl) ?_
      refine lv_bipush (v := 100) hx hb dX8_readsForm_34 (by decide) ?_
      refine lv_icmp_eq (tgt := 53) hx hb dX8_readsForm_36 (by decide) (fun hc => ?_) (fun hc => ?_)
      · have hf := if_t hf hc
        exact w_X8_readsForm_b53 E hf hP hS (lv_sub hl [1, 0] rfl)
      · have hf := if_f hf hc
        refine lv_iload_n hx hb dX8_readsForm_39 rfl (lv_at hl 2 rfl) ?_
        refine lv_bipush (v := 114) hx hb dX8_readsForm_40 (by decide) ?_
        refine lv_icmp_eq (tgt := 53) hx hb dX8_readsForm_42 (by decide) (fun hc => ?_) (fun hc => ?_)
        · have hf := if_t hf hc
          exact w_X8_readsForm_b53 E hf hP hS (lv_sub hl [1, 0] rfl)
        · have hf := if_f hf hc
          refine lv_iload_n hx hb dX8_readsForm_45 rfl (lv_at hl 2 rfl) ?_
          refine lv_bipush (v := 119) hx hb dX8_readsForm_46 (by decide) ?_
          refine lv_icmp_eq (tgt := 53) hx hb dX8_readsForm_48 (by decide) (fun hc => ?_) (fun hc => ?_)
          · have hf := if_t hf hc
            exact w_X8_readsForm_b53 E hf hP hS (lv_sub hl [1, 0] rfl)
          · have hf := if_f hf hc
            refine lv_iconst (v := 0) hx hb dX8_readsForm_51 (by decide) ?_
            exact en_i hf hx hb hr rfl hlocks hP hS dX8_readsForm_52
set_option maxHeartbeats 4000000 in
set_option maxRecDepth 100000 in
theorem w_X8_readsForm_b17 {p : Program} {l : Launch} {e : Env} {s : State} {m : MethodId} {args : Array Value} {below : List Frame} {meth : Method} {c : Code} {G : GG} {sz : Nat} {r : Int32} {M' : Mem} (E : Cx p s m args meth c cX8_readsForm (some .boolean) 4 RX8 G) {x1 : Int32} {M : Mem} {H : Heap} {locs : List Loc} {ls : Array Slot} (hf : f_X8_readsForm_b17 x1 M = some (r, M')) (hP : PW G (AM G) (XM G) sz M s H) (hS : va_S (AM G) s.heap H locs) (hl : lv_has ls 4 [(0, .ref (adM G 0 0)), (1, .int x1)]) : W p l e rm_X8_readsForm s m args below meth c H locs 0 0 (MQ below (va_Qi (fun (r2 : Int32) (_ : Unit) => r2 = r) (fun _ t => PW G (AM G) (XM G) sz M' t t.heap) (AM G)) args s 0 0 (AM G)) (F0 m 17 ls []) := by
  obtain ⟨hx, hb, hr, hlocks, hml, hown, hts, hK⟩ := id E
  unfold f_X8_readsForm_b17 at hf
  refine lv_iconst (v := 1) hx hb dX8_readsForm_17 (by decide) ?_
  refine lv_goto (tgt := 22) hx hb dX8_readsForm_18 (by decide) ?_
  exact w_X8_readsForm_b22 E hf hP hS (lv_sub hl [0, 1] rfl)
set_option maxHeartbeats 4000000 in
set_option maxRecDepth 100000 in
theorem w_X8_readsForm {p : Program} {l : Launch} {e : Env} {s : State} {m : MethodId} {args : Array Value} {below : List Frame} {meth : Method} {c : Code} {G : GG} {sz : Nat} {r : Int32} {M' : Mem} (E : Cx p s m args meth c cX8_readsForm (some .boolean) 4 RX8 G) {M : Mem} {H : Heap} {locs : List Loc} {ls : Array Slot} (hf : f_X8_readsForm M = some (r, M')) (hP : PW G (AM G) (XM G) sz M s H) (hS : va_S (AM G) s.heap H locs) (hl : lv_has ls 4 [(0, .ref (adM G 0 0))]) : W p l e rm_X8_readsForm s m args below meth c H locs 0 0 (MQ below (va_Qi (fun (r2 : Int32) (_ : Unit) => r2 = r) (fun _ t => PW G (AM G) (XM G) sz M' t t.heap) (AM G)) args s 0 0 (AM G)) (F0 m 0 ls []) := by
  obtain ⟨hx, hb, hr, hlocks, hml, hown, hts, hK⟩ := id E
  unfold f_X8_readsForm at hf
  refine lv_aload_n hx hb dX8_readsForm_0 rfl (lv_at hl 0 rfl) ?_
  refine ob_e hf (fun r_1 M_1 hq hf => ?_)
  refine cv_X8_sign E hP hS hq w_1128 ⟨Nat.le_of_ble_eq_true rfl, Nat.le_of_ble_eq_true rfl⟩ hl (Nat.le_of_ble_eq_true rfl) dX8_readsForm_1 ⟨Nat.le_of_ble_eq_true rfl, Nat.le_of_ble_eq_true rfl⟩ (fun H locs hP hS => ?_)
  refine lv_istore_n (lv' := [(1, .int r_1), (0, .ref (adM G 0 0))]) hx hb dX8_readsForm_4 rfl hl (by decide) rfl (fun ls hl => ?_)
  refine lv_iload_n hx hb dX8_readsForm_5 rfl (lv_at hl 0 rfl) ?_
  refine lv_bipush (v := 104) hx hb dX8_readsForm_6 (by decide) ?_
  refine lv_icmp_eq (tgt := 17) hx hb dX8_readsForm_8 (by decide) (fun hc => ?_) (fun hc => ?_)
  · have hf := if_t hf hc
    exact w_X8_readsForm_b17 E hf hP hS (lv_sub hl [1, 0] rfl)
  · have hf := if_f hf hc
    refine lv_iload_n hx hb dX8_readsForm_11 rfl (lv_at hl 0 rfl) ?_
    refine lv_bipush (v := 99) hx hb dX8_readsForm_12 (by decide) ?_
    refine lv_icmp_ne (tgt := 21) hx hb dX8_readsForm_14 (by decide) (fun hc => ?_) (fun hc => ?_)
    · have hf := if_f hf hc
      refine lv_iconst (v := 0) hx hb dX8_readsForm_21 (by decide) ?_
      exact w_X8_readsForm_b22 E hf hP hS (lv_sub hl [1, 0] rfl)
    · have hf := if_t hf hc
      exact w_X8_readsForm_b17 E hf hP hS (lv_sub hl [1, 0] rfl)
theorem c_X8_readsForm (l : Launch) {G : GG} {sz : Nat} {M : Mem} {r : Int32} {M' : Mem} (hf : f_X8_readsForm M = some (r, M')) : CtI l yX8_readsForm cX8_readsForm 4 (some .boolean) rm_X8_readsForm [.ref (adM G 0 0)] G (AM G) (XM G) sz M r (XM G) sz M' := by
  refine Ct_of (by decide) (Nat.le_of_ble_eq_true rfl) (fun p e s m below meth c ls hx hb hr hlocks hml hown hts hK hP hl => ?_)
  exact w_X8_readsForm ⟨hx, hb, hr, hlocks, hml, hown, hts, hK⟩ hf hP va_S.rf hl
set_option maxRecDepth 100000 in
theorem cv_X8_readsForm {p : Program} {l : Launch} {e : Env} {R : Room} {s : State} {m : MethodId} {args : Array Value} {below : List Frame} {meth : Method} {c : Code} {H : Heap} {locs : List Loc} {cells slots : Nat} {Q : State → Prop} {cc : ByteArray} {pc nL index : Nat} {ret : Option FieldType} {own : String} {ls : Array Slot} {rest : List Value} {l' : List (Nat × Value)} {G : GG} {sz : Nat} {M : Mem} (E : Cx p s m args meth c cc ret nL own G) (hP : PW G (AM G) (XM G) sz M s H) (hS : va_S (AM G) s.heap H locs) {r : Int32} {M' : Mem} (hq : f_X8_readsForm M = some (r, M')) (w1 : Cond.methodLink own index yX8_readsForm ∈ lw_all) (hR : 2 ≤ R.frames ∧ 45 ≤ R.locals) (hl : lv_has ls nL l') (hrest : (rest.map fun v => v.category).sum ≤ 8) (hdg : decode cc pc = .ok (.invokevirtual index, 3)) (hcs : cells ≤ R.cells ∧ slots ≤ R.slots)
    (kk : ∀ (H1 : Heap) (locs1 : List Loc), PW G (AM G) (XM G) sz M' s H1 → va_S (AM G) s.heap H1 locs1 → W p l e R s m args below meth c H1 locs1 cells slots Q (F0 m (pc + 3) ls (.int r :: rest))) : W p l e R s m args below meth c H locs cells slots Q (F0 m pc ls (.ref (adM G 0 0) :: rest)) := by
  obtain ⟨hx, hb, hr, hlocks, hml, hown, hts, hK⟩ := E
  exact kc_i (kc_runV (na := 0) (q := (RX8, TX8, 16)) hx hb hml hts hown hK hP 0 0 ⟨rfl, by decide⟩ rfl rfl rfl (c_X8_readsForm l hq) w1 w_1134 ws_51 w_9 w_1135 (by decide +kernel) hR rfl hl rfl hrest hdg hcs) hS kk
/-! X8_does -/
abbrev rm_X8_does : Room := { frames := 6, cells := 0, slots := 0, locals := 150 }
def f_X8_does (x1 : Int32) (M : Mem) : Option (Int32 × Mem) :=
(if x1 = 100 then
  ob (f_X8_draws (M 0 0 8) 0 M) fun r_72 M_72 =>
  some (r_72, M_72)
else
(if x1 = 104 then
  ob (f_X8_goesHome M) fun r_62 M_62 =>
  some (r_62, M_62)
else
(if x1 = 112 then
  ob (f_X8_takes (M 0 0 8) M) fun r_57 M_57 =>
  some (r_57, M_57)
else
(if x1 = 114 then
  ob (f_X8_draws (M 0 0 8) 1 M) fun r_82 M_82 =>
  some (r_82, M_82)
else
(if x1 = 119 then
  ob (f_X8_waited (M 0 0 8) M) fun r_91 M_91 =>
  some (r_91, M_91)
else
  ob (f_X8_cleans M) fun r_96 M_96 =>
  some (r_96, M_96))))))
set_option maxHeartbeats 4000000 in
set_option maxRecDepth 100000 in
theorem w_X8_does {p : Program} {l : Launch} {e : Env} {s : State} {m : MethodId} {args : Array Value} {below : List Frame} {meth : Method} {c : Code} {G : GG} {sz : Nat} {r : Int32} {M' : Mem} (E : Cx p s m args meth c cX8_does (some .int) 2 RX8 G) {x1 : Int32} {M : Mem} {H : Heap} {locs : List Loc} {ls : Array Slot} (hf : f_X8_does x1 M = some (r, M')) (hP : PW G (AM G) (XM G) sz M s H) (hS : va_S (AM G) s.heap H locs) (hl : lv_has ls 2 [(0, .ref (adM G 0 0)), (1, .int x1)]) : W p l e rm_X8_does s m args below meth c H locs 0 0 (MQ below (va_Qi (fun (r2 : Int32) (_ : Unit) => r2 = r) (fun _ t => PW G (AM G) (XM G) sz M' t t.heap) (AM G)) args s 0 0 (AM G)) (F0 m 0 ls []) := by
  obtain ⟨hx, hb, hr, hlocks, hml, hown, hts, hK⟩ := id E
  unfold f_X8_does at hf
  refine lv_iload_n hx hb dX8_does_0 rfl (lv_at hl 1 rfl) ?_
  by_cases hc100 : x1 = 100
  · have hf := if_t hf hc100
    refine kr_lk hx hb hc100 (tgt := 66) dX8_does_1 (by decide) (by decide) ?_
    refine lv_aload_n hx hb dX8_does_66 rfl (lv_at hl 0 rfl) ?_
    refine lv_aload_n hx hb dX8_does_67 rfl (lv_at hl 0 rfl) ?_
    refine gf_X8_got E hP w_805 dX8_does_68 ?_
    refine lv_iconst (v := 0) hx hb dX8_does_71 (by decide) ?_
    refine ob_e hf (fun r_72 M_72 hq hf => ?_)
    refine cv_X8_draws E hP hS hq w_969 ⟨Nat.le_of_ble_eq_true rfl, Nat.le_of_ble_eq_true rfl⟩ hl (Nat.le_of_ble_eq_true rfl) dX8_does_72 ⟨Nat.le_of_ble_eq_true rfl, Nat.le_of_ble_eq_true rfl⟩ (fun H locs hP hS => ?_)
    exact en_i hf hx hb hr rfl hlocks hP hS dX8_does_75
  have hf := if_f hf hc100
  by_cases hc104 : x1 = 104
  · have hf := if_t hf hc104
    refine kr_lk hx hb hc104 (tgt := 61) dX8_does_1 (by decide) (by decide) ?_
    refine lv_aload_n hx hb dX8_does_61 rfl (lv_at hl 0 rfl) ?_
    refine ob_e hf (fun r_62 M_62 hq hf => ?_)
    refine cv_X8_goesHome E hP hS hq w_961 ⟨Nat.le_of_ble_eq_true rfl, Nat.le_of_ble_eq_true rfl⟩ hl (Nat.le_of_ble_eq_true rfl) dX8_does_62 ⟨Nat.le_of_ble_eq_true rfl, Nat.le_of_ble_eq_true rfl⟩ (fun H locs hP hS => ?_)
    exact en_i hf hx hb hr rfl hlocks hP hS dX8_does_65
  have hf := if_f hf hc104
  by_cases hc112 : x1 = 112
  · have hf := if_t hf hc112
    refine kr_lk hx hb hc112 (tgt := 52) dX8_does_1 (by decide) (by decide) ?_
    refine lv_aload_n hx hb dX8_does_52 rfl (lv_at hl 0 rfl) ?_
    refine lv_aload_n hx hb dX8_does_53 rfl (lv_at hl 0 rfl) ?_
    refine gf_X8_got E hP w_805 dX8_does_54 ?_
    refine ob_e hf (fun r_57 M_57 hq hf => ?_)
    refine cv_X8_takes E hP hS hq w_948 ⟨Nat.le_of_ble_eq_true rfl, Nat.le_of_ble_eq_true rfl⟩ hl (Nat.le_of_ble_eq_true rfl) dX8_does_57 ⟨Nat.le_of_ble_eq_true rfl, Nat.le_of_ble_eq_true rfl⟩ (fun H locs hP hS => ?_)
    exact en_i hf hx hb hr rfl hlocks hP hS dX8_does_60
  have hf := if_f hf hc112
  by_cases hc114 : x1 = 114
  · have hf := if_t hf hc114
    refine kr_lk hx hb hc114 (tgt := 76) dX8_does_1 (by decide) (by decide) ?_
    refine lv_aload_n hx hb dX8_does_76 rfl (lv_at hl 0 rfl) ?_
    refine lv_aload_n hx hb dX8_does_77 rfl (lv_at hl 0 rfl) ?_
    refine gf_X8_got E hP w_805 dX8_does_78 ?_
    refine lv_iconst (v := 1) hx hb dX8_does_81 (by decide) ?_
    refine ob_e hf (fun r_82 M_82 hq hf => ?_)
    refine cv_X8_draws E hP hS hq w_969 ⟨Nat.le_of_ble_eq_true rfl, Nat.le_of_ble_eq_true rfl⟩ hl (Nat.le_of_ble_eq_true rfl) dX8_does_82 ⟨Nat.le_of_ble_eq_true rfl, Nat.le_of_ble_eq_true rfl⟩ (fun H locs hP hS => ?_)
    exact en_i hf hx hb hr rfl hlocks hP hS dX8_does_85
  have hf := if_f hf hc114
  by_cases hc119 : x1 = 119
  · have hf := if_t hf hc119
    refine kr_lk hx hb hc119 (tgt := 86) dX8_does_1 (by decide) (by decide) ?_
    refine lv_aload_n hx hb dX8_does_86 rfl (lv_at hl 0 rfl) ?_
    refine lv_aload_n hx hb dX8_does_87 rfl (lv_at hl 0 rfl) ?_
    refine gf_X8_got E hP w_805 dX8_does_88 ?_
    refine ob_e hf (fun r_91 M_91 hq hf => ?_)
    refine cv_X8_waited E hP hS hq w_1018 ⟨Nat.le_of_ble_eq_true rfl, Nat.le_of_ble_eq_true rfl⟩ hl (Nat.le_of_ble_eq_true rfl) dX8_does_91 ⟨Nat.le_of_ble_eq_true rfl, Nat.le_of_ble_eq_true rfl⟩ (fun H locs hP hS => ?_)
    exact en_i hf hx hb hr rfl hlocks hP hS dX8_does_94
  have hf := if_f hf hc119
  have hn100 := lv_neT hc100 (a := 100) (by decide)
  have hn104 := lv_neT hc104 (a := 104) (by decide)
  have hn112 := lv_neT hc112 (a := 112) (by decide)
  have hn114 := lv_neT hc114 (a := 114) (by decide)
  have hn119 := lv_neT hc119 (a := 119) (by decide)
  refine lv_lookup (tgt := 95) (off := 94) hx hb dX8_does_1 (by decide) (by rw [show (Array.toList _ : List (Int × Int)) = _ from rfl, lv_osw hc100 (by decide), lv_osw hc104 (by decide), lv_osw hc112 (by decide), lv_osw hc114 (by decide), lv_osw hc119 (by decide)] <;> rfl) (by decide) ?_
  refine lv_aload_n hx hb dX8_does_95 rfl (lv_at hl 0 rfl) ?_
  refine ob_e hf (fun r_96 M_96 hq hf => ?_)
  refine cv_X8_cleans E hP hS hq w_1026 ⟨Nat.le_of_ble_eq_true rfl, Nat.le_of_ble_eq_true rfl⟩ hl (Nat.le_of_ble_eq_true rfl) dX8_does_96 ⟨Nat.le_of_ble_eq_true rfl, Nat.le_of_ble_eq_true rfl⟩ (fun H locs hP hS => ?_)
  exact en_i hf hx hb hr rfl hlocks hP hS dX8_does_99
theorem c_X8_does (l : Launch) {G : GG} {sz : Nat} {x1 : Int32} {M : Mem} {r : Int32} {M' : Mem} (hf : f_X8_does x1 M = some (r, M')) : CtI l yX8_does cX8_does 2 (some .int) rm_X8_does [.ref (adM G 0 0), .int x1] G (AM G) (XM G) sz M r (XM G) sz M' := by
  refine Ct_of (by decide) (Nat.le_of_ble_eq_true rfl) (fun p e s m below meth c ls hx hb hr hlocks hml hown hts hK hP hl => ?_)
  exact w_X8_does ⟨hx, hb, hr, hlocks, hml, hown, hts, hK⟩ hf hP va_S.rf hl
set_option maxRecDepth 100000 in
theorem cv_X8_does {p : Program} {l : Launch} {e : Env} {R : Room} {s : State} {m : MethodId} {args : Array Value} {below : List Frame} {meth : Method} {c : Code} {H : Heap} {locs : List Loc} {cells slots : Nat} {Q : State → Prop} {cc : ByteArray} {pc nL index : Nat} {ret : Option FieldType} {own : String} {ls : Array Slot} {rest : List Value} {l' : List (Nat × Value)} {G : GG} {sz : Nat} {M : Mem} (E : Cx p s m args meth c cc ret nL own G) (hP : PW G (AM G) (XM G) sz M s H) (hS : va_S (AM G) s.heap H locs) {x1 : Int32} {r : Int32} {M' : Mem} (hq : f_X8_does x1 M = some (r, M')) (w1 : Cond.methodLink own index yX8_does ∈ lw_all) (hR : 7 ≤ R.frames ∧ 171 ≤ R.locals) (hl : lv_has ls nL l') (hrest : (rest.map fun v => v.category).sum ≤ 8) (hdg : decode cc pc = .ok (.invokevirtual index, 3)) (hcs : cells ≤ R.cells ∧ slots ≤ R.slots)
    (kk : ∀ (H1 : Heap) (locs1 : List Loc), PW G (AM G) (XM G) sz M' s H1 → va_S (AM G) s.heap H1 locs1 → W p l e R s m args below meth c H1 locs1 cells slots Q (F0 m (pc + 3) ls (.int r :: rest))) : W p l e R s m args below meth c H locs cells slots Q (F0 m pc ls (.int x1 :: .ref (adM G 0 0) :: rest)) := by
  obtain ⟨hx, hb, hr, hlocks, hml, hown, hts, hK⟩ := E
  exact kc_i (kc_runV (na := 1) (q := (RX8, TX8, 16)) hx hb hml hts hown hK hP 0 0 ⟨rfl, by decide⟩ rfl rfl rfl (c_X8_does l hq) w1 w_1138 ws_52 w_9 w_1139 (by decide +kernel) hR rfl hl rfl hrest hdg hcs) hS kk
/-! X8_doesNext -/
abbrev rm_X8_doesNext : Room := { frames := 7, cells := 0, slots := 0, locals := 171 }
def f_X8_doesNext_b116 (x2 : Int32) (s0 : Int32) (M : Mem) : Option (Int32 × Mem) :=
ob (f_X8_does x2 M) fun r_120 M_120 =>
(if (-1000001) < r_120 then
  some (0, M_120)
else
  lt (up3 M_120 0 0 10 s0) fun M_131 =>
  some (3, M_131))
def f_X8_doesNext_b107 (x2 : Int32) (s1 : Int32) (s2 : Int32) (M : Mem) : Option (Int32 × Mem) :=
ob (f_X8_why s1 s2 0 M) fun r_108 M_108 =>
f_X8_doesNext_b116 x2 r_108 M_108
def f_X8_doesNext_b87 (x2 : Int32) (x3 : Int32) (M : Mem) : Option (Int32 × Mem) :=
(if x3 = 0 then
  f_X8_doesNext_b116 x2 (-1000004) M
else
  (if x2 = 100 then
    f_X8_doesNext_b107 x2 ((M 0 0 8)) 0 M
  else
    f_X8_doesNext_b107 x2 ((M 0 0 8)) 1 M))
def f_X8_doesNext_b85 (M : Mem) : Option (Int32 × Mem) :=
some (2, M)
def f_X8_doesNext_b70 (x2 : Int32) (x3 : Int32) (M : Mem) : Option (Int32 × Mem) :=
(if x3 = 0 then
  f_X8_doesNext_b87 x2 x3 M
else
  ob (f_X8_isLine (M 0 0 8) M) fun r_79 M_79 =>
  (if r_79 = 0 then
    f_X8_doesNext_b85 M_79
  else
    f_X8_doesNext_b87 x2 x3 M_79))
def f_X8_doesNext_b52 (x2 : Int32) (s0 : Int32) (M : Mem) : Option (Int32 × Mem) :=
(if x2 = 112 then
  ob (f_X8_isPen (M 0 0 8) M) fun r_64 M_64 =>
  (if r_64 = 0 then
    f_X8_doesNext_b85 M_64
  else
    f_X8_doesNext_b70 x2 s0 M_64)
else
  f_X8_doesNext_b70 x2 s0 M)
def f_X8_doesNext_b47 (x2 : Int32) (M : Mem) : Option (Int32 × Mem) :=
f_X8_doesNext_b52 x2 1 M
def f_X8_doesNext (M : Mem) : Option (Int32 × Mem) :=
lt ((M 0 0 7)) fun x1_4 =>
ob (f_X8_sign M) fun r_6 M_6 =>
lt (up3 M_6 0 0 10 (-1000004)) fun M_13 =>
ob (f_X8_readsForm M_13) fun r_17 M_17 =>
(if r_17 = 0 then
  lt (up3 M_17 0 0 10 ((M_17 0 0 7) - x1_4)) fun M_30 =>
  some (1, M_30)
else
  (if r_6 = 100 then
    f_X8_doesNext_b47 r_6 M_17
  else
    (if r_6 = 114 then
      f_X8_doesNext_b47 r_6 M_17
    else
      f_X8_doesNext_b52 r_6 0 M_17)))
set_option maxHeartbeats 4000000 in
set_option maxRecDepth 100000 in
theorem w_X8_doesNext_b116 {p : Program} {l : Launch} {e : Env} {s : State} {m : MethodId} {args : Array Value} {below : List Frame} {meth : Method} {c : Code} {G : GG} {sz : Nat} {r : Int32} {M' : Mem} (E : Cx p s m args meth c cX8_doesNext (some .int) 5 RX8 G) {x2 : Int32} {s0 : Int32} {M : Mem} {H : Heap} {locs : List Loc} {ls : Array Slot} (hf : f_X8_doesNext_b116 x2 s0 M = some (r, M')) (hP : PW G (AM G) (XM G) sz M s H) (hS : va_S (AM G) s.heap H locs) (hl : lv_has ls 5 [(0, .ref (adM G 0 0)), (2, .int x2)]) : W p l e rm_X8_doesNext s m args below meth c H locs 0 0 (MQ below (va_Qi (fun (r2 : Int32) (_ : Unit) => r2 = r) (fun _ t => PW G (AM G) (XM G) sz M' t t.heap) (AM G)) args s 0 0 (AM G)) (F0 m 116 ls [.int s0]) := by
  obtain ⟨hx, hb, hr, hlocks, hml, hown, hts, hK⟩ := id E
  unfold f_X8_doesNext_b116 at hf
  refine lv_istore (lv' := [(4, .int s0), (0, .ref (adM G 0 0)), (2, .int x2)]) hx hb dX8_doesNext_116 hl (by decide) rfl (fun ls hl => ?_)
  refine lv_aload_n hx hb dX8_doesNext_118 rfl (lv_at hl 1 rfl) ?_
  refine lv_iload_n hx hb dX8_doesNext_119 rfl (lv_at hl 2 rfl) ?_
  refine ob_e hf (fun r_120 M_120 hq hf => ?_)
  refine cv_X8_does E hP hS hq w_1136 ⟨Nat.le_of_ble_eq_true rfl, Nat.le_of_ble_eq_true rfl⟩ hl (Nat.le_of_ble_eq_true rfl) dX8_doesNext_120 ⟨Nat.le_of_ble_eq_true rfl, Nat.le_of_ble_eq_true rfl⟩ (fun H locs hP hS => ?_)
  refine lv_ldc (v := (-1000001)) hx hb hown (hts _ w_854) dX8_doesNext_123 ?_
  refine lv_icmp_gt (tgt := 136) hx hb dX8_doesNext_125 (by decide) (fun hc => ?_) (fun hc => ?_)
  · have hf := if_t hf hc
    refine lv_iconst (v := 0) hx hb dX8_doesNext_136 (by decide) ?_
    exact en_i hf hx hb hr rfl hlocks hP hS dX8_doesNext_137
  · have hf := if_f hf hc
    refine lv_aload_n hx hb dX8_doesNext_128 rfl (lv_at hl 1 rfl) ?_
    refine lv_iload hx hb dX8_doesNext_129 (lv_at hl 0 rfl) ?_
    refine lt_e hf (fun M_131 hM_131 hf => ?_)
    refine pf_X8_cause E hP hS hM_131 w_807 dX8_doesNext_131 (fun H locs hP hS => ?_)
    refine lv_iconst (v := 3) hx hb dX8_doesNext_134 (by decide) ?_
    exact en_i hf hx hb hr rfl hlocks hP hS dX8_doesNext_135
set_option maxHeartbeats 4000000 in
set_option maxRecDepth 100000 in
theorem w_X8_doesNext_b107 {p : Program} {l : Launch} {e : Env} {s : State} {m : MethodId} {args : Array Value} {below : List Frame} {meth : Method} {c : Code} {G : GG} {sz : Nat} {r : Int32} {M' : Mem} (E : Cx p s m args meth c cX8_doesNext (some .int) 5 RX8 G) {x2 : Int32} {s1 : Int32} {s2 : Int32} {M : Mem} {H : Heap} {locs : List Loc} {ls : Array Slot} (hf : f_X8_doesNext_b107 x2 s1 s2 M = some (r, M')) (hP : PW G (AM G) (XM G) sz M s H) (hS : va_S (AM G) s.heap H locs) (hl : lv_has ls 5 [(0, .ref (adM G 0 0)), (2, .int x2)]) : W p l e rm_X8_doesNext s m args below meth c H locs 0 0 (MQ below (va_Qi (fun (r2 : Int32) (_ : Unit) => r2 = r) (fun _ t => PW G (AM G) (XM G) sz M' t t.heap) (AM G)) args s 0 0 (AM G)) (F0 m 107 ls [.int s2, .int s1, .ref (adM G 0 0)]) := by
  obtain ⟨hx, hb, hr, hlocks, hml, hown, hts, hK⟩ := id E
  unfold f_X8_doesNext_b107 at hf
  refine lv_iconst (v := 0) hx hb dX8_doesNext_107 (by decide) ?_
  refine ob_e hf (fun r_108 M_108 hq hf => ?_)
  refine cv_X8_why E hP hS hq w_973 ⟨Nat.le_of_ble_eq_true rfl, Nat.le_of_ble_eq_true rfl⟩ hl (Nat.le_of_ble_eq_true rfl) dX8_doesNext_108 ⟨Nat.le_of_ble_eq_true rfl, Nat.le_of_ble_eq_true rfl⟩ (fun H locs hP hS => ?_)
  refine lv_goto (tgt := 116) hx hb dX8_doesNext_111 (by decide) ?_
  exact w_X8_doesNext_b116 E hf hP hS (lv_sub hl [0, 1] rfl)
set_option maxHeartbeats 4000000 in
set_option maxRecDepth 100000 in
theorem w_X8_doesNext_b87 {p : Program} {l : Launch} {e : Env} {s : State} {m : MethodId} {args : Array Value} {below : List Frame} {meth : Method} {c : Code} {G : GG} {sz : Nat} {r : Int32} {M' : Mem} (E : Cx p s m args meth c cX8_doesNext (some .int) 5 RX8 G) {x2 : Int32} {x3 : Int32} {M : Mem} {H : Heap} {locs : List Loc} {ls : Array Slot} (hf : f_X8_doesNext_b87 x2 x3 M = some (r, M')) (hP : PW G (AM G) (XM G) sz M s H) (hS : va_S (AM G) s.heap H locs) (hl : lv_has ls 5 [(0, .ref (adM G 0 0)), (2, .int x2), (3, .int x3)]) : W p l e rm_X8_doesNext s m args below meth c H locs 0 0 (MQ below (va_Qi (fun (r2 : Int32) (_ : Unit) => r2 = r) (fun _ t => PW G (AM G) (XM G) sz M' t t.heap) (AM G)) args s 0 0 (AM G)) (F0 m 87 ls []) := by
  obtain ⟨hx, hb, hr, hlocks, hml, hown, hts, hK⟩ := id E
  unfold f_X8_doesNext_b87 at hf
  refine lv_iload_n hx hb dX8_doesNext_87 rfl (lv_at hl 2 rfl) ?_
  refine lv_if_eq (tgt := 114) hx hb dX8_doesNext_88 (by decide) (fun hc => ?_) (fun hc => ?_)
  · have hf := if_t hf hc
    refine lv_ldc (v := (-1000004)) hx hb hown (hts _ w_939) dX8_doesNext_114 ?_
    exact w_X8_doesNext_b116 E hf hP hS (lv_sub hl [0, 1] rfl)
  · have hf := if_f hf hc
    refine lv_aload_n hx hb dX8_doesNext_91 rfl (lv_at hl 0 rfl) ?_
    refine lv_aload_n hx hb dX8_doesNext_92 rfl (lv_at hl 0 rfl) ?_
    refine gf_X8_got E hP w_805 dX8_doesNext_93 ?_
    refine lv_iload_n hx hb dX8_doesNext_96 rfl (lv_at hl 1 rfl) ?_
    refine lv_bipush (v := 100) hx hb dX8_doesNext_97 (by decide) ?_
    refine lv_icmp_ne (tgt := 106) hx hb dX8_doesNext_99 (by decide) (fun hc => ?_) (fun hc => ?_)
    · have hf := if_f hf hc
      refine lv_iconst (v := 1) hx hb dX8_doesNext_106 (by decide) ?_
      exact w_X8_doesNext_b107 E hf hP hS (lv_sub hl [0, 1] rfl)
    · have hf := if_t hf hc
      refine lv_iconst (v := 0) hx hb dX8_doesNext_102 (by decide) ?_
      refine lv_goto (tgt := 107) hx hb dX8_doesNext_103 (by decide) ?_
      exact w_X8_doesNext_b107 E hf hP hS (lv_sub hl [0, 1] rfl)
set_option maxHeartbeats 4000000 in
set_option maxRecDepth 100000 in
theorem w_X8_doesNext_b85 {p : Program} {l : Launch} {e : Env} {s : State} {m : MethodId} {args : Array Value} {below : List Frame} {meth : Method} {c : Code} {G : GG} {sz : Nat} {r : Int32} {M' : Mem} (E : Cx p s m args meth c cX8_doesNext (some .int) 5 RX8 G) {M : Mem} {H : Heap} {locs : List Loc} {ls : Array Slot} (hf : f_X8_doesNext_b85 M = some (r, M')) (hP : PW G (AM G) (XM G) sz M s H) (hS : va_S (AM G) s.heap H locs) (hl : lv_has ls 5 []) : W p l e rm_X8_doesNext s m args below meth c H locs 0 0 (MQ below (va_Qi (fun (r2 : Int32) (_ : Unit) => r2 = r) (fun _ t => PW G (AM G) (XM G) sz M' t t.heap) (AM G)) args s 0 0 (AM G)) (F0 m 85 ls []) := by
  obtain ⟨hx, hb, hr, hlocks, hml, hown, hts, hK⟩ := id E
  unfold f_X8_doesNext_b85 at hf
  refine lv_iconst (v := 2) hx hb dX8_doesNext_85 (by decide) ?_
  exact en_i hf hx hb hr rfl hlocks hP hS dX8_doesNext_86
set_option maxHeartbeats 4000000 in
set_option maxRecDepth 100000 in
theorem w_X8_doesNext_b70 {p : Program} {l : Launch} {e : Env} {s : State} {m : MethodId} {args : Array Value} {below : List Frame} {meth : Method} {c : Code} {G : GG} {sz : Nat} {r : Int32} {M' : Mem} (E : Cx p s m args meth c cX8_doesNext (some .int) 5 RX8 G) {x2 : Int32} {x3 : Int32} {M : Mem} {H : Heap} {locs : List Loc} {ls : Array Slot} (hf : f_X8_doesNext_b70 x2 x3 M = some (r, M')) (hP : PW G (AM G) (XM G) sz M s H) (hS : va_S (AM G) s.heap H locs) (hl : lv_has ls 5 [(0, .ref (adM G 0 0)), (2, .int x2), (3, .int x3)]) : W p l e rm_X8_doesNext s m args below meth c H locs 0 0 (MQ below (va_Qi (fun (r2 : Int32) (_ : Unit) => r2 = r) (fun _ t => PW G (AM G) (XM G) sz M' t t.heap) (AM G)) args s 0 0 (AM G)) (F0 m 70 ls []) := by
  obtain ⟨hx, hb, hr, hlocks, hml, hown, hts, hK⟩ := id E
  unfold f_X8_doesNext_b70 at hf
  refine lv_iload_n hx hb dX8_doesNext_70 rfl (lv_at hl 2 rfl) ?_
  refine lv_if_eq (tgt := 87) hx hb dX8_doesNext_71 (by decide) (fun hc => ?_) (fun hc => ?_)
  · have hf := if_t hf hc
    exact w_X8_doesNext_b87 E hf hP hS (lv_sub hl [0, 1, 2] rfl)
  · have hf := if_f hf hc
    refine lv_aload_n hx hb dX8_doesNext_74 rfl (lv_at hl 0 rfl) ?_
    refine lv_aload_n hx hb dX8_doesNext_75 rfl (lv_at hl 0 rfl) ?_
    refine gf_X8_got E hP w_805 dX8_doesNext_76 ?_
    refine ob_e hf (fun r_79 M_79 hq hf => ?_)
    refine cv_X8_isLine E hP hS hq w_924 ⟨Nat.le_of_ble_eq_true rfl, Nat.le_of_ble_eq_true rfl⟩ hl (Nat.le_of_ble_eq_true rfl) dX8_doesNext_79 ⟨Nat.le_of_ble_eq_true rfl, Nat.le_of_ble_eq_true rfl⟩ (fun H locs hP hS => ?_)
    refine lv_if_ne (tgt := 87) hx hb dX8_doesNext_82 (by decide) (fun hc => ?_) (fun hc => ?_)
    · have hf := if_f hf hc
      exact w_X8_doesNext_b87 E hf hP hS (lv_sub hl [0, 1, 2] rfl)
    · have hf := if_t hf hc
      exact w_X8_doesNext_b85 E hf hP hS (lv_sub hl [] rfl)
set_option maxHeartbeats 4000000 in
set_option maxRecDepth 100000 in
theorem w_X8_doesNext_b52 {p : Program} {l : Launch} {e : Env} {s : State} {m : MethodId} {args : Array Value} {below : List Frame} {meth : Method} {c : Code} {G : GG} {sz : Nat} {r : Int32} {M' : Mem} (E : Cx p s m args meth c cX8_doesNext (some .int) 5 RX8 G) {x2 : Int32} {s0 : Int32} {M : Mem} {H : Heap} {locs : List Loc} {ls : Array Slot} (hf : f_X8_doesNext_b52 x2 s0 M = some (r, M')) (hP : PW G (AM G) (XM G) sz M s H) (hS : va_S (AM G) s.heap H locs) (hl : lv_has ls 5 [(0, .ref (adM G 0 0)), (2, .int x2)]) : W p l e rm_X8_doesNext s m args below meth c H locs 0 0 (MQ below (va_Qi (fun (r2 : Int32) (_ : Unit) => r2 = r) (fun _ t => PW G (AM G) (XM G) sz M' t t.heap) (AM G)) args s 0 0 (AM G)) (F0 m 52 ls [.int s0]) := by
  obtain ⟨hx, hb, hr, hlocks, hml, hown, hts, hK⟩ := id E
  unfold f_X8_doesNext_b52 at hf
  refine lv_istore_n (lv' := [(3, .int s0), (0, .ref (adM G 0 0)), (2, .int x2)]) hx hb dX8_doesNext_52 rfl hl (by decide) rfl (fun ls hl => ?_)
  refine lv_iload_n hx hb dX8_doesNext_53 rfl (lv_at hl 2 rfl) ?_
  refine lv_bipush (v := 112) hx hb dX8_doesNext_54 (by decide) ?_
  refine lv_icmp_ne (tgt := 70) hx hb dX8_doesNext_56 (by decide) (fun hc => ?_) (fun hc => ?_)
  · have hf := if_f hf hc
    exact w_X8_doesNext_b70 E hf hP hS (lv_sub hl [1, 2, 0] rfl)
  · have hf := if_t hf hc
    refine lv_aload_n hx hb dX8_doesNext_59 rfl (lv_at hl 1 rfl) ?_
    refine lv_aload_n hx hb dX8_doesNext_60 rfl (lv_at hl 1 rfl) ?_
    refine gf_X8_got E hP w_805 dX8_doesNext_61 ?_
    refine ob_e hf (fun r_64 M_64 hq hf => ?_)
    refine cv_X8_isPen E hP hS hq w_888 ⟨Nat.le_of_ble_eq_true rfl, Nat.le_of_ble_eq_true rfl⟩ hl (Nat.le_of_ble_eq_true rfl) dX8_doesNext_64 ⟨Nat.le_of_ble_eq_true rfl, Nat.le_of_ble_eq_true rfl⟩ (fun H locs hP hS => ?_)
    refine lv_if_eq (tgt := 85) hx hb dX8_doesNext_67 (by decide) (fun hc => ?_) (fun hc => ?_)
    · have hf := if_t hf hc
      exact w_X8_doesNext_b85 E hf hP hS (lv_sub hl [] rfl)
    · have hf := if_f hf hc
      exact w_X8_doesNext_b70 E hf hP hS (lv_sub hl [1, 2, 0] rfl)
set_option maxHeartbeats 4000000 in
set_option maxRecDepth 100000 in
theorem w_X8_doesNext_b47 {p : Program} {l : Launch} {e : Env} {s : State} {m : MethodId} {args : Array Value} {below : List Frame} {meth : Method} {c : Code} {G : GG} {sz : Nat} {r : Int32} {M' : Mem} (E : Cx p s m args meth c cX8_doesNext (some .int) 5 RX8 G) {x2 : Int32} {M : Mem} {H : Heap} {locs : List Loc} {ls : Array Slot} (hf : f_X8_doesNext_b47 x2 M = some (r, M')) (hP : PW G (AM G) (XM G) sz M s H) (hS : va_S (AM G) s.heap H locs) (hl : lv_has ls 5 [(0, .ref (adM G 0 0)), (2, .int x2)]) : W p l e rm_X8_doesNext s m args below meth c H locs 0 0 (MQ below (va_Qi (fun (r2 : Int32) (_ : Unit) => r2 = r) (fun _ t => PW G (AM G) (XM G) sz M' t t.heap) (AM G)) args s 0 0 (AM G)) (F0 m 47 ls []) := by
  obtain ⟨hx, hb, hr, hlocks, hml, hown, hts, hK⟩ := id E
  unfold f_X8_doesNext_b47 at hf
  refine lv_iconst (v := 1) hx hb dX8_doesNext_47 (by decide) ?_
  refine lv_goto (tgt := 52) hx hb dX8_doesNext_48 (by decide) ?_
  exact w_X8_doesNext_b52 E hf hP hS (lv_sub hl [0, 1] rfl)
set_option maxHeartbeats 4000000 in
set_option maxRecDepth 100000 in
theorem w_X8_doesNext {p : Program} {l : Launch} {e : Env} {s : State} {m : MethodId} {args : Array Value} {below : List Frame} {meth : Method} {c : Code} {G : GG} {sz : Nat} {r : Int32} {M' : Mem} (E : Cx p s m args meth c cX8_doesNext (some .int) 5 RX8 G) {M : Mem} {H : Heap} {locs : List Loc} {ls : Array Slot} (hf : f_X8_doesNext M = some (r, M')) (hP : PW G (AM G) (XM G) sz M s H) (hS : va_S (AM G) s.heap H locs) (hl : lv_has ls 5 [(0, .ref (adM G 0 0))]) : W p l e rm_X8_doesNext s m args below meth c H locs 0 0 (MQ below (va_Qi (fun (r2 : Int32) (_ : Unit) => r2 = r) (fun _ t => PW G (AM G) (XM G) sz M' t t.heap) (AM G)) args s 0 0 (AM G)) (F0 m 0 ls []) := by
  obtain ⟨hx, hb, hr, hlocks, hml, hown, hts, hK⟩ := id E
  unfold f_X8_doesNext at hf
  refine lv_aload_n hx hb dX8_doesNext_0 rfl (lv_at hl 0 rfl) ?_
  refine gf_X8_at E hP w_804 dX8_doesNext_1 ?_
  refine lt_e hf (fun x1_4 hx1_4 hf => ?_)
  refine kr_nm hx1_4 ?_
  refine lv_istore_n (lv' := [(1, .int x1_4), (0, .ref (adM G 0 0))]) hx hb dX8_doesNext_4 rfl hl (by decide) rfl (fun ls hl => ?_)
  refine lv_aload_n hx hb dX8_doesNext_5 rfl (lv_at hl 1 rfl) ?_
  refine ob_e hf (fun r_6 M_6 hq hf => ?_)
  refine cv_X8_sign E hP hS hq w_1128 ⟨Nat.le_of_ble_eq_true rfl, Nat.le_of_ble_eq_true rfl⟩ hl (Nat.le_of_ble_eq_true rfl) dX8_doesNext_6 ⟨Nat.le_of_ble_eq_true rfl, Nat.le_of_ble_eq_true rfl⟩ (fun H locs hP hS => ?_)
  refine lv_istore_n (lv' := [(2, .int r_6), (1, .int x1_4), (0, .ref (adM G 0 0))]) hx hb dX8_doesNext_9 rfl hl (by decide) rfl (fun ls hl => ?_)
  refine lv_aload_n hx hb dX8_doesNext_10 rfl (lv_at hl 2 rfl) ?_
  refine lv_ldc (v := (-1000004)) hx hb hown (hts _ w_939) dX8_doesNext_11 ?_
  refine lt_e hf (fun M_13 hM_13 hf => ?_)
  refine pf_X8_cause E hP hS hM_13 w_807 dX8_doesNext_13 (fun H locs hP hS => ?_)
  refine lv_aload_n hx hb dX8_doesNext_16 rfl (lv_at hl 2 rfl) ?_
  refine ob_e hf (fun r_17 M_17 hq hf => ?_)
  refine cv_X8_readsForm E hP hS hq w_1132 ⟨Nat.le_of_ble_eq_true rfl, Nat.le_of_ble_eq_true rfl⟩ hl (Nat.le_of_ble_eq_true rfl) dX8_doesNext_17 ⟨Nat.le_of_ble_eq_true rfl, Nat.le_of_ble_eq_true rfl⟩ (fun H locs hP hS => ?_)
  refine lv_if_ne (tgt := 35) hx hb dX8_doesNext_20 (by decide) (fun hc => ?_) (fun hc => ?_)
  · have hf := if_f hf hc
    refine lv_iload_n hx hb dX8_doesNext_35 rfl (lv_at hl 0 rfl) ?_
    refine lv_bipush (v := 100) hx hb dX8_doesNext_36 (by decide) ?_
    refine lv_icmp_eq (tgt := 47) hx hb dX8_doesNext_38 (by decide) (fun hc => ?_) (fun hc => ?_)
    · have hf := if_t hf hc
      exact w_X8_doesNext_b47 E hf hP hS (lv_sub hl [2, 0] rfl)
    · have hf := if_f hf hc
      refine lv_iload_n hx hb dX8_doesNext_41 rfl (lv_at hl 0 rfl) ?_
      refine lv_bipush (v := 114) hx hb dX8_doesNext_42 (by decide) ?_
      refine lv_icmp_ne (tgt := 51) hx hb dX8_doesNext_44 (by decide) (fun hc => ?_) (fun hc => ?_)
      · have hf := if_f hf hc
        refine lv_iconst (v := 0) hx hb dX8_doesNext_51 (by decide) ?_
        exact w_X8_doesNext_b52 E hf hP hS (lv_sub hl [2, 0] rfl)
      · have hf := if_t hf hc
        exact w_X8_doesNext_b47 E hf hP hS (lv_sub hl [2, 0] rfl)
  · have hf := if_t hf hc
    refine lv_aload_n hx hb dX8_doesNext_23 rfl (lv_at hl 2 rfl) ?_
    refine lv_aload_n hx hb dX8_doesNext_24 rfl (lv_at hl 2 rfl) ?_
    refine gf_X8_at E hP w_804 dX8_doesNext_25 ?_
    refine lv_iload_n hx hb dX8_doesNext_28 rfl (lv_at hl 1 rfl) ?_
    refine lv_isub hx hb dX8_doesNext_29 ?_
    refine lt_e hf (fun M_30 hM_30 hf => ?_)
    refine pf_X8_cause E hP hS hM_30 w_807 dX8_doesNext_30 (fun H locs hP hS => ?_)
    refine lv_iconst (v := 1) hx hb dX8_doesNext_33 (by decide) ?_
    exact en_i hf hx hb hr rfl hlocks hP hS dX8_doesNext_34
theorem c_X8_doesNext (l : Launch) {G : GG} {sz : Nat} {M : Mem} {r : Int32} {M' : Mem} (hf : f_X8_doesNext M = some (r, M')) : CtI l yX8_doesNext cX8_doesNext 5 (some .int) rm_X8_doesNext [.ref (adM G 0 0)] G (AM G) (XM G) sz M r (XM G) sz M' := by
  refine Ct_of (by decide) (Nat.le_of_ble_eq_true rfl) (fun p e s m below meth c ls hx hb hr hlocks hml hown hts hK hP hl => ?_)
  exact w_X8_doesNext ⟨hx, hb, hr, hlocks, hml, hown, hts, hK⟩ hf hP va_S.rf hl
set_option maxRecDepth 100000 in
theorem cv_X8_doesNext {p : Program} {l : Launch} {e : Env} {R : Room} {s : State} {m : MethodId} {args : Array Value} {below : List Frame} {meth : Method} {c : Code} {H : Heap} {locs : List Loc} {cells slots : Nat} {Q : State → Prop} {cc : ByteArray} {pc nL index : Nat} {ret : Option FieldType} {own : String} {ls : Array Slot} {rest : List Value} {l' : List (Nat × Value)} {G : GG} {sz : Nat} {M : Mem} (E : Cx p s m args meth c cc ret nL own G) (hP : PW G (AM G) (XM G) sz M s H) (hS : va_S (AM G) s.heap H locs) {r : Int32} {M' : Mem} (hq : f_X8_doesNext M = some (r, M')) (w1 : Cond.methodLink own index yX8_doesNext ∈ lw_all) (hR : 8 ≤ R.frames ∧ 195 ≤ R.locals) (hl : lv_has ls nL l') (hrest : (rest.map fun v => v.category).sum ≤ 8) (hdg : decode cc pc = .ok (.invokevirtual index, 3)) (hcs : cells ≤ R.cells ∧ slots ≤ R.slots)
    (kk : ∀ (H1 : Heap) (locs1 : List Loc), PW G (AM G) (XM G) sz M' s H1 → va_S (AM G) s.heap H1 locs1 → W p l e R s m args below meth c H1 locs1 cells slots Q (F0 m (pc + 3) ls (.int r :: rest))) : W p l e R s m args below meth c H locs cells slots Q (F0 m pc ls (.ref (adM G 0 0) :: rest)) := by
  obtain ⟨hx, hb, hr, hlocks, hml, hown, hts, hK⟩ := E
  exact kc_i (kc_runV (na := 0) (q := (RX8, TX8, 16)) hx hb hml hts hown hK hP 0 0 ⟨rfl, by decide⟩ rfl rfl rfl (c_X8_doesNext l hq) w1 w_1126 ws_49 w_9 w_1127 (by decide +kernel) hR rfl hl rfl hrest hdg hcs) hS kk
/-! X8_faulty -/
abbrev rm_X8_faulty : Room := { frames := 8, cells := 0, slots := 0, locals := 195 }
def f_X8_faulty_b83 : Nat → Int32 → Int32 → Mem → Option (Int32 × Mem)
  | 0 => fun _ _ _ => none
  | fu + 1 => fun x1 x2 M =>
(if 181 ≤ x2 then
  some (x1, M)
else
  ck (ibd x2 181) <|
  ck (ibd x2 181) <|
  lt (up3 M 0 1 (ix x2) (M 0 4 (ix x2))) fun M_101 =>
  lt (x2 + 1) fun x2_102 =>
  f_X8_faulty_b83 fu x1 x2_102 M_101)
def f_X8_faulty_b81 (x1 : Int32) (M : Mem) : Option (Int32 × Mem) :=
f_X8_faulty_b83 1000 x1 0 M
def f_X8_faulty_b77 (L35 : Int32 → Mem → Option (Int32 × Mem)) (s0 : Int32) (M : Mem) : Option (Int32 × Mem) :=
L35 s0 M
def f_X8_faulty_b35 : Nat → Int32 → Mem → Option (Int32 × Mem)
  | 0 => fun _ _ => none
  | fu + 1 => fun x1 M =>
(if (M 0 0 6) ≤ (M 0 0 7) then
  f_X8_faulty_b81 x1 M
else
  (if x1 = (-1000004) then
    lt ((M 0 0 7)) fun x2_56 =>
    ob (f_X8_doesNext M) fun r_59 M_59 =>
    lt (up3 M_59 0 0 9 r_59) fun M_62 =>
    (if (M_62 0 0 9) ≤ 0 then
      f_X8_faulty_b77 (f_X8_faulty_b35 fu) x1 M_62
    else
      f_X8_faulty_b77 (f_X8_faulty_b35 fu) x2_56 M_62)
  else
    f_X8_faulty_b81 x1 M))
def f_X8_faulty_b2 : Nat → Int32 → Mem → Option (Int32 × Mem)
  | 0 => fun _ _ => none
  | fu + 1 => fun x1 M =>
(if 181 ≤ x1 then
  lt (up3 M 0 0 7 0) fun M_32 =>
  f_X8_faulty_b35 1000 (-1000004) M_32
else
  ck (ibd x1 181) <|
  ck (ibd x1 181) <|
  lt (up3 M 0 4 (ix x1) (M 0 1 (ix x1))) fun M_20 =>
  lt (x1 + 1) fun x1_21 =>
  f_X8_faulty_b2 fu x1_21 M_20)
def f_X8_faulty (M : Mem) : Option (Int32 × Mem) :=
f_X8_faulty_b2 1000 0 M
set_option maxHeartbeats 4000000 in
set_option maxRecDepth 100000 in
theorem w_X8_faulty_b83 {p : Program} {l : Launch} {e : Env} {s : State} {m : MethodId} {args : Array Value} {below : List Frame} {meth : Method} {c : Code} {G : GG} {sz : Nat} {r : Int32} {M' : Mem} (E : Cx p s m args meth c cX8_faulty (some .int) 3 RX8 G) : ∀ fu : Nat, ∀ (x1 : Int32) (x2 : Int32) (M : Mem) (H : Heap) (locs : List Loc) (ls : Array Slot), f_X8_faulty_b83 fu x1 x2 M = some (r, M') → PW G (AM G) (XM G) sz M s H → va_S (AM G) s.heap H locs → lv_has ls 3 [(0, .ref (adM G 0 0)), (1, .int x1), (2, .int x2)] → W p l e rm_X8_faulty s m args below meth c H locs 0 0 (MQ below (va_Qi (fun (r2 : Int32) (_ : Unit) => r2 = r) (fun _ t => PW G (AM G) (XM G) sz M' t t.heap) (AM G)) args s 0 0 (AM G)) (F0 m 83 ls []) := by
  obtain ⟨hx, hb, hr, hlocks, hml, hown, hts, hK⟩ := id E
  intro fu
  induction fu with
  | zero => intro x1 x2 M H locs ls hf hP hS hl; cases hf
  | succ fu ih =>
    intro x1 x2 M H locs ls hf hP hS hl
    rw [f_X8_faulty_b83.eq_2] at hf
    refine lv_iload_n hx hb dX8_faulty_83 rfl (lv_at hl 2 rfl) ?_
    refine lv_sipush (v := 181) hx hb dX8_faulty_84 (by decide) ?_
    refine lv_icmp_ge (tgt := 108) hx hb dX8_faulty_87 (by decide) (fun hc => ?_) (fun hc => ?_)
    · have hf := if_t hf hc
      refine lv_iload_n hx hb dX8_faulty_108 rfl (lv_at hl 1 rfl) ?_
      exact en_i hf hx hb hr rfl hlocks hP hS dX8_faulty_109
    · have hf := if_f hf hc
      refine lv_aload_n hx hb dX8_faulty_90 rfl (lv_at hl 0 rfl) ?_
      refine gf_X8_s E hP w_797 dX8_faulty_91 ?_
      refine lv_iload_n hx hb dX8_faulty_94 rfl (lv_at hl 2 rfl) ?_
      refine lv_aload_n hx hb dX8_faulty_95 rfl (lv_at hl 0 rfl) ?_
      refine gf_X8_aside E hP w_800 dX8_faulty_96 ?_
      refine lv_iload_n hx hb dX8_faulty_99 rfl (lv_at hl 2 rfl) ?_
      refine ck_e hf (fun hi hf => ?_)
      refine la_M4 E hP hi dX8_faulty_100 ?_
      refine ck_e hf (fun hi hf => ?_)
      refine lt_e hf (fun M_101 hM_101 hf => ?_)
      refine sa_M1 E hP hS hi hM_101 dX8_faulty_101 (fun H locs hP hS => ?_)
      refine lt_e hf (fun x2_102 hx2_102 hf => ?_)
      refine lv_iinc (v := x2_102) (lv' := [(2, .int x2_102), (0, .ref (adM G 0 0)), (1, .int x1)]) hx hb dX8_faulty_102 hl (k := 2) rfl (by rw [hx2_102]; rfl) (by decide) rfl (fun ls hl => ?_)
      refine lv_goto (tgt := 83) hx hb dX8_faulty_105 (by decide) ?_
      exact ih _ _ _ _ _ _ hf hP hS (lv_sub hl [1, 2, 0] rfl)
set_option maxHeartbeats 4000000 in
set_option maxRecDepth 100000 in
theorem w_X8_faulty_b81 {p : Program} {l : Launch} {e : Env} {s : State} {m : MethodId} {args : Array Value} {below : List Frame} {meth : Method} {c : Code} {G : GG} {sz : Nat} {r : Int32} {M' : Mem} (E : Cx p s m args meth c cX8_faulty (some .int) 3 RX8 G) {x1 : Int32} {M : Mem} {H : Heap} {locs : List Loc} {ls : Array Slot} (hf : f_X8_faulty_b81 x1 M = some (r, M')) (hP : PW G (AM G) (XM G) sz M s H) (hS : va_S (AM G) s.heap H locs) (hl : lv_has ls 3 [(0, .ref (adM G 0 0)), (1, .int x1)]) : W p l e rm_X8_faulty s m args below meth c H locs 0 0 (MQ below (va_Qi (fun (r2 : Int32) (_ : Unit) => r2 = r) (fun _ t => PW G (AM G) (XM G) sz M' t t.heap) (AM G)) args s 0 0 (AM G)) (F0 m 81 ls []) := by
  obtain ⟨hx, hb, hr, hlocks, hml, hown, hts, hK⟩ := id E
  unfold f_X8_faulty_b81 at hf
  refine lv_iconst (v := 0) hx hb dX8_faulty_81 (by decide) ?_
  refine lv_istore_n (lv' := [(2, .int 0), (0, .ref (adM G 0 0)), (1, .int x1)]) hx hb dX8_faulty_82 rfl hl (by decide) rfl (fun ls hl => ?_)
  exact w_X8_faulty_b83 E 1000 _ _ _ _ _ _ hf hP hS (lv_sub hl [1, 2, 0] rfl)
set_option maxHeartbeats 4000000 in
set_option maxRecDepth 100000 in
theorem w_X8_faulty_b77 {p : Program} {l : Launch} {e : Env} {s : State} {m : MethodId} {args : Array Value} {below : List Frame} {meth : Method} {c : Code} {G : GG} {sz : Nat} {r : Int32} {M' : Mem} (E : Cx p s m args meth c cX8_faulty (some .int) 3 RX8 G) {L35 : Int32 → Mem → Option (Int32 × Mem)} (hL35 : ∀ (x1 : Int32) (M : Mem) (H : Heap) (locs : List Loc) (ls : Array Slot), L35 x1 M = some (r, M') → PW G (AM G) (XM G) sz M s H → va_S (AM G) s.heap H locs → lv_has ls 3 [(0, .ref (adM G 0 0)), (1, .int x1)] → W p l e rm_X8_faulty s m args below meth c H locs 0 0 (MQ below (va_Qi (fun (r2 : Int32) (_ : Unit) => r2 = r) (fun _ t => PW G (AM G) (XM G) sz M' t t.heap) (AM G)) args s 0 0 (AM G)) (F0 m 35 ls [])) {s0 : Int32} {M : Mem} {H : Heap} {locs : List Loc} {ls : Array Slot} (hf : f_X8_faulty_b77 L35 s0 M = some (r, M')) (hP : PW G (AM G) (XM G) sz M s H) (hS : va_S (AM G) s.heap H locs) (hl : lv_has ls 3 [(0, .ref (adM G 0 0))]) : W p l e rm_X8_faulty s m args below meth c H locs 0 0 (MQ below (va_Qi (fun (r2 : Int32) (_ : Unit) => r2 = r) (fun _ t => PW G (AM G) (XM G) sz M' t t.heap) (AM G)) args s 0 0 (AM G)) (F0 m 77 ls [.int s0]) := by
  obtain ⟨hx, hb, hr, hlocks, hml, hown, hts, hK⟩ := id E
  unfold f_X8_faulty_b77 at hf
  refine lv_istore_n (lv' := [(1, .int s0), (0, .ref (adM G 0 0))]) hx hb dX8_faulty_77 rfl hl (by decide) rfl (fun ls hl => ?_)
  refine lv_goto (tgt := 35) hx hb dX8_faulty_78 (by decide) ?_
  exact hL35 _ _ _ _ _ hf hP hS (lv_sub hl [1, 0] rfl)
set_option maxHeartbeats 4000000 in
set_option maxRecDepth 100000 in
theorem w_X8_faulty_b35 {p : Program} {l : Launch} {e : Env} {s : State} {m : MethodId} {args : Array Value} {below : List Frame} {meth : Method} {c : Code} {G : GG} {sz : Nat} {r : Int32} {M' : Mem} (E : Cx p s m args meth c cX8_faulty (some .int) 3 RX8 G) : ∀ fu : Nat, ∀ (x1 : Int32) (M : Mem) (H : Heap) (locs : List Loc) (ls : Array Slot), f_X8_faulty_b35 fu x1 M = some (r, M') → PW G (AM G) (XM G) sz M s H → va_S (AM G) s.heap H locs → lv_has ls 3 [(0, .ref (adM G 0 0)), (1, .int x1)] → W p l e rm_X8_faulty s m args below meth c H locs 0 0 (MQ below (va_Qi (fun (r2 : Int32) (_ : Unit) => r2 = r) (fun _ t => PW G (AM G) (XM G) sz M' t t.heap) (AM G)) args s 0 0 (AM G)) (F0 m 35 ls []) := by
  obtain ⟨hx, hb, hr, hlocks, hml, hown, hts, hK⟩ := id E
  intro fu
  induction fu with
  | zero => intro x1 M H locs ls hf hP hS hl; cases hf
  | succ fu ih =>
    intro x1 M H locs ls hf hP hS hl
    rw [f_X8_faulty_b35.eq_2] at hf
    refine lv_aload_n hx hb dX8_faulty_35 rfl (lv_at hl 0 rfl) ?_
    refine gf_X8_at E hP w_804 dX8_faulty_36 ?_
    refine lv_aload_n hx hb dX8_faulty_39 rfl (lv_at hl 0 rfl) ?_
    refine gf_X8_typed E hP w_803 dX8_faulty_40 ?_
    refine lv_icmp_ge (tgt := 81) hx hb dX8_faulty_43 (by decide) (fun hc => ?_) (fun hc => ?_)
    · have hf := if_t hf hc
      exact w_X8_faulty_b81 E hf hP hS (lv_sub hl [0, 1] rfl)
    · have hf := if_f hf hc
      refine lv_iload_n hx hb dX8_faulty_46 rfl (lv_at hl 1 rfl) ?_
      refine lv_ldc (v := (-1000004)) hx hb hown (hts _ w_939) dX8_faulty_47 ?_
      refine lv_icmp_ne (tgt := 81) hx hb dX8_faulty_49 (by decide) (fun hc => ?_) (fun hc => ?_)
      · have hf := if_f hf hc
        exact w_X8_faulty_b81 E hf hP hS (lv_sub hl [0, 1] rfl)
      · have hf := if_t hf hc
        refine lv_aload_n hx hb dX8_faulty_52 rfl (lv_at hl 0 rfl) ?_
        refine gf_X8_at E hP w_804 dX8_faulty_53 ?_
        refine lt_e hf (fun x2_56 hx2_56 hf => ?_)
        refine kr_nm hx2_56 ?_
        refine lv_istore_n (lv' := [(2, .int x2_56), (0, .ref (adM G 0 0)), (1, .int x1)]) hx hb dX8_faulty_56 rfl hl (by decide) rfl (fun ls hl => ?_)
        refine lv_aload_n hx hb dX8_faulty_57 rfl (lv_at hl 1 rfl) ?_
        refine lv_aload_n hx hb dX8_faulty_58 rfl (lv_at hl 1 rfl) ?_
        refine ob_e hf (fun r_59 M_59 hq hf => ?_)
        refine cv_X8_doesNext E hP hS hq w_1124 ⟨Nat.le_of_ble_eq_true rfl, Nat.le_of_ble_eq_true rfl⟩ hl (Nat.le_of_ble_eq_true rfl) dX8_faulty_59 ⟨Nat.le_of_ble_eq_true rfl, Nat.le_of_ble_eq_true rfl⟩ (fun H locs hP hS => ?_)
        refine lt_e hf (fun M_62 hM_62 hf => ?_)
        refine pf_X8_reason E hP hS hM_62 w_806 dX8_faulty_62 (fun H locs hP hS => ?_)
        refine lv_aload_n hx hb dX8_faulty_65 rfl (lv_at hl 1 rfl) ?_
        refine gf_X8_reason E hP w_806 dX8_faulty_66 ?_
        refine lv_if_le (tgt := 76) hx hb dX8_faulty_69 (by decide) (fun hc => ?_) (fun hc => ?_)
        · have hf := if_t hf hc
          refine lv_iload_n hx hb dX8_faulty_76 rfl (lv_at hl 2 rfl) ?_
          exact w_X8_faulty_b77 E ih hf hP hS (lv_sub hl [1] rfl)
        · have hf := if_f hf hc
          refine lv_iload_n hx hb dX8_faulty_72 rfl (lv_at hl 0 rfl) ?_
          refine lv_goto (tgt := 77) hx hb dX8_faulty_73 (by decide) ?_
          exact w_X8_faulty_b77 E ih hf hP hS (lv_sub hl [1] rfl)
set_option maxHeartbeats 4000000 in
set_option maxRecDepth 100000 in
theorem w_X8_faulty_b2 {p : Program} {l : Launch} {e : Env} {s : State} {m : MethodId} {args : Array Value} {below : List Frame} {meth : Method} {c : Code} {G : GG} {sz : Nat} {r : Int32} {M' : Mem} (E : Cx p s m args meth c cX8_faulty (some .int) 3 RX8 G) : ∀ fu : Nat, ∀ (x1 : Int32) (M : Mem) (H : Heap) (locs : List Loc) (ls : Array Slot), f_X8_faulty_b2 fu x1 M = some (r, M') → PW G (AM G) (XM G) sz M s H → va_S (AM G) s.heap H locs → lv_has ls 3 [(0, .ref (adM G 0 0)), (1, .int x1)] → W p l e rm_X8_faulty s m args below meth c H locs 0 0 (MQ below (va_Qi (fun (r2 : Int32) (_ : Unit) => r2 = r) (fun _ t => PW G (AM G) (XM G) sz M' t t.heap) (AM G)) args s 0 0 (AM G)) (F0 m 2 ls []) := by
  obtain ⟨hx, hb, hr, hlocks, hml, hown, hts, hK⟩ := id E
  intro fu
  induction fu with
  | zero => intro x1 M H locs ls hf hP hS hl; cases hf
  | succ fu ih =>
    intro x1 M H locs ls hf hP hS hl
    rw [f_X8_faulty_b2.eq_2] at hf
    refine lv_iload_n hx hb dX8_faulty_2 rfl (lv_at hl 1 rfl) ?_
    refine lv_sipush (v := 181) hx hb dX8_faulty_3 (by decide) ?_
    refine lv_icmp_ge (tgt := 27) hx hb dX8_faulty_6 (by decide) (fun hc => ?_) (fun hc => ?_)
    · have hf := if_t hf hc
      refine lv_ldc (v := (-1000004)) hx hb hown (hts _ w_939) dX8_faulty_27 ?_
      refine lv_istore_n (lv' := [(1, .int (-1000004)), (0, .ref (adM G 0 0))]) hx hb dX8_faulty_29 rfl hl (by decide) rfl (fun ls hl => ?_)
      refine lv_aload_n hx hb dX8_faulty_30 rfl (lv_at hl 1 rfl) ?_
      refine lv_iconst (v := 0) hx hb dX8_faulty_31 (by decide) ?_
      refine lt_e hf (fun M_32 hM_32 hf => ?_)
      refine pf_X8_at E hP hS hM_32 w_804 dX8_faulty_32 (fun H locs hP hS => ?_)
      exact w_X8_faulty_b35 E 1000 _ _ _ _ _ hf hP hS (lv_sub hl [1, 0] rfl)
    · have hf := if_f hf hc
      refine lv_aload_n hx hb dX8_faulty_9 rfl (lv_at hl 0 rfl) ?_
      refine gf_X8_aside E hP w_800 dX8_faulty_10 ?_
      refine lv_iload_n hx hb dX8_faulty_13 rfl (lv_at hl 1 rfl) ?_
      refine lv_aload_n hx hb dX8_faulty_14 rfl (lv_at hl 0 rfl) ?_
      refine gf_X8_s E hP w_797 dX8_faulty_15 ?_
      refine lv_iload_n hx hb dX8_faulty_18 rfl (lv_at hl 1 rfl) ?_
      refine ck_e hf (fun hi hf => ?_)
      refine la_M1 E hP hi dX8_faulty_19 ?_
      refine ck_e hf (fun hi hf => ?_)
      refine lt_e hf (fun M_20 hM_20 hf => ?_)
      refine sa_M4 E hP hS hi hM_20 dX8_faulty_20 (fun H locs hP hS => ?_)
      refine lt_e hf (fun x1_21 hx1_21 hf => ?_)
      refine lv_iinc (v := x1_21) (lv' := [(1, .int x1_21), (0, .ref (adM G 0 0))]) hx hb dX8_faulty_21 hl (k := 1) rfl (by rw [hx1_21]; rfl) (by decide) rfl (fun ls hl => ?_)
      refine lv_goto (tgt := 2) hx hb dX8_faulty_24 (by decide) ?_
      exact ih _ _ _ _ _ hf hP hS (lv_sub hl [1, 0] rfl)
set_option maxHeartbeats 4000000 in
set_option maxRecDepth 100000 in
theorem w_X8_faulty {p : Program} {l : Launch} {e : Env} {s : State} {m : MethodId} {args : Array Value} {below : List Frame} {meth : Method} {c : Code} {G : GG} {sz : Nat} {r : Int32} {M' : Mem} (E : Cx p s m args meth c cX8_faulty (some .int) 3 RX8 G) {M : Mem} {H : Heap} {locs : List Loc} {ls : Array Slot} (hf : f_X8_faulty M = some (r, M')) (hP : PW G (AM G) (XM G) sz M s H) (hS : va_S (AM G) s.heap H locs) (hl : lv_has ls 3 [(0, .ref (adM G 0 0))]) : W p l e rm_X8_faulty s m args below meth c H locs 0 0 (MQ below (va_Qi (fun (r2 : Int32) (_ : Unit) => r2 = r) (fun _ t => PW G (AM G) (XM G) sz M' t t.heap) (AM G)) args s 0 0 (AM G)) (F0 m 0 ls []) := by
  obtain ⟨hx, hb, hr, hlocks, hml, hown, hts, hK⟩ := id E
  unfold f_X8_faulty at hf
  refine lv_iconst (v := 0) hx hb dX8_faulty_0 (by decide) ?_
  refine lv_istore_n (lv' := [(1, .int 0), (0, .ref (adM G 0 0))]) hx hb dX8_faulty_1 rfl hl (by decide) rfl (fun ls hl => ?_)
  exact w_X8_faulty_b2 E 1000 _ _ _ _ _ hf hP hS (lv_sub hl [1, 0] rfl)
theorem c_X8_faulty (l : Launch) {G : GG} {sz : Nat} {M : Mem} {r : Int32} {M' : Mem} (hf : f_X8_faulty M = some (r, M')) : CtI l yX8_faulty cX8_faulty 3 (some .int) rm_X8_faulty [.ref (adM G 0 0)] G (AM G) (XM G) sz M r (XM G) sz M' := by
  refine Ct_of (by decide) (Nat.le_of_ble_eq_true rfl) (fun p e s m below meth c ls hx hb hr hlocks hml hown hts hK hP hl => ?_)
  exact w_X8_faulty ⟨hx, hb, hr, hlocks, hml, hown, hts, hK⟩ hf hP va_S.rf hl
set_option maxRecDepth 100000 in
theorem cv_X8_faulty {p : Program} {l : Launch} {e : Env} {R : Room} {s : State} {m : MethodId} {args : Array Value} {below : List Frame} {meth : Method} {c : Code} {H : Heap} {locs : List Loc} {cells slots : Nat} {Q : State → Prop} {cc : ByteArray} {pc nL index : Nat} {ret : Option FieldType} {own : String} {ls : Array Slot} {rest : List Value} {l' : List (Nat × Value)} {G : GG} {sz : Nat} {M : Mem} (E : Cx p s m args meth c cc ret nL own G) (hP : PW G (AM G) (XM G) sz M s H) (hS : va_S (AM G) s.heap H locs) {r : Int32} {M' : Mem} (hq : f_X8_faulty M = some (r, M')) (w1 : Cond.methodLink own index yX8_faulty ∈ lw_all) (hR : 9 ≤ R.frames ∧ 217 ≤ R.locals) (hl : lv_has ls nL l') (hrest : (rest.map fun v => v.category).sum ≤ 8) (hdg : decode cc pc = .ok (.invokevirtual index, 3)) (hcs : cells ≤ R.cells ∧ slots ≤ R.slots)
    (kk : ∀ (H1 : Heap) (locs1 : List Loc), PW G (AM G) (XM G) sz M' s H1 → va_S (AM G) s.heap H1 locs1 → W p l e R s m args below meth c H1 locs1 cells slots Q (F0 m (pc + 3) ls (.int r :: rest))) : W p l e R s m args below meth c H locs cells slots Q (F0 m pc ls (.ref (adM G 0 0) :: rest)) := by
  obtain ⟨hx, hb, hr, hlocks, hml, hown, hts, hK⟩ := E
  exact kc_i (kc_runV (na := 0) (q := (RX8, TX8, 16)) hx hb hml hts hown hK hP 0 0 ⟨rfl, by decide⟩ rfl rfl rfl (c_X8_faulty l hq) w1 w_1122 ws_48 w_9 w_1123 (by decide +kernel) hR rfl hl rfl hrest hdg hcs) hS kk
/-! X8_fault -/
abbrev rm_X8_fault : Room := { frames := 9, cells := 0, slots := 0, locals := 217 }
def f_X8_fault_b47 (s0 : Int32) (M : Mem) : Option (Int32 × Mem) :=
some (s0, M)
def f_X8_fault_b27 (x2 : Int32) (M : Mem) : Option (Int32 × Mem) :=
f_X8_fault_b47 x2 M
def f_X8_fault (x1 : Int32) (M : Mem) : Option (Int32 × Mem) :=
ob (f_X8_in x1 0 2 M) fun r_3 M_3 =>
(if r_3 = 0 then
  some ((-1000001), M_3)
else
  ob (f_X8_faulty M_3) fun r_13 M_13 =>
  (if r_13 = (-1000004) then
    f_X8_fault_b27 r_13 M_13
  else
    (if x1 = 0 then
      f_X8_fault_b27 r_13 M_13
    else
      (if x1 = 1 then
        f_X8_fault_b47 ((M_13 0 0 9)) M_13
      else
        f_X8_fault_b47 ((M_13 0 0 10)) M_13))))
set_option maxHeartbeats 4000000 in
set_option maxRecDepth 100000 in
theorem w_X8_fault_b47 {p : Program} {l : Launch} {e : Env} {s : State} {m : MethodId} {args : Array Value} {below : List Frame} {meth : Method} {c : Code} {G : GG} {sz : Nat} {r : Int32} {M' : Mem} (E : Cx p s m args meth c cX8_fault (some .int) 3 RX8 G) {s0 : Int32} {M : Mem} {H : Heap} {locs : List Loc} {ls : Array Slot} (hf : f_X8_fault_b47 s0 M = some (r, M')) (hP : PW G (AM G) (XM G) sz M s H) (hS : va_S (AM G) s.heap H locs) (hl : lv_has ls 3 []) : W p l e rm_X8_fault s m args below meth c H locs 0 0 (MQ below (va_Qi (fun (r2 : Int32) (_ : Unit) => r2 = r) (fun _ t => PW G (AM G) (XM G) sz M' t t.heap) (AM G)) args s 0 0 (AM G)) (F0 m 47 ls [.int s0]) := by
  obtain ⟨hx, hb, hr, hlocks, hml, hown, hts, hK⟩ := id E
  unfold f_X8_fault_b47 at hf
  exact en_i hf hx hb hr rfl hlocks hP hS dX8_fault_47
set_option maxHeartbeats 4000000 in
set_option maxRecDepth 100000 in
theorem w_X8_fault_b27 {p : Program} {l : Launch} {e : Env} {s : State} {m : MethodId} {args : Array Value} {below : List Frame} {meth : Method} {c : Code} {G : GG} {sz : Nat} {r : Int32} {M' : Mem} (E : Cx p s m args meth c cX8_fault (some .int) 3 RX8 G) {x2 : Int32} {M : Mem} {H : Heap} {locs : List Loc} {ls : Array Slot} (hf : f_X8_fault_b27 x2 M = some (r, M')) (hP : PW G (AM G) (XM G) sz M s H) (hS : va_S (AM G) s.heap H locs) (hl : lv_has ls 3 [(2, .int x2)]) : W p l e rm_X8_fault s m args below meth c H locs 0 0 (MQ below (va_Qi (fun (r2 : Int32) (_ : Unit) => r2 = r) (fun _ t => PW G (AM G) (XM G) sz M' t t.heap) (AM G)) args s 0 0 (AM G)) (F0 m 27 ls []) := by
  obtain ⟨hx, hb, hr, hlocks, hml, hown, hts, hK⟩ := id E
  unfold f_X8_fault_b27 at hf
  refine lv_iload_n hx hb dX8_fault_27 rfl (lv_at hl 0 rfl) ?_
  refine lv_goto (tgt := 47) hx hb dX8_fault_28 (by decide) ?_
  exact w_X8_fault_b47 E hf hP hS (lv_sub hl [] rfl)
set_option maxHeartbeats 4000000 in
set_option maxRecDepth 100000 in
theorem w_X8_fault {p : Program} {l : Launch} {e : Env} {s : State} {m : MethodId} {args : Array Value} {below : List Frame} {meth : Method} {c : Code} {G : GG} {sz : Nat} {r : Int32} {M' : Mem} (E : Cx p s m args meth c cX8_fault (some .int) 3 RX8 G) {x1 : Int32} {M : Mem} {H : Heap} {locs : List Loc} {ls : Array Slot} (hf : f_X8_fault x1 M = some (r, M')) (hP : PW G (AM G) (XM G) sz M s H) (hS : va_S (AM G) s.heap H locs) (hl : lv_has ls 3 [(0, .ref (adM G 0 0)), (1, .int x1)]) : W p l e rm_X8_fault s m args below meth c H locs 0 0 (MQ below (va_Qi (fun (r2 : Int32) (_ : Unit) => r2 = r) (fun _ t => PW G (AM G) (XM G) sz M' t t.heap) (AM G)) args s 0 0 (AM G)) (F0 m 0 ls []) := by
  obtain ⟨hx, hb, hr, hlocks, hml, hown, hts, hK⟩ := id E
  unfold f_X8_fault at hf
  refine lv_iload_n hx hb dX8_fault_0 rfl (lv_at hl 1 rfl) ?_
  refine lv_iconst (v := 0) hx hb dX8_fault_1 (by decide) ?_
  refine lv_iconst (v := 2) hx hb dX8_fault_2 (by decide) ?_
  refine ob_e hf (fun r_3 M_3 hq hf => ?_)
  refine cv_X8_in E hP hS hq w_851 ⟨Nat.le_of_ble_eq_true rfl, Nat.le_of_ble_eq_true rfl⟩ hl (Nat.le_of_ble_eq_true rfl) dX8_fault_3 ⟨Nat.le_of_ble_eq_true rfl, Nat.le_of_ble_eq_true rfl⟩ (fun H locs hP hS => ?_)
  refine lv_if_ne (tgt := 12) hx hb dX8_fault_6 (by decide) (fun hc => ?_) (fun hc => ?_)
  · have hf := if_f hf hc
    refine lv_aload_n hx hb dX8_fault_12 rfl (lv_at hl 0 rfl) ?_
    refine ob_e hf (fun r_13 M_13 hq hf => ?_)
    refine cv_X8_faulty E hP hS hq w_1120 ⟨Nat.le_of_ble_eq_true rfl, Nat.le_of_ble_eq_true rfl⟩ hl (Nat.le_of_ble_eq_true rfl) dX8_fault_13 ⟨Nat.le_of_ble_eq_true rfl, Nat.le_of_ble_eq_true rfl⟩ (fun H locs hP hS => ?_)
    refine lv_istore_n (lv' := [(2, .int r_13), (0, .ref (adM G 0 0)), (1, .int x1)]) hx hb dX8_fault_16 rfl hl (by decide) rfl (fun ls hl => ?_)
    refine lv_iload_n hx hb dX8_fault_17 rfl (lv_at hl 0 rfl) ?_
    refine lv_ldc (v := (-1000004)) hx hb hown (hts _ w_939) dX8_fault_18 ?_
    refine lv_icmp_eq (tgt := 27) hx hb dX8_fault_20 (by decide) (fun hc => ?_) (fun hc => ?_)
    · have hf := if_t hf hc
      exact w_X8_fault_b27 E hf hP hS (lv_sub hl [0] rfl)
    · have hf := if_f hf hc
      refine lv_iload_n hx hb dX8_fault_23 rfl (lv_at hl 2 rfl) ?_
      refine lv_if_ne (tgt := 31) hx hb dX8_fault_24 (by decide) (fun hc => ?_) (fun hc => ?_)
      · have hf := if_f hf hc
        refine lv_iload_n hx hb dX8_fault_31 rfl (lv_at hl 2 rfl) ?_
        refine lv_iconst (v := 1) hx hb dX8_fault_32 (by decide) ?_
        refine lv_icmp_ne (tgt := 43) hx hb dX8_fault_33 (by decide) (fun hc => ?_) (fun hc => ?_)
        · have hf := if_f hf hc
          refine lv_aload_n hx hb dX8_fault_43 rfl (lv_at hl 1 rfl) ?_
          refine gf_X8_cause E hP w_807 dX8_fault_44 ?_
          exact w_X8_fault_b47 E hf hP hS (lv_sub hl [] rfl)
        · have hf := if_t hf hc
          refine lv_aload_n hx hb dX8_fault_36 rfl (lv_at hl 1 rfl) ?_
          refine gf_X8_reason E hP w_806 dX8_fault_37 ?_
          refine lv_goto (tgt := 47) hx hb dX8_fault_40 (by decide) ?_
          exact w_X8_fault_b47 E hf hP hS (lv_sub hl [] rfl)
      · have hf := if_t hf hc
        exact w_X8_fault_b27 E hf hP hS (lv_sub hl [0] rfl)
  · have hf := if_t hf hc
    refine lv_ldc (v := (-1000001)) hx hb hown (hts _ w_854) dX8_fault_9 ?_
    exact en_i hf hx hb hr rfl hlocks hP hS dX8_fault_11
theorem c_X8_fault (l : Launch) {G : GG} {sz : Nat} {x1 : Int32} {M : Mem} {r : Int32} {M' : Mem} (hf : f_X8_fault x1 M = some (r, M')) : CtI l yX8_fault cX8_fault 3 (some .int) rm_X8_fault [.ref (adM G 0 0), .int x1] G (AM G) (XM G) sz M r (XM G) sz M' := by
  refine Ct_of (by decide) (Nat.le_of_ble_eq_true rfl) (fun p e s m below meth c ls hx hb hr hlocks hml hown hts hK hP hl => ?_)
  exact w_X8_fault ⟨hx, hb, hr, hlocks, hml, hown, hts, hK⟩ hf hP va_S.rf hl
set_option maxRecDepth 100000 in
theorem cv_X8_fault {p : Program} {l : Launch} {e : Env} {R : Room} {s : State} {m : MethodId} {args : Array Value} {below : List Frame} {meth : Method} {c : Code} {H : Heap} {locs : List Loc} {cells slots : Nat} {Q : State → Prop} {cc : ByteArray} {pc nL index : Nat} {ret : Option FieldType} {own : String} {ls : Array Slot} {rest : List Value} {l' : List (Nat × Value)} {G : GG} {sz : Nat} {M : Mem} (E : Cx p s m args meth c cc ret nL own G) (hP : PW G (AM G) (XM G) sz M s H) (hS : va_S (AM G) s.heap H locs) {x1 : Int32} {r : Int32} {M' : Mem} (hq : f_X8_fault x1 M = some (r, M')) (w1 : Cond.methodLink own index yX8_fault ∈ lw_all) (hR : 10 ≤ R.frames ∧ 239 ≤ R.locals) (hl : lv_has ls nL l') (hrest : (rest.map fun v => v.category).sum ≤ 8) (hdg : decode cc pc = .ok (.invokevirtual index, 3)) (hcs : cells ≤ R.cells ∧ slots ≤ R.slots)
    (kk : ∀ (H1 : Heap) (locs1 : List Loc), PW G (AM G) (XM G) sz M' s H1 → va_S (AM G) s.heap H1 locs1 → W p l e R s m args below meth c H1 locs1 cells slots Q (F0 m (pc + 3) ls (.int r :: rest))) : W p l e R s m args below meth c H locs cells slots Q (F0 m pc ls (.int x1 :: .ref (adM G 0 0) :: rest)) := by
  obtain ⟨hx, hb, hr, hlocks, hml, hown, hts, hK⟩ := E
  exact kc_i (kc_runV (na := 1) (q := (RX8, TX8, 16)) hx hb hml hts hown hK hP 0 0 ⟨rfl, by decide⟩ rfl rfl rfl (c_X8_fault l hq) w1 w_1117 w_1118 w_9 w_1119 (by decide +kernel) hR rfl hl rfl hrest hdg hcs) hS kk
/-! X8_play -/
abbrev rm_X8_play : Room := { frames := 9, cells := 0, slots := 0, locals := 217 }
def f_X8_play_b47 (L23 : Int32 → Mem → Option (Int32 × Mem)) (s0 : Int32) (s1 : Int32) (M : Mem) : Option (Int32 × Mem) :=
lt ((s0 + s1)) fun x1_48 =>
L23 x1_48 M
def f_X8_play_b23 : Nat → Int32 → Mem → Option (Int32 × Mem)
  | 0 => fun _ _ => none
  | fu + 1 => fun x1 M =>
(if (M 0 0 6) ≤ (M 0 0 7) then
  ob (f_X8_acted x1 M) fun r_54 M_54 =>
  some (r_54, M_54)
else
  ob (f_X8_doesNext M) fun r_36 M_36 =>
  (if r_36 = 0 then
    f_X8_play_b47 (f_X8_play_b23 fu) x1 1 M_36
  else
    f_X8_play_b47 (f_X8_play_b23 fu) x1 0 M_36))
def f_X8_play (M : Mem) : Option (Int32 × Mem) :=
ob (f_X8_faulty M) fun r_1 M_1 =>
(if r_1 = (-1000004) then
  ob (f_X8_keeps M_1) fun _ M_13 =>
  lt (up3 M_13 0 0 7 0) fun M_20 =>
  f_X8_play_b23 1000 0 M_20
else
  some ((-1000002), M_1))
set_option maxHeartbeats 4000000 in
set_option maxRecDepth 100000 in
theorem w_X8_play_b47 {p : Program} {l : Launch} {e : Env} {s : State} {m : MethodId} {args : Array Value} {below : List Frame} {meth : Method} {c : Code} {G : GG} {sz : Nat} {r : Int32} {M' : Mem} (E : Cx p s m args meth c cX8_play (some .int) 2 RX8 G) {L23 : Int32 → Mem → Option (Int32 × Mem)} (hL23 : ∀ (x1 : Int32) (M : Mem) (H : Heap) (locs : List Loc) (ls : Array Slot), L23 x1 M = some (r, M') → PW G (AM G) (XM G) sz M s H → va_S (AM G) s.heap H locs → lv_has ls 2 [(0, .ref (adM G 0 0)), (1, .int x1)] → W p l e rm_X8_play s m args below meth c H locs 0 0 (MQ below (va_Qi (fun (r2 : Int32) (_ : Unit) => r2 = r) (fun _ t => PW G (AM G) (XM G) sz M' t t.heap) (AM G)) args s 0 0 (AM G)) (F0 m 23 ls [])) {s0 : Int32} {s1 : Int32} {M : Mem} {H : Heap} {locs : List Loc} {ls : Array Slot} (hf : f_X8_play_b47 L23 s0 s1 M = some (r, M')) (hP : PW G (AM G) (XM G) sz M s H) (hS : va_S (AM G) s.heap H locs) (hl : lv_has ls 2 [(0, .ref (adM G 0 0))]) : W p l e rm_X8_play s m args below meth c H locs 0 0 (MQ below (va_Qi (fun (r2 : Int32) (_ : Unit) => r2 = r) (fun _ t => PW G (AM G) (XM G) sz M' t t.heap) (AM G)) args s 0 0 (AM G)) (F0 m 47 ls [.int s1, .int s0]) := by
  obtain ⟨hx, hb, hr, hlocks, hml, hown, hts, hK⟩ := id E
  unfold f_X8_play_b47 at hf
  refine lv_iadd hx hb dX8_play_47 ?_
  refine lt_e hf (fun x1_48 hx1_48 hf => ?_)
  refine kr_nm hx1_48 ?_
  refine lv_istore_n (lv' := [(1, .int x1_48), (0, .ref (adM G 0 0))]) hx hb dX8_play_48 rfl hl (by decide) rfl (fun ls hl => ?_)
  refine lv_goto (tgt := 23) hx hb dX8_play_49 (by decide) ?_
  exact hL23 _ _ _ _ _ hf hP hS (lv_sub hl [1, 0] rfl)
set_option maxHeartbeats 4000000 in
set_option maxRecDepth 100000 in
theorem w_X8_play_b23 {p : Program} {l : Launch} {e : Env} {s : State} {m : MethodId} {args : Array Value} {below : List Frame} {meth : Method} {c : Code} {G : GG} {sz : Nat} {r : Int32} {M' : Mem} (E : Cx p s m args meth c cX8_play (some .int) 2 RX8 G) : ∀ fu : Nat, ∀ (x1 : Int32) (M : Mem) (H : Heap) (locs : List Loc) (ls : Array Slot), f_X8_play_b23 fu x1 M = some (r, M') → PW G (AM G) (XM G) sz M s H → va_S (AM G) s.heap H locs → lv_has ls 2 [(0, .ref (adM G 0 0)), (1, .int x1)] → W p l e rm_X8_play s m args below meth c H locs 0 0 (MQ below (va_Qi (fun (r2 : Int32) (_ : Unit) => r2 = r) (fun _ t => PW G (AM G) (XM G) sz M' t t.heap) (AM G)) args s 0 0 (AM G)) (F0 m 23 ls []) := by
  obtain ⟨hx, hb, hr, hlocks, hml, hown, hts, hK⟩ := id E
  intro fu
  induction fu with
  | zero => intro x1 M H locs ls hf hP hS hl; cases hf
  | succ fu ih =>
    intro x1 M H locs ls hf hP hS hl
    rw [f_X8_play_b23.eq_2] at hf
    refine lv_aload_n hx hb dX8_play_23 rfl (lv_at hl 0 rfl) ?_
    refine gf_X8_at E hP w_804 dX8_play_24 ?_
    refine lv_aload_n hx hb dX8_play_27 rfl (lv_at hl 0 rfl) ?_
    refine gf_X8_typed E hP w_803 dX8_play_28 ?_
    refine lv_icmp_ge (tgt := 52) hx hb dX8_play_31 (by decide) (fun hc => ?_) (fun hc => ?_)
    · have hf := if_t hf hc
      refine lv_aload_n hx hb dX8_play_52 rfl (lv_at hl 0 rfl) ?_
      refine lv_iload_n hx hb dX8_play_53 rfl (lv_at hl 1 rfl) ?_
      refine ob_e hf (fun r_54 M_54 hq hf => ?_)
      refine cv_X8_acted E hP hS hq w_859 ⟨Nat.le_of_ble_eq_true rfl, Nat.le_of_ble_eq_true rfl⟩ hl (Nat.le_of_ble_eq_true rfl) dX8_play_54 ⟨Nat.le_of_ble_eq_true rfl, Nat.le_of_ble_eq_true rfl⟩ (fun H locs hP hS => ?_)
      exact en_i hf hx hb hr rfl hlocks hP hS dX8_play_57
    · have hf := if_f hf hc
      refine lv_iload_n hx hb dX8_play_34 rfl (lv_at hl 1 rfl) ?_
      refine lv_aload_n hx hb dX8_play_35 rfl (lv_at hl 0 rfl) ?_
      refine ob_e hf (fun r_36 M_36 hq hf => ?_)
      refine cv_X8_doesNext E hP hS hq w_1124 ⟨Nat.le_of_ble_eq_true rfl, Nat.le_of_ble_eq_true rfl⟩ hl (Nat.le_of_ble_eq_true rfl) dX8_play_36 ⟨Nat.le_of_ble_eq_true rfl, Nat.le_of_ble_eq_true rfl⟩ (fun H locs hP hS => ?_)
      refine lv_if_ne (tgt := 46) hx hb dX8_play_39 (by decide) (fun hc => ?_) (fun hc => ?_)
      · have hf := if_f hf hc
        refine lv_iconst (v := 0) hx hb dX8_play_46 (by decide) ?_
        exact w_X8_play_b47 E ih hf hP hS (lv_sub hl [0] rfl)
      · have hf := if_t hf hc
        refine lv_iconst (v := 1) hx hb dX8_play_42 (by decide) ?_
        refine lv_goto (tgt := 47) hx hb dX8_play_43 (by decide) ?_
        exact w_X8_play_b47 E ih hf hP hS (lv_sub hl [0] rfl)
set_option maxHeartbeats 4000000 in
set_option maxRecDepth 100000 in
theorem w_X8_play {p : Program} {l : Launch} {e : Env} {s : State} {m : MethodId} {args : Array Value} {below : List Frame} {meth : Method} {c : Code} {G : GG} {sz : Nat} {r : Int32} {M' : Mem} (E : Cx p s m args meth c cX8_play (some .int) 2 RX8 G) {M : Mem} {H : Heap} {locs : List Loc} {ls : Array Slot} (hf : f_X8_play M = some (r, M')) (hP : PW G (AM G) (XM G) sz M s H) (hS : va_S (AM G) s.heap H locs) (hl : lv_has ls 2 [(0, .ref (adM G 0 0))]) : W p l e rm_X8_play s m args below meth c H locs 0 0 (MQ below (va_Qi (fun (r2 : Int32) (_ : Unit) => r2 = r) (fun _ t => PW G (AM G) (XM G) sz M' t t.heap) (AM G)) args s 0 0 (AM G)) (F0 m 0 ls []) := by
  obtain ⟨hx, hb, hr, hlocks, hml, hown, hts, hK⟩ := id E
  unfold f_X8_play at hf
  refine lv_aload_n hx hb dX8_play_0 rfl (lv_at hl 0 rfl) ?_
  refine ob_e hf (fun r_1 M_1 hq hf => ?_)
  refine cv_X8_faulty E hP hS hq w_1120 ⟨Nat.le_of_ble_eq_true rfl, Nat.le_of_ble_eq_true rfl⟩ hl (Nat.le_of_ble_eq_true rfl) dX8_play_1 ⟨Nat.le_of_ble_eq_true rfl, Nat.le_of_ble_eq_true rfl⟩ (fun H locs hP hS => ?_)
  refine lv_ldc (v := (-1000004)) hx hb hown (hts _ w_939) dX8_play_4 ?_
  refine lv_icmp_eq (tgt := 12) hx hb dX8_play_6 (by decide) (fun hc => ?_) (fun hc => ?_)
  · have hf := if_t hf hc
    refine lv_aload_n hx hb dX8_play_12 rfl (lv_at hl 0 rfl) ?_
    refine ob_e hf (fun r_13 M_13 hq hf => ?_)
    refine cv_X8_keeps E hP hS hq w_855 ⟨Nat.le_of_ble_eq_true rfl, Nat.le_of_ble_eq_true rfl⟩ hl (Nat.le_of_ble_eq_true rfl) dX8_play_13 ⟨Nat.le_of_ble_eq_true rfl, Nat.le_of_ble_eq_true rfl⟩ (fun H locs hP hS => ?_)
    refine lv_iconst (v := 0) hx hb dX8_play_16 (by decide) ?_
    refine lv_istore_n (lv' := [(1, .int 0), (0, .ref (adM G 0 0))]) hx hb dX8_play_17 rfl hl (by decide) rfl (fun ls hl => ?_)
    refine lv_aload_n hx hb dX8_play_18 rfl (lv_at hl 1 rfl) ?_
    refine lv_iconst (v := 0) hx hb dX8_play_19 (by decide) ?_
    refine lt_e hf (fun M_20 hM_20 hf => ?_)
    refine pf_X8_at E hP hS hM_20 w_804 dX8_play_20 (fun H locs hP hS => ?_)
    exact w_X8_play_b23 E 1000 _ _ _ _ _ hf hP hS (lv_sub hl [1, 0] rfl)
  · have hf := if_f hf hc
    refine lv_ldc (v := (-1000002)) hx hb hown (hts _ w_871) dX8_play_9 ?_
    exact en_i hf hx hb hr rfl hlocks hP hS dX8_play_11
theorem c_X8_play (l : Launch) {G : GG} {sz : Nat} {M : Mem} {r : Int32} {M' : Mem} (hf : f_X8_play M = some (r, M')) : CtI l yX8_play cX8_play 2 (some .int) rm_X8_play [.ref (adM G 0 0)] G (AM G) (XM G) sz M r (XM G) sz M' := by
  refine Ct_of (by decide) (Nat.le_of_ble_eq_true rfl) (fun p e s m below meth c ls hx hb hr hlocks hml hown hts hK hP hl => ?_)
  exact w_X8_play ⟨hx, hb, hr, hlocks, hml, hown, hts, hK⟩ hf hP va_S.rf hl
set_option maxRecDepth 100000 in
theorem cv_X8_play {p : Program} {l : Launch} {e : Env} {R : Room} {s : State} {m : MethodId} {args : Array Value} {below : List Frame} {meth : Method} {c : Code} {H : Heap} {locs : List Loc} {cells slots : Nat} {Q : State → Prop} {cc : ByteArray} {pc nL index : Nat} {ret : Option FieldType} {own : String} {ls : Array Slot} {rest : List Value} {l' : List (Nat × Value)} {G : GG} {sz : Nat} {M : Mem} (E : Cx p s m args meth c cc ret nL own G) (hP : PW G (AM G) (XM G) sz M s H) (hS : va_S (AM G) s.heap H locs) {r : Int32} {M' : Mem} (hq : f_X8_play M = some (r, M')) (w1 : Cond.methodLink own index yX8_play ∈ lw_all) (hR : 10 ≤ R.frames ∧ 238 ≤ R.locals) (hl : lv_has ls nL l') (hrest : (rest.map fun v => v.category).sum ≤ 8) (hdg : decode cc pc = .ok (.invokevirtual index, 3)) (hcs : cells ≤ R.cells ∧ slots ≤ R.slots)
    (kk : ∀ (H1 : Heap) (locs1 : List Loc), PW G (AM G) (XM G) sz M' s H1 → va_S (AM G) s.heap H1 locs1 → W p l e R s m args below meth c H1 locs1 cells slots Q (F0 m (pc + 3) ls (.int r :: rest))) : W p l e R s m args below meth c H locs cells slots Q (F0 m pc ls (.ref (adM G 0 0) :: rest)) := by
  obtain ⟨hx, hb, hr, hlocks, hml, hown, hts, hK⟩ := E
  exact kc_i (kc_runV (na := 0) (q := (RX8, TX8, 16)) hx hb hml hts hown hK hP 0 0 ⟨rfl, by decide⟩ rfl rfl rfl (c_X8_play l hq) w1 w_1141 w_1142 w_9 w_1143 (by decide +kernel) hR rfl hl rfl hrest hdg hcs) hS kk
