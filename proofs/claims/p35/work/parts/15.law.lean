/-! L_pens -/
abbrev rm_L_pens : Room := { frames := 4, cells := 0, slots := 0, locals := 87 }
def f_L_pens_b366 (s0 : Int32) (M : Mem) : Option (Int32 × Mem) :=
ck (bl s0) <|
some (s0, M)
def f_L_pens_b365 (M : Mem) : Option (Int32 × Mem) :=
f_L_pens_b366 0 M
def f_L_pens_b361 (M : Mem) : Option (Int32 × Mem) :=
f_L_pens_b366 1 M
def f_L_pens_b341 (x3 : Int32) (s0 : Int32) (s1 : Int32) (M : Mem) : Option (Int32 × Mem) :=
(if s0 = s1 then
  (if x3 = 0 then
    f_L_pens_b361 M
  else
    ob (f_X7_spread M) fun r_349 M_349 =>
    ob (f_X7_count 20 M_349) fun r_355 M_355 =>
    (if r_349 ≤ r_355 then
      f_L_pens_b365 M_355
    else
      f_L_pens_b361 M_355))
else
  f_L_pens_b365 M)
def f_L_pens_b312 (x1 : Int32) (x2 : Int32) (x3 : Int32) (x5 : Int32) (M : Mem) : Option (Int32 × Mem) :=
(if x5 = 0 then
  f_L_pens_b365 M
else
  ob (f_X7_strikers M) fun r_318 M_318 =>
  (if r_318 = x3 then
    ob (f_X7_spread M_318) fun r_326 M_326 =>
    (if 0 ≤ x1 then
      f_L_pens_b341 x3 r_326 ((x1 - x2)) M_326
    else
      f_L_pens_b341 x3 r_326 (-1000004) M_326)
  else
    f_L_pens_b365 M_318))
def f_L_pens_b304 (L20 : Int32 → Int32 → Int32 → Int32 → Int32 → Int32 → Mem → Option (Int32 × Mem)) (x1 : Int32) (x2 : Int32) (x3 : Int32) (x4 : Int32) (x6 : Int32) (s0 : Int32) (M : Mem) : Option (Int32 × Mem) :=
lt (x6 + 1) fun x6_306 =>
L20 x1 x2 x3 x4 s0 x6_306 M
def f_L_pens_b303 (L20 : Int32 → Int32 → Int32 → Int32 → Int32 → Int32 → Mem → Option (Int32 × Mem)) (x1 : Int32) (x2 : Int32) (x3 : Int32) (x4 : Int32) (x6 : Int32) (M : Mem) : Option (Int32 × Mem) :=
f_L_pens_b304 L20 x1 x2 x3 x4 x6 0 M
def f_L_pens_b299 (L20 : Int32 → Int32 → Int32 → Int32 → Int32 → Int32 → Mem → Option (Int32 × Mem)) (x1 : Int32) (x2 : Int32) (x3 : Int32) (x4 : Int32) (x6 : Int32) (M : Mem) : Option (Int32 × Mem) :=
f_L_pens_b304 L20 x1 x2 x3 x4 x6 1 M
def f_L_pens_b286 (L20 : Int32 → Int32 → Int32 → Int32 → Int32 → Int32 → Mem → Option (Int32 × Mem)) (x1 : Int32) (x2 : Int32) (x3 : Int32) (x4 : Int32) (x6 : Int32) (s0 : Int32) (s1 : Int32) (M : Mem) : Option (Int32 × Mem) :=
(if s0 = s1 then
  f_L_pens_b299 L20 x1 x2 x3 x4 x6 M
else
  f_L_pens_b303 L20 x1 x2 x3 x4 x6 M)
def f_L_pens_b269 (L20 : Int32 → Int32 → Int32 → Int32 → Int32 → Int32 → Mem → Option (Int32 × Mem)) (x1 : Int32) (x2 : Int32) (x3 : Int32) (x4 : Int32) (x6 : Int32) (s0 : Int32) (M : Mem) : Option (Int32 × Mem) :=
ob (f_X7_penOf x6 8 M) fun r_274 M_274 =>
(if r_274 = 1 then
  f_L_pens_b286 L20 x1 x2 x3 x4 x6 s0 1 M_274
else
  f_L_pens_b286 L20 x1 x2 x3 x4 x6 s0 0 M_274)
def f_L_pens_b232 (L20 : Int32 → Int32 → Int32 → Int32 → Int32 → Int32 → Mem → Option (Int32 × Mem)) (x1 : Int32) (x2 : Int32) (x3 : Int32) (x4 : Int32) (x6 : Int32) (x8 : Int32) (s0 : Int32) (M : Mem) : Option (Int32 × Mem) :=
ob (f_X7_room x6 M) fun r_237 M_237 =>
(if s0 = 0 then
  f_L_pens_b303 L20 x1 x2 x3 x4 x6 M_237
else
  (if r_237 = (-1000004) then
    f_L_pens_b299 L20 x1 x2 x3 x4 x6 M_237
  else
    (if x8 = 0 then
      (if r_237 = (-1000002) then
        f_L_pens_b299 L20 x1 x2 x3 x4 x6 M_237
      else
        f_L_pens_b303 L20 x1 x2 x3 x4 x6 M_237)
    else
      (if 0 ≤ r_237 then
        f_L_pens_b269 L20 x1 x2 x3 x4 x6 0 M_237
      else
        f_L_pens_b269 L20 x1 x2 x3 x4 x6 1 M_237))))
def f_L_pens_b231 (L20 : Int32 → Int32 → Int32 → Int32 → Int32 → Int32 → Mem → Option (Int32 × Mem)) (x1 : Int32) (x2 : Int32) (x3 : Int32) (x4 : Int32) (x6 : Int32) (x8 : Int32) (M : Mem) : Option (Int32 × Mem) :=
f_L_pens_b232 L20 x1 x2 x3 x4 x6 x8 0 M
def f_L_pens_b224 (L20 : Int32 → Int32 → Int32 → Int32 → Int32 → Int32 → Mem → Option (Int32 × Mem)) (x1 : Int32) (x2 : Int32) (x3 : Int32) (x4 : Int32) (x6 : Int32) (x8 : Int32) (s0 : Int32) (s1 : Int32) (M : Mem) : Option (Int32 × Mem) :=
(if s0 = s1 then
  f_L_pens_b232 L20 x1 x2 x3 x4 x6 x8 1 M
else
  f_L_pens_b231 L20 x1 x2 x3 x4 x6 x8 M)
def f_L_pens_b195 (L20 : Int32 → Int32 → Int32 → Int32 → Int32 → Int32 → Mem → Option (Int32 × Mem)) (x1 : Int32) (x2 : Int32) (x3 : Int32) (x4 : Int32) (x6 : Int32) (x8 : Int32) (M : Mem) : Option (Int32 × Mem) :=
ob (f_X7_penOf x6 9 M) fun r_200 M_200 =>
ob (f_X7_penOf x6 4 M_200) fun r_207 M_207 =>
ob (f_X7_count 21 M_207) fun r_213 M_213 =>
(if r_207 ≤ r_213 then
  f_L_pens_b224 L20 x1 x2 x3 x4 x6 x8 r_200 0 M_213
else
  f_L_pens_b224 L20 x1 x2 x3 x4 x6 x8 r_200 1 M_213)
def f_L_pens_b169 (L20 : Int32 → Int32 → Int32 → Int32 → Int32 → Int32 → Mem → Option (Int32 × Mem)) (x1 : Int32) (x2 : Int32) (x3 : Int32) (x4 : Int32) (x6 : Int32) (x8 : Int32) (s0 : Int32) (s1 : Int32) (M : Mem) : Option (Int32 × Mem) :=
(if s0 = s1 then
  (if x8 = 0 then
    ob (f_X7_penOf x6 8 M) fun r_182 M_182 =>
    (if r_182 = 0 then
      (if x4 = x6 then
        f_L_pens_b231 L20 x1 x2 x3 x4 x6 x8 M_182
      else
        f_L_pens_b195 L20 x1 x2 x3 x4 x6 x8 M_182)
    else
      f_L_pens_b231 L20 x1 x2 x3 x4 x6 x8 M_182)
  else
    f_L_pens_b195 L20 x1 x2 x3 x4 x6 x8 M)
else
  f_L_pens_b231 L20 x1 x2 x3 x4 x6 x8 M)
def f_L_pens_b97 (L20 : Int32 → Int32 → Int32 → Int32 → Int32 → Int32 → Mem → Option (Int32 × Mem)) (x1 : Int32) (x3 : Int32) (x4 : Int32) (x6 : Int32) (x8 : Int32) (s0 : Int32) (M : Mem) : Option (Int32 × Mem) :=
ob (f_X7_penOf x6 8 M) fun r_104 M_104 =>
lt ((x3 ||| (r_104 <<< (x6 &&& 31)))) fun x3_111 =>
ob (f_X7_penOf x6 2 M_104) fun r_116 M_116 =>
(if r_116 < 0 then
  f_L_pens_b231 L20 x1 s0 x3_111 x4 x6 x8 M_116
else
  ob (f_X7_penOf x6 2 M_116) fun r_126 M_126 =>
  ob (f_X7_penOf x6 1 M_126) fun r_133 M_133 =>
  (if r_133 < r_126 then
    f_L_pens_b231 L20 x1 s0 x3_111 x4 x6 x8 M_133
  else
    ob (f_X7_penOf x6 4 M_133) fun r_143 M_143 =>
    (if r_143 < 0 then
      f_L_pens_b231 L20 x1 s0 x3_111 x4 x6 x8 M_143
    else
      ob (f_X7_penOf x6 6 M_143) fun r_154 M_154 =>
      (if x4 = x6 then
        f_L_pens_b169 L20 x1 s0 x3_111 x4 x6 x8 r_154 1 M_154
      else
        f_L_pens_b169 L20 x1 s0 x3_111 x4 x6 x8 r_154 0 M_154))))
def f_L_pens_b96 (L20 : Int32 → Int32 → Int32 → Int32 → Int32 → Int32 → Mem → Option (Int32 × Mem)) (x1 : Int32) (x2 : Int32) (x3 : Int32) (x4 : Int32) (x6 : Int32) (x8 : Int32) (M : Mem) : Option (Int32 × Mem) :=
f_L_pens_b97 L20 x1 x3 x4 x6 x8 x2 M
def f_L_pens_b79 (L20 : Int32 → Int32 → Int32 → Int32 → Int32 → Int32 → Mem → Option (Int32 × Mem)) (x2 : Int32) (x3 : Int32) (x4 : Int32) (x6 : Int32) (x7 : Int32) (x8 : Int32) (s0 : Int32) (M : Mem) : Option (Int32 × Mem) :=
(if x8 = 0 then
  f_L_pens_b96 L20 s0 x2 x3 x4 x6 x8 M
else
  (if x2 ≤ x7 then
    f_L_pens_b96 L20 s0 x2 x3 x4 x6 x8 M
  else
    f_L_pens_b97 L20 s0 x3 x4 x6 x8 x7 M))
def f_L_pens_b78 (L20 : Int32 → Int32 → Int32 → Int32 → Int32 → Int32 → Mem → Option (Int32 × Mem)) (x1 : Int32) (x2 : Int32) (x3 : Int32) (x4 : Int32) (x6 : Int32) (x7 : Int32) (x8 : Int32) (M : Mem) : Option (Int32 × Mem) :=
f_L_pens_b79 L20 x2 x3 x4 x6 x7 x8 x1 M
def f_L_pens_b60 (L20 : Int32 → Int32 → Int32 → Int32 → Int32 → Int32 → Mem → Option (Int32 × Mem)) (x1 : Int32) (x2 : Int32) (x3 : Int32) (x4 : Int32) (x6 : Int32) (x7 : Int32) (s0 : Int32) (M : Mem) : Option (Int32 × Mem) :=
(if s0 = 0 then
  f_L_pens_b78 L20 x1 x2 x3 x4 x6 x7 s0 M
else
  (if x7 ≤ x1 then
    f_L_pens_b78 L20 x1 x2 x3 x4 x6 x7 s0 M
  else
    f_L_pens_b79 L20 x2 x3 x4 x6 x7 s0 x7 M))
def f_L_pens_b20 : Nat → Int32 → Int32 → Int32 → Int32 → Int32 → Int32 → Mem → Option (Int32 × Mem)
  | 0 => fun _ _ _ _ _ _ _ => none
  | fu + 1 => fun x1 x2 x3 x4 x5 x6 M =>
ob (f_X7_count 0 M) fun r_24 M_24 =>
(if r_24 ≤ x6 then
  f_L_pens_b312 x1 x2 x3 x5 M_24
else
  (if x5 = 0 then
    f_L_pens_b312 x1 x2 x3 x5 M_24
  else
    ob (f_X7_penOf x6 3 M_24) fun r_39 M_39 =>
    ob (f_X7_penOf x6 7 M_39) fun r_49 M_49 =>
    (if r_49 = 0 then
      f_L_pens_b60 (f_L_pens_b20 fu) x1 x2 x3 x4 x6 r_39 1 M_49
    else
      f_L_pens_b60 (f_L_pens_b20 fu) x1 x2 x3 x4 x6 r_39 0 M_49)))
def f_L_pens (M : Mem) : Option (Int32 × Mem) :=
ob (f_X7_count 5 M) fun r_9 M_9 =>
f_L_pens_b20 1000 (-1) 1000000 0 r_9 1 0 M_9
set_option maxHeartbeats 4000000 in
set_option maxRecDepth 100000 in
theorem w_L_pens_b366 {p : Program} {l : Launch} {e : Env} {s : State} {m : MethodId} {args : Array Value} {below : List Frame} {meth : Method} {c : Code} {G : GG} {sz : Nat} {ns : Nat} {r : Int32} {M' : Mem} (E : Cx p s m args meth c cL_pens (some .boolean) 10 RL G) {s0 : Int32} {M : Mem} {H : Heap} {locs : List Loc} {ls : Array Slot} (hf : f_L_pens_b366 s0 M = some (r, M')) (hP : PW G (AC G) (XC G ns) sz M s H) (hS : va_S (AC G) s.heap H locs) (hl : lv_has ls 10 []) : W p l e rm_L_pens s m args below meth c H locs 0 0 (MQ below (va_Qi (fun (r2 : Int32) (_ : Unit) => r2 = r) (fun _ t => PW G (AC G) (XC G ns) sz M' t t.heap) (AC G)) args s 0 0 (AC G)) (F0 m 366 ls [.int s0]) := by
  obtain ⟨hx, hb, hr, hlocks, hml, hown, hts, hK⟩ := id E
  unfold f_L_pens_b366 at hf
  refine ck_e hf (fun hn hf => ?_)
  exact en_i hf hx hb hr (bl_nar hn) hlocks hP hS dL_pens_366
set_option maxHeartbeats 4000000 in
set_option maxRecDepth 100000 in
theorem w_L_pens_b365 {p : Program} {l : Launch} {e : Env} {s : State} {m : MethodId} {args : Array Value} {below : List Frame} {meth : Method} {c : Code} {G : GG} {sz : Nat} {ns : Nat} {r : Int32} {M' : Mem} (E : Cx p s m args meth c cL_pens (some .boolean) 10 RL G) {M : Mem} {H : Heap} {locs : List Loc} {ls : Array Slot} (hf : f_L_pens_b365 M = some (r, M')) (hP : PW G (AC G) (XC G ns) sz M s H) (hS : va_S (AC G) s.heap H locs) (hl : lv_has ls 10 []) : W p l e rm_L_pens s m args below meth c H locs 0 0 (MQ below (va_Qi (fun (r2 : Int32) (_ : Unit) => r2 = r) (fun _ t => PW G (AC G) (XC G ns) sz M' t t.heap) (AC G)) args s 0 0 (AC G)) (F0 m 365 ls []) := by
  obtain ⟨hx, hb, hr, hlocks, hml, hown, hts, hK⟩ := id E
  unfold f_L_pens_b365 at hf
  refine lv_iconst (v := 0) hx hb dL_pens_365 (by decide) ?_
  exact w_L_pens_b366 E hf hP hS (lv_sub hl [] rfl)
set_option maxHeartbeats 4000000 in
set_option maxRecDepth 100000 in
theorem w_L_pens_b361 {p : Program} {l : Launch} {e : Env} {s : State} {m : MethodId} {args : Array Value} {below : List Frame} {meth : Method} {c : Code} {G : GG} {sz : Nat} {ns : Nat} {r : Int32} {M' : Mem} (E : Cx p s m args meth c cL_pens (some .boolean) 10 RL G) {M : Mem} {H : Heap} {locs : List Loc} {ls : Array Slot} (hf : f_L_pens_b361 M = some (r, M')) (hP : PW G (AC G) (XC G ns) sz M s H) (hS : va_S (AC G) s.heap H locs) (hl : lv_has ls 10 []) : W p l e rm_L_pens s m args below meth c H locs 0 0 (MQ below (va_Qi (fun (r2 : Int32) (_ : Unit) => r2 = r) (fun _ t => PW G (AC G) (XC G ns) sz M' t t.heap) (AC G)) args s 0 0 (AC G)) (F0 m 361 ls []) := by
  obtain ⟨hx, hb, hr, hlocks, hml, hown, hts, hK⟩ := id E
  unfold f_L_pens_b361 at hf
  refine lv_iconst (v := 1) hx hb dL_pens_361 (by decide) ?_
  refine lv_goto (tgt := 366) hx hb dL_pens_362 (by decide) ?_
  exact w_L_pens_b366 E hf hP hS (lv_sub hl [] rfl)
set_option maxHeartbeats 4000000 in
set_option maxRecDepth 100000 in
theorem w_L_pens_b341 {p : Program} {l : Launch} {e : Env} {s : State} {m : MethodId} {args : Array Value} {below : List Frame} {meth : Method} {c : Code} {G : GG} {sz : Nat} {ns : Nat} {r : Int32} {M' : Mem} (E : Cx p s m args meth c cL_pens (some .boolean) 10 RL G) {x3 : Int32} {s0 : Int32} {s1 : Int32} {M : Mem} {H : Heap} {locs : List Loc} {ls : Array Slot} (hf : f_L_pens_b341 x3 s0 s1 M = some (r, M')) (hP : PW G (AC G) (XC G ns) sz M s H) (hS : va_S (AC G) s.heap H locs) (hl : lv_has ls 10 [(0, .ref (adC G 0 0)), (3, .int x3)]) : W p l e rm_L_pens s m args below meth c H locs 0 0 (MQ below (va_Qi (fun (r2 : Int32) (_ : Unit) => r2 = r) (fun _ t => PW G (AC G) (XC G ns) sz M' t t.heap) (AC G)) args s 0 0 (AC G)) (F0 m 341 ls [.int s1, .int s0]) := by
  obtain ⟨hx, hb, hr, hlocks, hml, hown, hts, hK⟩ := id E
  unfold f_L_pens_b341 at hf
  refine lv_icmp_ne (tgt := 365) hx hb dL_pens_341 (by decide) (fun hc => ?_) (fun hc => ?_)
  · have hf := if_f hf hc
    exact w_L_pens_b365 E hf hP hS (lv_sub hl [] rfl)
  · have hf := if_t hf hc
    refine lv_iload_n hx hb dL_pens_344 rfl (lv_at hl 1 rfl) ?_
    refine lv_if_eq (tgt := 361) hx hb dL_pens_345 (by decide) (fun hc => ?_) (fun hc => ?_)
    · have hf := if_t hf hc
      exact w_L_pens_b361 E hf hP hS (lv_sub hl [] rfl)
    · have hf := if_f hf hc
      refine lv_aload_n hx hb dL_pens_348 rfl (lv_at hl 0 rfl) ?_
      refine ob_e hf (fun r_349 M_349 hq hf => ?_)
      refine cv_X7_spread E hP hS hq w_495 ⟨Nat.le_of_ble_eq_true rfl, Nat.le_of_ble_eq_true rfl⟩ hl (Nat.le_of_ble_eq_true rfl) dL_pens_349 ⟨Nat.le_of_ble_eq_true rfl, Nat.le_of_ble_eq_true rfl⟩ (fun H locs hP hS => ?_)
      refine lv_aload_n hx hb dL_pens_352 rfl (lv_at hl 0 rfl) ?_
      refine lv_bipush (v := 20) hx hb dL_pens_353 (by decide) ?_
      refine ob_e hf (fun r_355 M_355 hq hf => ?_)
      refine cv_X7_count E hP hS hq w_414 ⟨Nat.le_of_ble_eq_true rfl, Nat.le_of_ble_eq_true rfl⟩ hl (Nat.le_of_ble_eq_true rfl) dL_pens_355 ⟨Nat.le_of_ble_eq_true rfl, Nat.le_of_ble_eq_true rfl⟩ (fun H locs hP hS => ?_)
      refine lv_icmp_le (tgt := 365) hx hb dL_pens_358 (by decide) (fun hc => ?_) (fun hc => ?_)
      · have hf := if_t hf hc
        exact w_L_pens_b365 E hf hP hS (lv_sub hl [] rfl)
      · have hf := if_f hf hc
        exact w_L_pens_b361 E hf hP hS (lv_sub hl [] rfl)
set_option maxHeartbeats 4000000 in
set_option maxRecDepth 100000 in
theorem w_L_pens_b312 {p : Program} {l : Launch} {e : Env} {s : State} {m : MethodId} {args : Array Value} {below : List Frame} {meth : Method} {c : Code} {G : GG} {sz : Nat} {ns : Nat} {r : Int32} {M' : Mem} (E : Cx p s m args meth c cL_pens (some .boolean) 10 RL G) {x1 : Int32} {x2 : Int32} {x3 : Int32} {x5 : Int32} {M : Mem} {H : Heap} {locs : List Loc} {ls : Array Slot} (hf : f_L_pens_b312 x1 x2 x3 x5 M = some (r, M')) (hP : PW G (AC G) (XC G ns) sz M s H) (hS : va_S (AC G) s.heap H locs) (hl : lv_has ls 10 [(0, .ref (adC G 0 0)), (1, .int x1), (2, .int x2), (3, .int x3), (5, .int x5)]) : W p l e rm_L_pens s m args below meth c H locs 0 0 (MQ below (va_Qi (fun (r2 : Int32) (_ : Unit) => r2 = r) (fun _ t => PW G (AC G) (XC G ns) sz M' t t.heap) (AC G)) args s 0 0 (AC G)) (F0 m 312 ls []) := by
  obtain ⟨hx, hb, hr, hlocks, hml, hown, hts, hK⟩ := id E
  unfold f_L_pens_b312 at hf
  refine lv_iload hx hb dL_pens_312 (lv_at hl 4 rfl) ?_
  refine lv_if_eq (tgt := 365) hx hb dL_pens_314 (by decide) (fun hc => ?_) (fun hc => ?_)
  · have hf := if_t hf hc
    exact w_L_pens_b365 E hf hP hS (lv_sub hl [] rfl)
  · have hf := if_f hf hc
    refine lv_aload_n hx hb dL_pens_317 rfl (lv_at hl 0 rfl) ?_
    refine ob_e hf (fun r_318 M_318 hq hf => ?_)
    refine cv_X7_strikers E hP hS hq w_491 ⟨Nat.le_of_ble_eq_true rfl, Nat.le_of_ble_eq_true rfl⟩ hl (Nat.le_of_ble_eq_true rfl) dL_pens_318 ⟨Nat.le_of_ble_eq_true rfl, Nat.le_of_ble_eq_true rfl⟩ (fun H locs hP hS => ?_)
    refine lv_iload_n hx hb dL_pens_321 rfl (lv_at hl 3 rfl) ?_
    refine lv_icmp_ne (tgt := 365) hx hb dL_pens_322 (by decide) (fun hc => ?_) (fun hc => ?_)
    · have hf := if_f hf hc
      exact w_L_pens_b365 E hf hP hS (lv_sub hl [] rfl)
    · have hf := if_t hf hc
      refine lv_aload_n hx hb dL_pens_325 rfl (lv_at hl 0 rfl) ?_
      refine ob_e hf (fun r_326 M_326 hq hf => ?_)
      refine cv_X7_spread E hP hS hq w_495 ⟨Nat.le_of_ble_eq_true rfl, Nat.le_of_ble_eq_true rfl⟩ hl (Nat.le_of_ble_eq_true rfl) dL_pens_326 ⟨Nat.le_of_ble_eq_true rfl, Nat.le_of_ble_eq_true rfl⟩ (fun H locs hP hS => ?_)
      refine lv_iload_n hx hb dL_pens_329 rfl (lv_at hl 1 rfl) ?_
      refine lv_if_ge (tgt := 338) hx hb dL_pens_330 (by decide) (fun hc => ?_) (fun hc => ?_)
      · have hf := if_t hf hc
        refine lv_iload_n hx hb dL_pens_338 rfl (lv_at hl 1 rfl) ?_
        refine lv_iload_n hx hb dL_pens_339 rfl (lv_at hl 2 rfl) ?_
        refine lv_isub hx hb dL_pens_340 ?_
        exact w_L_pens_b341 E hf hP hS (lv_sub hl [0, 3] rfl)
      · have hf := if_f hf hc
        refine lv_ldc (v := (-1000004)) hx hb hown (hts _ w_489) dL_pens_333 ?_
        refine lv_goto (tgt := 341) hx hb dL_pens_335 (by decide) ?_
        exact w_L_pens_b341 E hf hP hS (lv_sub hl [0, 3] rfl)
set_option maxHeartbeats 4000000 in
set_option maxRecDepth 100000 in
theorem w_L_pens_b304 {p : Program} {l : Launch} {e : Env} {s : State} {m : MethodId} {args : Array Value} {below : List Frame} {meth : Method} {c : Code} {G : GG} {sz : Nat} {ns : Nat} {r : Int32} {M' : Mem} (E : Cx p s m args meth c cL_pens (some .boolean) 10 RL G) {L20 : Int32 → Int32 → Int32 → Int32 → Int32 → Int32 → Mem → Option (Int32 × Mem)} (hL20 : ∀ (x1 : Int32) (x2 : Int32) (x3 : Int32) (x4 : Int32) (x5 : Int32) (x6 : Int32) (M : Mem) (H : Heap) (locs : List Loc) (ls : Array Slot), L20 x1 x2 x3 x4 x5 x6 M = some (r, M') → PW G (AC G) (XC G ns) sz M s H → va_S (AC G) s.heap H locs → lv_has ls 10 [(0, .ref (adC G 0 0)), (1, .int x1), (2, .int x2), (3, .int x3), (4, .int x4), (5, .int x5), (6, .int x6)] → W p l e rm_L_pens s m args below meth c H locs 0 0 (MQ below (va_Qi (fun (r2 : Int32) (_ : Unit) => r2 = r) (fun _ t => PW G (AC G) (XC G ns) sz M' t t.heap) (AC G)) args s 0 0 (AC G)) (F0 m 20 ls [])) {x1 : Int32} {x2 : Int32} {x3 : Int32} {x4 : Int32} {x6 : Int32} {s0 : Int32} {M : Mem} {H : Heap} {locs : List Loc} {ls : Array Slot} (hf : f_L_pens_b304 L20 x1 x2 x3 x4 x6 s0 M = some (r, M')) (hP : PW G (AC G) (XC G ns) sz M s H) (hS : va_S (AC G) s.heap H locs) (hl : lv_has ls 10 [(0, .ref (adC G 0 0)), (1, .int x1), (2, .int x2), (3, .int x3), (4, .int x4), (6, .int x6)]) : W p l e rm_L_pens s m args below meth c H locs 0 0 (MQ below (va_Qi (fun (r2 : Int32) (_ : Unit) => r2 = r) (fun _ t => PW G (AC G) (XC G ns) sz M' t t.heap) (AC G)) args s 0 0 (AC G)) (F0 m 304 ls [.int s0]) := by
  obtain ⟨hx, hb, hr, hlocks, hml, hown, hts, hK⟩ := id E
  unfold f_L_pens_b304 at hf
  refine lv_istore (lv' := [(5, .int s0), (0, .ref (adC G 0 0)), (1, .int x1), (2, .int x2), (3, .int x3), (4, .int x4), (6, .int x6)]) hx hb dL_pens_304 hl (by decide) rfl (fun ls hl => ?_)
  refine lt_e hf (fun x6_306 hx6_306 hf => ?_)
  refine lv_iinc (v := x6_306) (lv' := [(6, .int x6_306), (5, .int s0), (0, .ref (adC G 0 0)), (1, .int x1), (2, .int x2), (3, .int x3), (4, .int x4)]) hx hb dL_pens_306 hl (k := 6) rfl (by rw [hx6_306]; rfl) (by decide) rfl (fun ls hl => ?_)
  refine lv_goto (tgt := 20) hx hb dL_pens_309 (by decide) ?_
  exact hL20 _ _ _ _ _ _ _ _ _ _ hf hP hS (lv_sub hl [2, 3, 4, 5, 6, 1, 0] rfl)
set_option maxHeartbeats 4000000 in
set_option maxRecDepth 100000 in
theorem w_L_pens_b303 {p : Program} {l : Launch} {e : Env} {s : State} {m : MethodId} {args : Array Value} {below : List Frame} {meth : Method} {c : Code} {G : GG} {sz : Nat} {ns : Nat} {r : Int32} {M' : Mem} (E : Cx p s m args meth c cL_pens (some .boolean) 10 RL G) {L20 : Int32 → Int32 → Int32 → Int32 → Int32 → Int32 → Mem → Option (Int32 × Mem)} (hL20 : ∀ (x1 : Int32) (x2 : Int32) (x3 : Int32) (x4 : Int32) (x5 : Int32) (x6 : Int32) (M : Mem) (H : Heap) (locs : List Loc) (ls : Array Slot), L20 x1 x2 x3 x4 x5 x6 M = some (r, M') → PW G (AC G) (XC G ns) sz M s H → va_S (AC G) s.heap H locs → lv_has ls 10 [(0, .ref (adC G 0 0)), (1, .int x1), (2, .int x2), (3, .int x3), (4, .int x4), (5, .int x5), (6, .int x6)] → W p l e rm_L_pens s m args below meth c H locs 0 0 (MQ below (va_Qi (fun (r2 : Int32) (_ : Unit) => r2 = r) (fun _ t => PW G (AC G) (XC G ns) sz M' t t.heap) (AC G)) args s 0 0 (AC G)) (F0 m 20 ls [])) {x1 : Int32} {x2 : Int32} {x3 : Int32} {x4 : Int32} {x6 : Int32} {M : Mem} {H : Heap} {locs : List Loc} {ls : Array Slot} (hf : f_L_pens_b303 L20 x1 x2 x3 x4 x6 M = some (r, M')) (hP : PW G (AC G) (XC G ns) sz M s H) (hS : va_S (AC G) s.heap H locs) (hl : lv_has ls 10 [(0, .ref (adC G 0 0)), (1, .int x1), (2, .int x2), (3, .int x3), (4, .int x4), (6, .int x6)]) : W p l e rm_L_pens s m args below meth c H locs 0 0 (MQ below (va_Qi (fun (r2 : Int32) (_ : Unit) => r2 = r) (fun _ t => PW G (AC G) (XC G ns) sz M' t t.heap) (AC G)) args s 0 0 (AC G)) (F0 m 303 ls []) := by
  obtain ⟨hx, hb, hr, hlocks, hml, hown, hts, hK⟩ := id E
  unfold f_L_pens_b303 at hf
  refine lv_iconst (v := 0) hx hb dL_pens_303 (by decide) ?_
  exact w_L_pens_b304 E hL20 hf hP hS (lv_sub hl [0, 1, 2, 3, 4, 5] rfl)
set_option maxHeartbeats 4000000 in
set_option maxRecDepth 100000 in
theorem w_L_pens_b299 {p : Program} {l : Launch} {e : Env} {s : State} {m : MethodId} {args : Array Value} {below : List Frame} {meth : Method} {c : Code} {G : GG} {sz : Nat} {ns : Nat} {r : Int32} {M' : Mem} (E : Cx p s m args meth c cL_pens (some .boolean) 10 RL G) {L20 : Int32 → Int32 → Int32 → Int32 → Int32 → Int32 → Mem → Option (Int32 × Mem)} (hL20 : ∀ (x1 : Int32) (x2 : Int32) (x3 : Int32) (x4 : Int32) (x5 : Int32) (x6 : Int32) (M : Mem) (H : Heap) (locs : List Loc) (ls : Array Slot), L20 x1 x2 x3 x4 x5 x6 M = some (r, M') → PW G (AC G) (XC G ns) sz M s H → va_S (AC G) s.heap H locs → lv_has ls 10 [(0, .ref (adC G 0 0)), (1, .int x1), (2, .int x2), (3, .int x3), (4, .int x4), (5, .int x5), (6, .int x6)] → W p l e rm_L_pens s m args below meth c H locs 0 0 (MQ below (va_Qi (fun (r2 : Int32) (_ : Unit) => r2 = r) (fun _ t => PW G (AC G) (XC G ns) sz M' t t.heap) (AC G)) args s 0 0 (AC G)) (F0 m 20 ls [])) {x1 : Int32} {x2 : Int32} {x3 : Int32} {x4 : Int32} {x6 : Int32} {M : Mem} {H : Heap} {locs : List Loc} {ls : Array Slot} (hf : f_L_pens_b299 L20 x1 x2 x3 x4 x6 M = some (r, M')) (hP : PW G (AC G) (XC G ns) sz M s H) (hS : va_S (AC G) s.heap H locs) (hl : lv_has ls 10 [(0, .ref (adC G 0 0)), (1, .int x1), (2, .int x2), (3, .int x3), (4, .int x4), (6, .int x6)]) : W p l e rm_L_pens s m args below meth c H locs 0 0 (MQ below (va_Qi (fun (r2 : Int32) (_ : Unit) => r2 = r) (fun _ t => PW G (AC G) (XC G ns) sz M' t t.heap) (AC G)) args s 0 0 (AC G)) (F0 m 299 ls []) := by
  obtain ⟨hx, hb, hr, hlocks, hml, hown, hts, hK⟩ := id E
  unfold f_L_pens_b299 at hf
  refine lv_iconst (v := 1) hx hb dL_pens_299 (by decide) ?_
  refine lv_goto (tgt := 304) hx hb dL_pens_300 (by decide) ?_
  exact w_L_pens_b304 E hL20 hf hP hS (lv_sub hl [0, 1, 2, 3, 4, 5] rfl)
set_option maxHeartbeats 4000000 in
set_option maxRecDepth 100000 in
theorem w_L_pens_b286 {p : Program} {l : Launch} {e : Env} {s : State} {m : MethodId} {args : Array Value} {below : List Frame} {meth : Method} {c : Code} {G : GG} {sz : Nat} {ns : Nat} {r : Int32} {M' : Mem} (E : Cx p s m args meth c cL_pens (some .boolean) 10 RL G) {L20 : Int32 → Int32 → Int32 → Int32 → Int32 → Int32 → Mem → Option (Int32 × Mem)} (hL20 : ∀ (x1 : Int32) (x2 : Int32) (x3 : Int32) (x4 : Int32) (x5 : Int32) (x6 : Int32) (M : Mem) (H : Heap) (locs : List Loc) (ls : Array Slot), L20 x1 x2 x3 x4 x5 x6 M = some (r, M') → PW G (AC G) (XC G ns) sz M s H → va_S (AC G) s.heap H locs → lv_has ls 10 [(0, .ref (adC G 0 0)), (1, .int x1), (2, .int x2), (3, .int x3), (4, .int x4), (5, .int x5), (6, .int x6)] → W p l e rm_L_pens s m args below meth c H locs 0 0 (MQ below (va_Qi (fun (r2 : Int32) (_ : Unit) => r2 = r) (fun _ t => PW G (AC G) (XC G ns) sz M' t t.heap) (AC G)) args s 0 0 (AC G)) (F0 m 20 ls [])) {x1 : Int32} {x2 : Int32} {x3 : Int32} {x4 : Int32} {x6 : Int32} {s0 : Int32} {s1 : Int32} {M : Mem} {H : Heap} {locs : List Loc} {ls : Array Slot} (hf : f_L_pens_b286 L20 x1 x2 x3 x4 x6 s0 s1 M = some (r, M')) (hP : PW G (AC G) (XC G ns) sz M s H) (hS : va_S (AC G) s.heap H locs) (hl : lv_has ls 10 [(0, .ref (adC G 0 0)), (1, .int x1), (2, .int x2), (3, .int x3), (4, .int x4), (6, .int x6)]) : W p l e rm_L_pens s m args below meth c H locs 0 0 (MQ below (va_Qi (fun (r2 : Int32) (_ : Unit) => r2 = r) (fun _ t => PW G (AC G) (XC G ns) sz M' t t.heap) (AC G)) args s 0 0 (AC G)) (F0 m 286 ls [.int s1, .int s0]) := by
  obtain ⟨hx, hb, hr, hlocks, hml, hown, hts, hK⟩ := id E
  unfold f_L_pens_b286 at hf
  refine lv_icmp_ne (tgt := 303) hx hb dL_pens_286 (by decide) (fun hc => ?_) (fun hc => ?_)
  · have hf := if_f hf hc
    exact w_L_pens_b303 E hL20 hf hP hS (lv_sub hl [0, 1, 2, 3, 4, 5] rfl)
  · have hf := if_t hf hc
    refine lv_goto (tgt := 299) hx hb dL_pens_289 (by decide) ?_
    exact w_L_pens_b299 E hL20 hf hP hS (lv_sub hl [0, 1, 2, 3, 4, 5] rfl)
set_option maxHeartbeats 4000000 in
set_option maxRecDepth 100000 in
theorem w_L_pens_b269 {p : Program} {l : Launch} {e : Env} {s : State} {m : MethodId} {args : Array Value} {below : List Frame} {meth : Method} {c : Code} {G : GG} {sz : Nat} {ns : Nat} {r : Int32} {M' : Mem} (E : Cx p s m args meth c cL_pens (some .boolean) 10 RL G) {L20 : Int32 → Int32 → Int32 → Int32 → Int32 → Int32 → Mem → Option (Int32 × Mem)} (hL20 : ∀ (x1 : Int32) (x2 : Int32) (x3 : Int32) (x4 : Int32) (x5 : Int32) (x6 : Int32) (M : Mem) (H : Heap) (locs : List Loc) (ls : Array Slot), L20 x1 x2 x3 x4 x5 x6 M = some (r, M') → PW G (AC G) (XC G ns) sz M s H → va_S (AC G) s.heap H locs → lv_has ls 10 [(0, .ref (adC G 0 0)), (1, .int x1), (2, .int x2), (3, .int x3), (4, .int x4), (5, .int x5), (6, .int x6)] → W p l e rm_L_pens s m args below meth c H locs 0 0 (MQ below (va_Qi (fun (r2 : Int32) (_ : Unit) => r2 = r) (fun _ t => PW G (AC G) (XC G ns) sz M' t t.heap) (AC G)) args s 0 0 (AC G)) (F0 m 20 ls [])) {x1 : Int32} {x2 : Int32} {x3 : Int32} {x4 : Int32} {x6 : Int32} {s0 : Int32} {M : Mem} {H : Heap} {locs : List Loc} {ls : Array Slot} (hf : f_L_pens_b269 L20 x1 x2 x3 x4 x6 s0 M = some (r, M')) (hP : PW G (AC G) (XC G ns) sz M s H) (hS : va_S (AC G) s.heap H locs) (hl : lv_has ls 10 [(0, .ref (adC G 0 0)), (1, .int x1), (2, .int x2), (3, .int x3), (4, .int x4), (6, .int x6)]) : W p l e rm_L_pens s m args below meth c H locs 0 0 (MQ below (va_Qi (fun (r2 : Int32) (_ : Unit) => r2 = r) (fun _ t => PW G (AC G) (XC G ns) sz M' t t.heap) (AC G)) args s 0 0 (AC G)) (F0 m 269 ls [.int s0]) := by
  obtain ⟨hx, hb, hr, hlocks, hml, hown, hts, hK⟩ := id E
  unfold f_L_pens_b269 at hf
  refine lv_aload_n hx hb dL_pens_269 rfl (lv_at hl 0 rfl) ?_
  refine lv_iload hx hb dL_pens_270 (lv_at hl 5 rfl) ?_
  refine lv_bipush (v := 8) hx hb dL_pens_272 (by decide) ?_
  refine ob_e hf (fun r_274 M_274 hq hf => ?_)
  refine cv_X7_penOf E hP hS hq w_461 ⟨Nat.le_of_ble_eq_true rfl, Nat.le_of_ble_eq_true rfl⟩ hl (Nat.le_of_ble_eq_true rfl) dL_pens_274 ⟨Nat.le_of_ble_eq_true rfl, Nat.le_of_ble_eq_true rfl⟩ (fun H locs hP hS => ?_)
  refine lv_iconst (v := 1) hx hb dL_pens_277 (by decide) ?_
  refine lv_icmp_ne (tgt := 285) hx hb dL_pens_278 (by decide) (fun hc => ?_) (fun hc => ?_)
  · have hf := if_f hf hc
    refine lv_iconst (v := 0) hx hb dL_pens_285 (by decide) ?_
    exact w_L_pens_b286 E hL20 hf hP hS (lv_sub hl [0, 1, 2, 3, 4, 5] rfl)
  · have hf := if_t hf hc
    refine lv_iconst (v := 1) hx hb dL_pens_281 (by decide) ?_
    refine lv_goto (tgt := 286) hx hb dL_pens_282 (by decide) ?_
    exact w_L_pens_b286 E hL20 hf hP hS (lv_sub hl [0, 1, 2, 3, 4, 5] rfl)
set_option maxHeartbeats 4000000 in
set_option maxRecDepth 100000 in
theorem w_L_pens_b232 {p : Program} {l : Launch} {e : Env} {s : State} {m : MethodId} {args : Array Value} {below : List Frame} {meth : Method} {c : Code} {G : GG} {sz : Nat} {ns : Nat} {r : Int32} {M' : Mem} (E : Cx p s m args meth c cL_pens (some .boolean) 10 RL G) {L20 : Int32 → Int32 → Int32 → Int32 → Int32 → Int32 → Mem → Option (Int32 × Mem)} (hL20 : ∀ (x1 : Int32) (x2 : Int32) (x3 : Int32) (x4 : Int32) (x5 : Int32) (x6 : Int32) (M : Mem) (H : Heap) (locs : List Loc) (ls : Array Slot), L20 x1 x2 x3 x4 x5 x6 M = some (r, M') → PW G (AC G) (XC G ns) sz M s H → va_S (AC G) s.heap H locs → lv_has ls 10 [(0, .ref (adC G 0 0)), (1, .int x1), (2, .int x2), (3, .int x3), (4, .int x4), (5, .int x5), (6, .int x6)] → W p l e rm_L_pens s m args below meth c H locs 0 0 (MQ below (va_Qi (fun (r2 : Int32) (_ : Unit) => r2 = r) (fun _ t => PW G (AC G) (XC G ns) sz M' t t.heap) (AC G)) args s 0 0 (AC G)) (F0 m 20 ls [])) {x1 : Int32} {x2 : Int32} {x3 : Int32} {x4 : Int32} {x6 : Int32} {x8 : Int32} {s0 : Int32} {M : Mem} {H : Heap} {locs : List Loc} {ls : Array Slot} (hf : f_L_pens_b232 L20 x1 x2 x3 x4 x6 x8 s0 M = some (r, M')) (hP : PW G (AC G) (XC G ns) sz M s H) (hS : va_S (AC G) s.heap H locs) (hl : lv_has ls 10 [(0, .ref (adC G 0 0)), (1, .int x1), (2, .int x2), (3, .int x3), (4, .int x4), (6, .int x6), (8, .int x8)]) : W p l e rm_L_pens s m args below meth c H locs 0 0 (MQ below (va_Qi (fun (r2 : Int32) (_ : Unit) => r2 = r) (fun _ t => PW G (AC G) (XC G ns) sz M' t t.heap) (AC G)) args s 0 0 (AC G)) (F0 m 232 ls [.int s0]) := by
  obtain ⟨hx, hb, hr, hlocks, hml, hown, hts, hK⟩ := id E
  unfold f_L_pens_b232 at hf
  refine lv_istore (lv' := [(5, .int s0), (0, .ref (adC G 0 0)), (1, .int x1), (2, .int x2), (3, .int x3), (4, .int x4), (6, .int x6), (8, .int x8)]) hx hb dL_pens_232 hl (by decide) rfl (fun ls hl => ?_)
  refine lv_aload_n hx hb dL_pens_234 rfl (lv_at hl 1 rfl) ?_
  refine lv_iload hx hb dL_pens_235 (lv_at hl 6 rfl) ?_
  refine ob_e hf (fun r_237 M_237 hq hf => ?_)
  refine cv_X7_room E hP hS hq w_483 ⟨Nat.le_of_ble_eq_true rfl, Nat.le_of_ble_eq_true rfl⟩ hl (Nat.le_of_ble_eq_true rfl) dL_pens_237 ⟨Nat.le_of_ble_eq_true rfl, Nat.le_of_ble_eq_true rfl⟩ (fun H locs hP hS => ?_)
  refine lv_istore (lv' := [(9, .int r_237), (5, .int s0), (0, .ref (adC G 0 0)), (1, .int x1), (2, .int x2), (3, .int x3), (4, .int x4), (6, .int x6), (8, .int x8)]) hx hb dL_pens_240 hl (by decide) rfl (fun ls hl => ?_)
  refine lv_iload hx hb dL_pens_242 (lv_at hl 1 rfl) ?_
  refine lv_if_eq (tgt := 303) hx hb dL_pens_244 (by decide) (fun hc => ?_) (fun hc => ?_)
  · have hf := if_t hf hc
    exact w_L_pens_b303 E hL20 hf hP hS (lv_sub hl [2, 3, 4, 5, 6, 7] rfl)
  · have hf := if_f hf hc
    refine lv_iload hx hb dL_pens_247 (lv_at hl 0 rfl) ?_
    refine lv_ldc (v := (-1000004)) hx hb hown (hts _ w_489) dL_pens_249 ?_
    refine lv_icmp_eq (tgt := 299) hx hb dL_pens_251 (by decide) (fun hc => ?_) (fun hc => ?_)
    · have hf := if_t hf hc
      exact w_L_pens_b299 E hL20 hf hP hS (lv_sub hl [2, 3, 4, 5, 6, 7] rfl)
    · have hf := if_f hf hc
      refine lv_iload hx hb dL_pens_254 (lv_at hl 8 rfl) ?_
      refine lv_if_eq (tgt := 292) hx hb dL_pens_256 (by decide) (fun hc => ?_) (fun hc => ?_)
      · have hf := if_t hf hc
        refine lv_iload hx hb dL_pens_292 (lv_at hl 0 rfl) ?_
        refine lv_ldc (v := (-1000002)) hx hb hown (hts _ w_490) dL_pens_294 ?_
        refine lv_icmp_ne (tgt := 303) hx hb dL_pens_296 (by decide) (fun hc => ?_) (fun hc => ?_)
        · have hf := if_f hf hc
          exact w_L_pens_b303 E hL20 hf hP hS (lv_sub hl [2, 3, 4, 5, 6, 7] rfl)
        · have hf := if_t hf hc
          exact w_L_pens_b299 E hL20 hf hP hS (lv_sub hl [2, 3, 4, 5, 6, 7] rfl)
      · have hf := if_f hf hc
        refine lv_iload hx hb dL_pens_259 (lv_at hl 0 rfl) ?_
        refine lv_if_ge (tgt := 268) hx hb dL_pens_261 (by decide) (fun hc => ?_) (fun hc => ?_)
        · have hf := if_t hf hc
          refine lv_iconst (v := 0) hx hb dL_pens_268 (by decide) ?_
          exact w_L_pens_b269 E hL20 hf hP hS (lv_sub hl [2, 3, 4, 5, 6, 7] rfl)
        · have hf := if_f hf hc
          refine lv_iconst (v := 1) hx hb dL_pens_264 (by decide) ?_
          refine lv_goto (tgt := 269) hx hb dL_pens_265 (by decide) ?_
          exact w_L_pens_b269 E hL20 hf hP hS (lv_sub hl [2, 3, 4, 5, 6, 7] rfl)
set_option maxHeartbeats 4000000 in
set_option maxRecDepth 100000 in
theorem w_L_pens_b231 {p : Program} {l : Launch} {e : Env} {s : State} {m : MethodId} {args : Array Value} {below : List Frame} {meth : Method} {c : Code} {G : GG} {sz : Nat} {ns : Nat} {r : Int32} {M' : Mem} (E : Cx p s m args meth c cL_pens (some .boolean) 10 RL G) {L20 : Int32 → Int32 → Int32 → Int32 → Int32 → Int32 → Mem → Option (Int32 × Mem)} (hL20 : ∀ (x1 : Int32) (x2 : Int32) (x3 : Int32) (x4 : Int32) (x5 : Int32) (x6 : Int32) (M : Mem) (H : Heap) (locs : List Loc) (ls : Array Slot), L20 x1 x2 x3 x4 x5 x6 M = some (r, M') → PW G (AC G) (XC G ns) sz M s H → va_S (AC G) s.heap H locs → lv_has ls 10 [(0, .ref (adC G 0 0)), (1, .int x1), (2, .int x2), (3, .int x3), (4, .int x4), (5, .int x5), (6, .int x6)] → W p l e rm_L_pens s m args below meth c H locs 0 0 (MQ below (va_Qi (fun (r2 : Int32) (_ : Unit) => r2 = r) (fun _ t => PW G (AC G) (XC G ns) sz M' t t.heap) (AC G)) args s 0 0 (AC G)) (F0 m 20 ls [])) {x1 : Int32} {x2 : Int32} {x3 : Int32} {x4 : Int32} {x6 : Int32} {x8 : Int32} {M : Mem} {H : Heap} {locs : List Loc} {ls : Array Slot} (hf : f_L_pens_b231 L20 x1 x2 x3 x4 x6 x8 M = some (r, M')) (hP : PW G (AC G) (XC G ns) sz M s H) (hS : va_S (AC G) s.heap H locs) (hl : lv_has ls 10 [(0, .ref (adC G 0 0)), (1, .int x1), (2, .int x2), (3, .int x3), (4, .int x4), (6, .int x6), (8, .int x8)]) : W p l e rm_L_pens s m args below meth c H locs 0 0 (MQ below (va_Qi (fun (r2 : Int32) (_ : Unit) => r2 = r) (fun _ t => PW G (AC G) (XC G ns) sz M' t t.heap) (AC G)) args s 0 0 (AC G)) (F0 m 231 ls []) := by
  obtain ⟨hx, hb, hr, hlocks, hml, hown, hts, hK⟩ := id E
  unfold f_L_pens_b231 at hf
  refine lv_iconst (v := 0) hx hb dL_pens_231 (by decide) ?_
  exact w_L_pens_b232 E hL20 hf hP hS (lv_sub hl [0, 1, 2, 3, 4, 5, 6] rfl)
set_option maxHeartbeats 4000000 in
set_option maxRecDepth 100000 in
theorem w_L_pens_b224 {p : Program} {l : Launch} {e : Env} {s : State} {m : MethodId} {args : Array Value} {below : List Frame} {meth : Method} {c : Code} {G : GG} {sz : Nat} {ns : Nat} {r : Int32} {M' : Mem} (E : Cx p s m args meth c cL_pens (some .boolean) 10 RL G) {L20 : Int32 → Int32 → Int32 → Int32 → Int32 → Int32 → Mem → Option (Int32 × Mem)} (hL20 : ∀ (x1 : Int32) (x2 : Int32) (x3 : Int32) (x4 : Int32) (x5 : Int32) (x6 : Int32) (M : Mem) (H : Heap) (locs : List Loc) (ls : Array Slot), L20 x1 x2 x3 x4 x5 x6 M = some (r, M') → PW G (AC G) (XC G ns) sz M s H → va_S (AC G) s.heap H locs → lv_has ls 10 [(0, .ref (adC G 0 0)), (1, .int x1), (2, .int x2), (3, .int x3), (4, .int x4), (5, .int x5), (6, .int x6)] → W p l e rm_L_pens s m args below meth c H locs 0 0 (MQ below (va_Qi (fun (r2 : Int32) (_ : Unit) => r2 = r) (fun _ t => PW G (AC G) (XC G ns) sz M' t t.heap) (AC G)) args s 0 0 (AC G)) (F0 m 20 ls [])) {x1 : Int32} {x2 : Int32} {x3 : Int32} {x4 : Int32} {x6 : Int32} {x8 : Int32} {s0 : Int32} {s1 : Int32} {M : Mem} {H : Heap} {locs : List Loc} {ls : Array Slot} (hf : f_L_pens_b224 L20 x1 x2 x3 x4 x6 x8 s0 s1 M = some (r, M')) (hP : PW G (AC G) (XC G ns) sz M s H) (hS : va_S (AC G) s.heap H locs) (hl : lv_has ls 10 [(0, .ref (adC G 0 0)), (1, .int x1), (2, .int x2), (3, .int x3), (4, .int x4), (6, .int x6), (8, .int x8)]) : W p l e rm_L_pens s m args below meth c H locs 0 0 (MQ below (va_Qi (fun (r2 : Int32) (_ : Unit) => r2 = r) (fun _ t => PW G (AC G) (XC G ns) sz M' t t.heap) (AC G)) args s 0 0 (AC G)) (F0 m 224 ls [.int s1, .int s0]) := by
  obtain ⟨hx, hb, hr, hlocks, hml, hown, hts, hK⟩ := id E
  unfold f_L_pens_b224 at hf
  refine lv_icmp_ne (tgt := 231) hx hb dL_pens_224 (by decide) (fun hc => ?_) (fun hc => ?_)
  · have hf := if_f hf hc
    exact w_L_pens_b231 E hL20 hf hP hS (lv_sub hl [0, 1, 2, 3, 4, 5, 6] rfl)
  · have hf := if_t hf hc
    refine lv_iconst (v := 1) hx hb dL_pens_227 (by decide) ?_
    refine lv_goto (tgt := 232) hx hb dL_pens_228 (by decide) ?_
    exact w_L_pens_b232 E hL20 hf hP hS (lv_sub hl [0, 1, 2, 3, 4, 5, 6] rfl)
set_option maxHeartbeats 4000000 in
set_option maxRecDepth 100000 in
theorem w_L_pens_b195 {p : Program} {l : Launch} {e : Env} {s : State} {m : MethodId} {args : Array Value} {below : List Frame} {meth : Method} {c : Code} {G : GG} {sz : Nat} {ns : Nat} {r : Int32} {M' : Mem} (E : Cx p s m args meth c cL_pens (some .boolean) 10 RL G) {L20 : Int32 → Int32 → Int32 → Int32 → Int32 → Int32 → Mem → Option (Int32 × Mem)} (hL20 : ∀ (x1 : Int32) (x2 : Int32) (x3 : Int32) (x4 : Int32) (x5 : Int32) (x6 : Int32) (M : Mem) (H : Heap) (locs : List Loc) (ls : Array Slot), L20 x1 x2 x3 x4 x5 x6 M = some (r, M') → PW G (AC G) (XC G ns) sz M s H → va_S (AC G) s.heap H locs → lv_has ls 10 [(0, .ref (adC G 0 0)), (1, .int x1), (2, .int x2), (3, .int x3), (4, .int x4), (5, .int x5), (6, .int x6)] → W p l e rm_L_pens s m args below meth c H locs 0 0 (MQ below (va_Qi (fun (r2 : Int32) (_ : Unit) => r2 = r) (fun _ t => PW G (AC G) (XC G ns) sz M' t t.heap) (AC G)) args s 0 0 (AC G)) (F0 m 20 ls [])) {x1 : Int32} {x2 : Int32} {x3 : Int32} {x4 : Int32} {x6 : Int32} {x8 : Int32} {M : Mem} {H : Heap} {locs : List Loc} {ls : Array Slot} (hf : f_L_pens_b195 L20 x1 x2 x3 x4 x6 x8 M = some (r, M')) (hP : PW G (AC G) (XC G ns) sz M s H) (hS : va_S (AC G) s.heap H locs) (hl : lv_has ls 10 [(0, .ref (adC G 0 0)), (1, .int x1), (2, .int x2), (3, .int x3), (4, .int x4), (6, .int x6), (8, .int x8)]) : W p l e rm_L_pens s m args below meth c H locs 0 0 (MQ below (va_Qi (fun (r2 : Int32) (_ : Unit) => r2 = r) (fun _ t => PW G (AC G) (XC G ns) sz M' t t.heap) (AC G)) args s 0 0 (AC G)) (F0 m 195 ls []) := by
  obtain ⟨hx, hb, hr, hlocks, hml, hown, hts, hK⟩ := id E
  unfold f_L_pens_b195 at hf
  refine lv_aload_n hx hb dL_pens_195 rfl (lv_at hl 0 rfl) ?_
  refine lv_iload hx hb dL_pens_196 (lv_at hl 5 rfl) ?_
  refine lv_bipush (v := 9) hx hb dL_pens_198 (by decide) ?_
  refine ob_e hf (fun r_200 M_200 hq hf => ?_)
  refine cv_X7_penOf E hP hS hq w_461 ⟨Nat.le_of_ble_eq_true rfl, Nat.le_of_ble_eq_true rfl⟩ hl (Nat.le_of_ble_eq_true rfl) dL_pens_200 ⟨Nat.le_of_ble_eq_true rfl, Nat.le_of_ble_eq_true rfl⟩ (fun H locs hP hS => ?_)
  refine lv_aload_n hx hb dL_pens_203 rfl (lv_at hl 0 rfl) ?_
  refine lv_iload hx hb dL_pens_204 (lv_at hl 5 rfl) ?_
  refine lv_iconst (v := 4) hx hb dL_pens_206 (by decide) ?_
  refine ob_e hf (fun r_207 M_207 hq hf => ?_)
  refine cv_X7_penOf E hP hS hq w_461 ⟨Nat.le_of_ble_eq_true rfl, Nat.le_of_ble_eq_true rfl⟩ hl (Nat.le_of_ble_eq_true rfl) dL_pens_207 ⟨Nat.le_of_ble_eq_true rfl, Nat.le_of_ble_eq_true rfl⟩ (fun H locs hP hS => ?_)
  refine lv_aload_n hx hb dL_pens_210 rfl (lv_at hl 0 rfl) ?_
  refine lv_bipush (v := 21) hx hb dL_pens_211 (by decide) ?_
  refine ob_e hf (fun r_213 M_213 hq hf => ?_)
  refine cv_X7_count E hP hS hq w_414 ⟨Nat.le_of_ble_eq_true rfl, Nat.le_of_ble_eq_true rfl⟩ hl (Nat.le_of_ble_eq_true rfl) dL_pens_213 ⟨Nat.le_of_ble_eq_true rfl, Nat.le_of_ble_eq_true rfl⟩ (fun H locs hP hS => ?_)
  refine lv_icmp_le (tgt := 223) hx hb dL_pens_216 (by decide) (fun hc => ?_) (fun hc => ?_)
  · have hf := if_t hf hc
    refine lv_iconst (v := 0) hx hb dL_pens_223 (by decide) ?_
    exact w_L_pens_b224 E hL20 hf hP hS (lv_sub hl [0, 1, 2, 3, 4, 5, 6] rfl)
  · have hf := if_f hf hc
    refine lv_iconst (v := 1) hx hb dL_pens_219 (by decide) ?_
    refine lv_goto (tgt := 224) hx hb dL_pens_220 (by decide) ?_
    exact w_L_pens_b224 E hL20 hf hP hS (lv_sub hl [0, 1, 2, 3, 4, 5, 6] rfl)
set_option maxHeartbeats 4000000 in
set_option maxRecDepth 100000 in
theorem w_L_pens_b169 {p : Program} {l : Launch} {e : Env} {s : State} {m : MethodId} {args : Array Value} {below : List Frame} {meth : Method} {c : Code} {G : GG} {sz : Nat} {ns : Nat} {r : Int32} {M' : Mem} (E : Cx p s m args meth c cL_pens (some .boolean) 10 RL G) {L20 : Int32 → Int32 → Int32 → Int32 → Int32 → Int32 → Mem → Option (Int32 × Mem)} (hL20 : ∀ (x1 : Int32) (x2 : Int32) (x3 : Int32) (x4 : Int32) (x5 : Int32) (x6 : Int32) (M : Mem) (H : Heap) (locs : List Loc) (ls : Array Slot), L20 x1 x2 x3 x4 x5 x6 M = some (r, M') → PW G (AC G) (XC G ns) sz M s H → va_S (AC G) s.heap H locs → lv_has ls 10 [(0, .ref (adC G 0 0)), (1, .int x1), (2, .int x2), (3, .int x3), (4, .int x4), (5, .int x5), (6, .int x6)] → W p l e rm_L_pens s m args below meth c H locs 0 0 (MQ below (va_Qi (fun (r2 : Int32) (_ : Unit) => r2 = r) (fun _ t => PW G (AC G) (XC G ns) sz M' t t.heap) (AC G)) args s 0 0 (AC G)) (F0 m 20 ls [])) {x1 : Int32} {x2 : Int32} {x3 : Int32} {x4 : Int32} {x6 : Int32} {x8 : Int32} {s0 : Int32} {s1 : Int32} {M : Mem} {H : Heap} {locs : List Loc} {ls : Array Slot} (hf : f_L_pens_b169 L20 x1 x2 x3 x4 x6 x8 s0 s1 M = some (r, M')) (hP : PW G (AC G) (XC G ns) sz M s H) (hS : va_S (AC G) s.heap H locs) (hl : lv_has ls 10 [(0, .ref (adC G 0 0)), (1, .int x1), (2, .int x2), (3, .int x3), (4, .int x4), (6, .int x6), (8, .int x8)]) : W p l e rm_L_pens s m args below meth c H locs 0 0 (MQ below (va_Qi (fun (r2 : Int32) (_ : Unit) => r2 = r) (fun _ t => PW G (AC G) (XC G ns) sz M' t t.heap) (AC G)) args s 0 0 (AC G)) (F0 m 169 ls [.int s1, .int s0]) := by
  obtain ⟨hx, hb, hr, hlocks, hml, hown, hts, hK⟩ := id E
  unfold f_L_pens_b169 at hf
  refine lv_icmp_ne (tgt := 231) hx hb dL_pens_169 (by decide) (fun hc => ?_) (fun hc => ?_)
  · have hf := if_f hf hc
    exact w_L_pens_b231 E hL20 hf hP hS (lv_sub hl [0, 1, 2, 3, 4, 5, 6] rfl)
  · have hf := if_t hf hc
    refine lv_iload hx hb dL_pens_172 (lv_at hl 6 rfl) ?_
    refine lv_if_ne (tgt := 195) hx hb dL_pens_174 (by decide) (fun hc => ?_) (fun hc => ?_)
    · have hf := if_f hf hc
      exact w_L_pens_b195 E hL20 hf hP hS (lv_sub hl [0, 1, 2, 3, 4, 5, 6] rfl)
    · have hf := if_t hf hc
      refine lv_aload_n hx hb dL_pens_177 rfl (lv_at hl 0 rfl) ?_
      refine lv_iload hx hb dL_pens_178 (lv_at hl 5 rfl) ?_
      refine lv_bipush (v := 8) hx hb dL_pens_180 (by decide) ?_
      refine ob_e hf (fun r_182 M_182 hq hf => ?_)
      refine cv_X7_penOf E hP hS hq w_461 ⟨Nat.le_of_ble_eq_true rfl, Nat.le_of_ble_eq_true rfl⟩ hl (Nat.le_of_ble_eq_true rfl) dL_pens_182 ⟨Nat.le_of_ble_eq_true rfl, Nat.le_of_ble_eq_true rfl⟩ (fun H locs hP hS => ?_)
      refine lv_if_ne (tgt := 231) hx hb dL_pens_185 (by decide) (fun hc => ?_) (fun hc => ?_)
      · have hf := if_f hf hc
        exact w_L_pens_b231 E hL20 hf hP hS (lv_sub hl [0, 1, 2, 3, 4, 5, 6] rfl)
      · have hf := if_t hf hc
        refine lv_iload hx hb dL_pens_188 (lv_at hl 4 rfl) ?_
        refine lv_iload hx hb dL_pens_190 (lv_at hl 5 rfl) ?_
        refine lv_icmp_eq (tgt := 231) hx hb dL_pens_192 (by decide) (fun hc => ?_) (fun hc => ?_)
        · have hf := if_t hf hc
          exact w_L_pens_b231 E hL20 hf hP hS (lv_sub hl [0, 1, 2, 3, 4, 5, 6] rfl)
        · have hf := if_f hf hc
          exact w_L_pens_b195 E hL20 hf hP hS (lv_sub hl [0, 1, 2, 3, 4, 5, 6] rfl)
set_option maxHeartbeats 4000000 in
set_option maxRecDepth 100000 in
theorem w_L_pens_b97 {p : Program} {l : Launch} {e : Env} {s : State} {m : MethodId} {args : Array Value} {below : List Frame} {meth : Method} {c : Code} {G : GG} {sz : Nat} {ns : Nat} {r : Int32} {M' : Mem} (E : Cx p s m args meth c cL_pens (some .boolean) 10 RL G) {L20 : Int32 → Int32 → Int32 → Int32 → Int32 → Int32 → Mem → Option (Int32 × Mem)} (hL20 : ∀ (x1 : Int32) (x2 : Int32) (x3 : Int32) (x4 : Int32) (x5 : Int32) (x6 : Int32) (M : Mem) (H : Heap) (locs : List Loc) (ls : Array Slot), L20 x1 x2 x3 x4 x5 x6 M = some (r, M') → PW G (AC G) (XC G ns) sz M s H → va_S (AC G) s.heap H locs → lv_has ls 10 [(0, .ref (adC G 0 0)), (1, .int x1), (2, .int x2), (3, .int x3), (4, .int x4), (5, .int x5), (6, .int x6)] → W p l e rm_L_pens s m args below meth c H locs 0 0 (MQ below (va_Qi (fun (r2 : Int32) (_ : Unit) => r2 = r) (fun _ t => PW G (AC G) (XC G ns) sz M' t t.heap) (AC G)) args s 0 0 (AC G)) (F0 m 20 ls [])) {x1 : Int32} {x3 : Int32} {x4 : Int32} {x6 : Int32} {x8 : Int32} {s0 : Int32} {M : Mem} {H : Heap} {locs : List Loc} {ls : Array Slot} (hf : f_L_pens_b97 L20 x1 x3 x4 x6 x8 s0 M = some (r, M')) (hP : PW G (AC G) (XC G ns) sz M s H) (hS : va_S (AC G) s.heap H locs) (hl : lv_has ls 10 [(0, .ref (adC G 0 0)), (1, .int x1), (3, .int x3), (4, .int x4), (6, .int x6), (8, .int x8)]) : W p l e rm_L_pens s m args below meth c H locs 0 0 (MQ below (va_Qi (fun (r2 : Int32) (_ : Unit) => r2 = r) (fun _ t => PW G (AC G) (XC G ns) sz M' t t.heap) (AC G)) args s 0 0 (AC G)) (F0 m 97 ls [.int s0]) := by
  obtain ⟨hx, hb, hr, hlocks, hml, hown, hts, hK⟩ := id E
  unfold f_L_pens_b97 at hf
  refine lv_istore_n (lv' := [(2, .int s0), (0, .ref (adC G 0 0)), (1, .int x1), (3, .int x3), (4, .int x4), (6, .int x6), (8, .int x8)]) hx hb dL_pens_97 rfl hl (by decide) rfl (fun ls hl => ?_)
  refine lv_iload_n hx hb dL_pens_98 rfl (lv_at hl 3 rfl) ?_
  refine lv_aload_n hx hb dL_pens_99 rfl (lv_at hl 1 rfl) ?_
  refine lv_iload hx hb dL_pens_100 (lv_at hl 5 rfl) ?_
  refine lv_bipush (v := 8) hx hb dL_pens_102 (by decide) ?_
  refine ob_e hf (fun r_104 M_104 hq hf => ?_)
  refine cv_X7_penOf E hP hS hq w_461 ⟨Nat.le_of_ble_eq_true rfl, Nat.le_of_ble_eq_true rfl⟩ hl (Nat.le_of_ble_eq_true rfl) dL_pens_104 ⟨Nat.le_of_ble_eq_true rfl, Nat.le_of_ble_eq_true rfl⟩ (fun H locs hP hS => ?_)
  refine lv_iload hx hb dL_pens_107 (lv_at hl 5 rfl) ?_
  refine lv_ishl hx hb dL_pens_109 ?_
  refine lv_ior hx hb dL_pens_110 ?_
  refine lt_e hf (fun x3_111 hx3_111 hf => ?_)
  refine kr_nm hx3_111 ?_
  refine lv_istore_n (lv' := [(3, .int x3_111), (2, .int s0), (0, .ref (adC G 0 0)), (1, .int x1), (4, .int x4), (6, .int x6), (8, .int x8)]) hx hb dL_pens_111 rfl hl (by decide) rfl (fun ls hl => ?_)
  refine lv_aload_n hx hb dL_pens_112 rfl (lv_at hl 2 rfl) ?_
  refine lv_iload hx hb dL_pens_113 (lv_at hl 5 rfl) ?_
  refine lv_iconst (v := 2) hx hb dL_pens_115 (by decide) ?_
  refine ob_e hf (fun r_116 M_116 hq hf => ?_)
  refine cv_X7_penOf E hP hS hq w_461 ⟨Nat.le_of_ble_eq_true rfl, Nat.le_of_ble_eq_true rfl⟩ hl (Nat.le_of_ble_eq_true rfl) dL_pens_116 ⟨Nat.le_of_ble_eq_true rfl, Nat.le_of_ble_eq_true rfl⟩ (fun H locs hP hS => ?_)
  refine lv_if_lt (tgt := 231) hx hb dL_pens_119 (by decide) (fun hc => ?_) (fun hc => ?_)
  · have hf := if_t hf hc
    exact w_L_pens_b231 E hL20 hf hP hS (lv_sub hl [2, 3, 1, 0, 4, 5, 6] rfl)
  · have hf := if_f hf hc
    refine lv_aload_n hx hb dL_pens_122 rfl (lv_at hl 2 rfl) ?_
    refine lv_iload hx hb dL_pens_123 (lv_at hl 5 rfl) ?_
    refine lv_iconst (v := 2) hx hb dL_pens_125 (by decide) ?_
    refine ob_e hf (fun r_126 M_126 hq hf => ?_)
    refine cv_X7_penOf E hP hS hq w_461 ⟨Nat.le_of_ble_eq_true rfl, Nat.le_of_ble_eq_true rfl⟩ hl (Nat.le_of_ble_eq_true rfl) dL_pens_126 ⟨Nat.le_of_ble_eq_true rfl, Nat.le_of_ble_eq_true rfl⟩ (fun H locs hP hS => ?_)
    refine lv_aload_n hx hb dL_pens_129 rfl (lv_at hl 2 rfl) ?_
    refine lv_iload hx hb dL_pens_130 (lv_at hl 5 rfl) ?_
    refine lv_iconst (v := 1) hx hb dL_pens_132 (by decide) ?_
    refine ob_e hf (fun r_133 M_133 hq hf => ?_)
    refine cv_X7_penOf E hP hS hq w_461 ⟨Nat.le_of_ble_eq_true rfl, Nat.le_of_ble_eq_true rfl⟩ hl (Nat.le_of_ble_eq_true rfl) dL_pens_133 ⟨Nat.le_of_ble_eq_true rfl, Nat.le_of_ble_eq_true rfl⟩ (fun H locs hP hS => ?_)
    refine lv_icmp_gt (tgt := 231) hx hb dL_pens_136 (by decide) (fun hc => ?_) (fun hc => ?_)
    · have hf := if_t hf hc
      exact w_L_pens_b231 E hL20 hf hP hS (lv_sub hl [2, 3, 1, 0, 4, 5, 6] rfl)
    · have hf := if_f hf hc
      refine lv_aload_n hx hb dL_pens_139 rfl (lv_at hl 2 rfl) ?_
      refine lv_iload hx hb dL_pens_140 (lv_at hl 5 rfl) ?_
      refine lv_iconst (v := 4) hx hb dL_pens_142 (by decide) ?_
      refine ob_e hf (fun r_143 M_143 hq hf => ?_)
      refine cv_X7_penOf E hP hS hq w_461 ⟨Nat.le_of_ble_eq_true rfl, Nat.le_of_ble_eq_true rfl⟩ hl (Nat.le_of_ble_eq_true rfl) dL_pens_143 ⟨Nat.le_of_ble_eq_true rfl, Nat.le_of_ble_eq_true rfl⟩ (fun H locs hP hS => ?_)
      refine lv_if_lt (tgt := 231) hx hb dL_pens_146 (by decide) (fun hc => ?_) (fun hc => ?_)
      · have hf := if_t hf hc
        exact w_L_pens_b231 E hL20 hf hP hS (lv_sub hl [2, 3, 1, 0, 4, 5, 6] rfl)
      · have hf := if_f hf hc
        refine lv_aload_n hx hb dL_pens_149 rfl (lv_at hl 2 rfl) ?_
        refine lv_iload hx hb dL_pens_150 (lv_at hl 5 rfl) ?_
        refine lv_bipush (v := 6) hx hb dL_pens_152 (by decide) ?_
        refine ob_e hf (fun r_154 M_154 hq hf => ?_)
        refine cv_X7_penOf E hP hS hq w_461 ⟨Nat.le_of_ble_eq_true rfl, Nat.le_of_ble_eq_true rfl⟩ hl (Nat.le_of_ble_eq_true rfl) dL_pens_154 ⟨Nat.le_of_ble_eq_true rfl, Nat.le_of_ble_eq_true rfl⟩ (fun H locs hP hS => ?_)
        refine lv_iload hx hb dL_pens_157 (lv_at hl 4 rfl) ?_
        refine lv_iload hx hb dL_pens_159 (lv_at hl 5 rfl) ?_
        refine lv_icmp_ne (tgt := 168) hx hb dL_pens_161 (by decide) (fun hc => ?_) (fun hc => ?_)
        · have hf := if_f hf hc
          refine lv_iconst (v := 0) hx hb dL_pens_168 (by decide) ?_
          exact w_L_pens_b169 E hL20 hf hP hS (lv_sub hl [2, 3, 1, 0, 4, 5, 6] rfl)
        · have hf := if_t hf hc
          refine lv_iconst (v := 1) hx hb dL_pens_164 (by decide) ?_
          refine lv_goto (tgt := 169) hx hb dL_pens_165 (by decide) ?_
          exact w_L_pens_b169 E hL20 hf hP hS (lv_sub hl [2, 3, 1, 0, 4, 5, 6] rfl)
set_option maxHeartbeats 4000000 in
set_option maxRecDepth 100000 in
theorem w_L_pens_b96 {p : Program} {l : Launch} {e : Env} {s : State} {m : MethodId} {args : Array Value} {below : List Frame} {meth : Method} {c : Code} {G : GG} {sz : Nat} {ns : Nat} {r : Int32} {M' : Mem} (E : Cx p s m args meth c cL_pens (some .boolean) 10 RL G) {L20 : Int32 → Int32 → Int32 → Int32 → Int32 → Int32 → Mem → Option (Int32 × Mem)} (hL20 : ∀ (x1 : Int32) (x2 : Int32) (x3 : Int32) (x4 : Int32) (x5 : Int32) (x6 : Int32) (M : Mem) (H : Heap) (locs : List Loc) (ls : Array Slot), L20 x1 x2 x3 x4 x5 x6 M = some (r, M') → PW G (AC G) (XC G ns) sz M s H → va_S (AC G) s.heap H locs → lv_has ls 10 [(0, .ref (adC G 0 0)), (1, .int x1), (2, .int x2), (3, .int x3), (4, .int x4), (5, .int x5), (6, .int x6)] → W p l e rm_L_pens s m args below meth c H locs 0 0 (MQ below (va_Qi (fun (r2 : Int32) (_ : Unit) => r2 = r) (fun _ t => PW G (AC G) (XC G ns) sz M' t t.heap) (AC G)) args s 0 0 (AC G)) (F0 m 20 ls [])) {x1 : Int32} {x2 : Int32} {x3 : Int32} {x4 : Int32} {x6 : Int32} {x8 : Int32} {M : Mem} {H : Heap} {locs : List Loc} {ls : Array Slot} (hf : f_L_pens_b96 L20 x1 x2 x3 x4 x6 x8 M = some (r, M')) (hP : PW G (AC G) (XC G ns) sz M s H) (hS : va_S (AC G) s.heap H locs) (hl : lv_has ls 10 [(0, .ref (adC G 0 0)), (1, .int x1), (2, .int x2), (3, .int x3), (4, .int x4), (6, .int x6), (8, .int x8)]) : W p l e rm_L_pens s m args below meth c H locs 0 0 (MQ below (va_Qi (fun (r2 : Int32) (_ : Unit) => r2 = r) (fun _ t => PW G (AC G) (XC G ns) sz M' t t.heap) (AC G)) args s 0 0 (AC G)) (F0 m 96 ls []) := by
  obtain ⟨hx, hb, hr, hlocks, hml, hown, hts, hK⟩ := id E
  unfold f_L_pens_b96 at hf
  refine lv_iload_n hx hb dL_pens_96 rfl (lv_at hl 2 rfl) ?_
  exact w_L_pens_b97 E hL20 hf hP hS (lv_sub hl [0, 1, 3, 4, 5, 6] rfl)
set_option maxHeartbeats 4000000 in
set_option maxRecDepth 100000 in
theorem w_L_pens_b79 {p : Program} {l : Launch} {e : Env} {s : State} {m : MethodId} {args : Array Value} {below : List Frame} {meth : Method} {c : Code} {G : GG} {sz : Nat} {ns : Nat} {r : Int32} {M' : Mem} (E : Cx p s m args meth c cL_pens (some .boolean) 10 RL G) {L20 : Int32 → Int32 → Int32 → Int32 → Int32 → Int32 → Mem → Option (Int32 × Mem)} (hL20 : ∀ (x1 : Int32) (x2 : Int32) (x3 : Int32) (x4 : Int32) (x5 : Int32) (x6 : Int32) (M : Mem) (H : Heap) (locs : List Loc) (ls : Array Slot), L20 x1 x2 x3 x4 x5 x6 M = some (r, M') → PW G (AC G) (XC G ns) sz M s H → va_S (AC G) s.heap H locs → lv_has ls 10 [(0, .ref (adC G 0 0)), (1, .int x1), (2, .int x2), (3, .int x3), (4, .int x4), (5, .int x5), (6, .int x6)] → W p l e rm_L_pens s m args below meth c H locs 0 0 (MQ below (va_Qi (fun (r2 : Int32) (_ : Unit) => r2 = r) (fun _ t => PW G (AC G) (XC G ns) sz M' t t.heap) (AC G)) args s 0 0 (AC G)) (F0 m 20 ls [])) {x2 : Int32} {x3 : Int32} {x4 : Int32} {x6 : Int32} {x7 : Int32} {x8 : Int32} {s0 : Int32} {M : Mem} {H : Heap} {locs : List Loc} {ls : Array Slot} (hf : f_L_pens_b79 L20 x2 x3 x4 x6 x7 x8 s0 M = some (r, M')) (hP : PW G (AC G) (XC G ns) sz M s H) (hS : va_S (AC G) s.heap H locs) (hl : lv_has ls 10 [(0, .ref (adC G 0 0)), (2, .int x2), (3, .int x3), (4, .int x4), (6, .int x6), (7, .int x7), (8, .int x8)]) : W p l e rm_L_pens s m args below meth c H locs 0 0 (MQ below (va_Qi (fun (r2 : Int32) (_ : Unit) => r2 = r) (fun _ t => PW G (AC G) (XC G ns) sz M' t t.heap) (AC G)) args s 0 0 (AC G)) (F0 m 79 ls [.int s0]) := by
  obtain ⟨hx, hb, hr, hlocks, hml, hown, hts, hK⟩ := id E
  unfold f_L_pens_b79 at hf
  refine lv_istore_n (lv' := [(1, .int s0), (0, .ref (adC G 0 0)), (2, .int x2), (3, .int x3), (4, .int x4), (6, .int x6), (7, .int x7), (8, .int x8)]) hx hb dL_pens_79 rfl hl (by decide) rfl (fun ls hl => ?_)
  refine lv_iload hx hb dL_pens_80 (lv_at hl 7 rfl) ?_
  refine lv_if_eq (tgt := 96) hx hb dL_pens_82 (by decide) (fun hc => ?_) (fun hc => ?_)
  · have hf := if_t hf hc
    exact w_L_pens_b96 E hL20 hf hP hS (lv_sub hl [1, 0, 2, 3, 4, 5, 7] rfl)
  · have hf := if_f hf hc
    refine lv_iload hx hb dL_pens_85 (lv_at hl 6 rfl) ?_
    refine lv_iload_n hx hb dL_pens_87 rfl (lv_at hl 2 rfl) ?_
    refine lv_icmp_ge (tgt := 96) hx hb dL_pens_88 (by decide) (fun hc => ?_) (fun hc => ?_)
    · have hf := if_t hf hc
      exact w_L_pens_b96 E hL20 hf hP hS (lv_sub hl [1, 0, 2, 3, 4, 5, 7] rfl)
    · have hf := if_f hf hc
      refine lv_iload hx hb dL_pens_91 (lv_at hl 6 rfl) ?_
      refine lv_goto (tgt := 97) hx hb dL_pens_93 (by decide) ?_
      exact w_L_pens_b97 E hL20 hf hP hS (lv_sub hl [1, 0, 3, 4, 5, 7] rfl)
set_option maxHeartbeats 4000000 in
set_option maxRecDepth 100000 in
theorem w_L_pens_b78 {p : Program} {l : Launch} {e : Env} {s : State} {m : MethodId} {args : Array Value} {below : List Frame} {meth : Method} {c : Code} {G : GG} {sz : Nat} {ns : Nat} {r : Int32} {M' : Mem} (E : Cx p s m args meth c cL_pens (some .boolean) 10 RL G) {L20 : Int32 → Int32 → Int32 → Int32 → Int32 → Int32 → Mem → Option (Int32 × Mem)} (hL20 : ∀ (x1 : Int32) (x2 : Int32) (x3 : Int32) (x4 : Int32) (x5 : Int32) (x6 : Int32) (M : Mem) (H : Heap) (locs : List Loc) (ls : Array Slot), L20 x1 x2 x3 x4 x5 x6 M = some (r, M') → PW G (AC G) (XC G ns) sz M s H → va_S (AC G) s.heap H locs → lv_has ls 10 [(0, .ref (adC G 0 0)), (1, .int x1), (2, .int x2), (3, .int x3), (4, .int x4), (5, .int x5), (6, .int x6)] → W p l e rm_L_pens s m args below meth c H locs 0 0 (MQ below (va_Qi (fun (r2 : Int32) (_ : Unit) => r2 = r) (fun _ t => PW G (AC G) (XC G ns) sz M' t t.heap) (AC G)) args s 0 0 (AC G)) (F0 m 20 ls [])) {x1 : Int32} {x2 : Int32} {x3 : Int32} {x4 : Int32} {x6 : Int32} {x7 : Int32} {x8 : Int32} {M : Mem} {H : Heap} {locs : List Loc} {ls : Array Slot} (hf : f_L_pens_b78 L20 x1 x2 x3 x4 x6 x7 x8 M = some (r, M')) (hP : PW G (AC G) (XC G ns) sz M s H) (hS : va_S (AC G) s.heap H locs) (hl : lv_has ls 10 [(0, .ref (adC G 0 0)), (1, .int x1), (2, .int x2), (3, .int x3), (4, .int x4), (6, .int x6), (7, .int x7), (8, .int x8)]) : W p l e rm_L_pens s m args below meth c H locs 0 0 (MQ below (va_Qi (fun (r2 : Int32) (_ : Unit) => r2 = r) (fun _ t => PW G (AC G) (XC G ns) sz M' t t.heap) (AC G)) args s 0 0 (AC G)) (F0 m 78 ls []) := by
  obtain ⟨hx, hb, hr, hlocks, hml, hown, hts, hK⟩ := id E
  unfold f_L_pens_b78 at hf
  refine lv_iload_n hx hb dL_pens_78 rfl (lv_at hl 1 rfl) ?_
  exact w_L_pens_b79 E hL20 hf hP hS (lv_sub hl [0, 2, 3, 4, 5, 6, 7] rfl)
set_option maxHeartbeats 4000000 in
set_option maxRecDepth 100000 in
theorem w_L_pens_b60 {p : Program} {l : Launch} {e : Env} {s : State} {m : MethodId} {args : Array Value} {below : List Frame} {meth : Method} {c : Code} {G : GG} {sz : Nat} {ns : Nat} {r : Int32} {M' : Mem} (E : Cx p s m args meth c cL_pens (some .boolean) 10 RL G) {L20 : Int32 → Int32 → Int32 → Int32 → Int32 → Int32 → Mem → Option (Int32 × Mem)} (hL20 : ∀ (x1 : Int32) (x2 : Int32) (x3 : Int32) (x4 : Int32) (x5 : Int32) (x6 : Int32) (M : Mem) (H : Heap) (locs : List Loc) (ls : Array Slot), L20 x1 x2 x3 x4 x5 x6 M = some (r, M') → PW G (AC G) (XC G ns) sz M s H → va_S (AC G) s.heap H locs → lv_has ls 10 [(0, .ref (adC G 0 0)), (1, .int x1), (2, .int x2), (3, .int x3), (4, .int x4), (5, .int x5), (6, .int x6)] → W p l e rm_L_pens s m args below meth c H locs 0 0 (MQ below (va_Qi (fun (r2 : Int32) (_ : Unit) => r2 = r) (fun _ t => PW G (AC G) (XC G ns) sz M' t t.heap) (AC G)) args s 0 0 (AC G)) (F0 m 20 ls [])) {x1 : Int32} {x2 : Int32} {x3 : Int32} {x4 : Int32} {x6 : Int32} {x7 : Int32} {s0 : Int32} {M : Mem} {H : Heap} {locs : List Loc} {ls : Array Slot} (hf : f_L_pens_b60 L20 x1 x2 x3 x4 x6 x7 s0 M = some (r, M')) (hP : PW G (AC G) (XC G ns) sz M s H) (hS : va_S (AC G) s.heap H locs) (hl : lv_has ls 10 [(0, .ref (adC G 0 0)), (1, .int x1), (2, .int x2), (3, .int x3), (4, .int x4), (6, .int x6), (7, .int x7)]) : W p l e rm_L_pens s m args below meth c H locs 0 0 (MQ below (va_Qi (fun (r2 : Int32) (_ : Unit) => r2 = r) (fun _ t => PW G (AC G) (XC G ns) sz M' t t.heap) (AC G)) args s 0 0 (AC G)) (F0 m 60 ls [.int s0]) := by
  obtain ⟨hx, hb, hr, hlocks, hml, hown, hts, hK⟩ := id E
  unfold f_L_pens_b60 at hf
  refine lv_istore (lv' := [(8, .int s0), (0, .ref (adC G 0 0)), (1, .int x1), (2, .int x2), (3, .int x3), (4, .int x4), (6, .int x6), (7, .int x7)]) hx hb dL_pens_60 hl (by decide) rfl (fun ls hl => ?_)
  refine lv_iload hx hb dL_pens_62 (lv_at hl 0 rfl) ?_
  refine lv_if_eq (tgt := 78) hx hb dL_pens_64 (by decide) (fun hc => ?_) (fun hc => ?_)
  · have hf := if_t hf hc
    exact w_L_pens_b78 E hL20 hf hP hS (lv_sub hl [1, 2, 3, 4, 5, 6, 7, 0] rfl)
  · have hf := if_f hf hc
    refine lv_iload hx hb dL_pens_67 (lv_at hl 7 rfl) ?_
    refine lv_iload_n hx hb dL_pens_69 rfl (lv_at hl 2 rfl) ?_
    refine lv_icmp_le (tgt := 78) hx hb dL_pens_70 (by decide) (fun hc => ?_) (fun hc => ?_)
    · have hf := if_t hf hc
      exact w_L_pens_b78 E hL20 hf hP hS (lv_sub hl [1, 2, 3, 4, 5, 6, 7, 0] rfl)
    · have hf := if_f hf hc
      refine lv_iload hx hb dL_pens_73 (lv_at hl 7 rfl) ?_
      refine lv_goto (tgt := 79) hx hb dL_pens_75 (by decide) ?_
      exact w_L_pens_b79 E hL20 hf hP hS (lv_sub hl [1, 3, 4, 5, 6, 7, 0] rfl)
set_option maxHeartbeats 4000000 in
set_option maxRecDepth 100000 in
theorem w_L_pens_b20 {p : Program} {l : Launch} {e : Env} {s : State} {m : MethodId} {args : Array Value} {below : List Frame} {meth : Method} {c : Code} {G : GG} {sz : Nat} {ns : Nat} {r : Int32} {M' : Mem} (E : Cx p s m args meth c cL_pens (some .boolean) 10 RL G) : ∀ fu : Nat, ∀ (x1 : Int32) (x2 : Int32) (x3 : Int32) (x4 : Int32) (x5 : Int32) (x6 : Int32) (M : Mem) (H : Heap) (locs : List Loc) (ls : Array Slot), f_L_pens_b20 fu x1 x2 x3 x4 x5 x6 M = some (r, M') → PW G (AC G) (XC G ns) sz M s H → va_S (AC G) s.heap H locs → lv_has ls 10 [(0, .ref (adC G 0 0)), (1, .int x1), (2, .int x2), (3, .int x3), (4, .int x4), (5, .int x5), (6, .int x6)] → W p l e rm_L_pens s m args below meth c H locs 0 0 (MQ below (va_Qi (fun (r2 : Int32) (_ : Unit) => r2 = r) (fun _ t => PW G (AC G) (XC G ns) sz M' t t.heap) (AC G)) args s 0 0 (AC G)) (F0 m 20 ls []) := by
  obtain ⟨hx, hb, hr, hlocks, hml, hown, hts, hK⟩ := id E
  intro fu
  induction fu with
  | zero => intro x1 x2 x3 x4 x5 x6 M H locs ls hf hP hS hl; cases hf
  | succ fu ih =>
    intro x1 x2 x3 x4 x5 x6 M H locs ls hf hP hS hl
    rw [f_L_pens_b20.eq_2] at hf
    refine lv_iload hx hb dL_pens_20 (lv_at hl 6 rfl) ?_
    refine lv_aload_n hx hb dL_pens_22 rfl (lv_at hl 0 rfl) ?_
    refine lv_iconst (v := 0) hx hb dL_pens_23 (by decide) ?_
    refine ob_e hf (fun r_24 M_24 hq hf => ?_)
    refine cv_X7_count E hP hS hq w_414 ⟨Nat.le_of_ble_eq_true rfl, Nat.le_of_ble_eq_true rfl⟩ hl (Nat.le_of_ble_eq_true rfl) dL_pens_24 ⟨Nat.le_of_ble_eq_true rfl, Nat.le_of_ble_eq_true rfl⟩ (fun H locs hP hS => ?_)
    refine lv_icmp_ge (tgt := 312) hx hb dL_pens_27 (by decide) (fun hc => ?_) (fun hc => ?_)
    · have hf := if_t hf hc
      exact w_L_pens_b312 E hf hP hS (lv_sub hl [0, 1, 2, 3, 5] rfl)
    · have hf := if_f hf hc
      refine lv_iload hx hb dL_pens_30 (lv_at hl 5 rfl) ?_
      refine lv_if_eq (tgt := 312) hx hb dL_pens_32 (by decide) (fun hc => ?_) (fun hc => ?_)
      · have hf := if_t hf hc
        exact w_L_pens_b312 E hf hP hS (lv_sub hl [0, 1, 2, 3, 5] rfl)
      · have hf := if_f hf hc
        refine lv_aload_n hx hb dL_pens_35 rfl (lv_at hl 0 rfl) ?_
        refine lv_iload hx hb dL_pens_36 (lv_at hl 6 rfl) ?_
        refine lv_iconst (v := 3) hx hb dL_pens_38 (by decide) ?_
        refine ob_e hf (fun r_39 M_39 hq hf => ?_)
        refine cv_X7_penOf E hP hS hq w_461 ⟨Nat.le_of_ble_eq_true rfl, Nat.le_of_ble_eq_true rfl⟩ hl (Nat.le_of_ble_eq_true rfl) dL_pens_39 ⟨Nat.le_of_ble_eq_true rfl, Nat.le_of_ble_eq_true rfl⟩ (fun H locs hP hS => ?_)
        refine lv_istore (lv' := [(7, .int r_39), (0, .ref (adC G 0 0)), (1, .int x1), (2, .int x2), (3, .int x3), (4, .int x4), (5, .int x5), (6, .int x6)]) hx hb dL_pens_42 hl (by decide) rfl (fun ls hl => ?_)
        refine lv_aload_n hx hb dL_pens_44 rfl (lv_at hl 1 rfl) ?_
        refine lv_iload hx hb dL_pens_45 (lv_at hl 7 rfl) ?_
        refine lv_bipush (v := 7) hx hb dL_pens_47 (by decide) ?_
        refine ob_e hf (fun r_49 M_49 hq hf => ?_)
        refine cv_X7_penOf E hP hS hq w_461 ⟨Nat.le_of_ble_eq_true rfl, Nat.le_of_ble_eq_true rfl⟩ hl (Nat.le_of_ble_eq_true rfl) dL_pens_49 ⟨Nat.le_of_ble_eq_true rfl, Nat.le_of_ble_eq_true rfl⟩ (fun H locs hP hS => ?_)
        refine lv_if_ne (tgt := 59) hx hb dL_pens_52 (by decide) (fun hc => ?_) (fun hc => ?_)
        · have hf := if_f hf hc
          refine lv_iconst (v := 0) hx hb dL_pens_59 (by decide) ?_
          exact w_L_pens_b60 E ih hf hP hS (lv_sub hl [1, 2, 3, 4, 5, 7, 0] rfl)
        · have hf := if_t hf hc
          refine lv_iconst (v := 1) hx hb dL_pens_55 (by decide) ?_
          refine lv_goto (tgt := 60) hx hb dL_pens_56 (by decide) ?_
          exact w_L_pens_b60 E ih hf hP hS (lv_sub hl [1, 2, 3, 4, 5, 7, 0] rfl)
set_option maxHeartbeats 4000000 in
set_option maxRecDepth 100000 in
theorem w_L_pens {p : Program} {l : Launch} {e : Env} {s : State} {m : MethodId} {args : Array Value} {below : List Frame} {meth : Method} {c : Code} {G : GG} {sz : Nat} {ns : Nat} {r : Int32} {M' : Mem} (E : Cx p s m args meth c cL_pens (some .boolean) 10 RL G) {M : Mem} {H : Heap} {locs : List Loc} {ls : Array Slot} (hf : f_L_pens M = some (r, M')) (hP : PW G (AC G) (XC G ns) sz M s H) (hS : va_S (AC G) s.heap H locs) (hl : lv_has ls 10 [(0, .ref (adC G 0 0))]) : W p l e rm_L_pens s m args below meth c H locs 0 0 (MQ below (va_Qi (fun (r2 : Int32) (_ : Unit) => r2 = r) (fun _ t => PW G (AC G) (XC G ns) sz M' t t.heap) (AC G)) args s 0 0 (AC G)) (F0 m 0 ls []) := by
  obtain ⟨hx, hb, hr, hlocks, hml, hown, hts, hK⟩ := id E
  unfold f_L_pens at hf
  refine lv_iconst (v := (-1)) hx hb dL_pens_0 (by decide) ?_
  refine lv_istore_n (lv' := [(1, .int (-1)), (0, .ref (adC G 0 0))]) hx hb dL_pens_1 rfl hl (by decide) rfl (fun ls hl => ?_)
  refine lv_ldc (v := 1000000) hx hb hown (hts _ w_460) dL_pens_2 ?_
  refine lv_istore_n (lv' := [(2, .int 1000000), (1, .int (-1)), (0, .ref (adC G 0 0))]) hx hb dL_pens_4 rfl hl (by decide) rfl (fun ls hl => ?_)
  refine lv_iconst (v := 0) hx hb dL_pens_5 (by decide) ?_
  refine lv_istore_n (lv' := [(3, .int 0), (2, .int 1000000), (1, .int (-1)), (0, .ref (adC G 0 0))]) hx hb dL_pens_6 rfl hl (by decide) rfl (fun ls hl => ?_)
  refine lv_aload_n hx hb dL_pens_7 rfl (lv_at hl 3 rfl) ?_
  refine lv_iconst (v := 5) hx hb dL_pens_8 (by decide) ?_
  refine ob_e hf (fun r_9 M_9 hq hf => ?_)
  refine cv_X7_count E hP hS hq w_414 ⟨Nat.le_of_ble_eq_true rfl, Nat.le_of_ble_eq_true rfl⟩ hl (Nat.le_of_ble_eq_true rfl) dL_pens_9 ⟨Nat.le_of_ble_eq_true rfl, Nat.le_of_ble_eq_true rfl⟩ (fun H locs hP hS => ?_)
  refine lv_istore (lv' := [(4, .int r_9), (3, .int 0), (2, .int 1000000), (1, .int (-1)), (0, .ref (adC G 0 0))]) hx hb dL_pens_12 hl (by decide) rfl (fun ls hl => ?_)
  refine lv_iconst (v := 1) hx hb dL_pens_14 (by decide) ?_
  refine lv_istore (lv' := [(5, .int 1), (4, .int r_9), (3, .int 0), (2, .int 1000000), (1, .int (-1)), (0, .ref (adC G 0 0))]) hx hb dL_pens_15 hl (by decide) rfl (fun ls hl => ?_)
  refine lv_iconst (v := 0) hx hb dL_pens_17 (by decide) ?_
  refine lv_istore (lv' := [(6, .int 0), (5, .int 1), (4, .int r_9), (3, .int 0), (2, .int 1000000), (1, .int (-1)), (0, .ref (adC G 0 0))]) hx hb dL_pens_18 hl (by decide) rfl (fun ls hl => ?_)
  exact w_L_pens_b20 E 1000 _ _ _ _ _ _ _ _ _ _ hf hP hS (lv_sub hl [6, 5, 4, 3, 2, 1, 0] rfl)
theorem c_L_pens (l : Launch) {G : GG} {sz : Nat} {ns : Nat} {M : Mem} {r : Int32} {M' : Mem} (hf : f_L_pens M = some (r, M')) : CtI l yL_pens cL_pens 10 (some .boolean) rm_L_pens [.ref (adC G 0 0)] G (AC G) (XC G ns) sz M r (XC G ns) sz M' := by
  refine Ct_of (by decide) (Nat.le_of_ble_eq_true rfl) (fun p e s m below meth c ls hx hb hr hlocks hml hown hts hK hP hl => ?_)
  exact w_L_pens ⟨hx, hb, hr, hlocks, hml, hown, hts, hK⟩ hf hP va_S.rf hl
set_option maxRecDepth 100000 in
theorem cv_L_pens {p : Program} {l : Launch} {e : Env} {R : Room} {s : State} {m : MethodId} {args : Array Value} {below : List Frame} {meth : Method} {c : Code} {H : Heap} {locs : List Loc} {cells slots : Nat} {Q : State → Prop} {cc : ByteArray} {pc nL index : Nat} {ret : Option FieldType} {own : String} {ls : Array Slot} {rest : List Value} {l' : List (Nat × Value)} {G : GG} {sz : Nat} {ns : Nat} {M : Mem} (E : Cx p s m args meth c cc ret nL own G) (hP : PW G (AC G) (XC G ns) sz M s H) (hS : va_S (AC G) s.heap H locs) {r : Int32} {M' : Mem} (hq : f_L_pens M = some (r, M')) (w1 : Cond.methodLink own index yL_pens ∈ lw_all) (hR : 5 ≤ R.frames ∧ 116 ≤ R.locals) (hl : lv_has ls nL l') (hrest : (rest.map fun v => v.category).sum ≤ 8) (hdg : decode cc pc = .ok (.invokestatic index, 3)) (hcs : cells ≤ R.cells ∧ slots ≤ R.slots)
    (kk : ∀ (H1 : Heap) (locs1 : List Loc), PW G (AC G) (XC G ns) sz M' s H1 → va_S (AC G) s.heap H1 locs1 → W p l e R s m args below meth c H1 locs1 cells slots Q (F0 m (pc + 3) ls (.int r :: rest))) : W p l e R s m args below meth c H locs cells slots Q (F0 m pc ls (.ref (adC G 0 0) :: rest)) := by
  obtain ⟨hx, hb, hr, hlocks, hml, hown, hts, hK⟩ := E
  exact kc_i (kc_runS (na := 1) hx hb hml hts hown hK hP (c_L_pens l hq) w1 w_458 w_0 w_459 (by decide +kernel) hR rfl hl rfl hrest hdg hcs) hS kk
/-! L_lines -/
abbrev rm_L_lines : Room := { frames := 6, cells := 0, slots := 0, locals := 134 }
def f_L_lines_b477 (s0 : Int32) (M : Mem) : Option (Int32 × Mem) :=
ck (bl s0) <|
some (s0, M)
def f_L_lines_b476 (M : Mem) : Option (Int32 × Mem) :=
f_L_lines_b477 0 M
def f_L_lines_b469 (s0 : Int32) (s1 : Int32) (M : Mem) : Option (Int32 × Mem) :=
(if s0 = s1 then
  f_L_lines_b477 1 M
else
  f_L_lines_b476 M)
def f_L_lines_b460 (x1 : Int32) (s0 : Int32) (M : Mem) : Option (Int32 × Mem) :=
(if x1 = 0 then
  f_L_lines_b469 s0 1 M
else
  f_L_lines_b469 s0 0 M)
def f_L_lines_b389 (x1 : Int32) (x2 : Int32) (x3 : Int32) (x4 : Int32) (x5 : Int32) (x6 : Int32) (M : Mem) : Option (Int32 × Mem) :=
(if x5 = 0 then
  f_L_lines_b476 M
else
  ob (f_X7_count 2 M) fun r_396 M_396 =>
  (if r_396 = x1 then
    (if x6 = x1 then
      ob (f_X7_count 3 M_396) fun r_411 M_411 =>
      (if r_411 = x2 then
        ob (f_X7_count 8 M_411) fun r_421 M_421 =>
        (if r_421 = x3 then
          ob (f_X7_seams M_421) fun r_429 M_429 =>
          (if r_429 < 0 then
            f_L_lines_b476 M_429
          else
            ob (f_X7_seams M_429) fun r_436 M_436 =>
            (if (x4 / 2) < r_436 then
              f_L_lines_b476 M_436
            else
              ob (f_X7_meanShade M_436) fun r_447 M_447 =>
              (if r_447 = (-1000004) then
                f_L_lines_b460 x1 1 M_447
              else
                f_L_lines_b460 x1 0 M_447)))
        else
          f_L_lines_b476 M_421)
      else
        f_L_lines_b476 M_411)
    else
      f_L_lines_b476 M_396)
  else
    f_L_lines_b476 M_396))
def f_L_lines_b355 : Nat → Int32 → Int32 → Int32 → Int32 → Int32 → Int32 → Int32 → Mem → Option (Int32 × Mem)
  | 0 => fun _ _ _ _ _ _ _ _ => none
  | fu + 1 => fun x1 x2 x3 x4 x5 x6 x7 M =>
ob (f_X7_count 0 M) fun r_359 M_359 =>
(if r_359 ≤ x7 then
  f_L_lines_b389 x1 x2 x3 x4 x5 x6 M_359
else
  (if x5 = 0 then
    f_L_lines_b389 x1 x2 x3 x4 x5 x6 M_359
  else
    ob (f_X7_penOf x7 10 M_359) fun r_377 M_377 =>
    lt ((x6 + r_377)) fun x6_381 =>
    lt (x7 + 1) fun x7_383 =>
    f_L_lines_b355 fu x1 x2 x3 x4 x5 x6_381 x7_383 M_377))
def f_L_lines_b349 (x1 : Int32) (x2 : Int32) (x3 : Int32) (x4 : Int32) (x5 : Int32) (M : Mem) : Option (Int32 × Mem) :=
f_L_lines_b355 1000 x1 x2 x3 x4 x5 0 0 M
def f_L_lines_b341 (L15 : Int32 → Int32 → Int32 → Int32 → Int32 → Int32 → Mem → Option (Int32 × Mem)) (x1 : Int32) (x2 : Int32) (x3 : Int32) (x4 : Int32) (x6 : Int32) (s0 : Int32) (M : Mem) : Option (Int32 × Mem) :=
lt (x6 + 1) fun x6_343 =>
L15 x1 x2 x3 x4 s0 x6_343 M
def f_L_lines_b340 (L15 : Int32 → Int32 → Int32 → Int32 → Int32 → Int32 → Mem → Option (Int32 × Mem)) (x1 : Int32) (x2 : Int32) (x3 : Int32) (x4 : Int32) (x6 : Int32) (M : Mem) : Option (Int32 × Mem) :=
f_L_lines_b341 L15 x1 x2 x3 x4 x6 0 M
def f_L_lines_b317 (L15 : Int32 → Int32 → Int32 → Int32 → Int32 → Int32 → Mem → Option (Int32 × Mem)) (x1 : Int32) (x2 : Int32) (x3 : Int32) (x4 : Int32) (x5 : Int32) (x6 : Int32) (M : Mem) : Option (Int32 × Mem) :=
(if x5 = 0 then
  f_L_lines_b340 L15 x1 x2 x3 x4 x6 M
else
  ob (f_X7_touching x6 M) fun r_325 M_325 =>
  (if ((r_325 >>> (x6 &&& 31)) &&& 1) = 0 then
    f_L_lines_b341 L15 x1 x2 x3 x4 x6 1 M_325
  else
    f_L_lines_b340 L15 x1 x2 x3 x4 x6 M_325))
def f_L_lines_b309 (L237 : Int32 → Int32 → Int32 → Int32 → Int32 → Int32 → Int32 → Mem → Option (Int32 × Mem)) (x1 : Int32) (x2 : Int32) (x3 : Int32) (x4 : Int32) (x6 : Int32) (x9 : Int32) (s0 : Int32) (M : Mem) : Option (Int32 × Mem) :=
lt (x9 + 1) fun x9_311 =>
L237 x1 x2 x3 x4 s0 x6 x9_311 M
def f_L_lines_b308 (L237 : Int32 → Int32 → Int32 → Int32 → Int32 → Int32 → Int32 → Mem → Option (Int32 × Mem)) (x1 : Int32) (x2 : Int32) (x3 : Int32) (x4 : Int32) (x6 : Int32) (x9 : Int32) (M : Mem) : Option (Int32 × Mem) :=
f_L_lines_b309 L237 x1 x2 x3 x4 x6 x9 0 M
def f_L_lines_b237 (L15 : Int32 → Int32 → Int32 → Int32 → Int32 → Int32 → Mem → Option (Int32 × Mem)) : Nat → Int32 → Int32 → Int32 → Int32 → Int32 → Int32 → Int32 → Mem → Option (Int32 × Mem)
  | 0 => fun _ _ _ _ _ _ _ _ => none
  | fu + 1 => fun x1 x2 x3 x4 x5 x6 x9 M =>
(if x6 ≤ x9 then
  f_L_lines_b317 L15 x1 x2 x3 x4 x5 x6 M
else
  (if x5 = 0 then
    f_L_lines_b317 L15 x1 x2 x3 x4 x5 x6 M
  else
    ob (f_X7_touch x6 x9 M) fun r_254 M_254 =>
    ob (f_X7_touch x9 x6 M_254) fun r_264 M_264 =>
    (if r_264 = r_254 then
      ob (f_X7_touching x6 M_264) fun r_275 M_275 =>
      (if ((r_275 >>> (x9 &&& 31)) &&& 1) = r_254 then
        ob (f_X7_touching x9 M_275) fun r_291 M_291 =>
        (if ((r_291 >>> (x6 &&& 31)) &&& 1) = r_254 then
          f_L_lines_b309 (f_L_lines_b237 L15 fu) x1 x2 x3 x4 x6 x9 1 M_291
        else
          f_L_lines_b308 (f_L_lines_b237 L15 fu) x1 x2 x3 x4 x6 x9 M_291)
      else
        f_L_lines_b308 (f_L_lines_b237 L15 fu) x1 x2 x3 x4 x6 x9 M_275)
    else
      f_L_lines_b308 (f_L_lines_b237 L15 fu) x1 x2 x3 x4 x6 x9 M_264)))
def f_L_lines_b232 (L15 : Int32 → Int32 → Int32 → Int32 → Int32 → Int32 → Mem → Option (Int32 × Mem)) (x1 : Int32) (x2 : Int32) (x3 : Int32) (x4 : Int32) (x6 : Int32) (s0 : Int32) (M : Mem) : Option (Int32 × Mem) :=
f_L_lines_b237 L15 1000 x1 x2 x3 x4 s0 x6 0 M
def f_L_lines_b231 (L15 : Int32 → Int32 → Int32 → Int32 → Int32 → Int32 → Mem → Option (Int32 × Mem)) (x1 : Int32) (x2 : Int32) (x3 : Int32) (x4 : Int32) (x6 : Int32) (M : Mem) : Option (Int32 × Mem) :=
f_L_lines_b232 L15 x1 x2 x3 x4 x6 0 M
def f_L_lines_b215 (L15 : Int32 → Int32 → Int32 → Int32 → Int32 → Int32 → Mem → Option (Int32 × Mem)) (x1 : Int32) (x2 : Int32) (x3 : Int32) (x4 : Int32) (x6 : Int32) (M : Mem) : Option (Int32 × Mem) :=
ob (f_X7_touch x6 x6 M) fun r_220 M_220 =>
(if r_220 = 1 then
  f_L_lines_b232 L15 x1 x2 x3 x4 x6 1 M_220
else
  f_L_lines_b231 L15 x1 x2 x3 x4 x6 M_220)
def f_L_lines_b170 (L15 : Int32 → Int32 → Int32 → Int32 → Int32 → Int32 → Mem → Option (Int32 × Mem)) (x1 : Int32) (x2 : Int32) (x3 : Int32) (x4 : Int32) (x6 : Int32) (x8 : Int32) (M : Mem) : Option (Int32 × Mem) :=
(if x8 = 0 then
  f_L_lines_b215 L15 x1 x2 x3 x4 x6 M
else
  ob (f_X7_lineOf x6 7 M) fun r_180 M_180 =>
  ob (f_X7_count 4 M_180) fun r_185 M_185 =>
  (if r_185 < r_180 then
    f_L_lines_b231 L15 x1 x2 x3 x4 x6 M_185
  else
    ob (f_X7_lineOf x6 9 M_185) fun r_196 M_196 =>
    (if r_196 < 0 then
      f_L_lines_b231 L15 x1 x2 x3 x4 x6 M_196
    else
      ob (f_X7_lineOf x6 9 M_196) fun r_207 M_207 =>
      (if 1065353216 < r_207 then
        f_L_lines_b231 L15 x1 x2 x3 x4 x6 M_207
      else
        f_L_lines_b215 L15 x1 x2 x3 x4 x6 M_207))))
def f_L_lines_b136 (L15 : Int32 → Int32 → Int32 → Int32 → Int32 → Int32 → Mem → Option (Int32 × Mem)) (x1 : Int32) (x2 : Int32) (x3 : Int32) (x4 : Int32) (x6 : Int32) (x8 : Int32) (s0 : Int32) (M : Mem) : Option (Int32 × Mem) :=
(if s0 = x8 then
  (if x8 = 0 then
    ob (f_X7_lineOf x6 8 M) fun r_151 M_151 =>
    (if r_151 = 0 then
      ob (f_X7_lineOf x6 9 M_151) fun r_162 M_162 =>
      (if r_162 = (-1000004) then
        f_L_lines_b170 L15 x1 x2 x3 x4 x6 x8 M_162
      else
        f_L_lines_b231 L15 x1 x2 x3 x4 x6 M_162)
    else
      f_L_lines_b231 L15 x1 x2 x3 x4 x6 M_151)
  else
    f_L_lines_b170 L15 x1 x2 x3 x4 x6 x8 M)
else
  f_L_lines_b231 L15 x1 x2 x3 x4 x6 M)
def f_L_lines_b114 (L15 : Int32 → Int32 → Int32 → Int32 → Int32 → Int32 → Mem → Option (Int32 × Mem)) (x1 : Int32) (x2 : Int32) (x4 : Int32) (x6 : Int32) (x7 : Int32) (x8 : Int32) (s0 : Int32) (s1 : Int32) (M : Mem) : Option (Int32 × Mem) :=
lt ((s0 + s1)) fun x3_115 =>
ob (f_X7_lineOf x6 4 M) fun r_120 M_120 =>
(if r_120 ≤ 0 then
  f_L_lines_b231 L15 x1 x2 x3_115 x4 x6 M_120
else
  (if x7 < 0 then
    f_L_lines_b136 L15 x1 x2 x3_115 x4 x6 x8 0 M_120
  else
    f_L_lines_b136 L15 x1 x2 x3_115 x4 x6 x8 1 M_120))
def f_L_lines_b83 (L15 : Int32 → Int32 → Int32 → Int32 → Int32 → Int32 → Mem → Option (Int32 × Mem)) (x1 : Int32) (x2 : Int32) (x3 : Int32) (x6 : Int32) (x7 : Int32) (x8 : Int32) (s0 : Int32) (s1 : Int32) (M : Mem) : Option (Int32 × Mem) :=
lt ((s0 + s1)) fun x4_84 =>
ob (f_X7_lineOf x6 8 M) fun r_92 M_92 =>
lt ((x2 + r_92)) fun x2_96 =>
(if x8 = 0 then
  ob (f_X7_lineOf x6 4 M_92) fun r_111 M_111 =>
  f_L_lines_b114 L15 x1 x2_96 x4_84 x6 x7 x8 x3 r_111 M_111
else
  f_L_lines_b114 L15 x1 x2_96 x4_84 x6 x7 x8 x3 0 M_92)
def f_L_lines_b69 (L15 : Int32 → Int32 → Int32 → Int32 → Int32 → Int32 → Mem → Option (Int32 × Mem)) (x2 : Int32) (x3 : Int32) (x4 : Int32) (x6 : Int32) (x7 : Int32) (x8 : Int32) (s0 : Int32) (s1 : Int32) (M : Mem) : Option (Int32 × Mem) :=
lt ((s0 + s1)) fun x1_70 =>
(if x8 = 0 then
  f_L_lines_b83 L15 x1_70 x2 x3 x6 x7 x8 x4 0 M
else
  f_L_lines_b83 L15 x1_70 x2 x3 x6 x7 x8 x4 2 M)
def f_L_lines_b56 (L15 : Int32 → Int32 → Int32 → Int32 → Int32 → Int32 → Mem → Option (Int32 × Mem)) (x1 : Int32) (x2 : Int32) (x3 : Int32) (x4 : Int32) (x6 : Int32) (x7 : Int32) (s0 : Int32) (M : Mem) : Option (Int32 × Mem) :=
(if s0 = 0 then
  f_L_lines_b69 L15 x2 x3 x4 x6 x7 s0 x1 0 M
else
  f_L_lines_b69 L15 x2 x3 x4 x6 x7 s0 x1 1 M)
def f_L_lines_b15 : Nat → Int32 → Int32 → Int32 → Int32 → Int32 → Int32 → Mem → Option (Int32 × Mem)
  | 0 => fun _ _ _ _ _ _ _ => none
  | fu + 1 => fun x1 x2 x3 x4 x5 x6 M =>
ob (f_X7_count 1 M) fun r_19 M_19 =>
(if r_19 ≤ x6 then
  f_L_lines_b349 x1 x2 x3 x4 x5 M_19
else
  (if x5 = 0 then
    f_L_lines_b349 x1 x2 x3 x4 x5 M_19
  else
    ob (f_X7_lineOf x6 6 M_19) fun r_35 M_35 =>
    ob (f_X7_lineOf x6 5 M_35) fun r_44 M_44 =>
    (if r_44 = 1 then
      f_L_lines_b56 (f_L_lines_b15 fu) x1 x2 x3 x4 x6 r_35 1 M_44
    else
      f_L_lines_b56 (f_L_lines_b15 fu) x1 x2 x3 x4 x6 r_35 0 M_44)))
def f_L_lines (M : Mem) : Option (Int32 × Mem) :=
f_L_lines_b15 1000 0 0 0 0 1 0 M
set_option maxHeartbeats 4000000 in
set_option maxRecDepth 100000 in
theorem w_L_lines_b477 {p : Program} {l : Launch} {e : Env} {s : State} {m : MethodId} {args : Array Value} {below : List Frame} {meth : Method} {c : Code} {G : GG} {sz : Nat} {ns : Nat} {r : Int32} {M' : Mem} (E : Cx p s m args meth c cL_lines (some .boolean) 11 RL G) {s0 : Int32} {M : Mem} {H : Heap} {locs : List Loc} {ls : Array Slot} (hf : f_L_lines_b477 s0 M = some (r, M')) (hP : PW G (AC G) (XC G ns) sz M s H) (hS : va_S (AC G) s.heap H locs) (hl : lv_has ls 11 []) : W p l e rm_L_lines s m args below meth c H locs 0 0 (MQ below (va_Qi (fun (r2 : Int32) (_ : Unit) => r2 = r) (fun _ t => PW G (AC G) (XC G ns) sz M' t t.heap) (AC G)) args s 0 0 (AC G)) (F0 m 477 ls [.int s0]) := by
  obtain ⟨hx, hb, hr, hlocks, hml, hown, hts, hK⟩ := id E
  unfold f_L_lines_b477 at hf
  refine ck_e hf (fun hn hf => ?_)
  exact en_i hf hx hb hr (bl_nar hn) hlocks hP hS dL_lines_477
set_option maxHeartbeats 4000000 in
set_option maxRecDepth 100000 in
theorem w_L_lines_b476 {p : Program} {l : Launch} {e : Env} {s : State} {m : MethodId} {args : Array Value} {below : List Frame} {meth : Method} {c : Code} {G : GG} {sz : Nat} {ns : Nat} {r : Int32} {M' : Mem} (E : Cx p s m args meth c cL_lines (some .boolean) 11 RL G) {M : Mem} {H : Heap} {locs : List Loc} {ls : Array Slot} (hf : f_L_lines_b476 M = some (r, M')) (hP : PW G (AC G) (XC G ns) sz M s H) (hS : va_S (AC G) s.heap H locs) (hl : lv_has ls 11 []) : W p l e rm_L_lines s m args below meth c H locs 0 0 (MQ below (va_Qi (fun (r2 : Int32) (_ : Unit) => r2 = r) (fun _ t => PW G (AC G) (XC G ns) sz M' t t.heap) (AC G)) args s 0 0 (AC G)) (F0 m 476 ls []) := by
  obtain ⟨hx, hb, hr, hlocks, hml, hown, hts, hK⟩ := id E
  unfold f_L_lines_b476 at hf
  refine lv_iconst (v := 0) hx hb dL_lines_476 (by decide) ?_
  exact w_L_lines_b477 E hf hP hS (lv_sub hl [] rfl)
set_option maxHeartbeats 4000000 in
set_option maxRecDepth 100000 in
theorem w_L_lines_b469 {p : Program} {l : Launch} {e : Env} {s : State} {m : MethodId} {args : Array Value} {below : List Frame} {meth : Method} {c : Code} {G : GG} {sz : Nat} {ns : Nat} {r : Int32} {M' : Mem} (E : Cx p s m args meth c cL_lines (some .boolean) 11 RL G) {s0 : Int32} {s1 : Int32} {M : Mem} {H : Heap} {locs : List Loc} {ls : Array Slot} (hf : f_L_lines_b469 s0 s1 M = some (r, M')) (hP : PW G (AC G) (XC G ns) sz M s H) (hS : va_S (AC G) s.heap H locs) (hl : lv_has ls 11 []) : W p l e rm_L_lines s m args below meth c H locs 0 0 (MQ below (va_Qi (fun (r2 : Int32) (_ : Unit) => r2 = r) (fun _ t => PW G (AC G) (XC G ns) sz M' t t.heap) (AC G)) args s 0 0 (AC G)) (F0 m 469 ls [.int s1, .int s0]) := by
  obtain ⟨hx, hb, hr, hlocks, hml, hown, hts, hK⟩ := id E
  unfold f_L_lines_b469 at hf
  refine lv_icmp_ne (tgt := 476) hx hb dL_lines_469 (by decide) (fun hc => ?_) (fun hc => ?_)
  · have hf := if_f hf hc
    exact w_L_lines_b476 E hf hP hS (lv_sub hl [] rfl)
  · have hf := if_t hf hc
    refine lv_iconst (v := 1) hx hb dL_lines_472 (by decide) ?_
    refine lv_goto (tgt := 477) hx hb dL_lines_473 (by decide) ?_
    exact w_L_lines_b477 E hf hP hS (lv_sub hl [] rfl)
set_option maxHeartbeats 4000000 in
set_option maxRecDepth 100000 in
theorem w_L_lines_b460 {p : Program} {l : Launch} {e : Env} {s : State} {m : MethodId} {args : Array Value} {below : List Frame} {meth : Method} {c : Code} {G : GG} {sz : Nat} {ns : Nat} {r : Int32} {M' : Mem} (E : Cx p s m args meth c cL_lines (some .boolean) 11 RL G) {x1 : Int32} {s0 : Int32} {M : Mem} {H : Heap} {locs : List Loc} {ls : Array Slot} (hf : f_L_lines_b460 x1 s0 M = some (r, M')) (hP : PW G (AC G) (XC G ns) sz M s H) (hS : va_S (AC G) s.heap H locs) (hl : lv_has ls 11 [(1, .int x1)]) : W p l e rm_L_lines s m args below meth c H locs 0 0 (MQ below (va_Qi (fun (r2 : Int32) (_ : Unit) => r2 = r) (fun _ t => PW G (AC G) (XC G ns) sz M' t t.heap) (AC G)) args s 0 0 (AC G)) (F0 m 460 ls [.int s0]) := by
  obtain ⟨hx, hb, hr, hlocks, hml, hown, hts, hK⟩ := id E
  unfold f_L_lines_b460 at hf
  refine lv_iload_n hx hb dL_lines_460 rfl (lv_at hl 0 rfl) ?_
  refine lv_if_ne (tgt := 468) hx hb dL_lines_461 (by decide) (fun hc => ?_) (fun hc => ?_)
  · have hf := if_f hf hc
    refine lv_iconst (v := 0) hx hb dL_lines_468 (by decide) ?_
    exact w_L_lines_b469 E hf hP hS (lv_sub hl [] rfl)
  · have hf := if_t hf hc
    refine lv_iconst (v := 1) hx hb dL_lines_464 (by decide) ?_
    refine lv_goto (tgt := 469) hx hb dL_lines_465 (by decide) ?_
    exact w_L_lines_b469 E hf hP hS (lv_sub hl [] rfl)
set_option maxHeartbeats 4000000 in
set_option maxRecDepth 100000 in
theorem w_L_lines_b389 {p : Program} {l : Launch} {e : Env} {s : State} {m : MethodId} {args : Array Value} {below : List Frame} {meth : Method} {c : Code} {G : GG} {sz : Nat} {ns : Nat} {r : Int32} {M' : Mem} (E : Cx p s m args meth c cL_lines (some .boolean) 11 RL G) {x1 : Int32} {x2 : Int32} {x3 : Int32} {x4 : Int32} {x5 : Int32} {x6 : Int32} {M : Mem} {H : Heap} {locs : List Loc} {ls : Array Slot} (hf : f_L_lines_b389 x1 x2 x3 x4 x5 x6 M = some (r, M')) (hP : PW G (AC G) (XC G ns) sz M s H) (hS : va_S (AC G) s.heap H locs) (hl : lv_has ls 11 [(0, .ref (adC G 0 0)), (1, .int x1), (2, .int x2), (3, .int x3), (4, .int x4), (5, .int x5), (6, .int x6)]) : W p l e rm_L_lines s m args below meth c H locs 0 0 (MQ below (va_Qi (fun (r2 : Int32) (_ : Unit) => r2 = r) (fun _ t => PW G (AC G) (XC G ns) sz M' t t.heap) (AC G)) args s 0 0 (AC G)) (F0 m 389 ls []) := by
  obtain ⟨hx, hb, hr, hlocks, hml, hown, hts, hK⟩ := id E
  unfold f_L_lines_b389 at hf
  refine lv_iload hx hb dL_lines_389 (lv_at hl 5 rfl) ?_
  refine lv_if_eq (tgt := 476) hx hb dL_lines_391 (by decide) (fun hc => ?_) (fun hc => ?_)
  · have hf := if_t hf hc
    exact w_L_lines_b476 E hf hP hS (lv_sub hl [] rfl)
  · have hf := if_f hf hc
    refine lv_aload_n hx hb dL_lines_394 rfl (lv_at hl 0 rfl) ?_
    refine lv_iconst (v := 2) hx hb dL_lines_395 (by decide) ?_
    refine ob_e hf (fun r_396 M_396 hq hf => ?_)
    refine cv_X7_count E hP hS hq w_414 ⟨Nat.le_of_ble_eq_true rfl, Nat.le_of_ble_eq_true rfl⟩ hl (Nat.le_of_ble_eq_true rfl) dL_lines_396 ⟨Nat.le_of_ble_eq_true rfl, Nat.le_of_ble_eq_true rfl⟩ (fun H locs hP hS => ?_)
    refine lv_iload_n hx hb dL_lines_399 rfl (lv_at hl 1 rfl) ?_
    refine lv_icmp_ne (tgt := 476) hx hb dL_lines_400 (by decide) (fun hc => ?_) (fun hc => ?_)
    · have hf := if_f hf hc
      exact w_L_lines_b476 E hf hP hS (lv_sub hl [] rfl)
    · have hf := if_t hf hc
      refine lv_iload hx hb dL_lines_403 (lv_at hl 6 rfl) ?_
      refine lv_iload_n hx hb dL_lines_405 rfl (lv_at hl 1 rfl) ?_
      refine lv_icmp_ne (tgt := 476) hx hb dL_lines_406 (by decide) (fun hc => ?_) (fun hc => ?_)
      · have hf := if_f hf hc
        exact w_L_lines_b476 E hf hP hS (lv_sub hl [] rfl)
      · have hf := if_t hf hc
        refine lv_aload_n hx hb dL_lines_409 rfl (lv_at hl 0 rfl) ?_
        refine lv_iconst (v := 3) hx hb dL_lines_410 (by decide) ?_
        refine ob_e hf (fun r_411 M_411 hq hf => ?_)
        refine cv_X7_count E hP hS hq w_414 ⟨Nat.le_of_ble_eq_true rfl, Nat.le_of_ble_eq_true rfl⟩ hl (Nat.le_of_ble_eq_true rfl) dL_lines_411 ⟨Nat.le_of_ble_eq_true rfl, Nat.le_of_ble_eq_true rfl⟩ (fun H locs hP hS => ?_)
        refine lv_iload_n hx hb dL_lines_414 rfl (lv_at hl 2 rfl) ?_
        refine lv_icmp_ne (tgt := 476) hx hb dL_lines_415 (by decide) (fun hc => ?_) (fun hc => ?_)
        · have hf := if_f hf hc
          exact w_L_lines_b476 E hf hP hS (lv_sub hl [] rfl)
        · have hf := if_t hf hc
          refine lv_aload_n hx hb dL_lines_418 rfl (lv_at hl 0 rfl) ?_
          refine lv_bipush (v := 8) hx hb dL_lines_419 (by decide) ?_
          refine ob_e hf (fun r_421 M_421 hq hf => ?_)
          refine cv_X7_count E hP hS hq w_414 ⟨Nat.le_of_ble_eq_true rfl, Nat.le_of_ble_eq_true rfl⟩ hl (Nat.le_of_ble_eq_true rfl) dL_lines_421 ⟨Nat.le_of_ble_eq_true rfl, Nat.le_of_ble_eq_true rfl⟩ (fun H locs hP hS => ?_)
          refine lv_iload_n hx hb dL_lines_424 rfl (lv_at hl 3 rfl) ?_
          refine lv_icmp_ne (tgt := 476) hx hb dL_lines_425 (by decide) (fun hc => ?_) (fun hc => ?_)
          · have hf := if_f hf hc
            exact w_L_lines_b476 E hf hP hS (lv_sub hl [] rfl)
          · have hf := if_t hf hc
            refine lv_aload_n hx hb dL_lines_428 rfl (lv_at hl 0 rfl) ?_
            refine ob_e hf (fun r_429 M_429 hq hf => ?_)
            refine cv_X7_seams E hP hS hq w_541 ⟨Nat.le_of_ble_eq_true rfl, Nat.le_of_ble_eq_true rfl⟩ hl (Nat.le_of_ble_eq_true rfl) dL_lines_429 ⟨Nat.le_of_ble_eq_true rfl, Nat.le_of_ble_eq_true rfl⟩ (fun H locs hP hS => ?_)
            refine lv_if_lt (tgt := 476) hx hb dL_lines_432 (by decide) (fun hc => ?_) (fun hc => ?_)
            · have hf := if_t hf hc
              exact w_L_lines_b476 E hf hP hS (lv_sub hl [] rfl)
            · have hf := if_f hf hc
              refine lv_aload_n hx hb dL_lines_435 rfl (lv_at hl 0 rfl) ?_
              refine ob_e hf (fun r_436 M_436 hq hf => ?_)
              refine cv_X7_seams E hP hS hq w_541 ⟨Nat.le_of_ble_eq_true rfl, Nat.le_of_ble_eq_true rfl⟩ hl (Nat.le_of_ble_eq_true rfl) dL_lines_436 ⟨Nat.le_of_ble_eq_true rfl, Nat.le_of_ble_eq_true rfl⟩ (fun H locs hP hS => ?_)
              refine lv_iload hx hb dL_lines_439 (lv_at hl 4 rfl) ?_
              refine lv_iconst (v := 2) hx hb dL_lines_441 (by decide) ?_
              refine lv_idiv hx hb dL_lines_442 (by decide) ?_
              refine lv_icmp_gt (tgt := 476) hx hb dL_lines_443 (by decide) (fun hc => ?_) (fun hc => ?_)
              · have hf := if_t hf hc
                exact w_L_lines_b476 E hf hP hS (lv_sub hl [] rfl)
              · have hf := if_f hf hc
                refine lv_aload_n hx hb dL_lines_446 rfl (lv_at hl 0 rfl) ?_
                refine ob_e hf (fun r_447 M_447 hq hf => ?_)
                refine cv_X7_meanShade E hP hS hq w_565 ⟨Nat.le_of_ble_eq_true rfl, Nat.le_of_ble_eq_true rfl⟩ hl (Nat.le_of_ble_eq_true rfl) dL_lines_447 ⟨Nat.le_of_ble_eq_true rfl, Nat.le_of_ble_eq_true rfl⟩ (fun H locs hP hS => ?_)
                refine lv_ldc (v := (-1000004)) hx hb hown (hts _ w_489) dL_lines_450 ?_
                refine lv_icmp_ne (tgt := 459) hx hb dL_lines_452 (by decide) (fun hc => ?_) (fun hc => ?_)
                · have hf := if_f hf hc
                  refine lv_iconst (v := 0) hx hb dL_lines_459 (by decide) ?_
                  exact w_L_lines_b460 E hf hP hS (lv_sub hl [1] rfl)
                · have hf := if_t hf hc
                  refine lv_iconst (v := 1) hx hb dL_lines_455 (by decide) ?_
                  refine lv_goto (tgt := 460) hx hb dL_lines_456 (by decide) ?_
                  exact w_L_lines_b460 E hf hP hS (lv_sub hl [1] rfl)
set_option maxHeartbeats 4000000 in
set_option maxRecDepth 100000 in
theorem w_L_lines_b355 {p : Program} {l : Launch} {e : Env} {s : State} {m : MethodId} {args : Array Value} {below : List Frame} {meth : Method} {c : Code} {G : GG} {sz : Nat} {ns : Nat} {r : Int32} {M' : Mem} (E : Cx p s m args meth c cL_lines (some .boolean) 11 RL G) : ∀ fu : Nat, ∀ (x1 : Int32) (x2 : Int32) (x3 : Int32) (x4 : Int32) (x5 : Int32) (x6 : Int32) (x7 : Int32) (M : Mem) (H : Heap) (locs : List Loc) (ls : Array Slot), f_L_lines_b355 fu x1 x2 x3 x4 x5 x6 x7 M = some (r, M') → PW G (AC G) (XC G ns) sz M s H → va_S (AC G) s.heap H locs → lv_has ls 11 [(0, .ref (adC G 0 0)), (1, .int x1), (2, .int x2), (3, .int x3), (4, .int x4), (5, .int x5), (6, .int x6), (7, .int x7)] → W p l e rm_L_lines s m args below meth c H locs 0 0 (MQ below (va_Qi (fun (r2 : Int32) (_ : Unit) => r2 = r) (fun _ t => PW G (AC G) (XC G ns) sz M' t t.heap) (AC G)) args s 0 0 (AC G)) (F0 m 355 ls []) := by
  obtain ⟨hx, hb, hr, hlocks, hml, hown, hts, hK⟩ := id E
  intro fu
  induction fu with
  | zero => intro x1 x2 x3 x4 x5 x6 x7 M H locs ls hf hP hS hl; cases hf
  | succ fu ih =>
    intro x1 x2 x3 x4 x5 x6 x7 M H locs ls hf hP hS hl
    rw [f_L_lines_b355.eq_2] at hf
    refine lv_iload hx hb dL_lines_355 (lv_at hl 7 rfl) ?_
    refine lv_aload_n hx hb dL_lines_357 rfl (lv_at hl 0 rfl) ?_
    refine lv_iconst (v := 0) hx hb dL_lines_358 (by decide) ?_
    refine ob_e hf (fun r_359 M_359 hq hf => ?_)
    refine cv_X7_count E hP hS hq w_414 ⟨Nat.le_of_ble_eq_true rfl, Nat.le_of_ble_eq_true rfl⟩ hl (Nat.le_of_ble_eq_true rfl) dL_lines_359 ⟨Nat.le_of_ble_eq_true rfl, Nat.le_of_ble_eq_true rfl⟩ (fun H locs hP hS => ?_)
    refine lv_icmp_ge (tgt := 389) hx hb dL_lines_362 (by decide) (fun hc => ?_) (fun hc => ?_)
    · have hf := if_t hf hc
      exact w_L_lines_b389 E hf hP hS (lv_sub hl [0, 1, 2, 3, 4, 5, 6] rfl)
    · have hf := if_f hf hc
      refine lv_iload hx hb dL_lines_365 (lv_at hl 5 rfl) ?_
      refine lv_if_eq (tgt := 389) hx hb dL_lines_367 (by decide) (fun hc => ?_) (fun hc => ?_)
      · have hf := if_t hf hc
        exact w_L_lines_b389 E hf hP hS (lv_sub hl [0, 1, 2, 3, 4, 5, 6] rfl)
      · have hf := if_f hf hc
        refine lv_iload hx hb dL_lines_370 (lv_at hl 6 rfl) ?_
        refine lv_aload_n hx hb dL_lines_372 rfl (lv_at hl 0 rfl) ?_
        refine lv_iload hx hb dL_lines_373 (lv_at hl 7 rfl) ?_
        refine lv_bipush (v := 10) hx hb dL_lines_375 (by decide) ?_
        refine ob_e hf (fun r_377 M_377 hq hf => ?_)
        refine cv_X7_penOf E hP hS hq w_461 ⟨Nat.le_of_ble_eq_true rfl, Nat.le_of_ble_eq_true rfl⟩ hl (Nat.le_of_ble_eq_true rfl) dL_lines_377 ⟨Nat.le_of_ble_eq_true rfl, Nat.le_of_ble_eq_true rfl⟩ (fun H locs hP hS => ?_)
        refine lv_iadd hx hb dL_lines_380 ?_
        refine lt_e hf (fun x6_381 hx6_381 hf => ?_)
        refine kr_nm hx6_381 ?_
        refine lv_istore (lv' := [(6, .int x6_381), (0, .ref (adC G 0 0)), (1, .int x1), (2, .int x2), (3, .int x3), (4, .int x4), (5, .int x5), (7, .int x7)]) hx hb dL_lines_381 hl (by decide) rfl (fun ls hl => ?_)
        refine lt_e hf (fun x7_383 hx7_383 hf => ?_)
        refine lv_iinc (v := x7_383) (lv' := [(7, .int x7_383), (6, .int x6_381), (0, .ref (adC G 0 0)), (1, .int x1), (2, .int x2), (3, .int x3), (4, .int x4), (5, .int x5)]) hx hb dL_lines_383 hl (k := 7) rfl (by rw [hx7_383]; rfl) (by decide) rfl (fun ls hl => ?_)
        refine lv_goto (tgt := 355) hx hb dL_lines_386 (by decide) ?_
        exact ih _ _ _ _ _ _ _ _ _ _ _ hf hP hS (lv_sub hl [2, 3, 4, 5, 6, 7, 1, 0] rfl)
set_option maxHeartbeats 4000000 in
set_option maxRecDepth 100000 in
theorem w_L_lines_b349 {p : Program} {l : Launch} {e : Env} {s : State} {m : MethodId} {args : Array Value} {below : List Frame} {meth : Method} {c : Code} {G : GG} {sz : Nat} {ns : Nat} {r : Int32} {M' : Mem} (E : Cx p s m args meth c cL_lines (some .boolean) 11 RL G) {x1 : Int32} {x2 : Int32} {x3 : Int32} {x4 : Int32} {x5 : Int32} {M : Mem} {H : Heap} {locs : List Loc} {ls : Array Slot} (hf : f_L_lines_b349 x1 x2 x3 x4 x5 M = some (r, M')) (hP : PW G (AC G) (XC G ns) sz M s H) (hS : va_S (AC G) s.heap H locs) (hl : lv_has ls 11 [(0, .ref (adC G 0 0)), (1, .int x1), (2, .int x2), (3, .int x3), (4, .int x4), (5, .int x5)]) : W p l e rm_L_lines s m args below meth c H locs 0 0 (MQ below (va_Qi (fun (r2 : Int32) (_ : Unit) => r2 = r) (fun _ t => PW G (AC G) (XC G ns) sz M' t t.heap) (AC G)) args s 0 0 (AC G)) (F0 m 349 ls []) := by
  obtain ⟨hx, hb, hr, hlocks, hml, hown, hts, hK⟩ := id E
  unfold f_L_lines_b349 at hf
  refine lv_iconst (v := 0) hx hb dL_lines_349 (by decide) ?_
  refine lv_istore (lv' := [(6, .int 0), (0, .ref (adC G 0 0)), (1, .int x1), (2, .int x2), (3, .int x3), (4, .int x4), (5, .int x5)]) hx hb dL_lines_350 hl (by decide) rfl (fun ls hl => ?_)
  refine lv_iconst (v := 0) hx hb dL_lines_352 (by decide) ?_
  refine lv_istore (lv' := [(7, .int 0), (6, .int 0), (0, .ref (adC G 0 0)), (1, .int x1), (2, .int x2), (3, .int x3), (4, .int x4), (5, .int x5)]) hx hb dL_lines_353 hl (by decide) rfl (fun ls hl => ?_)
  exact w_L_lines_b355 E 1000 _ _ _ _ _ _ _ _ _ _ _ hf hP hS (lv_sub hl [2, 3, 4, 5, 6, 7, 1, 0] rfl)
set_option maxHeartbeats 4000000 in
set_option maxRecDepth 100000 in
theorem w_L_lines_b341 {p : Program} {l : Launch} {e : Env} {s : State} {m : MethodId} {args : Array Value} {below : List Frame} {meth : Method} {c : Code} {G : GG} {sz : Nat} {ns : Nat} {r : Int32} {M' : Mem} (E : Cx p s m args meth c cL_lines (some .boolean) 11 RL G) {L15 : Int32 → Int32 → Int32 → Int32 → Int32 → Int32 → Mem → Option (Int32 × Mem)} (hL15 : ∀ (x1 : Int32) (x2 : Int32) (x3 : Int32) (x4 : Int32) (x5 : Int32) (x6 : Int32) (M : Mem) (H : Heap) (locs : List Loc) (ls : Array Slot), L15 x1 x2 x3 x4 x5 x6 M = some (r, M') → PW G (AC G) (XC G ns) sz M s H → va_S (AC G) s.heap H locs → lv_has ls 11 [(0, .ref (adC G 0 0)), (1, .int x1), (2, .int x2), (3, .int x3), (4, .int x4), (5, .int x5), (6, .int x6)] → W p l e rm_L_lines s m args below meth c H locs 0 0 (MQ below (va_Qi (fun (r2 : Int32) (_ : Unit) => r2 = r) (fun _ t => PW G (AC G) (XC G ns) sz M' t t.heap) (AC G)) args s 0 0 (AC G)) (F0 m 15 ls [])) {x1 : Int32} {x2 : Int32} {x3 : Int32} {x4 : Int32} {x6 : Int32} {s0 : Int32} {M : Mem} {H : Heap} {locs : List Loc} {ls : Array Slot} (hf : f_L_lines_b341 L15 x1 x2 x3 x4 x6 s0 M = some (r, M')) (hP : PW G (AC G) (XC G ns) sz M s H) (hS : va_S (AC G) s.heap H locs) (hl : lv_has ls 11 [(0, .ref (adC G 0 0)), (1, .int x1), (2, .int x2), (3, .int x3), (4, .int x4), (6, .int x6)]) : W p l e rm_L_lines s m args below meth c H locs 0 0 (MQ below (va_Qi (fun (r2 : Int32) (_ : Unit) => r2 = r) (fun _ t => PW G (AC G) (XC G ns) sz M' t t.heap) (AC G)) args s 0 0 (AC G)) (F0 m 341 ls [.int s0]) := by
  obtain ⟨hx, hb, hr, hlocks, hml, hown, hts, hK⟩ := id E
  unfold f_L_lines_b341 at hf
  refine lv_istore (lv' := [(5, .int s0), (0, .ref (adC G 0 0)), (1, .int x1), (2, .int x2), (3, .int x3), (4, .int x4), (6, .int x6)]) hx hb dL_lines_341 hl (by decide) rfl (fun ls hl => ?_)
  refine lt_e hf (fun x6_343 hx6_343 hf => ?_)
  refine lv_iinc (v := x6_343) (lv' := [(6, .int x6_343), (5, .int s0), (0, .ref (adC G 0 0)), (1, .int x1), (2, .int x2), (3, .int x3), (4, .int x4)]) hx hb dL_lines_343 hl (k := 6) rfl (by rw [hx6_343]; rfl) (by decide) rfl (fun ls hl => ?_)
  refine lv_goto (tgt := 15) hx hb dL_lines_346 (by decide) ?_
  exact hL15 _ _ _ _ _ _ _ _ _ _ hf hP hS (lv_sub hl [2, 3, 4, 5, 6, 1, 0] rfl)
set_option maxHeartbeats 4000000 in
set_option maxRecDepth 100000 in
theorem w_L_lines_b340 {p : Program} {l : Launch} {e : Env} {s : State} {m : MethodId} {args : Array Value} {below : List Frame} {meth : Method} {c : Code} {G : GG} {sz : Nat} {ns : Nat} {r : Int32} {M' : Mem} (E : Cx p s m args meth c cL_lines (some .boolean) 11 RL G) {L15 : Int32 → Int32 → Int32 → Int32 → Int32 → Int32 → Mem → Option (Int32 × Mem)} (hL15 : ∀ (x1 : Int32) (x2 : Int32) (x3 : Int32) (x4 : Int32) (x5 : Int32) (x6 : Int32) (M : Mem) (H : Heap) (locs : List Loc) (ls : Array Slot), L15 x1 x2 x3 x4 x5 x6 M = some (r, M') → PW G (AC G) (XC G ns) sz M s H → va_S (AC G) s.heap H locs → lv_has ls 11 [(0, .ref (adC G 0 0)), (1, .int x1), (2, .int x2), (3, .int x3), (4, .int x4), (5, .int x5), (6, .int x6)] → W p l e rm_L_lines s m args below meth c H locs 0 0 (MQ below (va_Qi (fun (r2 : Int32) (_ : Unit) => r2 = r) (fun _ t => PW G (AC G) (XC G ns) sz M' t t.heap) (AC G)) args s 0 0 (AC G)) (F0 m 15 ls [])) {x1 : Int32} {x2 : Int32} {x3 : Int32} {x4 : Int32} {x6 : Int32} {M : Mem} {H : Heap} {locs : List Loc} {ls : Array Slot} (hf : f_L_lines_b340 L15 x1 x2 x3 x4 x6 M = some (r, M')) (hP : PW G (AC G) (XC G ns) sz M s H) (hS : va_S (AC G) s.heap H locs) (hl : lv_has ls 11 [(0, .ref (adC G 0 0)), (1, .int x1), (2, .int x2), (3, .int x3), (4, .int x4), (6, .int x6)]) : W p l e rm_L_lines s m args below meth c H locs 0 0 (MQ below (va_Qi (fun (r2 : Int32) (_ : Unit) => r2 = r) (fun _ t => PW G (AC G) (XC G ns) sz M' t t.heap) (AC G)) args s 0 0 (AC G)) (F0 m 340 ls []) := by
  obtain ⟨hx, hb, hr, hlocks, hml, hown, hts, hK⟩ := id E
  unfold f_L_lines_b340 at hf
  refine lv_iconst (v := 0) hx hb dL_lines_340 (by decide) ?_
  exact w_L_lines_b341 E hL15 hf hP hS (lv_sub hl [0, 1, 2, 3, 4, 5] rfl)
set_option maxHeartbeats 4000000 in
set_option maxRecDepth 100000 in
theorem w_L_lines_b317 {p : Program} {l : Launch} {e : Env} {s : State} {m : MethodId} {args : Array Value} {below : List Frame} {meth : Method} {c : Code} {G : GG} {sz : Nat} {ns : Nat} {r : Int32} {M' : Mem} (E : Cx p s m args meth c cL_lines (some .boolean) 11 RL G) {L15 : Int32 → Int32 → Int32 → Int32 → Int32 → Int32 → Mem → Option (Int32 × Mem)} (hL15 : ∀ (x1 : Int32) (x2 : Int32) (x3 : Int32) (x4 : Int32) (x5 : Int32) (x6 : Int32) (M : Mem) (H : Heap) (locs : List Loc) (ls : Array Slot), L15 x1 x2 x3 x4 x5 x6 M = some (r, M') → PW G (AC G) (XC G ns) sz M s H → va_S (AC G) s.heap H locs → lv_has ls 11 [(0, .ref (adC G 0 0)), (1, .int x1), (2, .int x2), (3, .int x3), (4, .int x4), (5, .int x5), (6, .int x6)] → W p l e rm_L_lines s m args below meth c H locs 0 0 (MQ below (va_Qi (fun (r2 : Int32) (_ : Unit) => r2 = r) (fun _ t => PW G (AC G) (XC G ns) sz M' t t.heap) (AC G)) args s 0 0 (AC G)) (F0 m 15 ls [])) {x1 : Int32} {x2 : Int32} {x3 : Int32} {x4 : Int32} {x5 : Int32} {x6 : Int32} {M : Mem} {H : Heap} {locs : List Loc} {ls : Array Slot} (hf : f_L_lines_b317 L15 x1 x2 x3 x4 x5 x6 M = some (r, M')) (hP : PW G (AC G) (XC G ns) sz M s H) (hS : va_S (AC G) s.heap H locs) (hl : lv_has ls 11 [(0, .ref (adC G 0 0)), (1, .int x1), (2, .int x2), (3, .int x3), (4, .int x4), (5, .int x5), (6, .int x6)]) : W p l e rm_L_lines s m args below meth c H locs 0 0 (MQ below (va_Qi (fun (r2 : Int32) (_ : Unit) => r2 = r) (fun _ t => PW G (AC G) (XC G ns) sz M' t t.heap) (AC G)) args s 0 0 (AC G)) (F0 m 317 ls []) := by
  obtain ⟨hx, hb, hr, hlocks, hml, hown, hts, hK⟩ := id E
  unfold f_L_lines_b317 at hf
  refine lv_iload hx hb dL_lines_317 (lv_at hl 5 rfl) ?_
  refine lv_if_eq (tgt := 340) hx hb dL_lines_319 (by decide) (fun hc => ?_) (fun hc => ?_)
  · have hf := if_t hf hc
    exact w_L_lines_b340 E hL15 hf hP hS (lv_sub hl [0, 1, 2, 3, 4, 6] rfl)
  · have hf := if_f hf hc
    refine lv_aload_n hx hb dL_lines_322 rfl (lv_at hl 0 rfl) ?_
    refine lv_iload hx hb dL_lines_323 (lv_at hl 6 rfl) ?_
    refine ob_e hf (fun r_325 M_325 hq hf => ?_)
    refine cv_X7_touching E hP hS hq w_537 ⟨Nat.le_of_ble_eq_true rfl, Nat.le_of_ble_eq_true rfl⟩ hl (Nat.le_of_ble_eq_true rfl) dL_lines_325 ⟨Nat.le_of_ble_eq_true rfl, Nat.le_of_ble_eq_true rfl⟩ (fun H locs hP hS => ?_)
    refine lv_iload hx hb dL_lines_328 (lv_at hl 6 rfl) ?_
    refine lv_ishr hx hb dL_lines_330 ?_
    refine lv_iconst (v := 1) hx hb dL_lines_331 (by decide) ?_
    refine lv_iand hx hb dL_lines_332 ?_
    refine lv_if_ne (tgt := 340) hx hb dL_lines_333 (by decide) (fun hc => ?_) (fun hc => ?_)
    · have hf := if_f hf hc
      exact w_L_lines_b340 E hL15 hf hP hS (lv_sub hl [0, 1, 2, 3, 4, 6] rfl)
    · have hf := if_t hf hc
      refine lv_iconst (v := 1) hx hb dL_lines_336 (by decide) ?_
      refine lv_goto (tgt := 341) hx hb dL_lines_337 (by decide) ?_
      exact w_L_lines_b341 E hL15 hf hP hS (lv_sub hl [0, 1, 2, 3, 4, 6] rfl)
set_option maxHeartbeats 4000000 in
set_option maxRecDepth 100000 in
theorem w_L_lines_b309 {p : Program} {l : Launch} {e : Env} {s : State} {m : MethodId} {args : Array Value} {below : List Frame} {meth : Method} {c : Code} {G : GG} {sz : Nat} {ns : Nat} {r : Int32} {M' : Mem} (E : Cx p s m args meth c cL_lines (some .boolean) 11 RL G) {L237 : Int32 → Int32 → Int32 → Int32 → Int32 → Int32 → Int32 → Mem → Option (Int32 × Mem)} (hL237 : ∀ (x1 : Int32) (x2 : Int32) (x3 : Int32) (x4 : Int32) (x5 : Int32) (x6 : Int32) (x9 : Int32) (M : Mem) (H : Heap) (locs : List Loc) (ls : Array Slot), L237 x1 x2 x3 x4 x5 x6 x9 M = some (r, M') → PW G (AC G) (XC G ns) sz M s H → va_S (AC G) s.heap H locs → lv_has ls 11 [(0, .ref (adC G 0 0)), (1, .int x1), (2, .int x2), (3, .int x3), (4, .int x4), (5, .int x5), (6, .int x6), (9, .int x9)] → W p l e rm_L_lines s m args below meth c H locs 0 0 (MQ below (va_Qi (fun (r2 : Int32) (_ : Unit) => r2 = r) (fun _ t => PW G (AC G) (XC G ns) sz M' t t.heap) (AC G)) args s 0 0 (AC G)) (F0 m 237 ls [])) {x1 : Int32} {x2 : Int32} {x3 : Int32} {x4 : Int32} {x6 : Int32} {x9 : Int32} {s0 : Int32} {M : Mem} {H : Heap} {locs : List Loc} {ls : Array Slot} (hf : f_L_lines_b309 L237 x1 x2 x3 x4 x6 x9 s0 M = some (r, M')) (hP : PW G (AC G) (XC G ns) sz M s H) (hS : va_S (AC G) s.heap H locs) (hl : lv_has ls 11 [(0, .ref (adC G 0 0)), (1, .int x1), (2, .int x2), (3, .int x3), (4, .int x4), (6, .int x6), (9, .int x9)]) : W p l e rm_L_lines s m args below meth c H locs 0 0 (MQ below (va_Qi (fun (r2 : Int32) (_ : Unit) => r2 = r) (fun _ t => PW G (AC G) (XC G ns) sz M' t t.heap) (AC G)) args s 0 0 (AC G)) (F0 m 309 ls [.int s0]) := by
  obtain ⟨hx, hb, hr, hlocks, hml, hown, hts, hK⟩ := id E
  unfold f_L_lines_b309 at hf
  refine lv_istore (lv' := [(5, .int s0), (0, .ref (adC G 0 0)), (1, .int x1), (2, .int x2), (3, .int x3), (4, .int x4), (6, .int x6), (9, .int x9)]) hx hb dL_lines_309 hl (by decide) rfl (fun ls hl => ?_)
  refine lt_e hf (fun x9_311 hx9_311 hf => ?_)
  refine lv_iinc (v := x9_311) (lv' := [(9, .int x9_311), (5, .int s0), (0, .ref (adC G 0 0)), (1, .int x1), (2, .int x2), (3, .int x3), (4, .int x4), (6, .int x6)]) hx hb dL_lines_311 hl (k := 7) rfl (by rw [hx9_311]; rfl) (by decide) rfl (fun ls hl => ?_)
  refine lv_goto (tgt := 237) hx hb dL_lines_314 (by decide) ?_
  exact hL237 _ _ _ _ _ _ _ _ _ _ _ hf hP hS (lv_sub hl [2, 3, 4, 5, 6, 1, 7, 0] rfl)
set_option maxHeartbeats 4000000 in
set_option maxRecDepth 100000 in
theorem w_L_lines_b308 {p : Program} {l : Launch} {e : Env} {s : State} {m : MethodId} {args : Array Value} {below : List Frame} {meth : Method} {c : Code} {G : GG} {sz : Nat} {ns : Nat} {r : Int32} {M' : Mem} (E : Cx p s m args meth c cL_lines (some .boolean) 11 RL G) {L237 : Int32 → Int32 → Int32 → Int32 → Int32 → Int32 → Int32 → Mem → Option (Int32 × Mem)} (hL237 : ∀ (x1 : Int32) (x2 : Int32) (x3 : Int32) (x4 : Int32) (x5 : Int32) (x6 : Int32) (x9 : Int32) (M : Mem) (H : Heap) (locs : List Loc) (ls : Array Slot), L237 x1 x2 x3 x4 x5 x6 x9 M = some (r, M') → PW G (AC G) (XC G ns) sz M s H → va_S (AC G) s.heap H locs → lv_has ls 11 [(0, .ref (adC G 0 0)), (1, .int x1), (2, .int x2), (3, .int x3), (4, .int x4), (5, .int x5), (6, .int x6), (9, .int x9)] → W p l e rm_L_lines s m args below meth c H locs 0 0 (MQ below (va_Qi (fun (r2 : Int32) (_ : Unit) => r2 = r) (fun _ t => PW G (AC G) (XC G ns) sz M' t t.heap) (AC G)) args s 0 0 (AC G)) (F0 m 237 ls [])) {x1 : Int32} {x2 : Int32} {x3 : Int32} {x4 : Int32} {x6 : Int32} {x9 : Int32} {M : Mem} {H : Heap} {locs : List Loc} {ls : Array Slot} (hf : f_L_lines_b308 L237 x1 x2 x3 x4 x6 x9 M = some (r, M')) (hP : PW G (AC G) (XC G ns) sz M s H) (hS : va_S (AC G) s.heap H locs) (hl : lv_has ls 11 [(0, .ref (adC G 0 0)), (1, .int x1), (2, .int x2), (3, .int x3), (4, .int x4), (6, .int x6), (9, .int x9)]) : W p l e rm_L_lines s m args below meth c H locs 0 0 (MQ below (va_Qi (fun (r2 : Int32) (_ : Unit) => r2 = r) (fun _ t => PW G (AC G) (XC G ns) sz M' t t.heap) (AC G)) args s 0 0 (AC G)) (F0 m 308 ls []) := by
  obtain ⟨hx, hb, hr, hlocks, hml, hown, hts, hK⟩ := id E
  unfold f_L_lines_b308 at hf
  refine lv_iconst (v := 0) hx hb dL_lines_308 (by decide) ?_
  exact w_L_lines_b309 E hL237 hf hP hS (lv_sub hl [0, 1, 2, 3, 4, 5, 6] rfl)
set_option maxHeartbeats 4000000 in
set_option maxRecDepth 100000 in
theorem w_L_lines_b237 {p : Program} {l : Launch} {e : Env} {s : State} {m : MethodId} {args : Array Value} {below : List Frame} {meth : Method} {c : Code} {G : GG} {sz : Nat} {ns : Nat} {r : Int32} {M' : Mem} (E : Cx p s m args meth c cL_lines (some .boolean) 11 RL G) {L15 : Int32 → Int32 → Int32 → Int32 → Int32 → Int32 → Mem → Option (Int32 × Mem)} (hL15 : ∀ (x1 : Int32) (x2 : Int32) (x3 : Int32) (x4 : Int32) (x5 : Int32) (x6 : Int32) (M : Mem) (H : Heap) (locs : List Loc) (ls : Array Slot), L15 x1 x2 x3 x4 x5 x6 M = some (r, M') → PW G (AC G) (XC G ns) sz M s H → va_S (AC G) s.heap H locs → lv_has ls 11 [(0, .ref (adC G 0 0)), (1, .int x1), (2, .int x2), (3, .int x3), (4, .int x4), (5, .int x5), (6, .int x6)] → W p l e rm_L_lines s m args below meth c H locs 0 0 (MQ below (va_Qi (fun (r2 : Int32) (_ : Unit) => r2 = r) (fun _ t => PW G (AC G) (XC G ns) sz M' t t.heap) (AC G)) args s 0 0 (AC G)) (F0 m 15 ls [])) : ∀ fu : Nat, ∀ (x1 : Int32) (x2 : Int32) (x3 : Int32) (x4 : Int32) (x5 : Int32) (x6 : Int32) (x9 : Int32) (M : Mem) (H : Heap) (locs : List Loc) (ls : Array Slot), f_L_lines_b237 L15 fu x1 x2 x3 x4 x5 x6 x9 M = some (r, M') → PW G (AC G) (XC G ns) sz M s H → va_S (AC G) s.heap H locs → lv_has ls 11 [(0, .ref (adC G 0 0)), (1, .int x1), (2, .int x2), (3, .int x3), (4, .int x4), (5, .int x5), (6, .int x6), (9, .int x9)] → W p l e rm_L_lines s m args below meth c H locs 0 0 (MQ below (va_Qi (fun (r2 : Int32) (_ : Unit) => r2 = r) (fun _ t => PW G (AC G) (XC G ns) sz M' t t.heap) (AC G)) args s 0 0 (AC G)) (F0 m 237 ls []) := by
  obtain ⟨hx, hb, hr, hlocks, hml, hown, hts, hK⟩ := id E
  intro fu
  induction fu with
  | zero => intro x1 x2 x3 x4 x5 x6 x9 M H locs ls hf hP hS hl; cases hf
  | succ fu ih =>
    intro x1 x2 x3 x4 x5 x6 x9 M H locs ls hf hP hS hl
    rw [f_L_lines_b237.eq_2] at hf
    refine lv_iload hx hb dL_lines_237 (lv_at hl 7 rfl) ?_
    refine lv_iload hx hb dL_lines_239 (lv_at hl 6 rfl) ?_
    refine lv_icmp_ge (tgt := 317) hx hb dL_lines_241 (by decide) (fun hc => ?_) (fun hc => ?_)
    · have hf := if_t hf hc
      exact w_L_lines_b317 E hL15 hf hP hS (lv_sub hl [0, 1, 2, 3, 4, 5, 6] rfl)
    · have hf := if_f hf hc
      refine lv_iload hx hb dL_lines_244 (lv_at hl 5 rfl) ?_
      refine lv_if_eq (tgt := 317) hx hb dL_lines_246 (by decide) (fun hc => ?_) (fun hc => ?_)
      · have hf := if_t hf hc
        exact w_L_lines_b317 E hL15 hf hP hS (lv_sub hl [0, 1, 2, 3, 4, 5, 6] rfl)
      · have hf := if_f hf hc
        refine lv_aload_n hx hb dL_lines_249 rfl (lv_at hl 0 rfl) ?_
        refine lv_iload hx hb dL_lines_250 (lv_at hl 6 rfl) ?_
        refine lv_iload hx hb dL_lines_252 (lv_at hl 7 rfl) ?_
        refine ob_e hf (fun r_254 M_254 hq hf => ?_)
        refine cv_X7_touch E hP hS hq w_529 ⟨Nat.le_of_ble_eq_true rfl, Nat.le_of_ble_eq_true rfl⟩ hl (Nat.le_of_ble_eq_true rfl) dL_lines_254 ⟨Nat.le_of_ble_eq_true rfl, Nat.le_of_ble_eq_true rfl⟩ (fun H locs hP hS => ?_)
        refine lv_istore (lv' := [(10, .int r_254), (0, .ref (adC G 0 0)), (1, .int x1), (2, .int x2), (3, .int x3), (4, .int x4), (5, .int x5), (6, .int x6), (9, .int x9)]) hx hb dL_lines_257 hl (by decide) rfl (fun ls hl => ?_)
        refine lv_aload_n hx hb dL_lines_259 rfl (lv_at hl 1 rfl) ?_
        refine lv_iload hx hb dL_lines_260 (lv_at hl 8 rfl) ?_
        refine lv_iload hx hb dL_lines_262 (lv_at hl 7 rfl) ?_
        refine ob_e hf (fun r_264 M_264 hq hf => ?_)
        refine cv_X7_touch E hP hS hq w_529 ⟨Nat.le_of_ble_eq_true rfl, Nat.le_of_ble_eq_true rfl⟩ hl (Nat.le_of_ble_eq_true rfl) dL_lines_264 ⟨Nat.le_of_ble_eq_true rfl, Nat.le_of_ble_eq_true rfl⟩ (fun H locs hP hS => ?_)
        refine lv_iload hx hb dL_lines_267 (lv_at hl 0 rfl) ?_
        refine lv_icmp_ne (tgt := 308) hx hb dL_lines_269 (by decide) (fun hc => ?_) (fun hc => ?_)
        · have hf := if_f hf hc
          exact w_L_lines_b308 E ih hf hP hS (lv_sub hl [1, 2, 3, 4, 5, 7, 8] rfl)
        · have hf := if_t hf hc
          refine lv_aload_n hx hb dL_lines_272 rfl (lv_at hl 1 rfl) ?_
          refine lv_iload hx hb dL_lines_273 (lv_at hl 7 rfl) ?_
          refine ob_e hf (fun r_275 M_275 hq hf => ?_)
          refine cv_X7_touching E hP hS hq w_537 ⟨Nat.le_of_ble_eq_true rfl, Nat.le_of_ble_eq_true rfl⟩ hl (Nat.le_of_ble_eq_true rfl) dL_lines_275 ⟨Nat.le_of_ble_eq_true rfl, Nat.le_of_ble_eq_true rfl⟩ (fun H locs hP hS => ?_)
          refine lv_iload hx hb dL_lines_278 (lv_at hl 8 rfl) ?_
          refine lv_ishr hx hb dL_lines_280 ?_
          refine lv_iconst (v := 1) hx hb dL_lines_281 (by decide) ?_
          refine lv_iand hx hb dL_lines_282 ?_
          refine lv_iload hx hb dL_lines_283 (lv_at hl 0 rfl) ?_
          refine lv_icmp_ne (tgt := 308) hx hb dL_lines_285 (by decide) (fun hc => ?_) (fun hc => ?_)
          · have hf := if_f hf hc
            exact w_L_lines_b308 E ih hf hP hS (lv_sub hl [1, 2, 3, 4, 5, 7, 8] rfl)
          · have hf := if_t hf hc
            refine lv_aload_n hx hb dL_lines_288 rfl (lv_at hl 1 rfl) ?_
            refine lv_iload hx hb dL_lines_289 (lv_at hl 8 rfl) ?_
            refine ob_e hf (fun r_291 M_291 hq hf => ?_)
            refine cv_X7_touching E hP hS hq w_537 ⟨Nat.le_of_ble_eq_true rfl, Nat.le_of_ble_eq_true rfl⟩ hl (Nat.le_of_ble_eq_true rfl) dL_lines_291 ⟨Nat.le_of_ble_eq_true rfl, Nat.le_of_ble_eq_true rfl⟩ (fun H locs hP hS => ?_)
            refine lv_iload hx hb dL_lines_294 (lv_at hl 7 rfl) ?_
            refine lv_ishr hx hb dL_lines_296 ?_
            refine lv_iconst (v := 1) hx hb dL_lines_297 (by decide) ?_
            refine lv_iand hx hb dL_lines_298 ?_
            refine lv_iload hx hb dL_lines_299 (lv_at hl 0 rfl) ?_
            refine lv_icmp_ne (tgt := 308) hx hb dL_lines_301 (by decide) (fun hc => ?_) (fun hc => ?_)
            · have hf := if_f hf hc
              exact w_L_lines_b308 E ih hf hP hS (lv_sub hl [1, 2, 3, 4, 5, 7, 8] rfl)
            · have hf := if_t hf hc
              refine lv_iconst (v := 1) hx hb dL_lines_304 (by decide) ?_
              refine lv_goto (tgt := 309) hx hb dL_lines_305 (by decide) ?_
              exact w_L_lines_b309 E ih hf hP hS (lv_sub hl [1, 2, 3, 4, 5, 7, 8] rfl)
set_option maxHeartbeats 4000000 in
set_option maxRecDepth 100000 in
theorem w_L_lines_b232 {p : Program} {l : Launch} {e : Env} {s : State} {m : MethodId} {args : Array Value} {below : List Frame} {meth : Method} {c : Code} {G : GG} {sz : Nat} {ns : Nat} {r : Int32} {M' : Mem} (E : Cx p s m args meth c cL_lines (some .boolean) 11 RL G) {L15 : Int32 → Int32 → Int32 → Int32 → Int32 → Int32 → Mem → Option (Int32 × Mem)} (hL15 : ∀ (x1 : Int32) (x2 : Int32) (x3 : Int32) (x4 : Int32) (x5 : Int32) (x6 : Int32) (M : Mem) (H : Heap) (locs : List Loc) (ls : Array Slot), L15 x1 x2 x3 x4 x5 x6 M = some (r, M') → PW G (AC G) (XC G ns) sz M s H → va_S (AC G) s.heap H locs → lv_has ls 11 [(0, .ref (adC G 0 0)), (1, .int x1), (2, .int x2), (3, .int x3), (4, .int x4), (5, .int x5), (6, .int x6)] → W p l e rm_L_lines s m args below meth c H locs 0 0 (MQ below (va_Qi (fun (r2 : Int32) (_ : Unit) => r2 = r) (fun _ t => PW G (AC G) (XC G ns) sz M' t t.heap) (AC G)) args s 0 0 (AC G)) (F0 m 15 ls [])) {x1 : Int32} {x2 : Int32} {x3 : Int32} {x4 : Int32} {x6 : Int32} {s0 : Int32} {M : Mem} {H : Heap} {locs : List Loc} {ls : Array Slot} (hf : f_L_lines_b232 L15 x1 x2 x3 x4 x6 s0 M = some (r, M')) (hP : PW G (AC G) (XC G ns) sz M s H) (hS : va_S (AC G) s.heap H locs) (hl : lv_has ls 11 [(0, .ref (adC G 0 0)), (1, .int x1), (2, .int x2), (3, .int x3), (4, .int x4), (6, .int x6)]) : W p l e rm_L_lines s m args below meth c H locs 0 0 (MQ below (va_Qi (fun (r2 : Int32) (_ : Unit) => r2 = r) (fun _ t => PW G (AC G) (XC G ns) sz M' t t.heap) (AC G)) args s 0 0 (AC G)) (F0 m 232 ls [.int s0]) := by
  obtain ⟨hx, hb, hr, hlocks, hml, hown, hts, hK⟩ := id E
  unfold f_L_lines_b232 at hf
  refine lv_istore (lv' := [(5, .int s0), (0, .ref (adC G 0 0)), (1, .int x1), (2, .int x2), (3, .int x3), (4, .int x4), (6, .int x6)]) hx hb dL_lines_232 hl (by decide) rfl (fun ls hl => ?_)
  refine lv_iconst (v := 0) hx hb dL_lines_234 (by decide) ?_
  refine lv_istore (lv' := [(9, .int 0), (5, .int s0), (0, .ref (adC G 0 0)), (1, .int x1), (2, .int x2), (3, .int x3), (4, .int x4), (6, .int x6)]) hx hb dL_lines_235 hl (by decide) rfl (fun ls hl => ?_)
  exact w_L_lines_b237 E hL15 1000 _ _ _ _ _ _ _ _ _ _ _ hf hP hS (lv_sub hl [2, 3, 4, 5, 6, 1, 7, 0] rfl)
set_option maxHeartbeats 4000000 in
set_option maxRecDepth 100000 in
theorem w_L_lines_b231 {p : Program} {l : Launch} {e : Env} {s : State} {m : MethodId} {args : Array Value} {below : List Frame} {meth : Method} {c : Code} {G : GG} {sz : Nat} {ns : Nat} {r : Int32} {M' : Mem} (E : Cx p s m args meth c cL_lines (some .boolean) 11 RL G) {L15 : Int32 → Int32 → Int32 → Int32 → Int32 → Int32 → Mem → Option (Int32 × Mem)} (hL15 : ∀ (x1 : Int32) (x2 : Int32) (x3 : Int32) (x4 : Int32) (x5 : Int32) (x6 : Int32) (M : Mem) (H : Heap) (locs : List Loc) (ls : Array Slot), L15 x1 x2 x3 x4 x5 x6 M = some (r, M') → PW G (AC G) (XC G ns) sz M s H → va_S (AC G) s.heap H locs → lv_has ls 11 [(0, .ref (adC G 0 0)), (1, .int x1), (2, .int x2), (3, .int x3), (4, .int x4), (5, .int x5), (6, .int x6)] → W p l e rm_L_lines s m args below meth c H locs 0 0 (MQ below (va_Qi (fun (r2 : Int32) (_ : Unit) => r2 = r) (fun _ t => PW G (AC G) (XC G ns) sz M' t t.heap) (AC G)) args s 0 0 (AC G)) (F0 m 15 ls [])) {x1 : Int32} {x2 : Int32} {x3 : Int32} {x4 : Int32} {x6 : Int32} {M : Mem} {H : Heap} {locs : List Loc} {ls : Array Slot} (hf : f_L_lines_b231 L15 x1 x2 x3 x4 x6 M = some (r, M')) (hP : PW G (AC G) (XC G ns) sz M s H) (hS : va_S (AC G) s.heap H locs) (hl : lv_has ls 11 [(0, .ref (adC G 0 0)), (1, .int x1), (2, .int x2), (3, .int x3), (4, .int x4), (6, .int x6)]) : W p l e rm_L_lines s m args below meth c H locs 0 0 (MQ below (va_Qi (fun (r2 : Int32) (_ : Unit) => r2 = r) (fun _ t => PW G (AC G) (XC G ns) sz M' t t.heap) (AC G)) args s 0 0 (AC G)) (F0 m 231 ls []) := by
  obtain ⟨hx, hb, hr, hlocks, hml, hown, hts, hK⟩ := id E
  unfold f_L_lines_b231 at hf
  refine lv_iconst (v := 0) hx hb dL_lines_231 (by decide) ?_
  exact w_L_lines_b232 E hL15 hf hP hS (lv_sub hl [0, 1, 2, 3, 4, 5] rfl)
set_option maxHeartbeats 4000000 in
set_option maxRecDepth 100000 in
theorem w_L_lines_b215 {p : Program} {l : Launch} {e : Env} {s : State} {m : MethodId} {args : Array Value} {below : List Frame} {meth : Method} {c : Code} {G : GG} {sz : Nat} {ns : Nat} {r : Int32} {M' : Mem} (E : Cx p s m args meth c cL_lines (some .boolean) 11 RL G) {L15 : Int32 → Int32 → Int32 → Int32 → Int32 → Int32 → Mem → Option (Int32 × Mem)} (hL15 : ∀ (x1 : Int32) (x2 : Int32) (x3 : Int32) (x4 : Int32) (x5 : Int32) (x6 : Int32) (M : Mem) (H : Heap) (locs : List Loc) (ls : Array Slot), L15 x1 x2 x3 x4 x5 x6 M = some (r, M') → PW G (AC G) (XC G ns) sz M s H → va_S (AC G) s.heap H locs → lv_has ls 11 [(0, .ref (adC G 0 0)), (1, .int x1), (2, .int x2), (3, .int x3), (4, .int x4), (5, .int x5), (6, .int x6)] → W p l e rm_L_lines s m args below meth c H locs 0 0 (MQ below (va_Qi (fun (r2 : Int32) (_ : Unit) => r2 = r) (fun _ t => PW G (AC G) (XC G ns) sz M' t t.heap) (AC G)) args s 0 0 (AC G)) (F0 m 15 ls [])) {x1 : Int32} {x2 : Int32} {x3 : Int32} {x4 : Int32} {x6 : Int32} {M : Mem} {H : Heap} {locs : List Loc} {ls : Array Slot} (hf : f_L_lines_b215 L15 x1 x2 x3 x4 x6 M = some (r, M')) (hP : PW G (AC G) (XC G ns) sz M s H) (hS : va_S (AC G) s.heap H locs) (hl : lv_has ls 11 [(0, .ref (adC G 0 0)), (1, .int x1), (2, .int x2), (3, .int x3), (4, .int x4), (6, .int x6)]) : W p l e rm_L_lines s m args below meth c H locs 0 0 (MQ below (va_Qi (fun (r2 : Int32) (_ : Unit) => r2 = r) (fun _ t => PW G (AC G) (XC G ns) sz M' t t.heap) (AC G)) args s 0 0 (AC G)) (F0 m 215 ls []) := by
  obtain ⟨hx, hb, hr, hlocks, hml, hown, hts, hK⟩ := id E
  unfold f_L_lines_b215 at hf
  refine lv_aload_n hx hb dL_lines_215 rfl (lv_at hl 0 rfl) ?_
  refine lv_iload hx hb dL_lines_216 (lv_at hl 5 rfl) ?_
  refine lv_iload hx hb dL_lines_218 (lv_at hl 5 rfl) ?_
  refine ob_e hf (fun r_220 M_220 hq hf => ?_)
  refine cv_X7_touch E hP hS hq w_529 ⟨Nat.le_of_ble_eq_true rfl, Nat.le_of_ble_eq_true rfl⟩ hl (Nat.le_of_ble_eq_true rfl) dL_lines_220 ⟨Nat.le_of_ble_eq_true rfl, Nat.le_of_ble_eq_true rfl⟩ (fun H locs hP hS => ?_)
  refine lv_iconst (v := 1) hx hb dL_lines_223 (by decide) ?_
  refine lv_icmp_ne (tgt := 231) hx hb dL_lines_224 (by decide) (fun hc => ?_) (fun hc => ?_)
  · have hf := if_f hf hc
    exact w_L_lines_b231 E hL15 hf hP hS (lv_sub hl [0, 1, 2, 3, 4, 5] rfl)
  · have hf := if_t hf hc
    refine lv_iconst (v := 1) hx hb dL_lines_227 (by decide) ?_
    refine lv_goto (tgt := 232) hx hb dL_lines_228 (by decide) ?_
    exact w_L_lines_b232 E hL15 hf hP hS (lv_sub hl [0, 1, 2, 3, 4, 5] rfl)
set_option maxHeartbeats 4000000 in
set_option maxRecDepth 100000 in
theorem w_L_lines_b170 {p : Program} {l : Launch} {e : Env} {s : State} {m : MethodId} {args : Array Value} {below : List Frame} {meth : Method} {c : Code} {G : GG} {sz : Nat} {ns : Nat} {r : Int32} {M' : Mem} (E : Cx p s m args meth c cL_lines (some .boolean) 11 RL G) {L15 : Int32 → Int32 → Int32 → Int32 → Int32 → Int32 → Mem → Option (Int32 × Mem)} (hL15 : ∀ (x1 : Int32) (x2 : Int32) (x3 : Int32) (x4 : Int32) (x5 : Int32) (x6 : Int32) (M : Mem) (H : Heap) (locs : List Loc) (ls : Array Slot), L15 x1 x2 x3 x4 x5 x6 M = some (r, M') → PW G (AC G) (XC G ns) sz M s H → va_S (AC G) s.heap H locs → lv_has ls 11 [(0, .ref (adC G 0 0)), (1, .int x1), (2, .int x2), (3, .int x3), (4, .int x4), (5, .int x5), (6, .int x6)] → W p l e rm_L_lines s m args below meth c H locs 0 0 (MQ below (va_Qi (fun (r2 : Int32) (_ : Unit) => r2 = r) (fun _ t => PW G (AC G) (XC G ns) sz M' t t.heap) (AC G)) args s 0 0 (AC G)) (F0 m 15 ls [])) {x1 : Int32} {x2 : Int32} {x3 : Int32} {x4 : Int32} {x6 : Int32} {x8 : Int32} {M : Mem} {H : Heap} {locs : List Loc} {ls : Array Slot} (hf : f_L_lines_b170 L15 x1 x2 x3 x4 x6 x8 M = some (r, M')) (hP : PW G (AC G) (XC G ns) sz M s H) (hS : va_S (AC G) s.heap H locs) (hl : lv_has ls 11 [(0, .ref (adC G 0 0)), (1, .int x1), (2, .int x2), (3, .int x3), (4, .int x4), (6, .int x6), (8, .int x8)]) : W p l e rm_L_lines s m args below meth c H locs 0 0 (MQ below (va_Qi (fun (r2 : Int32) (_ : Unit) => r2 = r) (fun _ t => PW G (AC G) (XC G ns) sz M' t t.heap) (AC G)) args s 0 0 (AC G)) (F0 m 170 ls []) := by
  obtain ⟨hx, hb, hr, hlocks, hml, hown, hts, hK⟩ := id E
  unfold f_L_lines_b170 at hf
  refine lv_iload hx hb dL_lines_170 (lv_at hl 6 rfl) ?_
  refine lv_if_eq (tgt := 215) hx hb dL_lines_172 (by decide) (fun hc => ?_) (fun hc => ?_)
  · have hf := if_t hf hc
    exact w_L_lines_b215 E hL15 hf hP hS (lv_sub hl [0, 1, 2, 3, 4, 5] rfl)
  · have hf := if_f hf hc
    refine lv_aload_n hx hb dL_lines_175 rfl (lv_at hl 0 rfl) ?_
    refine lv_iload hx hb dL_lines_176 (lv_at hl 5 rfl) ?_
    refine lv_bipush (v := 7) hx hb dL_lines_178 (by decide) ?_
    refine ob_e hf (fun r_180 M_180 hq hf => ?_)
    refine cv_X7_lineOf E hP hS hq w_509 ⟨Nat.le_of_ble_eq_true rfl, Nat.le_of_ble_eq_true rfl⟩ hl (Nat.le_of_ble_eq_true rfl) dL_lines_180 ⟨Nat.le_of_ble_eq_true rfl, Nat.le_of_ble_eq_true rfl⟩ (fun H locs hP hS => ?_)
    refine lv_aload_n hx hb dL_lines_183 rfl (lv_at hl 0 rfl) ?_
    refine lv_iconst (v := 4) hx hb dL_lines_184 (by decide) ?_
    refine ob_e hf (fun r_185 M_185 hq hf => ?_)
    refine cv_X7_count E hP hS hq w_414 ⟨Nat.le_of_ble_eq_true rfl, Nat.le_of_ble_eq_true rfl⟩ hl (Nat.le_of_ble_eq_true rfl) dL_lines_185 ⟨Nat.le_of_ble_eq_true rfl, Nat.le_of_ble_eq_true rfl⟩ (fun H locs hP hS => ?_)
    refine lv_icmp_gt (tgt := 231) hx hb dL_lines_188 (by decide) (fun hc => ?_) (fun hc => ?_)
    · have hf := if_t hf hc
      exact w_L_lines_b231 E hL15 hf hP hS (lv_sub hl [0, 1, 2, 3, 4, 5] rfl)
    · have hf := if_f hf hc
      refine lv_aload_n hx hb dL_lines_191 rfl (lv_at hl 0 rfl) ?_
      refine lv_iload hx hb dL_lines_192 (lv_at hl 5 rfl) ?_
      refine lv_bipush (v := 9) hx hb dL_lines_194 (by decide) ?_
      refine ob_e hf (fun r_196 M_196 hq hf => ?_)
      refine cv_X7_lineOf E hP hS hq w_509 ⟨Nat.le_of_ble_eq_true rfl, Nat.le_of_ble_eq_true rfl⟩ hl (Nat.le_of_ble_eq_true rfl) dL_lines_196 ⟨Nat.le_of_ble_eq_true rfl, Nat.le_of_ble_eq_true rfl⟩ (fun H locs hP hS => ?_)
      refine lv_if_lt (tgt := 231) hx hb dL_lines_199 (by decide) (fun hc => ?_) (fun hc => ?_)
      · have hf := if_t hf hc
        exact w_L_lines_b231 E hL15 hf hP hS (lv_sub hl [0, 1, 2, 3, 4, 5] rfl)
      · have hf := if_f hf hc
        refine lv_aload_n hx hb dL_lines_202 rfl (lv_at hl 0 rfl) ?_
        refine lv_iload hx hb dL_lines_203 (lv_at hl 5 rfl) ?_
        refine lv_bipush (v := 9) hx hb dL_lines_205 (by decide) ?_
        refine ob_e hf (fun r_207 M_207 hq hf => ?_)
        refine cv_X7_lineOf E hP hS hq w_509 ⟨Nat.le_of_ble_eq_true rfl, Nat.le_of_ble_eq_true rfl⟩ hl (Nat.le_of_ble_eq_true rfl) dL_lines_207 ⟨Nat.le_of_ble_eq_true rfl, Nat.le_of_ble_eq_true rfl⟩ (fun H locs hP hS => ?_)
        refine lv_ldc (v := 1065353216) hx hb hown (hts _ w_528) dL_lines_210 ?_
        refine lv_icmp_gt (tgt := 231) hx hb dL_lines_212 (by decide) (fun hc => ?_) (fun hc => ?_)
        · have hf := if_t hf hc
          exact w_L_lines_b231 E hL15 hf hP hS (lv_sub hl [0, 1, 2, 3, 4, 5] rfl)
        · have hf := if_f hf hc
          exact w_L_lines_b215 E hL15 hf hP hS (lv_sub hl [0, 1, 2, 3, 4, 5] rfl)
set_option maxHeartbeats 4000000 in
set_option maxRecDepth 100000 in
theorem w_L_lines_b136 {p : Program} {l : Launch} {e : Env} {s : State} {m : MethodId} {args : Array Value} {below : List Frame} {meth : Method} {c : Code} {G : GG} {sz : Nat} {ns : Nat} {r : Int32} {M' : Mem} (E : Cx p s m args meth c cL_lines (some .boolean) 11 RL G) {L15 : Int32 → Int32 → Int32 → Int32 → Int32 → Int32 → Mem → Option (Int32 × Mem)} (hL15 : ∀ (x1 : Int32) (x2 : Int32) (x3 : Int32) (x4 : Int32) (x5 : Int32) (x6 : Int32) (M : Mem) (H : Heap) (locs : List Loc) (ls : Array Slot), L15 x1 x2 x3 x4 x5 x6 M = some (r, M') → PW G (AC G) (XC G ns) sz M s H → va_S (AC G) s.heap H locs → lv_has ls 11 [(0, .ref (adC G 0 0)), (1, .int x1), (2, .int x2), (3, .int x3), (4, .int x4), (5, .int x5), (6, .int x6)] → W p l e rm_L_lines s m args below meth c H locs 0 0 (MQ below (va_Qi (fun (r2 : Int32) (_ : Unit) => r2 = r) (fun _ t => PW G (AC G) (XC G ns) sz M' t t.heap) (AC G)) args s 0 0 (AC G)) (F0 m 15 ls [])) {x1 : Int32} {x2 : Int32} {x3 : Int32} {x4 : Int32} {x6 : Int32} {x8 : Int32} {s0 : Int32} {M : Mem} {H : Heap} {locs : List Loc} {ls : Array Slot} (hf : f_L_lines_b136 L15 x1 x2 x3 x4 x6 x8 s0 M = some (r, M')) (hP : PW G (AC G) (XC G ns) sz M s H) (hS : va_S (AC G) s.heap H locs) (hl : lv_has ls 11 [(0, .ref (adC G 0 0)), (1, .int x1), (2, .int x2), (3, .int x3), (4, .int x4), (6, .int x6), (8, .int x8)]) : W p l e rm_L_lines s m args below meth c H locs 0 0 (MQ below (va_Qi (fun (r2 : Int32) (_ : Unit) => r2 = r) (fun _ t => PW G (AC G) (XC G ns) sz M' t t.heap) (AC G)) args s 0 0 (AC G)) (F0 m 136 ls [.int s0]) := by
  obtain ⟨hx, hb, hr, hlocks, hml, hown, hts, hK⟩ := id E
  unfold f_L_lines_b136 at hf
  refine lv_iload hx hb dL_lines_136 (lv_at hl 6 rfl) ?_
  refine lv_icmp_ne (tgt := 231) hx hb dL_lines_138 (by decide) (fun hc => ?_) (fun hc => ?_)
  · have hf := if_f hf hc
    exact w_L_lines_b231 E hL15 hf hP hS (lv_sub hl [0, 1, 2, 3, 4, 5] rfl)
  · have hf := if_t hf hc
    refine lv_iload hx hb dL_lines_141 (lv_at hl 6 rfl) ?_
    refine lv_if_ne (tgt := 170) hx hb dL_lines_143 (by decide) (fun hc => ?_) (fun hc => ?_)
    · have hf := if_f hf hc
      exact w_L_lines_b170 E hL15 hf hP hS (lv_sub hl [0, 1, 2, 3, 4, 5, 6] rfl)
    · have hf := if_t hf hc
      refine lv_aload_n hx hb dL_lines_146 rfl (lv_at hl 0 rfl) ?_
      refine lv_iload hx hb dL_lines_147 (lv_at hl 5 rfl) ?_
      refine lv_bipush (v := 8) hx hb dL_lines_149 (by decide) ?_
      refine ob_e hf (fun r_151 M_151 hq hf => ?_)
      refine cv_X7_lineOf E hP hS hq w_509 ⟨Nat.le_of_ble_eq_true rfl, Nat.le_of_ble_eq_true rfl⟩ hl (Nat.le_of_ble_eq_true rfl) dL_lines_151 ⟨Nat.le_of_ble_eq_true rfl, Nat.le_of_ble_eq_true rfl⟩ (fun H locs hP hS => ?_)
      refine lv_if_ne (tgt := 231) hx hb dL_lines_154 (by decide) (fun hc => ?_) (fun hc => ?_)
      · have hf := if_f hf hc
        exact w_L_lines_b231 E hL15 hf hP hS (lv_sub hl [0, 1, 2, 3, 4, 5] rfl)
      · have hf := if_t hf hc
        refine lv_aload_n hx hb dL_lines_157 rfl (lv_at hl 0 rfl) ?_
        refine lv_iload hx hb dL_lines_158 (lv_at hl 5 rfl) ?_
        refine lv_bipush (v := 9) hx hb dL_lines_160 (by decide) ?_
        refine ob_e hf (fun r_162 M_162 hq hf => ?_)
        refine cv_X7_lineOf E hP hS hq w_509 ⟨Nat.le_of_ble_eq_true rfl, Nat.le_of_ble_eq_true rfl⟩ hl (Nat.le_of_ble_eq_true rfl) dL_lines_162 ⟨Nat.le_of_ble_eq_true rfl, Nat.le_of_ble_eq_true rfl⟩ (fun H locs hP hS => ?_)
        refine lv_ldc (v := (-1000004)) hx hb hown (hts _ w_489) dL_lines_165 ?_
        refine lv_icmp_ne (tgt := 231) hx hb dL_lines_167 (by decide) (fun hc => ?_) (fun hc => ?_)
        · have hf := if_f hf hc
          exact w_L_lines_b231 E hL15 hf hP hS (lv_sub hl [0, 1, 2, 3, 4, 5] rfl)
        · have hf := if_t hf hc
          exact w_L_lines_b170 E hL15 hf hP hS (lv_sub hl [0, 1, 2, 3, 4, 5, 6] rfl)
set_option maxHeartbeats 4000000 in
set_option maxRecDepth 100000 in
theorem w_L_lines_b114 {p : Program} {l : Launch} {e : Env} {s : State} {m : MethodId} {args : Array Value} {below : List Frame} {meth : Method} {c : Code} {G : GG} {sz : Nat} {ns : Nat} {r : Int32} {M' : Mem} (E : Cx p s m args meth c cL_lines (some .boolean) 11 RL G) {L15 : Int32 → Int32 → Int32 → Int32 → Int32 → Int32 → Mem → Option (Int32 × Mem)} (hL15 : ∀ (x1 : Int32) (x2 : Int32) (x3 : Int32) (x4 : Int32) (x5 : Int32) (x6 : Int32) (M : Mem) (H : Heap) (locs : List Loc) (ls : Array Slot), L15 x1 x2 x3 x4 x5 x6 M = some (r, M') → PW G (AC G) (XC G ns) sz M s H → va_S (AC G) s.heap H locs → lv_has ls 11 [(0, .ref (adC G 0 0)), (1, .int x1), (2, .int x2), (3, .int x3), (4, .int x4), (5, .int x5), (6, .int x6)] → W p l e rm_L_lines s m args below meth c H locs 0 0 (MQ below (va_Qi (fun (r2 : Int32) (_ : Unit) => r2 = r) (fun _ t => PW G (AC G) (XC G ns) sz M' t t.heap) (AC G)) args s 0 0 (AC G)) (F0 m 15 ls [])) {x1 : Int32} {x2 : Int32} {x4 : Int32} {x6 : Int32} {x7 : Int32} {x8 : Int32} {s0 : Int32} {s1 : Int32} {M : Mem} {H : Heap} {locs : List Loc} {ls : Array Slot} (hf : f_L_lines_b114 L15 x1 x2 x4 x6 x7 x8 s0 s1 M = some (r, M')) (hP : PW G (AC G) (XC G ns) sz M s H) (hS : va_S (AC G) s.heap H locs) (hl : lv_has ls 11 [(0, .ref (adC G 0 0)), (1, .int x1), (2, .int x2), (4, .int x4), (6, .int x6), (7, .int x7), (8, .int x8)]) : W p l e rm_L_lines s m args below meth c H locs 0 0 (MQ below (va_Qi (fun (r2 : Int32) (_ : Unit) => r2 = r) (fun _ t => PW G (AC G) (XC G ns) sz M' t t.heap) (AC G)) args s 0 0 (AC G)) (F0 m 114 ls [.int s1, .int s0]) := by
  obtain ⟨hx, hb, hr, hlocks, hml, hown, hts, hK⟩ := id E
  unfold f_L_lines_b114 at hf
  refine lv_iadd hx hb dL_lines_114 ?_
  refine lt_e hf (fun x3_115 hx3_115 hf => ?_)
  refine kr_nm hx3_115 ?_
  refine lv_istore_n (lv' := [(3, .int x3_115), (0, .ref (adC G 0 0)), (1, .int x1), (2, .int x2), (4, .int x4), (6, .int x6), (7, .int x7), (8, .int x8)]) hx hb dL_lines_115 rfl hl (by decide) rfl (fun ls hl => ?_)
  refine lv_aload_n hx hb dL_lines_116 rfl (lv_at hl 1 rfl) ?_
  refine lv_iload hx hb dL_lines_117 (lv_at hl 5 rfl) ?_
  refine lv_iconst (v := 4) hx hb dL_lines_119 (by decide) ?_
  refine ob_e hf (fun r_120 M_120 hq hf => ?_)
  refine cv_X7_lineOf E hP hS hq w_509 ⟨Nat.le_of_ble_eq_true rfl, Nat.le_of_ble_eq_true rfl⟩ hl (Nat.le_of_ble_eq_true rfl) dL_lines_120 ⟨Nat.le_of_ble_eq_true rfl, Nat.le_of_ble_eq_true rfl⟩ (fun H locs hP hS => ?_)
  refine lv_if_le (tgt := 231) hx hb dL_lines_123 (by decide) (fun hc => ?_) (fun hc => ?_)
  · have hf := if_t hf hc
    exact w_L_lines_b231 E hL15 hf hP hS (lv_sub hl [1, 2, 3, 0, 4, 5] rfl)
  · have hf := if_f hf hc
    refine lv_iload hx hb dL_lines_126 (lv_at hl 6 rfl) ?_
    refine lv_if_lt (tgt := 135) hx hb dL_lines_128 (by decide) (fun hc => ?_) (fun hc => ?_)
    · have hf := if_t hf hc
      refine lv_iconst (v := 0) hx hb dL_lines_135 (by decide) ?_
      exact w_L_lines_b136 E hL15 hf hP hS (lv_sub hl [1, 2, 3, 0, 4, 5, 7] rfl)
    · have hf := if_f hf hc
      refine lv_iconst (v := 1) hx hb dL_lines_131 (by decide) ?_
      refine lv_goto (tgt := 136) hx hb dL_lines_132 (by decide) ?_
      exact w_L_lines_b136 E hL15 hf hP hS (lv_sub hl [1, 2, 3, 0, 4, 5, 7] rfl)
set_option maxHeartbeats 4000000 in
set_option maxRecDepth 100000 in
theorem w_L_lines_b83 {p : Program} {l : Launch} {e : Env} {s : State} {m : MethodId} {args : Array Value} {below : List Frame} {meth : Method} {c : Code} {G : GG} {sz : Nat} {ns : Nat} {r : Int32} {M' : Mem} (E : Cx p s m args meth c cL_lines (some .boolean) 11 RL G) {L15 : Int32 → Int32 → Int32 → Int32 → Int32 → Int32 → Mem → Option (Int32 × Mem)} (hL15 : ∀ (x1 : Int32) (x2 : Int32) (x3 : Int32) (x4 : Int32) (x5 : Int32) (x6 : Int32) (M : Mem) (H : Heap) (locs : List Loc) (ls : Array Slot), L15 x1 x2 x3 x4 x5 x6 M = some (r, M') → PW G (AC G) (XC G ns) sz M s H → va_S (AC G) s.heap H locs → lv_has ls 11 [(0, .ref (adC G 0 0)), (1, .int x1), (2, .int x2), (3, .int x3), (4, .int x4), (5, .int x5), (6, .int x6)] → W p l e rm_L_lines s m args below meth c H locs 0 0 (MQ below (va_Qi (fun (r2 : Int32) (_ : Unit) => r2 = r) (fun _ t => PW G (AC G) (XC G ns) sz M' t t.heap) (AC G)) args s 0 0 (AC G)) (F0 m 15 ls [])) {x1 : Int32} {x2 : Int32} {x3 : Int32} {x6 : Int32} {x7 : Int32} {x8 : Int32} {s0 : Int32} {s1 : Int32} {M : Mem} {H : Heap} {locs : List Loc} {ls : Array Slot} (hf : f_L_lines_b83 L15 x1 x2 x3 x6 x7 x8 s0 s1 M = some (r, M')) (hP : PW G (AC G) (XC G ns) sz M s H) (hS : va_S (AC G) s.heap H locs) (hl : lv_has ls 11 [(0, .ref (adC G 0 0)), (1, .int x1), (2, .int x2), (3, .int x3), (6, .int x6), (7, .int x7), (8, .int x8)]) : W p l e rm_L_lines s m args below meth c H locs 0 0 (MQ below (va_Qi (fun (r2 : Int32) (_ : Unit) => r2 = r) (fun _ t => PW G (AC G) (XC G ns) sz M' t t.heap) (AC G)) args s 0 0 (AC G)) (F0 m 83 ls [.int s1, .int s0]) := by
  obtain ⟨hx, hb, hr, hlocks, hml, hown, hts, hK⟩ := id E
  unfold f_L_lines_b83 at hf
  refine lv_iadd hx hb dL_lines_83 ?_
  refine lt_e hf (fun x4_84 hx4_84 hf => ?_)
  refine kr_nm hx4_84 ?_
  refine lv_istore (lv' := [(4, .int x4_84), (0, .ref (adC G 0 0)), (1, .int x1), (2, .int x2), (3, .int x3), (6, .int x6), (7, .int x7), (8, .int x8)]) hx hb dL_lines_84 hl (by decide) rfl (fun ls hl => ?_)
  refine lv_iload_n hx hb dL_lines_86 rfl (lv_at hl 3 rfl) ?_
  refine lv_aload_n hx hb dL_lines_87 rfl (lv_at hl 1 rfl) ?_
  refine lv_iload hx hb dL_lines_88 (lv_at hl 5 rfl) ?_
  refine lv_bipush (v := 8) hx hb dL_lines_90 (by decide) ?_
  refine ob_e hf (fun r_92 M_92 hq hf => ?_)
  refine cv_X7_lineOf E hP hS hq w_509 ⟨Nat.le_of_ble_eq_true rfl, Nat.le_of_ble_eq_true rfl⟩ hl (Nat.le_of_ble_eq_true rfl) dL_lines_92 ⟨Nat.le_of_ble_eq_true rfl, Nat.le_of_ble_eq_true rfl⟩ (fun H locs hP hS => ?_)
  refine lv_iadd hx hb dL_lines_95 ?_
  refine lt_e hf (fun x2_96 hx2_96 hf => ?_)
  refine kr_nm hx2_96 ?_
  refine lv_istore_n (lv' := [(2, .int x2_96), (4, .int x4_84), (0, .ref (adC G 0 0)), (1, .int x1), (3, .int x3), (6, .int x6), (7, .int x7), (8, .int x8)]) hx hb dL_lines_96 rfl hl (by decide) rfl (fun ls hl => ?_)
  refine lv_iload_n hx hb dL_lines_97 rfl (lv_at hl 4 rfl) ?_
  refine lv_iload hx hb dL_lines_98 (lv_at hl 7 rfl) ?_
  refine lv_if_eq (tgt := 107) hx hb dL_lines_100 (by decide) (fun hc => ?_) (fun hc => ?_)
  · have hf := if_t hf hc
    refine lv_aload_n hx hb dL_lines_107 rfl (lv_at hl 2 rfl) ?_
    refine lv_iload hx hb dL_lines_108 (lv_at hl 5 rfl) ?_
    refine lv_iconst (v := 4) hx hb dL_lines_110 (by decide) ?_
    refine ob_e hf (fun r_111 M_111 hq hf => ?_)
    refine cv_X7_lineOf E hP hS hq w_509 ⟨Nat.le_of_ble_eq_true rfl, Nat.le_of_ble_eq_true rfl⟩ hl (Nat.le_of_ble_eq_true rfl) dL_lines_111 ⟨Nat.le_of_ble_eq_true rfl, Nat.le_of_ble_eq_true rfl⟩ (fun H locs hP hS => ?_)
    exact w_L_lines_b114 E hL15 hf hP hS (lv_sub hl [2, 3, 0, 1, 5, 6, 7] rfl)
  · have hf := if_f hf hc
    refine lv_iconst (v := 0) hx hb dL_lines_103 (by decide) ?_
    refine lv_goto (tgt := 114) hx hb dL_lines_104 (by decide) ?_
    exact w_L_lines_b114 E hL15 hf hP hS (lv_sub hl [2, 3, 0, 1, 5, 6, 7] rfl)
set_option maxHeartbeats 4000000 in
set_option maxRecDepth 100000 in
theorem w_L_lines_b69 {p : Program} {l : Launch} {e : Env} {s : State} {m : MethodId} {args : Array Value} {below : List Frame} {meth : Method} {c : Code} {G : GG} {sz : Nat} {ns : Nat} {r : Int32} {M' : Mem} (E : Cx p s m args meth c cL_lines (some .boolean) 11 RL G) {L15 : Int32 → Int32 → Int32 → Int32 → Int32 → Int32 → Mem → Option (Int32 × Mem)} (hL15 : ∀ (x1 : Int32) (x2 : Int32) (x3 : Int32) (x4 : Int32) (x5 : Int32) (x6 : Int32) (M : Mem) (H : Heap) (locs : List Loc) (ls : Array Slot), L15 x1 x2 x3 x4 x5 x6 M = some (r, M') → PW G (AC G) (XC G ns) sz M s H → va_S (AC G) s.heap H locs → lv_has ls 11 [(0, .ref (adC G 0 0)), (1, .int x1), (2, .int x2), (3, .int x3), (4, .int x4), (5, .int x5), (6, .int x6)] → W p l e rm_L_lines s m args below meth c H locs 0 0 (MQ below (va_Qi (fun (r2 : Int32) (_ : Unit) => r2 = r) (fun _ t => PW G (AC G) (XC G ns) sz M' t t.heap) (AC G)) args s 0 0 (AC G)) (F0 m 15 ls [])) {x2 : Int32} {x3 : Int32} {x4 : Int32} {x6 : Int32} {x7 : Int32} {x8 : Int32} {s0 : Int32} {s1 : Int32} {M : Mem} {H : Heap} {locs : List Loc} {ls : Array Slot} (hf : f_L_lines_b69 L15 x2 x3 x4 x6 x7 x8 s0 s1 M = some (r, M')) (hP : PW G (AC G) (XC G ns) sz M s H) (hS : va_S (AC G) s.heap H locs) (hl : lv_has ls 11 [(0, .ref (adC G 0 0)), (2, .int x2), (3, .int x3), (4, .int x4), (6, .int x6), (7, .int x7), (8, .int x8)]) : W p l e rm_L_lines s m args below meth c H locs 0 0 (MQ below (va_Qi (fun (r2 : Int32) (_ : Unit) => r2 = r) (fun _ t => PW G (AC G) (XC G ns) sz M' t t.heap) (AC G)) args s 0 0 (AC G)) (F0 m 69 ls [.int s1, .int s0]) := by
  obtain ⟨hx, hb, hr, hlocks, hml, hown, hts, hK⟩ := id E
  unfold f_L_lines_b69 at hf
  refine lv_iadd hx hb dL_lines_69 ?_
  refine lt_e hf (fun x1_70 hx1_70 hf => ?_)
  refine kr_nm hx1_70 ?_
  refine lv_istore_n (lv' := [(1, .int x1_70), (0, .ref (adC G 0 0)), (2, .int x2), (3, .int x3), (4, .int x4), (6, .int x6), (7, .int x7), (8, .int x8)]) hx hb dL_lines_70 rfl hl (by decide) rfl (fun ls hl => ?_)
  refine lv_iload hx hb dL_lines_71 (lv_at hl 4 rfl) ?_
  refine lv_iload hx hb dL_lines_73 (lv_at hl 7 rfl) ?_
  refine lv_if_eq (tgt := 82) hx hb dL_lines_75 (by decide) (fun hc => ?_) (fun hc => ?_)
  · have hf := if_t hf hc
    refine lv_iconst (v := 0) hx hb dL_lines_82 (by decide) ?_
    exact w_L_lines_b83 E hL15 hf hP hS (lv_sub hl [1, 0, 2, 3, 5, 6, 7] rfl)
  · have hf := if_f hf hc
    refine lv_iconst (v := 2) hx hb dL_lines_78 (by decide) ?_
    refine lv_goto (tgt := 83) hx hb dL_lines_79 (by decide) ?_
    exact w_L_lines_b83 E hL15 hf hP hS (lv_sub hl [1, 0, 2, 3, 5, 6, 7] rfl)
set_option maxHeartbeats 4000000 in
set_option maxRecDepth 100000 in
theorem w_L_lines_b56 {p : Program} {l : Launch} {e : Env} {s : State} {m : MethodId} {args : Array Value} {below : List Frame} {meth : Method} {c : Code} {G : GG} {sz : Nat} {ns : Nat} {r : Int32} {M' : Mem} (E : Cx p s m args meth c cL_lines (some .boolean) 11 RL G) {L15 : Int32 → Int32 → Int32 → Int32 → Int32 → Int32 → Mem → Option (Int32 × Mem)} (hL15 : ∀ (x1 : Int32) (x2 : Int32) (x3 : Int32) (x4 : Int32) (x5 : Int32) (x6 : Int32) (M : Mem) (H : Heap) (locs : List Loc) (ls : Array Slot), L15 x1 x2 x3 x4 x5 x6 M = some (r, M') → PW G (AC G) (XC G ns) sz M s H → va_S (AC G) s.heap H locs → lv_has ls 11 [(0, .ref (adC G 0 0)), (1, .int x1), (2, .int x2), (3, .int x3), (4, .int x4), (5, .int x5), (6, .int x6)] → W p l e rm_L_lines s m args below meth c H locs 0 0 (MQ below (va_Qi (fun (r2 : Int32) (_ : Unit) => r2 = r) (fun _ t => PW G (AC G) (XC G ns) sz M' t t.heap) (AC G)) args s 0 0 (AC G)) (F0 m 15 ls [])) {x1 : Int32} {x2 : Int32} {x3 : Int32} {x4 : Int32} {x6 : Int32} {x7 : Int32} {s0 : Int32} {M : Mem} {H : Heap} {locs : List Loc} {ls : Array Slot} (hf : f_L_lines_b56 L15 x1 x2 x3 x4 x6 x7 s0 M = some (r, M')) (hP : PW G (AC G) (XC G ns) sz M s H) (hS : va_S (AC G) s.heap H locs) (hl : lv_has ls 11 [(0, .ref (adC G 0 0)), (1, .int x1), (2, .int x2), (3, .int x3), (4, .int x4), (6, .int x6), (7, .int x7)]) : W p l e rm_L_lines s m args below meth c H locs 0 0 (MQ below (va_Qi (fun (r2 : Int32) (_ : Unit) => r2 = r) (fun _ t => PW G (AC G) (XC G ns) sz M' t t.heap) (AC G)) args s 0 0 (AC G)) (F0 m 56 ls [.int s0]) := by
  obtain ⟨hx, hb, hr, hlocks, hml, hown, hts, hK⟩ := id E
  unfold f_L_lines_b56 at hf
  refine lv_istore (lv' := [(8, .int s0), (0, .ref (adC G 0 0)), (1, .int x1), (2, .int x2), (3, .int x3), (4, .int x4), (6, .int x6), (7, .int x7)]) hx hb dL_lines_56 hl (by decide) rfl (fun ls hl => ?_)
  refine lv_iload_n hx hb dL_lines_58 rfl (lv_at hl 2 rfl) ?_
  refine lv_iload hx hb dL_lines_59 (lv_at hl 0 rfl) ?_
  refine lv_if_eq (tgt := 68) hx hb dL_lines_61 (by decide) (fun hc => ?_) (fun hc => ?_)
  · have hf := if_t hf hc
    refine lv_iconst (v := 0) hx hb dL_lines_68 (by decide) ?_
    exact w_L_lines_b69 E hL15 hf hP hS (lv_sub hl [1, 3, 4, 5, 6, 7, 0] rfl)
  · have hf := if_f hf hc
    refine lv_iconst (v := 1) hx hb dL_lines_64 (by decide) ?_
    refine lv_goto (tgt := 69) hx hb dL_lines_65 (by decide) ?_
    exact w_L_lines_b69 E hL15 hf hP hS (lv_sub hl [1, 3, 4, 5, 6, 7, 0] rfl)
set_option maxHeartbeats 4000000 in
set_option maxRecDepth 100000 in
theorem w_L_lines_b15 {p : Program} {l : Launch} {e : Env} {s : State} {m : MethodId} {args : Array Value} {below : List Frame} {meth : Method} {c : Code} {G : GG} {sz : Nat} {ns : Nat} {r : Int32} {M' : Mem} (E : Cx p s m args meth c cL_lines (some .boolean) 11 RL G) : ∀ fu : Nat, ∀ (x1 : Int32) (x2 : Int32) (x3 : Int32) (x4 : Int32) (x5 : Int32) (x6 : Int32) (M : Mem) (H : Heap) (locs : List Loc) (ls : Array Slot), f_L_lines_b15 fu x1 x2 x3 x4 x5 x6 M = some (r, M') → PW G (AC G) (XC G ns) sz M s H → va_S (AC G) s.heap H locs → lv_has ls 11 [(0, .ref (adC G 0 0)), (1, .int x1), (2, .int x2), (3, .int x3), (4, .int x4), (5, .int x5), (6, .int x6)] → W p l e rm_L_lines s m args below meth c H locs 0 0 (MQ below (va_Qi (fun (r2 : Int32) (_ : Unit) => r2 = r) (fun _ t => PW G (AC G) (XC G ns) sz M' t t.heap) (AC G)) args s 0 0 (AC G)) (F0 m 15 ls []) := by
  obtain ⟨hx, hb, hr, hlocks, hml, hown, hts, hK⟩ := id E
  intro fu
  induction fu with
  | zero => intro x1 x2 x3 x4 x5 x6 M H locs ls hf hP hS hl; cases hf
  | succ fu ih =>
    intro x1 x2 x3 x4 x5 x6 M H locs ls hf hP hS hl
    rw [f_L_lines_b15.eq_2] at hf
    refine lv_iload hx hb dL_lines_15 (lv_at hl 6 rfl) ?_
    refine lv_aload_n hx hb dL_lines_17 rfl (lv_at hl 0 rfl) ?_
    refine lv_iconst (v := 1) hx hb dL_lines_18 (by decide) ?_
    refine ob_e hf (fun r_19 M_19 hq hf => ?_)
    refine cv_X7_count E hP hS hq w_414 ⟨Nat.le_of_ble_eq_true rfl, Nat.le_of_ble_eq_true rfl⟩ hl (Nat.le_of_ble_eq_true rfl) dL_lines_19 ⟨Nat.le_of_ble_eq_true rfl, Nat.le_of_ble_eq_true rfl⟩ (fun H locs hP hS => ?_)
    refine lv_icmp_ge (tgt := 349) hx hb dL_lines_22 (by decide) (fun hc => ?_) (fun hc => ?_)
    · have hf := if_t hf hc
      exact w_L_lines_b349 E hf hP hS (lv_sub hl [0, 1, 2, 3, 4, 5] rfl)
    · have hf := if_f hf hc
      refine lv_iload hx hb dL_lines_25 (lv_at hl 5 rfl) ?_
      refine lv_if_eq (tgt := 349) hx hb dL_lines_27 (by decide) (fun hc => ?_) (fun hc => ?_)
      · have hf := if_t hf hc
        exact w_L_lines_b349 E hf hP hS (lv_sub hl [0, 1, 2, 3, 4, 5] rfl)
      · have hf := if_f hf hc
        refine lv_aload_n hx hb dL_lines_30 rfl (lv_at hl 0 rfl) ?_
        refine lv_iload hx hb dL_lines_31 (lv_at hl 6 rfl) ?_
        refine lv_bipush (v := 6) hx hb dL_lines_33 (by decide) ?_
        refine ob_e hf (fun r_35 M_35 hq hf => ?_)
        refine cv_X7_lineOf E hP hS hq w_509 ⟨Nat.le_of_ble_eq_true rfl, Nat.le_of_ble_eq_true rfl⟩ hl (Nat.le_of_ble_eq_true rfl) dL_lines_35 ⟨Nat.le_of_ble_eq_true rfl, Nat.le_of_ble_eq_true rfl⟩ (fun H locs hP hS => ?_)
        refine lv_istore (lv' := [(7, .int r_35), (0, .ref (adC G 0 0)), (1, .int x1), (2, .int x2), (3, .int x3), (4, .int x4), (5, .int x5), (6, .int x6)]) hx hb dL_lines_38 hl (by decide) rfl (fun ls hl => ?_)
        refine lv_aload_n hx hb dL_lines_40 rfl (lv_at hl 1 rfl) ?_
        refine lv_iload hx hb dL_lines_41 (lv_at hl 7 rfl) ?_
        refine lv_iconst (v := 5) hx hb dL_lines_43 (by decide) ?_
        refine ob_e hf (fun r_44 M_44 hq hf => ?_)
        refine cv_X7_lineOf E hP hS hq w_509 ⟨Nat.le_of_ble_eq_true rfl, Nat.le_of_ble_eq_true rfl⟩ hl (Nat.le_of_ble_eq_true rfl) dL_lines_44 ⟨Nat.le_of_ble_eq_true rfl, Nat.le_of_ble_eq_true rfl⟩ (fun H locs hP hS => ?_)
        refine lv_iconst (v := 1) hx hb dL_lines_47 (by decide) ?_
        refine lv_icmp_ne (tgt := 55) hx hb dL_lines_48 (by decide) (fun hc => ?_) (fun hc => ?_)
        · have hf := if_f hf hc
          refine lv_iconst (v := 0) hx hb dL_lines_55 (by decide) ?_
          exact w_L_lines_b56 E ih hf hP hS (lv_sub hl [1, 2, 3, 4, 5, 7, 0] rfl)
        · have hf := if_t hf hc
          refine lv_iconst (v := 1) hx hb dL_lines_51 (by decide) ?_
          refine lv_goto (tgt := 56) hx hb dL_lines_52 (by decide) ?_
          exact w_L_lines_b56 E ih hf hP hS (lv_sub hl [1, 2, 3, 4, 5, 7, 0] rfl)
set_option maxHeartbeats 4000000 in
set_option maxRecDepth 100000 in
theorem w_L_lines {p : Program} {l : Launch} {e : Env} {s : State} {m : MethodId} {args : Array Value} {below : List Frame} {meth : Method} {c : Code} {G : GG} {sz : Nat} {ns : Nat} {r : Int32} {M' : Mem} (E : Cx p s m args meth c cL_lines (some .boolean) 11 RL G) {M : Mem} {H : Heap} {locs : List Loc} {ls : Array Slot} (hf : f_L_lines M = some (r, M')) (hP : PW G (AC G) (XC G ns) sz M s H) (hS : va_S (AC G) s.heap H locs) (hl : lv_has ls 11 [(0, .ref (adC G 0 0))]) : W p l e rm_L_lines s m args below meth c H locs 0 0 (MQ below (va_Qi (fun (r2 : Int32) (_ : Unit) => r2 = r) (fun _ t => PW G (AC G) (XC G ns) sz M' t t.heap) (AC G)) args s 0 0 (AC G)) (F0 m 0 ls []) := by
  obtain ⟨hx, hb, hr, hlocks, hml, hown, hts, hK⟩ := id E
  unfold f_L_lines at hf
  refine lv_iconst (v := 0) hx hb dL_lines_0 (by decide) ?_
  refine lv_istore_n (lv' := [(1, .int 0), (0, .ref (adC G 0 0))]) hx hb dL_lines_1 rfl hl (by decide) rfl (fun ls hl => ?_)
  refine lv_iconst (v := 0) hx hb dL_lines_2 (by decide) ?_
  refine lv_istore_n (lv' := [(2, .int 0), (1, .int 0), (0, .ref (adC G 0 0))]) hx hb dL_lines_3 rfl hl (by decide) rfl (fun ls hl => ?_)
  refine lv_iconst (v := 0) hx hb dL_lines_4 (by decide) ?_
  refine lv_istore_n (lv' := [(3, .int 0), (2, .int 0), (1, .int 0), (0, .ref (adC G 0 0))]) hx hb dL_lines_5 rfl hl (by decide) rfl (fun ls hl => ?_)
  refine lv_iconst (v := 0) hx hb dL_lines_6 (by decide) ?_
  refine lv_istore (lv' := [(4, .int 0), (3, .int 0), (2, .int 0), (1, .int 0), (0, .ref (adC G 0 0))]) hx hb dL_lines_7 hl (by decide) rfl (fun ls hl => ?_)
  refine lv_iconst (v := 1) hx hb dL_lines_9 (by decide) ?_
  refine lv_istore (lv' := [(5, .int 1), (4, .int 0), (3, .int 0), (2, .int 0), (1, .int 0), (0, .ref (adC G 0 0))]) hx hb dL_lines_10 hl (by decide) rfl (fun ls hl => ?_)
  refine lv_iconst (v := 0) hx hb dL_lines_12 (by decide) ?_
  refine lv_istore (lv' := [(6, .int 0), (5, .int 1), (4, .int 0), (3, .int 0), (2, .int 0), (1, .int 0), (0, .ref (adC G 0 0))]) hx hb dL_lines_13 hl (by decide) rfl (fun ls hl => ?_)
  exact w_L_lines_b15 E 1000 _ _ _ _ _ _ _ _ _ _ hf hP hS (lv_sub hl [6, 5, 4, 3, 2, 1, 0] rfl)
theorem c_L_lines (l : Launch) {G : GG} {sz : Nat} {ns : Nat} {M : Mem} {r : Int32} {M' : Mem} (hf : f_L_lines M = some (r, M')) : CtI l yL_lines cL_lines 11 (some .boolean) rm_L_lines [.ref (adC G 0 0)] G (AC G) (XC G ns) sz M r (XC G ns) sz M' := by
  refine Ct_of (by decide) (Nat.le_of_ble_eq_true rfl) (fun p e s m below meth c ls hx hb hr hlocks hml hown hts hK hP hl => ?_)
  exact w_L_lines ⟨hx, hb, hr, hlocks, hml, hown, hts, hK⟩ hf hP va_S.rf hl
set_option maxRecDepth 100000 in
theorem cv_L_lines {p : Program} {l : Launch} {e : Env} {R : Room} {s : State} {m : MethodId} {args : Array Value} {below : List Frame} {meth : Method} {c : Code} {H : Heap} {locs : List Loc} {cells slots : Nat} {Q : State → Prop} {cc : ByteArray} {pc nL index : Nat} {ret : Option FieldType} {own : String} {ls : Array Slot} {rest : List Value} {l' : List (Nat × Value)} {G : GG} {sz : Nat} {ns : Nat} {M : Mem} (E : Cx p s m args meth c cc ret nL own G) (hP : PW G (AC G) (XC G ns) sz M s H) (hS : va_S (AC G) s.heap H locs) {r : Int32} {M' : Mem} (hq : f_L_lines M = some (r, M')) (w1 : Cond.methodLink own index yL_lines ∈ lw_all) (hR : 7 ≤ R.frames ∧ 164 ≤ R.locals) (hl : lv_has ls nL l') (hrest : (rest.map fun v => v.category).sum ≤ 8) (hdg : decode cc pc = .ok (.invokestatic index, 3)) (hcs : cells ≤ R.cells ∧ slots ≤ R.slots)
    (kk : ∀ (H1 : Heap) (locs1 : List Loc), PW G (AC G) (XC G ns) sz M' s H1 → va_S (AC G) s.heap H1 locs1 → W p l e R s m args below meth c H1 locs1 cells slots Q (F0 m (pc + 3) ls (.int r :: rest))) : W p l e R s m args below meth c H locs cells slots Q (F0 m pc ls (.ref (adC G 0 0) :: rest)) := by
  obtain ⟨hx, hb, hr, hlocks, hml, hown, hts, hK⟩ := E
  exact kc_i (kc_runS (na := 1) hx hb hml hts hown hK hP (c_L_lines l hq) w1 w_507 w_0 w_508 (by decide +kernel) hR rfl hl rfl hrest hdg hcs) hS kk
/-! L_draws -/
abbrev rm_L_draws : Room := { frames := 6, cells := 21, slots := 228, locals := 167 }
def f_L_draws_b95 (ns : Nat) (s0 : Int32) (M : Mem) : Option ((Int32 × Nat) × Mem) :=
ck (bl s0) <|
some ((s0, ns), M)
def f_L_draws_b94 (ns : Nat) (M : Mem) : Option ((Int32 × Nat) × Mem) :=
f_L_draws_b95 ns 0 M
def f_L_draws_b90 (ns : Nat) (M : Mem) : Option ((Int32 × Nat) × Mem) :=
f_L_draws_b95 ns 1 M
def f_L_draws_b73 (ns : Nat) (x3 : Int32) (x5 : Int32) (M : Mem) : Option ((Int32 × Nat) × Mem) :=
(if x3 = 3 then
  ob (f_X7_penOf x5 8 M) fun r_83 M_83 =>
  (if r_83 = 1 then
    f_L_draws_b90 ns M_83
  else
    f_L_draws_b94 ns M_83)
else
  f_L_draws_b90 ns M)
def f_L_draws_b58 (ns : Nat) (x1 : Int32) (x3 : Int32) (x5 : Int32) (M : Mem) : Option ((Int32 × Nat) × Mem) :=
(if x3 = 2 then
  ob (f_X7_lineOf x1 5 M) fun r_66 M_66 =>
  (if r_66 = 1 then
    f_L_draws_b73 ns x3 x5 M_66
  else
    f_L_draws_b94 ns M_66)
else
  f_L_draws_b73 ns x3 x5 M)
def f_L_draws_b323 (ns : Nat) (s0 : Int32) (M : Mem) : Option ((Int32 × Nat) × Mem) :=
ck (bl s0) <|
some ((s0, ns), M)
def f_L_draws_b322 (ns : Nat) (M : Mem) : Option ((Int32 × Nat) × Mem) :=
f_L_draws_b323 ns 0 M
def f_L_draws_b267 (ns : Nat) (x1 : Int32) (x2 : Int32) (s0 : Int32) (s1 : Int32) (M : Mem) : Option ((Int32 × Nat) × Mem) :=
(if s0 = s1 then
  ob (f_X7_count 6 M) fun r_273 M_273 =>
  ob (f_X7_lineOf x1 (2 - (2 * x2)) M_273) fun r_283 M_283 =>
  (if r_273 = r_283 then
    ob (f_X7_count 7 M_283) fun r_292 M_292 =>
    ob (f_X7_lineOf x1 (3 - (2 * x2)) M_292) fun r_302 M_302 =>
    (if r_292 = r_302 then
      ob (f_X7_whyNot x1 x2 M_302) fun r_311 M_311 =>
      (if r_311 = 2 then
        f_L_draws_b323 ns 1 M_311
      else
        f_L_draws_b322 ns M_311)
    else
      f_L_draws_b322 ns M_302)
  else
    f_L_draws_b322 ns M_283)
else
  f_L_draws_b322 ns M)
def f_L_draws (ns : Nat) (x1 : Int32) (x2 : Int32) (M : Mem) : Option ((Int32 × Nat) × Mem) :=
ob (f_X7_whyNot x1 x2 M) fun r_3 M_3 =>
ob (f_X7_count 4 M_3) fun r_9 M_9 =>
ob (f_X7_count 5 M_9) fun r_16 M_16 =>
(if r_3 ≤ 0 then
  ob (f_X7_penOf r_16 2 M_16) fun r_100 M_100 =>
  ob (f_X7_penOf r_16 3 M_100) fun r_109 M_109 =>
  ob (f_X7_count 10 M_109) fun r_117 M_117 =>
  ob (f_X7_lineOf x1 4 M_117) fun r_125 M_125 =>
  ob (f_X7_draw ns x1 x2 M_125) fun r_133 M_133 =>
  lt (r_133.1) fun x10_136 =>
  ob (f_X7_count 10 M_133) fun r_141 M_141 =>
  lt ((r_141 - r_117)) fun x11_147 =>
  (if x10_136 = ((r_9 + x11_147) + r_125) then
    ob (f_X7_count 4 M_141) fun r_164 M_164 =>
    (if r_164 = x10_136 then
      ob (f_X7_penOf r_16 2 M_164) fun r_176 M_176 =>
      ob (f_X7_penOf r_16 0 M_176) fun r_186 M_186 =>
      (if r_176 = (r_100 - ((1 + r_186) * r_125)) then
        ob (f_X7_penOf r_16 3 M_186) fun r_201 M_201 =>
        (if r_201 = (r_109 + r_125) then
          ob (f_X7_penOf r_16 4 M_201) fun r_216 M_216 =>
          (if r_216 = 0 then
            ob (f_X7_lineOf x1 6 M_216) fun r_226 M_226 =>
            (if r_226 = r_16 then
              ob (f_X7_lineOf x1 7 M_226) fun r_238 M_238 =>
              (if r_238 = x10_136 then
                ob (f_X7_lineOf x1 8 M_238) fun r_250 M_250 =>
                ob (f_X7_count 22 M_250) fun r_256 M_256 =>
                (if r_256 ≤ 0 then
                  f_L_draws_b267 r_133.2 x1 x2 r_250 0 M_256
                else
                  f_L_draws_b267 r_133.2 x1 x2 r_250 1 M_256)
              else
                f_L_draws_b322 r_133.2 M_238)
            else
              f_L_draws_b322 r_133.2 M_226)
          else
            f_L_draws_b322 r_133.2 M_216)
        else
          f_L_draws_b322 r_133.2 M_201)
      else
        f_L_draws_b322 r_133.2 M_186)
    else
      f_L_draws_b322 r_133.2 M_164)
  else
    f_L_draws_b322 r_133.2 M_141)
else
  ob (f_X7_draw ns x1 x2 M_16) fun r_28 M_28 =>
  (if (r_28.1) = (-1000002) then
    ob (f_X7_count 4 M_28) fun r_38 M_38 =>
    (if r_38 = r_9 then
      (if r_3 = 1 then
        (if r_16 = (-1000004) then
          f_L_draws_b58 r_28.2 x1 r_3 r_16 M_38
        else
          f_L_draws_b94 r_28.2 M_38)
      else
        f_L_draws_b58 r_28.2 x1 r_3 r_16 M_38)
    else
      f_L_draws_b94 r_28.2 M_38)
  else
    f_L_draws_b94 r_28.2 M_28))
set_option maxHeartbeats 4000000 in
set_option maxRecDepth 100000 in
theorem w_L_draws_b95 {p : Program} {l : Launch} {e : Env} {s : State} {m : MethodId} {args : Array Value} {below : List Frame} {meth : Method} {c : Code} {G : GG} {ns : Nat} {r : (Int32 × Nat)} {M' : Mem} (E : Cx p s m args meth c cL_draws (some .boolean) 12 RL G) {s0 : Int32} {M : Mem} {H : Heap} {locs : List Loc} {ls : Array Slot} (hf : f_L_draws_b95 ns s0 M = some (r, M')) (hP : PW G (AC G) (XC G ns) (szC G ns) M s H) (hS : va_S (AC G) s.heap H locs) (hl : lv_has ls 12 []) : W p l e rm_L_draws s m args below meth c H locs 21 228 (MQ below (va_Qi (fun (r2 : Int32) (_ : Unit) => r2 = r.1) (fun _ t => PW G (AC G) (XC G r.2) (szC G r.2) M' t t.heap) (AC G)) args s 21 228 (AC G)) (F0 m 95 ls [.int s0]) := by
  obtain ⟨hx, hb, hr, hlocks, hml, hown, hts, hK⟩ := id E
  unfold f_L_draws_b95 at hf
  refine ck_e hf (fun hn hf => ?_)
  exact en_ia hf hx hb hr (bl_nar hn) hlocks hP hS dL_draws_95
set_option maxHeartbeats 4000000 in
set_option maxRecDepth 100000 in
theorem w_L_draws_b94 {p : Program} {l : Launch} {e : Env} {s : State} {m : MethodId} {args : Array Value} {below : List Frame} {meth : Method} {c : Code} {G : GG} {ns : Nat} {r : (Int32 × Nat)} {M' : Mem} (E : Cx p s m args meth c cL_draws (some .boolean) 12 RL G) {M : Mem} {H : Heap} {locs : List Loc} {ls : Array Slot} (hf : f_L_draws_b94 ns M = some (r, M')) (hP : PW G (AC G) (XC G ns) (szC G ns) M s H) (hS : va_S (AC G) s.heap H locs) (hl : lv_has ls 12 []) : W p l e rm_L_draws s m args below meth c H locs 21 228 (MQ below (va_Qi (fun (r2 : Int32) (_ : Unit) => r2 = r.1) (fun _ t => PW G (AC G) (XC G r.2) (szC G r.2) M' t t.heap) (AC G)) args s 21 228 (AC G)) (F0 m 94 ls []) := by
  obtain ⟨hx, hb, hr, hlocks, hml, hown, hts, hK⟩ := id E
  unfold f_L_draws_b94 at hf
  refine lv_iconst (v := 0) hx hb dL_draws_94 (by decide) ?_
  exact w_L_draws_b95 E hf hP hS (lv_sub hl [] rfl)
set_option maxHeartbeats 4000000 in
set_option maxRecDepth 100000 in
theorem w_L_draws_b90 {p : Program} {l : Launch} {e : Env} {s : State} {m : MethodId} {args : Array Value} {below : List Frame} {meth : Method} {c : Code} {G : GG} {ns : Nat} {r : (Int32 × Nat)} {M' : Mem} (E : Cx p s m args meth c cL_draws (some .boolean) 12 RL G) {M : Mem} {H : Heap} {locs : List Loc} {ls : Array Slot} (hf : f_L_draws_b90 ns M = some (r, M')) (hP : PW G (AC G) (XC G ns) (szC G ns) M s H) (hS : va_S (AC G) s.heap H locs) (hl : lv_has ls 12 []) : W p l e rm_L_draws s m args below meth c H locs 21 228 (MQ below (va_Qi (fun (r2 : Int32) (_ : Unit) => r2 = r.1) (fun _ t => PW G (AC G) (XC G r.2) (szC G r.2) M' t t.heap) (AC G)) args s 21 228 (AC G)) (F0 m 90 ls []) := by
  obtain ⟨hx, hb, hr, hlocks, hml, hown, hts, hK⟩ := id E
  unfold f_L_draws_b90 at hf
  refine lv_iconst (v := 1) hx hb dL_draws_90 (by decide) ?_
  refine lv_goto (tgt := 95) hx hb dL_draws_91 (by decide) ?_
  exact w_L_draws_b95 E hf hP hS (lv_sub hl [] rfl)
set_option maxHeartbeats 4000000 in
set_option maxRecDepth 100000 in
theorem w_L_draws_b73 {p : Program} {l : Launch} {e : Env} {s : State} {m : MethodId} {args : Array Value} {below : List Frame} {meth : Method} {c : Code} {G : GG} {ns : Nat} {r : (Int32 × Nat)} {M' : Mem} (E : Cx p s m args meth c cL_draws (some .boolean) 12 RL G) {x3 : Int32} {x5 : Int32} {M : Mem} {H : Heap} {locs : List Loc} {ls : Array Slot} (hf : f_L_draws_b73 ns x3 x5 M = some (r, M')) (hP : PW G (AC G) (XC G ns) (szC G ns) M s H) (hS : va_S (AC G) s.heap H locs) (hl : lv_has ls 12 [(0, .ref (adC G 0 0)), (3, .int x3), (5, .int x5)]) : W p l e rm_L_draws s m args below meth c H locs 21 228 (MQ below (va_Qi (fun (r2 : Int32) (_ : Unit) => r2 = r.1) (fun _ t => PW G (AC G) (XC G r.2) (szC G r.2) M' t t.heap) (AC G)) args s 21 228 (AC G)) (F0 m 73 ls []) := by
  obtain ⟨hx, hb, hr, hlocks, hml, hown, hts, hK⟩ := id E
  unfold f_L_draws_b73 at hf
  refine lv_iload_n hx hb dL_draws_73 rfl (lv_at hl 1 rfl) ?_
  refine lv_iconst (v := 3) hx hb dL_draws_74 (by decide) ?_
  refine lv_icmp_ne (tgt := 90) hx hb dL_draws_75 (by decide) (fun hc => ?_) (fun hc => ?_)
  · have hf := if_f hf hc
    exact w_L_draws_b90 E hf hP hS (lv_sub hl [] rfl)
  · have hf := if_t hf hc
    refine lv_aload_n hx hb dL_draws_78 rfl (lv_at hl 0 rfl) ?_
    refine lv_iload hx hb dL_draws_79 (lv_at hl 2 rfl) ?_
    refine lv_bipush (v := 8) hx hb dL_draws_81 (by decide) ?_
    refine ob_e hf (fun r_83 M_83 hq hf => ?_)
    refine cv_X7_penOf E hP hS hq w_461 ⟨Nat.le_of_ble_eq_true rfl, Nat.le_of_ble_eq_true rfl⟩ hl (Nat.le_of_ble_eq_true rfl) dL_draws_83 ⟨Nat.le_of_ble_eq_true rfl, Nat.le_of_ble_eq_true rfl⟩ (fun H locs hP hS => ?_)
    refine lv_iconst (v := 1) hx hb dL_draws_86 (by decide) ?_
    refine lv_icmp_ne (tgt := 94) hx hb dL_draws_87 (by decide) (fun hc => ?_) (fun hc => ?_)
    · have hf := if_f hf hc
      exact w_L_draws_b94 E hf hP hS (lv_sub hl [] rfl)
    · have hf := if_t hf hc
      exact w_L_draws_b90 E hf hP hS (lv_sub hl [] rfl)
set_option maxHeartbeats 4000000 in
set_option maxRecDepth 100000 in
theorem w_L_draws_b58 {p : Program} {l : Launch} {e : Env} {s : State} {m : MethodId} {args : Array Value} {below : List Frame} {meth : Method} {c : Code} {G : GG} {ns : Nat} {r : (Int32 × Nat)} {M' : Mem} (E : Cx p s m args meth c cL_draws (some .boolean) 12 RL G) {x1 : Int32} {x3 : Int32} {x5 : Int32} {M : Mem} {H : Heap} {locs : List Loc} {ls : Array Slot} (hf : f_L_draws_b58 ns x1 x3 x5 M = some (r, M')) (hP : PW G (AC G) (XC G ns) (szC G ns) M s H) (hS : va_S (AC G) s.heap H locs) (hl : lv_has ls 12 [(0, .ref (adC G 0 0)), (1, .int x1), (3, .int x3), (5, .int x5)]) : W p l e rm_L_draws s m args below meth c H locs 21 228 (MQ below (va_Qi (fun (r2 : Int32) (_ : Unit) => r2 = r.1) (fun _ t => PW G (AC G) (XC G r.2) (szC G r.2) M' t t.heap) (AC G)) args s 21 228 (AC G)) (F0 m 58 ls []) := by
  obtain ⟨hx, hb, hr, hlocks, hml, hown, hts, hK⟩ := id E
  unfold f_L_draws_b58 at hf
  refine lv_iload_n hx hb dL_draws_58 rfl (lv_at hl 2 rfl) ?_
  refine lv_iconst (v := 2) hx hb dL_draws_59 (by decide) ?_
  refine lv_icmp_ne (tgt := 73) hx hb dL_draws_60 (by decide) (fun hc => ?_) (fun hc => ?_)
  · have hf := if_f hf hc
    exact w_L_draws_b73 E hf hP hS (lv_sub hl [0, 2, 3] rfl)
  · have hf := if_t hf hc
    refine lv_aload_n hx hb dL_draws_63 rfl (lv_at hl 0 rfl) ?_
    refine lv_iload_n hx hb dL_draws_64 rfl (lv_at hl 1 rfl) ?_
    refine lv_iconst (v := 5) hx hb dL_draws_65 (by decide) ?_
    refine ob_e hf (fun r_66 M_66 hq hf => ?_)
    refine cv_X7_lineOf E hP hS hq w_509 ⟨Nat.le_of_ble_eq_true rfl, Nat.le_of_ble_eq_true rfl⟩ hl (Nat.le_of_ble_eq_true rfl) dL_draws_66 ⟨Nat.le_of_ble_eq_true rfl, Nat.le_of_ble_eq_true rfl⟩ (fun H locs hP hS => ?_)
    refine lv_iconst (v := 1) hx hb dL_draws_69 (by decide) ?_
    refine lv_icmp_ne (tgt := 94) hx hb dL_draws_70 (by decide) (fun hc => ?_) (fun hc => ?_)
    · have hf := if_f hf hc
      exact w_L_draws_b94 E hf hP hS (lv_sub hl [] rfl)
    · have hf := if_t hf hc
      exact w_L_draws_b73 E hf hP hS (lv_sub hl [0, 2, 3] rfl)
set_option maxHeartbeats 4000000 in
set_option maxRecDepth 100000 in
theorem w_L_draws_b323 {p : Program} {l : Launch} {e : Env} {s : State} {m : MethodId} {args : Array Value} {below : List Frame} {meth : Method} {c : Code} {G : GG} {ns : Nat} {r : (Int32 × Nat)} {M' : Mem} (E : Cx p s m args meth c cL_draws (some .boolean) 12 RL G) {s0 : Int32} {M : Mem} {H : Heap} {locs : List Loc} {ls : Array Slot} (hf : f_L_draws_b323 ns s0 M = some (r, M')) (hP : PW G (AC G) (XC G ns) (szC G ns) M s H) (hS : va_S (AC G) s.heap H locs) (hl : lv_has ls 12 []) : W p l e rm_L_draws s m args below meth c H locs 21 228 (MQ below (va_Qi (fun (r2 : Int32) (_ : Unit) => r2 = r.1) (fun _ t => PW G (AC G) (XC G r.2) (szC G r.2) M' t t.heap) (AC G)) args s 21 228 (AC G)) (F0 m 323 ls [.int s0]) := by
  obtain ⟨hx, hb, hr, hlocks, hml, hown, hts, hK⟩ := id E
  unfold f_L_draws_b323 at hf
  refine ck_e hf (fun hn hf => ?_)
  exact en_ia hf hx hb hr (bl_nar hn) hlocks hP hS dL_draws_323
set_option maxHeartbeats 4000000 in
set_option maxRecDepth 100000 in
theorem w_L_draws_b322 {p : Program} {l : Launch} {e : Env} {s : State} {m : MethodId} {args : Array Value} {below : List Frame} {meth : Method} {c : Code} {G : GG} {ns : Nat} {r : (Int32 × Nat)} {M' : Mem} (E : Cx p s m args meth c cL_draws (some .boolean) 12 RL G) {M : Mem} {H : Heap} {locs : List Loc} {ls : Array Slot} (hf : f_L_draws_b322 ns M = some (r, M')) (hP : PW G (AC G) (XC G ns) (szC G ns) M s H) (hS : va_S (AC G) s.heap H locs) (hl : lv_has ls 12 []) : W p l e rm_L_draws s m args below meth c H locs 21 228 (MQ below (va_Qi (fun (r2 : Int32) (_ : Unit) => r2 = r.1) (fun _ t => PW G (AC G) (XC G r.2) (szC G r.2) M' t t.heap) (AC G)) args s 21 228 (AC G)) (F0 m 322 ls []) := by
  obtain ⟨hx, hb, hr, hlocks, hml, hown, hts, hK⟩ := id E
  unfold f_L_draws_b322 at hf
  refine lv_iconst (v := 0) hx hb dL_draws_322 (by decide) ?_
  exact w_L_draws_b323 E hf hP hS (lv_sub hl [] rfl)
set_option maxHeartbeats 4000000 in
set_option maxRecDepth 100000 in
theorem w_L_draws_b267 {p : Program} {l : Launch} {e : Env} {s : State} {m : MethodId} {args : Array Value} {below : List Frame} {meth : Method} {c : Code} {G : GG} {ns : Nat} {r : (Int32 × Nat)} {M' : Mem} (E : Cx p s m args meth c cL_draws (some .boolean) 12 RL G) {x1 : Int32} {x2 : Int32} {s0 : Int32} {s1 : Int32} {M : Mem} {H : Heap} {locs : List Loc} {ls : Array Slot} (hf : f_L_draws_b267 ns x1 x2 s0 s1 M = some (r, M')) (hP : PW G (AC G) (XC G ns) (szC G ns) M s H) (hS : va_S (AC G) s.heap H locs) (hl : lv_has ls 12 [(0, .ref (adC G 0 0)), (1, .int x1), (2, .int x2)]) : W p l e rm_L_draws s m args below meth c H locs 21 228 (MQ below (va_Qi (fun (r2 : Int32) (_ : Unit) => r2 = r.1) (fun _ t => PW G (AC G) (XC G r.2) (szC G r.2) M' t t.heap) (AC G)) args s 21 228 (AC G)) (F0 m 267 ls [.int s1, .int s0]) := by
  obtain ⟨hx, hb, hr, hlocks, hml, hown, hts, hK⟩ := id E
  unfold f_L_draws_b267 at hf
  refine lv_icmp_ne (tgt := 322) hx hb dL_draws_267 (by decide) (fun hc => ?_) (fun hc => ?_)
  · have hf := if_f hf hc
    exact w_L_draws_b322 E hf hP hS (lv_sub hl [] rfl)
  · have hf := if_t hf hc
    refine lv_aload_n hx hb dL_draws_270 rfl (lv_at hl 0 rfl) ?_
    refine lv_bipush (v := 6) hx hb dL_draws_271 (by decide) ?_
    refine ob_e hf (fun r_273 M_273 hq hf => ?_)
    refine cv_X7_count E hP hS hq w_414 ⟨Nat.le_of_ble_eq_true rfl, Nat.le_of_ble_eq_true rfl⟩ hl (Nat.le_of_ble_eq_true rfl) dL_draws_273 ⟨Nat.le_of_ble_eq_true rfl, Nat.le_of_ble_eq_true rfl⟩ (fun H locs hP hS => ?_)
    refine lv_aload_n hx hb dL_draws_276 rfl (lv_at hl 0 rfl) ?_
    refine lv_iload_n hx hb dL_draws_277 rfl (lv_at hl 1 rfl) ?_
    refine lv_iconst (v := 2) hx hb dL_draws_278 (by decide) ?_
    refine lv_iconst (v := 2) hx hb dL_draws_279 (by decide) ?_
    refine lv_iload_n hx hb dL_draws_280 rfl (lv_at hl 2 rfl) ?_
    refine lv_imul hx hb dL_draws_281 ?_
    refine lv_isub hx hb dL_draws_282 ?_
    refine ob_e hf (fun r_283 M_283 hq hf => ?_)
    refine cv_X7_lineOf E hP hS hq w_509 ⟨Nat.le_of_ble_eq_true rfl, Nat.le_of_ble_eq_true rfl⟩ hl (Nat.le_of_ble_eq_true rfl) dL_draws_283 ⟨Nat.le_of_ble_eq_true rfl, Nat.le_of_ble_eq_true rfl⟩ (fun H locs hP hS => ?_)
    refine lv_icmp_ne (tgt := 322) hx hb dL_draws_286 (by decide) (fun hc => ?_) (fun hc => ?_)
    · have hf := if_f hf hc
      exact w_L_draws_b322 E hf hP hS (lv_sub hl [] rfl)
    · have hf := if_t hf hc
      refine lv_aload_n hx hb dL_draws_289 rfl (lv_at hl 0 rfl) ?_
      refine lv_bipush (v := 7) hx hb dL_draws_290 (by decide) ?_
      refine ob_e hf (fun r_292 M_292 hq hf => ?_)
      refine cv_X7_count E hP hS hq w_414 ⟨Nat.le_of_ble_eq_true rfl, Nat.le_of_ble_eq_true rfl⟩ hl (Nat.le_of_ble_eq_true rfl) dL_draws_292 ⟨Nat.le_of_ble_eq_true rfl, Nat.le_of_ble_eq_true rfl⟩ (fun H locs hP hS => ?_)
      refine lv_aload_n hx hb dL_draws_295 rfl (lv_at hl 0 rfl) ?_
      refine lv_iload_n hx hb dL_draws_296 rfl (lv_at hl 1 rfl) ?_
      refine lv_iconst (v := 3) hx hb dL_draws_297 (by decide) ?_
      refine lv_iconst (v := 2) hx hb dL_draws_298 (by decide) ?_
      refine lv_iload_n hx hb dL_draws_299 rfl (lv_at hl 2 rfl) ?_
      refine lv_imul hx hb dL_draws_300 ?_
      refine lv_isub hx hb dL_draws_301 ?_
      refine ob_e hf (fun r_302 M_302 hq hf => ?_)
      refine cv_X7_lineOf E hP hS hq w_509 ⟨Nat.le_of_ble_eq_true rfl, Nat.le_of_ble_eq_true rfl⟩ hl (Nat.le_of_ble_eq_true rfl) dL_draws_302 ⟨Nat.le_of_ble_eq_true rfl, Nat.le_of_ble_eq_true rfl⟩ (fun H locs hP hS => ?_)
      refine lv_icmp_ne (tgt := 322) hx hb dL_draws_305 (by decide) (fun hc => ?_) (fun hc => ?_)
      · have hf := if_f hf hc
        exact w_L_draws_b322 E hf hP hS (lv_sub hl [] rfl)
      · have hf := if_t hf hc
        refine lv_aload_n hx hb dL_draws_308 rfl (lv_at hl 0 rfl) ?_
        refine lv_iload_n hx hb dL_draws_309 rfl (lv_at hl 1 rfl) ?_
        refine lv_iload_n hx hb dL_draws_310 rfl (lv_at hl 2 rfl) ?_
        refine ob_e hf (fun r_311 M_311 hq hf => ?_)
        refine cv_X7_whyNot E hP hS hq w_603 ⟨Nat.le_of_ble_eq_true rfl, Nat.le_of_ble_eq_true rfl⟩ hl (Nat.le_of_ble_eq_true rfl) dL_draws_311 ⟨Nat.le_of_ble_eq_true rfl, Nat.le_of_ble_eq_true rfl⟩ (fun H locs hP hS => ?_)
        refine lv_iconst (v := 2) hx hb dL_draws_314 (by decide) ?_
        refine lv_icmp_ne (tgt := 322) hx hb dL_draws_315 (by decide) (fun hc => ?_) (fun hc => ?_)
        · have hf := if_f hf hc
          exact w_L_draws_b322 E hf hP hS (lv_sub hl [] rfl)
        · have hf := if_t hf hc
          refine lv_iconst (v := 1) hx hb dL_draws_318 (by decide) ?_
          refine lv_goto (tgt := 323) hx hb dL_draws_319 (by decide) ?_
          exact w_L_draws_b323 E hf hP hS (lv_sub hl [] rfl)
set_option maxHeartbeats 4000000 in
set_option maxRecDepth 100000 in
theorem w_L_draws {p : Program} {l : Launch} {e : Env} {s : State} {m : MethodId} {args : Array Value} {below : List Frame} {meth : Method} {c : Code} {G : GG} {ns : Nat} {r : (Int32 × Nat)} {M' : Mem} (E : Cx p s m args meth c cL_draws (some .boolean) 12 RL G) {x1 : Int32} {x2 : Int32} {M : Mem} {H : Heap} {locs : List Loc} {ls : Array Slot} (hf : f_L_draws ns x1 x2 M = some (r, M')) (hP : PW G (AC G) (XC G ns) (szC G ns) M s H) (hS : va_S (AC G) s.heap H locs) (hl : lv_has ls 12 [(0, .ref (adC G 0 0)), (1, .int x1), (2, .int x2)]) : W p l e rm_L_draws s m args below meth c H locs 0 0 (MQ below (va_Qi (fun (r2 : Int32) (_ : Unit) => r2 = r.1) (fun _ t => PW G (AC G) (XC G r.2) (szC G r.2) M' t t.heap) (AC G)) args s 21 228 (AC G)) (F0 m 0 ls []) := by
  obtain ⟨hx, hb, hr, hlocks, hml, hown, hts, hK⟩ := id E
  unfold f_L_draws at hf
  refine lv_aload_n hx hb dL_draws_0 rfl (lv_at hl 0 rfl) ?_
  refine lv_iload_n hx hb dL_draws_1 rfl (lv_at hl 1 rfl) ?_
  refine lv_iload_n hx hb dL_draws_2 rfl (lv_at hl 2 rfl) ?_
  refine ob_e hf (fun r_3 M_3 hq hf => ?_)
  refine cv_X7_whyNot E hP hS hq w_603 ⟨Nat.le_of_ble_eq_true rfl, Nat.le_of_ble_eq_true rfl⟩ hl (Nat.le_of_ble_eq_true rfl) dL_draws_3 ⟨Nat.le_of_ble_eq_true rfl, Nat.le_of_ble_eq_true rfl⟩ (fun H locs hP hS => ?_)
  refine lv_istore_n (lv' := [(3, .int r_3), (0, .ref (adC G 0 0)), (1, .int x1), (2, .int x2)]) hx hb dL_draws_6 rfl hl (by decide) rfl (fun ls hl => ?_)
  refine lv_aload_n hx hb dL_draws_7 rfl (lv_at hl 1 rfl) ?_
  refine lv_iconst (v := 4) hx hb dL_draws_8 (by decide) ?_
  refine ob_e hf (fun r_9 M_9 hq hf => ?_)
  refine cv_X7_count E hP hS hq w_414 ⟨Nat.le_of_ble_eq_true rfl, Nat.le_of_ble_eq_true rfl⟩ hl (Nat.le_of_ble_eq_true rfl) dL_draws_9 ⟨Nat.le_of_ble_eq_true rfl, Nat.le_of_ble_eq_true rfl⟩ (fun H locs hP hS => ?_)
  refine lv_istore (lv' := [(4, .int r_9), (3, .int r_3), (0, .ref (adC G 0 0)), (1, .int x1), (2, .int x2)]) hx hb dL_draws_12 hl (by decide) rfl (fun ls hl => ?_)
  refine lv_aload_n hx hb dL_draws_14 rfl (lv_at hl 2 rfl) ?_
  refine lv_iconst (v := 5) hx hb dL_draws_15 (by decide) ?_
  refine ob_e hf (fun r_16 M_16 hq hf => ?_)
  refine cv_X7_count E hP hS hq w_414 ⟨Nat.le_of_ble_eq_true rfl, Nat.le_of_ble_eq_true rfl⟩ hl (Nat.le_of_ble_eq_true rfl) dL_draws_16 ⟨Nat.le_of_ble_eq_true rfl, Nat.le_of_ble_eq_true rfl⟩ (fun H locs hP hS => ?_)
  refine lv_istore (lv' := [(5, .int r_16), (4, .int r_9), (3, .int r_3), (0, .ref (adC G 0 0)), (1, .int x1), (2, .int x2)]) hx hb dL_draws_19 hl (by decide) rfl (fun ls hl => ?_)
  refine lv_iload_n hx hb dL_draws_21 rfl (lv_at hl 2 rfl) ?_
  refine lv_if_le (tgt := 96) hx hb dL_draws_22 (by decide) (fun hc => ?_) (fun hc => ?_)
  · have hf := if_t hf hc
    refine lv_aload_n hx hb dL_draws_96 rfl (lv_at hl 3 rfl) ?_
    refine lv_iload hx hb dL_draws_97 (lv_at hl 0 rfl) ?_
    refine lv_iconst (v := 2) hx hb dL_draws_99 (by decide) ?_
    refine ob_e hf (fun r_100 M_100 hq hf => ?_)
    refine cv_X7_penOf E hP hS hq w_461 ⟨Nat.le_of_ble_eq_true rfl, Nat.le_of_ble_eq_true rfl⟩ hl (Nat.le_of_ble_eq_true rfl) dL_draws_100 ⟨Nat.le_of_ble_eq_true rfl, Nat.le_of_ble_eq_true rfl⟩ (fun H locs hP hS => ?_)
    refine lv_istore (lv' := [(6, .int r_100), (5, .int r_16), (4, .int r_9), (3, .int r_3), (0, .ref (adC G 0 0)), (1, .int x1), (2, .int x2)]) hx hb dL_draws_103 hl (by decide) rfl (fun ls hl => ?_)
    refine lv_aload_n hx hb dL_draws_105 rfl (lv_at hl 4 rfl) ?_
    refine lv_iload hx hb dL_draws_106 (lv_at hl 1 rfl) ?_
    refine lv_iconst (v := 3) hx hb dL_draws_108 (by decide) ?_
    refine ob_e hf (fun r_109 M_109 hq hf => ?_)
    refine cv_X7_penOf E hP hS hq w_461 ⟨Nat.le_of_ble_eq_true rfl, Nat.le_of_ble_eq_true rfl⟩ hl (Nat.le_of_ble_eq_true rfl) dL_draws_109 ⟨Nat.le_of_ble_eq_true rfl, Nat.le_of_ble_eq_true rfl⟩ (fun H locs hP hS => ?_)
    refine lv_istore (lv' := [(7, .int r_109), (6, .int r_100), (5, .int r_16), (4, .int r_9), (3, .int r_3), (0, .ref (adC G 0 0)), (1, .int x1), (2, .int x2)]) hx hb dL_draws_112 hl (by decide) rfl (fun ls hl => ?_)
    refine lv_aload_n hx hb dL_draws_114 rfl (lv_at hl 5 rfl) ?_
    refine lv_bipush (v := 10) hx hb dL_draws_115 (by decide) ?_
    refine ob_e hf (fun r_117 M_117 hq hf => ?_)
    refine cv_X7_count E hP hS hq w_414 ⟨Nat.le_of_ble_eq_true rfl, Nat.le_of_ble_eq_true rfl⟩ hl (Nat.le_of_ble_eq_true rfl) dL_draws_117 ⟨Nat.le_of_ble_eq_true rfl, Nat.le_of_ble_eq_true rfl⟩ (fun H locs hP hS => ?_)
    refine lv_istore (lv' := [(8, .int r_117), (7, .int r_109), (6, .int r_100), (5, .int r_16), (4, .int r_9), (3, .int r_3), (0, .ref (adC G 0 0)), (1, .int x1), (2, .int x2)]) hx hb dL_draws_120 hl (by decide) rfl (fun ls hl => ?_)
    refine lv_aload_n hx hb dL_draws_122 rfl (lv_at hl 6 rfl) ?_
    refine lv_iload_n hx hb dL_draws_123 rfl (lv_at hl 7 rfl) ?_
    refine lv_iconst (v := 4) hx hb dL_draws_124 (by decide) ?_
    refine ob_e hf (fun r_125 M_125 hq hf => ?_)
    refine cv_X7_lineOf E hP hS hq w_509 ⟨Nat.le_of_ble_eq_true rfl, Nat.le_of_ble_eq_true rfl⟩ hl (Nat.le_of_ble_eq_true rfl) dL_draws_125 ⟨Nat.le_of_ble_eq_true rfl, Nat.le_of_ble_eq_true rfl⟩ (fun H locs hP hS => ?_)
    refine lv_istore (lv' := [(9, .int r_125), (8, .int r_117), (7, .int r_109), (6, .int r_100), (5, .int r_16), (4, .int r_9), (3, .int r_3), (0, .ref (adC G 0 0)), (1, .int x1), (2, .int x2)]) hx hb dL_draws_128 hl (by decide) rfl (fun ls hl => ?_)
    refine lv_aload_n hx hb dL_draws_130 rfl (lv_at hl 7 rfl) ?_
    refine lv_iload_n hx hb dL_draws_131 rfl (lv_at hl 8 rfl) ?_
    refine lv_iload_n hx hb dL_draws_132 rfl (lv_at hl 9 rfl) ?_
    refine ob_e hf (fun r_133 M_133 hq hf => ?_)
    refine cv_X7_draw E hP hS hq w_635 ⟨Nat.le_of_ble_eq_true rfl, Nat.le_of_ble_eq_true rfl⟩ hl (Nat.le_of_ble_eq_true rfl) dL_draws_133 ⟨Nat.le_of_ble_eq_true rfl, Nat.le_of_ble_eq_true rfl⟩ (fun H locs hP hS => ?_)
    refine lt_e hf (fun x10_136 hx10_136 hf => ?_)
    refine kr_nm hx10_136 ?_
    refine lv_istore (lv' := [(10, .int x10_136), (9, .int r_125), (8, .int r_117), (7, .int r_109), (6, .int r_100), (5, .int r_16), (4, .int r_9), (3, .int r_3), (0, .ref (adC G 0 0)), (1, .int x1), (2, .int x2)]) hx hb dL_draws_136 hl (by decide) rfl (fun ls hl => ?_)
    refine lv_aload_n hx hb dL_draws_138 rfl (lv_at hl 8 rfl) ?_
    refine lv_bipush (v := 10) hx hb dL_draws_139 (by decide) ?_
    refine ob_e hf (fun r_141 M_141 hq hf => ?_)
    refine cv_X7_count E hP hS hq w_414 ⟨Nat.le_of_ble_eq_true rfl, Nat.le_of_ble_eq_true rfl⟩ hl (Nat.le_of_ble_eq_true rfl) dL_draws_141 ⟨Nat.le_of_ble_eq_true rfl, Nat.le_of_ble_eq_true rfl⟩ (fun H locs hP hS => ?_)
    refine lv_iload hx hb dL_draws_144 (lv_at hl 2 rfl) ?_
    refine lv_isub hx hb dL_draws_146 ?_
    refine lt_e hf (fun x11_147 hx11_147 hf => ?_)
    refine kr_nm hx11_147 ?_
    refine lv_istore (lv' := [(11, .int x11_147), (10, .int x10_136), (9, .int r_125), (8, .int r_117), (7, .int r_109), (6, .int r_100), (5, .int r_16), (4, .int r_9), (3, .int r_3), (0, .ref (adC G 0 0)), (1, .int x1), (2, .int x2)]) hx hb dL_draws_147 hl (by decide) rfl (fun ls hl => ?_)
    refine lv_iload hx hb dL_draws_149 (lv_at hl 1 rfl) ?_
    refine lv_iload hx hb dL_draws_151 (lv_at hl 7 rfl) ?_
    refine lv_iload hx hb dL_draws_153 (lv_at hl 0 rfl) ?_
    refine lv_iadd hx hb dL_draws_155 ?_
    refine lv_iload hx hb dL_draws_156 (lv_at hl 2 rfl) ?_
    refine lv_iadd hx hb dL_draws_158 ?_
    refine lv_icmp_ne (tgt := 322) hx hb dL_draws_159 (by decide) (fun hc => ?_) (fun hc => ?_)
    · have hf := if_f hf hc
      exact w_L_draws_b322 E hf hP hS (lv_sub hl [] rfl)
    · have hf := if_t hf hc
      refine lv_aload_n hx hb dL_draws_162 rfl (lv_at hl 9 rfl) ?_
      refine lv_iconst (v := 4) hx hb dL_draws_163 (by decide) ?_
      refine ob_e hf (fun r_164 M_164 hq hf => ?_)
      refine cv_X7_count E hP hS hq w_414 ⟨Nat.le_of_ble_eq_true rfl, Nat.le_of_ble_eq_true rfl⟩ hl (Nat.le_of_ble_eq_true rfl) dL_draws_164 ⟨Nat.le_of_ble_eq_true rfl, Nat.le_of_ble_eq_true rfl⟩ (fun H locs hP hS => ?_)
      refine lv_iload hx hb dL_draws_167 (lv_at hl 1 rfl) ?_
      refine lv_icmp_ne (tgt := 322) hx hb dL_draws_169 (by decide) (fun hc => ?_) (fun hc => ?_)
      · have hf := if_f hf hc
        exact w_L_draws_b322 E hf hP hS (lv_sub hl [] rfl)
      · have hf := if_t hf hc
        refine lv_aload_n hx hb dL_draws_172 rfl (lv_at hl 9 rfl) ?_
        refine lv_iload hx hb dL_draws_173 (lv_at hl 6 rfl) ?_
        refine lv_iconst (v := 2) hx hb dL_draws_175 (by decide) ?_
        refine ob_e hf (fun r_176 M_176 hq hf => ?_)
        refine cv_X7_penOf E hP hS hq w_461 ⟨Nat.le_of_ble_eq_true rfl, Nat.le_of_ble_eq_true rfl⟩ hl (Nat.le_of_ble_eq_true rfl) dL_draws_176 ⟨Nat.le_of_ble_eq_true rfl, Nat.le_of_ble_eq_true rfl⟩ (fun H locs hP hS => ?_)
        refine lv_iload hx hb dL_draws_179 (lv_at hl 5 rfl) ?_
        refine lv_iconst (v := 1) hx hb dL_draws_181 (by decide) ?_
        refine lv_aload_n hx hb dL_draws_182 rfl (lv_at hl 9 rfl) ?_
        refine lv_iload hx hb dL_draws_183 (lv_at hl 6 rfl) ?_
        refine lv_iconst (v := 0) hx hb dL_draws_185 (by decide) ?_
        refine ob_e hf (fun r_186 M_186 hq hf => ?_)
        refine cv_X7_penOf E hP hS hq w_461 ⟨Nat.le_of_ble_eq_true rfl, Nat.le_of_ble_eq_true rfl⟩ hl (Nat.le_of_ble_eq_true rfl) dL_draws_186 ⟨Nat.le_of_ble_eq_true rfl, Nat.le_of_ble_eq_true rfl⟩ (fun H locs hP hS => ?_)
        refine lv_iadd hx hb dL_draws_189 ?_
        refine lv_iload hx hb dL_draws_190 (lv_at hl 2 rfl) ?_
        refine lv_imul hx hb dL_draws_192 ?_
        refine lv_isub hx hb dL_draws_193 ?_
        refine lv_icmp_ne (tgt := 322) hx hb dL_draws_194 (by decide) (fun hc => ?_) (fun hc => ?_)
        · have hf := if_f hf hc
          exact w_L_draws_b322 E hf hP hS (lv_sub hl [] rfl)
        · have hf := if_t hf hc
          refine lv_aload_n hx hb dL_draws_197 rfl (lv_at hl 9 rfl) ?_
          refine lv_iload hx hb dL_draws_198 (lv_at hl 6 rfl) ?_
          refine lv_iconst (v := 3) hx hb dL_draws_200 (by decide) ?_
          refine ob_e hf (fun r_201 M_201 hq hf => ?_)
          refine cv_X7_penOf E hP hS hq w_461 ⟨Nat.le_of_ble_eq_true rfl, Nat.le_of_ble_eq_true rfl⟩ hl (Nat.le_of_ble_eq_true rfl) dL_draws_201 ⟨Nat.le_of_ble_eq_true rfl, Nat.le_of_ble_eq_true rfl⟩ (fun H locs hP hS => ?_)
          refine lv_iload hx hb dL_draws_204 (lv_at hl 4 rfl) ?_
          refine lv_iload hx hb dL_draws_206 (lv_at hl 2 rfl) ?_
          refine lv_iadd hx hb dL_draws_208 ?_
          refine lv_icmp_ne (tgt := 322) hx hb dL_draws_209 (by decide) (fun hc => ?_) (fun hc => ?_)
          · have hf := if_f hf hc
            exact w_L_draws_b322 E hf hP hS (lv_sub hl [] rfl)
          · have hf := if_t hf hc
            refine lv_aload_n hx hb dL_draws_212 rfl (lv_at hl 9 rfl) ?_
            refine lv_iload hx hb dL_draws_213 (lv_at hl 6 rfl) ?_
            refine lv_iconst (v := 4) hx hb dL_draws_215 (by decide) ?_
            refine ob_e hf (fun r_216 M_216 hq hf => ?_)
            refine cv_X7_penOf E hP hS hq w_461 ⟨Nat.le_of_ble_eq_true rfl, Nat.le_of_ble_eq_true rfl⟩ hl (Nat.le_of_ble_eq_true rfl) dL_draws_216 ⟨Nat.le_of_ble_eq_true rfl, Nat.le_of_ble_eq_true rfl⟩ (fun H locs hP hS => ?_)
            refine lv_if_ne (tgt := 322) hx hb dL_draws_219 (by decide) (fun hc => ?_) (fun hc => ?_)
            · have hf := if_f hf hc
              exact w_L_draws_b322 E hf hP hS (lv_sub hl [] rfl)
            · have hf := if_t hf hc
              refine lv_aload_n hx hb dL_draws_222 rfl (lv_at hl 9 rfl) ?_
              refine lv_iload_n hx hb dL_draws_223 rfl (lv_at hl 10 rfl) ?_
              refine lv_bipush (v := 6) hx hb dL_draws_224 (by decide) ?_
              refine ob_e hf (fun r_226 M_226 hq hf => ?_)
              refine cv_X7_lineOf E hP hS hq w_509 ⟨Nat.le_of_ble_eq_true rfl, Nat.le_of_ble_eq_true rfl⟩ hl (Nat.le_of_ble_eq_true rfl) dL_draws_226 ⟨Nat.le_of_ble_eq_true rfl, Nat.le_of_ble_eq_true rfl⟩ (fun H locs hP hS => ?_)
              refine lv_iload hx hb dL_draws_229 (lv_at hl 6 rfl) ?_
              refine lv_icmp_ne (tgt := 322) hx hb dL_draws_231 (by decide) (fun hc => ?_) (fun hc => ?_)
              · have hf := if_f hf hc
                exact w_L_draws_b322 E hf hP hS (lv_sub hl [] rfl)
              · have hf := if_t hf hc
                refine lv_aload_n hx hb dL_draws_234 rfl (lv_at hl 9 rfl) ?_
                refine lv_iload_n hx hb dL_draws_235 rfl (lv_at hl 10 rfl) ?_
                refine lv_bipush (v := 7) hx hb dL_draws_236 (by decide) ?_
                refine ob_e hf (fun r_238 M_238 hq hf => ?_)
                refine cv_X7_lineOf E hP hS hq w_509 ⟨Nat.le_of_ble_eq_true rfl, Nat.le_of_ble_eq_true rfl⟩ hl (Nat.le_of_ble_eq_true rfl) dL_draws_238 ⟨Nat.le_of_ble_eq_true rfl, Nat.le_of_ble_eq_true rfl⟩ (fun H locs hP hS => ?_)
                refine lv_iload hx hb dL_draws_241 (lv_at hl 1 rfl) ?_
                refine lv_icmp_ne (tgt := 322) hx hb dL_draws_243 (by decide) (fun hc => ?_) (fun hc => ?_)
                · have hf := if_f hf hc
                  exact w_L_draws_b322 E hf hP hS (lv_sub hl [] rfl)
                · have hf := if_t hf hc
                  refine lv_aload_n hx hb dL_draws_246 rfl (lv_at hl 9 rfl) ?_
                  refine lv_iload_n hx hb dL_draws_247 rfl (lv_at hl 10 rfl) ?_
                  refine lv_bipush (v := 8) hx hb dL_draws_248 (by decide) ?_
                  refine ob_e hf (fun r_250 M_250 hq hf => ?_)
                  refine cv_X7_lineOf E hP hS hq w_509 ⟨Nat.le_of_ble_eq_true rfl, Nat.le_of_ble_eq_true rfl⟩ hl (Nat.le_of_ble_eq_true rfl) dL_draws_250 ⟨Nat.le_of_ble_eq_true rfl, Nat.le_of_ble_eq_true rfl⟩ (fun H locs hP hS => ?_)
                  refine lv_aload_n hx hb dL_draws_253 rfl (lv_at hl 9 rfl) ?_
                  refine lv_bipush (v := 22) hx hb dL_draws_254 (by decide) ?_
                  refine ob_e hf (fun r_256 M_256 hq hf => ?_)
                  refine cv_X7_count E hP hS hq w_414 ⟨Nat.le_of_ble_eq_true rfl, Nat.le_of_ble_eq_true rfl⟩ hl (Nat.le_of_ble_eq_true rfl) dL_draws_256 ⟨Nat.le_of_ble_eq_true rfl, Nat.le_of_ble_eq_true rfl⟩ (fun H locs hP hS => ?_)
                  refine lv_if_le (tgt := 266) hx hb dL_draws_259 (by decide) (fun hc => ?_) (fun hc => ?_)
                  · have hf := if_t hf hc
                    refine lv_iconst (v := 0) hx hb dL_draws_266 (by decide) ?_
                    exact w_L_draws_b267 E hf hP hS (lv_sub hl [9, 10, 11] rfl)
                  · have hf := if_f hf hc
                    refine lv_iconst (v := 1) hx hb dL_draws_262 (by decide) ?_
                    refine lv_goto (tgt := 267) hx hb dL_draws_263 (by decide) ?_
                    exact w_L_draws_b267 E hf hP hS (lv_sub hl [9, 10, 11] rfl)
  · have hf := if_f hf hc
    refine lv_aload_n hx hb dL_draws_25 rfl (lv_at hl 3 rfl) ?_
    refine lv_iload_n hx hb dL_draws_26 rfl (lv_at hl 4 rfl) ?_
    refine lv_iload_n hx hb dL_draws_27 rfl (lv_at hl 5 rfl) ?_
    refine ob_e hf (fun r_28 M_28 hq hf => ?_)
    refine cv_X7_draw E hP hS hq w_635 ⟨Nat.le_of_ble_eq_true rfl, Nat.le_of_ble_eq_true rfl⟩ hl (Nat.le_of_ble_eq_true rfl) dL_draws_28 ⟨Nat.le_of_ble_eq_true rfl, Nat.le_of_ble_eq_true rfl⟩ (fun H locs hP hS => ?_)
    refine lv_ldc (v := (-1000002)) hx hb hown (hts _ w_490) dL_draws_31 ?_
    refine lv_icmp_ne (tgt := 94) hx hb dL_draws_33 (by decide) (fun hc => ?_) (fun hc => ?_)
    · have hf := if_f hf hc
      exact w_L_draws_b94 E hf hP hS (lv_sub hl [] rfl)
    · have hf := if_t hf hc
      refine lv_aload_n hx hb dL_draws_36 rfl (lv_at hl 3 rfl) ?_
      refine lv_iconst (v := 4) hx hb dL_draws_37 (by decide) ?_
      refine ob_e hf (fun r_38 M_38 hq hf => ?_)
      refine cv_X7_count E hP hS hq w_414 ⟨Nat.le_of_ble_eq_true rfl, Nat.le_of_ble_eq_true rfl⟩ hl (Nat.le_of_ble_eq_true rfl) dL_draws_38 ⟨Nat.le_of_ble_eq_true rfl, Nat.le_of_ble_eq_true rfl⟩ (fun H locs hP hS => ?_)
      refine lv_iload hx hb dL_draws_41 (lv_at hl 1 rfl) ?_
      refine lv_icmp_ne (tgt := 94) hx hb dL_draws_43 (by decide) (fun hc => ?_) (fun hc => ?_)
      · have hf := if_f hf hc
        exact w_L_draws_b94 E hf hP hS (lv_sub hl [] rfl)
      · have hf := if_t hf hc
        refine lv_iload_n hx hb dL_draws_46 rfl (lv_at hl 2 rfl) ?_
        refine lv_iconst (v := 1) hx hb dL_draws_47 (by decide) ?_
        refine lv_icmp_ne (tgt := 58) hx hb dL_draws_48 (by decide) (fun hc => ?_) (fun hc => ?_)
        · have hf := if_f hf hc
          exact w_L_draws_b58 E hf hP hS (lv_sub hl [3, 4, 2, 0] rfl)
        · have hf := if_t hf hc
          refine lv_iload hx hb dL_draws_51 (lv_at hl 0 rfl) ?_
          refine lv_ldc (v := (-1000004)) hx hb hown (hts _ w_489) dL_draws_53 ?_
          refine lv_icmp_ne (tgt := 94) hx hb dL_draws_55 (by decide) (fun hc => ?_) (fun hc => ?_)
          · have hf := if_f hf hc
            exact w_L_draws_b94 E hf hP hS (lv_sub hl [] rfl)
          · have hf := if_t hf hc
            exact w_L_draws_b58 E hf hP hS (lv_sub hl [3, 4, 2, 0] rfl)
theorem c_L_draws (l : Launch) {G : GG} {ns : Nat} {x1 : Int32} {x2 : Int32} {M : Mem} {r : (Int32 × Nat)} {M' : Mem} (hf : f_L_draws ns x1 x2 M = some (r, M')) : CtI l yL_draws cL_draws 12 (some .boolean) rm_L_draws [.ref (adC G 0 0), .int x1, .int x2] G (AC G) (XC G ns) (szC G ns) M r.1 (XC G r.2) (szC G r.2) M' := by
  refine Ct_of (by decide) (Nat.le_of_ble_eq_true rfl) (fun p e s m below meth c ls hx hb hr hlocks hml hown hts hK hP hl => ?_)
  exact w_L_draws ⟨hx, hb, hr, hlocks, hml, hown, hts, hK⟩ hf hP va_S.rf hl
set_option maxRecDepth 100000 in
theorem cv_L_draws {p : Program} {l : Launch} {e : Env} {R : Room} {s : State} {m : MethodId} {args : Array Value} {below : List Frame} {meth : Method} {c : Code} {H : Heap} {locs : List Loc} {cells slots : Nat} {Q : State → Prop} {cc : ByteArray} {pc nL index : Nat} {ret : Option FieldType} {own : String} {ls : Array Slot} {rest : List Value} {l' : List (Nat × Value)} {G : GG} {ns : Nat} {M : Mem} (E : Cx p s m args meth c cc ret nL own G) (hP : PW G (AC G) (XC G ns) (szC G ns) M s H) (hS : va_S (AC G) s.heap H locs) {x1 : Int32} {x2 : Int32} {r : (Int32 × Nat)} {M' : Mem} (hq : f_L_draws ns x1 x2 M = some (r, M')) (w1 : Cond.methodLink own index yL_draws ∈ lw_all) (hR : 7 ≤ R.frames ∧ 198 ≤ R.locals) (hl : lv_has ls nL l') (hrest : (rest.map fun v => v.category).sum ≤ 8) (hdg : decode cc pc = .ok (.invokestatic index, 3)) (hcs : cells + 21 ≤ R.cells ∧ slots + 228 ≤ R.slots)
    (kk : ∀ (H1 : Heap) (locs1 : List Loc), PW G (AC G) (XC G r.2) (szC G r.2) M' s H1 → va_S (AC G) s.heap H1 locs1 → W p l e R s m args below meth c H1 locs1 (cells + 21) (slots + 228) Q (F0 m (pc + 3) ls (.int r.1 :: rest))) : W p l e R s m args below meth c H locs cells slots Q (F0 m pc ls (.int x2 :: .int x1 :: .ref (adC G 0 0) :: rest)) := by
  obtain ⟨hx, hb, hr, hlocks, hml, hown, hts, hK⟩ := E
  exact kc_i (kc_runS (na := 3) hx hb hml hts hown hK hP (c_L_draws l hq) w1 w_601 w_0 w_602 (by decide +kernel) hR rfl hl rfl hrest hdg hcs) hS kk
/-! L_acts -/
abbrev rm_L_acts : Room := { frames := 7, cells := 21, slots := 228, locals := 198 }
def f_L_acts_b459 (ns : Nat) (s0 : Int32) (M : Mem) : Option ((Int32 × Nat) × Mem) :=
ck (bl s0) <|
some ((s0, ns), M)
def f_L_acts_b431 (ns : Nat) (s0 : Int32) (M : Mem) : Option ((Int32 × Nat) × Mem) :=
ck (bl s0) <|
some ((s0, ns), M)
def f_L_acts_b430 (ns : Nat) (M : Mem) : Option ((Int32 × Nat) × Mem) :=
f_L_acts_b431 ns 0 M
def f_L_acts_b426 (ns : Nat) (M : Mem) : Option ((Int32 × Nat) × Mem) :=
f_L_acts_b431 ns 1 M
def f_L_acts_b383 (ns : Nat) (x5 : Int32) (x13 : Int32) (s0 : Int32) (M : Mem) : Option ((Int32 × Nat) × Mem) :=
ob (f_X7_clean ns M) fun r_386 M_386 =>
(if (r_386.1) = s0 then
  (if x13 < 0 then
    f_L_acts_b426 r_386.2 M_386
  else
    ob (f_X7_penOf x13 4 M_386) fun r_403 M_403 =>
    (if r_403 = 0 then
      ob (f_X7_count 4 M_403) fun r_411 M_411 =>
      ob (f_X7_count 24 M_411) fun r_419 M_419 =>
      (if r_411 = (x5 + r_419) then
        f_L_acts_b426 r_386.2 M_419
      else
        f_L_acts_b430 r_386.2 M_419)
    else
      f_L_acts_b430 r_386.2 M_403))
else
  f_L_acts_b430 r_386.2 M_386)
def f_L_acts_b358 (ns : Nat) (s0 : Int32) (M : Mem) : Option ((Int32 × Nat) × Mem) :=
ck (bl s0) <|
some ((s0, ns), M)
def f_L_acts_b357 (ns : Nat) (M : Mem) : Option ((Int32 × Nat) × Mem) :=
f_L_acts_b358 ns 0 M
def f_L_acts_b353 (ns : Nat) (M : Mem) : Option ((Int32 × Nat) × Mem) :=
f_L_acts_b358 ns 1 M
def f_L_acts_b323 (ns : Nat) (x4 : Int32) (x11 : Int32) (x12 : Int32) (s0 : Int32) (s1 : Int32) (M : Mem) : Option ((Int32 × Nat) × Mem) :=
(if s0 = s1 then
  ob (f_X7_lineOf x4 5 M) fun r_330 M_330 =>
  (if r_330 = 0 then
    (if x11 < 0 then
      f_L_acts_b353 ns M_330
    else
      ob (f_X7_penOf x11 2 M_330) fun r_345 M_345 =>
      (if r_345 = x12 then
        f_L_acts_b353 ns M_345
      else
        f_L_acts_b357 ns M_345))
  else
    f_L_acts_b357 ns M_330)
else
  f_L_acts_b357 ns M)
def f_L_acts_b303 (ns : Nat) (x4 : Int32) (x11 : Int32) (s0 : Int32) (M : Mem) : Option ((Int32 × Nat) × Mem) :=
ob (f_X7_erase ns x4 M) fun r_308 M_308 =>
(if 0 ≤ x11 then
  f_L_acts_b323 r_308.2 x4 x11 s0 (r_308.1) x11 M_308
else
  f_L_acts_b323 r_308.2 x4 x11 s0 (r_308.1) (-1000002) M_308)
def f_L_acts_b276 (ns : Nat) (s0 : Int32) (M : Mem) : Option ((Int32 × Nat) × Mem) :=
ck (bl s0) <|
some ((s0, ns), M)
def f_L_acts_b275 (ns : Nat) (M : Mem) : Option ((Int32 × Nat) × Mem) :=
f_L_acts_b276 ns 0 M
def f_L_acts_b253 (ns : Nat) (x3 : Int32) (s0 : Int32) (s1 : Int32) (M : Mem) : Option ((Int32 × Nat) × Mem) :=
(if s0 = s1 then
  ob (f_X7_penOf x3 2 M) fun r_259 M_259 =>
  ob (f_X7_penOf x3 1 M_259) fun r_265 M_265 =>
  (if r_259 = r_265 then
    f_L_acts_b276 ns 1 M_265
  else
    f_L_acts_b275 ns M_265)
else
  f_L_acts_b275 ns M)
def f_L_acts_b220 (ns : Nat) (s0 : Int32) (M : Mem) : Option ((Int32 × Nat) × Mem) :=
ck (bl s0) <|
some ((s0, ns), M)
def f_L_acts_b158 (ns : Nat) (s0 : Int32) (M : Mem) : Option ((Int32 × Nat) × Mem) :=
ck (bl s0) <|
some ((s0, ns), M)
def f_L_acts_b131 (ns : Nat) (M : Mem) : Option ((Int32 × Nat) × Mem) :=
f_L_acts_b158 ns 0 M
def f_L_acts_b157 (ns : Nat) (M : Mem) : Option ((Int32 × Nat) × Mem) :=
f_L_acts_b158 ns 0 M
def f_L_acts (ns : Nat) (x1 : Int32) (M : Mem) : Option ((Int32 × Nat) × Mem) :=
lt ((x1 / 8)) fun x2_4 =>
lt ((x2_4 - x2_4 / 3 * 3)) fun x3_8 =>
lt (((x2_4 / 4) - (x2_4 / 4) / 8 * 8)) fun x4_15 =>
ob (f_X7_count 4 M) fun r_19 M_19 =>
(if (x1 - x1 / 8 * 8) = 0 then
  ob (f_X7_count 9 M_19) fun r_71 M_71 =>
  ob (f_X7_take ns x3_8 M_71) fun r_78 M_78 =>
  lt (r_78.1) fun x7_81 =>
  (if x7_81 < 0 then
    (if x7_81 = (-1000002) then
      ob (f_X7_count 9 M_78) fun r_145 M_145 =>
      (if r_145 = r_71 then
        f_L_acts_b158 r_78.2 1 M_145
      else
        f_L_acts_b157 r_78.2 M_145)
    else
      f_L_acts_b157 r_78.2 M_78)
  else
    ob (f_X7_count 5 M_78) fun r_90 M_90 =>
    (if r_90 = x3_8 then
      ob (f_X7_count 9 M_90) fun r_100 M_100 =>
      (if r_100 = (r_71 + 1) then
        ob (f_X7_count 4 M_100) fun r_112 M_112 =>
        ob (f_X7_count 23 M_112) fun r_120 M_120 =>
        (if r_112 = (r_19 + r_120) then
          f_L_acts_b158 r_78.2 1 M_120
        else
          f_L_acts_b131 r_78.2 M_120)
      else
        f_L_acts_b131 r_78.2 M_100)
    else
      f_L_acts_b131 r_78.2 M_90))
else
(if (x1 - x1 / 8 * 8) = 1 then
  ob (f_X7_penOf x3_8 7 M_19) fun r_163 M_163 =>
  ob (f_X7_leave ns x3_8 (1 - r_163) M_163) fun r_174 M_174 =>
  lt (r_174.1) fun x9_177 =>
  (if x9_177 < 0 then
    ob (f_X7_count 5 M_174) fun r_208 M_208 =>
    (if r_208 = x3_8 then
      f_L_acts_b220 r_174.2 1 M_208
    else
      f_L_acts_b220 r_174.2 0 M_208)
  else
    ob (f_X7_penOf x3_8 7 M_174) fun r_188 M_188 =>
    (if r_188 = (1 - r_163) then
      f_L_acts_b220 r_174.2 1 M_188
    else
      f_L_acts_b220 r_174.2 0 M_188))
else
(if (x1 - x1 / 8 * 8) = 2 then
  ob (f_X7_penOf x3_8 1 M_19) fun r_224 M_224 =>
  ob (f_X7_penOf x3_8 2 M_224) fun r_230 M_230 =>
  lt ((r_224 - r_230)) fun x10_234 =>
  ob (f_X7_refill ns x3_8 M_230) fun r_238 M_238 =>
  (if x10_234 = 0 then
    f_L_acts_b253 r_238.2 x3_8 (r_238.1) (-1000002) M_238
  else
    f_L_acts_b253 r_238.2 x3_8 (r_238.1) x10_234 M_238)
else
(if (x1 - x1 / 8 * 8) = 3 then
  ob (f_X7_lineOf x4_15 6 M_19) fun r_282 M_282 =>
  (if 0 ≤ r_282 then
    ob (f_X7_penOf r_282 2 M_282) fun r_300 M_300 =>
    f_L_acts_b303 ns x4_15 r_282 r_300 M_300
  else
    f_L_acts_b303 ns x4_15 r_282 0 M_282)
else
(if (x1 - x1 / 8 * 8) = 4 then
  ob (f_X7_count 5 M_19) fun r_361 M_361 =>
  (if 0 ≤ r_361 then
    ob (f_X7_penOf r_361 4 M_361) fun r_380 M_380 =>
    f_L_acts_b383 ns r_19 r_361 r_380 M_380
  else
    f_L_acts_b383 ns r_19 r_361 (-1000002) M_361)
else
(if (x1 - x1 / 8 * 8) = 5 then
  ob (f_X7_waits ns (1 + (x2_4 - x2_4 / 20 * 20)) M_19) fun r_439 M_439 =>
  (if (r_439.1) = ((r_19 + 1) + (x2_4 - x2_4 / 20 * 20)) then
    f_L_acts_b459 r_439.2 1 M_439
  else
    f_L_acts_b459 r_439.2 0 M_439)
else
  ob (f_L_draws ns x4_15 ((x2_4 / 64) - (x2_4 / 64) / 2 * 2) M_19) fun r_469 M_469 =>
  ck (bl (r_469.1)) <|
  some ((r_469.1, r_469.2), M_469)))))))
set_option maxHeartbeats 4000000 in
set_option maxRecDepth 100000 in
theorem w_L_acts_b459 {p : Program} {l : Launch} {e : Env} {s : State} {m : MethodId} {args : Array Value} {below : List Frame} {meth : Method} {c : Code} {G : GG} {ns : Nat} {r : (Int32 × Nat)} {M' : Mem} (E : Cx p s m args meth c cL_acts (some .boolean) 15 RL G) {s0 : Int32} {M : Mem} {H : Heap} {locs : List Loc} {ls : Array Slot} (hf : f_L_acts_b459 ns s0 M = some (r, M')) (hP : PW G (AC G) (XC G ns) (szC G ns) M s H) (hS : va_S (AC G) s.heap H locs) (hl : lv_has ls 15 []) : W p l e rm_L_acts s m args below meth c H locs 21 228 (MQ below (va_Qi (fun (r2 : Int32) (_ : Unit) => r2 = r.1) (fun _ t => PW G (AC G) (XC G r.2) (szC G r.2) M' t t.heap) (AC G)) args s 21 228 (AC G)) (F0 m 459 ls [.int s0]) := by
  obtain ⟨hx, hb, hr, hlocks, hml, hown, hts, hK⟩ := id E
  unfold f_L_acts_b459 at hf
  refine ck_e hf (fun hn hf => ?_)
  exact en_ia hf hx hb hr (bl_nar hn) hlocks hP hS dL_acts_459
set_option maxHeartbeats 4000000 in
set_option maxRecDepth 100000 in
theorem w_L_acts_b431 {p : Program} {l : Launch} {e : Env} {s : State} {m : MethodId} {args : Array Value} {below : List Frame} {meth : Method} {c : Code} {G : GG} {ns : Nat} {r : (Int32 × Nat)} {M' : Mem} (E : Cx p s m args meth c cL_acts (some .boolean) 15 RL G) {s0 : Int32} {M : Mem} {H : Heap} {locs : List Loc} {ls : Array Slot} (hf : f_L_acts_b431 ns s0 M = some (r, M')) (hP : PW G (AC G) (XC G ns) (szC G ns) M s H) (hS : va_S (AC G) s.heap H locs) (hl : lv_has ls 15 []) : W p l e rm_L_acts s m args below meth c H locs 21 228 (MQ below (va_Qi (fun (r2 : Int32) (_ : Unit) => r2 = r.1) (fun _ t => PW G (AC G) (XC G r.2) (szC G r.2) M' t t.heap) (AC G)) args s 21 228 (AC G)) (F0 m 431 ls [.int s0]) := by
  obtain ⟨hx, hb, hr, hlocks, hml, hown, hts, hK⟩ := id E
  unfold f_L_acts_b431 at hf
  refine ck_e hf (fun hn hf => ?_)
  exact en_ia hf hx hb hr (bl_nar hn) hlocks hP hS dL_acts_431
set_option maxHeartbeats 4000000 in
set_option maxRecDepth 100000 in
theorem w_L_acts_b430 {p : Program} {l : Launch} {e : Env} {s : State} {m : MethodId} {args : Array Value} {below : List Frame} {meth : Method} {c : Code} {G : GG} {ns : Nat} {r : (Int32 × Nat)} {M' : Mem} (E : Cx p s m args meth c cL_acts (some .boolean) 15 RL G) {M : Mem} {H : Heap} {locs : List Loc} {ls : Array Slot} (hf : f_L_acts_b430 ns M = some (r, M')) (hP : PW G (AC G) (XC G ns) (szC G ns) M s H) (hS : va_S (AC G) s.heap H locs) (hl : lv_has ls 15 []) : W p l e rm_L_acts s m args below meth c H locs 21 228 (MQ below (va_Qi (fun (r2 : Int32) (_ : Unit) => r2 = r.1) (fun _ t => PW G (AC G) (XC G r.2) (szC G r.2) M' t t.heap) (AC G)) args s 21 228 (AC G)) (F0 m 430 ls []) := by
  obtain ⟨hx, hb, hr, hlocks, hml, hown, hts, hK⟩ := id E
  unfold f_L_acts_b430 at hf
  refine lv_iconst (v := 0) hx hb dL_acts_430 (by decide) ?_
  exact w_L_acts_b431 E hf hP hS (lv_sub hl [] rfl)
set_option maxHeartbeats 4000000 in
set_option maxRecDepth 100000 in
theorem w_L_acts_b426 {p : Program} {l : Launch} {e : Env} {s : State} {m : MethodId} {args : Array Value} {below : List Frame} {meth : Method} {c : Code} {G : GG} {ns : Nat} {r : (Int32 × Nat)} {M' : Mem} (E : Cx p s m args meth c cL_acts (some .boolean) 15 RL G) {M : Mem} {H : Heap} {locs : List Loc} {ls : Array Slot} (hf : f_L_acts_b426 ns M = some (r, M')) (hP : PW G (AC G) (XC G ns) (szC G ns) M s H) (hS : va_S (AC G) s.heap H locs) (hl : lv_has ls 15 []) : W p l e rm_L_acts s m args below meth c H locs 21 228 (MQ below (va_Qi (fun (r2 : Int32) (_ : Unit) => r2 = r.1) (fun _ t => PW G (AC G) (XC G r.2) (szC G r.2) M' t t.heap) (AC G)) args s 21 228 (AC G)) (F0 m 426 ls []) := by
  obtain ⟨hx, hb, hr, hlocks, hml, hown, hts, hK⟩ := id E
  unfold f_L_acts_b426 at hf
  refine lv_iconst (v := 1) hx hb dL_acts_426 (by decide) ?_
  refine lv_goto (tgt := 431) hx hb dL_acts_427 (by decide) ?_
  exact w_L_acts_b431 E hf hP hS (lv_sub hl [] rfl)
set_option maxHeartbeats 4000000 in
set_option maxRecDepth 100000 in
theorem w_L_acts_b383 {p : Program} {l : Launch} {e : Env} {s : State} {m : MethodId} {args : Array Value} {below : List Frame} {meth : Method} {c : Code} {G : GG} {ns : Nat} {r : (Int32 × Nat)} {M' : Mem} (E : Cx p s m args meth c cL_acts (some .boolean) 15 RL G) {x5 : Int32} {x13 : Int32} {s0 : Int32} {M : Mem} {H : Heap} {locs : List Loc} {ls : Array Slot} (hf : f_L_acts_b383 ns x5 x13 s0 M = some (r, M')) (hP : PW G (AC G) (XC G ns) (szC G ns) M s H) (hS : va_S (AC G) s.heap H locs) (hl : lv_has ls 15 [(0, .ref (adC G 0 0)), (5, .int x5), (13, .int x13)]) : W p l e rm_L_acts s m args below meth c H locs 0 0 (MQ below (va_Qi (fun (r2 : Int32) (_ : Unit) => r2 = r.1) (fun _ t => PW G (AC G) (XC G r.2) (szC G r.2) M' t t.heap) (AC G)) args s 21 228 (AC G)) (F0 m 383 ls [.int s0]) := by
  obtain ⟨hx, hb, hr, hlocks, hml, hown, hts, hK⟩ := id E
  unfold f_L_acts_b383 at hf
  refine lv_istore (lv' := [(14, .int s0), (0, .ref (adC G 0 0)), (5, .int x5), (13, .int x13)]) hx hb dL_acts_383 hl (by decide) rfl (fun ls hl => ?_)
  refine lv_aload_n hx hb dL_acts_385 rfl (lv_at hl 1 rfl) ?_
  refine ob_e hf (fun r_386 M_386 hq hf => ?_)
  refine cv_X7_clean E hP hS hq w_588 ⟨Nat.le_of_ble_eq_true rfl, Nat.le_of_ble_eq_true rfl⟩ hl (Nat.le_of_ble_eq_true rfl) dL_acts_386 ⟨Nat.le_of_ble_eq_true rfl, Nat.le_of_ble_eq_true rfl⟩ (fun H locs hP hS => ?_)
  refine lv_iload hx hb dL_acts_389 (lv_at hl 0 rfl) ?_
  refine lv_icmp_ne (tgt := 430) hx hb dL_acts_391 (by decide) (fun hc => ?_) (fun hc => ?_)
  · have hf := if_f hf hc
    exact w_L_acts_b430 E hf hP hS (lv_sub hl [] rfl)
  · have hf := if_t hf hc
    refine lv_iload hx hb dL_acts_394 (lv_at hl 3 rfl) ?_
    refine lv_if_lt (tgt := 426) hx hb dL_acts_396 (by decide) (fun hc => ?_) (fun hc => ?_)
    · have hf := if_t hf hc
      exact w_L_acts_b426 E hf hP hS (lv_sub hl [] rfl)
    · have hf := if_f hf hc
      refine lv_aload_n hx hb dL_acts_399 rfl (lv_at hl 1 rfl) ?_
      refine lv_iload hx hb dL_acts_400 (lv_at hl 3 rfl) ?_
      refine lv_iconst (v := 4) hx hb dL_acts_402 (by decide) ?_
      refine ob_e hf (fun r_403 M_403 hq hf => ?_)
      refine cv_X7_penOf E hP hS hq w_461 ⟨Nat.le_of_ble_eq_true rfl, Nat.le_of_ble_eq_true rfl⟩ hl (Nat.le_of_ble_eq_true rfl) dL_acts_403 ⟨Nat.le_of_ble_eq_true rfl, Nat.le_of_ble_eq_true rfl⟩ (fun H locs hP hS => ?_)
      refine lv_if_ne (tgt := 430) hx hb dL_acts_406 (by decide) (fun hc => ?_) (fun hc => ?_)
      · have hf := if_f hf hc
        exact w_L_acts_b430 E hf hP hS (lv_sub hl [] rfl)
      · have hf := if_t hf hc
        refine lv_aload_n hx hb dL_acts_409 rfl (lv_at hl 1 rfl) ?_
        refine lv_iconst (v := 4) hx hb dL_acts_410 (by decide) ?_
        refine ob_e hf (fun r_411 M_411 hq hf => ?_)
        refine cv_X7_count E hP hS hq w_414 ⟨Nat.le_of_ble_eq_true rfl, Nat.le_of_ble_eq_true rfl⟩ hl (Nat.le_of_ble_eq_true rfl) dL_acts_411 ⟨Nat.le_of_ble_eq_true rfl, Nat.le_of_ble_eq_true rfl⟩ (fun H locs hP hS => ?_)
        refine lv_iload hx hb dL_acts_414 (lv_at hl 2 rfl) ?_
        refine lv_aload_n hx hb dL_acts_416 rfl (lv_at hl 1 rfl) ?_
        refine lv_bipush (v := 24) hx hb dL_acts_417 (by decide) ?_
        refine ob_e hf (fun r_419 M_419 hq hf => ?_)
        refine cv_X7_count E hP hS hq w_414 ⟨Nat.le_of_ble_eq_true rfl, Nat.le_of_ble_eq_true rfl⟩ hl (Nat.le_of_ble_eq_true rfl) dL_acts_419 ⟨Nat.le_of_ble_eq_true rfl, Nat.le_of_ble_eq_true rfl⟩ (fun H locs hP hS => ?_)
        refine lv_iadd hx hb dL_acts_422 ?_
        refine lv_icmp_ne (tgt := 430) hx hb dL_acts_423 (by decide) (fun hc => ?_) (fun hc => ?_)
        · have hf := if_f hf hc
          exact w_L_acts_b430 E hf hP hS (lv_sub hl [] rfl)
        · have hf := if_t hf hc
          exact w_L_acts_b426 E hf hP hS (lv_sub hl [] rfl)
set_option maxHeartbeats 4000000 in
set_option maxRecDepth 100000 in
theorem w_L_acts_b358 {p : Program} {l : Launch} {e : Env} {s : State} {m : MethodId} {args : Array Value} {below : List Frame} {meth : Method} {c : Code} {G : GG} {ns : Nat} {r : (Int32 × Nat)} {M' : Mem} (E : Cx p s m args meth c cL_acts (some .boolean) 15 RL G) {s0 : Int32} {M : Mem} {H : Heap} {locs : List Loc} {ls : Array Slot} (hf : f_L_acts_b358 ns s0 M = some (r, M')) (hP : PW G (AC G) (XC G ns) (szC G ns) M s H) (hS : va_S (AC G) s.heap H locs) (hl : lv_has ls 15 []) : W p l e rm_L_acts s m args below meth c H locs 21 228 (MQ below (va_Qi (fun (r2 : Int32) (_ : Unit) => r2 = r.1) (fun _ t => PW G (AC G) (XC G r.2) (szC G r.2) M' t t.heap) (AC G)) args s 21 228 (AC G)) (F0 m 358 ls [.int s0]) := by
  obtain ⟨hx, hb, hr, hlocks, hml, hown, hts, hK⟩ := id E
  unfold f_L_acts_b358 at hf
  refine ck_e hf (fun hn hf => ?_)
  exact en_ia hf hx hb hr (bl_nar hn) hlocks hP hS dL_acts_358
set_option maxHeartbeats 4000000 in
set_option maxRecDepth 100000 in
theorem w_L_acts_b357 {p : Program} {l : Launch} {e : Env} {s : State} {m : MethodId} {args : Array Value} {below : List Frame} {meth : Method} {c : Code} {G : GG} {ns : Nat} {r : (Int32 × Nat)} {M' : Mem} (E : Cx p s m args meth c cL_acts (some .boolean) 15 RL G) {M : Mem} {H : Heap} {locs : List Loc} {ls : Array Slot} (hf : f_L_acts_b357 ns M = some (r, M')) (hP : PW G (AC G) (XC G ns) (szC G ns) M s H) (hS : va_S (AC G) s.heap H locs) (hl : lv_has ls 15 []) : W p l e rm_L_acts s m args below meth c H locs 21 228 (MQ below (va_Qi (fun (r2 : Int32) (_ : Unit) => r2 = r.1) (fun _ t => PW G (AC G) (XC G r.2) (szC G r.2) M' t t.heap) (AC G)) args s 21 228 (AC G)) (F0 m 357 ls []) := by
  obtain ⟨hx, hb, hr, hlocks, hml, hown, hts, hK⟩ := id E
  unfold f_L_acts_b357 at hf
  refine lv_iconst (v := 0) hx hb dL_acts_357 (by decide) ?_
  exact w_L_acts_b358 E hf hP hS (lv_sub hl [] rfl)
set_option maxHeartbeats 4000000 in
set_option maxRecDepth 100000 in
theorem w_L_acts_b353 {p : Program} {l : Launch} {e : Env} {s : State} {m : MethodId} {args : Array Value} {below : List Frame} {meth : Method} {c : Code} {G : GG} {ns : Nat} {r : (Int32 × Nat)} {M' : Mem} (E : Cx p s m args meth c cL_acts (some .boolean) 15 RL G) {M : Mem} {H : Heap} {locs : List Loc} {ls : Array Slot} (hf : f_L_acts_b353 ns M = some (r, M')) (hP : PW G (AC G) (XC G ns) (szC G ns) M s H) (hS : va_S (AC G) s.heap H locs) (hl : lv_has ls 15 []) : W p l e rm_L_acts s m args below meth c H locs 21 228 (MQ below (va_Qi (fun (r2 : Int32) (_ : Unit) => r2 = r.1) (fun _ t => PW G (AC G) (XC G r.2) (szC G r.2) M' t t.heap) (AC G)) args s 21 228 (AC G)) (F0 m 353 ls []) := by
  obtain ⟨hx, hb, hr, hlocks, hml, hown, hts, hK⟩ := id E
  unfold f_L_acts_b353 at hf
  refine lv_iconst (v := 1) hx hb dL_acts_353 (by decide) ?_
  refine lv_goto (tgt := 358) hx hb dL_acts_354 (by decide) ?_
  exact w_L_acts_b358 E hf hP hS (lv_sub hl [] rfl)
set_option maxHeartbeats 4000000 in
set_option maxRecDepth 100000 in
theorem w_L_acts_b323 {p : Program} {l : Launch} {e : Env} {s : State} {m : MethodId} {args : Array Value} {below : List Frame} {meth : Method} {c : Code} {G : GG} {ns : Nat} {r : (Int32 × Nat)} {M' : Mem} (E : Cx p s m args meth c cL_acts (some .boolean) 15 RL G) {x4 : Int32} {x11 : Int32} {x12 : Int32} {s0 : Int32} {s1 : Int32} {M : Mem} {H : Heap} {locs : List Loc} {ls : Array Slot} (hf : f_L_acts_b323 ns x4 x11 x12 s0 s1 M = some (r, M')) (hP : PW G (AC G) (XC G ns) (szC G ns) M s H) (hS : va_S (AC G) s.heap H locs) (hl : lv_has ls 15 [(0, .ref (adC G 0 0)), (4, .int x4), (11, .int x11), (12, .int x12)]) : W p l e rm_L_acts s m args below meth c H locs 21 228 (MQ below (va_Qi (fun (r2 : Int32) (_ : Unit) => r2 = r.1) (fun _ t => PW G (AC G) (XC G r.2) (szC G r.2) M' t t.heap) (AC G)) args s 21 228 (AC G)) (F0 m 323 ls [.int s1, .int s0]) := by
  obtain ⟨hx, hb, hr, hlocks, hml, hown, hts, hK⟩ := id E
  unfold f_L_acts_b323 at hf
  refine lv_icmp_ne (tgt := 357) hx hb dL_acts_323 (by decide) (fun hc => ?_) (fun hc => ?_)
  · have hf := if_f hf hc
    exact w_L_acts_b357 E hf hP hS (lv_sub hl [] rfl)
  · have hf := if_t hf hc
    refine lv_aload_n hx hb dL_acts_326 rfl (lv_at hl 0 rfl) ?_
    refine lv_iload hx hb dL_acts_327 (lv_at hl 1 rfl) ?_
    refine lv_iconst (v := 5) hx hb dL_acts_329 (by decide) ?_
    refine ob_e hf (fun r_330 M_330 hq hf => ?_)
    refine cv_X7_lineOf E hP hS hq w_509 ⟨Nat.le_of_ble_eq_true rfl, Nat.le_of_ble_eq_true rfl⟩ hl (Nat.le_of_ble_eq_true rfl) dL_acts_330 ⟨Nat.le_of_ble_eq_true rfl, Nat.le_of_ble_eq_true rfl⟩ (fun H locs hP hS => ?_)
    refine lv_if_ne (tgt := 357) hx hb dL_acts_333 (by decide) (fun hc => ?_) (fun hc => ?_)
    · have hf := if_f hf hc
      exact w_L_acts_b357 E hf hP hS (lv_sub hl [] rfl)
    · have hf := if_t hf hc
      refine lv_iload hx hb dL_acts_336 (lv_at hl 2 rfl) ?_
      refine lv_if_lt (tgt := 353) hx hb dL_acts_338 (by decide) (fun hc => ?_) (fun hc => ?_)
      · have hf := if_t hf hc
        exact w_L_acts_b353 E hf hP hS (lv_sub hl [] rfl)
      · have hf := if_f hf hc
        refine lv_aload_n hx hb dL_acts_341 rfl (lv_at hl 0 rfl) ?_
        refine lv_iload hx hb dL_acts_342 (lv_at hl 2 rfl) ?_
        refine lv_iconst (v := 2) hx hb dL_acts_344 (by decide) ?_
        refine ob_e hf (fun r_345 M_345 hq hf => ?_)
        refine cv_X7_penOf E hP hS hq w_461 ⟨Nat.le_of_ble_eq_true rfl, Nat.le_of_ble_eq_true rfl⟩ hl (Nat.le_of_ble_eq_true rfl) dL_acts_345 ⟨Nat.le_of_ble_eq_true rfl, Nat.le_of_ble_eq_true rfl⟩ (fun H locs hP hS => ?_)
        refine lv_iload hx hb dL_acts_348 (lv_at hl 3 rfl) ?_
        refine lv_icmp_ne (tgt := 357) hx hb dL_acts_350 (by decide) (fun hc => ?_) (fun hc => ?_)
        · have hf := if_f hf hc
          exact w_L_acts_b357 E hf hP hS (lv_sub hl [] rfl)
        · have hf := if_t hf hc
          exact w_L_acts_b353 E hf hP hS (lv_sub hl [] rfl)
set_option maxHeartbeats 4000000 in
set_option maxRecDepth 100000 in
theorem w_L_acts_b303 {p : Program} {l : Launch} {e : Env} {s : State} {m : MethodId} {args : Array Value} {below : List Frame} {meth : Method} {c : Code} {G : GG} {ns : Nat} {r : (Int32 × Nat)} {M' : Mem} (E : Cx p s m args meth c cL_acts (some .boolean) 15 RL G) {x4 : Int32} {x11 : Int32} {s0 : Int32} {M : Mem} {H : Heap} {locs : List Loc} {ls : Array Slot} (hf : f_L_acts_b303 ns x4 x11 s0 M = some (r, M')) (hP : PW G (AC G) (XC G ns) (szC G ns) M s H) (hS : va_S (AC G) s.heap H locs) (hl : lv_has ls 15 [(0, .ref (adC G 0 0)), (4, .int x4), (11, .int x11)]) : W p l e rm_L_acts s m args below meth c H locs 0 0 (MQ below (va_Qi (fun (r2 : Int32) (_ : Unit) => r2 = r.1) (fun _ t => PW G (AC G) (XC G r.2) (szC G r.2) M' t t.heap) (AC G)) args s 21 228 (AC G)) (F0 m 303 ls [.int s0]) := by
  obtain ⟨hx, hb, hr, hlocks, hml, hown, hts, hK⟩ := id E
  unfold f_L_acts_b303 at hf
  refine lv_istore (lv' := [(12, .int s0), (0, .ref (adC G 0 0)), (4, .int x4), (11, .int x11)]) hx hb dL_acts_303 hl (by decide) rfl (fun ls hl => ?_)
  refine lv_aload_n hx hb dL_acts_305 rfl (lv_at hl 1 rfl) ?_
  refine lv_iload hx hb dL_acts_306 (lv_at hl 2 rfl) ?_
  refine ob_e hf (fun r_308 M_308 hq hf => ?_)
  refine cv_X7_erase E hP hS hq w_584 ⟨Nat.le_of_ble_eq_true rfl, Nat.le_of_ble_eq_true rfl⟩ hl (Nat.le_of_ble_eq_true rfl) dL_acts_308 ⟨Nat.le_of_ble_eq_true rfl, Nat.le_of_ble_eq_true rfl⟩ (fun H locs hP hS => ?_)
  refine lv_iload hx hb dL_acts_311 (lv_at hl 3 rfl) ?_
  refine lv_if_ge (tgt := 321) hx hb dL_acts_313 (by decide) (fun hc => ?_) (fun hc => ?_)
  · have hf := if_t hf hc
    refine lv_iload hx hb dL_acts_321 (lv_at hl 3 rfl) ?_
    exact w_L_acts_b323 E hf hP hS (lv_sub hl [1, 2, 3, 0] rfl)
  · have hf := if_f hf hc
    refine lv_ldc (v := (-1000002)) hx hb hown (hts _ w_490) dL_acts_316 ?_
    refine lv_goto (tgt := 323) hx hb dL_acts_318 (by decide) ?_
    exact w_L_acts_b323 E hf hP hS (lv_sub hl [1, 2, 3, 0] rfl)
set_option maxHeartbeats 4000000 in
set_option maxRecDepth 100000 in
theorem w_L_acts_b276 {p : Program} {l : Launch} {e : Env} {s : State} {m : MethodId} {args : Array Value} {below : List Frame} {meth : Method} {c : Code} {G : GG} {ns : Nat} {r : (Int32 × Nat)} {M' : Mem} (E : Cx p s m args meth c cL_acts (some .boolean) 15 RL G) {s0 : Int32} {M : Mem} {H : Heap} {locs : List Loc} {ls : Array Slot} (hf : f_L_acts_b276 ns s0 M = some (r, M')) (hP : PW G (AC G) (XC G ns) (szC G ns) M s H) (hS : va_S (AC G) s.heap H locs) (hl : lv_has ls 15 []) : W p l e rm_L_acts s m args below meth c H locs 21 228 (MQ below (va_Qi (fun (r2 : Int32) (_ : Unit) => r2 = r.1) (fun _ t => PW G (AC G) (XC G r.2) (szC G r.2) M' t t.heap) (AC G)) args s 21 228 (AC G)) (F0 m 276 ls [.int s0]) := by
  obtain ⟨hx, hb, hr, hlocks, hml, hown, hts, hK⟩ := id E
  unfold f_L_acts_b276 at hf
  refine ck_e hf (fun hn hf => ?_)
  exact en_ia hf hx hb hr (bl_nar hn) hlocks hP hS dL_acts_276
set_option maxHeartbeats 4000000 in
set_option maxRecDepth 100000 in
theorem w_L_acts_b275 {p : Program} {l : Launch} {e : Env} {s : State} {m : MethodId} {args : Array Value} {below : List Frame} {meth : Method} {c : Code} {G : GG} {ns : Nat} {r : (Int32 × Nat)} {M' : Mem} (E : Cx p s m args meth c cL_acts (some .boolean) 15 RL G) {M : Mem} {H : Heap} {locs : List Loc} {ls : Array Slot} (hf : f_L_acts_b275 ns M = some (r, M')) (hP : PW G (AC G) (XC G ns) (szC G ns) M s H) (hS : va_S (AC G) s.heap H locs) (hl : lv_has ls 15 []) : W p l e rm_L_acts s m args below meth c H locs 21 228 (MQ below (va_Qi (fun (r2 : Int32) (_ : Unit) => r2 = r.1) (fun _ t => PW G (AC G) (XC G r.2) (szC G r.2) M' t t.heap) (AC G)) args s 21 228 (AC G)) (F0 m 275 ls []) := by
  obtain ⟨hx, hb, hr, hlocks, hml, hown, hts, hK⟩ := id E
  unfold f_L_acts_b275 at hf
  refine lv_iconst (v := 0) hx hb dL_acts_275 (by decide) ?_
  exact w_L_acts_b276 E hf hP hS (lv_sub hl [] rfl)
set_option maxHeartbeats 4000000 in
set_option maxRecDepth 100000 in
theorem w_L_acts_b253 {p : Program} {l : Launch} {e : Env} {s : State} {m : MethodId} {args : Array Value} {below : List Frame} {meth : Method} {c : Code} {G : GG} {ns : Nat} {r : (Int32 × Nat)} {M' : Mem} (E : Cx p s m args meth c cL_acts (some .boolean) 15 RL G) {x3 : Int32} {s0 : Int32} {s1 : Int32} {M : Mem} {H : Heap} {locs : List Loc} {ls : Array Slot} (hf : f_L_acts_b253 ns x3 s0 s1 M = some (r, M')) (hP : PW G (AC G) (XC G ns) (szC G ns) M s H) (hS : va_S (AC G) s.heap H locs) (hl : lv_has ls 15 [(0, .ref (adC G 0 0)), (3, .int x3)]) : W p l e rm_L_acts s m args below meth c H locs 21 228 (MQ below (va_Qi (fun (r2 : Int32) (_ : Unit) => r2 = r.1) (fun _ t => PW G (AC G) (XC G r.2) (szC G r.2) M' t t.heap) (AC G)) args s 21 228 (AC G)) (F0 m 253 ls [.int s1, .int s0]) := by
  obtain ⟨hx, hb, hr, hlocks, hml, hown, hts, hK⟩ := id E
  unfold f_L_acts_b253 at hf
  refine lv_icmp_ne (tgt := 275) hx hb dL_acts_253 (by decide) (fun hc => ?_) (fun hc => ?_)
  · have hf := if_f hf hc
    exact w_L_acts_b275 E hf hP hS (lv_sub hl [] rfl)
  · have hf := if_t hf hc
    refine lv_aload_n hx hb dL_acts_256 rfl (lv_at hl 0 rfl) ?_
    refine lv_iload_n hx hb dL_acts_257 rfl (lv_at hl 1 rfl) ?_
    refine lv_iconst (v := 2) hx hb dL_acts_258 (by decide) ?_
    refine ob_e hf (fun r_259 M_259 hq hf => ?_)
    refine cv_X7_penOf E hP hS hq w_461 ⟨Nat.le_of_ble_eq_true rfl, Nat.le_of_ble_eq_true rfl⟩ hl (Nat.le_of_ble_eq_true rfl) dL_acts_259 ⟨Nat.le_of_ble_eq_true rfl, Nat.le_of_ble_eq_true rfl⟩ (fun H locs hP hS => ?_)
    refine lv_aload_n hx hb dL_acts_262 rfl (lv_at hl 0 rfl) ?_
    refine lv_iload_n hx hb dL_acts_263 rfl (lv_at hl 1 rfl) ?_
    refine lv_iconst (v := 1) hx hb dL_acts_264 (by decide) ?_
    refine ob_e hf (fun r_265 M_265 hq hf => ?_)
    refine cv_X7_penOf E hP hS hq w_461 ⟨Nat.le_of_ble_eq_true rfl, Nat.le_of_ble_eq_true rfl⟩ hl (Nat.le_of_ble_eq_true rfl) dL_acts_265 ⟨Nat.le_of_ble_eq_true rfl, Nat.le_of_ble_eq_true rfl⟩ (fun H locs hP hS => ?_)
    refine lv_icmp_ne (tgt := 275) hx hb dL_acts_268 (by decide) (fun hc => ?_) (fun hc => ?_)
    · have hf := if_f hf hc
      exact w_L_acts_b275 E hf hP hS (lv_sub hl [] rfl)
    · have hf := if_t hf hc
      refine lv_iconst (v := 1) hx hb dL_acts_271 (by decide) ?_
      refine lv_goto (tgt := 276) hx hb dL_acts_272 (by decide) ?_
      exact w_L_acts_b276 E hf hP hS (lv_sub hl [] rfl)
set_option maxHeartbeats 4000000 in
set_option maxRecDepth 100000 in
theorem w_L_acts_b220 {p : Program} {l : Launch} {e : Env} {s : State} {m : MethodId} {args : Array Value} {below : List Frame} {meth : Method} {c : Code} {G : GG} {ns : Nat} {r : (Int32 × Nat)} {M' : Mem} (E : Cx p s m args meth c cL_acts (some .boolean) 15 RL G) {s0 : Int32} {M : Mem} {H : Heap} {locs : List Loc} {ls : Array Slot} (hf : f_L_acts_b220 ns s0 M = some (r, M')) (hP : PW G (AC G) (XC G ns) (szC G ns) M s H) (hS : va_S (AC G) s.heap H locs) (hl : lv_has ls 15 []) : W p l e rm_L_acts s m args below meth c H locs 21 228 (MQ below (va_Qi (fun (r2 : Int32) (_ : Unit) => r2 = r.1) (fun _ t => PW G (AC G) (XC G r.2) (szC G r.2) M' t t.heap) (AC G)) args s 21 228 (AC G)) (F0 m 220 ls [.int s0]) := by
  obtain ⟨hx, hb, hr, hlocks, hml, hown, hts, hK⟩ := id E
  unfold f_L_acts_b220 at hf
  refine ck_e hf (fun hn hf => ?_)
  exact en_ia hf hx hb hr (bl_nar hn) hlocks hP hS dL_acts_220
set_option maxHeartbeats 4000000 in
set_option maxRecDepth 100000 in
theorem w_L_acts_b158 {p : Program} {l : Launch} {e : Env} {s : State} {m : MethodId} {args : Array Value} {below : List Frame} {meth : Method} {c : Code} {G : GG} {ns : Nat} {r : (Int32 × Nat)} {M' : Mem} (E : Cx p s m args meth c cL_acts (some .boolean) 15 RL G) {s0 : Int32} {M : Mem} {H : Heap} {locs : List Loc} {ls : Array Slot} (hf : f_L_acts_b158 ns s0 M = some (r, M')) (hP : PW G (AC G) (XC G ns) (szC G ns) M s H) (hS : va_S (AC G) s.heap H locs) (hl : lv_has ls 15 []) : W p l e rm_L_acts s m args below meth c H locs 21 228 (MQ below (va_Qi (fun (r2 : Int32) (_ : Unit) => r2 = r.1) (fun _ t => PW G (AC G) (XC G r.2) (szC G r.2) M' t t.heap) (AC G)) args s 21 228 (AC G)) (F0 m 158 ls [.int s0]) := by
  obtain ⟨hx, hb, hr, hlocks, hml, hown, hts, hK⟩ := id E
  unfold f_L_acts_b158 at hf
  refine ck_e hf (fun hn hf => ?_)
  exact en_ia hf hx hb hr (bl_nar hn) hlocks hP hS dL_acts_158
set_option maxHeartbeats 4000000 in
set_option maxRecDepth 100000 in
theorem w_L_acts_b131 {p : Program} {l : Launch} {e : Env} {s : State} {m : MethodId} {args : Array Value} {below : List Frame} {meth : Method} {c : Code} {G : GG} {ns : Nat} {r : (Int32 × Nat)} {M' : Mem} (E : Cx p s m args meth c cL_acts (some .boolean) 15 RL G) {M : Mem} {H : Heap} {locs : List Loc} {ls : Array Slot} (hf : f_L_acts_b131 ns M = some (r, M')) (hP : PW G (AC G) (XC G ns) (szC G ns) M s H) (hS : va_S (AC G) s.heap H locs) (hl : lv_has ls 15 []) : W p l e rm_L_acts s m args below meth c H locs 21 228 (MQ below (va_Qi (fun (r2 : Int32) (_ : Unit) => r2 = r.1) (fun _ t => PW G (AC G) (XC G r.2) (szC G r.2) M' t t.heap) (AC G)) args s 21 228 (AC G)) (F0 m 131 ls []) := by
  obtain ⟨hx, hb, hr, hlocks, hml, hown, hts, hK⟩ := id E
  unfold f_L_acts_b131 at hf
  refine lv_iconst (v := 0) hx hb dL_acts_131 (by decide) ?_
  refine lv_goto (tgt := 158) hx hb dL_acts_132 (by decide) ?_
  exact w_L_acts_b158 E hf hP hS (lv_sub hl [] rfl)
set_option maxHeartbeats 4000000 in
set_option maxRecDepth 100000 in
theorem w_L_acts_b157 {p : Program} {l : Launch} {e : Env} {s : State} {m : MethodId} {args : Array Value} {below : List Frame} {meth : Method} {c : Code} {G : GG} {ns : Nat} {r : (Int32 × Nat)} {M' : Mem} (E : Cx p s m args meth c cL_acts (some .boolean) 15 RL G) {M : Mem} {H : Heap} {locs : List Loc} {ls : Array Slot} (hf : f_L_acts_b157 ns M = some (r, M')) (hP : PW G (AC G) (XC G ns) (szC G ns) M s H) (hS : va_S (AC G) s.heap H locs) (hl : lv_has ls 15 []) : W p l e rm_L_acts s m args below meth c H locs 21 228 (MQ below (va_Qi (fun (r2 : Int32) (_ : Unit) => r2 = r.1) (fun _ t => PW G (AC G) (XC G r.2) (szC G r.2) M' t t.heap) (AC G)) args s 21 228 (AC G)) (F0 m 157 ls []) := by
  obtain ⟨hx, hb, hr, hlocks, hml, hown, hts, hK⟩ := id E
  unfold f_L_acts_b157 at hf
  refine lv_iconst (v := 0) hx hb dL_acts_157 (by decide) ?_
  exact w_L_acts_b158 E hf hP hS (lv_sub hl [] rfl)
set_option maxHeartbeats 4000000 in
set_option maxRecDepth 100000 in
theorem w_L_acts {p : Program} {l : Launch} {e : Env} {s : State} {m : MethodId} {args : Array Value} {below : List Frame} {meth : Method} {c : Code} {G : GG} {ns : Nat} {r : (Int32 × Nat)} {M' : Mem} (E : Cx p s m args meth c cL_acts (some .boolean) 15 RL G) {x1 : Int32} {M : Mem} {H : Heap} {locs : List Loc} {ls : Array Slot} (hf : f_L_acts ns x1 M = some (r, M')) (hP : PW G (AC G) (XC G ns) (szC G ns) M s H) (hS : va_S (AC G) s.heap H locs) (hl : lv_has ls 15 [(0, .ref (adC G 0 0)), (1, .int x1)]) : W p l e rm_L_acts s m args below meth c H locs 0 0 (MQ below (va_Qi (fun (r2 : Int32) (_ : Unit) => r2 = r.1) (fun _ t => PW G (AC G) (XC G r.2) (szC G r.2) M' t t.heap) (AC G)) args s 21 228 (AC G)) (F0 m 0 ls []) := by
  obtain ⟨hx, hb, hr, hlocks, hml, hown, hts, hK⟩ := id E
  unfold f_L_acts at hf
  refine lv_iload_n hx hb dL_acts_0 rfl (lv_at hl 1 rfl) ?_
  refine lv_bipush (v := 8) hx hb dL_acts_1 (by decide) ?_
  refine lv_idiv hx hb dL_acts_3 (by decide) ?_
  refine lt_e hf (fun x2_4 hx2_4 hf => ?_)
  refine kr_nm hx2_4 ?_
  refine lv_istore_n (lv' := [(2, .int x2_4), (0, .ref (adC G 0 0)), (1, .int x1)]) hx hb dL_acts_4 rfl hl (by decide) rfl (fun ls hl => ?_)
  refine lv_iload_n hx hb dL_acts_5 rfl (lv_at hl 0 rfl) ?_
  refine lv_iconst (v := 3) hx hb dL_acts_6 (by decide) ?_
  refine lv_irem hx hb dL_acts_7 (by decide) ?_
  refine lt_e hf (fun x3_8 hx3_8 hf => ?_)
  refine kr_nm hx3_8 ?_
  refine lv_istore_n (lv' := [(3, .int x3_8), (2, .int x2_4), (0, .ref (adC G 0 0)), (1, .int x1)]) hx hb dL_acts_8 rfl hl (by decide) rfl (fun ls hl => ?_)
  refine lv_iload_n hx hb dL_acts_9 rfl (lv_at hl 1 rfl) ?_
  refine lv_iconst (v := 4) hx hb dL_acts_10 (by decide) ?_
  refine lv_idiv hx hb dL_acts_11 (by decide) ?_
  refine lv_bipush (v := 8) hx hb dL_acts_12 (by decide) ?_
  refine lv_irem hx hb dL_acts_14 (by decide) ?_
  refine lt_e hf (fun x4_15 hx4_15 hf => ?_)
  refine kr_nm hx4_15 ?_
  refine lv_istore (lv' := [(4, .int x4_15), (3, .int x3_8), (2, .int x2_4), (0, .ref (adC G 0 0)), (1, .int x1)]) hx hb dL_acts_15 hl (by decide) rfl (fun ls hl => ?_)
  refine lv_aload_n hx hb dL_acts_17 rfl (lv_at hl 3 rfl) ?_
  refine lv_iconst (v := 4) hx hb dL_acts_18 (by decide) ?_
  refine ob_e hf (fun r_19 M_19 hq hf => ?_)
  refine cv_X7_count E hP hS hq w_414 ⟨Nat.le_of_ble_eq_true rfl, Nat.le_of_ble_eq_true rfl⟩ hl (Nat.le_of_ble_eq_true rfl) dL_acts_19 ⟨Nat.le_of_ble_eq_true rfl, Nat.le_of_ble_eq_true rfl⟩ (fun H locs hP hS => ?_)
  refine lv_istore (lv' := [(5, .int r_19), (4, .int x4_15), (3, .int x3_8), (2, .int x2_4), (0, .ref (adC G 0 0)), (1, .int x1)]) hx hb dL_acts_22 hl (by decide) rfl (fun ls hl => ?_)
  refine lv_iload_n hx hb dL_acts_24 rfl (lv_at hl 5 rfl) ?_
  refine lv_bipush (v := 8) hx hb dL_acts_25 (by decide) ?_
  refine lv_irem hx hb dL_acts_27 (by decide) ?_
  by_cases hc0 : (x1 - x1 / 8 * 8) = 0
  · have hf := if_t hf hc0
    refine kr_tin hx hb hc0 (tgt := 68) dL_acts_28 (by decide) (by decide) rfl (by decide) ?_
    refine lv_aload_n hx hb dL_acts_68 rfl (lv_at hl 4 rfl) ?_
    refine lv_bipush (v := 9) hx hb dL_acts_69 (by decide) ?_
    refine ob_e hf (fun r_71 M_71 hq hf => ?_)
    refine cv_X7_count E hP hS hq w_414 ⟨Nat.le_of_ble_eq_true rfl, Nat.le_of_ble_eq_true rfl⟩ hl (Nat.le_of_ble_eq_true rfl) dL_acts_71 ⟨Nat.le_of_ble_eq_true rfl, Nat.le_of_ble_eq_true rfl⟩ (fun H locs hP hS => ?_)
    refine lv_istore (lv' := [(6, .int r_71), (5, .int r_19), (4, .int x4_15), (3, .int x3_8), (2, .int x2_4), (0, .ref (adC G 0 0)), (1, .int x1)]) hx hb dL_acts_74 hl (by decide) rfl (fun ls hl => ?_)
    refine lv_aload_n hx hb dL_acts_76 rfl (lv_at hl 5 rfl) ?_
    refine lv_iload_n hx hb dL_acts_77 rfl (lv_at hl 3 rfl) ?_
    refine ob_e hf (fun r_78 M_78 hq hf => ?_)
    refine cv_X7_take E hP hS hq w_370 ⟨Nat.le_of_ble_eq_true rfl, Nat.le_of_ble_eq_true rfl⟩ hl (Nat.le_of_ble_eq_true rfl) dL_acts_78 ⟨Nat.le_of_ble_eq_true rfl, Nat.le_of_ble_eq_true rfl⟩ (fun H locs hP hS => ?_)
    refine lt_e hf (fun x7_81 hx7_81 hf => ?_)
    refine kr_nm hx7_81 ?_
    refine lv_istore (lv' := [(7, .int x7_81), (6, .int r_71), (5, .int r_19), (4, .int x4_15), (3, .int x3_8), (2, .int x2_4), (0, .ref (adC G 0 0)), (1, .int x1)]) hx hb dL_acts_81 hl (by decide) rfl (fun ls hl => ?_)
    refine lv_iload hx hb dL_acts_83 (lv_at hl 0 rfl) ?_
    refine lv_if_lt (tgt := 135) hx hb dL_acts_85 (by decide) (fun hc => ?_) (fun hc => ?_)
    · have hf := if_t hf hc
      refine lv_iload hx hb dL_acts_135 (lv_at hl 0 rfl) ?_
      refine lv_ldc (v := (-1000002)) hx hb hown (hts _ w_490) dL_acts_137 ?_
      refine lv_icmp_ne (tgt := 157) hx hb dL_acts_139 (by decide) (fun hc => ?_) (fun hc => ?_)
      · have hf := if_f hf hc
        exact w_L_acts_b157 E hf hP hS (lv_sub hl [] rfl)
      · have hf := if_t hf hc
        refine lv_aload_n hx hb dL_acts_142 rfl (lv_at hl 6 rfl) ?_
        refine lv_bipush (v := 9) hx hb dL_acts_143 (by decide) ?_
        refine ob_e hf (fun r_145 M_145 hq hf => ?_)
        refine cv_X7_count E hP hS hq w_414 ⟨Nat.le_of_ble_eq_true rfl, Nat.le_of_ble_eq_true rfl⟩ hl (Nat.le_of_ble_eq_true rfl) dL_acts_145 ⟨Nat.le_of_ble_eq_true rfl, Nat.le_of_ble_eq_true rfl⟩ (fun H locs hP hS => ?_)
        refine lv_iload hx hb dL_acts_148 (lv_at hl 1 rfl) ?_
        refine lv_icmp_ne (tgt := 157) hx hb dL_acts_150 (by decide) (fun hc => ?_) (fun hc => ?_)
        · have hf := if_f hf hc
          exact w_L_acts_b157 E hf hP hS (lv_sub hl [] rfl)
        · have hf := if_t hf hc
          refine lv_iconst (v := 1) hx hb dL_acts_153 (by decide) ?_
          refine lv_goto (tgt := 158) hx hb dL_acts_154 (by decide) ?_
          exact w_L_acts_b158 E hf hP hS (lv_sub hl [] rfl)
    · have hf := if_f hf hc
      refine lv_aload_n hx hb dL_acts_88 rfl (lv_at hl 6 rfl) ?_
      refine lv_iconst (v := 5) hx hb dL_acts_89 (by decide) ?_
      refine ob_e hf (fun r_90 M_90 hq hf => ?_)
      refine cv_X7_count E hP hS hq w_414 ⟨Nat.le_of_ble_eq_true rfl, Nat.le_of_ble_eq_true rfl⟩ hl (Nat.le_of_ble_eq_true rfl) dL_acts_90 ⟨Nat.le_of_ble_eq_true rfl, Nat.le_of_ble_eq_true rfl⟩ (fun H locs hP hS => ?_)
      refine lv_iload_n hx hb dL_acts_93 rfl (lv_at hl 4 rfl) ?_
      refine lv_icmp_ne (tgt := 131) hx hb dL_acts_94 (by decide) (fun hc => ?_) (fun hc => ?_)
      · have hf := if_f hf hc
        exact w_L_acts_b131 E hf hP hS (lv_sub hl [] rfl)
      · have hf := if_t hf hc
        refine lv_aload_n hx hb dL_acts_97 rfl (lv_at hl 6 rfl) ?_
        refine lv_bipush (v := 9) hx hb dL_acts_98 (by decide) ?_
        refine ob_e hf (fun r_100 M_100 hq hf => ?_)
        refine cv_X7_count E hP hS hq w_414 ⟨Nat.le_of_ble_eq_true rfl, Nat.le_of_ble_eq_true rfl⟩ hl (Nat.le_of_ble_eq_true rfl) dL_acts_100 ⟨Nat.le_of_ble_eq_true rfl, Nat.le_of_ble_eq_true rfl⟩ (fun H locs hP hS => ?_)
        refine lv_iload hx hb dL_acts_103 (lv_at hl 1 rfl) ?_
        refine lv_iconst (v := 1) hx hb dL_acts_105 (by decide) ?_
        refine lv_iadd hx hb dL_acts_106 ?_
        refine lv_icmp_ne (tgt := 131) hx hb dL_acts_107 (by decide) (fun hc => ?_) (fun hc => ?_)
        · have hf := if_f hf hc
          exact w_L_acts_b131 E hf hP hS (lv_sub hl [] rfl)
        · have hf := if_t hf hc
          refine lv_aload_n hx hb dL_acts_110 rfl (lv_at hl 6 rfl) ?_
          refine lv_iconst (v := 4) hx hb dL_acts_111 (by decide) ?_
          refine ob_e hf (fun r_112 M_112 hq hf => ?_)
          refine cv_X7_count E hP hS hq w_414 ⟨Nat.le_of_ble_eq_true rfl, Nat.le_of_ble_eq_true rfl⟩ hl (Nat.le_of_ble_eq_true rfl) dL_acts_112 ⟨Nat.le_of_ble_eq_true rfl, Nat.le_of_ble_eq_true rfl⟩ (fun H locs hP hS => ?_)
          refine lv_iload hx hb dL_acts_115 (lv_at hl 2 rfl) ?_
          refine lv_aload_n hx hb dL_acts_117 rfl (lv_at hl 6 rfl) ?_
          refine lv_bipush (v := 23) hx hb dL_acts_118 (by decide) ?_
          refine ob_e hf (fun r_120 M_120 hq hf => ?_)
          refine cv_X7_count E hP hS hq w_414 ⟨Nat.le_of_ble_eq_true rfl, Nat.le_of_ble_eq_true rfl⟩ hl (Nat.le_of_ble_eq_true rfl) dL_acts_120 ⟨Nat.le_of_ble_eq_true rfl, Nat.le_of_ble_eq_true rfl⟩ (fun H locs hP hS => ?_)
          refine lv_iadd hx hb dL_acts_123 ?_
          refine lv_icmp_ne (tgt := 131) hx hb dL_acts_124 (by decide) (fun hc => ?_) (fun hc => ?_)
          · have hf := if_f hf hc
            exact w_L_acts_b131 E hf hP hS (lv_sub hl [] rfl)
          · have hf := if_t hf hc
            refine lv_iconst (v := 1) hx hb dL_acts_127 (by decide) ?_
            refine lv_goto (tgt := 158) hx hb dL_acts_128 (by decide) ?_
            exact w_L_acts_b158 E hf hP hS (lv_sub hl [] rfl)
  have hf := if_f hf hc0
  by_cases hc1 : (x1 - x1 / 8 * 8) = 1
  · have hf := if_t hf hc1
    refine kr_tin hx hb hc1 (tgt := 159) dL_acts_28 (by decide) (by decide) rfl (by decide) ?_
    refine lv_aload_n hx hb dL_acts_159 rfl (lv_at hl 4 rfl) ?_
    refine lv_iload_n hx hb dL_acts_160 rfl (lv_at hl 2 rfl) ?_
    refine lv_bipush (v := 7) hx hb dL_acts_161 (by decide) ?_
    refine ob_e hf (fun r_163 M_163 hq hf => ?_)
    refine cv_X7_penOf E hP hS hq w_461 ⟨Nat.le_of_ble_eq_true rfl, Nat.le_of_ble_eq_true rfl⟩ hl (Nat.le_of_ble_eq_true rfl) dL_acts_163 ⟨Nat.le_of_ble_eq_true rfl, Nat.le_of_ble_eq_true rfl⟩ (fun H locs hP hS => ?_)
    refine lv_istore (lv' := [(8, .int r_163), (5, .int r_19), (4, .int x4_15), (3, .int x3_8), (2, .int x2_4), (0, .ref (adC G 0 0)), (1, .int x1)]) hx hb dL_acts_166 hl (by decide) rfl (fun ls hl => ?_)
    refine lv_aload_n hx hb dL_acts_168 rfl (lv_at hl 5 rfl) ?_
    refine lv_iload_n hx hb dL_acts_169 rfl (lv_at hl 3 rfl) ?_
    refine lv_iconst (v := 1) hx hb dL_acts_170 (by decide) ?_
    refine lv_iload hx hb dL_acts_171 (lv_at hl 0 rfl) ?_
    refine lv_isub hx hb dL_acts_173 ?_
    refine ob_e hf (fun r_174 M_174 hq hf => ?_)
    refine cv_X7_leave E hP hS hq w_572 ⟨Nat.le_of_ble_eq_true rfl, Nat.le_of_ble_eq_true rfl⟩ hl (Nat.le_of_ble_eq_true rfl) dL_acts_174 ⟨Nat.le_of_ble_eq_true rfl, Nat.le_of_ble_eq_true rfl⟩ (fun H locs hP hS => ?_)
    refine lt_e hf (fun x9_177 hx9_177 hf => ?_)
    refine kr_nm hx9_177 ?_
    refine lv_istore (lv' := [(9, .int x9_177), (8, .int r_163), (5, .int r_19), (4, .int x4_15), (3, .int x3_8), (2, .int x2_4), (0, .ref (adC G 0 0)), (1, .int x1)]) hx hb dL_acts_177 hl (by decide) rfl (fun ls hl => ?_)
    refine lv_iload hx hb dL_acts_179 (lv_at hl 0 rfl) ?_
    refine lv_if_lt (tgt := 206) hx hb dL_acts_181 (by decide) (fun hc => ?_) (fun hc => ?_)
    · have hf := if_t hf hc
      refine lv_aload_n hx hb dL_acts_206 rfl (lv_at hl 6 rfl) ?_
      refine lv_iconst (v := 5) hx hb dL_acts_207 (by decide) ?_
      refine ob_e hf (fun r_208 M_208 hq hf => ?_)
      refine cv_X7_count E hP hS hq w_414 ⟨Nat.le_of_ble_eq_true rfl, Nat.le_of_ble_eq_true rfl⟩ hl (Nat.le_of_ble_eq_true rfl) dL_acts_208 ⟨Nat.le_of_ble_eq_true rfl, Nat.le_of_ble_eq_true rfl⟩ (fun H locs hP hS => ?_)
      refine lv_iload_n hx hb dL_acts_211 rfl (lv_at hl 4 rfl) ?_
      refine lv_icmp_ne (tgt := 219) hx hb dL_acts_212 (by decide) (fun hc => ?_) (fun hc => ?_)
      · have hf := if_f hf hc
        refine lv_iconst (v := 0) hx hb dL_acts_219 (by decide) ?_
        exact w_L_acts_b220 E hf hP hS (lv_sub hl [] rfl)
      · have hf := if_t hf hc
        refine lv_iconst (v := 1) hx hb dL_acts_215 (by decide) ?_
        refine lv_goto (tgt := 220) hx hb dL_acts_216 (by decide) ?_
        exact w_L_acts_b220 E hf hP hS (lv_sub hl [] rfl)
    · have hf := if_f hf hc
      refine lv_aload_n hx hb dL_acts_184 rfl (lv_at hl 6 rfl) ?_
      refine lv_iload_n hx hb dL_acts_185 rfl (lv_at hl 4 rfl) ?_
      refine lv_bipush (v := 7) hx hb dL_acts_186 (by decide) ?_
      refine ob_e hf (fun r_188 M_188 hq hf => ?_)
      refine cv_X7_penOf E hP hS hq w_461 ⟨Nat.le_of_ble_eq_true rfl, Nat.le_of_ble_eq_true rfl⟩ hl (Nat.le_of_ble_eq_true rfl) dL_acts_188 ⟨Nat.le_of_ble_eq_true rfl, Nat.le_of_ble_eq_true rfl⟩ (fun H locs hP hS => ?_)
      refine lv_iconst (v := 1) hx hb dL_acts_191 (by decide) ?_
      refine lv_iload hx hb dL_acts_192 (lv_at hl 1 rfl) ?_
      refine lv_isub hx hb dL_acts_194 ?_
      refine lv_icmp_ne (tgt := 202) hx hb dL_acts_195 (by decide) (fun hc => ?_) (fun hc => ?_)
      · have hf := if_f hf hc
        refine lv_iconst (v := 0) hx hb dL_acts_202 (by decide) ?_
        refine lv_goto (tgt := 220) hx hb dL_acts_203 (by decide) ?_
        exact w_L_acts_b220 E hf hP hS (lv_sub hl [] rfl)
      · have hf := if_t hf hc
        refine lv_iconst (v := 1) hx hb dL_acts_198 (by decide) ?_
        refine lv_goto (tgt := 220) hx hb dL_acts_199 (by decide) ?_
        exact w_L_acts_b220 E hf hP hS (lv_sub hl [] rfl)
  have hf := if_f hf hc1
  by_cases hc2 : (x1 - x1 / 8 * 8) = 2
  · have hf := if_t hf hc2
    refine kr_tin hx hb hc2 (tgt := 221) dL_acts_28 (by decide) (by decide) rfl (by decide) ?_
    refine lv_aload_n hx hb dL_acts_221 rfl (lv_at hl 4 rfl) ?_
    refine lv_iload_n hx hb dL_acts_222 rfl (lv_at hl 2 rfl) ?_
    refine lv_iconst (v := 1) hx hb dL_acts_223 (by decide) ?_
    refine ob_e hf (fun r_224 M_224 hq hf => ?_)
    refine cv_X7_penOf E hP hS hq w_461 ⟨Nat.le_of_ble_eq_true rfl, Nat.le_of_ble_eq_true rfl⟩ hl (Nat.le_of_ble_eq_true rfl) dL_acts_224 ⟨Nat.le_of_ble_eq_true rfl, Nat.le_of_ble_eq_true rfl⟩ (fun H locs hP hS => ?_)
    refine lv_aload_n hx hb dL_acts_227 rfl (lv_at hl 4 rfl) ?_
    refine lv_iload_n hx hb dL_acts_228 rfl (lv_at hl 2 rfl) ?_
    refine lv_iconst (v := 2) hx hb dL_acts_229 (by decide) ?_
    refine ob_e hf (fun r_230 M_230 hq hf => ?_)
    refine cv_X7_penOf E hP hS hq w_461 ⟨Nat.le_of_ble_eq_true rfl, Nat.le_of_ble_eq_true rfl⟩ hl (Nat.le_of_ble_eq_true rfl) dL_acts_230 ⟨Nat.le_of_ble_eq_true rfl, Nat.le_of_ble_eq_true rfl⟩ (fun H locs hP hS => ?_)
    refine lv_isub hx hb dL_acts_233 ?_
    refine lt_e hf (fun x10_234 hx10_234 hf => ?_)
    refine kr_nm hx10_234 ?_
    refine lv_istore (lv' := [(10, .int x10_234), (5, .int r_19), (4, .int x4_15), (3, .int x3_8), (2, .int x2_4), (0, .ref (adC G 0 0)), (1, .int x1)]) hx hb dL_acts_234 hl (by decide) rfl (fun ls hl => ?_)
    refine lv_aload_n hx hb dL_acts_236 rfl (lv_at hl 5 rfl) ?_
    refine lv_iload_n hx hb dL_acts_237 rfl (lv_at hl 3 rfl) ?_
    refine ob_e hf (fun r_238 M_238 hq hf => ?_)
    refine cv_X7_refill E hP hS hq w_580 ⟨Nat.le_of_ble_eq_true rfl, Nat.le_of_ble_eq_true rfl⟩ hl (Nat.le_of_ble_eq_true rfl) dL_acts_238 ⟨Nat.le_of_ble_eq_true rfl, Nat.le_of_ble_eq_true rfl⟩ (fun H locs hP hS => ?_)
    refine lv_iload hx hb dL_acts_241 (lv_at hl 0 rfl) ?_
    refine lv_if_ne (tgt := 251) hx hb dL_acts_243 (by decide) (fun hc => ?_) (fun hc => ?_)
    · have hf := if_f hf hc
      refine lv_iload hx hb dL_acts_251 (lv_at hl 0 rfl) ?_
      exact w_L_acts_b253 E hf hP hS (lv_sub hl [5, 3] rfl)
    · have hf := if_t hf hc
      refine lv_ldc (v := (-1000002)) hx hb hown (hts _ w_490) dL_acts_246 ?_
      refine lv_goto (tgt := 253) hx hb dL_acts_248 (by decide) ?_
      exact w_L_acts_b253 E hf hP hS (lv_sub hl [5, 3] rfl)
  have hf := if_f hf hc2
  by_cases hc3 : (x1 - x1 / 8 * 8) = 3
  · have hf := if_t hf hc3
    refine kr_tin hx hb hc3 (tgt := 277) dL_acts_28 (by decide) (by decide) rfl (by decide) ?_
    refine lv_aload_n hx hb dL_acts_277 rfl (lv_at hl 4 rfl) ?_
    refine lv_iload hx hb dL_acts_278 (lv_at hl 1 rfl) ?_
    refine lv_bipush (v := 6) hx hb dL_acts_280 (by decide) ?_
    refine ob_e hf (fun r_282 M_282 hq hf => ?_)
    refine cv_X7_lineOf E hP hS hq w_509 ⟨Nat.le_of_ble_eq_true rfl, Nat.le_of_ble_eq_true rfl⟩ hl (Nat.le_of_ble_eq_true rfl) dL_acts_282 ⟨Nat.le_of_ble_eq_true rfl, Nat.le_of_ble_eq_true rfl⟩ (fun H locs hP hS => ?_)
    refine lv_istore (lv' := [(11, .int r_282), (5, .int r_19), (4, .int x4_15), (3, .int x3_8), (2, .int x2_4), (0, .ref (adC G 0 0)), (1, .int x1)]) hx hb dL_acts_285 hl (by decide) rfl (fun ls hl => ?_)
    refine lv_iload hx hb dL_acts_287 (lv_at hl 0 rfl) ?_
    refine lv_if_ge (tgt := 296) hx hb dL_acts_289 (by decide) (fun hc => ?_) (fun hc => ?_)
    · have hf := if_t hf hc
      refine lv_aload_n hx hb dL_acts_296 rfl (lv_at hl 5 rfl) ?_
      refine lv_iload hx hb dL_acts_297 (lv_at hl 0 rfl) ?_
      refine lv_iconst (v := 2) hx hb dL_acts_299 (by decide) ?_
      refine ob_e hf (fun r_300 M_300 hq hf => ?_)
      refine cv_X7_penOf E hP hS hq w_461 ⟨Nat.le_of_ble_eq_true rfl, Nat.le_of_ble_eq_true rfl⟩ hl (Nat.le_of_ble_eq_true rfl) dL_acts_300 ⟨Nat.le_of_ble_eq_true rfl, Nat.le_of_ble_eq_true rfl⟩ (fun H locs hP hS => ?_)
      exact w_L_acts_b303 E hf hP hS (lv_sub hl [5, 2, 0] rfl)
    · have hf := if_f hf hc
      refine lv_iconst (v := 0) hx hb dL_acts_292 (by decide) ?_
      refine lv_goto (tgt := 303) hx hb dL_acts_293 (by decide) ?_
      exact w_L_acts_b303 E hf hP hS (lv_sub hl [5, 2, 0] rfl)
  have hf := if_f hf hc3
  by_cases hc4 : (x1 - x1 / 8 * 8) = 4
  · have hf := if_t hf hc4
    refine kr_tin hx hb hc4 (tgt := 359) dL_acts_28 (by decide) (by decide) rfl (by decide) ?_
    refine lv_aload_n hx hb dL_acts_359 rfl (lv_at hl 4 rfl) ?_
    refine lv_iconst (v := 5) hx hb dL_acts_360 (by decide) ?_
    refine ob_e hf (fun r_361 M_361 hq hf => ?_)
    refine cv_X7_count E hP hS hq w_414 ⟨Nat.le_of_ble_eq_true rfl, Nat.le_of_ble_eq_true rfl⟩ hl (Nat.le_of_ble_eq_true rfl) dL_acts_361 ⟨Nat.le_of_ble_eq_true rfl, Nat.le_of_ble_eq_true rfl⟩ (fun H locs hP hS => ?_)
    refine lv_istore (lv' := [(13, .int r_361), (5, .int r_19), (4, .int x4_15), (3, .int x3_8), (2, .int x2_4), (0, .ref (adC G 0 0)), (1, .int x1)]) hx hb dL_acts_364 hl (by decide) rfl (fun ls hl => ?_)
    refine lv_iload hx hb dL_acts_366 (lv_at hl 0 rfl) ?_
    refine lv_if_ge (tgt := 376) hx hb dL_acts_368 (by decide) (fun hc => ?_) (fun hc => ?_)
    · have hf := if_t hf hc
      refine lv_aload_n hx hb dL_acts_376 rfl (lv_at hl 5 rfl) ?_
      refine lv_iload hx hb dL_acts_377 (lv_at hl 0 rfl) ?_
      refine lv_iconst (v := 4) hx hb dL_acts_379 (by decide) ?_
      refine ob_e hf (fun r_380 M_380 hq hf => ?_)
      refine cv_X7_penOf E hP hS hq w_461 ⟨Nat.le_of_ble_eq_true rfl, Nat.le_of_ble_eq_true rfl⟩ hl (Nat.le_of_ble_eq_true rfl) dL_acts_380 ⟨Nat.le_of_ble_eq_true rfl, Nat.le_of_ble_eq_true rfl⟩ (fun H locs hP hS => ?_)
      exact w_L_acts_b383 E hf hP hS (lv_sub hl [5, 1, 0] rfl)
    · have hf := if_f hf hc
      refine lv_ldc (v := (-1000002)) hx hb hown (hts _ w_490) dL_acts_371 ?_
      refine lv_goto (tgt := 383) hx hb dL_acts_373 (by decide) ?_
      exact w_L_acts_b383 E hf hP hS (lv_sub hl [5, 1, 0] rfl)
  have hf := if_f hf hc4
  by_cases hc5 : (x1 - x1 / 8 * 8) = 5
  · have hf := if_t hf hc5
    refine kr_tin hx hb hc5 (tgt := 432) dL_acts_28 (by decide) (by decide) rfl (by decide) ?_
    refine lv_aload_n hx hb dL_acts_432 rfl (lv_at hl 4 rfl) ?_
    refine lv_iconst (v := 1) hx hb dL_acts_433 (by decide) ?_
    refine lv_iload_n hx hb dL_acts_434 rfl (lv_at hl 3 rfl) ?_
    refine lv_bipush (v := 20) hx hb dL_acts_435 (by decide) ?_
    refine lv_irem hx hb dL_acts_437 (by decide) ?_
    refine lv_iadd hx hb dL_acts_438 ?_
    refine ob_e hf (fun r_439 M_439 hq hf => ?_)
    refine cv_X7_waits E hP hS hq w_403 ⟨Nat.le_of_ble_eq_true rfl, Nat.le_of_ble_eq_true rfl⟩ hl (Nat.le_of_ble_eq_true rfl) dL_acts_439 ⟨Nat.le_of_ble_eq_true rfl, Nat.le_of_ble_eq_true rfl⟩ (fun H locs hP hS => ?_)
    refine lv_iload hx hb dL_acts_442 (lv_at hl 0 rfl) ?_
    refine lv_iconst (v := 1) hx hb dL_acts_444 (by decide) ?_
    refine lv_iadd hx hb dL_acts_445 ?_
    refine lv_iload_n hx hb dL_acts_446 rfl (lv_at hl 3 rfl) ?_
    refine lv_bipush (v := 20) hx hb dL_acts_447 (by decide) ?_
    refine lv_irem hx hb dL_acts_449 (by decide) ?_
    refine lv_iadd hx hb dL_acts_450 ?_
    refine lv_icmp_ne (tgt := 458) hx hb dL_acts_451 (by decide) (fun hc => ?_) (fun hc => ?_)
    · have hf := if_f hf hc
      refine lv_iconst (v := 0) hx hb dL_acts_458 (by decide) ?_
      exact w_L_acts_b459 E hf hP hS (lv_sub hl [] rfl)
    · have hf := if_t hf hc
      refine lv_iconst (v := 1) hx hb dL_acts_454 (by decide) ?_
      refine lv_goto (tgt := 459) hx hb dL_acts_455 (by decide) ?_
      exact w_L_acts_b459 E hf hP hS (lv_sub hl [] rfl)
  have hf := if_f hf hc5
  have hn0 := lv_neT hc0 (a := 0) (by decide)
  have hn1 := lv_neT hc1 (a := 1) (by decide)
  have hn2 := lv_neT hc2 (a := 2) (by decide)
  have hn3 := lv_neT hc3 (a := 3) (by decide)
  have hn4 := lv_neT hc4 (a := 4) (by decide)
  have hn5 := lv_neT hc5 (a := 5) (by decide)
  refine lv_tableOut (tgt := 460) hx hb dL_acts_28 (by omega) (by decide) ?_
  refine lv_aload_n hx hb dL_acts_460 rfl (lv_at hl 4 rfl) ?_
  refine lv_iload hx hb dL_acts_461 (lv_at hl 1 rfl) ?_
  refine lv_iload_n hx hb dL_acts_463 rfl (lv_at hl 3 rfl) ?_
  refine lv_bipush (v := 64) hx hb dL_acts_464 (by decide) ?_
  refine lv_idiv hx hb dL_acts_466 (by decide) ?_
  refine lv_iconst (v := 2) hx hb dL_acts_467 (by decide) ?_
  refine lv_irem hx hb dL_acts_468 (by decide) ?_
  refine ob_e hf (fun r_469 M_469 hq hf => ?_)
  refine cv_L_draws E hP hS hq w_600 ⟨Nat.le_of_ble_eq_true rfl, Nat.le_of_ble_eq_true rfl⟩ hl (Nat.le_of_ble_eq_true rfl) dL_acts_469 ⟨Nat.le_of_ble_eq_true rfl, Nat.le_of_ble_eq_true rfl⟩ (fun H locs hP hS => ?_)
  refine ck_e hf (fun hn hf => ?_)
  exact en_ia hf hx hb hr (bl_nar hn) hlocks hP hS dL_acts_472
theorem c_L_acts (l : Launch) {G : GG} {ns : Nat} {x1 : Int32} {M : Mem} {r : (Int32 × Nat)} {M' : Mem} (hf : f_L_acts ns x1 M = some (r, M')) : CtI l yL_acts cL_acts 15 (some .boolean) rm_L_acts [.ref (adC G 0 0), .int x1] G (AC G) (XC G ns) (szC G ns) M r.1 (XC G r.2) (szC G r.2) M' := by
  refine Ct_of (by decide) (Nat.le_of_ble_eq_true rfl) (fun p e s m below meth c ls hx hb hr hlocks hml hown hts hK hP hl => ?_)
  exact w_L_acts ⟨hx, hb, hr, hlocks, hml, hown, hts, hK⟩ hf hP va_S.rf hl
set_option maxRecDepth 100000 in
theorem cv_L_acts {p : Program} {l : Launch} {e : Env} {R : Room} {s : State} {m : MethodId} {args : Array Value} {below : List Frame} {meth : Method} {c : Code} {H : Heap} {locs : List Loc} {cells slots : Nat} {Q : State → Prop} {cc : ByteArray} {pc nL index : Nat} {ret : Option FieldType} {own : String} {ls : Array Slot} {rest : List Value} {l' : List (Nat × Value)} {G : GG} {ns : Nat} {M : Mem} (E : Cx p s m args meth c cc ret nL own G) (hP : PW G (AC G) (XC G ns) (szC G ns) M s H) (hS : va_S (AC G) s.heap H locs) {x1 : Int32} {r : (Int32 × Nat)} {M' : Mem} (hq : f_L_acts ns x1 M = some (r, M')) (w1 : Cond.methodLink own index yL_acts ∈ lw_all) (hR : 8 ≤ R.frames ∧ 232 ≤ R.locals) (hl : lv_has ls nL l') (hrest : (rest.map fun v => v.category).sum ≤ 8) (hdg : decode cc pc = .ok (.invokestatic index, 3)) (hcs : cells + 21 ≤ R.cells ∧ slots + 228 ≤ R.slots)
    (kk : ∀ (H1 : Heap) (locs1 : List Loc), PW G (AC G) (XC G r.2) (szC G r.2) M' s H1 → va_S (AC G) s.heap H1 locs1 → W p l e R s m args below meth c H1 locs1 (cells + 21) (slots + 228) Q (F0 m (pc + 3) ls (.int r.1 :: rest))) : W p l e R s m args below meth c H locs cells slots Q (F0 m pc ls (.int x1 :: .ref (adC G 0 0) :: rest)) := by
  obtain ⟨hx, hb, hr, hlocks, hml, hown, hts, hK⟩ := E
  exact kc_i (kc_runS (na := 2) hx hb hml hts hown hK hP (c_L_acts l hq) w1 w_570 w_0 w_571 (by decide +kernel) hR rfl hl rfl hrest hdg hcs) hS kk
