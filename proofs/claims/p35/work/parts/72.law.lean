/-! the walk of the law's body -/
section LAWW
variable {p : Program} {l : Launch} {e : Env} {s : State} {m : MethodId} {below : List Frame} {meth : Method} {c : Code} {Q : State → Prop} {G : GG} {b L : Nat} {xs : Nat → Int32}
set_option maxHeartbeats 4000000 in
set_option maxRecDepth 100000 in
theorem lp_pens (E : Cx p s m #[Value.ref b] meth c cL_law (some .boolean) 5 "PenStrikeLaw" G) (hX : va_X b L xs s s.heap) (hbl : b < s.heap.size) (hbA : ¬ AC G b) (hL : L ≤ 260) (kk : ∀ (ns : Nat) (M : Mem) (a : Row) (H : Heap) (locs : List Loc) (ls : Array Slot), BA 2 0 ns M a → PW G (AC G) (XC G ns) (szC G ns) M s H → va_S (AC G) s.heap H locs → lv_has ls 5 [(0, .ref b), (1, .ref (adC G 0 0)), (2, .int (zI (1)))] → W p l e room_1 s m #[Value.ref b] below meth c H locs (200) (2000) Q (F0 m 92 ls [])) :
    ∀ (n k : Nat), k + n = 3 → ∀ (ns : Nat) (M : Mem) (a : Row) (H : Heap) (locs : List Loc) (ls : Array Slot), BA (min k 2) 0 ns M a → PW G (AC G) (XC G ns) (szC G ns) M s H → va_S (AC G) s.heap H locs → lv_has ls 5 [(0, .ref b), (1, .ref (adC G 0 0)), (2, .int (zI (1))), (3, .int (zI (k)))] → W p l e room_1 s m #[Value.ref b] below meth c H locs (100 + 21 * k) (1000 + 228 * k) Q (F0 m 30 ls []) := by
  obtain ⟨hx, hb, hr, hlocks, hml, hown, hts, hK⟩ := id E
  intro n
  induction n with
  | zero =>
    intro k hk ns M a H locs ls B hP hS hl
    obtain rfl : k = 3 := by omega
    refine lv_iload_n hx hb dL_law_30 rfl (lv_at hl 3 rfl) ?_
    refine lv_iconst (v := zI (3)) hx hb dL_law_31 (by decide) ?_
    refine lv_icmp_ge (tgt := 92) hx hb dL_law_32 (by decide) (fun _ => ?_) (fun hc => absurd (by decide) hc)
    refine W.widen (k := 200) (n := 2000) (by omega) (by omega) ?_
    exact kk ns M a H locs ls B hP hS (lv_sub hl [0, 1, 2] rfl)
  | succ n ih =>
    intro k hk ns M a H locs ls B hP hS hl
    refine lv_iload_n hx hb dL_law_30 rfl (lv_at hl 3 rfl) ?_
    refine lv_iconst (v := zI (3)) hx hb dL_law_31 (by decide) ?_
    refine lv_icmp_ge (tgt := 92) hx hb dL_law_32 (by decide) (fun hc => absurd hc (by rw [zI_le (by omega) (by omega) (by omega) (by omega)]; omega)) (fun _ => ?_)
    refine lv_iload_n hx hb dL_law_35 rfl (lv_at hl 2 rfl) ?_
    refine lv_if_eq (tgt := 92) hx hb dL_law_36 (by decide) (fun hc => absurd hc (by decide)) (fun _ => ?_)
    refine lv_aload_n hx hb dL_law_39 rfl (lv_at hl 1 rfl) ?_
    refine lv_aload_n hx hb dL_law_40 rfl (lv_at hl 0 rfl) ?_
    refine lv_iload_n hx hb dL_law_41 rfl (lv_at hl 3 rfl) ?_
    refine kr_nm (y := zI ((k : Nat) : Int)) rfl ?_
    refine cv_L_cell (K := k) E hP hS hX hbl hbA hL (by omega) w_452 ⟨(Nat.le_of_ble_eq_true rfl), (Nat.le_of_ble_eq_true rfl)⟩ hl (Nat.le_of_ble_eq_true rfl) dL_law_42 ⟨show _ ≤ 600000 by omega, show _ ≤ 7302250 by omega⟩ (fun H locs hP hS => ?_)
    obtain ⟨y1, e_y1, l_y1, u_y1⟩ := cel_rg xs L (k)
    rw [e_y1]
    refine lv_iconst (v := zI (2)) hx hb dL_law_45 (by decide) ?_
    refine lv_irem hx hb dL_law_46 (by decide) ?_
    refine kr_nm (y := zI (y1 - y1 / 2 * 2)) (zI_rem (by omega) (by omega) (by decide) (by decide)).symm ?_
    refine lv_bipush (v := zI (10)) hx hb dL_law_47 (by decide) ?_
    refine lv_aload_n hx hb dL_law_49 rfl (lv_at hl 0 rfl) ?_
    refine lv_iconst (v := zI (3)) hx hb dL_law_50 (by decide) ?_
    refine lv_iload_n hx hb dL_law_51 rfl (lv_at hl 3 rfl) ?_
    refine lv_iadd hx hb dL_law_52 ?_
    refine kr_nm (y := zI (3 + k)) (zI_add _ _).symm ?_
    refine kr_nm (y := zI ((3 + k : Nat) : Int)) (by rw [show ((3 + k : Nat) : Int) = 3 + (k : Int) from by omega]) ?_
    refine cv_L_cell (K := 3 + k) E hP hS hX hbl hbA hL (by omega) w_452 ⟨(Nat.le_of_ble_eq_true rfl), (Nat.le_of_ble_eq_true rfl)⟩ hl (Nat.le_of_ble_eq_true rfl) dL_law_53 ⟨show _ ≤ 600000 by omega, show _ ≤ 7302250 by omega⟩ (fun H locs hP hS => ?_)
    obtain ⟨y2, e_y2, l_y2, u_y2⟩ := cel_rg xs L (3 + k)
    rw [e_y2]
    refine lv_sipush (v := zI (400)) hx hb dL_law_56 (by decide) ?_
    refine lv_irem hx hb dL_law_59 (by decide) ?_
    refine kr_nm (y := zI (y2 - y2 / 400 * 400)) (zI_rem (by omega) (by omega) (by decide) (by decide)).symm ?_
    refine lv_iadd hx hb dL_law_60 ?_
    refine kr_nm (y := zI (10 + (y2 - y2 / 400 * 400))) (zI_add _ _).symm ?_
    refine lv_iconst (v := zI (2)) hx hb dL_law_61 (by decide) ?_
    refine lv_iload_n hx hb dL_law_62 rfl (lv_at hl 3 rfl) ?_
    by_cases k2 : k < 2
    · rw [show min k 2 = k by omega] at B
      obtain ⟨n1, M1, a1, q1, B1⟩ := bd_pen B k2 (kd := y1 - y1 / 2 * 2) (cp := 10 + (y2 - y2 / 400 * 400)) (by omega) (by omega)
      refine cv_X7_pen E hP hS q1 w_316 ⟨(Nat.le_of_ble_eq_true rfl), (Nat.le_of_ble_eq_true rfl)⟩ hl (Nat.le_of_ble_eq_true rfl) dL_law_63 ⟨show _ ≤ 600000 by omega, show _ ≤ 7302250 by omega⟩ (fun H locs hP hS => ?_)
      have hP : PW G (AC G) (XC G n1) (szC G n1) M1 s H := hP
      refine kr_nm (y := zI (k)) rfl ?_
      refine lv_iload_n hx hb dL_law_66 rfl (lv_at hl 3 rfl) ?_
      refine lv_iconst (v := zI (2)) hx hb dL_law_67 (by decide) ?_
      refine lv_icmp_ne (tgt := 76) hx hb dL_law_68 (by decide) (fun _ => ?_) (fun hc => absurd hc (fun q => absurd ((zI_eq (by omega) (by omega) (by omega) (by omega)).1 q) (by omega)))
      refine lv_iload_n hx hb dL_law_76 rfl (lv_at hl 3 rfl) ?_
      refine lv_icmp_ne (tgt := 84) hx hb dL_law_77 (by decide) (fun hc => absurd hc (fun q => q rfl)) (fun _ => ?_)
      refine lv_iconst (v := zI (1)) hx hb dL_law_80 (by decide) ?_
      refine lv_goto (tgt := 85) hx hb dL_law_81 (by decide) ?_
      refine lv_istore_n (lv' := [(2, .int (zI (1))), (0, .ref b), (1, .ref (adC G 0 0)), (3, .int (zI (k)))]) hx hb dL_law_85 rfl hl (by decide) rfl (fun ls hl => ?_)
      refine lv_iinc (v := zI (k + 1)) (lv' := [(3, .int (zI (k + 1))), (2, .int (zI (1))), (0, .ref b), (1, .ref (adC G 0 0))]) hx hb dL_law_86 hl (k := 3) rfl (by rw [show Int32.ofInt 1 = zI 1 from rfl, zI_add]) (by decide) rfl (fun ls hl => ?_)
      refine lv_goto (tgt := 30) hx hb dL_law_89 (by decide) ?_
      have kq := ih (k + 1) (by omega) n1 M1 a1 H locs ls (by rw [show min (k + 1) 2 = k + 1 by omega]; exact B1) hP hS (lv_sub hl [2, 3, 1, 0] rfl)
      rw [show 100 + 21 * (k + 1) = 100 + 21 * k + 21 by omega, show 1000 + 228 * (k + 1) = 1000 + 228 * k + 228 by omega] at kq
      exact kq
    · obtain rfl : k = 2 := by omega
      have q1 := b_pen_slot (ns := ns) B.1 B.2.1 (kd := y1 - y1 / 2 * 2) (cp := 10 + (y2 - y2 / 400 * 400)) (by omega) (by omega)
      refine cv_X7_pen E hP hS q1 w_316 ⟨(Nat.le_of_ble_eq_true rfl), (Nat.le_of_ble_eq_true rfl)⟩ hl (Nat.le_of_ble_eq_true rfl) dL_law_63 ⟨show _ ≤ 600000 by omega, show _ ≤ 7302250 by omega⟩ (fun H locs hP hS => ?_)
      have hP : PW G (AC G) (XC G ns) (szC G ns) M s H := hP
      refine kr_nm (y := zI (-1000001)) rfl ?_
      refine lv_iload_n hx hb dL_law_66 rfl (lv_at hl 3 rfl) ?_
      refine lv_iconst (v := zI (2)) hx hb dL_law_67 (by decide) ?_
      refine lv_icmp_ne (tgt := 76) hx hb dL_law_68 (by decide) (fun hc => absurd hc (fun q => q rfl)) (fun _ => ?_)
      refine lv_ldc (v := (-1000001)) hx hb hown (hts _ w_643) dL_law_71 ?_
      refine kr_nm (y := zI (-1000001)) (by decide) ?_
      refine lv_goto (tgt := 77) hx hb dL_law_73 (by decide) ?_
      refine lv_icmp_ne (tgt := 84) hx hb dL_law_77 (by decide) (fun hc => absurd hc (fun q => q rfl)) (fun _ => ?_)
      refine lv_iconst (v := zI (1)) hx hb dL_law_80 (by decide) ?_
      refine lv_goto (tgt := 85) hx hb dL_law_81 (by decide) ?_
      refine lv_istore_n (lv' := [(2, .int (zI (1))), (0, .ref b), (1, .ref (adC G 0 0)), (3, .int (zI (((2 : Nat) : Int))))]) hx hb dL_law_85 rfl hl (by decide) rfl (fun ls hl => ?_)
      refine lv_iinc (v := zI ((((2 : Nat) : Int)) + 1)) (lv' := [(3, .int (zI ((((2 : Nat) : Int)) + 1))), (2, .int (zI (1))), (0, .ref b), (1, .ref (adC G 0 0))]) hx hb dL_law_86 hl (k := 3) rfl (by rw [show Int32.ofInt 1 = zI 1 from rfl, zI_add]) (by decide) rfl (fun ls hl => ?_)
      refine lv_goto (tgt := 30) hx hb dL_law_89 (by decide) ?_
      have kq := ih (2 + 1) (by omega) ns M a H locs ls B hP hS (lv_sub hl [2, 3, 1, 0] rfl)
      exact kq
set_option maxHeartbeats 4000000 in
set_option maxRecDepth 100000 in
theorem sg_mid1 (E : Cx p s m #[Value.ref b] meth c cL_law (some .boolean) 5 "PenStrikeLaw" G) (hX : va_X b L xs s s.heap) (hbl : b < s.heap.size) (hbA : ¬ AC G b) (hL : L ≤ 260) (kk : ∀ (ns : Nat) (M : Mem) (a : Row) (H : Heap) (locs : List Loc) (ls : Array Slot), BA 3 0 ns M a → PW G (AC G) (XC G ns) (szC G ns) M s H → va_S (AC G) s.heap H locs → lv_has ls 5 [(0, .ref b), (1, .ref (adC G 0 0)), (2, .int (zI (1))), (3, .int (zI ((0 : Nat))))] → W p l e room_1 s m #[Value.ref b] below meth c H locs (300) (3000) Q (F0 m 141 ls [])) {ns : Nat} {M : Mem} {a : Row} {H : Heap} {locs : List Loc} {ls : Array Slot} (B : BA 2 0 ns M a) (hP : PW G (AC G) (XC G ns) (szC G ns) M s H) (hS : va_S (AC G) s.heap H locs) (hl : lv_has ls 5 [(0, .ref b), (1, .ref (adC G 0 0)), (2, .int (zI (1)))]) : W p l e room_1 s m #[Value.ref b] below meth c H locs (200) (2000) Q (F0 m 92 ls []) := by
  obtain ⟨hx, hb, hr, hlocks, hml, hown, hts, hK⟩ := id E
  refine lv_iload_n hx hb dL_law_92 rfl (lv_at hl 2 rfl) ?_
  refine lv_if_eq (tgt := 137) hx hb dL_law_93 (by decide) (fun hc => absurd hc (by decide)) (fun _ => ?_)
  refine lv_aload_n hx hb dL_law_96 rfl (lv_at hl 1 rfl) ?_
  refine lv_iconst (v := zI (0)) hx hb dL_law_97 (by decide) ?_
  refine lv_bipush (v := zI (10)) hx hb dL_law_98 (by decide) ?_
  refine lv_aload_n hx hb dL_law_100 rfl (lv_at hl 0 rfl) ?_
  refine lv_iconst (v := zI (5)) hx hb dL_law_101 (by decide) ?_
  refine kr_nm (y := zI ((5 : Nat) : Int)) rfl ?_
  refine cv_L_cell (K := 5) E hP hS hX hbl hbA hL (by omega) w_452 ⟨(Nat.le_of_ble_eq_true rfl), (Nat.le_of_ble_eq_true rfl)⟩ hl (Nat.le_of_ble_eq_true rfl) dL_law_102 ⟨show _ ≤ 600000 by omega, show _ ≤ 7302250 by omega⟩ (fun H locs hP hS => ?_)
  obtain ⟨y1, e_y1, l_y1, u_y1⟩ := cel_rg xs L (5)
  rw [e_y1]
  refine lv_sipush (v := zI (400)) hx hb dL_law_105 (by decide) ?_
  refine lv_irem hx hb dL_law_108 (by decide) ?_
  refine kr_nm (y := zI (y1 - y1 / 400 * 400)) (zI_rem (by omega) (by omega) (by decide) (by decide)).symm ?_
  refine lv_iadd hx hb dL_law_109 ?_
  refine kr_nm (y := zI (10 + (y1 - y1 / 400 * 400))) (zI_add _ _).symm ?_
  refine lv_iconst (v := zI (0)) hx hb dL_law_110 (by decide) ?_
  refine lv_iconst (v := zI (1)) hx hb dL_law_111 (by decide) ?_
  obtain ⟨n1, M1, a1, q1, B1⟩ := bd_pen3 B (cp := 10 + (y1 - y1 / 400 * 400)) (by omega)
  have q2 := b_pen_kind (ns := n1) B1.1 B1.2.1
  refine cv_X7_pen E hP hS q1 w_316 ⟨(Nat.le_of_ble_eq_true rfl), (Nat.le_of_ble_eq_true rfl)⟩ hl (Nat.le_of_ble_eq_true rfl) dL_law_112 ⟨show _ ≤ 600000 by omega, show _ ≤ 7302250 by omega⟩ (fun H locs hP hS => ?_)
  have hP : PW G (AC G) (XC G n1) (szC G n1) M1 s H := hP
  refine kr_nm (y := zI (2)) rfl ?_
  refine lv_iconst (v := zI (2)) hx hb dL_law_115 (by decide) ?_
  refine lv_icmp_ne (tgt := 137) hx hb dL_law_116 (by decide) (fun hc => absurd hc (fun q => q rfl)) (fun _ => ?_)
  refine lv_aload_n hx hb dL_law_119 rfl (lv_at hl 1 rfl) ?_
  refine lv_iconst (v := zI (0)) hx hb dL_law_120 (by decide) ?_
  refine lv_bipush (v := zI (50)) hx hb dL_law_121 (by decide) ?_
  refine lv_iconst (v := zI (1)) hx hb dL_law_123 (by decide) ?_
  refine lv_iconst (v := zI (1)) hx hb dL_law_124 (by decide) ?_
  refine cv_X7_pen E hP hS q2 w_316 ⟨(Nat.le_of_ble_eq_true rfl), (Nat.le_of_ble_eq_true rfl)⟩ hl (Nat.le_of_ble_eq_true rfl) dL_law_125 ⟨show _ ≤ 600000 by omega, show _ ≤ 7302250 by omega⟩ (fun H locs hP hS => ?_)
  have hP : PW G (AC G) (XC G n1) (szC G n1) M1 s H := hP
  refine kr_nm (y := zI (-1000002)) rfl ?_
  refine lv_ldc (v := (-1000002)) hx hb hown (hts _ w_490) dL_law_128 ?_
  refine kr_nm (y := zI (-1000002)) (by decide) ?_
  refine lv_icmp_ne (tgt := 137) hx hb dL_law_130 (by decide) (fun hc => absurd hc (fun q => q rfl)) (fun _ => ?_)
  refine lv_iconst (v := zI (1)) hx hb dL_law_133 (by decide) ?_
  refine lv_goto (tgt := 138) hx hb dL_law_134 (by decide) ?_
  refine lv_istore_n (lv' := [(2, .int (zI (1))), (0, .ref b), (1, .ref (adC G 0 0))]) hx hb dL_law_138 rfl hl (by decide) rfl (fun ls hl => ?_)
  refine lv_iconst (v := zI (0)) hx hb dL_law_139 (by decide) ?_
  refine lv_istore_n (lv' := [(3, .int (zI (0))), (2, .int (zI (1))), (0, .ref b), (1, .ref (adC G 0 0))]) hx hb dL_law_140 rfl hl (by decide) rfl (fun ls hl => ?_)
  refine W.widen (k := 300) (n := 3000) (by omega) (by omega) ?_
  exact kk n1 M1 a1 H locs ls B1 hP hS (lv_sub hl [2, 3, 1, 0] rfl)
set_option maxHeartbeats 4000000 in
set_option maxRecDepth 100000 in
theorem lp_lines (E : Cx p s m #[Value.ref b] meth c cL_law (some .boolean) 5 "PenStrikeLaw" G) (hX : va_X b L xs s s.heap) (hbl : b < s.heap.size) (hbA : ¬ AC G b) (hL : L ≤ 260) (kk : ∀ (ns : Nat) (M : Mem) (a : Row) (H : Heap) (locs : List Loc) (ls : Array Slot), BA 3 8 ns M a → PW G (AC G) (XC G ns) (szC G ns) M s H → va_S (AC G) s.heap H locs → lv_has ls 5 [(0, .ref b), (1, .ref (adC G 0 0)), (2, .int (zI (1)))] → W p l e room_1 s m #[Value.ref b] below meth c H locs (500) (5000) Q (F0 m 214 ls [])) :
    ∀ (n k : Nat), k + n = 8 → ∀ (ns : Nat) (M : Mem) (a : Row) (H : Heap) (locs : List Loc) (ls : Array Slot), BA 3 k ns M a → PW G (AC G) (XC G ns) (szC G ns) M s H → va_S (AC G) s.heap H locs → lv_has ls 5 [(0, .ref b), (1, .ref (adC G 0 0)), (2, .int (zI (1))), (3, .int (zI (k)))] → W p l e room_1 s m #[Value.ref b] below meth c H locs (300 + 21 * k) (3000 + 228 * k) Q (F0 m 141 ls []) := by
  obtain ⟨hx, hb, hr, hlocks, hml, hown, hts, hK⟩ := id E
  intro n
  induction n with
  | zero =>
    intro k hk ns M a H locs ls B hP hS hl
    obtain rfl : k = 8 := by omega
    refine lv_iload_n hx hb dL_law_141 rfl (lv_at hl 3 rfl) ?_
    refine lv_bipush (v := zI (8)) hx hb dL_law_142 (by decide) ?_
    refine lv_icmp_ge (tgt := 214) hx hb dL_law_144 (by decide) (fun _ => ?_) (fun hc => absurd (by decide) hc)
    refine W.widen (k := 500) (n := 5000) (by omega) (by omega) ?_
    exact kk ns M a H locs ls B hP hS (lv_sub hl [0, 1, 2] rfl)
  | succ n ih =>
    intro k hk ns M a H locs ls B hP hS hl
    refine lv_iload_n hx hb dL_law_141 rfl (lv_at hl 3 rfl) ?_
    refine lv_bipush (v := zI (8)) hx hb dL_law_142 (by decide) ?_
    refine lv_icmp_ge (tgt := 214) hx hb dL_law_144 (by decide) (fun hc => absurd hc (by rw [zI_le (by omega) (by omega) (by omega) (by omega)]; omega)) (fun _ => ?_)
    refine lv_iload_n hx hb dL_law_147 rfl (lv_at hl 2 rfl) ?_
    refine lv_if_eq (tgt := 214) hx hb dL_law_148 (by decide) (fun hc => absurd hc (by decide)) (fun _ => ?_)
    refine lv_aload_n hx hb dL_law_151 rfl (lv_at hl 0 rfl) ?_
    refine lv_bipush (v := zI (6)) hx hb dL_law_152 (by decide) ?_
    refine lv_iload_n hx hb dL_law_154 rfl (lv_at hl 3 rfl) ?_
    refine lv_iadd hx hb dL_law_155 ?_
    refine kr_nm (y := zI (6 + k)) (zI_add _ _).symm ?_
    refine kr_nm (y := zI ((6 + k : Nat) : Int)) (by rw [show ((6 + k : Nat) : Int) = 6 + (k : Int) from by omega]) ?_
    refine cv_L_cell (K := 6 + k) E hP hS hX hbl hbA hL (by omega) w_452 ⟨(Nat.le_of_ble_eq_true rfl), (Nat.le_of_ble_eq_true rfl)⟩ hl (Nat.le_of_ble_eq_true rfl) dL_law_156 ⟨show _ ≤ 600000 by omega, show _ ≤ 7302250 by omega⟩ (fun H locs hP hS => ?_)
    obtain ⟨y1, e_y1, l_y1, u_y1⟩ := cel_rg xs L (6 + k)
    rw [e_y1]
    refine lv_istore (lv' := [(4, .int (zI (y1))), (0, .ref b), (1, .ref (adC G 0 0)), (2, .int (zI (1))), (3, .int (zI (k)))]) hx hb dL_law_159 hl (by decide) rfl (fun ls hl => ?_)
    refine lv_aload_n hx hb dL_law_161 rfl (lv_at hl 2 rfl) ?_
    refine lv_iload hx hb dL_law_162 (lv_at hl 0 rfl) ?_
    refine lv_bipush (v := zI (25)) hx hb dL_law_164 (by decide) ?_
    refine lv_irem hx hb dL_law_166 (by decide) ?_
    refine kr_nm (y := zI (y1 - y1 / 25 * 25)) (zI_rem (by omega) (by omega) (by decide) (by decide)).symm ?_
    refine lv_iload hx hb dL_law_167 (lv_at hl 0 rfl) ?_
    refine lv_bipush (v := zI (32)) hx hb dL_law_169 (by decide) ?_
    refine lv_idiv hx hb dL_law_171 (by decide) ?_
    refine kr_nm (y := zI (y1 / 32)) (zI_div (by omega) (by omega) (by decide) (by decide)).symm ?_
    refine lv_bipush (v := zI (25)) hx hb dL_law_172 (by decide) ?_
    refine lv_irem hx hb dL_law_174 (by decide) ?_
    refine kr_nm (y := zI ((y1 / 32) - (y1 / 32) / 25 * 25)) (zI_rem (by omega) (by omega) (by decide) (by decide)).symm ?_
    refine lv_bipush (v := zI (25)) hx hb dL_law_175 (by decide) ?_
    refine lv_iload hx hb dL_law_177 (lv_at hl 0 rfl) ?_
    refine lv_sipush (v := zI (1024)) hx hb dL_law_179 (by decide) ?_
    refine lv_idiv hx hb dL_law_182 (by decide) ?_
    refine kr_nm (y := zI (y1 / 1024)) (zI_div (by omega) (by omega) (by decide) (by decide)).symm ?_
    refine lv_bipush (v := zI (10)) hx hb dL_law_183 (by decide) ?_
    refine lv_irem hx hb dL_law_185 (by decide) ?_
    refine kr_nm (y := zI ((y1 / 1024) - (y1 / 1024) / 10 * 10)) (zI_rem (by omega) (by omega) (by decide) (by decide)).symm ?_
    refine lv_iadd hx hb dL_law_186 ?_
    refine kr_nm (y := zI (25 + ((y1 / 1024) - (y1 / 1024) / 10 * 10))) (zI_add _ _).symm ?_
    refine lv_iload hx hb dL_law_187 (lv_at hl 0 rfl) ?_
    refine lv_ldc (v := (32768)) hx hb hown (hts _ w_644) dL_law_189 ?_
    refine kr_nm (y := zI (32768)) (by decide) ?_
    refine lv_idiv hx hb dL_law_191 (by decide) ?_
    refine kr_nm (y := zI (y1 / 32768)) (zI_div (by omega) (by omega) (by decide) (by decide)).symm ?_
    refine lv_bipush (v := zI (25)) hx hb dL_law_192 (by decide) ?_
    refine lv_irem hx hb dL_law_194 (by decide) ?_
    refine kr_nm (y := zI ((y1 / 32768) - (y1 / 32768) / 25 * 25)) (zI_rem (by omega) (by omega) (by decide) (by decide)).symm ?_
    obtain ⟨n1, M1, a1, q1, B1⟩ := bd_line B (by omega) (x := y1 - y1 / 25 * 25) (y := (y1 / 32) - (y1 / 32) / 25 * 25) (x2 := 25 + ((y1 / 1024) - (y1 / 1024) / 10 * 10)) (y2 := (y1 / 32768) - (y1 / 32768) / 25 * 25) (by omega) (by omega) (by omega) (by omega) (by omega)
    refine cv_X7_line E hP hS q1 w_333 ⟨(Nat.le_of_ble_eq_true rfl), (Nat.le_of_ble_eq_true rfl)⟩ hl (Nat.le_of_ble_eq_true rfl) dL_law_195 ⟨show _ ≤ 600000 by omega, show _ ≤ 7302250 by omega⟩ (fun H locs hP hS => ?_)
    have hP : PW G (AC G) (XC G n1) (szC G n1) M1 s H := hP
    refine kr_nm (y := zI (k)) rfl ?_
    refine lv_iload_n hx hb dL_law_198 rfl (lv_at hl 4 rfl) ?_
    refine lv_icmp_ne (tgt := 206) hx hb dL_law_199 (by decide) (fun hc => absurd hc (fun q => q rfl)) (fun _ => ?_)
    refine lv_iconst (v := zI (1)) hx hb dL_law_202 (by decide) ?_
    refine lv_goto (tgt := 207) hx hb dL_law_203 (by decide) ?_
    refine lv_istore_n (lv' := [(2, .int (zI (1))), (4, .int (zI (y1))), (0, .ref b), (1, .ref (adC G 0 0)), (3, .int (zI (k)))]) hx hb dL_law_207 rfl hl (by decide) rfl (fun ls hl => ?_)
    refine lv_iinc (v := zI (k + 1)) (lv' := [(3, .int (zI (k + 1))), (2, .int (zI (1))), (4, .int (zI (y1))), (0, .ref b), (1, .ref (adC G 0 0))]) hx hb dL_law_208 hl (k := 4) rfl (by rw [show Int32.ofInt 1 = zI 1 from rfl, zI_add]) (by decide) rfl (fun ls hl => ?_)
    refine lv_goto (tgt := 141) hx hb dL_law_211 (by decide) ?_
    have kq := ih (k + 1) (by omega) n1 M1 a1 H locs ls B1 hP hS (lv_sub hl [3, 4, 1, 0] rfl)
    rw [show 300 + 21 * (k + 1) = 300 + 21 * k + 21 by omega, show 3000 + 228 * (k + 1) = 3000 + 228 * k + 228 by omega] at kq
    exact kq
set_option maxHeartbeats 4000000 in
set_option maxRecDepth 100000 in
theorem sg_mid2 (E : Cx p s m #[Value.ref b] meth c cL_law (some .boolean) 5 "PenStrikeLaw" G) (hX : va_X b L xs s s.heap) (hbl : b < s.heap.size) (hbA : ¬ AC G b) (hL : L ≤ 260) (kk : ∀ (ns : Nat) (M : Mem) (a : Row) (H : Heap) (locs : List Loc) (ls : Array Slot), SA ns M a → a 7 ≤ 100 → PW G (AC G) (XC G ns) (szC G ns) M s H → va_S (AC G) s.heap H locs → lv_has ls 5 [(0, .ref b), (1, .ref (adC G 0 0)), (2, .int (zI (1))), (3, .int (zI ((0 : Nat))))] → W p l e room_1 s m #[Value.ref b] below meth c H locs (600) (6000) Q (F0 m 283 ls [])) {ns : Nat} {M : Mem} {a : Row} {H : Heap} {locs : List Loc} {ls : Array Slot} (B : BA 3 8 ns M a) (hP : PW G (AC G) (XC G ns) (szC G ns) M s H) (hS : va_S (AC G) s.heap H locs) (hl : lv_has ls 5 [(0, .ref b), (1, .ref (adC G 0 0)), (2, .int (zI (1)))]) : W p l e room_1 s m #[Value.ref b] below meth c H locs (500) (5000) Q (F0 m 214 ls []) := by
  obtain ⟨hx, hb, hr, hlocks, hml, hown, hts, hK⟩ := id E
  obtain ⟨z1, ez1, lz1, uz1⟩ := cel_rg xs L 14
  obtain ⟨z2, ez2, lz2, uz2⟩ := cel_rg xs L 15
  obtain ⟨z3, ez3, lz3, uz3⟩ := cel_rg xs L 16
  obtain ⟨p3, hp3⟩ : ∃ p : Nat, (p : Int) = z3 - z3 / 3 * 3 := ⟨(z3 - z3 / 3 * 3).toNat, by omega⟩
  obtain ⟨n1, n2, n3, M1, M2, M3, a3, q1, q2, q3, S3, t3⟩ := bd_sets B (v := z1 - z1 / 150 * 150) (w := 10 + (z2 - z2 / 100 * 100)) (p := p3) (by omega) (by omega) (by omega)
  refine lv_iload_n hx hb dL_law_214 rfl (lv_at hl 2 rfl) ?_
  refine lv_if_eq (tgt := 279) hx hb dL_law_215 (by decide) (fun hc => absurd hc (by decide)) (fun _ => ?_)
  refine lv_aload_n hx hb dL_law_218 rfl (lv_at hl 1 rfl) ?_
  refine lv_iconst (v := zI (0)) hx hb dL_law_219 (by decide) ?_
  refine lv_aload_n hx hb dL_law_220 rfl (lv_at hl 0 rfl) ?_
  refine lv_bipush (v := zI (14)) hx hb dL_law_221 (by decide) ?_
  refine kr_nm (y := zI ((14 : Nat) : Int)) rfl ?_
  refine cv_L_cell (K := 14) E hP hS hX hbl hbA hL (by omega) w_452 ⟨(Nat.le_of_ble_eq_true rfl), (Nat.le_of_ble_eq_true rfl)⟩ hl (Nat.le_of_ble_eq_true rfl) dL_law_223 ⟨show _ ≤ 600000 by omega, show _ ≤ 7302250 by omega⟩ (fun H locs hP hS => ?_)
  rw [ez1]
  refine lv_sipush (v := zI (150)) hx hb dL_law_226 (by decide) ?_
  refine lv_irem hx hb dL_law_229 (by decide) ?_
  refine kr_nm (y := zI (z1 - z1 / 150 * 150)) (zI_rem (by omega) (by omega) (by decide) (by decide)).symm ?_
  refine cv_X7_set E hP hS q1 w_275 ⟨(Nat.le_of_ble_eq_true rfl), (Nat.le_of_ble_eq_true rfl)⟩ hl (Nat.le_of_ble_eq_true rfl) dL_law_230 ⟨show _ ≤ 600000 by omega, show _ ≤ 7302250 by omega⟩ (fun H locs hP hS => ?_)
  have hP : PW G (AC G) (XC G n1) (szC G n1) M1 s H := hP
  refine kr_nm (y := zI (60)) rfl ?_
  refine lv_bipush (v := zI (60)) hx hb dL_law_233 (by decide) ?_
  refine lv_icmp_ne (tgt := 279) hx hb dL_law_235 (by decide) (fun hc => absurd hc (fun q => q rfl)) (fun _ => ?_)
  refine lv_aload_n hx hb dL_law_238 rfl (lv_at hl 1 rfl) ?_
  refine lv_iconst (v := zI (1)) hx hb dL_law_239 (by decide) ?_
  refine lv_bipush (v := zI (10)) hx hb dL_law_240 (by decide) ?_
  refine lv_aload_n hx hb dL_law_242 rfl (lv_at hl 0 rfl) ?_
  refine lv_bipush (v := zI (15)) hx hb dL_law_243 (by decide) ?_
  refine kr_nm (y := zI ((15 : Nat) : Int)) rfl ?_
  refine cv_L_cell (K := 15) E hP hS hX hbl hbA hL (by omega) w_452 ⟨(Nat.le_of_ble_eq_true rfl), (Nat.le_of_ble_eq_true rfl)⟩ hl (Nat.le_of_ble_eq_true rfl) dL_law_245 ⟨show _ ≤ 600000 by omega, show _ ≤ 7302250 by omega⟩ (fun H locs hP hS => ?_)
  rw [ez2]
  refine lv_bipush (v := zI (100)) hx hb dL_law_248 (by decide) ?_
  refine lv_irem hx hb dL_law_250 (by decide) ?_
  refine kr_nm (y := zI (z2 - z2 / 100 * 100)) (zI_rem (by omega) (by omega) (by decide) (by decide)).symm ?_
  refine lv_iadd hx hb dL_law_251 ?_
  refine kr_nm (y := zI (10 + (z2 - z2 / 100 * 100))) (zI_add _ _).symm ?_
  refine cv_X7_set E hP hS q2 w_275 ⟨(Nat.le_of_ble_eq_true rfl), (Nat.le_of_ble_eq_true rfl)⟩ hl (Nat.le_of_ble_eq_true rfl) dL_law_252 ⟨show _ ≤ 600000 by omega, show _ ≤ 7302250 by omega⟩ (fun H locs hP hS => ?_)
  have hP : PW G (AC G) (XC G n2) (szC G n2) M2 s H := hP
  refine kr_nm (y := zI (40)) rfl ?_
  refine lv_bipush (v := zI (40)) hx hb dL_law_255 (by decide) ?_
  refine lv_icmp_ne (tgt := 279) hx hb dL_law_257 (by decide) (fun hc => absurd hc (fun q => q rfl)) (fun _ => ?_)
  refine lv_aload_n hx hb dL_law_260 rfl (lv_at hl 1 rfl) ?_
  refine lv_aload_n hx hb dL_law_261 rfl (lv_at hl 0 rfl) ?_
  refine lv_bipush (v := zI (16)) hx hb dL_law_262 (by decide) ?_
  refine kr_nm (y := zI ((16 : Nat) : Int)) rfl ?_
  refine cv_L_cell (K := 16) E hP hS hX hbl hbA hL (by omega) w_452 ⟨(Nat.le_of_ble_eq_true rfl), (Nat.le_of_ble_eq_true rfl)⟩ hl (Nat.le_of_ble_eq_true rfl) dL_law_264 ⟨show _ ≤ 600000 by omega, show _ ≤ 7302250 by omega⟩ (fun H locs hP hS => ?_)
  rw [ez3]
  refine lv_iconst (v := zI (3)) hx hb dL_law_267 (by decide) ?_
  refine lv_irem hx hb dL_law_268 (by decide) ?_
  refine kr_nm (y := zI (z3 - z3 / 3 * 3)) (zI_rem (by omega) (by omega) (by decide) (by decide)).symm ?_
  rw [← hp3]
  refine cv_X7_take E hP hS q3 w_370 ⟨(Nat.le_of_ble_eq_true rfl), (Nat.le_of_ble_eq_true rfl)⟩ hl (Nat.le_of_ble_eq_true rfl) dL_law_269 ⟨show _ ≤ 600000 by omega, show _ ≤ 7302250 by omega⟩ (fun H locs hP hS => ?_)
  have hP : PW G (AC G) (XC G n3) (szC G n3) M3 s H := hP
  refine kr_nm (y := zI (0)) rfl ?_
  refine lv_if_ne (tgt := 279) hx hb dL_law_272 (by decide) (fun hc => absurd hc (fun q => q (by decide))) (fun _ => ?_)
  refine lv_iconst (v := zI (1)) hx hb dL_law_275 (by decide) ?_
  refine lv_goto (tgt := 280) hx hb dL_law_276 (by decide) ?_
  refine lv_istore_n (lv' := [(2, .int (zI (1))), (0, .ref b), (1, .ref (adC G 0 0))]) hx hb dL_law_280 rfl hl (by decide) rfl (fun ls hl => ?_)
  refine lv_iconst (v := zI (0)) hx hb dL_law_281 (by decide) ?_
  refine lv_istore_n (lv' := [(3, .int (zI (0))), (2, .int (zI (1))), (0, .ref b), (1, .ref (adC G 0 0))]) hx hb dL_law_282 rfl hl (by decide) rfl (fun ls hl => ?_)
  refine W.widen (k := 600) (n := 6000) (by omega) (by omega) ?_
  exact kk n3 M3 a3 H locs ls S3 t3 hP hS (lv_sub hl [2, 3, 1, 0] rfl)
set_option maxHeartbeats 4000000 in
set_option maxRecDepth 100000 in
theorem lp_acts (E : Cx p s m #[Value.ref b] meth c cL_law (some .boolean) 5 "PenStrikeLaw" G) (hX : va_X b L xs s s.heap) (hbl : b < s.heap.size) (hbA : ¬ AC G b) (hL : L ≤ 260) (kk : ∀ (ns : Nat) (M : Mem) (a : Row) (H : Heap) (locs : List Loc) (ls : Array Slot), SA ns M a → a 7 ≤ 20000 → PW G (AC G) (XC G ns) (szC G ns) M s H → va_S (AC G) s.heap H locs → lv_has ls 5 [(0, .ref b), (1, .ref (adC G 0 0)), (2, .int (zI (1)))] → W p l e room_1 s m #[Value.ref b] below meth c H locs (1400) (14000) Q (F0 m 334 ls [])) :
    ∀ (n k : Nat), k + n = 34 → ∀ (ns : Nat) (M : Mem) (a : Row) (H : Heap) (locs : List Loc) (ls : Array Slot), SA ns M a → a 7 ≤ 100 + 300 * (k : Int) → PW G (AC G) (XC G ns) (szC G ns) M s H → va_S (AC G) s.heap H locs → lv_has ls 5 [(0, .ref b), (1, .ref (adC G 0 0)), (2, .int (zI (1))), (3, .int (zI (k)))] → W p l e room_1 s m #[Value.ref b] below meth c H locs (600 + 21 * k) (6000 + 228 * k) Q (F0 m 283 ls []) := by
  obtain ⟨hx, hb, hr, hlocks, hml, hown, hts, hK⟩ := id E
  intro n
  induction n with
  | zero =>
    intro k hk ns M a H locs ls B ht hP hS hl
    obtain rfl : k = 34 := by omega
    refine lv_iload_n hx hb dL_law_283 rfl (lv_at hl 3 rfl) ?_
    refine lv_bipush (v := zI (34)) hx hb dL_law_284 (by decide) ?_
    refine lv_icmp_ge (tgt := 334) hx hb dL_law_286 (by decide) (fun _ => ?_) (fun hc => absurd (by decide) hc)
    refine W.widen (k := 1400) (n := 14000) (by omega) (by omega) ?_
    exact kk ns M a H locs ls B (by omega) hP hS (lv_sub hl [0, 1, 2] rfl)
  | succ n ih =>
    intro k hk ns M a H locs ls B ht hP hS hl
    refine lv_iload_n hx hb dL_law_283 rfl (lv_at hl 3 rfl) ?_
    refine lv_bipush (v := zI (34)) hx hb dL_law_284 (by decide) ?_
    refine lv_icmp_ge (tgt := 334) hx hb dL_law_286 (by decide) (fun hc => absurd hc (by rw [zI_le (by omega) (by omega) (by omega) (by omega)]; omega)) (fun _ => ?_)
    refine lv_iload_n hx hb dL_law_289 rfl (lv_at hl 2 rfl) ?_
    refine lv_if_eq (tgt := 334) hx hb dL_law_290 (by decide) (fun hc => absurd hc (by decide)) (fun _ => ?_)
    refine lv_aload_n hx hb dL_law_293 rfl (lv_at hl 1 rfl) ?_
    refine lv_aload_n hx hb dL_law_294 rfl (lv_at hl 0 rfl) ?_
    refine lv_bipush (v := zI (17)) hx hb dL_law_295 (by decide) ?_
    refine lv_iload_n hx hb dL_law_297 rfl (lv_at hl 3 rfl) ?_
    refine lv_iadd hx hb dL_law_298 ?_
    refine kr_nm (y := zI (17 + k)) (zI_add _ _).symm ?_
    refine kr_nm (y := zI ((17 + k : Nat) : Int)) (by rw [show ((17 + k : Nat) : Int) = 17 + (k : Int) from by omega]) ?_
    refine cv_L_cell (K := 17 + k) E hP hS hX hbl hbA hL (by omega) w_452 ⟨(Nat.le_of_ble_eq_true rfl), (Nat.le_of_ble_eq_true rfl)⟩ hl (Nat.le_of_ble_eq_true rfl) dL_law_299 ⟨show _ ≤ 600000 by omega, show _ ≤ 7302250 by omega⟩ (fun H locs hP hS => ?_)
    obtain ⟨y1, e_y1, l_y1, u_y1⟩ := cel_rg xs L (17 + k)
    rw [e_y1]
    obtain ⟨n1, M1, a1, q1, B1, t1, t2⟩ := m_acts B (by omega) l_y1 u_y1
    refine cv_L_acts E hP hS q1 w_569 ⟨(Nat.le_of_ble_eq_true rfl), (Nat.le_of_ble_eq_true rfl)⟩ hl (Nat.le_of_ble_eq_true rfl) dL_law_302 ⟨show _ ≤ 600000 by omega, show _ ≤ 7302250 by omega⟩ (fun H locs hP hS => ?_)
    have hP : PW G (AC G) (XC G n1) (szC G n1) M1 s H := hP
    refine kr_nm (y := zI (1)) rfl ?_
    refine lv_if_eq (tgt := 326) hx hb dL_law_305 (by decide) (fun hc => absurd hc (by decide)) (fun _ => ?_)
    refine lv_aload_n hx hb dL_law_308 rfl (lv_at hl 1 rfl) ?_
    refine cv_L_pens E hP hS (m_pens B1.1 B1.2.1 B1.2.2.2.1) w_457 ⟨(Nat.le_of_ble_eq_true rfl), (Nat.le_of_ble_eq_true rfl)⟩ hl (Nat.le_of_ble_eq_true rfl) dL_law_309 ⟨show _ ≤ 600000 by omega, show _ ≤ 7302250 by omega⟩ (fun H locs hP hS => ?_)
    refine kr_nm (y := zI (1)) rfl ?_
    refine lv_if_eq (tgt := 326) hx hb dL_law_312 (by decide) (fun hc => absurd hc (by decide)) (fun _ => ?_)
    refine lv_aload_n hx hb dL_law_315 rfl (lv_at hl 1 rfl) ?_
    refine cv_L_lines E hP hS (m_lines B1.1 B1.2.1 B1.2.2.2.1) w_506 ⟨(Nat.le_of_ble_eq_true rfl), (Nat.le_of_ble_eq_true rfl)⟩ hl (Nat.le_of_ble_eq_true rfl) dL_law_316 ⟨show _ ≤ 600000 by omega, show _ ≤ 7302250 by omega⟩ (fun H locs hP hS => ?_)
    refine kr_nm (y := zI (1)) rfl ?_
    refine lv_if_eq (tgt := 326) hx hb dL_law_319 (by decide) (fun hc => absurd hc (by decide)) (fun _ => ?_)
    refine lv_iconst (v := zI (1)) hx hb dL_law_322 (by decide) ?_
    refine lv_goto (tgt := 327) hx hb dL_law_323 (by decide) ?_
    refine lv_istore_n (lv' := [(2, .int (zI (1))), (0, .ref b), (1, .ref (adC G 0 0)), (3, .int (zI (k)))]) hx hb dL_law_327 rfl hl (by decide) rfl (fun ls hl => ?_)
    refine lv_iinc (v := zI (k + 1)) (lv' := [(3, .int (zI (k + 1))), (2, .int (zI (1))), (0, .ref b), (1, .ref (adC G 0 0))]) hx hb dL_law_328 hl (k := 3) rfl (by rw [show Int32.ofInt 1 = zI 1 from rfl, zI_add]) (by decide) rfl (fun ls hl => ?_)
    refine lv_goto (tgt := 283) hx hb dL_law_331 (by decide) ?_
    have kq := ih (k + 1) (by omega) n1 M1 a1 H locs ls B1 (by omega) hP hS (lv_sub hl [2, 3, 1, 0] rfl)
    rw [show 600 + 21 * (k + 1) = 600 + 21 * k + 21 by omega, show 6000 + 228 * (k + 1) = 6000 + 228 * k + 228 by omega] at kq
    exact kq
set_option maxHeartbeats 4000000 in
set_option maxRecDepth 100000 in
theorem sg_end (E : Cx p s m #[Value.ref b] meth c cL_law (some .boolean) 5 "PenStrikeLaw" G) (hX : va_X b L xs s s.heap) (hbl : b < s.heap.size) (hbA : ¬ AC G b) (hL : L ≤ 260) (kk : ∀ (H : Heap) (locs : List Loc) (ls : Array Slot), va_S (AC G) s.heap H locs → W p l e room_1 s m #[Value.ref b] below meth c H locs (1500) (15000) Q (F0 m 409 ls [.int (zI 1)])) {ns : Nat} {M : Mem} {a : Row} {H : Heap} {locs : List Loc} {ls : Array Slot} (B : SA ns M a) (ht : a 7 ≤ 20000) (hP : PW G (AC G) (XC G ns) (szC G ns) M s H) (hS : va_S (AC G) s.heap H locs) (hl : lv_has ls 5 [(0, .ref b), (1, .ref (adC G 0 0)), (2, .int (zI (1)))]) : W p l e room_1 s m #[Value.ref b] below meth c H locs (1400) (14000) Q (F0 m 334 ls []) := by
  obtain ⟨hx, hb, hr, hlocks, hml, hown, hts, hK⟩ := id E
  obtain ⟨Wf, R, -, X, -, -⟩ := id B
  have ws := Wf.sc
  obtain ⟨n1, k1, M1, M2, q1, q2, k4, R2⟩ := sa_undo B (by omega)
  refine lv_aload_n hx hb dL_law_334 rfl (lv_at hl 1 rfl) ?_
  refine lv_iconst (v := zI (4)) hx hb dL_law_335 (by decide) ?_
  refine cv_X7_count E hP hS (a_cnt4 Wf R) w_414 ⟨(Nat.le_of_ble_eq_true rfl), (Nat.le_of_ble_eq_true rfl)⟩ hl (Nat.le_of_ble_eq_true rfl) dL_law_336 ⟨show _ ≤ 600000 by omega, show _ ≤ 7302250 by omega⟩ (fun H locs hP hS => ?_)
  refine kr_nm (y := zI (a 7)) rfl ?_
  refine lv_istore_n (lv' := [(3, .int (zI (a 7))), (0, .ref b), (1, .ref (adC G 0 0)), (2, .int (zI (1)))]) hx hb dL_law_339 rfl hl (by decide) rfl (fun ls hl => ?_)
  refine lv_aload_n hx hb dL_law_340 rfl (lv_at hl 2 rfl) ?_
  refine lv_iconst (v := zI (2)) hx hb dL_law_341 (by decide) ?_
  refine cv_X7_count E hP hS (a_cnt2 Wf R) w_414 ⟨(Nat.le_of_ble_eq_true rfl), (Nat.le_of_ble_eq_true rfl)⟩ hl (Nat.le_of_ble_eq_true rfl) dL_law_342 ⟨show _ ≤ 600000 by omega, show _ ≤ 7302250 by omega⟩ (fun H locs hP hS => ?_)
  refine kr_nm (y := zI (nd a (nl a))) rfl ?_
  refine lv_istore (lv' := [(4, .int (zI (nd a (nl a)))), (3, .int (zI (a 7))), (0, .ref b), (1, .ref (adC G 0 0)), (2, .int (zI (1)))]) hx hb dL_law_345 hl (by decide) rfl (fun ls hl => ?_)
  refine lv_iload_n hx hb dL_law_347 rfl (lv_at hl 4 rfl) ?_
  refine lv_if_eq (tgt := 408) hx hb dL_law_348 (by decide) (fun hc => absurd hc (by decide)) (fun _ => ?_)
  refine lv_aload_n hx hb dL_law_351 rfl (lv_at hl 3 rfl) ?_
  refine lv_bipush (v := zI (9)) hx hb dL_law_352 (by decide) ?_
  refine cv_X7_waits E hP hS q1 w_403 ⟨(Nat.le_of_ble_eq_true rfl), (Nat.le_of_ble_eq_true rfl)⟩ hl (Nat.le_of_ble_eq_true rfl) dL_law_354 ⟨show _ ≤ 600000 by omega, show _ ≤ 7302250 by omega⟩ (fun H locs hP hS => ?_)
  have hP : PW G (AC G) (XC G n1) (szC G n1) M1 s H := hP
  refine kr_nm (y := zI (a 7 + 9)) rfl ?_
  refine lv_iload_n hx hb dL_law_357 rfl (lv_at hl 1 rfl) ?_
  refine lv_bipush (v := zI (9)) hx hb dL_law_358 (by decide) ?_
  refine lv_iadd hx hb dL_law_360 ?_
  refine kr_nm (y := zI ((a 7) + 9)) (zI_add _ _).symm ?_
  refine lv_icmp_ne (tgt := 408) hx hb dL_law_361 (by decide) (fun hc => absurd hc (fun q => q rfl)) (fun _ => ?_)
  refine lv_aload_n hx hb dL_law_364 rfl (lv_at hl 3 rfl) ?_
  refine cv_X7_undo E hP hS q2 w_444 ⟨(Nat.le_of_ble_eq_true rfl), (Nat.le_of_ble_eq_true rfl)⟩ hl (Nat.le_of_ble_eq_true rfl) dL_law_365 ⟨show _ ≤ 600000 by omega, show _ ≤ 7302250 by omega⟩ (fun H locs hP hS => ?_)
  have hP : PW G (AC G) (XC G n1) (szC G n1) M2 s H := hP
  refine kr_nm (y := zI ((k1 : Int))) rfl ?_
  refine lv_if_lt (tgt := 408) hx hb dL_law_368 (by decide) (fun hc => absurd hc (by rw [show (0 : Int32) = zI 0 from zl_0, zI_lt (by omega) (by omega) (by omega) (by omega)]; omega)) (fun _ => ?_)
  refine lv_aload_n hx hb dL_law_371 rfl (lv_at hl 3 rfl) ?_
  refine lv_iconst (v := zI (4)) hx hb dL_law_372 (by decide) ?_
  refine cv_X7_count E hP hS (a_cnt4 Wf R2) w_414 ⟨(Nat.le_of_ble_eq_true rfl), (Nat.le_of_ble_eq_true rfl)⟩ hl (Nat.le_of_ble_eq_true rfl) dL_law_373 ⟨show _ ≤ 600000 by omega, show _ ≤ 7302250 by omega⟩ (fun H locs hP hS => ?_)
  refine kr_nm (y := zI (a 7)) rfl ?_
  refine lv_iload_n hx hb dL_law_376 rfl (lv_at hl 1 rfl) ?_
  refine lv_icmp_ne (tgt := 408) hx hb dL_law_377 (by decide) (fun hc => absurd hc (fun q => q rfl)) (fun _ => ?_)
  refine lv_aload_n hx hb dL_law_380 rfl (lv_at hl 3 rfl) ?_
  refine lv_iconst (v := zI (2)) hx hb dL_law_381 (by decide) ?_
  refine cv_X7_count E hP hS (a_cnt2 Wf R2) w_414 ⟨(Nat.le_of_ble_eq_true rfl), (Nat.le_of_ble_eq_true rfl)⟩ hl (Nat.le_of_ble_eq_true rfl) dL_law_382 ⟨show _ ≤ 600000 by omega, show _ ≤ 7302250 by omega⟩ (fun H locs hP hS => ?_)
  refine kr_nm (y := zI (nd a (nl a))) rfl ?_
  refine lv_iload hx hb dL_law_385 (lv_at hl 0 rfl) ?_
  refine lv_icmp_ne (tgt := 408) hx hb dL_law_387 (by decide) (fun hc => absurd hc (fun q => q rfl)) (fun _ => ?_)
  refine lv_aload_n hx hb dL_law_390 rfl (lv_at hl 3 rfl) ?_
  refine cv_L_pens E hP hS (m_pens Wf R2 X) w_457 ⟨(Nat.le_of_ble_eq_true rfl), (Nat.le_of_ble_eq_true rfl)⟩ hl (Nat.le_of_ble_eq_true rfl) dL_law_391 ⟨show _ ≤ 600000 by omega, show _ ≤ 7302250 by omega⟩ (fun H locs hP hS => ?_)
  refine kr_nm (y := zI (1)) rfl ?_
  refine lv_if_eq (tgt := 408) hx hb dL_law_394 (by decide) (fun hc => absurd hc (by decide)) (fun _ => ?_)
  refine lv_aload_n hx hb dL_law_397 rfl (lv_at hl 3 rfl) ?_
  refine cv_L_lines E hP hS (m_lines Wf R2 X) w_506 ⟨(Nat.le_of_ble_eq_true rfl), (Nat.le_of_ble_eq_true rfl)⟩ hl (Nat.le_of_ble_eq_true rfl) dL_law_398 ⟨show _ ≤ 600000 by omega, show _ ≤ 7302250 by omega⟩ (fun H locs hP hS => ?_)
  refine kr_nm (y := zI (1)) rfl ?_
  refine lv_if_eq (tgt := 408) hx hb dL_law_401 (by decide) (fun hc => absurd hc (by decide)) (fun _ => ?_)
  refine lv_iconst (v := zI (1)) hx hb dL_law_404 (by decide) ?_
  refine lv_goto (tgt := 409) hx hb dL_law_405 (by decide) ?_
  refine W.widen (k := 1500) (n := 15000) (by omega) (by omega) ?_
  exact kk H locs ls hS
end LAWW
