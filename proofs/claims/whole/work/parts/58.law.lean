/-! THE CLAIM OUT OF ONE WALK OF THE LAW'S BODY. Your part is whole_start (and what it stands on); all else here is the same for every law, but numbers. -/
def R_law : String := "PenStrikeLaw"
def lw_P (b : Addr) (xs : List Int32) (args : Array Value) (s : State) : Prop := args = #[.ref b] ∧ s.IntsAt b xs ∧ xs.length ≤ 2560 ∧ (Jvm.Cond.and given_1 narrow_1).before args s = true
/-- what a walk over the start with the record d0 says of its end, said of the start itself -/
theorem lw_closed {s t : State} {o : Outcome} {d0 : Drawn} {L : List Loc} {k n : Nat} (hd0 : s.drawn.sameBut d0 lw_cs) (hv : ∃ v, o = .returned v) (hW : (s.setDrawn d0).WarmedH t.vm) (hs : (s.setDrawn d0).sameButNew ({ t with vm := s.vm } : State) L k n) : State.butDraws s t lw_cs (fun t1 => Framed s o t1 L k n) := by
  have h2 : t.drawn = d0 := congrArg State.drawn hs.1
  refine ⟨⟨hv, hW, State.sameButNew.setDrawn hs s.drawn⟩, ?_, by decide⟩
  rw [h2]
  exact hd0
def lw_Q (_ : Array Value) (s : State) (o : Outcome) (t : State) : Prop := o = .returned (some (.int 1)) ∧ State.butDraws s t lw_cs (fun t1 => Framed s o t1 [] 600000 7302250)
def lw_Z (below : List Frame) (a : Array Value) (s : State) : State → Prop := fun t => ∃ o, t.status = .running ∧ Ended t below o ∧ lw_Q a s o t
/-- the law's own end, with 1 on the stack, nothing written that was there before, its room as the claim has it; d0: the record of draws at this point (at the entry s.drawn: begin with 'refine W.base ?_' and 'have hd0 := Drawn.sameBut.refl s.drawn lw_cs') -/
theorem lw_ret {p : Program} {l : Launch} {e : Env} {s : State} {m : MethodId} {below : List Frame} {meth : Method} {c : Code} {b : Nat} {d0 : Drawn} (hd0 : s.drawn.sameBut d0 lw_cs) (hx : p.tables.exec = Jvm.exec) (hb : c.code = code) (hr : meth.sig.returnType = ret) (hlocks : meth.locks = false) {pc : Nat} {H : Heap} {ls : Array Slot} (hdg : decode code pc = .ok (.ireturn, 1)) : W p l e room_1 (s.setDrawn d0) m #[Value.ref b] below meth c H [] 600000 7302250 (lw_Z below #[Value.ref b] s) (F0 m pc ls [.int 1]) := by
  intro T hT X
  obtain ⟨fs, hret, hrun, hended, hW, hframe⟩ := X.leave (v := some (.int 1)) (hlocks := hlocks) (fun h => by rw [hr] at h; cases h)
  have hmeth' : T.vm.method? m = some meth := X.method'
  refine ⟨T.setFrames fs, ?_, .returned (some (.int 1)), hrun, hended, rfl, lw_closed hd0 ⟨_, rfl⟩ hW hframe⟩
  jvm_step X.here [X.here.top, hx, hb, hdg, hmeth', hr, ret, narrow_b1]
  (try refine ⟨rfl, ?_⟩); (try refine ⟨rfl, ?_⟩)
  first | (intro acts; rw [hret _ acts rfl rfl rfl]) | rw [hret _ _ rfl rfl rfl]
  exact Steps.refl _
/-- what holds at the law's entry: the machine, the code, the tables' words (any of lw_tbl by 'hts w (by decide +kernel)'), the script of L ints xs at the cell b, what the Statement gives of the start (any of its parts by flat_of_before) -/
def lw_At (p : Program) (s : State) (m : MethodId) (meth : Method) (c : Code) (b L : Nat) (xs : Nat → Int32) : Prop :=
  p.tables.exec = Jvm.exec ∧ c.code = code ∧ meth.sig.returnType = ret ∧ c.maxLocals = 4 ∧ s.vm.findClass R_law = some m.cls ∧ (∀ w ∈ lw_tbl, w.before #[Value.ref b] s = true) ∧ va_X b L xs s s.heap ∧ b < s.heap.size ∧ meth.locks = false ∧ (Jvm.Cond.and given_1 narrow_1).before #[Value.ref b] s = true
set_option maxHeartbeats 8000000 in
set_option maxRecDepth 100000 in
/-- at the loop's head, j calls done: both objects stand, and the invariant holds -/
theorem law_loop {p : Program} {l : Launch} {e : Env} {s : State} {m : MethodId} {below : List Frame} {meth : Method} {c : Code} {G : GG} {b L : Nat} {xs : Nat → Int32} (hL : L ≤ 2560) (C0 : lw_At p s m meth c b L xs) (ho : G.2.2.2 = s.heap.size) (hK : KK G s) :
    ∀ (n j : Nat), 5 * j ≤ L → L < 5 * (j + n) → ∀ (ns : Nat) (M S : Mem) (H : Heap) (locs : List Loc) (ls : Array Slot), INV ns M S → LW G ns M S s H → va_S (AO G.2.2.2) s.heap H locs → lv_has ls 4 [(0, .ref b), (1, .ref (adC G 0 0)), (2, .ref (adM G 0 0)), (3, .int (zI ((5 * j : Nat) : Int)))] → W p l e room_1 s m #[Value.ref b] below meth c H locs (100 + 21 * j) (3000 + 228 * j) (lw_Z below #[Value.ref b] s) (F0 m 18 ls []) := by
  obtain ⟨hx, hb, hr, hml, hown, hts, hX, hbl, hlocks, hgv⟩ := C0
  have E : Cx p s m #[Value.ref b] meth c cL_law ret 4 "PenStrikeLaw" G := ⟨hx, hb, hr, hlocks, hml, hown, fun w h => hts w (List.mem_filter.mp h).1, hK⟩
  have hbA : ¬ AO G.2.2.2 b := fun z => by
    have z : G.2.2.2 ≤ b := z
    omega
  intro n
  induction n with
  | zero =>
    intro j h1 h2
    exact absurd h2 (by omega)
  | succ n ih =>
    intro j hj hn ns M S H locs ls I L0 hS hl
    refine lv_iload_n hx hb dL_law_18 rfl (lv_at hl 3 rfl) ?_
    refine lv_aload_n hx hb dL_law_19 rfl (lv_at hl 0 rfl) ?_
    refine va_slen hx hb hX hbl hbA hS dL_law_20 ?_
    refine lv_iconst (v := zI (5 : Nat)) hx hb dL_law_21 rfl ?_
    refine lv_isub hx hb dL_law_22 ?_
    have ey : Int32.ofNat L - zI ((5 : Nat) : Int) = zI ((L : Int) - ((5 : Nat) : Int)) := by rw [zI_nat, zI_sub]
    have hroom : 100 + 21 * j ≤ 600000 ∧ 3000 + 228 * j ≤ 7302250 := ⟨by omega, by omega⟩
    refine lv_icmp_gt (tgt := 978) hx hb dL_law_23 (by decide) (fun _ => ?_) (fun cc => ?_)
    · refine lv_iconst (v := 1) hx hb dL_law_978 (by decide) ?_
      refine va_forget (fun q hq => by rw [← ho]; exact hS.2.2 q hq) ?_
      refine W.widen (k := 600000) (n := 7302250) hroom.1 hroom.2 ?_
      exact lw_ret (Drawn.sameBut.refl s.drawn lw_cs) hx hb hr hlocks dL_law_979
    · rw [ey, zI_lt (by omega) (by omega) (by omega) (by omega)] at cc
      have hlt : 5 * j + 5 ≤ L := by omega
      have h0 : vp_in (zI ((5 * j : Nat) : Int)) L := ibd_in (ibd_t (by omega) (by omega) (by omega))
      have h1 := vp_nxt (j := j) (k := 1) (L := L) (by omega) hL
      have h2 := vp_nxt (j := j) (k := 2) (L := L) (by omega) hL
      have h3 := vp_nxt (j := j) (k := 3) (L := L) (by omega) hL
      have h4 := vp_nxt (j := j) (k := 4) (L := L) (by omega) hL
      have hf : 100 + 21 * j + 21 ≤ room_1.cells ∧ 3000 + 228 * j + 228 ≤ room_1.slots := ⟨show _ ≤ 600000 by omega, show _ ≤ 7302250 by omega⟩
      have kk : ∀ (ns1 : Nat) (M1 S1 : Mem) (H1 : Heap) (locs1 : List Loc), INV ns1 M1 S1 → LW G ns1 M1 S1 s H1 → va_S (AO G.2.2.2) s.heap H1 locs1 → W p l e room_1 s m #[Value.ref b] below meth c H1 locs1 (100 + 21 * j + 21) (3000 + 228 * j + 228) (lw_Z below #[Value.ref b] s) (F0 m 972 ls []) := by
        intro ns1 M1 S1 H1 locs1 I1 L1 hS1
        refine lv_iinc (v := zI ((5 * (j + 1) : Nat) : Int)) (lv' := [(3, .int (zI ((5 * (j + 1) : Nat) : Int))), (0, .ref b), (1, .ref (adC G 0 0)), (2, .ref (adM G 0 0))]) hx hb dL_law_972 hl (k := 3) rfl (by rw [show Int32.ofInt 5 = zI 5 from rfl, zI_add]; congr 1) (by decide) rfl (fun ls hl => ?_)
        refine lv_goto (tgt := 18) hx hb dL_law_975 (by decide) ?_
        have q := ih (j + 1) (by omega) (by omega) ns1 M1 S1 H1 locs1 ls I1 L1 hS1 (lv_sub hl [1, 2, 3, 0] rfl)
        rw [show 100 + 21 * (j + 1) = 100 + 21 * j + 21 by omega, show 3000 + 228 * (j + 1) = 3000 + 228 * j + 228 by omega] at q
        exact q
      refine lv_aload_n hx hb dL_law_26 rfl (lv_at hl 0 rfl) ?_
      refine lv_iload_n hx hb dL_law_27 rfl (lv_at hl 3 rfl) ?_
      refine va_sld hx hb hX hbl hbA hS h0 dL_law_28 ?_
      refine lv_bipush (v := 31) hx hb dL_law_29 (by decide) ?_
      refine lv_iand hx hb dL_law_31 ?_
      generalize xs (zI ((5 * j : Nat) : Int)).toNatClampNeg &&& 31 = y
      by_cases c0 : y = 0
      · refine kr_tin hx hb c0 (tgt := 176) dL_law_32 (by decide) (by decide) rfl (by decide) ?_
        exact lwc_set E I L0 hX hbl hbA hS h1 h2 h3 h4 hf hl kk
      by_cases c1 : y = 1
      · refine kr_tin hx hb c1 (tgt := 209) dL_law_32 (by decide) (by decide) rfl (by decide) ?_
        exact lwc_pen E I L0 hX hbl hbA hS h1 h2 h3 h4 hf hl kk
      by_cases c2 : y = 2
      · refine kr_tin hx hb c2 (tgt := 262) dL_law_32 (by decide) (by decide) rfl (by decide) ?_
        exact lwc_line E I L0 hX hbl hbA hS h1 h2 h3 h4 hf hl kk
      by_cases c3 : y = 3
      · refine kr_tin hx hb c3 (tgt := 315) dL_law_32 (by decide) (by decide) rfl (by decide) ?_
        exact lwc_leave E I L0 hX hbl hbA hS h1 h2 h3 h4 hf hl kk
      by_cases c4 : y = 4
      · refine kr_tin hx hb c4 (tgt := 348) dL_law_32 (by decide) (by decide) rfl (by decide) ?_
        exact lwc_refill E I L0 hX hbl hbA hS h1 h2 h3 h4 hf hl kk
      by_cases c5 : y = 5
      · refine kr_tin hx hb c5 (tgt := 371) dL_law_32 (by decide) (by decide) rfl (by decide) ?_
        exact lwc_penOf E I L0 hX hbl hbA hS h1 h2 h3 h4 hf hl kk
      by_cases c6 : y = 6
      · refine kr_tin hx hb c6 (tgt := 404) dL_law_32 (by decide) (by decide) rfl (by decide) ?_
        exact lwc_lineOf E I L0 hX hbl hbA hS h1 h2 h3 h4 hf hl kk
      by_cases c7 : y = 7
      · refine kr_tin hx hb c7 (tgt := 437) dL_law_32 (by decide) (by decide) rfl (by decide) ?_
        exact lwc_take E I L0 hX hbl hbA hS h1 h2 h3 h4 hf hl kk
      by_cases c8 : y = 8
      · refine kr_tin hx hb c8 (tgt := 460) dL_law_32 (by decide) (by decide) rfl (by decide) ?_
        exact lwc_home E I L0 hX hbl hbA hS h1 h2 h3 h4 hf hl kk
      by_cases c9 : y = 9
      · refine kr_tin hx hb c9 (tgt := 473) dL_law_32 (by decide) (by decide) rfl (by decide) ?_
        exact lwc_draw E I L0 hX hbl hbA hS h1 h2 h3 h4 hf hl kk
      by_cases c10 : y = 10
      · refine kr_tin hx hb c10 (tgt := 506) dL_law_32 (by decide) (by decide) rfl (by decide) ?_
        exact lwc_erase E I L0 hX hbl hbA hS h1 h2 h3 h4 hf hl kk
      by_cases c11 : y = 11
      · refine kr_tin hx hb c11 (tgt := 529) dL_law_32 (by decide) (by decide) rfl (by decide) ?_
        exact lwc_waits E I L0 hX hbl hbA hS h1 h2 h3 h4 hf hl kk
      by_cases c12 : y = 12
      · refine kr_tin hx hb c12 (tgt := 552) dL_law_32 (by decide) (by decide) rfl (by decide) ?_
        exact lwc_clean E I L0 hX hbl hbA hS h1 h2 h3 h4 hf hl kk
      by_cases c13 : y = 13
      · refine kr_tin hx hb c13 (tgt := 565) dL_law_32 (by decide) (by decide) rfl (by decide) ?_
        exact lwc_whyNot E I L0 hX hbl hbA hS h1 h2 h3 h4 hf hl kk
      by_cases c14 : y = 14
      · refine kr_tin hx hb c14 (tgt := 598) dL_law_32 (by decide) (by decide) rfl (by decide) ?_
        exact lwc_waitFor E I L0 hX hbl hbA hS h1 h2 h3 h4 hf hl kk
      by_cases c15 : y = 15
      · refine kr_tin hx hb c15 (tgt := 631) dL_law_32 (by decide) (by decide) rfl (by decide) ?_
        exact lwc_strikers E I L0 hX hbl hbA hS h1 h2 h3 h4 hf hl kk
      by_cases c16 : y = 16
      · refine kr_tin hx hb c16 (tgt := 644) dL_law_32 (by decide) (by decide) rfl (by decide) ?_
        exact lwc_room E I L0 hX hbl hbA hS h1 h2 h3 h4 hf hl kk
      by_cases c17 : y = 17
      · refine kr_tin hx hb c17 (tgt := 667) dL_law_32 (by decide) (by decide) rfl (by decide) ?_
        exact lwc_spread E I L0 hX hbl hbA hS h1 h2 h3 h4 hf hl kk
      by_cases c18 : y = 18
      · refine kr_tin hx hb c18 (tgt := 680) dL_law_32 (by decide) (by decide) rfl (by decide) ?_
        exact lwc_touch E I L0 hX hbl hbA hS h1 h2 h3 h4 hf hl kk
      by_cases c19 : y = 19
      · refine kr_tin hx hb c19 (tgt := 713) dL_law_32 (by decide) (by decide) rfl (by decide) ?_
        exact lwc_touching E I L0 hX hbl hbA hS h1 h2 h3 h4 hf hl kk
      by_cases c20 : y = 20
      · refine kr_tin hx hb c20 (tgt := 736) dL_law_32 (by decide) (by decide) rfl (by decide) ?_
        exact lwc_seams E I L0 hX hbl hbA hS h1 h2 h3 h4 hf hl kk
      by_cases c21 : y = 21
      · refine kr_tin hx hb c21 (tgt := 749) dL_law_32 (by decide) (by decide) rfl (by decide) ?_
        exact lwc_seamsBy E I L0 hX hbl hbA hS h1 h2 h3 h4 hf hl kk
      by_cases c22 : y = 22
      · refine kr_tin hx hb c22 (tgt := 782) dL_law_32 (by decide) (by decide) rfl (by decide) ?_
        exact lwc_meanShade E I L0 hX hbl hbA hS h1 h2 h3 h4 hf hl kk
      by_cases c23 : y = 23
      · refine kr_tin hx hb c23 (tgt := 795) dL_law_32 (by decide) (by decide) rfl (by decide) ?_
        exact lwc_fair E I L0 hX hbl hbA hS h1 h2 h3 h4 hf hl kk
      by_cases c24 : y = 24
      · refine kr_tin hx hb c24 (tgt := 818) dL_law_32 (by decide) (by decide) rfl (by decide) ?_
        exact lwc_fairSpread E I L0 hX hbl hbA hS h1 h2 h3 h4 hf hl kk
      by_cases c25 : y = 25
      · refine kr_tin hx hb c25 (tgt := 831) dL_law_32 (by decide) (by decide) rfl (by decide) ?_
        exact lwc_tour E I L0 hX hbl hbA hS h1 h2 h3 h4 hf hl kk
      by_cases c26 : y = 26
      · refine kr_tin hx hb c26 (tgt := 864) dL_law_32 (by decide) (by decide) rfl (by decide) ?_
        exact lwc_count E I L0 hX hbl hbA hS h1 h2 h3 h4 hf hl kk
      by_cases c27 : y = 27
      · refine kr_tin hx hb c27 (tgt := 887) dL_law_32 (by decide) (by decide) rfl (by decide) ?_
        exact lwc_undo E I L0 hX hbl hbA hS h1 h2 h3 h4 hf hl kk
      by_cases c28 : y = 28
      · refine kr_tin hx hb c28 (tgt := 900) dL_law_32 (by decide) (by decide) rfl (by decide) ?_
        exact lwc_type E I L0 hX hbl hbA hS h1 h2 h3 h4 hf hl kk
      by_cases c29 : y = 29
      · refine kr_tin hx hb c29 (tgt := 923) dL_law_32 (by decide) (by decide) rfl (by decide) ?_
        exact lwc_clearText E I L0 hX hbl hbA hS h1 h2 h3 h4 hf hl kk
      by_cases c30 : y = 30
      · refine kr_tin hx hb c30 (tgt := 936) dL_law_32 (by decide) (by decide) rfl (by decide) ?_
        exact lwc_fault E I L0 hX hbl hbA hS h1 h2 h3 h4 hf hl kk
      by_cases c31 : y = 31
      · refine kr_tin hx hb c31 (tgt := 959) dL_law_32 (by decide) (by decide) rfl (by decide) ?_
        exact lwc_play E I L0 hX hbl hbA hS h1 h2 h3 h4 hf hl kk
      have n0 := lv_neT c0 (a := 0) (by decide)
      have n1 := lv_neT c1 (a := 1) (by decide)
      have n2 := lv_neT c2 (a := 2) (by decide)
      have n3 := lv_neT c3 (a := 3) (by decide)
      have n4 := lv_neT c4 (a := 4) (by decide)
      have n5 := lv_neT c5 (a := 5) (by decide)
      have n6 := lv_neT c6 (a := 6) (by decide)
      have n7 := lv_neT c7 (a := 7) (by decide)
      have n8 := lv_neT c8 (a := 8) (by decide)
      have n9 := lv_neT c9 (a := 9) (by decide)
      have n10 := lv_neT c10 (a := 10) (by decide)
      have n11 := lv_neT c11 (a := 11) (by decide)
      have n12 := lv_neT c12 (a := 12) (by decide)
      have n13 := lv_neT c13 (a := 13) (by decide)
      have n14 := lv_neT c14 (a := 14) (by decide)
      have n15 := lv_neT c15 (a := 15) (by decide)
      have n16 := lv_neT c16 (a := 16) (by decide)
      have n17 := lv_neT c17 (a := 17) (by decide)
      have n18 := lv_neT c18 (a := 18) (by decide)
      have n19 := lv_neT c19 (a := 19) (by decide)
      have n20 := lv_neT c20 (a := 20) (by decide)
      have n21 := lv_neT c21 (a := 21) (by decide)
      have n22 := lv_neT c22 (a := 22) (by decide)
      have n23 := lv_neT c23 (a := 23) (by decide)
      have n24 := lv_neT c24 (a := 24) (by decide)
      have n25 := lv_neT c25 (a := 25) (by decide)
      have n26 := lv_neT c26 (a := 26) (by decide)
      have n27 := lv_neT c27 (a := 27) (by decide)
      have n28 := lv_neT c28 (a := 28) (by decide)
      have n29 := lv_neT c29 (a := 29) (by decide)
      have n30 := lv_neT c30 (a := 30) (by decide)
      have n31 := lv_neT c31 (a := 31) (by decide)
      refine lv_tableOut (tgt := 972) hx hb dL_law_32 (by omega) (by decide) ?_
      refine W.widen (k := 100 + 21 * j + 21) (n := 3000 + 228 * j + 228) (Nat.le_add_right _ 21) (Nat.le_add_right _ 228) ?_
      exact kk ns M S H locs I L0 hS
set_option maxHeartbeats 8000000 in
set_option maxRecDepth 100000 in
theorem whole_start {p : Program} {e : Env} {s : State} {m : MethodId} {below : List Frame} {meth : Method} {c : Code} (l : Launch) (hflags : l.flags = flags0) {b L : Nat} {xs : Nat → Int32} (hL : L ≤ 2560) (C0 : lw_At p s m meth c b L xs) : W p l e room_1 s m #[Value.ref b] below meth c s.heap [] 0 0 (lw_Z below #[Value.ref b] s) (entryFrame m ([Value.ref b] : List Value).toArray 4) := by
  obtain ⟨hx, hb, hr, hml, hown, hts, hX, hbl, hlocks, hgv⟩ := id C0
  obtain ⟨G, ho, hK, hST⟩ := law_start hts hgv
  have E : Cx p s m #[Value.ref b] meth c cL_law ret 4 "PenStrikeLaw" G := ⟨hx, hb, hr, hlocks, hml, hown, fun w h => hts w (List.mem_filter.mp h).1, hK⟩
  have hl := lv_entry ([.ref b]) (n := 4) (Nat.le_of_ble_eq_true rfl)
  rw [lg_entry_eq]
  generalize (lg_sl ([.ref b]) ++ List.replicate (4 - (lg_sl ([.ref b])).length) Slot.unset).toArray = ls at hl ⊢
  have hl : lv_has ls 4 [(0, .ref b)] := hl
  have hS : va_S (AO G.2.2.2) s.heap s.heap [] := va_S.rf
  rw [← ho] at hST
  have hP : PLW G G.2.2.2 [] s s.heap := ⟨⟨by rw [ho]; rfl, fun i x h => by simp at h⟩, hST⟩
  refine kn_new E hP hS (ci := 7) (fs := [.null, .null, .null, .null, .null, .null]) rfl inX7 tyX7 tyX7_ok w_13 w_14 w_1 (by decide +kernel) (Nat.le_of_ble_eq_true rfl) (Nat.le_of_ble_eq_true rfl) dL_law_0 (a := G.2.2.2) rfl (fun H hP hS => ?_)
  refine lv_dup hx hb dL_law_3 rfl ?_
  refine kn_ctor2 (ws := []) (fin := fi_X7_init G G.2.2.2) (rest := [.ref G.2.2.2]) E hl hP hS rfl (c_X7_init l G.2.2.2) w_15 w_16 w_1 w_17 rfl (by decide +kernel) ⟨Nat.le_of_ble_eq_true rfl, Nat.le_of_ble_eq_true rfl⟩ (Nat.le_of_ble_eq_true rfl) dL_law_4 ⟨Nat.le_of_ble_eq_true rfl, Nat.le_of_ble_eq_true rfl⟩ (fun H locs hP hS => ?_)
  have hP : PLW G G.2.2.2 (fi_X7_init G G.2.2.2) s H := hP
  refine lv_astore_n (lv' := [(1, .ref G.2.2.2), (0, .ref b)]) hx hb dL_law_7 rfl hl (by decide) rfl (fun ls hl => ?_)
  refine kn_new E hP hS (ci := 8) (fs := [.null, .null, .null, .null, .int 0, .null, .int 0, .int 0, .int 0, .int 0, .int 0, .null, .null, .null, .null, .null]) rfl inX8 tyX8 tyX8_ok w_791 w_792 w_9 (by decide +kernel) (Nat.le_of_ble_eq_true rfl) (Nat.le_of_ble_eq_true rfl) dL_law_8 (a := G.2.2.2 + 55) rfl (fun H hP hS => ?_)
  refine lv_dup hx hb dL_law_11 rfl ?_
  refine kn_ctor2 (ws := fi_X7_init G G.2.2.2) (fin := fi_X8_init G (G.2.2.2 + 55)) (rest := [.ref (G.2.2.2 + 55)]) E hl hP hS rfl (c_X8_init l (G.2.2.2 + 55)) w_793 w_794 w_9 w_795 rfl (by decide +kernel) ⟨Nat.le_of_ble_eq_true rfl, Nat.le_of_ble_eq_true rfl⟩ (Nat.le_of_ble_eq_true rfl) dL_law_12 ⟨Nat.le_of_ble_eq_true rfl, Nat.le_of_ble_eq_true rfl⟩ (fun H locs hP hS => ?_)
  have hW := lw_world hP
  refine lv_astore_n (lv' := [(2, .ref (G.2.2.2 + 55)), (1, .ref G.2.2.2), (0, .ref b)]) hx hb dL_law_15 rfl hl (by decide) rfl (fun ls hl => ?_)
  refine lv_iconst (v := zI ((5 * 0 : Nat) : Int)) hx hb dL_law_16 (by decide) ?_
  refine lv_istore_n (lv' := [(3, .int (zI ((5 * 0 : Nat) : Int))), (2, .ref (G.2.2.2 + 55)), (1, .ref G.2.2.2), (0, .ref b)]) hx hb dL_law_17 rfl hl (by decide) rfl (fun ls hl => ?_)
  refine W.widen (k := 100 + 21 * 0) (n := 3000 + 228 * 0) (Nat.le_of_ble_eq_true rfl) (Nat.le_of_ble_eq_true rfl) ?_
  exact law_loop hL C0 ho hK (L + 1) 0 (Nat.zero_le _) (by omega) 0 M0 S0 H locs ls inv0 hW hS (lv_sub hl [3, 2, 1, 0] rfl)
set_option maxHeartbeats 4000000 in
theorem lw_walk (l : Launch) (hflags : l.flags = flags0) (b : Addr) (xs : List Int32) : MetFree l x (headSpec (Jvm.Cond.code x code maxLocals ret :: tables_1) room_1) (lw_P b xs) (fun _ _ _ _ _ => True) lw_Q := by
  refine MetFree.of_bodyS (code := code) (maxLocals := maxLocals) (ret := ret) (by decide) ?_ ?_
  · intro args s m h hn
    obtain ⟨meth, c, h1, h2, h3, h4, h5, h6, -, -⟩ := Cond.code_spec hn (atoms_spec (ws := Jvm.Cond.code x code maxLocals ret :: tables_1) h _ List.mem_cons_self)
    exact ⟨meth, c, h1, h2, h3, h4, h5, h6⟩
  · intro p e s m args below meth c s₁ B hml0 hP _
    obtain ⟨rfl, hx, hbd, hgv⟩ := hP
    obtain ⟨scr, harrAt, hlist, hof, hsmall⟩ := hx
    obtain ⟨hcb, hkn, -, -⟩ := State.arrayAt?_spec harrAt
    have hown : s.vm.findClass R_law = some m.cls := findClass_of_methodNamed B.named
    have hts0 : ∀ c ∈ (Jvm.Cond.code x code maxLocals ret :: tables_1), c.before #[Value.ref b] s = true := atoms_spec (ws := Jvm.Cond.code x code maxLocals ret :: tables_1) B.pre
    have hts : ∀ w ∈ lw_tbl, w.before #[Value.ref b] s = true := k2_hts_sels lw_privs (fun w hw => hts0 w (List.mem_cons_of_mem _ hw)) lw_privs_ok
    have hml : c.maxLocals = 4 := B.maxLocals_eq (hts0 _ List.mem_cons_self)
    have X₀ : Stand p l e room_1 s m #[Value.ref b] below meth c s₁ [] 0 0 := Stand.of_body B
    have hh0 : s₁.heap = s.heap := by rw [B.state]; rfl
    have hsz : scr.slots.size = xs.length := by rw [← Array.length_toList, hlist, List.length_map]
    have hval : ∀ j : Nat, j < xs.length → scr.slots[j]? = some (.int (xs.getD j 0)) := fun j hj => by
      rw [← Array.getElem?_toList, hlist]
      simp [hj]
    have hbl : b < s.heap.size := (Array.getElem?_eq_some_iff.mp hcb).1
    have hX : va_X b xs.length (fun j => xs.getD j 0) s s.heap := ⟨scr, hcb, hof, hkn, hsz, hval⟩
    have K : W p l e room_1 s m #[Value.ref b] below meth c s₁.heap [] 0 0 (lw_Z below #[Value.ref b] s) (entryFrame m ([Value.ref b] : List Value).toArray 4) := by
      rw [hh0]
      exact whole_start l hflags hbd ⟨B.exec, B.bytes, B.returns, hml, hown, hts, hX, hbl, B.notSynchronized, hgv⟩
    obtain ⟨t, a1, o, b1, b2, b3⟩ := K s₁ rfl X₀
    exact ⟨t, o, a1, b1, b2, b3⟩
theorem lw_pre_spec {args : Array Value} {s : State} (h : (Jvm.Cond.and given_1 narrow_1).before args s = true) (hr : rest_1_c.before args s = true) : ∃ (b : Addr) (xs : List Int32), lw_P b xs args s := by
  have hs := flat_of_before _ h
  have hq := flat_of_before _ hr
  have hc : (Cond.count 1).before args s = true := hs _ (by decide +kernel)
  have harr : (Cond.arrayOf (.arg 0) .int).before args s = true := hs _ (by decide +kernel)
  have hle : (Cond.le (.length (.arg 0)) (.int 2560)).before args s = true := hs _ (by decide +kernel)
  have hlen : (Cond.isInt (.length (.arg 0))).before args s = true := hq _ (by decide +kernel)
  have hall : (Cond.all (.arg 0) (.isInt (.elem (.arg 0) (.index 0)))).before args s = true := hq _ (by decide +kernel)
  obtain ⟨b, xs, hb, hx⟩ := State.ints_of_pre rfl harr hlen hall
  have hsm : xs.length < 2 ^ 31 := hx.choose_spec.2.2.2
  have hev : (Term.length (.arg 0)).eval args s none [] s = some (.int xs.length.toInt32) := hx.length_eval hb
  have hv := Cond.le_ints hev (show (Term.int 2560).eval args s none [] s = some (.int 2560) from rfl)
  have hd : xs.length.toInt32 ≤ 2560 := by
    simpa [Cond.before, Cond.holds, hv] using hle
  have hN : xs.length ≤ 2560 := (Int32.ofNat_le_ofNat hsm (by decide)).mp (show Int32.ofNat xs.length ≤ Int32.ofNat 2560 from hd)
  exact ⟨b, xs, Cond.one_arg hc (show args[0]? = some (.ref b) from hb), hx, hN, h⟩
theorem lw_comes (l : Launch) (hflags : l.flags = flags0) : Comes l x (Jvm.Cond.code x code maxLocals ret :: tables_1) room_1 (fun tb e args s => Calls_1 tb e args s ∧ rest_1 tb e args s ∧ Pre_1 tb e args s)
    (fun _ _ args s o t => lw_Q args s o t) := by
  intro p e ha hc hk s m args below hf hfit hheap happ hpre
  obtain ⟨b, xs, hP⟩ := lw_pre_spec hpre.2.2 hpre.2.1
  obtain ⟨k, o, h1, h2, h3, hQ⟩ := lw_walk l hflags b xs p e ha hc hk s m args below hf ((Spec.applies_iff_loose hf).mp happ).1 hP trivial
  exact ⟨k, o, h1, h2, h3, hQ⟩
theorem lw_frame {s t : State} {o : Outcome} {args : Array Value} (h : State.butDraws s t lw_cs (fun t1 => Framed s o t1 [] 600000 7302250)) :
    State.butDraws s t [Jvm.Choice.named "NaN.bits", Jvm.Choice.named "NaN.copy"] (fun t1 => Framed s o t1 (fieldLocs frame_1_writes args s ++ arrayLocs frame_1_arrays args s ++ staticLocs frame_1_statics s) 600000 7302250) := h
theorem lw_limb (L : Cond) (hL : ∀ (args : Array Value) (s t : State), L.after args s (.returned (some (.int 1))) t = true) :
    ArmFor flags0 classFile x code maxLocals ret World_1 tables_1 room_1 Calls_1 rest_1 Pre_1
      (fun tb e a s o t => postC L tb e a s o t ∧ State.butDraws s t [Jvm.Choice.named "NaN.bits", Jvm.Choice.named "NaN.copy"] (fun t1 => Framed s o t1 (fieldLocs frame_1_writes a s ++ arrayLocs frame_1_arrays a s ++ staticLocs frame_1_statics s) 600000 7302250)) := by
  intro l hflags _ _ p e ha hc hk s m args below hf hfit hheap happ hpre
  obtain ⟨k, o, h1, h2, h3, rfl, hF⟩ := lw_comes l hflags p e ha hc hk s m args below hf hfit hheap happ hpre
  exact ⟨k, _, h1, h2, h3, hL args s _, lw_frame hF⟩
theorem i_vc : Claimed_1_1 ∧ Claimed_1_2 := ⟨lw_limb limb_1_1 (fun args s t => by simp [limb_1_1, Cond.after, Cond.holds, Cond.value]), lw_limb limb_1_2 (fun args s t => Cond.after_iff.mpr (by
  first | (rw [show limb_1_2 = Cond.eq .result (.int 1) from rfl, Cond.eq_ints (x := 1) (y := 1) rfl rfl]; simp; done) | (simp [limb_1_2, Cond.value, Term.eval]; done)))⟩
