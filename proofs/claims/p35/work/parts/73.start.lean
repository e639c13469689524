/-! the object made -/
section LAWK
variable {p : Program} {l : Launch} {e : Env} {R : Room} {s : State} {m : MethodId} {args : Array Value} {below : List Frame} {meth : Method} {c : Code} {H H0 : Heap} {locs : List Loc} {cells slots : Nat} {Q : State → Prop}
variable {cc : ByteArray} {pc nL index : Nat} {ls : Array Slot} {rest : List Value} {G : GG} {own : String} {ret : Option FieldType} {o : Nat} {ws : List va_E} {l' : List (Nat × Value)}
theorem kn_ctor2 {y : MethodName} {b : ByteArray} {n : Nat} {rm : Room} {x : va_E} {fin : List va_E} {oo : Nat} (E : Cx p s m args meth c cc ret nL own G) (hl : lv_has ls nL l') (hP : PLW G o (ws ++ [x]) s H) (hS : va_S (AO o) s.heap H locs) (hoo : o + ws.length = oo) (hM : CtK l y b n rm oo G [x] fin)
    (w1 : Cond.methodLink own index y ∈ lw_all) (w2 : Cond.instanceMethod y ∈ lw_all) (w3 : Cond.initialized y.cls ∈ lw_all) (w5 : Cond.code y b n none ∈ lw_all) (hy1 : y.name = "<init>")
    (hy : y.cls ≠ "java/lang/invoke/MethodHandle" ∧ y.cls ≠ "java/lang/invoke/VarHandle" ∧ (parseMethodDescriptor y.desc).map (fun d => d.parameters.length) = some 0) (hR : rm.frames + 1 ≤ R.frames ∧ 8 + (n + 11) + rm.locals ≤ R.locals) (hrest : (rest.map fun v => v.category).sum ≤ 8) (hdg : decode cc pc = .ok (.invokespecial index, 3)) (hf : cells + rm.cells ≤ R.cells ∧ slots + rm.slots ≤ R.slots)
    (kk : ∀ (H1 : Heap) (locs1 : List Loc), PLW G o (ws ++ fin) s H1 → va_S (AO o) s.heap H1 locs1 → W p l e R s m args below meth c H1 locs1 (cells + rm.cells) (slots + rm.slots) Q (F0 m (pc + 3) ls rest)) : W p l e R s m args below meth c H locs cells slots Q (F0 m pc ls (.ref oo :: rest)) := by
  obtain ⟨hx, hb, hr, hlocks, hml, hown, hts, hK⟩ := E
  subst hoo
  have hsz : H.size = o + ws.length + 1 := by
    have hz := hP.1.1
    rw [List.length_append] at hz
    rw [hz]
    show o + (ws.length + 1) = _
    omega
  have hsub : ∀ q, AO (o + ws.length) q → AO o q := fun q h => Nat.le_trans (Nat.le_add_right o _) h
  have hP1 : PLW G (o + ws.length) [x] s H := ⟨⟨hsz, fun i y hy => by
    have hz : i < 1 := (List.getElem?_eq_some_iff.mp hy).1
    obtain rfl : i = 0 := by omega
    cases hy
    have h2 := hP.1.2 ws.length x (by rw [List.getElem?_append_right (Nat.le_refl _), Nat.sub_self]; rfl)
    exact h2⟩, hP.2.narrow hsub⟩
  refine va_callv (va_runI (Ts := lw_all) (As := []) (rest := rest) ⟨hx, hb, hml, hown, hts⟩ hM (cwI 0 hts (gU w5) rfl rfl rfl (hts _ w3) (hts _ w1) (hts _ w2) hy1 hy hR) ⟨fun a U g mk q => ⟨q.1, KK.same (u := U) (U := U.calling g mk a) rfl q.2.1, PLW.moved (U := U.calling g mk a) (Vm.Alike.refl U.vm) q.2.2⟩, fun U hU hW => ⟨rfl, hK.warm hW, by rw [hU]; exact hP1.moved hW.alike⟩⟩ rfl rfl hl.1 rfl (lv_room hrest) hdg hf) hS (fun q _ h => hsub q h) (fun q h => hsub q h) (fun u t H1 locs1 ht hvm hw hB hz1 hk1 hS1 => ?_)
  rw [ht] at hB
  exact kk H1 locs1 (kn_joined hP hB hk1) hS1
end LAWK
set_option maxHeartbeats 4000000 in
set_option maxRecDepth 100000 in
theorem pw_start {G : GG} {s : State} {H : Heap} (h : PLW G G.2.2.2 (fi_X7_init G G.2.2.2) s H) : PW G (AC G) (XC G 0) (szC G 0) M0 s H := by
  have z := h.1.1
  have g := h.1.2
  refine ⟨XC_ok G 0, ?_, z, h.2.narrow (fun q hq => ?_)⟩
  · intro g0 k hd
    have hd : dmC 0 g0 k := hd
    unfold dmC pg at hd
    rcases hd with ⟨rfl, hk⟩ | ⟨⟨hg1, hg2⟩, hk⟩
    · rcases (show k = 0 ∨ k = 1 ∨ k = 2 ∨ k = 3 ∨ k = 4 ∨ k = 5 ∨ k = 6 ∨ k = 7 ∨ k = 8 ∨ k = 9 ∨ k = 10 ∨ k = 11 ∨ k = 12 by omega) with rfl | rfl | rfl | rfl | rfl | rfl | rfl | rfl | rfl | rfl | rfl | rfl | rfl
      · exact g 0 _ rfl
      · exact g 43 _ rfl
      · exact g 44 _ rfl
      · exact g 45 _ rfl
      · exact g 46 _ rfl
      · exact g 47 _ rfl
      · exact g 48 _ rfl
      · exact g 49 _ rfl
      · exact g 50 _ rfl
      · exact g 51 _ rfl
      · exact g 52 _ rfl
      · exact g 53 _ rfl
      · exact g 54 _ rfl
    · rcases (show g0 = 1 ∨ g0 = 2 by omega) with rfl | rfl
      · rcases (show k = 0 ∨ k = 1 ∨ k = 2 ∨ k = 3 ∨ k = 4 ∨ k = 5 ∨ k = 6 ∨ k = 7 ∨ k = 8 ∨ k = 9 ∨ k = 10 ∨ k = 11 ∨ k = 12 ∨ k = 13 ∨ k = 14 ∨ k = 15 ∨ k = 16 ∨ k = 17 ∨ k = 18 ∨ k = 19 ∨ k = 20 by omega) with rfl | rfl | rfl | rfl | rfl | rfl | rfl | rfl | rfl | rfl | rfl | rfl | rfl | rfl | rfl | rfl | rfl | rfl | rfl | rfl | rfl
        · exact g 1 _ rfl
        · exact g 2 _ rfl
        · exact g 3 _ rfl
        · exact g 4 _ rfl
        · exact g 5 _ rfl
        · exact g 6 _ rfl
        · exact g 7 _ rfl
        · exact g 8 _ rfl
        · exact g 9 _ rfl
        · exact g 10 _ rfl
        · exact g 11 _ rfl
        · exact g 12 _ rfl
        · exact g 13 _ rfl
        · exact g 14 _ rfl
        · exact g 15 _ rfl
        · exact g 16 _ rfl
        · exact g 17 _ rfl
        · exact g 18 _ rfl
        · exact g 19 _ rfl
        · exact g 20 _ rfl
        · exact g 21 _ rfl
      · rcases (show k = 0 ∨ k = 1 ∨ k = 2 ∨ k = 3 ∨ k = 4 ∨ k = 5 ∨ k = 6 ∨ k = 7 ∨ k = 8 ∨ k = 9 ∨ k = 10 ∨ k = 11 ∨ k = 12 ∨ k = 13 ∨ k = 14 ∨ k = 15 ∨ k = 16 ∨ k = 17 ∨ k = 18 ∨ k = 19 ∨ k = 20 by omega) with rfl | rfl | rfl | rfl | rfl | rfl | rfl | rfl | rfl | rfl | rfl | rfl | rfl | rfl | rfl | rfl | rfl | rfl | rfl | rfl | rfl
        · exact g 22 _ rfl
        · exact g 23 _ rfl
        · exact g 24 _ rfl
        · exact g 25 _ rfl
        · exact g 26 _ rfl
        · exact g 27 _ rfl
        · exact g 28 _ rfl
        · exact g 29 _ rfl
        · exact g 30 _ rfl
        · exact g 31 _ rfl
        · exact g 32 _ rfl
        · exact g 33 _ rfl
        · exact g 34 _ rfl
        · exact g 35 _ rfl
        · exact g 36 _ rfl
        · exact g 37 _ rfl
        · exact g 38 _ rfl
        · exact g 39 _ rfl
        · exact g 40 _ rfl
        · exact g 41 _ rfl
        · exact g 42 _ rfl
  · have hq : (G.2.2.2 ≤ q ∧ q < G.2.2.2 + 55) ∨ G.2.2.2 + 55 ≤ q := hq
    show G.2.2.2 ≤ q
    omega
theorem AC_of {G : GG} {q : Nat} (h : AO G.2.2.2 q) : AC G q := by
  have h : G.2.2.2 ≤ q := h
  unfold AC
  omega
theorem AO_of {G : GG} {q : Nat} (h : AC G q) : G.2.2.2 ≤ q := by
  unfold AC at h
  omega
theorem vs_start {G : GG} {H0 H : Heap} {locs : List Loc} (h : va_S (AO G.2.2.2) H0 H locs) : va_S (AC G) H0 H locs := ⟨h.1, fun q h1 h2 => h.2.1 q h1 (fun t => h2 (AC_of t)), fun q hq => AC_of (h.2.2 q hq)⟩
