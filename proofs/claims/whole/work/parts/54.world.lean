/-! both objects in one heap -/
def LW (G : GG) (ns : Nat) (M S : Mem) (s : State) (H : Heap) : Prop := HD G.1 (XC G ns) M H ∧ HD G.1 (XM G) S H ∧ H.size = szC G ns ∧ ST G (AO G.2.2.2) s H
theorem AC_AO {G : GG} : ∀ q, AC G q → AO G.2.2.2 q := fun q h => by
  show G.2.2.2 ≤ q
  unfold AC at h
  omega
theorem AM_AO {G : GG} : ∀ q, AM G q → AO G.2.2.2 q := fun q h => by
  show G.2.2.2 ≤ q
  unfold AM at h
  omega
theorem AC_AM {G : GG} : ∀ q, AC G q → ¬ AM G q := fun q h k => by
  unfold AC at h
  unfold AM at k
  omega
theorem LW.c {G : GG} {ns : Nat} {M S : Mem} {s : State} {H : Heap} (h : LW G ns M S s H) : PW G (AC G) (XC G ns) (szC G ns) M s H := ⟨XC_ok G ns, h.1, h.2.2.1, h.2.2.2.narrow AC_AO⟩
theorem LW.m {G : GG} {ns : Nat} {M S : Mem} {s : State} {H : Heap} (h : LW G ns M S s H) : PW G (AM G) (XM G) (szC G ns) S s H := ⟨XM_ok G, h.2.1, h.2.2.1, h.2.2.2.narrow AM_AO⟩
theorem HD.in {D : va_G} {X : Shp} {M : Mem} {H : Heap} (h : HD D X M H) {g k : Nat} (hd : X.2.2 g k) : X.1 g k < H.size := by
  have h1 := h g k hd
  generalize X.2.1 g k (M g k) = x at h1
  cases x with
  | inl a => exact (Array.getElem?_eq_some_iff.mp h1).1
  | inr o =>
    obtain ⟨r, -, cell, q1, -⟩ := h1
    exact (Array.getElem?_eq_some_iff.mp q1).1
section LC
variable {p : Program} {l : Launch} {e : Env} {R : Room} {s : State} {m : MethodId} {args : Array Value} {below : List Frame} {meth : Method} {c : Code} {H : Heap} {locs : List Loc} {cells slots : Nat} {Q : State → Prop}
variable {cc : ByteArray} {pc nL : Nat} {ls : Array Slot} {rest st : List Value} {G : GG} {ns ns' : Nat} {M S M' S' : Mem}
variable {l' : List (Nat × Value)} {y : MethodName} {b : ByteArray} {n na index : Nat} {rm : Room} {As : List Value} {own : String} {ret : Option FieldType}
/-- a call of the class, in the law -/
theorem lc_c {r : Int32} (E : Cx p s m args meth c cc ret nL own G) (L : LW G ns M S s H) (hM : CtI l y b n (some .int) rm (.ref (adC G 0 0) :: As) G (AC G) (XC G ns) (szC G ns) M r (XC G ns') (szC G ns') M')
    (w1 : Cond.methodLink own index y ∈ lw_all) (w2 : Cond.instanceMethod y ∈ lw_all) (w3 : Cond.selects RX7 y y ∈ lw_all) (w4 : Cond.initialized RX7 ∈ lw_all) (w5 : Cond.code y b n (some .int) ∈ lw_all)
    (hy : y.cls = RX7 ∧ y.cls ≠ "java/lang/invoke/MethodHandle" ∧ y.cls ≠ "java/lang/invoke/VarHandle" ∧ (parseMethodDescriptor y.desc).map (fun d => d.parameters.length) = some na) (hR : rm.frames + 1 ≤ R.frames ∧ 8 + (n + 11) + rm.locals ≤ R.locals)
    (hn : As.length = na) (hl : lv_has ls nL l') (hst : st = As.reverse ++ .ref (adC G 0 0) :: rest) (hrest : (rest.map fun v => v.category).sum ≤ 8) (hdg : decode cc pc = .ok (.invokevirtual index, 3)) (hf : cells + rm.cells ≤ R.cells ∧ slots + rm.slots ≤ R.slots) (hS : va_S (AO G.2.2.2) s.heap H locs)
    (kk : ∀ (H1 : Heap) (locs1 : List Loc), LW G ns' M' S s H1 → va_S (AO G.2.2.2) s.heap H1 locs1 → W p l e R s m args below meth c H1 locs1 (cells + rm.cells) (slots + rm.slots) Q (F0 m (pc + 3) ls (.int r :: rest))) : W p l e R s m args below meth c H locs cells slots Q (F0 m pc ls st) := by
  obtain ⟨hx, hb, hr, hlocks, hml, hown, hts, hK⟩ := E
  refine va_calli (kc_runV hx hb hml hts hown hK L.c 0 0 (dm0 (by decide)) rfl (show entC G ns 0 0 (M 0 0) = _ from rfl) (q := (RX7, TX7, 6)) rfl hM w1 w2 w3 w4 w5 hy hR hn hl hst hrest hdg hf) hS (fun q _ h => AC_AO q h) (fun q h => AC_AO q h) (fun r1 u t H1 locs1 ht hvm hw hB hz1 hk1 hS1 => ?_)
  subst hw
  rw [ht] at hB
  refine kk H1 locs1 ⟨hB.2.1, L.2.1.kept (fun g k hd => hk1 _ (L.2.1.in hd) (fun z => AC_AM _ z ((XM_ok G).2 g k hd))), hB.2.2.1, L.2.2.2.kept (fun a ha hA => hk1 a ha (fun z => hA (AC_AO a z)))⟩ hS1
/-- a call of the reference, in the law -/
theorem lc_m {r : Int32} (E : Cx p s m args meth c cc ret nL own G) (L : LW G ns M S s H) (hM : CtI l y b n (some .int) rm (.ref (adM G 0 0) :: As) G (AM G) (XM G) (szC G ns) S r (XM G) (szC G ns) S')
    (w1 : Cond.methodLink own index y ∈ lw_all) (w2 : Cond.instanceMethod y ∈ lw_all) (w3 : Cond.selects RX8 y y ∈ lw_all) (w4 : Cond.initialized RX8 ∈ lw_all) (w5 : Cond.code y b n (some .int) ∈ lw_all)
    (hy : y.cls = RX8 ∧ y.cls ≠ "java/lang/invoke/MethodHandle" ∧ y.cls ≠ "java/lang/invoke/VarHandle" ∧ (parseMethodDescriptor y.desc).map (fun d => d.parameters.length) = some na) (hR : rm.frames + 1 ≤ R.frames ∧ 8 + (n + 11) + rm.locals ≤ R.locals)
    (hn : As.length = na) (hl : lv_has ls nL l') (hst : st = As.reverse ++ .ref (adM G 0 0) :: rest) (hrest : (rest.map fun v => v.category).sum ≤ 8) (hdg : decode cc pc = .ok (.invokevirtual index, 3)) (hf : cells + rm.cells ≤ R.cells ∧ slots + rm.slots ≤ R.slots) (hS : va_S (AO G.2.2.2) s.heap H locs)
    (kk : ∀ (H1 : Heap) (locs1 : List Loc), LW G ns M S' s H1 → va_S (AO G.2.2.2) s.heap H1 locs1 → W p l e R s m args below meth c H1 locs1 (cells + rm.cells) (slots + rm.slots) Q (F0 m (pc + 3) ls (.int r :: rest))) : W p l e R s m args below meth c H locs cells slots Q (F0 m pc ls st) := by
  obtain ⟨hx, hb, hr, hlocks, hml, hown, hts, hK⟩ := E
  refine va_calli (kc_runV hx hb hml hts hown hK L.m 0 0 (show (0 = 0 ∧ 0 < 11) by decide) rfl (show entX G 0 (S 0 0) = _ from rfl) (q := (RX8, TX8, 16)) rfl hM w1 w2 w3 w4 w5 hy hR hn hl hst hrest hdg hf) hS (fun q _ h => AM_AO q h) (fun q h => AM_AO q h) (fun r1 u t H1 locs1 ht hvm hw hB hz1 hk1 hS1 => ?_)
  subst hw
  rw [ht] at hB
  refine kk H1 locs1 ⟨L.1.kept (fun g k hd => hk1 _ (L.1.in hd) (fun z => AC_AM _ ((XC_ok G ns).2 g k hd) z)), hB.2.1, hB.2.2.1, L.2.2.2.kept (fun a ha hA => hk1 a ha (fun z => hA (AM_AO a z)))⟩ hS1
end LC
