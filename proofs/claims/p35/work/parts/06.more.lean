def szC (G : GG) (ns : Nat) : Nat := G.2.2.2 + 55 + 21 * ns
theorem pg1 {ns : Nat} : pg ns 1 := ⟨by decide, by omega⟩
theorem pg2 {ns : Nat} : pg ns 2 := ⟨by decide, by omega⟩
def fok (x : UInt32) : Bool := decide (x &&& 0x7fffffff ≤ 0x7f800000)
def dok (x : UInt64) : Bool := decide (x &&& 0x7fffffffffffffff ≤ 0x7ff0000000000000)
theorem fok_n {x : UInt32} (h : fok x = true) : vf_n32 x := by unfold vf_n32; exact of_decide_eq_true h
theorem dok_n {x : UInt64} (h : dok x = true) : vf_n64 x := by unfold vf_n64; exact of_decide_eq_true h
def mx (x y : Int32) : Int32 := if x < y then y else x
def mn (x y : Int32) : Int32 := if y < x then y else x
def ab (x : Int32) : Int32 := if 0 ≤ x then x else 0 - x
/-- a copy of the first n places -/
def cok (n : Int32) (n0 n1 : Nat) : Bool := decide (¬ n < 0) && (decide (n.toNatClampNeg ≤ n0) && decide (n.toNatClampNeg ≤ n1))
section MR
variable {p : Program} {l : Launch} {e : Env} {R : Room} {s : State} {m : MethodId} {args : Array Value} {below : List Frame} {meth : Method} {c : Code} {H H0 : Heap} {locs : List Loc} {cells slots : Nat} {Q : State → Prop}
variable {cc : ByteArray} {pc : Nat} {ls : Array Slot} {rest : List Value} {G : GG} {A : Nat → Prop} {X : Shp} {sz : Nat} {M M1 M' : Mem}
theorem kr_copy (hx : p.tables.exec = Jvm.exec) (hb : c.code = cc) (hml : c.maxLocals = ls.size) {own : String} {index : Nat} (hown : s.vm.findClass own = some m.cls) (hlink : (Cond.methodLink own index arraycopyName).before args s = true) (hnat : (Cond.native arraycopyName).before args s = true) (hstat : (Cond.static arraycopyName).before args s = true) (hini : (Cond.initialized "java/lang/System").before args s = true)
    (hK : KK G s) (hP : PW G A X sz M s H) (hS0 : va_S A H0 H locs) (g0 k0 : Nat) (hd0 : X.2.2 g0 k0) {a0 : Nat} (ha0 : X.1 g0 k0 = a0) {n0 : Nat} (he0 : ∀ f, X.2.1 g0 k0 f = .inl (G.2.1.1, n0, .inl f)) (g1 k1 : Nat) (hd1 : X.2.2 g1 k1) {a1 : Nat} (ha1 : X.1 g1 k1 = a1) {n1 : Nat} (he1 : ∀ f, X.2.1 g1 k1 f = .inl (G.2.1.1, n1, .inl f))
    {n : Int32} (hi : cok n n0 n1 = true) (hM1 : M1 = cp3 M g1 k1 (va_cpy (M g0 k0) (M g1 k1) 0 0 (ix n))) (hframes : 1 ≤ R.frames) (hlocals : (rest.map fun v => v.category).sum + (nativeFrameWords "java/lang/System" "arraycopy" 5 + 11) ≤ R.locals) (hdg : decode cc pc = .ok (.invokestatic index, 3))
    (kk : ∀ (H1 : Heap) (locs1 : List Loc), PW G A X sz M1 s H1 → va_S A H0 H1 locs1 → W p l e R s m args below meth c H1 locs1 cells slots Q (F0 m (pc + 3) ls rest)) : W p l e R s m args below meth c H locs cells slots Q (F0 m pc ls (.int n :: .int 0 :: .ref a1 :: .int 0 :: .ref a0 :: rest)) := by
  subst ha0
  subst ha1
  subst hM1
  simp only [cok, Bool.and_eq_true, decide_eq_true_eq] at hi
  obtain ⟨h3, h4, h5⟩ := hi
  have nn : ∀ z : Int32, ¬ z < 0 → z.toInt = (z.toNatClampNeg : Int) := by
    intro z hz
    have hz0 : (0 : Int) ≤ z.toInt := by
      have := Int32.not_lt.mp hz
      simpa using Int32.le_iff_toInt_le.mp this
    show z.toInt = ((z.toInt.toNat : Nat) : Int)
    omega
  have h1 : ¬ (0 : Int32) < 0 := by decide
  have z0 : (0 : Int32).toNatClampNeg = 0 := by decide
  intro T hT XS
  have hc0 := kr_cell hP hd0 he0
  have hc1 := kr_cell hP hd1 he1
  obtain ⟨-, kc0, hk0, cm0, hkk0⟩ := (hK.1.2 0 _ rfl).1 n0 (fun j => .int (M g0 k0 j))
  obtain ⟨-, kc1, hk1, cm1, hkk1⟩ := (hK.1.2 0 _ rfl).1 n1 (fun j => .int (M g1 k1 j))
  obtain ⟨vm', X', step⟩ := XS.arraycopy hx hown hlink hnat hstat hini (src := X.1 g0 k0) (dst := X.1 g1 k1) (cs := vp_cell G.2.1.1 (n0, .inl (M g0 k0))) (cd := vp_cell G.2.1.1 (n1, .inl (M g1 k1))) (srcPos := 0) (destPos := 0) (n := n) (by rw [hT]; exact hc0) (by rw [hT]; exact hc1)
    (fun _ h => by cases h) (fun _ h => by cases h) (fun h => by cases h) (fun h => by cases h) hk0 hk1 hkk0 hkk1 (by simp [refKind]) h1 h1 h3
    (by rw [nn 0 h1, nn n h3, z0]; show ¬ _ > ((arrV G.2.1.1 n0 (fun j => .int (M g0 k0 j))).slots.size : Int); rw [arrV_size]; omega)
    (by rw [nn 0 h1, nn n h3, z0]; show ¬ _ > ((arrV G.2.1.1 n1 (fun j => .int (M g1 k1 j))).slots.size : Int); rw [arrV_size]; omega)
    (fun vm₁ _ i hi => by
      have e : (vp_cell G.2.1.1 (n0, .inl (M g0 k0))).slots.getD ((0 : Int32).toNatClampNeg + i) .null = .int (M g0 k0 ((0 : Int32).toNatClampNeg + i)) := by
        show (arrV G.2.1.1 n0 (fun j => .int (M g0 k0 j))).slots.getD _ _ = _
        rw [Array.getD_eq_getD_getElem?, arrV_read _ _ (by rw [z0]; omega)]
        rfl
      refine ⟨?_, ?_⟩
      · rw [e]
        rfl
      · rw [e]
        exact trivial)
    (g := F0 m pc ls (.int n :: .int 0 :: .ref (X.1 g1 k1) :: .int 0 :: .ref (X.1 g0 k0) :: rest)) rfl (by rw [hml]) (rest := rest) rfl (by rw [hb]; exact hdg) hframes (by show 2 * 0 + _ + _ ≤ _; omega)
  have e1 : copied (vp_cell G.2.1.1 (n0, .inl (M g0 k0))) (vp_cell G.2.1.1 (n1, .inl (M g1 k1))) 0 0 n = vp_cell G.2.1.1 (n1, .inl (va_cpy (M g0 k0) (M g1 k1) 0 0 (ix n))) := va_copied (fun z => .int z) G.2.1.1 G.2.1.1 (M g0 k0) (M g1 k1) (by rw [z0]; omega)
  rw [e1] at X' step
  have hl : X.1 g1 k1 < H.size := (Array.getElem?_eq_some_iff.mp hc1).1
  generalize hcell : vp_cell G.2.1.1 (n1, .inl (va_cpy (M g0 k0) (M g1 k1) 0 0 (ix n))) = nc at X' step
  have hheap : ((T.setVm vm').setCell (X.1 g1 k1) nc).heap = H.setIfInBounds (X.1 g1 k1) nc := by rw [← hT]; rfl
  have oq : ∀ q : Nat, q ≠ X.1 g1 k1 → (H.setIfInBounds (X.1 g1 k1) nc)[q]? = H[q]? := fun q hq => by simp [Array.getElem?_setIfInBounds, Ne.symm hq]
  have hA1 := hP.1.2 g1 k1 hd1
  obtain ⟨t, a1, b1⟩ := kk (H.setIfInBounds (X.1 g1 k1) nc) _ (hP.put hd1 (by
      rw [he1]
      show (H.setIfInBounds (X.1 g1 k1) nc)[X.1 g1 k1]? = some _
      rw [hcell]
      simp [Array.getElem?_setIfInBounds, hl]) (by simp) oq) ⟨by simp; exact hS0.1, fun q g1 g2 => by
      rw [oq q (fun e => g2 (by rw [e]; exact hA1))]
      exact hS0.2.1 q g1 g2, fun q hq => by
      rcases List.mem_append.mp hq with h | h
      · exact hS0.2.2 q h
      · obtain ⟨z, -, hz⟩ := List.mem_map.mp h
        rw [← hz]
        exact hA1⟩ _ hheap X'
  exact ⟨t, step t a1, b1⟩
theorem kr_ldcwf (hx : p.tables.exec = Jvm.exec) (hb : c.code = cc) {own : String} {index : Nat} {v : UInt32} (hown : s.vm.findClass own = some m.cls) (hconst : (Jvm.Cond.constantFloat own index v).before args s = true) (hdg : decode cc pc = .ok (.ldc_w index, 3)) (k : W p l e R s m args below meth c H locs cells slots Q (F0 m (pc + 3) ls (.float v :: rest))) : W p l e R s m args below meth c H locs cells slots Q (F0 m pc ls rest) := by
  intro T hT XS
  obtain ⟨t, a, b⟩ := k T hT XS
  refine ⟨t, ?_, b⟩
  obtain ⟨kC, cf, hk, hcf, hcp⟩ := Cond.constantFloat_spec hown hconst
  obtain ⟨k', hk', he⟩ := XS.warmed.alike.2.2 _ _ hk
  jvm_step XS.here [hx, hb, hdg, ldc_w.wp_float (s := T) (f := F0 m pc ls rest) XS.here.top hk' (by rw [he]; exact hcf) hcp]
  exact a
theorem kr_tin (hx : p.tables.exec = Jvm.exec) (hb : c.code = cc) {dflt lo hi : Int} {offs : Array Int} {len : Nat} {x k : Int32} {off : Int} {tgt : Nat} (h : x = k) (hdg : decode cc pc = .ok (.tableswitch dflt lo hi offs, len)) (h1 : ¬ k.toInt < lo) (h2 : ¬ hi < k.toInt) (ho : offs[(k.toInt - lo).toNat]? = some off) (ht : (pc : Int) + off = (tgt : Int))
    (kk : W p l e R s m args below meth c H locs cells slots Q (F0 m tgt ls rest)) : W p l e R s m args below meth c H locs cells slots Q (F0 m pc ls (.int x :: rest)) := by
  subst h
  exact lv_tableIn hx hb hdg h1 h2 ho ht kk
theorem kr_lk (hx : p.tables.exec = Jvm.exec) (hb : c.code = cc) {dflt : Int} {ps : Array (Int × Int)} {len : Nat} {x k : Int32} {tgt : Nat} (h : x = k) (hdg : decode cc pc = .ok (.lookupswitch dflt ps, len)) (hp : (ps.toList.zip (ps.toList.drop 1)).all (fun (a, next) => a.1 < next.1) = true) (ht : (pc : Int) + Op.lookupswitch.offset ps.toList dflt k.toInt = (tgt : Int))
    (kk : W p l e R s m args below meth c H locs cells slots Q (F0 m tgt ls rest)) : W p l e R s m args below meth c H locs cells slots Q (F0 m pc ls (.int x :: rest)) := by
  subst h
  exact lv_lookup hx hb hdg hp rfl ht kk
theorem en_ia {v : Int32} {r : Int32 × Nat} {ns : Nat} {ty : FieldType} (hf : some ((v, ns), M) = some (r, M')) (hx : p.tables.exec = Jvm.exec) (hb : c.code = cc) (hr : meth.sig.returnType = some ty) (hn : narrow ty (.int v) = .int v) (hlocks : meth.locks = false) (hP : PW G A (XC G ns) (szC G ns) M s H) (hS : va_S A s.heap H locs) (hdg : decode cc pc = .ok (.ireturn, 1)) :
    W p l e R s m args below meth c H locs cells slots (MQ below (va_Qi (fun (r2 : Int32) (_ : Unit) => r2 = r.1) (fun _ t => PW G A (XC G r.2) (szC G r.2) M' t t.heap) A) args s cells slots A) (F0 m pc ls [.int v]) := by
  cases hf
  exact W.zret hx hb hr hn (fun t ht hW => ⟨⟨v, (), rfl, rfl, by show PW G A (XC G ns) (szC G ns) M t t.heap; rw [ht]; exact hP.moved hW.alike⟩, hS.F ht⟩) hS.2.2 hdg hlocks
end MR
theorem Ct_ofF {l : Launch} {y : MethodName} {b : ByteArray} {n : Nat} {ret : Option FieldType} {rm : Room} {as : List Value} {G : GG} {A : Nat → Prop} {X : Shp} {sz : Nat} {M : Mem} {Qc : Array Value → State → Outcome → State → Prop} {mc ms : Nat} (hy : plainFor y = true) (hn : (lg_sl as).length ≤ n)
    (body : ∀ (p : Program) (e : Env) (s : State) (m : MethodId) (below : List Frame) (meth : Method) (c : Code) (ls : Array Slot), p.tables.exec = Jvm.exec → c.code = b → meth.sig.returnType = ret → meth.locks = false → c.maxLocals = n → s.vm.findClass y.cls = some m.cls → (∀ w ∈ lw_all, w.before as.toArray s = true) → KK G s → PW G A X sz M s s.heap → lv_has ls n (lv_args 0 as) →
      W p l e rm s m as.toArray below meth c s.heap [] 0 0 (MQ below Qc as.toArray s mc ms A) (F0 m 0 ls [])) :
    Met l y (wsU y b n ret) rm (va_Pc as (fun U => KK G U ∧ PW G A X sz M U U.heap)) Qc mc ms A := by
  refine MetFree.of_bodySF (code := b) (maxLocals := n) (ret := ret) hy ?_ ?_
  · intro args s m h hn2
    obtain ⟨meth, c, h1, h2, h3, h4, h5, h6, -, -⟩ := Cond.code_spec hn2 (atoms_spec (ws := wsU y b n ret) h _ List.mem_cons_self)
    exact ⟨meth, c, h1, h2, h3, h4, h5, h6⟩
  · intro p e s m args below meth c s₁ B hml hv _
    obtain ⟨rfl, hK, hP⟩ := hv
    have hh0 : s₁.heap = s.heap := by rw [B.state]; rfl
    have hts := atoms_spec (ws := wsU y b n ret) B.pre
    have hl := lv_entry as hn
    have K := body p e s m below meth c _ B.exec B.bytes B.returns B.notSynchronized hml (findClass_of_methodNamed B.named) (fun w h => hts w (List.mem_cons_of_mem _ h)) hK hP hl
    rw [← lg_entry_eq] at K
    obtain ⟨t, a1, o, b1, b2, b3⟩ := K s₁ hh0 (Stand.of_body B)
    exact ⟨t, o, a1, b1, b2, ⟨b3.1, b3.2⟩⟩
theorem ea_P1 {G : GG} {ns g : Nat} (hg : pg ns g) : ∀ m, entC G ns g 1 m = .inl (G.2.1.1, 5, .inl m) := by
  obtain ⟨g0, rfl⟩ := pg_s hg
  exact fun _ => rfl
theorem ea_P3 {G : GG} {ns g : Nat} (hg : pg ns g) : ∀ m, entC G ns g 3 m = .inl (G.2.1.1, 5, .inl m) := by
  obtain ⟨g0, rfl⟩ := pg_s hg
  exact fun _ => rfl
theorem ea_P4 {G : GG} {ns g : Nat} (hg : pg ns g) : ∀ m, entC G ns g 4 m = .inl (G.2.1.1, 5, .inl m) := by
  obtain ⟨g0, rfl⟩ := pg_s hg
  exact fun _ => rfl
theorem ea_P5 {G : GG} {ns g : Nat} (hg : pg ns g) : ∀ m, entC G ns g 5 m = .inl (G.2.1.1, 5, .inl m) := by
  obtain ⟨g0, rfl⟩ := pg_s hg
  exact fun _ => rfl
theorem ea_P6 {G : GG} {ns g : Nat} (hg : pg ns g) : ∀ m, entC G ns g 6 m = .inl (G.2.1.1, 5, .inl m) := by
  obtain ⟨g0, rfl⟩ := pg_s hg
  exact fun _ => rfl
theorem ea_P7 {G : GG} {ns g : Nat} (hg : pg ns g) : ∀ m, entC G ns g 7 m = .inl (G.2.1.1, 5, .inl m) := by
  obtain ⟨g0, rfl⟩ := pg_s hg
  exact fun _ => rfl
theorem ea_P8 {G : GG} {ns g : Nat} (hg : pg ns g) : ∀ m, entC G ns g 8 m = .inl (G.2.1.1, 5, .inl m) := by
  obtain ⟨g0, rfl⟩ := pg_s hg
  exact fun _ => rfl
theorem ea_P9 {G : GG} {ns g : Nat} (hg : pg ns g) : ∀ m, entC G ns g 9 m = .inl (G.2.1.1, 5, .inl m) := by
  obtain ⟨g0, rfl⟩ := pg_s hg
  exact fun _ => rfl
theorem ea_P11 {G : GG} {ns g : Nat} (hg : pg ns g) : ∀ m, entC G ns g 11 m = .inl (G.2.1.1, 16, .inl m) := by
  obtain ⟨g0, rfl⟩ := pg_s hg
  exact fun _ => rfl
theorem ea_P12 {G : GG} {ns g : Nat} (hg : pg ns g) : ∀ m, entC G ns g 12 m = .inl (G.2.1.1, 16, .inl m) := by
  obtain ⟨g0, rfl⟩ := pg_s hg
  exact fun _ => rfl
theorem ea_P13 {G : GG} {ns g : Nat} (hg : pg ns g) : ∀ m, entC G ns g 13 m = .inl (G.2.1.1, 16, .inl m) := by
  obtain ⟨g0, rfl⟩ := pg_s hg
  exact fun _ => rfl
theorem ea_P14 {G : GG} {ns g : Nat} (hg : pg ns g) : ∀ m, entC G ns g 14 m = .inl (G.2.1.1, 16, .inl m) := by
  obtain ⟨g0, rfl⟩ := pg_s hg
  exact fun _ => rfl
theorem ea_P15 {G : GG} {ns g : Nat} (hg : pg ns g) : ∀ m, entC G ns g 15 m = .inl (G.2.1.1, 16, .inl m) := by
  obtain ⟨g0, rfl⟩ := pg_s hg
  exact fun _ => rfl
theorem ea_P16 {G : GG} {ns g : Nat} (hg : pg ns g) : ∀ m, entC G ns g 16 m = .inl (G.2.1.1, 16, .inl m) := by
  obtain ⟨g0, rfl⟩ := pg_s hg
  exact fun _ => rfl
theorem ea_P17 {G : GG} {ns g : Nat} (hg : pg ns g) : ∀ m, entC G ns g 17 m = .inl (G.2.1.1, 16, .inl m) := by
  obtain ⟨g0, rfl⟩ := pg_s hg
  exact fun _ => rfl
theorem ea_P18 {G : GG} {ns g : Nat} (hg : pg ns g) : ∀ m, entC G ns g 18 m = .inl (G.2.1.1, 16, .inl m) := by
  obtain ⟨g0, rfl⟩ := pg_s hg
  exact fun _ => rfl
theorem ea_P19 {G : GG} {ns g : Nat} (hg : pg ns g) : ∀ m, entC G ns g 19 m = .inl (G.2.1.1, 16, .inl m) := by
  obtain ⟨g0, rfl⟩ := pg_s hg
  exact fun _ => rfl
theorem ea_P20 {G : GG} {ns g : Nat} (hg : pg ns g) : ∀ m, entC G ns g 20 m = .inl (G.2.1.1, 16, .inl m) := by
  obtain ⟨g0, rfl⟩ := pg_s hg
  exact fun _ => rfl
