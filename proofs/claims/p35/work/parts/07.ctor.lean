/-! constructors: the cells from o on, one behind another -/
def PL (D : va_G) (o : Nat) (ws : List va_E) (H : Heap) : Prop := H.size = o + ws.length ∧ ∀ (i : Nat) (x : va_E), ws[i]? = some x → va_at D vwCl (o + i, x) H
def AO (o : Nat) : Nat → Prop := fun q => o ≤ q
def PLW (G : GG) (o : Nat) (ws : List va_E) (U : State) (H : Heap) : Prop := PL G.1 o ws H ∧ ST G (AO o) U H
theorem PL.put {D : va_G} {o i : Nat} {ws : List va_E} {x : va_E} {H H1 : Heap} (h : PL D o ws H) (hi : i < ws.length) (e : va_at D vwCl (o + i, x) H1) (z : H1.size = H.size) (oq : ∀ q : Nat, q ≠ o + i → H1[q]? = H[q]?) : PL D o (ws.set i x) H1 := by
  refine ⟨by rw [z, h.1, List.length_set], fun j y hy => ?_⟩
  by_cases hj : j = i
  · subst hj
    rw [List.getElem?_set_self hi] at hy
    cases hy
    exact e
  · rw [List.getElem?_set_ne (Ne.symm hj)] at hy
    exact (h.2 j y hy).kept (oq _ (by show o + j ≠ o + i; omega))
theorem PL.push {D : va_G} {o : Nat} {ws : List va_E} {x : va_E} {H H1 : Heap} (h : PL D o ws H) (e : va_at D vwCl (o + ws.length, x) H1) (z : H1.size = H.size + 1) (oq : ∀ q : Nat, q < H.size → H1[q]? = H[q]?) : PL D o (ws ++ [x]) H1 := by
  refine ⟨by rw [z, h.1, List.length_append]; rfl, fun j y hy => ?_⟩
  by_cases hj : j < ws.length
  · rw [List.getElem?_append_left hj] at hy
    exact (h.2 j y hy).kept (oq _ (by show o + j < H.size; rw [h.1]; omega))
  · rw [List.getElem?_append_right (by omega)] at hy
    have hz : j - ws.length < 1 := (List.getElem?_eq_some_iff.mp hy).1
    have hj2 : j = ws.length := by omega
    subst hj2
    rw [Nat.sub_self] at hy
    cases hy
    exact e
theorem PLW.put {G : GG} {U : State} {o i : Nat} {ws : List va_E} {x : va_E} {H H1 : Heap} (h : PLW G o ws U H) (hi : i < ws.length) (e : va_at G.1 vwCl (o + i, x) H1) (z : H1.size = H.size) (oq : ∀ q : Nat, q ≠ o + i → H1[q]? = H[q]?) : PLW G o (ws.set i x) U H1 :=
  ⟨h.1.put hi e z oq, h.2.kept (fun a _ hA => oq a (fun q => hA (by rw [q]; exact Nat.le_add_right o i)))⟩
theorem PLW.push {G : GG} {U : State} {o : Nat} {ws : List va_E} {x : va_E} {H H1 : Heap} (h : PLW G o ws U H) (e : va_at G.1 vwCl (o + ws.length, x) H1) (z : H1.size = H.size + 1) (oq : ∀ q : Nat, q < H.size → H1[q]? = H[q]?) : PLW G o (ws ++ [x]) U H1 :=
  ⟨h.1.push e z oq, h.2.kept (fun a ha _ => oq a ha)⟩
theorem PLW.moved {G : GG} {o : Nat} {ws : List va_E} {u U : State} {H : Heap} (hvm : u.vm.Alike U.vm) (h : PLW G o ws u H) : PLW G o ws U H := ⟨h.1, h.2.moved hvm⟩
theorem vaS_push {A : Nat → Prop} {H0 H H1 : Heap} {locs : List Loc} (h : va_S A H0 H locs) (z : H1.size = H.size + 1) (oq : ∀ q : Nat, q < H.size → H1[q]? = H[q]?) : va_S A H0 H1 locs := ⟨Nat.le_trans h.1 (by omega), fun x h1 h2 => (oq x (Nat.lt_of_lt_of_le h1 h.1)).trans (h.2.1 x h1 h2), h.2.2⟩
def CtK (l : Launch) (y : MethodName) (b : ByteArray) (n : Nat) (rm : Room) (o : Nat) (G : GG) (obs fin : List va_E) : Prop :=
  Met l y (wsU y b n none) rm (va_Pc [.ref o] (fun U => KK G U ∧ PLW G o obs U U.heap)) (va_Qv (fun (_ : Unit) => True) (fun _ t => PLW G o fin t t.heap) (AO o)) rm.cells rm.slots (AO o)
theorem Ct_ofP {l : Launch} {y : MethodName} {b : ByteArray} {n : Nat} {ret : Option FieldType} {rm : Room} {as : List Value} {G : GG} {A : Nat → Prop} {Pr : State → Prop} {Qc : Array Value → State → Outcome → State → Prop} {mc ms : Nat} (hy : plainName y.cls = true) (hn : (lg_sl as).length ≤ n)
    (body : ∀ (p : Program) (e : Env) (s : State) (m : MethodId) (below : List Frame) (meth : Method) (c : Code) (ls : Array Slot), p.tables.exec = Jvm.exec → c.code = b → meth.sig.returnType = ret → meth.locks = false → c.maxLocals = n → s.vm.findClass y.cls = some m.cls → (∀ w ∈ lw_all, w.before as.toArray s = true) → KK G s → meth.name = y.name → Pr s → lv_has ls n (lv_args 0 as) →
      W p l e rm s m as.toArray below meth c s.heap [] 0 0 (MQ below Qc as.toArray s mc ms A) (F0 m 0 ls [])) :
    Met l y (wsU y b n ret) rm (va_Pc as (fun U => KK G U ∧ Pr U)) Qc mc ms A := by
  refine Met.ofW (cc := b) (maxL := n) (ret := ret) hy rfl ?_
  intro p e s m args below meth c s₁ B hml hv
  obtain ⟨rfl, hK, hP⟩ := hv
  have hts := atoms_spec (ws := wsU y b n ret) B.pre
  have hl := lv_entry as hn
  rw [lg_entry_eq]
  exact body p e s m below meth c _ B.exec B.bytes B.returns B.notSynchronized hml (findClass_of_methodNamed B.named) (fun w h => hts w (List.mem_cons_of_mem _ h)) hK (name_of_methodNamed B.named B.method).1 hP hl
section KN
variable {p : Program} {l : Launch} {e : Env} {R : Room} {s : State} {m : MethodId} {args : Array Value} {below : List Frame} {meth : Method} {c : Code} {H H0 : Heap} {locs : List Loc} {cells slots : Nat} {Q : State → Prop}
variable {cc : ByteArray} {pc nL index : Nat} {ls : Array Slot} {rest : List Value} {G : GG} {own : String} {ret : Option FieldType} {o : Nat} {ws : List va_E} {l' : List (Nat × Value)}
theorem kn_new (E : Cx p s m args meth c cc ret nL own G) (hP : PLW G o ws s H) (hS : va_S (AO o) H0 H locs) {C : String} {T : u_T} {N ci : Nat} {fs : List Value} (hc : vwCl[ci]? = some (C, T, N)) (hin : ∀ w ∈ u_ws C T N, w ∈ lw_all) (ty : Nat → FieldType) (hty : ∀ k, k < N → parseFieldDescriptor (T k).2.2.1 = some (ty k)) (hcl : Cond.classLink own index C ∈ lw_all) (hins : Cond.instantiable C N ∈ lw_all) (hini : Cond.initialized C ∈ lw_all)
    (hfs : (List.range N).all (fun j => decide (defaultValue (ty j) = vp_V fs j)) = true) (hcells : cells + 1 ≤ R.cells) (hslots : slots + N ≤ R.slots) (hdg : decode cc pc = .ok (.new index, 3)) {a : Nat} (ha : o + ws.length = a)
    (kk : ∀ H1 : Heap, PLW G o (ws ++ [.inr (ci, fs)]) s H1 → va_S (AO o) H0 H1 locs → W p l e R s m args below meth c H1 locs (cells + 1) (slots + N) Q (F0 m (pc + 3) ls (.ref a :: rest))) : W p l e R s m args below meth c H locs cells slots Q (F0 m pc ls rest) := by
  obtain ⟨hx, hb, hr, hlocks, hml, hown, hts, hK⟩ := E
  subst ha
  have hKn := hK.1.1 ci _ hc
  refine W.newcK hx hb hown (hts _ hcl) (hts _ hins) (hts _ hini) rfl hdg hcells hslots hKn.2.1 hP.1.1 fun H1 kC hkC e1 z1 o1 => ?_
  have o2 : ∀ q : Nat, q < H.size → H1[q]? = H[q]? := fun q hq => o1 q (by rw [← hP.1.1]; exact hq)
  have z2 : H1.size = H.size + 1 := by rw [hP.1.1]; exact z1
  refine kk H1 (hP.push ⟨_, hc, (u_born ty hts hin hKn hkC e1 hty).to fun j hj => ?_⟩ z2 o2) (vaS_push hS z2 o2)
  have h := List.all_eq_true.mp hfs j (List.mem_range.mpr hj)
  exact of_decide_eq_true h
theorem kn_newa (E : Cx p s m args meth c cc ret nL own G) (hP : PLW G o ws s H) (hS : va_S (AO o) H0 H locs) {atype : ArrayType} (harr : Cond.arrayClass (newarray.typeOf atype) ∈ lw_all) {cA : ClassId} (hRA : s.vm.findClass ("[" ++ (newarray.typeOf atype).toString) = some cA) (hdv : defaultValue (newarray.typeOf atype) = .int 0)
    {n : Int32} {N' : Nat} (hn : ¬ n < 0) (hN : n.toNatClampNeg = N') (hbytes : N' * componentBytes (newarray.typeOf atype) ≤ 536870912) (hcells : cells + 1 ≤ R.cells) (hslots : slots + N' ≤ R.slots) (hdg : decode cc pc = .ok (.newarray atype, 2)) {a : Nat} (ha : o + ws.length = a)
    (kk : ∀ H1 : Heap, PLW G o (ws ++ [.inl (cA, N', .inl (fun _ => 0))]) s H1 → va_S (AO o) H0 H1 locs → W p l e R s m args below meth c H1 locs (cells + 1) (slots + N') Q (F0 m (pc + 2) ls (.ref a :: rest))) : W p l e R s m args below meth c H locs cells slots Q (F0 m pc ls (.int n :: rest)) := by
  obtain ⟨hx, hb, hr, hlocks, hml, hown, hts, hK⟩ := E
  subst ha
  refine va_newaK hx hb (hts _ harr) rfl hdg rfl hn hN hbytes hcells hslots hP.1.1 fun H1 cA' e1 z1 o1 hAr hNm => ?_
  obtain rfl : cA' = cA := Option.some.inj (hNm.symm.trans hRA)
  have o2 : ∀ q : Nat, q < H.size → H1[q]? = H[q]? := fun q hq => o1 q (by rw [← hP.1.1]; exact hq)
  have z2 : H1.size = H.size + 1 := by rw [hP.1.1]; exact z1
  refine kk H1 (hP.push ?_ z2 o2) (vaS_push hS z2 o2)
  rw [hdv] at e1
  exact e1
theorem kn_newq (E : Cx p s m args meth c cc ret nL own G) (hP : PLW G o ws s H) (hS : va_S (AO o) H0 H locs) {C : String} (hclink : Cond.classLink own index C ∈ lw_all) (hover : Cond.arrayOver (.object C) ∈ nwl) {cA : ClassId} (hRA : s.vm.findClass ("[" ++ (FieldType.object C).toString) = some cA)
    {n : Int32} {N' : Nat} (hn : ¬ n < 0) (hN : n.toNatClampNeg = N') (hbytes : N' * 4 ≤ 536870912) (hcells : cells + 1 ≤ R.cells) (hslots : slots + N' ≤ R.slots) (hdg : decode cc pc = .ok (.anewarray index, 3)) {a : Nat} (ha : o + ws.length = a)
    (kk : ∀ H1 : Heap, PLW G o (ws ++ [.inl (cA, N', .inr (.inr (.inr (.inr (fun _ => none)))))]) s H1 → va_S (AO o) H0 H1 locs → W p l e R s m args below meth c H1 locs (cells + 1) (slots + N') Q (F0 m (pc + 3) ls (.ref a :: rest))) : W p l e R s m args below meth c H locs cells slots Q (F0 m pc ls (.int n :: rest)) := by
  obtain ⟨hx, hb, hr, hlocks, hml, hown, hts, hK⟩ := E
  subst ha
  subst hN
  refine W.anew hx hb hown (hts _ hclink) (va_AO.use (hK.2 _ hover)) rfl hdg rfl hn hbytes hcells hslots fun cA' kA comp f1 f2 f3 f4 => ?_
  obtain rfl : cA' = cA := Option.some.inj (f1.symm.trans hRA)
  generalize hH1 : H.push ({ cls := cA', slots := Array.replicate n.toNatClampNeg .null, vm := .none } : Cell) = H1
  have z1 : H1.size = H.size + 1 := by rw [← hH1, Array.size_push]
  have e1 : H1[H.size]? = some (arrV cA' n.toNatClampNeg (fun _ => .null)) := by rw [← hH1, Array.getElem?_push_size, ← arrV_new]
  have o1 : ∀ q : Nat, q < H.size → H1[q]? = H[q]? := fun q hq => by rw [← hH1, Array.getElem?_push, if_neg (Nat.ne_of_lt hq)]
  have hk := kk H1 (hP.push (by rw [← hP.1.1]; show H1[H.size]? = some (vp_cell _ _); rw [vp_cell_q]; exact e1) z1 o1) (vaS_push hS z1 o1)
  rw [← hP.1.1] at hk
  exact hk
theorem kn_put (E : Cx p s m args meth c cc ret nL own G) (hin2 : meth.name = "<init>") (hP : PLW G o ws s H) (hS : va_S (AO o) H0 H locs) (i : Nat) {ci : Nat} {fs : List Value} (hi : ws[i]? = some (.inr (ci, fs))) {C : String} {T : u_T} {N : Nat} (hc : vwCl[ci]? = some (C, T, N)) (hin : ∀ w ∈ u_ws C T N, w ∈ lw_all)
    (ty0 : Nat → FieldType) (hty : ∀ k, k < N → parseFieldDescriptor (T k).2.2.1 = some (ty0 k)) (hnm : ∀ a, a < N → ∀ b, b < N → a ≠ b → (T a).2.1 ≠ (T b).2.1)
    (j : Nat) (hj : j < N) (hC : (T j).1 = own) (hl : Cond.fieldLink own index own (T j).2.1 (T j).2.2.1 ∈ lw_all) {ty : FieldType} (hd2 : parseFieldDescriptor (T j).2.2.1 = some ty) {v : Value} (hn : narrow ty v = v) (hfit : fits ty v = true) (hlen : j < fs.length) {a : Nat} (ha : o + i = a) (hdg : decode cc pc = .ok (.putfield index, 3)) {ws' : List va_E} (hws : ws.set i (.inr (ci, fs.set j v)) = ws')
    (kk : ∀ (H1 : Heap) (locs1 : List Loc), PLW G o ws' s H1 → va_S (AO o) H0 H1 locs1 → W p l e R s m args below meth c H1 locs1 cells slots Q (F0 m (pc + 3) ls rest)) : W p l e R s m args below meth c H locs cells slots Q (F0 m pc ls (v :: .ref a :: rest)) := by
  obtain ⟨hx, hb, hr, hlocks, hml, hown, hts, hK⟩ := E
  subst ha
  subst hws
  have hap := va_apart (own := own) hts hin ty0 hty hnm hK.1 hc
  have hil : i < ws.length := (List.getElem?_eq_some_iff.mp hi).1
  obtain ⟨r, h1, cell, q1, q2, q3, q4⟩ := hP.1.2 i _ hi
  have hr1 : r = (C, T, N) := Option.some.inj (h1.symm.trans hc)
  subst hr1
  obtain ⟨hSl, hfc, kC, hkC, hkind⟩ := hK.1.1 ci _ hc
  obtain ⟨cf, kf, fi, f, hif, hsl⟩ := hSl j hj
  have hlay := hts _ (hin _ (u_in_lay hj))
  have hst := (u_facts hfc hkC (u_lays hts hin hj) hif).1
  have hi2 := hif
  rw [hC] at hi2
  have fin : ∀ H' : Heap, H'[o + i]? = some (cell.setSlot f.slot v) → H'.size = H.size → (∀ q, q ≠ o + i → H'[q]? = H[q]?) → W p l e R s m args below meth c H' (locs ++ [⟨o + i, f.slot⟩]) cells slots Q (F0 m (pc + 3) ls rest) := by
    intro H' e1 e2 e3
    rw [hsl] at e1 ⊢
    exact kk H' _ (hP.put hil ⟨_, hc, t_OB.to (V := updV (vp_V fs) j v) ⟨_, e1, q2, q3, t_set q4 hap hj v⟩ (fun i _ => vp_updV_set hlen v i)⟩ e2 e3) (hS.put e2 e3 (Nat.le_add_right o i))
  unfold u_lay at hlay
  by_cases hfin : (T j).2.2.2 = true
  · rw [if_pos hfin] at hlay
    have hcf : m.cls = cf := by
      obtain ⟨_, _, c', _, _, _, -, -, hf', -, -, -, hown2, -⟩ := Cond.laysFinal_spec hlay
      have e1 : c' = cf := by have := hif.symm.trans hf'; simp at this; exact this.1.symm
      rw [hC] at hown2
      rw [← e1]; exact Option.some.inj (hown.symm.trans hown2)
    have h6 := u_fits hfc hkC hkind (Or.inr hlay) hif hd2 hn hfit
    exact W.putFinK hx hb hown (hts _ hl) hi2 hst hcf hin2 (by rw [q2]; exact h6) q1 q3 (by rw [hsl]; exact k2_hasslot (q4 j hj)) rfl rfl hdg fin
  · rw [if_neg hfin] at hlay
    have h6 := u_store hfc hkC hkind hlay hif hd2 hn hfit
    exact W.putK hx hb (f := f) ⟨hown, hts _ hl, ⟨_, _, _, hi2⟩, hst⟩ (by rw [q2]; exact h6) q1 q3 (by rw [hsl]; exact k2_hasslot (q4 j hj)) rfl rfl hdg fin
theorem kn_one {D : va_G} {a : Nat} {x : va_E} {H : Heap} (h : va_at D vwCl (a, x) H) : va_P D vwCl [(a, x)] H := by
  intro i q hq
  have hz : i < 1 := (List.getElem?_eq_some_iff.mp hq).1
  rw [show i = 0 by omega] at hq
  cases hq
  exact h
theorem kn_get (E : Cx p s m args meth c cc ret nL own G) (hP : PLW G o ws s H) (i : Nat) {ci : Nat} {fs : List Value} (hi : ws[i]? = some (.inr (ci, fs))) {C : String} {T : u_T} {N : Nat} (hc : vwCl[ci]? = some (C, T, N)) (hin : ∀ w ∈ u_ws C T N, w ∈ lw_all)
    (j : Nat) (hj : j < N) (hC : (T j).1 = C) (hl : Cond.fieldLink own index C (T j).2.1 (T j).2.2.1 ∈ lw_all) {v : Value} (hv : fs[j]? = some v) {a : Nat} (ha : o + i = a) (hdg : decode cc pc = .ok (.getfield index, 3))
    (kk : W p l e R s m args below meth c H locs cells slots Q (F0 m (pc + 3) ls (v :: rest))) : W p l e R s m args below meth c H locs cells slots Q (F0 m pc ls (.ref a :: rest)) := by
  obtain ⟨hx, hb, hr, hlocks, hml, hown, hts, hK⟩ := E
  subst ha
  exact va_get hx hb hts hin hown hK.1 (kn_one (hP.1.2 i _ hi)) 0 rfl hc j hj (hts _ hl) (fun x h => by rw [hC] at h; exact h) hv hdg kk
theorem kn_iast (E : Cx p s m args meth c cc ret nL own G) (hP : PLW G o ws s H) (hS : va_S (AO o) H0 H locs) (i : Nat) {n : Nat} {f : Nat → Int32} (hi : ws[i]? = some (.inl (G.2.1.1, n, .inl f))) {x v : Int32} (hin : ibd x n = true) {a : Nat} (ha : o + i = a) (hdg : decode cc pc = .ok (.iastore, 1)) {ws' : List va_E} (hws : ws.set i (.inl (G.2.1.1, n, .inl (upd f (ix x) v))) = ws')
    (kk : ∀ (H1 : Heap) (locs1 : List Loc), PLW G o ws' s H1 → va_S (AO o) H0 H1 locs1 → W p l e R s m args below meth c H1 locs1 cells slots Q (F0 m (pc + 1) ls rest)) : W p l e R s m args below meth c H locs cells slots Q (F0 m pc ls (.int v :: .int x :: .ref a :: rest)) := by
  obtain ⟨hx, hb, hr, hlocks, hml, hown, hts, hK⟩ := E
  subst ha
  subst hws
  have hin := ibd_in hin
  have hil : i < ws.length := (List.getElem?_eq_some_iff.mp hi).1
  refine W.iast hx hb (hP.1.2 i _ hi) ((hK.1.2 0 _ rfl).1 n (fun j => .int (f j))) (fun q => by cases q) (by show ¬ (x < 0 ∨ (arrV _ _ _).slots.size ≤ _); rw [arrV_size]; exact hin) rfl rfl hdg fun H1 e z oq => ?_
  exact kk H1 _ (hP.put hil (kr_upd _ _ _ _ _ e) z oq) (hS.put z oq (Nat.le_add_right o i))
theorem kn_init (E : Cx p s m args meth c cc ret nL own G) (hl : lv_has ls nL l') (w1 : Cond.methodLink own index Lib.objectInit ∈ lw_all) (w2 : Cond.instanceMethod Lib.objectInit ∈ lw_all) (w3 : Cond.code Lib.objectInit ⟨#[0xb1]⟩ 1 none ∈ lw_all) {a : Nat} (hdg : decode cc pc = .ok (.invokespecial index, 3)) (hframes : 1 ≤ R.frames) (hlocals : (rest.map fun v => v.category).sum + 12 ≤ R.locals)
    (kk : W p l e R s m args below meth c H locs cells slots Q (F0 m (pc + 3) ls rest)) : W p l e R s m args below meth c H locs cells slots Q (F0 m pc ls (.ref a :: rest)) := by
  obtain ⟨hx, hb, hr, hlocks, hml, hown, hts, hK⟩ := E
  exact W.objInit hx hb hown (hts _ w1) (hts _ w2) (hts _ w3) rfl (hl.1.trans hml.symm) rfl hdg hframes (by show 2 * 0 + _ + 12 ≤ _; omega) kk
theorem kn_gets {host nm : String} {t : Nat} {f : Nat → Int32} (E : Cx p s m args meth c cc ret nL own G) (hZ : S1 nm G.2.1.1 t f (AO o) s s.heap) (hS : va_S (AO o) s.heap H locs) (w1 : Cond.fieldLinkNest own index "PenStrike" nm "[I" host ∈ nwl) (hdg : decode cc pc = .ok (.getstatic index, 3))
    (kk : W p l e R s m args below meth c H locs cells slots Q (F0 m (pc + 3) ls (.ref t :: rest))) : W p l e R s m args below meth c H locs cells slots Q (F0 m pc ls rest) := by
  obtain ⟨hx, hb, hr, hlocks, hml, hown, hts, hK⟩ := E
  exact va_getsN hx hb hZ.1 hS hown (va_Nw.use rfl (hK.2 _ w1)) (fun _ h => h) hdg kk
theorem kn_clone {t : Nat} {f : Nat → Int32} (E : Cx p s m args meth c cc ret nL own G) (hl : lv_has ls nL l') (hP : PLW G o ws s H) (hS : va_S (AO o) H0 H locs) (hF : SF G.2.1.1 t f (AO o) H)
    (w1 : Cond.methodLink own index ⟨"[I", "clone", "()Ljava/lang/Object;"⟩ ∈ lw_all) (w2 : Cond.sameMethod "[I" "java/lang/Object" "clone" "()Ljava/lang/Object;" ∈ lw_all) (w3 : Cond.native ⟨"java/lang/Object", "clone", "()Ljava/lang/Object;"⟩ ∈ lw_all) (w4 : Cond.instanceMethod ⟨"java/lang/Object", "clone", "()Ljava/lang/Object;"⟩ ∈ lw_all) (w5 : Cond.selects "[I" ⟨"[I", "clone", "()Ljava/lang/Object;"⟩ ⟨"java/lang/Object", "clone", "()Ljava/lang/Object;"⟩ ∈ lw_all) (w6 : Cond.castable "[I" "java/lang/Cloneable" ∈ nwl)
    (hframes : 1 ≤ R.frames) (hlocals : (rest.map fun v => v.category).sum + 14 ≤ R.locals) (hcells : cells + 1 ≤ R.cells) (hslots : slots + 5 ≤ R.slots) (hdg : decode cc pc = .ok (.invokevirtual index, 3)) {a : Nat} (ha : o + ws.length = a)
    (kk : ∀ H1 : Heap, PLW G o (ws ++ [.inl (G.2.1.1, 5, .inl f)]) s H1 → va_S (AO o) H0 H1 locs → W p l e R s m args below meth c H1 locs (cells + 1) (slots + 5) Q (F0 m (pc + 3) ls (.ref a :: rest))) : W p l e R s m args below meth c H locs cells slots Q (F0 m pc ls (.ref t :: rest)) := by
  obtain ⟨hx, hb, hr, hlocks, hml, hown, hts, hK⟩ := E
  obtain ⟨cell, h1, h2, h3, h4, h5, h6⟩ := hF
  have hnm : s.vm.findClass "[I" = some G.2.1.1 := (hK.1.2 0 _ rfl).2
  have hsz : cell.slots.size = 5 := by rw [h5]; exact arrV_size _ _ _
  obtain ⟨c0, t0', f1, f2, f3⟩ := Cond.castable_spec (va_Nw.use (A := args) rfl (hK.2 _ w6))
  cases hnm.symm.trans f1
  intro T hT XS
  obtain ⟨-, kA, hkA, comp, hkind⟩ := State.isArrayOf_alike XS.warmed.alike ((hK.1.2 0 _ rfl).1 0 (fun _ => .null))
  obtain ⟨-, kS, hkS, compS, hkindS⟩ := (hK.1.2 0 _ rfl).1 0 (fun _ => .null)
  obtain ⟨vm', X', st⟩ := XS.cloneArray hx hown (hts _ w1) (hts _ w2) (hts _ w3) (hts _ w4) (hts _ w5) (a := t) (cell := cell) (by rw [hT]; exact h1) (fun k h => by rw [h] at h3; cases h3) h2 (by rw [h4]; exact hnm) f2 (by rw [h4]; exact f3)
    (fun i v hv => by
      rw [h4]
      have hk' : T.vm.classes[G.2.1.1]? = some kA := hkA
      have hv2 : fits .int v = true := by
        rw [h5] at hv
        have hi5 : i < 5 := by
          have := (Array.getElem?_eq_some_iff.mp hv).1
          rw [arrV_size] at this
          exact this
        rw [arrV_read _ _ hi5] at hv
        cases hv
        rfl
      simpa [State.fitsSlot, State.slotType?, hk', hkind] using hv2)
    (g := F0 m pc ls (.ref t :: rest)) rfl (hl.1.trans hml.symm) rfl (by rw [hb]; exact hdg) hframes (by show 2 * 0 + _ + 14 ≤ _; omega) hcells (by rw [hsz]; exact hslots) (hloader := by rw [h4]; exact Vm.clonesLoader_of_array hkS hkindS)
  rw [hsz] at X'
  have hcellE : ({ cls := cell.cls, slots := cell.slots } : Cell) = vp_cell G.2.1.1 (5, .inl f) := by rw [h4, h5]; rfl
  rw [hcellE] at X' st
  generalize hH1 : H.push (vp_cell G.2.1.1 (5, .inl f)) = H1
  have z1 : H1.size = H.size + 1 := by rw [← hH1, Array.size_push]
  have e1 : H1[H.size]? = some (vp_cell G.2.1.1 (5, .inl f)) := by rw [← hH1, Array.getElem?_push_size]
  have o1 : ∀ q : Nat, q < H.size → H1[q]? = H[q]? := fun q hq => by rw [← hH1, Array.getElem?_push, if_neg (Nat.ne_of_lt hq)]
  obtain ⟨t2, b1, b2⟩ := kk H1 (hP.push (by rw [← hP.1.1]; exact e1) z1 o1) (vaS_push hS z1 o1) ((T.setVm vm').pushCell (vp_cell G.2.1.1 (5, .inl f))) (by rw [← hH1, ← hT]; rfl) X'
  refine ⟨t2, st t2 ?_, b2⟩
  rw [hT, hP.1.1, ha]
  exact b1
theorem kn_cast (E : Cx p s m args meth c cc ret nL own G) (hP : PLW G o ws s H) (i : Nat) {x : vp_A} (hi : ws[i]? = some (.inl (G.2.1.1, x))) (w1 : Cond.classLink own index "[I" ∈ lw_all) {a : Nat} (ha : o + i = a) (hdg : decode cc pc = .ok (.checkcast index, 3))
    (kk : W p l e R s m args below meth c H locs cells slots Q (F0 m (pc + 3) ls (.ref a :: rest))) : W p l e R s m args below meth c H locs cells slots Q (F0 m pc ls (.ref a :: rest)) := by
  obtain ⟨hx, hb, hr, hlocks, hml, hown, hts, hK⟩ := E
  subst ha
  exact va_castA hx hb hown (hts _ w1) (kn_one (hP.1.2 i _ hi)) 0 rfl (hK.1.2 0 _ rfl).2 hdg kk
/-- behind a constructor: its cells stand behind the caller's -/
theorem kn_joined {H1 : Heap} {x : va_E} {fin : List va_E} {t : State} (hP : PLW G o (ws ++ [x]) s H) (h1 : PLW G (o + ws.length) fin t H1) (hk : ∀ q : Nat, q < H.size → ¬ AO (o + ws.length) q → H1[q]? = H[q]?) : PLW G o (ws ++ fin) s H1 := by
  have hz := hP.1.1
  rw [List.length_append] at hz
  have hz1 : H.size = o + ws.length + 1 := by rw [hz]; show o + (ws.length + 1) = _; omega
  refine ⟨⟨by rw [h1.1.1, List.length_append]; omega, fun i y hy => ?_⟩, hP.2.kept (fun a ha hA => hk a ha (fun z => hA (Nat.le_trans (Nat.le_add_right o _) z)))⟩
  by_cases hi : i < ws.length
  · have hy2 : (ws ++ [x])[i]? = some y := by
      rw [List.getElem?_append_left hi] at hy ⊢
      exact hy
    refine (hP.1.2 i y hy2).kept (hk _ (by show o + i < _; omega) (fun z => ?_))
    have z : o + ws.length ≤ o + i := z
    omega
  · rw [List.getElem?_append_right (by omega)] at hy
    have h2 := h1.1.2 (i - ws.length) y hy
    have e : o + ws.length + (i - ws.length) = o + i := by omega
    rw [e] at h2
    exact h2
theorem kn_ctor {y : MethodName} {b : ByteArray} {n : Nat} {rm : Room} {host : String} {x : va_E} {fin : List va_E} {oo : Nat} (E : Cx p s m args meth c cc ret nL own G) (hl : lv_has ls nL l') (hP : PLW G o (ws ++ [x]) s H) (hS : va_S (AO o) s.heap H locs) (hoo : o + ws.length = oo) (hM : CtK l y b n rm oo G [x] fin)
    (w1 : Cond.methodLinkNest own index y host ∈ nwl) (w2 : Cond.instanceMethod y ∈ lw_all) (w3 : Cond.initialized y.cls ∈ lw_all) (w5 : Cond.code y b n none ∈ lw_all) (hy1 : y.name = "<init>")
    (hy : y.cls ≠ "java/lang/invoke/MethodHandle" ∧ y.cls ≠ "java/lang/invoke/VarHandle" ∧ (parseMethodDescriptor y.desc).map (fun d => d.parameters.length) = some 0) (hR : rm.frames + 1 ≤ R.frames ∧ 8 + (n + 11) + rm.locals ≤ R.locals) (hrest : (rest.map fun v => v.category).sum ≤ 8) (hdg : decode cc pc = .ok (.invokespecial index, 3)) (hf : cells + rm.cells ≤ R.cells ∧ slots + rm.slots ≤ R.slots)
    (kk : ∀ (H1 : Heap) (locs1 : List Loc), PLW G o (ws ++ fin) s H1 → va_S (AO o) s.heap H1 locs1 → W p l e R s m args below meth c H1 locs1 (cells + rm.cells) (slots + rm.slots) Q (F0 m (pc + 3) ls rest)) : W p l e R s m args below meth c H locs cells slots Q (F0 m pc ls (.ref oo :: rest)) := by
  obtain ⟨hx, hb, hr, hlocks, hml, hown, hts, hK⟩ := E
  subst hoo
  have hsz : H.size = o + ws.length + 1 := by
    have hz := hP.1.1
    rw [List.length_append] at hz
    rw [hz]
    show o + (ws.length + 1) = _
    omega
  have hsub : ∀ q, AO (o + ws.length) q → AO o q := fun q h => Nat.le_trans (Nat.le_add_right o _) h
  have hP1 : PLW G (o + ws.length) [x] s H := ⟨⟨hsz, fun i y hy => by
    have hz : i < 1 := (List.getElem?_eq_some_iff.mp hy).1
    obtain rfl : i = 0 := by omega
    cases hy
    have h2 := hP.1.2 ws.length x (by rw [List.getElem?_append_right (Nat.le_refl _), Nat.sub_self]; rfl)
    exact h2⟩, hP.2.narrow hsub⟩
  refine va_callv (va_runIN (Ts := lw_all) (As := []) (rest := rest) ⟨hx, hb, hml, hown, hts⟩ hM ⟨va_cnB 0 hts (gU w5) rfl rfl rfl (hK.2 _ w1) (hts _ w3) hy hR, hy1, hts _ w2⟩ ⟨fun a U g mk q => ⟨q.1, KK.same (u := U) (U := U.calling g mk a) rfl q.2.1, PLW.moved (U := U.calling g mk a) (Vm.Alike.refl U.vm) q.2.2⟩, fun U hU hW => ⟨rfl, hK.warm hW, by rw [hU]; exact hP1.moved hW.alike⟩⟩ rfl rfl hl.1 rfl (lv_room hrest) hdg hf) hS (fun q _ h => hsub q h) (fun q h => hsub q h) (fun u t H1 locs1 ht hvm hw hB hz1 hk1 hS1 => ?_)
  rw [ht] at hB
  exact kk H1 locs1 (kn_joined hP hB hk1) hS1
end KN
