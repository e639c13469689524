/-! memory, shapes, worlds -/
abbrev Mem : Type := Nat → Nat → Nat → Int32
def cp3 (M : Mem) (g k : Nat) (f : Nat → Int32) : Mem := fun g' k' => if g' = g ∧ k' = k then f else M g' k'
def up3 (M : Mem) (g k j : Nat) (v : Int32) : Mem := cp3 M g k (upd (M g k) j v)
theorem cp3_self (M : Mem) (g k : Nat) (f : Nat → Int32) : cp3 M g k f g k = f := by simp [cp3]
theorem cp3_ne (M : Mem) {g k g' k' : Nat} (f : Nat → Int32) (h : ¬ (g' = g ∧ k' = k)) : cp3 M g k f g' k' = M g' k' := by simp [cp3, h]
/-- addresses, cells, which there are -/
abbrev Shp : Type := (Nat → Nat → Nat) × (Nat → Nat → (Nat → Int32) → va_E) × (Nat → Nat → Prop)
def HD (D : va_G) (X : Shp) (M : Mem) (H : Heap) : Prop := ∀ g k, X.2.2 g k → va_at D vwCl (X.1 g k, X.2.1 g k (M g k)) H
def XOK (A : Nat → Prop) (X : Shp) : Prop := (∀ g k g' k', X.2.2 g k → X.2.2 g' k' → X.1 g k = X.1 g' k' → g = g' ∧ k = k') ∧ ∀ g k, X.2.2 g k → A (X.1 g k)
theorem HD.put {D : va_G} {A : Nat → Prop} {X : Shp} {M : Mem} {H H1 : Heap} {g k : Nat} {f : Nat → Int32} (hX : XOK A X) (h : HD D X M H) (hd : X.2.2 g k) (e : va_at D vwCl (X.1 g k, X.2.1 g k f) H1) (oq : ∀ q : Nat, q ≠ X.1 g k → H1[q]? = H[q]?) : HD D X (cp3 M g k f) H1 := by
  intro g' k' hd'
  by_cases hgk : g' = g ∧ k' = k
  · obtain ⟨rfl, rfl⟩ := hgk
    rw [cp3_self]
    exact e
  · rw [cp3_ne _ _ hgk]
    exact (h g' k' hd').kept (oq _ (fun z => hgk (hX.1 _ _ _ _ hd' hd z)))
theorem HD.kept {D : va_G} {X : Shp} {M : Mem} {H H1 : Heap} (h : HD D X M H) (oq : ∀ g k, X.2.2 g k → H1[X.1 g k]? = H[X.1 g k]?) : HD D X M H1 := fun g k hd => (h g k hd).kept (oq g k hd)
abbrev GG : Type := va_G × (ClassId × ClassId × ClassId × ClassId) × (Nat × Nat × Nat) × Nat
def tabF : Nat → Int32 := fun j => match j with
  | 0 => 60
  | 1 => 40
  | 2 => 10
  | 3 => 5
  | _ => 4
def tabL : Nat → Int32 := fun j => match j with
  | 1 => 1
  | _ => 0
def tabG : Nat → Int32 := fun j => match j with
  | 0 => 500
  | 1 => 200
  | 2 => 100
  | _ => 50
/-- a static array of ints, whole -/
def SF (cI : ClassId) (t : Nat) (f : Nat → Int32) (A : Nat → Prop) (H : Heap) : Prop := ∃ cell : Cell, H[t]? = some cell ∧ cell.vm ≠ .unknown ∧ cell.vm.isStatics = false ∧ cell.cls = cI ∧ cell.slots = (arrV cI 5 (fun j => .int (f j))).slots ∧ ¬ A t
theorem SF.kept {cI : ClassId} {t : Nat} {f : Nat → Int32} {A : Nat → Prop} {H H1 : Heap} (h : SF cI t f A H) (hq : ∀ a : Nat, a < H.size → ¬ A a → H1[a]? = H[a]?) : SF cI t f A H1 := by
  obtain ⟨cell, h1, h2, h3, h4, h5, h6⟩ := h
  exact ⟨cell, by rw [hq t (Array.getElem?_eq_some_iff.mp h1).1 h6]; exact h1, h2, h3, h4, h5, h6⟩
theorem SF.narrow {cI : ClassId} {t : Nat} {f : Nat → Int32} {A B : Nat → Prop} {H : Heap} (h : SF cI t f A H) (hAB : ∀ q, B q → A q) : SF cI t f B H := by
  obtain ⟨cell, h1, h2, h3, h4, h5, h6⟩ := h
  exact ⟨cell, h1, h2, h3, h4, h5, fun z => h6 (hAB t z)⟩
def S1 (nm : String) (cI : ClassId) (t : Nat) (f : Nat → Int32) (A : Nat → Prop) (U : State) (H : Heap) : Prop := va_Z "PenStrike" nm "[I" (.ref t) A U H ∧ va_T .int t 5 (fun j => .int (f j)) A U H ∧ SF cI t f A H
theorem S1.moved {nm : String} {cI : ClassId} {t : Nat} {f : Nat → Int32} {A : Nat → Prop} {u U : State} {H : Heap} (hvm : u.vm.Alike U.vm) (h : S1 nm cI t f A u H) : S1 nm cI t f A U H := ⟨va_Z.moved hvm h.1, va_T.moved hvm h.2.1, h.2.2⟩
theorem S1.kept {nm : String} {cI : ClassId} {t : Nat} {f : Nat → Int32} {A : Nat → Prop} {U : State} {H H1 : Heap} (h : S1 nm cI t f A U H) (hq : ∀ a : Nat, a < H.size → ¬ A a → H1[a]? = H[a]?) : S1 nm cI t f A U H1 := ⟨h.1.kept hq, h.2.1.kept hq, h.2.2.kept hq⟩
theorem S1.narrow {nm : String} {cI : ClassId} {t : Nat} {f : Nat → Int32} {A B : Nat → Prop} {U : State} {H : Heap} (h : S1 nm cI t f A U H) (hAB : ∀ q, B q → A q) : S1 nm cI t f B U H := ⟨h.1.narrow hAB, h.2.1.narrow hAB, h.2.2.narrow hAB⟩
def ST (G : GG) (A : Nat → Prop) (U : State) (H : Heap) : Prop := S1 "FIRST_VALUES" G.2.1.1 G.2.2.1.1 tabF A U H ∧ S1 "LEAST_VALUES" G.2.1.1 G.2.2.1.2.1 tabL A U H ∧ S1 "GREATEST_VALUES" G.2.1.1 G.2.2.1.2.2 tabG A U H
theorem ST.moved {G : GG} {A : Nat → Prop} {u U : State} {H : Heap} (hvm : u.vm.Alike U.vm) (h : ST G A u H) : ST G A U H := ⟨h.1.moved hvm, h.2.1.moved hvm, h.2.2.moved hvm⟩
theorem ST.kept {G : GG} {A : Nat → Prop} {U : State} {H H1 : Heap} (h : ST G A U H) (hq : ∀ a : Nat, a < H.size → ¬ A a → H1[a]? = H[a]?) : ST G A U H1 := ⟨h.1.kept hq, h.2.1.kept hq, h.2.2.kept hq⟩
theorem ST.narrow {G : GG} {A B : Nat → Prop} {U : State} {H : Heap} (h : ST G A U H) (hAB : ∀ q, B q → A q) : ST G B U H := ⟨h.1.narrow hAB, h.2.1.narrow hAB, h.2.2.narrow hAB⟩
def PW (G : GG) (A : Nat → Prop) (X : Shp) (sz : Nat) (M : Mem) (U : State) (H : Heap) : Prop := XOK A X ∧ HD G.1 X M H ∧ H.size = sz ∧ ST G A U H
theorem PW.moved {G : GG} {A : Nat → Prop} {X : Shp} {sz : Nat} {M : Mem} {u U : State} {H : Heap} (hvm : u.vm.Alike U.vm) (h : PW G A X sz M u H) : PW G A X sz M U H := ⟨h.1, h.2.1, h.2.2.1, h.2.2.2.moved hvm⟩
/-- a cell of the world is written -/
theorem PW.put {G : GG} {A : Nat → Prop} {X : Shp} {sz : Nat} {M : Mem} {U : State} {H H1 : Heap} {g k : Nat} {f : Nat → Int32} (h : PW G A X sz M U H) (hd : X.2.2 g k) (e : va_at G.1 vwCl (X.1 g k, X.2.1 g k f) H1) (z : H1.size = H.size) (oq : ∀ q : Nat, q ≠ X.1 g k → H1[q]? = H[q]?) : PW G A X sz (cp3 M g k f) U H1 :=
  ⟨h.1, h.2.1.put h.1 hd e oq, z.trans h.2.2.1, h.2.2.2.kept (fun a _ hA => oq a (fun q => hA (by rw [q]; exact h.1.2 g k hd)))⟩
def isNw : Cond → Bool
  | .methodLinkNest .. => true
  | .fieldLinkNest .. => true
  | .castable .. => true
  | .arrayOver (.object _) => true
  | _ => false
def nwl : List Cond := lw_tbl.filter isNw
def lw_all : List Cond := lw_tbl.filter goodWord
theorem in_all {w : Cond} (h : w ∈ lw_tbl) (hg : goodWord w = true) : w ∈ lw_all := List.mem_filter.mpr ⟨h, hg⟩
theorem in_nwl {w : Cond} (h : w ∈ lw_tbl) (hg : isNw w = true) : w ∈ nwl := List.mem_filter.mpr ⟨h, hg⟩
def KK (G : GG) (U : State) : Prop := va_K G.1 vwCl [(G.2.1.1, .int), (G.2.1.2.1, .boolean), (G.2.1.1, .int), (G.2.1.2.2.2, .object RX5)] U ∧ ∀ w ∈ nwl, va_Nw w U
theorem nw_warm {s U : State} (hW : s.WarmedH U.vm) : ∀ w : Cond, isNw w = true → va_Nw w s → va_Nw w U := by
  intro w hw hZ
  cases w <;> first | (simp [isNw] at hw; done) | exact hZ.warmM hW | exact hZ.warmF hW | exact hZ.warmC hW | (rename_i ty; cases ty <;> first | (simp [isNw] at hw; done) | exact va_AO.moved hW.alike hZ)
theorem KK.warm {G : GG} {s U : State} (hW : s.WarmedH U.vm) (h : KK G s) : KK G U := ⟨va_K.moved hW.alike h.1, fun w hw => nw_warm hW w (List.mem_filter.mp hw).2 (h.2 w hw)⟩
theorem nw_same {u U : State} (h : u.vm = U.vm) : ∀ w : Cond, isNw w = true → va_Nw w u → va_Nw w U := by
  intro w hw hZ
  cases w <;> first | (simp [isNw] at hw; done) | exact hZ.same rfl h | (rename_i ty; cases ty <;> first | (simp [isNw] at hw; done) | exact va_AO.moved (by rw [← h]; exact Vm.Alike.refl u.vm) hZ)
theorem KK.same {G : GG} {u U : State} (hvm : u.vm = U.vm) (h : KK G u) : KK G U := ⟨va_K.moved (by rw [← hvm]; exact Vm.Alike.refl u.vm) h.1, fun w hw => nw_same hvm w (List.mem_filter.mp hw).2 (h.2 w hw)⟩
def wsU (y : MethodName) (b : ByteArray) (n : Nat) (r : Option FieldType) : List Cond := Cond.code y b n r :: lw_all
theorem gU {y : MethodName} {b : ByteArray} {n : Nat} {r : Option FieldType} (h : Cond.code y b n r ∈ lw_all) : GoodIn lw_all (wsU y b n r) := fun w hw => by
  rcases List.mem_cons.mp hw with rfl | hw
  · exact ⟨h, good_of_word (List.mem_filter.mp h).2⟩
  · exact ⟨hw, good_of_word (List.mem_filter.mp hw).2⟩
theorem gApp {ws ws' : List Cond} (h : ∀ w ∈ ws, w ∈ lw_all) (h2 : GoodIn lw_all ws') : GoodIn lw_all (ws ++ ws') := fun w hw => by
  rcases List.mem_append.mp hw with hw | hw
  · exact ⟨h w hw, good_of_word (List.mem_filter.mp (h w hw)).2⟩
  · exact h2 w hw
/-! the functional side -/
def lt {α β : Type} (x : α) (k : α → β) : β := k x
theorem lt_e {α β : Type} {x : α} {k : α → β} {y : β} {P : Prop} (h : lt x k = y) (f : ∀ z, z = x → k z = y → P) : P := f x rfl h
def ob {α β : Type} (x : Option (α × Mem)) (k : α → Mem → Option β) : Option β := match x with
  | none => none
  | some q => k q.1 q.2
theorem ob_e {α β : Type} {x : Option (α × Mem)} {k : α → Mem → Option β} {y : β} {P : Prop} (h : ob x k = some y) (f : ∀ r M, x = some (r, M) → k r M = some y → P) : P := by
  cases x with
  | none => cases h
  | some q => exact f q.1 q.2 rfl h
def ck {β : Type} (b : Bool) (k : Option β) : Option β := match b with
  | true => k
  | false => none
theorem ck_e {β : Type} {b : Bool} {k : Option β} {y : β} {P : Prop} (h : ck b k = some y) (f : b = true → k = some y → P) : P := by
  cases b with
  | false => cases h
  | true => exact f rfl h
theorem if_t {α : Type} {c : Prop} {h : Decidable c} {a b z : α} (e : (@ite α c h a b) = z) (hc : c) : a = z := by
  rw [if_pos hc] at e
  exact e
theorem if_f {α : Type} {c : Prop} {h : Decidable c} {a b z : α} (e : (@ite α c h a b) = z) (hc : ¬ c) : b = z := by
  rw [if_neg hc] at e
  exact e
def ibd (i : Int32) (n : Nat) : Bool := decide (0 ≤ i.toInt) && decide (i.toInt < n)
theorem ibd_in {i : Int32} {n : Nat} (h : ibd i n = true) : vp_in i n := by
  simp only [ibd, Bool.and_eq_true, decide_eq_true_eq] at h
  exact vp_in_iff.mpr h
def ix (i : Int32) : Nat := i.toNatClampNeg
def nz (i : Int32) : Bool := decide (¬ i = 0)
theorem nz_ne {i : Int32} (h : nz i = true) : ¬ i = 0 := of_decide_eq_true h
def bl (i : Int32) : Bool := decide (i = 0) || decide (i = 1)
theorem bl_nar {i : Int32} (h : bl i = true) : narrow .boolean (.int i) = .int i := by
  simp only [bl, Bool.or_eq_true, decide_eq_true_eq] at h
  rcases h with rfl | rfl <;> rfl
section KR
variable {p : Program} {l : Launch} {e : Env} {R : Room} {s : State} {m : MethodId} {args : Array Value} {below : List Frame} {meth : Method} {c : Code} {H : Heap} {locs : List Loc} {cells slots : Nat} {Q : State → Prop}
variable {cc : ByteArray} {pc : Nat} {ls : Array Slot} {rest : List Value} {G : GG} {A : Nat → Prop} {X X' : Shp} {sz sz' : Nat} {M M' : Mem}
theorem kr_nm {x y : Int32} (h : y = x) (k : W p l e R s m args below meth c H locs cells slots Q (F0 m pc ls (.int y :: rest))) : W p l e R s m args below meth c H locs cells slots Q (F0 m pc ls (.int x :: rest)) := by
  subst h
  exact k
theorem kr_nmf {x y : UInt32} (h : y = x) (k : W p l e R s m args below meth c H locs cells slots Q (F0 m pc ls (.float y :: rest))) : W p l e R s m args below meth c H locs cells slots Q (F0 m pc ls (.float x :: rest)) := by
  subst h
  exact k
theorem kr_nmd {x y : UInt64} (h : y = x) (k : W p l e R s m args below meth c H locs cells slots Q (F0 m pc ls (.double y :: rest))) : W p l e R s m args below meth c H locs cells slots Q (F0 m pc ls (.double x :: rest)) := by
  subst h
  exact k
/-- a field is read -/
theorem kr_get (hx : p.tables.exec = Jvm.exec) (hb : c.code = cc) (hts : ∀ w ∈ lw_all, w.before args s = true) {own : String} (hown : s.vm.findClass own = some m.cls) (hK : KK G s) (hP : PW G A X sz M s H) (g k : Nat) (hd : X.2.2 g k) {ci : Nat} {fs : List Value} {a : Nat} (ha : X.1 g k = a) (he : X.2.1 g k (M g k) = .inr (ci, fs)) {C : String} {T : u_T} {N : Nat} (hc : vwCl[ci]? = some (C, T, N)) (hin : ∀ w ∈ u_ws C T N, w ∈ lw_all)
    (j : Nat) (hj : j < N) (hC : (T j).1 = C) {index : Nat} (hl : Cond.fieldLink own index C (T j).2.1 (T j).2.2.1 ∈ lw_all) {v : Value} (hv : fs[j]? = some v) (hdg : decode cc pc = .ok (.getfield index, 3))
    (kk : W p l e R s m args below meth c H locs cells slots Q (F0 m (pc + 3) ls (v :: rest))) : W p l e R s m args below meth c H locs cells slots Q (F0 m pc ls (.ref a :: rest)) := by
  subst ha
  have h1 : va_P G.1 vwCl [(X.1 g k, .inr (ci, fs))] H := by
    intro i q hq
    have hz : i < 1 := (List.getElem?_eq_some_iff.mp hq).1
    rw [show i = 0 by omega] at hq
    cases hq
    have h2 := hP.2.1 g k hd
    rw [he] at h2
    exact h2
  exact va_get hx hb hts hin hown hK.1 h1 0 rfl hc j hj (hts _ hl) (fun x h => by rw [hC] at h; exact h) hv hdg kk
/-- a field is written -/
theorem kr_put (hx : p.tables.exec = Jvm.exec) (hb : c.code = cc) (hts : ∀ w ∈ lw_all, w.before args s = true) {own : String} (hown : s.vm.findClass own = some m.cls) (hK : KK G s) (hP : PW G A X sz M s H) {H0 : Heap} (hS0 : va_S A H0 H locs) (g k : Nat) (hd : X.2.2 g k) {ci : Nat} {fs : List Value} {a : Nat} (ha : X.1 g k = a) (he : X.2.1 g k (M g k) = .inr (ci, fs)) {C : String} {T : u_T} {N : Nat} (hc : vwCl[ci]? = some (C, T, N)) (hin : ∀ w ∈ u_ws C T N, w ∈ lw_all)
    (ty0 : Nat → FieldType) (hty : ∀ k, k < N → parseFieldDescriptor (T k).2.2.1 = some (ty0 k)) (hnm : ∀ a, a < N → ∀ b, b < N → a ≠ b → (T a).2.1 ≠ (T b).2.1)
    (j : Nat) (hj : j < N) (hC : (T j).1 = C) {index : Nat} (hl : Cond.fieldLink own index C (T j).2.1 (T j).2.2.1 ∈ lw_all) (hfin : (T j).2.2.2 = false) (hd2 : parseFieldDescriptor (T j).2.2.1 = some .int) {v : Int32} (hlen : j < fs.length)
    (he1 : X.2.1 g k (upd (M g k) j v) = .inr (ci, fs.set j (.int v))) {M1 : Mem} (hM1 : M1 = up3 M g k j v) (hdg : decode cc pc = .ok (.putfield index, 3))
    (kk : ∀ (H1 : Heap) (locs1 : List Loc), PW G A X sz M1 s H1 → va_S A H0 H1 locs1 → W p l e R s m args below meth c H1 locs1 cells slots Q (F0 m (pc + 3) ls rest)) : W p l e R s m args below meth c H locs cells slots Q (F0 m pc ls (.int v :: .ref a :: rest)) := by
  subst ha
  have hap := va_apart (own := own) hts hin ty0 hty hnm hK.1 hc
  have h0 := hP.2.1 g k hd
  rw [he] at h0
  obtain ⟨r, h1, cell, q1, q2, q3, q4⟩ := h0
  have hr : r = (C, T, N) := Option.some.inj (h1.symm.trans hc)
  subst hr
  obtain ⟨hS, hfc, kC, hkC, hkind⟩ := hK.1.1 ci _ hc
  obtain ⟨cf, kf, fi, f, hi, hsl⟩ := hS j hj
  have hlay := hts _ (hin _ (u_in_lay hj))
  unfold u_lay at hlay
  rw [if_neg (by rw [hfin]; decide)] at hlay
  have hst := (u_facts hfc hkC (u_lays hts hin hj) hi).1
  have h6 := u_store hfc hkC hkind hlay hi hd2 (v := .int v) rfl rfl
  have hi2 := hi
  rw [hC] at hi2
  refine W.putK hx hb (f := f) ⟨hown, hts _ hl, ⟨_, _, _, hi2⟩, hst⟩ (by rw [q2]; exact h6) q1 q3 (by rw [hsl]; exact k2_hasslot (q4 j hj)) rfl rfl hdg fun H' e1 e2 e3 => ?_
  rw [hsl] at e1 ⊢
  subst hM1
  refine kk H' _ (hP.put hd ?_ e2 e3) (hS0.put e2 e3 (hP.1.2 g k hd))
  rw [he1]
  exact ⟨_, hc, t_OB.to (V := updV (vp_V fs) j (.int v)) ⟨_, e1, q2, q3, t_set q4 hap hj (.int v)⟩ (fun i _ => vp_updV_set hlen (.int v) i)⟩
theorem kr_cell (hP : PW G A X sz M s H) {g k : Nat} (hd : X.2.2 g k) {cA : ClassId} {n : Nat} (he : ∀ f, X.2.1 g k f = .inl (cA, n, .inl f)) : H[X.1 g k]? = some (vp_cell cA (n, .inl (M g k))) := by
  have h2 := hP.2.1 g k hd
  rw [he] at h2
  exact h2
/-- an int is read out of an array -/
theorem kr_iald (hx : p.tables.exec = Jvm.exec) (hb : c.code = cc) (hK : KK G s) (hP : PW G A X sz M s H) (g k : Nat) (hd : X.2.2 g k) {a : Nat} (ha : X.1 g k = a) {n : Nat} (he : ∀ f, X.2.1 g k f = .inl (G.2.1.1, n, .inl f)) {i : Int32} (hin : ibd i n = true) (hdg : decode cc pc = .ok (.iaload, 1))
    (kk : W p l e R s m args below meth c H locs cells slots Q (F0 m (pc + 1) ls (.int (M g k (ix i)) :: rest))) : W p l e R s m args below meth c H locs cells slots Q (F0 m pc ls (.int i :: .ref a :: rest)) := by
  subst ha
  have hin := ibd_in hin
  have hlt : i.toNatClampNeg < n := Nat.not_le.mp fun q => hin (Or.inr q)
  exact W.iald (v := .int (M g k (ix i))) hx hb (kr_cell hP hd he) ((hK.1.2 0 _ rfl).1 n (fun j => .int (M g k j))) (fun q => by cases q) (by show ¬ (i < 0 ∨ (arrV _ _ _).slots.size ≤ _); rw [arrV_size]; exact hin) (by show (arrV _ _ _).slots[_]? = _; rw [arrV_read _ _ hlt]; rfl) rfl rfl hdg kk
theorem kr_zald (hx : p.tables.exec = Jvm.exec) (hb : c.code = cc) (hK : KK G s) (hP : PW G A X sz M s H) (g k : Nat) (hd : X.2.2 g k) {a : Nat} (ha : X.1 g k = a) {n : Nat} (he : ∀ f, X.2.1 g k f = .inl (G.2.1.2.1, n, .inl f)) {i : Int32} (hin : ibd i n = true) (hdg : decode cc pc = .ok (.baload, 1))
    (kk : W p l e R s m args below meth c H locs cells slots Q (F0 m (pc + 1) ls (.int (M g k (ix i)) :: rest))) : W p l e R s m args below meth c H locs cells slots Q (F0 m pc ls (.int i :: .ref a :: rest)) := by
  subst ha
  have hin := ibd_in hin
  have hlt : i.toNatClampNeg < n := Nat.not_le.mp fun q => hin (Or.inr q)
  exact W.zald (v := .int (M g k (ix i))) hx hb (kr_cell hP hd he) ((hK.1.2 1 _ rfl).1 n (fun j => .int (M g k j))) (fun q => by cases q) (by show ¬ (i < 0 ∨ (arrV _ _ _).slots.size ≤ _); rw [arrV_size]; exact hin) (by show (arrV _ _ _).slots[_]? = _; rw [arrV_read _ _ hlt]; rfl) rfl rfl hdg kk
theorem kr_upd (cA : ClassId) (n : Nat) (f : Nat → Int32) (j : Nat) (x : Int32) {H1 : Heap} {a : Nat} (e : H1[a]? = some ((vp_cell cA (n, .inl f)).setSlot j (.int x))) : H1[a]? = some (vp_cell cA (n, .inl (upd f j x))) := by
  rw [e]
  rw [vp_cell_i, vp_cell_i, arrV_store]
  congr 2
  funext q
  by_cases hq : q = j
  · subst hq
    simp [updV, upd]
  · simp [updV, upd, hq]
theorem kr_iast (hx : p.tables.exec = Jvm.exec) (hb : c.code = cc) (hK : KK G s) (hP : PW G A X sz M s H) {H0 : Heap} (hS0 : va_S A H0 H locs) (g k : Nat) (hd : X.2.2 g k) {a : Nat} (ha : X.1 g k = a) {n : Nat} (he : ∀ f, X.2.1 g k f = .inl (G.2.1.1, n, .inl f)) {i v : Int32} (hin : ibd i n = true) {M1 : Mem} (hM1 : M1 = up3 M g k (ix i) v) (hdg : decode cc pc = .ok (.iastore, 1))
    (kk : ∀ (H1 : Heap) (locs1 : List Loc), PW G A X sz M1 s H1 → va_S A H0 H1 locs1 → W p l e R s m args below meth c H1 locs1 cells slots Q (F0 m (pc + 1) ls rest)) : W p l e R s m args below meth c H locs cells slots Q (F0 m pc ls (.int v :: .int i :: .ref a :: rest)) := by
  subst ha
  subst hM1
  have hin := ibd_in hin
  refine W.iast hx hb (kr_cell hP hd he) ((hK.1.2 0 _ rfl).1 n (fun j => .int (M g k j))) (fun q => by cases q) (by show ¬ (i < 0 ∨ (arrV _ _ _).slots.size ≤ _); rw [arrV_size]; exact hin) rfl rfl hdg fun H1 e z oq => ?_
  refine kk H1 _ (hP.put hd ?_ z oq) (hS0.put z oq (hP.1.2 g k hd))
  rw [he]
  exact kr_upd _ _ _ _ _ e
theorem kr_zast (hx : p.tables.exec = Jvm.exec) (hb : c.code = cc) (hK : KK G s) (hP : PW G A X sz M s H) {H0 : Heap} (hS0 : va_S A H0 H locs) (g k : Nat) (hd : X.2.2 g k) {a : Nat} (ha : X.1 g k = a) {n : Nat} (he : ∀ f, X.2.1 g k f = .inl (G.2.1.2.1, n, .inl f)) {i v : Int32} (hin : ibd i n = true) {M1 : Mem} (hM1 : M1 = up3 M g k (ix i) (vp_nar .boolean v)) (hdg : decode cc pc = .ok (.bastore, 1))
    (kk : ∀ (H1 : Heap) (locs1 : List Loc), PW G A X sz M1 s H1 → va_S A H0 H1 locs1 → W p l e R s m args below meth c H1 locs1 cells slots Q (F0 m (pc + 1) ls rest)) : W p l e R s m args below meth c H locs cells slots Q (F0 m pc ls (.int v :: .int i :: .ref a :: rest)) := by
  subst ha
  subst hM1
  have hin := ibd_in hin
  refine W.zast hx hb (kr_cell hP hd he) ((hK.1.2 1 _ rfl).1 n (fun j => .int (M g k j))) (fun q => by cases q) (by show ¬ (i < 0 ∨ (arrV _ _ _).slots.size ≤ _); rw [arrV_size]; exact hin) rfl rfl hdg fun H1 e z oq => ?_
  refine kk H1 _ (hP.put hd ?_ z oq) (hS0.put z oq (hP.1.2 g k hd))
  rw [he]
  exact kr_upd _ _ _ _ _ e
theorem kr_alen (hx : p.tables.exec = Jvm.exec) (hb : c.code = cc) (hK : KK G s) (hP : PW G A X sz M s H) (g k : Nat) (hd : X.2.2 g k) {a : Nat} (ha : X.1 g k = a) {n : Nat} (he : ∀ f, X.2.1 g k f = .inl (G.2.1.1, n, .inl f)) (hdg : decode cc pc = .ok (.arraylength, 1))
    (kk : W p l e R s m args below meth c H locs cells slots Q (F0 m (pc + 1) ls (.int (Int32.ofNat n) :: rest))) : W p l e R s m args below meth c H locs cells slots Q (F0 m pc ls (.ref a :: rest)) := by
  subst ha
  exact W.alen (n := Int32.ofNat n) hx hb (kr_cell hP hd he) ((hK.1.2 0 _ rfl).1 n (fun j => .int (M g k j))) (by show (arrV _ _ _).slots.size.toInt32 = _; rw [arrV_size]) rfl rfl hdg kk
/-- ends -/
theorem en_i {v r : Int32} {ty : FieldType} (hf : some (v, M) = some (r, M')) (hx : p.tables.exec = Jvm.exec) (hb : c.code = cc) (hr : meth.sig.returnType = some ty) (hn : narrow ty (.int v) = .int v) (hlocks : meth.locks = false) (hP : PW G A X sz M s H) (hS : va_S A s.heap H locs) (hdg : decode cc pc = .ok (.ireturn, 1)) :
    W p l e R s m args below meth c H locs cells slots (MQ below (va_Qi (fun (r2 : Int32) (_ : Unit) => r2 = r) (fun _ t => PW G A X sz M' t t.heap) A) args s cells slots A) (F0 m pc ls [.int v]) := by
  cases hf
  exact W.zret hx hb hr hn (fun t ht hW => ⟨⟨v, (), rfl, rfl, by show PW G A X sz M t t.heap; rw [ht]; exact hP.moved hW.alike⟩, hS.F ht⟩) hS.2.2 hdg hlocks
theorem en_v {r : Unit} (hf : some ((), M) = some (r, M')) (hx : p.tables.exec = Jvm.exec) (hb : c.code = cc) (hr : meth.sig.returnType = none) (hlocks : meth.locks = false) (hP : PW G A X sz M s H) (hS : va_S A s.heap H locs) (hdg : decode cc pc = .ok (.return_, 1)) :
    W p l e R s m args below meth c H locs cells slots (MQ below (va_Qv (fun (_ : Unit) => True) (fun _ t => PW G A X sz M' t t.heap) A) args s cells slots A) (F0 m pc ls []) := by
  cases hf
  exact W.vret hx hb hr (fun t ht hW => ⟨⟨(), rfl, trivial, by show PW G A X sz M t t.heap; rw [ht]; exact hP.moved hW.alike⟩, hS.F ht⟩) hS.2.2 hdg hlocks
theorem en_f {v r : UInt32} (hf : some (v, M) = some (r, M')) (hx : p.tables.exec = Jvm.exec) (hb : c.code = cc) (hr : meth.sig.returnType = some .float) (hlocks : meth.locks = false) (hP : PW G A X sz M s H) (hS : va_S A s.heap H locs) (hdg : decode cc pc = .ok (.freturn, 1)) :
    W p l e R s m args below meth c H locs cells slots (MQ below (va_Qf (fun (r2 : UInt32) (_ : Unit) => r2 = r) (fun _ t => PW G A X sz M' t t.heap) A) args s cells slots A) (F0 m pc ls [.float v]) := by
  cases hf
  exact W.fret hx hb hr (fun t ht hW => ⟨⟨v, (), rfl, rfl, by show PW G A X sz M t t.heap; rw [ht]; exact hP.moved hW.alike⟩, hS.F ht⟩) hS.2.2 hdg hlocks
end KR
/-! contracts -/
def CtI (l : Launch) (y : MethodName) (b : ByteArray) (n : Nat) (ret : Option FieldType) (rm : Room) (as : List Value) (G : GG) (A : Nat → Prop) (X : Shp) (sz : Nat) (M : Mem) (r : Int32) (X' : Shp) (sz' : Nat) (M' : Mem) : Prop :=
  Met l y (wsU y b n ret) rm (va_Pc as (fun U => KK G U ∧ PW G A X sz M U U.heap)) (va_Qi (fun (r2 : Int32) (_ : Unit) => r2 = r) (fun _ t => PW G A X' sz' M' t t.heap) A) rm.cells rm.slots A
def CtV (l : Launch) (y : MethodName) (b : ByteArray) (n : Nat) (ret : Option FieldType) (rm : Room) (as : List Value) (G : GG) (A : Nat → Prop) (X : Shp) (sz : Nat) (M : Mem) (_ : Unit) (X' : Shp) (sz' : Nat) (M' : Mem) : Prop :=
  Met l y (wsU y b n ret) rm (va_Pc as (fun U => KK G U ∧ PW G A X sz M U U.heap)) (va_Qv (fun (_ : Unit) => True) (fun _ t => PW G A X' sz' M' t t.heap) A) rm.cells rm.slots A
def CtF (l : Launch) (y : MethodName) (b : ByteArray) (n : Nat) (ret : Option FieldType) (rm : Room) (as : List Value) (G : GG) (A : Nat → Prop) (X : Shp) (sz : Nat) (M : Mem) (r : UInt32) (X' : Shp) (sz' : Nat) (M' : Mem) : Prop :=
  Met l y (wsU y b n ret) rm (va_Pc as (fun U => KK G U ∧ PW G A X sz M U U.heap)) (va_Qf (fun (r2 : UInt32) (_ : Unit) => r2 = r) (fun _ t => PW G A X' sz' M' t t.heap) A) rm.cells rm.slots A
theorem Ct_of {l : Launch} {y : MethodName} {b : ByteArray} {n : Nat} {ret : Option FieldType} {rm : Room} {as : List Value} {G : GG} {A : Nat → Prop} {X : Shp} {sz : Nat} {M : Mem} {Qc : Array Value → State → Outcome → State → Prop} {mc ms : Nat} (hy : plainName y.cls = true) (hn : (lg_sl as).length ≤ n)
    (body : ∀ (p : Program) (e : Env) (s : State) (m : MethodId) (below : List Frame) (meth : Method) (c : Code) (ls : Array Slot), p.tables.exec = Jvm.exec → c.code = b → meth.sig.returnType = ret → meth.locks = false → c.maxLocals = n → s.vm.findClass y.cls = some m.cls → (∀ w ∈ lw_all, w.before as.toArray s = true) → KK G s → PW G A X sz M s s.heap → lv_has ls n (lv_args 0 as) →
      W p l e rm s m as.toArray below meth c s.heap [] 0 0 (MQ below Qc as.toArray s mc ms A) (F0 m 0 ls [])) :
    Met l y (wsU y b n ret) rm (va_Pc as (fun U => KK G U ∧ PW G A X sz M U U.heap)) Qc mc ms A := by
  refine Met.ofW (cc := b) (maxL := n) (ret := ret) hy rfl ?_
  intro p e s m args below meth c s₁ B hml hv
  obtain ⟨rfl, hK, hP⟩ := hv
  have hx := B.exec
  have hb := B.bytes
  have hr := B.returns
  have hts := atoms_spec (ws := wsU y b n ret) B.pre
  have hown : s.vm.findClass y.cls = some m.cls := findClass_of_methodNamed B.named
  have hlocks := B.notSynchronized
  have hl := lv_entry as hn
  rw [lg_entry_eq]
  exact body p e s m below meth c _ hx hb hr hlocks hml hown (fun w h => hts w (List.mem_cons_of_mem _ h)) hK hP hl
section KC
variable {p : Program} {l : Launch} {e : Env} {R : Room} {s : State} {m : MethodId} {args : Array Value} {below : List Frame} {meth : Method} {c : Code} {H : Heap} {locs : List Loc} {cells slots : Nat} {Q : State → Prop}
variable {cc : ByteArray} {pc nL : Nat} {ls : Array Slot} {rest st : List Value} {G : GG} {A : Nat → Prop} {X X' : Shp} {sz sz' : Nat} {M M' : Mem}
variable {l' : List (Nat × Value)} {y : MethodName} {b : ByteArray} {n na index : Nat} {ret : Option FieldType} {rm : Room} {As : List Value} {a : Nat} {own : String} {Qc : Array Value → State → Outcome → State → Prop}
theorem kc_recv (hK : KK G s) (hP : PW G A X sz M s H) {g k : Nat} (hd : X.2.2 g k) {ci : Nat} {fs : List Value} (he : X.2.1 g k (M g k) = .inr (ci, fs)) {q : vw_C} (hc : vwCl[ci]? = some q) : ∃ cellB : Cell, H[X.1 g k]? = some cellB ∧ cellB.vm.isStatics = false ∧ s.vm.findClass q.1 = some cellB.cls := by
  have h2 := hP.2.1 g k hd
  rw [he] at h2
  obtain ⟨q', h1, cell, g1, g2, g3, -⟩ := h2
  exact ⟨cell, g1, by rw [g3]; rfl, by rw [g2]; exact (hK.1.1 ci q hc).2.1⟩
theorem kc_blind (as : List Value) : FrameBlind (va_Pc as (fun U => KK G U ∧ PW G A X sz M U U.heap)) := fun a U g mk q => ⟨q.1, KK.same (u := U) (U := U.calling g mk a) rfl q.2.1, PW.moved (U := U.calling g mk a) (Vm.Alike.refl U.vm) q.2.2⟩
theorem kc_pre (hK : KK G s) (hP : PW G A X sz M s H) (as : List Value) : ∀ U : State, U.heap = H → s.WarmedH U.vm → va_Pc as (fun U => KK G U ∧ PW G A X sz M U U.heap) as.toArray U := fun U hU hW => ⟨rfl, hK.warm hW, by rw [hU]; exact hP.moved hW.alike⟩
/-- the run of an instance method of the object's own class -/
theorem kc_runV (hx : p.tables.exec = Jvm.exec) (hb : c.code = cc) (hml : c.maxLocals = nL) (hts : ∀ w ∈ lw_all, w.before args s = true) (hown : s.vm.findClass own = some m.cls) (hK : KK G s) (hP : PW G A X sz M s H) (g k : Nat) (hd : X.2.2 g k) (ha : X.1 g k = a) {ci : Nat} {fs : List Value} (he : X.2.1 g k (M g k) = .inr (ci, fs)) {q : vw_C} (hc : vwCl[ci]? = some q)
    (hM : Met l y (wsU y b n ret) rm (va_Pc (.ref a :: As) (fun U => KK G U ∧ PW G A X sz M U U.heap)) Qc rm.cells rm.slots A)
    (w1 : Cond.methodLink own index y ∈ lw_all) (w2 : Cond.instanceMethod y ∈ lw_all) (w3 : Cond.selects q.1 y y ∈ lw_all) (w4 : Cond.initialized q.1 ∈ lw_all) (w5 : Cond.code y b n ret ∈ lw_all)
    (hy : y.cls = q.1 ∧ y.cls ≠ "java/lang/invoke/MethodHandle" ∧ y.cls ≠ "java/lang/invoke/VarHandle" ∧ (parseMethodDescriptor y.desc).map (fun d => d.parameters.length) = some na) (hR : rm.frames + 1 ≤ R.frames ∧ 8 + (n + 11) + rm.locals ≤ R.locals)
    (hn : As.length = na) (hl : lv_has ls nL l') (hst : st = As.reverse ++ .ref a :: rest) (hrest : (rest.map fun v => v.category).sum ≤ 8) (hdg : decode cc pc = .ok (.invokevirtual index, 3)) (hf : cells + rm.cells ≤ R.cells ∧ slots + rm.slots ≤ R.slots) :
    va_Run p l e R s m args below meth c H locs cells slots rm.cells rm.slots (F0 m pc ls st) rest (Qc (Value.ref a :: As).toArray) A := by
  subst ha
  refine va_runV (C := q.1) (Ts := lw_all) (As := As) (rest := rest) ⟨hx, hb, hml, hown, hts⟩ hM (cwV na hts (gApp (fun w hw => ?_) (gU w5)) rfl rfl rfl hy hR) ⟨kc_blind _, kc_recv hK hP hd he hc, kc_pre hK hP _⟩ rfl hn hl.1 hst (lv_room hrest) hdg hf
  simp only [List.mem_cons, List.not_mem_nil, or_false] at hw
  rcases hw with rfl | rfl | rfl | rfl
  · exact w1
  · exact w2
  · exact w3
  · exact w4
/-- a static method of a class of ours, its own class or another (not by the nest) -/
theorem kc_runS (hx : p.tables.exec = Jvm.exec) (hb : c.code = cc) (hml : c.maxLocals = nL) (hts : ∀ w ∈ lw_all, w.before args s = true) (hown : s.vm.findClass own = some m.cls) (hK : KK G s) (hP : PW G A X sz M s H)
    (hM : Met l y (wsU y b n ret) rm (va_Pc As (fun U => KK G U ∧ PW G A X sz M U U.heap)) Qc rm.cells rm.slots A)
    (w1 : Cond.methodLink own index y ∈ lw_all) (w2 : Cond.static y ∈ lw_all) (w3 : Cond.initialized y.cls ∈ lw_all) (w5 : Cond.code y b n ret ∈ lw_all)
    (hy : y.cls ≠ "java/lang/invoke/MethodHandle" ∧ y.cls ≠ "java/lang/invoke/VarHandle" ∧ (parseMethodDescriptor y.desc).map (fun d => d.parameters.length) = some na) (hR : rm.frames + 1 ≤ R.frames ∧ 8 + (n + 11) + rm.locals ≤ R.locals)
    (hn : As.length = na) (hl : lv_has ls nL l') (hst : st = As.reverse ++ rest) (hrest : (rest.map fun v => v.category).sum ≤ 8) (hdg : decode cc pc = .ok (.invokestatic index, 3)) (hf : cells + rm.cells ≤ R.cells ∧ slots + rm.slots ≤ R.slots) :
    va_Run p l e R s m args below meth c H locs cells slots rm.cells rm.slots (F0 m pc ls st) rest (Qc As.toArray) A := by
  refine va_runS (Ts := lw_all) (As := As) (rest := rest) ⟨hx, hb, hml, hown, hts⟩ hM (va_cwS na hts (gApp (fun w hw => ?_) (gU w5)) rfl rfl rfl hy hR) ⟨kc_blind _, kc_pre hK hP _⟩ rfl hn hl.1 hst (lv_room hrest) hdg hf
  simp only [List.mem_cons, List.not_mem_nil, or_false] at hw
  rcases hw with rfl | rfl | rfl
  · exact w1
  · exact w2
  · exact w3
/-- a private static method of a nest mate -/
theorem kc_runSN {host : String} (hx : p.tables.exec = Jvm.exec) (hb : c.code = cc) (hml : c.maxLocals = nL) (hts : ∀ w ∈ lw_all, w.before args s = true) (hown : s.vm.findClass own = some m.cls) (hK : KK G s) (hP : PW G A X sz M s H)
    (hM : Met l y (wsU y b n ret) rm (va_Pc As (fun U => KK G U ∧ PW G A X sz M U U.heap)) Qc rm.cells rm.slots A)
    (w1 : Cond.methodLinkNest own index y host ∈ nwl) (w2 : Cond.static y ∈ lw_all) (w3 : Cond.initialized y.cls ∈ lw_all) (w5 : Cond.code y b n ret ∈ lw_all)
    (hy : y.cls ≠ "java/lang/invoke/MethodHandle" ∧ y.cls ≠ "java/lang/invoke/VarHandle" ∧ (parseMethodDescriptor y.desc).map (fun d => d.parameters.length) = some na) (hR : rm.frames + 1 ≤ R.frames ∧ 8 + (n + 11) + rm.locals ≤ R.locals)
    (hn : As.length = na) (hl : lv_has ls nL l') (hst : st = As.reverse ++ rest) (hrest : (rest.map fun v => v.category).sum ≤ 8) (hdg : decode cc pc = .ok (.invokestatic index, 3)) (hf : cells + rm.cells ≤ R.cells ∧ slots + rm.slots ≤ R.slots) :
    va_Run p l e R s m args below meth c H locs cells slots rm.cells rm.slots (F0 m pc ls st) rest (Qc As.toArray) A :=
  va_runSN (Ts := lw_all) (As := As) (rest := rest) ⟨hx, hb, hml, hown, hts⟩ hM ⟨va_cnB na hts (gU w5) rfl rfl rfl (hK.2 _ w1) (hts _ w3) hy hR, hts _ w2, trivial⟩ ⟨kc_blind _, kc_pre hK hP _⟩ rfl hn hl.1 hst (lv_room hrest) hdg hf
/-- on behind a call -/
theorem kc_i {r : Int32} {mc ms : Nat} {aa : Array Value} (hr : va_Run p l e R s m args below meth c H locs cells slots mc ms (F0 m pc ls st) rest (va_Qi (fun (r2 : Int32) (_ : Unit) => r2 = r) (fun _ t => PW G A X' sz' M' t t.heap) A aa) A) (hS : va_S A s.heap H locs)
    (kk : ∀ (H1 : Heap) (locs1 : List Loc), PW G A X' sz' M' s H1 → va_S A s.heap H1 locs1 → W p l e R s m args below meth c H1 locs1 (cells + mc) (slots + ms) Q (F0 m (pc + 3) ls (.int r :: rest))) : W p l e R s m args below meth c H locs cells slots Q (F0 m pc ls st) := by
  refine va_calli hr hS (fun q _ h => h) (fun q h => h) (fun r1 u t H1 locs1 ht hvm hw hB hz1 hk1 hS1 => ?_)
  subst hw
  rw [ht] at hB
  exact kk H1 locs1 (hB.moved hvm.symm) hS1
theorem kc_f {r : UInt32} {mc ms : Nat} {aa : Array Value} (hr : va_Run p l e R s m args below meth c H locs cells slots mc ms (F0 m pc ls st) rest (va_Qf (fun (r2 : UInt32) (_ : Unit) => r2 = r) (fun _ t => PW G A X' sz' M' t t.heap) A aa) A) (hS : va_S A s.heap H locs)
    (kk : ∀ (H1 : Heap) (locs1 : List Loc), PW G A X' sz' M' s H1 → va_S A s.heap H1 locs1 → W p l e R s m args below meth c H1 locs1 (cells + mc) (slots + ms) Q (F0 m (pc + 3) ls (.float r :: rest))) : W p l e R s m args below meth c H locs cells slots Q (F0 m pc ls st) := by
  refine va_callf hr hS (fun q _ h => h) (fun q h => h) (fun r1 u t H1 locs1 ht hvm hw hB hz1 hk1 hS1 => ?_)
  subst hw
  rw [ht] at hB
  exact kk H1 locs1 (hB.moved hvm.symm) hS1
theorem kc_v {mc ms : Nat} {aa : Array Value} (hr : va_Run p l e R s m args below meth c H locs cells slots mc ms (F0 m pc ls st) rest (va_Qv (fun (_ : Unit) => True) (fun _ t => PW G A X' sz' M' t t.heap) A aa) A) (hS : va_S A s.heap H locs)
    (kk : ∀ (H1 : Heap) (locs1 : List Loc), PW G A X' sz' M' s H1 → va_S A s.heap H1 locs1 → W p l e R s m args below meth c H1 locs1 (cells + mc) (slots + ms) Q (F0 m (pc + 3) ls rest)) : W p l e R s m args below meth c H locs cells slots Q (F0 m pc ls st) := by
  refine va_callv hr hS (fun q _ h => h) (fun q h => h) (fun u t H1 locs1 ht hvm hw hB hz1 hk1 hS1 => ?_)
  rw [ht] at hB
  exact kk H1 locs1 (hB.moved hvm.symm) hS1
end KC
