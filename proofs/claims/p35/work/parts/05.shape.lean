/-! where the cells lie: the class (its main cells, group 0; plotters, groups 1 and on), and the reference -/
def adC (G : GG) (g k : Nat) : Nat := if g = 0 then (if k = 0 then G.2.2.2 else G.2.2.2 + 42 + k) else if g ≤ 2 then G.2.2.2 + 1 + 21 * (g - 1) + k else G.2.2.2 + 55 + 21 * (g - 3) + k
def entM (G : GG) (ns k : Nat) (m : Nat → Int32) : va_E := match k with
  | 0 => .inr (7, [.ref (adC G 1 0), .ref (adC G 2 0), .ref (adC G 0 1), .ref (adC G 0 3), .ref (adC G 0 5), .ref (adC G 0 8)])
  | 1 => .inr (1, [.ref (adC G 0 2), .int (m 1), .int (m 2)])
  | 2 => .inl (G.2.1.2.2.2, 4, .inr (.inr (.inr (.inr (fun i => if i < ns then some (adC G (3 + i) 0) else none)))))
  | 3 => .inr (3, [.int (m 0), .ref (adC G 0 4), .int (m 2), .int (m 3), .int (m 4)])
  | 4 => .inl (G.2.1.1, 60, .inl m)
  | 5 => .inr (0, [.ref (adC G 0 6), .ref (adC G 0 7)])
  | 6 => .inl (G.2.1.1, 16, .inl m)
  | 7 => .inl (G.2.1.1, 5, .inl m)
  | 8 => .inr (6, [.int (m 0), .ref (adC G 0 9), .ref (adC G 0 10), .ref (adC G 0 11), .ref (adC G 0 12), .int (m 5), .int (m 6)])
  | 9 => .inl (G.2.1.1, 16, .inl m)
  | 10 => .inl (G.2.1.1, 16, .inl m)
  | 11 => .inl (G.2.1.1, 16, .inl m)
  | _ => .inl (G.2.1.2.1, 16, .inl m)
def entP (G : GG) (g k : Nat) (m : Nat → Int32) : va_E := match k with
  | 0 => .inr (5, [.ref (adC G g 1), .ref (adC G g 2), .ref (adC G g 10), .int (m 3), .int (m 4), .int (m 5), .int (m 6), .int (m 7), .int (m 8)])
  | 1 => .inl (G.2.1.1, 5, .inl m)
  | 2 => .inr (4, [.int (m 0), .ref (adC G g 3), .ref (adC G g 4), .ref (adC G g 5), .ref (adC G g 6), .ref (adC G g 7), .ref (adC G g 8), .ref (adC G g 9)])
  | 3 => .inl (G.2.1.1, 5, .inl m)
  | 4 => .inl (G.2.1.1, 5, .inl m)
  | 5 => .inl (G.2.1.1, 5, .inl m)
  | 6 => .inl (G.2.1.1, 5, .inl m)
  | 7 => .inl (G.2.1.1, 5, .inl m)
  | 8 => .inl (G.2.1.1, 5, .inl m)
  | 9 => .inl (G.2.1.1, 5, .inl m)
  | 10 => .inr (2, [.int (m 0), .ref (adC G g 11), .ref (adC G g 12), .ref (adC G g 13), .ref (adC G g 14), .ref (adC G g 15), .ref (adC G g 16), .ref (adC G g 17), .ref (adC G g 18), .ref (adC G g 19), .ref (adC G g 20)])
  | 11 => .inl (G.2.1.1, 16, .inl m)
  | 12 => .inl (G.2.1.1, 16, .inl m)
  | 13 => .inl (G.2.1.1, 16, .inl m)
  | 14 => .inl (G.2.1.1, 16, .inl m)
  | 15 => .inl (G.2.1.1, 16, .inl m)
  | 16 => .inl (G.2.1.1, 16, .inl m)
  | 17 => .inl (G.2.1.1, 16, .inl m)
  | 18 => .inl (G.2.1.1, 16, .inl m)
  | 19 => .inl (G.2.1.1, 16, .inl m)
  | _ => .inl (G.2.1.1, 16, .inl m)
def entC (G : GG) (ns g k : Nat) (m : Nat → Int32) : va_E := match g with
  | 0 => entM G ns k m
  | g + 1 => entP G (g + 1) k m
def pg (ns g : Nat) : Prop := 1 ≤ g ∧ g < 3 + ns
def dmC (ns g k : Nat) : Prop := (g = 0 ∧ k < 13) ∨ (pg ns g ∧ k < 21)
abbrev XC (G : GG) (ns : Nat) : Shp := (adC G, entC G ns, dmC ns)
def AC (G : GG) : Nat → Prop := fun q => (G.2.2.2 ≤ q ∧ q < G.2.2.2 + 55) ∨ G.2.2.2 + 55 ≤ q
def AM (G : GG) : Nat → Prop := fun q => G.2.2.2 + 55 ≤ q ∧ q < G.2.2.2 + 55
theorem pg_s {ns g : Nat} (h : pg ns g) : ∃ g0, g = g0 + 1 := ⟨g - 1, by have := h.1; omega⟩
theorem dm0 {ns k : Nat} (h : k < 13) : dmC ns 0 k := Or.inl ⟨rfl, h⟩
theorem dmP {ns g k : Nat} (hg : pg ns g) (h : k < 21) : dmC ns g k := Or.inr ⟨hg, h⟩
theorem XC_ok (G : GG) (ns : Nat) : XOK (AC G) (XC G ns) := by
  refine ⟨fun g k g2 k2 h h2 e => ?_, fun g k h => ?_⟩
  · have e : adC G g k = adC G g2 k2 := e
    unfold adC at e
    have h : dmC ns g k := h
    have h2 : dmC ns g2 k2 := h2
    unfold dmC pg at h h2
    by_cases c1 : g = 0 <;> by_cases c2 : g2 = 0 <;> simp only [c1, c2, if_true, if_false] at e
    · by_cases d1 : k = 0 <;> by_cases d2 : k2 = 0 <;> simp only [d1, d2, if_true, if_false] at e <;> omega
    · by_cases d1 : k = 0 <;> by_cases d2 : g2 ≤ 2 <;> simp only [d1, d2, if_true, if_false] at e <;> omega
    · by_cases d1 : k2 = 0 <;> by_cases d2 : g ≤ 2 <;> simp only [d1, d2, if_true, if_false] at e <;> omega
    · by_cases d1 : g ≤ 2 <;> by_cases d2 : g2 ≤ 2 <;> simp only [d1, d2, if_true, if_false] at e <;> omega
  · show AC G (adC G g k)
    have h : dmC ns g k := h
    unfold dmC pg at h
    unfold AC adC
    by_cases c1 : g = 0 <;> simp only [c1, if_true, if_false]
    · by_cases d1 : k = 0 <;> simp only [d1, if_true, if_false] <;> omega
    · by_cases d1 : g ≤ 2 <;> simp only [d1, if_true, if_false] <;> omega
/-- what a method's walk stands on -/
def Cx (p : Program) (s : State) (m : MethodId) (args : Array Value) (meth : Method) (c : Code) (cc : ByteArray) (ret : Option FieldType) (nL : Nat) (own : String) (G : GG) : Prop :=
  p.tables.exec = Jvm.exec ∧ c.code = cc ∧ meth.sig.returnType = ret ∧ meth.locks = false ∧ c.maxLocals = nL ∧ s.vm.findClass own = some m.cls ∧ (∀ w ∈ lw_all, w.before args s = true) ∧ KK G s
section RW
variable {p : Program} {l : Launch} {e : Env} {R : Room} {s : State} {m : MethodId} {args : Array Value} {below : List Frame} {meth : Method} {c : Code} {H H0 : Heap} {locs : List Loc} {cells slots : Nat} {Q : State → Prop}
variable {cc : ByteArray} {pc : Nat} {ls : Array Slot} {rest : List Value} {G : GG} {sz : Nat} {M M1 : Mem} {ns g nL index : Nat} {own : String} {ret : Option FieldType} {i v : Int32}
theorem gf_X7_now (E : Cx p s m args meth c cc ret nL own G) (hP : PW G (AC G) (XC G ns) sz M s H) (hl : Cond.fieldLink own index RX7 "now" "LPenStrike$Plotter;" ∈ lw_all) (hdg : decode cc pc = .ok (.getfield index, 3))
    (kk : W p l e R s m args below meth c H locs cells slots Q (F0 m (pc + 3) ls (.ref (adC G 1 0) :: rest))) : W p l e R s m args below meth c H locs cells slots Q (F0 m pc ls (.ref (adC G 0 0) :: rest)) := by
  obtain ⟨hx, hb, hr, hlocks, hml, hown, hts, hK⟩ := E
  exact kr_get hx hb hts hown hK hP 0 0 (dm0 (by decide)) rfl rfl rfl inX7 0 (by decide) rfl hl rfl hdg kk
theorem gf_X7_trial (E : Cx p s m args meth c cc ret nL own G) (hP : PW G (AC G) (XC G ns) sz M s H) (hl : Cond.fieldLink own index RX7 "trial" "LPenStrike$Plotter;" ∈ lw_all) (hdg : decode cc pc = .ok (.getfield index, 3))
    (kk : W p l e R s m args below meth c H locs cells slots Q (F0 m (pc + 3) ls (.ref (adC G 2 0) :: rest))) : W p l e R s m args below meth c H locs cells slots Q (F0 m pc ls (.ref (adC G 0 0) :: rest)) := by
  obtain ⟨hx, hb, hr, hlocks, hml, hown, hts, hK⟩ := E
  exact kr_get hx hb hts hown hK hP 0 0 (dm0 (by decide)) rfl rfl rfl inX7 1 (by decide) rfl hl rfl hdg kk
theorem gf_X7_history (E : Cx p s m args meth c cc ret nL own G) (hP : PW G (AC G) (XC G ns) sz M s H) (hl : Cond.fieldLink own index RX7 "history" "LPenStrike$History;" ∈ lw_all) (hdg : decode cc pc = .ok (.getfield index, 3))
    (kk : W p l e R s m args below meth c H locs cells slots Q (F0 m (pc + 3) ls (.ref (adC G 0 1) :: rest))) : W p l e R s m args below meth c H locs cells slots Q (F0 m pc ls (.ref (adC G 0 0) :: rest)) := by
  obtain ⟨hx, hb, hr, hlocks, hml, hown, hts, hK⟩ := E
  exact kr_get hx hb hts hown hK hP 0 0 (dm0 (by decide)) rfl rfl rfl inX7 2 (by decide) rfl hl rfl hdg kk
theorem gf_X7_orders (E : Cx p s m args meth c cc ret nL own G) (hP : PW G (AC G) (XC G ns) sz M s H) (hl : Cond.fieldLink own index RX7 "orders" "LPenStrike$Orders;" ∈ lw_all) (hdg : decode cc pc = .ok (.getfield index, 3))
    (kk : W p l e R s m args below meth c H locs cells slots Q (F0 m (pc + 3) ls (.ref (adC G 0 3) :: rest))) : W p l e R s m args below meth c H locs cells slots Q (F0 m pc ls (.ref (adC G 0 0) :: rest)) := by
  obtain ⟨hx, hb, hr, hlocks, hml, hown, hts, hK⟩ := E
  exact kr_get hx hb hts hown hK hP 0 0 (dm0 (by decide)) rfl rfl rfl inX7 3 (by decide) rfl hl rfl hdg kk
theorem gf_X7_plan (E : Cx p s m args meth c cc ret nL own G) (hP : PW G (AC G) (XC G ns) sz M s H) (hl : Cond.fieldLink own index RX7 "plan" "LPenStrike$FairPlan;" ∈ lw_all) (hdg : decode cc pc = .ok (.getfield index, 3))
    (kk : W p l e R s m args below meth c H locs cells slots Q (F0 m (pc + 3) ls (.ref (adC G 0 5) :: rest))) : W p l e R s m args below meth c H locs cells slots Q (F0 m pc ls (.ref (adC G 0 0) :: rest)) := by
  obtain ⟨hx, hb, hr, hlocks, hml, hown, hts, hK⟩ := E
  exact kr_get hx hb hts hown hK hP 0 0 (dm0 (by decide)) rfl rfl rfl inX7 4 (by decide) rfl hl rfl hdg kk
theorem gf_X7_route (E : Cx p s m args meth c cc ret nL own G) (hP : PW G (AC G) (XC G ns) sz M s H) (hl : Cond.fieldLink own index RX7 "route" "LPenStrike$Route;" ∈ lw_all) (hdg : decode cc pc = .ok (.getfield index, 3))
    (kk : W p l e R s m args below meth c H locs cells slots Q (F0 m (pc + 3) ls (.ref (adC G 0 8) :: rest))) : W p l e R s m args below meth c H locs cells slots Q (F0 m pc ls (.ref (adC G 0 0) :: rest)) := by
  obtain ⟨hx, hb, hr, hlocks, hml, hown, hts, hK⟩ := E
  exact kr_get hx hb hts hown hK hP 0 0 (dm0 (by decide)) rfl rfl rfl inX7 5 (by decide) rfl hl rfl hdg kk
theorem gf_X1_states (E : Cx p s m args meth c cc ret nL own G) (hP : PW G (AC G) (XC G ns) sz M s H) (hl : Cond.fieldLink own index RX1 "states" "[LPenStrike$Plotter;" ∈ lw_all) (hdg : decode cc pc = .ok (.getfield index, 3))
    (kk : W p l e R s m args below meth c H locs cells slots Q (F0 m (pc + 3) ls (.ref (adC G 0 2) :: rest))) : W p l e R s m args below meth c H locs cells slots Q (F0 m pc ls (.ref (adC G 0 1) :: rest)) := by
  obtain ⟨hx, hb, hr, hlocks, hml, hown, hts, hK⟩ := E
  exact kr_get hx hb hts hown hK hP 0 1 (dm0 (by decide)) rfl rfl rfl inX1 0 (by decide) rfl hl rfl hdg kk
theorem gf_X1_next (E : Cx p s m args meth c cc ret nL own G) (hP : PW G (AC G) (XC G ns) sz M s H) (hl : Cond.fieldLink own index RX1 "next" "I" ∈ lw_all) (hdg : decode cc pc = .ok (.getfield index, 3))
    (kk : W p l e R s m args below meth c H locs cells slots Q (F0 m (pc + 3) ls (.int (M 0 1 1) :: rest))) : W p l e R s m args below meth c H locs cells slots Q (F0 m pc ls (.ref (adC G 0 1) :: rest)) := by
  obtain ⟨hx, hb, hr, hlocks, hml, hown, hts, hK⟩ := E
  exact kr_get hx hb hts hown hK hP 0 1 (dm0 (by decide)) rfl rfl rfl inX1 1 (by decide) rfl hl rfl hdg kk
theorem pf_X1_next (E : Cx p s m args meth c cc ret nL own G) (hP : PW G (AC G) (XC G ns) sz M s H) (hS : va_S (AC G) H0 H locs) (hM1 : M1 = up3 M 0 1 1 v) (hl : Cond.fieldLink own index RX1 "next" "I" ∈ lw_all) (hdg : decode cc pc = .ok (.putfield index, 3))
    (kk : ∀ (H1 : Heap) (locs1 : List Loc), PW G (AC G) (XC G ns) sz M1 s H1 → va_S (AC G) H0 H1 locs1 → W p l e R s m args below meth c H1 locs1 cells slots Q (F0 m (pc + 3) ls (rest))) : W p l e R s m args below meth c H locs cells slots Q (F0 m pc ls (.int v :: .ref (adC G 0 1) :: rest)) := by
  obtain ⟨hx, hb, hr, hlocks, hml, hown, hts, hK⟩ := E
  exact kr_put hx hb hts hown hK hP hS 0 1 (dm0 (by decide)) rfl rfl rfl inX1 tyX1 tyX1_ok nmX1 1 (by decide) rfl hl rfl rfl (Nat.le_of_ble_eq_true rfl) rfl hM1 hdg kk
theorem gf_X1_many (E : Cx p s m args meth c cc ret nL own G) (hP : PW G (AC G) (XC G ns) sz M s H) (hl : Cond.fieldLink own index RX1 "many" "I" ∈ lw_all) (hdg : decode cc pc = .ok (.getfield index, 3))
    (kk : W p l e R s m args below meth c H locs cells slots Q (F0 m (pc + 3) ls (.int (M 0 1 2) :: rest))) : W p l e R s m args below meth c H locs cells slots Q (F0 m pc ls (.ref (adC G 0 1) :: rest)) := by
  obtain ⟨hx, hb, hr, hlocks, hml, hown, hts, hK⟩ := E
  exact kr_get hx hb hts hown hK hP 0 1 (dm0 (by decide)) rfl rfl rfl inX1 2 (by decide) rfl hl rfl hdg kk
theorem pf_X1_many (E : Cx p s m args meth c cc ret nL own G) (hP : PW G (AC G) (XC G ns) sz M s H) (hS : va_S (AC G) H0 H locs) (hM1 : M1 = up3 M 0 1 2 v) (hl : Cond.fieldLink own index RX1 "many" "I" ∈ lw_all) (hdg : decode cc pc = .ok (.putfield index, 3))
    (kk : ∀ (H1 : Heap) (locs1 : List Loc), PW G (AC G) (XC G ns) sz M1 s H1 → va_S (AC G) H0 H1 locs1 → W p l e R s m args below meth c H1 locs1 cells slots Q (F0 m (pc + 3) ls (rest))) : W p l e R s m args below meth c H locs cells slots Q (F0 m pc ls (.int v :: .ref (adC G 0 1) :: rest)) := by
  obtain ⟨hx, hb, hr, hlocks, hml, hown, hts, hK⟩ := E
  exact kr_put hx hb hts hown hK hP hS 0 1 (dm0 (by decide)) rfl rfl rfl inX1 tyX1 tyX1_ok nmX1 2 (by decide) rfl hl rfl rfl (Nat.le_of_ble_eq_true rfl) rfl hM1 hdg kk
theorem gf_X3_length (E : Cx p s m args meth c cc ret nL own G) (hP : PW G (AC G) (XC G ns) sz M s H) (hl : Cond.fieldLink own index RX3 "length" "I" ∈ lw_all) (hdg : decode cc pc = .ok (.getfield index, 3))
    (kk : W p l e R s m args below meth c H locs cells slots Q (F0 m (pc + 3) ls (.int (M 0 3 0) :: rest))) : W p l e R s m args below meth c H locs cells slots Q (F0 m pc ls (.ref (adC G 0 3) :: rest)) := by
  obtain ⟨hx, hb, hr, hlocks, hml, hown, hts, hK⟩ := E
  exact kr_get hx hb hts hown hK hP 0 3 (dm0 (by decide)) rfl rfl rfl inX3 0 (by decide) rfl hl rfl hdg kk
theorem pf_X3_length (E : Cx p s m args meth c cc ret nL own G) (hP : PW G (AC G) (XC G ns) sz M s H) (hS : va_S (AC G) H0 H locs) (hM1 : M1 = up3 M 0 3 0 v) (hl : Cond.fieldLink own index RX3 "length" "I" ∈ lw_all) (hdg : decode cc pc = .ok (.putfield index, 3))
    (kk : ∀ (H1 : Heap) (locs1 : List Loc), PW G (AC G) (XC G ns) sz M1 s H1 → va_S (AC G) H0 H1 locs1 → W p l e R s m args below meth c H1 locs1 cells slots Q (F0 m (pc + 3) ls (rest))) : W p l e R s m args below meth c H locs cells slots Q (F0 m pc ls (.int v :: .ref (adC G 0 3) :: rest)) := by
  obtain ⟨hx, hb, hr, hlocks, hml, hown, hts, hK⟩ := E
  exact kr_put hx hb hts hown hK hP hS 0 3 (dm0 (by decide)) rfl rfl rfl inX3 tyX3 tyX3_ok nmX3 0 (by decide) rfl hl rfl rfl (Nat.le_of_ble_eq_true rfl) rfl hM1 hdg kk
theorem gf_X3_signs (E : Cx p s m args meth c cc ret nL own G) (hP : PW G (AC G) (XC G ns) sz M s H) (hl : Cond.fieldLink own index RX3 "signs" "[I" ∈ lw_all) (hdg : decode cc pc = .ok (.getfield index, 3))
    (kk : W p l e R s m args below meth c H locs cells slots Q (F0 m (pc + 3) ls (.ref (adC G 0 4) :: rest))) : W p l e R s m args below meth c H locs cells slots Q (F0 m pc ls (.ref (adC G 0 3) :: rest)) := by
  obtain ⟨hx, hb, hr, hlocks, hml, hown, hts, hK⟩ := E
  exact kr_get hx hb hts hown hK hP 0 3 (dm0 (by decide)) rfl rfl rfl inX3 1 (by decide) rfl hl rfl hdg kk
theorem gf_X3_position (E : Cx p s m args meth c cc ret nL own G) (hP : PW G (AC G) (XC G ns) sz M s H) (hl : Cond.fieldLink own index RX3 "position" "I" ∈ lw_all) (hdg : decode cc pc = .ok (.getfield index, 3))
    (kk : W p l e R s m args below meth c H locs cells slots Q (F0 m (pc + 3) ls (.int (M 0 3 2) :: rest))) : W p l e R s m args below meth c H locs cells slots Q (F0 m pc ls (.ref (adC G 0 3) :: rest)) := by
  obtain ⟨hx, hb, hr, hlocks, hml, hown, hts, hK⟩ := E
  exact kr_get hx hb hts hown hK hP 0 3 (dm0 (by decide)) rfl rfl rfl inX3 2 (by decide) rfl hl rfl hdg kk
theorem pf_X3_position (E : Cx p s m args meth c cc ret nL own G) (hP : PW G (AC G) (XC G ns) sz M s H) (hS : va_S (AC G) H0 H locs) (hM1 : M1 = up3 M 0 3 2 v) (hl : Cond.fieldLink own index RX3 "position" "I" ∈ lw_all) (hdg : decode cc pc = .ok (.putfield index, 3))
    (kk : ∀ (H1 : Heap) (locs1 : List Loc), PW G (AC G) (XC G ns) sz M1 s H1 → va_S (AC G) H0 H1 locs1 → W p l e R s m args below meth c H1 locs1 cells slots Q (F0 m (pc + 3) ls (rest))) : W p l e R s m args below meth c H locs cells slots Q (F0 m pc ls (.int v :: .ref (adC G 0 3) :: rest)) := by
  obtain ⟨hx, hb, hr, hlocks, hml, hown, hts, hK⟩ := E
  exact kr_put hx hb hts hown hK hP hS 0 3 (dm0 (by decide)) rfl rfl rfl inX3 tyX3 tyX3_ok nmX3 2 (by decide) rfl hl rfl rfl (Nat.le_of_ble_eq_true rfl) rfl hM1 hdg kk
theorem gf_X3_reason (E : Cx p s m args meth c cc ret nL own G) (hP : PW G (AC G) (XC G ns) sz M s H) (hl : Cond.fieldLink own index RX3 "reason" "I" ∈ lw_all) (hdg : decode cc pc = .ok (.getfield index, 3))
    (kk : W p l e R s m args below meth c H locs cells slots Q (F0 m (pc + 3) ls (.int (M 0 3 3) :: rest))) : W p l e R s m args below meth c H locs cells slots Q (F0 m pc ls (.ref (adC G 0 3) :: rest)) := by
  obtain ⟨hx, hb, hr, hlocks, hml, hown, hts, hK⟩ := E
  exact kr_get hx hb hts hown hK hP 0 3 (dm0 (by decide)) rfl rfl rfl inX3 3 (by decide) rfl hl rfl hdg kk
theorem pf_X3_reason (E : Cx p s m args meth c cc ret nL own G) (hP : PW G (AC G) (XC G ns) sz M s H) (hS : va_S (AC G) H0 H locs) (hM1 : M1 = up3 M 0 3 3 v) (hl : Cond.fieldLink own index RX3 "reason" "I" ∈ lw_all) (hdg : decode cc pc = .ok (.putfield index, 3))
    (kk : ∀ (H1 : Heap) (locs1 : List Loc), PW G (AC G) (XC G ns) sz M1 s H1 → va_S (AC G) H0 H1 locs1 → W p l e R s m args below meth c H1 locs1 cells slots Q (F0 m (pc + 3) ls (rest))) : W p l e R s m args below meth c H locs cells slots Q (F0 m pc ls (.int v :: .ref (adC G 0 3) :: rest)) := by
  obtain ⟨hx, hb, hr, hlocks, hml, hown, hts, hK⟩ := E
  exact kr_put hx hb hts hown hK hP hS 0 3 (dm0 (by decide)) rfl rfl rfl inX3 tyX3 tyX3_ok nmX3 3 (by decide) rfl hl rfl rfl (Nat.le_of_ble_eq_true rfl) rfl hM1 hdg kk
theorem gf_X3_cause (E : Cx p s m args meth c cc ret nL own G) (hP : PW G (AC G) (XC G ns) sz M s H) (hl : Cond.fieldLink own index RX3 "cause" "I" ∈ lw_all) (hdg : decode cc pc = .ok (.getfield index, 3))
    (kk : W p l e R s m args below meth c H locs cells slots Q (F0 m (pc + 3) ls (.int (M 0 3 4) :: rest))) : W p l e R s m args below meth c H locs cells slots Q (F0 m pc ls (.ref (adC G 0 3) :: rest)) := by
  obtain ⟨hx, hb, hr, hlocks, hml, hown, hts, hK⟩ := E
  exact kr_get hx hb hts hown hK hP 0 3 (dm0 (by decide)) rfl rfl rfl inX3 4 (by decide) rfl hl rfl hdg kk
theorem pf_X3_cause (E : Cx p s m args meth c cc ret nL own G) (hP : PW G (AC G) (XC G ns) sz M s H) (hS : va_S (AC G) H0 H locs) (hM1 : M1 = up3 M 0 3 4 v) (hl : Cond.fieldLink own index RX3 "cause" "I" ∈ lw_all) (hdg : decode cc pc = .ok (.putfield index, 3))
    (kk : ∀ (H1 : Heap) (locs1 : List Loc), PW G (AC G) (XC G ns) sz M1 s H1 → va_S (AC G) H0 H1 locs1 → W p l e R s m args below meth c H1 locs1 cells slots Q (F0 m (pc + 3) ls (rest))) : W p l e R s m args below meth c H locs cells slots Q (F0 m pc ls (.int v :: .ref (adC G 0 3) :: rest)) := by
  obtain ⟨hx, hb, hr, hlocks, hml, hown, hts, hK⟩ := E
  exact kr_put hx hb hts hown hK hP hS 0 3 (dm0 (by decide)) rfl rfl rfl inX3 tyX3 tyX3_ok nmX3 4 (by decide) rfl hl rfl rfl (Nat.le_of_ble_eq_true rfl) rfl hM1 hdg kk
theorem la_C4 (E : Cx p s m args meth c cc ret nL own G) (hP : PW G (AC G) (XC G ns) sz M s H) (hi : ibd i 60 = true) (hdg : decode cc pc = .ok (.iaload, 1))
    (kk : W p l e R s m args below meth c H locs cells slots Q (F0 m (pc + 1) ls (.int (M 0 4 (ix i)) :: rest))) : W p l e R s m args below meth c H locs cells slots Q (F0 m pc ls (.int i :: .ref (adC G 0 4) :: rest)) := by
  obtain ⟨hx, hb, hr, hlocks, hml, hown, hts, hK⟩ := E
  exact kr_iald hx hb hK hP 0 4 (dm0 (by decide)) rfl (n := 60) (fun _ => rfl) hi hdg kk
theorem sa_C4 (E : Cx p s m args meth c cc ret nL own G) (hP : PW G (AC G) (XC G ns) sz M s H) (hS : va_S (AC G) H0 H locs) (hi : ibd i 60 = true) (hM1 : M1 = up3 M 0 4 (ix i) v) (hdg : decode cc pc = .ok (.iastore, 1))
    (kk : ∀ (H1 : Heap) (locs1 : List Loc), PW G (AC G) (XC G ns) sz M1 s H1 → va_S (AC G) H0 H1 locs1 → W p l e R s m args below meth c H1 locs1 cells slots Q (F0 m (pc + 1) ls (rest))) : W p l e R s m args below meth c H locs cells slots Q (F0 m pc ls (.int v :: .int i :: .ref (adC G 0 4) :: rest)) := by
  obtain ⟨hx, hb, hr, hlocks, hml, hown, hts, hK⟩ := E
  exact kr_iast hx hb hK hP hS 0 4 (dm0 (by decide)) rfl (n := 60) (fun _ => rfl) hi hM1 hdg kk
theorem gf_X0_penFor (E : Cx p s m args meth c cc ret nL own G) (hP : PW G (AC G) (XC G ns) sz M s H) (hl : Cond.fieldLink own index RX0 "penFor" "[I" ∈ lw_all) (hdg : decode cc pc = .ok (.getfield index, 3))
    (kk : W p l e R s m args below meth c H locs cells slots Q (F0 m (pc + 3) ls (.ref (adC G 0 6) :: rest))) : W p l e R s m args below meth c H locs cells slots Q (F0 m pc ls (.ref (adC G 0 5) :: rest)) := by
  obtain ⟨hx, hb, hr, hlocks, hml, hown, hts, hK⟩ := E
  exact kr_get hx hb hts hown hK hP 0 5 (dm0 (by decide)) rfl rfl rfl inX0 0 (by decide) rfl hl rfl hdg kk
theorem gf_X0_load (E : Cx p s m args meth c cc ret nL own G) (hP : PW G (AC G) (XC G ns) sz M s H) (hl : Cond.fieldLink own index RX0 "load" "[I" ∈ lw_all) (hdg : decode cc pc = .ok (.getfield index, 3))
    (kk : W p l e R s m args below meth c H locs cells slots Q (F0 m (pc + 3) ls (.ref (adC G 0 7) :: rest))) : W p l e R s m args below meth c H locs cells slots Q (F0 m pc ls (.ref (adC G 0 5) :: rest)) := by
  obtain ⟨hx, hb, hr, hlocks, hml, hown, hts, hK⟩ := E
  exact kr_get hx hb hts hown hK hP 0 5 (dm0 (by decide)) rfl rfl rfl inX0 1 (by decide) rfl hl rfl hdg kk
theorem la_C6 (E : Cx p s m args meth c cc ret nL own G) (hP : PW G (AC G) (XC G ns) sz M s H) (hi : ibd i 16 = true) (hdg : decode cc pc = .ok (.iaload, 1))
    (kk : W p l e R s m args below meth c H locs cells slots Q (F0 m (pc + 1) ls (.int (M 0 6 (ix i)) :: rest))) : W p l e R s m args below meth c H locs cells slots Q (F0 m pc ls (.int i :: .ref (adC G 0 6) :: rest)) := by
  obtain ⟨hx, hb, hr, hlocks, hml, hown, hts, hK⟩ := E
  exact kr_iald hx hb hK hP 0 6 (dm0 (by decide)) rfl (n := 16) (fun _ => rfl) hi hdg kk
theorem sa_C6 (E : Cx p s m args meth c cc ret nL own G) (hP : PW G (AC G) (XC G ns) sz M s H) (hS : va_S (AC G) H0 H locs) (hi : ibd i 16 = true) (hM1 : M1 = up3 M 0 6 (ix i) v) (hdg : decode cc pc = .ok (.iastore, 1))
    (kk : ∀ (H1 : Heap) (locs1 : List Loc), PW G (AC G) (XC G ns) sz M1 s H1 → va_S (AC G) H0 H1 locs1 → W p l e R s m args below meth c H1 locs1 cells slots Q (F0 m (pc + 1) ls (rest))) : W p l e R s m args below meth c H locs cells slots Q (F0 m pc ls (.int v :: .int i :: .ref (adC G 0 6) :: rest)) := by
  obtain ⟨hx, hb, hr, hlocks, hml, hown, hts, hK⟩ := E
  exact kr_iast hx hb hK hP hS 0 6 (dm0 (by decide)) rfl (n := 16) (fun _ => rfl) hi hM1 hdg kk
theorem la_C7 (E : Cx p s m args meth c cc ret nL own G) (hP : PW G (AC G) (XC G ns) sz M s H) (hi : ibd i 5 = true) (hdg : decode cc pc = .ok (.iaload, 1))
    (kk : W p l e R s m args below meth c H locs cells slots Q (F0 m (pc + 1) ls (.int (M 0 7 (ix i)) :: rest))) : W p l e R s m args below meth c H locs cells slots Q (F0 m pc ls (.int i :: .ref (adC G 0 7) :: rest)) := by
  obtain ⟨hx, hb, hr, hlocks, hml, hown, hts, hK⟩ := E
  exact kr_iald hx hb hK hP 0 7 (dm0 (by decide)) rfl (n := 5) (fun _ => rfl) hi hdg kk
theorem sa_C7 (E : Cx p s m args meth c cc ret nL own G) (hP : PW G (AC G) (XC G ns) sz M s H) (hS : va_S (AC G) H0 H locs) (hi : ibd i 5 = true) (hM1 : M1 = up3 M 0 7 (ix i) v) (hdg : decode cc pc = .ok (.iastore, 1))
    (kk : ∀ (H1 : Heap) (locs1 : List Loc), PW G (AC G) (XC G ns) sz M1 s H1 → va_S (AC G) H0 H1 locs1 → W p l e R s m args below meth c H1 locs1 cells slots Q (F0 m (pc + 1) ls (rest))) : W p l e R s m args below meth c H locs cells slots Q (F0 m pc ls (.int v :: .int i :: .ref (adC G 0 7) :: rest)) := by
  obtain ⟨hx, hb, hr, hlocks, hml, hown, hts, hK⟩ := E
  exact kr_iast hx hb hK hP hS 0 7 (dm0 (by decide)) rfl (n := 5) (fun _ => rfl) hi hM1 hdg kk
theorem gf_X6_many (E : Cx p s m args meth c cc ret nL own G) (hP : PW G (AC G) (XC G ns) sz M s H) (hl : Cond.fieldLink own index RX6 "many" "I" ∈ lw_all) (hdg : decode cc pc = .ok (.getfield index, 3))
    (kk : W p l e R s m args below meth c H locs cells slots Q (F0 m (pc + 3) ls (.int (M 0 8 0) :: rest))) : W p l e R s m args below meth c H locs cells slots Q (F0 m pc ls (.ref (adC G 0 8) :: rest)) := by
  obtain ⟨hx, hb, hr, hlocks, hml, hown, hts, hK⟩ := E
  exact kr_get hx hb hts hown hK hP 0 8 (dm0 (by decide)) rfl rfl rfl inX6 0 (by decide) rfl hl rfl hdg kk
theorem pf_X6_many (E : Cx p s m args meth c cc ret nL own G) (hP : PW G (AC G) (XC G ns) sz M s H) (hS : va_S (AC G) H0 H locs) (hM1 : M1 = up3 M 0 8 0 v) (hl : Cond.fieldLink own index RX6 "many" "I" ∈ lw_all) (hdg : decode cc pc = .ok (.putfield index, 3))
    (kk : ∀ (H1 : Heap) (locs1 : List Loc), PW G (AC G) (XC G ns) sz M1 s H1 → va_S (AC G) H0 H1 locs1 → W p l e R s m args below meth c H1 locs1 cells slots Q (F0 m (pc + 3) ls (rest))) : W p l e R s m args below meth c H locs cells slots Q (F0 m pc ls (.int v :: .ref (adC G 0 8) :: rest)) := by
  obtain ⟨hx, hb, hr, hlocks, hml, hown, hts, hK⟩ := E
  exact kr_put hx hb hts hown hK hP hS 0 8 (dm0 (by decide)) rfl rfl rfl inX6 tyX6 tyX6_ok nmX6 0 (by decide) rfl hl rfl rfl (Nat.le_of_ble_eq_true rfl) rfl hM1 hdg kk
theorem gf_X6_line (E : Cx p s m args meth c cc ret nL own G) (hP : PW G (AC G) (XC G ns) sz M s H) (hl : Cond.fieldLink own index RX6 "line" "[I" ∈ lw_all) (hdg : decode cc pc = .ok (.getfield index, 3))
    (kk : W p l e R s m args below meth c H locs cells slots Q (F0 m (pc + 3) ls (.ref (adC G 0 9) :: rest))) : W p l e R s m args below meth c H locs cells slots Q (F0 m pc ls (.ref (adC G 0 8) :: rest)) := by
  obtain ⟨hx, hb, hr, hlocks, hml, hown, hts, hK⟩ := E
  exact kr_get hx hb hts hown hK hP 0 8 (dm0 (by decide)) rfl rfl rfl inX6 1 (by decide) rfl hl rfl hdg kk
theorem gf_X6_way (E : Cx p s m args meth c cc ret nL own G) (hP : PW G (AC G) (XC G ns) sz M s H) (hl : Cond.fieldLink own index RX6 "way" "[I" ∈ lw_all) (hdg : decode cc pc = .ok (.getfield index, 3))
    (kk : W p l e R s m args below meth c H locs cells slots Q (F0 m (pc + 3) ls (.ref (adC G 0 10) :: rest))) : W p l e R s m args below meth c H locs cells slots Q (F0 m pc ls (.ref (adC G 0 8) :: rest)) := by
  obtain ⟨hx, hb, hr, hlocks, hml, hown, hts, hK⟩ := E
  exact kr_get hx hb hts hown hK hP 0 8 (dm0 (by decide)) rfl rfl rfl inX6 2 (by decide) rfl hl rfl hdg kk
theorem gf_X6_ticks (E : Cx p s m args meth c cc ret nL own G) (hP : PW G (AC G) (XC G ns) sz M s H) (hl : Cond.fieldLink own index RX6 "ticks" "[I" ∈ lw_all) (hdg : decode cc pc = .ok (.getfield index, 3))
    (kk : W p l e R s m args below meth c H locs cells slots Q (F0 m (pc + 3) ls (.ref (adC G 0 11) :: rest))) : W p l e R s m args below meth c H locs cells slots Q (F0 m pc ls (.ref (adC G 0 8) :: rest)) := by
  obtain ⟨hx, hb, hr, hlocks, hml, hown, hts, hK⟩ := E
  exact kr_get hx hb hts hown hK hP 0 8 (dm0 (by decide)) rfl rfl rfl inX6 3 (by decide) rfl hl rfl hdg kk
theorem gf_X6_isOnIt (E : Cx p s m args meth c cc ret nL own G) (hP : PW G (AC G) (XC G ns) sz M s H) (hl : Cond.fieldLink own index RX6 "isOnIt" "[Z" ∈ lw_all) (hdg : decode cc pc = .ok (.getfield index, 3))
    (kk : W p l e R s m args below meth c H locs cells slots Q (F0 m (pc + 3) ls (.ref (adC G 0 12) :: rest))) : W p l e R s m args below meth c H locs cells slots Q (F0 m pc ls (.ref (adC G 0 8) :: rest)) := by
  obtain ⟨hx, hb, hr, hlocks, hml, hown, hts, hK⟩ := E
  exact kr_get hx hb hts hown hK hP 0 8 (dm0 (by decide)) rfl rfl rfl inX6 4 (by decide) rfl hl rfl hdg kk
theorem gf_X6_x (E : Cx p s m args meth c cc ret nL own G) (hP : PW G (AC G) (XC G ns) sz M s H) (hl : Cond.fieldLink own index RX6 "x" "I" ∈ lw_all) (hdg : decode cc pc = .ok (.getfield index, 3))
    (kk : W p l e R s m args below meth c H locs cells slots Q (F0 m (pc + 3) ls (.int (M 0 8 5) :: rest))) : W p l e R s m args below meth c H locs cells slots Q (F0 m pc ls (.ref (adC G 0 8) :: rest)) := by
  obtain ⟨hx, hb, hr, hlocks, hml, hown, hts, hK⟩ := E
  exact kr_get hx hb hts hown hK hP 0 8 (dm0 (by decide)) rfl rfl rfl inX6 5 (by decide) rfl hl rfl hdg kk
theorem pf_X6_x (E : Cx p s m args meth c cc ret nL own G) (hP : PW G (AC G) (XC G ns) sz M s H) (hS : va_S (AC G) H0 H locs) (hM1 : M1 = up3 M 0 8 5 v) (hl : Cond.fieldLink own index RX6 "x" "I" ∈ lw_all) (hdg : decode cc pc = .ok (.putfield index, 3))
    (kk : ∀ (H1 : Heap) (locs1 : List Loc), PW G (AC G) (XC G ns) sz M1 s H1 → va_S (AC G) H0 H1 locs1 → W p l e R s m args below meth c H1 locs1 cells slots Q (F0 m (pc + 3) ls (rest))) : W p l e R s m args below meth c H locs cells slots Q (F0 m pc ls (.int v :: .ref (adC G 0 8) :: rest)) := by
  obtain ⟨hx, hb, hr, hlocks, hml, hown, hts, hK⟩ := E
  exact kr_put hx hb hts hown hK hP hS 0 8 (dm0 (by decide)) rfl rfl rfl inX6 tyX6 tyX6_ok nmX6 5 (by decide) rfl hl rfl rfl (Nat.le_of_ble_eq_true rfl) rfl hM1 hdg kk
theorem gf_X6_y (E : Cx p s m args meth c cc ret nL own G) (hP : PW G (AC G) (XC G ns) sz M s H) (hl : Cond.fieldLink own index RX6 "y" "I" ∈ lw_all) (hdg : decode cc pc = .ok (.getfield index, 3))
    (kk : W p l e R s m args below meth c H locs cells slots Q (F0 m (pc + 3) ls (.int (M 0 8 6) :: rest))) : W p l e R s m args below meth c H locs cells slots Q (F0 m pc ls (.ref (adC G 0 8) :: rest)) := by
  obtain ⟨hx, hb, hr, hlocks, hml, hown, hts, hK⟩ := E
  exact kr_get hx hb hts hown hK hP 0 8 (dm0 (by decide)) rfl rfl rfl inX6 6 (by decide) rfl hl rfl hdg kk
theorem pf_X6_y (E : Cx p s m args meth c cc ret nL own G) (hP : PW G (AC G) (XC G ns) sz M s H) (hS : va_S (AC G) H0 H locs) (hM1 : M1 = up3 M 0 8 6 v) (hl : Cond.fieldLink own index RX6 "y" "I" ∈ lw_all) (hdg : decode cc pc = .ok (.putfield index, 3))
    (kk : ∀ (H1 : Heap) (locs1 : List Loc), PW G (AC G) (XC G ns) sz M1 s H1 → va_S (AC G) H0 H1 locs1 → W p l e R s m args below meth c H1 locs1 cells slots Q (F0 m (pc + 3) ls (rest))) : W p l e R s m args below meth c H locs cells slots Q (F0 m pc ls (.int v :: .ref (adC G 0 8) :: rest)) := by
  obtain ⟨hx, hb, hr, hlocks, hml, hown, hts, hK⟩ := E
  exact kr_put hx hb hts hown hK hP hS 0 8 (dm0 (by decide)) rfl rfl rfl inX6 tyX6 tyX6_ok nmX6 6 (by decide) rfl hl rfl rfl (Nat.le_of_ble_eq_true rfl) rfl hM1 hdg kk
theorem la_C9 (E : Cx p s m args meth c cc ret nL own G) (hP : PW G (AC G) (XC G ns) sz M s H) (hi : ibd i 16 = true) (hdg : decode cc pc = .ok (.iaload, 1))
    (kk : W p l e R s m args below meth c H locs cells slots Q (F0 m (pc + 1) ls (.int (M 0 9 (ix i)) :: rest))) : W p l e R s m args below meth c H locs cells slots Q (F0 m pc ls (.int i :: .ref (adC G 0 9) :: rest)) := by
  obtain ⟨hx, hb, hr, hlocks, hml, hown, hts, hK⟩ := E
  exact kr_iald hx hb hK hP 0 9 (dm0 (by decide)) rfl (n := 16) (fun _ => rfl) hi hdg kk
theorem sa_C9 (E : Cx p s m args meth c cc ret nL own G) (hP : PW G (AC G) (XC G ns) sz M s H) (hS : va_S (AC G) H0 H locs) (hi : ibd i 16 = true) (hM1 : M1 = up3 M 0 9 (ix i) v) (hdg : decode cc pc = .ok (.iastore, 1))
    (kk : ∀ (H1 : Heap) (locs1 : List Loc), PW G (AC G) (XC G ns) sz M1 s H1 → va_S (AC G) H0 H1 locs1 → W p l e R s m args below meth c H1 locs1 cells slots Q (F0 m (pc + 1) ls (rest))) : W p l e R s m args below meth c H locs cells slots Q (F0 m pc ls (.int v :: .int i :: .ref (adC G 0 9) :: rest)) := by
  obtain ⟨hx, hb, hr, hlocks, hml, hown, hts, hK⟩ := E
  exact kr_iast hx hb hK hP hS 0 9 (dm0 (by decide)) rfl (n := 16) (fun _ => rfl) hi hM1 hdg kk
theorem la_C10 (E : Cx p s m args meth c cc ret nL own G) (hP : PW G (AC G) (XC G ns) sz M s H) (hi : ibd i 16 = true) (hdg : decode cc pc = .ok (.iaload, 1))
    (kk : W p l e R s m args below meth c H locs cells slots Q (F0 m (pc + 1) ls (.int (M 0 10 (ix i)) :: rest))) : W p l e R s m args below meth c H locs cells slots Q (F0 m pc ls (.int i :: .ref (adC G 0 10) :: rest)) := by
  obtain ⟨hx, hb, hr, hlocks, hml, hown, hts, hK⟩ := E
  exact kr_iald hx hb hK hP 0 10 (dm0 (by decide)) rfl (n := 16) (fun _ => rfl) hi hdg kk
theorem sa_C10 (E : Cx p s m args meth c cc ret nL own G) (hP : PW G (AC G) (XC G ns) sz M s H) (hS : va_S (AC G) H0 H locs) (hi : ibd i 16 = true) (hM1 : M1 = up3 M 0 10 (ix i) v) (hdg : decode cc pc = .ok (.iastore, 1))
    (kk : ∀ (H1 : Heap) (locs1 : List Loc), PW G (AC G) (XC G ns) sz M1 s H1 → va_S (AC G) H0 H1 locs1 → W p l e R s m args below meth c H1 locs1 cells slots Q (F0 m (pc + 1) ls (rest))) : W p l e R s m args below meth c H locs cells slots Q (F0 m pc ls (.int v :: .int i :: .ref (adC G 0 10) :: rest)) := by
  obtain ⟨hx, hb, hr, hlocks, hml, hown, hts, hK⟩ := E
  exact kr_iast hx hb hK hP hS 0 10 (dm0 (by decide)) rfl (n := 16) (fun _ => rfl) hi hM1 hdg kk
theorem la_C11 (E : Cx p s m args meth c cc ret nL own G) (hP : PW G (AC G) (XC G ns) sz M s H) (hi : ibd i 16 = true) (hdg : decode cc pc = .ok (.iaload, 1))
    (kk : W p l e R s m args below meth c H locs cells slots Q (F0 m (pc + 1) ls (.int (M 0 11 (ix i)) :: rest))) : W p l e R s m args below meth c H locs cells slots Q (F0 m pc ls (.int i :: .ref (adC G 0 11) :: rest)) := by
  obtain ⟨hx, hb, hr, hlocks, hml, hown, hts, hK⟩ := E
  exact kr_iald hx hb hK hP 0 11 (dm0 (by decide)) rfl (n := 16) (fun _ => rfl) hi hdg kk
theorem sa_C11 (E : Cx p s m args meth c cc ret nL own G) (hP : PW G (AC G) (XC G ns) sz M s H) (hS : va_S (AC G) H0 H locs) (hi : ibd i 16 = true) (hM1 : M1 = up3 M 0 11 (ix i) v) (hdg : decode cc pc = .ok (.iastore, 1))
    (kk : ∀ (H1 : Heap) (locs1 : List Loc), PW G (AC G) (XC G ns) sz M1 s H1 → va_S (AC G) H0 H1 locs1 → W p l e R s m args below meth c H1 locs1 cells slots Q (F0 m (pc + 1) ls (rest))) : W p l e R s m args below meth c H locs cells slots Q (F0 m pc ls (.int v :: .int i :: .ref (adC G 0 11) :: rest)) := by
  obtain ⟨hx, hb, hr, hlocks, hml, hown, hts, hK⟩ := E
  exact kr_iast hx hb hK hP hS 0 11 (dm0 (by decide)) rfl (n := 16) (fun _ => rfl) hi hM1 hdg kk
theorem la_C12 (E : Cx p s m args meth c cc ret nL own G) (hP : PW G (AC G) (XC G ns) sz M s H) (hi : ibd i 16 = true) (hdg : decode cc pc = .ok (.baload, 1))
    (kk : W p l e R s m args below meth c H locs cells slots Q (F0 m (pc + 1) ls (.int (M 0 12 (ix i)) :: rest))) : W p l e R s m args below meth c H locs cells slots Q (F0 m pc ls (.int i :: .ref (adC G 0 12) :: rest)) := by
  obtain ⟨hx, hb, hr, hlocks, hml, hown, hts, hK⟩ := E
  exact kr_zald hx hb hK hP 0 12 (dm0 (by decide)) rfl (n := 16) (fun _ => rfl) hi hdg kk
theorem sa_C12 (E : Cx p s m args meth c cc ret nL own G) (hP : PW G (AC G) (XC G ns) sz M s H) (hS : va_S (AC G) H0 H locs) (hi : ibd i 16 = true) (hM1 : M1 = up3 M 0 12 (ix i) (vp_nar .boolean v)) (hdg : decode cc pc = .ok (.bastore, 1))
    (kk : ∀ (H1 : Heap) (locs1 : List Loc), PW G (AC G) (XC G ns) sz M1 s H1 → va_S (AC G) H0 H1 locs1 → W p l e R s m args below meth c H1 locs1 cells slots Q (F0 m (pc + 1) ls (rest))) : W p l e R s m args below meth c H locs cells slots Q (F0 m pc ls (.int v :: .int i :: .ref (adC G 0 12) :: rest)) := by
  obtain ⟨hx, hb, hr, hlocks, hml, hown, hts, hK⟩ := E
  exact kr_zast hx hb hK hP hS 0 12 (dm0 (by decide)) rfl (n := 16) (fun _ => rfl) hi hM1 hdg kk
theorem gf_X5_settings (E : Cx p s m args meth c cc ret nL own G) (hP : PW G (AC G) (XC G ns) sz M s H) (hg : pg ns g) (hl : Cond.fieldLink own index RX5 "settings" "[I" ∈ lw_all) (hdg : decode cc pc = .ok (.getfield index, 3))
    (kk : W p l e R s m args below meth c H locs cells slots Q (F0 m (pc + 3) ls (.ref (adC G g 1) :: rest))) : W p l e R s m args below meth c H locs cells slots Q (F0 m pc ls (.ref (adC G g 0) :: rest)) := by
  obtain ⟨g0, rfl⟩ := pg_s hg
  obtain ⟨hx, hb, hr, hlocks, hml, hown, hts, hK⟩ := E
  exact kr_get hx hb hts hown hK hP (g0 + 1) 0 (dmP hg (by decide)) rfl rfl rfl inX5 0 (by decide) rfl hl rfl hdg kk
theorem gf_X5_pens (E : Cx p s m args meth c cc ret nL own G) (hP : PW G (AC G) (XC G ns) sz M s H) (hg : pg ns g) (hl : Cond.fieldLink own index RX5 "pens" "LPenStrike$Pens;" ∈ lw_all) (hdg : decode cc pc = .ok (.getfield index, 3))
    (kk : W p l e R s m args below meth c H locs cells slots Q (F0 m (pc + 3) ls (.ref (adC G g 2) :: rest))) : W p l e R s m args below meth c H locs cells slots Q (F0 m pc ls (.ref (adC G g 0) :: rest)) := by
  obtain ⟨g0, rfl⟩ := pg_s hg
  obtain ⟨hx, hb, hr, hlocks, hml, hown, hts, hK⟩ := E
  exact kr_get hx hb hts hown hK hP (g0 + 1) 0 (dmP hg (by decide)) rfl rfl rfl inX5 1 (by decide) rfl hl rfl hdg kk
theorem gf_X5_lines (E : Cx p s m args meth c cc ret nL own G) (hP : PW G (AC G) (XC G ns) sz M s H) (hg : pg ns g) (hl : Cond.fieldLink own index RX5 "lines" "LPenStrike$Lines;" ∈ lw_all) (hdg : decode cc pc = .ok (.getfield index, 3))
    (kk : W p l e R s m args below meth c H locs cells slots Q (F0 m (pc + 3) ls (.ref (adC G g 10) :: rest))) : W p l e R s m args below meth c H locs cells slots Q (F0 m pc ls (.ref (adC G g 0) :: rest)) := by
  obtain ⟨g0, rfl⟩ := pg_s hg
  obtain ⟨hx, hb, hr, hlocks, hml, hown, hts, hK⟩ := E
  exact kr_get hx hb hts hown hK hP (g0 + 1) 0 (dmP hg (by decide)) rfl rfl rfl inX5 2 (by decide) rfl hl rfl hdg kk
theorem gf_X5_time (E : Cx p s m args meth c cc ret nL own G) (hP : PW G (AC G) (XC G ns) sz M s H) (hg : pg ns g) (hl : Cond.fieldLink own index RX5 "time" "I" ∈ lw_all) (hdg : decode cc pc = .ok (.getfield index, 3))
    (kk : W p l e R s m args below meth c H locs cells slots Q (F0 m (pc + 3) ls (.int (M g 0 3) :: rest))) : W p l e R s m args below meth c H locs cells slots Q (F0 m pc ls (.ref (adC G g 0) :: rest)) := by
  obtain ⟨g0, rfl⟩ := pg_s hg
  obtain ⟨hx, hb, hr, hlocks, hml, hown, hts, hK⟩ := E
  exact kr_get hx hb hts hown hK hP (g0 + 1) 0 (dmP hg (by decide)) rfl rfl rfl inX5 3 (by decide) rfl hl rfl hdg kk
theorem pf_X5_time (E : Cx p s m args meth c cc ret nL own G) (hP : PW G (AC G) (XC G ns) sz M s H) (hS : va_S (AC G) H0 H locs) (hg : pg ns g) (hM1 : M1 = up3 M g 0 3 v) (hl : Cond.fieldLink own index RX5 "time" "I" ∈ lw_all) (hdg : decode cc pc = .ok (.putfield index, 3))
    (kk : ∀ (H1 : Heap) (locs1 : List Loc), PW G (AC G) (XC G ns) sz M1 s H1 → va_S (AC G) H0 H1 locs1 → W p l e R s m args below meth c H1 locs1 cells slots Q (F0 m (pc + 3) ls (rest))) : W p l e R s m args below meth c H locs cells slots Q (F0 m pc ls (.int v :: .ref (adC G g 0) :: rest)) := by
  obtain ⟨g0, rfl⟩ := pg_s hg
  obtain ⟨hx, hb, hr, hlocks, hml, hown, hts, hK⟩ := E
  exact kr_put hx hb hts hown hK hP hS (g0 + 1) 0 (dmP hg (by decide)) rfl rfl rfl inX5 tyX5 tyX5_ok nmX5 3 (by decide) rfl hl rfl rfl (Nat.le_of_ble_eq_true rfl) rfl hM1 hdg kk
theorem gf_X5_hand (E : Cx p s m args meth c cc ret nL own G) (hP : PW G (AC G) (XC G ns) sz M s H) (hg : pg ns g) (hl : Cond.fieldLink own index RX5 "hand" "I" ∈ lw_all) (hdg : decode cc pc = .ok (.getfield index, 3))
    (kk : W p l e R s m args below meth c H locs cells slots Q (F0 m (pc + 3) ls (.int (M g 0 4) :: rest))) : W p l e R s m args below meth c H locs cells slots Q (F0 m pc ls (.ref (adC G g 0) :: rest)) := by
  obtain ⟨g0, rfl⟩ := pg_s hg
  obtain ⟨hx, hb, hr, hlocks, hml, hown, hts, hK⟩ := E
  exact kr_get hx hb hts hown hK hP (g0 + 1) 0 (dmP hg (by decide)) rfl rfl rfl inX5 4 (by decide) rfl hl rfl hdg kk
theorem pf_X5_hand (E : Cx p s m args meth c cc ret nL own G) (hP : PW G (AC G) (XC G ns) sz M s H) (hS : va_S (AC G) H0 H locs) (hg : pg ns g) (hM1 : M1 = up3 M g 0 4 v) (hl : Cond.fieldLink own index RX5 "hand" "I" ∈ lw_all) (hdg : decode cc pc = .ok (.putfield index, 3))
    (kk : ∀ (H1 : Heap) (locs1 : List Loc), PW G (AC G) (XC G ns) sz M1 s H1 → va_S (AC G) H0 H1 locs1 → W p l e R s m args below meth c H1 locs1 cells slots Q (F0 m (pc + 3) ls (rest))) : W p l e R s m args below meth c H locs cells slots Q (F0 m pc ls (.int v :: .ref (adC G g 0) :: rest)) := by
  obtain ⟨g0, rfl⟩ := pg_s hg
  obtain ⟨hx, hb, hr, hlocks, hml, hown, hts, hK⟩ := E
  exact kr_put hx hb hts hown hK hP hS (g0 + 1) 0 (dmP hg (by decide)) rfl rfl rfl inX5 tyX5 tyX5_ok nmX5 4 (by decide) rfl hl rfl rfl (Nat.le_of_ble_eq_true rfl) rfl hM1 hdg kk
theorem gf_X5_x (E : Cx p s m args meth c cc ret nL own G) (hP : PW G (AC G) (XC G ns) sz M s H) (hg : pg ns g) (hl : Cond.fieldLink own index RX5 "x" "I" ∈ lw_all) (hdg : decode cc pc = .ok (.getfield index, 3))
    (kk : W p l e R s m args below meth c H locs cells slots Q (F0 m (pc + 3) ls (.int (M g 0 5) :: rest))) : W p l e R s m args below meth c H locs cells slots Q (F0 m pc ls (.ref (adC G g 0) :: rest)) := by
  obtain ⟨g0, rfl⟩ := pg_s hg
  obtain ⟨hx, hb, hr, hlocks, hml, hown, hts, hK⟩ := E
  exact kr_get hx hb hts hown hK hP (g0 + 1) 0 (dmP hg (by decide)) rfl rfl rfl inX5 5 (by decide) rfl hl rfl hdg kk
theorem pf_X5_x (E : Cx p s m args meth c cc ret nL own G) (hP : PW G (AC G) (XC G ns) sz M s H) (hS : va_S (AC G) H0 H locs) (hg : pg ns g) (hM1 : M1 = up3 M g 0 5 v) (hl : Cond.fieldLink own index RX5 "x" "I" ∈ lw_all) (hdg : decode cc pc = .ok (.putfield index, 3))
    (kk : ∀ (H1 : Heap) (locs1 : List Loc), PW G (AC G) (XC G ns) sz M1 s H1 → va_S (AC G) H0 H1 locs1 → W p l e R s m args below meth c H1 locs1 cells slots Q (F0 m (pc + 3) ls (rest))) : W p l e R s m args below meth c H locs cells slots Q (F0 m pc ls (.int v :: .ref (adC G g 0) :: rest)) := by
  obtain ⟨g0, rfl⟩ := pg_s hg
  obtain ⟨hx, hb, hr, hlocks, hml, hown, hts, hK⟩ := E
  exact kr_put hx hb hts hown hK hP hS (g0 + 1) 0 (dmP hg (by decide)) rfl rfl rfl inX5 tyX5 tyX5_ok nmX5 5 (by decide) rfl hl rfl rfl (Nat.le_of_ble_eq_true rfl) rfl hM1 hdg kk
theorem gf_X5_y (E : Cx p s m args meth c cc ret nL own G) (hP : PW G (AC G) (XC G ns) sz M s H) (hg : pg ns g) (hl : Cond.fieldLink own index RX5 "y" "I" ∈ lw_all) (hdg : decode cc pc = .ok (.getfield index, 3))
    (kk : W p l e R s m args below meth c H locs cells slots Q (F0 m (pc + 3) ls (.int (M g 0 6) :: rest))) : W p l e R s m args below meth c H locs cells slots Q (F0 m pc ls (.ref (adC G g 0) :: rest)) := by
  obtain ⟨g0, rfl⟩ := pg_s hg
  obtain ⟨hx, hb, hr, hlocks, hml, hown, hts, hK⟩ := E
  exact kr_get hx hb hts hown hK hP (g0 + 1) 0 (dmP hg (by decide)) rfl rfl rfl inX5 6 (by decide) rfl hl rfl hdg kk
theorem pf_X5_y (E : Cx p s m args meth c cc ret nL own G) (hP : PW G (AC G) (XC G ns) sz M s H) (hS : va_S (AC G) H0 H locs) (hg : pg ns g) (hM1 : M1 = up3 M g 0 6 v) (hl : Cond.fieldLink own index RX5 "y" "I" ∈ lw_all) (hdg : decode cc pc = .ok (.putfield index, 3))
    (kk : ∀ (H1 : Heap) (locs1 : List Loc), PW G (AC G) (XC G ns) sz M1 s H1 → va_S (AC G) H0 H1 locs1 → W p l e R s m args below meth c H1 locs1 cells slots Q (F0 m (pc + 3) ls (rest))) : W p l e R s m args below meth c H locs cells slots Q (F0 m pc ls (.int v :: .ref (adC G g 0) :: rest)) := by
  obtain ⟨g0, rfl⟩ := pg_s hg
  obtain ⟨hx, hb, hr, hlocks, hml, hown, hts, hK⟩ := E
  exact kr_put hx hb hts hown hK hP hS (g0 + 1) 0 (dmP hg (by decide)) rfl rfl rfl inX5 tyX5 tyX5_ok nmX5 6 (by decide) rfl hl rfl rfl (Nat.le_of_ble_eq_true rfl) rfl hM1 hdg kk
theorem gf_X5_swaps (E : Cx p s m args meth c cc ret nL own G) (hP : PW G (AC G) (XC G ns) sz M s H) (hg : pg ns g) (hl : Cond.fieldLink own index RX5 "swaps" "I" ∈ lw_all) (hdg : decode cc pc = .ok (.getfield index, 3))
    (kk : W p l e R s m args below meth c H locs cells slots Q (F0 m (pc + 3) ls (.int (M g 0 7) :: rest))) : W p l e R s m args below meth c H locs cells slots Q (F0 m pc ls (.ref (adC G g 0) :: rest)) := by
  obtain ⟨g0, rfl⟩ := pg_s hg
  obtain ⟨hx, hb, hr, hlocks, hml, hown, hts, hK⟩ := E
  exact kr_get hx hb hts hown hK hP (g0 + 1) 0 (dmP hg (by decide)) rfl rfl rfl inX5 7 (by decide) rfl hl rfl hdg kk
theorem pf_X5_swaps (E : Cx p s m args meth c cc ret nL own G) (hP : PW G (AC G) (XC G ns) sz M s H) (hS : va_S (AC G) H0 H locs) (hg : pg ns g) (hM1 : M1 = up3 M g 0 7 v) (hl : Cond.fieldLink own index RX5 "swaps" "I" ∈ lw_all) (hdg : decode cc pc = .ok (.putfield index, 3))
    (kk : ∀ (H1 : Heap) (locs1 : List Loc), PW G (AC G) (XC G ns) sz M1 s H1 → va_S (AC G) H0 H1 locs1 → W p l e R s m args below meth c H1 locs1 cells slots Q (F0 m (pc + 3) ls (rest))) : W p l e R s m args below meth c H locs cells slots Q (F0 m pc ls (.int v :: .ref (adC G g 0) :: rest)) := by
  obtain ⟨g0, rfl⟩ := pg_s hg
  obtain ⟨hx, hb, hr, hlocks, hml, hown, hts, hK⟩ := E
  exact kr_put hx hb hts hown hK hP hS (g0 + 1) 0 (dmP hg (by decide)) rfl rfl rfl inX5 tyX5 tyX5_ok nmX5 7 (by decide) rfl hl rfl rfl (Nat.le_of_ble_eq_true rfl) rfl hM1 hdg kk
theorem gf_X5_travelled (E : Cx p s m args meth c cc ret nL own G) (hP : PW G (AC G) (XC G ns) sz M s H) (hg : pg ns g) (hl : Cond.fieldLink own index RX5 "travelled" "I" ∈ lw_all) (hdg : decode cc pc = .ok (.getfield index, 3))
    (kk : W p l e R s m args below meth c H locs cells slots Q (F0 m (pc + 3) ls (.int (M g 0 8) :: rest))) : W p l e R s m args below meth c H locs cells slots Q (F0 m pc ls (.ref (adC G g 0) :: rest)) := by
  obtain ⟨g0, rfl⟩ := pg_s hg
  obtain ⟨hx, hb, hr, hlocks, hml, hown, hts, hK⟩ := E
  exact kr_get hx hb hts hown hK hP (g0 + 1) 0 (dmP hg (by decide)) rfl rfl rfl inX5 8 (by decide) rfl hl rfl hdg kk
theorem pf_X5_travelled (E : Cx p s m args meth c cc ret nL own G) (hP : PW G (AC G) (XC G ns) sz M s H) (hS : va_S (AC G) H0 H locs) (hg : pg ns g) (hM1 : M1 = up3 M g 0 8 v) (hl : Cond.fieldLink own index RX5 "travelled" "I" ∈ lw_all) (hdg : decode cc pc = .ok (.putfield index, 3))
    (kk : ∀ (H1 : Heap) (locs1 : List Loc), PW G (AC G) (XC G ns) sz M1 s H1 → va_S (AC G) H0 H1 locs1 → W p l e R s m args below meth c H1 locs1 cells slots Q (F0 m (pc + 3) ls (rest))) : W p l e R s m args below meth c H locs cells slots Q (F0 m pc ls (.int v :: .ref (adC G g 0) :: rest)) := by
  obtain ⟨g0, rfl⟩ := pg_s hg
  obtain ⟨hx, hb, hr, hlocks, hml, hown, hts, hK⟩ := E
  exact kr_put hx hb hts hown hK hP hS (g0 + 1) 0 (dmP hg (by decide)) rfl rfl rfl inX5 tyX5 tyX5_ok nmX5 8 (by decide) rfl hl rfl rfl (Nat.le_of_ble_eq_true rfl) rfl hM1 hdg kk
theorem la_P1 (E : Cx p s m args meth c cc ret nL own G) (hP : PW G (AC G) (XC G ns) sz M s H) (hg : pg ns g) (hi : ibd i 5 = true) (hdg : decode cc pc = .ok (.iaload, 1))
    (kk : W p l e R s m args below meth c H locs cells slots Q (F0 m (pc + 1) ls (.int (M g 1 (ix i)) :: rest))) : W p l e R s m args below meth c H locs cells slots Q (F0 m pc ls (.int i :: .ref (adC G g 1) :: rest)) := by
  obtain ⟨g0, rfl⟩ := pg_s hg
  obtain ⟨hx, hb, hr, hlocks, hml, hown, hts, hK⟩ := E
  exact kr_iald hx hb hK hP (g0 + 1) 1 (dmP hg (by decide)) rfl (n := 5) (fun _ => rfl) hi hdg kk
theorem sa_P1 (E : Cx p s m args meth c cc ret nL own G) (hP : PW G (AC G) (XC G ns) sz M s H) (hS : va_S (AC G) H0 H locs) (hg : pg ns g) (hi : ibd i 5 = true) (hM1 : M1 = up3 M g 1 (ix i) v) (hdg : decode cc pc = .ok (.iastore, 1))
    (kk : ∀ (H1 : Heap) (locs1 : List Loc), PW G (AC G) (XC G ns) sz M1 s H1 → va_S (AC G) H0 H1 locs1 → W p l e R s m args below meth c H1 locs1 cells slots Q (F0 m (pc + 1) ls (rest))) : W p l e R s m args below meth c H locs cells slots Q (F0 m pc ls (.int v :: .int i :: .ref (adC G g 1) :: rest)) := by
  obtain ⟨g0, rfl⟩ := pg_s hg
  obtain ⟨hx, hb, hr, hlocks, hml, hown, hts, hK⟩ := E
  exact kr_iast hx hb hK hP hS (g0 + 1) 1 (dmP hg (by decide)) rfl (n := 5) (fun _ => rfl) hi hM1 hdg kk
theorem gf_X4_many (E : Cx p s m args meth c cc ret nL own G) (hP : PW G (AC G) (XC G ns) sz M s H) (hg : pg ns g) (hl : Cond.fieldLink own index RX4 "many" "I" ∈ lw_all) (hdg : decode cc pc = .ok (.getfield index, 3))
    (kk : W p l e R s m args below meth c H locs cells slots Q (F0 m (pc + 3) ls (.int (M g 2 0) :: rest))) : W p l e R s m args below meth c H locs cells slots Q (F0 m pc ls (.ref (adC G g 2) :: rest)) := by
  obtain ⟨g0, rfl⟩ := pg_s hg
  obtain ⟨hx, hb, hr, hlocks, hml, hown, hts, hK⟩ := E
  exact kr_get hx hb hts hown hK hP (g0 + 1) 2 (dmP hg (by decide)) rfl rfl rfl inX4 0 (by decide) rfl hl rfl hdg kk
theorem pf_X4_many (E : Cx p s m args meth c cc ret nL own G) (hP : PW G (AC G) (XC G ns) sz M s H) (hS : va_S (AC G) H0 H locs) (hg : pg ns g) (hM1 : M1 = up3 M g 2 0 v) (hl : Cond.fieldLink own index RX4 "many" "I" ∈ lw_all) (hdg : decode cc pc = .ok (.putfield index, 3))
    (kk : ∀ (H1 : Heap) (locs1 : List Loc), PW G (AC G) (XC G ns) sz M1 s H1 → va_S (AC G) H0 H1 locs1 → W p l e R s m args below meth c H1 locs1 cells slots Q (F0 m (pc + 3) ls (rest))) : W p l e R s m args below meth c H locs cells slots Q (F0 m pc ls (.int v :: .ref (adC G g 2) :: rest)) := by
  obtain ⟨g0, rfl⟩ := pg_s hg
  obtain ⟨hx, hb, hr, hlocks, hml, hown, hts, hK⟩ := E
  exact kr_put hx hb hts hown hK hP hS (g0 + 1) 2 (dmP hg (by decide)) rfl rfl rfl inX4 tyX4 tyX4_ok nmX4 0 (by decide) rfl hl rfl rfl (Nat.le_of_ble_eq_true rfl) rfl hM1 hdg kk
theorem gf_X4_kind (E : Cx p s m args meth c cc ret nL own G) (hP : PW G (AC G) (XC G ns) sz M s H) (hg : pg ns g) (hl : Cond.fieldLink own index RX4 "kind" "[I" ∈ lw_all) (hdg : decode cc pc = .ok (.getfield index, 3))
    (kk : W p l e R s m args below meth c H locs cells slots Q (F0 m (pc + 3) ls (.ref (adC G g 3) :: rest))) : W p l e R s m args below meth c H locs cells slots Q (F0 m pc ls (.ref (adC G g 2) :: rest)) := by
  obtain ⟨g0, rfl⟩ := pg_s hg
  obtain ⟨hx, hb, hr, hlocks, hml, hown, hts, hK⟩ := E
  exact kr_get hx hb hts hown hK hP (g0 + 1) 2 (dmP hg (by decide)) rfl rfl rfl inX4 1 (by decide) rfl hl rfl hdg kk
theorem gf_X4_capacity (E : Cx p s m args meth c cc ret nL own G) (hP : PW G (AC G) (XC G ns) sz M s H) (hg : pg ns g) (hl : Cond.fieldLink own index RX4 "capacity" "[I" ∈ lw_all) (hdg : decode cc pc = .ok (.getfield index, 3))
    (kk : W p l e R s m args below meth c H locs cells slots Q (F0 m (pc + 3) ls (.ref (adC G g 4) :: rest))) : W p l e R s m args below meth c H locs cells slots Q (F0 m pc ls (.ref (adC G g 2) :: rest)) := by
  obtain ⟨g0, rfl⟩ := pg_s hg
  obtain ⟨hx, hb, hr, hlocks, hml, hown, hts, hK⟩ := E
  exact kr_get hx hb hts hown hK hP (g0 + 1) 2 (dmP hg (by decide)) rfl rfl rfl inX4 2 (by decide) rfl hl rfl hdg kk
theorem gf_X4_place (E : Cx p s m args meth c cc ret nL own G) (hP : PW G (AC G) (XC G ns) sz M s H) (hg : pg ns g) (hl : Cond.fieldLink own index RX4 "place" "[I" ∈ lw_all) (hdg : decode cc pc = .ok (.getfield index, 3))
    (kk : W p l e R s m args below meth c H locs cells slots Q (F0 m (pc + 3) ls (.ref (adC G g 5) :: rest))) : W p l e R s m args below meth c H locs cells slots Q (F0 m pc ls (.ref (adC G g 2) :: rest)) := by
  obtain ⟨g0, rfl⟩ := pg_s hg
  obtain ⟨hx, hb, hr, hlocks, hml, hown, hts, hK⟩ := E
  exact kr_get hx hb hts hown hK hP (g0 + 1) 2 (dmP hg (by decide)) rfl rfl rfl inX4 3 (by decide) rfl hl rfl hdg kk
theorem gf_X4_ink (E : Cx p s m args meth c cc ret nL own G) (hP : PW G (AC G) (XC G ns) sz M s H) (hg : pg ns g) (hl : Cond.fieldLink own index RX4 "ink" "[I" ∈ lw_all) (hdg : decode cc pc = .ok (.getfield index, 3))
    (kk : W p l e R s m args below meth c H locs cells slots Q (F0 m (pc + 3) ls (.ref (adC G g 6) :: rest))) : W p l e R s m args below meth c H locs cells slots Q (F0 m pc ls (.ref (adC G g 2) :: rest)) := by
  obtain ⟨g0, rfl⟩ := pg_s hg
  obtain ⟨hx, hb, hr, hlocks, hml, hown, hts, hK⟩ := E
  exact kr_get hx hb hts hown hK hP (g0 + 1) 2 (dmP hg (by decide)) rfl rfl rfl inX4 4 (by decide) rfl hl rfl hdg kk
theorem gf_X4_drawn (E : Cx p s m args meth c cc ret nL own G) (hP : PW G (AC G) (XC G ns) sz M s H) (hg : pg ns g) (hl : Cond.fieldLink own index RX4 "drawn" "[I" ∈ lw_all) (hdg : decode cc pc = .ok (.getfield index, 3))
    (kk : W p l e R s m args below meth c H locs cells slots Q (F0 m (pc + 3) ls (.ref (adC G g 7) :: rest))) : W p l e R s m args below meth c H locs cells slots Q (F0 m pc ls (.ref (adC G g 2) :: rest)) := by
  obtain ⟨g0, rfl⟩ := pg_s hg
  obtain ⟨hx, hb, hr, hlocks, hml, hown, hts, hK⟩ := E
  exact kr_get hx hb hts hown hK hP (g0 + 1) 2 (dmP hg (by decide)) rfl rfl rfl inX4 5 (by decide) rfl hl rfl hdg kk
theorem gf_X4_idle (E : Cx p s m args meth c cc ret nL own G) (hP : PW G (AC G) (XC G ns) sz M s H) (hg : pg ns g) (hl : Cond.fieldLink own index RX4 "idle" "[I" ∈ lw_all) (hdg : decode cc pc = .ok (.getfield index, 3))
    (kk : W p l e R s m args below meth c H locs cells slots Q (F0 m (pc + 3) ls (.ref (adC G g 8) :: rest))) : W p l e R s m args below meth c H locs cells slots Q (F0 m pc ls (.ref (adC G g 2) :: rest)) := by
  obtain ⟨g0, rfl⟩ := pg_s hg
  obtain ⟨hx, hb, hr, hlocks, hml, hown, hts, hK⟩ := E
  exact kr_get hx hb hts hown hK hP (g0 + 1) 2 (dmP hg (by decide)) rfl rfl rfl inX4 6 (by decide) rfl hl rfl hdg kk
theorem gf_X4_away (E : Cx p s m args meth c cc ret nL own G) (hP : PW G (AC G) (XC G ns) sz M s H) (hg : pg ns g) (hl : Cond.fieldLink own index RX4 "away" "[I" ∈ lw_all) (hdg : decode cc pc = .ok (.getfield index, 3))
    (kk : W p l e R s m args below meth c H locs cells slots Q (F0 m (pc + 3) ls (.ref (adC G g 9) :: rest))) : W p l e R s m args below meth c H locs cells slots Q (F0 m pc ls (.ref (adC G g 2) :: rest)) := by
  obtain ⟨g0, rfl⟩ := pg_s hg
  obtain ⟨hx, hb, hr, hlocks, hml, hown, hts, hK⟩ := E
  exact kr_get hx hb hts hown hK hP (g0 + 1) 2 (dmP hg (by decide)) rfl rfl rfl inX4 7 (by decide) rfl hl rfl hdg kk
theorem la_P3 (E : Cx p s m args meth c cc ret nL own G) (hP : PW G (AC G) (XC G ns) sz M s H) (hg : pg ns g) (hi : ibd i 5 = true) (hdg : decode cc pc = .ok (.iaload, 1))
    (kk : W p l e R s m args below meth c H locs cells slots Q (F0 m (pc + 1) ls (.int (M g 3 (ix i)) :: rest))) : W p l e R s m args below meth c H locs cells slots Q (F0 m pc ls (.int i :: .ref (adC G g 3) :: rest)) := by
  obtain ⟨g0, rfl⟩ := pg_s hg
  obtain ⟨hx, hb, hr, hlocks, hml, hown, hts, hK⟩ := E
  exact kr_iald hx hb hK hP (g0 + 1) 3 (dmP hg (by decide)) rfl (n := 5) (fun _ => rfl) hi hdg kk
theorem sa_P3 (E : Cx p s m args meth c cc ret nL own G) (hP : PW G (AC G) (XC G ns) sz M s H) (hS : va_S (AC G) H0 H locs) (hg : pg ns g) (hi : ibd i 5 = true) (hM1 : M1 = up3 M g 3 (ix i) v) (hdg : decode cc pc = .ok (.iastore, 1))
    (kk : ∀ (H1 : Heap) (locs1 : List Loc), PW G (AC G) (XC G ns) sz M1 s H1 → va_S (AC G) H0 H1 locs1 → W p l e R s m args below meth c H1 locs1 cells slots Q (F0 m (pc + 1) ls (rest))) : W p l e R s m args below meth c H locs cells slots Q (F0 m pc ls (.int v :: .int i :: .ref (adC G g 3) :: rest)) := by
  obtain ⟨g0, rfl⟩ := pg_s hg
  obtain ⟨hx, hb, hr, hlocks, hml, hown, hts, hK⟩ := E
  exact kr_iast hx hb hK hP hS (g0 + 1) 3 (dmP hg (by decide)) rfl (n := 5) (fun _ => rfl) hi hM1 hdg kk
theorem la_P4 (E : Cx p s m args meth c cc ret nL own G) (hP : PW G (AC G) (XC G ns) sz M s H) (hg : pg ns g) (hi : ibd i 5 = true) (hdg : decode cc pc = .ok (.iaload, 1))
    (kk : W p l e R s m args below meth c H locs cells slots Q (F0 m (pc + 1) ls (.int (M g 4 (ix i)) :: rest))) : W p l e R s m args below meth c H locs cells slots Q (F0 m pc ls (.int i :: .ref (adC G g 4) :: rest)) := by
  obtain ⟨g0, rfl⟩ := pg_s hg
  obtain ⟨hx, hb, hr, hlocks, hml, hown, hts, hK⟩ := E
  exact kr_iald hx hb hK hP (g0 + 1) 4 (dmP hg (by decide)) rfl (n := 5) (fun _ => rfl) hi hdg kk
theorem sa_P4 (E : Cx p s m args meth c cc ret nL own G) (hP : PW G (AC G) (XC G ns) sz M s H) (hS : va_S (AC G) H0 H locs) (hg : pg ns g) (hi : ibd i 5 = true) (hM1 : M1 = up3 M g 4 (ix i) v) (hdg : decode cc pc = .ok (.iastore, 1))
    (kk : ∀ (H1 : Heap) (locs1 : List Loc), PW G (AC G) (XC G ns) sz M1 s H1 → va_S (AC G) H0 H1 locs1 → W p l e R s m args below meth c H1 locs1 cells slots Q (F0 m (pc + 1) ls (rest))) : W p l e R s m args below meth c H locs cells slots Q (F0 m pc ls (.int v :: .int i :: .ref (adC G g 4) :: rest)) := by
  obtain ⟨g0, rfl⟩ := pg_s hg
  obtain ⟨hx, hb, hr, hlocks, hml, hown, hts, hK⟩ := E
  exact kr_iast hx hb hK hP hS (g0 + 1) 4 (dmP hg (by decide)) rfl (n := 5) (fun _ => rfl) hi hM1 hdg kk
theorem la_P5 (E : Cx p s m args meth c cc ret nL own G) (hP : PW G (AC G) (XC G ns) sz M s H) (hg : pg ns g) (hi : ibd i 5 = true) (hdg : decode cc pc = .ok (.iaload, 1))
    (kk : W p l e R s m args below meth c H locs cells slots Q (F0 m (pc + 1) ls (.int (M g 5 (ix i)) :: rest))) : W p l e R s m args below meth c H locs cells slots Q (F0 m pc ls (.int i :: .ref (adC G g 5) :: rest)) := by
  obtain ⟨g0, rfl⟩ := pg_s hg
  obtain ⟨hx, hb, hr, hlocks, hml, hown, hts, hK⟩ := E
  exact kr_iald hx hb hK hP (g0 + 1) 5 (dmP hg (by decide)) rfl (n := 5) (fun _ => rfl) hi hdg kk
theorem sa_P5 (E : Cx p s m args meth c cc ret nL own G) (hP : PW G (AC G) (XC G ns) sz M s H) (hS : va_S (AC G) H0 H locs) (hg : pg ns g) (hi : ibd i 5 = true) (hM1 : M1 = up3 M g 5 (ix i) v) (hdg : decode cc pc = .ok (.iastore, 1))
    (kk : ∀ (H1 : Heap) (locs1 : List Loc), PW G (AC G) (XC G ns) sz M1 s H1 → va_S (AC G) H0 H1 locs1 → W p l e R s m args below meth c H1 locs1 cells slots Q (F0 m (pc + 1) ls (rest))) : W p l e R s m args below meth c H locs cells slots Q (F0 m pc ls (.int v :: .int i :: .ref (adC G g 5) :: rest)) := by
  obtain ⟨g0, rfl⟩ := pg_s hg
  obtain ⟨hx, hb, hr, hlocks, hml, hown, hts, hK⟩ := E
  exact kr_iast hx hb hK hP hS (g0 + 1) 5 (dmP hg (by decide)) rfl (n := 5) (fun _ => rfl) hi hM1 hdg kk
theorem la_P6 (E : Cx p s m args meth c cc ret nL own G) (hP : PW G (AC G) (XC G ns) sz M s H) (hg : pg ns g) (hi : ibd i 5 = true) (hdg : decode cc pc = .ok (.iaload, 1))
    (kk : W p l e R s m args below meth c H locs cells slots Q (F0 m (pc + 1) ls (.int (M g 6 (ix i)) :: rest))) : W p l e R s m args below meth c H locs cells slots Q (F0 m pc ls (.int i :: .ref (adC G g 6) :: rest)) := by
  obtain ⟨g0, rfl⟩ := pg_s hg
  obtain ⟨hx, hb, hr, hlocks, hml, hown, hts, hK⟩ := E
  exact kr_iald hx hb hK hP (g0 + 1) 6 (dmP hg (by decide)) rfl (n := 5) (fun _ => rfl) hi hdg kk
theorem sa_P6 (E : Cx p s m args meth c cc ret nL own G) (hP : PW G (AC G) (XC G ns) sz M s H) (hS : va_S (AC G) H0 H locs) (hg : pg ns g) (hi : ibd i 5 = true) (hM1 : M1 = up3 M g 6 (ix i) v) (hdg : decode cc pc = .ok (.iastore, 1))
    (kk : ∀ (H1 : Heap) (locs1 : List Loc), PW G (AC G) (XC G ns) sz M1 s H1 → va_S (AC G) H0 H1 locs1 → W p l e R s m args below meth c H1 locs1 cells slots Q (F0 m (pc + 1) ls (rest))) : W p l e R s m args below meth c H locs cells slots Q (F0 m pc ls (.int v :: .int i :: .ref (adC G g 6) :: rest)) := by
  obtain ⟨g0, rfl⟩ := pg_s hg
  obtain ⟨hx, hb, hr, hlocks, hml, hown, hts, hK⟩ := E
  exact kr_iast hx hb hK hP hS (g0 + 1) 6 (dmP hg (by decide)) rfl (n := 5) (fun _ => rfl) hi hM1 hdg kk
theorem la_P7 (E : Cx p s m args meth c cc ret nL own G) (hP : PW G (AC G) (XC G ns) sz M s H) (hg : pg ns g) (hi : ibd i 5 = true) (hdg : decode cc pc = .ok (.iaload, 1))
    (kk : W p l e R s m args below meth c H locs cells slots Q (F0 m (pc + 1) ls (.int (M g 7 (ix i)) :: rest))) : W p l e R s m args below meth c H locs cells slots Q (F0 m pc ls (.int i :: .ref (adC G g 7) :: rest)) := by
  obtain ⟨g0, rfl⟩ := pg_s hg
  obtain ⟨hx, hb, hr, hlocks, hml, hown, hts, hK⟩ := E
  exact kr_iald hx hb hK hP (g0 + 1) 7 (dmP hg (by decide)) rfl (n := 5) (fun _ => rfl) hi hdg kk
theorem sa_P7 (E : Cx p s m args meth c cc ret nL own G) (hP : PW G (AC G) (XC G ns) sz M s H) (hS : va_S (AC G) H0 H locs) (hg : pg ns g) (hi : ibd i 5 = true) (hM1 : M1 = up3 M g 7 (ix i) v) (hdg : decode cc pc = .ok (.iastore, 1))
    (kk : ∀ (H1 : Heap) (locs1 : List Loc), PW G (AC G) (XC G ns) sz M1 s H1 → va_S (AC G) H0 H1 locs1 → W p l e R s m args below meth c H1 locs1 cells slots Q (F0 m (pc + 1) ls (rest))) : W p l e R s m args below meth c H locs cells slots Q (F0 m pc ls (.int v :: .int i :: .ref (adC G g 7) :: rest)) := by
  obtain ⟨g0, rfl⟩ := pg_s hg
  obtain ⟨hx, hb, hr, hlocks, hml, hown, hts, hK⟩ := E
  exact kr_iast hx hb hK hP hS (g0 + 1) 7 (dmP hg (by decide)) rfl (n := 5) (fun _ => rfl) hi hM1 hdg kk
theorem la_P8 (E : Cx p s m args meth c cc ret nL own G) (hP : PW G (AC G) (XC G ns) sz M s H) (hg : pg ns g) (hi : ibd i 5 = true) (hdg : decode cc pc = .ok (.iaload, 1))
    (kk : W p l e R s m args below meth c H locs cells slots Q (F0 m (pc + 1) ls (.int (M g 8 (ix i)) :: rest))) : W p l e R s m args below meth c H locs cells slots Q (F0 m pc ls (.int i :: .ref (adC G g 8) :: rest)) := by
  obtain ⟨g0, rfl⟩ := pg_s hg
  obtain ⟨hx, hb, hr, hlocks, hml, hown, hts, hK⟩ := E
  exact kr_iald hx hb hK hP (g0 + 1) 8 (dmP hg (by decide)) rfl (n := 5) (fun _ => rfl) hi hdg kk
theorem sa_P8 (E : Cx p s m args meth c cc ret nL own G) (hP : PW G (AC G) (XC G ns) sz M s H) (hS : va_S (AC G) H0 H locs) (hg : pg ns g) (hi : ibd i 5 = true) (hM1 : M1 = up3 M g 8 (ix i) v) (hdg : decode cc pc = .ok (.iastore, 1))
    (kk : ∀ (H1 : Heap) (locs1 : List Loc), PW G (AC G) (XC G ns) sz M1 s H1 → va_S (AC G) H0 H1 locs1 → W p l e R s m args below meth c H1 locs1 cells slots Q (F0 m (pc + 1) ls (rest))) : W p l e R s m args below meth c H locs cells slots Q (F0 m pc ls (.int v :: .int i :: .ref (adC G g 8) :: rest)) := by
  obtain ⟨g0, rfl⟩ := pg_s hg
  obtain ⟨hx, hb, hr, hlocks, hml, hown, hts, hK⟩ := E
  exact kr_iast hx hb hK hP hS (g0 + 1) 8 (dmP hg (by decide)) rfl (n := 5) (fun _ => rfl) hi hM1 hdg kk
theorem la_P9 (E : Cx p s m args meth c cc ret nL own G) (hP : PW G (AC G) (XC G ns) sz M s H) (hg : pg ns g) (hi : ibd i 5 = true) (hdg : decode cc pc = .ok (.iaload, 1))
    (kk : W p l e R s m args below meth c H locs cells slots Q (F0 m (pc + 1) ls (.int (M g 9 (ix i)) :: rest))) : W p l e R s m args below meth c H locs cells slots Q (F0 m pc ls (.int i :: .ref (adC G g 9) :: rest)) := by
  obtain ⟨g0, rfl⟩ := pg_s hg
  obtain ⟨hx, hb, hr, hlocks, hml, hown, hts, hK⟩ := E
  exact kr_iald hx hb hK hP (g0 + 1) 9 (dmP hg (by decide)) rfl (n := 5) (fun _ => rfl) hi hdg kk
theorem sa_P9 (E : Cx p s m args meth c cc ret nL own G) (hP : PW G (AC G) (XC G ns) sz M s H) (hS : va_S (AC G) H0 H locs) (hg : pg ns g) (hi : ibd i 5 = true) (hM1 : M1 = up3 M g 9 (ix i) v) (hdg : decode cc pc = .ok (.iastore, 1))
    (kk : ∀ (H1 : Heap) (locs1 : List Loc), PW G (AC G) (XC G ns) sz M1 s H1 → va_S (AC G) H0 H1 locs1 → W p l e R s m args below meth c H1 locs1 cells slots Q (F0 m (pc + 1) ls (rest))) : W p l e R s m args below meth c H locs cells slots Q (F0 m pc ls (.int v :: .int i :: .ref (adC G g 9) :: rest)) := by
  obtain ⟨g0, rfl⟩ := pg_s hg
  obtain ⟨hx, hb, hr, hlocks, hml, hown, hts, hK⟩ := E
  exact kr_iast hx hb hK hP hS (g0 + 1) 9 (dmP hg (by decide)) rfl (n := 5) (fun _ => rfl) hi hM1 hdg kk
theorem gf_X2_many (E : Cx p s m args meth c cc ret nL own G) (hP : PW G (AC G) (XC G ns) sz M s H) (hg : pg ns g) (hl : Cond.fieldLink own index RX2 "many" "I" ∈ lw_all) (hdg : decode cc pc = .ok (.getfield index, 3))
    (kk : W p l e R s m args below meth c H locs cells slots Q (F0 m (pc + 3) ls (.int (M g 10 0) :: rest))) : W p l e R s m args below meth c H locs cells slots Q (F0 m pc ls (.ref (adC G g 10) :: rest)) := by
  obtain ⟨g0, rfl⟩ := pg_s hg
  obtain ⟨hx, hb, hr, hlocks, hml, hown, hts, hK⟩ := E
  exact kr_get hx hb hts hown hK hP (g0 + 1) 10 (dmP hg (by decide)) rfl rfl rfl inX2 0 (by decide) rfl hl rfl hdg kk
theorem pf_X2_many (E : Cx p s m args meth c cc ret nL own G) (hP : PW G (AC G) (XC G ns) sz M s H) (hS : va_S (AC G) H0 H locs) (hg : pg ns g) (hM1 : M1 = up3 M g 10 0 v) (hl : Cond.fieldLink own index RX2 "many" "I" ∈ lw_all) (hdg : decode cc pc = .ok (.putfield index, 3))
    (kk : ∀ (H1 : Heap) (locs1 : List Loc), PW G (AC G) (XC G ns) sz M1 s H1 → va_S (AC G) H0 H1 locs1 → W p l e R s m args below meth c H1 locs1 cells slots Q (F0 m (pc + 3) ls (rest))) : W p l e R s m args below meth c H locs cells slots Q (F0 m pc ls (.int v :: .ref (adC G g 10) :: rest)) := by
  obtain ⟨g0, rfl⟩ := pg_s hg
  obtain ⟨hx, hb, hr, hlocks, hml, hown, hts, hK⟩ := E
  exact kr_put hx hb hts hown hK hP hS (g0 + 1) 10 (dmP hg (by decide)) rfl rfl rfl inX2 tyX2 tyX2_ok nmX2 0 (by decide) rfl hl rfl rfl (Nat.le_of_ble_eq_true rfl) rfl hM1 hdg kk
theorem gf_X2_x (E : Cx p s m args meth c cc ret nL own G) (hP : PW G (AC G) (XC G ns) sz M s H) (hg : pg ns g) (hl : Cond.fieldLink own index RX2 "x" "[I" ∈ lw_all) (hdg : decode cc pc = .ok (.getfield index, 3))
    (kk : W p l e R s m args below meth c H locs cells slots Q (F0 m (pc + 3) ls (.ref (adC G g 11) :: rest))) : W p l e R s m args below meth c H locs cells slots Q (F0 m pc ls (.ref (adC G g 10) :: rest)) := by
  obtain ⟨g0, rfl⟩ := pg_s hg
  obtain ⟨hx, hb, hr, hlocks, hml, hown, hts, hK⟩ := E
  exact kr_get hx hb hts hown hK hP (g0 + 1) 10 (dmP hg (by decide)) rfl rfl rfl inX2 1 (by decide) rfl hl rfl hdg kk
theorem gf_X2_y (E : Cx p s m args meth c cc ret nL own G) (hP : PW G (AC G) (XC G ns) sz M s H) (hg : pg ns g) (hl : Cond.fieldLink own index RX2 "y" "[I" ∈ lw_all) (hdg : decode cc pc = .ok (.getfield index, 3))
    (kk : W p l e R s m args below meth c H locs cells slots Q (F0 m (pc + 3) ls (.ref (adC G g 12) :: rest))) : W p l e R s m args below meth c H locs cells slots Q (F0 m pc ls (.ref (adC G g 10) :: rest)) := by
  obtain ⟨g0, rfl⟩ := pg_s hg
  obtain ⟨hx, hb, hr, hlocks, hml, hown, hts, hK⟩ := E
  exact kr_get hx hb hts hown hK hP (g0 + 1) 10 (dmP hg (by decide)) rfl rfl rfl inX2 2 (by decide) rfl hl rfl hdg kk
theorem gf_X2_x2 (E : Cx p s m args meth c cc ret nL own G) (hP : PW G (AC G) (XC G ns) sz M s H) (hg : pg ns g) (hl : Cond.fieldLink own index RX2 "x2" "[I" ∈ lw_all) (hdg : decode cc pc = .ok (.getfield index, 3))
    (kk : W p l e R s m args below meth c H locs cells slots Q (F0 m (pc + 3) ls (.ref (adC G g 13) :: rest))) : W p l e R s m args below meth c H locs cells slots Q (F0 m pc ls (.ref (adC G g 10) :: rest)) := by
  obtain ⟨g0, rfl⟩ := pg_s hg
  obtain ⟨hx, hb, hr, hlocks, hml, hown, hts, hK⟩ := E
  exact kr_get hx hb hts hown hK hP (g0 + 1) 10 (dmP hg (by decide)) rfl rfl rfl inX2 3 (by decide) rfl hl rfl hdg kk
theorem gf_X2_y2 (E : Cx p s m args meth c cc ret nL own G) (hP : PW G (AC G) (XC G ns) sz M s H) (hg : pg ns g) (hl : Cond.fieldLink own index RX2 "y2" "[I" ∈ lw_all) (hdg : decode cc pc = .ok (.getfield index, 3))
    (kk : W p l e R s m args below meth c H locs cells slots Q (F0 m (pc + 3) ls (.ref (adC G g 14) :: rest))) : W p l e R s m args below meth c H locs cells slots Q (F0 m pc ls (.ref (adC G g 10) :: rest)) := by
  obtain ⟨g0, rfl⟩ := pg_s hg
  obtain ⟨hx, hb, hr, hlocks, hml, hown, hts, hK⟩ := E
  exact kr_get hx hb hts hown hK hP (g0 + 1) 10 (dmP hg (by decide)) rfl rfl rfl inX2 4 (by decide) rfl hl rfl hdg kk
theorem gf_X2_length (E : Cx p s m args meth c cc ret nL own G) (hP : PW G (AC G) (XC G ns) sz M s H) (hg : pg ns g) (hl : Cond.fieldLink own index RX2 "length" "[I" ∈ lw_all) (hdg : decode cc pc = .ok (.getfield index, 3))
    (kk : W p l e R s m args below meth c H locs cells slots Q (F0 m (pc + 3) ls (.ref (adC G g 15) :: rest))) : W p l e R s m args below meth c H locs cells slots Q (F0 m pc ls (.ref (adC G g 10) :: rest)) := by
  obtain ⟨g0, rfl⟩ := pg_s hg
  obtain ⟨hx, hb, hr, hlocks, hml, hown, hts, hK⟩ := E
  exact kr_get hx hb hts hown hK hP (g0 + 1) 10 (dmP hg (by decide)) rfl rfl rfl inX2 5 (by decide) rfl hl rfl hdg kk
theorem gf_X2_touchingSet (E : Cx p s m args meth c cc ret nL own G) (hP : PW G (AC G) (XC G ns) sz M s H) (hg : pg ns g) (hl : Cond.fieldLink own index RX2 "touchingSet" "[I" ∈ lw_all) (hdg : decode cc pc = .ok (.getfield index, 3))
    (kk : W p l e R s m args below meth c H locs cells slots Q (F0 m (pc + 3) ls (.ref (adC G g 16) :: rest))) : W p l e R s m args below meth c H locs cells slots Q (F0 m pc ls (.ref (adC G g 10) :: rest)) := by
  obtain ⟨g0, rfl⟩ := pg_s hg
  obtain ⟨hx, hb, hr, hlocks, hml, hown, hts, hK⟩ := E
  exact kr_get hx hb hts hown hK hP (g0 + 1) 10 (dmP hg (by decide)) rfl rfl rfl inX2 6 (by decide) rfl hl rfl hdg kk
theorem gf_X2_drawnBy (E : Cx p s m args meth c cc ret nL own G) (hP : PW G (AC G) (XC G ns) sz M s H) (hg : pg ns g) (hl : Cond.fieldLink own index RX2 "drawnBy" "[I" ∈ lw_all) (hdg : decode cc pc = .ok (.getfield index, 3))
    (kk : W p l e R s m args below meth c H locs cells slots Q (F0 m (pc + 3) ls (.ref (adC G g 17) :: rest))) : W p l e R s m args below meth c H locs cells slots Q (F0 m pc ls (.ref (adC G g 10) :: rest)) := by
  obtain ⟨g0, rfl⟩ := pg_s hg
  obtain ⟨hx, hb, hr, hlocks, hml, hown, hts, hK⟩ := E
  exact kr_get hx hb hts hown hK hP (g0 + 1) 10 (dmP hg (by decide)) rfl rfl rfl inX2 7 (by decide) rfl hl rfl hdg kk
theorem gf_X2_doneAt (E : Cx p s m args meth c cc ret nL own G) (hP : PW G (AC G) (XC G ns) sz M s H) (hg : pg ns g) (hl : Cond.fieldLink own index RX2 "doneAt" "[I" ∈ lw_all) (hdg : decode cc pc = .ok (.getfield index, 3))
    (kk : W p l e R s m args below meth c H locs cells slots Q (F0 m (pc + 3) ls (.ref (adC G g 18) :: rest))) : W p l e R s m args below meth c H locs cells slots Q (F0 m pc ls (.ref (adC G g 10) :: rest)) := by
  obtain ⟨g0, rfl⟩ := pg_s hg
  obtain ⟨hx, hb, hr, hlocks, hml, hown, hts, hK⟩ := E
  exact kr_get hx hb hts hown hK hP (g0 + 1) 10 (dmP hg (by decide)) rfl rfl rfl inX2 8 (by decide) rfl hl rfl hdg kk
theorem gf_X2_dryAt (E : Cx p s m args meth c cc ret nL own G) (hP : PW G (AC G) (XC G ns) sz M s H) (hg : pg ns g) (hl : Cond.fieldLink own index RX2 "dryAt" "[I" ∈ lw_all) (hdg : decode cc pc = .ok (.getfield index, 3))
    (kk : W p l e R s m args below meth c H locs cells slots Q (F0 m (pc + 3) ls (.ref (adC G g 19) :: rest))) : W p l e R s m args below meth c H locs cells slots Q (F0 m pc ls (.ref (adC G g 10) :: rest)) := by
  obtain ⟨g0, rfl⟩ := pg_s hg
  obtain ⟨hx, hb, hr, hlocks, hml, hown, hts, hK⟩ := E
  exact kr_get hx hb hts hown hK hP (g0 + 1) 10 (dmP hg (by decide)) rfl rfl rfl inX2 9 (by decide) rfl hl rfl hdg kk
theorem gf_X2_inkAtBegin (E : Cx p s m args meth c cc ret nL own G) (hP : PW G (AC G) (XC G ns) sz M s H) (hg : pg ns g) (hl : Cond.fieldLink own index RX2 "inkAtBegin" "[I" ∈ lw_all) (hdg : decode cc pc = .ok (.getfield index, 3))
    (kk : W p l e R s m args below meth c H locs cells slots Q (F0 m (pc + 3) ls (.ref (adC G g 20) :: rest))) : W p l e R s m args below meth c H locs cells slots Q (F0 m pc ls (.ref (adC G g 10) :: rest)) := by
  obtain ⟨g0, rfl⟩ := pg_s hg
  obtain ⟨hx, hb, hr, hlocks, hml, hown, hts, hK⟩ := E
  exact kr_get hx hb hts hown hK hP (g0 + 1) 10 (dmP hg (by decide)) rfl rfl rfl inX2 10 (by decide) rfl hl rfl hdg kk
theorem la_P11 (E : Cx p s m args meth c cc ret nL own G) (hP : PW G (AC G) (XC G ns) sz M s H) (hg : pg ns g) (hi : ibd i 16 = true) (hdg : decode cc pc = .ok (.iaload, 1))
    (kk : W p l e R s m args below meth c H locs cells slots Q (F0 m (pc + 1) ls (.int (M g 11 (ix i)) :: rest))) : W p l e R s m args below meth c H locs cells slots Q (F0 m pc ls (.int i :: .ref (adC G g 11) :: rest)) := by
  obtain ⟨g0, rfl⟩ := pg_s hg
  obtain ⟨hx, hb, hr, hlocks, hml, hown, hts, hK⟩ := E
  exact kr_iald hx hb hK hP (g0 + 1) 11 (dmP hg (by decide)) rfl (n := 16) (fun _ => rfl) hi hdg kk
theorem sa_P11 (E : Cx p s m args meth c cc ret nL own G) (hP : PW G (AC G) (XC G ns) sz M s H) (hS : va_S (AC G) H0 H locs) (hg : pg ns g) (hi : ibd i 16 = true) (hM1 : M1 = up3 M g 11 (ix i) v) (hdg : decode cc pc = .ok (.iastore, 1))
    (kk : ∀ (H1 : Heap) (locs1 : List Loc), PW G (AC G) (XC G ns) sz M1 s H1 → va_S (AC G) H0 H1 locs1 → W p l e R s m args below meth c H1 locs1 cells slots Q (F0 m (pc + 1) ls (rest))) : W p l e R s m args below meth c H locs cells slots Q (F0 m pc ls (.int v :: .int i :: .ref (adC G g 11) :: rest)) := by
  obtain ⟨g0, rfl⟩ := pg_s hg
  obtain ⟨hx, hb, hr, hlocks, hml, hown, hts, hK⟩ := E
  exact kr_iast hx hb hK hP hS (g0 + 1) 11 (dmP hg (by decide)) rfl (n := 16) (fun _ => rfl) hi hM1 hdg kk
theorem la_P12 (E : Cx p s m args meth c cc ret nL own G) (hP : PW G (AC G) (XC G ns) sz M s H) (hg : pg ns g) (hi : ibd i 16 = true) (hdg : decode cc pc = .ok (.iaload, 1))
    (kk : W p l e R s m args below meth c H locs cells slots Q (F0 m (pc + 1) ls (.int (M g 12 (ix i)) :: rest))) : W p l e R s m args below meth c H locs cells slots Q (F0 m pc ls (.int i :: .ref (adC G g 12) :: rest)) := by
  obtain ⟨g0, rfl⟩ := pg_s hg
  obtain ⟨hx, hb, hr, hlocks, hml, hown, hts, hK⟩ := E
  exact kr_iald hx hb hK hP (g0 + 1) 12 (dmP hg (by decide)) rfl (n := 16) (fun _ => rfl) hi hdg kk
theorem sa_P12 (E : Cx p s m args meth c cc ret nL own G) (hP : PW G (AC G) (XC G ns) sz M s H) (hS : va_S (AC G) H0 H locs) (hg : pg ns g) (hi : ibd i 16 = true) (hM1 : M1 = up3 M g 12 (ix i) v) (hdg : decode cc pc = .ok (.iastore, 1))
    (kk : ∀ (H1 : Heap) (locs1 : List Loc), PW G (AC G) (XC G ns) sz M1 s H1 → va_S (AC G) H0 H1 locs1 → W p l e R s m args below meth c H1 locs1 cells slots Q (F0 m (pc + 1) ls (rest))) : W p l e R s m args below meth c H locs cells slots Q (F0 m pc ls (.int v :: .int i :: .ref (adC G g 12) :: rest)) := by
  obtain ⟨g0, rfl⟩ := pg_s hg
  obtain ⟨hx, hb, hr, hlocks, hml, hown, hts, hK⟩ := E
  exact kr_iast hx hb hK hP hS (g0 + 1) 12 (dmP hg (by decide)) rfl (n := 16) (fun _ => rfl) hi hM1 hdg kk
theorem la_P13 (E : Cx p s m args meth c cc ret nL own G) (hP : PW G (AC G) (XC G ns) sz M s H) (hg : pg ns g) (hi : ibd i 16 = true) (hdg : decode cc pc = .ok (.iaload, 1))
    (kk : W p l e R s m args below meth c H locs cells slots Q (F0 m (pc + 1) ls (.int (M g 13 (ix i)) :: rest))) : W p l e R s m args below meth c H locs cells slots Q (F0 m pc ls (.int i :: .ref (adC G g 13) :: rest)) := by
  obtain ⟨g0, rfl⟩ := pg_s hg
  obtain ⟨hx, hb, hr, hlocks, hml, hown, hts, hK⟩ := E
  exact kr_iald hx hb hK hP (g0 + 1) 13 (dmP hg (by decide)) rfl (n := 16) (fun _ => rfl) hi hdg kk
theorem sa_P13 (E : Cx p s m args meth c cc ret nL own G) (hP : PW G (AC G) (XC G ns) sz M s H) (hS : va_S (AC G) H0 H locs) (hg : pg ns g) (hi : ibd i 16 = true) (hM1 : M1 = up3 M g 13 (ix i) v) (hdg : decode cc pc = .ok (.iastore, 1))
    (kk : ∀ (H1 : Heap) (locs1 : List Loc), PW G (AC G) (XC G ns) sz M1 s H1 → va_S (AC G) H0 H1 locs1 → W p l e R s m args below meth c H1 locs1 cells slots Q (F0 m (pc + 1) ls (rest))) : W p l e R s m args below meth c H locs cells slots Q (F0 m pc ls (.int v :: .int i :: .ref (adC G g 13) :: rest)) := by
  obtain ⟨g0, rfl⟩ := pg_s hg
  obtain ⟨hx, hb, hr, hlocks, hml, hown, hts, hK⟩ := E
  exact kr_iast hx hb hK hP hS (g0 + 1) 13 (dmP hg (by decide)) rfl (n := 16) (fun _ => rfl) hi hM1 hdg kk
theorem la_P14 (E : Cx p s m args meth c cc ret nL own G) (hP : PW G (AC G) (XC G ns) sz M s H) (hg : pg ns g) (hi : ibd i 16 = true) (hdg : decode cc pc = .ok (.iaload, 1))
    (kk : W p l e R s m args below meth c H locs cells slots Q (F0 m (pc + 1) ls (.int (M g 14 (ix i)) :: rest))) : W p l e R s m args below meth c H locs cells slots Q (F0 m pc ls (.int i :: .ref (adC G g 14) :: rest)) := by
  obtain ⟨g0, rfl⟩ := pg_s hg
  obtain ⟨hx, hb, hr, hlocks, hml, hown, hts, hK⟩ := E
  exact kr_iald hx hb hK hP (g0 + 1) 14 (dmP hg (by decide)) rfl (n := 16) (fun _ => rfl) hi hdg kk
theorem sa_P14 (E : Cx p s m args meth c cc ret nL own G) (hP : PW G (AC G) (XC G ns) sz M s H) (hS : va_S (AC G) H0 H locs) (hg : pg ns g) (hi : ibd i 16 = true) (hM1 : M1 = up3 M g 14 (ix i) v) (hdg : decode cc pc = .ok (.iastore, 1))
    (kk : ∀ (H1 : Heap) (locs1 : List Loc), PW G (AC G) (XC G ns) sz M1 s H1 → va_S (AC G) H0 H1 locs1 → W p l e R s m args below meth c H1 locs1 cells slots Q (F0 m (pc + 1) ls (rest))) : W p l e R s m args below meth c H locs cells slots Q (F0 m pc ls (.int v :: .int i :: .ref (adC G g 14) :: rest)) := by
  obtain ⟨g0, rfl⟩ := pg_s hg
  obtain ⟨hx, hb, hr, hlocks, hml, hown, hts, hK⟩ := E
  exact kr_iast hx hb hK hP hS (g0 + 1) 14 (dmP hg (by decide)) rfl (n := 16) (fun _ => rfl) hi hM1 hdg kk
theorem la_P15 (E : Cx p s m args meth c cc ret nL own G) (hP : PW G (AC G) (XC G ns) sz M s H) (hg : pg ns g) (hi : ibd i 16 = true) (hdg : decode cc pc = .ok (.iaload, 1))
    (kk : W p l e R s m args below meth c H locs cells slots Q (F0 m (pc + 1) ls (.int (M g 15 (ix i)) :: rest))) : W p l e R s m args below meth c H locs cells slots Q (F0 m pc ls (.int i :: .ref (adC G g 15) :: rest)) := by
  obtain ⟨g0, rfl⟩ := pg_s hg
  obtain ⟨hx, hb, hr, hlocks, hml, hown, hts, hK⟩ := E
  exact kr_iald hx hb hK hP (g0 + 1) 15 (dmP hg (by decide)) rfl (n := 16) (fun _ => rfl) hi hdg kk
theorem sa_P15 (E : Cx p s m args meth c cc ret nL own G) (hP : PW G (AC G) (XC G ns) sz M s H) (hS : va_S (AC G) H0 H locs) (hg : pg ns g) (hi : ibd i 16 = true) (hM1 : M1 = up3 M g 15 (ix i) v) (hdg : decode cc pc = .ok (.iastore, 1))
    (kk : ∀ (H1 : Heap) (locs1 : List Loc), PW G (AC G) (XC G ns) sz M1 s H1 → va_S (AC G) H0 H1 locs1 → W p l e R s m args below meth c H1 locs1 cells slots Q (F0 m (pc + 1) ls (rest))) : W p l e R s m args below meth c H locs cells slots Q (F0 m pc ls (.int v :: .int i :: .ref (adC G g 15) :: rest)) := by
  obtain ⟨g0, rfl⟩ := pg_s hg
  obtain ⟨hx, hb, hr, hlocks, hml, hown, hts, hK⟩ := E
  exact kr_iast hx hb hK hP hS (g0 + 1) 15 (dmP hg (by decide)) rfl (n := 16) (fun _ => rfl) hi hM1 hdg kk
theorem la_P16 (E : Cx p s m args meth c cc ret nL own G) (hP : PW G (AC G) (XC G ns) sz M s H) (hg : pg ns g) (hi : ibd i 16 = true) (hdg : decode cc pc = .ok (.iaload, 1))
    (kk : W p l e R s m args below meth c H locs cells slots Q (F0 m (pc + 1) ls (.int (M g 16 (ix i)) :: rest))) : W p l e R s m args below meth c H locs cells slots Q (F0 m pc ls (.int i :: .ref (adC G g 16) :: rest)) := by
  obtain ⟨g0, rfl⟩ := pg_s hg
  obtain ⟨hx, hb, hr, hlocks, hml, hown, hts, hK⟩ := E
  exact kr_iald hx hb hK hP (g0 + 1) 16 (dmP hg (by decide)) rfl (n := 16) (fun _ => rfl) hi hdg kk
theorem sa_P16 (E : Cx p s m args meth c cc ret nL own G) (hP : PW G (AC G) (XC G ns) sz M s H) (hS : va_S (AC G) H0 H locs) (hg : pg ns g) (hi : ibd i 16 = true) (hM1 : M1 = up3 M g 16 (ix i) v) (hdg : decode cc pc = .ok (.iastore, 1))
    (kk : ∀ (H1 : Heap) (locs1 : List Loc), PW G (AC G) (XC G ns) sz M1 s H1 → va_S (AC G) H0 H1 locs1 → W p l e R s m args below meth c H1 locs1 cells slots Q (F0 m (pc + 1) ls (rest))) : W p l e R s m args below meth c H locs cells slots Q (F0 m pc ls (.int v :: .int i :: .ref (adC G g 16) :: rest)) := by
  obtain ⟨g0, rfl⟩ := pg_s hg
  obtain ⟨hx, hb, hr, hlocks, hml, hown, hts, hK⟩ := E
  exact kr_iast hx hb hK hP hS (g0 + 1) 16 (dmP hg (by decide)) rfl (n := 16) (fun _ => rfl) hi hM1 hdg kk
theorem la_P17 (E : Cx p s m args meth c cc ret nL own G) (hP : PW G (AC G) (XC G ns) sz M s H) (hg : pg ns g) (hi : ibd i 16 = true) (hdg : decode cc pc = .ok (.iaload, 1))
    (kk : W p l e R s m args below meth c H locs cells slots Q (F0 m (pc + 1) ls (.int (M g 17 (ix i)) :: rest))) : W p l e R s m args below meth c H locs cells slots Q (F0 m pc ls (.int i :: .ref (adC G g 17) :: rest)) := by
  obtain ⟨g0, rfl⟩ := pg_s hg
  obtain ⟨hx, hb, hr, hlocks, hml, hown, hts, hK⟩ := E
  exact kr_iald hx hb hK hP (g0 + 1) 17 (dmP hg (by decide)) rfl (n := 16) (fun _ => rfl) hi hdg kk
theorem sa_P17 (E : Cx p s m args meth c cc ret nL own G) (hP : PW G (AC G) (XC G ns) sz M s H) (hS : va_S (AC G) H0 H locs) (hg : pg ns g) (hi : ibd i 16 = true) (hM1 : M1 = up3 M g 17 (ix i) v) (hdg : decode cc pc = .ok (.iastore, 1))
    (kk : ∀ (H1 : Heap) (locs1 : List Loc), PW G (AC G) (XC G ns) sz M1 s H1 → va_S (AC G) H0 H1 locs1 → W p l e R s m args below meth c H1 locs1 cells slots Q (F0 m (pc + 1) ls (rest))) : W p l e R s m args below meth c H locs cells slots Q (F0 m pc ls (.int v :: .int i :: .ref (adC G g 17) :: rest)) := by
  obtain ⟨g0, rfl⟩ := pg_s hg
  obtain ⟨hx, hb, hr, hlocks, hml, hown, hts, hK⟩ := E
  exact kr_iast hx hb hK hP hS (g0 + 1) 17 (dmP hg (by decide)) rfl (n := 16) (fun _ => rfl) hi hM1 hdg kk
theorem la_P18 (E : Cx p s m args meth c cc ret nL own G) (hP : PW G (AC G) (XC G ns) sz M s H) (hg : pg ns g) (hi : ibd i 16 = true) (hdg : decode cc pc = .ok (.iaload, 1))
    (kk : W p l e R s m args below meth c H locs cells slots Q (F0 m (pc + 1) ls (.int (M g 18 (ix i)) :: rest))) : W p l e R s m args below meth c H locs cells slots Q (F0 m pc ls (.int i :: .ref (adC G g 18) :: rest)) := by
  obtain ⟨g0, rfl⟩ := pg_s hg
  obtain ⟨hx, hb, hr, hlocks, hml, hown, hts, hK⟩ := E
  exact kr_iald hx hb hK hP (g0 + 1) 18 (dmP hg (by decide)) rfl (n := 16) (fun _ => rfl) hi hdg kk
theorem sa_P18 (E : Cx p s m args meth c cc ret nL own G) (hP : PW G (AC G) (XC G ns) sz M s H) (hS : va_S (AC G) H0 H locs) (hg : pg ns g) (hi : ibd i 16 = true) (hM1 : M1 = up3 M g 18 (ix i) v) (hdg : decode cc pc = .ok (.iastore, 1))
    (kk : ∀ (H1 : Heap) (locs1 : List Loc), PW G (AC G) (XC G ns) sz M1 s H1 → va_S (AC G) H0 H1 locs1 → W p l e R s m args below meth c H1 locs1 cells slots Q (F0 m (pc + 1) ls (rest))) : W p l e R s m args below meth c H locs cells slots Q (F0 m pc ls (.int v :: .int i :: .ref (adC G g 18) :: rest)) := by
  obtain ⟨g0, rfl⟩ := pg_s hg
  obtain ⟨hx, hb, hr, hlocks, hml, hown, hts, hK⟩ := E
  exact kr_iast hx hb hK hP hS (g0 + 1) 18 (dmP hg (by decide)) rfl (n := 16) (fun _ => rfl) hi hM1 hdg kk
theorem la_P19 (E : Cx p s m args meth c cc ret nL own G) (hP : PW G (AC G) (XC G ns) sz M s H) (hg : pg ns g) (hi : ibd i 16 = true) (hdg : decode cc pc = .ok (.iaload, 1))
    (kk : W p l e R s m args below meth c H locs cells slots Q (F0 m (pc + 1) ls (.int (M g 19 (ix i)) :: rest))) : W p l e R s m args below meth c H locs cells slots Q (F0 m pc ls (.int i :: .ref (adC G g 19) :: rest)) := by
  obtain ⟨g0, rfl⟩ := pg_s hg
  obtain ⟨hx, hb, hr, hlocks, hml, hown, hts, hK⟩ := E
  exact kr_iald hx hb hK hP (g0 + 1) 19 (dmP hg (by decide)) rfl (n := 16) (fun _ => rfl) hi hdg kk
theorem sa_P19 (E : Cx p s m args meth c cc ret nL own G) (hP : PW G (AC G) (XC G ns) sz M s H) (hS : va_S (AC G) H0 H locs) (hg : pg ns g) (hi : ibd i 16 = true) (hM1 : M1 = up3 M g 19 (ix i) v) (hdg : decode cc pc = .ok (.iastore, 1))
    (kk : ∀ (H1 : Heap) (locs1 : List Loc), PW G (AC G) (XC G ns) sz M1 s H1 → va_S (AC G) H0 H1 locs1 → W p l e R s m args below meth c H1 locs1 cells slots Q (F0 m (pc + 1) ls (rest))) : W p l e R s m args below meth c H locs cells slots Q (F0 m pc ls (.int v :: .int i :: .ref (adC G g 19) :: rest)) := by
  obtain ⟨g0, rfl⟩ := pg_s hg
  obtain ⟨hx, hb, hr, hlocks, hml, hown, hts, hK⟩ := E
  exact kr_iast hx hb hK hP hS (g0 + 1) 19 (dmP hg (by decide)) rfl (n := 16) (fun _ => rfl) hi hM1 hdg kk
theorem la_P20 (E : Cx p s m args meth c cc ret nL own G) (hP : PW G (AC G) (XC G ns) sz M s H) (hg : pg ns g) (hi : ibd i 16 = true) (hdg : decode cc pc = .ok (.iaload, 1))
    (kk : W p l e R s m args below meth c H locs cells slots Q (F0 m (pc + 1) ls (.int (M g 20 (ix i)) :: rest))) : W p l e R s m args below meth c H locs cells slots Q (F0 m pc ls (.int i :: .ref (adC G g 20) :: rest)) := by
  obtain ⟨g0, rfl⟩ := pg_s hg
  obtain ⟨hx, hb, hr, hlocks, hml, hown, hts, hK⟩ := E
  exact kr_iald hx hb hK hP (g0 + 1) 20 (dmP hg (by decide)) rfl (n := 16) (fun _ => rfl) hi hdg kk
theorem sa_P20 (E : Cx p s m args meth c cc ret nL own G) (hP : PW G (AC G) (XC G ns) sz M s H) (hS : va_S (AC G) H0 H locs) (hg : pg ns g) (hi : ibd i 16 = true) (hM1 : M1 = up3 M g 20 (ix i) v) (hdg : decode cc pc = .ok (.iastore, 1))
    (kk : ∀ (H1 : Heap) (locs1 : List Loc), PW G (AC G) (XC G ns) sz M1 s H1 → va_S (AC G) H0 H1 locs1 → W p l e R s m args below meth c H1 locs1 cells slots Q (F0 m (pc + 1) ls (rest))) : W p l e R s m args below meth c H locs cells slots Q (F0 m pc ls (.int v :: .int i :: .ref (adC G g 20) :: rest)) := by
  obtain ⟨g0, rfl⟩ := pg_s hg
  obtain ⟨hx, hb, hr, hlocks, hml, hown, hts, hK⟩ := E
  exact kr_iast hx hb hK hP hS (g0 + 1) 20 (dmP hg (by decide)) rfl (n := 16) (fun _ => rfl) hi hM1 hdg kk
end RW
