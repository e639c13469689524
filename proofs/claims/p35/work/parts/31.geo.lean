/-! geometry over whole numbers: the two tests of touching say the same -/
theorem sqn (x : Int) : 0 ≤ x * x := by
  by_cases h : 0 ≤ x
  · exact Int.mul_nonneg h h
  · have := Int.mul_nonneg (show 0 ≤ -x by omega) (show 0 ≤ -x by omega)
    rwa [Int.neg_mul_neg] at this
def crs (ax ay bx b2 px py : Int) : Int := (bx - ax) * (py - ay) - (b2 - ay) * (px - ax)
/-- spans meet -/
def spn (a b c d : Int) : Prop := max (min a b) (min c d) ≤ min (max a b) (max c d)
/-- parallel u, v with products at most 0 stand on different sides of w -/
theorem geo_q {ux uy vx vy wx wy : Int} (hp : ux * vy = uy * vx) (h1 : ux * vx ≤ 0) (h2 : uy * vy ≤ 0) : (wx * uy - wy * ux) * (wx * vy - wy * vx) ≤ 0 := by
  have e : (wx * uy - wy * ux) * (wx * vy - wy * vx) = wx * wx * (uy * vy) - 2 * (wx * wy * (ux * vy)) + wy * wy * (ux * vx) := by grind
  have e2 : uy * vy * ((wx * uy - wy * ux) * (wx * vy - wy * vx)) = (uy * vy * wx - ux * vy * wy) * (uy * vy * wx - ux * vy * wy) := by grind
  have sq : 0 ≤ (uy * vy * wx - ux * vy * wy) * (uy * vy * wx - ux * vy * wy) := sqn _
  by_cases h : uy * vy = 0
  · have m2 : (ux * vy) * (ux * vy) = 0 := by
      have : (ux * vy) * (ux * vy) = (ux * vx) * (uy * vy) := by grind
      rw [this, h, Int.mul_zero]
    have m : ux * vy = 0 := by
      rcases Int.mul_eq_zero.mp m2 with h | h <;> exact h
    rw [e, h, m]
    have : 0 ≤ wy * wy := sqn _
    have := Int.mul_nonneg this (show 0 ≤ -(ux * vx) by omega)
    have e3 : wy * wy * -(ux * vx) = -(wy * wy * (ux * vx)) := by grind
    omega
  · refine Int.not_lt.mp fun hlt => ?_
    have := Int.mul_pos (show 0 < -(uy * vy) by omega) hlt
    have e3 : -(uy * vy) * ((wx * uy - wy * ux) * (wx * vy - wy * vx)) = -(uy * vy * ((wx * uy - wy * ux) * (wx * vy - wy * vx))) := by grind
    omega
/-- parallel u, v that stand on different sides of w, not both along w -/
theorem geo_r {ux uy vx vy wx wy : Int} (hp : ux * vy = uy * vx) (h : (wx * uy - wy * ux) * (wx * vy - wy * vx) ≤ 0) (hn : ¬ (wx * uy - wy * ux = 0 ∧ wx * vy - wy * vx = 0)) : ux * vx ≤ 0 := by
  refine Int.not_lt.mp fun hlt => hn ?_
  have e2 : ux * vx * ((wx * uy - wy * ux) * (wx * vy - wy * vx)) = (ux * vx * wy - ux * vy * wx) * (ux * vx * wy - ux * vy * wx) := by grind
  have le : ux * vx * ((wx * uy - wy * ux) * (wx * vy - wy * vx)) ≤ 0 := by
    have := Int.mul_nonneg (Int.le_of_lt hlt) (show 0 ≤ -((wx * uy - wy * ux) * (wx * vy - wy * vx)) by omega)
    have e3 : ux * vx * -((wx * uy - wy * ux) * (wx * vy - wy * vx)) = -(ux * vx * ((wx * uy - wy * ux) * (wx * vy - wy * vx))) := by grind
    omega
  have sq : 0 ≤ (ux * vx * wy - ux * vy * wx) * (ux * vx * wy - ux * vy * wx) := sqn _
  have z : ux * vx * wy - ux * vy * wx = 0 := by
    have : (ux * vx * wy - ux * vy * wx) * (ux * vx * wy - ux * vy * wx) = 0 := by omega
    rcases Int.mul_eq_zero.mp this with h | h <;> exact h
  have hu : ux ≠ 0 := fun h => by rw [h] at hlt; omega
  have hv : vx ≠ 0 := fun h => by rw [h] at hlt; omega
  constructor
  · have : vx * (wx * uy - wy * ux) = 0 := by grind
    rcases Int.mul_eq_zero.mp this with h | h
    · exact absurd h hv
    · exact h
  · have : ux * (wx * vy - wy * vx) = 0 := by grind
    rcases Int.mul_eq_zero.mp this with h | h
    · exact absurd h hu
    · exact h
theorem geo_btw {a b c : Int} (h : (c - a) * (c - b) ≤ 0) : min a b ≤ c ∧ c ≤ max a b := by
  by_cases h1 : c < min a b
  · have := Int.mul_pos (show 0 < a - c by omega) (show 0 < b - c by omega)
    have e : (a - c) * (b - c) = (c - a) * (c - b) := by grind
    omega
  · by_cases h2 : max a b < c
    · have := Int.mul_pos (show 0 < c - a by omega) (show 0 < c - b by omega)
      omega
    · omega
theorem geo_btw2 {a b c : Int} (h1 : min a b ≤ c) (h2 : c ≤ max a b) : (c - a) * (c - b) ≤ 0 := by
  by_cases h0 : c = a ∨ c = b
  · rcases h0 with h0 | h0 <;> rw [h0] <;> simp
  by_cases h : a ≤ c
  · have := Int.mul_nonneg (show 0 ≤ c - a by omega) (show 0 ≤ b - c by omega)
    have e : (c - a) * (b - c) = -((c - a) * (c - b)) := by grind
    omega
  · have := Int.mul_nonneg (show 0 ≤ a - c by omega) (show 0 ≤ c - b by omega)
    have e : (a - c) * (c - b) = -((c - a) * (c - b)) := by grind
    omega
/-- P on the line through A and B with its x between theirs, which differ: its y is between too -/
theorem geo_y {ax ay bx b2 px py : Int} (hc : crs ax ay bx b2 px py = 0) (hx : ax ≠ bx) (h : (px - ax) * (px - bx) ≤ 0) : (py - ay) * (py - b2) ≤ 0 := by
  unfold crs at hc
  have e : (bx - ax) * (bx - ax) * ((py - ay) * (py - b2)) = (b2 - ay) * (b2 - ay) * ((px - ax) * (px - bx)) := by grind
  have s1 : 0 < (bx - ax) * (bx - ax) := by
    by_cases hlt : ax < bx
    · exact Int.mul_pos (by omega) (by omega)
    · have := Int.mul_pos (show 0 < ax - bx by omega) (show 0 < ax - bx by omega)
      have e : (ax - bx) * (ax - bx) = (bx - ax) * (bx - ax) := by grind
      omega
  have s2 : 0 ≤ (b2 - ay) * (b2 - ay) := sqn _
  have le := Int.mul_nonneg s2 (show 0 ≤ -((px - ax) * (px - bx)) by omega)
  have e2 : (b2 - ay) * (b2 - ay) * -((px - ax) * (px - bx)) = -((b2 - ay) * (b2 - ay) * ((px - ax) * (px - bx))) := by grind
  refine Int.not_lt.mp fun hlt => ?_
  have := Int.mul_pos s1 hlt
  omega
def onn (ax ay bx b2 px py : Int) : Prop := crs ax ay bx b2 px py = 0 ∧ (px - ax) * (px - bx) ≤ 0 ∧ (py - ay) * (py - b2) ≤ 0
def gmeet (ax ay bx b2 cx cy dx dy : Int) : Prop := spn ax bx cx dx ∧ spn ay b2 cy dy ∧ crs cx cy dx dy ax ay * crs cx cy dx dy bx b2 ≤ 0 ∧ crs ax ay bx b2 cx cy * crs ax ay bx b2 dx dy ≤ 0
def gtch (ax ay bx b2 cx cy dx dy : Int) : Prop := onn ax ay bx b2 cx cy ∨ onn ax ay bx b2 dx dy ∨ onn cx cy dx dy ax ay ∨ onn cx cy dx dy bx b2 ∨ (crs ax ay bx b2 cx cy * crs ax ay bx b2 dx dy < 0 ∧ crs cx cy dx dy ax ay * crs cx cy dx dy bx b2 < 0)
theorem gmeet_comm {ax ay bx b2 cx cy dx dy : Int} : gmeet ax ay bx b2 cx cy dx dy ↔ gmeet cx cy dx dy ax ay bx b2 := by
  unfold gmeet spn
  constructor <;> rintro ⟨h1, h2, h3, h4⟩ <;> exact ⟨by omega, by omega, h4, h3⟩
theorem gmeet_swap {ax ay bx b2 cx cy dx dy : Int} (h : gmeet ax ay bx b2 cx cy dx dy) : gmeet bx b2 ax ay cx cy dx dy := by
  obtain ⟨h1, h2, h3, h4⟩ := h
  refine ⟨by unfold spn at *; omega, by unfold spn at *; omega, by rw [Int.mul_comm]; exact h3, ?_⟩
  have e : crs bx b2 ax ay cx cy * crs bx b2 ax ay dx dy = crs ax ay bx b2 cx cy * crs ax ay bx b2 dx dy := by unfold crs; grind
  rw [e]; exact h4
theorem geo_on {ax ay bx b2 cx cy dx dy : Int} (h : onn ax ay bx b2 cx cy) : gmeet ax ay bx b2 cx cy dx dy := by
  obtain ⟨h1, h2, h3⟩ := h
  have x1 := geo_btw h2
  have y1 := geo_btw h3
  refine ⟨by unfold spn; omega, by unfold spn; omega, ?_, by rw [h1]; omega⟩
  have := geo_q (ux := ax - cx) (uy := ay - cy) (vx := bx - cx) (vy := b2 - cy) (wx := dx - cx) (wy := dy - cy) (by unfold crs at h1; grind) (by
    have e : (ax - cx) * (bx - cx) = (cx - ax) * (cx - bx) := by grind
    omega) (by
    have e : (ay - cy) * (b2 - cy) = (cy - ay) * (cy - b2) := by grind
    omega)
  exact this
theorem geo_cross {ax ay bx b2 cx cy dx dy : Int} (h1 : crs ax ay bx b2 cx cy * crs ax ay bx b2 dx dy < 0) (h2 : crs cx cy dx dy ax ay * crs cx cy dx dy bx b2 < 0) : spn ax bx cx dx := by
  have id1 : crs cx cy dx dy ax ay * bx - crs cx cy dx dy bx b2 * ax = crs ax ay bx b2 dx dy * cx - crs ax ay bx b2 cx cy * dx := by unfold crs; grind
  have id2 : crs cx cy dx dy ax ay - crs cx cy dx dy bx b2 = crs ax ay bx b2 dx dy - crs ax ay bx b2 cx cy := by unfold crs; grind
  generalize crs cx cy dx dy ax ay = s1 at *
  generalize crs cx cy dx dy bx b2 = s2 at *
  generalize crs ax ay bx b2 cx cy = t1 at *
  generalize crs ax ay bx b2 dx dy = t2 at *
  have key : ∀ {a b c d s1 s2 t1 t2 : Int}, s1 * b - s2 * a = t2 * c - t1 * d → s1 - s2 = t2 - t1 → 0 < s1 → s2 < 0 → 0 < t2 → t1 < 0 → spn a b c d := by
    intro a b c d s1 s2 t1 t2 id1 id2 p1 p2 p3 p4
    unfold spn
    refine Int.not_lt.mp fun hlt => ?_
    by_cases hh : max a b < min c d
    · have u1 := Int.mul_le_mul_of_nonneg_left (show b ≤ max a b by omega) (Int.le_of_lt p1)
      have u2 := Int.mul_le_mul_of_nonneg_left (show a ≤ max a b by omega) (show 0 ≤ -s2 by omega)
      have u3 := Int.mul_le_mul_of_nonneg_left (show min c d ≤ c by omega) (Int.le_of_lt p3)
      have u4 := Int.mul_le_mul_of_nonneg_left (show min c d ≤ d by omega) (show 0 ≤ -t1 by omega)
      have u5 := Int.mul_lt_mul_of_pos_left hh (show 0 < s1 - s2 by omega)
      have e5 : (s1 - s2) * max a b = s1 * max a b + -s2 * max a b := by grind
      have e6 : (s1 - s2) * min c d = t2 * min c d + -t1 * min c d := by rw [id2]; grind
      have e7 : -s2 * a = -(s2 * a) := by grind
      have e8 : -t1 * d = -(t1 * d) := by grind
      omega
    · have hh : max c d < min a b := by omega
      have u1 := Int.mul_le_mul_of_nonneg_left (show min a b ≤ b by omega) (Int.le_of_lt p1)
      have u2 := Int.mul_le_mul_of_nonneg_left (show min a b ≤ a by omega) (show 0 ≤ -s2 by omega)
      have u3 := Int.mul_le_mul_of_nonneg_left (show c ≤ max c d by omega) (Int.le_of_lt p3)
      have u4 := Int.mul_le_mul_of_nonneg_left (show d ≤ max c d by omega) (show 0 ≤ -t1 by omega)
      have u5 := Int.mul_lt_mul_of_pos_left hh (show 0 < s1 - s2 by omega)
      have e5 : (s1 - s2) * min a b = s1 * min a b + -s2 * min a b := by grind
      have e6 : (s1 - s2) * max c d = t2 * max c d + -t1 * max c d := by rw [id2]; grind
      have e7 : -s2 * a = -(s2 * a) := by grind
      have e8 : -t1 * d = -(t1 * d) := by grind
      omega
  have sg : ∀ {x y : Int}, x * y < 0 → (0 < x ∧ y < 0) ∨ (x < 0 ∧ 0 < y) := by
    intro x y h
    rcases Int.lt_trichotomy x 0 with hx | hx | hx
    · right
      refine ⟨hx, Int.not_le.mp fun hy => ?_⟩
      have := Int.mul_nonneg (show 0 ≤ -x by omega) (show 0 ≤ -y by omega)
      rw [Int.neg_mul_neg] at this
      omega
    · rw [hx] at h; omega
    · left
      refine ⟨hx, Int.not_le.mp fun hy => ?_⟩
      have := Int.mul_nonneg (Int.le_of_lt hx) hy
      omega
  rcases sg h2 with ⟨p1, p2⟩ | ⟨p1, p2⟩ <;> rcases sg h1 with ⟨p3, p4⟩ | ⟨p3, p4⟩
  · omega
  · exact key id1 id2 p1 p2 p4 p3
  · exact key (s1 := -s1) (s2 := -s2) (t1 := -t1) (t2 := -t2) (by grind) (by omega) (by omega) (by omega) (by omega) (by omega)
  · omega
theorem geo_tm {ax ay bx b2 cx cy dx dy : Int} (h : gtch ax ay bx b2 cx cy dx dy) : gmeet ax ay bx b2 cx cy dx dy := by
  rcases h with h | h | h | h | ⟨h1, h2⟩
  · exact geo_on h
  · exact gmeet_comm.mp (gmeet_swap (gmeet_comm.mp (geo_on h)))
  · exact gmeet_comm.mp (geo_on h)
  · exact gmeet_swap (gmeet_comm.mp (geo_on h))
  · refine ⟨geo_cross h1 h2, ?_, Int.le_of_lt h2, Int.le_of_lt h1⟩
    have f : ∀ a b c d p q : Int, crs b a d c q p = - crs a b c d p q := by intro a b c d p q; unfold crs; grind
    refine geo_cross (ax := ay) (ay := ax) (bx := b2) (b2 := bx) (cx := cy) (cy := cx) (dx := dy) (dy := dx) ?_ ?_
    · rw [f ax ay bx b2 cx cy, f ax ay bx b2 dx dy, Int.neg_mul_neg]; exact h1
    · rw [f cx cy dx dy ax ay, f cx cy dx dy bx b2, Int.neg_mul_neg]; exact h2
/-- one end on the other's line, the other end not: it is between -/
theorem geo_one {ax ay bx b2 cx cy dx dy : Int} (h1 : crs cx cy dx dy ax ay = 0) (h2 : crs cx cy dx dy bx b2 ≠ 0) (h : crs ax ay bx b2 cx cy * crs ax ay bx b2 dx dy ≤ 0) : onn cx cy dx dy ax ay := by
  have id2 : crs cx cy dx dy ax ay - crs cx cy dx dy bx b2 = crs ax ay bx b2 dx dy - crs ax ay bx b2 cx cy := by unfold crs; grind
  have hn : ¬ (crs ax ay bx b2 cx cy = 0 ∧ crs ax ay bx b2 dx dy = 0) := by omega
  refine ⟨h1, ?_, ?_⟩
  · have := geo_r (ux := cx - ax) (uy := cy - ay) (vx := dx - ax) (vy := dy - ay) (wx := bx - ax) (wy := b2 - ay) (by unfold crs at h1; grind) (by unfold crs at h; exact h) (by unfold crs at hn; exact hn)
    have e : (cx - ax) * (dx - ax) = (ax - cx) * (ax - dx) := by grind
    omega
  · have := geo_r (ux := cy - ay) (uy := cx - ax) (vx := dy - ay) (vy := dx - ax) (wx := b2 - ay) (wy := bx - ax) (by unfold crs at h1; grind) (by unfold crs at h; grind) (by unfold crs at hn; grind)
    have e : (cy - ay) * (dy - ay) = (ay - cy) * (ay - dy) := by grind
    omega
theorem geo_mt {ax ay bx b2 cx cy dx dy : Int} (hab : ¬ (ax = bx ∧ ay = b2)) (hcd : ¬ (cx = dx ∧ cy = dy)) (h : gmeet ax ay bx b2 cx cy dx dy) : gtch ax ay bx b2 cx cy dx dy := by
  obtain ⟨hx, hy, hs, ht⟩ := h
  unfold gtch
  have id2 : crs cx cy dx dy ax ay - crs cx cy dx dy bx b2 = crs ax ay bx b2 dx dy - crs ax ay bx b2 cx cy := by unfold crs; grind
  have nz : ∀ {x y : Int}, x * y ≤ 0 → x ≠ 0 → y ≠ 0 → x * y < 0 := by
    intro x y h h1 h2
    have : x * y ≠ 0 := fun e => by rcases Int.mul_eq_zero.mp e with e | e <;> contradiction
    omega
  by_cases s1 : crs cx cy dx dy ax ay = 0
  · by_cases s2 : crs cx cy dx dy bx b2 = 0
    · -- all on one line
      have t12 : crs ax ay bx b2 cx cy = crs ax ay bx b2 dx dy := by omega
      have t1 : crs ax ay bx b2 cx cy = 0 := by
        rw [← t12] at ht
        have := sqn (crs ax ay bx b2 cx cy)
        have : crs ax ay bx b2 cx cy * crs ax ay bx b2 cx cy = 0 := by omega
        rcases Int.mul_eq_zero.mp this with h | h <;> exact h
      have t2 : crs ax ay bx b2 dx dy = 0 := by omega
      by_cases hv : ax = bx
      · have hcd' : cx = dx := by
          have : (dx - cx) * (ay - b2) = 0 := by unfold crs at s1 s2; grind
          rcases Int.mul_eq_zero.mp this with h | h <;> omega
        have hac : ax = cx := by
          have : (dy - cy) * (ax - cx) = 0 := by unfold crs at s1; grind
          rcases Int.mul_eq_zero.mp this with h | h <;> omega
        unfold spn at hy
        have z : ∀ p q r : Int, p = q → (p - q) * (p - r) ≤ 0 := by intro p q r h; rw [h]; simp
        by_cases c1 : min ay b2 ≤ cy ∧ cy ≤ max ay b2
        · exact .inl ⟨t1, z _ _ _ (by omega), geo_btw2 c1.1 c1.2⟩
        · by_cases c2 : min ay b2 ≤ dy ∧ dy ≤ max ay b2
          · exact .inr (.inl ⟨t2, z _ _ _ (by omega), geo_btw2 c2.1 c2.2⟩)
          · exact .inr (.inr (.inl ⟨s1, z _ _ _ (by omega), geo_btw2 (by omega) (by omega)⟩))
      · have hcd' : cx ≠ dx := by
          intro e
          have h1 : (dy - cy) * (ax - cx) = 0 := by unfold crs at s1; grind
          have h2 : (dy - cy) * (bx - cx) = 0 := by unfold crs at s2; grind
          rcases Int.mul_eq_zero.mp h1 with h | h
          · omega
          · rcases Int.mul_eq_zero.mp h2 with h' | h' <;> omega
        unfold spn at hx
        by_cases c1 : min ax bx ≤ cx ∧ cx ≤ max ax bx
        · have := geo_btw2 c1.1 c1.2
          exact .inl ⟨t1, this, geo_y t1 hv this⟩
        · by_cases c2 : min ax bx ≤ dx ∧ dx ≤ max ax bx
          · have := geo_btw2 c2.1 c2.2
            exact .inr (.inl ⟨t2, this, geo_y t2 hv this⟩)
          · have := geo_btw2 (a := cx) (b := dx) (c := ax) (by omega) (by omega)
            exact .inr (.inr (.inl ⟨s1, this, geo_y s1 hcd' this⟩))
    · exact .inr (.inr (.inl (geo_one s1 s2 ht)))
  · by_cases s2 : crs cx cy dx dy bx b2 = 0
    · have e : crs bx b2 ax ay cx cy * crs bx b2 ax ay dx dy = crs ax ay bx b2 cx cy * crs ax ay bx b2 dx dy := by unfold crs; grind
      exact .inr (.inr (.inr (.inl (geo_one s2 s1 (by rw [e]; exact ht)))))
    · by_cases t1 : crs ax ay bx b2 cx cy = 0
      · by_cases t2 : crs ax ay bx b2 dx dy = 0
        · have e : crs cx cy dx dy ax ay = crs cx cy dx dy bx b2 := by omega
          rw [← e] at hs
          have := sqn (crs cx cy dx dy ax ay)
          have : crs cx cy dx dy ax ay * crs cx cy dx dy ax ay = 0 := by omega
          rcases Int.mul_eq_zero.mp this with h | h <;> contradiction
        · exact .inl (geo_one t1 t2 hs)
      · by_cases t2 : crs ax ay bx b2 dx dy = 0
        · have e : crs dx dy cx cy ax ay * crs dx dy cx cy bx b2 = crs cx cy dx dy ax ay * crs cx cy dx dy bx b2 := by unfold crs; grind
          exact .inr (.inl (geo_one t2 t1 (by rw [e]; exact hs)))
        · exact .inr (.inr (.inr (.inr ⟨nz ht t1 t2, nz hs s1 s2⟩)))
theorem geo_iff {ax ay bx b2 cx cy dx dy : Int} (hab : ¬ (ax = bx ∧ ay = b2)) (hcd : ¬ (cx = dx ∧ cy = dy)) : gtch ax ay bx b2 cx cy dx dy ↔ gmeet ax ay bx b2 cx cy dx dy := ⟨geo_tm, geo_mt hab hcd⟩
/-- a line touches itself -/
theorem geo_self {ax ay bx b2 : Int} : gtch ax ay bx b2 ax ay bx b2 := .inl ⟨by unfold crs; simp, by simp, by simp⟩
