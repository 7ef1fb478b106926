/-! what the small functions answer -/
section SC
variable {t n nb nw : Nat} {M N : zM} {s : Nat → Int32}
theorem m_hs0 (x : Nat) : fX10_houseSpot (nI x) 0 = some (nI (3 + 2 * x)) := by
  show some ((nI 3 + nI 2 * nI x) + nI 0) = _
  rw [pk_mul, nI_add, nI_add]; rfl
theorem m_hs1 (x : Nat) : fX10_houseSpot (nI x) 1 = some (nI (3 + 2 * x + 1)) := by
  show some ((nI 3 + nI 2 * nI x) + nI 1) = _
  rw [pk_mul, nI_add, nI_add]
theorem m_bs (x i : Nat) : fX10_beardSpot (nI x) (nI i) = some (nI (15 + 4 * x + i)) := by
  show some ((nI 15 + nI 4 * nI x) + nI i) = _
  rw [pk_mul, nI_add, nI_add]
theorem m_bs0 (x : Nat) : fX10_beardSpot (nI x) 0 = some (nI (15 + 4 * x)) := m_bs x 0
theorem m_bs1 (x : Nat) : fX10_beardSpot (nI x) 1 = some (nI (15 + 4 * x + 1)) := m_bs x 1
theorem m_bs2 (x : Nat) : fX10_beardSpot (nI x) 2 = some (nI (15 + 4 * x + 2)) := m_bs x 2
theorem m_bs3 (x : Nat) : fX10_beardSpot (nI x) 3 = some (nI (15 + 4 * x + 3)) := m_bs x 3
theorem m_ws (x i : Nat) : fX10_wearerSpot (nI x) (nI i) = some (nI (47 + 2 * x + i)) := by
  show some ((nI 47 + nI 2 * nI x) + nI i) = _
  rw [pk_mul, nI_add, nI_add]
theorem m_ws0 (x : Nat) : fX10_wearerSpot (nI x) 0 = some (nI (47 + 2 * x)) := m_ws x 0
theorem m_ws1 (x : Nat) : fX10_wearerSpot (nI x) 1 = some (nI (47 + 2 * x + 1)) := m_ws x 1
theorem ix59 {p : Nat} (h : p < 59) : zix (nI p) 59 = some p := zix_nI h (by decide)
theorem m_h0 {x : Nat} (h : x < 6) : fX10_house N (nI x) 0 = some (N.1 1 (3 + 2 * x)) := by
  unfold fX10_house; rw [m_hs0, z_bs, ix59 (by omega), z_bs]
theorem m_h1 {x : Nat} (h : x < 6) : fX10_house N (nI x) 1 = some (N.1 1 (3 + 2 * x + 1)) := by
  unfold fX10_house; rw [m_hs1, z_bs, ix59 (by omega), z_bs]
theorem m_i {x i : Nat} (h : x < 8) (hi : i < 4) : fX10_its N (nI x) (nI i) = some (N.1 1 (15 + 4 * x + i)) := by
  unfold fX10_its; rw [m_bs, z_bs, ix59 (by omega), z_bs]
theorem m_i0 {x : Nat} (h : x < 8) : fX10_its N (nI x) 0 = some (N.1 1 (15 + 4 * x)) := m_i h (by decide)
theorem m_i1 {x : Nat} (h : x < 8) : fX10_its N (nI x) 1 = some (N.1 1 (15 + 4 * x + 1)) := m_i h (by decide)
theorem m_i2 {x : Nat} (h : x < 8) : fX10_its N (nI x) 2 = some (N.1 1 (15 + 4 * x + 2)) := m_i h (by decide)
theorem m_i3 {x : Nat} (h : x < 8) : fX10_its N (nI x) 3 = some (N.1 1 (15 + 4 * x + 3)) := m_i h (by decide)
theorem m_t {x i : Nat} (h : x < 6) (hi : i < 2) : fX10_theirs N (nI x) (nI i) = some (N.1 1 (47 + 2 * x + i)) := by
  unfold fX10_theirs; rw [m_ws, z_bs, ix59 (by omega), z_bs]
theorem m_t0 {x : Nat} (h : x < 6) : fX10_theirs N (nI x) 0 = some (N.1 1 (47 + 2 * x)) := m_t h (by decide)
theorem m_t1 {x : Nat} (h : x < 6) : fX10_theirs N (nI x) 1 = some (N.1 1 (47 + 2 * x + 1)) := m_t h (by decide)
def aMon (x : Int32) : Int32 := if zrem x 7 = 0 then 1 else 0
theorem c_mon : fX7_isMonday M t = some (aMon (M.1 t 1)) := by
  unfold fX7_isMonday aMon
  by_cases h : zrem (M.1 t 1) 7 = 0
  · rw [if_pos h, if_pos h]; rfl
  · rw [if_neg h, if_neg h]; rfl
theorem m_mon : fX10_isMonday N = some (aMon (N.1 1 0)) := by
  unfold fX10_isMonday aMon
  by_cases h : zrem (N.1 1 0) 7 = 0
  · rw [if_pos h, if_pos h]; rfl
  · rw [if_neg h, if_neg h]; rfl
theorem zrem6 {n r : Nat} (h : n + r < 2 ^ 31) : zrem (nI n + nI r) 6 = nI ((n + r) % 6) := by
  rw [nI_add]; exact pk_rem h (by decide) (by decide)
theorem c_house {w : Nat} (hw : w < 6) : fX7_houseTonight M t (nI w) = some (zrem (M.1 t 1 + M.1 (t + 6) w) 6) := by
  unfold fX7_houseTonight; rw [zix_nI hw (by decide), z_bs]
theorem m_place {w : Nat} (hw : w < 6) : fX10_placeOf N (nI w) = some (zrem (N.1 1 0 + N.1 1 (47 + 2 * w + 1)) 6) := by
  unfold fX10_placeOf; rw [m_t1 hw, z_bs]
def aCost (k : Nat) (f h : Int32) : Int32 := match k with
  | 0 => 5
  | 1 => 5 + f / 10
  | 2 => 12
  | 3 => 2
  | 4 => 2 * (5 + f / 10)
  | _ => 12 + h / 50
theorem k6 {k : Nat} {P : Nat → Prop} (hk : k < 6) (h0 : P 0) (h1 : P 1) (h2 : P 2) (h3 : P 3) (h4 : P 4) (h5 : P 5) : P k := by
  rcases (show k = 0 ∨ k = 1 ∨ k = 2 ∨ k = 3 ∨ k = 4 ∨ k = 5 by omega) with rfl | rfl | rfl | rfl | rfl | rfl <;> assumption
theorem c_cost {k : Nat} (hk : k < 6) (f h : Int32) : qcosts k f h = some (aCost k f h) :=
  k6 (P := fun k => qcosts k f h = some (aCost k f h)) hk rfl rfl rfl rfl rfl rfl
theorem m_cost {b k : Nat} (hb : b < 8) (hk : k < 6) (e : N.1 1 (15 + 4 * b) = nI k) : fX10_costsOf N (nI b) = some (aCost k (N.1 1 (15 + 4 * b + 1)) (N.1 1 (15 + 4 * b + 2))) := by
  revert e
  refine k6 (P := fun k => N.1 1 (15 + 4 * b) = nI k → fX10_costsOf N (nI b) = some (aCost k (N.1 1 (15 + 4 * b + 1)) (N.1 1 (15 + 4 * b + 2)))) hk ?_ ?_ ?_ ?_ ?_ ?_ <;>
  · intro e
    simp only [fX10_costsOf, m_i1 hb, z_bs, m_i0 hb, m_i2 hb, e]
    rfl
def aG (p f : Int32) : Int32 := if f ≤ 50 then p else p - 4
def aWh (p : Int32) : Int32 := if p ≤ 0 then -6 else p
def aMeets (k : Nat) (m p f : Int32) : Int32 := match k with
  | 0 => p
  | 1 => aG p f
  | 2 => aWh p
  | 3 => p + 1
  | 4 => if m ≤ 20 then aG p f else aG p f + 10
  | _ => 2 * aWh p
def aPl (x m : Int32) : Int32 := if x = 0 then 0 else m / 10
theorem c_meets {k : Nat} (hk : k < 6) (m x f : Int32) : qmeets k m x f = some (aMeets k m (aPl x m) f) := by
  have e2 : fX2_meets m x f = some (aPl x m) := by
    unfold fX2_meets aPl
    by_cases h : x = 0
    · rw [if_pos h, if_pos h]
    · rw [if_neg h, if_neg h]
  have e0 : fX0_meets m x f = some (aG (aPl x m) f) := by
    unfold fX0_meets aG
    rw [e2, z_bs]
    by_cases h : f ≤ 50
    · rw [if_pos h, if_pos h]
    · rw [if_neg h, if_neg h]
  have e8 : fX8_meets m x f = some (aWh (aPl x m)) := by
    unfold fX8_meets aWh
    rw [e2, z_bs]
    by_cases h : aPl x m ≤ 0
    · rw [if_pos h, if_pos h]
    · rw [if_neg h, if_neg h]
  refine k6 (P := fun k => qmeets k m x f = some (aMeets k m (aPl x m) f)) hk e2 e0 e8 ?_ ?_ ?_
  · show fX3_meets m x f = _
    unfold fX3_meets; rw [e2, z_bs]; rfl
  · show fX1_meets m x f = some (if m ≤ 20 then aG (aPl x m) f else aG (aPl x m) f + 10)
    unfold fX1_meets; rw [e0, z_bs]
    by_cases h : m ≤ 20
    · rw [if_pos h, if_pos h]
    · rw [if_neg h, if_neg h]
  · show fX4_meets m x f = _
    unfold fX4_meets; rw [e8, z_bs]; rfl
theorem m_meets {b k x : Nat} (hb : b < 8) (hx : x < 6) (hk : k < 6) (e : N.1 1 (15 + 4 * b) = nI k) : fX10_meetsOf N (nI b) (nI x) = some (aMeets k (N.1 1 (3 + 2 * x + 1)) (if N.1 1 (3 + 2 * x) = nI b then N.1 1 (3 + 2 * x + 1) / 10 else 0) (N.1 1 (15 + 4 * b + 1))) := by
  revert e
  generalize e3 : (if N.1 1 (3 + 2 * x) = nI b then N.1 1 (3 + 2 * x + 1) / 10 else 0) = p
  refine k6 (P := fun k => N.1 1 (15 + 4 * b) = nI k → fX10_meetsOf N (nI b) (nI x) = some (aMeets k (N.1 1 (3 + 2 * x + 1)) p (N.1 1 (15 + 4 * b + 1)))) hk ?_ ?_ ?_ ?_ ?_ ?_ <;>
  · intro e
    simp only [fX10_meetsOf, m_h1 hx, m_h0 hx, m_i1 hb, m_i0 hb, z_bs, zj_e, e, aMeets, aG, aWh]
    by_cases h0 : N.1 1 (3 + 2 * x) = nI b
    · rw [if_pos h0] at e3
      rw [if_pos h0]
      rw [e3]
      by_cases h1 : N.1 1 (15 + 4 * b + 1) ≤ 50 <;> by_cases h2 : p ≤ 0 <;> by_cases h3 : N.1 1 (3 + 2 * x + 1) ≤ 20 <;> simp only [h1, h2, h3, if_true, if_false] <;> rfl
    · rw [if_neg h0] at e3
      rw [if_neg h0]
      subst e3
      by_cases h1 : N.1 1 (15 + 4 * b + 1) ≤ 50 <;> by_cases h3 : N.1 1 (3 + 2 * x + 1) ≤ 20 <;> simp only [h1, h3, if_true, if_false] <;> rfl
def aLg (f : Int32) : Int32 := if f ≤ 50 then 3 else -5
def aLeaves (k : Nat) (f : Int32) : Int32 := match k with
  | 0 => 3
  | 1 => aLg f
  | 2 => 7
  | 3 => 1
  | 4 => aLg f + 1
  | _ => 7
theorem c_leaves {k : Nat} (hk : k < 6) (f : Int32) : qleaves k f = some (aLeaves k f) := by
  have e0 : fX0_leaves f = some (aLg f) := by
    unfold fX0_leaves aLg
    by_cases h : f ≤ 50
    · rw [if_pos h, if_pos h]; rfl
    · rw [if_neg h, if_neg h]
  refine k6 (P := fun k => qleaves k f = some (aLeaves k f)) hk rfl e0 rfl rfl ?_ rfl
  show fX1_leaves f = _
  unfold fX1_leaves; rw [e0]; rfl
theorem m_leaves {b k : Nat} (hb : b < 8) (hk : k < 6) (e : N.1 1 (15 + 4 * b) = nI k) : fX10_leavesOf N (nI b) = some (aLeaves k (N.1 1 (15 + 4 * b + 1))) := by
  revert e
  refine k6 (P := fun k => N.1 1 (15 + 4 * b) = nI k → fX10_leavesOf N (nI b) = some (aLeaves k (N.1 1 (15 + 4 * b + 1)))) hk ?_ ?_ ?_ ?_ ?_ ?_ <;>
  · intro e
    simp only [fX10_leavesOf, m_i1 hb, m_i0 hb, z_bs, zj_e, e, aLeaves, aLg]
    by_cases h1 : N.1 1 (15 + 4 * b + 1) ≤ 50 <;> simp only [h1, if_true, if_false] <;> rfl
def aGains (k : Nat) (d : Int32) : Int32 := match k with
  | 0 => 1
  | 1 => 3
  | 2 => 1
  | 3 => 0
  | 4 => if d = 0 then 3 else 0
  | _ => -1
theorem c_gains {k : Nat} (hk : k < 6) (d : Int32) : qgains k d = some (aGains k d) := by
  refine k6 (P := fun k => qgains k d = some (aGains k d)) hk rfl rfl rfl rfl ?_ rfl
  show fX1_gains d = some (if d = 0 then 3 else 0)
  unfold fX1_gains
  by_cases h : d = 0
  · rw [if_pos h, if_pos h]; rfl
  · rw [if_neg h, if_neg h]
theorem m_gains {b k : Nat} (hb : b < 8) (hk : k < 6) (e : N.1 1 (15 + 4 * b) = nI k) : fX10_gainsOf N (nI b) = some (aGains k (aMon (N.1 1 0))) := by
  revert e
  refine k6 (P := fun k => N.1 1 (15 + 4 * b) = nI k → fX10_gainsOf N (nI b) = some (aGains k (aMon (N.1 1 0)))) hk ?_ ?_ ?_ ?_ ?_ ?_ <;>
  · intro e
    simp only [fX10_gainsOf, m_i0 hb, z_bs, e, aGains, m_mon]
    by_cases h1 : aMon (N.1 1 0) = 0 <;> simp only [h1, if_true, if_false] <;> rfl
def aHeld (v lo hi : Int32) : Int32 := if lo ≤ v then (if v ≤ hi then v else hi) else lo
theorem m_held (v lo hi : Int32) : fX10_held v lo hi = some (aHeld v lo hi) := by
  unfold fX10_held aHeld
  by_cases h : lo ≤ v
  · rw [if_pos h, if_pos h]
    by_cases h2 : v ≤ hi
    · rw [if_pos h2, if_pos h2]
    · rw [if_neg h2, if_neg h2]
  · rw [if_neg h, if_neg h]
theorem i_le {a b : Int32} : a ≤ b ↔ a.toInt ≤ b.toInt := Int32.le_iff_toInt_le
theorem i_lt {a b : Int32} : a < b ↔ a.toInt < b.toInt := Int32.lt_iff_toInt_lt
theorem c_held (v lo hi : Int32) (hl : lo ≤ hi) : fX7_held v lo hi = some (aHeld v lo hi) := by
  unfold fX7_held aHeld zmax zmin
  congr 1
  rw [i_le] at hl
  by_cases h1 : lo ≤ v
  · rw [if_pos h1]
    by_cases h2 : v ≤ hi
    · rw [if_pos h2]
      rw [i_le] at h1 h2
      by_cases h3 : v < hi
      · rw [if_pos h3]
        by_cases h4 : lo < v
        · rw [if_pos h4]
        · rw [if_neg h4]; rw [i_lt] at h4; exact Int32.toInt_inj.mp (by omega)
      · rw [if_neg h3]
        rw [i_lt] at h3
        have e : hi = v := Int32.toInt_inj.mp (by omega)
        subst e
        by_cases h4 : lo < hi
        · rw [if_pos h4]
        · rw [if_neg h4]; rw [i_lt] at h4; exact Int32.toInt_inj.mp (by omega)
    · rw [if_neg h2]
      rw [i_le] at h1 h2
      rw [if_neg (show ¬ v < hi by rw [i_lt]; omega)]
      by_cases h4 : lo < hi
      · rw [if_pos h4]
      · rw [if_neg h4]; rw [i_lt] at h4; exact Int32.toInt_inj.mp (by omega)
  · rw [if_neg h1]
    rw [i_le] at h1
    rw [if_pos (show v < hi by rw [i_lt]; omega), if_neg (show ¬ lo < v by rw [i_lt]; omega)]
theorem held_pos (v hi : Int32) (hh : ¬ hi < 0) : ¬ aHeld v 0 hi < 0 := by
  unfold aHeld
  by_cases h1 : (0 : Int32) ≤ v
  · rw [if_pos h1]
    by_cases h2 : v ≤ hi
    · rw [if_pos h2]; rw [i_le] at h1; rw [i_lt]; omega
    · rw [if_neg h2]; exact hh
  · rw [if_neg h1]; decide
end SC
