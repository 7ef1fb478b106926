/-! a night out, and a night -/
section SD
variable {t n nb nw : Nat} {M N : zM} {s : Nat → Int32}
theorem zr_0_1 {x y : Nat} {v : Int32} : (zst M (t + 1) x v).1 t y = M.1 t y := congrFun (zst_ne t (by omega)).1 y
theorem zr_0_2 {x y : Nat} {v : Int32} : (zst M (t + 2) x v).1 t y = M.1 t y := congrFun (zst_ne t (by omega)).1 y
theorem zr_0_3 {x y : Nat} {v : Int32} : (zst M (t + 3) x v).1 t y = M.1 t y := congrFun (zst_ne t (by omega)).1 y
theorem zr_0_4 {x y : Nat} {v : Int32} : (zst M (t + 4) x v).1 t y = M.1 t y := congrFun (zst_ne t (by omega)).1 y
theorem zr_0_5 {x y : Nat} {v : Int32} : (zst M (t + 5) x v).1 t y = M.1 t y := congrFun (zst_ne t (by omega)).1 y
theorem zr_0_6 {x y : Nat} {v : Int32} : (zst M (t + 6) x v).1 t y = M.1 t y := congrFun (zst_ne t (by omega)).1 y
theorem zr_0_7 {x y : Nat} {v : Int32} : (zst M (t + 7) x v).1 t y = M.1 t y := congrFun (zst_ne t (by omega)).1 y
theorem zr_0_8 {x y : Nat} {v : Int32} : (zst M (t + 8) x v).1 t y = M.1 t y := congrFun (zst_ne t (by omega)).1 y
theorem zr_0_9 {x y : Nat} {v : Int32} : (zst M (t + 9) x v).1 t y = M.1 t y := congrFun (zst_ne t (by omega)).1 y
theorem zr_1_0 {x y : Nat} {v : Int32} : (zst M t x v).1 (t + 1) y = M.1 (t + 1) y := congrFun (zst_ne (t + 1) (by omega)).1 y
theorem zr_1_2 {x y : Nat} {v : Int32} : (zst M (t + 2) x v).1 (t + 1) y = M.1 (t + 1) y := congrFun (zst_ne (t + 1) (by omega)).1 y
theorem zr_1_3 {x y : Nat} {v : Int32} : (zst M (t + 3) x v).1 (t + 1) y = M.1 (t + 1) y := congrFun (zst_ne (t + 1) (by omega)).1 y
theorem zr_1_4 {x y : Nat} {v : Int32} : (zst M (t + 4) x v).1 (t + 1) y = M.1 (t + 1) y := congrFun (zst_ne (t + 1) (by omega)).1 y
theorem zr_1_5 {x y : Nat} {v : Int32} : (zst M (t + 5) x v).1 (t + 1) y = M.1 (t + 1) y := congrFun (zst_ne (t + 1) (by omega)).1 y
theorem zr_1_6 {x y : Nat} {v : Int32} : (zst M (t + 6) x v).1 (t + 1) y = M.1 (t + 1) y := congrFun (zst_ne (t + 1) (by omega)).1 y
theorem zr_1_7 {x y : Nat} {v : Int32} : (zst M (t + 7) x v).1 (t + 1) y = M.1 (t + 1) y := congrFun (zst_ne (t + 1) (by omega)).1 y
theorem zr_1_8 {x y : Nat} {v : Int32} : (zst M (t + 8) x v).1 (t + 1) y = M.1 (t + 1) y := congrFun (zst_ne (t + 1) (by omega)).1 y
theorem zr_1_9 {x y : Nat} {v : Int32} : (zst M (t + 9) x v).1 (t + 1) y = M.1 (t + 1) y := congrFun (zst_ne (t + 1) (by omega)).1 y
theorem zr_2_0 {x y : Nat} {v : Int32} : (zst M t x v).1 (t + 2) y = M.1 (t + 2) y := congrFun (zst_ne (t + 2) (by omega)).1 y
theorem zr_2_1 {x y : Nat} {v : Int32} : (zst M (t + 1) x v).1 (t + 2) y = M.1 (t + 2) y := congrFun (zst_ne (t + 2) (by omega)).1 y
theorem zr_2_3 {x y : Nat} {v : Int32} : (zst M (t + 3) x v).1 (t + 2) y = M.1 (t + 2) y := congrFun (zst_ne (t + 2) (by omega)).1 y
theorem zr_2_4 {x y : Nat} {v : Int32} : (zst M (t + 4) x v).1 (t + 2) y = M.1 (t + 2) y := congrFun (zst_ne (t + 2) (by omega)).1 y
theorem zr_2_5 {x y : Nat} {v : Int32} : (zst M (t + 5) x v).1 (t + 2) y = M.1 (t + 2) y := congrFun (zst_ne (t + 2) (by omega)).1 y
theorem zr_2_6 {x y : Nat} {v : Int32} : (zst M (t + 6) x v).1 (t + 2) y = M.1 (t + 2) y := congrFun (zst_ne (t + 2) (by omega)).1 y
theorem zr_2_7 {x y : Nat} {v : Int32} : (zst M (t + 7) x v).1 (t + 2) y = M.1 (t + 2) y := congrFun (zst_ne (t + 2) (by omega)).1 y
theorem zr_2_8 {x y : Nat} {v : Int32} : (zst M (t + 8) x v).1 (t + 2) y = M.1 (t + 2) y := congrFun (zst_ne (t + 2) (by omega)).1 y
theorem zr_2_9 {x y : Nat} {v : Int32} : (zst M (t + 9) x v).1 (t + 2) y = M.1 (t + 2) y := congrFun (zst_ne (t + 2) (by omega)).1 y
theorem zr_3_0 {x y : Nat} {v : Int32} : (zst M t x v).1 (t + 3) y = M.1 (t + 3) y := congrFun (zst_ne (t + 3) (by omega)).1 y
theorem zr_3_1 {x y : Nat} {v : Int32} : (zst M (t + 1) x v).1 (t + 3) y = M.1 (t + 3) y := congrFun (zst_ne (t + 3) (by omega)).1 y
theorem zr_3_2 {x y : Nat} {v : Int32} : (zst M (t + 2) x v).1 (t + 3) y = M.1 (t + 3) y := congrFun (zst_ne (t + 3) (by omega)).1 y
theorem zr_3_4 {x y : Nat} {v : Int32} : (zst M (t + 4) x v).1 (t + 3) y = M.1 (t + 3) y := congrFun (zst_ne (t + 3) (by omega)).1 y
theorem zr_3_5 {x y : Nat} {v : Int32} : (zst M (t + 5) x v).1 (t + 3) y = M.1 (t + 3) y := congrFun (zst_ne (t + 3) (by omega)).1 y
theorem zr_3_6 {x y : Nat} {v : Int32} : (zst M (t + 6) x v).1 (t + 3) y = M.1 (t + 3) y := congrFun (zst_ne (t + 3) (by omega)).1 y
theorem zr_3_7 {x y : Nat} {v : Int32} : (zst M (t + 7) x v).1 (t + 3) y = M.1 (t + 3) y := congrFun (zst_ne (t + 3) (by omega)).1 y
theorem zr_3_8 {x y : Nat} {v : Int32} : (zst M (t + 8) x v).1 (t + 3) y = M.1 (t + 3) y := congrFun (zst_ne (t + 3) (by omega)).1 y
theorem zr_3_9 {x y : Nat} {v : Int32} : (zst M (t + 9) x v).1 (t + 3) y = M.1 (t + 3) y := congrFun (zst_ne (t + 3) (by omega)).1 y
theorem zr_4_0 {x y : Nat} {v : Int32} : (zst M t x v).1 (t + 4) y = M.1 (t + 4) y := congrFun (zst_ne (t + 4) (by omega)).1 y
theorem zr_4_1 {x y : Nat} {v : Int32} : (zst M (t + 1) x v).1 (t + 4) y = M.1 (t + 4) y := congrFun (zst_ne (t + 4) (by omega)).1 y
theorem zr_4_2 {x y : Nat} {v : Int32} : (zst M (t + 2) x v).1 (t + 4) y = M.1 (t + 4) y := congrFun (zst_ne (t + 4) (by omega)).1 y
theorem zr_4_3 {x y : Nat} {v : Int32} : (zst M (t + 3) x v).1 (t + 4) y = M.1 (t + 4) y := congrFun (zst_ne (t + 4) (by omega)).1 y
theorem zr_4_5 {x y : Nat} {v : Int32} : (zst M (t + 5) x v).1 (t + 4) y = M.1 (t + 4) y := congrFun (zst_ne (t + 4) (by omega)).1 y
theorem zr_4_6 {x y : Nat} {v : Int32} : (zst M (t + 6) x v).1 (t + 4) y = M.1 (t + 4) y := congrFun (zst_ne (t + 4) (by omega)).1 y
theorem zr_4_7 {x y : Nat} {v : Int32} : (zst M (t + 7) x v).1 (t + 4) y = M.1 (t + 4) y := congrFun (zst_ne (t + 4) (by omega)).1 y
theorem zr_4_8 {x y : Nat} {v : Int32} : (zst M (t + 8) x v).1 (t + 4) y = M.1 (t + 4) y := congrFun (zst_ne (t + 4) (by omega)).1 y
theorem zr_4_9 {x y : Nat} {v : Int32} : (zst M (t + 9) x v).1 (t + 4) y = M.1 (t + 4) y := congrFun (zst_ne (t + 4) (by omega)).1 y
theorem zr_5_0 {x y : Nat} {v : Int32} : (zst M t x v).1 (t + 5) y = M.1 (t + 5) y := congrFun (zst_ne (t + 5) (by omega)).1 y
theorem zr_5_1 {x y : Nat} {v : Int32} : (zst M (t + 1) x v).1 (t + 5) y = M.1 (t + 5) y := congrFun (zst_ne (t + 5) (by omega)).1 y
theorem zr_5_2 {x y : Nat} {v : Int32} : (zst M (t + 2) x v).1 (t + 5) y = M.1 (t + 5) y := congrFun (zst_ne (t + 5) (by omega)).1 y
theorem zr_5_3 {x y : Nat} {v : Int32} : (zst M (t + 3) x v).1 (t + 5) y = M.1 (t + 5) y := congrFun (zst_ne (t + 5) (by omega)).1 y
theorem zr_5_4 {x y : Nat} {v : Int32} : (zst M (t + 4) x v).1 (t + 5) y = M.1 (t + 5) y := congrFun (zst_ne (t + 5) (by omega)).1 y
theorem zr_5_6 {x y : Nat} {v : Int32} : (zst M (t + 6) x v).1 (t + 5) y = M.1 (t + 5) y := congrFun (zst_ne (t + 5) (by omega)).1 y
theorem zr_5_7 {x y : Nat} {v : Int32} : (zst M (t + 7) x v).1 (t + 5) y = M.1 (t + 5) y := congrFun (zst_ne (t + 5) (by omega)).1 y
theorem zr_5_8 {x y : Nat} {v : Int32} : (zst M (t + 8) x v).1 (t + 5) y = M.1 (t + 5) y := congrFun (zst_ne (t + 5) (by omega)).1 y
theorem zr_5_9 {x y : Nat} {v : Int32} : (zst M (t + 9) x v).1 (t + 5) y = M.1 (t + 5) y := congrFun (zst_ne (t + 5) (by omega)).1 y
theorem zr_6_0 {x y : Nat} {v : Int32} : (zst M t x v).1 (t + 6) y = M.1 (t + 6) y := congrFun (zst_ne (t + 6) (by omega)).1 y
theorem zr_6_1 {x y : Nat} {v : Int32} : (zst M (t + 1) x v).1 (t + 6) y = M.1 (t + 6) y := congrFun (zst_ne (t + 6) (by omega)).1 y
theorem zr_6_2 {x y : Nat} {v : Int32} : (zst M (t + 2) x v).1 (t + 6) y = M.1 (t + 6) y := congrFun (zst_ne (t + 6) (by omega)).1 y
theorem zr_6_3 {x y : Nat} {v : Int32} : (zst M (t + 3) x v).1 (t + 6) y = M.1 (t + 6) y := congrFun (zst_ne (t + 6) (by omega)).1 y
theorem zr_6_4 {x y : Nat} {v : Int32} : (zst M (t + 4) x v).1 (t + 6) y = M.1 (t + 6) y := congrFun (zst_ne (t + 6) (by omega)).1 y
theorem zr_6_5 {x y : Nat} {v : Int32} : (zst M (t + 5) x v).1 (t + 6) y = M.1 (t + 6) y := congrFun (zst_ne (t + 6) (by omega)).1 y
theorem zr_6_7 {x y : Nat} {v : Int32} : (zst M (t + 7) x v).1 (t + 6) y = M.1 (t + 6) y := congrFun (zst_ne (t + 6) (by omega)).1 y
theorem zr_6_8 {x y : Nat} {v : Int32} : (zst M (t + 8) x v).1 (t + 6) y = M.1 (t + 6) y := congrFun (zst_ne (t + 6) (by omega)).1 y
theorem zr_6_9 {x y : Nat} {v : Int32} : (zst M (t + 9) x v).1 (t + 6) y = M.1 (t + 6) y := congrFun (zst_ne (t + 6) (by omega)).1 y
theorem zr_7_0 {x y : Nat} {v : Int32} : (zst M t x v).1 (t + 7) y = M.1 (t + 7) y := congrFun (zst_ne (t + 7) (by omega)).1 y
theorem zr_7_1 {x y : Nat} {v : Int32} : (zst M (t + 1) x v).1 (t + 7) y = M.1 (t + 7) y := congrFun (zst_ne (t + 7) (by omega)).1 y
theorem zr_7_2 {x y : Nat} {v : Int32} : (zst M (t + 2) x v).1 (t + 7) y = M.1 (t + 7) y := congrFun (zst_ne (t + 7) (by omega)).1 y
theorem zr_7_3 {x y : Nat} {v : Int32} : (zst M (t + 3) x v).1 (t + 7) y = M.1 (t + 7) y := congrFun (zst_ne (t + 7) (by omega)).1 y
theorem zr_7_4 {x y : Nat} {v : Int32} : (zst M (t + 4) x v).1 (t + 7) y = M.1 (t + 7) y := congrFun (zst_ne (t + 7) (by omega)).1 y
theorem zr_7_5 {x y : Nat} {v : Int32} : (zst M (t + 5) x v).1 (t + 7) y = M.1 (t + 7) y := congrFun (zst_ne (t + 7) (by omega)).1 y
theorem zr_7_6 {x y : Nat} {v : Int32} : (zst M (t + 6) x v).1 (t + 7) y = M.1 (t + 7) y := congrFun (zst_ne (t + 7) (by omega)).1 y
theorem zr_7_8 {x y : Nat} {v : Int32} : (zst M (t + 8) x v).1 (t + 7) y = M.1 (t + 7) y := congrFun (zst_ne (t + 7) (by omega)).1 y
theorem zr_7_9 {x y : Nat} {v : Int32} : (zst M (t + 9) x v).1 (t + 7) y = M.1 (t + 7) y := congrFun (zst_ne (t + 7) (by omega)).1 y
theorem zr_8_0 {x y : Nat} {v : Int32} : (zst M t x v).1 (t + 8) y = M.1 (t + 8) y := congrFun (zst_ne (t + 8) (by omega)).1 y
theorem zr_8_1 {x y : Nat} {v : Int32} : (zst M (t + 1) x v).1 (t + 8) y = M.1 (t + 8) y := congrFun (zst_ne (t + 8) (by omega)).1 y
theorem zr_8_2 {x y : Nat} {v : Int32} : (zst M (t + 2) x v).1 (t + 8) y = M.1 (t + 8) y := congrFun (zst_ne (t + 8) (by omega)).1 y
theorem zr_8_3 {x y : Nat} {v : Int32} : (zst M (t + 3) x v).1 (t + 8) y = M.1 (t + 8) y := congrFun (zst_ne (t + 8) (by omega)).1 y
theorem zr_8_4 {x y : Nat} {v : Int32} : (zst M (t + 4) x v).1 (t + 8) y = M.1 (t + 8) y := congrFun (zst_ne (t + 8) (by omega)).1 y
theorem zr_8_5 {x y : Nat} {v : Int32} : (zst M (t + 5) x v).1 (t + 8) y = M.1 (t + 8) y := congrFun (zst_ne (t + 8) (by omega)).1 y
theorem zr_8_6 {x y : Nat} {v : Int32} : (zst M (t + 6) x v).1 (t + 8) y = M.1 (t + 8) y := congrFun (zst_ne (t + 8) (by omega)).1 y
theorem zr_8_7 {x y : Nat} {v : Int32} : (zst M (t + 7) x v).1 (t + 8) y = M.1 (t + 8) y := congrFun (zst_ne (t + 8) (by omega)).1 y
theorem zr_8_9 {x y : Nat} {v : Int32} : (zst M (t + 9) x v).1 (t + 8) y = M.1 (t + 8) y := congrFun (zst_ne (t + 8) (by omega)).1 y
theorem zr_9_0 {x y : Nat} {v : Int32} : (zst M t x v).1 (t + 9) y = M.1 (t + 9) y := congrFun (zst_ne (t + 9) (by omega)).1 y
theorem zr_9_1 {x y : Nat} {v : Int32} : (zst M (t + 1) x v).1 (t + 9) y = M.1 (t + 9) y := congrFun (zst_ne (t + 9) (by omega)).1 y
theorem zr_9_2 {x y : Nat} {v : Int32} : (zst M (t + 2) x v).1 (t + 9) y = M.1 (t + 9) y := congrFun (zst_ne (t + 9) (by omega)).1 y
theorem zr_9_3 {x y : Nat} {v : Int32} : (zst M (t + 3) x v).1 (t + 9) y = M.1 (t + 9) y := congrFun (zst_ne (t + 9) (by omega)).1 y
theorem zr_9_4 {x y : Nat} {v : Int32} : (zst M (t + 4) x v).1 (t + 9) y = M.1 (t + 9) y := congrFun (zst_ne (t + 9) (by omega)).1 y
theorem zr_9_5 {x y : Nat} {v : Int32} : (zst M (t + 5) x v).1 (t + 9) y = M.1 (t + 9) y := congrFun (zst_ne (t + 9) (by omega)).1 y
theorem zr_9_6 {x y : Nat} {v : Int32} : (zst M (t + 6) x v).1 (t + 9) y = M.1 (t + 9) y := congrFun (zst_ne (t + 9) (by omega)).1 y
theorem zr_9_7 {x y : Nat} {v : Int32} : (zst M (t + 7) x v).1 (t + 9) y = M.1 (t + 9) y := congrFun (zst_ne (t + 9) (by omega)).1 y
theorem zr_9_8 {x y : Nat} {v : Int32} : (zst M (t + 8) x v).1 (t + 9) y = M.1 (t + 9) y := congrFun (zst_ne (t + 9) (by omega)).1 y
theorem ix6 {p : Nat} (h : p < 6) : zix (nI p) 6 = some p := zix_nI h (by decide)
theorem ix8 {p : Nat} (h : p < 8) : zix (nI p) 8 = some p := zix_nI h (by decide)
theorem upd_upd (s : Nat → Int32) (i : Nat) (a b : Int32) : upd (upd s i a) i b = upd s i b := by
  funext j
  by_cases h : j = i
  · subst h; rw [pk_us, pk_us]
  · rw [pk_un h, pk_un h, pk_un h]
def aV1 (s : Nat → Int32) (k w b x : Nat) : Int32 := aMeets k (s (3 + 2 * x + 1)) (if s (3 + 2 * x) = nI b then s (3 + 2 * x + 1) / 10 else 0) (s (15 + 4 * b + 1))
def aP (s : Nat → Int32) (k w b x : Nat) : Int32 := aHeld ((s (47 + 2 * w) - aCost k (s (15 + 4 * b + 1)) (s (15 + 4 * b + 2))) + aV1 s k w b x) 0 9999
def aH (s : Nat → Int32) (k w b x : Nat) : Int32 := aHeld (s (15 + 4 * b + 2) + (if aV1 s k w b x ≤ 0 then 1 else 3)) 0 999
def aMo (s : Nat → Int32) (k b x : Nat) : Int32 := aHeld (s (3 + 2 * x + 1) + aLeaves k (s (15 + 4 * b + 1))) (-50) 50
def aF (s : Nat → Int32) (k b : Nat) : Int32 := aHeld (s (15 + 4 * b + 1) + aGains k (aMon (s 0))) 0 99
def aOut (s : Nat → Int32) (k w b x : Nat) : Nat → Int32 := upd (upd (upd (upd (upd s (47 + 2 * w) (aP s k w b x)) (15 + 4 * b + 2) (aH s k w b x)) (3 + 2 * x + 1) (aMo s k b x)) (3 + 2 * x) (nI b)) (15 + 4 * b + 1) (aF s k b)
theorem c_spend {w b k x : Nat} (hA : SimA t M s) (hw : w < 6) (hb : b < 8) (hk : k < 6) (hx : x < 6) (ek : s (15 + 4 * b) = nI k) (ex : zrem (s 0 + s (47 + 2 * w + 1)) 6 = nI x) (hc : aCost k (s (15 + 4 * b + 1)) (s (15 + 4 * b + 2)) ≤ s (47 + 2 * w)) :
    fX7_spendNight M t (nI w) (nI b) = some (zst (zst (zst (zst (zst M (t + 5) w (aP s k w b x)) (t + 3) b (aH s k w b x)) (t + 8) x (aMo s k b x)) (t + 9) x (nI b)) (t + 2) b (aF s k b)) := by
  have hpl : (if s (3 + 2 * x) = nI b then s (3 + 2 * x + 1) / 10 else 0) = aPl (if s (3 + 2 * x) = nI b then 1 else 0) (s (3 + 2 * x + 1)) := by
    by_cases h : s (3 + 2 * x) = nI b
    · rw [if_pos h, if_pos h]; rfl
    · rw [if_neg h, if_neg h]; rfl
  simp only [fX7_spendNight, ix8 hb, ix6 hw, ix6 hk, z_bs, zj_e, hA.kind hb, hA.fame hb, hA.hoard hb, hA.purse hw, ek, c_cost hk, if_pos hc, c_house hw, hA.n0, hA.round hw, ex, ix6 hx, hA.mood hx, hA.known hx, c_mon, c_meets hk, c_leaves hk, c_gains hk, zr_3_5, zr_8_3, zr_8_5, zr_2_9, zr_2_8, zr_2_3, zr_2_5, c_held _ 0 9999 (by decide), c_held _ 0 999 (by decide), c_held _ (-50) 50 (by decide), c_held _ 0 99 (by decide)]
  have e1 : ∀ v : Int32, aMeets k (s (3 + 2 * x + 1)) (aPl v (s (3 + 2 * x + 1))) (s (15 + 4 * b + 1)) = aV1 s k w b x → v = v := fun _ _ => rfl
  unfold aP aH aMo aF aV1
  rw [hpl]
  by_cases h : s (3 + 2 * x) = nI b
  · rw [if_pos h, if_pos h]
    by_cases h2 : aMeets k (s (3 + 2 * x + 1)) (aPl 1 (s (3 + 2 * x + 1))) (s (15 + 4 * b + 1)) ≤ 0
    · rw [if_pos h2, if_pos h2]
    · rw [if_neg h2, if_neg h2]
  · rw [if_neg h, if_neg h]
    by_cases h2 : aMeets k (s (3 + 2 * x + 1)) (aPl 0 (s (3 + 2 * x + 1))) (s (15 + 4 * b + 1)) ≤ 0
    · rw [if_pos h2, if_pos h2]
    · rw [if_neg h2, if_neg h2]
theorem c_spendNo {w b k : Nat} (hA : SimA t M s) (hw : w < 6) (hb : b < 8) (hk : k < 6) (ek : s (15 + 4 * b) = nI k) (hc : ¬ aCost k (s (15 + 4 * b + 1)) (s (15 + 4 * b + 2)) ≤ s (47 + 2 * w)) :
    fX7_spendNight M t (nI w) (nI b) = some (zst (zst M (t + 7) w (-1)) (t + 4) b (-1)) := by
  simp only [fX7_spendNight, ix8 hb, ix6 hw, ix6 hk, z_bs, hA.kind hb, hA.fame hb, hA.hoard hb, hA.purse hw, ek, c_cost hk, if_neg hc, fX7_takeOff]
theorem mr {N : zM} {p q : Nat} {v : Int32} (h : q ≠ p) : (zst N 1 p v).1 1 q = N.1 1 q := by rw [zst_1, pk_un h]
theorem mrs {N : zM} {p : Nat} {v : Int32} : (zst N 1 p v).1 1 p = v := by rw [zst_1, pk_us]
theorem m_out {w b k x : Nat} (hw : w < 6) (hb : b < 8) (hk : k < 6) (hx : x < 6) (ek : N.1 1 (15 + 4 * b) = nI k) (ex : zrem (N.1 1 0 + N.1 1 (47 + 2 * w + 1)) 6 = nI x) :
    ∃ N', fX10_goesOut N (nI w) (nI b) = some N' ∧ FrN N N' ∧ N'.1 1 = upd (upd (upd (upd (upd (N.1 1) (47 + 2 * w) (aHeld (N.1 1 (47 + 2 * w) + aV1 (N.1 1) k w b x) 0 9999)) (15 + 4 * b + 2) (aH (N.1 1) k w b x)) (3 + 2 * x + 1) (aMo (N.1 1) k b x)) (3 + 2 * x) (nI b)) (15 + 4 * b + 1) (aF (N.1 1) k b) := by
  have e1 : fX10_meetsOf N (nI b) (nI x) = some (aV1 (N.1 1) k w b x) := m_meets hb hx hk ek
  have r1 : ∀ v : Int32, fX10_its (zst N 1 (47 + 2 * w) v) (nI b) 2 = some (N.1 1 (15 + 4 * b + 2)) := fun v => by rw [m_i2 hb, mr (by omega)]
  have r2 : ∀ v v2 : Int32, fX10_house (zst (zst N 1 (47 + 2 * w) v) 1 (15 + 4 * b + 2) v2) (nI x) 1 = some (N.1 1 (3 + 2 * x + 1)) := fun v v2 => by rw [m_h1 hx, mr (by omega), mr (by omega)]
  have r3 : ∀ v v2 v3 v4 : Int32, fX10_its (zst (zst (zst (zst N 1 (47 + 2 * w) v) 1 (15 + 4 * b + 2) v2) 1 (3 + 2 * x + 1) v3) 1 (3 + 2 * x) v4) (nI b) 1 = some (N.1 1 (15 + 4 * b + 1)) := fun v v2 v3 v4 => by rw [m_i1 hb, mr (by omega), mr (by omega), mr (by omega), mr (by omega)]
  by_cases h2 : aV1 (N.1 1) k w b x ≤ 0
  · simp only [fX10_goesOut, m_place hw, z_bs, ex, e1, m_leaves hb hk ek, m_gains hb hk ek, m_ws0, m_t0 hw, m_held, ix59 (show 47 + 2 * w < 59 by omega), m_bs2, r1, zj_e, if_pos h2, ix59 (show 15 + 4 * b + 2 < 59 by omega), m_hs1, r2, ix59 (show 3 + 2 * x + 1 < 59 by omega), m_hs0, ix59 (show 3 + 2 * x < 59 by omega), m_bs1, r3, ix59 (show 15 + 4 * b + 1 < 59 by omega)]
    refine ⟨_, rfl, FrN.st.tr (FrN.st.tr (FrN.st.tr (FrN.st.tr FrN.st))), ?_⟩
    rw [zst_1, zst_1, zst_1, zst_1, zst_1]; unfold aH; rw [if_pos h2]; rfl
  · simp only [fX10_goesOut, m_place hw, z_bs, ex, e1, m_leaves hb hk ek, m_gains hb hk ek, m_ws0, m_t0 hw, m_held, ix59 (show 47 + 2 * w < 59 by omega), m_bs2, r1, zj_e, if_neg h2, ix59 (show 15 + 4 * b + 2 < 59 by omega), m_hs1, r2, ix59 (show 3 + 2 * x + 1 < 59 by omega), m_hs0, ix59 (show 3 + 2 * x < 59 by omega), m_bs1, r3, ix59 (show 15 + 4 * b + 1 < 59 by omega)]
    refine ⟨_, rfl, FrN.st.tr (FrN.st.tr (FrN.st.tr (FrN.st.tr FrN.st))), ?_⟩
    rw [zst_1, zst_1, zst_1, zst_1, zst_1]; unfold aH; rw [if_neg h2]; rfl
theorem m_wears {w b k x : Nat} (hw : w < 6) (hb : b < 8) (hk : k < 6) (hx : x < 6) (ek : N.1 1 (15 + 4 * b) = nI k) (ex : zrem (N.1 1 0 + N.1 1 (47 + 2 * w + 1)) 6 = nI x) (hc : aCost k (N.1 1 (15 + 4 * b + 1)) (N.1 1 (15 + 4 * b + 2)) ≤ N.1 1 (47 + 2 * w)) :
    ∃ N', fX10_wears N (nI w) (nI b) = some N' ∧ FrN N N' ∧ N'.1 1 = aOut (N.1 1) k w b x := by
  obtain ⟨N', e1, e2, e3⟩ := m_out (N := zst N 1 (47 + 2 * w) (N.1 1 (47 + 2 * w) - aCost k (N.1 1 (15 + 4 * b + 1)) (N.1 1 (15 + 4 * b + 2)))) hw hb hk hx (by rw [mr (by omega)]; exact ek) (by rw [mr (by omega), mr (by omega)]; exact ex)
  refine ⟨N', ?_, FrN.st.tr e2, ?_⟩
  · simp only [fX10_wears, m_cost hb hk ek, z_bs, m_t0 hw, if_pos hc, m_ws0, ix59 (show 47 + 2 * w < 59 by omega), e1]
  · rw [e3]
    have q1 : ∀ v : Int32, aV1 (upd (N.1 1) (47 + 2 * w) v) k w b x = aV1 (N.1 1) k w b x := fun v => by
      unfold aV1; rw [pk_un (by omega), pk_un (by omega), pk_un (by omega)]
    unfold aOut aP aH aMo aF
    rw [zst_1, upd_upd, q1, pk_us, pk_un (by omega), pk_un (by omega), pk_un (by omega), pk_un (by omega)]
theorem m_wearsNo {w b k : Nat} (hw : w < 6) (hb : b < 8) (hk : k < 6) (ek : N.1 1 (15 + 4 * b) = nI k) (hc : ¬ aCost k (N.1 1 (15 + 4 * b + 1)) (N.1 1 (15 + 4 * b + 2)) ≤ N.1 1 (47 + 2 * w)) :
    fX10_wears N (nI w) (nI b) = some (zst N 1 (15 + 4 * b + 3) (-1)) := by
  simp only [fX10_wears, m_cost hb hk ek, z_bs, m_t0 hw, if_neg hc, m_bs3, ix59 (show 15 + 4 * b + 3 < 59 by omega)]
/-- what a night does to one wearer leaves the others -/
def Kp (t w : Nat) (M M' : zM) : Prop := ∀ v, v ≠ w → M'.1 (t + 7) v = M.1 (t + 7) v ∧ M'.1 (t + 5) v = M.1 (t + 5) v
theorem spend_sim (h : Sim t n nb nw M (N.1 1)) (hn : n < 2 ^ 30) {w b : Nat} (hw : w < nw) (hb : b < nb) (e : M.1 (t + 7) w = nI b) :
    ∃ M' N', fX7_spendNight M t (nI w) (nI b) = some M' ∧ fX10_wears N (nI w) (nI b) = some N' ∧ Sim t n nb nw M' (N'.1 1) ∧ FrT t M M' ∧ FrN N N' ∧ Kp t w M M' ∧ (M'.1 (t + 7) w = nI b ∨ M'.1 (t + 7) w = -1) := by
  have hbl := h.nbl
  have hwl := h.nwl
  obtain ⟨k, hk, ek⟩ := (h.B hb).1
  obtain ⟨r, hr, er⟩ := (h.W hw).1
  have ex : zrem (N.1 1 0 + N.1 1 (47 + 2 * w + 1)) 6 = nI ((n + r) % 6) := by rw [h.e0, er]; exact zrem6 (by omega)
  have hx : (n + r) % 6 < 6 := Nat.mod_lt _ (by decide)
  by_cases hc : aCost k (N.1 1 (15 + 4 * b + 1)) (N.1 1 (15 + 4 * b + 2)) ≤ N.1 1 (47 + 2 * w)
  · obtain ⟨N', n1, n2, n3⟩ := m_wears (by omega) (by omega) hk hx ek ex hc
    refine ⟨_, N', c_spend h.1 (by omega) (by omega) hk hx ek ex hc, n1, ?_, ?_, n2, ?_, Or.inl ?_⟩
    · rw [n3]
      exact ((((h.purse (by omega) _).hoard (by omega) (held_pos _ _ (by decide))).mood hx _).known hx _).fame (by omega) _
    · exact (FrT.st (by omega) (by omega)).tr ((FrT.st (by omega) (by omega)).tr ((FrT.st (by omega) (by omega)).tr ((FrT.st (by omega) (by omega)).tr (FrT.st (by omega) (by omega)))))
    · intro v hv
      refine ⟨?_, ?_⟩
      · rw [zr_7_2, zr_7_9, zr_7_8, zr_7_3, zr_7_5]
      · rw [zr_5_2, zr_5_9, zr_5_8, zr_5_3, zst_g, if_neg (fun c => hv c.2)]
    · rw [zr_7_2, zr_7_9, zr_7_8, zr_7_3, zr_7_5]; exact e
  · refine ⟨_, _, c_spendNo h.1 (by omega) (by omega) hk ek hc, m_wearsNo (by omega) (by omega) hk ek hc, ?_, ?_, FrN.st, ?_, Or.inr ?_⟩
    · rw [zst_1]; exact h.off hw hb e
    · exact (FrT.st (by omega) (by omega)).tr (FrT.st (by omega) (by omega))
    · intro v hv
      refine ⟨?_, ?_⟩
      · rw [zr_7_4, zst_g, if_neg (fun c => hv c.2)]
      · rw [zr_5_4, zr_5_7]
    · rw [zr_7_4, zst_g, if_pos ⟨rfl, rfl⟩]
end SD
