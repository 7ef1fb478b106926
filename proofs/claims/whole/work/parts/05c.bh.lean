def fX9_isHouse (a1 : Int32) : Option Int32 :=
  if a1 < (0 : Int32) then (zbl (0 : Int32)) else (if (6 : Int32) ≤ a1 then (zbl (0 : Int32)) else (zbl (1 : Int32)))
abbrev rX9_isHouse : Room := { frames := 0, cells := 0, slots := 0, locals := 0 }
theorem arX9_isHouse : zAr yX9_isHouse RX9 1 := ⟨rfl, by decide, by decide, by decide +kernel⟩
set_option maxHeartbeats 4000000 in
theorem kX9_isHouse (l : Launch) {w : zWd} (ho : zOk w) {M0 : zM} {a1 : Int32} {r : Int32} (h : fX9_isHouse a1 = some r) : Met l yX9_isHouse (Cond.code yX9_isHouse cX9_isHouse 1 (some .boolean) :: zU) rX9_isHouse (zPre w M0 [.int a1]) (zR (some (.int r))) 0 0 zNo := by
  refine z_metN (own := RX9) (lv := [(0, .int a1)]) ho (by decide) (Nat.le_of_ble_eq_true rfl) rfl rfl ?_
  intro p e s m args below meth c G hr hlk hH ls hl
  unfold fX9_isHouse at h
  refine lv_iload_n G.x G.b dX9_isHouse_0 rfl (lv_at hl 0 rfl) ?_
  refine lv_if_lt (tgt := 14) G.x G.b dX9_isHouse_1 (by decide) (fun c1 => ?_) (fun c1 => ?_)
  · have h := z_if c1 h
    refine lv_iconst (v := (0 : Int32)) G.x G.b dX9_isHouse_14 (by decide) ?_
    exact z_rtZ G hr hlk h dX9_isHouse_15
  · have h := z_ifn c1 h
    refine lv_iload_n G.x G.b dX9_isHouse_4 rfl (lv_at hl 0 rfl) ?_
    refine lv_bipush (v := (6 : Int32)) G.x G.b dX9_isHouse_5 (by decide) ?_
    refine lv_icmp_ge (tgt := 14) G.x G.b dX9_isHouse_7 (by decide) (fun c2 => ?_) (fun c2 => ?_)
    · have h := z_if c2 h
      refine lv_iconst (v := (0 : Int32)) G.x G.b dX9_isHouse_14 (by decide) ?_
      exact z_rtZ G hr hlk h dX9_isHouse_15
    · have h := z_ifn c2 h
      refine lv_iconst (v := (1 : Int32)) G.x G.b dX9_isHouse_10 (by decide) ?_
      refine lv_goto (tgt := 15) G.x G.b dX9_isHouse_11 (by decide) ?_
      exact z_rtZ G hr hlk h dX9_isHouse_15
def fX9_isWithin (a1 : Int32) (a2 : Int32) (a3 : Int32) : Option Int32 :=
  if a1 < a2 then (zbl (0 : Int32)) else (if a3 < a1 then (zbl (0 : Int32)) else (zbl (1 : Int32)))
abbrev rX9_isWithin : Room := { frames := 0, cells := 0, slots := 0, locals := 0 }
theorem arX9_isWithin : zAr yX9_isWithin RX9 3 := ⟨rfl, by decide, by decide, by decide +kernel⟩
set_option maxHeartbeats 4000000 in
theorem kX9_isWithin (l : Launch) {w : zWd} (ho : zOk w) {M0 : zM} {a1 : Int32} {a2 : Int32} {a3 : Int32} {r : Int32} (h : fX9_isWithin a1 a2 a3 = some r) : Met l yX9_isWithin (Cond.code yX9_isWithin cX9_isWithin 3 (some .boolean) :: zU) rX9_isWithin (zPre w M0 [.int a1, .int a2, .int a3]) (zR (some (.int r))) 0 0 zNo := by
  refine z_metN (own := RX9) (lv := [(0, .int a1), (1, .int a2), (2, .int a3)]) ho (by decide) (Nat.le_of_ble_eq_true rfl) rfl rfl ?_
  intro p e s m args below meth c G hr hlk hH ls hl
  unfold fX9_isWithin at h
  refine lv_iload_n G.x G.b dX9_isWithin_0 rfl (lv_at hl 0 rfl) ?_
  refine lv_iload_n G.x G.b dX9_isWithin_1 rfl (lv_at hl 1 rfl) ?_
  refine lv_icmp_lt (tgt := 14) G.x G.b dX9_isWithin_2 (by decide) (fun c1 => ?_) (fun c1 => ?_)
  · have h := z_if c1 h
    refine lv_iconst (v := (0 : Int32)) G.x G.b dX9_isWithin_14 (by decide) ?_
    exact z_rtZ G hr hlk h dX9_isWithin_15
  · have h := z_ifn c1 h
    refine lv_iload_n G.x G.b dX9_isWithin_5 rfl (lv_at hl 0 rfl) ?_
    refine lv_iload_n G.x G.b dX9_isWithin_6 rfl (lv_at hl 2 rfl) ?_
    refine lv_icmp_gt (tgt := 14) G.x G.b dX9_isWithin_7 (by decide) (fun c2 => ?_) (fun c2 => ?_)
    · have h := z_if c2 h
      refine lv_iconst (v := (0 : Int32)) G.x G.b dX9_isWithin_14 (by decide) ?_
      exact z_rtZ G hr hlk h dX9_isWithin_15
    · have h := z_ifn c2 h
      refine lv_iconst (v := (1 : Int32)) G.x G.b dX9_isWithin_10 (by decide) ?_
      refine lv_goto (tgt := 15) G.x G.b dX9_isWithin_11 (by decide) ?_
      exact z_rtZ G hr hlk h dX9_isWithin_15
def fX9_finding (M0 : zM) (a1 : Int32) : Option (Int32 × zM) :=
  (zix a1 7).bind fun j1 =>
  (zix a1 7).bind fun j2 =>
  (some (zst M0 33 j2 ((M0.1 33 j1) + (1 : Int32)))).bind fun M3 =>
  some (((-1000000001 : Int32) - a1), M3)
abbrev rX9_finding : Room := { frames := 0, cells := 0, slots := 0, locals := 0 }
theorem arX9_finding : zAr yX9_finding RX9 1 := ⟨rfl, by decide, by decide, by decide +kernel⟩
set_option maxHeartbeats 4000000 in
theorem kX9_finding (l : Launch) {w : zWd} (hw : zIsC w) {M0 M' : zM} {a1 : Int32} {r : Int32} (h : fX9_finding M0 a1 = some (r, M')) : Met l yX9_finding (Cond.code yX9_finding cX9_finding 2 (some .int) :: zU) rX9_finding (zPre w M0 [.ref (za w 0), .int a1]) (zQ w (some (.int r)) M') 0 0 (zA w) := by
  refine z_metN (own := RX9) (lv := [(0, .ref (za w 0)), (1, .int a1)]) hw.1 (by decide) (Nat.le_of_ble_eq_true rfl) rfl rfl ?_
  intro p e s m args below meth c G hr hlk hH ls hl
  unfold fX9_finding at h
  refine lv_aload_n G.x G.b dX9_finding_0 rfl (lv_at hl 0 rfl) ?_
  refine z_get (v := .ref (za w 33)) (k := 0) G hH.1 (cC0 hw) vc9 inU9 6 (by decide) u196 rfl dX9_finding_1 ?_
  refine lv_iload_n G.x G.b dX9_finding_4 rfl (lv_at hl 1 rfl) ?_
  refine lv_dup2_11 G.x G.b dX9_finding_5 rfl rfl ?_
  obtain ⟨j1, ej1, h⟩ := z_bind h
  refine z_iald (k := 33) G hH.1 (cC33 hw) ej1 dX9_finding_6 ?_
  refine lv_iconst (v := (1 : Int32)) G.x G.b dX9_finding_7 (by decide) ?_
  refine lv_iadd G.x G.b dX9_finding_8 ?_
  obtain ⟨j2, ej2, h⟩ := z_bind h
  obtain ⟨M3, eM3, h⟩ := z_let h
  refine z_iastN (k := 33) G hH (cC33 hw) ej2 dX9_finding_9 eM3 (fun H locs hH => ?_)
  refine lv_ldc G.x G.b G.o (G.t u226) dX9_finding_10 ?_
  refine lv_iload_n G.x G.b dX9_finding_12 rfl (lv_at hl 1 rfl) ?_
  refine lv_isub G.x G.b dX9_finding_13 ?_
  exact z_retI G hr hlk hH h dX9_finding_14
def fX9_mood (M0 : zM) (a1 : Int32) (a2 : Int32) : Option (Int32 × zM) :=
  (fX9_isHouse a1).bind fun x1 =>
  if x1 = (0 : Int32) then (zb2 (fX9_finding M0 (0 : Int32)) fun x3 M4 =>
  some (x3, M4)) else ((fX9_isWithin a2 (-50 : Int32) (50 : Int32)).bind fun x5 =>
  if x5 = (0 : Int32) then (zb2 (fX9_finding M0 (0 : Int32)) fun x11 M12 =>
  some (x11, M12)) else ((zix a1 6).bind fun j7 =>
  (some (M0.1 9 j7)).bind fun x8 =>
  (zix a1 6).bind fun j9 =>
  (some (zst M0 9 j9 a2)).bind fun M10 =>
  some (x8, M10)))
abbrev rX9_mood : Room := { frames := 1, cells := 0, slots := 0, locals := 22 }
theorem arX9_mood : zAr yX9_mood RX9 2 := ⟨rfl, by decide, by decide, by decide +kernel⟩
set_option maxHeartbeats 4000000 in
theorem kX9_mood (l : Launch) {w : zWd} (hw : zIsC w) {M0 M' : zM} {a1 : Int32} {a2 : Int32} {r : Int32} (h : fX9_mood M0 a1 a2 = some (r, M')) : Met l yX9_mood (Cond.code yX9_mood cX9_mood 4 (some .int) :: zU) rX9_mood (zPre w M0 [.ref (za w 0), .int a1, .int a2]) (zQ w (some (.int r)) M') 0 0 (zA w) := by
  refine z_metN (own := RX9) (lv := [(0, .ref (za w 0)), (1, .int a1), (2, .int a2)]) hw.1 (by decide) (Nat.le_of_ble_eq_true rfl) rfl rfl ?_
  intro p e s m args below meth c G hr hlk hH ls hl
  unfold fX9_mood at h
  refine lv_iload_n G.x G.b dX9_mood_0 rfl (lv_at hl 1 rfl) ?_
  obtain ⟨x1, ex1, h⟩ := z_bind h
  refine z_rdI (z_runS (As := [.int a1]) (rest := []) G hH hl.1 (kX9_isHouse l hw.1 ex1) arX9_isHouse u216 u217 u1 u218 rfl rfl rfl (Nat.le_of_ble_eq_true rfl) (Nat.le_of_ble_eq_true rfl) rfl (Nat.le_of_ble_eq_true rfl) dX9_mood_1) ?_
  refine lv_if_eq (tgt := 18) G.x G.b dX9_mood_4 (by decide) (fun c2 => ?_) (fun c2 => ?_)
  · have h := z_if c2 h
    refine lv_aload_n G.x G.b dX9_mood_18 rfl (lv_at hl 0 rfl) ?_
    refine lv_iconst (v := (0 : Int32)) G.x G.b dX9_mood_19 (by decide) ?_
    obtain ⟨x3, M4, eM4, h⟩ := z_b2 h
    refine z_aftI (z_runV (k := 0) (As := [.int (0 : Int32)]) (rest := []) G hH hl.1 (kX9_finding l hw eM4) (cC0 hw) vc9 arX9_finding u222 u224 us0 u1 u225 rfl rfl rfl (Nat.le_of_ble_eq_true rfl) (Nat.le_of_ble_eq_true rfl) rfl (Nat.le_of_ble_eq_true rfl) dX9_mood_20) hH (fun H locs hH => ?_)
    exact z_retI G hr hlk hH h dX9_mood_23
  · have h := z_ifn c2 h
    refine lv_iload_n G.x G.b dX9_mood_7 rfl (lv_at hl 2 rfl) ?_
    refine lv_bipush (v := (-50 : Int32)) G.x G.b dX9_mood_8 (by decide) ?_
    refine lv_bipush (v := (50 : Int32)) G.x G.b dX9_mood_10 (by decide) ?_
    obtain ⟨x5, ex5, h⟩ := z_bind h
    refine z_rdI (z_runS (As := [.int a2, .int (-50 : Int32), .int (50 : Int32)]) (rest := []) G hH hl.1 (kX9_isWithin l hw.1 ex5) arX9_isWithin u219 u220 u1 u221 rfl rfl rfl (Nat.le_of_ble_eq_true rfl) (Nat.le_of_ble_eq_true rfl) rfl (Nat.le_of_ble_eq_true rfl) dX9_mood_12) ?_
    refine lv_if_ne (tgt := 24) G.x G.b dX9_mood_15 (by decide) (fun c6 => ?_) (fun c6 => ?_)
    · have h := z_ifn c6 h
      refine lv_aload_n G.x G.b dX9_mood_24 rfl (lv_at hl 0 rfl) ?_
      refine z_get (v := .ref (za w 1)) (k := 0) G hH.1 (cC0 hw) vc9 inU9 0 (by decide) u190 rfl dX9_mood_25 ?_
      refine z_get (v := .ref (za w 9)) (k := 1) G hH.1 (cCt hw zT1) vc7 inU7 11 (by decide) u105 rfl dX9_mood_28 ?_
      refine lv_iload_n G.x G.b dX9_mood_31 rfl (lv_at hl 1 rfl) ?_
      obtain ⟨j7, ej7, h⟩ := z_bind h
      refine z_iald (k := 9) G hH.1 (cCt8 hw zT1) ej7 dX9_mood_32 ?_
      obtain ⟨x8, ex8, h⟩ := z_let h
      refine z_nmI ex8 ?_
      refine lv_istore_n (lv' := [(3, .int x8), (0, .ref (za w 0)), (1, .int a1), (2, .int a2)]) G.x G.b dX9_mood_33 rfl hl (Nat.le_of_ble_eq_true rfl) rfl (fun ls hl => ?_)
      refine lv_aload_n G.x G.b dX9_mood_34 rfl (lv_at hl 1 rfl) ?_
      refine z_get (v := .ref (za w 1)) (k := 0) G hH.1 (cC0 hw) vc9 inU9 0 (by decide) u190 rfl dX9_mood_35 ?_
      refine z_get (v := .ref (za w 9)) (k := 1) G hH.1 (cCt hw zT1) vc7 inU7 11 (by decide) u105 rfl dX9_mood_38 ?_
      refine lv_iload_n G.x G.b dX9_mood_41 rfl (lv_at hl 2 rfl) ?_
      refine lv_iload_n G.x G.b dX9_mood_42 rfl (lv_at hl 3 rfl) ?_
      obtain ⟨j9, ej9, h⟩ := z_bind h
      obtain ⟨M10, eM10, h⟩ := z_let h
      refine z_iastN (k := 9) G hH (cCt8 hw zT1) ej9 dX9_mood_43 eM10 (fun H locs hH => ?_)
      refine lv_iload_n G.x G.b dX9_mood_44 rfl (lv_at hl 0 rfl) ?_
      exact z_retI G hr hlk hH h dX9_mood_45
    · have h := z_if c6 h
      refine lv_aload_n G.x G.b dX9_mood_18 rfl (lv_at hl 0 rfl) ?_
      refine lv_iconst (v := (0 : Int32)) G.x G.b dX9_mood_19 (by decide) ?_
      obtain ⟨x11, M12, eM12, h⟩ := z_b2 h
      refine z_aftI (z_runV (k := 0) (As := [.int (0 : Int32)]) (rest := []) G hH hl.1 (kX9_finding l hw eM12) (cC0 hw) vc9 arX9_finding u222 u224 us0 u1 u225 rfl rfl rfl (Nat.le_of_ble_eq_true rfl) (Nat.le_of_ble_eq_true rfl) rfl (Nat.le_of_ble_eq_true rfl) dX9_mood_20) hH (fun H locs hH => ?_)
      exact z_retI G hr hlk hH h dX9_mood_23
def fX9_isBeard (M0 : zM) (a1 : Int32) : Option Int32 :=
  if a1 < (0 : Int32) then (zbl (0 : Int32)) else (if (M0.1 1 2) ≤ a1 then (zbl (0 : Int32)) else (zbl (1 : Int32)))
abbrev rX9_isBeard : Room := { frames := 0, cells := 0, slots := 0, locals := 0 }
theorem arX9_isBeard : zAr yX9_isBeard RX9 1 := ⟨rfl, by decide, by decide, by decide +kernel⟩
set_option maxHeartbeats 4000000 in
theorem kX9_isBeard (l : Launch) {w : zWd} (hw : zIsC w) {M0 : zM} {a1 : Int32} {r : Int32} (h : fX9_isBeard M0 a1 = some r) : Met l yX9_isBeard (Cond.code yX9_isBeard cX9_isBeard 2 (some .boolean) :: zU) rX9_isBeard (zPre w M0 [.ref (za w 0), .int a1]) (zR (some (.int r))) 0 0 zNo := by
  refine z_metN (own := RX9) (lv := [(0, .ref (za w 0)), (1, .int a1)]) hw.1 (by decide) (Nat.le_of_ble_eq_true rfl) rfl rfl ?_
  intro p e s m args below meth c G hr hlk hH ls hl
  unfold fX9_isBeard at h
  refine lv_iload_n G.x G.b dX9_isBeard_0 rfl (lv_at hl 1 rfl) ?_
  refine lv_if_lt (tgt := 19) G.x G.b dX9_isBeard_1 (by decide) (fun c1 => ?_) (fun c1 => ?_)
  · have h := z_if c1 h
    refine lv_iconst (v := (0 : Int32)) G.x G.b dX9_isBeard_19 (by decide) ?_
    exact z_rtZ G hr hlk h dX9_isBeard_20
  · have h := z_ifn c1 h
    refine lv_iload_n G.x G.b dX9_isBeard_4 rfl (lv_at hl 1 rfl) ?_
    refine lv_aload_n G.x G.b dX9_isBeard_5 rfl (lv_at hl 0 rfl) ?_
    refine z_get (v := .ref (za w 1)) (k := 0) G hH.1 (cC0 hw) vc9 inU9 0 (by decide) u190 rfl dX9_isBeard_6 ?_
    refine z_get (v := .int (M0.1 1 2)) (k := 1) G hH.1 (cCt hw zT1) vc7 inU7 2 (by decide) u80 rfl dX9_isBeard_9 ?_
    refine lv_icmp_ge (tgt := 19) G.x G.b dX9_isBeard_12 (by decide) (fun c2 => ?_) (fun c2 => ?_)
    · have h := z_if c2 h
      refine lv_iconst (v := (0 : Int32)) G.x G.b dX9_isBeard_19 (by decide) ?_
      exact z_rtZ G hr hlk h dX9_isBeard_20
    · have h := z_ifn c2 h
      refine lv_iconst (v := (1 : Int32)) G.x G.b dX9_isBeard_15 (by decide) ?_
      refine lv_goto (tgt := 20) G.x G.b dX9_isBeard_16 (by decide) ?_
      exact z_rtZ G hr hlk h dX9_isBeard_20
def fX9_recall (M0 : zM) (a1 : Int32) (a2 : Int32) : Option (Int32 × zM) :=
  (fX9_isHouse a1).bind fun x1 =>
  if x1 = (0 : Int32) then (zb2 (fX9_finding M0 (0 : Int32)) fun x3 M4 =>
  some (x3, M4)) else (zj ((zix a1 6).bind fun j6 =>
  (some (M0.1 10 j6)).bind fun x7 =>
  (zix a1 6).bind fun j8 =>
  (some (zst M0 10 j8 a2)).bind fun M9 =>
  some (x7, M9)) fun J26_5 =>
  if a2 = (-1 : Int32) then (J26_5) else ((fX9_isBeard M0 a2).bind fun x11 =>
  if x11 = (0 : Int32) then (zb2 (fX9_finding M0 (0 : Int32)) fun x13 M14 =>
  some (x13, M14)) else (J26_5)))
abbrev rX9_recall : Room := { frames := 1, cells := 0, slots := 0, locals := 21 }
theorem arX9_recall : zAr yX9_recall RX9 2 := ⟨rfl, by decide, by decide, by decide +kernel⟩
set_option maxHeartbeats 4000000 in
theorem kX9_recall (l : Launch) {w : zWd} (hw : zIsC w) {M0 M' : zM} {a1 : Int32} {a2 : Int32} {r : Int32} (h : fX9_recall M0 a1 a2 = some (r, M')) : Met l yX9_recall (Cond.code yX9_recall cX9_recall 4 (some .int) :: zU) rX9_recall (zPre w M0 [.ref (za w 0), .int a1, .int a2]) (zQ w (some (.int r)) M') 0 0 (zA w) := by
  refine z_metN (own := RX9) (lv := [(0, .ref (za w 0)), (1, .int a1), (2, .int a2)]) hw.1 (by decide) (Nat.le_of_ble_eq_true rfl) rfl rfl ?_
  intro p e s m args below meth c G hr hlk hH ls hl
  unfold fX9_recall at h
  refine lv_iload_n G.x G.b dX9_recall_0 rfl (lv_at hl 1 rfl) ?_
  obtain ⟨x1, ex1, h⟩ := z_bind h
  refine z_rdI (z_runS (As := [.int a1]) (rest := []) G hH hl.1 (kX9_isHouse l hw.1 ex1) arX9_isHouse u216 u217 u1 u218 rfl rfl rfl (Nat.le_of_ble_eq_true rfl) (Nat.le_of_ble_eq_true rfl) rfl (Nat.le_of_ble_eq_true rfl) dX9_recall_1) ?_
  refine lv_if_eq (tgt := 20) G.x G.b dX9_recall_4 (by decide) (fun c2 => ?_) (fun c2 => ?_)
  · have h := z_if c2 h
    refine lv_aload_n G.x G.b dX9_recall_20 rfl (lv_at hl 0 rfl) ?_
    refine lv_iconst (v := (0 : Int32)) G.x G.b dX9_recall_21 (by decide) ?_
    obtain ⟨x3, M4, eM4, h⟩ := z_b2 h
    refine z_aftI (z_runV (k := 0) (As := [.int (0 : Int32)]) (rest := []) G hH hl.1 (kX9_finding l hw eM4) (cC0 hw) vc9 arX9_finding u222 u224 us0 u1 u225 rfl rfl rfl (Nat.le_of_ble_eq_true rfl) (Nat.le_of_ble_eq_true rfl) rfl (Nat.le_of_ble_eq_true rfl) dX9_recall_22) hH (fun H locs hH => ?_)
    exact z_retI G hr hlk hH h dX9_recall_25
  · have h := z_ifn c2 h
    refine lv_iload_n G.x G.b dX9_recall_7 rfl (lv_at hl 2 rfl) ?_
    refine lv_iconst (v := (-1 : Int32)) G.x G.b dX9_recall_8 (by decide) ?_
    obtain ⟨J26_5, hJ26_5, h⟩ := z_j h
    have kJ26_5 : ∀ (ls : Array Slot), J26_5 = some (r, M') → lv_has ls 4 [(0, .ref (za w 0)), (1, .int a1), (2, .int a2)] → zGo p l e rX9_recall s m args below meth c (zQ w (some (.int r)) M') (zA w) s.heap [] (F0 m 26 ls []) := by
      intro ls h hl
      rw [hJ26_5] at h
      refine lv_aload_n G.x G.b dX9_recall_26 rfl (lv_at hl 0 rfl) ?_
      refine z_get (v := .ref (za w 1)) (k := 0) G hH.1 (cC0 hw) vc9 inU9 0 (by decide) u190 rfl dX9_recall_27 ?_
      refine z_get (v := .ref (za w 10)) (k := 1) G hH.1 (cCt hw zT1) vc7 inU7 12 (by decide) u108 rfl dX9_recall_30 ?_
      refine lv_iload_n G.x G.b dX9_recall_33 rfl (lv_at hl 1 rfl) ?_
      obtain ⟨j6, ej6, h⟩ := z_bind h
      refine z_iald (k := 10) G hH.1 (cCt9 hw zT1) ej6 dX9_recall_34 ?_
      obtain ⟨x7, ex7, h⟩ := z_let h
      refine z_nmI ex7 ?_
      refine lv_istore_n (lv' := [(3, .int x7), (0, .ref (za w 0)), (1, .int a1), (2, .int a2)]) G.x G.b dX9_recall_35 rfl hl (Nat.le_of_ble_eq_true rfl) rfl (fun ls hl => ?_)
      refine lv_aload_n G.x G.b dX9_recall_36 rfl (lv_at hl 1 rfl) ?_
      refine z_get (v := .ref (za w 1)) (k := 0) G hH.1 (cC0 hw) vc9 inU9 0 (by decide) u190 rfl dX9_recall_37 ?_
      refine z_get (v := .ref (za w 10)) (k := 1) G hH.1 (cCt hw zT1) vc7 inU7 12 (by decide) u108 rfl dX9_recall_40 ?_
      refine lv_iload_n G.x G.b dX9_recall_43 rfl (lv_at hl 2 rfl) ?_
      refine lv_iload_n G.x G.b dX9_recall_44 rfl (lv_at hl 3 rfl) ?_
      obtain ⟨j8, ej8, h⟩ := z_bind h
      obtain ⟨M9, eM9, h⟩ := z_let h
      refine z_iastN (k := 10) G hH (cCt9 hw zT1) ej8 dX9_recall_45 eM9 (fun H locs hH => ?_)
      refine lv_iload_n G.x G.b dX9_recall_46 rfl (lv_at hl 0 rfl) ?_
      exact z_retI G hr hlk hH h dX9_recall_47
    refine lv_icmp_eq (tgt := 26) G.x G.b dX9_recall_9 (by decide) (fun c10 => ?_) (fun c10 => ?_)
    · have h := z_if c10 h
      exact kJ26_5 ls h (lv_sub hl [0, 1, 2] rfl)
    · have h := z_ifn c10 h
      refine lv_aload_n G.x G.b dX9_recall_12 rfl (lv_at hl 0 rfl) ?_
      refine lv_iload_n G.x G.b dX9_recall_13 rfl (lv_at hl 2 rfl) ?_
      obtain ⟨x11, ex11, h⟩ := z_bind h
      refine z_rdI (z_runV (k := 0) (As := [.int a2]) (rest := []) G hH hl.1 (kX9_isBeard l hw ex11) (cC0 hw) vc9 arX9_isBeard u231 u233 us1 u1 u234 rfl rfl rfl (Nat.le_of_ble_eq_true rfl) (Nat.le_of_ble_eq_true rfl) rfl (Nat.le_of_ble_eq_true rfl) dX9_recall_14) ?_
      refine lv_if_ne (tgt := 26) G.x G.b dX9_recall_17 (by decide) (fun c12 => ?_) (fun c12 => ?_)
      · have h := z_ifn c12 h
        exact kJ26_5 ls h (lv_sub hl [0, 1, 2] rfl)
      · have h := z_if c12 h
        refine lv_aload_n G.x G.b dX9_recall_20 rfl (lv_at hl 0 rfl) ?_
        refine lv_iconst (v := (0 : Int32)) G.x G.b dX9_recall_21 (by decide) ?_
        obtain ⟨x13, M14, eM14, h⟩ := z_b2 h
        refine z_aftI (z_runV (k := 0) (As := [.int (0 : Int32)]) (rest := []) G hH hl.1 (kX9_finding l hw eM14) (cC0 hw) vc9 arX9_finding u222 u224 us0 u1 u225 rfl rfl rfl (Nat.le_of_ble_eq_true rfl) (Nat.le_of_ble_eq_true rfl) rfl (Nat.le_of_ble_eq_true rfl) dX9_recall_22) hH (fun H locs hH => ?_)
        exact z_retI G hr hlk hH h dX9_recall_25
def fX9_houseOf (M0 : zM) (a1 : Int32) (a2 : Int32) : Option (Int32 × zM) :=
  (fX9_isHouse a1).bind fun x1 =>
  if x1 = (0 : Int32) then (zb2 (fX9_finding M0 (0 : Int32)) fun x11 M12 =>
  some (x11, M12)) else (if a2 = (0 : Int32) then ((zix a1 6).bind fun j4 =>
  some (((100 : Int32) + (M0.1 9 j4)), M0)) else (if a2 = (1 : Int32) then ((zix a1 6).bind fun j6 =>
  some ((M0.1 10 j6), M0)) else (if a2 = (2 : Int32) then ((fX7_guestsAt M0 1 a1).bind fun x8 =>
  some (x8, M0)) else (zb2 (fX9_finding M0 (0 : Int32)) fun x9 M10 =>
  some (x9, M10)))))
abbrev rX9_houseOf : Room := { frames := 2, cells := 0, slots := 0, locals := 44 }
theorem arX9_houseOf : zAr yX9_houseOf RX9 2 := ⟨rfl, by decide, by decide, by decide +kernel⟩
set_option maxHeartbeats 4000000 in
theorem kX9_houseOf (l : Launch) {w : zWd} (hw : zIsC w) {M0 M' : zM} {a1 : Int32} {a2 : Int32} {r : Int32} (h : fX9_houseOf M0 a1 a2 = some (r, M')) : Met l yX9_houseOf (Cond.code yX9_houseOf cX9_houseOf 3 (some .int) :: zU) rX9_houseOf (zPre w M0 [.ref (za w 0), .int a1, .int a2]) (zQ w (some (.int r)) M') 0 0 (zA w) := by
  refine z_metN (own := RX9) (lv := [(0, .ref (za w 0)), (1, .int a1), (2, .int a2)]) hw.1 (by decide) (Nat.le_of_ble_eq_true rfl) rfl rfl ?_
  intro p e s m args below meth c G hr hlk hH ls hl
  unfold fX9_houseOf at h
  refine lv_iload_n G.x G.b dX9_houseOf_0 rfl (lv_at hl 1 rfl) ?_
  obtain ⟨x1, ex1, h⟩ := z_bind h
  refine z_rdI (z_runS (As := [.int a1]) (rest := []) G hH hl.1 (kX9_isHouse l hw.1 ex1) arX9_isHouse u216 u217 u1 u218 rfl rfl rfl (Nat.le_of_ble_eq_true rfl) (Nat.le_of_ble_eq_true rfl) rfl (Nat.le_of_ble_eq_true rfl) dX9_houseOf_1) ?_
  refine lv_if_ne (tgt := 13) G.x G.b dX9_houseOf_4 (by decide) (fun c2 => ?_) (fun c2 => ?_)
  · have h := z_ifn c2 h
    refine lv_iload_n G.x G.b dX9_houseOf_13 rfl (lv_at hl 2 rfl) ?_
    by_cases c3 : a2 = (0 : Int32)
    · have h := z_if c3 h
      refine z_tab (tgt := 40) G.x G.b dX9_houseOf_14 c3 (by decide) (by decide) rfl (by decide) ?_
      refine lv_bipush (v := (100 : Int32)) G.x G.b dX9_houseOf_40 (by decide) ?_
      refine lv_aload_n G.x G.b dX9_houseOf_42 rfl (lv_at hl 0 rfl) ?_
      refine z_get (v := .ref (za w 1)) (k := 0) G hH.1 (cC0 hw) vc9 inU9 0 (by decide) u190 rfl dX9_houseOf_43 ?_
      refine z_get (v := .ref (za w 9)) (k := 1) G hH.1 (cCt hw zT1) vc7 inU7 11 (by decide) u105 rfl dX9_houseOf_46 ?_
      refine lv_iload_n G.x G.b dX9_houseOf_49 rfl (lv_at hl 1 rfl) ?_
      obtain ⟨j4, ej4, h⟩ := z_bind h
      refine z_iald (k := 9) G hH.1 (cCt8 hw zT1) ej4 dX9_houseOf_50 ?_
      refine lv_iadd G.x G.b dX9_houseOf_51 ?_
      exact z_retI G hr hlk hH h dX9_houseOf_52
    have h := z_ifn c3 h
    by_cases c5 : a2 = (1 : Int32)
    · have h := z_if c5 h
      refine z_tab (tgt := 53) G.x G.b dX9_houseOf_14 c5 (by decide) (by decide) rfl (by decide) ?_
      refine lv_aload_n G.x G.b dX9_houseOf_53 rfl (lv_at hl 0 rfl) ?_
      refine z_get (v := .ref (za w 1)) (k := 0) G hH.1 (cC0 hw) vc9 inU9 0 (by decide) u190 rfl dX9_houseOf_54 ?_
      refine z_get (v := .ref (za w 10)) (k := 1) G hH.1 (cCt hw zT1) vc7 inU7 12 (by decide) u108 rfl dX9_houseOf_57 ?_
      refine lv_iload_n G.x G.b dX9_houseOf_60 rfl (lv_at hl 1 rfl) ?_
      obtain ⟨j6, ej6, h⟩ := z_bind h
      refine z_iald (k := 10) G hH.1 (cCt9 hw zT1) ej6 dX9_houseOf_61 ?_
      exact z_retI G hr hlk hH h dX9_houseOf_62
    have h := z_ifn c5 h
    by_cases c7 : a2 = (2 : Int32)
    · have h := z_if c7 h
      refine z_tab (tgt := 63) G.x G.b dX9_houseOf_14 c7 (by decide) (by decide) rfl (by decide) ?_
      refine lv_aload_n G.x G.b dX9_houseOf_63 rfl (lv_at hl 0 rfl) ?_
      refine z_get (v := .ref (za w 1)) (k := 0) G hH.1 (cC0 hw) vc9 inU9 0 (by decide) u190 rfl dX9_houseOf_64 ?_
      refine lv_iload_n G.x G.b dX9_houseOf_67 rfl (lv_at hl 1 rfl) ?_
      obtain ⟨x8, ex8, h⟩ := z_bind h
      refine z_rdI (z_runV (k := 1) (As := [.int a1]) (rest := []) G hH hl.1 (kX7_guestsAt l hw zT1 ex8) (cCt hw zT1) vc7 arX7_guestsAt u239 u240 u241 u8 u242 rfl rfl rfl (Nat.le_of_ble_eq_true rfl) (Nat.le_of_ble_eq_true rfl) rfl (Nat.le_of_ble_eq_true rfl) dX9_houseOf_68) ?_
      exact z_retI G hr hlk hH h dX9_houseOf_71
    have h := z_ifn c7 h
    refine lv_tableOut (tgt := 72) G.x G.b dX9_houseOf_14 (by have gc3 := lv_neT (a := 0) c3 (by decide); have gc5 := lv_neT (a := 1) c5 (by decide); have gc7 := lv_neT (a := 2) c7 (by decide); omega) (by decide) ?_
    refine lv_aload_n G.x G.b dX9_houseOf_72 rfl (lv_at hl 0 rfl) ?_
    refine lv_iconst (v := (0 : Int32)) G.x G.b dX9_houseOf_73 (by decide) ?_
    obtain ⟨x9, M10, eM10, h⟩ := z_b2 h
    refine z_aftI (z_runV (k := 0) (As := [.int (0 : Int32)]) (rest := []) G hH hl.1 (kX9_finding l hw eM10) (cC0 hw) vc9 arX9_finding u222 u224 us0 u1 u225 rfl rfl rfl (Nat.le_of_ble_eq_true rfl) (Nat.le_of_ble_eq_true rfl) rfl (Nat.le_of_ble_eq_true rfl) dX9_houseOf_74) hH (fun H locs hH => ?_)
    exact z_retI G hr hlk hH h dX9_houseOf_77
  · have h := z_if c2 h
    refine lv_aload_n G.x G.b dX9_houseOf_7 rfl (lv_at hl 0 rfl) ?_
    refine lv_iconst (v := (0 : Int32)) G.x G.b dX9_houseOf_8 (by decide) ?_
    obtain ⟨x11, M12, eM12, h⟩ := z_b2 h
    refine z_aftI (z_runV (k := 0) (As := [.int (0 : Int32)]) (rest := []) G hH hl.1 (kX9_finding l hw eM12) (cC0 hw) vc9 arX9_finding u222 u224 us0 u1 u225 rfl rfl rfl (Nat.le_of_ble_eq_true rfl) (Nat.le_of_ble_eq_true rfl) rfl (Nat.le_of_ble_eq_true rfl) dX9_houseOf_9) hH (fun H locs hH => ?_)
    exact z_retI G hr hlk hH h dX9_houseOf_12
def fX9_now (M0 : zM) (a1 : Int32) : Option (Int32 × zM) :=
  if a1 = (0 : Int32) then (some ((M0.1 1 1), M0)) else (if a1 = (1 : Int32) then ((fX7_isMonday M0 1).bind fun x3 =>
  if x3 = (0 : Int32) then (some ((0 : Int32), M0)) else (some ((1 : Int32), M0))) else (if a1 = (2 : Int32) then ((fX7_beardsInShop M0 1).bind fun x6 =>
  some (x6, M0)) else (if a1 = (3 : Int32) then ((fX7_wearersInBeards M0 1).bind fun x8 =>
  some (x8, M0)) else (if a1 = (4 : Int32) then ((fX7_allPurses M0 1).bind fun x10 =>
  some (x10, M0)) else (zb2 (fX9_finding M0 (0 : Int32)) fun x11 M12 =>
  some (x11, M12))))))
abbrev rX9_now : Room := { frames := 1, cells := 0, slots := 0, locals := 22 }
theorem arX9_now : zAr yX9_now RX9 1 := ⟨rfl, by decide, by decide, by decide +kernel⟩
set_option maxHeartbeats 4000000 in
theorem kX9_now (l : Launch) {w : zWd} (hw : zIsC w) {M0 M' : zM} {a1 : Int32} {r : Int32} (h : fX9_now M0 a1 = some (r, M')) : Met l yX9_now (Cond.code yX9_now cX9_now 2 (some .int) :: zU) rX9_now (zPre w M0 [.ref (za w 0), .int a1]) (zQ w (some (.int r)) M') 0 0 (zA w) := by
  refine z_metN (own := RX9) (lv := [(0, .ref (za w 0)), (1, .int a1)]) hw.1 (by decide) (Nat.le_of_ble_eq_true rfl) rfl rfl ?_
  intro p e s m args below meth c G hr hlk hH ls hl
  unfold fX9_now at h
  refine lv_iload_n G.x G.b dX9_now_0 rfl (lv_at hl 1 rfl) ?_
  by_cases c1 : a1 = (0 : Int32)
  · have h := z_if c1 h
    refine z_tab (tgt := 36) G.x G.b dX9_now_1 c1 (by decide) (by decide) rfl (by decide) ?_
    refine lv_aload_n G.x G.b dX9_now_36 rfl (lv_at hl 0 rfl) ?_
    refine z_get (v := .ref (za w 1)) (k := 0) G hH.1 (cC0 hw) vc9 inU9 0 (by decide) u190 rfl dX9_now_37 ?_
    refine z_get (v := .int (M0.1 1 1)) (k := 1) G hH.1 (cCt hw zT1) vc7 inU7 1 (by decide) u77 rfl dX9_now_40 ?_
    exact z_retI G hr hlk hH h dX9_now_43
  have h := z_ifn c1 h
  by_cases c2 : a1 = (1 : Int32)
  · have h := z_if c2 h
    refine z_tab (tgt := 44) G.x G.b dX9_now_1 c2 (by decide) (by decide) rfl (by decide) ?_
    refine lv_aload_n G.x G.b dX9_now_44 rfl (lv_at hl 0 rfl) ?_
    refine z_get (v := .ref (za w 1)) (k := 0) G hH.1 (cC0 hw) vc9 inU9 0 (by decide) u190 rfl dX9_now_45 ?_
    obtain ⟨x3, ex3, h⟩ := z_bind h
    refine z_rdI (z_runV (k := 1) (As := []) (rest := []) G hH hl.1 (kX7_isMonday l hw zT1 ex3) (cCt hw zT1) vc7 arX7_isMonday u251 u252 u253 u8 u254 rfl rfl rfl (Nat.le_of_ble_eq_true rfl) (Nat.le_of_ble_eq_true rfl) rfl (Nat.le_of_ble_eq_true rfl) dX9_now_48) ?_
    refine lv_if_eq (tgt := 58) G.x G.b dX9_now_51 (by decide) (fun c4 => ?_) (fun c4 => ?_)
    · have h := z_if c4 h
      refine lv_iconst (v := (0 : Int32)) G.x G.b dX9_now_58 (by decide) ?_
      exact z_retI G hr hlk hH h dX9_now_59
    · have h := z_ifn c4 h
      refine lv_iconst (v := (1 : Int32)) G.x G.b dX9_now_54 (by decide) ?_
      refine lv_goto (tgt := 59) G.x G.b dX9_now_55 (by decide) ?_
      exact z_retI G hr hlk hH h dX9_now_59
  have h := z_ifn c2 h
  by_cases c5 : a1 = (2 : Int32)
  · have h := z_if c5 h
    refine z_tab (tgt := 60) G.x G.b dX9_now_1 c5 (by decide) (by decide) rfl (by decide) ?_
    refine lv_aload_n G.x G.b dX9_now_60 rfl (lv_at hl 0 rfl) ?_
    refine z_get (v := .ref (za w 1)) (k := 0) G hH.1 (cC0 hw) vc9 inU9 0 (by decide) u190 rfl dX9_now_61 ?_
    obtain ⟨x6, ex6, h⟩ := z_bind h
    refine z_rdI (z_runV (k := 1) (As := []) (rest := []) G hH hl.1 (kX7_beardsInShop l hw zT1 ex6) (cCt hw zT1) vc7 arX7_beardsInShop u255 u256 u257 u8 u258 rfl rfl rfl (Nat.le_of_ble_eq_true rfl) (Nat.le_of_ble_eq_true rfl) rfl (Nat.le_of_ble_eq_true rfl) dX9_now_64) ?_
    exact z_retI G hr hlk hH h dX9_now_67
  have h := z_ifn c5 h
  by_cases c7 : a1 = (3 : Int32)
  · have h := z_if c7 h
    refine z_tab (tgt := 68) G.x G.b dX9_now_1 c7 (by decide) (by decide) rfl (by decide) ?_
    refine lv_aload_n G.x G.b dX9_now_68 rfl (lv_at hl 0 rfl) ?_
    refine z_get (v := .ref (za w 1)) (k := 0) G hH.1 (cC0 hw) vc9 inU9 0 (by decide) u190 rfl dX9_now_69 ?_
    obtain ⟨x8, ex8, h⟩ := z_bind h
    refine z_rdI (z_runV (k := 1) (As := []) (rest := []) G hH hl.1 (kX7_wearersInBeards l hw zT1 ex8) (cCt hw zT1) vc7 arX7_wearersInBeards u259 u260 u261 u8 u262 rfl rfl rfl (Nat.le_of_ble_eq_true rfl) (Nat.le_of_ble_eq_true rfl) rfl (Nat.le_of_ble_eq_true rfl) dX9_now_72) ?_
    exact z_retI G hr hlk hH h dX9_now_75
  have h := z_ifn c7 h
  by_cases c9 : a1 = (4 : Int32)
  · have h := z_if c9 h
    refine z_tab (tgt := 76) G.x G.b dX9_now_1 c9 (by decide) (by decide) rfl (by decide) ?_
    refine lv_aload_n G.x G.b dX9_now_76 rfl (lv_at hl 0 rfl) ?_
    refine z_get (v := .ref (za w 1)) (k := 0) G hH.1 (cC0 hw) vc9 inU9 0 (by decide) u190 rfl dX9_now_77 ?_
    obtain ⟨x10, ex10, h⟩ := z_bind h
    refine z_rdI (z_runV (k := 1) (As := []) (rest := []) G hH hl.1 (kX7_allPurses l hw zT1 ex10) (cCt hw zT1) vc7 arX7_allPurses u263 u264 u265 u8 u266 rfl rfl rfl (Nat.le_of_ble_eq_true rfl) (Nat.le_of_ble_eq_true rfl) rfl (Nat.le_of_ble_eq_true rfl) dX9_now_80) ?_
    exact z_retI G hr hlk hH h dX9_now_83
  have h := z_ifn c9 h
  refine lv_tableOut (tgt := 84) G.x G.b dX9_now_1 (by have gc1 := lv_neT (a := 0) c1 (by decide); have gc2 := lv_neT (a := 1) c2 (by decide); have gc5 := lv_neT (a := 2) c5 (by decide); have gc7 := lv_neT (a := 3) c7 (by decide); have gc9 := lv_neT (a := 4) c9 (by decide); omega) (by decide) ?_
  refine lv_aload_n G.x G.b dX9_now_84 rfl (lv_at hl 0 rfl) ?_
  refine lv_iconst (v := (0 : Int32)) G.x G.b dX9_now_85 (by decide) ?_
  obtain ⟨x11, M12, eM12, h⟩ := z_b2 h
  refine z_aftI (z_runV (k := 0) (As := [.int (0 : Int32)]) (rest := []) G hH hl.1 (kX9_finding l hw eM12) (cC0 hw) vc9 arX9_finding u222 u224 us0 u1 u225 rfl rfl rfl (Nat.le_of_ble_eq_true rfl) (Nat.le_of_ble_eq_true rfl) rfl (Nat.le_of_ble_eq_true rfl) dX9_now_86) hH (fun H locs hH => ?_)
  exact z_retI G hr hlk hH h dX9_now_89
def fX9_isKind (a1 : Int32) : Option Int32 :=
  if a1 < (0 : Int32) then (zbl (0 : Int32)) else (if (6 : Int32) ≤ a1 then (zbl (0 : Int32)) else (zbl (1 : Int32)))
abbrev rX9_isKind : Room := { frames := 0, cells := 0, slots := 0, locals := 0 }
theorem arX9_isKind : zAr yX9_isKind RX9 1 := ⟨rfl, by decide, by decide, by decide +kernel⟩
set_option maxHeartbeats 4000000 in
theorem kX9_isKind (l : Launch) {w : zWd} (ho : zOk w) {M0 : zM} {a1 : Int32} {r : Int32} (h : fX9_isKind a1 = some r) : Met l yX9_isKind (Cond.code yX9_isKind cX9_isKind 1 (some .boolean) :: zU) rX9_isKind (zPre w M0 [.int a1]) (zR (some (.int r))) 0 0 zNo := by
  refine z_metN (own := RX9) (lv := [(0, .int a1)]) ho (by decide) (Nat.le_of_ble_eq_true rfl) rfl rfl ?_
  intro p e s m args below meth c G hr hlk hH ls hl
  unfold fX9_isKind at h
  refine lv_iload_n G.x G.b dX9_isKind_0 rfl (lv_at hl 0 rfl) ?_
  refine lv_if_lt (tgt := 14) G.x G.b dX9_isKind_1 (by decide) (fun c1 => ?_) (fun c1 => ?_)
  · have h := z_if c1 h
    refine lv_iconst (v := (0 : Int32)) G.x G.b dX9_isKind_14 (by decide) ?_
    exact z_rtZ G hr hlk h dX9_isKind_15
  · have h := z_ifn c1 h
    refine lv_iload_n G.x G.b dX9_isKind_4 rfl (lv_at hl 0 rfl) ?_
    refine lv_bipush (v := (6 : Int32)) G.x G.b dX9_isKind_5 (by decide) ?_
    refine lv_icmp_ge (tgt := 14) G.x G.b dX9_isKind_7 (by decide) (fun c2 => ?_) (fun c2 => ?_)
    · have h := z_if c2 h
      refine lv_iconst (v := (0 : Int32)) G.x G.b dX9_isKind_14 (by decide) ?_
      exact z_rtZ G hr hlk h dX9_isKind_15
    · have h := z_ifn c2 h
      refine lv_iconst (v := (1 : Int32)) G.x G.b dX9_isKind_10 (by decide) ?_
      refine lv_goto (tgt := 15) G.x G.b dX9_isKind_11 (by decide) ?_
      exact z_rtZ G hr hlk h dX9_isKind_15
def fX9_beard (M0 : zM) (a1 : Int32) : Option (Int32 × zM) :=
  (fX9_isKind a1).bind fun x1 =>
  if x1 = (0 : Int32) then (zb2 (fX9_finding M0 (0 : Int32)) fun x8 M9 =>
  some (x8, M9)) else (zb2 (fX7_addBeard M0 1 a1) fun x3 M4 =>
  if (0 : Int32) ≤ x3 then (some (x3, M4)) else (zb2 (fX9_finding M4 (1 : Int32)) fun x6 M7 =>
  some (x6, M7)))
abbrev rX9_beard : Room := { frames := 1, cells := 0, slots := 0, locals := 22 }
theorem arX9_beard : zAr yX9_beard RX9 1 := ⟨rfl, by decide, by decide, by decide +kernel⟩
set_option maxHeartbeats 4000000 in
theorem kX9_beard (l : Launch) {w : zWd} (hw : zIsC w) {M0 M' : zM} {a1 : Int32} {r : Int32} (h : fX9_beard M0 a1 = some (r, M')) : Met l yX9_beard (Cond.code yX9_beard cX9_beard 3 (some .int) :: zU) rX9_beard (zPre w M0 [.ref (za w 0), .int a1]) (zQ w (some (.int r)) M') 0 0 (zA w) := by
  refine z_metN (own := RX9) (lv := [(0, .ref (za w 0)), (1, .int a1)]) hw.1 (by decide) (Nat.le_of_ble_eq_true rfl) rfl rfl ?_
  intro p e s m args below meth c G hr hlk hH ls hl
  unfold fX9_beard at h
  refine lv_iload_n G.x G.b dX9_beard_0 rfl (lv_at hl 1 rfl) ?_
  obtain ⟨x1, ex1, h⟩ := z_bind h
  refine z_rdI (z_runS (As := [.int a1]) (rest := []) G hH hl.1 (kX9_isKind l hw.1 ex1) arX9_isKind u271 u272 u1 u273 rfl rfl rfl (Nat.le_of_ble_eq_true rfl) (Nat.le_of_ble_eq_true rfl) rfl (Nat.le_of_ble_eq_true rfl) dX9_beard_1) ?_
  refine lv_if_ne (tgt := 13) G.x G.b dX9_beard_4 (by decide) (fun c2 => ?_) (fun c2 => ?_)
  · have h := z_ifn c2 h
    refine lv_aload_n G.x G.b dX9_beard_13 rfl (lv_at hl 0 rfl) ?_
    refine z_get (v := .ref (za w 1)) (k := 0) G hH.1 (cC0 hw) vc9 inU9 0 (by decide) u190 rfl dX9_beard_14 ?_
    refine lv_iload_n G.x G.b dX9_beard_17 rfl (lv_at hl 1 rfl) ?_
    obtain ⟨x3, M4, eM4, h⟩ := z_b2 h
    refine z_aftI (z_runV (k := 1) (As := [.int a1]) (rest := []) G hH hl.1 (kX7_addBeard l hw zT1 eM4) (cCt hw zT1) vc7 arX7_addBeard u274 u275 u276 u8 u277 rfl rfl rfl (Nat.le_of_ble_eq_true rfl) (Nat.le_of_ble_eq_true rfl) rfl (Nat.le_of_ble_eq_true rfl) dX9_beard_18) hH (fun H locs hH => ?_)
    refine lv_istore_n (lv' := [(2, .int x3), (0, .ref (za w 0)), (1, .int a1)]) G.x G.b dX9_beard_21 rfl hl (Nat.le_of_ble_eq_true rfl) rfl (fun ls hl => ?_)
    refine lv_iload_n G.x G.b dX9_beard_22 rfl (lv_at hl 0 rfl) ?_
    refine lv_if_ge (tgt := 34) G.x G.b dX9_beard_23 (by decide) (fun c5 => ?_) (fun c5 => ?_)
    · have h := z_if c5 h
      refine lv_iload_n G.x G.b dX9_beard_34 rfl (lv_at hl 0 rfl) ?_
      exact z_retI G hr hlk hH h dX9_beard_35
    · have h := z_ifn c5 h
      refine lv_aload_n G.x G.b dX9_beard_26 rfl (lv_at hl 1 rfl) ?_
      refine lv_iconst (v := (1 : Int32)) G.x G.b dX9_beard_27 (by decide) ?_
      obtain ⟨x6, M7, eM7, h⟩ := z_b2 h
      refine z_aftI (z_runV (k := 0) (As := [.int (1 : Int32)]) (rest := []) G hH hl.1 (kX9_finding l hw eM7) (cC0 hw) vc9 arX9_finding u222 u224 us0 u1 u225 rfl rfl rfl (Nat.le_of_ble_eq_true rfl) (Nat.le_of_ble_eq_true rfl) rfl (Nat.le_of_ble_eq_true rfl) dX9_beard_28) hH (fun H locs hH => ?_)
      refine lv_goto (tgt := 35) G.x G.b dX9_beard_31 (by decide) ?_
      exact z_retI G hr hlk hH h dX9_beard_35
  · have h := z_if c2 h
    refine lv_aload_n G.x G.b dX9_beard_7 rfl (lv_at hl 0 rfl) ?_
    refine lv_iconst (v := (0 : Int32)) G.x G.b dX9_beard_8 (by decide) ?_
    obtain ⟨x8, M9, eM9, h⟩ := z_b2 h
    refine z_aftI (z_runV (k := 0) (As := [.int (0 : Int32)]) (rest := []) G hH hl.1 (kX9_finding l hw eM9) (cC0 hw) vc9 arX9_finding u222 u224 us0 u1 u225 rfl rfl rfl (Nat.le_of_ble_eq_true rfl) (Nat.le_of_ble_eq_true rfl) rfl (Nat.le_of_ble_eq_true rfl) dX9_beard_9) hH (fun H locs hH => ?_)
    exact z_retI G hr hlk hH h dX9_beard_12
def fX9_of (M0 : zM) (a1 : Int32) (a2 : Int32) : Option (Int32 × zM) :=
  (fX9_isBeard M0 a1).bind fun x1 =>
  if x1 = (0 : Int32) then (zb2 (fX9_finding M0 (0 : Int32)) fun x17 M18 =>
  some (x17, M18)) else (if a2 = (0 : Int32) then ((zix a1 8).bind fun j4 =>
  some ((M0.1 2 j4), M0)) else (if a2 = (1 : Int32) then ((zix a1 8).bind fun j6 =>
  some ((M0.1 3 j6), M0)) else (if a2 = (2 : Int32) then ((zix a1 8).bind fun j8 =>
  some ((M0.1 4 j8), M0)) else (if a2 = (3 : Int32) then ((zix a1 8).bind fun j10 =>
  some ((M0.1 5 j10), M0)) else (if a2 = (4 : Int32) then ((fX7_costOf M0 1 a1).bind fun x12 =>
  some (x12, M0)) else (if a2 = (5 : Int32) then ((fX7_gainOf M0 1 a1).bind fun x14 =>
  some (((100 : Int32) + x14), M0)) else (zb2 (fX9_finding M0 (0 : Int32)) fun x15 M16 =>
  some (x15, M16))))))))
abbrev rX9_of : Room := { frames := 4, cells := 0, slots := 0, locals := 87 }
theorem arX9_of : zAr yX9_of RX9 2 := ⟨rfl, by decide, by decide, by decide +kernel⟩
set_option maxHeartbeats 4000000 in
theorem kX9_of (l : Launch) {w : zWd} (hw : zIsC w) {M0 M' : zM} {a1 : Int32} {a2 : Int32} {r : Int32} (h : fX9_of M0 a1 a2 = some (r, M')) : Met l yX9_of (Cond.code yX9_of cX9_of 3 (some .int) :: zU) rX9_of (zPre w M0 [.ref (za w 0), .int a1, .int a2]) (zQ w (some (.int r)) M') 0 0 (zA w) := by
  refine z_metN (own := RX9) (lv := [(0, .ref (za w 0)), (1, .int a1), (2, .int a2)]) hw.1 (by decide) (Nat.le_of_ble_eq_true rfl) rfl rfl ?_
  intro p e s m args below meth c G hr hlk hH ls hl
  unfold fX9_of at h
  refine lv_aload_n G.x G.b dX9_of_0 rfl (lv_at hl 0 rfl) ?_
  refine lv_iload_n G.x G.b dX9_of_1 rfl (lv_at hl 1 rfl) ?_
  obtain ⟨x1, ex1, h⟩ := z_bind h
  refine z_rdI (z_runV (k := 0) (As := [.int a1]) (rest := []) G hH hl.1 (kX9_isBeard l hw ex1) (cC0 hw) vc9 arX9_isBeard u231 u233 us1 u1 u234 rfl rfl rfl (Nat.le_of_ble_eq_true rfl) (Nat.le_of_ble_eq_true rfl) rfl (Nat.le_of_ble_eq_true rfl) dX9_of_2) ?_
  refine lv_if_ne (tgt := 14) G.x G.b dX9_of_5 (by decide) (fun c2 => ?_) (fun c2 => ?_)
  · have h := z_ifn c2 h
    refine lv_iload_n G.x G.b dX9_of_14 rfl (lv_at hl 2 rfl) ?_
    by_cases c3 : a2 = (0 : Int32)
    · have h := z_if c3 h
      refine z_tab (tgt := 52) G.x G.b dX9_of_15 c3 (by decide) (by decide) rfl (by decide) ?_
      refine lv_aload_n G.x G.b dX9_of_52 rfl (lv_at hl 0 rfl) ?_
      refine z_get (v := .ref (za w 1)) (k := 0) G hH.1 (cC0 hw) vc9 inU9 0 (by decide) u190 rfl dX9_of_53 ?_
      refine z_get (v := .ref (za w 2)) (k := 1) G hH.1 (cCt hw zT1) vc7 inU7 4 (by decide) u85 rfl dX9_of_56 ?_
      refine lv_iload_n G.x G.b dX9_of_59 rfl (lv_at hl 1 rfl) ?_
      obtain ⟨j4, ej4, h⟩ := z_bind h
      refine z_iald (k := 2) G hH.1 (cCt1 hw zT1) ej4 dX9_of_60 ?_
      exact z_retI G hr hlk hH h dX9_of_61
    have h := z_ifn c3 h
    by_cases c5 : a2 = (1 : Int32)
    · have h := z_if c5 h
      refine z_tab (tgt := 62) G.x G.b dX9_of_15 c5 (by decide) (by decide) rfl (by decide) ?_
      refine lv_aload_n G.x G.b dX9_of_62 rfl (lv_at hl 0 rfl) ?_
      refine z_get (v := .ref (za w 1)) (k := 0) G hH.1 (cC0 hw) vc9 inU9 0 (by decide) u190 rfl dX9_of_63 ?_
      refine z_get (v := .ref (za w 3)) (k := 1) G hH.1 (cCt hw zT1) vc7 inU7 5 (by decide) u88 rfl dX9_of_66 ?_
      refine lv_iload_n G.x G.b dX9_of_69 rfl (lv_at hl 1 rfl) ?_
      obtain ⟨j6, ej6, h⟩ := z_bind h
      refine z_iald (k := 3) G hH.1 (cCt2 hw zT1) ej6 dX9_of_70 ?_
      exact z_retI G hr hlk hH h dX9_of_71
    have h := z_ifn c5 h
    by_cases c7 : a2 = (2 : Int32)
    · have h := z_if c7 h
      refine z_tab (tgt := 72) G.x G.b dX9_of_15 c7 (by decide) (by decide) rfl (by decide) ?_
      refine lv_aload_n G.x G.b dX9_of_72 rfl (lv_at hl 0 rfl) ?_
      refine z_get (v := .ref (za w 1)) (k := 0) G hH.1 (cC0 hw) vc9 inU9 0 (by decide) u190 rfl dX9_of_73 ?_
      refine z_get (v := .ref (za w 4)) (k := 1) G hH.1 (cCt hw zT1) vc7 inU7 6 (by decide) u91 rfl dX9_of_76 ?_
      refine lv_iload_n G.x G.b dX9_of_79 rfl (lv_at hl 1 rfl) ?_
      obtain ⟨j8, ej8, h⟩ := z_bind h
      refine z_iald (k := 4) G hH.1 (cCt3 hw zT1) ej8 dX9_of_80 ?_
      exact z_retI G hr hlk hH h dX9_of_81
    have h := z_ifn c7 h
    by_cases c9 : a2 = (3 : Int32)
    · have h := z_if c9 h
      refine z_tab (tgt := 82) G.x G.b dX9_of_15 c9 (by decide) (by decide) rfl (by decide) ?_
      refine lv_aload_n G.x G.b dX9_of_82 rfl (lv_at hl 0 rfl) ?_
      refine z_get (v := .ref (za w 1)) (k := 0) G hH.1 (cC0 hw) vc9 inU9 0 (by decide) u190 rfl dX9_of_83 ?_
      refine z_get (v := .ref (za w 5)) (k := 1) G hH.1 (cCt hw zT1) vc7 inU7 7 (by decide) u93 rfl dX9_of_86 ?_
      refine lv_iload_n G.x G.b dX9_of_89 rfl (lv_at hl 1 rfl) ?_
      obtain ⟨j10, ej10, h⟩ := z_bind h
      refine z_iald (k := 5) G hH.1 (cCt4 hw zT1) ej10 dX9_of_90 ?_
      exact z_retI G hr hlk hH h dX9_of_91
    have h := z_ifn c9 h
    by_cases c11 : a2 = (4 : Int32)
    · have h := z_if c11 h
      refine z_tab (tgt := 92) G.x G.b dX9_of_15 c11 (by decide) (by decide) rfl (by decide) ?_
      refine lv_aload_n G.x G.b dX9_of_92 rfl (lv_at hl 0 rfl) ?_
      refine z_get (v := .ref (za w 1)) (k := 0) G hH.1 (cC0 hw) vc9 inU9 0 (by decide) u190 rfl dX9_of_93 ?_
      refine lv_iload_n G.x G.b dX9_of_96 rfl (lv_at hl 1 rfl) ?_
      obtain ⟨x12, ex12, h⟩ := z_bind h
      refine z_rdI (z_runV (k := 1) (As := [.int a1]) (rest := []) G hH hl.1 (kX7_costOf l hw zT1 ex12) (cCt hw zT1) vc7 arX7_costOf u282 u283 u284 u8 u285 rfl rfl rfl (Nat.le_of_ble_eq_true rfl) (Nat.le_of_ble_eq_true rfl) rfl (Nat.le_of_ble_eq_true rfl) dX9_of_97) ?_
      exact z_retI G hr hlk hH h dX9_of_100
    have h := z_ifn c11 h
    by_cases c13 : a2 = (5 : Int32)
    · have h := z_if c13 h
      refine z_tab (tgt := 101) G.x G.b dX9_of_15 c13 (by decide) (by decide) rfl (by decide) ?_
      refine lv_bipush (v := (100 : Int32)) G.x G.b dX9_of_101 (by decide) ?_
      refine lv_aload_n G.x G.b dX9_of_103 rfl (lv_at hl 0 rfl) ?_
      refine z_get (v := .ref (za w 1)) (k := 0) G hH.1 (cC0 hw) vc9 inU9 0 (by decide) u190 rfl dX9_of_104 ?_
      refine lv_iload_n G.x G.b dX9_of_107 rfl (lv_at hl 1 rfl) ?_
      obtain ⟨x14, ex14, h⟩ := z_bind h
      refine z_rdI (z_runV (k := 1) (As := [.int a1]) (rest := [.int (100 : Int32)]) G hH hl.1 (kX7_gainOf l hw zT1 ex14) (cCt hw zT1) vc7 arX7_gainOf u309 u310 u311 u8 u312 rfl rfl rfl (Nat.le_of_ble_eq_true rfl) (Nat.le_of_ble_eq_true rfl) rfl (Nat.le_of_ble_eq_true rfl) dX9_of_108) ?_
      refine lv_iadd G.x G.b dX9_of_111 ?_
      exact z_retI G hr hlk hH h dX9_of_112
    have h := z_ifn c13 h
    refine lv_tableOut (tgt := 113) G.x G.b dX9_of_15 (by have gc3 := lv_neT (a := 0) c3 (by decide); have gc5 := lv_neT (a := 1) c5 (by decide); have gc7 := lv_neT (a := 2) c7 (by decide); have gc9 := lv_neT (a := 3) c9 (by decide); have gc11 := lv_neT (a := 4) c11 (by decide); have gc13 := lv_neT (a := 5) c13 (by decide); omega) (by decide) ?_
    refine lv_aload_n G.x G.b dX9_of_113 rfl (lv_at hl 0 rfl) ?_
    refine lv_iconst (v := (0 : Int32)) G.x G.b dX9_of_114 (by decide) ?_
    obtain ⟨x15, M16, eM16, h⟩ := z_b2 h
    refine z_aftI (z_runV (k := 0) (As := [.int (0 : Int32)]) (rest := []) G hH hl.1 (kX9_finding l hw eM16) (cC0 hw) vc9 arX9_finding u222 u224 us0 u1 u225 rfl rfl rfl (Nat.le_of_ble_eq_true rfl) (Nat.le_of_ble_eq_true rfl) rfl (Nat.le_of_ble_eq_true rfl) dX9_of_115) hH (fun H locs hH => ?_)
    exact z_retI G hr hlk hH h dX9_of_118
  · have h := z_if c2 h
    refine lv_aload_n G.x G.b dX9_of_8 rfl (lv_at hl 0 rfl) ?_
    refine lv_iconst (v := (0 : Int32)) G.x G.b dX9_of_9 (by decide) ?_
    obtain ⟨x17, M18, eM18, h⟩ := z_b2 h
    refine z_aftI (z_runV (k := 0) (As := [.int (0 : Int32)]) (rest := []) G hH hl.1 (kX9_finding l hw eM18) (cC0 hw) vc9 arX9_finding u222 u224 us0 u1 u225 rfl rfl rfl (Nat.le_of_ble_eq_true rfl) (Nat.le_of_ble_eq_true rfl) rfl (Nat.le_of_ble_eq_true rfl) dX9_of_10) hH (fun H locs hH => ?_)
    exact z_retI G hr hlk hH h dX9_of_13
def fX9_can (M0 : zM) (a1 : Int32) (a2 : Int32) (a3 : Int32) : Option (Int32 × zM) :=
  (fX9_isBeard M0 a1).bind fun x1 =>
  if x1 = (0 : Int32) then (zb2 (fX9_finding M0 (0 : Int32)) fun x3 M4 =>
  some (x3, M4)) else ((fX9_isHouse a2).bind fun x5 =>
  if x5 = (0 : Int32) then (zb2 (fX9_finding M0 (0 : Int32)) fun x13 M14 =>
  some (x13, M14)) else (if a3 = (0 : Int32) then ((fX7_meetingAt M0 1 a1 a2).bind fun x8 =>
  some (((100 : Int32) + x8), M0)) else (if a3 = (1 : Int32) then ((fX7_leavingOf M0 1 a1).bind fun x10 =>
  some (((100 : Int32) + x10), M0)) else (zb2 (fX9_finding M0 (0 : Int32)) fun x11 M12 =>
  some (x11, M12)))))
abbrev rX9_can : Room := { frames := 4, cells := 0, slots := 0, locals := 93 }
theorem arX9_can : zAr yX9_can RX9 3 := ⟨rfl, by decide, by decide, by decide +kernel⟩
set_option maxHeartbeats 4000000 in
theorem kX9_can (l : Launch) {w : zWd} (hw : zIsC w) {M0 M' : zM} {a1 : Int32} {a2 : Int32} {a3 : Int32} {r : Int32} (h : fX9_can M0 a1 a2 a3 = some (r, M')) : Met l yX9_can (Cond.code yX9_can cX9_can 4 (some .int) :: zU) rX9_can (zPre w M0 [.ref (za w 0), .int a1, .int a2, .int a3]) (zQ w (some (.int r)) M') 0 0 (zA w) := by
  refine z_metN (own := RX9) (lv := [(0, .ref (za w 0)), (1, .int a1), (2, .int a2), (3, .int a3)]) hw.1 (by decide) (Nat.le_of_ble_eq_true rfl) rfl rfl ?_
  intro p e s m args below meth c G hr hlk hH ls hl
  unfold fX9_can at h
  refine lv_aload_n G.x G.b dX9_can_0 rfl (lv_at hl 0 rfl) ?_
  refine lv_iload_n G.x G.b dX9_can_1 rfl (lv_at hl 1 rfl) ?_
  obtain ⟨x1, ex1, h⟩ := z_bind h
  refine z_rdI (z_runV (k := 0) (As := [.int a1]) (rest := []) G hH hl.1 (kX9_isBeard l hw ex1) (cC0 hw) vc9 arX9_isBeard u231 u233 us1 u1 u234 rfl rfl rfl (Nat.le_of_ble_eq_true rfl) (Nat.le_of_ble_eq_true rfl) rfl (Nat.le_of_ble_eq_true rfl) dX9_can_2) ?_
  refine lv_if_eq (tgt := 15) G.x G.b dX9_can_5 (by decide) (fun c2 => ?_) (fun c2 => ?_)
  · have h := z_if c2 h
    refine lv_aload_n G.x G.b dX9_can_15 rfl (lv_at hl 0 rfl) ?_
    refine lv_iconst (v := (0 : Int32)) G.x G.b dX9_can_16 (by decide) ?_
    obtain ⟨x3, M4, eM4, h⟩ := z_b2 h
    refine z_aftI (z_runV (k := 0) (As := [.int (0 : Int32)]) (rest := []) G hH hl.1 (kX9_finding l hw eM4) (cC0 hw) vc9 arX9_finding u222 u224 us0 u1 u225 rfl rfl rfl (Nat.le_of_ble_eq_true rfl) (Nat.le_of_ble_eq_true rfl) rfl (Nat.le_of_ble_eq_true rfl) dX9_can_17) hH (fun H locs hH => ?_)
    exact z_retI G hr hlk hH h dX9_can_20
  · have h := z_ifn c2 h
    refine lv_iload_n G.x G.b dX9_can_8 rfl (lv_at hl 2 rfl) ?_
    obtain ⟨x5, ex5, h⟩ := z_bind h
    refine z_rdI (z_runS (As := [.int a2]) (rest := []) G hH hl.1 (kX9_isHouse l hw.1 ex5) arX9_isHouse u216 u217 u1 u218 rfl rfl rfl (Nat.le_of_ble_eq_true rfl) (Nat.le_of_ble_eq_true rfl) rfl (Nat.le_of_ble_eq_true rfl) dX9_can_9) ?_
    refine lv_if_ne (tgt := 21) G.x G.b dX9_can_12 (by decide) (fun c6 => ?_) (fun c6 => ?_)
    · have h := z_ifn c6 h
      refine lv_iload_n G.x G.b dX9_can_21 rfl (lv_at hl 3 rfl) ?_
      by_cases c7 : a3 = (0 : Int32)
      · have h := z_if c7 h
        refine z_look (off := 26) (tgt := 48) G.x G.b dX9_can_22 rfl c7 (by decide) (by decide) ?_
        refine lv_bipush (v := (100 : Int32)) G.x G.b dX9_can_48 (by decide) ?_
        refine lv_aload_n G.x G.b dX9_can_50 rfl (lv_at hl 0 rfl) ?_
        refine z_get (v := .ref (za w 1)) (k := 0) G hH.1 (cC0 hw) vc9 inU9 0 (by decide) u190 rfl dX9_can_51 ?_
        refine lv_iload_n G.x G.b dX9_can_54 rfl (lv_at hl 1 rfl) ?_
        refine lv_iload_n G.x G.b dX9_can_55 rfl (lv_at hl 2 rfl) ?_
        obtain ⟨x8, ex8, h⟩ := z_bind h
        refine z_rdI (z_runV (k := 1) (As := [.int a1, .int a2]) (rest := [.int (100 : Int32)]) G hH hl.1 (kX7_meetingAt l hw zT1 ex8) (cCt hw zT1) vc7 arX7_meetingAt u341 u342 u343 u8 u344 rfl rfl rfl (Nat.le_of_ble_eq_true rfl) (Nat.le_of_ble_eq_true rfl) rfl (Nat.le_of_ble_eq_true rfl) dX9_can_56) ?_
        refine lv_iadd G.x G.b dX9_can_59 ?_
        exact z_retI G hr hlk hH h dX9_can_60
      have h := z_ifn c7 h
      by_cases c9 : a3 = (1 : Int32)
      · have h := z_if c9 h
        refine z_look (off := 39) (tgt := 61) G.x G.b dX9_can_22 rfl c9 (by decide) (by decide) ?_
        refine lv_bipush (v := (100 : Int32)) G.x G.b dX9_can_61 (by decide) ?_
        refine lv_aload_n G.x G.b dX9_can_63 rfl (lv_at hl 0 rfl) ?_
        refine z_get (v := .ref (za w 1)) (k := 0) G hH.1 (cC0 hw) vc9 inU9 0 (by decide) u190 rfl dX9_can_64 ?_
        refine lv_iload_n G.x G.b dX9_can_67 rfl (lv_at hl 1 rfl) ?_
        obtain ⟨x10, ex10, h⟩ := z_bind h
        refine z_rdI (z_runV (k := 1) (As := [.int a1]) (rest := [.int (100 : Int32)]) G hH hl.1 (kX7_leavingOf l hw zT1 ex10) (cCt hw zT1) vc7 arX7_leavingOf u370 u371 u372 u8 u373 rfl rfl rfl (Nat.le_of_ble_eq_true rfl) (Nat.le_of_ble_eq_true rfl) rfl (Nat.le_of_ble_eq_true rfl) dX9_can_68) ?_
        refine lv_iadd G.x G.b dX9_can_71 ?_
        exact z_retI G hr hlk hH h dX9_can_72
      have h := z_ifn c9 h
      refine lv_lookup (off := 51) (tgt := 73) G.x G.b dX9_can_22 rfl (by refine (lv_osw (k := (0 : Int32)) c7 (by decide)).trans ?_; refine (lv_osw (k := (1 : Int32)) c9 (by decide)).trans ?_; rfl) (by decide) ?_
      refine lv_aload_n G.x G.b dX9_can_73 rfl (lv_at hl 0 rfl) ?_
      refine lv_iconst (v := (0 : Int32)) G.x G.b dX9_can_74 (by decide) ?_
      obtain ⟨x11, M12, eM12, h⟩ := z_b2 h
      refine z_aftI (z_runV (k := 0) (As := [.int (0 : Int32)]) (rest := []) G hH hl.1 (kX9_finding l hw eM12) (cC0 hw) vc9 arX9_finding u222 u224 us0 u1 u225 rfl rfl rfl (Nat.le_of_ble_eq_true rfl) (Nat.le_of_ble_eq_true rfl) rfl (Nat.le_of_ble_eq_true rfl) dX9_can_75) hH (fun H locs hH => ?_)
      exact z_retI G hr hlk hH h dX9_can_78
    · have h := z_if c6 h
      refine lv_aload_n G.x G.b dX9_can_15 rfl (lv_at hl 0 rfl) ?_
      refine lv_iconst (v := (0 : Int32)) G.x G.b dX9_can_16 (by decide) ?_
      obtain ⟨x13, M14, eM14, h⟩ := z_b2 h
      refine z_aftI (z_runV (k := 0) (As := [.int (0 : Int32)]) (rest := []) G hH hl.1 (kX9_finding l hw eM14) (cC0 hw) vc9 arX9_finding u222 u224 us0 u1 u225 rfl rfl rfl (Nat.le_of_ble_eq_true rfl) (Nat.le_of_ble_eq_true rfl) rfl (Nat.le_of_ble_eq_true rfl) dX9_can_17) hH (fun H locs hH => ?_)
      exact z_retI G hr hlk hH h dX9_can_20
def fX9_set (M0 : zM) (a1 : Int32) (a2 : Int32) (a3 : Int32) : Option (Int32 × zM) :=
  (fX9_isBeard M0 a1).bind fun x1 =>
  if x1 = (0 : Int32) then (zb2 (fX9_finding M0 (0 : Int32)) fun x22 M23 =>
  some (x22, M23)) else (zj (if a2 = (2 : Int32) then ((fX9_isWithin a3 (0 : Int32) (999 : Int32)).bind fun x7 =>
  if x7 = (0 : Int32) then (zb2 (fX9_finding M0 (0 : Int32)) fun x9 M10 =>
  some (x9, M10)) else ((zix a1 8).bind fun j11 =>
  (some (M0.1 4 j11)).bind fun x12 =>
  (zix a1 8).bind fun j13 =>
  (some (zst M0 4 j13 a3)).bind fun M14 =>
  some (x12, M14))) else (zb2 (fX9_finding M0 (0 : Int32)) fun x5 M6 =>
  some (x5, M6))) fun J53_3 =>
  if a2 = (1 : Int32) then ((fX9_isWithin a3 (0 : Int32) (99 : Int32)).bind fun x16 =>
  if x16 = (0 : Int32) then (J53_3) else ((zix a1 8).bind fun j18 =>
  (some (M0.1 3 j18)).bind fun x19 =>
  (zix a1 8).bind fun j20 =>
  (some (zst M0 3 j20 a3)).bind fun M21 =>
  some (x19, M21))) else (J53_3))
abbrev rX9_set : Room := { frames := 1, cells := 0, slots := 0, locals := 22 }
theorem arX9_set : zAr yX9_set RX9 3 := ⟨rfl, by decide, by decide, by decide +kernel⟩
set_option maxHeartbeats 4000000 in
theorem kX9_set (l : Launch) {w : zWd} (hw : zIsC w) {M0 M' : zM} {a1 : Int32} {a2 : Int32} {a3 : Int32} {r : Int32} (h : fX9_set M0 a1 a2 a3 = some (r, M')) : Met l yX9_set (Cond.code yX9_set cX9_set 5 (some .int) :: zU) rX9_set (zPre w M0 [.ref (za w 0), .int a1, .int a2, .int a3]) (zQ w (some (.int r)) M') 0 0 (zA w) := by
  refine z_metN (own := RX9) (lv := [(0, .ref (za w 0)), (1, .int a1), (2, .int a2), (3, .int a3)]) hw.1 (by decide) (Nat.le_of_ble_eq_true rfl) rfl rfl ?_
  intro p e s m args below meth c G hr hlk hH ls hl
  unfold fX9_set at h
  refine lv_aload_n G.x G.b dX9_set_0 rfl (lv_at hl 0 rfl) ?_
  refine lv_iload_n G.x G.b dX9_set_1 rfl (lv_at hl 1 rfl) ?_
  obtain ⟨x1, ex1, h⟩ := z_bind h
  refine z_rdI (z_runV (k := 0) (As := [.int a1]) (rest := []) G hH hl.1 (kX9_isBeard l hw ex1) (cC0 hw) vc9 arX9_isBeard u231 u233 us1 u1 u234 rfl rfl rfl (Nat.le_of_ble_eq_true rfl) (Nat.le_of_ble_eq_true rfl) rfl (Nat.le_of_ble_eq_true rfl) dX9_set_2) ?_
  refine lv_if_ne (tgt := 14) G.x G.b dX9_set_5 (by decide) (fun c2 => ?_) (fun c2 => ?_)
  · have h := z_ifn c2 h
    refine lv_iload_n G.x G.b dX9_set_14 rfl (lv_at hl 2 rfl) ?_
    refine lv_iconst (v := (1 : Int32)) G.x G.b dX9_set_15 (by decide) ?_
    obtain ⟨J53_3, hJ53_3, h⟩ := z_j h
    have kJ53_3 : ∀ (ls : Array Slot), J53_3 = some (r, M') → lv_has ls 5 [(0, .ref (za w 0)), (1, .int a1), (2, .int a2), (3, .int a3)] → zGo p l e rX9_set s m args below meth c (zQ w (some (.int r)) M') (zA w) s.heap [] (F0 m 53 ls []) := by
      intro ls h hl
      rw [hJ53_3] at h
      refine lv_iload_n G.x G.b dX9_set_53 rfl (lv_at hl 2 rfl) ?_
      refine lv_iconst (v := (2 : Int32)) G.x G.b dX9_set_54 (by decide) ?_
      refine lv_icmp_ne (tgt := 93) G.x G.b dX9_set_55 (by decide) (fun c4 => ?_) (fun c4 => ?_)
      · have h := z_ifn c4 h
        refine lv_aload_n G.x G.b dX9_set_93 rfl (lv_at hl 0 rfl) ?_
        refine lv_iconst (v := (0 : Int32)) G.x G.b dX9_set_94 (by decide) ?_
        obtain ⟨x5, M6, eM6, h⟩ := z_b2 h
        refine z_aftI (z_runV (k := 0) (As := [.int (0 : Int32)]) (rest := []) G hH hl.1 (kX9_finding l hw eM6) (cC0 hw) vc9 arX9_finding u222 u224 us0 u1 u225 rfl rfl rfl (Nat.le_of_ble_eq_true rfl) (Nat.le_of_ble_eq_true rfl) rfl (Nat.le_of_ble_eq_true rfl) dX9_set_95) hH (fun H locs hH => ?_)
        exact z_retI G hr hlk hH h dX9_set_98
      · have h := z_if c4 h
        refine lv_iload_n G.x G.b dX9_set_58 rfl (lv_at hl 3 rfl) ?_
        refine lv_iconst (v := (0 : Int32)) G.x G.b dX9_set_59 (by decide) ?_
        refine lv_sipush (v := (999 : Int32)) G.x G.b dX9_set_60 (by decide) ?_
        obtain ⟨x7, ex7, h⟩ := z_bind h
        refine z_rdI (z_runS (As := [.int a3, .int (0 : Int32), .int (999 : Int32)]) (rest := []) G hH hl.1 (kX9_isWithin l hw.1 ex7) arX9_isWithin u219 u220 u1 u221 rfl rfl rfl (Nat.le_of_ble_eq_true rfl) (Nat.le_of_ble_eq_true rfl) rfl (Nat.le_of_ble_eq_true rfl) dX9_set_63) ?_
        refine lv_if_eq (tgt := 93) G.x G.b dX9_set_66 (by decide) (fun c8 => ?_) (fun c8 => ?_)
        · have h := z_if c8 h
          refine lv_aload_n G.x G.b dX9_set_93 rfl (lv_at hl 0 rfl) ?_
          refine lv_iconst (v := (0 : Int32)) G.x G.b dX9_set_94 (by decide) ?_
          obtain ⟨x9, M10, eM10, h⟩ := z_b2 h
          refine z_aftI (z_runV (k := 0) (As := [.int (0 : Int32)]) (rest := []) G hH hl.1 (kX9_finding l hw eM10) (cC0 hw) vc9 arX9_finding u222 u224 us0 u1 u225 rfl rfl rfl (Nat.le_of_ble_eq_true rfl) (Nat.le_of_ble_eq_true rfl) rfl (Nat.le_of_ble_eq_true rfl) dX9_set_95) hH (fun H locs hH => ?_)
          exact z_retI G hr hlk hH h dX9_set_98
        · have h := z_ifn c8 h
          refine lv_aload_n G.x G.b dX9_set_69 rfl (lv_at hl 0 rfl) ?_
          refine z_get (v := .ref (za w 1)) (k := 0) G hH.1 (cC0 hw) vc9 inU9 0 (by decide) u190 rfl dX9_set_70 ?_
          refine z_get (v := .ref (za w 4)) (k := 1) G hH.1 (cCt hw zT1) vc7 inU7 6 (by decide) u91 rfl dX9_set_73 ?_
          refine lv_iload_n G.x G.b dX9_set_76 rfl (lv_at hl 1 rfl) ?_
          obtain ⟨j11, ej11, h⟩ := z_bind h
          refine z_iald (k := 4) G hH.1 (cCt3 hw zT1) ej11 dX9_set_77 ?_
          obtain ⟨x12, ex12, h⟩ := z_let h
          refine z_nmI ex12 ?_
          refine lv_istore (lv' := [(4, .int x12), (0, .ref (za w 0)), (1, .int a1), (2, .int a2), (3, .int a3)]) G.x G.b dX9_set_78 hl (Nat.le_of_ble_eq_true rfl) rfl (fun ls hl => ?_)
          refine lv_aload_n G.x G.b dX9_set_80 rfl (lv_at hl 1 rfl) ?_
          refine z_get (v := .ref (za w 1)) (k := 0) G hH.1 (cC0 hw) vc9 inU9 0 (by decide) u190 rfl dX9_set_81 ?_
          refine z_get (v := .ref (za w 4)) (k := 1) G hH.1 (cCt hw zT1) vc7 inU7 6 (by decide) u91 rfl dX9_set_84 ?_
          refine lv_iload_n G.x G.b dX9_set_87 rfl (lv_at hl 2 rfl) ?_
          refine lv_iload_n G.x G.b dX9_set_88 rfl (lv_at hl 4 rfl) ?_
          obtain ⟨j13, ej13, h⟩ := z_bind h
          obtain ⟨M14, eM14, h⟩ := z_let h
          refine z_iastN (k := 4) G hH (cCt3 hw zT1) ej13 dX9_set_89 eM14 (fun H locs hH => ?_)
          refine lv_iload G.x G.b dX9_set_90 (lv_at hl 0 rfl) ?_
          exact z_retI G hr hlk hH h dX9_set_92
    refine lv_icmp_ne (tgt := 53) G.x G.b dX9_set_16 (by decide) (fun c15 => ?_) (fun c15 => ?_)
    · have h := z_ifn c15 h
      exact kJ53_3 ls h (lv_sub hl [0, 1, 2, 3] rfl)
    · have h := z_if c15 h
      refine lv_iload_n G.x G.b dX9_set_19 rfl (lv_at hl 3 rfl) ?_
      refine lv_iconst (v := (0 : Int32)) G.x G.b dX9_set_20 (by decide) ?_
      refine lv_bipush (v := (99 : Int32)) G.x G.b dX9_set_21 (by decide) ?_
      obtain ⟨x16, ex16, h⟩ := z_bind h
      refine z_rdI (z_runS (As := [.int a3, .int (0 : Int32), .int (99 : Int32)]) (rest := []) G hH hl.1 (kX9_isWithin l hw.1 ex16) arX9_isWithin u219 u220 u1 u221 rfl rfl rfl (Nat.le_of_ble_eq_true rfl) (Nat.le_of_ble_eq_true rfl) rfl (Nat.le_of_ble_eq_true rfl) dX9_set_23) ?_
      refine lv_if_eq (tgt := 53) G.x G.b dX9_set_26 (by decide) (fun c17 => ?_) (fun c17 => ?_)
      · have h := z_if c17 h
        exact kJ53_3 ls h (lv_sub hl [0, 1, 2, 3] rfl)
      · have h := z_ifn c17 h
        refine lv_aload_n G.x G.b dX9_set_29 rfl (lv_at hl 0 rfl) ?_
        refine z_get (v := .ref (za w 1)) (k := 0) G hH.1 (cC0 hw) vc9 inU9 0 (by decide) u190 rfl dX9_set_30 ?_
        refine z_get (v := .ref (za w 3)) (k := 1) G hH.1 (cCt hw zT1) vc7 inU7 5 (by decide) u88 rfl dX9_set_33 ?_
        refine lv_iload_n G.x G.b dX9_set_36 rfl (lv_at hl 1 rfl) ?_
        obtain ⟨j18, ej18, h⟩ := z_bind h
        refine z_iald (k := 3) G hH.1 (cCt2 hw zT1) ej18 dX9_set_37 ?_
        obtain ⟨x19, ex19, h⟩ := z_let h
        refine z_nmI ex19 ?_
        refine lv_istore (lv' := [(4, .int x19), (0, .ref (za w 0)), (1, .int a1), (2, .int a2), (3, .int a3)]) G.x G.b dX9_set_38 hl (Nat.le_of_ble_eq_true rfl) rfl (fun ls hl => ?_)
        refine lv_aload_n G.x G.b dX9_set_40 rfl (lv_at hl 1 rfl) ?_
        refine z_get (v := .ref (za w 1)) (k := 0) G hH.1 (cC0 hw) vc9 inU9 0 (by decide) u190 rfl dX9_set_41 ?_
        refine z_get (v := .ref (za w 3)) (k := 1) G hH.1 (cCt hw zT1) vc7 inU7 5 (by decide) u88 rfl dX9_set_44 ?_
        refine lv_iload_n G.x G.b dX9_set_47 rfl (lv_at hl 2 rfl) ?_
        refine lv_iload_n G.x G.b dX9_set_48 rfl (lv_at hl 4 rfl) ?_
        obtain ⟨j20, ej20, h⟩ := z_bind h
        obtain ⟨M21, eM21, h⟩ := z_let h
        refine z_iastN (k := 3) G hH (cCt2 hw zT1) ej20 dX9_set_49 eM21 (fun H locs hH => ?_)
        refine lv_iload G.x G.b dX9_set_50 (lv_at hl 0 rfl) ?_
        exact z_retI G hr hlk hH h dX9_set_52
  · have h := z_if c2 h
    refine lv_aload_n G.x G.b dX9_set_8 rfl (lv_at hl 0 rfl) ?_
    refine lv_iconst (v := (0 : Int32)) G.x G.b dX9_set_9 (by decide) ?_
    obtain ⟨x22, M23, eM23, h⟩ := z_b2 h
    refine z_aftI (z_runV (k := 0) (As := [.int (0 : Int32)]) (rest := []) G hH hl.1 (kX9_finding l hw eM23) (cC0 hw) vc9 arX9_finding u222 u224 us0 u1 u225 rfl rfl rfl (Nat.le_of_ble_eq_true rfl) (Nat.le_of_ble_eq_true rfl) rfl (Nat.le_of_ble_eq_true rfl) dX9_set_10) hH (fun H locs hH => ?_)
    exact z_retI G hr hlk hH h dX9_set_13
def fX9_turn (M0 : zM) (a1 : Int32) (a2 : Int32) : Option (Int32 × zM) :=
  (fX9_isBeard M0 a1).bind fun x1 =>
  if x1 = (0 : Int32) then (zb2 (fX9_finding M0 (0 : Int32)) fun x3 M4 =>
  some (x3, M4)) else ((fX9_isKind a2).bind fun x5 =>
  if x5 = (0 : Int32) then (zb2 (fX9_finding M0 (0 : Int32)) fun x11 M12 =>
  some (x11, M12)) else ((zix a1 8).bind fun j7 =>
  (some (M0.1 2 j7)).bind fun x8 =>
  (zix a1 8).bind fun j9 =>
  (some (zst M0 2 j9 a2)).bind fun M10 =>
  some (x8, M10)))
abbrev rX9_turn : Room := { frames := 1, cells := 0, slots := 0, locals := 21 }
theorem arX9_turn : zAr yX9_turn RX9 2 := ⟨rfl, by decide, by decide, by decide +kernel⟩
set_option maxHeartbeats 4000000 in
theorem kX9_turn (l : Launch) {w : zWd} (hw : zIsC w) {M0 M' : zM} {a1 : Int32} {a2 : Int32} {r : Int32} (h : fX9_turn M0 a1 a2 = some (r, M')) : Met l yX9_turn (Cond.code yX9_turn cX9_turn 4 (some .int) :: zU) rX9_turn (zPre w M0 [.ref (za w 0), .int a1, .int a2]) (zQ w (some (.int r)) M') 0 0 (zA w) := by
  refine z_metN (own := RX9) (lv := [(0, .ref (za w 0)), (1, .int a1), (2, .int a2)]) hw.1 (by decide) (Nat.le_of_ble_eq_true rfl) rfl rfl ?_
  intro p e s m args below meth c G hr hlk hH ls hl
  unfold fX9_turn at h
  refine lv_aload_n G.x G.b dX9_turn_0 rfl (lv_at hl 0 rfl) ?_
  refine lv_iload_n G.x G.b dX9_turn_1 rfl (lv_at hl 1 rfl) ?_
  obtain ⟨x1, ex1, h⟩ := z_bind h
  refine z_rdI (z_runV (k := 0) (As := [.int a1]) (rest := []) G hH hl.1 (kX9_isBeard l hw ex1) (cC0 hw) vc9 arX9_isBeard u231 u233 us1 u1 u234 rfl rfl rfl (Nat.le_of_ble_eq_true rfl) (Nat.le_of_ble_eq_true rfl) rfl (Nat.le_of_ble_eq_true rfl) dX9_turn_2) ?_
  refine lv_if_eq (tgt := 15) G.x G.b dX9_turn_5 (by decide) (fun c2 => ?_) (fun c2 => ?_)
  · have h := z_if c2 h
    refine lv_aload_n G.x G.b dX9_turn_15 rfl (lv_at hl 0 rfl) ?_
    refine lv_iconst (v := (0 : Int32)) G.x G.b dX9_turn_16 (by decide) ?_
    obtain ⟨x3, M4, eM4, h⟩ := z_b2 h
    refine z_aftI (z_runV (k := 0) (As := [.int (0 : Int32)]) (rest := []) G hH hl.1 (kX9_finding l hw eM4) (cC0 hw) vc9 arX9_finding u222 u224 us0 u1 u225 rfl rfl rfl (Nat.le_of_ble_eq_true rfl) (Nat.le_of_ble_eq_true rfl) rfl (Nat.le_of_ble_eq_true rfl) dX9_turn_17) hH (fun H locs hH => ?_)
    exact z_retI G hr hlk hH h dX9_turn_20
  · have h := z_ifn c2 h
    refine lv_iload_n G.x G.b dX9_turn_8 rfl (lv_at hl 2 rfl) ?_
    obtain ⟨x5, ex5, h⟩ := z_bind h
    refine z_rdI (z_runS (As := [.int a2]) (rest := []) G hH hl.1 (kX9_isKind l hw.1 ex5) arX9_isKind u271 u272 u1 u273 rfl rfl rfl (Nat.le_of_ble_eq_true rfl) (Nat.le_of_ble_eq_true rfl) rfl (Nat.le_of_ble_eq_true rfl) dX9_turn_9) ?_
    refine lv_if_ne (tgt := 21) G.x G.b dX9_turn_12 (by decide) (fun c6 => ?_) (fun c6 => ?_)
    · have h := z_ifn c6 h
      refine lv_aload_n G.x G.b dX9_turn_21 rfl (lv_at hl 0 rfl) ?_
      refine z_get (v := .ref (za w 1)) (k := 0) G hH.1 (cC0 hw) vc9 inU9 0 (by decide) u190 rfl dX9_turn_22 ?_
      refine z_get (v := .ref (za w 2)) (k := 1) G hH.1 (cCt hw zT1) vc7 inU7 4 (by decide) u85 rfl dX9_turn_25 ?_
      refine lv_iload_n G.x G.b dX9_turn_28 rfl (lv_at hl 1 rfl) ?_
      obtain ⟨j7, ej7, h⟩ := z_bind h
      refine z_iald (k := 2) G hH.1 (cCt1 hw zT1) ej7 dX9_turn_29 ?_
      obtain ⟨x8, ex8, h⟩ := z_let h
      refine z_nmI ex8 ?_
      refine lv_istore_n (lv' := [(3, .int x8), (0, .ref (za w 0)), (1, .int a1), (2, .int a2)]) G.x G.b dX9_turn_30 rfl hl (Nat.le_of_ble_eq_true rfl) rfl (fun ls hl => ?_)
      refine lv_aload_n G.x G.b dX9_turn_31 rfl (lv_at hl 1 rfl) ?_
      refine z_get (v := .ref (za w 1)) (k := 0) G hH.1 (cC0 hw) vc9 inU9 0 (by decide) u190 rfl dX9_turn_32 ?_
      refine z_get (v := .ref (za w 2)) (k := 1) G hH.1 (cCt hw zT1) vc7 inU7 4 (by decide) u85 rfl dX9_turn_35 ?_
      refine lv_iload_n G.x G.b dX9_turn_38 rfl (lv_at hl 2 rfl) ?_
      refine lv_iload_n G.x G.b dX9_turn_39 rfl (lv_at hl 3 rfl) ?_
      obtain ⟨j9, ej9, h⟩ := z_bind h
      obtain ⟨M10, eM10, h⟩ := z_let h
      refine z_iastN (k := 2) G hH (cCt1 hw zT1) ej9 dX9_turn_40 eM10 (fun H locs hH => ?_)
      refine lv_iload_n G.x G.b dX9_turn_41 rfl (lv_at hl 0 rfl) ?_
      exact z_retI G hr hlk hH h dX9_turn_42
    · have h := z_if c6 h
      refine lv_aload_n G.x G.b dX9_turn_15 rfl (lv_at hl 0 rfl) ?_
      refine lv_iconst (v := (0 : Int32)) G.x G.b dX9_turn_16 (by decide) ?_
      obtain ⟨x11, M12, eM12, h⟩ := z_b2 h
      refine z_aftI (z_runV (k := 0) (As := [.int (0 : Int32)]) (rest := []) G hH hl.1 (kX9_finding l hw eM12) (cC0 hw) vc9 arX9_finding u222 u224 us0 u1 u225 rfl rfl rfl (Nat.le_of_ble_eq_true rfl) (Nat.le_of_ble_eq_true rfl) rfl (Nat.le_of_ble_eq_true rfl) dX9_turn_17) hH (fun H locs hH => ?_)
      exact z_retI G hr hlk hH h dX9_turn_20
def bX9_isUnder_4 (a2 : Int32) (E36_1 : Option Int32) (rc4 : Int32 → Int32 → Option Int32) (x2 : Int32) (x3 : Int32) : Option Int32 :=
  if (6 : Int32) ≤ x3 then (E36_1) else ((fX9_isKind x2).bind fun x6 =>
  if x6 = (0 : Int32) then (E36_1) else (if x2 = a2 then (zbl (1 : Int32)) else ((zix x2 6).bind fun j9 =>
  (some (zAbv j9)).bind fun x10 =>
  (some (x3 + (1 : Int32))).bind fun x11 =>
  rc4 x10 x11)))
def lX9_isUnder_4 (a2 : Int32) (E36_1 : Option Int32) : Nat → Int32 → Int32 → Option Int32 := zL2 (bX9_isUnder_4 a2 E36_1)
def fX9_isUnder (M0 : zM) (a1 : Int32) (a2 : Int32) : Option Int32 :=
  zj (zbl (0 : Int32)) fun E36_1 =>
  lX9_isUnder_4 a2 E36_1 zFuel a1 (0 : Int32)
abbrev rX9_isUnder : Room := { frames := 1, cells := 0, slots := 0, locals := 20 }
theorem arX9_isUnder : zAr yX9_isUnder RX9 2 := ⟨rfl, by decide, by decide, by decide +kernel⟩
set_option maxHeartbeats 4000000 in
theorem kX9_isUnder (l : Launch) {w : zWd} (hw : zIsC w) {M0 : zM} {a1 : Int32} {a2 : Int32} {r : Int32} (h : fX9_isUnder M0 a1 a2 = some r) : Met l yX9_isUnder (Cond.code yX9_isUnder cX9_isUnder 4 (some .boolean) :: zU) rX9_isUnder (zPre w M0 [.int a1, .int a2]) (zR (some (.int r))) 0 0 zNo := by
  refine z_metN (own := RX9) (lv := [(0, .int a1), (1, .int a2)]) hw.1 (by decide) (Nat.le_of_ble_eq_true rfl) rfl rfl ?_
  intro p e s m args below meth c G hr hlk hH ls hl
  unfold fX9_isUnder at h
  refine lv_iload_n G.x G.b dX9_isUnder_0 rfl (lv_at hl 0 rfl) ?_
  refine lv_istore_n (lv' := [(2, .int a1), (0, .int a1), (1, .int a2)]) G.x G.b dX9_isUnder_1 rfl hl (Nat.le_of_ble_eq_true rfl) rfl (fun ls hl => ?_)
  refine lv_iconst (v := (0 : Int32)) G.x G.b dX9_isUnder_2 (by decide) ?_
  refine lv_istore_n (lv' := [(3, .int (0 : Int32)), (2, .int a1), (0, .int a1), (1, .int a2)]) G.x G.b dX9_isUnder_3 rfl hl (Nat.le_of_ble_eq_true rfl) rfl (fun ls hl => ?_)
  obtain ⟨E36_1, hE36_1, h⟩ := z_j h
  have kE36_1 : ∀ (ls : Array Slot), E36_1 = some r → lv_has ls 4 [] → zGo p l e rX9_isUnder s m args below meth c (zR (some (.int r))) zNo s.heap [] (F0 m 36 ls []) := by
    intro ls h hl
    rw [hE36_1] at h
    refine lv_iconst (v := (0 : Int32)) G.x G.b dX9_isUnder_36 (by decide) ?_
    exact z_rtZ G hr hlk h dX9_isUnder_37
  have n4 : ∀ (n : Nat) (x2 : Int32) (x3 : Int32) (ls : Array Slot), zL2 (bX9_isUnder_4 a2 E36_1) n x2 x3 = some r → lv_has ls 4 [(1, .int a2), (2, .int x2), (3, .int x3)] → zGo p l e rX9_isUnder s m args below meth c (zR (some (.int r))) zNo s.heap [] (F0 m 4 ls []) := by
    intro n
    induction n with
    | zero => intro x2 x3 ls h; exact (zL2_0 h).elim
    | succ n ih4 =>
      intro x2 x3 ls h hl
      obtain ⟨rc4, hrc4, h⟩ := zL2_s h
      rw [← hrc4] at ih4
      unfold bX9_isUnder_4 at h
      refine lv_iload_n G.x G.b dX9_isUnder_4 rfl (lv_at hl 2 rfl) ?_
      refine lv_bipush (v := (6 : Int32)) G.x G.b dX9_isUnder_5 (by decide) ?_
      refine lv_icmp_ge (tgt := 36) G.x G.b dX9_isUnder_7 (by decide) (fun c5 => ?_) (fun c5 => ?_)
      · have h := z_if c5 h
        exact kE36_1 ls h (lv_sub hl [] rfl)
      · have h := z_ifn c5 h
        refine lv_iload_n G.x G.b dX9_isUnder_10 rfl (lv_at hl 1 rfl) ?_
        obtain ⟨x6, ex6, h⟩ := z_bind h
        refine z_rdI (z_runS (As := [.int x2]) (rest := []) G hH hl.1 (kX9_isKind l hw.1 ex6) arX9_isKind u271 u272 u1 u273 rfl rfl rfl (Nat.le_of_ble_eq_true rfl) (Nat.le_of_ble_eq_true rfl) rfl (Nat.le_of_ble_eq_true rfl) dX9_isUnder_11) ?_
        refine lv_if_eq (tgt := 36) G.x G.b dX9_isUnder_14 (by decide) (fun c7 => ?_) (fun c7 => ?_)
        · have h := z_if c7 h
          exact kE36_1 ls h (lv_sub hl [] rfl)
        · have h := z_ifn c7 h
          refine lv_iload_n G.x G.b dX9_isUnder_17 rfl (lv_at hl 1 rfl) ?_
          refine lv_iload_n G.x G.b dX9_isUnder_18 rfl (lv_at hl 0 rfl) ?_
          refine lv_icmp_ne (tgt := 24) G.x G.b dX9_isUnder_19 (by decide) (fun c8 => ?_) (fun c8 => ?_)
          · have h := z_ifn c8 h
            refine z_abvG hw G hH u410 dX9_isUnder_24 ?_
            refine lv_iload_n G.x G.b dX9_isUnder_27 rfl (lv_at hl 1 rfl) ?_
            obtain ⟨j9, ej9, h⟩ := z_bind h
            refine z_abv hw G hH ej9 dX9_isUnder_28 ?_
            obtain ⟨x10, ex10, h⟩ := z_let h
            refine z_nmI ex10 ?_
            refine lv_istore_n (lv' := [(2, .int x10), (1, .int a2), (3, .int x3)]) G.x G.b dX9_isUnder_29 rfl hl (Nat.le_of_ble_eq_true rfl) rfl (fun ls hl => ?_)
            obtain ⟨x11, ex11, h⟩ := z_let h
            refine lv_iinc (v := x11) (lv' := [(3, .int x11), (2, .int x10), (1, .int a2)]) G.x G.b dX9_isUnder_30 hl (k := 2) rfl (by rw [ex11]; rfl) (Nat.le_of_ble_eq_true rfl) rfl (fun ls hl => ?_)
            refine lv_goto (tgt := 4) G.x G.b dX9_isUnder_33 (by decide) ?_
            exact ih4 x10 x11 ls h (lv_sub hl [2, 1, 0] rfl)
          · have h := z_if c8 h
            refine lv_iconst (v := (1 : Int32)) G.x G.b dX9_isUnder_22 (by decide) ?_
            exact z_rtZ G hr hlk h dX9_isUnder_23
  exact n4 zFuel a1 (0 : Int32) ls h (lv_sub hl [3, 1, 0] rfl)
def fX9_as (M0 : zM) (a1 : Int32) (a2 : Int32) : Option (Int32 × zM) :=
  (fX9_isBeard M0 a1).bind fun x1 =>
  if x1 = (0 : Int32) then (zb2 (fX9_finding M0 (0 : Int32)) fun x3 M4 =>
  some (x3, M4)) else ((fX9_isKind a2).bind fun x5 =>
  if x5 = (0 : Int32) then (zb2 (fX9_finding M0 (0 : Int32)) fun x13 M14 =>
  some (x13, M14)) else ((zix a1 8).bind fun j7 =>
  (fX9_isUnder M0 (M0.1 2 j7) a2).bind fun x8 =>
  if x8 = (0 : Int32) then (zb2 (fX9_finding M0 (2 : Int32)) fun x10 M11 =>
  some (x10, M11)) else ((zix a1 8).bind fun j12 =>
  some ((M0.1 3 j12), M0))))
abbrev rX9_as : Room := { frames := 2, cells := 0, slots := 0, locals := 43 }
theorem arX9_as : zAr yX9_as RX9 2 := ⟨rfl, by decide, by decide, by decide +kernel⟩
set_option maxHeartbeats 4000000 in
theorem kX9_as (l : Launch) {w : zWd} (hw : zIsC w) {M0 M' : zM} {a1 : Int32} {a2 : Int32} {r : Int32} (h : fX9_as M0 a1 a2 = some (r, M')) : Met l yX9_as (Cond.code yX9_as cX9_as 3 (some .int) :: zU) rX9_as (zPre w M0 [.ref (za w 0), .int a1, .int a2]) (zQ w (some (.int r)) M') 0 0 (zA w) := by
  refine z_metN (own := RX9) (lv := [(0, .ref (za w 0)), (1, .int a1), (2, .int a2)]) hw.1 (by decide) (Nat.le_of_ble_eq_true rfl) rfl rfl ?_
  intro p e s m args below meth c G hr hlk hH ls hl
  unfold fX9_as at h
  refine lv_aload_n G.x G.b dX9_as_0 rfl (lv_at hl 0 rfl) ?_
  refine lv_iload_n G.x G.b dX9_as_1 rfl (lv_at hl 1 rfl) ?_
  obtain ⟨x1, ex1, h⟩ := z_bind h
  refine z_rdI (z_runV (k := 0) (As := [.int a1]) (rest := []) G hH hl.1 (kX9_isBeard l hw ex1) (cC0 hw) vc9 arX9_isBeard u231 u233 us1 u1 u234 rfl rfl rfl (Nat.le_of_ble_eq_true rfl) (Nat.le_of_ble_eq_true rfl) rfl (Nat.le_of_ble_eq_true rfl) dX9_as_2) ?_
  refine lv_if_eq (tgt := 15) G.x G.b dX9_as_5 (by decide) (fun c2 => ?_) (fun c2 => ?_)
  · have h := z_if c2 h
    refine lv_aload_n G.x G.b dX9_as_15 rfl (lv_at hl 0 rfl) ?_
    refine lv_iconst (v := (0 : Int32)) G.x G.b dX9_as_16 (by decide) ?_
    obtain ⟨x3, M4, eM4, h⟩ := z_b2 h
    refine z_aftI (z_runV (k := 0) (As := [.int (0 : Int32)]) (rest := []) G hH hl.1 (kX9_finding l hw eM4) (cC0 hw) vc9 arX9_finding u222 u224 us0 u1 u225 rfl rfl rfl (Nat.le_of_ble_eq_true rfl) (Nat.le_of_ble_eq_true rfl) rfl (Nat.le_of_ble_eq_true rfl) dX9_as_17) hH (fun H locs hH => ?_)
    exact z_retI G hr hlk hH h dX9_as_20
  · have h := z_ifn c2 h
    refine lv_iload_n G.x G.b dX9_as_8 rfl (lv_at hl 2 rfl) ?_
    obtain ⟨x5, ex5, h⟩ := z_bind h
    refine z_rdI (z_runS (As := [.int a2]) (rest := []) G hH hl.1 (kX9_isKind l hw.1 ex5) arX9_isKind u271 u272 u1 u273 rfl rfl rfl (Nat.le_of_ble_eq_true rfl) (Nat.le_of_ble_eq_true rfl) rfl (Nat.le_of_ble_eq_true rfl) dX9_as_9) ?_
    refine lv_if_ne (tgt := 21) G.x G.b dX9_as_12 (by decide) (fun c6 => ?_) (fun c6 => ?_)
    · have h := z_ifn c6 h
      refine lv_aload_n G.x G.b dX9_as_21 rfl (lv_at hl 0 rfl) ?_
      refine z_get (v := .ref (za w 1)) (k := 0) G hH.1 (cC0 hw) vc9 inU9 0 (by decide) u190 rfl dX9_as_22 ?_
      refine z_get (v := .ref (za w 2)) (k := 1) G hH.1 (cCt hw zT1) vc7 inU7 4 (by decide) u85 rfl dX9_as_25 ?_
      refine lv_iload_n G.x G.b dX9_as_28 rfl (lv_at hl 1 rfl) ?_
      obtain ⟨j7, ej7, h⟩ := z_bind h
      refine z_iald (k := 2) G hH.1 (cCt1 hw zT1) ej7 dX9_as_29 ?_
      refine lv_iload_n G.x G.b dX9_as_30 rfl (lv_at hl 2 rfl) ?_
      obtain ⟨x8, ex8, h⟩ := z_bind h
      refine z_rdI (z_runS (As := [.int (M0.1 2 j7), .int a2]) (rest := []) G hH hl.1 (kX9_isUnder l hw ex8) arX9_isUnder u407 u408 u1 u409 rfl rfl rfl (Nat.le_of_ble_eq_true rfl) (Nat.le_of_ble_eq_true rfl) rfl (Nat.le_of_ble_eq_true rfl) dX9_as_31) ?_
      refine lv_if_eq (tgt := 49) G.x G.b dX9_as_34 (by decide) (fun c9 => ?_) (fun c9 => ?_)
      · have h := z_if c9 h
        refine lv_aload_n G.x G.b dX9_as_49 rfl (lv_at hl 0 rfl) ?_
        refine lv_iconst (v := (2 : Int32)) G.x G.b dX9_as_50 (by decide) ?_
        obtain ⟨x10, M11, eM11, h⟩ := z_b2 h
        refine z_aftI (z_runV (k := 0) (As := [.int (2 : Int32)]) (rest := []) G hH hl.1 (kX9_finding l hw eM11) (cC0 hw) vc9 arX9_finding u222 u224 us0 u1 u225 rfl rfl rfl (Nat.le_of_ble_eq_true rfl) (Nat.le_of_ble_eq_true rfl) rfl (Nat.le_of_ble_eq_true rfl) dX9_as_51) hH (fun H locs hH => ?_)
        exact z_retI G hr hlk hH h dX9_as_54
      · have h := z_ifn c9 h
        refine lv_aload_n G.x G.b dX9_as_37 rfl (lv_at hl 0 rfl) ?_
        refine z_get (v := .ref (za w 1)) (k := 0) G hH.1 (cC0 hw) vc9 inU9 0 (by decide) u190 rfl dX9_as_38 ?_
        refine z_get (v := .ref (za w 3)) (k := 1) G hH.1 (cCt hw zT1) vc7 inU7 5 (by decide) u88 rfl dX9_as_41 ?_
        refine lv_iload_n G.x G.b dX9_as_44 rfl (lv_at hl 1 rfl) ?_
        obtain ⟨j12, ej12, h⟩ := z_bind h
        refine z_iald (k := 3) G hH.1 (cCt2 hw zT1) ej12 dX9_as_45 ?_
        refine lv_goto (tgt := 54) G.x G.b dX9_as_46 (by decide) ?_
        exact z_retI G hr hlk hH h dX9_as_54
    · have h := z_if c6 h
      refine lv_aload_n G.x G.b dX9_as_15 rfl (lv_at hl 0 rfl) ?_
      refine lv_iconst (v := (0 : Int32)) G.x G.b dX9_as_16 (by decide) ?_
      obtain ⟨x13, M14, eM14, h⟩ := z_b2 h
      refine z_aftI (z_runV (k := 0) (As := [.int (0 : Int32)]) (rest := []) G hH hl.1 (kX9_finding l hw eM14) (cC0 hw) vc9 arX9_finding u222 u224 us0 u1 u225 rfl rfl rfl (Nat.le_of_ble_eq_true rfl) (Nat.le_of_ble_eq_true rfl) rfl (Nat.le_of_ble_eq_true rfl) dX9_as_17) hH (fun H locs hH => ?_)
      exact z_retI G hr hlk hH h dX9_as_20
def fX9_wearer (M0 : zM) (a1 : Int32) : Option (Int32 × zM) :=
  (fX9_isWithin a1 (0 : Int32) (9999 : Int32)).bind fun x1 =>
  if x1 = (0 : Int32) then (zb2 (fX9_finding M0 (0 : Int32)) fun x8 M9 =>
  some (x8, M9)) else (zb2 (fX7_addWearer M0 1 a1) fun x3 M4 =>
  if (0 : Int32) ≤ x3 then (some (x3, M4)) else (zb2 (fX9_finding M4 (1 : Int32)) fun x6 M7 =>
  some (x6, M7)))
abbrev rX9_wearer : Room := { frames := 1, cells := 0, slots := 0, locals := 22 }
theorem arX9_wearer : zAr yX9_wearer RX9 1 := ⟨rfl, by decide, by decide, by decide +kernel⟩
set_option maxHeartbeats 4000000 in
theorem kX9_wearer (l : Launch) {w : zWd} (hw : zIsC w) {M0 M' : zM} {a1 : Int32} {r : Int32} (h : fX9_wearer M0 a1 = some (r, M')) : Met l yX9_wearer (Cond.code yX9_wearer cX9_wearer 3 (some .int) :: zU) rX9_wearer (zPre w M0 [.ref (za w 0), .int a1]) (zQ w (some (.int r)) M') 0 0 (zA w) := by
  refine z_metN (own := RX9) (lv := [(0, .ref (za w 0)), (1, .int a1)]) hw.1 (by decide) (Nat.le_of_ble_eq_true rfl) rfl rfl ?_
  intro p e s m args below meth c G hr hlk hH ls hl
  unfold fX9_wearer at h
  refine lv_iload_n G.x G.b dX9_wearer_0 rfl (lv_at hl 1 rfl) ?_
  refine lv_iconst (v := (0 : Int32)) G.x G.b dX9_wearer_1 (by decide) ?_
  refine lv_sipush (v := (9999 : Int32)) G.x G.b dX9_wearer_2 (by decide) ?_
  obtain ⟨x1, ex1, h⟩ := z_bind h
  refine z_rdI (z_runS (As := [.int a1, .int (0 : Int32), .int (9999 : Int32)]) (rest := []) G hH hl.1 (kX9_isWithin l hw.1 ex1) arX9_isWithin u219 u220 u1 u221 rfl rfl rfl (Nat.le_of_ble_eq_true rfl) (Nat.le_of_ble_eq_true rfl) rfl (Nat.le_of_ble_eq_true rfl) dX9_wearer_5) ?_
  refine lv_if_ne (tgt := 17) G.x G.b dX9_wearer_8 (by decide) (fun c2 => ?_) (fun c2 => ?_)
  · have h := z_ifn c2 h
    refine lv_aload_n G.x G.b dX9_wearer_17 rfl (lv_at hl 0 rfl) ?_
    refine z_get (v := .ref (za w 1)) (k := 0) G hH.1 (cC0 hw) vc9 inU9 0 (by decide) u190 rfl dX9_wearer_18 ?_
    refine lv_iload_n G.x G.b dX9_wearer_21 rfl (lv_at hl 1 rfl) ?_
    obtain ⟨x3, M4, eM4, h⟩ := z_b2 h
    refine z_aftI (z_runV (k := 1) (As := [.int a1]) (rest := []) G hH hl.1 (kX7_addWearer l hw zT1 eM4) (cCt hw zT1) vc7 arX7_addWearer u416 u417 u418 u8 u419 rfl rfl rfl (Nat.le_of_ble_eq_true rfl) (Nat.le_of_ble_eq_true rfl) rfl (Nat.le_of_ble_eq_true rfl) dX9_wearer_22) hH (fun H locs hH => ?_)
    refine lv_istore_n (lv' := [(2, .int x3), (0, .ref (za w 0)), (1, .int a1)]) G.x G.b dX9_wearer_25 rfl hl (Nat.le_of_ble_eq_true rfl) rfl (fun ls hl => ?_)
    refine lv_iload_n G.x G.b dX9_wearer_26 rfl (lv_at hl 0 rfl) ?_
    refine lv_if_ge (tgt := 38) G.x G.b dX9_wearer_27 (by decide) (fun c5 => ?_) (fun c5 => ?_)
    · have h := z_if c5 h
      refine lv_iload_n G.x G.b dX9_wearer_38 rfl (lv_at hl 0 rfl) ?_
      exact z_retI G hr hlk hH h dX9_wearer_39
    · have h := z_ifn c5 h
      refine lv_aload_n G.x G.b dX9_wearer_30 rfl (lv_at hl 1 rfl) ?_
      refine lv_iconst (v := (1 : Int32)) G.x G.b dX9_wearer_31 (by decide) ?_
      obtain ⟨x6, M7, eM7, h⟩ := z_b2 h
      refine z_aftI (z_runV (k := 0) (As := [.int (1 : Int32)]) (rest := []) G hH hl.1 (kX9_finding l hw eM7) (cC0 hw) vc9 arX9_finding u222 u224 us0 u1 u225 rfl rfl rfl (Nat.le_of_ble_eq_true rfl) (Nat.le_of_ble_eq_true rfl) rfl (Nat.le_of_ble_eq_true rfl) dX9_wearer_32) hH (fun H locs hH => ?_)
      refine lv_goto (tgt := 39) G.x G.b dX9_wearer_35 (by decide) ?_
      exact z_retI G hr hlk hH h dX9_wearer_39
  · have h := z_if c2 h
    refine lv_aload_n G.x G.b dX9_wearer_11 rfl (lv_at hl 0 rfl) ?_
    refine lv_iconst (v := (0 : Int32)) G.x G.b dX9_wearer_12 (by decide) ?_
    obtain ⟨x8, M9, eM9, h⟩ := z_b2 h
    refine z_aftI (z_runV (k := 0) (As := [.int (0 : Int32)]) (rest := []) G hH hl.1 (kX9_finding l hw eM9) (cC0 hw) vc9 arX9_finding u222 u224 us0 u1 u225 rfl rfl rfl (Nat.le_of_ble_eq_true rfl) (Nat.le_of_ble_eq_true rfl) rfl (Nat.le_of_ble_eq_true rfl) dX9_wearer_13) hH (fun H locs hH => ?_)
    exact z_retI G hr hlk hH h dX9_wearer_16
def fX9_isWearer (M0 : zM) (a1 : Int32) : Option Int32 :=
  if a1 < (0 : Int32) then (zbl (0 : Int32)) else (if (M0.1 1 3) ≤ a1 then (zbl (0 : Int32)) else (zbl (1 : Int32)))
abbrev rX9_isWearer : Room := { frames := 0, cells := 0, slots := 0, locals := 0 }
theorem arX9_isWearer : zAr yX9_isWearer RX9 1 := ⟨rfl, by decide, by decide, by decide +kernel⟩
set_option maxHeartbeats 4000000 in
theorem kX9_isWearer (l : Launch) {w : zWd} (hw : zIsC w) {M0 : zM} {a1 : Int32} {r : Int32} (h : fX9_isWearer M0 a1 = some r) : Met l yX9_isWearer (Cond.code yX9_isWearer cX9_isWearer 2 (some .boolean) :: zU) rX9_isWearer (zPre w M0 [.ref (za w 0), .int a1]) (zR (some (.int r))) 0 0 zNo := by
  refine z_metN (own := RX9) (lv := [(0, .ref (za w 0)), (1, .int a1)]) hw.1 (by decide) (Nat.le_of_ble_eq_true rfl) rfl rfl ?_
  intro p e s m args below meth c G hr hlk hH ls hl
  unfold fX9_isWearer at h
  refine lv_iload_n G.x G.b dX9_isWearer_0 rfl (lv_at hl 1 rfl) ?_
  refine lv_if_lt (tgt := 19) G.x G.b dX9_isWearer_1 (by decide) (fun c1 => ?_) (fun c1 => ?_)
  · have h := z_if c1 h
    refine lv_iconst (v := (0 : Int32)) G.x G.b dX9_isWearer_19 (by decide) ?_
    exact z_rtZ G hr hlk h dX9_isWearer_20
  · have h := z_ifn c1 h
    refine lv_iload_n G.x G.b dX9_isWearer_4 rfl (lv_at hl 1 rfl) ?_
    refine lv_aload_n G.x G.b dX9_isWearer_5 rfl (lv_at hl 0 rfl) ?_
    refine z_get (v := .ref (za w 1)) (k := 0) G hH.1 (cC0 hw) vc9 inU9 0 (by decide) u190 rfl dX9_isWearer_6 ?_
    refine z_get (v := .int (M0.1 1 3)) (k := 1) G hH.1 (cCt hw zT1) vc7 inU7 3 (by decide) u83 rfl dX9_isWearer_9 ?_
    refine lv_icmp_ge (tgt := 19) G.x G.b dX9_isWearer_12 (by decide) (fun c2 => ?_) (fun c2 => ?_)
    · have h := z_if c2 h
      refine lv_iconst (v := (0 : Int32)) G.x G.b dX9_isWearer_19 (by decide) ?_
      exact z_rtZ G hr hlk h dX9_isWearer_20
    · have h := z_ifn c2 h
      refine lv_iconst (v := (1 : Int32)) G.x G.b dX9_isWearer_15 (by decide) ?_
      refine lv_goto (tgt := 20) G.x G.b dX9_isWearer_16 (by decide) ?_
      exact z_rtZ G hr hlk h dX9_isWearer_20
def fX9_wearerOf (M0 : zM) (a1 : Int32) (a2 : Int32) : Option (Int32 × zM) :=
  (fX9_isWearer M0 a1).bind fun x1 =>
  if x1 = (0 : Int32) then (zb2 (fX9_finding M0 (0 : Int32)) fun x13 M14 =>
  some (x13, M14)) else (if a2 = (0 : Int32) then ((zix a1 6).bind fun j4 =>
  some ((M0.1 6 j4), M0)) else (if a2 = (1 : Int32) then ((zix a1 6).bind fun j6 =>
  some ((M0.1 7 j6), M0)) else (if a2 = (2 : Int32) then ((zix a1 6).bind fun j8 =>
  some ((M0.1 8 j8), M0)) else (if a2 = (3 : Int32) then ((fX7_houseTonight M0 1 a1).bind fun x10 =>
  some (x10, M0)) else (zb2 (fX9_finding M0 (0 : Int32)) fun x11 M12 =>
  some (x11, M12))))))
abbrev rX9_wearerOf : Room := { frames := 1, cells := 0, slots := 0, locals := 21 }
theorem arX9_wearerOf : zAr yX9_wearerOf RX9 2 := ⟨rfl, by decide, by decide, by decide +kernel⟩
set_option maxHeartbeats 4000000 in
theorem kX9_wearerOf (l : Launch) {w : zWd} (hw : zIsC w) {M0 M' : zM} {a1 : Int32} {a2 : Int32} {r : Int32} (h : fX9_wearerOf M0 a1 a2 = some (r, M')) : Met l yX9_wearerOf (Cond.code yX9_wearerOf cX9_wearerOf 3 (some .int) :: zU) rX9_wearerOf (zPre w M0 [.ref (za w 0), .int a1, .int a2]) (zQ w (some (.int r)) M') 0 0 (zA w) := by
  refine z_metN (own := RX9) (lv := [(0, .ref (za w 0)), (1, .int a1), (2, .int a2)]) hw.1 (by decide) (Nat.le_of_ble_eq_true rfl) rfl rfl ?_
  intro p e s m args below meth c G hr hlk hH ls hl
  unfold fX9_wearerOf at h
  refine lv_aload_n G.x G.b dX9_wearerOf_0 rfl (lv_at hl 0 rfl) ?_
  refine lv_iload_n G.x G.b dX9_wearerOf_1 rfl (lv_at hl 1 rfl) ?_
  obtain ⟨x1, ex1, h⟩ := z_bind h
  refine z_rdI (z_runV (k := 0) (As := [.int a1]) (rest := []) G hH hl.1 (kX9_isWearer l hw ex1) (cC0 hw) vc9 arX9_isWearer u424 u426 us2 u1 u427 rfl rfl rfl (Nat.le_of_ble_eq_true rfl) (Nat.le_of_ble_eq_true rfl) rfl (Nat.le_of_ble_eq_true rfl) dX9_wearerOf_2) ?_
  refine lv_if_ne (tgt := 14) G.x G.b dX9_wearerOf_5 (by decide) (fun c2 => ?_) (fun c2 => ?_)
  · have h := z_ifn c2 h
    refine lv_iload_n G.x G.b dX9_wearerOf_14 rfl (lv_at hl 2 rfl) ?_
    by_cases c3 : a2 = (0 : Int32)
    · have h := z_if c3 h
      refine z_tab (tgt := 44) G.x G.b dX9_wearerOf_15 c3 (by decide) (by decide) rfl (by decide) ?_
      refine lv_aload_n G.x G.b dX9_wearerOf_44 rfl (lv_at hl 0 rfl) ?_
      refine z_get (v := .ref (za w 1)) (k := 0) G hH.1 (cC0 hw) vc9 inU9 0 (by decide) u190 rfl dX9_wearerOf_45 ?_
      refine z_get (v := .ref (za w 6)) (k := 1) G hH.1 (cCt hw zT1) vc7 inU7 8 (by decide) u97 rfl dX9_wearerOf_48 ?_
      refine lv_iload_n G.x G.b dX9_wearerOf_51 rfl (lv_at hl 1 rfl) ?_
      obtain ⟨j4, ej4, h⟩ := z_bind h
      refine z_iald (k := 6) G hH.1 (cCt5 hw zT1) ej4 dX9_wearerOf_52 ?_
      exact z_retI G hr hlk hH h dX9_wearerOf_53
    have h := z_ifn c3 h
    by_cases c5 : a2 = (1 : Int32)
    · have h := z_if c5 h
      refine z_tab (tgt := 54) G.x G.b dX9_wearerOf_15 c5 (by decide) (by decide) rfl (by decide) ?_
      refine lv_aload_n G.x G.b dX9_wearerOf_54 rfl (lv_at hl 0 rfl) ?_
      refine z_get (v := .ref (za w 1)) (k := 0) G hH.1 (cC0 hw) vc9 inU9 0 (by decide) u190 rfl dX9_wearerOf_55 ?_
      refine z_get (v := .ref (za w 7)) (k := 1) G hH.1 (cCt hw zT1) vc7 inU7 9 (by decide) u100 rfl dX9_wearerOf_58 ?_
      refine lv_iload_n G.x G.b dX9_wearerOf_61 rfl (lv_at hl 1 rfl) ?_
      obtain ⟨j6, ej6, h⟩ := z_bind h
      refine z_iald (k := 7) G hH.1 (cCt6 hw zT1) ej6 dX9_wearerOf_62 ?_
      exact z_retI G hr hlk hH h dX9_wearerOf_63
    have h := z_ifn c5 h
    by_cases c7 : a2 = (2 : Int32)
    · have h := z_if c7 h
      refine z_tab (tgt := 64) G.x G.b dX9_wearerOf_15 c7 (by decide) (by decide) rfl (by decide) ?_
      refine lv_aload_n G.x G.b dX9_wearerOf_64 rfl (lv_at hl 0 rfl) ?_
      refine z_get (v := .ref (za w 1)) (k := 0) G hH.1 (cC0 hw) vc9 inU9 0 (by decide) u190 rfl dX9_wearerOf_65 ?_
      refine z_get (v := .ref (za w 8)) (k := 1) G hH.1 (cCt hw zT1) vc7 inU7 10 (by decide) u103 rfl dX9_wearerOf_68 ?_
      refine lv_iload_n G.x G.b dX9_wearerOf_71 rfl (lv_at hl 1 rfl) ?_
      obtain ⟨j8, ej8, h⟩ := z_bind h
      refine z_iald (k := 8) G hH.1 (cCt7 hw zT1) ej8 dX9_wearerOf_72 ?_
      exact z_retI G hr hlk hH h dX9_wearerOf_73
    have h := z_ifn c7 h
    by_cases c9 : a2 = (3 : Int32)
    · have h := z_if c9 h
      refine z_tab (tgt := 74) G.x G.b dX9_wearerOf_15 c9 (by decide) (by decide) rfl (by decide) ?_
      refine lv_aload_n G.x G.b dX9_wearerOf_74 rfl (lv_at hl 0 rfl) ?_
      refine z_get (v := .ref (za w 1)) (k := 0) G hH.1 (cC0 hw) vc9 inU9 0 (by decide) u190 rfl dX9_wearerOf_75 ?_
      refine lv_iload_n G.x G.b dX9_wearerOf_78 rfl (lv_at hl 1 rfl) ?_
      obtain ⟨x10, ex10, h⟩ := z_bind h
      refine z_rdI (z_runV (k := 1) (As := [.int a1]) (rest := []) G hH hl.1 (kX7_houseTonight l hw zT1 ex10) (cCt hw zT1) vc7 arX7_houseTonight u428 u244 u245 u8 u246 rfl rfl rfl (Nat.le_of_ble_eq_true rfl) (Nat.le_of_ble_eq_true rfl) rfl (Nat.le_of_ble_eq_true rfl) dX9_wearerOf_79) ?_
      exact z_retI G hr hlk hH h dX9_wearerOf_82
    have h := z_ifn c9 h
    refine lv_tableOut (tgt := 83) G.x G.b dX9_wearerOf_15 (by have gc3 := lv_neT (a := 0) c3 (by decide); have gc5 := lv_neT (a := 1) c5 (by decide); have gc7 := lv_neT (a := 2) c7 (by decide); have gc9 := lv_neT (a := 3) c9 (by decide); omega) (by decide) ?_
    refine lv_aload_n G.x G.b dX9_wearerOf_83 rfl (lv_at hl 0 rfl) ?_
    refine lv_iconst (v := (0 : Int32)) G.x G.b dX9_wearerOf_84 (by decide) ?_
    obtain ⟨x11, M12, eM12, h⟩ := z_b2 h
    refine z_aftI (z_runV (k := 0) (As := [.int (0 : Int32)]) (rest := []) G hH hl.1 (kX9_finding l hw eM12) (cC0 hw) vc9 arX9_finding u222 u224 us0 u1 u225 rfl rfl rfl (Nat.le_of_ble_eq_true rfl) (Nat.le_of_ble_eq_true rfl) rfl (Nat.le_of_ble_eq_true rfl) dX9_wearerOf_85) hH (fun H locs hH => ?_)
    exact z_retI G hr hlk hH h dX9_wearerOf_88
  · have h := z_if c2 h
    refine lv_aload_n G.x G.b dX9_wearerOf_8 rfl (lv_at hl 0 rfl) ?_
    refine lv_iconst (v := (0 : Int32)) G.x G.b dX9_wearerOf_9 (by decide) ?_
    obtain ⟨x13, M14, eM14, h⟩ := z_b2 h
    refine z_aftI (z_runV (k := 0) (As := [.int (0 : Int32)]) (rest := []) G hH hl.1 (kX9_finding l hw eM14) (cC0 hw) vc9 arX9_finding u222 u224 us0 u1 u225 rfl rfl rfl (Nat.le_of_ble_eq_true rfl) (Nat.le_of_ble_eq_true rfl) rfl (Nat.le_of_ble_eq_true rfl) dX9_wearerOf_10) hH (fun H locs hH => ?_)
    exact z_retI G hr hlk hH h dX9_wearerOf_13
def fX9_give (M0 : zM) (a1 : Int32) (a2 : Int32) (a3 : Int32) : Option (Int32 × zM) :=
  (fX9_isWearer M0 a1).bind fun x1 =>
  if x1 = (0 : Int32) then (zb2 (fX9_finding M0 (0 : Int32)) fun x22 M23 =>
  some (x22, M23)) else (zj (if a2 = (1 : Int32) then ((fX9_isHouse a3).bind fun x7 =>
  if x7 = (0 : Int32) then (zb2 (fX9_finding M0 (0 : Int32)) fun x9 M10 =>
  some (x9, M10)) else ((zix a1 6).bind fun j11 =>
  (some (M0.1 7 j11)).bind fun x12 =>
  (zix a1 6).bind fun j13 =>
  (some (zst M0 7 j13 a3)).bind fun M14 =>
  some (x12, M14))) else (zb2 (fX9_finding M0 (0 : Int32)) fun x5 M6 =>
  some (x5, M6))) fun J53_3 =>
  if a2 = (0 : Int32) then ((fX9_isWithin a3 (0 : Int32) (9999 : Int32)).bind fun x16 =>
  if x16 = (0 : Int32) then (J53_3) else ((zix a1 6).bind fun j18 =>
  (some (M0.1 6 j18)).bind fun x19 =>
  (zix a1 6).bind fun j20 =>
  (some (zst M0 6 j20 a3)).bind fun M21 =>
  some (x19, M21))) else (J53_3))
abbrev rX9_give : Room := { frames := 1, cells := 0, slots := 0, locals := 22 }
theorem arX9_give : zAr yX9_give RX9 3 := ⟨rfl, by decide, by decide, by decide +kernel⟩
set_option maxHeartbeats 4000000 in
theorem kX9_give (l : Launch) {w : zWd} (hw : zIsC w) {M0 M' : zM} {a1 : Int32} {a2 : Int32} {a3 : Int32} {r : Int32} (h : fX9_give M0 a1 a2 a3 = some (r, M')) : Met l yX9_give (Cond.code yX9_give cX9_give 5 (some .int) :: zU) rX9_give (zPre w M0 [.ref (za w 0), .int a1, .int a2, .int a3]) (zQ w (some (.int r)) M') 0 0 (zA w) := by
  refine z_metN (own := RX9) (lv := [(0, .ref (za w 0)), (1, .int a1), (2, .int a2), (3, .int a3)]) hw.1 (by decide) (Nat.le_of_ble_eq_true rfl) rfl rfl ?_
  intro p e s m args below meth c G hr hlk hH ls hl
  unfold fX9_give at h
  refine lv_aload_n G.x G.b dX9_give_0 rfl (lv_at hl 0 rfl) ?_
  refine lv_iload_n G.x G.b dX9_give_1 rfl (lv_at hl 1 rfl) ?_
  obtain ⟨x1, ex1, h⟩ := z_bind h
  refine z_rdI (z_runV (k := 0) (As := [.int a1]) (rest := []) G hH hl.1 (kX9_isWearer l hw ex1) (cC0 hw) vc9 arX9_isWearer u424 u426 us2 u1 u427 rfl rfl rfl (Nat.le_of_ble_eq_true rfl) (Nat.le_of_ble_eq_true rfl) rfl (Nat.le_of_ble_eq_true rfl) dX9_give_2) ?_
  refine lv_if_ne (tgt := 14) G.x G.b dX9_give_5 (by decide) (fun c2 => ?_) (fun c2 => ?_)
  · have h := z_ifn c2 h
    refine lv_iload_n G.x G.b dX9_give_14 rfl (lv_at hl 2 rfl) ?_
    obtain ⟨J53_3, hJ53_3, h⟩ := z_j h
    have kJ53_3 : ∀ (ls : Array Slot), J53_3 = some (r, M') → lv_has ls 5 [(0, .ref (za w 0)), (1, .int a1), (2, .int a2), (3, .int a3)] → zGo p l e rX9_give s m args below meth c (zQ w (some (.int r)) M') (zA w) s.heap [] (F0 m 53 ls []) := by
      intro ls h hl
      rw [hJ53_3] at h
      refine lv_iload_n G.x G.b dX9_give_53 rfl (lv_at hl 2 rfl) ?_
      refine lv_iconst (v := (1 : Int32)) G.x G.b dX9_give_54 (by decide) ?_
      refine lv_icmp_ne (tgt := 89) G.x G.b dX9_give_55 (by decide) (fun c4 => ?_) (fun c4 => ?_)
      · have h := z_ifn c4 h
        refine lv_aload_n G.x G.b dX9_give_89 rfl (lv_at hl 0 rfl) ?_
        refine lv_iconst (v := (0 : Int32)) G.x G.b dX9_give_90 (by decide) ?_
        obtain ⟨x5, M6, eM6, h⟩ := z_b2 h
        refine z_aftI (z_runV (k := 0) (As := [.int (0 : Int32)]) (rest := []) G hH hl.1 (kX9_finding l hw eM6) (cC0 hw) vc9 arX9_finding u222 u224 us0 u1 u225 rfl rfl rfl (Nat.le_of_ble_eq_true rfl) (Nat.le_of_ble_eq_true rfl) rfl (Nat.le_of_ble_eq_true rfl) dX9_give_91) hH (fun H locs hH => ?_)
        exact z_retI G hr hlk hH h dX9_give_94
      · have h := z_if c4 h
        refine lv_iload_n G.x G.b dX9_give_58 rfl (lv_at hl 3 rfl) ?_
        obtain ⟨x7, ex7, h⟩ := z_bind h
        refine z_rdI (z_runS (As := [.int a3]) (rest := []) G hH hl.1 (kX9_isHouse l hw.1 ex7) arX9_isHouse u216 u217 u1 u218 rfl rfl rfl (Nat.le_of_ble_eq_true rfl) (Nat.le_of_ble_eq_true rfl) rfl (Nat.le_of_ble_eq_true rfl) dX9_give_59) ?_
        refine lv_if_eq (tgt := 89) G.x G.b dX9_give_62 (by decide) (fun c8 => ?_) (fun c8 => ?_)
        · have h := z_if c8 h
          refine lv_aload_n G.x G.b dX9_give_89 rfl (lv_at hl 0 rfl) ?_
          refine lv_iconst (v := (0 : Int32)) G.x G.b dX9_give_90 (by decide) ?_
          obtain ⟨x9, M10, eM10, h⟩ := z_b2 h
          refine z_aftI (z_runV (k := 0) (As := [.int (0 : Int32)]) (rest := []) G hH hl.1 (kX9_finding l hw eM10) (cC0 hw) vc9 arX9_finding u222 u224 us0 u1 u225 rfl rfl rfl (Nat.le_of_ble_eq_true rfl) (Nat.le_of_ble_eq_true rfl) rfl (Nat.le_of_ble_eq_true rfl) dX9_give_91) hH (fun H locs hH => ?_)
          exact z_retI G hr hlk hH h dX9_give_94
        · have h := z_ifn c8 h
          refine lv_aload_n G.x G.b dX9_give_65 rfl (lv_at hl 0 rfl) ?_
          refine z_get (v := .ref (za w 1)) (k := 0) G hH.1 (cC0 hw) vc9 inU9 0 (by decide) u190 rfl dX9_give_66 ?_
          refine z_get (v := .ref (za w 7)) (k := 1) G hH.1 (cCt hw zT1) vc7 inU7 9 (by decide) u100 rfl dX9_give_69 ?_
          refine lv_iload_n G.x G.b dX9_give_72 rfl (lv_at hl 1 rfl) ?_
          obtain ⟨j11, ej11, h⟩ := z_bind h
          refine z_iald (k := 7) G hH.1 (cCt6 hw zT1) ej11 dX9_give_73 ?_
          obtain ⟨x12, ex12, h⟩ := z_let h
          refine z_nmI ex12 ?_
          refine lv_istore (lv' := [(4, .int x12), (0, .ref (za w 0)), (1, .int a1), (2, .int a2), (3, .int a3)]) G.x G.b dX9_give_74 hl (Nat.le_of_ble_eq_true rfl) rfl (fun ls hl => ?_)
          refine lv_aload_n G.x G.b dX9_give_76 rfl (lv_at hl 1 rfl) ?_
          refine z_get (v := .ref (za w 1)) (k := 0) G hH.1 (cC0 hw) vc9 inU9 0 (by decide) u190 rfl dX9_give_77 ?_
          refine z_get (v := .ref (za w 7)) (k := 1) G hH.1 (cCt hw zT1) vc7 inU7 9 (by decide) u100 rfl dX9_give_80 ?_
          refine lv_iload_n G.x G.b dX9_give_83 rfl (lv_at hl 2 rfl) ?_
          refine lv_iload_n G.x G.b dX9_give_84 rfl (lv_at hl 4 rfl) ?_
          obtain ⟨j13, ej13, h⟩ := z_bind h
          obtain ⟨M14, eM14, h⟩ := z_let h
          refine z_iastN (k := 7) G hH (cCt6 hw zT1) ej13 dX9_give_85 eM14 (fun H locs hH => ?_)
          refine lv_iload G.x G.b dX9_give_86 (lv_at hl 0 rfl) ?_
          exact z_retI G hr hlk hH h dX9_give_88
    refine lv_if_ne (tgt := 53) G.x G.b dX9_give_15 (by decide) (fun c15 => ?_) (fun c15 => ?_)
    · have h := z_ifn c15 h
      exact kJ53_3 ls h (lv_sub hl [0, 1, 2, 3] rfl)
    · have h := z_if c15 h
      refine lv_iload_n G.x G.b dX9_give_18 rfl (lv_at hl 3 rfl) ?_
      refine lv_iconst (v := (0 : Int32)) G.x G.b dX9_give_19 (by decide) ?_
      refine lv_sipush (v := (9999 : Int32)) G.x G.b dX9_give_20 (by decide) ?_
      obtain ⟨x16, ex16, h⟩ := z_bind h
      refine z_rdI (z_runS (As := [.int a3, .int (0 : Int32), .int (9999 : Int32)]) (rest := []) G hH hl.1 (kX9_isWithin l hw.1 ex16) arX9_isWithin u219 u220 u1 u221 rfl rfl rfl (Nat.le_of_ble_eq_true rfl) (Nat.le_of_ble_eq_true rfl) rfl (Nat.le_of_ble_eq_true rfl) dX9_give_23) ?_
      refine lv_if_eq (tgt := 53) G.x G.b dX9_give_26 (by decide) (fun c17 => ?_) (fun c17 => ?_)
      · have h := z_if c17 h
        exact kJ53_3 ls h (lv_sub hl [0, 1, 2, 3] rfl)
      · have h := z_ifn c17 h
        refine lv_aload_n G.x G.b dX9_give_29 rfl (lv_at hl 0 rfl) ?_
        refine z_get (v := .ref (za w 1)) (k := 0) G hH.1 (cC0 hw) vc9 inU9 0 (by decide) u190 rfl dX9_give_30 ?_
        refine z_get (v := .ref (za w 6)) (k := 1) G hH.1 (cCt hw zT1) vc7 inU7 8 (by decide) u97 rfl dX9_give_33 ?_
        refine lv_iload_n G.x G.b dX9_give_36 rfl (lv_at hl 1 rfl) ?_
        obtain ⟨j18, ej18, h⟩ := z_bind h
        refine z_iald (k := 6) G hH.1 (cCt5 hw zT1) ej18 dX9_give_37 ?_
        obtain ⟨x19, ex19, h⟩ := z_let h
        refine z_nmI ex19 ?_
        refine lv_istore (lv' := [(4, .int x19), (0, .ref (za w 0)), (1, .int a1), (2, .int a2), (3, .int a3)]) G.x G.b dX9_give_38 hl (Nat.le_of_ble_eq_true rfl) rfl (fun ls hl => ?_)
        refine lv_aload_n G.x G.b dX9_give_40 rfl (lv_at hl 1 rfl) ?_
        refine z_get (v := .ref (za w 1)) (k := 0) G hH.1 (cC0 hw) vc9 inU9 0 (by decide) u190 rfl dX9_give_41 ?_
        refine z_get (v := .ref (za w 6)) (k := 1) G hH.1 (cCt hw zT1) vc7 inU7 8 (by decide) u97 rfl dX9_give_44 ?_
        refine lv_iload_n G.x G.b dX9_give_47 rfl (lv_at hl 2 rfl) ?_
        refine lv_iload_n G.x G.b dX9_give_48 rfl (lv_at hl 4 rfl) ?_
        obtain ⟨j20, ej20, h⟩ := z_bind h
        obtain ⟨M21, eM21, h⟩ := z_let h
        refine z_iastN (k := 6) G hH (cCt5 hw zT1) ej20 dX9_give_49 eM21 (fun H locs hH => ?_)
        refine lv_iload G.x G.b dX9_give_50 (lv_at hl 0 rfl) ?_
        exact z_retI G hr hlk hH h dX9_give_52
  · have h := z_if c2 h
    refine lv_aload_n G.x G.b dX9_give_8 rfl (lv_at hl 0 rfl) ?_
    refine lv_iconst (v := (0 : Int32)) G.x G.b dX9_give_9 (by decide) ?_
    obtain ⟨x22, M23, eM23, h⟩ := z_b2 h
    refine z_aftI (z_runV (k := 0) (As := [.int (0 : Int32)]) (rest := []) G hH hl.1 (kX9_finding l hw eM23) (cC0 hw) vc9 arX9_finding u222 u224 us0 u1 u225 rfl rfl rfl (Nat.le_of_ble_eq_true rfl) (Nat.le_of_ble_eq_true rfl) rfl (Nat.le_of_ble_eq_true rfl) dX9_give_10) hH (fun H locs hH => ?_)
    exact z_retI G hr hlk hH h dX9_give_13
def fX9_hire (M0 : zM) (a1 : Int32) (a2 : Int32) : Option (Int32 × zM) :=
  (fX9_isWearer M0 a1).bind fun x1 =>
  if x1 = (0 : Int32) then (zb2 (fX9_finding M0 (0 : Int32)) fun x3 M4 =>
  some (x3, M4)) else ((fX9_isBeard M0 a2).bind fun x5 =>
  if x5 = (0 : Int32) then (zb2 (fX9_finding M0 (0 : Int32)) fun x17 M18 =>
  some (x17, M18)) else ((zix a1 6).bind fun j7 =>
  if (M0.1 8 j7) = (-1 : Int32) then ((zix a2 8).bind fun j11 =>
  if (M0.1 5 j11) = (-1 : Int32) then ((fX7_putOn M0 1 a1 a2).bind fun M13 =>
  (fX7_costOf M13 1 a2).bind fun x14 =>
  some (x14, M13)) else (zb2 (fX9_finding M0 (4 : Int32)) fun x15 M16 =>
  some (x15, M16))) else (zb2 (fX9_finding M0 (4 : Int32)) fun x9 M10 =>
  some (x9, M10))))
abbrev rX9_hire : Room := { frames := 4, cells := 0, slots := 0, locals := 87 }
theorem arX9_hire : zAr yX9_hire RX9 2 := ⟨rfl, by decide, by decide, by decide +kernel⟩
set_option maxHeartbeats 4000000 in
theorem kX9_hire (l : Launch) {w : zWd} (hw : zIsC w) {M0 M' : zM} {a1 : Int32} {a2 : Int32} {r : Int32} (h : fX9_hire M0 a1 a2 = some (r, M')) : Met l yX9_hire (Cond.code yX9_hire cX9_hire 3 (some .int) :: zU) rX9_hire (zPre w M0 [.ref (za w 0), .int a1, .int a2]) (zQ w (some (.int r)) M') 0 0 (zA w) := by
  refine z_metN (own := RX9) (lv := [(0, .ref (za w 0)), (1, .int a1), (2, .int a2)]) hw.1 (by decide) (Nat.le_of_ble_eq_true rfl) rfl rfl ?_
  intro p e s m args below meth c G hr hlk hH ls hl
  unfold fX9_hire at h
  refine lv_aload_n G.x G.b dX9_hire_0 rfl (lv_at hl 0 rfl) ?_
  refine lv_iload_n G.x G.b dX9_hire_1 rfl (lv_at hl 1 rfl) ?_
  obtain ⟨x1, ex1, h⟩ := z_bind h
  refine z_rdI (z_runV (k := 0) (As := [.int a1]) (rest := []) G hH hl.1 (kX9_isWearer l hw ex1) (cC0 hw) vc9 arX9_isWearer u424 u426 us2 u1 u427 rfl rfl rfl (Nat.le_of_ble_eq_true rfl) (Nat.le_of_ble_eq_true rfl) rfl (Nat.le_of_ble_eq_true rfl) dX9_hire_2) ?_
  refine lv_if_eq (tgt := 16) G.x G.b dX9_hire_5 (by decide) (fun c2 => ?_) (fun c2 => ?_)
  · have h := z_if c2 h
    refine lv_aload_n G.x G.b dX9_hire_16 rfl (lv_at hl 0 rfl) ?_
    refine lv_iconst (v := (0 : Int32)) G.x G.b dX9_hire_17 (by decide) ?_
    obtain ⟨x3, M4, eM4, h⟩ := z_b2 h
    refine z_aftI (z_runV (k := 0) (As := [.int (0 : Int32)]) (rest := []) G hH hl.1 (kX9_finding l hw eM4) (cC0 hw) vc9 arX9_finding u222 u224 us0 u1 u225 rfl rfl rfl (Nat.le_of_ble_eq_true rfl) (Nat.le_of_ble_eq_true rfl) rfl (Nat.le_of_ble_eq_true rfl) dX9_hire_18) hH (fun H locs hH => ?_)
    exact z_retI G hr hlk hH h dX9_hire_21
  · have h := z_ifn c2 h
    refine lv_aload_n G.x G.b dX9_hire_8 rfl (lv_at hl 0 rfl) ?_
    refine lv_iload_n G.x G.b dX9_hire_9 rfl (lv_at hl 2 rfl) ?_
    obtain ⟨x5, ex5, h⟩ := z_bind h
    refine z_rdI (z_runV (k := 0) (As := [.int a2]) (rest := []) G hH hl.1 (kX9_isBeard l hw ex5) (cC0 hw) vc9 arX9_isBeard u231 u233 us1 u1 u234 rfl rfl rfl (Nat.le_of_ble_eq_true rfl) (Nat.le_of_ble_eq_true rfl) rfl (Nat.le_of_ble_eq_true rfl) dX9_hire_10) ?_
    refine lv_if_ne (tgt := 22) G.x G.b dX9_hire_13 (by decide) (fun c6 => ?_) (fun c6 => ?_)
    · have h := z_ifn c6 h
      refine lv_aload_n G.x G.b dX9_hire_22 rfl (lv_at hl 0 rfl) ?_
      refine z_get (v := .ref (za w 1)) (k := 0) G hH.1 (cC0 hw) vc9 inU9 0 (by decide) u190 rfl dX9_hire_23 ?_
      refine z_get (v := .ref (za w 8)) (k := 1) G hH.1 (cCt hw zT1) vc7 inU7 10 (by decide) u103 rfl dX9_hire_26 ?_
      refine lv_iload_n G.x G.b dX9_hire_29 rfl (lv_at hl 1 rfl) ?_
      obtain ⟨j7, ej7, h⟩ := z_bind h
      refine z_iald (k := 8) G hH.1 (cCt7 hw zT1) ej7 dX9_hire_30 ?_
      refine lv_iconst (v := (-1 : Int32)) G.x G.b dX9_hire_31 (by decide) ?_
      refine lv_icmp_ne (tgt := 48) G.x G.b dX9_hire_32 (by decide) (fun c8 => ?_) (fun c8 => ?_)
      · have h := z_ifn c8 h
        refine lv_aload_n G.x G.b dX9_hire_48 rfl (lv_at hl 0 rfl) ?_
        refine lv_iconst (v := (4 : Int32)) G.x G.b dX9_hire_49 (by decide) ?_
        obtain ⟨x9, M10, eM10, h⟩ := z_b2 h
        refine z_aftI (z_runV (k := 0) (As := [.int (4 : Int32)]) (rest := []) G hH hl.1 (kX9_finding l hw eM10) (cC0 hw) vc9 arX9_finding u222 u224 us0 u1 u225 rfl rfl rfl (Nat.le_of_ble_eq_true rfl) (Nat.le_of_ble_eq_true rfl) rfl (Nat.le_of_ble_eq_true rfl) dX9_hire_50) hH (fun H locs hH => ?_)
        exact z_retI G hr hlk hH h dX9_hire_53
      · have h := z_if c8 h
        refine lv_aload_n G.x G.b dX9_hire_35 rfl (lv_at hl 0 rfl) ?_
        refine z_get (v := .ref (za w 1)) (k := 0) G hH.1 (cC0 hw) vc9 inU9 0 (by decide) u190 rfl dX9_hire_36 ?_
        refine z_get (v := .ref (za w 5)) (k := 1) G hH.1 (cCt hw zT1) vc7 inU7 7 (by decide) u93 rfl dX9_hire_39 ?_
        refine lv_iload_n G.x G.b dX9_hire_42 rfl (lv_at hl 2 rfl) ?_
        obtain ⟨j11, ej11, h⟩ := z_bind h
        refine z_iald (k := 5) G hH.1 (cCt4 hw zT1) ej11 dX9_hire_43 ?_
        refine lv_iconst (v := (-1 : Int32)) G.x G.b dX9_hire_44 (by decide) ?_
        refine lv_icmp_eq (tgt := 54) G.x G.b dX9_hire_45 (by decide) (fun c12 => ?_) (fun c12 => ?_)
        · have h := z_if c12 h
          refine lv_aload_n G.x G.b dX9_hire_54 rfl (lv_at hl 0 rfl) ?_
          refine z_get (v := .ref (za w 1)) (k := 0) G hH.1 (cC0 hw) vc9 inU9 0 (by decide) u190 rfl dX9_hire_55 ?_
          refine lv_iload_n G.x G.b dX9_hire_58 rfl (lv_at hl 1 rfl) ?_
          refine lv_iload_n G.x G.b dX9_hire_59 rfl (lv_at hl 2 rfl) ?_
          obtain ⟨M13, eM13, h⟩ := z_bind h
          refine z_aftV (z_runV (k := 1) (As := [.int a1, .int a2]) (rest := []) G hH hl.1 (kX7_putOn l hw zT1 eM13) (cCt hw zT1) vc7 arX7_putOn u437 u438 u439 u8 u440 rfl rfl rfl (Nat.le_of_ble_eq_true rfl) (Nat.le_of_ble_eq_true rfl) rfl (Nat.le_of_ble_eq_true rfl) dX9_hire_60) hH (fun H locs hH => ?_)
          refine lv_aload_n G.x G.b dX9_hire_63 rfl (lv_at hl 0 rfl) ?_
          refine z_get (v := .ref (za w 1)) (k := 0) G hH.1 (cC0 hw) vc9 inU9 0 (by decide) u190 rfl dX9_hire_64 ?_
          refine lv_iload_n G.x G.b dX9_hire_67 rfl (lv_at hl 2 rfl) ?_
          obtain ⟨x14, ex14, h⟩ := z_bind h
          refine z_rdI (z_runV (k := 1) (As := [.int a2]) (rest := []) G hH hl.1 (kX7_costOf l hw zT1 ex14) (cCt hw zT1) vc7 arX7_costOf u282 u283 u284 u8 u285 rfl rfl rfl (Nat.le_of_ble_eq_true rfl) (Nat.le_of_ble_eq_true rfl) rfl (Nat.le_of_ble_eq_true rfl) dX9_hire_68) ?_
          exact z_retI G hr hlk hH h dX9_hire_71
        · have h := z_ifn c12 h
          refine lv_aload_n G.x G.b dX9_hire_48 rfl (lv_at hl 0 rfl) ?_
          refine lv_iconst (v := (4 : Int32)) G.x G.b dX9_hire_49 (by decide) ?_
          obtain ⟨x15, M16, eM16, h⟩ := z_b2 h
          refine z_aftI (z_runV (k := 0) (As := [.int (4 : Int32)]) (rest := []) G hH hl.1 (kX9_finding l hw eM16) (cC0 hw) vc9 arX9_finding u222 u224 us0 u1 u225 rfl rfl rfl (Nat.le_of_ble_eq_true rfl) (Nat.le_of_ble_eq_true rfl) rfl (Nat.le_of_ble_eq_true rfl) dX9_hire_50) hH (fun H locs hH => ?_)
          exact z_retI G hr hlk hH h dX9_hire_53
    · have h := z_if c6 h
      refine lv_aload_n G.x G.b dX9_hire_16 rfl (lv_at hl 0 rfl) ?_
      refine lv_iconst (v := (0 : Int32)) G.x G.b dX9_hire_17 (by decide) ?_
      obtain ⟨x17, M18, eM18, h⟩ := z_b2 h
      refine z_aftI (z_runV (k := 0) (As := [.int (0 : Int32)]) (rest := []) G hH hl.1 (kX9_finding l hw eM18) (cC0 hw) vc9 arX9_finding u222 u224 us0 u1 u225 rfl rfl rfl (Nat.le_of_ble_eq_true rfl) (Nat.le_of_ble_eq_true rfl) rfl (Nat.le_of_ble_eq_true rfl) dX9_hire_18) hH (fun H locs hH => ?_)
      exact z_retI G hr hlk hH h dX9_hire_21
def fX9_back (M0 : zM) (a1 : Int32) : Option (Int32 × zM) :=
  (fX9_isBeard M0 a1).bind fun x1 =>
  if x1 = (0 : Int32) then (zb2 (fX9_finding M0 (0 : Int32)) fun x9 M10 =>
  some (x9, M10)) else ((zix a1 8).bind fun j3 =>
  (some (M0.1 5 j3)).bind fun x4 =>
  if x4 = (-1 : Int32) then (zb2 (fX9_finding M0 (4 : Int32)) fun x7 M8 =>
  some (x7, M8)) else ((fX7_takeOff M0 1 x4 a1).bind fun M6 =>
  some (x4, M6)))
abbrev rX9_back : Room := { frames := 1, cells := 0, slots := 0, locals := 22 }
theorem arX9_back : zAr yX9_back RX9 1 := ⟨rfl, by decide, by decide, by decide +kernel⟩
set_option maxHeartbeats 4000000 in
theorem kX9_back (l : Launch) {w : zWd} (hw : zIsC w) {M0 M' : zM} {a1 : Int32} {r : Int32} (h : fX9_back M0 a1 = some (r, M')) : Met l yX9_back (Cond.code yX9_back cX9_back 3 (some .int) :: zU) rX9_back (zPre w M0 [.ref (za w 0), .int a1]) (zQ w (some (.int r)) M') 0 0 (zA w) := by
  refine z_metN (own := RX9) (lv := [(0, .ref (za w 0)), (1, .int a1)]) hw.1 (by decide) (Nat.le_of_ble_eq_true rfl) rfl rfl ?_
  intro p e s m args below meth c G hr hlk hH ls hl
  unfold fX9_back at h
  refine lv_aload_n G.x G.b dX9_back_0 rfl (lv_at hl 0 rfl) ?_
  refine lv_iload_n G.x G.b dX9_back_1 rfl (lv_at hl 1 rfl) ?_
  obtain ⟨x1, ex1, h⟩ := z_bind h
  refine z_rdI (z_runV (k := 0) (As := [.int a1]) (rest := []) G hH hl.1 (kX9_isBeard l hw ex1) (cC0 hw) vc9 arX9_isBeard u231 u233 us1 u1 u234 rfl rfl rfl (Nat.le_of_ble_eq_true rfl) (Nat.le_of_ble_eq_true rfl) rfl (Nat.le_of_ble_eq_true rfl) dX9_back_2) ?_
  refine lv_if_ne (tgt := 14) G.x G.b dX9_back_5 (by decide) (fun c2 => ?_) (fun c2 => ?_)
  · have h := z_ifn c2 h
    refine lv_aload_n G.x G.b dX9_back_14 rfl (lv_at hl 0 rfl) ?_
    refine z_get (v := .ref (za w 1)) (k := 0) G hH.1 (cC0 hw) vc9 inU9 0 (by decide) u190 rfl dX9_back_15 ?_
    refine z_get (v := .ref (za w 5)) (k := 1) G hH.1 (cCt hw zT1) vc7 inU7 7 (by decide) u93 rfl dX9_back_18 ?_
    refine lv_iload_n G.x G.b dX9_back_21 rfl (lv_at hl 1 rfl) ?_
    obtain ⟨j3, ej3, h⟩ := z_bind h
    refine z_iald (k := 5) G hH.1 (cCt4 hw zT1) ej3 dX9_back_22 ?_
    obtain ⟨x4, ex4, h⟩ := z_let h
    refine z_nmI ex4 ?_
    refine lv_istore_n (lv' := [(2, .int x4), (0, .ref (za w 0)), (1, .int a1)]) G.x G.b dX9_back_23 rfl hl (Nat.le_of_ble_eq_true rfl) rfl (fun ls hl => ?_)
    refine lv_iload_n G.x G.b dX9_back_24 rfl (lv_at hl 0 rfl) ?_
    refine lv_iconst (v := (-1 : Int32)) G.x G.b dX9_back_25 (by decide) ?_
    refine lv_icmp_ne (tgt := 35) G.x G.b dX9_back_26 (by decide) (fun c5 => ?_) (fun c5 => ?_)
    · have h := z_ifn c5 h
      refine lv_aload_n G.x G.b dX9_back_35 rfl (lv_at hl 1 rfl) ?_
      refine z_get (v := .ref (za w 1)) (k := 0) G hH.1 (cC0 hw) vc9 inU9 0 (by decide) u190 rfl dX9_back_36 ?_
      refine lv_iload_n G.x G.b dX9_back_39 rfl (lv_at hl 0 rfl) ?_
      refine lv_iload_n G.x G.b dX9_back_40 rfl (lv_at hl 2 rfl) ?_
      obtain ⟨M6, eM6, h⟩ := z_bind h
      refine z_aftV (z_runV (k := 1) (As := [.int x4, .int a1]) (rest := []) G hH hl.1 (kX7_takeOff l hw zT1 eM6) (cCt hw zT1) vc7 arX7_takeOff u445 u446 u447 u8 u448 rfl rfl rfl (Nat.le_of_ble_eq_true rfl) (Nat.le_of_ble_eq_true rfl) rfl (Nat.le_of_ble_eq_true rfl) dX9_back_41) hH (fun H locs hH => ?_)
      refine lv_iload_n G.x G.b dX9_back_44 rfl (lv_at hl 0 rfl) ?_
      exact z_retI G hr hlk hH h dX9_back_45
    · have h := z_if c5 h
      refine lv_aload_n G.x G.b dX9_back_29 rfl (lv_at hl 1 rfl) ?_
      refine lv_iconst (v := (4 : Int32)) G.x G.b dX9_back_30 (by decide) ?_
      obtain ⟨x7, M8, eM8, h⟩ := z_b2 h
      refine z_aftI (z_runV (k := 0) (As := [.int (4 : Int32)]) (rest := []) G hH hl.1 (kX9_finding l hw eM8) (cC0 hw) vc9 arX9_finding u222 u224 us0 u1 u225 rfl rfl rfl (Nat.le_of_ble_eq_true rfl) (Nat.le_of_ble_eq_true rfl) rfl (Nat.le_of_ble_eq_true rfl) dX9_back_31) hH (fun H locs hH => ?_)
      exact z_retI G hr hlk hH h dX9_back_34
  · have h := z_if c2 h
    refine lv_aload_n G.x G.b dX9_back_8 rfl (lv_at hl 0 rfl) ?_
    refine lv_iconst (v := (0 : Int32)) G.x G.b dX9_back_9 (by decide) ?_
    obtain ⟨x9, M10, eM10, h⟩ := z_b2 h
    refine z_aftI (z_runV (k := 0) (As := [.int (0 : Int32)]) (rest := []) G hH hl.1 (kX9_finding l hw eM10) (cC0 hw) vc9 arX9_finding u222 u224 us0 u1 u225 rfl rfl rfl (Nat.le_of_ble_eq_true rfl) (Nat.le_of_ble_eq_true rfl) rfl (Nat.le_of_ble_eq_true rfl) dX9_back_10) hH (fun H locs hH => ?_)
    exact z_retI G hr hlk hH h dX9_back_13
def fX9_nights (M0 : zM) (a1 : Int32) : Option (Int32 × zM) :=
  (fX9_isWithin a1 (1 : Int32) (100 : Int32)).bind fun x1 =>
  if x1 = (0 : Int32) then (zb2 (fX9_finding M0 (0 : Int32)) fun x8 M9 =>
  some (x8, M9)) else (if ((M0.1 1 1) + a1) ≤ (99999 : Int32) then ((fX7_passNights M0 1 a1).bind fun M4 =>
  (fX7_allPurses M4 1).bind fun x5 =>
  some (x5, M4)) else (zb2 (fX9_finding M0 (4 : Int32)) fun x6 M7 =>
  some (x6, M7)))
abbrev rX9_nights : Room := { frames := 6, cells := 0, slots := 0, locals := 142 }
theorem arX9_nights : zAr yX9_nights RX9 1 := ⟨rfl, by decide, by decide, by decide +kernel⟩
set_option maxHeartbeats 4000000 in
theorem kX9_nights (l : Launch) {w : zWd} (hw : zIsC w) {M0 M' : zM} {a1 : Int32} {r : Int32} (h : fX9_nights M0 a1 = some (r, M')) : Met l yX9_nights (Cond.code yX9_nights cX9_nights 2 (some .int) :: zU) rX9_nights (zPre w M0 [.ref (za w 0), .int a1]) (zQ w (some (.int r)) M') 0 0 (zA w) := by
  refine z_metN (own := RX9) (lv := [(0, .ref (za w 0)), (1, .int a1)]) hw.1 (by decide) (Nat.le_of_ble_eq_true rfl) rfl rfl ?_
  intro p e s m args below meth c G hr hlk hH ls hl
  unfold fX9_nights at h
  refine lv_iload_n G.x G.b dX9_nights_0 rfl (lv_at hl 1 rfl) ?_
  refine lv_iconst (v := (1 : Int32)) G.x G.b dX9_nights_1 (by decide) ?_
  refine lv_bipush (v := (100 : Int32)) G.x G.b dX9_nights_2 (by decide) ?_
  obtain ⟨x1, ex1, h⟩ := z_bind h
  refine z_rdI (z_runS (As := [.int a1, .int (1 : Int32), .int (100 : Int32)]) (rest := []) G hH hl.1 (kX9_isWithin l hw.1 ex1) arX9_isWithin u219 u220 u1 u221 rfl rfl rfl (Nat.le_of_ble_eq_true rfl) (Nat.le_of_ble_eq_true rfl) rfl (Nat.le_of_ble_eq_true rfl) dX9_nights_4) ?_
  refine lv_if_ne (tgt := 16) G.x G.b dX9_nights_7 (by decide) (fun c2 => ?_) (fun c2 => ?_)
  · have h := z_ifn c2 h
    refine lv_aload_n G.x G.b dX9_nights_16 rfl (lv_at hl 0 rfl) ?_
    refine z_get (v := .ref (za w 1)) (k := 0) G hH.1 (cC0 hw) vc9 inU9 0 (by decide) u190 rfl dX9_nights_17 ?_
    refine z_get (v := .int (M0.1 1 1)) (k := 1) G hH.1 (cCt hw zT1) vc7 inU7 1 (by decide) u77 rfl dX9_nights_20 ?_
    refine lv_iload_n G.x G.b dX9_nights_23 rfl (lv_at hl 1 rfl) ?_
    refine lv_iadd G.x G.b dX9_nights_24 ?_
    refine lv_ldc G.x G.b G.o (G.t u453) dX9_nights_25 ?_
    refine lv_icmp_le (tgt := 36) G.x G.b dX9_nights_27 (by decide) (fun c3 => ?_) (fun c3 => ?_)
    · have h := z_if c3 h
      refine lv_aload_n G.x G.b dX9_nights_36 rfl (lv_at hl 0 rfl) ?_
      refine z_get (v := .ref (za w 1)) (k := 0) G hH.1 (cC0 hw) vc9 inU9 0 (by decide) u190 rfl dX9_nights_37 ?_
      refine lv_iload_n G.x G.b dX9_nights_40 rfl (lv_at hl 1 rfl) ?_
      obtain ⟨M4, eM4, h⟩ := z_bind h
      refine z_aftV (z_runV (k := 1) (As := [.int a1]) (rest := []) G hH hl.1 (kX7_passNights l hw zT1 eM4) (cCt hw zT1) vc7 arX7_passNights u454 u455 u456 u8 u457 rfl rfl rfl (Nat.le_of_ble_eq_true rfl) (Nat.le_of_ble_eq_true rfl) rfl (Nat.le_of_ble_eq_true rfl) dX9_nights_41) hH (fun H locs hH => ?_)
      refine lv_aload_n G.x G.b dX9_nights_44 rfl (lv_at hl 0 rfl) ?_
      refine z_get (v := .ref (za w 1)) (k := 0) G hH.1 (cC0 hw) vc9 inU9 0 (by decide) u190 rfl dX9_nights_45 ?_
      obtain ⟨x5, ex5, h⟩ := z_bind h
      refine z_rdI (z_runV (k := 1) (As := []) (rest := []) G hH hl.1 (kX7_allPurses l hw zT1 ex5) (cCt hw zT1) vc7 arX7_allPurses u263 u264 u265 u8 u266 rfl rfl rfl (Nat.le_of_ble_eq_true rfl) (Nat.le_of_ble_eq_true rfl) rfl (Nat.le_of_ble_eq_true rfl) dX9_nights_48) ?_
      exact z_retI G hr hlk hH h dX9_nights_51
    · have h := z_ifn c3 h
      refine lv_aload_n G.x G.b dX9_nights_30 rfl (lv_at hl 0 rfl) ?_
      refine lv_iconst (v := (4 : Int32)) G.x G.b dX9_nights_31 (by decide) ?_
      obtain ⟨x6, M7, eM7, h⟩ := z_b2 h
      refine z_aftI (z_runV (k := 0) (As := [.int (4 : Int32)]) (rest := []) G hH hl.1 (kX9_finding l hw eM7) (cC0 hw) vc9 arX9_finding u222 u224 us0 u1 u225 rfl rfl rfl (Nat.le_of_ble_eq_true rfl) (Nat.le_of_ble_eq_true rfl) rfl (Nat.le_of_ble_eq_true rfl) dX9_nights_32) hH (fun H locs hH => ?_)
      exact z_retI G hr hlk hH h dX9_nights_35
  · have h := z_if c2 h
    refine lv_aload_n G.x G.b dX9_nights_10 rfl (lv_at hl 0 rfl) ?_
    refine lv_iconst (v := (0 : Int32)) G.x G.b dX9_nights_11 (by decide) ?_
    obtain ⟨x8, M9, eM9, h⟩ := z_b2 h
    refine z_aftI (z_runV (k := 0) (As := [.int (0 : Int32)]) (rest := []) G hH hl.1 (kX9_finding l hw eM9) (cC0 hw) vc9 arX9_finding u222 u224 us0 u1 u225 rfl rfl rfl (Nat.le_of_ble_eq_true rfl) (Nat.le_of_ble_eq_true rfl) rfl (Nat.le_of_ble_eq_true rfl) dX9_nights_12) hH (fun H locs hH => ?_)
    exact z_retI G hr hlk hH h dX9_nights_15
def fX9_on (M0 : zM) (a1 : Int32) (a2 : Int32) (a3 : Int32) : Option (Int32 × zM) :=
  (fX9_isWearer M0 a1).bind fun x1 =>
  if x1 = (0 : Int32) then (zb2 (fX9_finding M0 (0 : Int32)) fun x3 M4 =>
  some (x3, M4)) else ((fX9_isWithin a2 (0 : Int32) (200 : Int32)).bind fun x5 =>
  if x5 = (0 : Int32) then (zb2 (fX9_finding M0 (0 : Int32)) fun x7 M8 =>
  some (x7, M8)) else ((fX9_isWithin a3 (0 : Int32) (1 : Int32)).bind fun x9 =>
  if x9 = (0 : Int32) then (zb2 (fX9_finding M0 (0 : Int32)) fun x16 M17 =>
  some (x16, M17)) else ((fX7_become M0 11 1).bind fun M11 =>
  (fX7_passNightsOfWearer M11 11 a1 a2).bind fun M12 =>
  if a3 = (0 : Int32) then ((zix a1 6).bind fun j15 =>
  some ((M12.1 16 j15), M12)) else ((zix a1 6).bind fun j14 =>
  some ((M12.1 18 j14), M12)))))
abbrev rX9_on : Room := { frames := 6, cells := 0, slots := 0, locals := 143 }
theorem arX9_on : zAr yX9_on RX9 3 := ⟨rfl, by decide, by decide, by decide +kernel⟩
set_option maxHeartbeats 4000000 in
theorem kX9_on (l : Launch) {w : zWd} (hw : zIsC w) {M0 M' : zM} {a1 : Int32} {a2 : Int32} {a3 : Int32} {r : Int32} (h : fX9_on M0 a1 a2 a3 = some (r, M')) : Met l yX9_on (Cond.code yX9_on cX9_on 4 (some .int) :: zU) rX9_on (zPre w M0 [.ref (za w 0), .int a1, .int a2, .int a3]) (zQ w (some (.int r)) M') 0 0 (zA w) := by
  refine z_metN (own := RX9) (lv := [(0, .ref (za w 0)), (1, .int a1), (2, .int a2), (3, .int a3)]) hw.1 (by decide) (Nat.le_of_ble_eq_true rfl) rfl rfl ?_
  intro p e s m args below meth c G hr hlk hH ls hl
  unfold fX9_on at h
  refine lv_aload_n G.x G.b dX9_on_0 rfl (lv_at hl 0 rfl) ?_
  refine lv_iload_n G.x G.b dX9_on_1 rfl (lv_at hl 1 rfl) ?_
  obtain ⟨x1, ex1, h⟩ := z_bind h
  refine z_rdI (z_runV (k := 0) (As := [.int a1]) (rest := []) G hH hl.1 (kX9_isWearer l hw ex1) (cC0 hw) vc9 arX9_isWearer u424 u426 us2 u1 u427 rfl rfl rfl (Nat.le_of_ble_eq_true rfl) (Nat.le_of_ble_eq_true rfl) rfl (Nat.le_of_ble_eq_true rfl) dX9_on_2) ?_
  refine lv_if_eq (tgt := 28) G.x G.b dX9_on_5 (by decide) (fun c2 => ?_) (fun c2 => ?_)
  · have h := z_if c2 h
    refine lv_aload_n G.x G.b dX9_on_28 rfl (lv_at hl 0 rfl) ?_
    refine lv_iconst (v := (0 : Int32)) G.x G.b dX9_on_29 (by decide) ?_
    obtain ⟨x3, M4, eM4, h⟩ := z_b2 h
    refine z_aftI (z_runV (k := 0) (As := [.int (0 : Int32)]) (rest := []) G hH hl.1 (kX9_finding l hw eM4) (cC0 hw) vc9 arX9_finding u222 u224 us0 u1 u225 rfl rfl rfl (Nat.le_of_ble_eq_true rfl) (Nat.le_of_ble_eq_true rfl) rfl (Nat.le_of_ble_eq_true rfl) dX9_on_30) hH (fun H locs hH => ?_)
    exact z_retI G hr hlk hH h dX9_on_33
  · have h := z_ifn c2 h
    refine lv_iload_n G.x G.b dX9_on_8 rfl (lv_at hl 2 rfl) ?_
    refine lv_iconst (v := (0 : Int32)) G.x G.b dX9_on_9 (by decide) ?_
    refine lv_sipush (v := (200 : Int32)) G.x G.b dX9_on_10 (by decide) ?_
    obtain ⟨x5, ex5, h⟩ := z_bind h
    refine z_rdI (z_runS (As := [.int a2, .int (0 : Int32), .int (200 : Int32)]) (rest := []) G hH hl.1 (kX9_isWithin l hw.1 ex5) arX9_isWithin u219 u220 u1 u221 rfl rfl rfl (Nat.le_of_ble_eq_true rfl) (Nat.le_of_ble_eq_true rfl) rfl (Nat.le_of_ble_eq_true rfl) dX9_on_13) ?_
    refine lv_if_eq (tgt := 28) G.x G.b dX9_on_16 (by decide) (fun c6 => ?_) (fun c6 => ?_)
    · have h := z_if c6 h
      refine lv_aload_n G.x G.b dX9_on_28 rfl (lv_at hl 0 rfl) ?_
      refine lv_iconst (v := (0 : Int32)) G.x G.b dX9_on_29 (by decide) ?_
      obtain ⟨x7, M8, eM8, h⟩ := z_b2 h
      refine z_aftI (z_runV (k := 0) (As := [.int (0 : Int32)]) (rest := []) G hH hl.1 (kX9_finding l hw eM8) (cC0 hw) vc9 arX9_finding u222 u224 us0 u1 u225 rfl rfl rfl (Nat.le_of_ble_eq_true rfl) (Nat.le_of_ble_eq_true rfl) rfl (Nat.le_of_ble_eq_true rfl) dX9_on_30) hH (fun H locs hH => ?_)
      exact z_retI G hr hlk hH h dX9_on_33
    · have h := z_ifn c6 h
      refine lv_iload_n G.x G.b dX9_on_19 rfl (lv_at hl 3 rfl) ?_
      refine lv_iconst (v := (0 : Int32)) G.x G.b dX9_on_20 (by decide) ?_
      refine lv_iconst (v := (1 : Int32)) G.x G.b dX9_on_21 (by decide) ?_
      obtain ⟨x9, ex9, h⟩ := z_bind h
      refine z_rdI (z_runS (As := [.int a3, .int (0 : Int32), .int (1 : Int32)]) (rest := []) G hH hl.1 (kX9_isWithin l hw.1 ex9) arX9_isWithin u219 u220 u1 u221 rfl rfl rfl (Nat.le_of_ble_eq_true rfl) (Nat.le_of_ble_eq_true rfl) rfl (Nat.le_of_ble_eq_true rfl) dX9_on_22) ?_
      refine lv_if_ne (tgt := 34) G.x G.b dX9_on_25 (by decide) (fun c10 => ?_) (fun c10 => ?_)
      · have h := z_ifn c10 h
        refine lv_aload_n G.x G.b dX9_on_34 rfl (lv_at hl 0 rfl) ?_
        refine z_get (v := .ref (za w 11)) (k := 0) G hH.1 (cC0 hw) vc9 inU9 1 (by decide) u191 rfl dX9_on_35 ?_
        refine lv_aload_n G.x G.b dX9_on_38 rfl (lv_at hl 0 rfl) ?_
        refine z_get (v := .ref (za w 1)) (k := 0) G hH.1 (cC0 hw) vc9 inU9 0 (by decide) u190 rfl dX9_on_39 ?_
        obtain ⟨M11, eM11, h⟩ := z_bind h
        refine z_aftV (z_runV (k := 11) (As := [.ref (za w 1)]) (rest := []) G hH hl.1 (kX7_become l hw zT11 zT1 eM11) (cCt hw zT11) vc7 arX7_become u484 u485 u486 u8 u487 rfl rfl rfl (Nat.le_of_ble_eq_true rfl) (Nat.le_of_ble_eq_true rfl) rfl (Nat.le_of_ble_eq_true rfl) dX9_on_42) hH (fun H locs hH => ?_)
        refine lv_aload_n G.x G.b dX9_on_45 rfl (lv_at hl 0 rfl) ?_
        refine z_get (v := .ref (za w 11)) (k := 0) G hH.1 (cC0 hw) vc9 inU9 1 (by decide) u191 rfl dX9_on_46 ?_
        refine lv_iload_n G.x G.b dX9_on_49 rfl (lv_at hl 1 rfl) ?_
        refine lv_iload_n G.x G.b dX9_on_50 rfl (lv_at hl 2 rfl) ?_
        obtain ⟨M12, eM12, h⟩ := z_bind h
        refine z_aftV (z_runV (k := 11) (As := [.int a1, .int a2]) (rest := []) G hH hl.1 (kX7_passNightsOfWearer l hw zT11 eM12) (cCt hw zT11) vc7 arX7_passNightsOfWearer u491 u492 u493 u8 u494 rfl rfl rfl (Nat.le_of_ble_eq_true rfl) (Nat.le_of_ble_eq_true rfl) rfl (Nat.le_of_ble_eq_true rfl) dX9_on_51) hH (fun H locs hH => ?_)
        refine lv_iload_n G.x G.b dX9_on_54 rfl (lv_at hl 3 rfl) ?_
        refine lv_if_ne (tgt := 70) G.x G.b dX9_on_55 (by decide) (fun c13 => ?_) (fun c13 => ?_)
        · have h := z_ifn c13 h
          refine lv_aload_n G.x G.b dX9_on_70 rfl (lv_at hl 0 rfl) ?_
          refine z_get (v := .ref (za w 11)) (k := 0) G hH.1 (cC0 hw) vc9 inU9 1 (by decide) u191 rfl dX9_on_71 ?_
          refine z_get (v := .ref (za w 18)) (k := 11) G hH.1 (cCt hw zT11) vc7 inU7 10 (by decide) u103 rfl dX9_on_74 ?_
          refine lv_iload_n G.x G.b dX9_on_77 rfl (lv_at hl 1 rfl) ?_
          obtain ⟨j14, ej14, h⟩ := z_bind h
          refine z_iald (k := 18) G hH.1 (cCt7 hw zT11) ej14 dX9_on_78 ?_
          exact z_retI G hr hlk hH h dX9_on_79
        · have h := z_if c13 h
          refine lv_aload_n G.x G.b dX9_on_58 rfl (lv_at hl 0 rfl) ?_
          refine z_get (v := .ref (za w 11)) (k := 0) G hH.1 (cC0 hw) vc9 inU9 1 (by decide) u191 rfl dX9_on_59 ?_
          refine z_get (v := .ref (za w 16)) (k := 11) G hH.1 (cCt hw zT11) vc7 inU7 8 (by decide) u97 rfl dX9_on_62 ?_
          refine lv_iload_n G.x G.b dX9_on_65 rfl (lv_at hl 1 rfl) ?_
          obtain ⟨j15, ej15, h⟩ := z_bind h
          refine z_iald (k := 16) G hH.1 (cCt5 hw zT11) ej15 dX9_on_66 ?_
          refine lv_goto (tgt := 79) G.x G.b dX9_on_67 (by decide) ?_
          exact z_retI G hr hlk hH h dX9_on_79
      · have h := z_if c10 h
        refine lv_aload_n G.x G.b dX9_on_28 rfl (lv_at hl 0 rfl) ?_
        refine lv_iconst (v := (0 : Int32)) G.x G.b dX9_on_29 (by decide) ?_
        obtain ⟨x16, M17, eM17, h⟩ := z_b2 h
        refine z_aftI (z_runV (k := 0) (As := [.int (0 : Int32)]) (rest := []) G hH hl.1 (kX9_finding l hw eM17) (cC0 hw) vc9 arX9_finding u222 u224 us0 u1 u225 rfl rfl rfl (Nat.le_of_ble_eq_true rfl) (Nat.le_of_ble_eq_true rfl) rfl (Nat.le_of_ble_eq_true rfl) dX9_on_30) hH (fun H locs hH => ?_)
        exact z_retI G hr hlk hH h dX9_on_33
def fX9_then (M0 : zM) (a1 : Int32) (a2 : Int32) (a3 : Int32) : Option (Int32 × zM) :=
  (fX9_isBeard M0 a1).bind fun x1 =>
  if x1 = (0 : Int32) then (zb2 (fX9_finding M0 (0 : Int32)) fun x3 M4 =>
  some (x3, M4)) else ((fX9_isWithin a2 (0 : Int32) (200 : Int32)).bind fun x5 =>
  if x5 = (0 : Int32) then (zb2 (fX9_finding M0 (0 : Int32)) fun x7 M8 =>
  some (x7, M8)) else ((fX9_isWithin a3 (0 : Int32) (1 : Int32)).bind fun x9 =>
  if x9 = (0 : Int32) then (zb2 (fX9_finding M0 (0 : Int32)) fun x16 M17 =>
  some (x16, M17)) else ((fX7_become M0 11 1).bind fun M11 =>
  (fX7_passNights M11 11 a2).bind fun M12 =>
  if a3 = (0 : Int32) then ((zix a1 8).bind fun j15 =>
  some ((M12.1 13 j15), M12)) else ((zix a1 8).bind fun j14 =>
  some ((M12.1 14 j14), M12)))))
abbrev rX9_then : Room := { frames := 6, cells := 0, slots := 0, locals := 142 }
theorem arX9_then : zAr yX9_then RX9 3 := ⟨rfl, by decide, by decide, by decide +kernel⟩
set_option maxHeartbeats 4000000 in
theorem kX9_then (l : Launch) {w : zWd} (hw : zIsC w) {M0 M' : zM} {a1 : Int32} {a2 : Int32} {a3 : Int32} {r : Int32} (h : fX9_then M0 a1 a2 a3 = some (r, M')) : Met l yX9_then (Cond.code yX9_then cX9_then 4 (some .int) :: zU) rX9_then (zPre w M0 [.ref (za w 0), .int a1, .int a2, .int a3]) (zQ w (some (.int r)) M') 0 0 (zA w) := by
  refine z_metN (own := RX9) (lv := [(0, .ref (za w 0)), (1, .int a1), (2, .int a2), (3, .int a3)]) hw.1 (by decide) (Nat.le_of_ble_eq_true rfl) rfl rfl ?_
  intro p e s m args below meth c G hr hlk hH ls hl
  unfold fX9_then at h
  refine lv_aload_n G.x G.b dX9_then_0 rfl (lv_at hl 0 rfl) ?_
  refine lv_iload_n G.x G.b dX9_then_1 rfl (lv_at hl 1 rfl) ?_
  obtain ⟨x1, ex1, h⟩ := z_bind h
  refine z_rdI (z_runV (k := 0) (As := [.int a1]) (rest := []) G hH hl.1 (kX9_isBeard l hw ex1) (cC0 hw) vc9 arX9_isBeard u231 u233 us1 u1 u234 rfl rfl rfl (Nat.le_of_ble_eq_true rfl) (Nat.le_of_ble_eq_true rfl) rfl (Nat.le_of_ble_eq_true rfl) dX9_then_2) ?_
  refine lv_if_eq (tgt := 28) G.x G.b dX9_then_5 (by decide) (fun c2 => ?_) (fun c2 => ?_)
  · have h := z_if c2 h
    refine lv_aload_n G.x G.b dX9_then_28 rfl (lv_at hl 0 rfl) ?_
    refine lv_iconst (v := (0 : Int32)) G.x G.b dX9_then_29 (by decide) ?_
    obtain ⟨x3, M4, eM4, h⟩ := z_b2 h
    refine z_aftI (z_runV (k := 0) (As := [.int (0 : Int32)]) (rest := []) G hH hl.1 (kX9_finding l hw eM4) (cC0 hw) vc9 arX9_finding u222 u224 us0 u1 u225 rfl rfl rfl (Nat.le_of_ble_eq_true rfl) (Nat.le_of_ble_eq_true rfl) rfl (Nat.le_of_ble_eq_true rfl) dX9_then_30) hH (fun H locs hH => ?_)
    exact z_retI G hr hlk hH h dX9_then_33
  · have h := z_ifn c2 h
    refine lv_iload_n G.x G.b dX9_then_8 rfl (lv_at hl 2 rfl) ?_
    refine lv_iconst (v := (0 : Int32)) G.x G.b dX9_then_9 (by decide) ?_
    refine lv_sipush (v := (200 : Int32)) G.x G.b dX9_then_10 (by decide) ?_
    obtain ⟨x5, ex5, h⟩ := z_bind h
    refine z_rdI (z_runS (As := [.int a2, .int (0 : Int32), .int (200 : Int32)]) (rest := []) G hH hl.1 (kX9_isWithin l hw.1 ex5) arX9_isWithin u219 u220 u1 u221 rfl rfl rfl (Nat.le_of_ble_eq_true rfl) (Nat.le_of_ble_eq_true rfl) rfl (Nat.le_of_ble_eq_true rfl) dX9_then_13) ?_
    refine lv_if_eq (tgt := 28) G.x G.b dX9_then_16 (by decide) (fun c6 => ?_) (fun c6 => ?_)
    · have h := z_if c6 h
      refine lv_aload_n G.x G.b dX9_then_28 rfl (lv_at hl 0 rfl) ?_
      refine lv_iconst (v := (0 : Int32)) G.x G.b dX9_then_29 (by decide) ?_
      obtain ⟨x7, M8, eM8, h⟩ := z_b2 h
      refine z_aftI (z_runV (k := 0) (As := [.int (0 : Int32)]) (rest := []) G hH hl.1 (kX9_finding l hw eM8) (cC0 hw) vc9 arX9_finding u222 u224 us0 u1 u225 rfl rfl rfl (Nat.le_of_ble_eq_true rfl) (Nat.le_of_ble_eq_true rfl) rfl (Nat.le_of_ble_eq_true rfl) dX9_then_30) hH (fun H locs hH => ?_)
      exact z_retI G hr hlk hH h dX9_then_33
    · have h := z_ifn c6 h
      refine lv_iload_n G.x G.b dX9_then_19 rfl (lv_at hl 3 rfl) ?_
      refine lv_iconst (v := (0 : Int32)) G.x G.b dX9_then_20 (by decide) ?_
      refine lv_iconst (v := (1 : Int32)) G.x G.b dX9_then_21 (by decide) ?_
      obtain ⟨x9, ex9, h⟩ := z_bind h
      refine z_rdI (z_runS (As := [.int a3, .int (0 : Int32), .int (1 : Int32)]) (rest := []) G hH hl.1 (kX9_isWithin l hw.1 ex9) arX9_isWithin u219 u220 u1 u221 rfl rfl rfl (Nat.le_of_ble_eq_true rfl) (Nat.le_of_ble_eq_true rfl) rfl (Nat.le_of_ble_eq_true rfl) dX9_then_22) ?_
      refine lv_if_ne (tgt := 34) G.x G.b dX9_then_25 (by decide) (fun c10 => ?_) (fun c10 => ?_)
      · have h := z_ifn c10 h
        refine lv_aload_n G.x G.b dX9_then_34 rfl (lv_at hl 0 rfl) ?_
        refine z_get (v := .ref (za w 11)) (k := 0) G hH.1 (cC0 hw) vc9 inU9 1 (by decide) u191 rfl dX9_then_35 ?_
        refine lv_aload_n G.x G.b dX9_then_38 rfl (lv_at hl 0 rfl) ?_
        refine z_get (v := .ref (za w 1)) (k := 0) G hH.1 (cC0 hw) vc9 inU9 0 (by decide) u190 rfl dX9_then_39 ?_
        obtain ⟨M11, eM11, h⟩ := z_bind h
        refine z_aftV (z_runV (k := 11) (As := [.ref (za w 1)]) (rest := []) G hH hl.1 (kX7_become l hw zT11 zT1 eM11) (cCt hw zT11) vc7 arX7_become u484 u485 u486 u8 u487 rfl rfl rfl (Nat.le_of_ble_eq_true rfl) (Nat.le_of_ble_eq_true rfl) rfl (Nat.le_of_ble_eq_true rfl) dX9_then_42) hH (fun H locs hH => ?_)
        refine lv_aload_n G.x G.b dX9_then_45 rfl (lv_at hl 0 rfl) ?_
        refine z_get (v := .ref (za w 11)) (k := 0) G hH.1 (cC0 hw) vc9 inU9 1 (by decide) u191 rfl dX9_then_46 ?_
        refine lv_iload_n G.x G.b dX9_then_49 rfl (lv_at hl 2 rfl) ?_
        obtain ⟨M12, eM12, h⟩ := z_bind h
        refine z_aftV (z_runV (k := 11) (As := [.int a2]) (rest := []) G hH hl.1 (kX7_passNights l hw zT11 eM12) (cCt hw zT11) vc7 arX7_passNights u454 u455 u456 u8 u457 rfl rfl rfl (Nat.le_of_ble_eq_true rfl) (Nat.le_of_ble_eq_true rfl) rfl (Nat.le_of_ble_eq_true rfl) dX9_then_50) hH (fun H locs hH => ?_)
        refine lv_iload_n G.x G.b dX9_then_53 rfl (lv_at hl 3 rfl) ?_
        refine lv_if_ne (tgt := 69) G.x G.b dX9_then_54 (by decide) (fun c13 => ?_) (fun c13 => ?_)
        · have h := z_ifn c13 h
          refine lv_aload_n G.x G.b dX9_then_69 rfl (lv_at hl 0 rfl) ?_
          refine z_get (v := .ref (za w 11)) (k := 0) G hH.1 (cC0 hw) vc9 inU9 1 (by decide) u191 rfl dX9_then_70 ?_
          refine z_get (v := .ref (za w 14)) (k := 11) G hH.1 (cCt hw zT11) vc7 inU7 6 (by decide) u91 rfl dX9_then_73 ?_
          refine lv_iload_n G.x G.b dX9_then_76 rfl (lv_at hl 1 rfl) ?_
          obtain ⟨j14, ej14, h⟩ := z_bind h
          refine z_iald (k := 14) G hH.1 (cCt3 hw zT11) ej14 dX9_then_77 ?_
          exact z_retI G hr hlk hH h dX9_then_78
        · have h := z_if c13 h
          refine lv_aload_n G.x G.b dX9_then_57 rfl (lv_at hl 0 rfl) ?_
          refine z_get (v := .ref (za w 11)) (k := 0) G hH.1 (cC0 hw) vc9 inU9 1 (by decide) u191 rfl dX9_then_58 ?_
          refine z_get (v := .ref (za w 13)) (k := 11) G hH.1 (cCt hw zT11) vc7 inU7 5 (by decide) u88 rfl dX9_then_61 ?_
          refine lv_iload_n G.x G.b dX9_then_64 rfl (lv_at hl 1 rfl) ?_
          obtain ⟨j15, ej15, h⟩ := z_bind h
          refine z_iald (k := 13) G hH.1 (cCt2 hw zT11) ej15 dX9_then_65 ?_
          refine lv_goto (tgt := 78) G.x G.b dX9_then_66 (by decide) ?_
          exact z_retI G hr hlk hH h dX9_then_78
      · have h := z_if c10 h
        refine lv_aload_n G.x G.b dX9_then_28 rfl (lv_at hl 0 rfl) ?_
        refine lv_iconst (v := (0 : Int32)) G.x G.b dX9_then_29 (by decide) ?_
        obtain ⟨x16, M17, eM17, h⟩ := z_b2 h
        refine z_aftI (z_runV (k := 0) (As := [.int (0 : Int32)]) (rest := []) G hH hl.1 (kX9_finding l hw eM17) (cC0 hw) vc9 arX9_finding u222 u224 us0 u1 u225 rfl rfl rfl (Nat.le_of_ble_eq_true rfl) (Nat.le_of_ble_eq_true rfl) rfl (Nat.le_of_ble_eq_true rfl) dX9_then_30) hH (fun H locs hH => ?_)
        exact z_retI G hr hlk hH h dX9_then_33
