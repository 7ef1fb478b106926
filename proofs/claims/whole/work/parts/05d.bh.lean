def fX9_fond (M0 : zM) (a1 : Int32) (a2 : Int32) : Option (Int32 × zM) :=
  (fX9_isHouse a1).bind fun x1 =>
  if x1 = (0 : Int32) then (zb2 (fX9_finding M0 (0 : Int32)) fun x3 M4 =>
  some (x3, M4)) else ((fX9_isWithin a2 (0 : Int32) (200 : Int32)).bind fun x5 =>
  if x5 = (0 : Int32) then (zb2 (fX9_finding M0 (0 : Int32)) fun x10 M11 =>
  some (x10, M11)) else ((fX7_become M0 11 1).bind fun M7 =>
  (fX7_passNights M7 11 a2).bind fun M8 =>
  (zix a1 6).bind fun j9 =>
  some ((M8.1 19 j9), M8)))
abbrev rX9_fond : Room := { frames := 6, cells := 0, slots := 0, locals := 142 }
theorem arX9_fond : zAr yX9_fond RX9 2 := ⟨rfl, by decide, by decide, by decide +kernel⟩
set_option maxHeartbeats 4000000 in
theorem kX9_fond (l : Launch) {w : zWd} (hw : zIsC w) {M0 M' : zM} {a1 : Int32} {a2 : Int32} {r : Int32} (h : fX9_fond M0 a1 a2 = some (r, M')) : Met l yX9_fond (Cond.code yX9_fond cX9_fond 3 (some .int) :: zU) rX9_fond (zPre w M0 [.ref (za w 0), .int a1, .int a2]) (zQ w (some (.int r)) M') 0 0 (zA w) := by
  refine z_metN (own := RX9) (lv := [(0, .ref (za w 0)), (1, .int a1), (2, .int a2)]) hw.1 (by decide) (Nat.le_of_ble_eq_true rfl) rfl rfl ?_
  intro p e s m args below meth c G hr hlk hH ls hl
  unfold fX9_fond at h
  refine lv_iload_n G.x G.b dX9_fond_0 rfl (lv_at hl 1 rfl) ?_
  obtain ⟨x1, ex1, h⟩ := z_bind h
  refine z_rdI (z_runS (As := [.int a1]) (rest := []) G hH hl.1 (kX9_isHouse l hw.1 ex1) arX9_isHouse u216 u217 u1 u218 rfl rfl rfl (Nat.le_of_ble_eq_true rfl) (Nat.le_of_ble_eq_true rfl) rfl (Nat.le_of_ble_eq_true rfl) dX9_fond_1) ?_
  refine lv_if_eq (tgt := 18) G.x G.b dX9_fond_4 (by decide) (fun c2 => ?_) (fun c2 => ?_)
  · have h := z_if c2 h
    refine lv_aload_n G.x G.b dX9_fond_18 rfl (lv_at hl 0 rfl) ?_
    refine lv_iconst (v := (0 : Int32)) G.x G.b dX9_fond_19 (by decide) ?_
    obtain ⟨x3, M4, eM4, h⟩ := z_b2 h
    refine z_aftI (z_runV (k := 0) (As := [.int (0 : Int32)]) (rest := []) G hH hl.1 (kX9_finding l hw eM4) (cC0 hw) vc9 arX9_finding u222 u224 us0 u1 u225 rfl rfl rfl (Nat.le_of_ble_eq_true rfl) (Nat.le_of_ble_eq_true rfl) rfl (Nat.le_of_ble_eq_true rfl) dX9_fond_20) hH (fun H locs hH => ?_)
    exact z_retI G hr hlk hH h dX9_fond_23
  · have h := z_ifn c2 h
    refine lv_iload_n G.x G.b dX9_fond_7 rfl (lv_at hl 2 rfl) ?_
    refine lv_iconst (v := (0 : Int32)) G.x G.b dX9_fond_8 (by decide) ?_
    refine lv_sipush (v := (200 : Int32)) G.x G.b dX9_fond_9 (by decide) ?_
    obtain ⟨x5, ex5, h⟩ := z_bind h
    refine z_rdI (z_runS (As := [.int a2, .int (0 : Int32), .int (200 : Int32)]) (rest := []) G hH hl.1 (kX9_isWithin l hw.1 ex5) arX9_isWithin u219 u220 u1 u221 rfl rfl rfl (Nat.le_of_ble_eq_true rfl) (Nat.le_of_ble_eq_true rfl) rfl (Nat.le_of_ble_eq_true rfl) dX9_fond_12) ?_
    refine lv_if_ne (tgt := 24) G.x G.b dX9_fond_15 (by decide) (fun c6 => ?_) (fun c6 => ?_)
    · have h := z_ifn c6 h
      refine lv_aload_n G.x G.b dX9_fond_24 rfl (lv_at hl 0 rfl) ?_
      refine z_get (v := .ref (za w 11)) (k := 0) G hH.1 (cC0 hw) vc9 inU9 1 (by decide) u191 rfl dX9_fond_25 ?_
      refine lv_aload_n G.x G.b dX9_fond_28 rfl (lv_at hl 0 rfl) ?_
      refine z_get (v := .ref (za w 1)) (k := 0) G hH.1 (cC0 hw) vc9 inU9 0 (by decide) u190 rfl dX9_fond_29 ?_
      obtain ⟨M7, eM7, h⟩ := z_bind h
      refine z_aftV (z_runV (k := 11) (As := [.ref (za w 1)]) (rest := []) G hH hl.1 (kX7_become l hw zT11 zT1 eM7) (cCt hw zT11) vc7 arX7_become u484 u485 u486 u8 u487 rfl rfl rfl (Nat.le_of_ble_eq_true rfl) (Nat.le_of_ble_eq_true rfl) rfl (Nat.le_of_ble_eq_true rfl) dX9_fond_32) hH (fun H locs hH => ?_)
      refine lv_aload_n G.x G.b dX9_fond_35 rfl (lv_at hl 0 rfl) ?_
      refine z_get (v := .ref (za w 11)) (k := 0) G hH.1 (cC0 hw) vc9 inU9 1 (by decide) u191 rfl dX9_fond_36 ?_
      refine lv_iload_n G.x G.b dX9_fond_39 rfl (lv_at hl 2 rfl) ?_
      obtain ⟨M8, eM8, h⟩ := z_bind h
      refine z_aftV (z_runV (k := 11) (As := [.int a2]) (rest := []) G hH hl.1 (kX7_passNights l hw zT11 eM8) (cCt hw zT11) vc7 arX7_passNights u454 u455 u456 u8 u457 rfl rfl rfl (Nat.le_of_ble_eq_true rfl) (Nat.le_of_ble_eq_true rfl) rfl (Nat.le_of_ble_eq_true rfl) dX9_fond_40) hH (fun H locs hH => ?_)
      refine lv_aload_n G.x G.b dX9_fond_43 rfl (lv_at hl 0 rfl) ?_
      refine z_get (v := .ref (za w 11)) (k := 0) G hH.1 (cC0 hw) vc9 inU9 1 (by decide) u191 rfl dX9_fond_44 ?_
      refine z_get (v := .ref (za w 19)) (k := 11) G hH.1 (cCt hw zT11) vc7 inU7 11 (by decide) u105 rfl dX9_fond_47 ?_
      refine lv_iload_n G.x G.b dX9_fond_50 rfl (lv_at hl 1 rfl) ?_
      obtain ⟨j9, ej9, h⟩ := z_bind h
      refine z_iald (k := 19) G hH.1 (cCt8 hw zT11) ej9 dX9_fond_51 ?_
      exact z_retI G hr hlk hH h dX9_fond_52
    · have h := z_if c6 h
      refine lv_aload_n G.x G.b dX9_fond_18 rfl (lv_at hl 0 rfl) ?_
      refine lv_iconst (v := (0 : Int32)) G.x G.b dX9_fond_19 (by decide) ?_
      obtain ⟨x10, M11, eM11, h⟩ := z_b2 h
      refine z_aftI (z_runV (k := 0) (As := [.int (0 : Int32)]) (rest := []) G hH hl.1 (kX9_finding l hw eM11) (cC0 hw) vc9 arX9_finding u222 u224 us0 u1 u225 rfl rfl rfl (Nat.le_of_ble_eq_true rfl) (Nat.le_of_ble_eq_true rfl) rfl (Nat.le_of_ble_eq_true rfl) dX9_fond_20) hH (fun H locs hH => ?_)
      exact z_retI G hr hlk hH h dX9_fond_23
def bX9_home_27 (a1 : Int32) (E62_5 : zM → Option (Int32 × zM)) (rc10 : zM → Int32 → Option (Int32 × zM)) (M8 : zM) (x9 : Int32) : Option (Int32 × zM) :=
  if (200 : Int32) < x9 then (E62_5 M8) else ((zix a1 8).bind fun j12 =>
  if (M8.1 15 j12) = (-1 : Int32) then (some (x9, M8)) else ((fX7_passNight M8 11).bind fun M14 =>
  (some (x9 + (1 : Int32))).bind fun x15 =>
  rc10 M14 x15))
def lX9_home_27 (a1 : Int32) (E62_5 : zM → Option (Int32 × zM)) : Nat → zM → Int32 → Option (Int32 × zM) := zL2 (bX9_home_27 a1 E62_5)
def fX9_home (M0 : zM) (a1 : Int32) : Option (Int32 × zM) :=
  (fX9_isBeard M0 a1).bind fun x1 =>
  if x1 = (0 : Int32) then (zb2 (fX9_finding M0 (0 : Int32)) fun x16 M17 =>
  some (x16, M17)) else ((fX7_become M0 11 1).bind fun M3 =>
  zj (fun (M4 : zM) =>
  zb2 (fX9_finding M4 (3 : Int32)) fun x6 M7 =>
  some (x6, M7)) fun E62_5 =>
  lX9_home_27 a1 E62_5 zFuel M3 (0 : Int32))
abbrev rX9_home : Room := { frames := 5, cells := 0, slots := 0, locals := 120 }
theorem arX9_home : zAr yX9_home RX9 1 := ⟨rfl, by decide, by decide, by decide +kernel⟩
set_option maxHeartbeats 4000000 in
theorem kX9_home (l : Launch) {w : zWd} (hw : zIsC w) {M0 M' : zM} {a1 : Int32} {r : Int32} (h : fX9_home M0 a1 = some (r, M')) : Met l yX9_home (Cond.code yX9_home cX9_home 3 (some .int) :: zU) rX9_home (zPre w M0 [.ref (za w 0), .int a1]) (zQ w (some (.int r)) M') 0 0 (zA w) := by
  refine z_metN (own := RX9) (lv := [(0, .ref (za w 0)), (1, .int a1)]) hw.1 (by decide) (Nat.le_of_ble_eq_true rfl) rfl rfl ?_
  intro p e s m args below meth c G hr hlk hH ls hl
  unfold fX9_home at h
  refine lv_aload_n G.x G.b dX9_home_0 rfl (lv_at hl 0 rfl) ?_
  refine lv_iload_n G.x G.b dX9_home_1 rfl (lv_at hl 1 rfl) ?_
  obtain ⟨x1, ex1, h⟩ := z_bind h
  refine z_rdI (z_runV (k := 0) (As := [.int a1]) (rest := []) G hH hl.1 (kX9_isBeard l hw ex1) (cC0 hw) vc9 arX9_isBeard u231 u233 us1 u1 u234 rfl rfl rfl (Nat.le_of_ble_eq_true rfl) (Nat.le_of_ble_eq_true rfl) rfl (Nat.le_of_ble_eq_true rfl) dX9_home_2) ?_
  refine lv_if_ne (tgt := 14) G.x G.b dX9_home_5 (by decide) (fun c2 => ?_) (fun c2 => ?_)
  · have h := z_ifn c2 h
    refine lv_aload_n G.x G.b dX9_home_14 rfl (lv_at hl 0 rfl) ?_
    refine z_get (v := .ref (za w 11)) (k := 0) G hH.1 (cC0 hw) vc9 inU9 1 (by decide) u191 rfl dX9_home_15 ?_
    refine lv_aload_n G.x G.b dX9_home_18 rfl (lv_at hl 0 rfl) ?_
    refine z_get (v := .ref (za w 1)) (k := 0) G hH.1 (cC0 hw) vc9 inU9 0 (by decide) u190 rfl dX9_home_19 ?_
    obtain ⟨M3, eM3, h⟩ := z_bind h
    refine z_aftV (z_runV (k := 11) (As := [.ref (za w 1)]) (rest := []) G hH hl.1 (kX7_become l hw zT11 zT1 eM3) (cCt hw zT11) vc7 arX7_become u484 u485 u486 u8 u487 rfl rfl rfl (Nat.le_of_ble_eq_true rfl) (Nat.le_of_ble_eq_true rfl) rfl (Nat.le_of_ble_eq_true rfl) dX9_home_22) hH (fun H locs hH => ?_)
    refine lv_iconst (v := (0 : Int32)) G.x G.b dX9_home_25 (by decide) ?_
    refine lv_istore_n (lv' := [(2, .int (0 : Int32)), (0, .ref (za w 0)), (1, .int a1)]) G.x G.b dX9_home_26 rfl hl (Nat.le_of_ble_eq_true rfl) rfl (fun ls hl => ?_)
    obtain ⟨E62_5, hE62_5, h⟩ := z_j h
    have kE62_5 : ∀ (M4 : zM) (H : Heap) (locs : List Loc) (ls : Array Slot), E62_5 M4 = some (r, M') → zH w s M4 H locs → lv_has ls 3 [(0, .ref (za w 0))] → zGo p l e rX9_home s m args below meth c (zQ w (some (.int r)) M') (zA w) H locs (F0 m 62 ls []) := by
      intro M4 H locs ls h hH hl
      rw [hE62_5] at h
      refine lv_aload_n G.x G.b dX9_home_62 rfl (lv_at hl 0 rfl) ?_
      refine lv_iconst (v := (3 : Int32)) G.x G.b dX9_home_63 (by decide) ?_
      obtain ⟨x6, M7, eM7, h⟩ := z_b2 h
      refine z_aftI (z_runV (k := 0) (As := [.int (3 : Int32)]) (rest := []) G hH hl.1 (kX9_finding l hw eM7) (cC0 hw) vc9 arX9_finding u222 u224 us0 u1 u225 rfl rfl rfl (Nat.le_of_ble_eq_true rfl) (Nat.le_of_ble_eq_true rfl) rfl (Nat.le_of_ble_eq_true rfl) dX9_home_64) hH (fun H locs hH => ?_)
      exact z_retI G hr hlk hH h dX9_home_67
    have n10 : ∀ (n : Nat) (M8 : zM) (x9 : Int32) (H : Heap) (locs : List Loc) (ls : Array Slot), zL2 (bX9_home_27 a1 E62_5) n M8 x9 = some (r, M') → zH w s M8 H locs → lv_has ls 3 [(0, .ref (za w 0)), (1, .int a1), (2, .int x9)] → zGo p l e rX9_home s m args below meth c (zQ w (some (.int r)) M') (zA w) H locs (F0 m 27 ls []) := by
      intro n
      induction n with
      | zero => intro M8 x9 H locs ls h; exact (zL2_0 h).elim
      | succ n ih10 =>
        intro M8 x9 H locs ls h hH hl
        obtain ⟨rc10, hrc10, h⟩ := zL2_s h
        rw [← hrc10] at ih10
        unfold bX9_home_27 at h
        refine lv_iload_n G.x G.b dX9_home_27 rfl (lv_at hl 2 rfl) ?_
        refine lv_sipush (v := (200 : Int32)) G.x G.b dX9_home_28 (by decide) ?_
        refine lv_icmp_gt (tgt := 62) G.x G.b dX9_home_31 (by decide) (fun c11 => ?_) (fun c11 => ?_)
        · have h := z_if c11 h
          exact kE62_5 M8 H locs ls h hH (lv_sub hl [0] rfl)
        · have h := z_ifn c11 h
          refine lv_aload_n G.x G.b dX9_home_34 rfl (lv_at hl 0 rfl) ?_
          refine z_get (v := .ref (za w 11)) (k := 0) G hH.1 (cC0 hw) vc9 inU9 1 (by decide) u191 rfl dX9_home_35 ?_
          refine z_get (v := .ref (za w 15)) (k := 11) G hH.1 (cCt hw zT11) vc7 inU7 7 (by decide) u93 rfl dX9_home_38 ?_
          refine lv_iload_n G.x G.b dX9_home_41 rfl (lv_at hl 1 rfl) ?_
          obtain ⟨j12, ej12, h⟩ := z_bind h
          refine z_iald (k := 15) G hH.1 (cCt4 hw zT11) ej12 dX9_home_42 ?_
          refine lv_iconst (v := (-1 : Int32)) G.x G.b dX9_home_43 (by decide) ?_
          refine lv_icmp_ne (tgt := 49) G.x G.b dX9_home_44 (by decide) (fun c13 => ?_) (fun c13 => ?_)
          · have h := z_ifn c13 h
            refine lv_aload_n G.x G.b dX9_home_49 rfl (lv_at hl 0 rfl) ?_
            refine z_get (v := .ref (za w 11)) (k := 0) G hH.1 (cC0 hw) vc9 inU9 1 (by decide) u191 rfl dX9_home_50 ?_
            obtain ⟨M14, eM14, h⟩ := z_bind h
            refine z_aftV (z_runV (k := 11) (As := []) (rest := []) G hH hl.1 (kX7_passNight l hw zT11 eM14) (cCt hw zT11) vc7 arX7_passNight u507 u459 u460 u8 u461 rfl rfl rfl (Nat.le_of_ble_eq_true rfl) (Nat.le_of_ble_eq_true rfl) rfl (Nat.le_of_ble_eq_true rfl) dX9_home_53) hH (fun H locs hH => ?_)
            obtain ⟨x15, ex15, h⟩ := z_let h
            refine lv_iinc (v := x15) (lv' := [(2, .int x15), (0, .ref (za w 0)), (1, .int a1)]) G.x G.b dX9_home_56 hl (k := 2) rfl (by rw [ex15]; rfl) (Nat.le_of_ble_eq_true rfl) rfl (fun ls hl => ?_)
            refine lv_goto (tgt := 27) G.x G.b dX9_home_59 (by decide) ?_
            exact ih10 M14 x15 H locs ls h hH (lv_sub hl [1, 2, 0] rfl)
          · have h := z_if c13 h
            refine lv_iload_n G.x G.b dX9_home_47 rfl (lv_at hl 2 rfl) ?_
            exact z_retI G hr hlk hH h dX9_home_48
    exact n10 zFuel M3 (0 : Int32) H locs ls h hH (lv_sub hl [1, 2, 0] rfl)
  · have h := z_if c2 h
    refine lv_aload_n G.x G.b dX9_home_8 rfl (lv_at hl 0 rfl) ?_
    refine lv_iconst (v := (0 : Int32)) G.x G.b dX9_home_9 (by decide) ?_
    obtain ⟨x16, M17, eM17, h⟩ := z_b2 h
    refine z_aftI (z_runV (k := 0) (As := [.int (0 : Int32)]) (rest := []) G hH hl.1 (kX9_finding l hw eM17) (cC0 hw) vc9 arX9_finding u222 u224 us0 u1 u225 rfl rfl rfl (Nat.le_of_ble_eq_true rfl) (Nat.le_of_ble_eq_true rfl) rfl (Nat.le_of_ble_eq_true rfl) dX9_home_10) hH (fun H locs hH => ?_)
    exact z_retI G hr hlk hH h dX9_home_13
def bX9_falls_38 (a1 : Int32) (a2 : Int32) (E73_9 : zM → Option (Int32 × zM)) (rc14 : zM → Int32 → Option (Int32 × zM)) (M12 : zM) (x13 : Int32) : Option (Int32 × zM) :=
  if (200 : Int32) < x13 then (E73_9 M12) else ((zix a1 6).bind fun j16 =>
  if a2 < (M12.1 16 j16) then ((fX7_passNight M12 11).bind fun M18 =>
  (some (x13 + (1 : Int32))).bind fun x19 =>
  rc14 M18 x19) else (some (x13, M12)))
def lX9_falls_38 (a1 : Int32) (a2 : Int32) (E73_9 : zM → Option (Int32 × zM)) : Nat → zM → Int32 → Option (Int32 × zM) := zL2 (bX9_falls_38 a1 a2 E73_9)
def fX9_falls (M0 : zM) (a1 : Int32) (a2 : Int32) : Option (Int32 × zM) :=
  (fX9_isWearer M0 a1).bind fun x1 =>
  if x1 = (0 : Int32) then (zb2 (fX9_finding M0 (0 : Int32)) fun x3 M4 =>
  some (x3, M4)) else ((fX9_isWithin a2 (0 : Int32) (9999 : Int32)).bind fun x5 =>
  if x5 = (0 : Int32) then (zb2 (fX9_finding M0 (0 : Int32)) fun x20 M21 =>
  some (x20, M21)) else ((fX7_become M0 11 1).bind fun M7 =>
  zj (fun (M8 : zM) =>
  zb2 (fX9_finding M8 (3 : Int32)) fun x10 M11 =>
  some (x10, M11)) fun E73_9 =>
  lX9_falls_38 a1 a2 E73_9 zFuel M7 (0 : Int32)))
abbrev rX9_falls : Room := { frames := 5, cells := 0, slots := 0, locals := 120 }
theorem arX9_falls : zAr yX9_falls RX9 2 := ⟨rfl, by decide, by decide, by decide +kernel⟩
set_option maxHeartbeats 4000000 in
theorem kX9_falls (l : Launch) {w : zWd} (hw : zIsC w) {M0 M' : zM} {a1 : Int32} {a2 : Int32} {r : Int32} (h : fX9_falls M0 a1 a2 = some (r, M')) : Met l yX9_falls (Cond.code yX9_falls cX9_falls 4 (some .int) :: zU) rX9_falls (zPre w M0 [.ref (za w 0), .int a1, .int a2]) (zQ w (some (.int r)) M') 0 0 (zA w) := by
  refine z_metN (own := RX9) (lv := [(0, .ref (za w 0)), (1, .int a1), (2, .int a2)]) hw.1 (by decide) (Nat.le_of_ble_eq_true rfl) rfl rfl ?_
  intro p e s m args below meth c G hr hlk hH ls hl
  unfold fX9_falls at h
  refine lv_aload_n G.x G.b dX9_falls_0 rfl (lv_at hl 0 rfl) ?_
  refine lv_iload_n G.x G.b dX9_falls_1 rfl (lv_at hl 1 rfl) ?_
  obtain ⟨x1, ex1, h⟩ := z_bind h
  refine z_rdI (z_runV (k := 0) (As := [.int a1]) (rest := []) G hH hl.1 (kX9_isWearer l hw ex1) (cC0 hw) vc9 arX9_isWearer u424 u426 us2 u1 u427 rfl rfl rfl (Nat.le_of_ble_eq_true rfl) (Nat.le_of_ble_eq_true rfl) rfl (Nat.le_of_ble_eq_true rfl) dX9_falls_2) ?_
  refine lv_if_eq (tgt := 19) G.x G.b dX9_falls_5 (by decide) (fun c2 => ?_) (fun c2 => ?_)
  · have h := z_if c2 h
    refine lv_aload_n G.x G.b dX9_falls_19 rfl (lv_at hl 0 rfl) ?_
    refine lv_iconst (v := (0 : Int32)) G.x G.b dX9_falls_20 (by decide) ?_
    obtain ⟨x3, M4, eM4, h⟩ := z_b2 h
    refine z_aftI (z_runV (k := 0) (As := [.int (0 : Int32)]) (rest := []) G hH hl.1 (kX9_finding l hw eM4) (cC0 hw) vc9 arX9_finding u222 u224 us0 u1 u225 rfl rfl rfl (Nat.le_of_ble_eq_true rfl) (Nat.le_of_ble_eq_true rfl) rfl (Nat.le_of_ble_eq_true rfl) dX9_falls_21) hH (fun H locs hH => ?_)
    exact z_retI G hr hlk hH h dX9_falls_24
  · have h := z_ifn c2 h
    refine lv_iload_n G.x G.b dX9_falls_8 rfl (lv_at hl 2 rfl) ?_
    refine lv_iconst (v := (0 : Int32)) G.x G.b dX9_falls_9 (by decide) ?_
    refine lv_sipush (v := (9999 : Int32)) G.x G.b dX9_falls_10 (by decide) ?_
    obtain ⟨x5, ex5, h⟩ := z_bind h
    refine z_rdI (z_runS (As := [.int a2, .int (0 : Int32), .int (9999 : Int32)]) (rest := []) G hH hl.1 (kX9_isWithin l hw.1 ex5) arX9_isWithin u219 u220 u1 u221 rfl rfl rfl (Nat.le_of_ble_eq_true rfl) (Nat.le_of_ble_eq_true rfl) rfl (Nat.le_of_ble_eq_true rfl) dX9_falls_13) ?_
    refine lv_if_ne (tgt := 25) G.x G.b dX9_falls_16 (by decide) (fun c6 => ?_) (fun c6 => ?_)
    · have h := z_ifn c6 h
      refine lv_aload_n G.x G.b dX9_falls_25 rfl (lv_at hl 0 rfl) ?_
      refine z_get (v := .ref (za w 11)) (k := 0) G hH.1 (cC0 hw) vc9 inU9 1 (by decide) u191 rfl dX9_falls_26 ?_
      refine lv_aload_n G.x G.b dX9_falls_29 rfl (lv_at hl 0 rfl) ?_
      refine z_get (v := .ref (za w 1)) (k := 0) G hH.1 (cC0 hw) vc9 inU9 0 (by decide) u190 rfl dX9_falls_30 ?_
      obtain ⟨M7, eM7, h⟩ := z_bind h
      refine z_aftV (z_runV (k := 11) (As := [.ref (za w 1)]) (rest := []) G hH hl.1 (kX7_become l hw zT11 zT1 eM7) (cCt hw zT11) vc7 arX7_become u484 u485 u486 u8 u487 rfl rfl rfl (Nat.le_of_ble_eq_true rfl) (Nat.le_of_ble_eq_true rfl) rfl (Nat.le_of_ble_eq_true rfl) dX9_falls_33) hH (fun H locs hH => ?_)
      refine lv_iconst (v := (0 : Int32)) G.x G.b dX9_falls_36 (by decide) ?_
      refine lv_istore_n (lv' := [(3, .int (0 : Int32)), (0, .ref (za w 0)), (1, .int a1), (2, .int a2)]) G.x G.b dX9_falls_37 rfl hl (Nat.le_of_ble_eq_true rfl) rfl (fun ls hl => ?_)
      obtain ⟨E73_9, hE73_9, h⟩ := z_j h
      have kE73_9 : ∀ (M8 : zM) (H : Heap) (locs : List Loc) (ls : Array Slot), E73_9 M8 = some (r, M') → zH w s M8 H locs → lv_has ls 4 [(0, .ref (za w 0))] → zGo p l e rX9_falls s m args below meth c (zQ w (some (.int r)) M') (zA w) H locs (F0 m 73 ls []) := by
        intro M8 H locs ls h hH hl
        rw [hE73_9] at h
        refine lv_aload_n G.x G.b dX9_falls_73 rfl (lv_at hl 0 rfl) ?_
        refine lv_iconst (v := (3 : Int32)) G.x G.b dX9_falls_74 (by decide) ?_
        obtain ⟨x10, M11, eM11, h⟩ := z_b2 h
        refine z_aftI (z_runV (k := 0) (As := [.int (3 : Int32)]) (rest := []) G hH hl.1 (kX9_finding l hw eM11) (cC0 hw) vc9 arX9_finding u222 u224 us0 u1 u225 rfl rfl rfl (Nat.le_of_ble_eq_true rfl) (Nat.le_of_ble_eq_true rfl) rfl (Nat.le_of_ble_eq_true rfl) dX9_falls_75) hH (fun H locs hH => ?_)
        exact z_retI G hr hlk hH h dX9_falls_78
      have n14 : ∀ (n : Nat) (M12 : zM) (x13 : Int32) (H : Heap) (locs : List Loc) (ls : Array Slot), zL2 (bX9_falls_38 a1 a2 E73_9) n M12 x13 = some (r, M') → zH w s M12 H locs → lv_has ls 4 [(0, .ref (za w 0)), (1, .int a1), (2, .int a2), (3, .int x13)] → zGo p l e rX9_falls s m args below meth c (zQ w (some (.int r)) M') (zA w) H locs (F0 m 38 ls []) := by
        intro n
        induction n with
        | zero => intro M12 x13 H locs ls h; exact (zL2_0 h).elim
        | succ n ih14 =>
          intro M12 x13 H locs ls h hH hl
          obtain ⟨rc14, hrc14, h⟩ := zL2_s h
          rw [← hrc14] at ih14
          unfold bX9_falls_38 at h
          refine lv_iload_n G.x G.b dX9_falls_38 rfl (lv_at hl 3 rfl) ?_
          refine lv_sipush (v := (200 : Int32)) G.x G.b dX9_falls_39 (by decide) ?_
          refine lv_icmp_gt (tgt := 73) G.x G.b dX9_falls_42 (by decide) (fun c15 => ?_) (fun c15 => ?_)
          · have h := z_if c15 h
            exact kE73_9 M12 H locs ls h hH (lv_sub hl [0] rfl)
          · have h := z_ifn c15 h
            refine lv_aload_n G.x G.b dX9_falls_45 rfl (lv_at hl 0 rfl) ?_
            refine z_get (v := .ref (za w 11)) (k := 0) G hH.1 (cC0 hw) vc9 inU9 1 (by decide) u191 rfl dX9_falls_46 ?_
            refine z_get (v := .ref (za w 16)) (k := 11) G hH.1 (cCt hw zT11) vc7 inU7 8 (by decide) u97 rfl dX9_falls_49 ?_
            refine lv_iload_n G.x G.b dX9_falls_52 rfl (lv_at hl 1 rfl) ?_
            obtain ⟨j16, ej16, h⟩ := z_bind h
            refine z_iald (k := 16) G hH.1 (cCt5 hw zT11) ej16 dX9_falls_53 ?_
            refine lv_iload_n G.x G.b dX9_falls_54 rfl (lv_at hl 2 rfl) ?_
            refine lv_icmp_gt (tgt := 60) G.x G.b dX9_falls_55 (by decide) (fun c17 => ?_) (fun c17 => ?_)
            · have h := z_if c17 h
              refine lv_aload_n G.x G.b dX9_falls_60 rfl (lv_at hl 0 rfl) ?_
              refine z_get (v := .ref (za w 11)) (k := 0) G hH.1 (cC0 hw) vc9 inU9 1 (by decide) u191 rfl dX9_falls_61 ?_
              obtain ⟨M18, eM18, h⟩ := z_bind h
              refine z_aftV (z_runV (k := 11) (As := []) (rest := []) G hH hl.1 (kX7_passNight l hw zT11 eM18) (cCt hw zT11) vc7 arX7_passNight u507 u459 u460 u8 u461 rfl rfl rfl (Nat.le_of_ble_eq_true rfl) (Nat.le_of_ble_eq_true rfl) rfl (Nat.le_of_ble_eq_true rfl) dX9_falls_64) hH (fun H locs hH => ?_)
              obtain ⟨x19, ex19, h⟩ := z_let h
              refine lv_iinc (v := x19) (lv' := [(3, .int x19), (0, .ref (za w 0)), (1, .int a1), (2, .int a2)]) G.x G.b dX9_falls_67 hl (k := 3) rfl (by rw [ex19]; rfl) (Nat.le_of_ble_eq_true rfl) rfl (fun ls hl => ?_)
              refine lv_goto (tgt := 38) G.x G.b dX9_falls_70 (by decide) ?_
              exact ih14 M18 x19 H locs ls h hH (lv_sub hl [1, 2, 3, 0] rfl)
            · have h := z_ifn c17 h
              refine lv_iload_n G.x G.b dX9_falls_58 rfl (lv_at hl 3 rfl) ?_
              exact z_retI G hr hlk hH h dX9_falls_59
      exact n14 zFuel M7 (0 : Int32) H locs ls h hH (lv_sub hl [1, 2, 3, 0] rfl)
    · have h := z_if c6 h
      refine lv_aload_n G.x G.b dX9_falls_19 rfl (lv_at hl 0 rfl) ?_
      refine lv_iconst (v := (0 : Int32)) G.x G.b dX9_falls_20 (by decide) ?_
      obtain ⟨x20, M21, eM21, h⟩ := z_b2 h
      refine z_aftI (z_runV (k := 0) (As := [.int (0 : Int32)]) (rest := []) G hH hl.1 (kX9_finding l hw eM21) (cC0 hw) vc9 arX9_finding u222 u224 us0 u1 u225 rfl rfl rfl (Nat.le_of_ble_eq_true rfl) (Nat.le_of_ble_eq_true rfl) rfl (Nat.le_of_ble_eq_true rfl) dX9_falls_21) hH (fun H locs hH => ?_)
      exact z_retI G hr hlk hH h dX9_falls_24
def bX9_best_51 (a1 : Int32) (a2 : Int32) (E141_11 : zM → Int32 → Option (Int32 × zM)) (rc19 : zM → Int32 → Int32 → Int32 → Option (Int32 × zM)) (M15 : zM) (x16 : Int32) (x17 : Int32) (x18 : Int32) : Option (Int32 × zM) :=
  if (M15.1 1 2) ≤ x18 then (E141_11 M15 x16) else ((zix x18 8).bind fun j21 =>
  zj (fun (M22 : zM) (x23 : Int32) (x24 : Int32) =>
  (some (x18 + (1 : Int32))).bind fun x26 =>
  rc19 M22 x23 x24 x26) fun J135_25 =>
  if (M15.1 5 j21) = (-1 : Int32) then ((fX7_become M15 11 1).bind fun M28 =>
  (fX7_putOn M28 11 a1 x18).bind fun M29 =>
  (fX7_passNightsOfWearer M29 11 a1 a2).bind fun M30 =>
  (zix a1 6).bind fun j31 =>
  if (M30.1 16 j31) ≤ x17 then (J135_25 M30 x16 x17) else ((zix a1 6).bind fun j33 =>
  (some (M30.1 16 j33)).bind fun x34 =>
  J135_25 M30 x18 x34)) else (J135_25 M15 x16 x17))
def lX9_best_51 (a1 : Int32) (a2 : Int32) (E141_11 : zM → Int32 → Option (Int32 × zM)) : Nat → zM → Int32 → Int32 → Int32 → Option (Int32 × zM) := zL4 (bX9_best_51 a1 a2 E141_11)
def fX9_best (M0 : zM) (a1 : Int32) (a2 : Int32) : Option (Int32 × zM) :=
  (fX9_isWearer M0 a1).bind fun x1 =>
  if x1 = (0 : Int32) then (zb2 (fX9_finding M0 (0 : Int32)) fun x3 M4 =>
  some (x3, M4)) else ((fX9_isWithin a2 (1 : Int32) (60 : Int32)).bind fun x5 =>
  if x5 = (0 : Int32) then (zb2 (fX9_finding M0 (0 : Int32)) fun x37 M38 =>
  some (x37, M38)) else ((zix a1 6).bind fun j7 =>
  if (M0.1 8 j7) = (-1 : Int32) then (zj (fun (M9 : zM) (x10 : Int32) =>
  if x10 = (-1 : Int32) then (zb2 (fX9_finding M9 (3 : Int32)) fun x13 M14 =>
  some (x13, M14)) else (some (x10, M9))) fun E141_11 =>
  lX9_best_51 a1 a2 E141_11 zFuel M0 (-1 : Int32) (-1 : Int32) (0 : Int32)) else (zb2 (fX9_finding M0 (4 : Int32)) fun x35 M36 =>
  some (x35, M36))))
abbrev rX9_best : Room := { frames := 6, cells := 0, slots := 0, locals := 143 }
theorem arX9_best : zAr yX9_best RX9 2 := ⟨rfl, by decide, by decide, by decide +kernel⟩
set_option maxHeartbeats 4000000 in
theorem kX9_best (l : Launch) {w : zWd} (hw : zIsC w) {M0 M' : zM} {a1 : Int32} {a2 : Int32} {r : Int32} (h : fX9_best M0 a1 a2 = some (r, M')) : Met l yX9_best (Cond.code yX9_best cX9_best 6 (some .int) :: zU) rX9_best (zPre w M0 [.ref (za w 0), .int a1, .int a2]) (zQ w (some (.int r)) M') 0 0 (zA w) := by
  refine z_metN (own := RX9) (lv := [(0, .ref (za w 0)), (1, .int a1), (2, .int a2)]) hw.1 (by decide) (Nat.le_of_ble_eq_true rfl) rfl rfl ?_
  intro p e s m args below meth c G hr hlk hH ls hl
  unfold fX9_best at h
  refine lv_aload_n G.x G.b dX9_best_0 rfl (lv_at hl 0 rfl) ?_
  refine lv_iload_n G.x G.b dX9_best_1 rfl (lv_at hl 1 rfl) ?_
  obtain ⟨x1, ex1, h⟩ := z_bind h
  refine z_rdI (z_runV (k := 0) (As := [.int a1]) (rest := []) G hH hl.1 (kX9_isWearer l hw ex1) (cC0 hw) vc9 arX9_isWearer u424 u426 us2 u1 u427 rfl rfl rfl (Nat.le_of_ble_eq_true rfl) (Nat.le_of_ble_eq_true rfl) rfl (Nat.le_of_ble_eq_true rfl) dX9_best_2) ?_
  refine lv_if_eq (tgt := 18) G.x G.b dX9_best_5 (by decide) (fun c2 => ?_) (fun c2 => ?_)
  · have h := z_if c2 h
    refine lv_aload_n G.x G.b dX9_best_18 rfl (lv_at hl 0 rfl) ?_
    refine lv_iconst (v := (0 : Int32)) G.x G.b dX9_best_19 (by decide) ?_
    obtain ⟨x3, M4, eM4, h⟩ := z_b2 h
    refine z_aftI (z_runV (k := 0) (As := [.int (0 : Int32)]) (rest := []) G hH hl.1 (kX9_finding l hw eM4) (cC0 hw) vc9 arX9_finding u222 u224 us0 u1 u225 rfl rfl rfl (Nat.le_of_ble_eq_true rfl) (Nat.le_of_ble_eq_true rfl) rfl (Nat.le_of_ble_eq_true rfl) dX9_best_20) hH (fun H locs hH => ?_)
    exact z_retI G hr hlk hH h dX9_best_23
  · have h := z_ifn c2 h
    refine lv_iload_n G.x G.b dX9_best_8 rfl (lv_at hl 2 rfl) ?_
    refine lv_iconst (v := (1 : Int32)) G.x G.b dX9_best_9 (by decide) ?_
    refine lv_bipush (v := (60 : Int32)) G.x G.b dX9_best_10 (by decide) ?_
    obtain ⟨x5, ex5, h⟩ := z_bind h
    refine z_rdI (z_runS (As := [.int a2, .int (1 : Int32), .int (60 : Int32)]) (rest := []) G hH hl.1 (kX9_isWithin l hw.1 ex5) arX9_isWithin u219 u220 u1 u221 rfl rfl rfl (Nat.le_of_ble_eq_true rfl) (Nat.le_of_ble_eq_true rfl) rfl (Nat.le_of_ble_eq_true rfl) dX9_best_12) ?_
    refine lv_if_ne (tgt := 24) G.x G.b dX9_best_15 (by decide) (fun c6 => ?_) (fun c6 => ?_)
    · have h := z_ifn c6 h
      refine lv_aload_n G.x G.b dX9_best_24 rfl (lv_at hl 0 rfl) ?_
      refine z_get (v := .ref (za w 1)) (k := 0) G hH.1 (cC0 hw) vc9 inU9 0 (by decide) u190 rfl dX9_best_25 ?_
      refine z_get (v := .ref (za w 8)) (k := 1) G hH.1 (cCt hw zT1) vc7 inU7 10 (by decide) u103 rfl dX9_best_28 ?_
      refine lv_iload_n G.x G.b dX9_best_31 rfl (lv_at hl 1 rfl) ?_
      obtain ⟨j7, ej7, h⟩ := z_bind h
      refine z_iald (k := 8) G hH.1 (cCt7 hw zT1) ej7 dX9_best_32 ?_
      refine lv_iconst (v := (-1 : Int32)) G.x G.b dX9_best_33 (by decide) ?_
      refine lv_icmp_eq (tgt := 43) G.x G.b dX9_best_34 (by decide) (fun c8 => ?_) (fun c8 => ?_)
      · have h := z_if c8 h
        refine lv_iconst (v := (-1 : Int32)) G.x G.b dX9_best_43 (by decide) ?_
        refine lv_istore_n (lv' := [(3, .int (-1 : Int32)), (0, .ref (za w 0)), (1, .int a1), (2, .int a2)]) G.x G.b dX9_best_44 rfl hl (Nat.le_of_ble_eq_true rfl) rfl (fun ls hl => ?_)
        refine lv_iconst (v := (-1 : Int32)) G.x G.b dX9_best_45 (by decide) ?_
        refine lv_istore (lv' := [(4, .int (-1 : Int32)), (3, .int (-1 : Int32)), (0, .ref (za w 0)), (1, .int a1), (2, .int a2)]) G.x G.b dX9_best_46 hl (Nat.le_of_ble_eq_true rfl) rfl (fun ls hl => ?_)
        refine lv_iconst (v := (0 : Int32)) G.x G.b dX9_best_48 (by decide) ?_
        refine lv_istore (lv' := [(5, .int (0 : Int32)), (4, .int (-1 : Int32)), (3, .int (-1 : Int32)), (0, .ref (za w 0)), (1, .int a1), (2, .int a2)]) G.x G.b dX9_best_49 hl (Nat.le_of_ble_eq_true rfl) rfl (fun ls hl => ?_)
        obtain ⟨E141_11, hE141_11, h⟩ := z_j h
        have kE141_11 : ∀ (M9 : zM) (x10 : Int32) (H : Heap) (locs : List Loc) (ls : Array Slot), E141_11 M9 x10 = some (r, M') → zH w s M9 H locs → lv_has ls 6 [(0, .ref (za w 0)), (3, .int x10)] → zGo p l e rX9_best s m args below meth c (zQ w (some (.int r)) M') (zA w) H locs (F0 m 141 ls []) := by
          intro M9 x10 H locs ls h hH hl
          rw [hE141_11] at h
          refine lv_iload_n G.x G.b dX9_best_141 rfl (lv_at hl 1 rfl) ?_
          refine lv_iconst (v := (-1 : Int32)) G.x G.b dX9_best_142 (by decide) ?_
          refine lv_icmp_ne (tgt := 154) G.x G.b dX9_best_143 (by decide) (fun c12 => ?_) (fun c12 => ?_)
          · have h := z_ifn c12 h
            refine lv_iload_n G.x G.b dX9_best_154 rfl (lv_at hl 1 rfl) ?_
            exact z_retI G hr hlk hH h dX9_best_155
          · have h := z_if c12 h
            refine lv_aload_n G.x G.b dX9_best_146 rfl (lv_at hl 0 rfl) ?_
            refine lv_iconst (v := (3 : Int32)) G.x G.b dX9_best_147 (by decide) ?_
            obtain ⟨x13, M14, eM14, h⟩ := z_b2 h
            refine z_aftI (z_runV (k := 0) (As := [.int (3 : Int32)]) (rest := []) G hH hl.1 (kX9_finding l hw eM14) (cC0 hw) vc9 arX9_finding u222 u224 us0 u1 u225 rfl rfl rfl (Nat.le_of_ble_eq_true rfl) (Nat.le_of_ble_eq_true rfl) rfl (Nat.le_of_ble_eq_true rfl) dX9_best_148) hH (fun H locs hH => ?_)
            refine lv_goto (tgt := 155) G.x G.b dX9_best_151 (by decide) ?_
            exact z_retI G hr hlk hH h dX9_best_155
        have n19 : ∀ (n : Nat) (M15 : zM) (x16 : Int32) (x17 : Int32) (x18 : Int32) (H : Heap) (locs : List Loc) (ls : Array Slot), zL4 (bX9_best_51 a1 a2 E141_11) n M15 x16 x17 x18 = some (r, M') → zH w s M15 H locs → lv_has ls 6 [(0, .ref (za w 0)), (1, .int a1), (2, .int a2), (3, .int x16), (4, .int x17), (5, .int x18)] → zGo p l e rX9_best s m args below meth c (zQ w (some (.int r)) M') (zA w) H locs (F0 m 51 ls []) := by
          intro n
          induction n with
          | zero => intro M15 x16 x17 x18 H locs ls h; exact (zL4_0 h).elim
          | succ n ih19 =>
            intro M15 x16 x17 x18 H locs ls h hH hl
            obtain ⟨rc19, hrc19, h⟩ := zL4_s h
            rw [← hrc19] at ih19
            unfold bX9_best_51 at h
            refine lv_iload G.x G.b dX9_best_51 (lv_at hl 5 rfl) ?_
            refine lv_aload_n G.x G.b dX9_best_53 rfl (lv_at hl 0 rfl) ?_
            refine z_get (v := .ref (za w 1)) (k := 0) G hH.1 (cC0 hw) vc9 inU9 0 (by decide) u190 rfl dX9_best_54 ?_
            refine z_get (v := .int (M15.1 1 2)) (k := 1) G hH.1 (cCt hw zT1) vc7 inU7 2 (by decide) u80 rfl dX9_best_57 ?_
            refine lv_icmp_ge (tgt := 141) G.x G.b dX9_best_60 (by decide) (fun c20 => ?_) (fun c20 => ?_)
            · have h := z_if c20 h
              exact kE141_11 M15 x16 H locs ls h hH (lv_sub hl [0, 3] rfl)
            · have h := z_ifn c20 h
              refine lv_aload_n G.x G.b dX9_best_63 rfl (lv_at hl 0 rfl) ?_
              refine z_get (v := .ref (za w 1)) (k := 0) G hH.1 (cC0 hw) vc9 inU9 0 (by decide) u190 rfl dX9_best_64 ?_
              refine z_get (v := .ref (za w 5)) (k := 1) G hH.1 (cCt hw zT1) vc7 inU7 7 (by decide) u93 rfl dX9_best_67 ?_
              refine lv_iload G.x G.b dX9_best_70 (lv_at hl 5 rfl) ?_
              obtain ⟨j21, ej21, h⟩ := z_bind h
              refine z_iald (k := 5) G hH.1 (cCt4 hw zT1) ej21 dX9_best_72 ?_
              refine lv_iconst (v := (-1 : Int32)) G.x G.b dX9_best_73 (by decide) ?_
              obtain ⟨J135_25, hJ135_25, h⟩ := z_j h
              have kJ135_25 : ∀ (M22 : zM) (x23 : Int32) (x24 : Int32) (H : Heap) (locs : List Loc) (ls : Array Slot), J135_25 M22 x23 x24 = some (r, M') → zH w s M22 H locs → lv_has ls 6 [(0, .ref (za w 0)), (1, .int a1), (2, .int a2), (3, .int x23), (4, .int x24), (5, .int x18)] → zGo p l e rX9_best s m args below meth c (zQ w (some (.int r)) M') (zA w) H locs (F0 m 135 ls []) := by
                intro M22 x23 x24 H locs ls h hH hl
                rw [hJ135_25] at h
                obtain ⟨x26, ex26, h⟩ := z_let h
                refine lv_iinc (v := x26) (lv' := [(5, .int x26), (0, .ref (za w 0)), (1, .int a1), (2, .int a2), (3, .int x23), (4, .int x24)]) G.x G.b dX9_best_135 hl (k := 5) rfl (by rw [ex26]; rfl) (Nat.le_of_ble_eq_true rfl) rfl (fun ls hl => ?_)
                refine lv_goto (tgt := 51) G.x G.b dX9_best_138 (by decide) ?_
                exact ih19 M22 x23 x24 x26 H locs ls h hH (lv_sub hl [1, 2, 3, 4, 5, 0] rfl)
              refine lv_icmp_ne (tgt := 135) G.x G.b dX9_best_74 (by decide) (fun c27 => ?_) (fun c27 => ?_)
              · have h := z_ifn c27 h
                exact kJ135_25 M15 x16 x17 H locs ls h hH (lv_sub hl [0, 1, 2, 3, 4, 5] rfl)
              · have h := z_if c27 h
                refine lv_aload_n G.x G.b dX9_best_77 rfl (lv_at hl 0 rfl) ?_
                refine z_get (v := .ref (za w 11)) (k := 0) G hH.1 (cC0 hw) vc9 inU9 1 (by decide) u191 rfl dX9_best_78 ?_
                refine lv_aload_n G.x G.b dX9_best_81 rfl (lv_at hl 0 rfl) ?_
                refine z_get (v := .ref (za w 1)) (k := 0) G hH.1 (cC0 hw) vc9 inU9 0 (by decide) u190 rfl dX9_best_82 ?_
                obtain ⟨M28, eM28, h⟩ := z_bind h
                refine z_aftV (z_runV (k := 11) (As := [.ref (za w 1)]) (rest := []) G hH hl.1 (kX7_become l hw zT11 zT1 eM28) (cCt hw zT11) vc7 arX7_become u484 u485 u486 u8 u487 rfl rfl rfl (Nat.le_of_ble_eq_true rfl) (Nat.le_of_ble_eq_true rfl) rfl (Nat.le_of_ble_eq_true rfl) dX9_best_85) hH (fun H locs hH => ?_)
                refine lv_aload_n G.x G.b dX9_best_88 rfl (lv_at hl 0 rfl) ?_
                refine z_get (v := .ref (za w 11)) (k := 0) G hH.1 (cC0 hw) vc9 inU9 1 (by decide) u191 rfl dX9_best_89 ?_
                refine lv_iload_n G.x G.b dX9_best_92 rfl (lv_at hl 1 rfl) ?_
                refine lv_iload G.x G.b dX9_best_93 (lv_at hl 5 rfl) ?_
                obtain ⟨M29, eM29, h⟩ := z_bind h
                refine z_aftV (z_runV (k := 11) (As := [.int a1, .int x18]) (rest := []) G hH hl.1 (kX7_putOn l hw zT11 eM29) (cCt hw zT11) vc7 arX7_putOn u437 u438 u439 u8 u440 rfl rfl rfl (Nat.le_of_ble_eq_true rfl) (Nat.le_of_ble_eq_true rfl) rfl (Nat.le_of_ble_eq_true rfl) dX9_best_95) hH (fun H locs hH => ?_)
                refine lv_aload_n G.x G.b dX9_best_98 rfl (lv_at hl 0 rfl) ?_
                refine z_get (v := .ref (za w 11)) (k := 0) G hH.1 (cC0 hw) vc9 inU9 1 (by decide) u191 rfl dX9_best_99 ?_
                refine lv_iload_n G.x G.b dX9_best_102 rfl (lv_at hl 1 rfl) ?_
                refine lv_iload_n G.x G.b dX9_best_103 rfl (lv_at hl 2 rfl) ?_
                obtain ⟨M30, eM30, h⟩ := z_bind h
                refine z_aftV (z_runV (k := 11) (As := [.int a1, .int a2]) (rest := []) G hH hl.1 (kX7_passNightsOfWearer l hw zT11 eM30) (cCt hw zT11) vc7 arX7_passNightsOfWearer u491 u492 u493 u8 u494 rfl rfl rfl (Nat.le_of_ble_eq_true rfl) (Nat.le_of_ble_eq_true rfl) rfl (Nat.le_of_ble_eq_true rfl) dX9_best_104) hH (fun H locs hH => ?_)
                refine lv_aload_n G.x G.b dX9_best_107 rfl (lv_at hl 0 rfl) ?_
                refine z_get (v := .ref (za w 11)) (k := 0) G hH.1 (cC0 hw) vc9 inU9 1 (by decide) u191 rfl dX9_best_108 ?_
                refine z_get (v := .ref (za w 16)) (k := 11) G hH.1 (cCt hw zT11) vc7 inU7 8 (by decide) u97 rfl dX9_best_111 ?_
                refine lv_iload_n G.x G.b dX9_best_114 rfl (lv_at hl 1 rfl) ?_
                obtain ⟨j31, ej31, h⟩ := z_bind h
                refine z_iald (k := 16) G hH.1 (cCt5 hw zT11) ej31 dX9_best_115 ?_
                refine lv_iload G.x G.b dX9_best_116 (lv_at hl 4 rfl) ?_
                refine lv_icmp_le (tgt := 135) G.x G.b dX9_best_118 (by decide) (fun c32 => ?_) (fun c32 => ?_)
                · have h := z_if c32 h
                  exact kJ135_25 M30 x16 x17 H locs ls h hH (lv_sub hl [0, 1, 2, 3, 4, 5] rfl)
                · have h := z_ifn c32 h
                  refine lv_iload G.x G.b dX9_best_121 (lv_at hl 5 rfl) ?_
                  refine lv_istore_n (lv' := [(3, .int x18), (0, .ref (za w 0)), (1, .int a1), (2, .int a2), (4, .int x17), (5, .int x18)]) G.x G.b dX9_best_123 rfl hl (Nat.le_of_ble_eq_true rfl) rfl (fun ls hl => ?_)
                  refine lv_aload_n G.x G.b dX9_best_124 rfl (lv_at hl 1 rfl) ?_
                  refine z_get (v := .ref (za w 11)) (k := 0) G hH.1 (cC0 hw) vc9 inU9 1 (by decide) u191 rfl dX9_best_125 ?_
                  refine z_get (v := .ref (za w 16)) (k := 11) G hH.1 (cCt hw zT11) vc7 inU7 8 (by decide) u97 rfl dX9_best_128 ?_
                  refine lv_iload_n G.x G.b dX9_best_131 rfl (lv_at hl 2 rfl) ?_
                  obtain ⟨j33, ej33, h⟩ := z_bind h
                  refine z_iald (k := 16) G hH.1 (cCt5 hw zT11) ej33 dX9_best_132 ?_
                  obtain ⟨x34, ex34, h⟩ := z_let h
                  refine z_nmI ex34 ?_
                  refine lv_istore (lv' := [(4, .int x34), (3, .int x18), (0, .ref (za w 0)), (1, .int a1), (2, .int a2), (5, .int x18)]) G.x G.b dX9_best_133 hl (Nat.le_of_ble_eq_true rfl) rfl (fun ls hl => ?_)
                  exact kJ135_25 M30 x18 x34 H locs ls h hH (lv_sub hl [2, 3, 4, 1, 0, 5] rfl)
        exact n19 zFuel M0 (-1 : Int32) (-1 : Int32) (0 : Int32) s.heap [] ls h hH (lv_sub hl [3, 4, 5, 2, 1, 0] rfl)
      · have h := z_ifn c8 h
        refine lv_aload_n G.x G.b dX9_best_37 rfl (lv_at hl 0 rfl) ?_
        refine lv_iconst (v := (4 : Int32)) G.x G.b dX9_best_38 (by decide) ?_
        obtain ⟨x35, M36, eM36, h⟩ := z_b2 h
        refine z_aftI (z_runV (k := 0) (As := [.int (4 : Int32)]) (rest := []) G hH hl.1 (kX9_finding l hw eM36) (cC0 hw) vc9 arX9_finding u222 u224 us0 u1 u225 rfl rfl rfl (Nat.le_of_ble_eq_true rfl) (Nat.le_of_ble_eq_true rfl) rfl (Nat.le_of_ble_eq_true rfl) dX9_best_39) hH (fun H locs hH => ?_)
        exact z_retI G hr hlk hH h dX9_best_42
    · have h := z_if c6 h
      refine lv_aload_n G.x G.b dX9_best_18 rfl (lv_at hl 0 rfl) ?_
      refine lv_iconst (v := (0 : Int32)) G.x G.b dX9_best_19 (by decide) ?_
      obtain ⟨x37, M38, eM38, h⟩ := z_b2 h
      refine z_aftI (z_runV (k := 0) (As := [.int (0 : Int32)]) (rest := []) G hH hl.1 (kX9_finding l hw eM38) (cC0 hw) vc9 arX9_finding u222 u224 us0 u1 u225 rfl rfl rfl (Nat.le_of_ble_eq_true rfl) (Nat.le_of_ble_eq_true rfl) rfl (Nat.le_of_ble_eq_true rfl) dX9_best_20) hH (fun H locs hH => ?_)
      exact z_retI G hr hlk hH h dX9_best_23
def bX9_round_32 (a1 : Int32) (a2 : Int32) (E104_9 : zM → Int32 → Option (Int32 × zM)) (rc14 : zM → Int32 → Int32 → Int32 → Option (Int32 × zM)) (M10 : zM) (x11 : Int32) (x12 : Int32) (x13 : Int32) : Option (Int32 × zM) :=
  if (6 : Int32) ≤ x13 then (E104_9 M10 x11) else ((fX7_become M10 11 1).bind fun M16 =>
  (zix a1 6).bind fun j17 =>
  (some (zst M16 17 j17 x13)).bind fun M18 =>
  (fX7_passNightsOfWearer M18 11 a1 a2).bind fun M19 =>
  (zix a1 6).bind fun j20 =>
  zj (fun (x21 : Int32) (x22 : Int32) =>
  (some (x13 + (1 : Int32))).bind fun x24 =>
  rc14 M19 x21 x22 x24) fun J98_23 =>
  if (M19.1 16 j20) ≤ x12 then (J98_23 x11 x12) else ((zix a1 6).bind fun j26 =>
  (some (M19.1 16 j26)).bind fun x27 =>
  J98_23 x13 x27))
def lX9_round_32 (a1 : Int32) (a2 : Int32) (E104_9 : zM → Int32 → Option (Int32 × zM)) : Nat → zM → Int32 → Int32 → Int32 → Option (Int32 × zM) := zL4 (bX9_round_32 a1 a2 E104_9)
def fX9_round (M0 : zM) (a1 : Int32) (a2 : Int32) : Option (Int32 × zM) :=
  (fX9_isWearer M0 a1).bind fun x1 =>
  if x1 = (0 : Int32) then (zb2 (fX9_finding M0 (0 : Int32)) fun x3 M4 =>
  some (x3, M4)) else ((fX9_isWithin a2 (1 : Int32) (60 : Int32)).bind fun x5 =>
  if x5 = (0 : Int32) then (zb2 (fX9_finding M0 (0 : Int32)) fun x28 M29 =>
  some (x28, M29)) else (zj (fun (M7 : zM) (x8 : Int32) =>
  some (x8, M7)) fun E104_9 =>
  lX9_round_32 a1 a2 E104_9 zFuel M0 (0 : Int32) (-1 : Int32) (0 : Int32)))
abbrev rX9_round : Room := { frames := 6, cells := 0, slots := 0, locals := 143 }
theorem arX9_round : zAr yX9_round RX9 2 := ⟨rfl, by decide, by decide, by decide +kernel⟩
set_option maxHeartbeats 4000000 in
theorem kX9_round (l : Launch) {w : zWd} (hw : zIsC w) {M0 M' : zM} {a1 : Int32} {a2 : Int32} {r : Int32} (h : fX9_round M0 a1 a2 = some (r, M')) : Met l yX9_round (Cond.code yX9_round cX9_round 6 (some .int) :: zU) rX9_round (zPre w M0 [.ref (za w 0), .int a1, .int a2]) (zQ w (some (.int r)) M') 0 0 (zA w) := by
  refine z_metN (own := RX9) (lv := [(0, .ref (za w 0)), (1, .int a1), (2, .int a2)]) hw.1 (by decide) (Nat.le_of_ble_eq_true rfl) rfl rfl ?_
  intro p e s m args below meth c G hr hlk hH ls hl
  unfold fX9_round at h
  refine lv_aload_n G.x G.b dX9_round_0 rfl (lv_at hl 0 rfl) ?_
  refine lv_iload_n G.x G.b dX9_round_1 rfl (lv_at hl 1 rfl) ?_
  obtain ⟨x1, ex1, h⟩ := z_bind h
  refine z_rdI (z_runV (k := 0) (As := [.int a1]) (rest := []) G hH hl.1 (kX9_isWearer l hw ex1) (cC0 hw) vc9 arX9_isWearer u424 u426 us2 u1 u427 rfl rfl rfl (Nat.le_of_ble_eq_true rfl) (Nat.le_of_ble_eq_true rfl) rfl (Nat.le_of_ble_eq_true rfl) dX9_round_2) ?_
  refine lv_if_eq (tgt := 18) G.x G.b dX9_round_5 (by decide) (fun c2 => ?_) (fun c2 => ?_)
  · have h := z_if c2 h
    refine lv_aload_n G.x G.b dX9_round_18 rfl (lv_at hl 0 rfl) ?_
    refine lv_iconst (v := (0 : Int32)) G.x G.b dX9_round_19 (by decide) ?_
    obtain ⟨x3, M4, eM4, h⟩ := z_b2 h
    refine z_aftI (z_runV (k := 0) (As := [.int (0 : Int32)]) (rest := []) G hH hl.1 (kX9_finding l hw eM4) (cC0 hw) vc9 arX9_finding u222 u224 us0 u1 u225 rfl rfl rfl (Nat.le_of_ble_eq_true rfl) (Nat.le_of_ble_eq_true rfl) rfl (Nat.le_of_ble_eq_true rfl) dX9_round_20) hH (fun H locs hH => ?_)
    exact z_retI G hr hlk hH h dX9_round_23
  · have h := z_ifn c2 h
    refine lv_iload_n G.x G.b dX9_round_8 rfl (lv_at hl 2 rfl) ?_
    refine lv_iconst (v := (1 : Int32)) G.x G.b dX9_round_9 (by decide) ?_
    refine lv_bipush (v := (60 : Int32)) G.x G.b dX9_round_10 (by decide) ?_
    obtain ⟨x5, ex5, h⟩ := z_bind h
    refine z_rdI (z_runS (As := [.int a2, .int (1 : Int32), .int (60 : Int32)]) (rest := []) G hH hl.1 (kX9_isWithin l hw.1 ex5) arX9_isWithin u219 u220 u1 u221 rfl rfl rfl (Nat.le_of_ble_eq_true rfl) (Nat.le_of_ble_eq_true rfl) rfl (Nat.le_of_ble_eq_true rfl) dX9_round_12) ?_
    refine lv_if_ne (tgt := 24) G.x G.b dX9_round_15 (by decide) (fun c6 => ?_) (fun c6 => ?_)
    · have h := z_ifn c6 h
      refine lv_iconst (v := (0 : Int32)) G.x G.b dX9_round_24 (by decide) ?_
      refine lv_istore_n (lv' := [(3, .int (0 : Int32)), (0, .ref (za w 0)), (1, .int a1), (2, .int a2)]) G.x G.b dX9_round_25 rfl hl (Nat.le_of_ble_eq_true rfl) rfl (fun ls hl => ?_)
      refine lv_iconst (v := (-1 : Int32)) G.x G.b dX9_round_26 (by decide) ?_
      refine lv_istore (lv' := [(4, .int (-1 : Int32)), (3, .int (0 : Int32)), (0, .ref (za w 0)), (1, .int a1), (2, .int a2)]) G.x G.b dX9_round_27 hl (Nat.le_of_ble_eq_true rfl) rfl (fun ls hl => ?_)
      refine lv_iconst (v := (0 : Int32)) G.x G.b dX9_round_29 (by decide) ?_
      refine lv_istore (lv' := [(5, .int (0 : Int32)), (4, .int (-1 : Int32)), (3, .int (0 : Int32)), (0, .ref (za w 0)), (1, .int a1), (2, .int a2)]) G.x G.b dX9_round_30 hl (Nat.le_of_ble_eq_true rfl) rfl (fun ls hl => ?_)
      obtain ⟨E104_9, hE104_9, h⟩ := z_j h
      have kE104_9 : ∀ (M7 : zM) (x8 : Int32) (H : Heap) (locs : List Loc) (ls : Array Slot), E104_9 M7 x8 = some (r, M') → zH w s M7 H locs → lv_has ls 6 [(3, .int x8)] → zGo p l e rX9_round s m args below meth c (zQ w (some (.int r)) M') (zA w) H locs (F0 m 104 ls []) := by
        intro M7 x8 H locs ls h hH hl
        rw [hE104_9] at h
        refine lv_iload_n G.x G.b dX9_round_104 rfl (lv_at hl 0 rfl) ?_
        exact z_retI G hr hlk hH h dX9_round_105
      have n14 : ∀ (n : Nat) (M10 : zM) (x11 : Int32) (x12 : Int32) (x13 : Int32) (H : Heap) (locs : List Loc) (ls : Array Slot), zL4 (bX9_round_32 a1 a2 E104_9) n M10 x11 x12 x13 = some (r, M') → zH w s M10 H locs → lv_has ls 6 [(0, .ref (za w 0)), (1, .int a1), (2, .int a2), (3, .int x11), (4, .int x12), (5, .int x13)] → zGo p l e rX9_round s m args below meth c (zQ w (some (.int r)) M') (zA w) H locs (F0 m 32 ls []) := by
        intro n
        induction n with
        | zero => intro M10 x11 x12 x13 H locs ls h; exact (zL4_0 h).elim
        | succ n ih14 =>
          intro M10 x11 x12 x13 H locs ls h hH hl
          obtain ⟨rc14, hrc14, h⟩ := zL4_s h
          rw [← hrc14] at ih14
          unfold bX9_round_32 at h
          refine lv_iload G.x G.b dX9_round_32 (lv_at hl 5 rfl) ?_
          refine lv_bipush (v := (6 : Int32)) G.x G.b dX9_round_34 (by decide) ?_
          refine lv_icmp_ge (tgt := 104) G.x G.b dX9_round_36 (by decide) (fun c15 => ?_) (fun c15 => ?_)
          · have h := z_if c15 h
            exact kE104_9 M10 x11 H locs ls h hH (lv_sub hl [3] rfl)
          · have h := z_ifn c15 h
            refine lv_aload_n G.x G.b dX9_round_39 rfl (lv_at hl 0 rfl) ?_
            refine z_get (v := .ref (za w 11)) (k := 0) G hH.1 (cC0 hw) vc9 inU9 1 (by decide) u191 rfl dX9_round_40 ?_
            refine lv_aload_n G.x G.b dX9_round_43 rfl (lv_at hl 0 rfl) ?_
            refine z_get (v := .ref (za w 1)) (k := 0) G hH.1 (cC0 hw) vc9 inU9 0 (by decide) u190 rfl dX9_round_44 ?_
            obtain ⟨M16, eM16, h⟩ := z_bind h
            refine z_aftV (z_runV (k := 11) (As := [.ref (za w 1)]) (rest := []) G hH hl.1 (kX7_become l hw zT11 zT1 eM16) (cCt hw zT11) vc7 arX7_become u484 u485 u486 u8 u487 rfl rfl rfl (Nat.le_of_ble_eq_true rfl) (Nat.le_of_ble_eq_true rfl) rfl (Nat.le_of_ble_eq_true rfl) dX9_round_47) hH (fun H locs hH => ?_)
            refine lv_aload_n G.x G.b dX9_round_50 rfl (lv_at hl 0 rfl) ?_
            refine z_get (v := .ref (za w 11)) (k := 0) G hH.1 (cC0 hw) vc9 inU9 1 (by decide) u191 rfl dX9_round_51 ?_
            refine z_get (v := .ref (za w 17)) (k := 11) G hH.1 (cCt hw zT11) vc7 inU7 9 (by decide) u100 rfl dX9_round_54 ?_
            refine lv_iload_n G.x G.b dX9_round_57 rfl (lv_at hl 1 rfl) ?_
            refine lv_iload G.x G.b dX9_round_58 (lv_at hl 5 rfl) ?_
            obtain ⟨j17, ej17, h⟩ := z_bind h
            obtain ⟨M18, eM18, h⟩ := z_let h
            refine z_iastN (k := 17) G hH (cCt6 hw zT11) ej17 dX9_round_60 eM18 (fun H locs hH => ?_)
            refine lv_aload_n G.x G.b dX9_round_61 rfl (lv_at hl 0 rfl) ?_
            refine z_get (v := .ref (za w 11)) (k := 0) G hH.1 (cC0 hw) vc9 inU9 1 (by decide) u191 rfl dX9_round_62 ?_
            refine lv_iload_n G.x G.b dX9_round_65 rfl (lv_at hl 1 rfl) ?_
            refine lv_iload_n G.x G.b dX9_round_66 rfl (lv_at hl 2 rfl) ?_
            obtain ⟨M19, eM19, h⟩ := z_bind h
            refine z_aftV (z_runV (k := 11) (As := [.int a1, .int a2]) (rest := []) G hH hl.1 (kX7_passNightsOfWearer l hw zT11 eM19) (cCt hw zT11) vc7 arX7_passNightsOfWearer u491 u492 u493 u8 u494 rfl rfl rfl (Nat.le_of_ble_eq_true rfl) (Nat.le_of_ble_eq_true rfl) rfl (Nat.le_of_ble_eq_true rfl) dX9_round_67) hH (fun H locs hH => ?_)
            refine lv_aload_n G.x G.b dX9_round_70 rfl (lv_at hl 0 rfl) ?_
            refine z_get (v := .ref (za w 11)) (k := 0) G hH.1 (cC0 hw) vc9 inU9 1 (by decide) u191 rfl dX9_round_71 ?_
            refine z_get (v := .ref (za w 16)) (k := 11) G hH.1 (cCt hw zT11) vc7 inU7 8 (by decide) u97 rfl dX9_round_74 ?_
            refine lv_iload_n G.x G.b dX9_round_77 rfl (lv_at hl 1 rfl) ?_
            obtain ⟨j20, ej20, h⟩ := z_bind h
            refine z_iald (k := 16) G hH.1 (cCt5 hw zT11) ej20 dX9_round_78 ?_
            refine lv_iload G.x G.b dX9_round_79 (lv_at hl 4 rfl) ?_
            obtain ⟨J98_23, hJ98_23, h⟩ := z_j h
            have kJ98_23 : ∀ (x21 : Int32) (x22 : Int32) (ls : Array Slot), J98_23 x21 x22 = some (r, M') → lv_has ls 6 [(0, .ref (za w 0)), (1, .int a1), (2, .int a2), (3, .int x21), (4, .int x22), (5, .int x13)] → zGo p l e rX9_round s m args below meth c (zQ w (some (.int r)) M') (zA w) H locs (F0 m 98 ls []) := by
              intro x21 x22 ls h hl
              rw [hJ98_23] at h
              obtain ⟨x24, ex24, h⟩ := z_let h
              refine lv_iinc (v := x24) (lv' := [(5, .int x24), (0, .ref (za w 0)), (1, .int a1), (2, .int a2), (3, .int x21), (4, .int x22)]) G.x G.b dX9_round_98 hl (k := 5) rfl (by rw [ex24]; rfl) (Nat.le_of_ble_eq_true rfl) rfl (fun ls hl => ?_)
              refine lv_goto (tgt := 32) G.x G.b dX9_round_101 (by decide) ?_
              exact ih14 M19 x21 x22 x24 H locs ls h hH (lv_sub hl [1, 2, 3, 4, 5, 0] rfl)
            refine lv_icmp_le (tgt := 98) G.x G.b dX9_round_81 (by decide) (fun c25 => ?_) (fun c25 => ?_)
            · have h := z_if c25 h
              exact kJ98_23 x11 x12 ls h (lv_sub hl [0, 1, 2, 3, 4, 5] rfl)
            · have h := z_ifn c25 h
              refine lv_iload G.x G.b dX9_round_84 (lv_at hl 5 rfl) ?_
              refine lv_istore_n (lv' := [(3, .int x13), (0, .ref (za w 0)), (1, .int a1), (2, .int a2), (4, .int x12), (5, .int x13)]) G.x G.b dX9_round_86 rfl hl (Nat.le_of_ble_eq_true rfl) rfl (fun ls hl => ?_)
              refine lv_aload_n G.x G.b dX9_round_87 rfl (lv_at hl 1 rfl) ?_
              refine z_get (v := .ref (za w 11)) (k := 0) G hH.1 (cC0 hw) vc9 inU9 1 (by decide) u191 rfl dX9_round_88 ?_
              refine z_get (v := .ref (za w 16)) (k := 11) G hH.1 (cCt hw zT11) vc7 inU7 8 (by decide) u97 rfl dX9_round_91 ?_
              refine lv_iload_n G.x G.b dX9_round_94 rfl (lv_at hl 2 rfl) ?_
              obtain ⟨j26, ej26, h⟩ := z_bind h
              refine z_iald (k := 16) G hH.1 (cCt5 hw zT11) ej26 dX9_round_95 ?_
              obtain ⟨x27, ex27, h⟩ := z_let h
              refine z_nmI ex27 ?_
              refine lv_istore (lv' := [(4, .int x27), (3, .int x13), (0, .ref (za w 0)), (1, .int a1), (2, .int a2), (5, .int x13)]) G.x G.b dX9_round_96 hl (Nat.le_of_ble_eq_true rfl) rfl (fun ls hl => ?_)
              exact kJ98_23 x13 x27 ls h (lv_sub hl [2, 3, 4, 1, 0, 5] rfl)
      exact n14 zFuel M0 (0 : Int32) (-1 : Int32) (0 : Int32) s.heap [] ls h hH (lv_sub hl [3, 4, 5, 2, 1, 0] rfl)
    · have h := z_if c6 h
      refine lv_aload_n G.x G.b dX9_round_18 rfl (lv_at hl 0 rfl) ?_
      refine lv_iconst (v := (0 : Int32)) G.x G.b dX9_round_19 (by decide) ?_
      obtain ⟨x28, M29, eM29, h⟩ := z_b2 h
      refine z_aftI (z_runV (k := 0) (As := [.int (0 : Int32)]) (rest := []) G hH hl.1 (kX9_finding l hw eM29) (cC0 hw) vc9 arX9_finding u222 u224 us0 u1 u225 rfl rfl rfl (Nat.le_of_ble_eq_true rfl) (Nat.le_of_ble_eq_true rfl) rfl (Nat.le_of_ble_eq_true rfl) dX9_round_20) hH (fun H locs hH => ?_)
      exact z_retI G hr hlk hH h dX9_round_23
def bX9_kind_32 (a1 : Int32) (a2 : Int32) (E98_9 : zM → Int32 → Option (Int32 × zM)) (rc14 : zM → Int32 → Int32 → Int32 → Option (Int32 × zM)) (M10 : zM) (x11 : Int32) (x12 : Int32) (x13 : Int32) : Option (Int32 × zM) :=
  if (6 : Int32) ≤ x13 then (E98_9 M10 x11) else ((fX7_become M10 11 1).bind fun M16 =>
  (zix a1 8).bind fun j17 =>
  (some (zst M16 12 j17 x13)).bind fun M18 =>
  (fX7_passNights M18 11 a2).bind fun M19 =>
  (fX7_allPurses M19 11).bind fun x20 =>
  zj (fun (x21 : Int32) (x22 : Int32) =>
  (some (x13 + (1 : Int32))).bind fun x24 =>
  rc14 M19 x21 x22 x24) fun J92_23 =>
  if x20 ≤ x12 then (J92_23 x11 x12) else (J92_23 x13 x20))
def lX9_kind_32 (a1 : Int32) (a2 : Int32) (E98_9 : zM → Int32 → Option (Int32 × zM)) : Nat → zM → Int32 → Int32 → Int32 → Option (Int32 × zM) := zL4 (bX9_kind_32 a1 a2 E98_9)
def fX9_kind (M0 : zM) (a1 : Int32) (a2 : Int32) : Option (Int32 × zM) :=
  (fX9_isBeard M0 a1).bind fun x1 =>
  if x1 = (0 : Int32) then (zb2 (fX9_finding M0 (0 : Int32)) fun x3 M4 =>
  some (x3, M4)) else ((fX9_isWithin a2 (1 : Int32) (60 : Int32)).bind fun x5 =>
  if x5 = (0 : Int32) then (zb2 (fX9_finding M0 (0 : Int32)) fun x26 M27 =>
  some (x26, M27)) else (zj (fun (M7 : zM) (x8 : Int32) =>
  some (x8, M7)) fun E98_9 =>
  lX9_kind_32 a1 a2 E98_9 zFuel M0 (0 : Int32) (-1 : Int32) (0 : Int32)))
abbrev rX9_kind : Room := { frames := 6, cells := 0, slots := 0, locals := 142 }
theorem arX9_kind : zAr yX9_kind RX9 2 := ⟨rfl, by decide, by decide, by decide +kernel⟩
set_option maxHeartbeats 4000000 in
theorem kX9_kind (l : Launch) {w : zWd} (hw : zIsC w) {M0 M' : zM} {a1 : Int32} {a2 : Int32} {r : Int32} (h : fX9_kind M0 a1 a2 = some (r, M')) : Met l yX9_kind (Cond.code yX9_kind cX9_kind 7 (some .int) :: zU) rX9_kind (zPre w M0 [.ref (za w 0), .int a1, .int a2]) (zQ w (some (.int r)) M') 0 0 (zA w) := by
  refine z_metN (own := RX9) (lv := [(0, .ref (za w 0)), (1, .int a1), (2, .int a2)]) hw.1 (by decide) (Nat.le_of_ble_eq_true rfl) rfl rfl ?_
  intro p e s m args below meth c G hr hlk hH ls hl
  unfold fX9_kind at h
  refine lv_aload_n G.x G.b dX9_kind_0 rfl (lv_at hl 0 rfl) ?_
  refine lv_iload_n G.x G.b dX9_kind_1 rfl (lv_at hl 1 rfl) ?_
  obtain ⟨x1, ex1, h⟩ := z_bind h
  refine z_rdI (z_runV (k := 0) (As := [.int a1]) (rest := []) G hH hl.1 (kX9_isBeard l hw ex1) (cC0 hw) vc9 arX9_isBeard u231 u233 us1 u1 u234 rfl rfl rfl (Nat.le_of_ble_eq_true rfl) (Nat.le_of_ble_eq_true rfl) rfl (Nat.le_of_ble_eq_true rfl) dX9_kind_2) ?_
  refine lv_if_eq (tgt := 18) G.x G.b dX9_kind_5 (by decide) (fun c2 => ?_) (fun c2 => ?_)
  · have h := z_if c2 h
    refine lv_aload_n G.x G.b dX9_kind_18 rfl (lv_at hl 0 rfl) ?_
    refine lv_iconst (v := (0 : Int32)) G.x G.b dX9_kind_19 (by decide) ?_
    obtain ⟨x3, M4, eM4, h⟩ := z_b2 h
    refine z_aftI (z_runV (k := 0) (As := [.int (0 : Int32)]) (rest := []) G hH hl.1 (kX9_finding l hw eM4) (cC0 hw) vc9 arX9_finding u222 u224 us0 u1 u225 rfl rfl rfl (Nat.le_of_ble_eq_true rfl) (Nat.le_of_ble_eq_true rfl) rfl (Nat.le_of_ble_eq_true rfl) dX9_kind_20) hH (fun H locs hH => ?_)
    exact z_retI G hr hlk hH h dX9_kind_23
  · have h := z_ifn c2 h
    refine lv_iload_n G.x G.b dX9_kind_8 rfl (lv_at hl 2 rfl) ?_
    refine lv_iconst (v := (1 : Int32)) G.x G.b dX9_kind_9 (by decide) ?_
    refine lv_bipush (v := (60 : Int32)) G.x G.b dX9_kind_10 (by decide) ?_
    obtain ⟨x5, ex5, h⟩ := z_bind h
    refine z_rdI (z_runS (As := [.int a2, .int (1 : Int32), .int (60 : Int32)]) (rest := []) G hH hl.1 (kX9_isWithin l hw.1 ex5) arX9_isWithin u219 u220 u1 u221 rfl rfl rfl (Nat.le_of_ble_eq_true rfl) (Nat.le_of_ble_eq_true rfl) rfl (Nat.le_of_ble_eq_true rfl) dX9_kind_12) ?_
    refine lv_if_ne (tgt := 24) G.x G.b dX9_kind_15 (by decide) (fun c6 => ?_) (fun c6 => ?_)
    · have h := z_ifn c6 h
      refine lv_iconst (v := (0 : Int32)) G.x G.b dX9_kind_24 (by decide) ?_
      refine lv_istore_n (lv' := [(3, .int (0 : Int32)), (0, .ref (za w 0)), (1, .int a1), (2, .int a2)]) G.x G.b dX9_kind_25 rfl hl (Nat.le_of_ble_eq_true rfl) rfl (fun ls hl => ?_)
      refine lv_iconst (v := (-1 : Int32)) G.x G.b dX9_kind_26 (by decide) ?_
      refine lv_istore (lv' := [(4, .int (-1 : Int32)), (3, .int (0 : Int32)), (0, .ref (za w 0)), (1, .int a1), (2, .int a2)]) G.x G.b dX9_kind_27 hl (Nat.le_of_ble_eq_true rfl) rfl (fun ls hl => ?_)
      refine lv_iconst (v := (0 : Int32)) G.x G.b dX9_kind_29 (by decide) ?_
      refine lv_istore (lv' := [(5, .int (0 : Int32)), (4, .int (-1 : Int32)), (3, .int (0 : Int32)), (0, .ref (za w 0)), (1, .int a1), (2, .int a2)]) G.x G.b dX9_kind_30 hl (Nat.le_of_ble_eq_true rfl) rfl (fun ls hl => ?_)
      obtain ⟨E98_9, hE98_9, h⟩ := z_j h
      have kE98_9 : ∀ (M7 : zM) (x8 : Int32) (H : Heap) (locs : List Loc) (ls : Array Slot), E98_9 M7 x8 = some (r, M') → zH w s M7 H locs → lv_has ls 7 [(3, .int x8)] → zGo p l e rX9_kind s m args below meth c (zQ w (some (.int r)) M') (zA w) H locs (F0 m 98 ls []) := by
        intro M7 x8 H locs ls h hH hl
        rw [hE98_9] at h
        refine lv_iload_n G.x G.b dX9_kind_98 rfl (lv_at hl 0 rfl) ?_
        exact z_retI G hr hlk hH h dX9_kind_99
      have n14 : ∀ (n : Nat) (M10 : zM) (x11 : Int32) (x12 : Int32) (x13 : Int32) (H : Heap) (locs : List Loc) (ls : Array Slot), zL4 (bX9_kind_32 a1 a2 E98_9) n M10 x11 x12 x13 = some (r, M') → zH w s M10 H locs → lv_has ls 7 [(0, .ref (za w 0)), (1, .int a1), (2, .int a2), (3, .int x11), (4, .int x12), (5, .int x13)] → zGo p l e rX9_kind s m args below meth c (zQ w (some (.int r)) M') (zA w) H locs (F0 m 32 ls []) := by
        intro n
        induction n with
        | zero => intro M10 x11 x12 x13 H locs ls h; exact (zL4_0 h).elim
        | succ n ih14 =>
          intro M10 x11 x12 x13 H locs ls h hH hl
          obtain ⟨rc14, hrc14, h⟩ := zL4_s h
          rw [← hrc14] at ih14
          unfold bX9_kind_32 at h
          refine lv_iload G.x G.b dX9_kind_32 (lv_at hl 5 rfl) ?_
          refine lv_bipush (v := (6 : Int32)) G.x G.b dX9_kind_34 (by decide) ?_
          refine lv_icmp_ge (tgt := 98) G.x G.b dX9_kind_36 (by decide) (fun c15 => ?_) (fun c15 => ?_)
          · have h := z_if c15 h
            exact kE98_9 M10 x11 H locs ls h hH (lv_sub hl [3] rfl)
          · have h := z_ifn c15 h
            refine lv_aload_n G.x G.b dX9_kind_39 rfl (lv_at hl 0 rfl) ?_
            refine z_get (v := .ref (za w 11)) (k := 0) G hH.1 (cC0 hw) vc9 inU9 1 (by decide) u191 rfl dX9_kind_40 ?_
            refine lv_aload_n G.x G.b dX9_kind_43 rfl (lv_at hl 0 rfl) ?_
            refine z_get (v := .ref (za w 1)) (k := 0) G hH.1 (cC0 hw) vc9 inU9 0 (by decide) u190 rfl dX9_kind_44 ?_
            obtain ⟨M16, eM16, h⟩ := z_bind h
            refine z_aftV (z_runV (k := 11) (As := [.ref (za w 1)]) (rest := []) G hH hl.1 (kX7_become l hw zT11 zT1 eM16) (cCt hw zT11) vc7 arX7_become u484 u485 u486 u8 u487 rfl rfl rfl (Nat.le_of_ble_eq_true rfl) (Nat.le_of_ble_eq_true rfl) rfl (Nat.le_of_ble_eq_true rfl) dX9_kind_47) hH (fun H locs hH => ?_)
            refine lv_aload_n G.x G.b dX9_kind_50 rfl (lv_at hl 0 rfl) ?_
            refine z_get (v := .ref (za w 11)) (k := 0) G hH.1 (cC0 hw) vc9 inU9 1 (by decide) u191 rfl dX9_kind_51 ?_
            refine z_get (v := .ref (za w 12)) (k := 11) G hH.1 (cCt hw zT11) vc7 inU7 4 (by decide) u85 rfl dX9_kind_54 ?_
            refine lv_iload_n G.x G.b dX9_kind_57 rfl (lv_at hl 1 rfl) ?_
            refine lv_iload G.x G.b dX9_kind_58 (lv_at hl 5 rfl) ?_
            obtain ⟨j17, ej17, h⟩ := z_bind h
            obtain ⟨M18, eM18, h⟩ := z_let h
            refine z_iastN (k := 12) G hH (cCt1 hw zT11) ej17 dX9_kind_60 eM18 (fun H locs hH => ?_)
            refine lv_aload_n G.x G.b dX9_kind_61 rfl (lv_at hl 0 rfl) ?_
            refine z_get (v := .ref (za w 11)) (k := 0) G hH.1 (cC0 hw) vc9 inU9 1 (by decide) u191 rfl dX9_kind_62 ?_
            refine lv_iload_n G.x G.b dX9_kind_65 rfl (lv_at hl 2 rfl) ?_
            obtain ⟨M19, eM19, h⟩ := z_bind h
            refine z_aftV (z_runV (k := 11) (As := [.int a2]) (rest := []) G hH hl.1 (kX7_passNights l hw zT11 eM19) (cCt hw zT11) vc7 arX7_passNights u454 u455 u456 u8 u457 rfl rfl rfl (Nat.le_of_ble_eq_true rfl) (Nat.le_of_ble_eq_true rfl) rfl (Nat.le_of_ble_eq_true rfl) dX9_kind_66) hH (fun H locs hH => ?_)
            refine lv_aload_n G.x G.b dX9_kind_69 rfl (lv_at hl 0 rfl) ?_
            refine z_get (v := .ref (za w 11)) (k := 0) G hH.1 (cC0 hw) vc9 inU9 1 (by decide) u191 rfl dX9_kind_70 ?_
            obtain ⟨x20, ex20, h⟩ := z_bind h
            refine z_rdI (z_runV (k := 11) (As := []) (rest := []) G hH hl.1 (kX7_allPurses l hw zT11 ex20) (cCt hw zT11) vc7 arX7_allPurses u263 u264 u265 u8 u266 rfl rfl rfl (Nat.le_of_ble_eq_true rfl) (Nat.le_of_ble_eq_true rfl) rfl (Nat.le_of_ble_eq_true rfl) dX9_kind_73) ?_
            refine lv_istore (lv' := [(6, .int x20), (0, .ref (za w 0)), (1, .int a1), (2, .int a2), (3, .int x11), (4, .int x12), (5, .int x13)]) G.x G.b dX9_kind_76 hl (Nat.le_of_ble_eq_true rfl) rfl (fun ls hl => ?_)
            refine lv_iload G.x G.b dX9_kind_78 (lv_at hl 0 rfl) ?_
            refine lv_iload G.x G.b dX9_kind_80 (lv_at hl 5 rfl) ?_
            obtain ⟨J92_23, hJ92_23, h⟩ := z_j h
            have kJ92_23 : ∀ (x21 : Int32) (x22 : Int32) (ls : Array Slot), J92_23 x21 x22 = some (r, M') → lv_has ls 7 [(0, .ref (za w 0)), (1, .int a1), (2, .int a2), (3, .int x21), (4, .int x22), (5, .int x13)] → zGo p l e rX9_kind s m args below meth c (zQ w (some (.int r)) M') (zA w) H locs (F0 m 92 ls []) := by
              intro x21 x22 ls h hl
              rw [hJ92_23] at h
              obtain ⟨x24, ex24, h⟩ := z_let h
              refine lv_iinc (v := x24) (lv' := [(5, .int x24), (0, .ref (za w 0)), (1, .int a1), (2, .int a2), (3, .int x21), (4, .int x22)]) G.x G.b dX9_kind_92 hl (k := 5) rfl (by rw [ex24]; rfl) (Nat.le_of_ble_eq_true rfl) rfl (fun ls hl => ?_)
              refine lv_goto (tgt := 32) G.x G.b dX9_kind_95 (by decide) ?_
              exact ih14 M19 x21 x22 x24 H locs ls h hH (lv_sub hl [1, 2, 3, 4, 5, 0] rfl)
            refine lv_icmp_le (tgt := 92) G.x G.b dX9_kind_82 (by decide) (fun c25 => ?_) (fun c25 => ?_)
            · have h := z_if c25 h
              exact kJ92_23 x11 x12 ls h (lv_sub hl [1, 2, 3, 4, 5, 6] rfl)
            · have h := z_ifn c25 h
              refine lv_iload G.x G.b dX9_kind_85 (lv_at hl 6 rfl) ?_
              refine lv_istore_n (lv' := [(3, .int x13), (6, .int x20), (0, .ref (za w 0)), (1, .int a1), (2, .int a2), (4, .int x12), (5, .int x13)]) G.x G.b dX9_kind_87 rfl hl (Nat.le_of_ble_eq_true rfl) rfl (fun ls hl => ?_)
              refine lv_iload G.x G.b dX9_kind_88 (lv_at hl 1 rfl) ?_
              refine lv_istore (lv' := [(4, .int x20), (3, .int x13), (6, .int x20), (0, .ref (za w 0)), (1, .int a1), (2, .int a2), (5, .int x13)]) G.x G.b dX9_kind_90 hl (Nat.le_of_ble_eq_true rfl) rfl (fun ls hl => ?_)
              exact kJ92_23 x13 x20 ls h (lv_sub hl [3, 4, 5, 1, 0, 6] rfl)
      exact n14 zFuel M0 (0 : Int32) (-1 : Int32) (0 : Int32) s.heap [] ls h hH (lv_sub hl [3, 4, 5, 2, 1, 0] rfl)
    · have h := z_if c6 h
      refine lv_aload_n G.x G.b dX9_kind_18 rfl (lv_at hl 0 rfl) ?_
      refine lv_iconst (v := (0 : Int32)) G.x G.b dX9_kind_19 (by decide) ?_
      obtain ⟨x26, M27, eM27, h⟩ := z_b2 h
      refine z_aftI (z_runV (k := 0) (As := [.int (0 : Int32)]) (rest := []) G hH hl.1 (kX9_finding l hw eM27) (cC0 hw) vc9 arX9_finding u222 u224 us0 u1 u225 rfl rfl rfl (Nat.le_of_ble_eq_true rfl) (Nat.le_of_ble_eq_true rfl) rfl (Nat.le_of_ble_eq_true rfl) dX9_kind_20) hH (fun H locs hH => ?_)
      exact z_retI G hr hlk hH h dX9_kind_23
def bX9_enough_45 (a1 : Int32) (a2 : Int32) (E103_10 : zM → Option (Int32 × zM)) (rc15 : zM → Int32 → Option (Int32 × zM)) (M13 : zM) (x14 : Int32) : Option (Int32 × zM) :=
  if (2000 : Int32) < x14 then (E103_10 M13) else ((fX7_become M13 11 1).bind fun M17 =>
  (zix a1 6).bind fun j18 =>
  (some (zst M17 16 j18 x14)).bind fun M19 =>
  (fX7_passNightsOfWearer M19 11 a1 a2).bind fun M20 =>
  (zix a1 6).bind fun j21 =>
  if (M20.1 18 j21) = (-1 : Int32) then ((some (x14 + (10 : Int32))).bind fun x23 =>
  rc15 M20 x23) else (some (x14, M20)))
def lX9_enough_45 (a1 : Int32) (a2 : Int32) (E103_10 : zM → Option (Int32 × zM)) : Nat → zM → Int32 → Option (Int32 × zM) := zL2 (bX9_enough_45 a1 a2 E103_10)
def fX9_enough (M0 : zM) (a1 : Int32) (a2 : Int32) : Option (Int32 × zM) :=
  (fX9_isWearer M0 a1).bind fun x1 =>
  if x1 = (0 : Int32) then (zb2 (fX9_finding M0 (0 : Int32)) fun x3 M4 =>
  some (x3, M4)) else ((fX9_isWithin a2 (1 : Int32) (60 : Int32)).bind fun x5 =>
  if x5 = (0 : Int32) then (zb2 (fX9_finding M0 (0 : Int32)) fun x26 M27 =>
  some (x26, M27)) else ((zix a1 6).bind fun j7 =>
  if (M0.1 8 j7) = (-1 : Int32) then (zb2 (fX9_finding M0 (4 : Int32)) fun x24 M25 =>
  some (x24, M25)) else (zj (fun (M9 : zM) =>
  zb2 (fX9_finding M9 (3 : Int32)) fun x11 M12 =>
  some (x11, M12)) fun E103_10 =>
  lX9_enough_45 a1 a2 E103_10 zFuel M0 (0 : Int32))))
abbrev rX9_enough : Room := { frames := 6, cells := 0, slots := 0, locals := 143 }
theorem arX9_enough : zAr yX9_enough RX9 2 := ⟨rfl, by decide, by decide, by decide +kernel⟩
set_option maxHeartbeats 4000000 in
theorem kX9_enough (l : Launch) {w : zWd} (hw : zIsC w) {M0 M' : zM} {a1 : Int32} {a2 : Int32} {r : Int32} (h : fX9_enough M0 a1 a2 = some (r, M')) : Met l yX9_enough (Cond.code yX9_enough cX9_enough 4 (some .int) :: zU) rX9_enough (zPre w M0 [.ref (za w 0), .int a1, .int a2]) (zQ w (some (.int r)) M') 0 0 (zA w) := by
  refine z_metN (own := RX9) (lv := [(0, .ref (za w 0)), (1, .int a1), (2, .int a2)]) hw.1 (by decide) (Nat.le_of_ble_eq_true rfl) rfl rfl ?_
  intro p e s m args below meth c G hr hlk hH ls hl
  unfold fX9_enough at h
  refine lv_aload_n G.x G.b dX9_enough_0 rfl (lv_at hl 0 rfl) ?_
  refine lv_iload_n G.x G.b dX9_enough_1 rfl (lv_at hl 1 rfl) ?_
  obtain ⟨x1, ex1, h⟩ := z_bind h
  refine z_rdI (z_runV (k := 0) (As := [.int a1]) (rest := []) G hH hl.1 (kX9_isWearer l hw ex1) (cC0 hw) vc9 arX9_isWearer u424 u426 us2 u1 u427 rfl rfl rfl (Nat.le_of_ble_eq_true rfl) (Nat.le_of_ble_eq_true rfl) rfl (Nat.le_of_ble_eq_true rfl) dX9_enough_2) ?_
  refine lv_if_eq (tgt := 18) G.x G.b dX9_enough_5 (by decide) (fun c2 => ?_) (fun c2 => ?_)
  · have h := z_if c2 h
    refine lv_aload_n G.x G.b dX9_enough_18 rfl (lv_at hl 0 rfl) ?_
    refine lv_iconst (v := (0 : Int32)) G.x G.b dX9_enough_19 (by decide) ?_
    obtain ⟨x3, M4, eM4, h⟩ := z_b2 h
    refine z_aftI (z_runV (k := 0) (As := [.int (0 : Int32)]) (rest := []) G hH hl.1 (kX9_finding l hw eM4) (cC0 hw) vc9 arX9_finding u222 u224 us0 u1 u225 rfl rfl rfl (Nat.le_of_ble_eq_true rfl) (Nat.le_of_ble_eq_true rfl) rfl (Nat.le_of_ble_eq_true rfl) dX9_enough_20) hH (fun H locs hH => ?_)
    exact z_retI G hr hlk hH h dX9_enough_23
  · have h := z_ifn c2 h
    refine lv_iload_n G.x G.b dX9_enough_8 rfl (lv_at hl 2 rfl) ?_
    refine lv_iconst (v := (1 : Int32)) G.x G.b dX9_enough_9 (by decide) ?_
    refine lv_bipush (v := (60 : Int32)) G.x G.b dX9_enough_10 (by decide) ?_
    obtain ⟨x5, ex5, h⟩ := z_bind h
    refine z_rdI (z_runS (As := [.int a2, .int (1 : Int32), .int (60 : Int32)]) (rest := []) G hH hl.1 (kX9_isWithin l hw.1 ex5) arX9_isWithin u219 u220 u1 u221 rfl rfl rfl (Nat.le_of_ble_eq_true rfl) (Nat.le_of_ble_eq_true rfl) rfl (Nat.le_of_ble_eq_true rfl) dX9_enough_12) ?_
    refine lv_if_ne (tgt := 24) G.x G.b dX9_enough_15 (by decide) (fun c6 => ?_) (fun c6 => ?_)
    · have h := z_ifn c6 h
      refine lv_aload_n G.x G.b dX9_enough_24 rfl (lv_at hl 0 rfl) ?_
      refine z_get (v := .ref (za w 1)) (k := 0) G hH.1 (cC0 hw) vc9 inU9 0 (by decide) u190 rfl dX9_enough_25 ?_
      refine z_get (v := .ref (za w 8)) (k := 1) G hH.1 (cCt hw zT1) vc7 inU7 10 (by decide) u103 rfl dX9_enough_28 ?_
      refine lv_iload_n G.x G.b dX9_enough_31 rfl (lv_at hl 1 rfl) ?_
      obtain ⟨j7, ej7, h⟩ := z_bind h
      refine z_iald (k := 8) G hH.1 (cCt7 hw zT1) ej7 dX9_enough_32 ?_
      refine lv_iconst (v := (-1 : Int32)) G.x G.b dX9_enough_33 (by decide) ?_
      refine lv_icmp_ne (tgt := 43) G.x G.b dX9_enough_34 (by decide) (fun c8 => ?_) (fun c8 => ?_)
      · have h := z_ifn c8 h
        refine lv_iconst (v := (0 : Int32)) G.x G.b dX9_enough_43 (by decide) ?_
        refine lv_istore_n (lv' := [(3, .int (0 : Int32)), (0, .ref (za w 0)), (1, .int a1), (2, .int a2)]) G.x G.b dX9_enough_44 rfl hl (Nat.le_of_ble_eq_true rfl) rfl (fun ls hl => ?_)
        obtain ⟨E103_10, hE103_10, h⟩ := z_j h
        have kE103_10 : ∀ (M9 : zM) (H : Heap) (locs : List Loc) (ls : Array Slot), E103_10 M9 = some (r, M') → zH w s M9 H locs → lv_has ls 4 [(0, .ref (za w 0))] → zGo p l e rX9_enough s m args below meth c (zQ w (some (.int r)) M') (zA w) H locs (F0 m 103 ls []) := by
          intro M9 H locs ls h hH hl
          rw [hE103_10] at h
          refine lv_aload_n G.x G.b dX9_enough_103 rfl (lv_at hl 0 rfl) ?_
          refine lv_iconst (v := (3 : Int32)) G.x G.b dX9_enough_104 (by decide) ?_
          obtain ⟨x11, M12, eM12, h⟩ := z_b2 h
          refine z_aftI (z_runV (k := 0) (As := [.int (3 : Int32)]) (rest := []) G hH hl.1 (kX9_finding l hw eM12) (cC0 hw) vc9 arX9_finding u222 u224 us0 u1 u225 rfl rfl rfl (Nat.le_of_ble_eq_true rfl) (Nat.le_of_ble_eq_true rfl) rfl (Nat.le_of_ble_eq_true rfl) dX9_enough_105) hH (fun H locs hH => ?_)
          exact z_retI G hr hlk hH h dX9_enough_108
        have n15 : ∀ (n : Nat) (M13 : zM) (x14 : Int32) (H : Heap) (locs : List Loc) (ls : Array Slot), zL2 (bX9_enough_45 a1 a2 E103_10) n M13 x14 = some (r, M') → zH w s M13 H locs → lv_has ls 4 [(0, .ref (za w 0)), (1, .int a1), (2, .int a2), (3, .int x14)] → zGo p l e rX9_enough s m args below meth c (zQ w (some (.int r)) M') (zA w) H locs (F0 m 45 ls []) := by
          intro n
          induction n with
          | zero => intro M13 x14 H locs ls h; exact (zL2_0 h).elim
          | succ n ih15 =>
            intro M13 x14 H locs ls h hH hl
            obtain ⟨rc15, hrc15, h⟩ := zL2_s h
            rw [← hrc15] at ih15
            unfold bX9_enough_45 at h
            refine lv_iload_n G.x G.b dX9_enough_45 rfl (lv_at hl 3 rfl) ?_
            refine lv_sipush (v := (2000 : Int32)) G.x G.b dX9_enough_46 (by decide) ?_
            refine lv_icmp_gt (tgt := 103) G.x G.b dX9_enough_49 (by decide) (fun c16 => ?_) (fun c16 => ?_)
            · have h := z_if c16 h
              exact kE103_10 M13 H locs ls h hH (lv_sub hl [0] rfl)
            · have h := z_ifn c16 h
              refine lv_aload_n G.x G.b dX9_enough_52 rfl (lv_at hl 0 rfl) ?_
              refine z_get (v := .ref (za w 11)) (k := 0) G hH.1 (cC0 hw) vc9 inU9 1 (by decide) u191 rfl dX9_enough_53 ?_
              refine lv_aload_n G.x G.b dX9_enough_56 rfl (lv_at hl 0 rfl) ?_
              refine z_get (v := .ref (za w 1)) (k := 0) G hH.1 (cC0 hw) vc9 inU9 0 (by decide) u190 rfl dX9_enough_57 ?_
              obtain ⟨M17, eM17, h⟩ := z_bind h
              refine z_aftV (z_runV (k := 11) (As := [.ref (za w 1)]) (rest := []) G hH hl.1 (kX7_become l hw zT11 zT1 eM17) (cCt hw zT11) vc7 arX7_become u484 u485 u486 u8 u487 rfl rfl rfl (Nat.le_of_ble_eq_true rfl) (Nat.le_of_ble_eq_true rfl) rfl (Nat.le_of_ble_eq_true rfl) dX9_enough_60) hH (fun H locs hH => ?_)
              refine lv_aload_n G.x G.b dX9_enough_63 rfl (lv_at hl 0 rfl) ?_
              refine z_get (v := .ref (za w 11)) (k := 0) G hH.1 (cC0 hw) vc9 inU9 1 (by decide) u191 rfl dX9_enough_64 ?_
              refine z_get (v := .ref (za w 16)) (k := 11) G hH.1 (cCt hw zT11) vc7 inU7 8 (by decide) u97 rfl dX9_enough_67 ?_
              refine lv_iload_n G.x G.b dX9_enough_70 rfl (lv_at hl 1 rfl) ?_
              refine lv_iload_n G.x G.b dX9_enough_71 rfl (lv_at hl 3 rfl) ?_
              obtain ⟨j18, ej18, h⟩ := z_bind h
              obtain ⟨M19, eM19, h⟩ := z_let h
              refine z_iastN (k := 16) G hH (cCt5 hw zT11) ej18 dX9_enough_72 eM19 (fun H locs hH => ?_)
              refine lv_aload_n G.x G.b dX9_enough_73 rfl (lv_at hl 0 rfl) ?_
              refine z_get (v := .ref (za w 11)) (k := 0) G hH.1 (cC0 hw) vc9 inU9 1 (by decide) u191 rfl dX9_enough_74 ?_
              refine lv_iload_n G.x G.b dX9_enough_77 rfl (lv_at hl 1 rfl) ?_
              refine lv_iload_n G.x G.b dX9_enough_78 rfl (lv_at hl 2 rfl) ?_
              obtain ⟨M20, eM20, h⟩ := z_bind h
              refine z_aftV (z_runV (k := 11) (As := [.int a1, .int a2]) (rest := []) G hH hl.1 (kX7_passNightsOfWearer l hw zT11 eM20) (cCt hw zT11) vc7 arX7_passNightsOfWearer u491 u492 u493 u8 u494 rfl rfl rfl (Nat.le_of_ble_eq_true rfl) (Nat.le_of_ble_eq_true rfl) rfl (Nat.le_of_ble_eq_true rfl) dX9_enough_79) hH (fun H locs hH => ?_)
              refine lv_aload_n G.x G.b dX9_enough_82 rfl (lv_at hl 0 rfl) ?_
              refine z_get (v := .ref (za w 11)) (k := 0) G hH.1 (cC0 hw) vc9 inU9 1 (by decide) u191 rfl dX9_enough_83 ?_
              refine z_get (v := .ref (za w 18)) (k := 11) G hH.1 (cCt hw zT11) vc7 inU7 10 (by decide) u103 rfl dX9_enough_86 ?_
              refine lv_iload_n G.x G.b dX9_enough_89 rfl (lv_at hl 1 rfl) ?_
              obtain ⟨j21, ej21, h⟩ := z_bind h
              refine z_iald (k := 18) G hH.1 (cCt7 hw zT11) ej21 dX9_enough_90 ?_
              refine lv_iconst (v := (-1 : Int32)) G.x G.b dX9_enough_91 (by decide) ?_
              refine lv_icmp_eq (tgt := 97) G.x G.b dX9_enough_92 (by decide) (fun c22 => ?_) (fun c22 => ?_)
              · have h := z_if c22 h
                obtain ⟨x23, ex23, h⟩ := z_let h
                refine lv_iinc (v := x23) (lv' := [(3, .int x23), (0, .ref (za w 0)), (1, .int a1), (2, .int a2)]) G.x G.b dX9_enough_97 hl (k := 3) rfl (by rw [ex23]; rfl) (Nat.le_of_ble_eq_true rfl) rfl (fun ls hl => ?_)
                refine lv_goto (tgt := 45) G.x G.b dX9_enough_100 (by decide) ?_
                exact ih15 M20 x23 H locs ls h hH (lv_sub hl [1, 2, 3, 0] rfl)
              · have h := z_ifn c22 h
                refine lv_iload_n G.x G.b dX9_enough_95 rfl (lv_at hl 3 rfl) ?_
                exact z_retI G hr hlk hH h dX9_enough_96
        exact n15 zFuel M0 (0 : Int32) s.heap [] ls h hH (lv_sub hl [1, 2, 3, 0] rfl)
      · have h := z_if c8 h
        refine lv_aload_n G.x G.b dX9_enough_37 rfl (lv_at hl 0 rfl) ?_
        refine lv_iconst (v := (4 : Int32)) G.x G.b dX9_enough_38 (by decide) ?_
        obtain ⟨x24, M25, eM25, h⟩ := z_b2 h
        refine z_aftI (z_runV (k := 0) (As := [.int (4 : Int32)]) (rest := []) G hH hl.1 (kX9_finding l hw eM25) (cC0 hw) vc9 arX9_finding u222 u224 us0 u1 u225 rfl rfl rfl (Nat.le_of_ble_eq_true rfl) (Nat.le_of_ble_eq_true rfl) rfl (Nat.le_of_ble_eq_true rfl) dX9_enough_39) hH (fun H locs hH => ?_)
        exact z_retI G hr hlk hH h dX9_enough_42
    · have h := z_if c6 h
      refine lv_aload_n G.x G.b dX9_enough_18 rfl (lv_at hl 0 rfl) ?_
      refine lv_iconst (v := (0 : Int32)) G.x G.b dX9_enough_19 (by decide) ?_
      obtain ⟨x26, M27, eM27, h⟩ := z_b2 h
      refine z_aftI (z_runV (k := 0) (As := [.int (0 : Int32)]) (rest := []) G hH hl.1 (kX9_finding l hw eM27) (cC0 hw) vc9 arX9_finding u222 u224 us0 u1 u225 rfl rfl rfl (Nat.le_of_ble_eq_true rfl) (Nat.le_of_ble_eq_true rfl) rfl (Nat.le_of_ble_eq_true rfl) dX9_enough_20) hH (fun H locs hH => ?_)
      exact z_retI G hr hlk hH h dX9_enough_23
def bX9_please_47 (a1 : Int32) (a2 : Int32) (a3 : Int32) (a4 : Int32) (E108_16 : zM → Option (Int32 × zM)) (rc21 : zM → Int32 → Option (Int32 × zM)) (M19 : zM) (x20 : Int32) : Option (Int32 × zM) :=
  if (50 : Int32) < x20 then (E108_16 M19) else ((fX7_become M19 11 1).bind fun M23 =>
  (zix a2 6).bind fun j24 =>
  (some (zst M23 19 j24 x20)).bind fun M25 =>
  (fX7_passNightsOfWearer M25 11 a1 a3).bind fun M26 =>
  (zix a1 6).bind fun j27 =>
  if (M26.1 16 j27) < a4 then ((some (x20 + (1 : Int32))).bind fun x29 =>
  rc21 M26 x29) else (some (x20, M26)))
def lX9_please_47 (a1 : Int32) (a2 : Int32) (a3 : Int32) (a4 : Int32) (E108_16 : zM → Option (Int32 × zM)) : Nat → zM → Int32 → Option (Int32 × zM) := zL2 (bX9_please_47 a1 a2 a3 a4 E108_16)
def fX9_please (M0 : zM) (a1 : Int32) (a2 : Int32) (a3 : Int32) (a4 : Int32) : Option (Int32 × zM) :=
  (fX9_isWearer M0 a1).bind fun x1 =>
  if x1 = (0 : Int32) then (zb2 (fX9_finding M0 (0 : Int32)) fun x3 M4 =>
  some (x3, M4)) else ((fX9_isHouse a2).bind fun x5 =>
  if x5 = (0 : Int32) then (zb2 (fX9_finding M0 (0 : Int32)) fun x7 M8 =>
  some (x7, M8)) else ((fX9_isWithin a3 (1 : Int32) (60 : Int32)).bind fun x9 =>
  if x9 = (0 : Int32) then (zb2 (fX9_finding M0 (0 : Int32)) fun x11 M12 =>
  some (x11, M12)) else ((fX9_isWithin a4 (0 : Int32) (9999 : Int32)).bind fun x13 =>
  if x13 = (0 : Int32) then (zb2 (fX9_finding M0 (0 : Int32)) fun x30 M31 =>
  some (x30, M31)) else (zj (fun (M15 : zM) =>
  zb2 (fX9_finding M15 (3 : Int32)) fun x17 M18 =>
  some (x17, M18)) fun E108_16 =>
  lX9_please_47 a1 a2 a3 a4 E108_16 zFuel M0 (-50 : Int32)))))
abbrev rX9_please : Room := { frames := 6, cells := 0, slots := 0, locals := 143 }
theorem arX9_please : zAr yX9_please RX9 4 := ⟨rfl, by decide, by decide, by decide +kernel⟩
set_option maxHeartbeats 4000000 in
theorem kX9_please (l : Launch) {w : zWd} (hw : zIsC w) {M0 M' : zM} {a1 : Int32} {a2 : Int32} {a3 : Int32} {a4 : Int32} {r : Int32} (h : fX9_please M0 a1 a2 a3 a4 = some (r, M')) : Met l yX9_please (Cond.code yX9_please cX9_please 6 (some .int) :: zU) rX9_please (zPre w M0 [.ref (za w 0), .int a1, .int a2, .int a3, .int a4]) (zQ w (some (.int r)) M') 0 0 (zA w) := by
  refine z_metN (own := RX9) (lv := [(0, .ref (za w 0)), (1, .int a1), (2, .int a2), (3, .int a3), (4, .int a4)]) hw.1 (by decide) (Nat.le_of_ble_eq_true rfl) rfl rfl ?_
  intro p e s m args below meth c G hr hlk hH ls hl
  unfold fX9_please at h
  refine lv_aload_n G.x G.b dX9_please_0 rfl (lv_at hl 0 rfl) ?_
  refine lv_iload_n G.x G.b dX9_please_1 rfl (lv_at hl 1 rfl) ?_
  obtain ⟨x1, ex1, h⟩ := z_bind h
  refine z_rdI (z_runV (k := 0) (As := [.int a1]) (rest := []) G hH hl.1 (kX9_isWearer l hw ex1) (cC0 hw) vc9 arX9_isWearer u424 u426 us2 u1 u427 rfl rfl rfl (Nat.le_of_ble_eq_true rfl) (Nat.le_of_ble_eq_true rfl) rfl (Nat.le_of_ble_eq_true rfl) dX9_please_2) ?_
  refine lv_if_eq (tgt := 37) G.x G.b dX9_please_5 (by decide) (fun c2 => ?_) (fun c2 => ?_)
  · have h := z_if c2 h
    refine lv_aload_n G.x G.b dX9_please_37 rfl (lv_at hl 0 rfl) ?_
    refine lv_iconst (v := (0 : Int32)) G.x G.b dX9_please_38 (by decide) ?_
    obtain ⟨x3, M4, eM4, h⟩ := z_b2 h
    refine z_aftI (z_runV (k := 0) (As := [.int (0 : Int32)]) (rest := []) G hH hl.1 (kX9_finding l hw eM4) (cC0 hw) vc9 arX9_finding u222 u224 us0 u1 u225 rfl rfl rfl (Nat.le_of_ble_eq_true rfl) (Nat.le_of_ble_eq_true rfl) rfl (Nat.le_of_ble_eq_true rfl) dX9_please_39) hH (fun H locs hH => ?_)
    exact z_retI G hr hlk hH h dX9_please_42
  · have h := z_ifn c2 h
    refine lv_iload_n G.x G.b dX9_please_8 rfl (lv_at hl 2 rfl) ?_
    obtain ⟨x5, ex5, h⟩ := z_bind h
    refine z_rdI (z_runS (As := [.int a2]) (rest := []) G hH hl.1 (kX9_isHouse l hw.1 ex5) arX9_isHouse u216 u217 u1 u218 rfl rfl rfl (Nat.le_of_ble_eq_true rfl) (Nat.le_of_ble_eq_true rfl) rfl (Nat.le_of_ble_eq_true rfl) dX9_please_9) ?_
    refine lv_if_eq (tgt := 37) G.x G.b dX9_please_12 (by decide) (fun c6 => ?_) (fun c6 => ?_)
    · have h := z_if c6 h
      refine lv_aload_n G.x G.b dX9_please_37 rfl (lv_at hl 0 rfl) ?_
      refine lv_iconst (v := (0 : Int32)) G.x G.b dX9_please_38 (by decide) ?_
      obtain ⟨x7, M8, eM8, h⟩ := z_b2 h
      refine z_aftI (z_runV (k := 0) (As := [.int (0 : Int32)]) (rest := []) G hH hl.1 (kX9_finding l hw eM8) (cC0 hw) vc9 arX9_finding u222 u224 us0 u1 u225 rfl rfl rfl (Nat.le_of_ble_eq_true rfl) (Nat.le_of_ble_eq_true rfl) rfl (Nat.le_of_ble_eq_true rfl) dX9_please_39) hH (fun H locs hH => ?_)
      exact z_retI G hr hlk hH h dX9_please_42
    · have h := z_ifn c6 h
      refine lv_iload_n G.x G.b dX9_please_15 rfl (lv_at hl 3 rfl) ?_
      refine lv_iconst (v := (1 : Int32)) G.x G.b dX9_please_16 (by decide) ?_
      refine lv_bipush (v := (60 : Int32)) G.x G.b dX9_please_17 (by decide) ?_
      obtain ⟨x9, ex9, h⟩ := z_bind h
      refine z_rdI (z_runS (As := [.int a3, .int (1 : Int32), .int (60 : Int32)]) (rest := []) G hH hl.1 (kX9_isWithin l hw.1 ex9) arX9_isWithin u219 u220 u1 u221 rfl rfl rfl (Nat.le_of_ble_eq_true rfl) (Nat.le_of_ble_eq_true rfl) rfl (Nat.le_of_ble_eq_true rfl) dX9_please_19) ?_
      refine lv_if_eq (tgt := 37) G.x G.b dX9_please_22 (by decide) (fun c10 => ?_) (fun c10 => ?_)
      · have h := z_if c10 h
        refine lv_aload_n G.x G.b dX9_please_37 rfl (lv_at hl 0 rfl) ?_
        refine lv_iconst (v := (0 : Int32)) G.x G.b dX9_please_38 (by decide) ?_
        obtain ⟨x11, M12, eM12, h⟩ := z_b2 h
        refine z_aftI (z_runV (k := 0) (As := [.int (0 : Int32)]) (rest := []) G hH hl.1 (kX9_finding l hw eM12) (cC0 hw) vc9 arX9_finding u222 u224 us0 u1 u225 rfl rfl rfl (Nat.le_of_ble_eq_true rfl) (Nat.le_of_ble_eq_true rfl) rfl (Nat.le_of_ble_eq_true rfl) dX9_please_39) hH (fun H locs hH => ?_)
        exact z_retI G hr hlk hH h dX9_please_42
      · have h := z_ifn c10 h
        refine lv_iload G.x G.b dX9_please_25 (lv_at hl 4 rfl) ?_
        refine lv_iconst (v := (0 : Int32)) G.x G.b dX9_please_27 (by decide) ?_
        refine lv_sipush (v := (9999 : Int32)) G.x G.b dX9_please_28 (by decide) ?_
        obtain ⟨x13, ex13, h⟩ := z_bind h
        refine z_rdI (z_runS (As := [.int a4, .int (0 : Int32), .int (9999 : Int32)]) (rest := []) G hH hl.1 (kX9_isWithin l hw.1 ex13) arX9_isWithin u219 u220 u1 u221 rfl rfl rfl (Nat.le_of_ble_eq_true rfl) (Nat.le_of_ble_eq_true rfl) rfl (Nat.le_of_ble_eq_true rfl) dX9_please_31) ?_
        refine lv_if_ne (tgt := 43) G.x G.b dX9_please_34 (by decide) (fun c14 => ?_) (fun c14 => ?_)
        · have h := z_ifn c14 h
          refine lv_bipush (v := (-50 : Int32)) G.x G.b dX9_please_43 (by decide) ?_
          refine lv_istore (lv' := [(5, .int (-50 : Int32)), (0, .ref (za w 0)), (1, .int a1), (2, .int a2), (3, .int a3), (4, .int a4)]) G.x G.b dX9_please_45 hl (Nat.le_of_ble_eq_true rfl) rfl (fun ls hl => ?_)
          obtain ⟨E108_16, hE108_16, h⟩ := z_j h
          have kE108_16 : ∀ (M15 : zM) (H : Heap) (locs : List Loc) (ls : Array Slot), E108_16 M15 = some (r, M') → zH w s M15 H locs → lv_has ls 6 [(0, .ref (za w 0))] → zGo p l e rX9_please s m args below meth c (zQ w (some (.int r)) M') (zA w) H locs (F0 m 108 ls []) := by
            intro M15 H locs ls h hH hl
            rw [hE108_16] at h
            refine lv_aload_n G.x G.b dX9_please_108 rfl (lv_at hl 0 rfl) ?_
            refine lv_iconst (v := (3 : Int32)) G.x G.b dX9_please_109 (by decide) ?_
            obtain ⟨x17, M18, eM18, h⟩ := z_b2 h
            refine z_aftI (z_runV (k := 0) (As := [.int (3 : Int32)]) (rest := []) G hH hl.1 (kX9_finding l hw eM18) (cC0 hw) vc9 arX9_finding u222 u224 us0 u1 u225 rfl rfl rfl (Nat.le_of_ble_eq_true rfl) (Nat.le_of_ble_eq_true rfl) rfl (Nat.le_of_ble_eq_true rfl) dX9_please_110) hH (fun H locs hH => ?_)
            exact z_retI G hr hlk hH h dX9_please_113
          have n21 : ∀ (n : Nat) (M19 : zM) (x20 : Int32) (H : Heap) (locs : List Loc) (ls : Array Slot), zL2 (bX9_please_47 a1 a2 a3 a4 E108_16) n M19 x20 = some (r, M') → zH w s M19 H locs → lv_has ls 6 [(0, .ref (za w 0)), (1, .int a1), (2, .int a2), (3, .int a3), (4, .int a4), (5, .int x20)] → zGo p l e rX9_please s m args below meth c (zQ w (some (.int r)) M') (zA w) H locs (F0 m 47 ls []) := by
            intro n
            induction n with
            | zero => intro M19 x20 H locs ls h; exact (zL2_0 h).elim
            | succ n ih21 =>
              intro M19 x20 H locs ls h hH hl
              obtain ⟨rc21, hrc21, h⟩ := zL2_s h
              rw [← hrc21] at ih21
              unfold bX9_please_47 at h
              refine lv_iload G.x G.b dX9_please_47 (lv_at hl 5 rfl) ?_
              refine lv_bipush (v := (50 : Int32)) G.x G.b dX9_please_49 (by decide) ?_
              refine lv_icmp_gt (tgt := 108) G.x G.b dX9_please_51 (by decide) (fun c22 => ?_) (fun c22 => ?_)
              · have h := z_if c22 h
                exact kE108_16 M19 H locs ls h hH (lv_sub hl [0] rfl)
              · have h := z_ifn c22 h
                refine lv_aload_n G.x G.b dX9_please_54 rfl (lv_at hl 0 rfl) ?_
                refine z_get (v := .ref (za w 11)) (k := 0) G hH.1 (cC0 hw) vc9 inU9 1 (by decide) u191 rfl dX9_please_55 ?_
                refine lv_aload_n G.x G.b dX9_please_58 rfl (lv_at hl 0 rfl) ?_
                refine z_get (v := .ref (za w 1)) (k := 0) G hH.1 (cC0 hw) vc9 inU9 0 (by decide) u190 rfl dX9_please_59 ?_
                obtain ⟨M23, eM23, h⟩ := z_bind h
                refine z_aftV (z_runV (k := 11) (As := [.ref (za w 1)]) (rest := []) G hH hl.1 (kX7_become l hw zT11 zT1 eM23) (cCt hw zT11) vc7 arX7_become u484 u485 u486 u8 u487 rfl rfl rfl (Nat.le_of_ble_eq_true rfl) (Nat.le_of_ble_eq_true rfl) rfl (Nat.le_of_ble_eq_true rfl) dX9_please_62) hH (fun H locs hH => ?_)
                refine lv_aload_n G.x G.b dX9_please_65 rfl (lv_at hl 0 rfl) ?_
                refine z_get (v := .ref (za w 11)) (k := 0) G hH.1 (cC0 hw) vc9 inU9 1 (by decide) u191 rfl dX9_please_66 ?_
                refine z_get (v := .ref (za w 19)) (k := 11) G hH.1 (cCt hw zT11) vc7 inU7 11 (by decide) u105 rfl dX9_please_69 ?_
                refine lv_iload_n G.x G.b dX9_please_72 rfl (lv_at hl 2 rfl) ?_
                refine lv_iload G.x G.b dX9_please_73 (lv_at hl 5 rfl) ?_
                obtain ⟨j24, ej24, h⟩ := z_bind h
                obtain ⟨M25, eM25, h⟩ := z_let h
                refine z_iastN (k := 19) G hH (cCt8 hw zT11) ej24 dX9_please_75 eM25 (fun H locs hH => ?_)
                refine lv_aload_n G.x G.b dX9_please_76 rfl (lv_at hl 0 rfl) ?_
                refine z_get (v := .ref (za w 11)) (k := 0) G hH.1 (cC0 hw) vc9 inU9 1 (by decide) u191 rfl dX9_please_77 ?_
                refine lv_iload_n G.x G.b dX9_please_80 rfl (lv_at hl 1 rfl) ?_
                refine lv_iload_n G.x G.b dX9_please_81 rfl (lv_at hl 3 rfl) ?_
                obtain ⟨M26, eM26, h⟩ := z_bind h
                refine z_aftV (z_runV (k := 11) (As := [.int a1, .int a3]) (rest := []) G hH hl.1 (kX7_passNightsOfWearer l hw zT11 eM26) (cCt hw zT11) vc7 arX7_passNightsOfWearer u491 u492 u493 u8 u494 rfl rfl rfl (Nat.le_of_ble_eq_true rfl) (Nat.le_of_ble_eq_true rfl) rfl (Nat.le_of_ble_eq_true rfl) dX9_please_82) hH (fun H locs hH => ?_)
                refine lv_aload_n G.x G.b dX9_please_85 rfl (lv_at hl 0 rfl) ?_
                refine z_get (v := .ref (za w 11)) (k := 0) G hH.1 (cC0 hw) vc9 inU9 1 (by decide) u191 rfl dX9_please_86 ?_
                refine z_get (v := .ref (za w 16)) (k := 11) G hH.1 (cCt hw zT11) vc7 inU7 8 (by decide) u97 rfl dX9_please_89 ?_
                refine lv_iload_n G.x G.b dX9_please_92 rfl (lv_at hl 1 rfl) ?_
                obtain ⟨j27, ej27, h⟩ := z_bind h
                refine z_iald (k := 16) G hH.1 (cCt5 hw zT11) ej27 dX9_please_93 ?_
                refine lv_iload G.x G.b dX9_please_94 (lv_at hl 4 rfl) ?_
                refine lv_icmp_lt (tgt := 102) G.x G.b dX9_please_96 (by decide) (fun c28 => ?_) (fun c28 => ?_)
                · have h := z_if c28 h
                  obtain ⟨x29, ex29, h⟩ := z_let h
                  refine lv_iinc (v := x29) (lv' := [(5, .int x29), (0, .ref (za w 0)), (1, .int a1), (2, .int a2), (3, .int a3), (4, .int a4)]) G.x G.b dX9_please_102 hl (k := 5) rfl (by rw [ex29]; rfl) (Nat.le_of_ble_eq_true rfl) rfl (fun ls hl => ?_)
                  refine lv_goto (tgt := 47) G.x G.b dX9_please_105 (by decide) ?_
                  exact ih21 M26 x29 H locs ls h hH (lv_sub hl [1, 2, 3, 4, 5, 0] rfl)
                · have h := z_ifn c28 h
                  refine lv_iload G.x G.b dX9_please_99 (lv_at hl 5 rfl) ?_
                  exact z_retI G hr hlk hH h dX9_please_101
          exact n21 zFuel M0 (-50 : Int32) s.heap [] ls h hH (lv_sub hl [1, 2, 3, 4, 5, 0] rfl)
        · have h := z_if c14 h
          refine lv_aload_n G.x G.b dX9_please_37 rfl (lv_at hl 0 rfl) ?_
          refine lv_iconst (v := (0 : Int32)) G.x G.b dX9_please_38 (by decide) ?_
          obtain ⟨x30, M31, eM31, h⟩ := z_b2 h
          refine z_aftI (z_runV (k := 0) (As := [.int (0 : Int32)]) (rest := []) G hH hl.1 (kX9_finding l hw eM31) (cC0 hw) vc9 arX9_finding u222 u224 us0 u1 u225 rfl rfl rfl (Nat.le_of_ble_eq_true rfl) (Nat.le_of_ble_eq_true rfl) rfl (Nat.le_of_ble_eq_true rfl) dX9_please_39) hH (fun H locs hH => ?_)
          exact z_retI G hr hlk hH h dX9_please_42
def bX9_richest_43 (M4 : zM) (E89_6 : Int32 → Option (Int32 × zM)) (rc13 : Int32 → Int32 → Int32 → Option (Int32 × zM)) (x10 : Int32) (x11 : Int32) (x12 : Int32) : Option (Int32 × zM) :=
  if (M4.1 11 2) ≤ x12 then (E89_6 x10) else ((zix x12 8).bind fun j15 =>
  zj (fun (x16 : Int32) (x17 : Int32) =>
  (some (x12 + (1 : Int32))).bind fun x19 =>
  rc13 x16 x17 x19) fun J83_18 =>
  if (M4.1 14 j15) ≤ x11 then (J83_18 x10 x11) else ((zix x12 8).bind fun j21 =>
  (some (M4.1 14 j21)).bind fun x22 =>
  J83_18 x12 x22))
def lX9_richest_43 (M4 : zM) (E89_6 : Int32 → Option (Int32 × zM)) : Nat → Int32 → Int32 → Int32 → Option (Int32 × zM) := zL3 (bX9_richest_43 M4 E89_6)
def fX9_richest (M0 : zM) (a1 : Int32) : Option (Int32 × zM) :=
  (fX9_isWithin a1 (0 : Int32) (200 : Int32)).bind fun x1 =>
  if x1 = (0 : Int32) then (zb2 (fX9_finding M0 (0 : Int32)) fun x23 M24 =>
  some (x23, M24)) else ((fX7_become M0 11 1).bind fun M3 =>
  (fX7_passNights M3 11 a1).bind fun M4 =>
  zj (fun (x5 : Int32) =>
  if x5 = (-1 : Int32) then (zb2 (fX9_finding M4 (3 : Int32)) fun x8 M9 =>
  some (x8, M9)) else (some (x5, M4))) fun E89_6 =>
  lX9_richest_43 M4 E89_6 zFuel (-1 : Int32) (-1 : Int32) (0 : Int32))
abbrev rX9_richest : Room := { frames := 6, cells := 0, slots := 0, locals := 142 }
theorem arX9_richest : zAr yX9_richest RX9 1 := ⟨rfl, by decide, by decide, by decide +kernel⟩
set_option maxHeartbeats 4000000 in
theorem kX9_richest (l : Launch) {w : zWd} (hw : zIsC w) {M0 M' : zM} {a1 : Int32} {r : Int32} (h : fX9_richest M0 a1 = some (r, M')) : Met l yX9_richest (Cond.code yX9_richest cX9_richest 5 (some .int) :: zU) rX9_richest (zPre w M0 [.ref (za w 0), .int a1]) (zQ w (some (.int r)) M') 0 0 (zA w) := by
  refine z_metN (own := RX9) (lv := [(0, .ref (za w 0)), (1, .int a1)]) hw.1 (by decide) (Nat.le_of_ble_eq_true rfl) rfl rfl ?_
  intro p e s m args below meth c G hr hlk hH ls hl
  unfold fX9_richest at h
  refine lv_iload_n G.x G.b dX9_richest_0 rfl (lv_at hl 1 rfl) ?_
  refine lv_iconst (v := (0 : Int32)) G.x G.b dX9_richest_1 (by decide) ?_
  refine lv_sipush (v := (200 : Int32)) G.x G.b dX9_richest_2 (by decide) ?_
  obtain ⟨x1, ex1, h⟩ := z_bind h
  refine z_rdI (z_runS (As := [.int a1, .int (0 : Int32), .int (200 : Int32)]) (rest := []) G hH hl.1 (kX9_isWithin l hw.1 ex1) arX9_isWithin u219 u220 u1 u221 rfl rfl rfl (Nat.le_of_ble_eq_true rfl) (Nat.le_of_ble_eq_true rfl) rfl (Nat.le_of_ble_eq_true rfl) dX9_richest_5) ?_
  refine lv_if_ne (tgt := 17) G.x G.b dX9_richest_8 (by decide) (fun c2 => ?_) (fun c2 => ?_)
  · have h := z_ifn c2 h
    refine lv_aload_n G.x G.b dX9_richest_17 rfl (lv_at hl 0 rfl) ?_
    refine z_get (v := .ref (za w 11)) (k := 0) G hH.1 (cC0 hw) vc9 inU9 1 (by decide) u191 rfl dX9_richest_18 ?_
    refine lv_aload_n G.x G.b dX9_richest_21 rfl (lv_at hl 0 rfl) ?_
    refine z_get (v := .ref (za w 1)) (k := 0) G hH.1 (cC0 hw) vc9 inU9 0 (by decide) u190 rfl dX9_richest_22 ?_
    obtain ⟨M3, eM3, h⟩ := z_bind h
    refine z_aftV (z_runV (k := 11) (As := [.ref (za w 1)]) (rest := []) G hH hl.1 (kX7_become l hw zT11 zT1 eM3) (cCt hw zT11) vc7 arX7_become u484 u485 u486 u8 u487 rfl rfl rfl (Nat.le_of_ble_eq_true rfl) (Nat.le_of_ble_eq_true rfl) rfl (Nat.le_of_ble_eq_true rfl) dX9_richest_25) hH (fun H locs hH => ?_)
    refine lv_aload_n G.x G.b dX9_richest_28 rfl (lv_at hl 0 rfl) ?_
    refine z_get (v := .ref (za w 11)) (k := 0) G hH.1 (cC0 hw) vc9 inU9 1 (by decide) u191 rfl dX9_richest_29 ?_
    refine lv_iload_n G.x G.b dX9_richest_32 rfl (lv_at hl 1 rfl) ?_
    obtain ⟨M4, eM4, h⟩ := z_bind h
    refine z_aftV (z_runV (k := 11) (As := [.int a1]) (rest := []) G hH hl.1 (kX7_passNights l hw zT11 eM4) (cCt hw zT11) vc7 arX7_passNights u454 u455 u456 u8 u457 rfl rfl rfl (Nat.le_of_ble_eq_true rfl) (Nat.le_of_ble_eq_true rfl) rfl (Nat.le_of_ble_eq_true rfl) dX9_richest_33) hH (fun H locs hH => ?_)
    refine lv_iconst (v := (-1 : Int32)) G.x G.b dX9_richest_36 (by decide) ?_
    refine lv_istore_n (lv' := [(2, .int (-1 : Int32)), (0, .ref (za w 0)), (1, .int a1)]) G.x G.b dX9_richest_37 rfl hl (Nat.le_of_ble_eq_true rfl) rfl (fun ls hl => ?_)
    refine lv_iconst (v := (-1 : Int32)) G.x G.b dX9_richest_38 (by decide) ?_
    refine lv_istore_n (lv' := [(3, .int (-1 : Int32)), (2, .int (-1 : Int32)), (0, .ref (za w 0)), (1, .int a1)]) G.x G.b dX9_richest_39 rfl hl (Nat.le_of_ble_eq_true rfl) rfl (fun ls hl => ?_)
    refine lv_iconst (v := (0 : Int32)) G.x G.b dX9_richest_40 (by decide) ?_
    refine lv_istore (lv' := [(4, .int (0 : Int32)), (3, .int (-1 : Int32)), (2, .int (-1 : Int32)), (0, .ref (za w 0)), (1, .int a1)]) G.x G.b dX9_richest_41 hl (Nat.le_of_ble_eq_true rfl) rfl (fun ls hl => ?_)
    obtain ⟨E89_6, hE89_6, h⟩ := z_j h
    have kE89_6 : ∀ (x5 : Int32) (ls : Array Slot), E89_6 x5 = some (r, M') → lv_has ls 5 [(0, .ref (za w 0)), (2, .int x5)] → zGo p l e rX9_richest s m args below meth c (zQ w (some (.int r)) M') (zA w) H locs (F0 m 89 ls []) := by
      intro x5 ls h hl
      rw [hE89_6] at h
      refine lv_iload_n G.x G.b dX9_richest_89 rfl (lv_at hl 1 rfl) ?_
      refine lv_iconst (v := (-1 : Int32)) G.x G.b dX9_richest_90 (by decide) ?_
      refine lv_icmp_ne (tgt := 102) G.x G.b dX9_richest_91 (by decide) (fun c7 => ?_) (fun c7 => ?_)
      · have h := z_ifn c7 h
        refine lv_iload_n G.x G.b dX9_richest_102 rfl (lv_at hl 1 rfl) ?_
        exact z_retI G hr hlk hH h dX9_richest_103
      · have h := z_if c7 h
        refine lv_aload_n G.x G.b dX9_richest_94 rfl (lv_at hl 0 rfl) ?_
        refine lv_iconst (v := (3 : Int32)) G.x G.b dX9_richest_95 (by decide) ?_
        obtain ⟨x8, M9, eM9, h⟩ := z_b2 h
        refine z_aftI (z_runV (k := 0) (As := [.int (3 : Int32)]) (rest := []) G hH hl.1 (kX9_finding l hw eM9) (cC0 hw) vc9 arX9_finding u222 u224 us0 u1 u225 rfl rfl rfl (Nat.le_of_ble_eq_true rfl) (Nat.le_of_ble_eq_true rfl) rfl (Nat.le_of_ble_eq_true rfl) dX9_richest_96) hH (fun H locs hH => ?_)
        refine lv_goto (tgt := 103) G.x G.b dX9_richest_99 (by decide) ?_
        exact z_retI G hr hlk hH h dX9_richest_103
    have n13 : ∀ (n : Nat) (x10 : Int32) (x11 : Int32) (x12 : Int32) (ls : Array Slot), zL3 (bX9_richest_43 M4 E89_6) n x10 x11 x12 = some (r, M') → lv_has ls 5 [(0, .ref (za w 0)), (2, .int x10), (3, .int x11), (4, .int x12)] → zGo p l e rX9_richest s m args below meth c (zQ w (some (.int r)) M') (zA w) H locs (F0 m 43 ls []) := by
      intro n
      induction n with
      | zero => intro x10 x11 x12 ls h; exact (zL3_0 h).elim
      | succ n ih13 =>
        intro x10 x11 x12 ls h hl
        obtain ⟨rc13, hrc13, h⟩ := zL3_s h
        rw [← hrc13] at ih13
        unfold bX9_richest_43 at h
        refine lv_iload G.x G.b dX9_richest_43 (lv_at hl 3 rfl) ?_
        refine lv_aload_n G.x G.b dX9_richest_45 rfl (lv_at hl 0 rfl) ?_
        refine z_get (v := .ref (za w 11)) (k := 0) G hH.1 (cC0 hw) vc9 inU9 1 (by decide) u191 rfl dX9_richest_46 ?_
        refine z_get (v := .int (M4.1 11 2)) (k := 11) G hH.1 (cCt hw zT11) vc7 inU7 2 (by decide) u80 rfl dX9_richest_49 ?_
        refine lv_icmp_ge (tgt := 89) G.x G.b dX9_richest_52 (by decide) (fun c14 => ?_) (fun c14 => ?_)
        · have h := z_if c14 h
          exact kE89_6 x10 ls h (lv_sub hl [0, 1] rfl)
        · have h := z_ifn c14 h
          refine lv_aload_n G.x G.b dX9_richest_55 rfl (lv_at hl 0 rfl) ?_
          refine z_get (v := .ref (za w 11)) (k := 0) G hH.1 (cC0 hw) vc9 inU9 1 (by decide) u191 rfl dX9_richest_56 ?_
          refine z_get (v := .ref (za w 14)) (k := 11) G hH.1 (cCt hw zT11) vc7 inU7 6 (by decide) u91 rfl dX9_richest_59 ?_
          refine lv_iload G.x G.b dX9_richest_62 (lv_at hl 3 rfl) ?_
          obtain ⟨j15, ej15, h⟩ := z_bind h
          refine z_iald (k := 14) G hH.1 (cCt3 hw zT11) ej15 dX9_richest_64 ?_
          refine lv_iload_n G.x G.b dX9_richest_65 rfl (lv_at hl 2 rfl) ?_
          obtain ⟨J83_18, hJ83_18, h⟩ := z_j h
          have kJ83_18 : ∀ (x16 : Int32) (x17 : Int32) (ls : Array Slot), J83_18 x16 x17 = some (r, M') → lv_has ls 5 [(0, .ref (za w 0)), (2, .int x16), (3, .int x17), (4, .int x12)] → zGo p l e rX9_richest s m args below meth c (zQ w (some (.int r)) M') (zA w) H locs (F0 m 83 ls []) := by
            intro x16 x17 ls h hl
            rw [hJ83_18] at h
            obtain ⟨x19, ex19, h⟩ := z_let h
            refine lv_iinc (v := x19) (lv' := [(4, .int x19), (0, .ref (za w 0)), (2, .int x16), (3, .int x17)]) G.x G.b dX9_richest_83 hl (k := 3) rfl (by rw [ex19]; rfl) (Nat.le_of_ble_eq_true rfl) rfl (fun ls hl => ?_)
            refine lv_goto (tgt := 43) G.x G.b dX9_richest_86 (by decide) ?_
            exact ih13 x16 x17 x19 ls h (lv_sub hl [1, 2, 3, 0] rfl)
          refine lv_icmp_le (tgt := 83) G.x G.b dX9_richest_66 (by decide) (fun c20 => ?_) (fun c20 => ?_)
          · have h := z_if c20 h
            exact kJ83_18 x10 x11 ls h (lv_sub hl [0, 1, 2, 3] rfl)
          · have h := z_ifn c20 h
            refine lv_iload G.x G.b dX9_richest_69 (lv_at hl 3 rfl) ?_
            refine lv_istore_n (lv' := [(2, .int x12), (0, .ref (za w 0)), (3, .int x11), (4, .int x12)]) G.x G.b dX9_richest_71 rfl hl (Nat.le_of_ble_eq_true rfl) rfl (fun ls hl => ?_)
            refine lv_aload_n G.x G.b dX9_richest_72 rfl (lv_at hl 1 rfl) ?_
            refine z_get (v := .ref (za w 11)) (k := 0) G hH.1 (cC0 hw) vc9 inU9 1 (by decide) u191 rfl dX9_richest_73 ?_
            refine z_get (v := .ref (za w 14)) (k := 11) G hH.1 (cCt hw zT11) vc7 inU7 6 (by decide) u91 rfl dX9_richest_76 ?_
            refine lv_iload G.x G.b dX9_richest_79 (lv_at hl 3 rfl) ?_
            obtain ⟨j21, ej21, h⟩ := z_bind h
            refine z_iald (k := 14) G hH.1 (cCt3 hw zT11) ej21 dX9_richest_81 ?_
            obtain ⟨x22, ex22, h⟩ := z_let h
            refine z_nmI ex22 ?_
            refine lv_istore_n (lv' := [(3, .int x22), (2, .int x12), (0, .ref (za w 0)), (4, .int x12)]) G.x G.b dX9_richest_82 rfl hl (Nat.le_of_ble_eq_true rfl) rfl (fun ls hl => ?_)
            exact kJ83_18 x12 x22 ls h (lv_sub hl [2, 1, 0, 3] rfl)
    exact n13 zFuel (-1 : Int32) (-1 : Int32) (0 : Int32) ls h (lv_sub hl [3, 2, 1, 0] rfl)
  · have h := z_if c2 h
    refine lv_aload_n G.x G.b dX9_richest_11 rfl (lv_at hl 0 rfl) ?_
    refine lv_iconst (v := (0 : Int32)) G.x G.b dX9_richest_12 (by decide) ?_
    obtain ⟨x23, M24, eM24, h⟩ := z_b2 h
    refine z_aftI (z_runV (k := 0) (As := [.int (0 : Int32)]) (rest := []) G hH hl.1 (kX9_finding l hw eM24) (cC0 hw) vc9 arX9_finding u222 u224 us0 u1 u225 rfl rfl rfl (Nat.le_of_ble_eq_true rfl) (Nat.le_of_ble_eq_true rfl) rfl (Nat.le_of_ble_eq_true rfl) dX9_richest_13) hH (fun H locs hH => ?_)
    exact z_retI G hr hlk hH h dX9_richest_16
def bX9_feed_39 (a1 : Int32) (E66_6 : zM → Option (Int32 × zM)) (rc9 : zM → Int32 → Option (Int32 × zM)) (M7 : zM) (x8 : Int32) : Option (Int32 × zM) :=
  if x8 < (0 : Int32) then (E66_6 M7) else ((fX6_append M7 ((a1.toUInt32 >>> (((8 : Int32) * x8).toUInt32 &&& Int32.toUInt32 31)).toInt32 &&& (255 : Int32))).bind fun M11 =>
  (some (x8 + (-1 : Int32))).bind fun x12 =>
  rc9 M11 x12)
def lX9_feed_39 (a1 : Int32) (E66_6 : zM → Option (Int32 × zM)) : Nat → zM → Int32 → Option (Int32 × zM) := zL2 (bX9_feed_39 a1 E66_6)
def fX9_feed (M0 : zM) (a1 : Int32) (a2 : Int32) : Option (Int32 × zM) :=
  (fX9_isWithin a2 (1 : Int32) (4 : Int32)).bind fun x1 =>
  if x1 = (0 : Int32) then (zb2 (fX9_finding M0 (0 : Int32)) fun x15 M16 =>
  some (x15, M16)) else (if ((M0.1 31 2) + a2) ≤ (120 : Int32) then ((some (a2 - (1 : Int32))).bind fun x4 =>
  zj (fun (M5 : zM) =>
  some ((M5.1 31 2), M5)) fun E66_6 =>
  lX9_feed_39 a1 E66_6 zFuel M0 x4) else (zb2 (fX9_finding M0 (1 : Int32)) fun x13 M14 =>
  some (x13, M14)))
abbrev rX9_feed : Room := { frames := 1, cells := 0, slots := 0, locals := 22 }
theorem arX9_feed : zAr yX9_feed RX9 2 := ⟨rfl, by decide, by decide, by decide +kernel⟩
set_option maxHeartbeats 4000000 in
theorem kX9_feed (l : Launch) {w : zWd} (hw : zIsC w) {M0 M' : zM} {a1 : Int32} {a2 : Int32} {r : Int32} (h : fX9_feed M0 a1 a2 = some (r, M')) : Met l yX9_feed (Cond.code yX9_feed cX9_feed 4 (some .int) :: zU) rX9_feed (zPre w M0 [.ref (za w 0), .int a1, .int a2]) (zQ w (some (.int r)) M') 0 0 (zA w) := by
  refine z_metN (own := RX9) (lv := [(0, .ref (za w 0)), (1, .int a1), (2, .int a2)]) hw.1 (by decide) (Nat.le_of_ble_eq_true rfl) rfl rfl ?_
  intro p e s m args below meth c G hr hlk hH ls hl
  unfold fX9_feed at h
  refine lv_iload_n G.x G.b dX9_feed_0 rfl (lv_at hl 2 rfl) ?_
  refine lv_iconst (v := (1 : Int32)) G.x G.b dX9_feed_1 (by decide) ?_
  refine lv_iconst (v := (4 : Int32)) G.x G.b dX9_feed_2 (by decide) ?_
  obtain ⟨x1, ex1, h⟩ := z_bind h
  refine z_rdI (z_runS (As := [.int a2, .int (1 : Int32), .int (4 : Int32)]) (rest := []) G hH hl.1 (kX9_isWithin l hw.1 ex1) arX9_isWithin u219 u220 u1 u221 rfl rfl rfl (Nat.le_of_ble_eq_true rfl) (Nat.le_of_ble_eq_true rfl) rfl (Nat.le_of_ble_eq_true rfl) dX9_feed_3) ?_
  refine lv_if_ne (tgt := 15) G.x G.b dX9_feed_6 (by decide) (fun c2 => ?_) (fun c2 => ?_)
  · have h := z_ifn c2 h
    refine lv_aload_n G.x G.b dX9_feed_15 rfl (lv_at hl 0 rfl) ?_
    refine z_get (v := .ref (za w 31)) (k := 0) G hH.1 (cC0 hw) vc9 inU9 4 (by decide) u194 rfl dX9_feed_16 ?_
    refine z_get (v := .int (M0.1 31 2)) (k := 31) G hH.1 (cC31 hw) vc6 inU6 2 (by decide) u146 rfl dX9_feed_19 ?_
    refine lv_iload_n G.x G.b dX9_feed_22 rfl (lv_at hl 2 rfl) ?_
    refine lv_iadd G.x G.b dX9_feed_23 ?_
    refine lv_bipush (v := (120 : Int32)) G.x G.b dX9_feed_24 (by decide) ?_
    refine lv_icmp_le (tgt := 35) G.x G.b dX9_feed_26 (by decide) (fun c3 => ?_) (fun c3 => ?_)
    · have h := z_if c3 h
      refine lv_iload_n G.x G.b dX9_feed_35 rfl (lv_at hl 2 rfl) ?_
      refine lv_iconst (v := (1 : Int32)) G.x G.b dX9_feed_36 (by decide) ?_
      refine lv_isub G.x G.b dX9_feed_37 ?_
      obtain ⟨x4, ex4, h⟩ := z_let h
      refine z_nmI ex4 ?_
      refine lv_istore_n (lv' := [(3, .int x4), (0, .ref (za w 0)), (1, .int a1), (2, .int a2)]) G.x G.b dX9_feed_38 rfl hl (Nat.le_of_ble_eq_true rfl) rfl (fun ls hl => ?_)
      obtain ⟨E66_6, hE66_6, h⟩ := z_j h
      have kE66_6 : ∀ (M5 : zM) (H : Heap) (locs : List Loc) (ls : Array Slot), E66_6 M5 = some (r, M') → zH w s M5 H locs → lv_has ls 4 [(0, .ref (za w 0))] → zGo p l e rX9_feed s m args below meth c (zQ w (some (.int r)) M') (zA w) H locs (F0 m 66 ls []) := by
        intro M5 H locs ls h hH hl
        rw [hE66_6] at h
        refine lv_aload_n G.x G.b dX9_feed_66 rfl (lv_at hl 0 rfl) ?_
        refine z_get (v := .ref (za w 31)) (k := 0) G hH.1 (cC0 hw) vc9 inU9 4 (by decide) u194 rfl dX9_feed_67 ?_
        refine z_get (v := .int (M5.1 31 2)) (k := 31) G hH.1 (cC31 hw) vc6 inU6 2 (by decide) u146 rfl dX9_feed_70 ?_
        exact z_retI G hr hlk hH h dX9_feed_73
      have n9 : ∀ (n : Nat) (M7 : zM) (x8 : Int32) (H : Heap) (locs : List Loc) (ls : Array Slot), zL2 (bX9_feed_39 a1 E66_6) n M7 x8 = some (r, M') → zH w s M7 H locs → lv_has ls 4 [(0, .ref (za w 0)), (1, .int a1), (3, .int x8)] → zGo p l e rX9_feed s m args below meth c (zQ w (some (.int r)) M') (zA w) H locs (F0 m 39 ls []) := by
        intro n
        induction n with
        | zero => intro M7 x8 H locs ls h; exact (zL2_0 h).elim
        | succ n ih9 =>
          intro M7 x8 H locs ls h hH hl
          obtain ⟨rc9, hrc9, h⟩ := zL2_s h
          rw [← hrc9] at ih9
          unfold bX9_feed_39 at h
          refine lv_iload_n G.x G.b dX9_feed_39 rfl (lv_at hl 2 rfl) ?_
          refine lv_if_lt (tgt := 66) G.x G.b dX9_feed_40 (by decide) (fun c10 => ?_) (fun c10 => ?_)
          · have h := z_if c10 h
            exact kE66_6 M7 H locs ls h hH (lv_sub hl [0] rfl)
          · have h := z_ifn c10 h
            refine lv_aload_n G.x G.b dX9_feed_43 rfl (lv_at hl 0 rfl) ?_
            refine z_get (v := .ref (za w 31)) (k := 0) G hH.1 (cC0 hw) vc9 inU9 4 (by decide) u194 rfl dX9_feed_44 ?_
            refine lv_iload_n G.x G.b dX9_feed_47 rfl (lv_at hl 1 rfl) ?_
            refine lv_bipush (v := (8 : Int32)) G.x G.b dX9_feed_48 (by decide) ?_
            refine lv_iload_n G.x G.b dX9_feed_50 rfl (lv_at hl 2 rfl) ?_
            refine lv_imul G.x G.b dX9_feed_51 ?_
            refine lv_iushr (v := (a1.toUInt32 >>> (((8 : Int32) * x8).toUInt32 &&& Int32.toUInt32 31)).toInt32) G.x G.b dX9_feed_52 rfl ?_
            refine lv_sipush (v := (255 : Int32)) G.x G.b dX9_feed_53 (by decide) ?_
            refine lv_iand G.x G.b dX9_feed_56 ?_
            obtain ⟨M11, eM11, h⟩ := z_bind h
            refine z_aftV (z_runV (k := 31) (As := [.int ((a1.toUInt32 >>> (((8 : Int32) * x8).toUInt32 &&& Int32.toUInt32 31)).toInt32 &&& (255 : Int32))]) (rest := []) G hH hl.1 (kX6_append l hw eM11) (cC31 hw) vc6 arX6_append u540 u541 u542 u9 u543 rfl rfl rfl (Nat.le_of_ble_eq_true rfl) (Nat.le_of_ble_eq_true rfl) rfl (Nat.le_of_ble_eq_true rfl) dX9_feed_57) hH (fun H locs hH => ?_)
            obtain ⟨x12, ex12, h⟩ := z_let h
            refine lv_iinc (v := x12) (lv' := [(3, .int x12), (0, .ref (za w 0)), (1, .int a1)]) G.x G.b dX9_feed_60 hl (k := 2) rfl (by rw [ex12]; rfl) (Nat.le_of_ble_eq_true rfl) rfl (fun ls hl => ?_)
            refine lv_goto (tgt := 39) G.x G.b dX9_feed_63 (by decide) ?_
            exact ih9 M11 x12 H locs ls h hH (lv_sub hl [1, 2, 0] rfl)
      exact n9 zFuel M0 x4 s.heap [] ls h hH (lv_sub hl [1, 2, 0] rfl)
    · have h := z_ifn c3 h
      refine lv_aload_n G.x G.b dX9_feed_29 rfl (lv_at hl 0 rfl) ?_
      refine lv_iconst (v := (1 : Int32)) G.x G.b dX9_feed_30 (by decide) ?_
      obtain ⟨x13, M14, eM14, h⟩ := z_b2 h
      refine z_aftI (z_runV (k := 0) (As := [.int (1 : Int32)]) (rest := []) G hH hl.1 (kX9_finding l hw eM14) (cC0 hw) vc9 arX9_finding u222 u224 us0 u1 u225 rfl rfl rfl (Nat.le_of_ble_eq_true rfl) (Nat.le_of_ble_eq_true rfl) rfl (Nat.le_of_ble_eq_true rfl) dX9_feed_31) hH (fun H locs hH => ?_)
      exact z_retI G hr hlk hH h dX9_feed_34
  · have h := z_if c2 h
    refine lv_aload_n G.x G.b dX9_feed_9 rfl (lv_at hl 0 rfl) ?_
    refine lv_iconst (v := (0 : Int32)) G.x G.b dX9_feed_10 (by decide) ?_
    obtain ⟨x15, M16, eM16, h⟩ := z_b2 h
    refine z_aftI (z_runV (k := 0) (As := [.int (0 : Int32)]) (rest := []) G hH hl.1 (kX9_finding l hw eM16) (cC0 hw) vc9 arX9_finding u222 u224 us0 u1 u225 rfl rfl rfl (Nat.le_of_ble_eq_true rfl) (Nat.le_of_ble_eq_true rfl) rfl (Nat.le_of_ble_eq_true rfl) dX9_feed_11) hH (fun H locs hH => ?_)
    exact z_retI G hr hlk hH h dX9_feed_14
def fX9_wipe (M0 : zM) : Option (Int32 × zM) :=
  (some (M0.1 31 2)).bind fun x1 =>
  (some (zst M0 31 2 (0 : Int32))).bind fun M2 =>
  some (x1, M2)
abbrev rX9_wipe : Room := { frames := 0, cells := 0, slots := 0, locals := 0 }
theorem arX9_wipe : zAr yX9_wipe RX9 0 := ⟨rfl, by decide, by decide, by decide +kernel⟩
set_option maxHeartbeats 4000000 in
theorem kX9_wipe (l : Launch) {w : zWd} (hw : zIsC w) {M0 M' : zM} {r : Int32} (h : fX9_wipe M0 = some (r, M')) : Met l yX9_wipe (Cond.code yX9_wipe cX9_wipe 2 (some .int) :: zU) rX9_wipe (zPre w M0 [.ref (za w 0)]) (zQ w (some (.int r)) M') 0 0 (zA w) := by
  refine z_metN (own := RX9) (lv := [(0, .ref (za w 0))]) hw.1 (by decide) (Nat.le_of_ble_eq_true rfl) rfl rfl ?_
  intro p e s m args below meth c G hr hlk hH ls hl
  unfold fX9_wipe at h
  refine lv_aload_n G.x G.b dX9_wipe_0 rfl (lv_at hl 0 rfl) ?_
  refine z_get (v := .ref (za w 31)) (k := 0) G hH.1 (cC0 hw) vc9 inU9 4 (by decide) u194 rfl dX9_wipe_1 ?_
  refine z_get (v := .int (M0.1 31 2)) (k := 31) G hH.1 (cC31 hw) vc6 inU6 2 (by decide) u146 rfl dX9_wipe_4 ?_
  obtain ⟨x1, ex1, h⟩ := z_let h
  refine z_nmI ex1 ?_
  refine lv_istore_n (lv' := [(1, .int x1), (0, .ref (za w 0))]) G.x G.b dX9_wipe_7 rfl hl (Nat.le_of_ble_eq_true rfl) rfl (fun ls hl => ?_)
  refine lv_aload_n G.x G.b dX9_wipe_8 rfl (lv_at hl 1 rfl) ?_
  refine z_get (v := .ref (za w 31)) (k := 0) G hH.1 (cC0 hw) vc9 inU9 4 (by decide) u194 rfl dX9_wipe_9 ?_
  refine lv_iconst (v := (0 : Int32)) G.x G.b dX9_wipe_12 (by decide) ?_
  obtain ⟨M2, eM2, h⟩ := z_let h
  refine z_putN (k := 31) G hH (cC31 hw) vc6 inU6 tyX6 tyX6_ok nmX6 2 (by decide) u146 rfl (ty := .int) rfl rfl rfl cP6_2 (Nat.le_of_ble_eq_true rfl) dX9_wipe_13 eM2 (fun H locs hH => ?_)
  refine lv_iload_n G.x G.b dX9_wipe_16 rfl (lv_at hl 0 rfl) ?_
  exact z_retI G hr hlk hH h dX9_wipe_17
def fX9_shop (M0 : zM) : Option (Int32 × zM) :=
  (fX7_become M0 11 1).bind fun M1 =>
  zb2 (fX6_tellAll M1) fun x2 M3 =>
  (some (zst M3 31 2 (0 : Int32))).bind fun M4 =>
  if x2 ≤ (0 : Int32) then (some (x2, M4)) else ((fX7_become M4 1 11).bind fun M6 =>
  some (x2, M6))
abbrev rX9_shop : Room := { frames := 8, cells := 0, slots := 0, locals := 172 }
theorem arX9_shop : zAr yX9_shop RX9 0 := ⟨rfl, by decide, by decide, by decide +kernel⟩
set_option maxHeartbeats 4000000 in
theorem kX9_shop (l : Launch) {w : zWd} (hw : zIsC w) {M0 M' : zM} {r : Int32} (h : fX9_shop M0 = some (r, M')) : Met l yX9_shop (Cond.code yX9_shop cX9_shop 2 (some .int) :: zU) rX9_shop (zPre w M0 [.ref (za w 0)]) (zQ w (some (.int r)) M') 0 0 (zA w) := by
  refine z_metN (own := RX9) (lv := [(0, .ref (za w 0))]) hw.1 (by decide) (Nat.le_of_ble_eq_true rfl) rfl rfl ?_
  intro p e s m args below meth c G hr hlk hH ls hl
  unfold fX9_shop at h
  refine lv_aload_n G.x G.b dX9_shop_0 rfl (lv_at hl 0 rfl) ?_
  refine z_get (v := .ref (za w 11)) (k := 0) G hH.1 (cC0 hw) vc9 inU9 1 (by decide) u191 rfl dX9_shop_1 ?_
  refine lv_aload_n G.x G.b dX9_shop_4 rfl (lv_at hl 0 rfl) ?_
  refine z_get (v := .ref (za w 1)) (k := 0) G hH.1 (cC0 hw) vc9 inU9 0 (by decide) u190 rfl dX9_shop_5 ?_
  obtain ⟨M1, eM1, h⟩ := z_bind h
  refine z_aftV (z_runV (k := 11) (As := [.ref (za w 1)]) (rest := []) G hH hl.1 (kX7_become l hw zT11 zT1 eM1) (cCt hw zT11) vc7 arX7_become u484 u485 u486 u8 u487 rfl rfl rfl (Nat.le_of_ble_eq_true rfl) (Nat.le_of_ble_eq_true rfl) rfl (Nat.le_of_ble_eq_true rfl) dX9_shop_8) hH (fun H locs hH => ?_)
  refine lv_aload_n G.x G.b dX9_shop_11 rfl (lv_at hl 0 rfl) ?_
  refine z_get (v := .ref (za w 31)) (k := 0) G hH.1 (cC0 hw) vc9 inU9 4 (by decide) u194 rfl dX9_shop_12 ?_
  obtain ⟨x2, M3, eM3, h⟩ := z_b2 h
  refine z_aftI (z_runV (k := 31) (As := []) (rest := []) G hH hl.1 (kX6_tellAll l hw eM3) (cC31 hw) vc6 arX6_tellAll u552 u553 u554 u9 u555 rfl rfl rfl (Nat.le_of_ble_eq_true rfl) (Nat.le_of_ble_eq_true rfl) rfl (Nat.le_of_ble_eq_true rfl) dX9_shop_15) hH (fun H locs hH => ?_)
  refine lv_istore_n (lv' := [(1, .int x2), (0, .ref (za w 0))]) G.x G.b dX9_shop_18 rfl hl (Nat.le_of_ble_eq_true rfl) rfl (fun ls hl => ?_)
  refine lv_aload_n G.x G.b dX9_shop_19 rfl (lv_at hl 1 rfl) ?_
  refine z_get (v := .ref (za w 31)) (k := 0) G hH.1 (cC0 hw) vc9 inU9 4 (by decide) u194 rfl dX9_shop_20 ?_
  refine lv_iconst (v := (0 : Int32)) G.x G.b dX9_shop_23 (by decide) ?_
  obtain ⟨M4, eM4, h⟩ := z_let h
  refine z_putN (k := 31) G hH (cC31 hw) vc6 inU6 tyX6 tyX6_ok nmX6 2 (by decide) u146 rfl (ty := .int) rfl rfl rfl cP6_2 (Nat.le_of_ble_eq_true rfl) dX9_shop_24 eM4 (fun H locs hH => ?_)
  refine lv_iload_n G.x G.b dX9_shop_27 rfl (lv_at hl 0 rfl) ?_
  refine lv_if_le (tgt := 42) G.x G.b dX9_shop_28 (by decide) (fun c5 => ?_) (fun c5 => ?_)
  · have h := z_if c5 h
    refine lv_iload_n G.x G.b dX9_shop_42 rfl (lv_at hl 0 rfl) ?_
    exact z_retI G hr hlk hH h dX9_shop_43
  · have h := z_ifn c5 h
    refine lv_aload_n G.x G.b dX9_shop_31 rfl (lv_at hl 1 rfl) ?_
    refine z_get (v := .ref (za w 1)) (k := 0) G hH.1 (cC0 hw) vc9 inU9 0 (by decide) u190 rfl dX9_shop_32 ?_
    refine lv_aload_n G.x G.b dX9_shop_35 rfl (lv_at hl 1 rfl) ?_
    refine z_get (v := .ref (za w 11)) (k := 0) G hH.1 (cC0 hw) vc9 inU9 1 (by decide) u191 rfl dX9_shop_36 ?_
    obtain ⟨M6, eM6, h⟩ := z_bind h
    refine z_aftV (z_runV (k := 1) (As := [.ref (za w 11)]) (rest := []) G hH hl.1 (kX7_become l hw zT1 zT11 eM6) (cCt hw zT1) vc7 arX7_become u484 u485 u486 u8 u487 rfl rfl rfl (Nat.le_of_ble_eq_true rfl) (Nat.le_of_ble_eq_true rfl) rfl (Nat.le_of_ble_eq_true rfl) dX9_shop_39) hH (fun H locs hH => ?_)
    refine lv_iload_n G.x G.b dX9_shop_42 rfl (lv_at hl 0 rfl) ?_
    exact z_retI G hr hlk hH h dX9_shop_43
def fX9_isSheet (a1 : Int32) : Option Int32 :=
  if a1 < (0 : Int32) then (zbl (0 : Int32)) else (if (4 : Int32) ≤ a1 then (zbl (0 : Int32)) else (zbl (1 : Int32)))
abbrev rX9_isSheet : Room := { frames := 0, cells := 0, slots := 0, locals := 0 }
theorem arX9_isSheet : zAr yX9_isSheet RX9 1 := ⟨rfl, by decide, by decide, by decide +kernel⟩
set_option maxHeartbeats 4000000 in
theorem kX9_isSheet (l : Launch) {w : zWd} (ho : zOk w) {M0 : zM} {a1 : Int32} {r : Int32} (h : fX9_isSheet a1 = some r) : Met l yX9_isSheet (Cond.code yX9_isSheet cX9_isSheet 1 (some .boolean) :: zU) rX9_isSheet (zPre w M0 [.int a1]) (zR (some (.int r))) 0 0 zNo := by
  refine z_metN (own := RX9) (lv := [(0, .int a1)]) ho (by decide) (Nat.le_of_ble_eq_true rfl) rfl rfl ?_
  intro p e s m args below meth c G hr hlk hH ls hl
  unfold fX9_isSheet at h
  refine lv_iload_n G.x G.b dX9_isSheet_0 rfl (lv_at hl 0 rfl) ?_
  refine lv_if_lt (tgt := 13) G.x G.b dX9_isSheet_1 (by decide) (fun c1 => ?_) (fun c1 => ?_)
  · have h := z_if c1 h
    refine lv_iconst (v := (0 : Int32)) G.x G.b dX9_isSheet_13 (by decide) ?_
    exact z_rtZ G hr hlk h dX9_isSheet_14
  · have h := z_ifn c1 h
    refine lv_iload_n G.x G.b dX9_isSheet_4 rfl (lv_at hl 0 rfl) ?_
    refine lv_iconst (v := (4 : Int32)) G.x G.b dX9_isSheet_5 (by decide) ?_
    refine lv_icmp_ge (tgt := 13) G.x G.b dX9_isSheet_6 (by decide) (fun c2 => ?_) (fun c2 => ?_)
    · have h := z_if c2 h
      refine lv_iconst (v := (0 : Int32)) G.x G.b dX9_isSheet_13 (by decide) ?_
      exact z_rtZ G hr hlk h dX9_isSheet_14
    · have h := z_ifn c2 h
      refine lv_iconst (v := (1 : Int32)) G.x G.b dX9_isSheet_9 (by decide) ?_
      refine lv_goto (tgt := 14) G.x G.b dX9_isSheet_10 (by decide) ?_
      exact z_rtZ G hr hlk h dX9_isSheet_14
def fX9_sheet (M0 : zM) (a1 : Int32) (a2 : Int32) (a3 : Int32) : Option (Int32 × zM) :=
  (fX9_isSheet a1).bind fun x1 =>
  if x1 = (0 : Int32) then (zb2 (fX9_finding M0 (0 : Int32)) fun x3 M4 =>
  some (x3, M4)) else (zj (if (0 : Int32) ≤ a3 then (if a3 ≤ (40 : Int32) then ((zix a1 4).bind fun j8 =>
  if a2 = (0 : Int32) then ((fX5_layOut M0 (42 + 2 * j8) a2 (0 : Int32)).bind fun M12 =>
  (zix a1 4).bind fun j13 =>
  some ((M12.1 (42 + 2 * j13) 2), M12)) else ((fX5_layOut M0 (42 + 2 * j8) a2 a3).bind fun M10 =>
  (zix a1 4).bind fun j11 =>
  some ((M10.1 (42 + 2 * j11) 2), M10))) else (zb2 (fX9_finding M0 (0 : Int32)) fun x14 M15 =>
  some (x14, M15))) else (zb2 (fX9_finding M0 (6 : Int32)) fun x16 M17 =>
  some (x16, M17))) fun J35_5 =>
  if a2 = (0 : Int32) then (J35_5) else (if a2 = (8 : Int32) then (J35_5) else (if a2 = (16 : Int32) then (J35_5) else (if a2 = (64 : Int32) then (J35_5) else (zb2 (fX9_finding M0 (0 : Int32)) fun x22 M23 =>
  some (x22, M23))))))
abbrev rX9_sheet : Room := { frames := 1, cells := 0, slots := 0, locals := 23 }
theorem arX9_sheet : zAr yX9_sheet RX9 3 := ⟨rfl, by decide, by decide, by decide +kernel⟩
set_option maxHeartbeats 4000000 in
theorem kX9_sheet (l : Launch) {w : zWd} (hw : zIsC w) {M0 M' : zM} {a1 : Int32} {a2 : Int32} {a3 : Int32} {r : Int32} (h : fX9_sheet M0 a1 a2 a3 = some (r, M')) : Met l yX9_sheet (Cond.code yX9_sheet cX9_sheet 4 (some .int) :: zU) rX9_sheet (zPre w M0 [.ref (za w 0), .int a1, .int a2, .int a3]) (zQ w (some (.int r)) M') 0 0 (zA w) := by
  refine z_metN (own := RX9) (lv := [(0, .ref (za w 0)), (1, .int a1), (2, .int a2), (3, .int a3)]) hw.1 (by decide) (Nat.le_of_ble_eq_true rfl) rfl rfl ?_
  intro p e s m args below meth c G hr hlk hH ls hl
  unfold fX9_sheet at h
  refine lv_iload_n G.x G.b dX9_sheet_0 rfl (lv_at hl 1 rfl) ?_
  obtain ⟨x1, ex1, h⟩ := z_bind h
  refine z_rdI (z_runS (As := [.int a1]) (rest := []) G hH hl.1 (kX9_isSheet l hw.1 ex1) arX9_isSheet u689 u690 u1 u691 rfl rfl rfl (Nat.le_of_ble_eq_true rfl) (Nat.le_of_ble_eq_true rfl) rfl (Nat.le_of_ble_eq_true rfl) dX9_sheet_1) ?_
  refine lv_if_eq (tgt := 29) G.x G.b dX9_sheet_4 (by decide) (fun c2 => ?_) (fun c2 => ?_)
  · have h := z_if c2 h
    refine lv_aload_n G.x G.b dX9_sheet_29 rfl (lv_at hl 0 rfl) ?_
    refine lv_iconst (v := (0 : Int32)) G.x G.b dX9_sheet_30 (by decide) ?_
    obtain ⟨x3, M4, eM4, h⟩ := z_b2 h
    refine z_aftI (z_runV (k := 0) (As := [.int (0 : Int32)]) (rest := []) G hH hl.1 (kX9_finding l hw eM4) (cC0 hw) vc9 arX9_finding u222 u224 us0 u1 u225 rfl rfl rfl (Nat.le_of_ble_eq_true rfl) (Nat.le_of_ble_eq_true rfl) rfl (Nat.le_of_ble_eq_true rfl) dX9_sheet_31) hH (fun H locs hH => ?_)
    exact z_retI G hr hlk hH h dX9_sheet_34
  · have h := z_ifn c2 h
    refine lv_iload_n G.x G.b dX9_sheet_7 rfl (lv_at hl 2 rfl) ?_
    obtain ⟨J35_5, hJ35_5, h⟩ := z_j h
    have kJ35_5 : ∀ (ls : Array Slot), J35_5 = some (r, M') → lv_has ls 4 [(0, .ref (za w 0)), (1, .int a1), (2, .int a2), (3, .int a3)] → zGo p l e rX9_sheet s m args below meth c (zQ w (some (.int r)) M') (zA w) s.heap [] (F0 m 35 ls []) := by
      intro ls h hl
      rw [hJ35_5] at h
      refine lv_iload_n G.x G.b dX9_sheet_35 rfl (lv_at hl 3 rfl) ?_
      refine lv_if_ge (tgt := 46) G.x G.b dX9_sheet_36 (by decide) (fun c6 => ?_) (fun c6 => ?_)
      · have h := z_if c6 h
        refine lv_iload_n G.x G.b dX9_sheet_46 rfl (lv_at hl 3 rfl) ?_
        refine lv_bipush (v := (40 : Int32)) G.x G.b dX9_sheet_47 (by decide) ?_
        refine lv_icmp_le (tgt := 58) G.x G.b dX9_sheet_49 (by decide) (fun c7 => ?_) (fun c7 => ?_)
        · have h := z_if c7 h
          refine lv_aload_n G.x G.b dX9_sheet_58 rfl (lv_at hl 0 rfl) ?_
          refine z_get (v := .ref (za w 34)) (k := 0) G hH.1 (cC0 hw) vc9 inU9 5 (by decide) u195 rfl dX9_sheet_59 ?_
          refine lv_iload_n G.x G.b dX9_sheet_62 rfl (lv_at hl 1 rfl) ?_
          obtain ⟨j8, ej8, h⟩ := z_bind h
          refine z_aald (k := 34) G hH.1 (cC34 hw) ej8 dX9_sheet_63 ?_
          refine lv_iload_n G.x G.b dX9_sheet_64 rfl (lv_at hl 2 rfl) ?_
          refine lv_iload_n G.x G.b dX9_sheet_65 rfl (lv_at hl 2 rfl) ?_
          refine lv_if_ne (tgt := 73) G.x G.b dX9_sheet_66 (by decide) (fun c9 => ?_) (fun c9 => ?_)
          · have h := z_ifn c9 h
            refine lv_iload_n G.x G.b dX9_sheet_73 rfl (lv_at hl 3 rfl) ?_
            obtain ⟨M10, eM10, h⟩ := z_bind h
            refine z_aftV (z_runV (k := (42 + 2 * j8)) (As := [.int a2, .int a3]) (rest := []) G hH hl.1 (kX5_layOut l hw (zS_of ej8) eM10) (cCs hw (zS_of ej8)) vc5 arX5_layOut u692 u693 u694 u10 u695 rfl rfl rfl (Nat.le_of_ble_eq_true rfl) (Nat.le_of_ble_eq_true rfl) rfl (Nat.le_of_ble_eq_true rfl) dX9_sheet_74) hH (fun H locs hH => ?_)
            refine lv_aload_n G.x G.b dX9_sheet_77 rfl (lv_at hl 0 rfl) ?_
            refine z_get (v := .ref (za w 34)) (k := 0) G hH.1 (cC0 hw) vc9 inU9 5 (by decide) u195 rfl dX9_sheet_78 ?_
            refine lv_iload_n G.x G.b dX9_sheet_81 rfl (lv_at hl 1 rfl) ?_
            obtain ⟨j11, ej11, h⟩ := z_bind h
            refine z_aald (k := 34) G hH.1 (cC34 hw) ej11 dX9_sheet_82 ?_
            refine z_get (v := .int (M10.1 (42 + 2 * j11) 2)) (k := (42 + 2 * j11)) G hH.1 (cCs hw (zS_of ej11)) vc5 inU5 2 (by decide) u181 rfl dX9_sheet_83 ?_
            exact z_retI G hr hlk hH h dX9_sheet_86
          · have h := z_if c9 h
            refine lv_iconst (v := (0 : Int32)) G.x G.b dX9_sheet_69 (by decide) ?_
            refine lv_goto (tgt := 74) G.x G.b dX9_sheet_70 (by decide) ?_
            obtain ⟨M12, eM12, h⟩ := z_bind h
            refine z_aftV (z_runV (k := (42 + 2 * j8)) (As := [.int a2, .int (0 : Int32)]) (rest := []) G hH hl.1 (kX5_layOut l hw (zS_of ej8) eM12) (cCs hw (zS_of ej8)) vc5 arX5_layOut u692 u693 u694 u10 u695 rfl rfl rfl (Nat.le_of_ble_eq_true rfl) (Nat.le_of_ble_eq_true rfl) rfl (Nat.le_of_ble_eq_true rfl) dX9_sheet_74) hH (fun H locs hH => ?_)
            refine lv_aload_n G.x G.b dX9_sheet_77 rfl (lv_at hl 0 rfl) ?_
            refine z_get (v := .ref (za w 34)) (k := 0) G hH.1 (cC0 hw) vc9 inU9 5 (by decide) u195 rfl dX9_sheet_78 ?_
            refine lv_iload_n G.x G.b dX9_sheet_81 rfl (lv_at hl 1 rfl) ?_
            obtain ⟨j13, ej13, h⟩ := z_bind h
            refine z_aald (k := 34) G hH.1 (cC34 hw) ej13 dX9_sheet_82 ?_
            refine z_get (v := .int (M12.1 (42 + 2 * j13) 2)) (k := (42 + 2 * j13)) G hH.1 (cCs hw (zS_of ej13)) vc5 inU5 2 (by decide) u181 rfl dX9_sheet_83 ?_
            exact z_retI G hr hlk hH h dX9_sheet_86
        · have h := z_ifn c7 h
          refine lv_aload_n G.x G.b dX9_sheet_52 rfl (lv_at hl 0 rfl) ?_
          refine lv_iconst (v := (0 : Int32)) G.x G.b dX9_sheet_53 (by decide) ?_
          obtain ⟨x14, M15, eM15, h⟩ := z_b2 h
          refine z_aftI (z_runV (k := 0) (As := [.int (0 : Int32)]) (rest := []) G hH hl.1 (kX9_finding l hw eM15) (cC0 hw) vc9 arX9_finding u222 u224 us0 u1 u225 rfl rfl rfl (Nat.le_of_ble_eq_true rfl) (Nat.le_of_ble_eq_true rfl) rfl (Nat.le_of_ble_eq_true rfl) dX9_sheet_54) hH (fun H locs hH => ?_)
          exact z_retI G hr hlk hH h dX9_sheet_57
      · have h := z_ifn c6 h
        refine lv_aload_n G.x G.b dX9_sheet_39 rfl (lv_at hl 0 rfl) ?_
        refine lv_bipush (v := (6 : Int32)) G.x G.b dX9_sheet_40 (by decide) ?_
        obtain ⟨x16, M17, eM17, h⟩ := z_b2 h
        refine z_aftI (z_runV (k := 0) (As := [.int (6 : Int32)]) (rest := []) G hH hl.1 (kX9_finding l hw eM17) (cC0 hw) vc9 arX9_finding u222 u224 us0 u1 u225 rfl rfl rfl (Nat.le_of_ble_eq_true rfl) (Nat.le_of_ble_eq_true rfl) rfl (Nat.le_of_ble_eq_true rfl) dX9_sheet_42) hH (fun H locs hH => ?_)
        exact z_retI G hr hlk hH h dX9_sheet_45
    refine lv_if_eq (tgt := 35) G.x G.b dX9_sheet_8 (by decide) (fun c18 => ?_) (fun c18 => ?_)
    · have h := z_if c18 h
      exact kJ35_5 ls h (lv_sub hl [0, 1, 2, 3] rfl)
    · have h := z_ifn c18 h
      refine lv_iload_n G.x G.b dX9_sheet_11 rfl (lv_at hl 2 rfl) ?_
      refine lv_bipush (v := (8 : Int32)) G.x G.b dX9_sheet_12 (by decide) ?_
      refine lv_icmp_eq (tgt := 35) G.x G.b dX9_sheet_14 (by decide) (fun c19 => ?_) (fun c19 => ?_)
      · have h := z_if c19 h
        exact kJ35_5 ls h (lv_sub hl [0, 1, 2, 3] rfl)
      · have h := z_ifn c19 h
        refine lv_iload_n G.x G.b dX9_sheet_17 rfl (lv_at hl 2 rfl) ?_
        refine lv_bipush (v := (16 : Int32)) G.x G.b dX9_sheet_18 (by decide) ?_
        refine lv_icmp_eq (tgt := 35) G.x G.b dX9_sheet_20 (by decide) (fun c20 => ?_) (fun c20 => ?_)
        · have h := z_if c20 h
          exact kJ35_5 ls h (lv_sub hl [0, 1, 2, 3] rfl)
        · have h := z_ifn c20 h
          refine lv_iload_n G.x G.b dX9_sheet_23 rfl (lv_at hl 2 rfl) ?_
          refine lv_bipush (v := (64 : Int32)) G.x G.b dX9_sheet_24 (by decide) ?_
          refine lv_icmp_eq (tgt := 35) G.x G.b dX9_sheet_26 (by decide) (fun c21 => ?_) (fun c21 => ?_)
          · have h := z_if c21 h
            exact kJ35_5 ls h (lv_sub hl [0, 1, 2, 3] rfl)
          · have h := z_ifn c21 h
            refine lv_aload_n G.x G.b dX9_sheet_29 rfl (lv_at hl 0 rfl) ?_
            refine lv_iconst (v := (0 : Int32)) G.x G.b dX9_sheet_30 (by decide) ?_
            obtain ⟨x22, M23, eM23, h⟩ := z_b2 h
            refine z_aftI (z_runV (k := 0) (As := [.int (0 : Int32)]) (rest := []) G hH hl.1 (kX9_finding l hw eM23) (cC0 hw) vc9 arX9_finding u222 u224 us0 u1 u225 rfl rfl rfl (Nat.le_of_ble_eq_true rfl) (Nat.le_of_ble_eq_true rfl) rfl (Nat.le_of_ble_eq_true rfl) dX9_sheet_31) hH (fun H locs hH => ?_)
            exact z_retI G hr hlk hH h dX9_sheet_34
def fX9_write (M0 : zM) (a1 : Int32) (a2 : Int32) (a3 : Int64) : Option (Int64 × zM) :=
  (fX9_isSheet a1).bind fun x1 =>
  if x1 = (0 : Int32) then (zb2 (fX9_finding M0 (0 : Int32)) fun x17 M18 =>
  some (x17.toInt64, M18)) else ((zix a1 4).bind fun j3 =>
  (fX5_isMissing M0 (42 + 2 * j3)).bind fun x4 =>
  if x4 = (0 : Int32) then (if a2 < (0 : Int32) then (zb2 (fX9_finding M0 (0 : Int32)) fun x7 M8 =>
  some (x7.toInt64, M8)) else (if a2 < (M0.1 (42 + 2 * j3) 2) then ((zix a2 40).bind fun j10 =>
  (some (M0.2 ((42 + 2 * j3) + 1) j10)).bind fun y11 =>
  (fX5_put M0 (42 + 2 * j3) a2 a3).bind fun M12 =>
  some (y11, M12)) else (zb2 (fX9_finding M0 (0 : Int32)) fun x13 M14 =>
  some (x13.toInt64, M14)))) else (zb2 (fX9_finding M0 (5 : Int32)) fun x15 M16 =>
  some (x15.toInt64, M16)))
abbrev rX9_write : Room := { frames := 1, cells := 0, slots := 0, locals := 23 }
theorem arX9_write : zAr yX9_write RX9 3 := ⟨rfl, by decide, by decide, by decide +kernel⟩
set_option maxHeartbeats 4000000 in
theorem kX9_write (l : Launch) {w : zWd} (hw : zIsC w) {M0 M' : zM} {a1 : Int32} {a2 : Int32} {a3 : Int64} {r : Int64} (h : fX9_write M0 a1 a2 a3 = some (r, M')) : Met l yX9_write (Cond.code yX9_write cX9_write 8 (some .long) :: zU) rX9_write (zPre w M0 [.ref (za w 0), .int a1, .int a2, .long a3]) (zQ w (some (.long r)) M') 0 0 (zA w) := by
  refine z_metN (own := RX9) (lv := [(0, .ref (za w 0)), (1, .int a1), (2, .int a2), (3, .long a3)]) hw.1 (by decide) (Nat.le_of_ble_eq_true rfl) rfl rfl ?_
  intro p e s m args below meth c G hr hlk hH ls hl
  unfold fX9_write at h
  refine lv_iload_n G.x G.b dX9_write_0 rfl (lv_at hl 1 rfl) ?_
  obtain ⟨x1, ex1, h⟩ := z_bind h
  refine z_rdI (z_runS (As := [.int a1]) (rest := []) G hH hl.1 (kX9_isSheet l hw.1 ex1) arX9_isSheet u689 u690 u1 u691 rfl rfl rfl (Nat.le_of_ble_eq_true rfl) (Nat.le_of_ble_eq_true rfl) rfl (Nat.le_of_ble_eq_true rfl) dX9_write_1) ?_
  refine lv_if_ne (tgt := 14) G.x G.b dX9_write_4 (by decide) (fun c2 => ?_) (fun c2 => ?_)
  · have h := z_ifn c2 h
    refine lv_aload_n G.x G.b dX9_write_14 rfl (lv_at hl 0 rfl) ?_
    refine z_get (v := .ref (za w 34)) (k := 0) G hH.1 (cC0 hw) vc9 inU9 5 (by decide) u195 rfl dX9_write_15 ?_
    refine lv_iload_n G.x G.b dX9_write_18 rfl (lv_at hl 1 rfl) ?_
    obtain ⟨j3, ej3, h⟩ := z_bind h
    refine z_aald (k := 34) G hH.1 (cC34 hw) ej3 dX9_write_19 ?_
    refine lv_astore (lv' := [(5, .ref (za w (42 + 2 * j3))), (0, .ref (za w 0)), (1, .int a1), (2, .int a2), (3, .long a3)]) G.x G.b dX9_write_20 hl (Nat.le_of_ble_eq_true rfl) rfl (fun ls hl => ?_)
    refine lv_aload G.x G.b dX9_write_22 (lv_at hl 0 rfl) ?_
    obtain ⟨x4, ex4, h⟩ := z_bind h
    refine z_rdI (z_runV (k := (42 + 2 * j3)) (As := []) (rest := []) G hH hl.1 (kX5_isMissing l hw (zS_of ej3) ex4) (cCs hw (zS_of ej3)) vc5 arX5_isMissing u700 u701 u702 u10 u703 rfl rfl rfl (Nat.le_of_ble_eq_true rfl) (Nat.le_of_ble_eq_true rfl) rfl (Nat.le_of_ble_eq_true rfl) dX9_write_24) ?_
    refine lv_if_eq (tgt := 37) G.x G.b dX9_write_27 (by decide) (fun c5 => ?_) (fun c5 => ?_)
    · have h := z_if c5 h
      refine lv_iload_n G.x G.b dX9_write_37 rfl (lv_at hl 3 rfl) ?_
      refine lv_if_lt (tgt := 50) G.x G.b dX9_write_38 (by decide) (fun c6 => ?_) (fun c6 => ?_)
      · have h := z_if c6 h
        refine lv_aload_n G.x G.b dX9_write_50 rfl (lv_at hl 1 rfl) ?_
        refine lv_iconst (v := (0 : Int32)) G.x G.b dX9_write_51 (by decide) ?_
        obtain ⟨x7, M8, eM8, h⟩ := z_b2 h
        refine z_aftI (z_runV (k := 0) (As := [.int (0 : Int32)]) (rest := []) G hH hl.1 (kX9_finding l hw eM8) (cC0 hw) vc9 arX9_finding u222 u224 us0 u1 u225 rfl rfl rfl (Nat.le_of_ble_eq_true rfl) (Nat.le_of_ble_eq_true rfl) rfl (Nat.le_of_ble_eq_true rfl) dX9_write_52) hH (fun H locs hH => ?_)
        refine lv_i2l (v := x7.toInt64) G.x G.b dX9_write_55 rfl ?_
        exact z_retL G hr hlk hH h dX9_write_56
      · have h := z_ifn c6 h
        refine lv_iload_n G.x G.b dX9_write_41 rfl (lv_at hl 3 rfl) ?_
        refine lv_aload G.x G.b dX9_write_42 (lv_at hl 0 rfl) ?_
        refine z_get (v := .int (M0.1 (42 + 2 * j3) 2)) (k := (42 + 2 * j3)) G hH.1 (cCs hw (zS_of ej3)) vc5 inU5 2 (by decide) u181 rfl dX9_write_44 ?_
        refine lv_icmp_lt (tgt := 57) G.x G.b dX9_write_47 (by decide) (fun c9 => ?_) (fun c9 => ?_)
        · have h := z_if c9 h
          refine lv_aload G.x G.b dX9_write_57 (lv_at hl 0 rfl) ?_
          refine z_get (v := .ref (za w ((42 + 2 * j3) + 1))) (k := (42 + 2 * j3)) G hH.1 (cCs hw (zS_of ej3)) vc5 inU5 0 (by decide) u177 rfl dX9_write_59 ?_
          refine lv_iload_n G.x G.b dX9_write_62 rfl (lv_at hl 3 rfl) ?_
          obtain ⟨j10, ej10, h⟩ := z_bind h
          refine z_lald (k := ((42 + 2 * j3) + 1)) G hH.1 (cCs1 hw (zS_of ej3)) ej10 dX9_write_63 ?_
          obtain ⟨y11, ey11, h⟩ := z_let h
          refine z_nmL ey11 ?_
          refine lv_lstore (lv' := [(6, .long y11), (5, .ref (za w (42 + 2 * j3))), (0, .ref (za w 0)), (1, .int a1), (2, .int a2), (3, .long a3)]) G.x G.b dX9_write_64 hl (Nat.le_of_ble_eq_true rfl) rfl (fun ls hl => ?_)
          refine lv_aload G.x G.b dX9_write_66 (lv_at hl 1 rfl) ?_
          refine lv_iload_n G.x G.b dX9_write_68 rfl (lv_at hl 4 rfl) ?_
          refine lv_lload_n G.x G.b dX9_write_69 rfl (lv_at hl 5 rfl) ?_
          obtain ⟨M12, eM12, h⟩ := z_bind h
          refine z_aftV (z_runV (k := (42 + 2 * j3)) (As := [.int a2, .long a3]) (rest := []) G hH hl.1 (kX5_put l hw (zS_of ej3) eM12) (cCs hw (zS_of ej3)) vc5 arX5_put u704 u705 u706 u10 u707 rfl rfl rfl (Nat.le_of_ble_eq_true rfl) (Nat.le_of_ble_eq_true rfl) rfl (Nat.le_of_ble_eq_true rfl) dX9_write_70) hH (fun H locs hH => ?_)
          refine lv_lload G.x G.b dX9_write_73 (lv_at hl 0 rfl) ?_
          exact z_retL G hr hlk hH h dX9_write_75
        · have h := z_ifn c9 h
          refine lv_aload_n G.x G.b dX9_write_50 rfl (lv_at hl 1 rfl) ?_
          refine lv_iconst (v := (0 : Int32)) G.x G.b dX9_write_51 (by decide) ?_
          obtain ⟨x13, M14, eM14, h⟩ := z_b2 h
          refine z_aftI (z_runV (k := 0) (As := [.int (0 : Int32)]) (rest := []) G hH hl.1 (kX9_finding l hw eM14) (cC0 hw) vc9 arX9_finding u222 u224 us0 u1 u225 rfl rfl rfl (Nat.le_of_ble_eq_true rfl) (Nat.le_of_ble_eq_true rfl) rfl (Nat.le_of_ble_eq_true rfl) dX9_write_52) hH (fun H locs hH => ?_)
          refine lv_i2l (v := x13.toInt64) G.x G.b dX9_write_55 rfl ?_
          exact z_retL G hr hlk hH h dX9_write_56
    · have h := z_ifn c5 h
      refine lv_aload_n G.x G.b dX9_write_30 rfl (lv_at hl 1 rfl) ?_
      refine lv_iconst (v := (5 : Int32)) G.x G.b dX9_write_31 (by decide) ?_
      obtain ⟨x15, M16, eM16, h⟩ := z_b2 h
      refine z_aftI (z_runV (k := 0) (As := [.int (5 : Int32)]) (rest := []) G hH hl.1 (kX9_finding l hw eM16) (cC0 hw) vc9 arX9_finding u222 u224 us0 u1 u225 rfl rfl rfl (Nat.le_of_ble_eq_true rfl) (Nat.le_of_ble_eq_true rfl) rfl (Nat.le_of_ble_eq_true rfl) dX9_write_32) hH (fun H locs hH => ?_)
      refine lv_i2l (v := x15.toInt64) G.x G.b dX9_write_35 rfl ?_
      exact z_retL G hr hlk hH h dX9_write_36
  · have h := z_if c2 h
    refine lv_aload_n G.x G.b dX9_write_7 rfl (lv_at hl 0 rfl) ?_
    refine lv_iconst (v := (0 : Int32)) G.x G.b dX9_write_8 (by decide) ?_
    obtain ⟨x17, M18, eM18, h⟩ := z_b2 h
    refine z_aftI (z_runV (k := 0) (As := [.int (0 : Int32)]) (rest := []) G hH hl.1 (kX9_finding l hw eM18) (cC0 hw) vc9 arX9_finding u222 u224 us0 u1 u225 rfl rfl rfl (Nat.le_of_ble_eq_true rfl) (Nat.le_of_ble_eq_true rfl) rfl (Nat.le_of_ble_eq_true rfl) dX9_write_9) hH (fun H locs hH => ?_)
    refine lv_i2l (v := x17.toInt64) G.x G.b dX9_write_12 rfl ?_
    exact z_retL G hr hlk hH h dX9_write_13
def fX9_copy (M0 : zM) (a1 : Int32) (a2 : Int32) (a3 : Int32) (a4 : Int32) (a5 : Int32) : Option (Int32 × zM) :=
  (fX9_isSheet a1).bind fun x1 =>
  if x1 = (0 : Int32) then (zb2 (fX9_finding M0 (0 : Int32)) fun x3 M4 =>
  some (x3, M4)) else ((fX9_isSheet a3).bind fun x5 =>
  if x5 = (0 : Int32) then (zb2 (fX9_finding M0 (0 : Int32)) fun x30 M31 =>
  some (x30, M31)) else ((zix a1 4).bind fun j7 =>
  (zix a3 4).bind fun j8 =>
  (fX5_isMissing M0 (42 + 2 * j7)).bind fun x9 =>
  if x9 = (0 : Int32) then ((fX5_isMissing M0 (42 + 2 * j8)).bind fun x13 =>
  if x13 = (0 : Int32) then (if (M0.1 (42 + 2 * j7) 1) = (M0.1 (42 + 2 * j8) 1) then ((fX5_hasSpan M0 (42 + 2 * j7) a2 a5).bind fun x16 =>
  if x16 = (0 : Int32) then (zb2 (fX9_finding M0 (0 : Int32)) fun x18 M19 =>
  some (x18, M19)) else ((fX5_hasSpan M0 (42 + 2 * j8) a4 a5).bind fun x20 =>
  if x20 = (0 : Int32) then (zb2 (fX9_finding M0 (0 : Int32)) fun x24 M25 =>
  some (x24, M25)) else ((zcpT a2 a4 a5 40 40).bind fun u22 =>
  (some (zcpL M0 ((42 + 2 * j7) + 1) ((42 + 2 * j8) + 1) a2.toNatClampNeg a4.toNatClampNeg a5.toNatClampNeg)).bind fun M23 =>
  some (a5, M23)))) else (zb2 (fX9_finding M0 (2 : Int32)) fun x26 M27 =>
  some (x26, M27))) else (zb2 (fX9_finding M0 (5 : Int32)) fun x28 M29 =>
  some (x28, M29))) else (zb2 (fX9_finding M0 (5 : Int32)) fun x11 M12 =>
  some (x11, M12))))
abbrev rX9_copy : Room := { frames := 1, cells := 0, slots := 0, locals := 40 }
theorem arX9_copy : zAr yX9_copy RX9 5 := ⟨rfl, by decide, by decide, by decide +kernel⟩
set_option maxHeartbeats 4000000 in
theorem kX9_copy (l : Launch) {w : zWd} (hw : zIsC w) {M0 M' : zM} {a1 : Int32} {a2 : Int32} {a3 : Int32} {a4 : Int32} {a5 : Int32} {r : Int32} (h : fX9_copy M0 a1 a2 a3 a4 a5 = some (r, M')) : Met l yX9_copy (Cond.code yX9_copy cX9_copy 8 (some .int) :: zU) rX9_copy (zPre w M0 [.ref (za w 0), .int a1, .int a2, .int a3, .int a4, .int a5]) (zQ w (some (.int r)) M') 0 0 (zA w) := by
  refine z_metN (own := RX9) (lv := [(0, .ref (za w 0)), (1, .int a1), (2, .int a2), (3, .int a3), (4, .int a4), (5, .int a5)]) hw.1 (by decide) (Nat.le_of_ble_eq_true rfl) rfl rfl ?_
  intro p e s m args below meth c G hr hlk hH ls hl
  unfold fX9_copy at h
  refine lv_iload_n G.x G.b dX9_copy_0 rfl (lv_at hl 1 rfl) ?_
  obtain ⟨x1, ex1, h⟩ := z_bind h
  refine z_rdI (z_runS (As := [.int a1]) (rest := []) G hH hl.1 (kX9_isSheet l hw.1 ex1) arX9_isSheet u689 u690 u1 u691 rfl rfl rfl (Nat.le_of_ble_eq_true rfl) (Nat.le_of_ble_eq_true rfl) rfl (Nat.le_of_ble_eq_true rfl) dX9_copy_1) ?_
  refine lv_if_eq (tgt := 14) G.x G.b dX9_copy_4 (by decide) (fun c2 => ?_) (fun c2 => ?_)
  · have h := z_if c2 h
    refine lv_aload_n G.x G.b dX9_copy_14 rfl (lv_at hl 0 rfl) ?_
    refine lv_iconst (v := (0 : Int32)) G.x G.b dX9_copy_15 (by decide) ?_
    obtain ⟨x3, M4, eM4, h⟩ := z_b2 h
    refine z_aftI (z_runV (k := 0) (As := [.int (0 : Int32)]) (rest := []) G hH hl.1 (kX9_finding l hw eM4) (cC0 hw) vc9 arX9_finding u222 u224 us0 u1 u225 rfl rfl rfl (Nat.le_of_ble_eq_true rfl) (Nat.le_of_ble_eq_true rfl) rfl (Nat.le_of_ble_eq_true rfl) dX9_copy_16) hH (fun H locs hH => ?_)
    exact z_retI G hr hlk hH h dX9_copy_19
  · have h := z_ifn c2 h
    refine lv_iload_n G.x G.b dX9_copy_7 rfl (lv_at hl 3 rfl) ?_
    obtain ⟨x5, ex5, h⟩ := z_bind h
    refine z_rdI (z_runS (As := [.int a3]) (rest := []) G hH hl.1 (kX9_isSheet l hw.1 ex5) arX9_isSheet u689 u690 u1 u691 rfl rfl rfl (Nat.le_of_ble_eq_true rfl) (Nat.le_of_ble_eq_true rfl) rfl (Nat.le_of_ble_eq_true rfl) dX9_copy_8) ?_
    refine lv_if_ne (tgt := 20) G.x G.b dX9_copy_11 (by decide) (fun c6 => ?_) (fun c6 => ?_)
    · have h := z_ifn c6 h
      refine lv_aload_n G.x G.b dX9_copy_20 rfl (lv_at hl 0 rfl) ?_
      refine z_get (v := .ref (za w 34)) (k := 0) G hH.1 (cC0 hw) vc9 inU9 5 (by decide) u195 rfl dX9_copy_21 ?_
      refine lv_iload_n G.x G.b dX9_copy_24 rfl (lv_at hl 1 rfl) ?_
      obtain ⟨j7, ej7, h⟩ := z_bind h
      refine z_aald (k := 34) G hH.1 (cC34 hw) ej7 dX9_copy_25 ?_
      refine lv_astore (lv' := [(6, .ref (za w (42 + 2 * j7))), (0, .ref (za w 0)), (1, .int a1), (2, .int a2), (3, .int a3), (4, .int a4), (5, .int a5)]) G.x G.b dX9_copy_26 hl (Nat.le_of_ble_eq_true rfl) rfl (fun ls hl => ?_)
      refine lv_aload_n G.x G.b dX9_copy_28 rfl (lv_at hl 1 rfl) ?_
      refine z_get (v := .ref (za w 34)) (k := 0) G hH.1 (cC0 hw) vc9 inU9 5 (by decide) u195 rfl dX9_copy_29 ?_
      refine lv_iload_n G.x G.b dX9_copy_32 rfl (lv_at hl 4 rfl) ?_
      obtain ⟨j8, ej8, h⟩ := z_bind h
      refine z_aald (k := 34) G hH.1 (cC34 hw) ej8 dX9_copy_33 ?_
      refine lv_astore (lv' := [(7, .ref (za w (42 + 2 * j8))), (6, .ref (za w (42 + 2 * j7))), (0, .ref (za w 0)), (1, .int a1), (2, .int a2), (3, .int a3), (4, .int a4), (5, .int a5)]) G.x G.b dX9_copy_34 hl (Nat.le_of_ble_eq_true rfl) rfl (fun ls hl => ?_)
      refine lv_aload G.x G.b dX9_copy_36 (lv_at hl 1 rfl) ?_
      obtain ⟨x9, ex9, h⟩ := z_bind h
      refine z_rdI (z_runV (k := (42 + 2 * j7)) (As := []) (rest := []) G hH hl.1 (kX5_isMissing l hw (zS_of ej7) ex9) (cCs hw (zS_of ej7)) vc5 arX5_isMissing u700 u701 u702 u10 u703 rfl rfl rfl (Nat.le_of_ble_eq_true rfl) (Nat.le_of_ble_eq_true rfl) rfl (Nat.le_of_ble_eq_true rfl) dX9_copy_38) ?_
      refine lv_if_ne (tgt := 52) G.x G.b dX9_copy_41 (by decide) (fun c10 => ?_) (fun c10 => ?_)
      · have h := z_ifn c10 h
        refine lv_aload_n G.x G.b dX9_copy_52 rfl (lv_at hl 2 rfl) ?_
        refine lv_iconst (v := (5 : Int32)) G.x G.b dX9_copy_53 (by decide) ?_
        obtain ⟨x11, M12, eM12, h⟩ := z_b2 h
        refine z_aftI (z_runV (k := 0) (As := [.int (5 : Int32)]) (rest := []) G hH hl.1 (kX9_finding l hw eM12) (cC0 hw) vc9 arX9_finding u222 u224 us0 u1 u225 rfl rfl rfl (Nat.le_of_ble_eq_true rfl) (Nat.le_of_ble_eq_true rfl) rfl (Nat.le_of_ble_eq_true rfl) dX9_copy_54) hH (fun H locs hH => ?_)
        exact z_retI G hr hlk hH h dX9_copy_57
      · have h := z_if c10 h
        refine lv_aload G.x G.b dX9_copy_44 (lv_at hl 0 rfl) ?_
        obtain ⟨x13, ex13, h⟩ := z_bind h
        refine z_rdI (z_runV (k := (42 + 2 * j8)) (As := []) (rest := []) G hH hl.1 (kX5_isMissing l hw (zS_of ej8) ex13) (cCs hw (zS_of ej8)) vc5 arX5_isMissing u700 u701 u702 u10 u703 rfl rfl rfl (Nat.le_of_ble_eq_true rfl) (Nat.le_of_ble_eq_true rfl) rfl (Nat.le_of_ble_eq_true rfl) dX9_copy_46) ?_
        refine lv_if_eq (tgt := 58) G.x G.b dX9_copy_49 (by decide) (fun c14 => ?_) (fun c14 => ?_)
        · have h := z_if c14 h
          refine lv_aload G.x G.b dX9_copy_58 (lv_at hl 1 rfl) ?_
          refine z_get (v := .int (M0.1 (42 + 2 * j7) 1)) (k := (42 + 2 * j7)) G hH.1 (cCs hw (zS_of ej7)) vc5 inU5 1 (by decide) u179 rfl dX9_copy_60 ?_
          refine lv_aload G.x G.b dX9_copy_63 (lv_at hl 0 rfl) ?_
          refine z_get (v := .int (M0.1 (42 + 2 * j8) 1)) (k := (42 + 2 * j8)) G hH.1 (cCs hw (zS_of ej8)) vc5 inU5 1 (by decide) u179 rfl dX9_copy_65 ?_
          refine lv_icmp_eq (tgt := 77) G.x G.b dX9_copy_68 (by decide) (fun c15 => ?_) (fun c15 => ?_)
          · have h := z_if c15 h
            refine lv_aload G.x G.b dX9_copy_77 (lv_at hl 1 rfl) ?_
            refine lv_iload_n G.x G.b dX9_copy_79 rfl (lv_at hl 4 rfl) ?_
            refine lv_iload G.x G.b dX9_copy_80 (lv_at hl 7 rfl) ?_
            obtain ⟨x16, ex16, h⟩ := z_bind h
            refine z_rdI (z_runV (k := (42 + 2 * j7)) (As := [.int a2, .int a5]) (rest := []) G hH hl.1 (kX5_hasSpan l hw (zS_of ej7) ex16) (cCs hw (zS_of ej7)) vc5 arX5_hasSpan u712 u713 u714 u10 u715 rfl rfl rfl (Nat.le_of_ble_eq_true rfl) (Nat.le_of_ble_eq_true rfl) rfl (Nat.le_of_ble_eq_true rfl) dX9_copy_82) ?_
            refine lv_if_eq (tgt := 100) G.x G.b dX9_copy_85 (by decide) (fun c17 => ?_) (fun c17 => ?_)
            · have h := z_if c17 h
              refine lv_aload_n G.x G.b dX9_copy_100 rfl (lv_at hl 2 rfl) ?_
              refine lv_iconst (v := (0 : Int32)) G.x G.b dX9_copy_101 (by decide) ?_
              obtain ⟨x18, M19, eM19, h⟩ := z_b2 h
              refine z_aftI (z_runV (k := 0) (As := [.int (0 : Int32)]) (rest := []) G hH hl.1 (kX9_finding l hw eM19) (cC0 hw) vc9 arX9_finding u222 u224 us0 u1 u225 rfl rfl rfl (Nat.le_of_ble_eq_true rfl) (Nat.le_of_ble_eq_true rfl) rfl (Nat.le_of_ble_eq_true rfl) dX9_copy_102) hH (fun H locs hH => ?_)
              exact z_retI G hr hlk hH h dX9_copy_105
            · have h := z_ifn c17 h
              refine lv_aload G.x G.b dX9_copy_88 (lv_at hl 0 rfl) ?_
              refine lv_iload G.x G.b dX9_copy_90 (lv_at hl 6 rfl) ?_
              refine lv_iload G.x G.b dX9_copy_92 (lv_at hl 7 rfl) ?_
              obtain ⟨x20, ex20, h⟩ := z_bind h
              refine z_rdI (z_runV (k := (42 + 2 * j8)) (As := [.int a4, .int a5]) (rest := []) G hH hl.1 (kX5_hasSpan l hw (zS_of ej8) ex20) (cCs hw (zS_of ej8)) vc5 arX5_hasSpan u712 u713 u714 u10 u715 rfl rfl rfl (Nat.le_of_ble_eq_true rfl) (Nat.le_of_ble_eq_true rfl) rfl (Nat.le_of_ble_eq_true rfl) dX9_copy_94) ?_
              refine lv_if_ne (tgt := 106) G.x G.b dX9_copy_97 (by decide) (fun c21 => ?_) (fun c21 => ?_)
              · have h := z_ifn c21 h
                refine lv_aload G.x G.b dX9_copy_106 (lv_at hl 1 rfl) ?_
                refine z_get (v := .ref (za w ((42 + 2 * j7) + 1))) (k := (42 + 2 * j7)) G hH.1 (cCs hw (zS_of ej7)) vc5 inU5 0 (by decide) u177 rfl dX9_copy_108 ?_
                refine lv_iload_n G.x G.b dX9_copy_111 rfl (lv_at hl 4 rfl) ?_
                refine lv_aload G.x G.b dX9_copy_112 (lv_at hl 0 rfl) ?_
                refine z_get (v := .ref (za w ((42 + 2 * j8) + 1))) (k := (42 + 2 * j8)) G hH.1 (cCs hw (zS_of ej8)) vc5 inU5 0 (by decide) u177 rfl dX9_copy_114 ?_
                refine lv_iload G.x G.b dX9_copy_117 (lv_at hl 6 rfl) ?_
                refine lv_iload G.x G.b dX9_copy_119 (lv_at hl 7 rfl) ?_
                obtain ⟨u22, eu22, h⟩ := z_bind h
                obtain ⟨M23, eM23, h⟩ := z_let h
                refine z_copylN (k0 := ((42 + 2 * j7) + 1)) (k1 := ((42 + 2 * j8) + 1)) (a := a2.toNatClampNeg) (b := a4.toNatClampNeg) (d := a5.toNatClampNeg) G hH hl.1 (cCs1 hw (zS_of ej7)) (cCs1 hw (zS_of ej8)) (zcpT_ok eu22) u716 u490 u489 u13 (Nat.le_of_ble_eq_true rfl) (Nat.le_of_ble_eq_true rfl) dX9_copy_121 rfl rfl rfl eM23 (fun H locs hH => ?_)
                refine lv_iload G.x G.b dX9_copy_124 (lv_at hl 7 rfl) ?_
                exact z_retI G hr hlk hH h dX9_copy_126
              · have h := z_if c21 h
                refine lv_aload_n G.x G.b dX9_copy_100 rfl (lv_at hl 2 rfl) ?_
                refine lv_iconst (v := (0 : Int32)) G.x G.b dX9_copy_101 (by decide) ?_
                obtain ⟨x24, M25, eM25, h⟩ := z_b2 h
                refine z_aftI (z_runV (k := 0) (As := [.int (0 : Int32)]) (rest := []) G hH hl.1 (kX9_finding l hw eM25) (cC0 hw) vc9 arX9_finding u222 u224 us0 u1 u225 rfl rfl rfl (Nat.le_of_ble_eq_true rfl) (Nat.le_of_ble_eq_true rfl) rfl (Nat.le_of_ble_eq_true rfl) dX9_copy_102) hH (fun H locs hH => ?_)
                exact z_retI G hr hlk hH h dX9_copy_105
          · have h := z_ifn c15 h
            refine lv_aload_n G.x G.b dX9_copy_71 rfl (lv_at hl 2 rfl) ?_
            refine lv_iconst (v := (2 : Int32)) G.x G.b dX9_copy_72 (by decide) ?_
            obtain ⟨x26, M27, eM27, h⟩ := z_b2 h
            refine z_aftI (z_runV (k := 0) (As := [.int (2 : Int32)]) (rest := []) G hH hl.1 (kX9_finding l hw eM27) (cC0 hw) vc9 arX9_finding u222 u224 us0 u1 u225 rfl rfl rfl (Nat.le_of_ble_eq_true rfl) (Nat.le_of_ble_eq_true rfl) rfl (Nat.le_of_ble_eq_true rfl) dX9_copy_73) hH (fun H locs hH => ?_)
            exact z_retI G hr hlk hH h dX9_copy_76
        · have h := z_ifn c14 h
          refine lv_aload_n G.x G.b dX9_copy_52 rfl (lv_at hl 2 rfl) ?_
          refine lv_iconst (v := (5 : Int32)) G.x G.b dX9_copy_53 (by decide) ?_
          obtain ⟨x28, M29, eM29, h⟩ := z_b2 h
          refine z_aftI (z_runV (k := 0) (As := [.int (5 : Int32)]) (rest := []) G hH hl.1 (kX9_finding l hw eM29) (cC0 hw) vc9 arX9_finding u222 u224 us0 u1 u225 rfl rfl rfl (Nat.le_of_ble_eq_true rfl) (Nat.le_of_ble_eq_true rfl) rfl (Nat.le_of_ble_eq_true rfl) dX9_copy_54) hH (fun H locs hH => ?_)
          exact z_retI G hr hlk hH h dX9_copy_57
    · have h := z_if c6 h
      refine lv_aload_n G.x G.b dX9_copy_14 rfl (lv_at hl 0 rfl) ?_
      refine lv_iconst (v := (0 : Int32)) G.x G.b dX9_copy_15 (by decide) ?_
      obtain ⟨x30, M31, eM31, h⟩ := z_b2 h
      refine z_aftI (z_runV (k := 0) (As := [.int (0 : Int32)]) (rest := []) G hH hl.1 (kX9_finding l hw eM31) (cC0 hw) vc9 arX9_finding u222 u224 us0 u1 u225 rfl rfl rfl (Nat.le_of_ble_eq_true rfl) (Nat.le_of_ble_eq_true rfl) rfl (Nat.le_of_ble_eq_true rfl) dX9_copy_16) hH (fun H locs hH => ?_)
      exact z_retI G hr hlk hH h dX9_copy_19
def bX9_lays_38 (j3 : Nat) (E106_8 : zM → Int32 → Option (Int32 × zM)) (rc12 : zM → Int32 → Int32 → Option (Int32 × zM)) (M9 : zM) (x10 : Int32) (x11 : Int32) : Option (Int32 × zM) :=
  if (M9.1 (42 + 2 * j3) 2) ≤ x11 then (E106_8 M9 x10) else (if (M9.1 1 3) ≤ x11 then (E106_8 M9 x10) else ((zix x11 40).bind fun j15 =>
  (some (M9.2 ((42 + 2 * j3) + 1) j15)).bind fun y16 =>
  zj (fun (M17 : zM) (x18 : Int32) =>
  (some (x11 + (1 : Int32))).bind fun x20 =>
  rc12 M17 x18 x20) fun J100_19 =>
  if (lg_cmp y16 (0 : Int64)) < (0 : Int32) then (J100_19 M9 x10) else (if (0 : Int32) < (lg_cmp y16 (9999 : Int64)) then (J100_19 M9 x10) else ((zix x11 6).bind fun j23 =>
  (some (zst M9 6 j23 y16.toInt32)).bind fun M24 =>
  (some (x10 + (1 : Int32))).bind fun x25 =>
  J100_19 M24 x25))))
def lX9_lays_38 (j3 : Nat) (E106_8 : zM → Int32 → Option (Int32 × zM)) : Nat → zM → Int32 → Int32 → Option (Int32 × zM) := zL3 (bX9_lays_38 j3 E106_8)
def fX9_lays (M0 : zM) (a1 : Int32) : Option (Int32 × zM) :=
  (fX9_isSheet a1).bind fun x1 =>
  if x1 = (0 : Int32) then (zb2 (fX9_finding M0 (0 : Int32)) fun x28 M29 =>
  some (x28, M29)) else ((zix a1 4).bind fun j3 =>
  (fX5_isMissing M0 (42 + 2 * j3)).bind fun x4 =>
  if x4 = (0 : Int32) then (zj (fun (M6 : zM) (x7 : Int32) =>
  some (x7, M6)) fun E106_8 =>
  lX9_lays_38 j3 E106_8 zFuel M0 (0 : Int32) (0 : Int32)) else (zb2 (fX9_finding M0 (5 : Int32)) fun x26 M27 =>
  some (x26, M27)))
abbrev rX9_lays : Room := { frames := 1, cells := 0, slots := 0, locals := 21 }
theorem arX9_lays : zAr yX9_lays RX9 1 := ⟨rfl, by decide, by decide, by decide +kernel⟩
set_option maxHeartbeats 4000000 in
theorem kX9_lays (l : Launch) {w : zWd} (hw : zIsC w) {M0 M' : zM} {a1 : Int32} {r : Int32} (h : fX9_lays M0 a1 = some (r, M')) : Met l yX9_lays (Cond.code yX9_lays cX9_lays 7 (some .int) :: zU) rX9_lays (zPre w M0 [.ref (za w 0), .int a1]) (zQ w (some (.int r)) M') 0 0 (zA w) := by
  refine z_metN (own := RX9) (lv := [(0, .ref (za w 0)), (1, .int a1)]) hw.1 (by decide) (Nat.le_of_ble_eq_true rfl) rfl rfl ?_
  intro p e s m args below meth c G hr hlk hH ls hl
  unfold fX9_lays at h
  refine lv_iload_n G.x G.b dX9_lays_0 rfl (lv_at hl 1 rfl) ?_
  obtain ⟨x1, ex1, h⟩ := z_bind h
  refine z_rdI (z_runS (As := [.int a1]) (rest := []) G hH hl.1 (kX9_isSheet l hw.1 ex1) arX9_isSheet u689 u690 u1 u691 rfl rfl rfl (Nat.le_of_ble_eq_true rfl) (Nat.le_of_ble_eq_true rfl) rfl (Nat.le_of_ble_eq_true rfl) dX9_lays_1) ?_
  refine lv_if_ne (tgt := 13) G.x G.b dX9_lays_4 (by decide) (fun c2 => ?_) (fun c2 => ?_)
  · have h := z_ifn c2 h
    refine lv_aload_n G.x G.b dX9_lays_13 rfl (lv_at hl 0 rfl) ?_
    refine z_get (v := .ref (za w 34)) (k := 0) G hH.1 (cC0 hw) vc9 inU9 5 (by decide) u195 rfl dX9_lays_14 ?_
    refine lv_iload_n G.x G.b dX9_lays_17 rfl (lv_at hl 1 rfl) ?_
    obtain ⟨j3, ej3, h⟩ := z_bind h
    refine z_aald (k := 34) G hH.1 (cC34 hw) ej3 dX9_lays_18 ?_
    refine lv_astore_n (lv' := [(2, .ref (za w (42 + 2 * j3))), (0, .ref (za w 0)), (1, .int a1)]) G.x G.b dX9_lays_19 rfl hl (Nat.le_of_ble_eq_true rfl) rfl (fun ls hl => ?_)
    refine lv_aload_n G.x G.b dX9_lays_20 rfl (lv_at hl 0 rfl) ?_
    obtain ⟨x4, ex4, h⟩ := z_bind h
    refine z_rdI (z_runV (k := (42 + 2 * j3)) (As := []) (rest := []) G hH hl.1 (kX5_isMissing l hw (zS_of ej3) ex4) (cCs hw (zS_of ej3)) vc5 arX5_isMissing u700 u701 u702 u10 u703 rfl rfl rfl (Nat.le_of_ble_eq_true rfl) (Nat.le_of_ble_eq_true rfl) rfl (Nat.le_of_ble_eq_true rfl) dX9_lays_21) ?_
    refine lv_if_eq (tgt := 33) G.x G.b dX9_lays_24 (by decide) (fun c5 => ?_) (fun c5 => ?_)
    · have h := z_if c5 h
      refine lv_iconst (v := (0 : Int32)) G.x G.b dX9_lays_33 (by decide) ?_
      refine lv_istore_n (lv' := [(3, .int (0 : Int32)), (2, .ref (za w (42 + 2 * j3))), (0, .ref (za w 0)), (1, .int a1)]) G.x G.b dX9_lays_34 rfl hl (Nat.le_of_ble_eq_true rfl) rfl (fun ls hl => ?_)
      refine lv_iconst (v := (0 : Int32)) G.x G.b dX9_lays_35 (by decide) ?_
      refine lv_istore (lv' := [(4, .int (0 : Int32)), (3, .int (0 : Int32)), (2, .ref (za w (42 + 2 * j3))), (0, .ref (za w 0)), (1, .int a1)]) G.x G.b dX9_lays_36 hl (Nat.le_of_ble_eq_true rfl) rfl (fun ls hl => ?_)
      obtain ⟨E106_8, hE106_8, h⟩ := z_j h
      have kE106_8 : ∀ (M6 : zM) (x7 : Int32) (H : Heap) (locs : List Loc) (ls : Array Slot), E106_8 M6 x7 = some (r, M') → zH w s M6 H locs → lv_has ls 7 [(3, .int x7)] → zGo p l e rX9_lays s m args below meth c (zQ w (some (.int r)) M') (zA w) H locs (F0 m 106 ls []) := by
        intro M6 x7 H locs ls h hH hl
        rw [hE106_8] at h
        refine lv_iload_n G.x G.b dX9_lays_106 rfl (lv_at hl 0 rfl) ?_
        exact z_retI G hr hlk hH h dX9_lays_107
      have n12 : ∀ (n : Nat) (M9 : zM) (x10 : Int32) (x11 : Int32) (H : Heap) (locs : List Loc) (ls : Array Slot), zL3 (bX9_lays_38 j3 E106_8) n M9 x10 x11 = some (r, M') → zH w s M9 H locs → lv_has ls 7 [(0, .ref (za w 0)), (2, .ref (za w (42 + 2 * j3))), (3, .int x10), (4, .int x11)] → zGo p l e rX9_lays s m args below meth c (zQ w (some (.int r)) M') (zA w) H locs (F0 m 38 ls []) := by
        intro n
        induction n with
        | zero => intro M9 x10 x11 H locs ls h; exact (zL3_0 h).elim
        | succ n ih12 =>
          intro M9 x10 x11 H locs ls h hH hl
          obtain ⟨rc12, hrc12, h⟩ := zL3_s h
          rw [← hrc12] at ih12
          unfold bX9_lays_38 at h
          refine lv_iload G.x G.b dX9_lays_38 (lv_at hl 3 rfl) ?_
          refine lv_aload_n G.x G.b dX9_lays_40 rfl (lv_at hl 1 rfl) ?_
          refine z_get (v := .int (M9.1 (42 + 2 * j3) 2)) (k := (42 + 2 * j3)) G hH.1 (cCs hw (zS_of ej3)) vc5 inU5 2 (by decide) u181 rfl dX9_lays_41 ?_
          refine lv_icmp_ge (tgt := 106) G.x G.b dX9_lays_44 (by decide) (fun c13 => ?_) (fun c13 => ?_)
          · have h := z_if c13 h
            exact kE106_8 M9 x10 H locs ls h hH (lv_sub hl [2] rfl)
          · have h := z_ifn c13 h
            refine lv_iload G.x G.b dX9_lays_47 (lv_at hl 3 rfl) ?_
            refine lv_aload_n G.x G.b dX9_lays_49 rfl (lv_at hl 0 rfl) ?_
            refine z_get (v := .ref (za w 1)) (k := 0) G hH.1 (cC0 hw) vc9 inU9 0 (by decide) u190 rfl dX9_lays_50 ?_
            refine z_get (v := .int (M9.1 1 3)) (k := 1) G hH.1 (cCt hw zT1) vc7 inU7 3 (by decide) u83 rfl dX9_lays_53 ?_
            refine lv_icmp_ge (tgt := 106) G.x G.b dX9_lays_56 (by decide) (fun c14 => ?_) (fun c14 => ?_)
            · have h := z_if c14 h
              exact kE106_8 M9 x10 H locs ls h hH (lv_sub hl [2] rfl)
            · have h := z_ifn c14 h
              refine lv_aload_n G.x G.b dX9_lays_59 rfl (lv_at hl 1 rfl) ?_
              refine z_get (v := .ref (za w ((42 + 2 * j3) + 1))) (k := (42 + 2 * j3)) G hH.1 (cCs hw (zS_of ej3)) vc5 inU5 0 (by decide) u177 rfl dX9_lays_60 ?_
              refine lv_iload G.x G.b dX9_lays_63 (lv_at hl 3 rfl) ?_
              obtain ⟨j15, ej15, h⟩ := z_bind h
              refine z_lald (k := ((42 + 2 * j3) + 1)) G hH.1 (cCs1 hw (zS_of ej3)) ej15 dX9_lays_65 ?_
              obtain ⟨y16, ey16, h⟩ := z_let h
              refine z_nmL ey16 ?_
              refine lv_lstore (lv' := [(5, .long y16), (0, .ref (za w 0)), (2, .ref (za w (42 + 2 * j3))), (3, .int x10), (4, .int x11)]) G.x G.b dX9_lays_66 hl (Nat.le_of_ble_eq_true rfl) rfl (fun ls hl => ?_)
              refine lv_lload G.x G.b dX9_lays_68 (lv_at hl 0 rfl) ?_
              refine lv_lconst (v := (0 : Int64)) G.x G.b dX9_lays_70 (by decide) ?_
              refine W.lcmp G.x G.b dX9_lays_71 ?_
              obtain ⟨J100_19, hJ100_19, h⟩ := z_j h
              have kJ100_19 : ∀ (M17 : zM) (x18 : Int32) (H : Heap) (locs : List Loc) (ls : Array Slot), J100_19 M17 x18 = some (r, M') → zH w s M17 H locs → lv_has ls 7 [(0, .ref (za w 0)), (2, .ref (za w (42 + 2 * j3))), (3, .int x18), (4, .int x11)] → zGo p l e rX9_lays s m args below meth c (zQ w (some (.int r)) M') (zA w) H locs (F0 m 100 ls []) := by
                intro M17 x18 H locs ls h hH hl
                rw [hJ100_19] at h
                obtain ⟨x20, ex20, h⟩ := z_let h
                refine lv_iinc (v := x20) (lv' := [(4, .int x20), (0, .ref (za w 0)), (2, .ref (za w (42 + 2 * j3))), (3, .int x18)]) G.x G.b dX9_lays_100 hl (k := 3) rfl (by rw [ex20]; rfl) (Nat.le_of_ble_eq_true rfl) rfl (fun ls hl => ?_)
                refine lv_goto (tgt := 38) G.x G.b dX9_lays_103 (by decide) ?_
                exact ih12 M17 x18 x20 H locs ls h hH (lv_sub hl [1, 2, 3, 0] rfl)
              refine lv_if_lt (tgt := 100) G.x G.b dX9_lays_72 (by decide) (fun c21 => ?_) (fun c21 => ?_)
              · have h := z_if c21 h
                exact kJ100_19 M9 x10 H locs ls h hH (lv_sub hl [1, 2, 3, 4] rfl)
              · have h := z_ifn c21 h
                refine lv_lload G.x G.b dX9_lays_75 (lv_at hl 0 rfl) ?_
                refine lv_ldc2 G.x G.b G.o (G.t u721) dX9_lays_77 ?_
                refine W.lcmp G.x G.b dX9_lays_80 ?_
                refine lv_if_gt (tgt := 100) G.x G.b dX9_lays_81 (by decide) (fun c22 => ?_) (fun c22 => ?_)
                · have h := z_if c22 h
                  exact kJ100_19 M9 x10 H locs ls h hH (lv_sub hl [1, 2, 3, 4] rfl)
                · have h := z_ifn c22 h
                  refine lv_aload_n G.x G.b dX9_lays_84 rfl (lv_at hl 1 rfl) ?_
                  refine z_get (v := .ref (za w 1)) (k := 0) G hH.1 (cC0 hw) vc9 inU9 0 (by decide) u190 rfl dX9_lays_85 ?_
                  refine z_get (v := .ref (za w 6)) (k := 1) G hH.1 (cCt hw zT1) vc7 inU7 8 (by decide) u97 rfl dX9_lays_88 ?_
                  refine lv_iload G.x G.b dX9_lays_91 (lv_at hl 4 rfl) ?_
                  refine lv_lload G.x G.b dX9_lays_93 (lv_at hl 0 rfl) ?_
                  refine lv_l2i (v := y16.toInt32) G.x G.b dX9_lays_95 rfl ?_
                  obtain ⟨j23, ej23, h⟩ := z_bind h
                  obtain ⟨M24, eM24, h⟩ := z_let h
                  refine z_iastN (k := 6) G hH (cCt5 hw zT1) ej23 dX9_lays_96 eM24 (fun H locs hH => ?_)
                  obtain ⟨x25, ex25, h⟩ := z_let h
                  refine lv_iinc (v := x25) (lv' := [(3, .int x25), (5, .long y16), (0, .ref (za w 0)), (2, .ref (za w (42 + 2 * j3))), (4, .int x11)]) G.x G.b dX9_lays_97 hl (k := 3) rfl (by rw [ex25]; rfl) (Nat.le_of_ble_eq_true rfl) rfl (fun ls hl => ?_)
                  exact kJ100_19 M24 x25 H locs ls h hH (lv_sub hl [2, 3, 0, 4] rfl)
      exact n12 zFuel M0 (0 : Int32) (0 : Int32) s.heap [] ls h hH (lv_sub hl [3, 2, 1, 0] rfl)
    · have h := z_ifn c5 h
      refine lv_aload_n G.x G.b dX9_lays_27 rfl (lv_at hl 1 rfl) ?_
      refine lv_iconst (v := (5 : Int32)) G.x G.b dX9_lays_28 (by decide) ?_
      obtain ⟨x26, M27, eM27, h⟩ := z_b2 h
      refine z_aftI (z_runV (k := 0) (As := [.int (5 : Int32)]) (rest := []) G hH hl.1 (kX9_finding l hw eM27) (cC0 hw) vc9 arX9_finding u222 u224 us0 u1 u225 rfl rfl rfl (Nat.le_of_ble_eq_true rfl) (Nat.le_of_ble_eq_true rfl) rfl (Nat.le_of_ble_eq_true rfl) dX9_lays_29) hH (fun H locs hH => ?_)
      exact z_retI G hr hlk hH h dX9_lays_32
  · have h := z_if c2 h
    refine lv_aload_n G.x G.b dX9_lays_7 rfl (lv_at hl 0 rfl) ?_
    refine lv_iconst (v := (0 : Int32)) G.x G.b dX9_lays_8 (by decide) ?_
    obtain ⟨x28, M29, eM29, h⟩ := z_b2 h
    refine z_aftI (z_runV (k := 0) (As := [.int (0 : Int32)]) (rest := []) G hH hl.1 (kX9_finding l hw eM29) (cC0 hw) vc9 arX9_finding u222 u224 us0 u1 u225 rfl rfl rfl (Nat.le_of_ble_eq_true rfl) (Nat.le_of_ble_eq_true rfl) rfl (Nat.le_of_ble_eq_true rfl) dX9_lays_9) hH (fun H locs hH => ?_)
    exact z_retI G hr hlk hH h dX9_lays_12
def bX9_book_61 (a2 : Int32) (j3 : Nat) (E99_10 : zM → Option (Int32 × zM)) (rc13 : zM → Int32 → Option (Int32 × zM)) (M11 : zM) (x12 : Int32) : Option (Int32 × zM) :=
  if (M11.1 (42 + 2 * j3) 2) ≤ x12 then (E99_10 M11) else ((zix a2 6).bind fun j15 =>
  (fX5_put M11 (42 + 2 * j3) x12 ((M11.1 16 j15).toInt64)).bind fun M16 =>
  (fX7_passNight M16 11).bind fun M17 =>
  (some (x12 + (1 : Int32))).bind fun x18 =>
  rc13 M17 x18)
def lX9_book_61 (a2 : Int32) (j3 : Nat) (E99_10 : zM → Option (Int32 × zM)) : Nat → zM → Int32 → Option (Int32 × zM) := zL2 (bX9_book_61 a2 j3 E99_10)
def fX9_book (M0 : zM) (a1 : Int32) (a2 : Int32) : Option (Int32 × zM) :=
  (fX9_isSheet a1).bind fun x1 =>
  if x1 = (0 : Int32) then (zb2 (fX9_finding M0 (0 : Int32)) fun x23 M24 =>
  some (x23, M24)) else ((zix a1 4).bind fun j3 =>
  (fX5_isMissing M0 (42 + 2 * j3)).bind fun x4 =>
  if x4 = (0 : Int32) then ((fX9_isWearer M0 a2).bind fun x6 =>
  if x6 = (0 : Int32) then (zb2 (fX9_finding M0 (0 : Int32)) fun x19 M20 =>
  some (x19, M20)) else ((fX7_become M0 11 1).bind fun M8 =>
  zj (fun (M9 : zM) =>
  some ((M9.1 (42 + 2 * j3) 2), M9)) fun E99_10 =>
  lX9_book_61 a2 j3 E99_10 zFuel M8 (0 : Int32))) else (zb2 (fX9_finding M0 (5 : Int32)) fun x21 M22 =>
  some (x21, M22)))
abbrev rX9_book : Room := { frames := 5, cells := 0, slots := 0, locals := 120 }
theorem arX9_book : zAr yX9_book RX9 2 := ⟨rfl, by decide, by decide, by decide +kernel⟩
set_option maxHeartbeats 4000000 in
theorem kX9_book (l : Launch) {w : zWd} (hw : zIsC w) {M0 M' : zM} {a1 : Int32} {a2 : Int32} {r : Int32} (h : fX9_book M0 a1 a2 = some (r, M')) : Met l yX9_book (Cond.code yX9_book cX9_book 5 (some .int) :: zU) rX9_book (zPre w M0 [.ref (za w 0), .int a1, .int a2]) (zQ w (some (.int r)) M') 0 0 (zA w) := by
  refine z_metN (own := RX9) (lv := [(0, .ref (za w 0)), (1, .int a1), (2, .int a2)]) hw.1 (by decide) (Nat.le_of_ble_eq_true rfl) rfl rfl ?_
  intro p e s m args below meth c G hr hlk hH ls hl
  unfold fX9_book at h
  refine lv_iload_n G.x G.b dX9_book_0 rfl (lv_at hl 1 rfl) ?_
  obtain ⟨x1, ex1, h⟩ := z_bind h
  refine z_rdI (z_runS (As := [.int a1]) (rest := []) G hH hl.1 (kX9_isSheet l hw.1 ex1) arX9_isSheet u689 u690 u1 u691 rfl rfl rfl (Nat.le_of_ble_eq_true rfl) (Nat.le_of_ble_eq_true rfl) rfl (Nat.le_of_ble_eq_true rfl) dX9_book_1) ?_
  refine lv_if_ne (tgt := 13) G.x G.b dX9_book_4 (by decide) (fun c2 => ?_) (fun c2 => ?_)
  · have h := z_ifn c2 h
    refine lv_aload_n G.x G.b dX9_book_13 rfl (lv_at hl 0 rfl) ?_
    refine z_get (v := .ref (za w 34)) (k := 0) G hH.1 (cC0 hw) vc9 inU9 5 (by decide) u195 rfl dX9_book_14 ?_
    refine lv_iload_n G.x G.b dX9_book_17 rfl (lv_at hl 1 rfl) ?_
    obtain ⟨j3, ej3, h⟩ := z_bind h
    refine z_aald (k := 34) G hH.1 (cC34 hw) ej3 dX9_book_18 ?_
    refine lv_astore_n (lv' := [(3, .ref (za w (42 + 2 * j3))), (0, .ref (za w 0)), (1, .int a1), (2, .int a2)]) G.x G.b dX9_book_19 rfl hl (Nat.le_of_ble_eq_true rfl) rfl (fun ls hl => ?_)
    refine lv_aload_n G.x G.b dX9_book_20 rfl (lv_at hl 0 rfl) ?_
    obtain ⟨x4, ex4, h⟩ := z_bind h
    refine z_rdI (z_runV (k := (42 + 2 * j3)) (As := []) (rest := []) G hH hl.1 (kX5_isMissing l hw (zS_of ej3) ex4) (cCs hw (zS_of ej3)) vc5 arX5_isMissing u700 u701 u702 u10 u703 rfl rfl rfl (Nat.le_of_ble_eq_true rfl) (Nat.le_of_ble_eq_true rfl) rfl (Nat.le_of_ble_eq_true rfl) dX9_book_21) ?_
    refine lv_if_eq (tgt := 33) G.x G.b dX9_book_24 (by decide) (fun c5 => ?_) (fun c5 => ?_)
    · have h := z_if c5 h
      refine lv_aload_n G.x G.b dX9_book_33 rfl (lv_at hl 1 rfl) ?_
      refine lv_iload_n G.x G.b dX9_book_34 rfl (lv_at hl 3 rfl) ?_
      obtain ⟨x6, ex6, h⟩ := z_bind h
      refine z_rdI (z_runV (k := 0) (As := [.int a2]) (rest := []) G hH hl.1 (kX9_isWearer l hw ex6) (cC0 hw) vc9 arX9_isWearer u424 u426 us2 u1 u427 rfl rfl rfl (Nat.le_of_ble_eq_true rfl) (Nat.le_of_ble_eq_true rfl) rfl (Nat.le_of_ble_eq_true rfl) dX9_book_35) ?_
      refine lv_if_ne (tgt := 47) G.x G.b dX9_book_38 (by decide) (fun c7 => ?_) (fun c7 => ?_)
      · have h := z_ifn c7 h
        refine lv_aload_n G.x G.b dX9_book_47 rfl (lv_at hl 1 rfl) ?_
        refine z_get (v := .ref (za w 11)) (k := 0) G hH.1 (cC0 hw) vc9 inU9 1 (by decide) u191 rfl dX9_book_48 ?_
        refine lv_aload_n G.x G.b dX9_book_51 rfl (lv_at hl 1 rfl) ?_
        refine z_get (v := .ref (za w 1)) (k := 0) G hH.1 (cC0 hw) vc9 inU9 0 (by decide) u190 rfl dX9_book_52 ?_
        obtain ⟨M8, eM8, h⟩ := z_bind h
        refine z_aftV (z_runV (k := 11) (As := [.ref (za w 1)]) (rest := []) G hH hl.1 (kX7_become l hw zT11 zT1 eM8) (cCt hw zT11) vc7 arX7_become u484 u485 u486 u8 u487 rfl rfl rfl (Nat.le_of_ble_eq_true rfl) (Nat.le_of_ble_eq_true rfl) rfl (Nat.le_of_ble_eq_true rfl) dX9_book_55) hH (fun H locs hH => ?_)
        refine lv_iconst (v := (0 : Int32)) G.x G.b dX9_book_58 (by decide) ?_
        refine lv_istore (lv' := [(4, .int (0 : Int32)), (3, .ref (za w (42 + 2 * j3))), (0, .ref (za w 0)), (1, .int a1), (2, .int a2)]) G.x G.b dX9_book_59 hl (Nat.le_of_ble_eq_true rfl) rfl (fun ls hl => ?_)
        obtain ⟨E99_10, hE99_10, h⟩ := z_j h
        have kE99_10 : ∀ (M9 : zM) (H : Heap) (locs : List Loc) (ls : Array Slot), E99_10 M9 = some (r, M') → zH w s M9 H locs → lv_has ls 5 [(3, .ref (za w (42 + 2 * j3)))] → zGo p l e rX9_book s m args below meth c (zQ w (some (.int r)) M') (zA w) H locs (F0 m 99 ls []) := by
          intro M9 H locs ls h hH hl
          rw [hE99_10] at h
          refine lv_aload_n G.x G.b dX9_book_99 rfl (lv_at hl 0 rfl) ?_
          refine z_get (v := .int (M9.1 (42 + 2 * j3) 2)) (k := (42 + 2 * j3)) G hH.1 (cCs hw (zS_of ej3)) vc5 inU5 2 (by decide) u181 rfl dX9_book_100 ?_
          exact z_retI G hr hlk hH h dX9_book_103
        have n13 : ∀ (n : Nat) (M11 : zM) (x12 : Int32) (H : Heap) (locs : List Loc) (ls : Array Slot), zL2 (bX9_book_61 a2 j3 E99_10) n M11 x12 = some (r, M') → zH w s M11 H locs → lv_has ls 5 [(0, .ref (za w 0)), (2, .int a2), (3, .ref (za w (42 + 2 * j3))), (4, .int x12)] → zGo p l e rX9_book s m args below meth c (zQ w (some (.int r)) M') (zA w) H locs (F0 m 61 ls []) := by
          intro n
          induction n with
          | zero => intro M11 x12 H locs ls h; exact (zL2_0 h).elim
          | succ n ih13 =>
            intro M11 x12 H locs ls h hH hl
            obtain ⟨rc13, hrc13, h⟩ := zL2_s h
            rw [← hrc13] at ih13
            unfold bX9_book_61 at h
            refine lv_iload G.x G.b dX9_book_61 (lv_at hl 3 rfl) ?_
            refine lv_aload_n G.x G.b dX9_book_63 rfl (lv_at hl 2 rfl) ?_
            refine z_get (v := .int (M11.1 (42 + 2 * j3) 2)) (k := (42 + 2 * j3)) G hH.1 (cCs hw (zS_of ej3)) vc5 inU5 2 (by decide) u181 rfl dX9_book_64 ?_
            refine lv_icmp_ge (tgt := 99) G.x G.b dX9_book_67 (by decide) (fun c14 => ?_) (fun c14 => ?_)
            · have h := z_if c14 h
              exact kE99_10 M11 H locs ls h hH (lv_sub hl [2] rfl)
            · have h := z_ifn c14 h
              refine lv_aload_n G.x G.b dX9_book_70 rfl (lv_at hl 2 rfl) ?_
              refine lv_iload G.x G.b dX9_book_71 (lv_at hl 3 rfl) ?_
              refine lv_aload_n G.x G.b dX9_book_73 rfl (lv_at hl 0 rfl) ?_
              refine z_get (v := .ref (za w 11)) (k := 0) G hH.1 (cC0 hw) vc9 inU9 1 (by decide) u191 rfl dX9_book_74 ?_
              refine z_get (v := .ref (za w 16)) (k := 11) G hH.1 (cCt hw zT11) vc7 inU7 8 (by decide) u97 rfl dX9_book_77 ?_
              refine lv_iload_n G.x G.b dX9_book_80 rfl (lv_at hl 1 rfl) ?_
              obtain ⟨j15, ej15, h⟩ := z_bind h
              refine z_iald (k := 16) G hH.1 (cCt5 hw zT11) ej15 dX9_book_81 ?_
              refine lv_i2l (v := (M11.1 16 j15).toInt64) G.x G.b dX9_book_82 rfl ?_
              obtain ⟨M16, eM16, h⟩ := z_bind h
              refine z_aftV (z_runV (k := (42 + 2 * j3)) (As := [.int x12, .long ((M11.1 16 j15).toInt64)]) (rest := []) G hH hl.1 (kX5_put l hw (zS_of ej3) eM16) (cCs hw (zS_of ej3)) vc5 arX5_put u704 u705 u706 u10 u707 rfl rfl rfl (Nat.le_of_ble_eq_true rfl) (Nat.le_of_ble_eq_true rfl) rfl (Nat.le_of_ble_eq_true rfl) dX9_book_83) hH (fun H locs hH => ?_)
              refine lv_aload_n G.x G.b dX9_book_86 rfl (lv_at hl 0 rfl) ?_
              refine z_get (v := .ref (za w 11)) (k := 0) G hH.1 (cC0 hw) vc9 inU9 1 (by decide) u191 rfl dX9_book_87 ?_
              obtain ⟨M17, eM17, h⟩ := z_bind h
              refine z_aftV (z_runV (k := 11) (As := []) (rest := []) G hH hl.1 (kX7_passNight l hw zT11 eM17) (cCt hw zT11) vc7 arX7_passNight u507 u459 u460 u8 u461 rfl rfl rfl (Nat.le_of_ble_eq_true rfl) (Nat.le_of_ble_eq_true rfl) rfl (Nat.le_of_ble_eq_true rfl) dX9_book_90) hH (fun H locs hH => ?_)
              obtain ⟨x18, ex18, h⟩ := z_let h
              refine lv_iinc (v := x18) (lv' := [(4, .int x18), (0, .ref (za w 0)), (2, .int a2), (3, .ref (za w (42 + 2 * j3)))]) G.x G.b dX9_book_93 hl (k := 3) rfl (by rw [ex18]; rfl) (Nat.le_of_ble_eq_true rfl) rfl (fun ls hl => ?_)
              refine lv_goto (tgt := 61) G.x G.b dX9_book_96 (by decide) ?_
              exact ih13 M17 x18 H locs ls h hH (lv_sub hl [1, 2, 3, 0] rfl)
        exact n13 zFuel M8 (0 : Int32) H locs ls h hH (lv_sub hl [2, 4, 1, 0] rfl)
      · have h := z_if c7 h
        refine lv_aload_n G.x G.b dX9_book_41 rfl (lv_at hl 1 rfl) ?_
        refine lv_iconst (v := (0 : Int32)) G.x G.b dX9_book_42 (by decide) ?_
        obtain ⟨x19, M20, eM20, h⟩ := z_b2 h
        refine z_aftI (z_runV (k := 0) (As := [.int (0 : Int32)]) (rest := []) G hH hl.1 (kX9_finding l hw eM20) (cC0 hw) vc9 arX9_finding u222 u224 us0 u1 u225 rfl rfl rfl (Nat.le_of_ble_eq_true rfl) (Nat.le_of_ble_eq_true rfl) rfl (Nat.le_of_ble_eq_true rfl) dX9_book_43) hH (fun H locs hH => ?_)
        exact z_retI G hr hlk hH h dX9_book_46
    · have h := z_ifn c5 h
      refine lv_aload_n G.x G.b dX9_book_27 rfl (lv_at hl 1 rfl) ?_
      refine lv_iconst (v := (5 : Int32)) G.x G.b dX9_book_28 (by decide) ?_
      obtain ⟨x21, M22, eM22, h⟩ := z_b2 h
      refine z_aftI (z_runV (k := 0) (As := [.int (5 : Int32)]) (rest := []) G hH hl.1 (kX9_finding l hw eM22) (cC0 hw) vc9 arX9_finding u222 u224 us0 u1 u225 rfl rfl rfl (Nat.le_of_ble_eq_true rfl) (Nat.le_of_ble_eq_true rfl) rfl (Nat.le_of_ble_eq_true rfl) dX9_book_29) hH (fun H locs hH => ?_)
      exact z_retI G hr hlk hH h dX9_book_32
  · have h := z_if c2 h
    refine lv_aload_n G.x G.b dX9_book_7 rfl (lv_at hl 0 rfl) ?_
    refine lv_iconst (v := (0 : Int32)) G.x G.b dX9_book_8 (by decide) ?_
    obtain ⟨x23, M24, eM24, h⟩ := z_b2 h
    refine z_aftI (z_runV (k := 0) (As := [.int (0 : Int32)]) (rest := []) G hH hl.1 (kX9_finding l hw eM24) (cC0 hw) vc9 arX9_finding u222 u224 us0 u1 u225 rfl rfl rfl (Nat.le_of_ble_eq_true rfl) (Nat.le_of_ble_eq_true rfl) rfl (Nat.le_of_ble_eq_true rfl) dX9_book_9) hH (fun H locs hH => ?_)
    exact z_retI G hr hlk hH h dX9_book_12
def bX9_trialFollows_2 (q : Nat) (a2 : Int32) (E45_2 : zM → Option (Int32 × zM)) (rc5 : zM → Int32 → Option (Int32 × zM)) (M3 : zM) (x4 : Int32) : Option (Int32 × zM) :=
  if (M3.1 q 2) ≤ x4 then (E45_2 M3) else ((zix a2 6).bind fun j7 =>
  (zix x4 40).bind fun j8 =>
  if (lg_cmp ((M3.1 16 j7).toInt64) (M3.2 (q + 1) j8)) = (0 : Int32) then ((fX7_passNight M3 11).bind fun M10 =>
  (some (x4 + (1 : Int32))).bind fun x11 =>
  rc5 M10 x11) else ((zbl (0 : Int32)).bind (fun v => some (v, M3))))
def lX9_trialFollows_2 (q : Nat) (a2 : Int32) (E45_2 : zM → Option (Int32 × zM)) : Nat → zM → Int32 → Option (Int32 × zM) := zL2 (bX9_trialFollows_2 q a2 E45_2)
def fX9_trialFollows (M0 : zM) (q : Nat) (a2 : Int32) : Option (Int32 × zM) :=
  zj (fun (M1 : zM) =>
  (zbl (1 : Int32)).bind (fun v => some (v, M1))) fun E45_2 =>
  lX9_trialFollows_2 q a2 E45_2 zFuel M0 (0 : Int32)
abbrev rX9_trialFollows : Room := { frames := 5, cells := 0, slots := 0, locals := 120 }
theorem arX9_trialFollows : zAr yX9_trialFollows RX9 2 := ⟨rfl, by decide, by decide, by decide +kernel⟩
set_option maxHeartbeats 4000000 in
theorem kX9_trialFollows (l : Launch) {w : zWd} (hw : zIsC w) {q : Nat} (hq : zS q) {M0 M' : zM} {a2 : Int32} {r : Int32} (h : fX9_trialFollows M0 q a2 = some (r, M')) : Met l yX9_trialFollows (Cond.code yX9_trialFollows cX9_trialFollows 4 (some .boolean) :: zU) rX9_trialFollows (zPre w M0 [.ref (za w 0), .ref (za w q), .int a2]) (zQ w (some (.int r)) M') 0 0 (zA w) := by
  refine z_metN (own := RX9) (lv := [(0, .ref (za w 0)), (1, .ref (za w q)), (2, .int a2)]) hw.1 (by decide) (Nat.le_of_ble_eq_true rfl) rfl rfl ?_
  intro p e s m args below meth c G hr hlk hH ls hl
  unfold fX9_trialFollows at h
  refine lv_iconst (v := (0 : Int32)) G.x G.b dX9_trialFollows_0 (by decide) ?_
  refine lv_istore_n (lv' := [(3, .int (0 : Int32)), (0, .ref (za w 0)), (1, .ref (za w q)), (2, .int a2)]) G.x G.b dX9_trialFollows_1 rfl hl (Nat.le_of_ble_eq_true rfl) rfl (fun ls hl => ?_)
  obtain ⟨E45_2, hE45_2, h⟩ := z_j h
  have kE45_2 : ∀ (M1 : zM) (H : Heap) (locs : List Loc) (ls : Array Slot), E45_2 M1 = some (r, M') → zH w s M1 H locs → lv_has ls 4 [] → zGo p l e rX9_trialFollows s m args below meth c (zQ w (some (.int r)) M') (zA w) H locs (F0 m 45 ls []) := by
    intro M1 H locs ls h hH hl
    rw [hE45_2] at h
    refine lv_iconst (v := (1 : Int32)) G.x G.b dX9_trialFollows_45 (by decide) ?_
    exact z_retZ G hr hlk hH h dX9_trialFollows_46
  have n5 : ∀ (n : Nat) (M3 : zM) (x4 : Int32) (H : Heap) (locs : List Loc) (ls : Array Slot), zL2 (bX9_trialFollows_2 q a2 E45_2) n M3 x4 = some (r, M') → zH w s M3 H locs → lv_has ls 4 [(0, .ref (za w 0)), (1, .ref (za w q)), (2, .int a2), (3, .int x4)] → zGo p l e rX9_trialFollows s m args below meth c (zQ w (some (.int r)) M') (zA w) H locs (F0 m 2 ls []) := by
    intro n
    induction n with
    | zero => intro M3 x4 H locs ls h; exact (zL2_0 h).elim
    | succ n ih5 =>
      intro M3 x4 H locs ls h hH hl
      obtain ⟨rc5, hrc5, h⟩ := zL2_s h
      rw [← hrc5] at ih5
      unfold bX9_trialFollows_2 at h
      refine lv_iload_n G.x G.b dX9_trialFollows_2 rfl (lv_at hl 3 rfl) ?_
      refine lv_aload_n G.x G.b dX9_trialFollows_3 rfl (lv_at hl 1 rfl) ?_
      refine z_get (v := .int (M3.1 q 2)) (k := q) G hH.1 (cCs hw hq) vc5 inU5 2 (by decide) u181 rfl dX9_trialFollows_4 ?_
      refine lv_icmp_ge (tgt := 45) G.x G.b dX9_trialFollows_7 (by decide) (fun c6 => ?_) (fun c6 => ?_)
      · have h := z_if c6 h
        exact kE45_2 M3 H locs ls h hH (lv_sub hl [] rfl)
      · have h := z_ifn c6 h
        refine lv_aload_n G.x G.b dX9_trialFollows_10 rfl (lv_at hl 0 rfl) ?_
        refine z_get (v := .ref (za w 11)) (k := 0) G hH.1 (cC0 hw) vc9 inU9 1 (by decide) u191 rfl dX9_trialFollows_11 ?_
        refine z_get (v := .ref (za w 16)) (k := 11) G hH.1 (cCt hw zT11) vc7 inU7 8 (by decide) u97 rfl dX9_trialFollows_14 ?_
        refine lv_iload_n G.x G.b dX9_trialFollows_17 rfl (lv_at hl 2 rfl) ?_
        obtain ⟨j7, ej7, h⟩ := z_bind h
        refine z_iald (k := 16) G hH.1 (cCt5 hw zT11) ej7 dX9_trialFollows_18 ?_
        refine lv_i2l (v := (M3.1 16 j7).toInt64) G.x G.b dX9_trialFollows_19 rfl ?_
        refine lv_aload_n G.x G.b dX9_trialFollows_20 rfl (lv_at hl 1 rfl) ?_
        refine z_get (v := .ref (za w (q + 1))) (k := q) G hH.1 (cCs hw hq) vc5 inU5 0 (by decide) u177 rfl dX9_trialFollows_21 ?_
        refine lv_iload_n G.x G.b dX9_trialFollows_24 rfl (lv_at hl 3 rfl) ?_
        obtain ⟨j8, ej8, h⟩ := z_bind h
        refine z_lald (k := (q + 1)) G hH.1 (cCs1 hw hq) ej8 dX9_trialFollows_25 ?_
        refine W.lcmp G.x G.b dX9_trialFollows_26 ?_
        refine lv_if_eq (tgt := 32) G.x G.b dX9_trialFollows_27 (by decide) (fun c9 => ?_) (fun c9 => ?_)
        · have h := z_if c9 h
          refine lv_aload_n G.x G.b dX9_trialFollows_32 rfl (lv_at hl 0 rfl) ?_
          refine z_get (v := .ref (za w 11)) (k := 0) G hH.1 (cC0 hw) vc9 inU9 1 (by decide) u191 rfl dX9_trialFollows_33 ?_
          obtain ⟨M10, eM10, h⟩ := z_bind h
          refine z_aftV (z_runV (k := 11) (As := []) (rest := []) G hH hl.1 (kX7_passNight l hw zT11 eM10) (cCt hw zT11) vc7 arX7_passNight u507 u459 u460 u8 u461 rfl rfl rfl (Nat.le_of_ble_eq_true rfl) (Nat.le_of_ble_eq_true rfl) rfl (Nat.le_of_ble_eq_true rfl) dX9_trialFollows_36) hH (fun H locs hH => ?_)
          obtain ⟨x11, ex11, h⟩ := z_let h
          refine lv_iinc (v := x11) (lv' := [(3, .int x11), (0, .ref (za w 0)), (1, .ref (za w q)), (2, .int a2)]) G.x G.b dX9_trialFollows_39 hl (k := 3) rfl (by rw [ex11]; rfl) (Nat.le_of_ble_eq_true rfl) rfl (fun ls hl => ?_)
          refine lv_goto (tgt := 2) G.x G.b dX9_trialFollows_42 (by decide) ?_
          exact ih5 M10 x11 H locs ls h hH (lv_sub hl [1, 2, 3, 0] rfl)
        · have h := z_ifn c9 h
          refine lv_iconst (v := (0 : Int32)) G.x G.b dX9_trialFollows_30 (by decide) ?_
          exact z_retZ G hr hlk hH h dX9_trialFollows_31
  exact n5 zFuel M0 (0 : Int32) s.heap [] ls h hH (lv_sub hl [1, 2, 3, 0] rfl)
def bX9_read_69 (a1 : Int32) (a2 : Int32) (a3 : Int32) (x17 : Int32) (E132_22 : zM → Int32 → Option (Int32 × zM)) (rc27 : zM → Int32 → Int32 → Option (Int32 × zM)) (M24 : zM) (x25 : Int32) (x26 : Int32) : Option (Int32 × zM) :=
  if (6 : Int32) ≤ x26 then (E132_22 M24 x25) else ((fX7_become M24 11 1).bind fun M29 =>
  (zix a3 8).bind fun j30 =>
  (some (zst M29 12 j30 x17)).bind fun M31 =>
  (zix a2 6).bind fun j32 =>
  (some (zst M31 17 j32 x26)).bind fun M33 =>
  (zix a1 4).bind fun j34 =>
  zb2 (fX9_trialFollows M33 (42 + 2 * j34) a2) fun x35 M36 =>
  zj (fun (x37 : Int32) =>
  (some (x26 + (1 : Int32))).bind fun x39 =>
  rc27 M36 x37 x39) fun J126_38 =>
  if x35 = (0 : Int32) then (J126_38 x25) else ((some (x25 + (1 : Int32))).bind fun x41 =>
  J126_38 x41))
def lX9_read_69 (a1 : Int32) (a2 : Int32) (a3 : Int32) (x17 : Int32) (E132_22 : zM → Int32 → Option (Int32 × zM)) : Nat → zM → Int32 → Int32 → Option (Int32 × zM) := zL3 (bX9_read_69 a1 a2 a3 x17 E132_22)
def bX9_read_59 (a1 : Int32) (a2 : Int32) (a3 : Int32) (E138_14 : zM → Int32 → Option (Int32 × zM)) (rc18 : zM → Int32 → Int32 → Option (Int32 × zM)) (M15 : zM) (x16 : Int32) (x17 : Int32) : Option (Int32 × zM) :=
  if (6 : Int32) ≤ x17 then (E138_14 M15 x16) else (zj (fun (M20 : zM) (x21 : Int32) =>
  (some (x17 + (1 : Int32))).bind fun x23 =>
  rc18 M20 x21 x23) fun E132_22 =>
  lX9_read_69 a1 a2 a3 x17 E132_22 zFuel M15 x16 (0 : Int32))
def lX9_read_59 (a1 : Int32) (a2 : Int32) (a3 : Int32) (E138_14 : zM → Int32 → Option (Int32 × zM)) : Nat → zM → Int32 → Int32 → Option (Int32 × zM) := zL3 (bX9_read_59 a1 a2 a3 E138_14)
def fX9_read (M0 : zM) (a1 : Int32) (a2 : Int32) (a3 : Int32) : Option (Int32 × zM) :=
  (fX9_isSheet a1).bind fun x1 =>
  if x1 = (0 : Int32) then (zb2 (fX9_finding M0 (0 : Int32)) fun x46 M47 =>
  some (x46, M47)) else ((zix a1 4).bind fun j3 =>
  (fX5_isMissing M0 (42 + 2 * j3)).bind fun x4 =>
  if x4 = (0 : Int32) then ((fX9_isWearer M0 a2).bind fun x6 =>
  if x6 = (0 : Int32) then (zb2 (fX9_finding M0 (0 : Int32)) fun x8 M9 =>
  some (x8, M9)) else ((fX9_isBeard M0 a3).bind fun x10 =>
  if x10 = (0 : Int32) then (zb2 (fX9_finding M0 (0 : Int32)) fun x42 M43 =>
  some (x42, M43)) else (zj (fun (M12 : zM) (x13 : Int32) =>
  some (x13, M12)) fun E138_14 =>
  lX9_read_59 a1 a2 a3 E138_14 zFuel M0 (0 : Int32) (0 : Int32)))) else (zb2 (fX9_finding M0 (5 : Int32)) fun x44 M45 =>
  some (x44, M45)))
abbrev rX9_read : Room := { frames := 6, cells := 0, slots := 0, locals := 143 }
theorem arX9_read : zAr yX9_read RX9 3 := ⟨rfl, by decide, by decide, by decide +kernel⟩
set_option maxHeartbeats 4000000 in
theorem kX9_read (l : Launch) {w : zWd} (hw : zIsC w) {M0 M' : zM} {a1 : Int32} {a2 : Int32} {a3 : Int32} {r : Int32} (h : fX9_read M0 a1 a2 a3 = some (r, M')) : Met l yX9_read (Cond.code yX9_read cX9_read 7 (some .int) :: zU) rX9_read (zPre w M0 [.ref (za w 0), .int a1, .int a2, .int a3]) (zQ w (some (.int r)) M') 0 0 (zA w) := by
  refine z_metN (own := RX9) (lv := [(0, .ref (za w 0)), (1, .int a1), (2, .int a2), (3, .int a3)]) hw.1 (by decide) (Nat.le_of_ble_eq_true rfl) rfl rfl ?_
  intro p e s m args below meth c G hr hlk hH ls hl
  unfold fX9_read at h
  refine lv_iload_n G.x G.b dX9_read_0 rfl (lv_at hl 1 rfl) ?_
  obtain ⟨x1, ex1, h⟩ := z_bind h
  refine z_rdI (z_runS (As := [.int a1]) (rest := []) G hH hl.1 (kX9_isSheet l hw.1 ex1) arX9_isSheet u689 u690 u1 u691 rfl rfl rfl (Nat.le_of_ble_eq_true rfl) (Nat.le_of_ble_eq_true rfl) rfl (Nat.le_of_ble_eq_true rfl) dX9_read_1) ?_
  refine lv_if_ne (tgt := 13) G.x G.b dX9_read_4 (by decide) (fun c2 => ?_) (fun c2 => ?_)
  · have h := z_ifn c2 h
    refine lv_aload_n G.x G.b dX9_read_13 rfl (lv_at hl 0 rfl) ?_
    refine z_get (v := .ref (za w 34)) (k := 0) G hH.1 (cC0 hw) vc9 inU9 5 (by decide) u195 rfl dX9_read_14 ?_
    refine lv_iload_n G.x G.b dX9_read_17 rfl (lv_at hl 1 rfl) ?_
    obtain ⟨j3, ej3, h⟩ := z_bind h
    refine z_aald (k := 34) G hH.1 (cC34 hw) ej3 dX9_read_18 ?_
    obtain ⟨x4, ex4, h⟩ := z_bind h
    refine z_rdI (z_runV (k := (42 + 2 * j3)) (As := []) (rest := []) G hH hl.1 (kX5_isMissing l hw (zS_of ej3) ex4) (cCs hw (zS_of ej3)) vc5 arX5_isMissing u700 u701 u702 u10 u703 rfl rfl rfl (Nat.le_of_ble_eq_true rfl) (Nat.le_of_ble_eq_true rfl) rfl (Nat.le_of_ble_eq_true rfl) dX9_read_19) ?_
    refine lv_if_eq (tgt := 31) G.x G.b dX9_read_22 (by decide) (fun c5 => ?_) (fun c5 => ?_)
    · have h := z_if c5 h
      refine lv_aload_n G.x G.b dX9_read_31 rfl (lv_at hl 0 rfl) ?_
      refine lv_iload_n G.x G.b dX9_read_32 rfl (lv_at hl 2 rfl) ?_
      obtain ⟨x6, ex6, h⟩ := z_bind h
      refine z_rdI (z_runV (k := 0) (As := [.int a2]) (rest := []) G hH hl.1 (kX9_isWearer l hw ex6) (cC0 hw) vc9 arX9_isWearer u424 u426 us2 u1 u427 rfl rfl rfl (Nat.le_of_ble_eq_true rfl) (Nat.le_of_ble_eq_true rfl) rfl (Nat.le_of_ble_eq_true rfl) dX9_read_33) ?_
      refine lv_if_eq (tgt := 47) G.x G.b dX9_read_36 (by decide) (fun c7 => ?_) (fun c7 => ?_)
      · have h := z_if c7 h
        refine lv_aload_n G.x G.b dX9_read_47 rfl (lv_at hl 0 rfl) ?_
        refine lv_iconst (v := (0 : Int32)) G.x G.b dX9_read_48 (by decide) ?_
        obtain ⟨x8, M9, eM9, h⟩ := z_b2 h
        refine z_aftI (z_runV (k := 0) (As := [.int (0 : Int32)]) (rest := []) G hH hl.1 (kX9_finding l hw eM9) (cC0 hw) vc9 arX9_finding u222 u224 us0 u1 u225 rfl rfl rfl (Nat.le_of_ble_eq_true rfl) (Nat.le_of_ble_eq_true rfl) rfl (Nat.le_of_ble_eq_true rfl) dX9_read_49) hH (fun H locs hH => ?_)
        exact z_retI G hr hlk hH h dX9_read_52
      · have h := z_ifn c7 h
        refine lv_aload_n G.x G.b dX9_read_39 rfl (lv_at hl 0 rfl) ?_
        refine lv_iload_n G.x G.b dX9_read_40 rfl (lv_at hl 3 rfl) ?_
        obtain ⟨x10, ex10, h⟩ := z_bind h
        refine z_rdI (z_runV (k := 0) (As := [.int a3]) (rest := []) G hH hl.1 (kX9_isBeard l hw ex10) (cC0 hw) vc9 arX9_isBeard u231 u233 us1 u1 u234 rfl rfl rfl (Nat.le_of_ble_eq_true rfl) (Nat.le_of_ble_eq_true rfl) rfl (Nat.le_of_ble_eq_true rfl) dX9_read_41) ?_
        refine lv_if_ne (tgt := 53) G.x G.b dX9_read_44 (by decide) (fun c11 => ?_) (fun c11 => ?_)
        · have h := z_ifn c11 h
          refine lv_iconst (v := (0 : Int32)) G.x G.b dX9_read_53 (by decide) ?_
          refine lv_istore (lv' := [(4, .int (0 : Int32)), (0, .ref (za w 0)), (1, .int a1), (2, .int a2), (3, .int a3)]) G.x G.b dX9_read_54 hl (Nat.le_of_ble_eq_true rfl) rfl (fun ls hl => ?_)
          refine lv_iconst (v := (0 : Int32)) G.x G.b dX9_read_56 (by decide) ?_
          refine lv_istore (lv' := [(5, .int (0 : Int32)), (4, .int (0 : Int32)), (0, .ref (za w 0)), (1, .int a1), (2, .int a2), (3, .int a3)]) G.x G.b dX9_read_57 hl (Nat.le_of_ble_eq_true rfl) rfl (fun ls hl => ?_)
          obtain ⟨E138_14, hE138_14, h⟩ := z_j h
          have kE138_14 : ∀ (M12 : zM) (x13 : Int32) (H : Heap) (locs : List Loc) (ls : Array Slot), E138_14 M12 x13 = some (r, M') → zH w s M12 H locs → lv_has ls 7 [(4, .int x13)] → zGo p l e rX9_read s m args below meth c (zQ w (some (.int r)) M') (zA w) H locs (F0 m 138 ls []) := by
            intro M12 x13 H locs ls h hH hl
            rw [hE138_14] at h
            refine lv_iload G.x G.b dX9_read_138 (lv_at hl 0 rfl) ?_
            exact z_retI G hr hlk hH h dX9_read_140
          have n18 : ∀ (n : Nat) (M15 : zM) (x16 : Int32) (x17 : Int32) (H : Heap) (locs : List Loc) (ls : Array Slot), zL3 (bX9_read_59 a1 a2 a3 E138_14) n M15 x16 x17 = some (r, M') → zH w s M15 H locs → lv_has ls 7 [(0, .ref (za w 0)), (1, .int a1), (2, .int a2), (3, .int a3), (4, .int x16), (5, .int x17)] → zGo p l e rX9_read s m args below meth c (zQ w (some (.int r)) M') (zA w) H locs (F0 m 59 ls []) := by
            intro n
            induction n with
            | zero => intro M15 x16 x17 H locs ls h; exact (zL3_0 h).elim
            | succ n ih18 =>
              intro M15 x16 x17 H locs ls h hH hl
              obtain ⟨rc18, hrc18, h⟩ := zL3_s h
              rw [← hrc18] at ih18
              unfold bX9_read_59 at h
              refine lv_iload G.x G.b dX9_read_59 (lv_at hl 5 rfl) ?_
              refine lv_bipush (v := (6 : Int32)) G.x G.b dX9_read_61 (by decide) ?_
              refine lv_icmp_ge (tgt := 138) G.x G.b dX9_read_63 (by decide) (fun c19 => ?_) (fun c19 => ?_)
              · have h := z_if c19 h
                exact kE138_14 M15 x16 H locs ls h hH (lv_sub hl [4] rfl)
              · have h := z_ifn c19 h
                refine lv_iconst (v := (0 : Int32)) G.x G.b dX9_read_66 (by decide) ?_
                refine lv_istore (lv' := [(6, .int (0 : Int32)), (0, .ref (za w 0)), (1, .int a1), (2, .int a2), (3, .int a3), (4, .int x16), (5, .int x17)]) G.x G.b dX9_read_67 hl (Nat.le_of_ble_eq_true rfl) rfl (fun ls hl => ?_)
                obtain ⟨E132_22, hE132_22, h⟩ := z_j h
                have kE132_22 : ∀ (M20 : zM) (x21 : Int32) (H : Heap) (locs : List Loc) (ls : Array Slot), E132_22 M20 x21 = some (r, M') → zH w s M20 H locs → lv_has ls 7 [(0, .ref (za w 0)), (1, .int a1), (2, .int a2), (3, .int a3), (4, .int x21), (5, .int x17)] → zGo p l e rX9_read s m args below meth c (zQ w (some (.int r)) M') (zA w) H locs (F0 m 132 ls []) := by
                  intro M20 x21 H locs ls h hH hl
                  rw [hE132_22] at h
                  obtain ⟨x23, ex23, h⟩ := z_let h
                  refine lv_iinc (v := x23) (lv' := [(5, .int x23), (0, .ref (za w 0)), (1, .int a1), (2, .int a2), (3, .int a3), (4, .int x21)]) G.x G.b dX9_read_132 hl (k := 5) rfl (by rw [ex23]; rfl) (Nat.le_of_ble_eq_true rfl) rfl (fun ls hl => ?_)
                  refine lv_goto (tgt := 59) G.x G.b dX9_read_135 (by decide) ?_
                  exact ih18 M20 x21 x23 H locs ls h hH (lv_sub hl [1, 2, 3, 4, 5, 0] rfl)
                have n27 : ∀ (n : Nat) (M24 : zM) (x25 : Int32) (x26 : Int32) (H : Heap) (locs : List Loc) (ls : Array Slot), zL3 (bX9_read_69 a1 a2 a3 x17 E132_22) n M24 x25 x26 = some (r, M') → zH w s M24 H locs → lv_has ls 7 [(0, .ref (za w 0)), (1, .int a1), (2, .int a2), (3, .int a3), (4, .int x25), (5, .int x17), (6, .int x26)] → zGo p l e rX9_read s m args below meth c (zQ w (some (.int r)) M') (zA w) H locs (F0 m 69 ls []) := by
                  intro n
                  induction n with
                  | zero => intro M24 x25 x26 H locs ls h; exact (zL3_0 h).elim
                  | succ n ih27 =>
                    intro M24 x25 x26 H locs ls h hH hl
                    obtain ⟨rc27, hrc27, h⟩ := zL3_s h
                    rw [← hrc27] at ih27
                    unfold bX9_read_69 at h
                    refine lv_iload G.x G.b dX9_read_69 (lv_at hl 6 rfl) ?_
                    refine lv_bipush (v := (6 : Int32)) G.x G.b dX9_read_71 (by decide) ?_
                    refine lv_icmp_ge (tgt := 132) G.x G.b dX9_read_73 (by decide) (fun c28 => ?_) (fun c28 => ?_)
                    · have h := z_if c28 h
                      exact kE132_22 M24 x25 H locs ls h hH (lv_sub hl [0, 1, 2, 3, 4, 5] rfl)
                    · have h := z_ifn c28 h
                      refine lv_aload_n G.x G.b dX9_read_76 rfl (lv_at hl 0 rfl) ?_
                      refine z_get (v := .ref (za w 11)) (k := 0) G hH.1 (cC0 hw) vc9 inU9 1 (by decide) u191 rfl dX9_read_77 ?_
                      refine lv_aload_n G.x G.b dX9_read_80 rfl (lv_at hl 0 rfl) ?_
                      refine z_get (v := .ref (za w 1)) (k := 0) G hH.1 (cC0 hw) vc9 inU9 0 (by decide) u190 rfl dX9_read_81 ?_
                      obtain ⟨M29, eM29, h⟩ := z_bind h
                      refine z_aftV (z_runV (k := 11) (As := [.ref (za w 1)]) (rest := []) G hH hl.1 (kX7_become l hw zT11 zT1 eM29) (cCt hw zT11) vc7 arX7_become u484 u485 u486 u8 u487 rfl rfl rfl (Nat.le_of_ble_eq_true rfl) (Nat.le_of_ble_eq_true rfl) rfl (Nat.le_of_ble_eq_true rfl) dX9_read_84) hH (fun H locs hH => ?_)
                      refine lv_aload_n G.x G.b dX9_read_87 rfl (lv_at hl 0 rfl) ?_
                      refine z_get (v := .ref (za w 11)) (k := 0) G hH.1 (cC0 hw) vc9 inU9 1 (by decide) u191 rfl dX9_read_88 ?_
                      refine z_get (v := .ref (za w 12)) (k := 11) G hH.1 (cCt hw zT11) vc7 inU7 4 (by decide) u85 rfl dX9_read_91 ?_
                      refine lv_iload_n G.x G.b dX9_read_94 rfl (lv_at hl 3 rfl) ?_
                      refine lv_iload G.x G.b dX9_read_95 (lv_at hl 5 rfl) ?_
                      obtain ⟨j30, ej30, h⟩ := z_bind h
                      obtain ⟨M31, eM31, h⟩ := z_let h
                      refine z_iastN (k := 12) G hH (cCt1 hw zT11) ej30 dX9_read_97 eM31 (fun H locs hH => ?_)
                      refine lv_aload_n G.x G.b dX9_read_98 rfl (lv_at hl 0 rfl) ?_
                      refine z_get (v := .ref (za w 11)) (k := 0) G hH.1 (cC0 hw) vc9 inU9 1 (by decide) u191 rfl dX9_read_99 ?_
                      refine z_get (v := .ref (za w 17)) (k := 11) G hH.1 (cCt hw zT11) vc7 inU7 9 (by decide) u100 rfl dX9_read_102 ?_
                      refine lv_iload_n G.x G.b dX9_read_105 rfl (lv_at hl 2 rfl) ?_
                      refine lv_iload G.x G.b dX9_read_106 (lv_at hl 6 rfl) ?_
                      obtain ⟨j32, ej32, h⟩ := z_bind h
                      obtain ⟨M33, eM33, h⟩ := z_let h
                      refine z_iastN (k := 17) G hH (cCt6 hw zT11) ej32 dX9_read_108 eM33 (fun H locs hH => ?_)
                      refine lv_aload_n G.x G.b dX9_read_109 rfl (lv_at hl 0 rfl) ?_
                      refine lv_aload_n G.x G.b dX9_read_110 rfl (lv_at hl 0 rfl) ?_
                      refine z_get (v := .ref (za w 34)) (k := 0) G hH.1 (cC0 hw) vc9 inU9 5 (by decide) u195 rfl dX9_read_111 ?_
                      refine lv_iload_n G.x G.b dX9_read_114 rfl (lv_at hl 1 rfl) ?_
                      obtain ⟨j34, ej34, h⟩ := z_bind h
                      refine z_aald (k := 34) G hH.1 (cC34 hw) ej34 dX9_read_115 ?_
                      refine lv_iload_n G.x G.b dX9_read_116 rfl (lv_at hl 2 rfl) ?_
                      obtain ⟨x35, M36, eM36, h⟩ := z_b2 h
                      refine z_aftI (z_runV (k := 0) (As := [.ref (za w (42 + 2 * j34)), .int a2]) (rest := []) G hH hl.1 (kX9_trialFollows l hw (zS_of ej34) eM36) (cC0 hw) vc9 arX9_trialFollows u730 u732 us14 u1 u733 rfl rfl rfl (Nat.le_of_ble_eq_true rfl) (Nat.le_of_ble_eq_true rfl) rfl (Nat.le_of_ble_eq_true rfl) dX9_read_117) hH (fun H locs hH => ?_)
                      obtain ⟨J126_38, hJ126_38, h⟩ := z_j h
                      have kJ126_38 : ∀ (x37 : Int32) (ls : Array Slot), J126_38 x37 = some (r, M') → lv_has ls 7 [(0, .ref (za w 0)), (1, .int a1), (2, .int a2), (3, .int a3), (4, .int x37), (5, .int x17), (6, .int x26)] → zGo p l e rX9_read s m args below meth c (zQ w (some (.int r)) M') (zA w) H locs (F0 m 126 ls []) := by
                        intro x37 ls h hl
                        rw [hJ126_38] at h
                        obtain ⟨x39, ex39, h⟩ := z_let h
                        refine lv_iinc (v := x39) (lv' := [(6, .int x39), (0, .ref (za w 0)), (1, .int a1), (2, .int a2), (3, .int a3), (4, .int x37), (5, .int x17)]) G.x G.b dX9_read_126 hl (k := 6) rfl (by rw [ex39]; rfl) (Nat.le_of_ble_eq_true rfl) rfl (fun ls hl => ?_)
                        refine lv_goto (tgt := 69) G.x G.b dX9_read_129 (by decide) ?_
                        exact ih27 M36 x37 x39 H locs ls h hH (lv_sub hl [1, 2, 3, 4, 5, 6, 0] rfl)
                      refine lv_if_eq (tgt := 126) G.x G.b dX9_read_120 (by decide) (fun c40 => ?_) (fun c40 => ?_)
                      · have h := z_if c40 h
                        exact kJ126_38 x25 ls h (lv_sub hl [0, 1, 2, 3, 4, 5, 6] rfl)
                      · have h := z_ifn c40 h
                        obtain ⟨x41, ex41, h⟩ := z_let h
                        refine lv_iinc (v := x41) (lv' := [(4, .int x41), (0, .ref (za w 0)), (1, .int a1), (2, .int a2), (3, .int a3), (5, .int x17), (6, .int x26)]) G.x G.b dX9_read_123 hl (k := 4) rfl (by rw [ex41]; rfl) (Nat.le_of_ble_eq_true rfl) rfl (fun ls hl => ?_)
                        exact kJ126_38 x41 ls h (lv_sub hl [1, 2, 3, 4, 0, 5, 6] rfl)
                exact n27 zFuel M15 x16 (0 : Int32) H locs ls h hH (lv_sub hl [1, 2, 3, 4, 5, 6, 0] rfl)
          exact n18 zFuel M0 (0 : Int32) (0 : Int32) s.heap [] ls h hH (lv_sub hl [2, 3, 4, 5, 1, 0] rfl)
        · have h := z_if c11 h
          refine lv_aload_n G.x G.b dX9_read_47 rfl (lv_at hl 0 rfl) ?_
          refine lv_iconst (v := (0 : Int32)) G.x G.b dX9_read_48 (by decide) ?_
          obtain ⟨x42, M43, eM43, h⟩ := z_b2 h
          refine z_aftI (z_runV (k := 0) (As := [.int (0 : Int32)]) (rest := []) G hH hl.1 (kX9_finding l hw eM43) (cC0 hw) vc9 arX9_finding u222 u224 us0 u1 u225 rfl rfl rfl (Nat.le_of_ble_eq_true rfl) (Nat.le_of_ble_eq_true rfl) rfl (Nat.le_of_ble_eq_true rfl) dX9_read_49) hH (fun H locs hH => ?_)
          exact z_retI G hr hlk hH h dX9_read_52
    · have h := z_ifn c5 h
      refine lv_aload_n G.x G.b dX9_read_25 rfl (lv_at hl 0 rfl) ?_
      refine lv_iconst (v := (5 : Int32)) G.x G.b dX9_read_26 (by decide) ?_
      obtain ⟨x44, M45, eM45, h⟩ := z_b2 h
      refine z_aftI (z_runV (k := 0) (As := [.int (5 : Int32)]) (rest := []) G hH hl.1 (kX9_finding l hw eM45) (cC0 hw) vc9 arX9_finding u222 u224 us0 u1 u225 rfl rfl rfl (Nat.le_of_ble_eq_true rfl) (Nat.le_of_ble_eq_true rfl) rfl (Nat.le_of_ble_eq_true rfl) dX9_read_27) hH (fun H locs hH => ?_)
      exact z_retI G hr hlk hH h dX9_read_30
  · have h := z_if c2 h
    refine lv_aload_n G.x G.b dX9_read_7 rfl (lv_at hl 0 rfl) ?_
    refine lv_iconst (v := (0 : Int32)) G.x G.b dX9_read_8 (by decide) ?_
    obtain ⟨x46, M47, eM47, h⟩ := z_b2 h
    refine z_aftI (z_runV (k := 0) (As := [.int (0 : Int32)]) (rest := []) G hH hl.1 (kX9_finding l hw eM47) (cC0 hw) vc9 arX9_finding u222 u224 us0 u1 u225 rfl rfl rfl (Nat.le_of_ble_eq_true rfl) (Nat.le_of_ble_eq_true rfl) rfl (Nat.le_of_ble_eq_true rfl) dX9_read_9) hH (fun H locs hH => ?_)
    exact z_retI G hr hlk hH h dX9_read_12
def fX9_image (M0 : zM) : Option (Int32 × zM) :=
  (fX7_become M0 21 1).bind fun M1 =>
  (some (zst M1 0 3 (1 : Int32))).bind fun M2 =>
  some ((1 : Int32), M2)
abbrev rX9_image : Room := { frames := 2, cells := 0, slots := 0, locals := 61 }
theorem arX9_image : zAr yX9_image RX9 0 := ⟨rfl, by decide, by decide, by decide +kernel⟩
set_option maxHeartbeats 4000000 in
theorem kX9_image (l : Launch) {w : zWd} (hw : zIsC w) {M0 M' : zM} {r : Int32} (h : fX9_image M0 = some (r, M')) : Met l yX9_image (Cond.code yX9_image cX9_image 1 (some .int) :: zU) rX9_image (zPre w M0 [.ref (za w 0)]) (zQ w (some (.int r)) M') 0 0 (zA w) := by
  refine z_metN (own := RX9) (lv := [(0, .ref (za w 0))]) hw.1 (by decide) (Nat.le_of_ble_eq_true rfl) rfl rfl ?_
  intro p e s m args below meth c G hr hlk hH ls hl
  unfold fX9_image at h
  refine lv_aload_n G.x G.b dX9_image_0 rfl (lv_at hl 0 rfl) ?_
  refine z_get (v := .ref (za w 21)) (k := 0) G hH.1 (cC0 hw) vc9 inU9 2 (by decide) u192 rfl dX9_image_1 ?_
  refine lv_aload_n G.x G.b dX9_image_4 rfl (lv_at hl 0 rfl) ?_
  refine z_get (v := .ref (za w 1)) (k := 0) G hH.1 (cC0 hw) vc9 inU9 0 (by decide) u190 rfl dX9_image_5 ?_
  obtain ⟨M1, eM1, h⟩ := z_bind h
  refine z_aftV (z_runV (k := 21) (As := [.ref (za w 1)]) (rest := []) G hH hl.1 (kX7_become l hw zT21 zT1 eM1) (cCt hw zT21) vc7 arX7_become u484 u485 u486 u8 u487 rfl rfl rfl (Nat.le_of_ble_eq_true rfl) (Nat.le_of_ble_eq_true rfl) rfl (Nat.le_of_ble_eq_true rfl) dX9_image_8) hH (fun H locs hH => ?_)
  refine lv_aload_n G.x G.b dX9_image_11 rfl (lv_at hl 0 rfl) ?_
  refine lv_iconst (v := (1 : Int32)) G.x G.b dX9_image_12 (by decide) ?_
  obtain ⟨M2, eM2, h⟩ := z_let h
  refine z_putN (k := 0) G hH (cC0 hw) vc9 inU9 tyX9 tyX9_ok nmX9 3 (by decide) u193 rfl (ty := .boolean) rfl rfl rfl cP9_3 (Nat.le_of_ble_eq_true rfl) dX9_image_13 eM2 (fun H locs hH => ?_)
  refine lv_iconst (v := (1 : Int32)) G.x G.b dX9_image_16 (by decide) ?_
  exact z_retI G hr hlk hH h dX9_image_17
def fX9_undo (M0 : zM) : Option (Int32 × zM) :=
  if (M0.1 0 3) = (0 : Int32) then (zb2 (fX9_finding M0 (3 : Int32)) fun x3 M4 =>
  some (x3, M4)) else ((fX7_become M0 1 21).bind fun M2 =>
  some ((M2.1 1 2), M2))
abbrev rX9_undo : Room := { frames := 2, cells := 0, slots := 0, locals := 61 }
theorem arX9_undo : zAr yX9_undo RX9 0 := ⟨rfl, by decide, by decide, by decide +kernel⟩
set_option maxHeartbeats 4000000 in
theorem kX9_undo (l : Launch) {w : zWd} (hw : zIsC w) {M0 M' : zM} {r : Int32} (h : fX9_undo M0 = some (r, M')) : Met l yX9_undo (Cond.code yX9_undo cX9_undo 1 (some .int) :: zU) rX9_undo (zPre w M0 [.ref (za w 0)]) (zQ w (some (.int r)) M') 0 0 (zA w) := by
  refine z_metN (own := RX9) (lv := [(0, .ref (za w 0))]) hw.1 (by decide) (Nat.le_of_ble_eq_true rfl) rfl rfl ?_
  intro p e s m args below meth c G hr hlk hH ls hl
  unfold fX9_undo at h
  refine lv_aload_n G.x G.b dX9_undo_0 rfl (lv_at hl 0 rfl) ?_
  refine z_get (v := .int (M0.1 0 3)) (k := 0) G hH.1 (cC0 hw) vc9 inU9 3 (by decide) u193 rfl dX9_undo_1 ?_
  refine lv_if_ne (tgt := 13) G.x G.b dX9_undo_4 (by decide) (fun c1 => ?_) (fun c1 => ?_)
  · have h := z_ifn c1 h
    refine lv_aload_n G.x G.b dX9_undo_13 rfl (lv_at hl 0 rfl) ?_
    refine z_get (v := .ref (za w 1)) (k := 0) G hH.1 (cC0 hw) vc9 inU9 0 (by decide) u190 rfl dX9_undo_14 ?_
    refine lv_aload_n G.x G.b dX9_undo_17 rfl (lv_at hl 0 rfl) ?_
    refine z_get (v := .ref (za w 21)) (k := 0) G hH.1 (cC0 hw) vc9 inU9 2 (by decide) u192 rfl dX9_undo_18 ?_
    obtain ⟨M2, eM2, h⟩ := z_bind h
    refine z_aftV (z_runV (k := 1) (As := [.ref (za w 21)]) (rest := []) G hH hl.1 (kX7_become l hw zT1 zT21 eM2) (cCt hw zT1) vc7 arX7_become u484 u485 u486 u8 u487 rfl rfl rfl (Nat.le_of_ble_eq_true rfl) (Nat.le_of_ble_eq_true rfl) rfl (Nat.le_of_ble_eq_true rfl) dX9_undo_21) hH (fun H locs hH => ?_)
    refine lv_aload_n G.x G.b dX9_undo_24 rfl (lv_at hl 0 rfl) ?_
    refine z_get (v := .ref (za w 1)) (k := 0) G hH.1 (cC0 hw) vc9 inU9 0 (by decide) u190 rfl dX9_undo_25 ?_
    refine z_get (v := .int (M2.1 1 2)) (k := 1) G hH.1 (cCt hw zT1) vc7 inU7 2 (by decide) u80 rfl dX9_undo_28 ?_
    exact z_retI G hr hlk hH h dX9_undo_31
  · have h := z_if c1 h
    refine lv_aload_n G.x G.b dX9_undo_7 rfl (lv_at hl 0 rfl) ?_
    refine lv_iconst (v := (3 : Int32)) G.x G.b dX9_undo_8 (by decide) ?_
    obtain ⟨x3, M4, eM4, h⟩ := z_b2 h
    refine z_aftI (z_runV (k := 0) (As := [.int (3 : Int32)]) (rest := []) G hH hl.1 (kX9_finding l hw eM4) (cC0 hw) vc9 arX9_finding u222 u224 us0 u1 u225 rfl rfl rfl (Nat.le_of_ble_eq_true rfl) (Nat.le_of_ble_eq_true rfl) rfl (Nat.le_of_ble_eq_true rfl) dX9_undo_9) hH (fun H locs hH => ?_)
    exact z_retI G hr hlk hH h dX9_undo_12
def fX9_tear (M0 : zM) : Option (Int32 × zM) :=
  if (M0.1 0 3) = (0 : Int32) then ((some (zst M0 0 3 (0 : Int32))).bind fun M2 =>
  some ((0 : Int32), M2)) else ((some (zst M0 0 3 (0 : Int32))).bind fun M3 =>
  some ((1 : Int32), M3))
abbrev rX9_tear : Room := { frames := 0, cells := 0, slots := 0, locals := 0 }
theorem arX9_tear : zAr yX9_tear RX9 0 := ⟨rfl, by decide, by decide, by decide +kernel⟩
set_option maxHeartbeats 4000000 in
theorem kX9_tear (l : Launch) {w : zWd} (hw : zIsC w) {M0 M' : zM} {r : Int32} (h : fX9_tear M0 = some (r, M')) : Met l yX9_tear (Cond.code yX9_tear cX9_tear 2 (some .int) :: zU) rX9_tear (zPre w M0 [.ref (za w 0)]) (zQ w (some (.int r)) M') 0 0 (zA w) := by
  refine z_metN (own := RX9) (lv := [(0, .ref (za w 0))]) hw.1 (by decide) (Nat.le_of_ble_eq_true rfl) rfl rfl ?_
  intro p e s m args below meth c G hr hlk hH ls hl
  unfold fX9_tear at h
  refine lv_aload_n G.x G.b dX9_tear_0 rfl (lv_at hl 0 rfl) ?_
  refine z_get (v := .int (M0.1 0 3)) (k := 0) G hH.1 (cC0 hw) vc9 inU9 3 (by decide) u193 rfl dX9_tear_1 ?_
  refine lv_if_eq (tgt := 11) G.x G.b dX9_tear_4 (by decide) (fun c1 => ?_) (fun c1 => ?_)
  · have h := z_if c1 h
    refine lv_iconst (v := (0 : Int32)) G.x G.b dX9_tear_11 (by decide) ?_
    refine lv_istore_n (lv' := [(1, .int (0 : Int32)), (0, .ref (za w 0))]) G.x G.b dX9_tear_12 rfl hl (Nat.le_of_ble_eq_true rfl) rfl (fun ls hl => ?_)
    refine lv_aload_n G.x G.b dX9_tear_13 rfl (lv_at hl 1 rfl) ?_
    refine lv_iconst (v := (0 : Int32)) G.x G.b dX9_tear_14 (by decide) ?_
    obtain ⟨M2, eM2, h⟩ := z_let h
    refine z_putN (k := 0) G hH (cC0 hw) vc9 inU9 tyX9 tyX9_ok nmX9 3 (by decide) u193 rfl (ty := .boolean) rfl rfl rfl cP9_3 (Nat.le_of_ble_eq_true rfl) dX9_tear_15 eM2 (fun H locs hH => ?_)
    refine lv_iload_n G.x G.b dX9_tear_18 rfl (lv_at hl 0 rfl) ?_
    exact z_retI G hr hlk hH h dX9_tear_19
  · have h := z_ifn c1 h
    refine lv_iconst (v := (1 : Int32)) G.x G.b dX9_tear_7 (by decide) ?_
    refine lv_goto (tgt := 12) G.x G.b dX9_tear_8 (by decide) ?_
    refine lv_istore_n (lv' := [(1, .int (1 : Int32)), (0, .ref (za w 0))]) G.x G.b dX9_tear_12 rfl hl (Nat.le_of_ble_eq_true rfl) rfl (fun ls hl => ?_)
    refine lv_aload_n G.x G.b dX9_tear_13 rfl (lv_at hl 1 rfl) ?_
    refine lv_iconst (v := (0 : Int32)) G.x G.b dX9_tear_14 (by decide) ?_
    obtain ⟨M3, eM3, h⟩ := z_let h
    refine z_putN (k := 0) G hH (cC0 hw) vc9 inU9 tyX9 tyX9_ok nmX9 3 (by decide) u193 rfl (ty := .boolean) rfl rfl rfl cP9_3 (Nat.le_of_ble_eq_true rfl) dX9_tear_15 eM3 (fun H locs hH => ?_)
    refine lv_iload_n G.x G.b dX9_tear_18 rfl (lv_at hl 0 rfl) ?_
    exact z_retI G hr hlk hH h dX9_tear_19
def fX9_count (M0 : zM) (a1 : Int32) : Option (Int32 × zM) :=
  if a1 = (0 : Int32) then (some ((M0.1 1 2), M0)) else (if a1 = (1 : Int32) then (some ((M0.1 1 3), M0)) else (if a1 = (2 : Int32) then (some ((M0.1 31 2), M0)) else (if a1 = (3 : Int32) then ((fX7_allHoards M0 1).bind fun x5 =>
  some (x5, M0)) else (zb2 (fX9_finding M0 (0 : Int32)) fun x6 M7 =>
  some (x6, M7)))))
abbrev rX9_count : Room := { frames := 1, cells := 0, slots := 0, locals := 22 }
theorem arX9_count : zAr yX9_count RX9 1 := ⟨rfl, by decide, by decide, by decide +kernel⟩
set_option maxHeartbeats 4000000 in
theorem kX9_count (l : Launch) {w : zWd} (hw : zIsC w) {M0 M' : zM} {a1 : Int32} {r : Int32} (h : fX9_count M0 a1 = some (r, M')) : Met l yX9_count (Cond.code yX9_count cX9_count 2 (some .int) :: zU) rX9_count (zPre w M0 [.ref (za w 0), .int a1]) (zQ w (some (.int r)) M') 0 0 (zA w) := by
  refine z_metN (own := RX9) (lv := [(0, .ref (za w 0)), (1, .int a1)]) hw.1 (by decide) (Nat.le_of_ble_eq_true rfl) rfl rfl ?_
  intro p e s m args below meth c G hr hlk hH ls hl
  unfold fX9_count at h
  refine lv_iload_n G.x G.b dX9_count_0 rfl (lv_at hl 1 rfl) ?_
  by_cases c1 : a1 = (0 : Int32)
  · have h := z_if c1 h
    refine z_tab (tgt := 32) G.x G.b dX9_count_1 c1 (by decide) (by decide) rfl (by decide) ?_
    refine lv_aload_n G.x G.b dX9_count_32 rfl (lv_at hl 0 rfl) ?_
    refine z_get (v := .ref (za w 1)) (k := 0) G hH.1 (cC0 hw) vc9 inU9 0 (by decide) u190 rfl dX9_count_33 ?_
    refine z_get (v := .int (M0.1 1 2)) (k := 1) G hH.1 (cCt hw zT1) vc7 inU7 2 (by decide) u80 rfl dX9_count_36 ?_
    exact z_retI G hr hlk hH h dX9_count_39
  have h := z_ifn c1 h
  by_cases c2 : a1 = (1 : Int32)
  · have h := z_if c2 h
    refine z_tab (tgt := 40) G.x G.b dX9_count_1 c2 (by decide) (by decide) rfl (by decide) ?_
    refine lv_aload_n G.x G.b dX9_count_40 rfl (lv_at hl 0 rfl) ?_
    refine z_get (v := .ref (za w 1)) (k := 0) G hH.1 (cC0 hw) vc9 inU9 0 (by decide) u190 rfl dX9_count_41 ?_
    refine z_get (v := .int (M0.1 1 3)) (k := 1) G hH.1 (cCt hw zT1) vc7 inU7 3 (by decide) u83 rfl dX9_count_44 ?_
    exact z_retI G hr hlk hH h dX9_count_47
  have h := z_ifn c2 h
  by_cases c3 : a1 = (2 : Int32)
  · have h := z_if c3 h
    refine z_tab (tgt := 48) G.x G.b dX9_count_1 c3 (by decide) (by decide) rfl (by decide) ?_
    refine lv_aload_n G.x G.b dX9_count_48 rfl (lv_at hl 0 rfl) ?_
    refine z_get (v := .ref (za w 31)) (k := 0) G hH.1 (cC0 hw) vc9 inU9 4 (by decide) u194 rfl dX9_count_49 ?_
    refine z_get (v := .int (M0.1 31 2)) (k := 31) G hH.1 (cC31 hw) vc6 inU6 2 (by decide) u146 rfl dX9_count_52 ?_
    exact z_retI G hr hlk hH h dX9_count_55
  have h := z_ifn c3 h
  by_cases c4 : a1 = (3 : Int32)
  · have h := z_if c4 h
    refine z_tab (tgt := 56) G.x G.b dX9_count_1 c4 (by decide) (by decide) rfl (by decide) ?_
    refine lv_aload_n G.x G.b dX9_count_56 rfl (lv_at hl 0 rfl) ?_
    refine z_get (v := .ref (za w 1)) (k := 0) G hH.1 (cC0 hw) vc9 inU9 0 (by decide) u190 rfl dX9_count_57 ?_
    obtain ⟨x5, ex5, h⟩ := z_bind h
    refine z_rdI (z_runV (k := 1) (As := []) (rest := []) G hH hl.1 (kX7_allHoards l hw zT1 ex5) (cCt hw zT1) vc7 arX7_allHoards u750 u751 u752 u8 u753 rfl rfl rfl (Nat.le_of_ble_eq_true rfl) (Nat.le_of_ble_eq_true rfl) rfl (Nat.le_of_ble_eq_true rfl) dX9_count_60) ?_
    exact z_retI G hr hlk hH h dX9_count_63
  have h := z_ifn c4 h
  refine lv_tableOut (tgt := 64) G.x G.b dX9_count_1 (by have gc1 := lv_neT (a := 0) c1 (by decide); have gc2 := lv_neT (a := 1) c2 (by decide); have gc3 := lv_neT (a := 2) c3 (by decide); have gc4 := lv_neT (a := 3) c4 (by decide); omega) (by decide) ?_
  refine lv_aload_n G.x G.b dX9_count_64 rfl (lv_at hl 0 rfl) ?_
  refine lv_iconst (v := (0 : Int32)) G.x G.b dX9_count_65 (by decide) ?_
  obtain ⟨x6, M7, eM7, h⟩ := z_b2 h
  refine z_aftI (z_runV (k := 0) (As := [.int (0 : Int32)]) (rest := []) G hH hl.1 (kX9_finding l hw eM7) (cC0 hw) vc9 arX9_finding u222 u224 us0 u1 u225 rfl rfl rfl (Nat.le_of_ble_eq_true rfl) (Nat.le_of_ble_eq_true rfl) rfl (Nat.le_of_ble_eq_true rfl) dX9_count_66) hH (fun H locs hH => ?_)
  exact z_retI G hr hlk hH h dX9_count_69
def bX9_status_9 (M0 : zM) (E30_10 : Int32 → Option (Int32 × zM)) (rc13 : Int32 → Int32 → Option (Int32 × zM)) (x11 : Int32) (x12 : Int32) : Option (Int32 × zM) :=
  if (7 : Int32) ≤ x12 then (E30_10 x11) else ((zix x12 7).bind fun j15 =>
  (some (x11 + (M0.1 33 j15))).bind fun x16 =>
  (some (x12 + (1 : Int32))).bind fun x17 =>
  rc13 x16 x17)
def lX9_status_9 (M0 : zM) (E30_10 : Int32 → Option (Int32 × zM)) : Nat → Int32 → Int32 → Option (Int32 × zM) := zL2 (bX9_status_9 M0 E30_10)
def fX9_status (M0 : zM) (a1 : Int32) : Option (Int32 × zM) :=
  if a1 = (-1 : Int32) then (zj (fun (x9 : Int32) =>
  some (x9, M0)) fun E30_10 =>
  lX9_status_9 M0 E30_10 zFuel (0 : Int32) (0 : Int32)) else (if a1 < (0 : Int32) then (zb2 (fX9_finding M0 (0 : Int32)) fun x3 M4 =>
  some (x3, M4)) else (if (7 : Int32) ≤ a1 then (zb2 (fX9_finding M0 (0 : Int32)) fun x6 M7 =>
  some (x6, M7)) else ((zix a1 7).bind fun j8 =>
  some ((M0.1 33 j8), M0))))
abbrev rX9_status : Room := { frames := 1, cells := 0, slots := 0, locals := 21 }
theorem arX9_status : zAr yX9_status RX9 1 := ⟨rfl, by decide, by decide, by decide +kernel⟩
set_option maxHeartbeats 4000000 in
theorem kX9_status (l : Launch) {w : zWd} (hw : zIsC w) {M0 M' : zM} {a1 : Int32} {r : Int32} (h : fX9_status M0 a1 = some (r, M')) : Met l yX9_status (Cond.code yX9_status cX9_status 4 (some .int) :: zU) rX9_status (zPre w M0 [.ref (za w 0), .int a1]) (zQ w (some (.int r)) M') 0 0 (zA w) := by
  refine z_metN (own := RX9) (lv := [(0, .ref (za w 0)), (1, .int a1)]) hw.1 (by decide) (Nat.le_of_ble_eq_true rfl) rfl rfl ?_
  intro p e s m args below meth c G hr hlk hH ls hl
  unfold fX9_status at h
  refine lv_iload_n G.x G.b dX9_status_0 rfl (lv_at hl 1 rfl) ?_
  refine lv_iconst (v := (-1 : Int32)) G.x G.b dX9_status_1 (by decide) ?_
  refine lv_icmp_ne (tgt := 32) G.x G.b dX9_status_2 (by decide) (fun c1 => ?_) (fun c1 => ?_)
  · have h := z_ifn c1 h
    refine lv_iload_n G.x G.b dX9_status_32 rfl (lv_at hl 1 rfl) ?_
    refine lv_if_lt (tgt := 51) G.x G.b dX9_status_33 (by decide) (fun c2 => ?_) (fun c2 => ?_)
    · have h := z_if c2 h
      refine lv_aload_n G.x G.b dX9_status_51 rfl (lv_at hl 0 rfl) ?_
      refine lv_iconst (v := (0 : Int32)) G.x G.b dX9_status_52 (by decide) ?_
      obtain ⟨x3, M4, eM4, h⟩ := z_b2 h
      refine z_aftI (z_runV (k := 0) (As := [.int (0 : Int32)]) (rest := []) G hH hl.1 (kX9_finding l hw eM4) (cC0 hw) vc9 arX9_finding u222 u224 us0 u1 u225 rfl rfl rfl (Nat.le_of_ble_eq_true rfl) (Nat.le_of_ble_eq_true rfl) rfl (Nat.le_of_ble_eq_true rfl) dX9_status_53) hH (fun H locs hH => ?_)
      exact z_retI G hr hlk hH h dX9_status_56
    · have h := z_ifn c2 h
      refine lv_iload_n G.x G.b dX9_status_36 rfl (lv_at hl 1 rfl) ?_
      refine lv_bipush (v := (7 : Int32)) G.x G.b dX9_status_37 (by decide) ?_
      refine lv_icmp_ge (tgt := 51) G.x G.b dX9_status_39 (by decide) (fun c5 => ?_) (fun c5 => ?_)
      · have h := z_if c5 h
        refine lv_aload_n G.x G.b dX9_status_51 rfl (lv_at hl 0 rfl) ?_
        refine lv_iconst (v := (0 : Int32)) G.x G.b dX9_status_52 (by decide) ?_
        obtain ⟨x6, M7, eM7, h⟩ := z_b2 h
        refine z_aftI (z_runV (k := 0) (As := [.int (0 : Int32)]) (rest := []) G hH hl.1 (kX9_finding l hw eM7) (cC0 hw) vc9 arX9_finding u222 u224 us0 u1 u225 rfl rfl rfl (Nat.le_of_ble_eq_true rfl) (Nat.le_of_ble_eq_true rfl) rfl (Nat.le_of_ble_eq_true rfl) dX9_status_53) hH (fun H locs hH => ?_)
        exact z_retI G hr hlk hH h dX9_status_56
      · have h := z_ifn c5 h
        refine lv_aload_n G.x G.b dX9_status_42 rfl (lv_at hl 0 rfl) ?_
        refine z_get (v := .ref (za w 33)) (k := 0) G hH.1 (cC0 hw) vc9 inU9 6 (by decide) u196 rfl dX9_status_43 ?_
        refine lv_iload_n G.x G.b dX9_status_46 rfl (lv_at hl 1 rfl) ?_
        obtain ⟨j8, ej8, h⟩ := z_bind h
        refine z_iald (k := 33) G hH.1 (cC33 hw) ej8 dX9_status_47 ?_
        refine lv_goto (tgt := 56) G.x G.b dX9_status_48 (by decide) ?_
        exact z_retI G hr hlk hH h dX9_status_56
  · have h := z_if c1 h
    refine lv_iconst (v := (0 : Int32)) G.x G.b dX9_status_5 (by decide) ?_
    refine lv_istore_n (lv' := [(2, .int (0 : Int32)), (0, .ref (za w 0)), (1, .int a1)]) G.x G.b dX9_status_6 rfl hl (Nat.le_of_ble_eq_true rfl) rfl (fun ls hl => ?_)
    refine lv_iconst (v := (0 : Int32)) G.x G.b dX9_status_7 (by decide) ?_
    refine lv_istore_n (lv' := [(3, .int (0 : Int32)), (2, .int (0 : Int32)), (0, .ref (za w 0)), (1, .int a1)]) G.x G.b dX9_status_8 rfl hl (Nat.le_of_ble_eq_true rfl) rfl (fun ls hl => ?_)
    obtain ⟨E30_10, hE30_10, h⟩ := z_j h
    have kE30_10 : ∀ (x9 : Int32) (ls : Array Slot), E30_10 x9 = some (r, M') → lv_has ls 4 [(2, .int x9)] → zGo p l e rX9_status s m args below meth c (zQ w (some (.int r)) M') (zA w) s.heap [] (F0 m 30 ls []) := by
      intro x9 ls h hl
      rw [hE30_10] at h
      refine lv_iload_n G.x G.b dX9_status_30 rfl (lv_at hl 0 rfl) ?_
      exact z_retI G hr hlk hH h dX9_status_31
    have n13 : ∀ (n : Nat) (x11 : Int32) (x12 : Int32) (ls : Array Slot), zL2 (bX9_status_9 M0 E30_10) n x11 x12 = some (r, M') → lv_has ls 4 [(0, .ref (za w 0)), (2, .int x11), (3, .int x12)] → zGo p l e rX9_status s m args below meth c (zQ w (some (.int r)) M') (zA w) s.heap [] (F0 m 9 ls []) := by
      intro n
      induction n with
      | zero => intro x11 x12 ls h; exact (zL2_0 h).elim
      | succ n ih13 =>
        intro x11 x12 ls h hl
        obtain ⟨rc13, hrc13, h⟩ := zL2_s h
        rw [← hrc13] at ih13
        unfold bX9_status_9 at h
        refine lv_iload_n G.x G.b dX9_status_9 rfl (lv_at hl 2 rfl) ?_
        refine lv_bipush (v := (7 : Int32)) G.x G.b dX9_status_10 (by decide) ?_
        refine lv_icmp_ge (tgt := 30) G.x G.b dX9_status_12 (by decide) (fun c14 => ?_) (fun c14 => ?_)
        · have h := z_if c14 h
          exact kE30_10 x11 ls h (lv_sub hl [1] rfl)
        · have h := z_ifn c14 h
          refine lv_iload_n G.x G.b dX9_status_15 rfl (lv_at hl 1 rfl) ?_
          refine lv_aload_n G.x G.b dX9_status_16 rfl (lv_at hl 0 rfl) ?_
          refine z_get (v := .ref (za w 33)) (k := 0) G hH.1 (cC0 hw) vc9 inU9 6 (by decide) u196 rfl dX9_status_17 ?_
          refine lv_iload_n G.x G.b dX9_status_20 rfl (lv_at hl 2 rfl) ?_
          obtain ⟨j15, ej15, h⟩ := z_bind h
          refine z_iald (k := 33) G hH.1 (cC33 hw) ej15 dX9_status_21 ?_
          refine lv_iadd G.x G.b dX9_status_22 ?_
          obtain ⟨x16, ex16, h⟩ := z_let h
          refine z_nmI ex16 ?_
          refine lv_istore_n (lv' := [(2, .int x16), (0, .ref (za w 0)), (3, .int x12)]) G.x G.b dX9_status_23 rfl hl (Nat.le_of_ble_eq_true rfl) rfl (fun ls hl => ?_)
          obtain ⟨x17, ex17, h⟩ := z_let h
          refine lv_iinc (v := x17) (lv' := [(3, .int x17), (2, .int x16), (0, .ref (za w 0))]) G.x G.b dX9_status_24 hl (k := 2) rfl (by rw [ex17]; rfl) (Nat.le_of_ble_eq_true rfl) rfl (fun ls hl => ?_)
          refine lv_goto (tgt := 9) G.x G.b dX9_status_27 (by decide) ?_
          exact ih13 x16 x17 ls h (lv_sub hl [2, 1, 0] rfl)
    exact n13 zFuel (0 : Int32) (0 : Int32) ls h (lv_sub hl [2, 1, 0] rfl)
